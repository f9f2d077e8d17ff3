/-! CENTURIES BY LOT -/
section LOTS
theorem nI_div {a b : Nat} (ha : a < 2 ^ 31) (hb : b < 2 ^ 31) : nI a / nI b = nI (a / b) := by
  apply Int32.toInt_inj.mp
  have hd : a / b ≤ a := Nat.div_le_self a b
  rw [Int32.toInt_div, nI_toInt ha, nI_toInt hb, nI_toInt (by omega)]
  rw [Int.tdiv_eq_ediv_of_nonneg (by omega)]
  rw [← Int.natCast_ediv]
  have hq : a / b < 2 ^ 31 := by omega
  generalize a / b = q at *
  unfold Int.bmod
  dsimp only
  split <;> omega
theorem nI_rem {a b : Nat} (ha : a < 2 ^ 31) (hb : b < 2 ^ 31) : nI a - nI a / nI b * nI b = nI (a % b) := by
  have h1 : a / b * b ≤ a := Nat.div_mul_le_self a b
  rw [nI_div ha hb, nI_mul, nI_sb h1]
  have := Nat.div_add_mod a b
  rw [Nat.mul_comm] at this
  congr 1
  omega
theorem and_pos (y : Int32) : (0 : Int32) ≤ y &&& 2147483647 := by
  rw [Int32.le_iff_toInt_le]
  show (0 : Int) ≤ (y.toBitVec &&& 2147483647#32).toInt
  rw [BitVec.toInt_eq_msb_cond, BitVec.msb_and]
  rw [show (2147483647#32).msb = false from by decide, Bool.and_false, if_neg (by decide)]
  omega
def dz (z : Int32) : Int32 := z * 1103515245 + 12345
def zD (z : Int32) : Nat → Int32
  | 0 => z
  | i + 1 => dz (zD z i)
def rD (k : Nat) (y : Int32) : Int32 := ((y &&& 2147483647) / 65536) - ((y &&& 2147483647) / 65536) / nI (k + 1) * nI (k + 1)
def wD (k : Nat) (y : Int32) : Int32 := if rD k y = nI k then -9 else rD k y
theorem rD_v {k : Nat} (hk : k ≤ 5) (y : Int32) : ∃ x, x ≤ k ∧ rD k y = nI x := by
  obtain ⟨j, hj, e⟩ := nI_of (Int32.not_lt.mpr (and_pos y))
  refine ⟨(j / 65536) % (k + 1), by have := Nat.mod_lt (j / 65536) (show k + 1 > 0 by omega); omega, ?_⟩
  unfold rD
  rw [e, show (65536 : Int32) = nI 65536 from rfl, nI_div hj (by omega), nI_rem (by omega) (by omega)]
theorem wD_v {k : Nat} (hk : k ≤ 5) (y : Int32) : wD k y = -9 ∨ ∃ x, x < k ∧ wD k y = nI x := by
  unfold wD
  by_cases q : rD k y = nI k
  · rw [if_pos q]; exact Or.inl rfl
  · rw [if_neg q]
    obtain ⟨x, hx, e⟩ := rD_v hk y
    refine Or.inr ⟨x, ?_, e⟩
    rcases Nat.lt_or_ge x k with z | z
    · exact z
    · exact absurd (by rw [e, show x = k by omega]) q
def gD (g : zHl) (k : Nat) (z : Int32) (i : Nat) : zHl := fun r j => if r = 2 ∧ j < i then wD k (zD z (j + 1)) else g r j
theorem gD_0 {g : zHl} {k : Nat} {z : Int32} : gD g k z 0 = g := by
  funext r j
  exact if_neg (fun q => absurd q.2 (by omega))
theorem gD_s {g : zHl} {k : Nat} {z : Int32} {i : Nat} : gD g k z (i + 1) = gW (gD g k z i) i (wD k (zD z (i + 1))) := by
  funext r j
  by_cases e : r = 2
  · subst e
    rw [gW_v]
    unfold gD
    by_cases q : j = i
    · rw [if_pos ⟨rfl, by omega⟩, if_pos q, q]
    · rw [if_neg q]
      by_cases c : j < i
      · rw [if_pos ⟨rfl, by omega⟩, if_pos ⟨rfl, c⟩]
      · rw [if_neg (fun z => by omega), if_neg (fun z => c z.2)]
  · rw [gW_o e]
    unfold gD
    rw [if_neg (fun q => e q.1), if_neg (fun q => e q.1)]
theorem gD_n {g : zHl} {k n : Nat} {z z' : Int32} : gD (gD g k z n) k z' n = gD g k z' n := by
  funext r j
  unfold gD
  by_cases c : r = 2 ∧ j < n
  · rw [if_pos c, if_pos c]
  · rw [if_neg c, if_neg c, if_neg c]
theorem gD_o {g : zHl} {k : Nat} {z : Int32} {i r : Nat} (h : r ≠ 2) : gD g k z i r = g r := by
  funext j
  exact if_neg (fun q => h q.1)
theorem gD_v {g : zHl} {k : Nat} {z : Int32} {i j : Nat} : gD g k z i 2 j = if j < i then wD k (zD z (j + 1)) else g 2 j := by
  unfold gD
  by_cases c : j < i
  · rw [if_pos ⟨rfl, c⟩, if_pos c]
  · rw [if_neg (fun q => c q.2), if_neg c]
theorem zVal_D {g : zHl} {n k i : Nat} {z : Int32} (V : zVal g n k) : zVal (gD g k z i) n k := by
  obtain ⟨v1, v2, v3, v4⟩ := V
  refine ⟨v1, v2, fun s hs => ?_, fun r h => ?_⟩
  · obtain ⟨q1, q2, q3⟩ := v3 s hs
    rw [gD_o (r := 0) (by omega), gD_o (r := 1) (by omega), gD_v]
    refine ⟨?_, q2, q3⟩
    by_cases c : s < i
    · rw [if_pos c]; exact wD_v v2 _
    · rw [if_neg c]; exact q1
  · rw [gD_o (by omega), gD_o (by omega)]
    exact v4 r h
theorem eZ {z : Int32} {i : Nat} : zD z i * 1103515245 + 12345 = zD z (i + 1) := rfl
theorem eR {k : Nat} {y : Int32} : ((y &&& 2147483647) / 65536) - ((y &&& 2147483647) / 65536) / nI (k + 1) * nI (k + 1) = rD k y := rfl
theorem c_113 {d : Nat} {x : zH} {g : zHl} {n k : Nat} (H : zHil x 7 g n k) (V : zVal g n k) (h5 : x 1 5 = nI n) (h6 : x 1 6 = nI k) {z : Int32} : ∃ y, zcal (d + 2) 113 [.ref 0, .int z] x = some (some (.int (zD z n)), y) ∧ zHil y 7 (gD g k z n) n k ∧ ∀ a, a ≠ 10 → y a = x a := by
  have hn := V.1
  have hk := V.2.1
  have lp : ∀ t i y w, i + t = n → zHil y 7 (gD g k z i) n k → (∀ a, a ≠ 10 → y a = x a) → ∃ y', zE (d + 1) 113 (15, [some (.ref 0), some (.int z), some (.int (zD z i)), some (.int (nI (k + 1))), some (.int (nI i)), w], [], y) = some (some (.int (zD z n)), y') ∧ zHil y' 7 (gD g k z n) n k ∧ ∀ a, a ≠ 10 → y' a = x a := by
    intro t
    induction t with
    | zero =>
      intro i y w hi y1 y2
      have hi : i = n := hi
      subst hi
      exact ⟨y, by rw [E113_0_at15, y2 1 (by omega), h5, if_pos (nI_le (by omega) (by omega))], y1, y2⟩
    | succ t ih =>
      intro i y w hi y1 y2
      rw [E113_0_at15, y2 1 (by omega), h5, h6, if_neg (nI_ge (by omega) (by omega)), if_pos (show nI (k + 1) ≥ (1 : Int32) from nI_le (a := 1) (by omega) (by omega)), if_neg (show ¬ nI (k + 1) = (0 : Int32) from fun q => by have := (nI_eq (b := 0) (by omega) (by omega)).mp q; omega), eZ, eR]
      have wd : ∀ v, wD k (zD z (i + 1)) = v → zHil (z_up y 10 i v) 7 (gD g k z (i + 1)) n k := fun v hv => by
        rw [gD_s, hv]
        exact zHil_W y1
      by_cases q : rD k (zD z (i + 1)) = nI k
      · rw [if_pos q, c_put (n := 10) rfl (by omega), zCv_some, pt_nI (by omega) (by omega), nI_1]
        exact ih (i + 1) _ _ (by omega) (wd _ (if_pos q)) (fun a ha => (z_up_ne ha).trans (y2 a ha))
      · rw [if_neg q, c_put (n := 10) rfl (by omega), zCv_some, pt_nI (by omega) (by omega), nI_1]
        exact ih (i + 1) _ _ (by omega) (wd _ (if_neg q)) (fun a ha => (z_up_ne ha).trans (y2 a ha))
  rw [E113_0, h6, nI_1]
  exact lp n 0 x none (by omega) (by rw [gD_0]; exact H) (fun _ _ => rfl)
theorem r_dr {d : Nat} {x : zH} {g : zHl} {n k : Nat} (H : zHr x g n k) (V : zVal g n k) {z : Int32} (hz : x 32 42 = z) {a1 a2 a3 a4 x5 x6 x7 : Int32} {x9 : Option Value} : ∃ y x9', zE (d + 1) 225 (75, [some (.ref 32), some (.int a1), some (.int a2), some (.int a3), some (.int a4), some (.int x5), some (.int x6), some (.int x7), some (.int 0), x9], [], x) = zE (d + 1) 225 (75, [some (.ref 32), some (.int a1), some (.int a2), some (.int a3), some (.int a4), some (.int x5), some (.int x6), some (.int x7), some (.int (nI n)), x9'], [], y) ∧ zHr y (gD g k z n) n k ∧ y 32 42 = zD z n ∧ (∀ a, a ≠ 32 → a ≠ 36 → y a = x a) ∧ (∀ j, j ≠ 42 → y 32 j = x 32 j) ∧ ∀ j, 10 ≤ j → y 36 j = x 36 j := by
  have hn := V.1
  have hk := V.2.1
  have lp : ∀ t i y w, i + t = n → zHr y (gD g k z i) n k → y 32 42 = zD z i → (∀ a, a ≠ 32 → a ≠ 36 → y a = x a) → (∀ j, j ≠ 42 → y 32 j = x 32 j) → (∀ j, 10 ≤ j → y 36 j = x 36 j) → ∃ y' x9', zE (d + 1) 225 (75, [some (.ref 32), some (.int a1), some (.int a2), some (.int a3), some (.int a4), some (.int x5), some (.int x6), some (.int x7), some (.int (nI i)), w], [], y) = zE (d + 1) 225 (75, [some (.ref 32), some (.int a1), some (.int a2), some (.int a3), some (.int a4), some (.int x5), some (.int x6), some (.int x7), some (.int (nI n)), x9'], [], y') ∧ zHr y' (gD g k z n) n k ∧ y' 32 42 = zD z n ∧ (∀ a, a ≠ 32 → a ≠ 36 → y' a = x a) ∧ (∀ j, j ≠ 42 → y' 32 j = x 32 j) ∧ ∀ j, 10 ≤ j → y' 36 j = x 36 j := by
    intro t
    induction t with
    | zero =>
      intro i y w hi y1 y2 y3 y4 y5
      have hi : i = n := hi
      subst hi
      exact ⟨y, w, rfl, y1, y2, y3, y4, y5⟩
    | succ t ih =>
      intro i y w hi y1 y2 y3 y4 y5
      have s7 : z_up y 32 42 (zD z (i + 1)) 32 7 = nI k := by rw [zu_ni _ _ (by omega)]; exact y1.2.1
      rw [E225_32_at75, y1.1, if_neg (nI_ge (by omega) (by omega)), y1.2.1, nI_1, E226_32, if_neg (show ¬ nI (k + 1) = (0 : Int32) from fun q => by have := (nI_eq (b := 0) (by omega) (by omega)).mp q; omega), y2, eZ, eR, zCi_some, s7]
      have H2 : zHr (z_up y 32 42 (zD z (i + 1))) (gD g k z i) n k := zHr_mv y1 (zu_ni _ _ (by omega)) (zu_ni _ _ (by omega)) (fun a p q => z_up_ne (by omega))
      have wd : ∀ v, wD k (zD z (i + 1)) = v → zHr (z_up (z_up y 32 42 (zD z (i + 1))) 36 i v) (gD g k z (i + 1)) n k := fun v hv => by
        rw [gD_s, hv]
        exact zHr_W H2
      by_cases q : rD k (zD z (i + 1)) = nI k
      · rw [if_pos q, zG_nI (by omega) (by omega), nI_tn (by omega), nI_1]
        exact ih (i + 1) _ _ (by omega) (wd _ (if_pos q)) (by rw [z_up_ne (by omega), zu_eq]) (fun a p1 p2 => by rw [z_up_ne p2, z_up_ne p1, y3 a p1 p2]) (fun j hj => by rw [z_up_ne (by omega), zu_ni _ _ hj, y4 j hj]) (fun j hj => by rw [zu_ni _ _ (by omega), z_up_ne (by omega), y5 j hj])
      · rw [if_neg q, zG_nI (by omega) (by omega), nI_tn (by omega), nI_1]
        exact ih (i + 1) _ _ (by omega) (wd _ (if_neg q)) (by rw [z_up_ne (by omega), zu_eq]) (fun a p1 p2 => by rw [z_up_ne p2, z_up_ne p1, y3 a p1 p2]) (fun j hj => by rw [z_up_ne (by omega), zu_ni _ _ hj, y4 j hj]) (fun j hj => by rw [zu_ni _ _ (by omega), z_up_ne (by omega), y5 j hj])
  exact lp n 0 x x9 (by omega) (by rw [gD_0]; exact H) hz (fun _ _ _ => rfl) (fun _ _ => rfl) (fun _ _ => rfl)
theorem c_endG {d : Nat} {x : zH} {g : zHl} {n k : Nat} (V : zVal g n k) (H : zHil x 7 g n k) {st : Int32} (hs : x 7 7 = st) : ∃ y, zcal (d + 5) 61 [.ref 19, .ref 7] x = some (some (.int (nI (eN g n k st).1)), y) ∧ y 7 11 = (eN g n k st).2.2.2 ∧ zHil y 7 g n k ∧ y 7 7 = st ∧ zFr zMT x y := by
  obtain ⟨y, ey, Iy, Fy⟩ := c_end (d := d) H V
  unfold eN
  rw [hs] at ey Iy
  exact ⟨y, ey, Iy.2.2.2.2.2.1, Iy.1, Iy.2.1, Fy⟩
theorem r_eB {d : Nat} {x : zH} {g : zHl} {n k : Nat} (V : zVal g n k) (H : zHr x g n k) (Z : rAt0 x) {st : Int32} (hs : x 32 8 = st) (hst : zIn st 0 99) : ∃ v y, zcal (d + 4) 176 [.ref 32] x = some (some (.int v), y) ∧ (∀ e, zcal (e + 1) 178 [.int (y 32 35)] y = some (some (.int (nI (eN g n k st).1)), y)) ∧ y 32 31 = (eN g n k st).2.2.2 ∧ zHr y g n k ∧ rfF x y := by
  obtain ⟨y, ey, J, G⟩ := r_now (d := d) H V (by rw [hs]; exact hst) Z
  rw [hs] at ey J
  have bf := bits_far (b := rF) (u := rF) (w := rF) V (q_go (st := st)) rfl
  have j35 : y 32 35 = rGt g n rF rF rF (rQ0 n k st 0) 10 := J.2.2.2.2.2.2.2.2.2.2.2.2.1
  unfold eN
  refine ⟨_, y, ey, fun e2 => ?_, J.2.2.2.2.2.2.2.2.1, J.1, G⟩
  rw [r_bits, j35, bf]
theorem eN_0 {g : zHl} {n : Nat} {st : Int32} : (eN g n 0 st).1 = 0 ∧ (eN g n 0 st).2.2.2 = 1 := by
  have := rJ_stay (g := g) (n := n) (b := rF) (u := rF) (w := rF) (q0 := rQ0 n 0 st 0) (i := 0) (show (1 : Int32) ≠ 0 by decide) 10 (by omega)
  unfold eN
  rw [this]
  exact ⟨rfl, rfl⟩
def lF (E : Int32 → Nat) (W : Int32 → Int32) (n : Nat) : Nat → Int32 → Int32 → Int32 → Int32 × Int32
  | 0, _, a, b => (a, b)
  | m + 1, z, a, b => lF E W n m (zD z n) (a + nI (E z)) (b + if W z = 3 then 1 else 0)
theorem lF_0 {E : Int32 → Nat} {W : Int32 → Int32} {n : Nat} (hE : ∀ z, E z = 0) (hW : ∀ z, W z = 1) : ∀ m z a b, lF E W n m z a b = (a, b) := by
  intro m
  induction m with
  | zero => intro z a b; rfl
  | succ m ih =>
    intro z a b
    rw [lF, ih, hE, hW, if_neg (by decide), Int32.add_zero, show a + nI 0 = a from Int32.add_zero a]
end LOTS

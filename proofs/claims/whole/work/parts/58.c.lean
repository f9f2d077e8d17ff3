/-! TWO -/
section TWO
def oT (g : zHl) (n k s : Nat) (st : Int32) (p : Nat) : Nat := (eT g n k s (decide (p / 2 = 1)) (decide (p % 2 = 1)) st).1
theorem eT_le {g : zHl} {n k i : Nat} {b u : Bool} {st : Int32} (V : zVal g n k) : (eT g n k i b u st).1 ≤ n := rJ_le V q_go rfl 10
theorem p4_2 : ∀ p : Nat, p < 4 → (nI p / 2 = nI (p / 2)) ∧ (nI p - nI p / 2 * 2 = nI (p % 2)) := by decide
theorem p4_x : ∀ p : Nat, p < 4 → (nI p ^^^ 2 = nI (p ^^^ 2)) ∧ (nI p ^^^ 1 = nI (p ^^^ 1)) ∧ p ^^^ 2 < 4 ∧ p ^^^ 1 < 4 := by decide
theorem p4_c : ∀ p : Nat, p < 4 → 2 * nI (p / 2) + nI (p % 2) = nI p ∧ 2 * (1 - nI (p / 2)) + nI (p % 2) = nI (p ^^^ 2) ∧ (2 * nI (p / 2) + 1) - nI (p % 2) = nI (p ^^^ 1) := by decide
theorem sb1 {v : Int32} : ∀ e : Nat, e < 2 → (v - 1) + nI e = v - (1 - nI e) := by
  intro e he
  rcases (show e = 0 ∨ e = 1 by omega) with rfl | rfl
  · show (v - 1) + 0 = v - (1 - 0)
    rw [Int32.add_zero, Int32.sub_zero]
  · show (v - 1) + 1 = v - (1 - 1)
    rw [Int32.sub_add_cancel, Int32.sub_self, Int32.sub_zero]
theorem c_twS {d : Nat} {x : zH} {g : zHl} {n k s : Nat} {st : Int32} (H : zHil x 7 g n k) (V : zVal g n k) (hs : s < 10) (h7 : x 7 7 = st) {p : Nat} (hp : p < 4) {rr : Int32} {x4 x5 : Option Value} : ∃ (y : zH) (x4' x5' : Option Value), zE (d + 4) 103 (60, [some (.ref 0), some (.int (nI s)), some (.int rr), some (.int (nI p)), x4, x5], [], x) = zE (d + 4) 103 (60, [some (.ref 0), some (.int (nI s)), some (.int rr), some (.int (nI (p + 1))), x4', x5'], [], z_up y 31 p (nI (oT g n k s st p))) ∧ zHil y 7 g n k ∧ y 7 7 = st ∧ zFr zMT x y := by
  subst h7
  unfold oT
  obtain ⟨m2, m1⟩ := p4_2 p hp
  have q2 : (nI p / 2 = 1) ↔ p / 2 = 1 := by rw [m2]; exact nI_eq (b := 1) (by omega) (by omega)
  have q1 : (nI p - nI p / 2 * 2 = 1) ↔ p % 2 = 1 := by rw [m1]; exact nI_eq (b := 1) (by omega) (by omega)
  rw [E103_0_at60, if_neg (show ¬ nI p ≥ (4 : Int32) from nI_ge (b := 4) hp (by omega))]
  by_cases hb : p / 2 = 1
  · rw [if_pos (q2.mpr hb), decide_eq_true hb, E103_0_at77]
    by_cases hu : p % 2 = 1
    · rw [if_pos (q1.mpr hu), decide_eq_true hu]
      obtain ⟨y, ey, e8, e1, e2, F⟩ := c_two (d := d) (b := true) (u := true) H V hs
      have ey : zcal (d + 4) 62 [.ref 19, .ref 7, .int 0, .int (nI s), .int (nI s), .int 0] x = some (none, y) := ey
      rw [ey, zCv_some, c_put (n := 4) rfl (by omega), zCv_some, pt_nI (by omega) (by omega), e8, nI_1]
      exact ⟨y, _, _, rfl, e1, e2, F⟩
    · rw [if_neg (fun q => hu (q1.mp q)), decide_eq_false hu]
      obtain ⟨y, ey, e8, e1, e2, F⟩ := c_two (d := d) (b := true) (u := false) H V hs
      have ey : zcal (d + 4) 62 [.ref 19, .ref 7, .int 0, .int (nI s), .int (-1), .int 0] x = some (none, y) := ey
      rw [ey, zCv_some, c_put (n := 4) rfl (by omega), zCv_some, pt_nI (by omega) (by omega), e8, nI_1]
      exact ⟨y, _, _, rfl, e1, e2, F⟩
  · rw [if_neg (fun q => hb (q2.mp q)), decide_eq_false hb, E103_0_at77]
    by_cases hu : p % 2 = 1
    · rw [if_pos (q1.mpr hu), decide_eq_true hu]
      obtain ⟨y, ey, e8, e1, e2, F⟩ := c_two (d := d) (b := false) (u := true) H V hs
      have ey : zcal (d + 4) 62 [.ref 19, .ref 7, .int 0, .int (-1), .int (nI s), .int 0] x = some (none, y) := ey
      rw [ey, zCv_some, c_put (n := 4) rfl (by omega), zCv_some, pt_nI (by omega) (by omega), e8, nI_1]
      exact ⟨y, _, _, rfl, e1, e2, F⟩
    · rw [if_neg (fun q => hu (q1.mp q)), decide_eq_false hu]
      obtain ⟨y, ey, e8, e1, e2, F⟩ := c_two (d := d) (b := false) (u := false) H V hs
      have ey : zcal (d + 4) 62 [.ref 19, .ref 7, .int 0, .int (-1), .int (-1), .int 0] x = some (none, y) := ey
      rw [ey, zCv_some, c_put (n := 4) rfl (by omega), zCv_some, pt_nI (by omega) (by omega), e8, nI_1]
      exact ⟨y, _, _, rfl, e1, e2, F⟩
/-- the reference's, one pair -/
theorem r_twS {d : Nat} {x : zH} {g : zHl} {n k s : Nat} {st : Int32} (H : zHr x g n k) (V : zVal g n k) (hs : s < 10) (h8 : x 32 8 = st) (hst : zIn st 0 99) (hw : x 32 38 = 0) {p : Nat} (hp : p < 4) {rr x3 : Int32} : ∃ (y : zH), zE (d + 4) 204 (17, [some (.ref 32), some (.int (nI s)), some (.int rr), some (.int x3), some (.int (nI p))], [], x) = zE (d + 4) 204 (17, [some (.ref 32), some (.int (nI s)), some (.int rr), some (.int x3), some (.int (nI (p + 1)))], [], z_up y 47 p (nI (oT g n k s st p))) ∧ (∀ a, a ≠ 32 → a ≠ 44 → a ≠ 45 → y a = x a) ∧ ∀ j, (j < 28 ∨ 37 < j) → y 32 j = x 32 j := by
  subst h8
  unfold oT
  obtain ⟨m2, m1⟩ := p4_2 p hp
  have q2 : (nI p / 2 = 1) ↔ p / 2 = 1 := by rw [m2]; exact nI_eq (b := 1) (by omega) (by omega)
  have q1 : (nI p - nI p / 2 * 2 = 1) ↔ p % 2 = 1 := by rw [m1]; exact nI_eq (b := 1) (by omega) (by omega)
  have key : ∀ (b u : Bool) (y0 y1 : Int32), y0 = (if b = true then nI s else -9) → y1 = (if u = true then nI s else -9) → ∃ v h', zcal (d + 4) 176 [.ref 32] (z_up (z_up x 32 36 y0) 32 37 y1) = some (some (.int v), h') ∧ zcal (d + 4) 178 [.int (h' 32 35)] h' = some (some (.int (nI (eT g n k s b u (x 32 8)).1)), h') ∧ (∀ a, a ≠ 32 → a ≠ 44 → a ≠ 45 → h' a = x a) ∧ ∀ j, (j < 28 ∨ 37 < j) → h' 32 j = x 32 j := by
    intro b u y0 y1 e0 e1
    generalize hz : z_up (z_up x 32 36 y0) 32 37 y1 = z
    have z8 : z 32 8 = x 32 8 := by rw [← hz, zu_ni _ _ (by omega), zu_ni _ _ (by omega)]
    have zn : ∀ a, a ≠ 32 → z a = x a := fun a ha => by rw [← hz, z_up_ne ha, z_up_ne ha]
    have zj : ∀ j, j ≠ 36 → j ≠ 37 → z 32 j = x 32 j := fun j h1 h2 => by rw [← hz, zu_ni _ _ h2, zu_ni _ _ h1]
    obtain ⟨v, h', ea, eb, G⟩ := r_two (d := d) (b := b) (u := u) (zHr_mv H (h' := z) (zj 6 (by omega) (by omega)) (zj 7 (by omega) (by omega)) (fun a p q => zn a (by omega))) V (by rw [z8]; exact hst) hs (by rw [← hz, zu_ni _ _ (by omega), zu_eq]; exact e0) (by rw [← hz, zu_eq]; exact e1) (by rw [zj 38 (by omega) (by omega)]; exact hw)
    rw [z8] at eb
    exact ⟨v, h', ea, eb (d + 3), fun a q1 q2 q3 => by rw [G.1 a q1 q2 q3, zn a q1], fun j hj => by rw [G.2 j (by omega), zj j (by omega) (by omega)]⟩
  rw [E204_32_at17, if_neg (show ¬ nI p ≥ (4 : Int32) from nI_ge (b := 4) hp (by omega))]
  by_cases hb : p / 2 = 1
  · rw [if_pos (q2.mpr hb), decide_eq_true hb, E204_32_at38]
    by_cases hu : p % 2 = 1
    · rw [if_pos (q1.mpr hu), decide_eq_true hu]
      obtain ⟨v, y, ea, eb, y1, y2⟩ := key true true _ _ rfl rfl
      have ea : zcal (d + 4) 176 [.ref 32] (z_up (z_up x 32 36 (nI s)) 32 37 (nI s)) = some (some (.int v), y) := ea
      rw [ea, zCi_some, eb, zCi_some, zG_nI hp (by omega), nI_tn (by omega), nI_1]
      exact ⟨y, rfl, y1, y2⟩
    · rw [if_neg (fun q => hu (q1.mp q)), decide_eq_false hu]
      obtain ⟨v, y, ea, eb, y1, y2⟩ := key true false _ _ rfl rfl
      have ea : zcal (d + 4) 176 [.ref 32] (z_up (z_up x 32 36 (nI s)) 32 37 (-9)) = some (some (.int v), y) := ea
      rw [ea, zCi_some, eb, zCi_some, zG_nI hp (by omega), nI_tn (by omega), nI_1]
      exact ⟨y, rfl, y1, y2⟩
  · rw [if_neg (fun q => hb (q2.mp q)), decide_eq_false hb, E204_32_at38]
    by_cases hu : p % 2 = 1
    · rw [if_pos (q1.mpr hu), decide_eq_true hu]
      obtain ⟨v, y, ea, eb, y1, y2⟩ := key false true _ _ rfl rfl
      have ea : zcal (d + 4) 176 [.ref 32] (z_up (z_up x 32 36 (-9)) 32 37 (nI s)) = some (some (.int v), y) := ea
      rw [ea, zCi_some, eb, zCi_some, zG_nI hp (by omega), nI_tn (by omega), nI_1]
      exact ⟨y, rfl, y1, y2⟩
    · rw [if_neg (fun q => hu (q1.mp q)), decide_eq_false hu]
      obtain ⟨v, y, ea, eb, y1, y2⟩ := key false false _ _ rfl rfl
      have ea : zcal (d + 4) 176 [.ref 32] (z_up (z_up x 32 36 (-9)) 32 37 (-9)) = some (some (.int v), y) := ea
      rw [ea, zCi_some, eb, zCi_some, zG_nI hp (by omega), nI_tn (by omega), nI_1]
      exact ⟨y, rfl, y1, y2⟩
/-- neither has more by another choice alone -/
def tA (o : Nat → Nat) (p : Nat) : Prop := nI (o (p ^^^ 2)) - (1 - nI (p / 2)) > nI (o p) - nI (p / 2)
def tB (o : Nat → Nat) (p : Nat) : Prop := nI (o (p ^^^ 1)) - (1 - nI (p % 2)) > nI (o p) - nI (p % 2)
noncomputable def tP (o : Nat → Nat) (p : Nat) : Bool := @decide (¬ tA o p ∧ ¬ tB o p) (Classical.propDecidable _)
theorem tP_t {o : Nat → Nat} {p : Nat} : tP o p = true ↔ ¬ tA o p ∧ ¬ tB o p := @decide_eq_true_iff _ (Classical.propDecidable _)
def tV (p : Nat) : Int32 := nI (10 * (p / 2) + p % 2)
theorem c_104 {d : Nat} {x : zH} {o : Nat → Nat} (hx : ∀ q, q < 4 → x 31 q = nI (o q)) {p : Nat} (hp : p < 4) : zcal (d + 2) 104 [.ref 0, .int (nI (p / 2)), .int (nI (p % 2))] x = some (some (.int (if tP o p = true then 1 else 0)), x) := by
  obtain ⟨c1, c2, c3⟩ := p4_c p hp
  obtain ⟨_, _, x2, x1⟩ := p4_x p hp
  rw [E104_0, c1, c2, c3, c_get (n := 4) rfl (by omega), zCi_some, c_get (n := 4) rfl (by omega), zCi_some, c_get (n := 4) rfl (by omega), zCi_some, gt_nI hp (by omega), gt_nI x2 (by omega), gt_nI x1 (by omega), hx p hp, hx _ x2, hx _ x1]
  by_cases a : tA o p
  · rw [if_pos (show _ > _ from a), if_neg (fun q => (tP_t.mp q).1 a)]
  · rw [if_neg (show ¬ _ > _ from a)]
    by_cases b : tB o p
    · rw [if_pos (show _ > _ from b), if_neg (fun q => (tP_t.mp q).2 b)]
    · rw [if_neg (show ¬ _ > _ from b), if_pos (tP_t.mpr ⟨a, b⟩)]
theorem c_twL {d : Nat} {x : zH} {o : Nat → Nat} (hx : ∀ q, q < 4 → x 31 q = nI (o q)) {a b : Int32} {x4 x5 : Option Value} : ∀ m p, p + m = 4 → zE (d + 2) 103 (133, [some (.ref 0), some (.int a), some (.int b), some (.int (nI p)), x4, x5], [], x) = some (some (.int (zsr (tP o) tV (-9) m p)), x) := by
  intro m
  induction m with
  | zero =>
    intro p hp
    have hp : p = 4 := hp
    subst hp
    rw [E103_0_at133, if_pos (show nI 4 ≥ (4 : Int32) by decide)]
    rfl
  | succ m ih =>
    intro p hp
    obtain ⟨m2, m1⟩ := p4_2 p (by omega)
    rw [E103_0_at133, if_neg (show ¬ nI p ≥ (4 : Int32) from nI_ge (b := 4) (by omega) (by omega)), m1, m2, c_104 hx (by omega), zCi_some, zsr]
    by_cases q : tP o p = true
    · rw [if_pos q, if_pos q, if_neg (by decide)]
      unfold tV
      rw [show (10 : Int32) * nI (p / 2) = nI (10 * (p / 2)) from nI_mul 10 (p / 2), nI_add]
    · rw [if_neg q, if_neg q, if_pos rfl, nI_1]
      exact ih (p + 1) (by omega)
theorem r_twL {d : Nat} {x : zH} {o : Nat → Nat} (hx : ∀ q, q < 4 → x 47 q = nI (o q)) {a b : Int32} : ∀ m p (x4 x5 : Option Value), p + m = 4 → zE d 203 (47, [some (.ref 32), some (.int a), some (.int b), some (.int (nI p)), x4, x5], [], x) = some (some (.int (zsr (tP o) tV (-9) m p)), x) := by
  intro m
  induction m with
  | zero =>
    intro p x4 x5 hp
    have hp : p = 4 := hp
    subst hp
    rw [E203_32_at47, if_pos (show nI 4 ≥ (4 : Int32) by decide)]
    rfl
  | succ m ih =>
    intro p x4 x5 hp
    have hp4 : p < 4 := by omega
    obtain ⟨m2, m1⟩ := p4_2 p hp4
    obtain ⟨y2, y1, x2, x1⟩ := p4_x p hp4
    rw [E203_32_at47, if_neg (show ¬ nI p ≥ (4 : Int32) from nI_ge (b := 4) (by omega) (by omega)), m1, m2, y2, y1, zG_nI x2 (by omega), zG_nI hp4 (by omega), zG_nI x1 (by omega), zG_nI hp4 (by omega), nI_tn (by omega), nI_tn (by omega), nI_tn (by omega), hx p hp4, hx _ x2, hx _ x1, sb1 (p / 2) (by omega), sb1 (p % 2) (by omega), zsr]
    by_cases a : tA o p
    · rw [if_pos (show _ > _ from a), if_neg (fun q => (tP_t.mp q).1 a), nI_1]
      exact ih (p + 1) _ _ (by omega)
    · rw [if_neg (show ¬ _ > _ from a)]
      by_cases b : tB o p
      · rw [if_pos (show _ > _ from b), if_neg (fun q => (tP_t.mp q).2 b), nI_1]
        exact ih (p + 1) _ _ (by omega)
      · rw [if_neg (show ¬ _ > _ from b), if_pos (tP_t.mpr ⟨a, b⟩)]
        unfold tV
        rw [show (10 : Int32) * nI (p / 2) = nI (10 * (p / 2)) from nI_mul 10 (p / 2), nI_add]
end TWO

/-! WINDS -/
theorem lb_t {a : Nat} (h : a < 2 ^ 62) : (lq a).toInt = a := by
  show (BitVec.ofNat 64 a).toInt = a
  rw [BitVec.toInt_eq_toNat_of_lt]
  · rw [BitVec.toNat_ofNat, Nat.mod_eq_of_lt (by omega)]
  · rw [BitVec.toNat_ofNat, Nat.mod_eq_of_lt (by omega)]; omega
theorem lb_0 {a : Nat} (h : a < 2 ^ 62) : lq a = 0 ↔ a = 0 := by
  constructor
  · intro e
    have := congrArg Int64.toInt e
    rw [lb_t h] at this
    have z : (0 : Int64).toInt = 0 := by decide
    omega
  · intro e; subst e; rfl
theorem lb_div {a b : Nat} (ha : a < 2 ^ 62) (hb : b < 2 ^ 62) : lq a / lq b = lq (a / b) := by
  apply Int64.toInt_inj.mp
  have hd : a / b ≤ a := Nat.div_le_self a b
  rw [Int64.toInt_div, lb_t ha, lb_t hb, lb_t (by omega)]
  rw [Int.tdiv_eq_ediv_of_nonneg (by omega)]
  rw [← Int.natCast_ediv]
  have hq : a / b < 2 ^ 62 := by omega
  generalize a / b = q at *
  unfold Int.bmod
  dsimp only
  split <;> omega
theorem lb_rem {a b : Nat} (ha : a < 2 ^ 62) (hb : b < 2 ^ 62) : lq a - lq a / lq b * lq b = lq (a % b) := by
  rw [lb_div ha hb, lq_mul]
  have : lq a = lq (a % b) + lq (a / b * b) := by
    rw [lq_add]
    congr 1
    have := Nat.div_add_mod a b
    rw [Nat.mul_comm] at this
    omega
  rw [this, Int64.add_sub_cancel]
theorem r_gcdB {d : Nat} {h : zH} {x0 x2 : Int64} : ∀ b a : Nat, a < 2 ^ 62 → b < 2 ^ 62 → ∀ x8 : Option Value, zE d 208 (6, [some (.long x0), none, some (.long x2), none, some (.long (lq a)), none, some (.long (lq b)), none, x8, none], [], h) = some (some (.long (lq (Nat.gcd a b))), h) := by
  intro b
  induction b using Nat.strongRecOn with
  | _ b ih =>
    intro a ha hb x8
    rw [E208_at6]
    by_cases b0 : b = 0
    · subst b0
      rw [if_pos (show lg_cmp (lq 0) 0 = 0 from lg_0.mpr rfl), Nat.gcd_zero_right]
    · have nb : ¬ lq b = 0 := fun q => b0 ((lb_0 hb).mp q)
      have lt : a % b < b := Nat.mod_lt _ (by omega)
      rw [if_neg (fun q => nb (lg_0.mp q)), if_neg nb, lb_rem ha hb, gcd_st]
      exact ih (a % b) lt b hb (by omega) _
theorem c_gcdE {d : Nat} {h : zH} {x0 x2 : Int64} {x4 : Int32} {a i : Nat} (hi : i < 200) {x10 : Option Value} : zE d 78 (25, [some (.long x0), none, some (.long x2), none, some (.int x4), some (.long (lq a)), none, some (.long (lq 0)), none, some (.int (nI i)), x10, none], [], h) = (if lq (Nat.gcd a 0) = 0 then some (some (.long x4.toInt64), h) else if x4 = 0 then some (some (.long (x0 / lq (Nat.gcd a 0))), h) else some (some (.long (x2 / lq (Nat.gcd a 0))), h)) := by
  rw [E78_at25, if_neg (show ¬ nI i ≥ (200 : Int32) from nI_ge (b := 200) (by omega) (by omega)), if_pos (show lg_cmp (lq 0) 0 = 0 from lg_0.mpr rfl), Nat.gcd_zero_right]
  by_cases a0 : lq a = 0
  · rw [if_pos (lg_0.mpr a0), if_pos a0]
  · rw [if_neg (fun q => a0 (lg_0.mp q)), if_neg a0, if_neg a0, if_neg a0]
theorem c_gcdS {d : Nat} {h : zH} {x0 x2 : Int64} {x4 : Int32} {a b i : Nat} (ha : a < 2 ^ 62) (hb : b < 2 ^ 62) (b0 : b ≠ 0) (hi : i < 200) {x10 : Option Value} : ∃ x10', zE d 78 (25, [some (.long x0), none, some (.long x2), none, some (.int x4), some (.long (lq a)), none, some (.long (lq b)), none, some (.int (nI i)), x10, none], [], h) = zE d 78 (25, [some (.long x0), none, some (.long x2), none, some (.int x4), some (.long (lq b)), none, some (.long (lq (a % b))), none, some (.int (nI (i + 1))), x10', none], [], h) := by
  have nb : ¬ lq b = 0 := fun q => b0 ((lb_0 hb).mp q)
  refine ⟨some (.long (lq (a % b))), ?_⟩
  rw [E78_at25, if_neg (show ¬ nI i ≥ (200 : Int32) from nI_ge (b := 200) (by omega) (by omega)), if_neg (fun q => nb (lg_0.mp q)), if_neg nb, lb_rem ha hb, nI_1]
theorem c_gcdB {d : Nat} {h : zH} {x0 x2 : Int64} {x4 : Int32} : ∀ m b a i : Nat, a < 2 ^ 62 → b < a → b * a < 2 ^ m → i + m < 199 → ∀ x10 : Option Value, zE d 78 (25, [some (.long x0), none, some (.long x2), none, some (.int x4), some (.long (lq a)), none, some (.long (lq b)), none, some (.int (nI i)), x10, none], [], h) = (if lq (Nat.gcd a b) = 0 then some (some (.long x4.toInt64), h) else if x4 = 0 then some (some (.long (x0 / lq (Nat.gcd a b))), h) else some (some (.long (x2 / lq (Nat.gcd a b))), h)) := by
  intro m
  induction m with
  | zero =>
    intro b a i ha hb hm hi x10
    have b0 : b = 0 := by
      rcases Nat.eq_zero_or_pos b with q | q
      · exact q
      · have h1 : 1 * 1 ≤ b * a := Nat.mul_le_mul q (by omega)
        have h2 : (2 : Nat) ^ 0 = 1 := rfl
        omega
    subst b0
    exact c_gcdE (by omega)
  | succ m ih =>
    intro b a i ha hb hm hi x10
    by_cases b0 : b = 0
    · subst b0
      exact c_gcdE (by omega)
    · have lt : a % b < b := Nat.mod_lt _ (by omega)
      obtain ⟨x10', e⟩ := c_gcdS (d := d) (h := h) (x0 := x0) (x2 := x2) (x4 := x4) (i := i) (x10 := x10) ha (by omega) b0 (by omega)
      rw [e, gcd_st]
      refine ih (a % b) b (i + 1) (by omega) lt ?_ (by omega) _
      have h1 := Nat.div_add_mod a b
      have h2 : 1 ≤ a / b := Nat.div_pos (by omega) (by omega)
      have h3 : b * 1 ≤ b * (a / b) := Nat.mul_le_mul_left b h2
      have h4 : 2 * (a % b) ≤ a := by omega
      have h5 : b * (2 * (a % b)) ≤ b * a := Nat.mul_le_mul_left b h4
      have h6 : b * (2 * (a % b)) = 2 * (a % b * b) := by rw [Nat.mul_left_comm, Nat.mul_comm b]
      rw [Nat.pow_succ] at hm
      omega
theorem mul43 {a b : Nat} (ha : a < 2 ^ 43) (hb : b < 2 ^ 43) : a * b < 2 ^ 86 := by
  have h1 : a * b ≤ (2 ^ 43 - 1) * (2 ^ 43 - 1) := Nat.mul_le_mul (by omega) (by omega)
  have h2 : ((2 : Nat) ^ 43 - 1) * (2 ^ 43 - 1) < 2 ^ 86 := by decide +kernel
  omega
theorem c_gcdA {d : Nat} {h : zH} {x0 x2 : Int64} {x4 : Int32} {a b : Nat} (ha : a < 2 ^ 43) (hb : b < 2 ^ 43) (b0 : b ≠ 0) {x10 : Option Value} : zE d 78 (25, [some (.long x0), none, some (.long x2), none, some (.int x4), some (.long (lq a)), none, some (.long (lq b)), none, some (.int (nI 0)), x10, none], [], h) = (if lq (Nat.gcd a b) = 0 then some (some (.long x4.toInt64), h) else if x4 = 0 then some (some (.long (x0 / lq (Nat.gcd a b))), h) else some (some (.long (x2 / lq (Nat.gcd a b))), h)) := by
  by_cases q : b < a
  · exact c_gcdB 86 b a 0 (by omega) q (mul43 hb ha) (by omega) x10
  · have lt : a % b < b := Nat.mod_lt _ (by omega)
    obtain ⟨x10', e⟩ := c_gcdS (d := d) (h := h) (x0 := x0) (x2 := x2) (x4 := x4) (i := 0) (x10 := x10) (a := a) (b := b) (by omega) (by omega) b0 (by omega)
    rw [e, gcd_st]
    exact c_gcdB 86 (a % b) b 1 (by omega) lt (mul43 (by omega) hb) (by omega) x10'
theorem c_lowB {d : Nat} {h : zH} {s c : Nat} {x : Int32} (hs : s < 2 ^ 43) (hc : c < 2 ^ 43) : zcal (d + 1) 78 [.long (lq s), .long (lq c), .int x] h = some (some (.long (if s = 0 ∨ c = 0 then x.toInt64 else if x = 0 then lq (s / Nat.gcd s c) else lq (c / Nat.gcd s c))), h) := by
  rw [E78]
  by_cases s0 : s = 0
  · rw [if_pos (lg_0.mpr ((lb_0 (by omega)).mpr s0)), if_pos (Or.inl s0)]
  · rw [if_neg (fun q => s0 ((lb_0 (by omega)).mp (lg_0.mp q)))]
    by_cases c0 : c = 0
    · rw [if_pos (lg_0.mpr ((lb_0 (by omega)).mpr c0)), if_pos (Or.inr c0)]
    · have g0 : 0 < Nat.gcd s c := Nat.gcd_pos_of_pos_left _ (by omega)
      have g1 : Nat.gcd s c ≤ c := Nat.gcd_le_right _ (by omega)
      have := c_gcdA (d := d) (h := h) (x0 := lq s) (x2 := lq c) (x4 := x) (x10 := none) hs hc c0
      rw [show nI 0 = (0 : Int32) from rfl] at this
      have gn : ¬ lq (Nat.gcd s c) = 0 := fun q => by have := (lb_0 (a := Nat.gcd s c) (by omega)).mp q; omega
      have nn : ¬ (s = 0 ∨ c = 0) := by omega
      have cn : ¬ lg_cmp (lq c) 0 = 0 := fun q => c0 ((lb_0 (by omega)).mp (lg_0.mp q))
      rw [if_neg cn, this, if_neg gn, if_neg nn]
      by_cases x0 : x = 0
      · rw [if_pos x0, if_pos x0, lb_div (by omega) (by omega)]
      · rw [if_neg x0, if_neg x0, lb_div (by omega) (by omega)]
theorem r_lowB {d : Nat} {h : zH} {s c : Nat} {x : Int32} (hx : x = 0 ∨ x = 1) (hs : s < 2 ^ 43) (hc : c < 2 ^ 43) (c0 : c ≠ 0) : zcal (d + 2) 207 [.long (lq s), .long (lq c), .int x] h = some (some (.long (if s = 0 ∨ c = 0 then x.toInt64 else if x = 0 then lq (s / Nat.gcd s c) else lq (c / Nat.gcd s c))), h) := by
  have e208 : zcal (d + 1) 208 [.long (lq s), .long (lq c)] h = some (some (.long (lq (Nat.gcd s c))), h) := by
    rw [E208]
    exact r_gcdB c s (by omega) (by omega) none
  have g0 : 0 < Nat.gcd s c := Nat.gcd_pos_of_pos_right _ (by omega)
  have g1 : Nat.gcd s c ≤ c := Nat.gcd_le_right _ (by omega)
  have gn : ¬ lq (Nat.gcd s c) = 0 := fun q => by have := (lb_0 (a := Nat.gcd s c) (by omega)).mp q; omega
  rw [E207]
  by_cases s0 : s = 0
  · rw [if_pos (Or.inl s0)]
    subst s0
    rw [Nat.gcd_zero_left] at e208 gn
    rcases hx with rfl | rfl
    · rw [if_pos rfl, e208, zCl_some, if_neg gn, lb_div (by omega) (by omega), Nat.zero_div]
      rfl
    · rw [if_neg (by decide), e208, zCl_some, if_neg gn, lb_div (by omega) (by omega), Nat.div_self (by omega)]
      rfl
  · have nn : ¬ (s = 0 ∨ c = 0) := by omega
    rw [if_neg nn]
    by_cases x0 : x = 0
    · rw [if_pos x0, if_pos x0, e208, zCl_some, if_neg gn, lb_div (by omega) (by omega)]
    · rw [if_neg x0, if_neg x0, e208, zCl_some, if_neg gn, lb_div (by omega) (by omega)]
def pc (n m : Nat) : Nat := zfo (fun k a => if m.testBit k = true then a + 1 else a) 0 n
set_option maxRecDepth 100000 in
theorem bc_pc : ∀ n : Nat, n < 9 → ∀ m : Nat, m < 2 ^ n → bcN (nI m) = nI (pc n m) := by decide +kernel
def pr (t n m : Nat) : Nat := zfo (fun k a => if m.testBit k = true then a else a * t) 1 n
theorem pr_pc {t m : Nat} : ∀ n, pr t n m = t ^ (n - pc n m) ∧ pc n m ≤ n := by
  intro n
  induction n with
  | zero => exact ⟨rfl, Nat.le_refl _⟩
  | succ n ih =>
    obtain ⟨h1, h2⟩ := ih
    have e1 : pr t (n + 1) m = if m.testBit n = true then pr t n m else pr t n m * t := rfl
    have e2 : pc (n + 1) m = if m.testBit n = true then pc n m + 1 else pc n m := rfl
    rw [e1, e2]
    by_cases q : m.testBit n = true
    · rw [if_pos q, if_pos q, h1]
      exact ⟨by congr 1; omega, by omega⟩
    · rw [if_neg q, if_neg q, h1]
      exact ⟨by rw [← Nat.pow_succ]; congr 1; omega, by omega⟩
theorem c_powL {d : Nat} {h : zH} {t e : Nat} (he : e ≤ 1000) : ∀ m i, i + m = e → zE d 106 (5, [some (.long (lq t)), none, some (.int (nI e)), some (.long (lq (t ^ i))), none, some (.int (nI i))], [], h) = some (some (.long (lq (t ^ e))), h) := by
  intro m
  induction m with
  | zero =>
    intro i hi
    have hi : i = e := hi
    subst hi
    rw [E106_at5, if_pos (nI_le (Nat.le_refl _) (by omega))]
  | succ m ih =>
    intro i hi
    rw [E106_at5, if_neg (nI_ge (by omega) (by omega)), lq_mul, nI_1, ← Nat.pow_succ]
    exact ih (i + 1) (by omega)
theorem c_pow {d : Nat} {h : zH} {t e : Nat} (he : e ≤ 1000) : zcal (d + 1) 106 [.long (lq t), .int (nI e)] h = some (some (.long (lq (t ^ e))), h) := by
  rw [E106]
  exact c_powL he e 0 (by omega)
def eWd (g : zHl) (n k m : Nat) (st : Int32) : zQ := rJ g n rF rF (fun s => m.testBit s) (rQ0 n k st 0) 10
theorem c_wd {d : Nat} {h : zH} {g : zHl} {n k m : Nat} (H : zHil h 7 g n k) (V : zVal g n k) (hm : m < 1024) : ∃ h', zcal (d + 4) 62 [.ref 19, .ref 7, .int 0, .int (-1), .int (-1), .int (nI m)] h = some (none, h') ∧ h' 7 11 = (eWd g n k m (h 7 7)).2.2.2 ∧ zHil h' 7 g n k ∧ h' 7 7 = h 7 7 ∧ zFr zMT h h' := by
  obtain ⟨h', e, I⟩ := c_run (d := d) (b := rF) (u := rF) (w := fun s => m.testBit s) H V (x2 := 0) (x3 := -1) (x4 := -1) (x5 := nI m) (rid0 k) (fun s hs => ⟨fun q => absurd q (nI_m1 hs), fun q => by cases q⟩) (fun s hs => ⟨fun q => absurd q (nI_m1 hs), fun q => by cases q⟩) (fun s hs => has_nI m hm s hs)
  unfold eWd
  refine ⟨h', e, I.2.2.2.2.2.1, I.1, I.2.1, zcal_fr zMT_clo _ _ _ _ _ e (fun v hv => ?_)⟩
  simp at hv
  rcases hv with rfl | rfl
  · exact Or.inr ⟨by omega, by omega⟩
  · exact Or.inl ⟨by omega, by omega⟩
theorem r_wd {d : Nat} {x : zH} {g : zHl} {n k m : Nat} (H : zHr x g n k) (V : zVal g n k) (hst : zIn (x 32 8) 0 99) (z1 : x 32 36 = -9) (z2 : x 32 37 = -9) (z3 : x 32 38 = nI m) (hm : m < 1024) : ∃ y, zcal (d + 5) 194 [.ref 32] x = some (some (.int (if (eWd g n k m (x 32 8)).2.2.2 = 3 then 1 else 0)), y) ∧ rfF x y := by
  obtain ⟨y, ey, J, G⟩ := r_rides (d := d) (b := rF) (u := rF) (w := fun s => m.testBit s) H V hst (fun s hs => ⟨fun q => absurd (z1 ▸ q).symm (nI_m9 hs), fun q => by cases q⟩) (fun s hs => ⟨fun q => absurd (z2 ▸ q).symm (nI_m9 hs), fun q => by cases q⟩) (fun s hs => by rw [z3]; exact has_nI m hm s hs)
  unfold eWd
  refine ⟨y, ?_, G⟩
  rw [E194_32, ey, zCi_some, J.2.2.2.2.2.2.2.2.1]
  by_cases q : (rJ g n rF rF (fun s => m.testBit s) (rQ0 n k (x 32 8) 0) 10).2.2.2 = 3
  · rw [if_pos q, if_pos q]
  · rw [if_neg q, if_neg q]

/-! LONGS, MEAN -/
theorem lg_0 {x : Int64} : (lg_cmp x 0 = 0) ↔ x = 0 := by
  unfold lg_cmp
  constructor
  · intro h
    split at h
    · exact absurd h (by decide)
    · split at h
      · assumption
      · exact absurd h (by decide)
  · intro h
    subst h
    decide
def lq (a : Nat) : Int64 := Int64.ofNat a
theorem lq_t {a : Nat} (h : a < 2 ^ 40) : (lq a).toInt = a := by
  show (BitVec.ofNat 64 a).toInt = a
  rw [BitVec.toInt_eq_toNat_of_lt]
  · rw [BitVec.toNat_ofNat, Nat.mod_eq_of_lt (by omega)]
  · rw [BitVec.toNat_ofNat, Nat.mod_eq_of_lt (by omega)]; omega
theorem lq_0 {a : Nat} (h : a < 2 ^ 40) : lq a = 0 ↔ a = 0 := by
  constructor
  · intro e
    have := congrArg Int64.toInt e
    rw [lq_t h] at this
    have z : (0 : Int64).toInt = 0 := by decide
    omega
  · intro e; subst e; rfl
theorem lq_add (a b : Nat) : lq a + lq b = lq (a + b) := (Int64.ofNat_add a b).symm
theorem lq_mul (a b : Nat) : lq a * lq b = lq (a * b) := (Int64.ofNat_mul a b).symm
theorem lq_div {a b : Nat} (ha : a < 2 ^ 40) (hb : b < 2 ^ 40) : lq a / lq b = lq (a / b) := by
  apply Int64.toInt_inj.mp
  have hd : a / b ≤ a := Nat.div_le_self a b
  rw [Int64.toInt_div, lq_t ha, lq_t hb, lq_t (by omega)]
  rw [Int.tdiv_eq_ediv_of_nonneg (by omega)]
  rw [← Int.natCast_ediv]
  have hq : a / b < 2 ^ 40 := by omega
  generalize a / b = q at *
  unfold Int.bmod
  dsimp only
  split <;> omega
theorem lq_rem {a b : Nat} (ha : a < 2 ^ 40) (hb : b < 2 ^ 40) : lq a - lq a / lq b * lq b = lq (a % b) := by
  rw [lq_div ha hb, lq_mul]
  have : lq a = lq (a % b) + lq (a / b * b) := by
    rw [lq_add]
    congr 1
    have := Nat.div_add_mod a b
    rw [Nat.mul_comm] at this
    omega
  rw [this, Int64.add_sub_cancel]
theorem nI_64 {x : Nat} (h : x < 2 ^ 31) : (nI x).toInt64 = lq x := by
  apply Int64.toInt_inj.mp
  rw [Int32.toInt_toInt64, lq_t (by omega), nI_toInt h]
theorem gcd_st {a b : Nat} : Nat.gcd a b = Nat.gcd b (a % b) := by rw [Nat.gcd_comm a b, Nat.gcd_rec b a, Nat.gcd_comm]
theorem r_gcd {d : Nat} {h : zH} {x0 x2 : Int64} : ∀ b a : Nat, a < 2 ^ 40 → b < 2 ^ 40 → ∀ x8 : Option Value, zE d 208 (6, [some (.long x0), none, some (.long x2), none, some (.long (lq a)), none, some (.long (lq b)), none, x8, none], [], h) = some (some (.long (lq (Nat.gcd a b))), h) := by
  intro b
  induction b using Nat.strongRecOn with
  | _ b ih =>
    intro a ha hb x8
    rw [E208_at6]
    by_cases b0 : b = 0
    · subst b0
      rw [if_pos (show lg_cmp (lq 0) 0 = 0 from lg_0.mpr rfl), Nat.gcd_zero_right]
    · have nb : ¬ lq b = 0 := fun q => b0 ((lq_0 hb).mp q)
      have lt : a % b < b := Nat.mod_lt _ (by omega)
      rw [if_neg (fun q => nb (lg_0.mp q)), if_neg nb, lq_rem ha hb, gcd_st]
      exact ih (a % b) lt b hb (by omega) _
theorem c_gcd {d : Nat} {h : zH} {x0 x2 : Int64} {x4 : Int32} : ∀ b a i : Nat, a < 2 ^ 40 → b < 2 ^ 40 → i + b < 200 → ∀ x10 : Option Value, zE d 78 (25, [some (.long x0), none, some (.long x2), none, some (.int x4), some (.long (lq a)), none, some (.long (lq b)), none, some (.int (nI i)), x10, none], [], h) = (if lq (Nat.gcd a b) = 0 then some (some (.long x4.toInt64), h) else if x4 = 0 then some (some (.long (x0 / lq (Nat.gcd a b))), h) else some (some (.long (x2 / lq (Nat.gcd a b))), h)) := by
  intro b
  induction b using Nat.strongRecOn with
  | _ b ih =>
    intro a i ha hb hi x10
    rw [E78_at25, if_neg (show ¬ nI i ≥ (200 : Int32) from nI_ge (b := 200) (by omega) (by omega))]
    by_cases b0 : b = 0
    · subst b0
      rw [if_pos (show lg_cmp (lq 0) 0 = 0 from lg_0.mpr rfl), Nat.gcd_zero_right]
      by_cases a0 : lq a = 0
      · rw [if_pos (lg_0.mpr a0), if_pos a0]
      · rw [if_neg (fun q => a0 (lg_0.mp q)), if_neg a0, if_neg a0, if_neg a0]
    · have nb : ¬ lq b = 0 := fun q => b0 ((lq_0 hb).mp q)
      have lt : a % b < b := Nat.mod_lt _ (by omega)
      rw [if_neg (fun q => nb (lg_0.mp q)), if_neg nb, lq_rem ha hb, gcd_st, nI_1]
      exact ih (a % b) lt b (i + 1) hb (by omega) (by omega) _
theorem c_low {d : Nat} {h : zH} {s c : Nat} {x : Int32} (hs : s < 100000) (hc : c ≤ 10) : zcal (d + 1) 78 [.long (lq s), .long (lq c), .int x] h = some (some (.long (if s = 0 ∨ c = 0 then x.toInt64 else if x = 0 then lq (s / Nat.gcd s c) else lq (c / Nat.gcd s c))), h) := by
  rw [E78]
  by_cases s0 : s = 0
  · rw [if_pos (lg_0.mpr ((lq_0 (by omega)).mpr s0)), if_pos (Or.inl s0)]
  · rw [if_neg (fun q => s0 ((lq_0 (by omega)).mp (lg_0.mp q)))]
    by_cases c0 : c = 0
    · rw [if_pos (lg_0.mpr ((lq_0 (by omega)).mpr c0)), if_pos (Or.inr c0)]
    · have g0 : 0 < Nat.gcd s c := Nat.gcd_pos_of_pos_left _ (by omega)
      have g1 : Nat.gcd s c ≤ c := Nat.gcd_le_right _ (by omega)
      have := c_gcd (d := d) (h := h) (x0 := lq s) (x2 := lq c) (x4 := x) c s 0 (by omega) (by omega) (by omega) none
      rw [show nI 0 = (0 : Int32) from rfl] at this
      have gn : ¬ lq (Nat.gcd s c) = 0 := fun q => by have := (lq_0 (a := Nat.gcd s c) (by omega)).mp q; omega
      have nn : ¬ (s = 0 ∨ c = 0) := by omega
      have cn : ¬ lg_cmp (lq c) 0 = 0 := fun q => c0 ((lq_0 (by omega)).mp (lg_0.mp q))
      rw [if_neg cn, this, if_neg gn, if_neg nn]
      by_cases x0 : x = 0
      · rw [if_pos x0, if_pos x0, lq_div (by omega) (by omega)]
      · rw [if_neg x0, if_neg x0, lq_div (by omega) (by omega)]
theorem r_low2 {d : Nat} {h : zH} {s c : Nat} {x : Int32} (hx : x = 0 ∨ x = 1) (hs : s < 100000) (hc : c ≤ 10) (c0 : c ≠ 0) : zcal (d + 2) 207 [.long (lq s), .long (lq c), .int x] h = some (some (.long (if s = 0 ∨ c = 0 then x.toInt64 else if x = 0 then lq (s / Nat.gcd s c) else lq (c / Nat.gcd s c))), h) := by
  have e208 : zcal (d + 1) 208 [.long (lq s), .long (lq c)] h = some (some (.long (lq (Nat.gcd s c))), h) := by
    rw [E208]
    exact r_gcd c s (by omega) (by omega) none
  have g0 : 0 < Nat.gcd s c := Nat.gcd_pos_of_pos_right _ (by omega)
  have g1 : Nat.gcd s c ≤ c := Nat.gcd_le_right _ (by omega)
  have gn : ¬ lq (Nat.gcd s c) = 0 := fun q => by have := (lq_0 (a := Nat.gcd s c) (by omega)).mp q; omega
  rw [E207]
  by_cases s0 : s = 0
  · rw [if_pos (Or.inl s0)]
    subst s0
    rw [Nat.gcd_zero_left] at e208 gn
    rcases hx with rfl | rfl
    · rw [if_pos rfl, e208, zCl_some, if_neg gn, lq_div (by omega) (by omega), Nat.zero_div]
      rfl
    · rw [if_neg (by decide), e208, zCl_some, if_neg gn, lq_div (by omega) (by omega), Nat.div_self (by omega)]
      rfl
  · have nn : ¬ (s = 0 ∨ c = 0) := by omega
    rw [if_neg nn]
    by_cases x0 : x = 0
    · rw [if_pos x0, if_pos x0, e208, zCl_some, if_neg gn, lq_div (by omega) (by omega)]
    · rw [if_neg x0, if_neg x0, e208, zCl_some, if_neg gn, lq_div (by omega) (by omega)]

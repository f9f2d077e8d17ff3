/-! THE BEST RIDERS FOR THREE CHANGES -/
section BEST3
def wvI (i : Nat) : Int32 := if i = 0 then -9 else nI i - 1
def dgI (i : Nat) : Int32 := if i = 0 then 9 else nI i - 1
theorem wv_ok {i k : Nat} (hi : i < k + 1) : wvI i = -9 ∨ ∃ x, x < k ∧ wvI i = nI x := by
  unfold wvI
  by_cases e : i = 0
  · rw [if_pos e]; exact Or.inl rfl
  · rw [if_neg e]
    obtain ⟨j, rfl⟩ : ∃ j, i = j + 1 := ⟨i - 1, by omega⟩
    exact Or.inr ⟨j, by omega, by rw [← nI_1, nI_p1]⟩
theorem i0 {i : Nat} (hi : i < 100) : (nI i = 0) ↔ i = 0 := nI_eq (b := 0) (by omega) (by omega)
theorem c_95 {d : Nat} {h : zH} {i : Nat} (hi : i < 100) : zcal (d + 1) 95 [.int (nI i)] h = some (some (.int (wvI i)), h) := by
  rw [E95]
  unfold wvI
  by_cases e : i = 0
  · rw [if_pos ((i0 hi).mpr e), if_pos e]
  · rw [if_neg (fun q => e ((i0 hi).mp q)), if_neg e]
theorem c_96 {d : Nat} {h : zH} {i : Nat} (hi : i < 100) : zcal (d + 1) 96 [.int (nI i)] h = some (some (.int (dgI i)), h) := by
  rw [E96]
  unfold dgI
  by_cases e : i = 0
  · rw [if_pos ((i0 hi).mpr e), if_pos e]
  · rw [if_neg (fun q => e ((i0 hi).mp q)), if_neg e]
theorem r_187 {d : Nat} {h : zH} {i : Nat} (hi : i < 100) : zcal (d + 1) 187 [.int (nI i)] h = some (some (.int (dgI i)), h) := by
  rw [E187]
  unfold dgI
  by_cases e : i = 0
  · rw [if_pos ((i0 hi).mpr e), if_pos e]
  · rw [if_neg (fun q => e ((i0 hi).mp q)), if_neg e]
theorem r_186 {d : Nat} {h : zH} {s i : Nat} (hs : s < 10) (hi : i < 100) : zcal (d + 1) 186 [.ref 32, .int (nI s), .int (nI i)] h = some (none, z_up h 36 s (wvI i)) := by
  rw [E186_32]
  unfold wvI
  by_cases e : i = 0
  · rw [if_pos ((i0 hi).mpr e), if_pos e, zG_nI (by omega) (by omega), nI_tn (by omega)]
  · rw [if_neg (fun q => e ((i0 hi).mp q)), if_neg e, zG_nI (by omega) (by omega), nI_tn (by omega)]
def g3 (g : zHl) (A B C : Nat) (u v w : Int32) : zHl := gW (gW (gW g A u) B v) C w
theorem g3_0 {g : zHl} {A B C : Nat} : g3 g A B C (g 2 A) (g 2 B) (g 2 C) = g := by unfold g3; rw [gW_id, gW_id, gW_id]
theorem g3_A {g : zHl} {A B C : Nat} (ab : A ≠ B) (ac : A ≠ C) {u v w u' : Int32} : gW (g3 g A B C u v w) A u' = g3 g A B C u' v w := by
  unfold g3
  funext r j
  by_cases e : r = 2
  · subst e
    rw [gW_v, gW_v, gW_v, gW_v, gW_v, gW_v, gW_v]
    by_cases a : j = A
    · subst a
      rw [if_pos rfl, if_neg ac, if_neg ab, if_pos rfl]
    · rw [if_neg a, if_neg a, if_neg a]
  · rw [gW_o e, gW_o e, gW_o e, gW_o e, gW_o e, gW_o e, gW_o e]
theorem g3_B {g : zHl} {A B C : Nat} (bc : B ≠ C) {u v w u' : Int32} : gW (g3 g A B C u v w) B u' = g3 g A B C u u' w := by
  unfold g3
  funext r j
  by_cases e : r = 2
  · subst e
    rw [gW_v, gW_v, gW_v, gW_v, gW_v, gW_v, gW_v]
    by_cases a : j = B
    · subst a
      rw [if_pos rfl, if_neg bc, if_pos rfl]
    · rw [if_neg a, if_neg a, if_neg a]
  · rw [gW_o e, gW_o e, gW_o e, gW_o e, gW_o e, gW_o e, gW_o e]
theorem g3_C {g : zHl} {A B C : Nat} {u v w u' : Int32} : gW (g3 g A B C u v w) C u' = g3 g A B C u v u' := by
  unfold g3
  funext r j
  by_cases e : r = 2
  · subst e
    rw [gW_v, gW_v, gW_v, gW_v, gW_v, gW_v, gW_v]
    by_cases a : j = C
    · subst a
      rw [if_pos rfl, if_pos rfl]
    · rw [if_neg a, if_neg a, if_neg a]
  · rw [gW_o e, gW_o e, gW_o e, gW_o e, gW_o e, gW_o e, gW_o e]
theorem zVal_3 {g : zHl} {n k A B C i j l : Nat} (V : zVal g n k) (hi : i < k + 1) (hj : j < k + 1) (hl : l < k + 1) : zVal (g3 g A B C (wvI i) (wvI j) (wvI l)) n k := zVal_W (zVal_W (zVal_W V (wv_ok hi)) (wv_ok hj)) (wv_ok hl)
/-- one way after another -/
def bSt (E : Nat → Nat → Nat → Nat) (q K : Nat) (a : Int32 × Int32) : Int32 × Int32 := if a.2 < nI (E (K / q / q) (K / q % q) (K % q)) then (((100 : Int32) * dgI (K / q / q) + (10 : Int32) * dgI (K / q % q)) + dgI (K % q), nI (E (K / q / q) (K / q % q) (K % q))) else a
def bF (E : Nat → Nat → Nat → Nat) (q : Nat) : Nat → Nat → Int32 × Int32 → Int32 × Int32
  | 0, _, a => a
  | t + 1, K, a => bF E q t (K + 1) (bSt E q K a)
theorem bF_add {E : Nat → Nat → Nat → Nat} {q : Nat} : ∀ s t K a, bF E q (s + t) K a = bF E q t (K + s) (bF E q s K a) := by
  intro s
  induction s with
  | zero => intro t K a; rw [Nat.zero_add]; rfl
  | succ s ih =>
    intro t K a
    rw [show s + 1 + t = (s + t) + 1 by omega, bF, ih, bF, show K + 1 + s = K + (s + 1) by omega]
theorem q_div {a q l : Nat} (hl : l < q) : (a * q + l) / q = a ∧ (a * q + l) % q = l := by
  refine ⟨?_, ?_⟩
  · rw [Nat.mul_comm, Nat.mul_add_div (by omega), Nat.div_eq_of_lt hl, Nat.add_zero]
  · rw [Nat.mul_comm, Nat.mul_add_mod, Nat.mod_eq_of_lt hl]
theorem bSt_at {E : Nat → Nat → Nat → Nat} {q i j l : Nat} (hj : j < q) (hl : l < q) {a : Int32 × Int32} : bSt E q ((i * q + j) * q + l) a = if a.2 < nI (E i j l) then (((100 : Int32) * dgI i + (10 : Int32) * dgI j) + dgI l, nI (E i j l)) else a := by
  unfold bSt
  rw [(q_div hl).1, (q_div hl).2, (q_div hj).1, (q_div hj).2]
theorem bF_first {E : Nat → Nat → Nat → Nat} {q : Nat} (hE : ∀ i j l, E i j l ≤ 10) {t K : Nat} {x y : Int32} : bF E q (t + 1) K (x, -1) = bF E q (t + 1) K (y, -9) := by
  rw [bF, bF]
  have e0 := nI_pos' (n := E (K / q / q) (K / q % q) (K % q)) (by have := hE (K / q / q) (K / q % q) (K % q); omega)
  have l1 : ((x, (-1 : Int32))).2 < nI (E (K / q / q) (K / q % q) (K % q)) := Int32.lt_of_lt_of_le (show (-1 : Int32) < 0 by decide) e0
  have l9 : ((y, (-9 : Int32))).2 < nI (E (K / q / q) (K / q % q) (K % q)) := Int32.lt_of_lt_of_le (show (-9 : Int32) < 0 by decide) e0
  unfold bSt
  rw [if_pos l1, if_pos l9]
end BEST3

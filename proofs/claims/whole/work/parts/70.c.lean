/-! A HILL TOLD IN LETTERS: THE LETTERS -/
section LET
/-- the letter at a place, -1 behind the last -/
def lA (T : Nat → Int32) (t p : Nat) : Int32 := if p < t then T p else -1
/-- how many letters the statement of such a first letter has -/
def sL (c : Int32) : Nat := if c = 98 then 2 else if c = 99 then 4 else if c = 103 then 4 else if c = 114 then 4 else if c = 115 then 4 else if c = 118 then 4 else 0
def dg (x : Int32) : Prop := 48 ≤ x ∧ x ≤ 57
theorem sL_v (c : Int32) : (sL c = 0 ∧ ¬ c = 98 ∧ ¬ c = 99 ∧ ¬ c = 103 ∧ ¬ c = 114 ∧ ¬ c = 115 ∧ ¬ c = 118) ∨ (sL c = 2 ∧ c = 98) ∨ (sL c = 4 ∧ (c = 99 ∨ c = 103 ∨ c = 114 ∨ c = 115 ∨ c = 118)) := by
  unfold sL
  by_cases h1 : c = 98
  · rw [if_pos h1]; exact Or.inr (Or.inl ⟨rfl, h1⟩)
  · rw [if_neg h1]
    by_cases h2 : c = 99
    · rw [if_pos h2]; exact Or.inr (Or.inr ⟨rfl, Or.inl h2⟩)
    · rw [if_neg h2]
      by_cases h3 : c = 103
      · rw [if_pos h3]; exact Or.inr (Or.inr ⟨rfl, Or.inr (Or.inl h3)⟩)
      · rw [if_neg h3]
        by_cases h4 : c = 114
        · rw [if_pos h4]; exact Or.inr (Or.inr ⟨rfl, Or.inr (Or.inr (Or.inl h4))⟩)
        · rw [if_neg h4]
          by_cases h5 : c = 115
          · rw [if_pos h5]; exact Or.inr (Or.inr ⟨rfl, Or.inr (Or.inr (Or.inr (Or.inl h5)))⟩)
          · rw [if_neg h5]
            by_cases h6 : c = 118
            · rw [if_pos h6]; exact Or.inr (Or.inr ⟨rfl, Or.inr (Or.inr (Or.inr (Or.inr h6)))⟩)
            · rw [if_neg h6]; exact Or.inl ⟨rfl, h1, h2, h3, h4, h5, h6⟩
theorem dg_nI {x : Int32} (h : dg x) : ∃ a, a < 10 ∧ x = nI (48 + a) := by
  obtain ⟨j, j1, j2, e⟩ := nI_mid (lo := 48) (hi := 57) (by omega) (by omega) h.1 h.2
  exact ⟨j - 48, by omega, by rw [e, show 48 + (j - 48) = j by omega]⟩
/-- the place where the statement that begins at p goes wrong -/
noncomputable def sW (L : Nat → Int32) (p : Nat) : Option Nat := @ite _ (sL (L p) = 0) (Classical.propDecidable _) (some p) (@ite _ (sL (L p) = 2) (Classical.propDecidable _) (@ite _ (L (p + 1) = 59) (Classical.propDecidable _) none (some (p + 1))) (@ite _ (dg (L (p + 1))) (Classical.propDecidable _) (@ite _ (dg (L (p + 2))) (Classical.propDecidable _) (@ite _ (L (p + 3) = 59) (Classical.propDecidable _) none (some (p + 3))) (some (p + 2))) (some (p + 1))))
theorem sW_0 {L : Nat → Int32} {p : Nat} (h : sL (L p) = 0) : sW L p = some p := by unfold sW; rw [if_pos h]
theorem sW_2 {L : Nat → Int32} {p : Nat} (h : sL (L p) = 2) : (L (p + 1) = 59 → sW L p = none) ∧ (¬ L (p + 1) = 59 → sW L p = some (p + 1)) := by
  unfold sW
  rw [if_neg (by omega), if_pos h]
  exact ⟨fun e => if_pos e, fun e => if_neg e⟩
theorem sW_4 {L : Nat → Int32} {p : Nat} (h : sL (L p) = 4) : (¬ dg (L (p + 1)) → sW L p = some (p + 1)) ∧ (dg (L (p + 1)) → ¬ dg (L (p + 2)) → sW L p = some (p + 2)) ∧ (dg (L (p + 1)) → dg (L (p + 2)) → ¬ L (p + 3) = 59 → sW L p = some (p + 3)) ∧ (dg (L (p + 1)) → dg (L (p + 2)) → L (p + 3) = 59 → sW L p = none) := by
  unfold sW
  rw [if_neg (by omega), if_neg (by omega)]
  exact ⟨fun e => if_neg e, fun e1 e2 => by rw [if_pos e1, if_neg e2], fun e1 e2 e3 => by rw [if_pos e1, if_pos e2, if_neg e3], fun e1 e2 e3 => by rw [if_pos e1, if_pos e2, if_pos e3]⟩
def pL (L : Nat → Int32) : Nat → Nat
  | 0 => 0
  | i + 1 => pL L i + sL (L (pL L i))
def gdS (L : Nat → Int32) (t K : Nat) : Prop := ∀ j, j < K → sW L (pL L j) = none ∧ pL L j < t
theorem sL_2 {L : Nat → Int32} {p : Nat} (h : sW L p = none) : 2 ≤ sL (L p) ∧ sL (L p) ≤ 4 := by
  rcases sL_v (L p) with e | e | e
  · rw [sW_0 e.1] at h; cases h
  · omega
  · omega
theorem pL_ge {L : Nat → Int32} {t : Nat} : ∀ K, gdS L t K → 2 * K ≤ pL L K := by
  intro K
  induction K with
  | zero => intro _; exact Nat.zero_le _
  | succ K ih =>
    intro g
    have h1 := ih (fun j hj => g j (by omega))
    have h2 := (sL_2 (g K (by omega)).1).1
    show 2 * (K + 1) ≤ pL L K + sL (L (pL L K))
    omega
theorem gdS_K {L : Nat → Int32} {t K : Nat} (ht : t ≤ 96) (g : gdS L t K) : K ≤ 48 := by
  rcases Nat.lt_or_ge 48 K with q | q
  · have h1 := pL_ge K g
    have h2 := pL_ge (K - 1) (fun j hj => g j (by omega))
    have h3 := (g (K - 1) (by omega)).2
    omega
  · exact q
theorem pL_le {L : Nat → Int32} {t K : Nat} (ht : t ≤ 96) (g : gdS L t K) : pL L K ≤ 100 := by
  cases K with
  | zero => show 0 ≤ 100; omega
  | succ K =>
    have h2 := (sL_2 (g K (by omega)).1).2
    have h3 := (g K (by omega)).2
    show pL L K + sL (L (pL L K)) ≤ 100
    omega
theorem sW_r {L : Nat → Int32} {p q : Nat} (h : sW L p = some q) : p ≤ q ∧ q ≤ p + 3 := by
  rcases sL_v (L p) with e | e | e
  · rw [sW_0 e.1] at h; injection h with h; omega
  · obtain ⟨a, b⟩ := sW_2 e.1
    by_cases c : L (p + 1) = 59
    · rw [a c] at h; cases h
    · rw [b c] at h; injection h with h; omega
  · obtain ⟨a1, a2, a3, a4⟩ := sW_4 e.1
    by_cases c1 : dg (L (p + 1))
    · by_cases c2 : dg (L (p + 2))
      · by_cases c3 : L (p + 3) = 59
        · rw [a4 c1 c2 c3] at h; cases h
        · rw [a3 c1 c2 c3] at h; injection h with h; omega
      · rw [a2 c1 c2] at h; injection h with h; omega
    · rw [a1 c1] at h; injection h with h; omega
/-- all of it is statements, or one goes wrong -/
theorem form {L : Nat → Int32} {t : Nat} (ht : t ≤ 96) (h0 : 0 < t) : (∃ K, 0 < K ∧ gdS L t K ∧ t ≤ pL L K) ∨ ∃ K q, gdS L t K ∧ pL L K < t ∧ sW L (pL L K) = some q := by
  have key : ∀ m K, K + m = 49 → gdS L t K → (∃ K, 0 < K ∧ gdS L t K ∧ t ≤ pL L K) ∨ ∃ K q, gdS L t K ∧ pL L K < t ∧ sW L (pL L K) = some q := by
    intro m
    induction m with
    | zero =>
      intro K hK g
      have := gdS_K ht g
      omega
    | succ m ih =>
      intro K hK g
      rcases Nat.lt_or_ge (pL L K) t with q | q
      · cases e : sW L (pL L K) with
        | none =>
          refine ih (K + 1) (by omega) (fun j hj => ?_)
          by_cases z : j = K
          · rw [z]; exact ⟨e, q⟩
          · exact g j (by omega)
        | some r => exact Or.inr ⟨K, r, g, q, e⟩
      · refine Or.inl ⟨K, ?_, g, q⟩
        rcases Nat.eq_zero_or_pos K with z | z
        · subst z
          have : pL L 0 = 0 := rfl
          omega
        · exact z
  exact key 49 0 rfl (fun j hj => absurd hj (by omega))
/-! the class's -/
def txC (T : Nat → Int32) (t : Nat) (h : zH) : Prop := h 26 1 = nI t ∧ ∀ j, j < t → h 27 j = T j
theorem txC_mt {T : Nat → Int32} {t : Nat} {h h' : zH} (X : txC T t h) (F : zFr zMT h h') : txC T t h' := ⟨by rw [F 26 (zMT_n (by omega))]; exact X.1, fun j hj => by rw [F 27 (zMT_n (by omega))]; exact X.2 j hj⟩
section C
variable {d : Nat} {h : zH} {T : Nat → Int32} {t : Nat}
theorem c_14 (X : txC T t h) (ht : t ≤ 96) {p : Nat} (hp : p ≤ 1000) : zcal (d + 2) 14 [.ref 26, .int (nI p)] h = some (some (.int (lA T t p)), h) := by
  rw [E14_26, if_neg (nI_pos (by omega)), X.1]
  unfold lA
  by_cases q : p < t
  · rw [if_neg (nI_ge q (by omega)), if_pos q, c_get (n := 96) rfl (by omega), zCi_some, gt_nI (by omega) (by omega), X.2 p q]
  · rw [if_pos (nI_le (by omega) (by omega)), if_neg q]
theorem c_13 (X : txC T t h) (ht : t ≤ 96) {p : Nat} (hp : p ≤ 1000) : zcal (d + 3) 13 [.ref 25, .int (nI p)] h = some (some (.int (nI (sL (lA T t p)))), h) := by
  rw [E13_25, c_14 X ht hp, zCi_some]
  generalize lA T t p = c
  unfold sL
  by_cases h1 : c = 98
  · rw [if_pos h1, if_pos h1]; rfl
  · rw [if_neg h1, if_neg h1]
    by_cases h2 : c = 99
    · rw [if_pos h2, if_pos h2]; rfl
    · rw [if_neg h2, if_neg h2]
      by_cases h3 : c = 103
      · rw [if_pos h3, if_pos h3]; rfl
      · rw [if_neg h3, if_neg h3]
        by_cases h4 : c = 114
        · rw [if_pos h4, if_pos h4]; rfl
        · rw [if_neg h4, if_neg h4]
          by_cases h5 : c = 115
          · rw [if_pos h5, if_pos h5]; rfl
          · rw [if_neg h5, if_neg h5]
            by_cases h6 : c = 118
            · rw [if_pos h6, if_pos h6]; rfl
            · rw [if_neg h6, if_neg h6]; rfl
theorem c_dig {x : Int32} : (dg x → zcal (d + 1) 15 [.int x] h = some (some (.int 1), h)) ∧ (¬ dg x → zcal (d + 1) 15 [.int x] h = some (some (.int 0), h)) := by
  rw [E15]
  unfold dg
  refine ⟨fun q => by rw [if_neg (Int32.not_lt.mpr q.1), if_neg (show ¬ x > 57 from Int32.not_lt.mpr q.2)], fun q => ?_⟩
  by_cases h1 : x < 48
  · rw [if_pos h1]
  · rw [if_neg h1]
    by_cases h2 : x > 57
    · rw [if_pos h2]
    · exact absurd ⟨Int32.not_lt.mp h1, Int32.not_lt.mp h2⟩ q
theorem c_12d (X : txC T t h) (ht : t ≤ 96) {p l q : Nat} (hp : p ≤ 500) (hl : l ≤ 4) (hq : q + 1 < p + l) {x4 x5 : Option Value} : (dg (lA T t q) → ∃ x4' x5', zE (d + 3) 12 (16, [some (.ref 25), some (.int (nI p)), some (.int (nI l)), some (.int (nI q)), x4, x5], [], h) = zE (d + 3) 12 (16, [some (.ref 25), some (.int (nI p)), some (.int (nI l)), some (.int (nI (q + 1))), x4', x5'], [], h)) ∧ (¬ dg (lA T t q) → zE (d + 3) 12 (16, [some (.ref 25), some (.int (nI p)), some (.int (nI l)), some (.int (nI q)), x4, x5], [], h) = some (some (.int (nI q)), h)) := by
  have e1 : nI p + nI l = nI (p + l) := nI_add p l
  have e2 : nI (p + l) - 1 = nI (p + l - 1) := nI_sb (a := p + l) (b := 1) (by omega)
  rw [E12_25_at16, e1, if_neg (nI_ge (by omega) (by omega)), e2, if_neg (fun z => by have := (nI_eq (by omega) (by omega)).mp z; omega), E12_25_at37, if_pos rfl, c_14 X ht (by omega), zCi_some]
  refine ⟨fun z => ?_, fun z => ?_⟩
  · rw [c_dig.1 z, zCi_some, if_neg (by decide), nI_1]
    exact ⟨_, _, rfl⟩
  · rw [c_dig.2 z, zCi_some, if_pos rfl]
theorem c_12l (X : txC T t h) (ht : t ≤ 96) {p l q : Nat} (hp : p ≤ 500) (hl : l ≤ 4) (hq : q + 1 = p + l) {x4 x5 : Option Value} : (lA T t q = 59 → zE (d + 3) 12 (16, [some (.ref 25), some (.int (nI p)), some (.int (nI l)), some (.int (nI q)), x4, x5], [], h) = some (some (.int (-1)), h)) ∧ (¬ lA T t q = 59 → zE (d + 3) 12 (16, [some (.ref 25), some (.int (nI p)), some (.int (nI l)), some (.int (nI q)), x4, x5], [], h) = some (some (.int (nI q)), h)) := by
  have e1 : nI p + nI l = nI (p + l) := nI_add p l
  have e2 : nI (p + l) - 1 = nI q := by rw [← hq, ← nI_1, nI_p1]
  rw [E12_25_at16, e1, if_neg (nI_ge (by omega) (by omega)), e2, if_pos rfl, E12_25_at37, if_neg (by decide), c_14 X ht (by omega), zCi_some]
  refine ⟨fun z => ?_, fun z => ?_⟩
  · rw [if_pos z, if_neg (by decide), nI_1, E12_25_at16, e1, if_pos (nI_le (by omega) (by omega))]
  · rw [if_neg z, if_pos rfl]
theorem c_12 (X : txC T t h) (ht : t ≤ 96) {p : Nat} (hp : p ≤ 500) : (sW (lA T t) p = none → zcal (d + 4) 12 [.ref 25, .int (nI p)] h = some (some (.int (-1)), h)) ∧ ∀ q, sW (lA T t) p = some q → zcal (d + 4) 12 [.ref 25, .int (nI p)] h = some (some (.int (nI q)), h) := by
  rw [E12_25, c_13 X ht (by omega), zCi_some]
  rcases sL_v (lA T t p) with e | e | e
  · rw [e.1, if_pos (show nI 0 = (0 : Int32) from rfl), sW_0 e.1]
    exact ⟨fun z => (by cases z), fun q z => by injection z with z; rw [z]⟩
  · obtain ⟨a, b⟩ := sW_2 e.1
    obtain ⟨l1, l2⟩ := c_12l (d := d) X ht (p := p) (l := 2) (q := p + 1) hp (by omega) (by omega) (x4 := none) (x5 := none)
    rw [e.1, if_neg (show ¬ nI 2 = (0 : Int32) by decide), nI_1]
    by_cases c : lA T t (p + 1) = 59
    · rw [l1 c, a c]
      exact ⟨fun _ => rfl, fun q z => (by cases z)⟩
    · rw [l2 c, b c]
      exact ⟨fun z => (by cases z), fun q z => by injection z with z; rw [z]⟩
  · obtain ⟨a1, a2, a3, a4⟩ := sW_4 e.1
    obtain ⟨l1, l2⟩ := c_12d (d := d) X ht (p := p) (l := 4) (q := p + 1) hp (by omega) (by omega) (x4 := none) (x5 := none)
    rw [e.1, if_neg (show ¬ nI 4 = (0 : Int32) by decide), nI_1]
    by_cases c1 : dg (lA T t (p + 1))
    · obtain ⟨y4, y5, e1⟩ := l1 c1
      obtain ⟨l3, l4⟩ := c_12d (d := d) X ht (p := p) (l := 4) (q := p + 1 + 1) hp (by omega) (by omega) (x4 := y4) (x5 := y5)
      rw [e1]
      by_cases c2 : dg (lA T t (p + 2))
      · obtain ⟨z4, z5, e2⟩ := l3 c2
        obtain ⟨l5, l6⟩ := c_12l (d := d) X ht (p := p) (l := 4) (q := p + 1 + 1 + 1) hp (by omega) (by omega) (x4 := z4) (x5 := z5)
        rw [e2]
        by_cases c3 : lA T t (p + 3) = 59
        · rw [l5 c3, a4 c1 c2 c3]
          exact ⟨fun _ => rfl, fun q z => (by cases z)⟩
        · rw [l6 c3, a3 c1 c2 c3]
          exact ⟨fun z => (by cases z), fun q z => by injection z with z; rw [← z]⟩
      · rw [l4 c2, a2 c1 c2]
        exact ⟨fun z => (by cases z), fun q z => by injection z with z; rw [← z]⟩
    · rw [l2 c1, a1 c1]
      exact ⟨fun z => (by cases z), fun q z => by injection z with z; rw [z]⟩
/-- the first pass -/
theorem c_11 (X : txC T t h) (ht : t ≤ 96) : (∀ K, 0 < K → gdS (lA T t) t K → t ≤ pL (lA T t) K → zcal (d + 6) 11 [.ref 25] h = some (some (.int 0), h)) ∧ ∀ K q, gdS (lA T t) t K → pL (lA T t) K < t → sW (lA T t) (pL (lA T t) K) = some q → zcal (d + 6) 11 [.ref 25] h = some (some (.int ((-1000 : Int32) - nI q)), h) := by
  have go : ∀ K, gdS (lA T t) t K → ∀ m i x3, i + m = K → ∃ x3', zE (d + 5) 11 (4, [some (.ref 25), some (.int (nI (pL (lA T t) i))), some (.int (nI i)), x3], [], h) = zE (d + 5) 11 (4, [some (.ref 25), some (.int (nI (pL (lA T t) K))), some (.int (nI K)), x3'], [], h) := by
    intro K g m
    have hK := gdS_K ht g
    induction m with
    | zero => intro i x3 hi; have hi : i = K := hi; subst hi; exact ⟨x3, rfl⟩
    | succ m ih =>
      intro i x3 hi
      obtain ⟨g1, g2⟩ := g i (by omega)
      rw [E11_25_at4, if_neg (show ¬ nI i ≥ (96 : Int32) from nI_ge (b := 96) (by omega) (by omega)), X.1, if_neg (nI_ge g2 (by omega)), (c_12 X ht (by omega)).1 g1, zCi_some, if_pos rfl, c_13 X ht (by omega), zCi_some, nI_add, nI_1]
      exact ih (i + 1) _ (by omega)
  refine ⟨fun K h0 g hK => ?_, fun K q g hK e => ?_⟩
  · have k48 := gdS_K ht g
    have p100 := pL_le ht g
    obtain ⟨x3', e⟩ := go K g K 0 none (by omega)
    have e : zE (d + 5) 11 (4, [some (.ref 25), some (.int 0), some (.int 0), none], [], h) = _ := e
    have t0 : 0 < t := by have := (g 0 h0).2; omega
    rw [E11_25, e, E11_25_at4, if_neg (show ¬ nI K ≥ (96 : Int32) from nI_ge (b := 96) (by omega) (by omega)), X.1, if_pos (nI_le hK (by omega)), if_neg (fun z => by have := (nI_eq (a := t) (b := 0) (by omega) (by omega)).mp z; omega)]
  · have k48 := gdS_K ht g
    have qr := sW_r e
    obtain ⟨x3', e'⟩ := go K g K 0 none (by omega)
    have e' : zE (d + 5) 11 (4, [some (.ref 25), some (.int 0), some (.int 0), none], [], h) = _ := e'
    have ne : ¬ nI q = (-1 : Int32) := fun z => absurd (nI_pos (n := q) (by omega)) (by rw [z]; decide)
    rw [E11_25, e', E11_25_at4, if_neg (show ¬ nI K ≥ (96 : Int32) from nI_ge (b := 96) (by omega) (by omega)), X.1, if_neg (nI_ge hK (by omega)), (c_12 X ht (by omega)).2 q e, zCi_some, if_neg ne]
theorem c_11e (X : txC T 0 h) : zcal (d + 6) 11 [.ref 25] h = some (some (.int (-1000)), h) := by
  rw [E11_25, E11_25_at4, if_neg (by decide), X.1, if_pos (show (0 : Int32) ≥ nI 0 by decide), if_pos (show nI 0 = (0 : Int32) from rfl)]
end C
end LET

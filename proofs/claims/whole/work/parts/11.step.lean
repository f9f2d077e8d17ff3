section HILL7
variable {d : Nat} {h : zH} {g : zHl} {n k : Nat}
theorem c_hasS_7 (H : zHil h 7 g n k) (V : zVal g n k) {i : Int32} : zcal (d + 1) 25 [.ref 7, .int i] h = some (some (.int (if 0 ≤ i ∧ i < nI n then 1 else 0)), h) := by
  rw [E25_7, H.1]
  by_cases h1 : i < 0
  · rw [if_pos h1, if_neg (fun q => Int32.not_le.mpr h1 q.1)]
  · rw [if_neg h1]
    by_cases h2 : i ≥ nI n
    · rw [if_pos h2, if_neg (fun q => Int32.not_le.mpr q.2 h2)]
    · rw [if_neg h2, if_pos ⟨Int32.not_lt.mp h1, Int32.not_le.mp h2⟩]
theorem c_hasR_7 (H : zHil h 7 g n k) (V : zVal g n k) {i : Int32} : zcal (d + 1) 26 [.ref 7, .int i] h = some (some (.int (if 0 ≤ i ∧ i < nI k then 1 else 0)), h) := by
  rw [E26_7, H.2.1]
  by_cases h1 : i < 0
  · rw [if_pos h1, if_neg (fun q => Int32.not_le.mpr h1 q.1)]
  · rw [if_neg h1]
    by_cases h2 : i ≥ nI k
    · rw [if_pos h2, if_neg (fun q => Int32.not_le.mpr q.2 h2)]
    · rw [if_neg h2, if_pos ⟨Int32.not_lt.mp h1, Int32.not_le.mp h2⟩]
theorem c_hasSn_7 (H : zHil h 7 g n k) (V : zVal g n k) {s : Nat} (hs : s < n) : zcal (d + 1) 25 [.ref 7, .int (nI s)] h = some (some (.int 1), h) := by
  rw [c_hasS_7 H V, if_pos ⟨nI_pos' (by have := V.1; omega), nI_lt hs (by have := V.1; omega)⟩]
theorem c_hasRn_7 (H : zHil h 7 g n k) (V : zVal g n k) {r : Nat} (hr : r < k) : zcal (d + 1) 26 [.ref 7, .int (nI r)] h = some (some (.int 1), h) := by
  rw [c_hasR_7 H V, if_pos ⟨nI_pos' (by have := V.2.1; omega), nI_lt hr (by have := V.2.1; omega)⟩]
theorem c_hasR9_7 (H : zHil h 7 g n k) (V : zVal g n k) : zcal (d + 1) 26 [.ref 7, .int (-9)] h = some (some (.int 0), h) := by
  rw [c_hasR_7 H V, if_neg (fun q => absurd q.1 (by decide))]
/-- who waits: none, or a rider -/
theorem c_wt_7 (H : zHil h 7 g n k) (V : zVal g n k) {s : Nat} (hs : s < n) (ha : h 7 8 = nI s) : zcal (d + 2) 31 [.ref 7] h = some (some (.int (g 2 s)), h) := by
  have hn := V.1
  rw [E31_7, ha, c_hasSn_7 H V hs, zCi_some, if_neg (by decide), ha, c_get (n := 10) rfl (by omega), zCi_some, gt_nI (by omega) (by omega), (H.2.2.1 s hs).2.2]
theorem c_hasW_7 (H : zHil h 7 g n k) (V : zVal g n k) {s : Nat} (hs : s < n) : zcal (d + 1) 26 [.ref 7, .int (g 2 s)] h = some (some (.int (if 0 ≤ g 2 s then 1 else 0)), h) := by
  rcases (V.2.2.1 s hs).1 with e | ⟨x, hx, e⟩
  · rw [e, c_hasR9_7 H V, if_neg (by decide)]
  · rw [e, c_hasRn_7 H V hx, if_pos (nI_pos' (by have := V.2.1; omega))]
theorem c_up_7 (H : zHil h 7 g n k) (V : zVal g n k) {s : Nat} (hs : s < n) {u : Nat → Bool} : zcal (d + 2) 32 [.ref 7, .int (g 2 s), .int (s_rn u s)] h = some (some (.int (if s_up g u s (h 7 9) = true then 1 else 0)), h) := by
  rw [E32_7, c_hasW_7 H V hs, zCi_some]
  unfold s_up
  rcases (V.2.2.1 s hs).1 with e | ⟨x, hx, e⟩
  · rw [e, if_neg (show ¬ (0 : Int32) ≤ -9 by decide), if_pos rfl, decide_eq_false (show ¬ (0 : Int32) ≤ -9 by decide), Bool.false_and, if_neg (by decide)]
  · have hk := V.2.1
    have h0 : (0 : Int32) ≤ nI x := nI_pos' (by omega)
    rw [e, if_pos h0, if_neg (by decide), c_get (n := 5) rfl (by omega), zCi_some, gt_nI (by omega) (by omega), (H.2.2.2 x hx).2, nI_tn (by omega), decide_eq_true h0, Bool.true_and]
    by_cases hc : h 7 9 > ((20 : Int32) + ((2 : Int32) * g 4 x)) + s_rn u s
    · rw [if_pos hc, decide_eq_false (Int32.not_le.mpr hc), if_neg (by decide)]
    · rw [if_neg hc, decide_eq_true (Int32.not_lt.mp hc), if_pos rfl]
theorem c_hold_7 (H : zHil h 7 g n k) (V : zVal g n k) {s r : Nat} (hs : s < n) (hr : r < k) : zcal (d + 2) 33 [.ref 7, .int (nI s), .int (nI r)] h = some (some (.int (s_hold g s (nI r))), h) := by
  have hn := V.1; have hk := V.2.1
  rw [E33_7, c_get (n := 10) rfl (by omega), zCi_some, gt_nI (by omega) (by omega), (H.2.2.1 s hs).1]
  unfold s_hold
  rw [nI_tn (by omega)]
  by_cases h1 : g 0 s = 1
  · rw [if_pos h1, if_pos h1, c_get (n := 5) rfl (by omega), zCi_some, gt_nI (by omega) (by omega), (H.2.2.2 r hr).2]
  · rw [if_neg h1, if_neg h1]
    by_cases h3 : g 0 s = 3
    · rw [if_pos h3, if_pos h3, c_get (n := 5) rfl (by omega), zCi_some, gt_nI (by omega) (by omega), (H.2.2.2 r hr).2]
    · rw [if_neg h3, if_neg h3]
theorem c_beh_7 (H : zHil h 7 g n k) (V : zVal g n k) {s r : Nat} (hs : s < n) (hr : r < k) {v : Int32} : zcal (d + 2) 34 [.ref 7, .int (nI s), .int (nI r), .int v] h = some (some (.int (s_min (s_bec g s (nI r) v))), h) := by
  have hn := V.1; have hk := V.2.1
  rw [E34_7, c_get (n := 5) rfl (by omega), zCi_some, gt_nI (by omega) (by omega), (H.2.2.2 r hr).1, c_get (n := 10) rfl (by omega), zCi_some, gt_nI (by omega) (by omega), (H.2.2.1 s hs).2.1, c_get (n := 10) rfl (by omega), zCi_some, gt_nI (by omega) (by omega), (H.2.2.1 s hs).1]
  unfold s_bec
  rw [nI_tn (by omega)]
  by_cases h1 : g 0 s = 1
  · rw [if_pos h1, if_pos h1, c_min, zCi_some]
  · rw [if_neg h1, if_neg h1]
    by_cases h2 : g 0 s = 2
    · rw [if_pos h2, if_pos h2, c_min, zCi_some]
    · rw [if_neg h2, if_neg h2]
      by_cases h3 : g 0 s = 3
      · rw [if_pos h3, if_pos h3, c_min, zCi_some]
      · rw [if_neg h3, if_neg h3]
        by_cases h4 : g 0 s = 4
        · rw [if_pos h4, if_pos h4, c_min, zCi_some]
        · rw [if_neg h4, if_neg h4]
          by_cases h5 : g 0 s = 5
          · rw [if_pos h5, if_pos h5, c_min, zCi_some]
          · rw [if_neg h5, if_neg h5, c_min, zCi_some]
theorem c_st37_7 (H : zHil h 7 g n k) (V : zVal g n k) {s r : Nat} (hs : s < n) (hr : r < k) (ha : h 7 8 = nI s) (hrd : h 7 10 = nI r) (hm : h 7 11 = 0) {w : Nat → Bool} {x1 x3 : Int32} :
    ∃ h', zE (d + 2) 30 (37, [some (.ref 7), some (.int x1), some (.int (s_wd w s)), some (.int x3)], [], h) = some (none, h') ∧ h' 7 8 = nI (s_nx g n w s (h 7 9) (nI r)).1 ∧ h' 7 9 = (s_nx g n w s (h 7 9) (nI r)).2.1 ∧ h' 7 10 = (s_nx g n w s (h 7 9) (nI r)).2.2.1 ∧ h' 7 11 = (s_nx g n w s (h 7 9) (nI r)).2.2.2 ∧ ∀ a j, (a = 7 → j ≠ 8 ∧ j ≠ 9 ∧ j ≠ 11) → h' a j = h a j := by
  have hn := V.1
  have hlt : (nI s + 1 < nI n) ↔ s + 1 < n := by rw [nI_1]; exact nI_ltI (by omega) (by omega)
  rw [E30_7_at37, ha, hrd, c_hold_7 H V hs hr, zCi_some]
  unfold s_nx
  by_cases h1 : h 7 9 ≤ s_hold g s (nI r)
  · rw [if_pos h1, if_pos h1, ha, hrd, c_beh_7 H V hs hr, zCi_some]
    by_cases h2 : s_min (s_bec g s (nI r) (h 7 9)) - s_wd w s > 0
    · rw [if_pos h2, if_pos h2, ha, H.1, nI_1]
      by_cases h3 : s + 1 < n
      · rw [if_pos (nI_lt h3 (by omega)), if_pos h3]
        refine ⟨_, rfl, by simp [zu_ap], by simp [zu_ap], by simp [zu_ap, hrd], by simp [zu_ap, hm], fun a j hj => ?_⟩
        by_cases e : a = 7
        · obtain ⟨q1, q2, q3⟩ := hj e; simp [zu_ap, q1, q2, q3]
        · simp [zu_ap, e]
      · rw [if_neg (fun q => h3 ((nI_ltI (by omega) (by omega)).mp q)), if_neg h3]
        refine ⟨_, rfl, by simp [zu_ap], by simp [zu_ap], by simp [zu_ap, hrd], by simp [zu_ap], fun a j hj => ?_⟩
        by_cases e : a = 7
        · obtain ⟨q1, q2, q3⟩ := hj e; simp [zu_ap, q1, q2, q3]
        · simp [zu_ap, e]
    · rw [if_neg h2, if_neg h2]
      refine ⟨_, rfl, by simp [zu_ap, ha], by simp [zu_ap], by simp [zu_ap, hrd], by simp [zu_ap], fun a j hj => ?_⟩
      by_cases e : a = 7
      · obtain ⟨q1, q2, q3⟩ := hj e; simp [zu_ap, q1, q2, q3]
      · simp [zu_ap, e]
  · rw [if_neg h1, if_neg h1]
    refine ⟨_, rfl, by simp [zu_ap, ha], by simp [zu_ap], by simp [zu_ap, hrd], by simp [zu_ap], fun a j hj => ?_⟩
    by_cases e : a = 7
    · obtain ⟨q1, q2, q3⟩ := hj e; simp [zu_ap, q1, q2, q3]
    · simp [zu_ap, e]
/-- a step of a hill that goes: its at, speed, rider, how; the steps gone are one more -/
theorem c_step_7 (H : zHil h 7 g n k) (V : zVal g n k) {s r : Nat} (hs : s < n) (hr : r < k) (ha : h 7 8 = nI s) (hrd : h 7 10 = nI r) (hm : h 7 11 = 0) {u w : Nat → Bool} :
    ∃ h', zcal (d + 3) 30 [.ref 7, .int (s_rn u s), .int (s_wd w s)] h = some (none, h') ∧ h' 7 8 = nI (s_nx g n w s (h 7 9) (s_r1 g u s (h 7 9) (h 7 10))).1 ∧ h' 7 9 = (s_nx g n w s (h 7 9) (s_r1 g u s (h 7 9) (h 7 10))).2.1 ∧ h' 7 10 = (s_nx g n w s (h 7 9) (s_r1 g u s (h 7 9) (h 7 10))).2.2.1 ∧ h' 7 11 = (s_nx g n w s (h 7 9) (s_r1 g u s (h 7 9) (h 7 10))).2.2.2 ∧ h' 7 12 = h 7 12 + 1 ∧ ∀ a j, (a = 7 → j < 8 ∨ 12 < j) → h' a j = h a j := by
  have H1 : zHil (z_up h 7 12 (h 7 12 + 1)) 7 g n k := zHil_mv H (by simp [zu_ap]) (by simp [zu_ap]) (fun j h1 h2 => by funext x; rw [zu_nc]; omega)
  have hv1 : z_up h 7 12 (h 7 12 + 1) 7 9 = h 7 9 := by simp [zu_ap]
  rw [E30_7, if_pos hm, c_wt_7 H1 V hs (by simp [zu_ap, ha]), zCi_some, c_up_7 H1 V hs, zCi_some, hv1]
  unfold s_r1
  by_cases hu : s_up g u s (h 7 9) = true
  · rw [if_pos hu, if_neg (by decide), if_pos hu]
    obtain ⟨x, hx, e⟩ : ∃ x, x < k ∧ g 2 s = nI x := by
      rcases (V.2.2.1 s hs).1 with e | e
      · exfalso; rw [s_up, e, decide_eq_false (show ¬ (0 : Int32) ≤ -9 by decide), Bool.false_and] at hu; cases hu
      · exact e
    rw [e]
    have H2 : zHil (z_up (z_up h 7 12 (h 7 12 + 1)) 7 10 (nI x)) 7 g n k := zHil_mv H1 (by simp [zu_ap]) (by simp [zu_ap]) (fun j h1 h2 => by funext x; rw [zu_nc]; omega)
    obtain ⟨h', e1, e2, e3, e4, e5, e6⟩ := c_st37_7 (d := d) H2 V hs hx (by simp [zu_ap, ha]) (by simp [zu_ap]) (by simp [zu_ap, hm]) (w := w) (x1 := s_rn u s) (x3 := nI x)
    have hv2 : z_up (z_up h 7 12 (h 7 12 + 1)) 7 10 (nI x) 7 9 = h 7 9 := by simp [zu_ap]
    rw [hv2] at e2 e3 e4 e5
    refine ⟨h', e1, e2, e3, e4, e5, by rw [e6 _ _ (fun _ => by decide)]; simp [zu_ap], fun a j hj => ?_⟩
    by_cases e : a = 7
    · subst e
      have q := hj rfl
      rw [e6 _ j (fun _ => by omega), zu_ni _ _ (by omega), zu_ni _ _ (by omega)]
    · rw [e6 a j (fun q => absurd q e), zu_nc _ _ e, zu_nc _ _ e]
  · rw [if_neg hu, if_pos rfl, if_neg hu, hrd]
    obtain ⟨h', e1, e2, e3, e4, e5, e6⟩ := c_st37_7 (d := d) H1 V hs hr (by simp [zu_ap, ha]) (by simp [zu_ap, hrd]) (by simp [zu_ap, hm]) (w := w) (x1 := s_rn u s) (x3 := g 2 s)
    rw [hv1] at e2 e3 e4 e5
    refine ⟨h', e1, e2, e3, e4, e5, by rw [e6 _ _ (fun _ => by decide)]; simp [zu_ap], fun a j hj => ?_⟩
    by_cases e : a = 7
    · subst e
      have q := hj rfl
      rw [e6 _ j (fun _ => by omega), zu_ni _ _ (by omega)]
    · rw [e6 a j (fun q => absurd q e), zu_nc _ _ e]
end HILL7
section HILL1
variable {d : Nat} {h : zH} {g : zHl} {n k : Nat}
theorem c_hasS_1 (H : zHil h 1 g n k) (V : zVal g n k) {i : Int32} : zcal (d + 1) 25 [.ref 1, .int i] h = some (some (.int (if 0 ≤ i ∧ i < nI n then 1 else 0)), h) := by
  rw [E25_1, H.1]
  by_cases h1 : i < 0
  · rw [if_pos h1, if_neg (fun q => Int32.not_le.mpr h1 q.1)]
  · rw [if_neg h1]
    by_cases h2 : i ≥ nI n
    · rw [if_pos h2, if_neg (fun q => Int32.not_le.mpr q.2 h2)]
    · rw [if_neg h2, if_pos ⟨Int32.not_lt.mp h1, Int32.not_le.mp h2⟩]
theorem c_hasR_1 (H : zHil h 1 g n k) (V : zVal g n k) {i : Int32} : zcal (d + 1) 26 [.ref 1, .int i] h = some (some (.int (if 0 ≤ i ∧ i < nI k then 1 else 0)), h) := by
  rw [E26_1, H.2.1]
  by_cases h1 : i < 0
  · rw [if_pos h1, if_neg (fun q => Int32.not_le.mpr h1 q.1)]
  · rw [if_neg h1]
    by_cases h2 : i ≥ nI k
    · rw [if_pos h2, if_neg (fun q => Int32.not_le.mpr q.2 h2)]
    · rw [if_neg h2, if_pos ⟨Int32.not_lt.mp h1, Int32.not_le.mp h2⟩]
theorem c_hasSn_1 (H : zHil h 1 g n k) (V : zVal g n k) {s : Nat} (hs : s < n) : zcal (d + 1) 25 [.ref 1, .int (nI s)] h = some (some (.int 1), h) := by
  rw [c_hasS_1 H V, if_pos ⟨nI_pos' (by have := V.1; omega), nI_lt hs (by have := V.1; omega)⟩]
theorem c_hasRn_1 (H : zHil h 1 g n k) (V : zVal g n k) {r : Nat} (hr : r < k) : zcal (d + 1) 26 [.ref 1, .int (nI r)] h = some (some (.int 1), h) := by
  rw [c_hasR_1 H V, if_pos ⟨nI_pos' (by have := V.2.1; omega), nI_lt hr (by have := V.2.1; omega)⟩]
theorem c_hasR9_1 (H : zHil h 1 g n k) (V : zVal g n k) : zcal (d + 1) 26 [.ref 1, .int (-9)] h = some (some (.int 0), h) := by
  rw [c_hasR_1 H V, if_neg (fun q => absurd q.1 (by decide))]
/-- who waits: none, or a rider -/
theorem c_wt_1 (H : zHil h 1 g n k) (V : zVal g n k) {s : Nat} (hs : s < n) (ha : h 1 8 = nI s) : zcal (d + 2) 31 [.ref 1] h = some (some (.int (g 2 s)), h) := by
  have hn := V.1
  rw [E31_1, ha, c_hasSn_1 H V hs, zCi_some, if_neg (by decide), ha, c_get (n := 10) rfl (by omega), zCi_some, gt_nI (by omega) (by omega), (H.2.2.1 s hs).2.2]
theorem c_hasW_1 (H : zHil h 1 g n k) (V : zVal g n k) {s : Nat} (hs : s < n) : zcal (d + 1) 26 [.ref 1, .int (g 2 s)] h = some (some (.int (if 0 ≤ g 2 s then 1 else 0)), h) := by
  rcases (V.2.2.1 s hs).1 with e | ⟨x, hx, e⟩
  · rw [e, c_hasR9_1 H V, if_neg (by decide)]
  · rw [e, c_hasRn_1 H V hx, if_pos (nI_pos' (by have := V.2.1; omega))]
theorem c_up_1 (H : zHil h 1 g n k) (V : zVal g n k) {s : Nat} (hs : s < n) {u : Nat → Bool} : zcal (d + 2) 32 [.ref 1, .int (g 2 s), .int (s_rn u s)] h = some (some (.int (if s_up g u s (h 1 9) = true then 1 else 0)), h) := by
  rw [E32_1, c_hasW_1 H V hs, zCi_some]
  unfold s_up
  rcases (V.2.2.1 s hs).1 with e | ⟨x, hx, e⟩
  · rw [e, if_neg (show ¬ (0 : Int32) ≤ -9 by decide), if_pos rfl, decide_eq_false (show ¬ (0 : Int32) ≤ -9 by decide), Bool.false_and, if_neg (by decide)]
  · have hk := V.2.1
    have h0 : (0 : Int32) ≤ nI x := nI_pos' (by omega)
    rw [e, if_pos h0, if_neg (by decide), c_get (n := 5) rfl (by omega), zCi_some, gt_nI (by omega) (by omega), (H.2.2.2 x hx).2, nI_tn (by omega), decide_eq_true h0, Bool.true_and]
    by_cases hc : h 1 9 > ((20 : Int32) + ((2 : Int32) * g 4 x)) + s_rn u s
    · rw [if_pos hc, decide_eq_false (Int32.not_le.mpr hc), if_neg (by decide)]
    · rw [if_neg hc, decide_eq_true (Int32.not_lt.mp hc), if_pos rfl]
theorem c_hold_1 (H : zHil h 1 g n k) (V : zVal g n k) {s r : Nat} (hs : s < n) (hr : r < k) : zcal (d + 2) 33 [.ref 1, .int (nI s), .int (nI r)] h = some (some (.int (s_hold g s (nI r))), h) := by
  have hn := V.1; have hk := V.2.1
  rw [E33_1, c_get (n := 10) rfl (by omega), zCi_some, gt_nI (by omega) (by omega), (H.2.2.1 s hs).1]
  unfold s_hold
  rw [nI_tn (by omega)]
  by_cases h1 : g 0 s = 1
  · rw [if_pos h1, if_pos h1, c_get (n := 5) rfl (by omega), zCi_some, gt_nI (by omega) (by omega), (H.2.2.2 r hr).2]
  · rw [if_neg h1, if_neg h1]
    by_cases h3 : g 0 s = 3
    · rw [if_pos h3, if_pos h3, c_get (n := 5) rfl (by omega), zCi_some, gt_nI (by omega) (by omega), (H.2.2.2 r hr).2]
    · rw [if_neg h3, if_neg h3]
theorem c_beh_1 (H : zHil h 1 g n k) (V : zVal g n k) {s r : Nat} (hs : s < n) (hr : r < k) {v : Int32} : zcal (d + 2) 34 [.ref 1, .int (nI s), .int (nI r), .int v] h = some (some (.int (s_min (s_bec g s (nI r) v))), h) := by
  have hn := V.1; have hk := V.2.1
  rw [E34_1, c_get (n := 5) rfl (by omega), zCi_some, gt_nI (by omega) (by omega), (H.2.2.2 r hr).1, c_get (n := 10) rfl (by omega), zCi_some, gt_nI (by omega) (by omega), (H.2.2.1 s hs).2.1, c_get (n := 10) rfl (by omega), zCi_some, gt_nI (by omega) (by omega), (H.2.2.1 s hs).1]
  unfold s_bec
  rw [nI_tn (by omega)]
  by_cases h1 : g 0 s = 1
  · rw [if_pos h1, if_pos h1, c_min, zCi_some]
  · rw [if_neg h1, if_neg h1]
    by_cases h2 : g 0 s = 2
    · rw [if_pos h2, if_pos h2, c_min, zCi_some]
    · rw [if_neg h2, if_neg h2]
      by_cases h3 : g 0 s = 3
      · rw [if_pos h3, if_pos h3, c_min, zCi_some]
      · rw [if_neg h3, if_neg h3]
        by_cases h4 : g 0 s = 4
        · rw [if_pos h4, if_pos h4, c_min, zCi_some]
        · rw [if_neg h4, if_neg h4]
          by_cases h5 : g 0 s = 5
          · rw [if_pos h5, if_pos h5, c_min, zCi_some]
          · rw [if_neg h5, if_neg h5, c_min, zCi_some]
theorem c_st37_1 (H : zHil h 1 g n k) (V : zVal g n k) {s r : Nat} (hs : s < n) (hr : r < k) (ha : h 1 8 = nI s) (hrd : h 1 10 = nI r) (hm : h 1 11 = 0) {w : Nat → Bool} {x1 x3 : Int32} :
    ∃ h', zE (d + 2) 30 (37, [some (.ref 1), some (.int x1), some (.int (s_wd w s)), some (.int x3)], [], h) = some (none, h') ∧ h' 1 8 = nI (s_nx g n w s (h 1 9) (nI r)).1 ∧ h' 1 9 = (s_nx g n w s (h 1 9) (nI r)).2.1 ∧ h' 1 10 = (s_nx g n w s (h 1 9) (nI r)).2.2.1 ∧ h' 1 11 = (s_nx g n w s (h 1 9) (nI r)).2.2.2 ∧ ∀ a j, (a = 1 → j ≠ 8 ∧ j ≠ 9 ∧ j ≠ 11) → h' a j = h a j := by
  have hn := V.1
  have hlt : (nI s + 1 < nI n) ↔ s + 1 < n := by rw [nI_1]; exact nI_ltI (by omega) (by omega)
  rw [E30_1_at37, ha, hrd, c_hold_1 H V hs hr, zCi_some]
  unfold s_nx
  by_cases h1 : h 1 9 ≤ s_hold g s (nI r)
  · rw [if_pos h1, if_pos h1, ha, hrd, c_beh_1 H V hs hr, zCi_some]
    by_cases h2 : s_min (s_bec g s (nI r) (h 1 9)) - s_wd w s > 0
    · rw [if_pos h2, if_pos h2, ha, H.1, nI_1]
      by_cases h3 : s + 1 < n
      · rw [if_pos (nI_lt h3 (by omega)), if_pos h3]
        refine ⟨_, rfl, by simp [zu_ap], by simp [zu_ap], by simp [zu_ap, hrd], by simp [zu_ap, hm], fun a j hj => ?_⟩
        by_cases e : a = 1
        · obtain ⟨q1, q2, q3⟩ := hj e; simp [zu_ap, q1, q2, q3]
        · simp [zu_ap, e]
      · rw [if_neg (fun q => h3 ((nI_ltI (by omega) (by omega)).mp q)), if_neg h3]
        refine ⟨_, rfl, by simp [zu_ap], by simp [zu_ap], by simp [zu_ap, hrd], by simp [zu_ap], fun a j hj => ?_⟩
        by_cases e : a = 1
        · obtain ⟨q1, q2, q3⟩ := hj e; simp [zu_ap, q1, q2, q3]
        · simp [zu_ap, e]
    · rw [if_neg h2, if_neg h2]
      refine ⟨_, rfl, by simp [zu_ap, ha], by simp [zu_ap], by simp [zu_ap, hrd], by simp [zu_ap], fun a j hj => ?_⟩
      by_cases e : a = 1
      · obtain ⟨q1, q2, q3⟩ := hj e; simp [zu_ap, q1, q2, q3]
      · simp [zu_ap, e]
  · rw [if_neg h1, if_neg h1]
    refine ⟨_, rfl, by simp [zu_ap, ha], by simp [zu_ap], by simp [zu_ap, hrd], by simp [zu_ap], fun a j hj => ?_⟩
    by_cases e : a = 1
    · obtain ⟨q1, q2, q3⟩ := hj e; simp [zu_ap, q1, q2, q3]
    · simp [zu_ap, e]
/-- a step of a hill that goes: its at, speed, rider, how; the steps gone are one more -/
theorem c_step_1 (H : zHil h 1 g n k) (V : zVal g n k) {s r : Nat} (hs : s < n) (hr : r < k) (ha : h 1 8 = nI s) (hrd : h 1 10 = nI r) (hm : h 1 11 = 0) {u w : Nat → Bool} :
    ∃ h', zcal (d + 3) 30 [.ref 1, .int (s_rn u s), .int (s_wd w s)] h = some (none, h') ∧ h' 1 8 = nI (s_nx g n w s (h 1 9) (s_r1 g u s (h 1 9) (h 1 10))).1 ∧ h' 1 9 = (s_nx g n w s (h 1 9) (s_r1 g u s (h 1 9) (h 1 10))).2.1 ∧ h' 1 10 = (s_nx g n w s (h 1 9) (s_r1 g u s (h 1 9) (h 1 10))).2.2.1 ∧ h' 1 11 = (s_nx g n w s (h 1 9) (s_r1 g u s (h 1 9) (h 1 10))).2.2.2 ∧ h' 1 12 = h 1 12 + 1 ∧ ∀ a j, (a = 1 → j < 8 ∨ 12 < j) → h' a j = h a j := by
  have H1 : zHil (z_up h 1 12 (h 1 12 + 1)) 1 g n k := zHil_mv H (by simp [zu_ap]) (by simp [zu_ap]) (fun j h1 h2 => by funext x; rw [zu_nc]; omega)
  have hv1 : z_up h 1 12 (h 1 12 + 1) 1 9 = h 1 9 := by simp [zu_ap]
  rw [E30_1, if_pos hm, c_wt_1 H1 V hs (by simp [zu_ap, ha]), zCi_some, c_up_1 H1 V hs, zCi_some, hv1]
  unfold s_r1
  by_cases hu : s_up g u s (h 1 9) = true
  · rw [if_pos hu, if_neg (by decide), if_pos hu]
    obtain ⟨x, hx, e⟩ : ∃ x, x < k ∧ g 2 s = nI x := by
      rcases (V.2.2.1 s hs).1 with e | e
      · exfalso; rw [s_up, e, decide_eq_false (show ¬ (0 : Int32) ≤ -9 by decide), Bool.false_and] at hu; cases hu
      · exact e
    rw [e]
    have H2 : zHil (z_up (z_up h 1 12 (h 1 12 + 1)) 1 10 (nI x)) 1 g n k := zHil_mv H1 (by simp [zu_ap]) (by simp [zu_ap]) (fun j h1 h2 => by funext x; rw [zu_nc]; omega)
    obtain ⟨h', e1, e2, e3, e4, e5, e6⟩ := c_st37_1 (d := d) H2 V hs hx (by simp [zu_ap, ha]) (by simp [zu_ap]) (by simp [zu_ap, hm]) (w := w) (x1 := s_rn u s) (x3 := nI x)
    have hv2 : z_up (z_up h 1 12 (h 1 12 + 1)) 1 10 (nI x) 1 9 = h 1 9 := by simp [zu_ap]
    rw [hv2] at e2 e3 e4 e5
    refine ⟨h', e1, e2, e3, e4, e5, by rw [e6 _ _ (fun _ => by decide)]; simp [zu_ap], fun a j hj => ?_⟩
    by_cases e : a = 1
    · subst e
      have q := hj rfl
      rw [e6 _ j (fun _ => by omega), zu_ni _ _ (by omega), zu_ni _ _ (by omega)]
    · rw [e6 a j (fun q => absurd q e), zu_nc _ _ e, zu_nc _ _ e]
  · rw [if_neg hu, if_pos rfl, if_neg hu, hrd]
    obtain ⟨h', e1, e2, e3, e4, e5, e6⟩ := c_st37_1 (d := d) H1 V hs hr (by simp [zu_ap, ha]) (by simp [zu_ap, hrd]) (by simp [zu_ap, hm]) (w := w) (x1 := s_rn u s) (x3 := g 2 s)
    rw [hv1] at e2 e3 e4 e5
    refine ⟨h', e1, e2, e3, e4, e5, by rw [e6 _ _ (fun _ => by decide)]; simp [zu_ap], fun a j hj => ?_⟩
    by_cases e : a = 1
    · subst e
      have q := hj rfl
      rw [e6 _ j (fun _ => by omega), zu_ni _ _ (by omega)]
    · rw [e6 a j (fun q => absurd q e), zu_nc _ _ e]
end HILL1

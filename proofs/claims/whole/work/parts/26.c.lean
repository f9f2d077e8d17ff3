theorem RelH_b {h h' : zH} {g : zHl} {n k : Nat} (R : RelH g n k h) (c : ∀ a, 2 ≤ a → a ≤ 6 → h' a = h a) (c1 : h' 1 5 = h 1 5 ∧ h' 1 6 = h 1 6) (r : ∀ a, 34 ≤ a → a ≤ 38 → h' a = h a) (f : h' 32 6 = h 32 6 ∧ h' 32 7 = h 32 7) (b : bOk n k (fun i => h' 1 (7 + i))) (e : ∀ i, i < 6 → h' 32 (8 + i) = h' 1 (7 + i)) : RelH g n k h' :=
  ⟨R.1, zHil_mv R.2.1 c1.1 c1.2 (fun j h1 h2 => c _ (by omega) (by omega)), zHr_mv R.2.2.1 f.1 f.2 r, b, e⟩
theorem sim_starts {a : Int32} : zSim 51 169 [.int a] := by
  intro d h R
  obtain ⟨⟨g, n, k, R0⟩, C⟩ := id R
  have RH := R0.1
  by_cases a0 : 0 ≤ a
  · by_cases a9 : a ≤ 99
    · obtain ⟨f, c, P⟩ := RelP_f R0.2.2.2.2.1
      obtain ⟨h1, e1, cP, F1⟩ := c_push (d := d + 7) (h := h) P.1 P.2.1 P.2.2.1 P.2.2.2.1
      obtain ⟨h3, e3, rP, F3, F3', F3''⟩ := r_push (d := d + 5) (h := z_up h1 1 7 a) (c := c) P.2.1 (by rw [z_up_ne (by omega), F1 32 (by omega) (by omega)]; exact P.2.2.2.2.1)
      have k1 : ∀ j, z_up h3 32 8 a 1 j = if j = 7 then a else h 1 j := fun j => by rw [z_up_ne (by omega), F3 1 (by omega) (by omega), zu_ap, F1 1 (by omega) (by omega)]; simp
      have k0 : ∀ b, (2 ≤ b ∧ b ≤ 6) ∨ (34 ≤ b ∧ b ≤ 38) → z_up h3 32 8 a b = h b := fun b hb => by rw [z_up_ne (by omega), F3 b (by omega) (by omega), z_up_ne (by omega), F1 b (by omega) (by omega)]
      have k32 : ∀ j, j ≠ 23 → j ≠ 24 → j ≠ 25 → z_up h3 32 8 a 32 j = if j = 8 then a else h 32 j := fun j q1 q2 q3 => by rw [zu_ap, F3' j q1 q2 q3, z_up_ne (by omega), F1 32 (by omega) (by omega)]; simp
      refine sim_ok (v := .int (h 1 7)) (h1 := z_up h1 1 7 a) (h2 := z_up h3 32 8 a) ?_ ?_ ?_
      · rw [E51_0, if_pos (show a ≥ 0 from a0), if_pos a9, e1, zCv_some, F1 1 (by omega) (by omega)]
      · rw [E169_32, r_bound, if_pos a0, if_pos a9, zCi_some, if_pos rfl, e3, zCv_some, F3' 8 (by omega) (by omega) (by omega), z_up_ne (by omega), F1 32 (by omega) (by omega), RH.2.2.2.2 0 (by omega)]
      · refine psh_rel (g' := g) R0 C P cP F1 (fun a ha => z_up_ne (by omega)) rP F3 F3' F3'' (fun a q1 q2 q3 q4 => z_up_ne q1) (fun j hj => by rw [zu_ni _ _ (by omega)]) (fun _ _ => rfl) (RelH_b RH (fun a p q => k0 a (by omega)) ⟨by rw [k1, if_neg (by omega)], by rw [k1, if_neg (by omega)]⟩ (fun a p q => k0 a (by omega)) ⟨by rw [k32 6 (by omega) (by omega) (by omega), if_neg (by omega)], by rw [k32 7 (by omega) (by omega) (by omega), if_neg (by omega)]⟩ ?_ (fun i hi => ?_))
        · obtain ⟨b1, b2, b3, b4⟩ := RH.2.2.2.1
          unfold bOk
          simp only [k1]
          exact ⟨in99 a0 a9, b2, b3, b4⟩
        · rw [k32 _ (by omega) (by omega) (by omega), k1]
          by_cases q : i = 0
          · rw [if_pos (by omega), if_pos (by omega)]
          · rw [if_neg (by omega), if_neg (by omega)]; exact RH.2.2.2.2 i hi
    · refine sim_rf R (c := -6) (j := 5) (by omega) ?_ ?_
      · rw [E51_0, if_pos (show a ≥ 0 from a0), if_neg a9, c_rf6, zCi_some]
      · rw [E169_32, r_bound, if_pos a0, if_neg a9, zCi_some, if_neg (by decide), r_no6, zCi_some]
  · refine sim_rf R (c := -4) (j := 3) (by omega) ?_ ?_
    · rw [E51_0, if_neg (show ¬ a ≥ 0 from a0), c_rf4, zCi_some]
    · rw [E169_32, r_bound, if_neg a0, zCi_some, if_neg (by decide), r_no4, zCi_some]
theorem stR_o {h : zH} {q : zQ} {c j : Nat} (h1 : c ≠ 44 ∧ c ≠ 45) (h2 : c ≠ 32 ∨ (j < 28 ∨ 35 < j)) : stR h q c j = h c j := by
  unfold stR fl2
  rw [if_neg (by omega)]
  simp only [zu_ap]
  rw [if_neg (by omega), if_neg (by omega), if_neg (by omega), if_neg (by omega), if_neg (by omega), if_neg (by omega), if_neg (by omega), if_neg (by omega)]
theorem stR_v {h : zH} {q : zQ} : stR h q 32 28 = 0 ∧ stR h q 32 29 = q.2.1 ∧ stR h q 32 30 = q.2.2.1 ∧ stR h q 32 31 = q.2.2.2 := by
  unfold stR fl2
  simp [zu_ap]
theorem r_begin {d : Nat} {h : zH} {g : zHl} {n k : Nat} (H : zHr h g n k) (V : zVal g n k) : ∃ h', zcal (d + 2) 143 [.ref 32] h = some (none, h') ∧ h' 32 9 = 0 ∧ h' 32 10 = h 32 8 ∧ h' 32 11 = (rQ0 n k (h 32 8) 0).2.2.1 ∧ h' 32 12 = (rQ0 n k (h 32 8) 0).2.2.2 ∧ (∀ a, a ≠ 32 → a ≠ 44 → a ≠ 45 → h' a = h a) ∧ ∀ j, j < 9 ∨ (12 < j ∧ j < 28) ∨ 35 < j → h' 32 j = h 32 j := by
  obtain ⟨s1, s2, s3, s4⟩ := stR_v (h := h) (q := rQ0 n k (h 32 8) 0)
  refine ⟨_, by rw [E143_32, r_starts H V, zCv_some, E145_32, zCv_some, s1, s2, s3, s4], by simp [zu_ap], by simp [zu_ap, rQ0], by simp [zu_ap], by simp [zu_ap], fun a q1 q2 q3 => ?_, fun j hj => ?_⟩
  · rw [z_up_ne q1, z_up_ne q1, z_up_ne q1, z_up_ne q1]
    funext j
    exact stR_o ⟨q2, q3⟩ (Or.inl q1)
  · rw [zu_ni _ _ (by omega), zu_ni _ _ (by omega), zu_ni _ _ (by omega), zu_ni _ _ (by omega)]
    exact stR_o ⟨by omega, by omega⟩ (Or.inr (by omega))
theorem sim_begins : zSim 52 170 [] := by
  intro d h R
  obtain ⟨⟨g, n, k, R0⟩, C⟩ := id R
  have RH := R0.1
  have V := R0.1.1; have H1 := R0.1.2.1; have H2 := R0.1.2.2.1
  obtain ⟨f, c, P⟩ := RelP_f R0.2.2.2.2.1
  obtain ⟨h1, e1, cP, F1⟩ := c_push (d := d + 7) (h := h) P.1 P.2.1 P.2.2.1 P.2.2.2.1
  have f1 : ∀ a, a ≠ 23 → a ≠ 24 → h1 a = h a := F1
  have H1b : zHil h1 1 g n k := zHil_mv H1 (by rw [F1 1 (by omega) (by omega)]) (by rw [F1 1 (by omega) (by omega)]) (fun j p q => F1 _ (by omega) (by omega))
  have e2 := c_begin_1 (d := d + 8) H1b V
  generalize hh2 : z_up (z_up (z_up (z_up h1 1 8 0) 1 9 (h1 1 7)) 1 10 (rQ0 n k (h1 1 7) 0).2.2.1) 1 11 (rQ0 n k (h1 1 7) 0).2.2.2 = h2 at e2
  have F2 : ∀ a, a ≠ 1 → h2 a = h1 a := fun a ha => by rw [← hh2, z_up_ne ha, z_up_ne ha, z_up_ne ha, z_up_ne ha]
  have g1 : ∀ j, j < 8 ∨ 11 < j → h2 1 j = h 1 j := fun j hj => by rw [← hh2, zu_ni _ _ (by omega), zu_ni _ _ (by omega), zu_ni _ _ (by omega), zu_ni _ _ (by omega), F1 1 (by omega) (by omega)]
  have g8 : h2 1 8 = 0 := by rw [← hh2]; simp [zu_ap]
  have g9 : h2 1 9 = h 1 7 := by rw [← hh2, ← F1 1 (by omega) (by omega)]; simp [zu_ap]
  have g10 : h2 1 10 = (rQ0 n k (h 1 7) 0).2.2.1 := by rw [← hh2, ← F1 1 (by omega) (by omega)]; simp [zu_ap]
  have g11 : h2 1 11 = (rQ0 n k (h 1 7) 0).2.2.2 := by rw [← hh2, ← F1 1 (by omega) (by omega)]; simp [zu_ap]
  obtain ⟨h3, e3, rP, F3, F3', F3''⟩ := r_push (d := d + 5) (h := h2) (c := c) P.2.1 (by rw [F2 32 (by omega), F1 32 (by omega) (by omega)]; exact P.2.2.2.2.1)
  have H2b : zHr h3 g n k := zHr_mv H2 (by rw [F3' 6 (by omega) (by omega) (by omega), F2 32 (by omega), F1 32 (by omega) (by omega)]) (by rw [F3' 7 (by omega) (by omega) (by omega), F2 32 (by omega), F1 32 (by omega) (by omega)]) (fun a p q => by rw [F3 a (by omega) (by omega), F2 a (by omega), F1 a (by omega) (by omega)])
  obtain ⟨h4, e4, v9, v10, v11, v12, F4, F4'⟩ := r_begin (d := d + 7) H2b V
  have s8 : h3 32 8 = h 1 7 := by rw [F3' 8 (by omega) (by omega) (by omega), F2 32 (by omega), F1 32 (by omega) (by omega)]; exact RH.2.2.2.2 0 (by omega)
  rw [s8] at v10 v11 v12
  refine sim_ok (v := .int (rQ0 n k (h 1 7) 0).2.2.2) (h1 := h2) (h2 := h4) ?_ ?_ ?_
  · rw [E52_0, e1, zCv_some, e2, zCv_some, g11]
  · rw [E170_32, e3, zCv_some, e4, zCv_some, v12]
  · have k1 : ∀ b, b < 32 → b ≠ 1 → b ≠ 23 → b ≠ 24 → h4 b = h b := fun b q1 q2 q3 q4 => by rw [F4 b (by omega) (by omega) (by omega), F3 b (by omega) (by omega), F2 b q2, F1 b q3 q4]
    have k11 : h4 1 = h2 1 := by rw [F4 1 (by omega) (by omega) (by omega), F3 1 (by omega) (by omega)]
    have k3 : ∀ a, 34 ≤ a → a ≤ 38 → h4 a = h a := fun a p q => by rw [F4 a (by omega) (by omega) (by omega), F3 a (by omega) (by omega), F2 a (by omega), F1 a (by omega) (by omega)]
    have k32 : ∀ j, j < 9 ∨ j = 13 → h4 32 j = h 32 j := fun j hj => by rw [F4' j (by omega), F3' j (by omega) (by omega) (by omega), F2 32 (by omega), F1 32 (by omega) (by omega)]
    have B := RH.2.2.2.1
    have Q := RH.2.2.2.2
    refine psh_rel (g' := g) R0 C P cP F1 (fun a ha => F2 a (by omega)) rP F3 F3' F3'' (fun a q1 q2 q3 q4 => F4 a q1 q2 q3) (fun j hj => F4' j (by omega)) (fun _ _ => rfl) (RelH_b RH (fun a p q => k1 a (by omega) (by omega) (by omega) (by omega)) ⟨by rw [k11, g1 5 (by omega)], by rw [k11, g1 6 (by omega)]⟩ k3 ⟨k32 6 (by omega), k32 7 (by omega)⟩ ?_ (fun i hi => ?_))
    · rw [k11]
      refine ⟨?_, ?_, ?_, ?_⟩
      · show zIn (h2 1 7) 0 99
        rw [g1 7 (by omega)]; exact B.1
      · show zIn (h2 1 9) 0 99
        rw [g9]; exact B.1
      · show ∃ t, t ≤ 999 ∧ h2 1 12 = nI t
        rw [g1 12 (by omega)]; exact B.2.2.1
      · show h2 1 11 = 0 → ∃ a, a < n ∧ h2 1 8 = nI a ∧ s_rid k (h2 1 10)
        rw [g8, g10, g11]
        unfold rQ0
        dsimp only
        intro q
        by_cases k0 : k = 0
        · rw [if_pos k0] at q; exact absurd q (by decide)
        · rw [if_neg k0] at q
          by_cases n0 : n = 0
          · rw [if_pos n0] at q; exact absurd q (by decide)
          · rw [if_neg k0]
            exact ⟨0, by omega, rfl, 0, by omega, rfl⟩
    · rw [k11]
      have hi : i = 0 ∨ i = 1 ∨ i = 2 ∨ i = 3 ∨ i = 4 ∨ i = 5 := by omega
      rcases hi with rfl | rfl | rfl | rfl | rfl | rfl
      · rw [k32 _ (by omega), g1 _ (by omega)]; exact Q 0 (by omega)
      · exact v9.trans g8.symm
      · exact v10.trans g9.symm
      · exact v11.trans g10.symm
      · exact v12.trans g11.symm
      · rw [k32 _ (by omega), g1 _ (by omega)]; exact Q 5 (by omega)

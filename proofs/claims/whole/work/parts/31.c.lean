theorem c_steps0 {d : Nat} {h : zH} (hm : h 1 11 ≠ 0) {x : Int32} : zcal (d + 1) 29 [.ref 1, .int x] h = some (none, h) := by
  rw [E29_1, E29_1_at2]
  by_cases hx : (0 : Int32) ≥ x
  · rw [if_pos hx]
  · rw [if_neg hx, if_neg hm]
theorem sim_steps {a : Int32} : zSim 53 171 [.int a] := by
  intro d h R
  obtain ⟨⟨g, n, k, R0⟩, C⟩ := id R
  have RH := R0.1
  have V := RH.1; have H1 := RH.2.1; have H2 := RH.2.2.1; have B := RH.2.2.2.1; have Q := RH.2.2.2.2
  have hn := V.1
  by_cases a1 : 1 ≤ a
  · by_cases a60 : a ≤ 60
    · have a60' : ¬ a > 60 := Int32.not_lt.mpr a60
      have a0 : 0 ≤ a := Int32.le_trans (by decide) a1
      obtain ⟨p, hp, rfl⟩ := nI_num (m := 60) (by omega) a0 a60
      obtain ⟨t, ht, et⟩ := B.2.2.1
      have et : h 1 12 = nI t := et
      have et2 : h 32 13 = nI t := (Q 5 (by omega)).trans et
      by_cases hs : t + p ≤ 999
      · have s1 : ¬ nI (t + p) > 999 := Int32.not_lt.mpr (nI_le (b := 999) hs (by omega))
        have s2 : nI (t + p) ≤ 999 := nI_le (b := 999) hs (by omega)
        obtain ⟨f, c, P⟩ := RelP_f R0.2.2.2.2.1
        obtain ⟨h1, e1, cP, F1⟩ := c_push (d := d + 7) (h := h) P.1 P.2.1 P.2.2.1 P.2.2.2.1
        have H1b : zHil h1 1 g n k := zHil_mv H1 (by rw [F1 1 (by omega) (by omega)]) (by rw [F1 1 (by omega) (by omega)]) (fun j p q => F1 _ (by omega) (by omega))
        have pre : zcal (d + 10) 53 [.ref 0, .int (nI p)] h = zCv (zcal (d + 9) 29 [.ref 1, .int (nI p)] h1) (fun h6 => some (some (.int (h6 1 11)), h6)) := by
          rw [E53_0, if_pos (show nI p ≥ (1 : Int32) from a1), E28_1, if_neg a60', et, nn_add, if_neg s1, zCi_some, if_neg (by decide), e1, zCv_some]
        have pre2 : ∀ h' : zH, h' 32 13 = h 32 13 → zcal (d + 10) 171 [.ref 32, .int (nI p)] h' = zCv (zcal (d + 9) 168 [.ref 32] h') (fun h1 => (zCv (zcal (d + 9) 147 [.ref 32, .int (nI p)] h1) (fun h2 => some (some (.int (h2 32 12)), h2)))) := by
          intro h' q
          rw [E171_32, r_bound, if_pos a1, if_pos a60, zCi_some, if_pos rfl, q, et2, nn_add, if_pos s2, E171_32_at27, if_pos rfl]
        by_cases hm : h 1 11 = 0
        · obtain ⟨at0, hat, eat, hrid⟩ := B.2.2.2 hm
          have eat : h 1 8 = nI at0 := eat
          have h0 : jOk n k (at0, h 1 9, h 1 10, h 1 11) := ⟨B.2.1, fun _ => ⟨hat, hrid⟩⟩
          obtain ⟨h2, e2, S1, S8, S9, S10, S11, S12, S7, SF⟩ := c_steps_1 (d := d + 5) (q0 := (at0, h 1 9, h 1 10, h 1 11)) V H1b h0 (by rw [F1 1 (by omega) (by omega), eat]) (by rw [F1 1 (by omega) (by omega)]) (by rw [F1 1 (by omega) (by omega)]) (by rw [F1 1 (by omega) (by omega)]) hp
          have c2 : ∀ a, a ≠ 1 → a ≠ 23 → a ≠ 24 → h2 a = h a := fun a q1 q2 q3 => by rw [SF a q1, F1 a q2 q3]
          obtain ⟨h3, e3, rP, F3, F3', F3''⟩ := r_push (d := d + 5) (h := h2) (c := c) P.2.1 (by rw [c2 32 (by omega) (by omega) (by omega)]; exact P.2.2.2.2.1)
          have c3 : ∀ j, j ≠ 23 → j ≠ 24 → j ≠ 25 → h3 32 j = h 32 j := fun j q1 q2 q3 => by rw [F3' j q1 q2 q3, c2 32 (by omega) (by omega) (by omega)]
          have c3a : ∀ a, a ≠ 1 → a ≠ 23 → a ≠ 24 → a ≠ 32 → a ≠ 43 → h3 a = h a := fun a q1 q2 q3 q4 q5 => by rw [F3 a q4 q5, c2 a q1 q2 q3]
          have H2b : zHr h3 g n k := zHr_mv H2 (c3 6 (by omega) (by omega) (by omega)) (c3 7 (by omega) (by omega) (by omega)) (fun a p q => c3a a (by omega) (by omega) (by omega) (by omega) (by omega))
          obtain ⟨h4, e4, T1, T9, T10, T11, T12, T13, T32, TF⟩ := r_steps (d := d + 5) (q0 := (at0, h 1 9, h 1 10, h 1 11)) V H2b h0 (rAt0_mv R0.2.2.2.2.2 (fun j p q => c3 j (by omega) (by omega) (by omega))) (by rw [c3 9 (by omega) (by omega) (by omega)]; exact (Q 1 (by omega)).trans eat) (by rw [c3 10 (by omega) (by omega) (by omega)]; exact Q 2 (by omega)) (by rw [c3 11 (by omega) (by omega) (by omega)]; exact Q 3 (by omega)) (by rw [c3 12 (by omega) (by omega) (by omega)]; exact Q 4 (by omega)) hp
          have jk := jOk_i V h0 p
          have nle := rN_le (g := g) (n := n) (q0 := (at0, h 1 9, h 1 10, h 1 11)) p
          have k11 : h4 1 = h2 1 := by rw [TF 1 (by omega) (by omega) (by omega), F3 1 (by omega) (by omega)]
          have S12' : h2 1 12 = nI (t + rN g n (at0, h 1 9, h 1 10, h 1 11) p) := by rw [S12, F1 1 (by omega) (by omega), et, nn_add]
          have T13' : h4 32 13 = nI (t + rN g n (at0, h 1 9, h 1 10, h 1 11) p) := by rw [T13, c3 13 (by omega) (by omega) (by omega), et2, nn_add]
          have s7 : ∀ j, j < 8 ∨ 12 < j → h2 1 j = h 1 j := fun j hj => by rw [S7 j hj, F1 1 (by omega) (by omega)]
          have c4 : ∀ a, a ≠ 1 → a ≠ 23 → a ≠ 24 → a ≠ 32 → a ≠ 43 → a ≠ 44 → a ≠ 45 → h4 a = h a := fun a q1 q2 q3 q4 q5 q6 q7 => by rw [TF a q4 q6 q7, c3a a q1 q2 q3 q4 q5]
          have c432 : ∀ j, j < 9 → h4 32 j = h 32 j := fun j hj => by rw [T32 j (by omega), c3 j (by omega) (by omega) (by omega)]
          refine sim_ok (v := .int (rJ g n rF rF rF (at0, h 1 9, h 1 10, h 1 11) p).2.2.2) (h1 := h2) (h2 := h4) ?_ ?_ ?_
          · rw [pre, e2, zCv_some, S11]
          · rw [pre2 _ (by rw [c2 32 (by omega) (by omega) (by omega)]), e3, zCv_some, e4, zCv_some, T12]
          · refine psh_rel (g' := g) R0 C P cP F1 (fun a ha => SF a (by omega)) rP F3 F3' F3'' (fun a q1 q2 q3 q4 => TF a q1 q2 q3) (fun j hj => T32 j (by omega)) (fun _ _ => rfl) (RelH_b RH (fun a p q => c4 a (by omega) (by omega) (by omega) (by omega) (by omega) (by omega) (by omega)) ⟨by rw [k11, s7 5 (by omega)], by rw [k11, s7 6 (by omega)]⟩ (fun a p q => c4 a (by omega) (by omega) (by omega) (by omega) (by omega) (by omega) (by omega)) ⟨c432 6 (by omega), c432 7 (by omega)⟩ ?_ (fun i hi => ?_))
            · rw [k11]
              refine ⟨?_, ?_, ?_, ?_⟩
              · show zIn (h2 1 7) 0 99
                rw [s7 7 (by omega)]; exact B.1
              · show zIn (h2 1 9) 0 99
                rw [S9]; exact jk.1
              · exact ⟨_, by omega, S12'⟩
              · show h2 1 11 = 0 → ∃ a, a < n ∧ h2 1 8 = nI a ∧ s_rid k (h2 1 10)
                rw [S8, S10, S11]
                intro q
                exact ⟨_, (jk.2 q).1, rfl, (jk.2 q).2⟩
            · rw [k11]
              have hi : i = 0 ∨ i = 1 ∨ i = 2 ∨ i = 3 ∨ i = 4 ∨ i = 5 := by omega
              rcases hi with rfl | rfl | rfl | rfl | rfl | rfl
              · rw [c432 _ (by omega), s7 _ (by omega)]; exact Q 0 (by omega)
              · exact T9.trans S8.symm
              · exact T10.trans S9.symm
              · exact T11.trans S10.symm
              · exact T12.trans S11.symm
              · exact T13'.trans S12'.symm
        · have hm1 : h1 1 11 ≠ 0 := by rw [F1 1 (by omega) (by omega)]; exact hm
          obtain ⟨h3, e3, rP, F3, F3', F3''⟩ := r_push (d := d + 5) (h := h1) (c := c) P.2.1 (by rw [F1 32 (by omega) (by omega)]; exact P.2.2.2.2.1)
          have c3 : ∀ j, j ≠ 23 → j ≠ 24 → j ≠ 25 → h3 32 j = h 32 j := fun j q1 q2 q3 => by rw [F3' j q1 q2 q3, F1 32 (by omega) (by omega)]
          have e12 : h3 32 12 = h 1 11 := by rw [c3 12 (by omega) (by omega) (by omega)]; exact Q 4 (by omega)
          obtain ⟨h4, e4, T32, TF⟩ := r_steps0 (d := d + 7) (h := h3) (by rw [e12]; exact hm) (x := nI p)
          have c4 : ∀ a, a ≠ 23 → a ≠ 24 → a ≠ 32 → a ≠ 43 → h4 a = h a := fun a q2 q3 q4 q5 => by rw [TF a q4, F3 a q4 q5, F1 a q2 q3]
          have c432 : ∀ j, j < 23 → h4 32 j = h 32 j := fun j hj => by rw [T32 j (by omega), c3 j (by omega) (by omega) (by omega)]
          refine sim_ok (v := .int (h 1 11)) (h1 := h1) (h2 := h4) ?_ ?_ ?_
          · rw [pre, c_steps0 (d := d + 8) hm1, zCv_some, F1 1 (by omega) (by omega)]
          · rw [pre2 _ (by rw [F1 32 (by omega) (by omega)]), e3, zCv_some, e4, zCv_some, T32 12 (by omega), e12]
          · have k1 : h4 1 = h 1 := c4 1 (by omega) (by omega) (by omega) (by omega)
            refine psh_rel (g' := g) R0 C P cP F1 (fun a ha => rfl) rP F3 F3' F3'' (fun a q1 q2 q3 q4 => TF a q1) (fun j hj => T32 j (by omega)) (fun _ _ => rfl) (RelH_b RH (fun a p q => c4 a (by omega) (by omega) (by omega) (by omega)) ⟨by rw [k1], by rw [k1]⟩ (fun a p q => c4 a (by omega) (by omega) (by omega) (by omega)) ⟨c432 6 (by omega), c432 7 (by omega)⟩ (by rw [k1]; exact B) (fun i hi => by rw [k1, c432 _ (by omega)]; exact Q i hi))
      · have s1 : nI (t + p) > 999 := nI_lt (a := 999) (by omega) (by omega)
        have s2 : ¬ nI (t + p) ≤ 999 := Int32.not_le.mpr s1
        refine sim_rf R (c := -6) (j := 5) (by omega) ?_ ?_
        · rw [E53_0, if_pos (show nI p ≥ (1 : Int32) from a1), E28_1, if_neg a60', et, nn_add, if_pos s1, zCi_some, if_pos rfl, c_rf6, zCi_some]
        · have e6 : refC h 5 32 13 = nI t := by unfold refC; rw [z_up_ne (by omega), et2]
          rw [E171_32, r_bound, if_pos a1, if_pos a60, zCi_some, if_pos rfl, e6, nn_add, if_neg s2, E171_32_at27, if_neg (by decide), r_no6, zCi_some]
    · refine sim_rf R (c := -6) (j := 5) (by omega) ?_ ?_
      · rw [E53_0, if_pos (show a ≥ (1 : Int32) from a1), E28_1, if_pos (Int32.not_le.mp a60), zCi_some, if_pos rfl, c_rf6, zCi_some]
      · rw [E171_32, r_bound, if_pos a1, if_neg a60, zCi_some, if_neg (by decide), E171_32_at27, if_neg (by decide), r_no6, zCi_some]
  · refine sim_rf R (c := -4) (j := 3) (by omega) ?_ ?_
    · rw [E53_0, if_neg (show ¬ a ≥ (1 : Int32) from a1), c_rf4, zCi_some]
    · rw [E171_32, r_bound, if_neg a1, zCi_some, if_neg (by decide), E171_32_at27, if_neg (by decide), r_no4, zCi_some]

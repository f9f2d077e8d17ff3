/-! WHO RODE, WHAT KIND -/
theorem sim_whoRode {a : Int32} : zSim 118 198 [.int a] := by
  intro d h R
  obtain ⟨⟨g, n, k, R0⟩, C⟩ := id R
  have V := R0.1.1
  have hn := V.1; have hk := V.2.1
  obtain ⟨m, m1, m2, m3, m4⟩ := R0.2.2.1
  have H15 := R0.1.2.1.1
  have H16 := R0.1.2.1.2.1
  have H26 := R0.1.2.2.1.1
  have H27 := R0.1.2.2.1.2.1
  by_cases ok : a = 0 ∨ a = 1
  · have in1 : (0 : Int32) ≤ a ∧ a ≤ 1 := by rcases ok with rfl | rfl <;> decide
    have pre : zcal (d + 10) 118 [.ref 0, .int a] h = zE (d + 9) 118 (16, [some (.ref 0), some (.int a)], [], h) := by
      rw [E118_0]
      by_cases a0 : a = 0
      · rw [if_pos a0]
      · rw [if_neg a0, if_pos (by rcases ok with q | q; exact absurd q a0; exact q)]
    have c40 : refC h 2 32 40 = nI m := by unfold refC; rw [z_up_ne (by omega), m3]
    have c6 : refC h 2 32 6 = nI n := by unfold refC; rw [z_up_ne (by omega), H26]
    have c7 : refC h 2 32 7 = nI k := by unfold refC; rw [z_up_ne (by omega), H27]
    by_cases mn : m ≤ n
    · have le1 : ¬ nI m > nI n := Int32.not_lt.mpr (nI_le mn (by omega))
      by_cases k0 : k = 0
      · have kz : nI k = 0 := (nI_z0 (by omega)).mpr k0
        refine sim_rf R (c := -3) (j := 2) (by omega) ?_ ?_
        · rw [pre, E118_0_at16, m2, H15, if_neg le1, H16, if_pos kz, c_rf3, zCi_some]
        · rw [E198_32, r_isIn, if_pos in1, zCi_some, if_neg (by decide), c40, c6, if_neg le1, c7, if_pos kz, E198_32_at38, if_neg (by decide), r_no3, zCi_some]
      · have kz : ¬ nI k = 0 := fun q => k0 ((nI_z0 (by omega)).mp q)
        by_cases a0 : a = 0
        · obtain ⟨v, h1, h2, e1, e2, R2, f32, F⟩ := tl_3 (d := d) (r0 := 0) (lo := 1) (hi := 9) R0 C m2 m3 (fun j hj => (m4 j hj).1) (by omega) (by omega) (by omega) (by omega) (fun i hi => zVal_M (Or.inl rfl) V (by omega))
          have e1' : zcal (d + 9) 119 [.ref 0, .int 0, .ref 11, .int 1, .int 9] h = some (some (.int v), h1) := e1
          have e2' : zcal (d + 9) 199 [.ref 32, .ref 37, .int 0, .int 1, .int 9] h1 = some (some (.int v), h2) := e2
          refine sim_ok (v := .int v) (h1 := h1) (h2 := h2) ?_ ?_ R2
          · rw [pre, E118_0_at16, m2, H15, if_neg le1, H16, if_neg kz, if_pos a0, e1', zCi_some]
          · rw [E198_32, r_isIn, if_pos in1, zCi_some, if_neg (by decide), f32, m3, H26, if_neg le1, H27, if_neg kz, E198_32_at38, if_pos rfl, if_pos a0, e2', zCi_some]
        · obtain ⟨v, h1, h2, e1, e2, R2, f32, F⟩ := tl_4 (d := d) (r0 := 0) (lo := 0) (hi := 9) R0 C m2 m3 (fun j hj => (m4 j hj).1) (by omega) (by omega) (by omega) (by omega) (fun i hi => zVal_M (Or.inr rfl) V (by omega))
          have e1' : zcal (d + 9) 119 [.ref 0, .int 0, .ref 12, .int 0, .int 9] h = some (some (.int v), h1) := e1
          have e2' : zcal (d + 9) 199 [.ref 32, .ref 38, .int 0, .int 0, .int 9] h1 = some (some (.int v), h2) := e2
          refine sim_ok (v := .int v) (h1 := h1) (h2 := h2) ?_ ?_ R2
          · rw [pre, E118_0_at16, m2, H15, if_neg le1, H16, if_neg kz, if_neg a0, e1', zCi_some]
          · rw [E198_32, r_isIn, if_pos in1, zCi_some, if_neg (by decide), f32, m3, H26, if_neg le1, H27, if_neg kz, E198_32_at38, if_pos rfl, if_neg a0, e2', zCi_some]
    · have gt1 : nI m > nI n := nI_lt (by omega) (by omega)
      refine sim_rf R (c := -3) (j := 2) (by omega) ?_ ?_
      · rw [pre, E118_0_at16, m2, H15, if_pos gt1, c_rf3, zCi_some]
      · rw [E198_32, r_isIn, if_pos in1, zCi_some, if_neg (by decide), c40, c6, if_pos gt1, E198_32_at38, if_neg (by decide), r_no3, zCi_some]
  · have n0 : ¬ a = 0 := fun q => ok (Or.inl q)
    have n1 : ¬ a = 1 := fun q => ok (Or.inr q)
    have nn : ¬ ((0 : Int32) ≤ a ∧ a ≤ 1) := fun q => by
      obtain ⟨x, hx, rfl⟩ := nI_num (m := 1) (by omega) q.1 q.2
      have : x = 0 ∨ x = 1 := by omega
      rcases this with rfl | rfl
      · exact n0 rfl
      · exact n1 rfl
    refine sim_rf R (c := -2) (j := 1) (by omega) ?_ ?_
    · rw [E118_0, if_neg n0, if_neg n1, c_rf2, zCi_some]
    · rw [E198_32, r_isIn, if_neg nn, zCi_some, if_pos rfl, E198_32_at38, if_neg (by decide), r_no2, zCi_some]
theorem sim_whatKind {a b : Int32} : zSim 121 201 [.int a, .int b] := by
  intro d h R
  obtain ⟨⟨g, n, k, R0⟩, C⟩ := id R
  have V := R0.1.1
  have hn := V.1; have hk := V.2.1
  obtain ⟨m, m1, m2, m3, m4⟩ := R0.2.2.1
  have H15 := R0.1.2.1.1
  have H26 := R0.1.2.2.1.1
  by_cases ha : 0 ≤ a ∧ a < nI n
  · obtain ⟨s, hs, rfl⟩ := i_small (by omega) ha
    by_cases ok : b = 0 ∨ b = 1
    · have in1 : (0 : Int32) ≤ b ∧ b ≤ 1 := by rcases ok with rfl | rfl <;> decide
      have pre : zcal (d + 10) 121 [.ref 0, .int (nI s), .int b] h = zE (d + 9) 121 (33, [some (.ref 0), some (.int (nI s)), some (.int b)], [], h) := by
        rw [E121_0, c_hasS_1 R0.1.2.1 V, if_pos ha, zCi_some, if_neg (by decide)]
        by_cases a0 : b = 0
        · rw [if_pos a0]
        · rw [if_neg a0, if_pos (by rcases ok with q | q; exact absurd q a0; exact q)]
      by_cases mn : m ≤ n
      · have le1 : nI m ≤ nI n := nI_le mn (by omega)
        by_cases a0 : b = 0
        · obtain ⟨v, h1, h2, e1, e2, R2, f32, F⟩ := tl_0 (d := d) (r0 := s) (lo := 0) (hi := 5) R0 C m2 m3 (fun j hj => (m4 j hj).1) (by omega) (by omega) (by omega) (by omega) (fun i hi => zVal_M0 V (by omega))
          have R1 := Rel0_mv R0 (zPers_mt F)
          have e1' : zcal (d + 9) 119 [.ref 0, .int (nI s), .ref 8, .int 0, .int 5] h = some (some (.int v), h1) := e1
          have e2' : zcal (d + 9) 199 [.ref 32, .ref 34, .int (nI s), .int 0, .int 5] h1 = some (some (.int v), h2) := e2
          refine sim_ok (v := .int v) (h1 := h1) (h2 := h2) ?_ ?_ R2
          · rw [pre, E121_0_at33, m2, H15, if_pos le1, if_pos a0, e1', zCi_some]
          · rw [E201_32, r_isS R1.1.2.2.1 V, if_pos ha, zCi_some, if_neg (by decide), r_isIn, if_pos in1, zCi_some, if_neg (by decide), f32, m3, H26, if_pos le1, E201_32_at43, if_pos rfl, if_pos a0, e2', zCi_some]
        · obtain ⟨v, h1, h2, e1, e2, R2, f32, F⟩ := tl_1 (d := d) (r0 := s) (lo := 0) (hi := 9) R0 C m2 m3 (fun j hj => (m4 j hj).1) (by omega) (by omega) (by omega) (by omega) (fun i hi => zVal_M1 V (by omega))
          have R1 := Rel0_mv R0 (zPers_mt F)
          have e1' : zcal (d + 9) 119 [.ref 0, .int (nI s), .ref 9, .int 0, .int 9] h = some (some (.int v), h1) := e1
          have e2' : zcal (d + 9) 199 [.ref 32, .ref 35, .int (nI s), .int 0, .int 9] h1 = some (some (.int v), h2) := e2
          refine sim_ok (v := .int v) (h1 := h1) (h2 := h2) ?_ ?_ R2
          · rw [pre, E121_0_at33, m2, H15, if_pos le1, if_neg a0, e1', zCi_some]
          · rw [E201_32, r_isS R1.1.2.2.1 V, if_pos ha, zCi_some, if_neg (by decide), r_isIn, if_pos in1, zCi_some, if_neg (by decide), f32, m3, H26, if_pos le1, E201_32_at43, if_pos rfl, if_neg a0, e2', zCi_some]
      · have gt1 : ¬ nI m ≤ nI n := Int32.not_le.mpr (nI_lt (by omega) (by omega))
        have c40 : refC h 2 32 40 = nI m := by unfold refC; rw [z_up_ne (by omega), m3]
        have c6 : refC h 2 32 6 = nI n := by unfold refC; rw [z_up_ne (by omega), H26]
        refine sim_rf R (c := -3) (j := 2) (by omega) ?_ ?_
        · rw [pre, E121_0_at33, m2, H15, if_neg gt1, c_rf3, zCi_some]
        · rw [E201_32, r_isS (Rel0_c R0).1.2.2.1 V, if_pos ha, zCi_some, if_neg (by decide), r_isIn, if_pos in1, zCi_some, if_neg (by decide), c40, c6, if_neg gt1, E201_32_at43, if_neg (by decide), r_no3, zCi_some]
    · have n0 : ¬ b = 0 := fun q => ok (Or.inl q)
      have n1 : ¬ b = 1 := fun q => ok (Or.inr q)
      have nn : ¬ ((0 : Int32) ≤ b ∧ b ≤ 1) := fun q => by
        obtain ⟨x, hx, rfl⟩ := nI_num (m := 1) (by omega) q.1 q.2
        have : x = 0 ∨ x = 1 := by omega
        rcases this with rfl | rfl
        · exact n0 rfl
        · exact n1 rfl
      refine sim_rf R (c := -2) (j := 1) (by omega) ?_ ?_
      · rw [E121_0, c_hasS_1 R0.1.2.1 V, if_pos ha, zCi_some, if_neg (by decide), if_neg n0, if_neg n1, c_rf2, zCi_some]
      · rw [E201_32, r_isS (Rel0_c R0).1.2.2.1 V, if_pos ha, zCi_some, if_neg (by decide), r_isIn, if_neg nn, zCi_some, if_pos rfl, E201_32_at43, if_neg (by decide), r_no2, zCi_some]
  · refine sim_rf R (c := -1) (j := 0) (by omega) ?_ ?_
    · rw [E121_0, c_hasS_1 R0.1.2.1 V, if_neg ha, zCi_some, if_pos rfl, c_rf1, zCi_some]
    · rw [E201_32, r_isS (Rel0_c R0).1.2.2.1 V, if_neg ha, zCi_some, if_pos rfl, E201_32_at43, if_neg (by decide), r_no1, zCi_some]

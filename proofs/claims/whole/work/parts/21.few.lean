/-! CALLS: THE SMALL ONES -/
theorem sim_rf {mc mr : Nat} {as : List Value} {d : Nat} {h : zH} (R : Rel h) {c : Int32} {j : Nat} (hj : j < 6) (ec : zcal (d + 10) mc (.ref 0 :: as) h = some (some (.int c), refC h j)) (er : zcal (d + 10) mr (.ref 32 :: as) (refC h j) = some (some (.int c), refR (refC h j) j)) : ∃ (v : Value) (h1 h2 : zH), zcal (d + 10) mc (.ref 0 :: as) h = some (some v, h1) ∧ zcal (d + 10) mr (.ref 32 :: as) h1 = some (some v, h2) ∧ Rel h2 := ⟨_, _, _, ec, er, Rel_ref hj R⟩
theorem sim_ok {mc mr : Nat} {as : List Value} {d : Nat} {h : zH} {v : Value} {h1 h2 : zH} (ec : zcal (d + 10) mc (.ref 0 :: as) h = some (some v, h1)) (er : zcal (d + 10) mr (.ref 32 :: as) h1 = some (some v, h2)) (R : Rel h2) : ∃ (v : Value) (h1 h2 : zH), zcal (d + 10) mc (.ref 0 :: as) h = some (some v, h1) ∧ zcal (d + 10) mr (.ref 32 :: as) h1 = some (some v, h2) ∧ Rel h2 := ⟨v, h1, h2, ec, er, R⟩
section RFS
variable {d : Nat} {h : zH}
theorem c_rf1 : zcal (d + 2) 5 [.ref 0, .int (-1)] h = some (some (.int (-1)), refC h 0) := c_ref (by omega) (by decide)
theorem c_rf2 : zcal (d + 2) 5 [.ref 0, .int (-2)] h = some (some (.int (-2)), refC h 1) := c_ref (by omega) (by decide)
theorem c_rf3 : zcal (d + 2) 5 [.ref 0, .int (-3)] h = some (some (.int (-3)), refC h 2) := c_ref (by omega) (by decide)
theorem c_rf4 : zcal (d + 2) 5 [.ref 0, .int (-4)] h = some (some (.int (-4)), refC h 3) := c_ref (by omega) (by decide)
theorem c_rf5 : zcal (d + 2) 5 [.ref 0, .int (-5)] h = some (some (.int (-5)), refC h 4) := c_ref (by omega) (by decide)
theorem c_rf6 : zcal (d + 2) 5 [.ref 0, .int (-6)] h = some (some (.int (-6)), refC h 5) := c_ref (by omega) (by decide)
theorem r_no1 : zcal (d + 1) 125 [.ref 32, .int (-1)] h = some (some (.int (-1)), refR h 0) := r_no (by omega) (by decide)
theorem r_no2 : zcal (d + 1) 125 [.ref 32, .int (-2)] h = some (some (.int (-2)), refR h 1) := r_no (by omega) (by decide)
theorem r_no3 : zcal (d + 1) 125 [.ref 32, .int (-3)] h = some (some (.int (-3)), refR h 2) := r_no (by omega) (by decide)
theorem r_no4 : zcal (d + 1) 125 [.ref 32, .int (-4)] h = some (some (.int (-4)), refR h 3) := r_no (by omega) (by decide)
theorem r_no5 : zcal (d + 1) 125 [.ref 32, .int (-5)] h = some (some (.int (-5)), refR h 4) := r_no (by omega) (by decide)
theorem r_no6 : zcal (d + 1) 125 [.ref 32, .int (-6)] h = some (some (.int (-6)), refR h 5) := r_no (by omega) (by decide)
end RFS
theorem Rel0_c {h : zH} {g : zHl} {n k j : Nat} (R : Rel0 g n k h) : Rel0 g n k (refC h j) := Rel0_mv R zPers_c
theorem sim_stretchOf {a b : Int32} : zSim 38 159 [.int a, .int b] := by
  intro d h R
  obtain ⟨⟨g, n, k, R0⟩, C⟩ := id R
  have V := R0.1.1; have H1 := R0.1.2.1; have H2 := R0.1.2.2.1
  have hn := V.1
  by_cases ha : 0 ≤ a ∧ a < nI n
  · obtain ⟨s, hs, rfl⟩ := i_small (by omega) ha
    have hc := H1.2.2.1 s hs
    have hr := H2.2.2.1 s hs
    by_cases b0 : b = 0
    · refine sim_ok (v := .int (g 0 s)) (h1 := h) (h2 := h) ?_ ?_ R
      · rw [E38_0, c_hasS_1 H1 V, if_pos ha, zCi_some, if_neg (by decide), if_pos b0, c_get (n := 10) rfl (by omega), zCi_some, gt_nI (by omega) (by omega), hc.1]
      · rw [E159_32, r_isS H2 V, if_pos ha, zCi_some, if_neg (by decide), if_pos b0, zG_nI (by omega) (by omega), nI_tn (by omega), hr.1]
    · by_cases b1 : b = 1
      · refine sim_ok (v := .int (g 1 s)) (h1 := h) (h2 := h) ?_ ?_ R
        · rw [E38_0, c_hasS_1 H1 V, if_pos ha, zCi_some, if_neg (by decide), if_neg b0, if_pos b1, c_get (n := 10) rfl (by omega), zCi_some, gt_nI (by omega) (by omega), hc.2.1]
        · rw [E159_32, r_isS H2 V, if_pos ha, zCi_some, if_neg (by decide), if_neg b0, if_pos b1, zG_nI (by omega) (by omega), nI_tn (by omega), hr.2.1]
      · by_cases b2 : b = 2
        · refine sim_ok (v := .int (g 2 s)) (h1 := h) (h2 := h) ?_ ?_ R
          · rw [E38_0, c_hasS_1 H1 V, if_pos ha, zCi_some, if_neg (by decide), if_neg b0, if_neg b1, if_pos b2, c_get (n := 10) rfl (by omega), zCi_some, gt_nI (by omega) (by omega), hc.2.2]
          · rw [E159_32, r_isS H2 V, if_pos ha, zCi_some, if_neg (by decide), if_neg b0, if_neg b1, if_pos b2, zG_nI (by omega) (by omega), nI_tn (by omega), hr.2.2]
        · refine sim_rf R (c := -2) (j := 1) (by omega) ?_ ?_
          · rw [E38_0, c_hasS_1 H1 V, if_pos ha, zCi_some, if_neg (by decide), if_neg b0, if_neg b1, if_neg b2, c_rf2, zCi_some]
          · rw [E159_32, r_isS (Rel0_c R0).1.2.2.1 V, if_pos ha, zCi_some, if_neg (by decide), if_neg b0, if_neg b1, if_neg b2, r_no2, zCi_some]
  · refine sim_rf R (c := -1) (j := 0) (by omega) ?_ ?_
    · rw [E38_0, c_hasS_1 H1 V, if_neg ha, zCi_some, if_pos rfl, c_rf1, zCi_some]
    · rw [E159_32, r_isS (Rel0_c R0).1.2.2.1 V, if_neg ha, zCi_some, if_pos rfl, r_no1, zCi_some]
theorem sim_riderOf {a b : Int32} : zSim 39 160 [.int a, .int b] := by
  intro d h R
  obtain ⟨⟨g, n, k, R0⟩, C⟩ := id R
  have V := R0.1.1; have H1 := R0.1.2.1; have H2 := R0.1.2.2.1
  have hn := V.1; have hk := V.2.1
  by_cases ha : 0 ≤ a ∧ a < nI k
  · obtain ⟨s, hs, rfl⟩ := i_small (by omega) ha
    have hc := H1.2.2.2 s hs
    have hr := H2.2.2.2 s hs
    by_cases b0 : b = 0
    · refine sim_ok (v := .int (g 3 s)) (h1 := h) (h2 := h) ?_ ?_ R
      · rw [E39_0, c_hasR_1 H1 V, if_pos ha, zCi_some, if_neg (by decide), if_pos b0, c_get (n := 5) rfl (by omega), zCi_some, gt_nI (by omega) (by omega), hc.1]
      · rw [E160_32, r_isR H2 V, if_pos ha, zCi_some, if_neg (by decide), if_pos b0, zG_nI (by omega) (by omega), nI_tn (by omega), hr.1]
    · by_cases b1 : b = 1
      · refine sim_ok (v := .int (g 4 s)) (h1 := h) (h2 := h) ?_ ?_ R
        · rw [E39_0, c_hasR_1 H1 V, if_pos ha, zCi_some, if_neg (by decide), if_neg b0, if_pos b1, c_get (n := 5) rfl (by omega), zCi_some, gt_nI (by omega) (by omega), hc.2]
        · rw [E160_32, r_isR H2 V, if_pos ha, zCi_some, if_neg (by decide), if_neg b0, if_pos b1, zG_nI (by omega) (by omega), nI_tn (by omega), hr.2]
      · refine sim_rf R (c := -2) (j := 1) (by omega) ?_ ?_
        · rw [E39_0, c_hasR_1 H1 V, if_pos ha, zCi_some, if_neg (by decide), if_neg b0, if_neg b1, c_rf2, zCi_some]
        · rw [E160_32, r_isR (Rel0_c R0).1.2.2.1 V, if_pos ha, zCi_some, if_neg (by decide), if_neg b0, if_neg b1, r_no2, zCi_some]
  · refine sim_rf R (c := -1) (j := 0) (by omega) ?_ ?_
    · rw [E39_0, c_hasR_1 H1 V, if_neg ha, zCi_some, if_pos rfl, c_rf1, zCi_some]
    · rw [E160_32, r_isR (Rel0_c R0).1.2.2.1 V, if_neg ha, zCi_some, if_pos rfl, r_no1, zCi_some]
theorem sim_bicycle {a : Int32} : zSim 40 161 [.int a] := by
  intro d h R
  obtain ⟨⟨g, n, k, R0⟩, C⟩ := id R
  have E := R0.1.2.2.2.2
  by_cases h1 : 0 ≤ a
  · have h1' : ¬ a < 0 := Int32.not_lt.mpr h1
    by_cases h2 : a ≤ 3
    · have key : ∀ y : Int32, zcal (d + 9) 41 [.ref 1, .int a] h = some (some (.int y), h) → zcal (d + 9) 162 [.ref 32, .int a] h = some (some (.int y), h) → ∃ (v : Value) (h1 h2 : zH), zcal (d + 10) 40 (.ref 0 :: [.int a]) h = some (some v, h1) ∧ zcal (d + 10) 161 (.ref 32 :: [.int a]) h1 = some (some v, h2) ∧ Rel h2 := by
        intro y e1 e2
        refine sim_ok (v := .int y) (h1 := h) (h2 := h) ?_ ?_ R
        · rw [E40_0, if_neg h1', if_pos h2, e1, zCi_some]
        · rw [E161_32, r_isIn, if_pos ⟨h1, h2⟩, zCi_some, if_neg (by decide), e2, zCi_some]
      by_cases b0 : a = 0
      · exact key _ (by rw [E41_1, if_pos b0]) (by rw [E162_32, if_pos b0, E 1 (by omega)])
      · by_cases b1 : a = 1
        · exact key _ (by rw [E41_1, if_neg b0, if_pos b1]) (by rw [E162_32, if_neg b0, if_pos b1, E 2 (by omega)])
        · by_cases b2 : a = 2
          · exact key _ (by rw [E41_1, if_neg b0, if_neg b1, if_pos b2]) (by rw [E162_32, if_neg b0, if_neg b1, if_pos b2, E 3 (by omega)])
          · exact key _ (by rw [E41_1, if_neg b0, if_neg b1, if_neg b2]) (by rw [E162_32, if_neg b0, if_neg b1, if_neg b2, E 4 (by omega)])
    · refine sim_rf R (c := -2) (j := 1) (by omega) ?_ ?_
      · rw [E40_0, if_neg h1', if_neg h2, c_rf2, zCi_some]
      · rw [E161_32, r_isIn, if_neg (fun q => h2 q.2), zCi_some, if_pos rfl, r_no2, zCi_some]
  · refine sim_rf R (c := -2) (j := 1) (by omega) ?_ ?_
    · rw [E40_0, if_pos (Int32.not_le.mp h1), c_rf2, zCi_some]
    · rw [E161_32, r_isIn, if_neg (fun q => h1 q.1), zCi_some, if_pos rfl, r_no2, zCi_some]
theorem sim_holds {a b : Int32} : zSim 43 164 [.int a, .int b] := by
  intro d h R
  obtain ⟨⟨g, n, k, R0⟩, C⟩ := id R
  have V := R0.1.1; have H1 := R0.1.2.1; have H2 := R0.1.2.2.1
  have hn := V.1; have hk := V.2.1
  have H2' := (Rel0_c (j := 0) R0).1.2.2.1
  by_cases ha : 0 ≤ a ∧ a < nI n
  · by_cases hb : 0 ≤ b ∧ b < nI k
    · obtain ⟨s, hs, rfl⟩ := i_small (by omega) ha
      obtain ⟨r, hr, rfl⟩ := i_small (by omega) hb
      refine sim_ok (v := .int (s_hold g s (nI r))) (h1 := h) (h2 := h) ?_ ?_ R
      · rw [E43_0, c_hasS_1 H1 V, if_pos ha, zCi_some, if_neg (by decide), c_hasR_1 H1 V, if_pos hb, zCi_some, if_neg (by decide), c_hold_1 H1 V hs hr, zCi_some]
      · rw [E164_32, r_isS H2 V, if_pos ha, zCi_some, if_neg (by decide), r_isR H2 V, if_pos hb, zCi_some, if_neg (by decide), r_hold H2 V hs ⟨r, hr, rfl⟩, zCi_some]
    · refine sim_rf R (c := -1) (j := 0) (by omega) ?_ ?_
      · rw [E43_0, c_hasS_1 H1 V, if_pos ha, zCi_some, if_neg (by decide), c_hasR_1 H1 V, if_neg hb, zCi_some, if_pos rfl, c_rf1, zCi_some]
      · rw [E164_32, r_isS H2' V, if_pos ha, zCi_some, if_neg (by decide), r_isR H2' V, if_neg hb, zCi_some, if_pos rfl, r_no1, zCi_some]
  · refine sim_rf R (c := -1) (j := 0) (by omega) ?_ ?_
    · rw [E43_0, c_hasS_1 H1 V, if_neg ha, zCi_some, if_pos rfl, c_rf1, zCi_some]
    · rw [E164_32, r_isS H2' V, if_neg ha, zCi_some, if_pos rfl, r_no1, zCi_some]
theorem c_max0 {d : Nat} {h : zH} {x : Int32} : zcal (d + 1) 3 [.int x, .int 0] h = some (some (.int (if x < 0 then 0 else x)), h) := by
  rw [zcal, if_pos (Or.inl rfl)]; rfl
theorem s_goes {e : Int32} (h : zIn e (-1000) 1000) : (if s_min e < 0 then 0 else s_min e) = s_held e := by
  rw [s_same0 h]
  rw [Int32.sub_zero]
  by_cases c : s_min e > 0
  · rw [if_pos c, if_neg (fun q => by rw [gt_iff_lt, Int32.lt_iff_toInt_lt] at c; rw [Int32.lt_iff_toInt_lt] at q; omega)]
  · rw [if_neg c]
    by_cases q : s_min e < 0
    · rw [if_pos q]
    · rw [if_neg q]
      apply Int32.toInt_inj.mp
      rw [gt_iff_lt, Int32.lt_iff_toInt_lt] at c
      rw [Int32.lt_iff_toInt_lt] at q
      omega
theorem r_beh2 {d : Nat} {h : zH} {g : zHl} {n k : Nat} (H : zHr h g n k) (V : zVal g n k) {s r : Nat} (hs : s < n) (hr : r < k) {v : Int32} : zcal (d + 2) 152 [.ref 32, .int (nI s), .int (nI r), .int v] h = some (some (.int (s_held (s_bec g s (nI r) v))), h) := r_beh H V hs ⟨r, hr, rfl⟩
theorem in99 {c : Int32} (h1 : 0 ≤ c) (h2 : c ≤ 99) : zIn c 0 99 := by
  rw [Int32.le_iff_toInt_le] at h1 h2
  exact ⟨h1, h2⟩
theorem sim_goesOn {a b c : Int32} : zSim 42 163 [.int a, .int b, .int c] := by
  intro d h R
  obtain ⟨⟨g, n, k, R0⟩, C⟩ := id R
  have V := R0.1.1; have H1 := R0.1.2.1; have H2 := R0.1.2.2.1
  have hn := V.1; have hk := V.2.1
  have H2' := (Rel0_c (j := 0) R0).1.2.2.1
  have H23 := (Rel0_c (j := 3) R0).1.2.2.1
  have H25 := (Rel0_c (j := 5) R0).1.2.2.1
  by_cases ha : 0 ≤ a ∧ a < nI n
  · by_cases hb : 0 ≤ b ∧ b < nI k
    · obtain ⟨s, hs, rfl⟩ := i_small (by omega) ha
      obtain ⟨r, hr, rfl⟩ := i_small (by omega) hb
      by_cases c0 : 0 ≤ c
      · by_cases c9 : c ≤ 99
        · refine sim_ok (v := .int (s_held (s_bec g s (nI r) c))) (h1 := h) (h2 := h) ?_ ?_ R
          · rw [E42_0, c_hasS_1 H1 V, if_pos ha, zCi_some, if_neg (by decide), c_hasR_1 H1 V, if_pos hb, zCi_some, if_neg (by decide), if_pos (show c ≥ 0 from c0), if_pos c9, c_beh_1 H1 V hs hr, zCi_some, c_max0, zCi_some, s_goes (s_bec_in V hs ⟨r, hr, rfl⟩ (in99 c0 c9))]
          · rw [E163_32, r_isS H2 V, if_pos ha, zCi_some, if_neg (by decide), r_isR H2 V, if_pos hb, zCi_some, if_neg (by decide), r_bound, if_pos c0, if_pos c9, zCi_some, if_pos rfl, r_beh2 H2 V hs hr, zCi_some]
        · refine sim_rf R (c := -6) (j := 5) (by omega) ?_ ?_
          · rw [E42_0, c_hasS_1 H1 V, if_pos ha, zCi_some, if_neg (by decide), c_hasR_1 H1 V, if_pos hb, zCi_some, if_neg (by decide), if_pos (show c ≥ 0 from c0), if_neg c9, c_rf6, zCi_some]
          · rw [E163_32, r_isS H25 V, if_pos ha, zCi_some, if_neg (by decide), r_isR H25 V, if_pos hb, zCi_some, if_neg (by decide), r_bound, if_pos c0, if_neg c9, zCi_some, if_neg (by decide), r_no6, zCi_some]
      · refine sim_rf R (c := -4) (j := 3) (by omega) ?_ ?_
        · rw [E42_0, c_hasS_1 H1 V, if_pos ha, zCi_some, if_neg (by decide), c_hasR_1 H1 V, if_pos hb, zCi_some, if_neg (by decide), if_neg (show ¬ c ≥ 0 from c0), c_rf4, zCi_some]
        · rw [E163_32, r_isS H23 V, if_pos ha, zCi_some, if_neg (by decide), r_isR H23 V, if_pos hb, zCi_some, if_neg (by decide), r_bound, if_neg c0, zCi_some, if_neg (by decide), r_no4, zCi_some]
    · refine sim_rf R (c := -1) (j := 0) (by omega) ?_ ?_
      · rw [E42_0, c_hasS_1 H1 V, if_pos ha, zCi_some, if_neg (by decide), c_hasR_1 H1 V, if_neg hb, zCi_some, if_pos rfl, c_rf1, zCi_some]
      · rw [E163_32, r_isS H2' V, if_pos ha, zCi_some, if_neg (by decide), r_isR H2' V, if_neg hb, zCi_some, if_pos rfl, if_neg (by decide), r_no1, zCi_some]
  · refine sim_rf R (c := -1) (j := 0) (by omega) ?_ ?_
    · rw [E42_0, c_hasS_1 H1 V, if_neg ha, zCi_some, if_pos rfl, c_rf1, zCi_some]
    · rw [E163_32, r_isS H2' V, if_neg ha, zCi_some, if_pos rfl, if_neg (by decide), r_no1, zCi_some]

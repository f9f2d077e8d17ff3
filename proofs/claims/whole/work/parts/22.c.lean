/-! THE PARTS OF THE RELATION, MOVED ONE BY ONE -/
section MV
variable {h h' : zH} {g : zHl} {n k : Nat}
theorem RelH_mv (R : RelH g n k h) (c : ∀ a, 1 ≤ a → a ≤ 6 → h' a = h a) (r : ∀ a, 34 ≤ a → a ≤ 38 → h' a = h a) (f : ∀ j, 6 ≤ j → j ≤ 13 → h' 32 j = h 32 j) : RelH g n k h' := by
  obtain ⟨V, H1, H2, b, e⟩ := R
  have c1 : h' 1 = h 1 := c 1 (by omega) (by omega)
  exact ⟨V, zHil_mv H1 (by rw [c1]) (by rw [c1]) (fun j h1 h2 => c _ (by omega) (by omega)), zHr_mv H2 (f 6 (by omega) (by omega)) (f 7 (by omega) (by omega)) r, by rw [c1]; exact b, fun i hi => by rw [c1, f _ (by omega) (by omega)]; exact e i hi⟩
theorem RelT_mv (R : RelT h) (c : h' 26 1 = h 26 1) (c2 : h' 27 = h 27) (r : h' 39 = h 39) (f : h' 32 18 = h 32 18) : RelT h' := by
  obtain ⟨t, t1, t2, t3, t4⟩ := R
  exact ⟨t, t1, c.trans t2, f.trans t3, by rw [c2, r]; exact t4⟩
theorem RelR_mv (R : RelR h) (c : h' 28 1 = h 28 1) (c2 : h' 29 = h 29) (r : h' 46 = h 46) (f : h' 32 40 = h 32 40) : RelR h' := by
  obtain ⟨t, t1, t2, t3, t4⟩ := R
  exact ⟨t, t1, c.trans t2, f.trans t3, by rw [c2, r]; exact t4⟩
theorem RelI_mv (R : RelI h) (c : h' 0 3 = h 0 3) (c2 : ∀ a, 13 ≤ a → a ≤ 18 → h' a = h a) (r : ∀ i, i < 48 → h' 43 i = h 43 i) (f : h' 32 22 = h 32 22) : RelI h' := by
  obtain ⟨i1, i2⟩ := R
  refine ⟨by rw [f, c]; exact i1, ?_⟩
  rw [c]
  rcases i2 with i2 | ⟨i2, g', n', k', V', K', B', S'⟩
  · exact Or.inl i2
  · have c3 : h' 13 = h 13 := c2 13 (by omega) (by omega)
    refine Or.inr ⟨i2, g', n', k', V', zHil_mv K' (by rw [c3]) (by rw [c3]) (fun j h1 h2 => c2 _ (by omega) (by omega)), by rw [c3]; exact B', ?_⟩
    rw [c3]
    exact zSn_mv ⟨V'.1, V'.2.1⟩ S' (fun i hi => r _ (by omega))
theorem RelP_mv (V : zVal g n k) (R : RelP g n k h) (c : h' 23 1 = h 23 1) (c1 : h' 23 2 = h 23 2) (c2 : h' 24 = h 24) (r : ∀ i, 96 ≤ i → h' 43 i = h 43 i) (f : h' 32 25 = h 32 25) : RelP g n k h' := by
  obtain ⟨fi, co, p1, p2, p3, p4, p5, p6⟩ := R
  refine ⟨fi, co, p1, p2, c.trans p3, c1.trans p4, f.trans p5, fun j hj => ?_⟩
  obtain ⟨r1, r2, r3⟩ := p6 j hj
  rw [c2]
  exact ⟨r1, r2, zSn_mv ⟨V.1, V.2.1⟩ r3 (fun i hi => r _ (by omega))⟩
/-- nothing to take back -/
theorem RelP_0 {g' : zHl} {n' k' : Nat} (R : RelP g n k h) (c : h' 23 1 = h 23 1) (c1 : h' 23 2 = 0) (f : h' 32 25 = 0) : RelP g' n' k' h' := by
  obtain ⟨fi, co, p1, p2, p3, p4, p5, p6⟩ := R
  exact ⟨fi, 0, p1, by omega, c.trans p3, c1, f, fun j hj => absurd hj (by omega)⟩
theorem rAt0_mv (R : rAt0 h) (f : ∀ j, 36 ≤ j → j ≤ 38 → h' 32 j = h 32 j) : rAt0 h' := ⟨(f 36 (by omega) (by omega)).trans R.1, (f 37 (by omega) (by omega)).trans R.2.1, (f 38 (by omega) (by omega)).trans R.2.2⟩
theorem RelC_mv (R : RelC h) (c : h' 30 = h 30) (r : h' 33 = h 33) : RelC h' := fun j hj => by rw [c, r]; exact R j hj
end MV
theorem lt_nI {a b : Nat} (ha : a < 2 ^ 31) (hb : b < 2 ^ 31) : (nI a < nI b) ↔ a < b := nI_ltI ha hb
theorem nI_num {x : Int32} {m : Nat} (hm : m ≤ 1000000) (h0 : 0 ≤ x) (h1 : x ≤ nI m) : ∃ j, j ≤ m ∧ x = nI j := by
  obtain ⟨j, hj, rfl⟩ := nI_of (Int32.not_lt.mpr h0)
  refine ⟨j, ?_, rfl⟩
  rcases Nat.lt_or_ge m j with q | q
  · exact absurd (nI_lt q (by omega)) (Int32.not_lt.mpr h1)
  · exact q
theorem sim_feed {a : Int32} : zSim 4 123 [.int a] := by
  intro d h R
  obtain ⟨⟨g, n, k, RH, RT, RR, RI, RP, RZ⟩, C⟩ := id R
  have V := RH.1
  have RT' := id RT
  obtain ⟨t, t1, t2, t3, t4⟩ := RT'
  by_cases a0 : 0 ≤ a
  · by_cases a9 : a ≤ 255
    · have a9' : ¬ a > 255 := Int32.not_lt.mpr a9
      by_cases ht : t < 96
      · obtain ⟨x, hx, rfl⟩ := nI_num (m := 255) (by omega) a0 a9
        have l96 : nI t < (96 : Int32) := nI_lt (b := 96) ht (by omega)
        have n96 : ¬ nI t = (96 : Int32) := fun q => by have := (nI_eq (a := t) (b := 96) (by omega) (by omega)).mp q; omega
        refine sim_ok (v := .int (nI t + 1)) (h1 := z_up (z_up h 27 t (nI x)) 26 1 (nI t + 1)) (h2 := z_up (z_up (z_up (z_up h 27 t (nI x)) 26 1 (nI t + 1)) 39 t (nI x)) 32 18 (nI t + 1)) ?_ ?_ ?_
        · have e8 : zcal (d + 8) 8 [.ref 26] h = some (some (.int 0), h) := by rw [E8_26, t2, if_pos l96]
          have e9 : zcal (d + 9) 8 [.ref 26] h = some (some (.int 0), h) := by rw [E8_26, t2, if_pos l96]
          rw [E4_0, if_pos (show nI x ≥ 0 from a0), if_neg a9', e9, zCi_some, if_pos rfl, E9_26, e8, zCi_some, if_pos rfl, t2, c_put (n := 96) rfl (by omega), zCv_some, pt_nI (by omega) (by omega), zCi_some, z_up_ne (by omega), t2]
        · rw [E123_32, r_bound, if_pos a0, if_pos a9, zCi_some, if_pos rfl]
          have e18 : z_up (z_up h 27 t (nI x)) 26 1 (nI t + 1) 32 18 = nI t := by rw [z_up_ne (by omega), z_up_ne (by omega), t3]
          rw [e18, if_neg n96, E123_32_at25, if_pos rfl, e18, zG_nI (by omega) (by omega), nI_tn (by omega)]
        · refine ⟨⟨g, n, k, RelH_mv RH (fun a h1 h2 => ?_) (fun a h1 h2 => ?_) (fun j h1 h2 => ?_), ⟨t + 1, by omega, ?_, ?_, fun j hj => ?_⟩, RelR_mv RR ?_ ?_ ?_ ?_, RelI_mv RI ?_ (fun a h1 h2 => ?_) (fun i hi => ?_) ?_, RelP_mv V RP ?_ ?_ ?_ (fun i hi => ?_) ?_, rAt0_mv RZ (fun j h1 h2 => ?_)⟩, RelC_mv C ?_ ?_⟩
          all_goals (try (first
            | (rw [z_up_ne (by omega), z_up_ne (by omega), z_up_ne (by omega), z_up_ne (by omega)])
            | (rw [zu_ni _ _ (by omega), z_up_ne (by omega), z_up_ne (by omega), z_up_ne (by omega)])))
          · rw [z_up_ne (by omega), z_up_ne (by omega), zu_eq, nI_1]
          · rw [zu_eq, nI_1]
          · have e1 : z_up (z_up (z_up (z_up h 27 t (nI x)) 26 1 (nI t + 1)) 39 t (nI x)) 32 18 (nI t + 1) 39 j = if j = t then nI x else h 39 j := by simp [zu_ap]
            have e2 : z_up (z_up (z_up (z_up h 27 t (nI x)) 26 1 (nI t + 1)) 39 t (nI x)) 32 18 (nI t + 1) 27 j = if j = t then nI x else h 27 j := by simp [zu_ap]
            rw [e1, e2]
            by_cases e : j = t
            · rw [if_pos e, if_pos e]; exact ⟨rfl, x, by omega, rfl⟩
            · rw [if_neg e, if_neg e]; exact t4 j (by omega)
      · have ht : t = 96 := by omega
        subst ht
        refine sim_rf R (c := -6) (j := 5) (by omega) ?_ ?_
        · rw [E4_0, if_pos (show a ≥ 0 from a0), if_neg a9', E8_26, t2, if_neg (show ¬ nI 96 < (96 : Int32) by decide), zCi_some, if_neg (by decide), c_rf6, zCi_some]
        · have e18 : refC h 5 32 18 = nI 96 := by unfold refC; rw [z_up_ne (by omega), t3]
          rw [E123_32, r_bound, if_pos a0, if_pos a9, zCi_some, if_pos rfl, e18, if_pos (show nI 96 = (96 : Int32) from rfl), E123_32_at25, if_neg (by decide), r_no6, zCi_some]
    · refine sim_rf R (c := -6) (j := 5) (by omega) ?_ ?_
      · rw [E4_0, if_pos (show a ≥ 0 from a0), if_pos (Int32.not_le.mp a9), c_rf6, zCi_some]
      · rw [E123_32, r_bound, if_pos a0, if_neg a9, zCi_some, if_neg (by decide), E123_32_at25, if_neg (by decide), r_no6, zCi_some]
  · refine sim_rf R (c := -4) (j := 3) (by omega) ?_ ?_
    · rw [E4_0, if_neg (show ¬ a ≥ 0 from a0), c_rf4, zCi_some]
    · rw [E123_32, r_bound, if_neg a0, zCi_some, if_neg (by decide), E123_32_at25, if_neg (by decide), r_no4, zCi_some]
theorem sim_row {a : Int32} : zSim 114 222 [.int a] := by
  intro d h R
  obtain ⟨⟨g, n, k, RH, RT, RR, RI, RP, RZ⟩, C⟩ := id R
  have V := RH.1
  have RR' := id RR
  obtain ⟨t, t1, t2, t3, t4⟩ := RR'
  by_cases a0 : 0 ≤ a
  · by_cases a9 : a ≤ 99
    · have a9' : ¬ a > 99 := Int32.not_lt.mpr a9
      by_cases ht : t < 12
      · have l96 : nI t < (12 : Int32) := nI_lt (b := 12) ht (by omega)
        have n96 : ¬ nI t = (12 : Int32) := fun q => by have := (nI_eq (a := t) (b := 12) (by omega) (by omega)).mp q; omega
        refine sim_ok (v := .int (nI t + 1)) (h1 := z_up (z_up h 29 t a) 28 1 (nI t + 1)) (h2 := z_up (z_up (z_up (z_up h 29 t a) 28 1 (nI t + 1)) 46 t a) 32 40 (nI t + 1)) ?_ ?_ ?_
        · have e8 : zcal (d + 8) 8 [.ref 28] h = some (some (.int 0), h) := by rw [E8_28, t2, if_pos l96]
          have e9 : zcal (d + 9) 8 [.ref 28] h = some (some (.int 0), h) := by rw [E8_28, t2, if_pos l96]
          rw [E114_0, if_pos (show a ≥ 0 from a0), if_neg a9', e9, zCi_some, if_pos rfl, E9_28, e8, zCi_some, if_pos rfl, t2, c_put (n := 12) rfl (by omega), zCv_some, pt_nI (by omega) (by omega), zCi_some, z_up_ne (by omega), t2]
        · rw [E222_32, r_bound, if_pos a0, if_pos a9, zCi_some, if_pos rfl]
          have e18 : z_up (z_up h 29 t a) 28 1 (nI t + 1) 32 40 = nI t := by rw [z_up_ne (by omega), z_up_ne (by omega), t3]
          rw [e18, if_neg n96, E222_32_at24, if_pos rfl, e18, zG_nI (by omega) (by omega), nI_tn (by omega)]
        · refine ⟨⟨g, n, k, RelH_mv RH (fun a h1 h2 => ?_) (fun a h1 h2 => ?_) (fun j h1 h2 => ?_), RelT_mv RT ?_ ?_ ?_ ?_, ⟨t + 1, by omega, ?_, ?_, fun j hj => ?_⟩, RelI_mv RI ?_ (fun a h1 h2 => ?_) (fun i hi => ?_) ?_, RelP_mv V RP ?_ ?_ ?_ (fun i hi => ?_) ?_, rAt0_mv RZ (fun j h1 h2 => ?_)⟩, RelC_mv C ?_ ?_⟩
          all_goals (try (first
            | (rw [z_up_ne (by omega), z_up_ne (by omega), z_up_ne (by omega), z_up_ne (by omega)])
            | (rw [zu_ni _ _ (by omega), z_up_ne (by omega), z_up_ne (by omega), z_up_ne (by omega)])))
          · rw [z_up_ne (by omega), z_up_ne (by omega), zu_eq, nI_1]
          · rw [zu_eq, nI_1]
          · have e1 : z_up (z_up (z_up (z_up h 29 t a) 28 1 (nI t + 1)) 46 t a) 32 40 (nI t + 1) 46 j = if j = t then a else h 46 j := by simp [zu_ap]
            have e2 : z_up (z_up (z_up (z_up h 29 t a) 28 1 (nI t + 1)) 46 t a) 32 40 (nI t + 1) 29 j = if j = t then a else h 29 j := by simp [zu_ap]
            rw [e1, e2]
            by_cases e : j = t
            · rw [if_pos e, if_pos e]; exact ⟨rfl, in99 a0 a9⟩
            · rw [if_neg e, if_neg e]; exact t4 j (by omega)
      · have ht : t = 12 := by omega
        subst ht
        refine sim_rf R (c := -6) (j := 5) (by omega) ?_ ?_
        · rw [E114_0, if_pos (show a ≥ 0 from a0), if_neg a9', E8_28, t2, if_neg (show ¬ nI 12 < (12 : Int32) by decide), zCi_some, if_neg (by decide), c_rf6, zCi_some]
        · have e18 : refC h 5 32 40 = nI 12 := by unfold refC; rw [z_up_ne (by omega), t3]
          rw [E222_32, r_bound, if_pos a0, if_pos a9, zCi_some, if_pos rfl, e18, if_pos (show nI 12 = (12 : Int32) from rfl), E222_32_at24, if_neg (by decide), r_no6, zCi_some]
    · refine sim_rf R (c := -6) (j := 5) (by omega) ?_ ?_
      · rw [E114_0, if_pos (show a ≥ 0 from a0), if_pos (Int32.not_le.mp a9), c_rf6, zCi_some]
      · rw [E222_32, r_bound, if_pos a0, if_neg a9, zCi_some, if_neg (by decide), E222_32_at24, if_neg (by decide), r_no6, zCi_some]
  · refine sim_rf R (c := -4) (j := 3) (by omega) ?_ ?_
    · rw [E114_0, if_neg (show ¬ a ≥ 0 from a0), c_rf4, zCi_some]
    · rw [E222_32, r_bound, if_neg a0, zCi_some, if_neg (by decide), E222_32_at24, if_neg (by decide), r_no4, zCi_some]
theorem sim_clear : zSim 115 224 [] := by
  intro d h R
  obtain ⟨⟨g, n, k, RH, RT, RR, RI, RP, RZ⟩, C⟩ := id R
  have V := RH.1
  have RR' := id RR
  obtain ⟨t, t1, t2, t3, t4⟩ := RR'
  refine sim_ok (v := .int (nI t)) (h1 := z_up h 28 1 0) (h2 := z_up (z_up h 28 1 0) 32 40 0) ?_ ?_ ?_
  · rw [E115_0, E37_28, zCv_some, t2]
  · rw [E224_32, z_up_ne (by omega), t3]
  · refine ⟨⟨g, n, k, RelH_mv RH (fun a h1 h2 => ?_) (fun a h1 h2 => ?_) (fun j h1 h2 => ?_), RelT_mv RT ?_ ?_ ?_ ?_, ⟨0, by omega, ?_, ?_, fun j hj => absurd hj (by omega)⟩, RelI_mv RI ?_ (fun a h1 h2 => ?_) (fun i hi => ?_) ?_, RelP_mv V RP ?_ ?_ ?_ (fun i hi => ?_) ?_, rAt0_mv RZ (fun j h1 h2 => ?_)⟩, RelC_mv C ?_ ?_⟩
    all_goals (try (first
      | (rw [z_up_ne (by omega), z_up_ne (by omega)])
      | (rw [zu_ni _ _ (by omega), z_up_ne (by omega)])))
    · rw [z_up_ne (by omega), zu_eq]; rfl
    · rw [zu_eq]; rfl

/-! WHAT WOULD BE: KEPT AND READ BACK -/
theorem keep_pers {h hm : zH} (k43 : ∀ i, 48 ≤ i → i < 96 → hm 43 i = kpB h 1 48 43 i) (out : ∀ a, 34 ≤ a → a ≤ 38 → ∀ j, (10 ≤ j ∨ (36 < a ∧ 5 ≤ j)) → hm a j = h a j) (F1 : ∀ a, a < 30 → ¬ zMT a → hm a = h a) (F39 : hm 39 = h 39) (F46 : hm 46 = h 46) (F43 : ∀ i, i < 48 ∨ 96 ≤ i → hm 43 i = h 43 i) (F32 : ∀ j, j = 18 ∨ j = 22 ∨ j = 25 ∨ (36 ≤ j ∧ j ≤ 38) ∨ j = 40 → hm 32 j = h 32 j) : zPers h (rdB hm 1 48) := by
  have sn : ∀ i, i < 48 → hm 43 (48 * 1 + i) = snap h i := fun i hi => by
    rw [k43 _ (by omega) (by omega)]
    unfold kpB
    rw [if_pos ⟨rfl, by omega, by omega⟩, show 48 * 1 + i - 48 * 1 = i by omega]
  have r34 : ∀ s, s < 10 → rp 34 s = s := fun s hs => by unfold rp; rw [if_pos ⟨rfl, hs⟩]
  have r35 : ∀ s, s < 10 → rp 35 s = 10 + s := fun s hs => by unfold rp; rw [if_neg (by omega), if_pos ⟨rfl, hs⟩]
  have r36 : ∀ s, s < 10 → rp 36 s = 20 + s := fun s hs => by unfold rp; rw [if_neg (by omega), if_neg (by omega), if_pos ⟨rfl, hs⟩]
  have r37 : ∀ s, s < 5 → rp 37 s = 30 + s := fun s hs => by unfold rp; rw [if_neg (by omega), if_neg (by omega), if_neg (by omega), if_pos ⟨rfl, hs⟩]
  have r38 : ∀ s, s < 5 → rp 38 s = 35 + s := fun s hs => by unfold rp; rw [if_neg (by omega), if_neg (by omega), if_neg (by omega), if_neg (by omega), if_pos ⟨rfl, hs⟩]
  have r32 : ∀ s, 6 ≤ s → s < 14 → rp 32 s = 34 + s := fun s h1 h2 => by unfold rp; rw [if_neg (by omega), if_neg (by omega), if_neg (by omega), if_neg (by omega), if_neg (by omega), if_pos ⟨rfl, h1, h2⟩]
  have big : ∀ a j, a ≠ 32 → (a < 34 ∨ 38 < a ∨ 10 ≤ j ∨ (36 < a ∧ 5 ≤ j)) → rp a j = 48 := fun a j h1 h2 => by
    unfold rp
    rw [if_neg (by omega), if_neg (by omega), if_neg (by omega), if_neg (by omega), if_neg (by omega), if_neg (by omega)]
  refine ⟨fun a p q => by rw [rdB_c (by omega) (by omega), F1 a p q], fun a p q => ?_, by rw [rdB_c (by omega) (by omega), F46], fun i hi => by rw [rdB_c (by omega) (by omega), F43 i hi], fun j hj => ?_⟩
  · by_cases a39 : a = 39
    · rw [a39, rdB_c (by omega) (by omega), F39]
    · funext j
      by_cases hj : 10 ≤ j ∨ (36 < a ∧ 5 ≤ j)
      · rw [rdB_k (big a j (by omega) (by omega)) (by omega), out a p (by omega) j hj]
      · have ha : a = 34 ∨ a = 35 ∨ a = 36 ∨ a = 37 ∨ a = 38 := by omega
        rcases ha with rfl | rfl | rfl | rfl | rfl
        · rw [rdB_v (r34 j (by omega)) (by omega) (by omega), sn _ (by omega)]; unfold snap; rw [if_pos (by omega)]
        · rw [rdB_v (r35 j (by omega)) (by omega) (by omega), sn _ (by omega)]; unfold snap; rw [if_neg (by omega), if_pos (by omega), show 10 + j - 10 = j by omega]
        · rw [rdB_v (r36 j (by omega)) (by omega) (by omega), sn _ (by omega)]; unfold snap; rw [if_neg (by omega), if_neg (by omega), if_pos (by omega), show 20 + j - 20 = j by omega]
        · rw [rdB_v (r37 j (by omega)) (by omega) (by omega), sn _ (by omega)]; unfold snap; rw [if_neg (by omega), if_neg (by omega), if_neg (by omega), if_pos (by omega), show 30 + j - 30 = j by omega]
        · rw [rdB_v (r38 j (by omega)) (by omega) (by omega), sn _ (by omega)]; unfold snap; rw [if_neg (by omega), if_neg (by omega), if_neg (by omega), if_neg (by omega), if_pos (by omega), show 35 + j - 35 = j by omega]
  · by_cases q : 6 ≤ j ∧ j ≤ 13
    · rw [rdB_v (r32 j (by omega) (by omega)) (by omega) (by omega), sn _ (by omega)]; unfold snap; rw [if_neg (by omega), if_neg (by omega), if_neg (by omega), if_neg (by omega), if_neg (by omega), show 34 + j - 34 = j by omega]
    · rw [rdB_32 (by omega), F32 j (by omega)]
theorem r_173 {d : Nat} {h : zH} : zcal (d + 4) 173 [.ref 32] h = some (none, kpB h 1 48) := by
  rw [E173_32, show (1 : Int32) = nI 1 from rfl]
  have := r_keep (d := d) (h := h) (w := 1) (by omega)
  rw [show (1 : Int32) = nI 1 from rfl] at this
  rw [this, zCv_some]
theorem r_174 {d : Nat} {h : zH} : zcal (d + 4) 174 [.ref 32] h = some (none, rdB h 1 48) := by
  rw [E174_32]
  have := r_read (d := d) (h := h) (w := 1) (by omega)
  rw [show nI 1 = (1 : Int32) from rfl] at this
  rw [this, zCv_some]
theorem kpB_a {h : zH} {w e a : Nat} (h1 : a ≠ 43) (h2 : a ≠ 32) : kpB h w e a = h a := by funext j; exact kpB_o h1 (Or.inl h2)
theorem kpB_32 {h : zH} {w e j : Nat} (h2 : j ≠ 23 ∧ j ≠ 24) : kpB h w e 32 j = h 32 j := kpB_o (by omega) (Or.inr h2)
theorem kpB_43 {h : zH} {w i : Nat} (hi : i < 48 * w ∨ 48 * w + 48 ≤ i) : kpB h w 48 43 i = h 43 i := by
  unfold kpB
  rw [if_neg (by omega), if_neg (by omega), if_neg (by omega)]
theorem c_steps07 {d : Nat} {h : zH} (hm : h 7 11 ≠ 0) {x : Int32} : zcal (d + 1) 29 [.ref 7, .int x] h = some (none, h) := by
  rw [E29_7, E29_7_at2]
  by_cases hx : (0 : Int32) ≥ x
  · rw [if_pos hx]
  · rw [if_neg hx, if_neg hm]
/-- the bicycle asked for: at, speed, rider, how -/
def bQ (x y z w p : Int32) : Int32 := if p = 0 then x else if p = 1 then y else if p = 2 then z else w
theorem c_41_7 {d : Nat} {h : zH} {p : Int32} : zcal (d + 1) 41 [.ref 7, .int p] h = some (some (.int (bQ (h 7 8) (h 7 9) (h 7 10) (h 7 11) p)), h) := by
  rw [E41_7]
  unfold bQ
  by_cases b0 : p = 0
  · rw [if_pos b0, if_pos b0]
  · rw [if_neg b0, if_neg b0]
    by_cases b1 : p = 1
    · rw [if_pos b1, if_pos b1]
    · rw [if_neg b1, if_neg b1]
      by_cases b2 : p = 2
      · rw [if_pos b2, if_pos b2]
      · rw [if_neg b2, if_neg b2]
theorem r_162 {d : Nat} {h : zH} {p : Int32} : zcal (d + 1) 162 [.ref 32, .int p] h = some (some (.int (bQ (h 32 9) (h 32 10) (h 32 11) (h 32 12) p)), h) := by
  rw [E162_32]
  unfold bQ
  by_cases b0 : p = 0
  · rw [if_pos b0, if_pos b0]
  · rw [if_neg b0, if_neg b0]
    by_cases b1 : p = 1
    · rw [if_pos b1, if_pos b1]
    · rw [if_neg b1, if_neg b1]
      by_cases b2 : p = 2
      · rw [if_pos b2, if_pos b2]
      · rw [if_neg b2, if_neg b2]
theorem sim_behind {a b : Int32} : zSim 58 172 [.int a, .int b] := by
  intro d h R
  obtain ⟨⟨g, n, k, R0⟩, C⟩ := id R
  have RH := R0.1
  have V := RH.1; have H1 := RH.2.1; have B := RH.2.2.2.1
  by_cases a0 : 0 ≤ a
  · by_cases a60 : a ≤ 60
    · by_cases inb : (0 : Int32) ≤ b ∧ b ≤ 3
      · obtain ⟨p, hp, rfl⟩ := nI_num (m := 60) (by omega) a0 a60
        obtain ⟨h1, e1, K1, K2, K3⟩ := c_likeH_7_1 (d := d + 6) H1 V
        have bn : ¬ b < 0 := Int32.not_lt.mpr inb.1
        have pre : zcal (d + 10) 58 [.ref 0, .int (nI p), .int b] h = zCv (zcal (d + 9) 29 [.ref 7, .int (nI p)] h1) (fun h4 => (zCi (zcal (d + 9) 41 [.ref 7, .int b] h4) (fun v6 h5 => some (some (.int v6), h5)))) := by
          rw [E58_0, if_pos (show nI p ≥ 0 from a0), if_pos a60, if_neg bn, if_pos inb.2, e1, zCv_some]
        have pre2 : ∀ h' : zH, zcal (d + 10) 172 [.ref 32, .int (nI p), .int b] h' = zCv (zcal (d + 9) 147 [.ref 32, .int (nI p)] (kpB h' 1 48)) (fun h2 => (zCi (zcal (d + 9) 162 [.ref 32, .int b] h2) (fun v4 h3 => (zCv (zcal (d + 9) 174 [.ref 32] h3) (fun h5 => some (some (.int v4), h5)))))) := by
          intro h'
          rw [E172_32, r_bound, if_pos a0, if_pos a60, zCi_some, if_pos rfl, r_isIn, if_pos inb, zCi_some, if_neg (by decide), E172_32_at24, if_pos rfl, r_173 (d := d + 5), zCv_some]
        -- the end, the same for both
        have fin : ∀ (h2 hm : zH), zFr zMT h h2 → (∀ j, j < 9 ∨ (13 < j ∧ j < 23) ∨ (24 < j ∧ j < 28) ∨ 35 < j → hm 32 j = h2 32 j) → (∀ a, a ≠ 32 → a ≠ 43 → a ≠ 44 → a ≠ 45 → hm a = h2 a) → hm 43 = kpB h2 1 48 43 → Rel (rdB hm 1 48) := by
          intro h2 hm F f32 fa f43
          have R2 := Rel0_mv R0 (zPers_mt F)
          have C2 := RelC_mt C F
          refine ⟨⟨g, n, k, Rel0_mv R2 (keep_pers (fun i _ _ => by rw [f43]) (fun a p q j _ => by rw [fa a (by omega) (by omega) (by omega) (by omega)]) (fun a p q => fa a (by omega) (by omega) (by omega) (by omega)) (fa 39 (by omega) (by omega) (by omega) (by omega)) (fa 46 (by omega) (by omega) (by omega) (by omega)) (fun i hi => by rw [f43]; exact kpB_43 (by omega)) (fun j hj => f32 j (by omega)))⟩, RelC_mv C2 (by rw [rdB_c (by omega) (by omega), fa 30 (by omega) (by omega) (by omega) (by omega)]) (by rw [rdB_c (by omega) (by omega), fa 33 (by omega) (by omega) (by omega) (by omega)])⟩
        have F1 : zFr zMT h h1 := fun a ha => K3 a (by unfold zMT at ha; omega)
        have Q1 : ∀ i, i < 6 → h1 32 (8 + i) = h 1 (7 + i) := fun i hi => by rw [K3 32 (by omega)]; exact RH.2.2.2.2 i hi
        by_cases hm : h 1 11 = 0
        · obtain ⟨at0, hat, eat, hrid⟩ := B.2.2.2 hm
          have eat : h 1 8 = nI at0 := eat
          have h0 : jOk n k (at0, h 1 9, h 1 10, h 1 11) := ⟨B.2.1, fun _ => ⟨hat, hrid⟩⟩
          obtain ⟨h2, e2, S1, S8, S9, S10, S11, S12, S7, SF⟩ := c_steps_7 (d := d + 5) (q0 := (at0, h 1 9, h 1 10, h 1 11)) V K1 h0 (by rw [K2 8 (by omega) (by omega), eat]) (by rw [K2 9 (by omega) (by omega)]) (by rw [K2 10 (by omega) (by omega)]) (by rw [K2 11 (by omega) (by omega)]) hp
          have F2 : zFr zMT h h2 := fun a ha => by rw [SF a (by unfold zMT at ha; omega), F1 a ha]
          have c2 : ∀ a, a < 7 ∨ 12 < a → h2 a = h a := fun a ha => by rw [SF a (by omega), K3 a (by omega)]
          have Hk : zHr (kpB h2 1 48) g n k := zHr_mv RH.2.2.1 (by rw [kpB_32 (by omega), c2 32 (by omega)]) (by rw [kpB_32 (by omega), c2 32 (by omega)]) (fun a p q => by rw [kpB_a (by omega) (by omega), c2 a (by omega)])
          obtain ⟨h4, e4, T1, T9, T10, T11, T12, T13, T32, TF⟩ := r_steps (d := d + 5) (q0 := (at0, h 1 9, h 1 10, h 1 11)) V Hk h0 (rAt0_mv R0.2.2.2.2.2 (fun j p q => by rw [kpB_32 (by omega), c2 32 (by omega)])) (by rw [kpB_32 (by omega), c2 32 (by omega)]; exact (RH.2.2.2.2 1 (by omega)).trans eat) (by rw [kpB_32 (by omega), c2 32 (by omega)]; exact RH.2.2.2.2 2 (by omega)) (by rw [kpB_32 (by omega), c2 32 (by omega)]; exact RH.2.2.2.2 3 (by omega)) (by rw [kpB_32 (by omega), c2 32 (by omega)]; exact RH.2.2.2.2 4 (by omega)) hp
          refine sim_ok (h1 := h2) (h2 := rdB h4 1 48) (by rw [pre, e2, zCv_some, c_41_7, zCi_some]) (by rw [pre2, e4, zCv_some, r_162, zCi_some, r_174 (d := d + 5), zCv_some, T9, T10, T11, T12, S8, S9, S10, S11]) (fin h2 h4 F2 (fun j hj => by rw [T32 j (by omega), kpB_32 (by omega)]) (fun a q1 q2 q3 q4 => by rw [TF a q1 q3 q4, kpB_a q2 q1]) (TF 43 (by omega) (by omega) (by omega)))
        · have hm1 : h1 7 11 ≠ 0 := by rw [K2 11 (by omega) (by omega)]; exact hm
          have e12 : kpB h1 1 48 32 12 = h 1 11 := by rw [kpB_32 (by omega)]; exact Q1 4 (by omega)
          obtain ⟨h4, e4, T32, TF⟩ := r_steps0 (d := d + 7) (h := kpB h1 1 48) (by rw [e12]; exact hm) (x := nI p)
          have t : ∀ j, 9 ≤ j → j ≤ 12 → h4 32 j = h1 7 (j - 1) := fun j p q => by
            rw [T32 j (by omega), kpB_32 (by omega), K2 (j - 1) (by omega) (by omega)]
            have := Q1 (j - 8) (by omega)
            rw [show 8 + (j - 8) = j by omega, show 7 + (j - 8) = j - 1 by omega] at this
            exact this
          refine sim_ok (h1 := h1) (h2 := rdB h4 1 48) (by rw [pre, c_steps07 (d := d + 8) hm1, zCv_some, c_41_7, zCi_some]) (by rw [pre2, e4, zCv_some, r_162, zCi_some, r_174 (d := d + 5), zCv_some, t 9 (by omega) (by omega), t 10 (by omega) (by omega), t 11 (by omega) (by omega), t 12 (by omega) (by omega)]) (fin h1 h4 F1 (fun j hj => by rw [T32 j (by omega), kpB_32 (by omega)]) (fun a q1 q2 q3 q4 => by rw [TF a q1, kpB_a q2 q1]) (TF 43 (by omega)))
      · refine sim_rf R (c := -2) (j := 1) (by omega) ?_ ?_
        · rw [E58_0, if_pos (show a ≥ 0 from a0), if_pos a60]
          by_cases bn : b < 0
          · rw [if_pos bn, c_rf2, zCi_some]
          · rw [if_neg bn, if_neg (fun q => inb ⟨Int32.not_lt.mp bn, q⟩), c_rf2, zCi_some]
        · rw [E172_32, r_bound, if_pos a0, if_pos a60, zCi_some, if_pos rfl, r_isIn, if_neg inb, zCi_some, if_pos rfl, E172_32_at24, if_neg (by decide), r_no2, zCi_some]
    · refine sim_rf R (c := -6) (j := 5) (by omega) ?_ ?_
      · rw [E58_0, if_pos (show a ≥ 0 from a0), if_neg a60, c_rf6, zCi_some]
      · rw [E172_32, r_bound, if_pos a0, if_neg a60, zCi_some, if_neg (by decide), E172_32_at24, if_neg (by decide), r_no6, zCi_some]
  · refine sim_rf R (c := -4) (j := 3) (by omega) ?_ ?_
    · rw [E58_0, if_neg (show ¬ a ≥ 0 from a0), c_rf4, zCi_some]
    · rw [E172_32, r_bound, if_neg a0, zCi_some, if_neg (by decide), E172_32_at24, if_neg (by decide), r_no4, zCi_some]

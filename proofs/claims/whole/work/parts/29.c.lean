theorem sim_rider {a b : Int32} : zSim 48 166 [.int a, .int b] := by
  intro d h R
  obtain ⟨⟨g, n, k, R0⟩, C⟩ := id R
  have RH := R0.1
  have V := RH.1; have H1 := RH.2.1; have H2 := RH.2.2.1
  have hk := V.2.1
  by_cases a0 : a < 1
  · refine sim_rf R (c := -4) (j := 3) (by omega) ?_ ?_
    · rw [E48_0, if_pos a0, c_rf4, zCi_some]
    · rw [E166_32, if_pos a0, E166_32_at40, if_neg (by decide), r_no4, zCi_some]
  · by_cases b0 : 0 ≤ b
    · by_cases a9 : a > 9
      · refine sim_rf R (c := -6) (j := 5) (by omega) ?_ ?_
        · rw [E48_0, if_neg a0, if_pos (show b ≥ 0 from b0), if_pos a9, c_rf6, zCi_some]
        · rw [E166_32, if_neg a0, if_pos (show b ≥ 0 from b0), if_pos a9, E166_32_at40, if_neg (by decide), r_no6, zCi_some]
      · by_cases b9 : b > 9
        · refine sim_rf R (c := -6) (j := 5) (by omega) ?_ ?_
          · rw [E48_0, if_neg a0, if_pos (show b ≥ 0 from b0), if_neg a9, if_pos b9, c_rf6, zCi_some]
          · rw [E166_32, if_neg a0, if_pos (show b ≥ 0 from b0), if_neg a9, if_pos b9, E166_32_at40, if_neg (by decide), r_no6, zCi_some]
        · by_cases hk5 : k < 5
          · have a00 : 0 ≤ a := by
              rw [Int32.lt_iff_toInt_lt] at a0
              rw [Int32.le_iff_toInt_le]
              have t1 : (1 : Int32).toInt = 1 := by decide
              have t0 : (0 : Int32).toInt = 0 := by decide
              omega
            obtain ⟨x, hx, rfl⟩ := nI_num (m := 9) (by omega) a00 (Int32.not_lt.mp a9)
            obtain ⟨y, hy, rfl⟩ := nI_num (m := 9) (by omega) b0 (Int32.not_lt.mp b9)
            have H1' : zHil (z_up h 23 2 0) 1 g n k := zHil_mv H1 (by rw [z_up_ne (by omega)]) (by rw [z_up_ne (by omega)]) (fun j p q => z_up_ne (by omega))
            obtain ⟨h1, e1, K1, K2, K3⟩ := c_addR_1 (d := d + 7) H1' hk5 (a := nI x) (b := nI y)
            have H2' : zHr (z_up h1 32 25 0) g n k := zHr_mv H2 (by rw [zu_ni _ _ (by omega), K3 32 (by omega), z_up_ne (by omega)]) (by rw [zu_ni _ _ (by omega), K3 32 (by omega), z_up_ne (by omega)]) (fun a p q => by rw [z_up_ne (by omega), K3 a (by omega), z_up_ne (by omega)])
            obtain ⟨h2, e2, L1, L2, L3⟩ := r_addR (d := d + 8) H2' hk5 (a := nI x) (b := nI y)
            have n10 : ¬ nI k = (5 : Int32) := fun q => by have := (nI_eq (a := k) (b := 5) (by omega) (by omega)).mp q; omega
            refine sim_ok (v := .int (nI k)) (h1 := h1) (h2 := h2) ?_ ?_ ?_
            · rw [E48_0, if_neg a0, if_pos (show nI y ≥ 0 from b0), if_neg a9, if_neg b9, H1.2.1, if_pos (show nI k < (5 : Int32) from nI_lt (b := 5) hk5 (by omega)), E36_23, zCv_some, e1, zCi_some]
            · rw [E166_32, if_neg a0, if_pos (show nI y ≥ 0 from b0), if_neg a9, if_neg b9, K3 32 (by omega), z_up_ne (by omega), H2.2.1, if_neg n10, E166_32_at40, if_pos rfl, e2, zCv_some, L1.2.1, ← nI_1, nI_p1]
            · have c1 : h2 1 = h1 1 := by rw [L3 1 (by omega) (by omega), z_up_ne (by omega)]
              refine new_rel (g' := gR g k (nI x) (nI y)) (n' := n) (k' := k + 1) R0 C (fun a ha => by rw [L3 a (by omega) (by omega), z_up_ne (by omega), K3 a (by omega), z_up_ne (by omega)]) (by rw [L3 23 (by omega) (by omega), z_up_ne (by omega), K3 23 (by omega), zu_ni _ _ (by omega)]) (by rw [L3 23 (by omega) (by omega), z_up_ne (by omega), K3 23 (by omega), zu_eq]) (by rw [L2 25 (by omega), zu_eq]) (fun j hj => by rw [L2 j (by omega), zu_ni _ _ (by omega), K3 32 (by omega), z_up_ne (by omega)]) ⟨zVal_R V hk5 (by omega) (by omega), zHil_mv K1 (by rw [c1]) (by rw [c1]) (fun j p q => by rw [L3 _ (by omega) (by omega), z_up_ne (by omega)]), L1, bOk_mo (Nat.le_refl _) (by omega) (bOk_ex RH.2.2.2.1 (fun i hi => by rw [c1, K2 _ (by omega), z_up_ne (by omega)])), fun i hi => ?_⟩
              rw [c1, K2 _ (by omega), z_up_ne (by omega), L2 _ (by omega), zu_ni _ _ (by omega), K3 32 (by omega), z_up_ne (by omega)]
              exact RH.2.2.2.2 i hi
          · have hk : k = 5 := by omega
            subst hk
            refine sim_rf R (c := -6) (j := 5) (by omega) ?_ ?_
            · rw [E48_0, if_neg a0, if_pos (show b ≥ 0 from b0), if_neg a9, if_neg b9, H1.2.1, if_neg (show ¬ nI 5 < (5 : Int32) by decide), c_rf6, zCi_some]
            · have e6 : refC h 5 32 7 = nI 5 := by unfold refC; rw [z_up_ne (by omega)]; exact H2.2.1
              rw [E166_32, if_neg a0, if_pos (show b ≥ 0 from b0), if_neg a9, if_neg b9, e6, if_pos (show nI 5 = (5 : Int32) from rfl), E166_32_at40, if_neg (by decide), r_no6, zCi_some]
    · refine sim_rf R (c := -4) (j := 3) (by omega) ?_ ?_
      · rw [E48_0, if_neg a0, if_neg (show ¬ b ≥ 0 from b0), c_rf4, zCi_some]
      · rw [E166_32, if_neg a0, if_neg (show ¬ b ≥ 0 from b0), E166_32_at40, if_neg (by decide), r_no4, zCi_some]
/-! BACK -/
def cPo (h : zH) (b i : Nat) : zH := fun c j => if c = 4 ∧ j < i then h 24 (b + j) else h c j
theorem cPo_0 (h : zH) (b : Nat) : cPo h b 0 = h := by funext c j; unfold cPo; rw [if_neg (by omega)]
theorem cPo_s (h : zH) (b i : Nat) : z_up (cPo h b i) 4 i (h 24 (b + i)) = cPo h b (i + 1) := by
  funext c j
  rw [zu_ap]
  unfold cPo
  by_cases a : c = 4 ∧ j = i
  · rw [if_pos a, if_pos ⟨a.1, by omega⟩, a.2]
  · rw [if_neg a]
    by_cases q : c = 4 ∧ j < i
    · rw [if_pos q, if_pos ⟨q.1, by omega⟩]
    · rw [if_neg q, if_neg (by omega)]
theorem cPo_o {h : zH} {b i c j : Nat} (hc : c ≠ 4) : cPo h b i c j = h c j := by unfold cPo; rw [if_neg (by omega)]
theorem l_pop {d : Nat} {h : zH} {b : Nat} (hb : b ≤ 112) : ∀ m i, i + m = 10 → zE (d + 1) 55 (36, [some (.ref 23), some (.ref 1), some (.int (nI b)), some (.int (nI i))], [], cPo h b i) = zE (d + 1) 55 (36, [some (.ref 23), some (.ref 1), some (.int (nI b)), some (.int (nI 10))], [], cPo h b 10) := by
  intro m
  induction m with
  | zero => intro i hi; have hi : i = 10 := hi; subst hi; rfl
  | succ m ih =>
    intro i hi
    rw [E55_23_1_at36, if_neg (nge10 (by omega)), nn_add, c_get (n := 128) rfl (by omega), zCi_some, gt_nI (by omega) (by omega), cPo_o (by omega), c_put (n := 10) rfl (by omega), zCv_some, pt_nI (by omega) (by omega), cPo_s, nI_1]
    exact ih (i + 1) (by omega)
theorem c_pop {d : Nat} {h : zH} {f e : Nat} (hf : f < 8) (he : e < 8) (e1 : h 23 1 = nI f) (e2 : h 23 2 = nI (e + 1)) : ∃ h', zcal (d + 2) 55 [.ref 23, .ref 1] h = some (none, h') ∧ h' 23 2 = nI e ∧ h' 23 1 = nI f ∧ (∀ i, i < 10 → h' 4 i = h 24 (16 * ((f + e) % 8) + i)) ∧ (∀ i, i < 6 → h' 1 (7 + i) = h 24 (16 * ((f + e) % 8) + 10 + i)) ∧ (∀ j, j < 7 → h' 1 j = h 1 j) ∧ ∀ a, a ≠ 1 → a ≠ 4 → a ≠ 23 → h' a = h a := by
  have hm : nI (e + 1) - 1 = nI e := by rw [← nI_1, nI_p1]
  have m1 : nI f + nI e - (nI f + nI e) / 8 * 8 = nI ((f + e) % 8) := by rw [nn_add]; exact mod8 (f + e) (by omega)
  have n0 : ¬ nI (e + 1) = 0 := fun q => by have := (nI_eq (a := e + 1) (b := 0) (by omega) (by omega)).mp q; omega
  generalize hb : 16 * ((f + e) % 8) = b at *
  have hb1 : b ≤ 112 := by omega
  have l := l_pop (d := d) (h := z_up h 23 2 (nI e)) hb1 10 0 (by omega)
  rw [cPo_0] at l
  generalize hH : cPo (z_up h 23 2 (nI e)) b 10 = H at l
  have H24 : H 24 = h 24 := by rw [← hH]; funext j; rw [cPo_o (by omega), zu_nc _ _ (by omega)]
  have H4 : ∀ i, i < 10 → H 4 i = h 24 (b + i) := fun i hi => by rw [← hH]; unfold cPo; rw [if_pos ⟨rfl, hi⟩, zu_nc _ _ (by omega)]
  have Ho : ∀ c, c ≠ 4 → c ≠ 23 → H c = h c := fun c q1 q2 => by rw [← hH]; funext j; rw [cPo_o q1, zu_nc _ _ q2]
  have H231 : H 23 1 = nI f := by rw [← hH, cPo_o (by omega), zu_ni _ _ (by omega), e1]
  have H232 : H 23 2 = nI e := by rw [← hH, cPo_o (by omega), zu_eq]
  have t0 : nI b + (10 : Int32) = nI (b + 10) := nn_add b 10
  have t1 : nI (b + 10) + (1 : Int32) = nI (b + 11) := nn_add (b + 10) 1
  have t2 : nI (b + 10) + (2 : Int32) = nI (b + 12) := nn_add (b + 10) 2
  have t3 : nI (b + 10) + (3 : Int32) = nI (b + 13) := nn_add (b + 10) 3
  have t4 : nI (b + 10) + (4 : Int32) = nI (b + 14) := nn_add (b + 10) 4
  have t5 : nI (b + 10) + (5 : Int32) = nI (b + 15) := nn_add (b + 10) 5
  have gg : ∀ (H' : zH) (x : Nat), H' 24 = h 24 → x < 128 → zcal (d + 1) 6 [.ref 24, .int (nI x)] H' = some (some (.int (h 24 x)), H') := fun H' x q hx => by
    rw [c_get (n := 128) rfl (by omega), gt_nI hx (by omega), q]
  have fin : zE (d + 1) 55 (36, [some (.ref 23), some (.ref 1), some (.int (nI b)), some (.int (nI 10))], [], H) = some (none, z_up (z_up (z_up (z_up (z_up (z_up H 1 7 (h 24 (b + 10))) 1 8 (h 24 (b + 11))) 1 9 (h 24 (b + 12))) 1 10 (h 24 (b + 13))) 1 11 (h 24 (b + 14))) 1 12 (h 24 (b + 15))) := by
    rw [E55_23_1_at36, if_pos ge10, t0, t1, t2, t3, t4, t5, gg _ _ H24 (by omega), zCi_some,
      gg _ _ (by rw [z_up_ne (by omega), H24]) (by omega), zCi_some,
      gg _ _ (by rw [z_up_ne (by omega), z_up_ne (by omega), H24]) (by omega), zCi_some,
      gg _ _ (by rw [z_up_ne (by omega), z_up_ne (by omega), z_up_ne (by omega), H24]) (by omega), zCi_some,
      gg _ _ (by rw [z_up_ne (by omega), z_up_ne (by omega), z_up_ne (by omega), z_up_ne (by omega), H24]) (by omega), zCi_some,
      gg _ _ (by rw [z_up_ne (by omega), z_up_ne (by omega), z_up_ne (by omega), z_up_ne (by omega), z_up_ne (by omega), H24]) (by omega), zCi_some]
  have zz : ∀ c, c ≠ 1 → z_up (z_up (z_up (z_up (z_up (z_up H 1 7 (h 24 (b + 10))) 1 8 (h 24 (b + 11))) 1 9 (h 24 (b + 12))) 1 10 (h 24 (b + 13))) 1 11 (h 24 (b + 14))) 1 12 (h 24 (b + 15)) c = H c := fun c hc => by
    rw [z_up_ne hc, z_up_ne hc, z_up_ne hc, z_up_ne hc, z_up_ne hc, z_up_ne hc]
  refine ⟨z_up (z_up (z_up (z_up (z_up (z_up H 1 7 (h 24 (b + 10))) 1 8 (h 24 (b + 11))) 1 9 (h 24 (b + 12))) 1 10 (h 24 (b + 13))) 1 11 (h 24 (b + 14))) 1 12 (h 24 (b + 15)), ?_, by rw [zz 23 (by omega)]; exact H232, by rw [zz 23 (by omega)]; exact H231, fun i hi => by rw [zz 4 (by omega)]; exact H4 i hi, fun i hi => ?_, fun j hj => ?_, fun a q1 q2 q3 => by rw [zz a q1]; exact Ho a q2 q3⟩
  · rw [E55_23_1, e1, e2, if_neg n0, hm, m1, mul16 _ (by omega), hb]
    exact l.trans fin
  · have hi : i = 0 ∨ i = 1 ∨ i = 2 ∨ i = 3 ∨ i = 4 ∨ i = 5 := by omega
    rcases hi with rfl | rfl | rfl | rfl | rfl | rfl <;> simp [zu_ap]
  · rw [zu_ni _ _ (by omega), zu_ni _ _ (by omega), zu_ni _ _ (by omega), zu_ni _ _ (by omega), zu_ni _ _ (by omega), zu_ni _ _ (by omega), Ho 1 (by omega) (by omega)]
theorem sim_back : zSim 54 156 [] := by
  intro d h R
  obtain ⟨⟨g, n, k, RH, RT, RR, RI, RP, RZ⟩, C⟩ := id R
  have V := RH.1; have H1 := RH.2.1; have H2 := RH.2.2.1
  have hn := V.1; have hk := V.2.1
  obtain ⟨f, c, P⟩ := RelP_f RP
  obtain ⟨p1, p2, p3, p4, p5, p6⟩ := P
  by_cases c0 : c = 0
  · subst c0
    refine sim_rf R (c := -3) (j := 2) (by omega) ?_ ?_
    · rw [E54_0, p4, if_pos (show nI 0 = (0 : Int32) from rfl), c_rf3, zCi_some]
    · have : refC h 2 32 25 = nI 0 := by unfold refC; rw [z_up_ne (by omega), p5]
      rw [E156_32, this, if_pos (show nI 0 = (0 : Int32) from rfl), r_no3, zCi_some]
  · obtain ⟨e, rfl⟩ : ∃ e, c = e + 1 := ⟨c - 1, by omega⟩
    have hm : nI (e + 1) - 1 = nI e := by rw [← nI_1, nI_p1]
    have n0 : ¬ nI (e + 1) = 0 := fun q => by have := (nI_eq (a := e + 1) (b := 0) (by omega) (by omega)).mp q; omega
    obtain ⟨h1, e1, k1, k2, k3, k4, k5, k6⟩ := c_pop (d := d + 7) p1 (by omega) p3 p4
    have t : (2 : Int32) + nI e = nI (2 + e) := nn_add 2 e
    have e25 : h1 32 25 = nI (e + 1) := by rw [k6 32 (by omega) (by omega) (by omega), p5]
    have r0 := r_read (d := d + 6) (h := z_up h1 32 25 (nI e)) (w := 2 + e) (by omega)
    obtain ⟨r1, r2, r3⟩ := p6 e (by omega)
    have S1 := zSn_mv (h' := z_up h1 32 25 (nI e)) ⟨hn, hk⟩ r3 (fun i hi => by rw [z_up_ne (by omega), k6 43 (by omega) (by omega) (by omega)])
    obtain ⟨Hr, Hf⟩ := rd_Hr ⟨hn, hk⟩ S1
    have ko : ∀ a, a ≠ 32 → (a < 34 ∨ 38 < a) → rdB (z_up h1 32 25 (nI e)) (2 + e) 48 a = h1 a := fun a q1 q2 => by rw [rdB_c q2 q1, z_up_ne q1]
    have k32 : ∀ j, 14 ≤ j → j ≠ 23 → j ≠ 24 → j ≠ 25 → rdB (z_up h1 32 25 (nI e)) (2 + e) 48 32 j = h 32 j := fun j q1 q2 q3 q4 => by rw [rdB_32 (by omega), zu_ni _ _ q4, k6 32 (by omega) (by omega) (by omega)]
    have f25 : rdB (z_up h1 32 25 (nI e)) (2 + e) 48 32 25 = nI e := by rw [rdB_32 (by omega), zu_eq]
    refine sim_ok (v := .int (nI e)) (h1 := h1) (h2 := rdB (z_up h1 32 25 (nI e)) (2 + e) 48) ?_ ?_ ?_
    · rw [E54_0, p4, if_neg n0, e1, zCv_some, k1]
    · rw [E156_32, e25, if_neg n0, hm, t, r0, zCv_some, f25]
    · have q4 : ∀ a, a ≠ 1 → a ≠ 4 → a ≠ 23 → a ≠ 32 → (a < 34 ∨ 38 < a) → rdB (z_up h1 32 25 (nI e)) (2 + e) 48 a = h a := fun a q1 q2 q3 q4 q5 => by rw [ko a q4 q5, k6 a q1 q2 q3]
      have ge : ∀ r, r ≠ 2 → (fun r => if r = 2 then (fun s => h 24 (16 * ((f + e) % 8) + s)) else g r) r = g r := fun r hr => if_neg hr
      have g2 : (fun r => if r = 2 then (fun s => h 24 (16 * ((f + e) % 8) + s)) else g r) 2 = fun s => h 24 (16 * ((f + e) % 8) + s) := if_pos rfl
      generalize hg : (fun r => if r = 2 then (fun s => h 24 (16 * ((f + e) % 8) + s)) else g r) = g' at *
      refine ⟨⟨g', n, k, ⟨⟨hn, hk, fun s hs => ?_, fun r hr => ?_⟩, ⟨?_, ?_, fun s hs => ⟨?_, ?_, ?_⟩, fun r hr => ?_⟩, Hr, bOk_ex r2 (fun i hi => ?_), fun i hi => ?_⟩, RelT_mv RT (by rw [q4 26 (by omega) (by omega) (by omega) (by omega) (by omega)]) (q4 27 (by omega) (by omega) (by omega) (by omega) (by omega)) (q4 39 (by omega) (by omega) (by omega) (by omega) (by omega)) (k32 18 (by omega) (by omega) (by omega) (by omega)), RelR_mv RR (by rw [q4 28 (by omega) (by omega) (by omega) (by omega) (by omega)]) (q4 29 (by omega) (by omega) (by omega) (by omega) (by omega)) (q4 46 (by omega) (by omega) (by omega) (by omega) (by omega)) (k32 40 (by omega) (by omega) (by omega) (by omega)), RelI_mv RI (by rw [q4 0 (by omega) (by omega) (by omega) (by omega) (by omega)]) (fun a p q => q4 a (by omega) (by omega) (by omega) (by omega) (by omega)) (fun i hi => by rw [q4 43 (by omega) (by omega) (by omega) (by omega) (by omega)]) (k32 22 (by omega) (by omega) (by omega) (by omega)), ?_, rAt0_mv RZ (fun j p q => k32 j (by omega) (by omega) (by omega) (by omega))⟩, RelC_mv C (q4 30 (by omega) (by omega) (by omega) (by omega) (by omega)) (q4 33 (by omega) (by omega) (by omega) (by omega) (by omega))⟩
      · rw [g2, ge 0 (by omega), ge 1 (by omega)]; exact ⟨r1 s hs, (V.2.2.1 s hs).2⟩
      · rw [ge 3 (by omega), ge 4 (by omega)]; exact V.2.2.2 r hr
      · rw [ko 1 (by omega) (by omega), k5 5 (by omega)]; exact H1.1
      · rw [ko 1 (by omega) (by omega), k5 6 (by omega)]; exact H1.2.1
      · rw [ge 0 (by omega), q4 2 (by omega) (by omega) (by omega) (by omega) (by omega)]; exact (H1.2.2.1 s hs).1
      · rw [ge 1 (by omega), q4 3 (by omega) (by omega) (by omega) (by omega) (by omega)]; exact (H1.2.2.1 s hs).2.1
      · rw [g2, ko 4 (by omega) (by omega)]; exact k3 s (by omega)
      · rw [ge 3 (by omega), ge 4 (by omega), q4 5 (by omega) (by omega) (by omega) (by omega) (by omega), q4 6 (by omega) (by omega) (by omega) (by omega) (by omega)]; exact H1.2.2.2 r hr
      · rw [ko 1 (by omega) (by omega), k4 i hi]
      · rw [ko 1 (by omega) (by omega), k4 i hi]; exact Hf i hi
      · refine RelP_g ge ⟨f, e, p1, by omega, by rw [ko 23 (by omega) (by omega), k2], by rw [ko 23 (by omega) (by omega), k1], f25, fun j hj => ?_⟩
        obtain ⟨s1, s2, s3⟩ := p6 j (by omega)
        rw [q4 24 (by omega) (by omega) (by omega) (by omega) (by omega)]
        exact ⟨s1, s2, zSn_mv ⟨hn, hk⟩ s3 (fun i hi => by rw [q4 43 (by omega) (by omega) (by omega) (by omega) (by omega)])⟩

/-- the letters are gone, all else stands -/
theorem tx_rel {h hF : zH} {g : zHl} {n k : Nat} (R : Rel0 g n k h) (C : RelC h) (P : zPers (z_up (z_up h 26 1 0) 32 18 0) hF) (e30 : hF 30 = h 30) (e33 : hF 33 = h 33) : Rel hF := by
  obtain ⟨RH, RT, RR, RI, RP, RZ⟩ := R
  have F : ∀ a, a ≠ 26 → a ≠ 32 → z_up (z_up h 26 1 0) 32 18 0 a = h a := fun a p q => by rw [z_up_ne q, z_up_ne p]
  have F32 : ∀ j, j ≠ 18 → z_up (z_up h 26 1 0) 32 18 0 32 j = h 32 j := fun j hj => by rw [zu_ni _ _ hj, z_up_ne (by omega)]
  refine ⟨⟨g, n, k, Rel0_mv (h := z_up (z_up h 26 1 0) 32 18 0) ⟨RelH_mv RH (fun a p q => F a (by omega) (by omega)) (fun a p q => F a (by omega) (by omega)) (fun j p q => F32 j (by omega)), ⟨0, by omega, by rw [z_up_ne (by omega), zu_eq]; rfl, by rw [zu_eq]; rfl, fun j hj => absurd hj (by omega)⟩, RelR_mv RR (by rw [F 28 (by omega) (by omega)]) (F 29 (by omega) (by omega)) (F 46 (by omega) (by omega)) (F32 40 (by omega)), RelI_mv RI (by rw [F 0 (by omega) (by omega)]) (fun a p q => F a (by omega) (by omega)) (fun i hi => by rw [F 43 (by omega) (by omega)]) (F32 22 (by omega)), RelP_mv RH.1 RP (by rw [F 23 (by omega) (by omega)]) (by rw [F 23 (by omega) (by omega)]) (F 24 (by omega) (by omega)) (fun i hi => by rw [F 43 (by omega) (by omega)]) (F32 25 (by omega)), rAt0_mv RZ (fun j p q => F32 j (by omega))⟩ P⟩, RelC_mv C e30 e33⟩
theorem neg1 : ∀ q : Nat, q < 200 → ((-1000 : Int32) - nI q ≤ 0) ∧ ¬ ((-1000 : Int32) - nI q = 0) ∧ ((-2000 : Int32) - nI q ≤ 0) := by decide +kernel
/-- one fault of the first kind -/
theorem hill_f1 {d : Nat} {h : zH} {g : zHl} {n k t : Nat} (R0 : Rel0 g n k h) (C : RelC h) (ht : t ≤ 96) (tx : txC (h 27) t h) (tr : txR (h 27) t h) {K q : Nat} (hc : zcal (d + 9) 11 [.ref 25] h = some (some (.int ((-1000 : Int32) - nI q)), h)) (g1 : gdS (lA (h 27) t) t K) (hq : sW (lA (h 27) t) (pL (lA (h 27) t) K) = some q) (hz : pL (lA (h 27) t) K < t ∨ (K = 0 ∧ t = 0)) : ∃ (v : Value) (h1 h2 : zH), zcal (d + 10) 10 (.ref 0 :: []) h = some (some v, h1) ∧ zcal (d + 10) 126 (.ref 32 :: []) h1 = some (some v, h2) ∧ Rel h2 := by
  have p100 := pL_le ht g1
  have qr := sW_r hq
  obtain ⟨n1, n2, _⟩ := neg1 q (by omega)
  have tr1 : txR (h 27) t (z_up h 26 1 0) := txR_mv tr (by rw [z_up_ne (by omega)]) (z_up_ne (by omega))
  obtain ⟨y, ey, y18, F⟩ := r_f1 (d := d + 4) ht g1 hq hz tr1
  refine sim_ok (v := .int ((-1000 : Int32) - nI q)) (h1 := z_up h 26 1 0) (h2 := y) ?_ ey (tx_rel R0 C ⟨fun a p r => ?_, fun a p r => ?_, ?_, fun i hi => ?_, fun j hj => ?_⟩ ?_ ?_)
  · rw [E10_0, hc, zCi_some, if_neg n2, if_pos n1, E37_26, zCv_some]
  · funext j; rw [F a j (by omega) (by omega) (by omega) (by omega), z_up_ne (show a ≠ 32 by omega)]
  · funext j; rw [F a j (by omega) (by omega) (by omega) (by omega), z_up_ne (show a ≠ 32 by omega)]
  · funext j; rw [F 46 j (by omega) (by omega) (by omega) (by omega), z_up_ne (show (46 : Nat) ≠ 32 by omega)]
  · rw [F 43 i (by omega) (by omega) (by omega) (by omega), z_up_ne (show (43 : Nat) ≠ 32 by omega)]
  · by_cases e : j = 18
    · rw [e, y18, zu_eq]
    · rw [F 32 j (by omega) (by omega) (by omega) (by omega), zu_ni _ _ e]
  · funext j; rw [F 30 j (by omega) (by omega) (by omega) (by omega), z_up_ne (by omega)]
  · funext j; rw [F 33 j (by omega) (by omega) (by omega) (by omega), z_up_ne (by omega)]
theorem sim_hill : zSim 10 126 [] := by
  intro d h R
  obtain ⟨⟨g, n, k, R0⟩, C⟩ := id R
  obtain ⟨RH, RT, RR, RI, RP, RZ⟩ := id R0
  obtain ⟨V, H1, H2, B, Q⟩ := id RH
  obtain ⟨t, ht, t2, t3, t4⟩ := RT
  have tx : txC (h 27) t h := ⟨t2, fun j _ => rfl⟩
  have tr : txR (h 27) t h := ⟨t3, fun j hj => (t4 j hj).1⟩
  rcases Nat.eq_zero_or_pos t with t0 | t0
  · subst t0
    refine hill_f1 R0 C ht tx tr (K := 0) (q := 0) ((c_11e (d := d + 3) tx).trans rfl) (fun j hj => absurd hj (by omega)) (sW_0 ?_) (Or.inr ⟨rfl, rfl⟩)
    show sL (lA (h 27) 0 0) = 0
    unfold lA
    rw [if_neg (by omega)]
    decide
  · rcases form ht t0 (L := lA (h 27) t) with ⟨K, K0, g1, hK⟩ | ⟨K, q, g1, hK, hq⟩
    · have k48 := gdS_K ht g1
      have p100 := pL_le ht g1
      obtain ⟨h1, e1, L1, L2, L3⟩ := c_likeH_7_1 (d := d + 6) H1 V
      have F1 : zFr zMT h h1 := fun a ha => L3 a (by unfold zMT at ha; omega)
      have tx1 := txC_mt tx F1
      have C7 : zC7 g n k (fun i => h 1 (7 + i)) h1 := ⟨V, L1, B, fun i hi => L2 _ (by omega) (by omega)⟩
      have cpre : zcal (d + 10) 10 [.ref 0] h = (zCi (zE (d + 8) 18 (7, [some (.ref 25), some (.ref 7), some (.int 0), some (.int 0), some (.int 0)], [], h1)) (fun v5 h4 => (if v5 ≤ 0 then (zCv (zcal (d + 9) 37 [.ref 26] h4) (fun h6 => some (some (.int v5), h6))) else (zCv (zcal (d + 9) 16 [.ref 1, .ref 7] h4) (fun h7 => (zCv (zcal (d + 9) 36 [.ref 23] h7) (fun h8 => (zCv (zcal (d + 9) 37 [.ref 26] h8) (fun h9 => some (some (.int v5), h9)))))))))) := by
        rw [E10_0, (c_11 (d := d + 3) tx ht).1 K K0 g1 hK, zCi_some, if_pos rfl, e1, zCv_some, E18_25_7]
      -- the reference, from a heap where the letters stand and the rest is as before
      have rpre : ∀ x : zH, x 32 = h 32 → x 39 = h 39 → (∀ a, 34 ≤ a → a ≤ 38 → x a = h a) → ∃ y, zcal (d + 10) 126 [.ref 32] x = zE (d + 9) 126 (86, [some (.ref 32), some (.int 1), some (.int 0)], [], kpB y 1 48) ∧ y 32 18 = 0 ∧ zRR g n k (fun i => h 1 (7 + i)) (kpB y 1 48) ∧ fmA (h 27) t K (kpB y 1 48) ∧ kpB y 1 48 32 20 = nI K ∧ ∀ c j, (c = 32 → j ≠ 18 ∧ j ≠ 19 ∧ j ≠ 20) → c ≠ 40 → c ≠ 41 → c ≠ 42 → y c j = x c j := fun x x1 x2 x3 => by
        obtain ⟨y, ey, y18, y20, A, F⟩ := r_g1 (d := d + 4) ht g1 K0 hK (txR_mv tr (by rw [x1]) x2)
        have y32 : ∀ j, j ≠ 18 → j ≠ 19 → j ≠ 20 → y 32 j = h 32 j := fun j p q r => by rw [F 32 j (by omega) (by omega) (by omega) (by omega), x1]
        refine ⟨y, ey, y18, ⟨V, zHr_mv H2 ?_ ?_ (fun a p q => ?_), B, fun i hi => ?_, rAt0_mv RZ (fun j p q => ?_)⟩, fun j hj => ?_, ?_, F⟩
        · rw [kpB_32 (by omega)]; exact y32 6 (by omega) (by omega) (by omega)
        · rw [kpB_32 (by omega)]; exact y32 7 (by omega) (by omega) (by omega)
        · rw [kpB_a (by omega) (by omega)]
          funext j
          rw [F a j (by omega) (by omega) (by omega) (by omega), x3 a p q]
        · rw [kpB_32 (by omega), y32 (8 + i) (by omega) (by omega) (by omega)]; exact Q i hi
        · rw [kpB_32 (by omega)]; exact y32 j (by omega) (by omega) (by omega)
        · rw [kpB_a (by omega) (by omega), kpB_a (by omega) (by omega)]
          obtain ⟨b1, b2, b3⟩ := A j hj
          exact ⟨b1, b2, fun a b q1 q2 q3 q4 => by rw [kpB_a (by omega) (by omega)]; exact b3 a b q1 q2 q3 q4⟩
        · rw [kpB_32 (by omega)]; exact y20
      rcases st_all (T := h 27) ht g1 hK K 0 g n k (fun i => h 1 (7 + i)) (by omega) V B with ⟨g', n', k', f', D1, D2⟩ | ⟨j0, hj, D1, D2⟩
      · obtain ⟨h2, e2, ⟨V', K7, B', K6⟩, F2⟩ := D1 d h1 C7 tx1
        have e2 : zE (d + 8) 18 (7, [some (.ref 25), some (.ref 7), some (.int 0), some (.int 0), some (.int 0)], [], h1) = _ := e2
        obtain ⟨h3, e3, M1, M2, M3⟩ := c_likeH_1_7 (d := d + 6) K7 V'
        have F12 := zFr_tr F1 F2
        have k3 : ∀ a, (a < 1 ∨ (12 < a ∧ a < 19) ∨ 22 < a) → h3 a = h a := fun a ha => by rw [M3 a (by omega), F12 a (by unfold zMT; omega)]
        generalize hx : z_up (z_up h3 23 2 0) 26 1 0 = x
        have xo : ∀ a, a ≠ 23 → a ≠ 26 → x a = h3 a := fun a p q => by rw [← hx, z_up_ne q, z_up_ne p]
        obtain ⟨y, ey, y18, YR, A, y20, F⟩ := rpre x (by rw [xo 32 (by omega) (by omega), k3 32 (by omega)]) (by rw [xo 39 (by omega) (by omega), k3 39 (by omega)]) (fun a p q => by rw [xo a (by omega) (by omega), k3 a (by omega)])
        obtain ⟨w, ew, ⟨_, W1, _, W2, W3⟩, WF⟩ := D2 d (kpB y 1 48) YR A y20
        have ew : zE (d + 9) 126 (86, [some (.ref 32), some (.int 1), some (.int 0)], [], kpB y 1 48) = _ := ew
        have wo : ∀ a, a ≠ 32 → (a < 34 ∨ 38 < a) → a ≠ 40 → a ≠ 41 → a ≠ 42 → a ≠ 43 → a ≠ 44 → a ≠ 45 → w a = x a := fun a q1 q2 q3 q4 q5 q6 q7 q8 => by
          rw [WF.1 a q1 q2 q7 q8, kpB_a q6 q1]
          funext j
          exact F a j (by omega) q3 q4 q5
        have w32 : ∀ j, j = 22 ∨ j = 40 ∨ (35 < j ∧ j < 39) → w 32 j = h 32 j := fun j hj => by
          rw [WF.2.1 j (by omega), kpB_32 (by omega), F 32 j (by omega) (by omega) (by omega) (by omega), xo 32 (by omega) (by omega), k3 32 (by omega)]
        have wf : ∀ a, a = 0 ∨ (12 < a ∧ a < 19) ∨ a = 24 ∨ (26 < a ∧ a < 32) ∨ a = 33 ∨ a = 39 ∨ a = 46 → z_up w 32 25 0 a = h a := fun a ha => by
          rw [z_up_ne (by omega), wo a (by omega) (by omega) (by omega) (by omega) (by omega) (by omega) (by omega) (by omega), xo a (by omega) (by omega), k3 a (by omega)]
        have z32 : ∀ j, j ≠ 25 → z_up w 32 25 0 32 j = w 32 j := fun j hj => zu_ni _ _ hj
        have z1 : ∀ a, 1 ≤ a → a ≤ 6 → z_up w 32 25 0 a = h3 a := fun a p q => by rw [z_up_ne (by omega), wo a (by omega) (by omega) (by omega) (by omega) (by omega) (by omega) (by omega) (by omega), xo a (by omega) (by omega)]
        have f1 : ∀ i, i < 6 → z_up w 32 25 0 1 (7 + i) = f' i := fun i hi => by rw [z1 1 (by omega) (by omega), M2 _ (by omega) (by omega)]; exact K6 i hi
        have c26 : z_up w 32 25 0 26 1 = 0 := by rw [z_up_ne (by omega), wo 26 (by omega) (by omega) (by omega) (by omega) (by omega) (by omega) (by omega) (by omega), ← hx, zu_eq]
        have c23 : ∀ j, z_up w 32 25 0 23 j = x 23 j := fun j => by rw [z_up_ne (by omega), wo 23 (by omega) (by omega) (by omega) (by omega) (by omega) (by omega) (by omega) (by omega)]
        refine sim_ok (v := .int (nI K)) (h1 := x) (h2 := z_up w 32 25 0) ?_ (ey.trans ew) ⟨⟨g', n', k', ⟨V', zHil_mv M1 (by rw [z1 1 (by omega) (by omega)]) (by rw [z1 1 (by omega) (by omega)]) (fun j p q => z1 _ (by omega) (by omega)), zHr_mv W1 (z32 6 (by omega)) (z32 7 (by omega)) (fun a p q => z_up_ne (by omega)), bOk_ex B' f1, fun i hi => ?_⟩, ⟨0, by omega, by rw [c26]; rfl, ?_, fun j hj => absurd hj (by omega)⟩, RelR_mv RR (by rw [wf 28 (by omega)]) (wf 29 (by omega)) (wf 46 (by omega)) ((z32 40 (by omega)).trans (w32 40 (by omega))), RelI_mv RI (by rw [wf 0 (by omega)]) (fun a p q => wf a (by omega)) (fun i hi => ?_) ((z32 22 (by omega)).trans (w32 22 (by omega))), RelP_0 RP ?_ ?_ (zu_eq _ _ _ _), rAt0_mv RZ (fun j p q => (z32 j (by omega)).trans (w32 j (by omega)))⟩, RelC_mv C (wf 30 (by omega)) (wf 33 (by omega))⟩
        · rw [cpre, e2, zCi_some, if_neg (show ¬ nI K ≤ (0 : Int32) from Int32.not_le.mpr (nI_lt (a := 0) K0 (by omega))), e3, zCv_some, E36_23, zCv_some, E37_26, zCv_some, hx]
        · rw [f1 i hi, z32 (8 + i) (by omega)]; exact W2 i hi
        · rw [z32 18 (by omega), WF.2.1 18 (by omega), kpB_32 (by omega), y18]; rfl
        · rw [z_up_ne (by omega), WF.1 43 (by omega) (by omega) (by omega) (by omega), kpB_43 (by omega), F 43 i (by omega) (by omega) (by omega) (by omega), xo 43 (by omega) (by omega), k3 43 (by omega)]
        · rw [c23, ← hx, z_up_ne (by omega), zu_ni _ _ (by omega), k3 23 (by omega)]
        · rw [c23, ← hx, z_up_ne (by omega), zu_eq]
      · obtain ⟨h2, e2, F2⟩ := D1 d h1 C7 tx1
        have e2 : zE (d + 8) 18 (7, [some (.ref 25), some (.ref 7), some (.int 0), some (.int 0), some (.int 0)], [], h1) = _ := e2
        have F12 := zFr_tr F1 F2
        have pj : pL (lA (h 27) t) j0 ≤ 100 := pL_le ht (fun j q => g1 j (by omega))
        obtain ⟨_, _, n3⟩ := neg1 (pL (lA (h 27) t) j0) (by omega)
        generalize hx : z_up h2 26 1 0 = x
        have xo : ∀ a, a ≠ 26 → ¬ zMT a → x a = h a := fun a p q => by rw [← hx, z_up_ne p, F12 a q]
        obtain ⟨y, ey, y18, YR, A, y20, F⟩ := rpre x (xo 32 (by omega) (zMT_n (by omega))) (xo 39 (by omega) (zMT_n (by omega))) (fun a p q => xo a (by omega) (zMT_n (by omega)))
        obtain ⟨w, ew, WF⟩ := D2 d (kpB y 1 48) YR A y20
        have ew : zE (d + 9) 126 (86, [some (.ref 32), some (.int 1), some (.int 0)], [], kpB y 1 48) = _ := ew
        have yo : ∀ a, a ≠ 32 → a ≠ 40 → a ≠ 41 → a ≠ 42 → y a = x a := fun a q1 q2 q3 q4 => by funext j; exact F a j (by omega) q2 q3 q4
        have wo : ∀ a, a ≠ 32 → (a < 34 ∨ 38 < a) → a ≠ 43 → a ≠ 44 → a ≠ 45 → w a = y a := fun a q1 q2 q3 q4 q5 => by rw [WF.1 a q1 q2 q4 q5, kpB_a q3 q1]
        have PK : zPers y (rdB w 1 48) := keep_pers (fun j p q => by rw [WF.1 43 (by omega) (by omega) (by omega) (by omega)]) (fun a p q j hj => by rw [WF.2.2 a j p q hj, kpB_a (by omega) (by omega)]) (fun a p q => wo a (by omega) (by omega) (by omega) (by omega) (by omega)) (wo 39 (by omega) (by omega) (by omega) (by omega) (by omega)) (wo 46 (by omega) (by omega) (by omega) (by omega) (by omega)) (fun j hj => by rw [WF.1 43 (by omega) (by omega) (by omega) (by omega), kpB_43 (by omega)]) (fun j hj => by rw [WF.2.1 j (by omega), kpB_32 (by omega)])
        have P0 : zPers (z_up (z_up h 26 1 0) 32 18 0) y := by
          refine ⟨fun a p q => ?_, fun a p q => ?_, ?_, fun i hi => ?_, fun j hj => ?_⟩
          · rw [yo a (by omega) (by omega) (by omega) (by omega), z_up_ne (show a ≠ 32 by omega)]
            by_cases e : a = 26
            · subst e
              funext j
              rw [← hx, zu_ap, zu_ap, F12 26 q]
            · rw [xo a e q, z_up_ne e]
          · rw [yo a (by omega) (by omega) (by omega) (by omega), xo a (by omega) (zMT_n (by omega)), z_up_ne (show a ≠ 32 by omega), z_up_ne (show a ≠ 26 by omega)]
          · rw [yo 46 (by omega) (by omega) (by omega) (by omega), xo 46 (by omega) (zMT_n (by omega)), z_up_ne (show (46 : Nat) ≠ 32 by omega), z_up_ne (show (46 : Nat) ≠ 26 by omega)]
          · rw [yo 43 (by omega) (by omega) (by omega) (by omega), xo 43 (by omega) (zMT_n (by omega)), z_up_ne (show (43 : Nat) ≠ 32 by omega), z_up_ne (show (43 : Nat) ≠ 26 by omega)]
          · by_cases e : j = 18
            · rw [e, y18, zu_eq]
            · rw [F 32 j (by omega) (by omega) (by omega) (by omega), xo 32 (by omega) (zMT_n (by omega)), zu_ni _ _ e, z_up_ne (show (32 : Nat) ≠ 26 by omega)]
        refine sim_ok (v := .int ((-2000 : Int32) - nI (pL (lA (h 27) t) j0))) (h1 := x) (h2 := rdB w 1 48) ?_ (ey.trans ew) (tx_rel R0 C (zPers_tr P0 PK) ?_ ?_)
        · rw [cpre, e2, zCi_some, if_pos n3, E37_26, zCv_some, hx]
        · rw [rdB_c (by omega) (by omega), wo 30 (by omega) (by omega) (by omega) (by omega) (by omega), yo 30 (by omega) (by omega) (by omega) (by omega), xo 30 (by omega) (zMT_n (by omega))]
        · rw [rdB_c (by omega) (by omega), wo 33 (by omega) (by omega) (by omega) (by omega) (by omega), yo 33 (by omega) (by omega) (by omega) (by omega), xo 33 (by omega) (zMT_n (by omega))]
    · exact hill_f1 R0 C ht tx tr ((c_11 (d := d + 3) tx ht).2 K q g1 hK hq) g1 hq (Or.inl hK)

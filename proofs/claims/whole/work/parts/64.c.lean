theorem sim_lots {a b c : Int32} : zSim 112 225 [.int a, .int b, .int c] := by
  intro d h R
  obtain ⟨⟨g, n, k, R0⟩, C⟩ := id R
  have V := R0.1.1
  have hn := V.1
  have hk := V.2.1
  have hst := R0.1.2.2.2.1.1
  have ref : ∀ (v : Int32) (j : Nat), v ≠ 0 → zcal (d + 9) 5 [.ref 0, .int v] h = some (some (.int v), refC h j) → zcal (d + 9) 125 [.ref 32, .int v] (refC h j) = some (some (.int v), refR (refC h j) j) → zE (d + 9) 225 (27, [some (.ref 32), some (.int a), some (.int b), some (.int c), some (.int v), none, none, none, none, none], [], refC h j) = some (some (.int v), refR (refC h j) j) := fun v j v0 e1 e2 => by
    rw [E225_32_at27, if_neg v0, e2, zCi_some]
  by_cases a1 : (1 : Int32) ≤ a
  · by_cases a2 : a ≤ 20
    · by_cases c01 : (0 : Int32) ≤ c ∧ c ≤ 1
      · obtain ⟨m, m1, m2, rfl⟩ := nI_mid (lo := 1) (hi := 20) (by omega) (by omega) a1 a2
        obtain ⟨h1, e1, K1, K7, F1⟩ := c_like (d := d + 6) R0.1.2.1 V
        have cs : ∀ (x : zH) (G : zHl), zHil x 7 G n k → zVal G n k → (∀ z, gD G k z n = gD g k z n) → x 7 7 = h 1 7 → zFr zMT h x → ∀ z, ∃ p q, zcal (d + 9) 113 [.ref 0, .int z] x = some (some (.int (zD z n)), p) ∧ zcal (d + 9) 61 [.ref 19, .ref 7] p = some (some (.int (nI (eN (gD g k z n) n k (h 1 7)).1)), q) ∧ q 7 11 = (eN (gD g k z n) n k (h 1 7)).2.2.2 ∧ zHil q 7 (gD g k z n) n k ∧ q 7 7 = h 1 7 ∧ zFr zMT h q := fun x G x1 x2 x3 x4 x5 z => by
          obtain ⟨p, ep, p1, p2⟩ := c_113 (d := d + 7) x1 x2 (by rw [x5 1 (zMT_n (by omega))]; exact R0.1.2.1.1) (by rw [x5 1 (zMT_n (by omega))]; exact R0.1.2.1.2.1) (z := z)
          rw [x3] at p1
          obtain ⟨q, eq, q1, q2, q3, q4⟩ := c_endG (d := d + 4) (zVal_D V) p1 (st := h 1 7) (by rw [p2 7 (by omega)]; exact x4)
          exact ⟨p, q, ep, eq, q1, q2, q3, zFr_tr x5 (zFr_tr (fun y hy => p2 y (fun e => hy (by unfold zMT; omega))) q4)⟩
        have rs : ∀ (x : zH) (G : zHl), zHr x G n k → zVal G n k → (∀ z, gD G k z n = gD g k z n) → x 32 8 = h 1 7 → rAt0 x → ∀ z, x 32 42 = z → ∀ (a4 x5 x6 x7 : Int32) (x9 : Option Value), ∃ y x9', zE (d + 9) 225 (75, [some (.ref 32), some (.int (nI m)), some (.int b), some (.int c), some (.int a4), some (.int x5), some (.int x6), some (.int x7), some (.int 0), x9], [], x) = zE (d + 9) 225 (66, [some (.ref 32), some (.int (nI m)), some (.int b), some (.int c), some (.int a4), some (.int (x5 + nI (eN (gD g k z n) n k (h 1 7)).1)), some (.int (x6 + if (eN (gD g k z n) n k (h 1 7)).2.2.2 = 3 then 1 else 0)), some (.int (x7 + 1)), some (.int (nI n)), x9'], [], y) ∧ zHr y (gD g k z n) n k ∧ y 32 42 = zD z n ∧ (∀ a, a ≠ 32 → a ≠ 36 → a ≠ 44 → a ≠ 45 → y a = x a) ∧ (∀ j, (j < 28 ∨ 35 < j) → j ≠ 42 → y 32 j = x 32 j) ∧ ∀ j, 10 ≤ j → y 36 j = x 36 j := fun x G x1 x2 x3 x4 x5 z xz a4 y5 y6 y7 y9 => by
          obtain ⟨p, w, ep, p1, p2, p3, p4, p5⟩ := r_dr (d := d + 8) x1 x2 xz (a1 := nI m) (a2 := b) (a3 := c) (a4 := a4) (x5 := y5) (x6 := y6) (x7 := y7) (x9 := y9)
          rw [x3] at p1
          obtain ⟨v, q, eq, q1, q2, q3, q4⟩ := r_eB (d := d + 5) (zVal_D V) p1 (rAt0_mv x5 (fun j _ _ => p4 j (by omega))) (st := h 1 7) ((p4 8 (by omega)).trans x4) hst
          have q1 := q1 (d + 8)
          refine ⟨q, w, ?_, q3, ?_, fun y r1 r2 r3 r4 => by rw [q4.1 y r1 r3 r4, p3 y r1 r2], fun j r1 r2 => by rw [q4.2 j r1, p4 j r2], fun j r1 => by rw [q4.1 36 (by omega) (by omega) (by omega), p5 j r1]⟩
          · generalize eN (gD g k z n) n k (h 1 7) = E at *
            rw [ep, E225_32_at75, p1.1, if_pos (nI_le (by omega) (by omega)), eq, zCi_some, q1, zCi_some, q2]
            by_cases r : E.2.2.2 = 3
            · rw [if_pos r, if_pos r]
            · rw [if_neg r, if_neg r]
          · rw [q4.2 42 (by omega)]; exact p2
        have hE : ∃ (E : Int32 → Nat) (W : Int32 → Int32), (∀ z, (eN (gD g k z n) n k (h 1 7)).1 = E z) ∧ (∀ z, (eN (gD g k z n) n k (h 1 7)).2.2.2 = W z) ∧ (k = 0 → (∀ z, E z = 0) ∧ ∀ z, W z = 1) := ⟨_, _, fun _ => rfl, fun _ => rfl, fun k0 => by subst k0; exact ⟨fun z => eN_0.1, fun z => eN_0.2⟩⟩
        obtain ⟨E, W, hE1, hE2, hE3⟩ := hE
        simp only [hE1, hE2] at cs rs
        clear hE1 hE2
        have lc : ∀ t i z (s r : Int32) x G, i + t = m → zHil x 7 G n k → zVal G n k → (∀ z, gD G k z n = gD g k z n) → x 7 7 = h 1 7 → zFr zMT h x → ∃ y, zE (d + 9) 112 (64, [some (.ref 0), some (.int (nI m)), some (.int b), some (.int c), some (.int z), some (.int s), some (.int r), some (.int (nI i))], [], x) = some (some (.int (if c = 0 then (lF E W n t z s r).1 else (lF E W n t z s r).2)), y) ∧ zFr zMT h y := by
          intro t
          induction t with
          | zero =>
            intro i z s r x G hi x1 x2 x3 x4 x5
            have hi : i = m := hi
            subst hi
            refine ⟨x, ?_, x5⟩
            rw [E112_0_at64, if_pos (nI_le (by omega) (by omega)), lF]
            by_cases c0 : c = 0
            · rw [if_pos c0, if_pos c0]
            · rw [if_neg c0, if_neg c0]
          | succ t ih =>
            intro i z s r x G hi x1 x2 x3 x4 x5
            obtain ⟨p, q, ep, eq, q1, q2, q3, q4⟩ := cs x G x1 x2 x3 x4 x5 z
            rw [E112_0_at64, if_neg (nI_ge (by omega) (by omega)), ep, zCi_some, eq, zCi_some, q1, lF]
            by_cases w : W z = 3
            · rw [if_pos w, if_pos w, nI_1]
              exact ih (i + 1) _ _ _ q (gD g k z n) (by omega) q2 (zVal_D V) (fun _ => gD_n) q3 q4
            · rw [if_neg w, if_neg w, nI_1, Int32.add_zero]
              exact ih (i + 1) _ _ _ q (gD g k z n) (by omega) q2 (zVal_D V) (fun _ => gD_n) q3 q4
        obtain ⟨h2, e2, F2⟩ := lc m 0 b 0 0 h1 g (by omega) K1 V (fun _ => rfl) K7 F1
        have R2 := Rel0_mv R0 (zPers_mt F2)
        have C2 := RelC_mt C F2
        have s2 : h2 1 7 = h 1 7 := by rw [F2 1 (zMT_n (by omega))]
        have ec : zcal (d + 10) 112 [.ref 0, .int (nI m), .int b, .int c] h = some (some (.int (if c = 0 then (lF E W n m b 0 0).1 else (lF E W n m b 0 0).2)), h2) := by
          rw [E112_0, if_pos (show nI m ≥ (1 : Int32) from a1), if_pos a2]
          by_cases c0 : c = 0
          · subst c0
            rw [if_pos rfl, e1, zCv_some]; exact e2
          · rw [if_neg c0, if_pos (by
              rcases nI_num (m := 1) (by omega) c01.1 c01.2 with ⟨j, j1, rfl⟩
              rcases (show j = 0 ∨ j = 1 by omega) with rfl | rfl
              · exact absurd rfl c0
              · rfl), e1, zCv_some]; exact e2
        have er0 : zcal (d + 10) 225 [.ref 32, .int (nI m), .int b, .int c] h2 = zE (d + 9) 225 (27, [some (.ref 32), some (.int (nI m)), some (.int b), some (.int c), some (.int 0), none, none, none, none, none], [], h2) := by
          rw [E225_32, r_bound, if_pos a1, if_pos a2, zCi_some, if_pos rfl, r_isIn, if_pos c01, zCi_some, if_neg (by decide)]
        by_cases k0 : k = 0
        · have lz := lF_0 (n := n) (hE3 k0).1 (hE3 k0).2 m b 0 0
          rw [lz] at ec
          refine sim_ok (v := .int 0) (h1 := h2) (h2 := h2) (ec.trans ?_) ?_ ⟨⟨g, n, k, R2⟩, C2⟩
          · by_cases c0 : c = 0
            · rw [if_pos c0]
            · rw [if_neg c0]
          · rw [er0, E225_32_at27, if_pos rfl, R2.1.2.2.1.2.1, k0, if_pos (show nI 0 = (0 : Int32) from rfl)]
        · generalize hb : z_up h2 32 42 b = h2' at *
          have B32 : ∀ j, j ≠ 42 → h2' 32 j = h2 32 j := fun j hj => by rw [← hb, zu_ni _ _ hj]
          have Bn : ∀ a, a ≠ 32 → h2' a = h2 a := fun a ha => by rw [← hb, z_up_ne ha]
          have B42 : h2' 32 42 = b := by rw [← hb, zu_eq]
          have P2 : zPers h2 h2' := ⟨fun a p q => Bn a (by omega), fun a p q => Bn a (by omega), Bn 46 (by omega), fun i _ => by rw [Bn 43 (by omega)], fun j hj => B32 j (by omega)⟩
          have R3 := Rel0_mv R2 P2
          have Hk : zHr (kpB h2' 1 48) g n k := zHr_mv R3.1.2.2.1 (kpB_32 (by omega)) (kpB_32 (by omega)) (fun a p q => kpB_a (by omega) (by omega))
          have k8 : kpB h2' 1 48 32 8 = h 1 7 := by rw [kpB_32 (by omega), B32 8 (by omega)]; exact (R2.1.2.2.2.2 0 (by omega)).trans s2
          have kz : rAt0 (kpB h2' 1 48) := rAt0_mv R3.2.2.2.2.2 (fun j p q => kpB_32 (by omega))
          have lr : ∀ t i z (s r : Int32) x G x8 x9, i + t = m → zHr x G n k → zVal G n k → (∀ z, gD G k z n = gD g k z n) → x 32 42 = z → (∀ a, a ≠ 32 → a ≠ 36 → a ≠ 44 → a ≠ 45 → x a = kpB h2' 1 48 a) → (∀ j, (j < 28 ∨ 35 < j) → j ≠ 42 → x 32 j = kpB h2' 1 48 32 j) → (∀ j, 10 ≤ j → x 36 j = kpB h2' 1 48 36 j) → ∃ y, zE (d + 9) 225 (66, [some (.ref 32), some (.int (nI m)), some (.int b), some (.int c), some (.int 0), some (.int s), some (.int r), some (.int (nI i)), x8, x9], [], x) = some (some (.int (if c = 0 then (lF E W n t z s r).1 else (lF E W n t z s r).2)), rdB y 1 48) ∧ (∀ a, a ≠ 32 → a ≠ 36 → a ≠ 44 → a ≠ 45 → y a = kpB h2' 1 48 a) ∧ (∀ j, (j < 28 ∨ 35 < j) → j ≠ 42 → y 32 j = kpB h2' 1 48 32 j) ∧ ∀ j, 10 ≤ j → y 36 j = kpB h2' 1 48 36 j := by
            intro t
            induction t with
            | zero =>
              intro i z s r x G x8 x9 hi x1 x2 x3 x4 x5 x6 x7
              have hi : i = m := hi
              subst hi
              refine ⟨x, ?_, x5, x6, x7⟩
              rw [E225_32_at66, if_pos (nI_le (by omega) (by omega)), r_174 (d := d + 5), zCv_some, lF]
              by_cases c0 : c = 0
              · rw [if_pos c0, if_pos c0]
              · rw [if_neg c0, if_neg c0]
            | succ t ih =>
              intro i z s r x G x8 x9 hi x1 x2 x3 x4 x5 x6 x7
              obtain ⟨y, w, ey, y1, y2, y3, y4, y5⟩ := rs x G x1 x2 x3 ((x6 8 (by omega) (by omega)).trans k8) (rAt0_mv kz (fun j p q => x6 j (by omega) (by omega))) z x4 0 s r (nI i) x9
              rw [E225_32_at66, if_neg (nI_ge (by omega) (by omega)), ey, nI_1, lF]
              exact ih (i + 1) _ _ _ y (gD g k z n) _ _ (by omega) y1 (zVal_D V) (fun _ => gD_n) y2 (fun a p1 p2 p3 p4 => (y3 a p1 p2 p3 p4).trans (x5 a p1 p2 p3 p4)) (fun j p1 p2 => (y4 j p1 p2).trans (x6 j p1 p2)) (fun j p1 => (y5 j p1).trans (x7 j p1))
          obtain ⟨y, e4, y3, y4, y5⟩ := lr m 0 b 0 0 (kpB h2' 1 48) g none none (by omega) Hk V (fun _ => rfl) (by rw [kpB_32 (by omega)]; exact B42) (fun _ _ _ _ _ => rfl) (fun _ _ _ => rfl) (fun _ _ => rfl)
          have PK : zPers h2' (rdB y 1 48) := keep_pers (fun j p q => by rw [y3 43 (by omega) (by omega) (by omega) (by omega)]) (fun a p q j hj => by
            by_cases z : a = 36
            · subst z; rw [y5 j (by omega), kpB_a (by omega) (by omega)]
            · rw [y3 a (by omega) z (by omega) (by omega), kpB_a (by omega) (by omega)]) (fun a p q => by rw [y3 a (by omega) (by omega) (by omega) (by omega), kpB_a (by omega) (by omega)]) (by rw [y3 39 (by omega) (by omega) (by omega) (by omega), kpB_a (by omega) (by omega)]) (by rw [y3 46 (by omega) (by omega) (by omega) (by omega), kpB_a (by omega) (by omega)]) (fun j hj => by rw [y3 43 (by omega) (by omega) (by omega) (by omega), kpB_43 (by omega)]) (fun j hj => by rw [y4 j (by omega) (by omega), kpB_32 (by omega)])
          refine sim_ok (h1 := h2) (h2 := rdB y 1 48) ec ?_ ⟨⟨g, n, k, Rel0_mv R3 PK⟩, RelC_mv C2 (by rw [rdB_c (by omega) (by omega), y3 30 (by omega) (by omega) (by omega) (by omega), kpB_a (by omega) (by omega), Bn 30 (by omega)]) (by rw [rdB_c (by omega) (by omega), y3 33 (by omega) (by omega) (by omega) (by omega), kpB_a (by omega) (by omega), Bn 33 (by omega)])⟩
          rw [er0, E225_32_at27, if_pos rfl, R2.1.2.2.1.2.1, if_neg (show ¬ nI k = (0 : Int32) from fun q => k0 ((nI_eq (b := 0) (by omega) (by omega)).mp q)), hb, r_173 (d := d + 5), zCv_some]
          exact e4
      · refine sim_rf R (c := -2) (j := 1) (by omega) ?_ ?_
        · have n0 : ¬ c = 0 := fun q => c01 (by rw [q]; decide)
          have n1 : ¬ c = 1 := fun q => c01 (by rw [q]; decide)
          rw [E112_0, if_pos (show a ≥ (1 : Int32) from a1), if_pos a2, if_neg n0, if_neg n1, c_rf2, zCi_some]
        · rw [E225_32, r_bound, if_pos a1, if_pos a2, zCi_some, if_pos rfl, r_isIn, if_neg c01, zCi_some, if_pos rfl]
          exact ref (-2) 1 (by decide) c_rf2 r_no2
    · refine sim_rf R (c := -6) (j := 5) (by omega) ?_ ?_
      · rw [E112_0, if_pos (show a ≥ (1 : Int32) from a1), if_neg a2, c_rf6, zCi_some]
      · rw [E225_32, r_bound, if_pos a1, if_neg a2, zCi_some, if_neg (by decide)]
        exact ref (-6) 5 (by decide) c_rf6 r_no6
  · refine sim_rf R (c := -4) (j := 3) (by omega) ?_ ?_
    · rw [E112_0, if_neg (show ¬ a ≥ (1 : Int32) from a1), c_rf4, zCi_some]
    · rw [E225_32, r_bound, if_neg a1, zCi_some, if_neg (by decide)]
      exact ref (-4) 3 (by decide) c_rf4 r_no4

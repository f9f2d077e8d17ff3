theorem sim_two {a b : Int32} : zSim 103 203 [.int a, .int b] := by
  intro d h R
  obtain ⟨⟨g, n, k, R0⟩, C⟩ := id R
  have V := R0.1.1
  have hn := V.1
  have hk := V.2.1
  by_cases ha : 0 ≤ a ∧ a < nI n
  · by_cases hb : 0 ≤ b ∧ b < nI k
    · obtain ⟨s, hs, rfl⟩ := i_small (by omega) ha
      obtain ⟨r, hr, rfl⟩ := i_small (by omega) hb
      have hst := R0.1.2.2.2.1.1
      obtain ⟨h1, e1, I, F, R1, C1, s1⟩ := cls_now (e := d + 3) R0 C
      have i19 : h1 19 3 = nI (rC g n rF rF rF (rQ0 n k (h 1 7) 0) 10) := I.2.2.2.2.2.2.2.2.2.1.trans (rCa_eq V q_go 10)
      have hcl : rC g n rF rF rF (rQ0 n k (h 1 7) 0) 10 ≤ 10 := rC_le 10
      have rn : ∀ x : zH, Rel0 g n k x → x 1 7 = h 1 7 → ∃ (v : Int32) (y : zH), zcal (d + 9) 176 [.ref 32] x = some (some (.int v), y) ∧ ((y 44 s ≥ 0) ↔ s < rC g n rF rF rF (rQ0 n k (h 1 7) 0) 10) ∧ rfF x y := fun x x1 x2 => by
        obtain ⟨y, ey, J, G⟩ := ref_now (e := d + 5) x1
        rw [x2] at ey J
        refine ⟨_, y, ey, ?_, G⟩
        rw [J.2.2.2.2.2.2.2.2.2.2.2.2.2.1 s (by omega), rSp_eq V q_go]
        by_cases q : s < rC g n rF rF rF (rQ0 n k (h 1 7) 0) 10
        · rw [if_pos q]
          exact ⟨fun _ => q, fun _ => Int32.not_lt.mp (sp_ge0 (st_in V f0 hst s))⟩
        · rw [if_neg q]
          exact ⟨fun z => absurd z (by decide), fun z => absurd z q⟩
      have i7 := I.1
      have i77 := I.2.1
      clear I
      generalize rC g n rF rF rF (rQ0 n k (h 1 7) 0) 10 = c at *
      have V' : zVal (gW g s (nI r)) n k := zVal_W V (Or.inr ⟨r, hr, rfl⟩)
      have ol : ∀ p, oT (gW g s (nI r)) n k s (h 1 7) p ≤ n := fun p => eT_le V'
      have cs : ∀ (x : zH), zHil x 7 (gW g s (nI r)) n k → x 7 7 = h 1 7 → ∀ p, p < 4 → ∀ (x4 x5 : Option Value), ∃ (y : zH) (x4' x5' : Option Value), zE (d + 9) 103 (60, [some (.ref 0), some (.int (nI s)), some (.int (nI r)), some (.int (nI p)), x4, x5], [], x) = zE (d + 9) 103 (60, [some (.ref 0), some (.int (nI s)), some (.int (nI r)), some (.int (nI (p + 1))), x4', x5'], [], z_up y 31 p (nI (oT (gW g s (nI r)) n k s (h 1 7) p))) ∧ zHil y 7 (gW g s (nI r)) n k ∧ y 7 7 = h 1 7 ∧ zFr zMT x y := fun x x1 x2 p hp x4 x5 => c_twS (d := d + 5) x1 V' (by omega) x2 hp
      have rs : ∀ (x : zH), zHr x (gW g s (nI r)) n k → x 32 8 = h 1 7 → x 32 38 = 0 → ∀ p, p < 4 → ∀ x3 : Int32, ∃ (y : zH), zE (d + 8) 204 (17, [some (.ref 32), some (.int (nI s)), some (.int (nI r)), some (.int x3), some (.int (nI p))], [], x) = zE (d + 8) 204 (17, [some (.ref 32), some (.int (nI s)), some (.int (nI r)), some (.int x3), some (.int (nI (p + 1)))], [], z_up y 47 p (nI (oT (gW g s (nI r)) n k s (h 1 7) p))) ∧ (∀ a, a ≠ 32 → a ≠ 44 → a ≠ 45 → y a = x a) ∧ ∀ j, (j < 28 ∨ 37 < j) → y 32 j = x 32 j := fun x x1 x2 x3 p hp x4 => r_twS (d := d + 4) x1 V' (by omega) x2 hst x3 hp
      generalize oT (gW g s (nI r)) n k s (h 1 7) = o at *
      by_cases hc : s < c
      · have K0 : zHil (z_up h1 10 s (nI r)) 7 (gW g s (nI r)) n k := zHil_W i7
        have lc : ∀ m p x (x4 x5 : Option Value), p + m = 4 → zHil x 7 (gW g s (nI r)) n k → x 7 7 = h 1 7 → zFr (fun a => zMT a ∨ a = 31) h x → (∀ q, q < p → x 31 q = nI (o q)) → ∃ (y : zH) (x4' x5' : Option Value), zE (d + 9) 103 (60, [some (.ref 0), some (.int (nI s)), some (.int (nI r)), some (.int (nI p)), x4, x5], [], x) = zE (d + 9) 103 (133, [some (.ref 0), some (.int (nI s)), some (.int (nI r)), some (.int 0), x4', x5'], [], y) ∧ zFr (fun a => zMT a ∨ a = 31) h y ∧ ∀ q, q < 4 → y 31 q = nI (o q) := by
          intro m
          induction m with
          | zero =>
            intro p x x4 x5 hp x1 x2 x3 x6
            have hp : p = 4 := hp
            subst hp
            exact ⟨x, x4, x5, by rw [E103_0_at60, if_pos (show nI 4 ≥ (4 : Int32) by decide)], x3, x6⟩
          | succ m ih =>
            intro p x x4 x5 hp x1 x2 x3 x6
            obtain ⟨y, x4', x5', ey, y1, y2, y3⟩ := cs x x1 x2 p (by omega) x4 x5
            rw [ey]
            refine ih (p + 1) _ _ _ (by omega) (zHil_mv y1 (by rw [z_up_ne (by omega)]) (by rw [z_up_ne (by omega)]) (fun j p q => z_up_ne (by omega))) (by rw [z_up_ne (by omega)]; exact y2) (fun a q => ?_) (fun q hq => ?_)
            · have q1 : a ≠ 31 := fun z => q (Or.inr z)
              rw [z_up_ne q1, y3 a (fun z => q (Or.inl z)), x3 a q]
            · rw [zu_ap]
              by_cases z : q = p
              · rw [if_pos ⟨rfl, z⟩, z]
              · rw [if_neg (fun w => z w.2), y3 31 (zMT_n (by omega))]
                exact x6 q (by omega)
        obtain ⟨h2, x4', x5', e2, F2, O2⟩ := lc 4 0 (z_up h1 10 s (nI r)) none none (by omega) K0 (by rw [z_up_ne (by omega)]; exact i77) (fun a q => by
          have q1 : ¬ zMT a := fun z => q (Or.inl z)
          have q2 : a ≠ 10 := fun z => q1 (by unfold zMT; omega)
          rw [z_up_ne q2, F a q1]) (fun q hq => absurd hq (by omega))
        have N2 : ∀ a, (a < 7 ∨ (12 < a ∧ a < 19) ∨ (22 < a ∧ a ≠ 31)) → h2 a = h a := fun a ha => F2 a (fun z => by
          rcases z with z | z
          · unfold zMT at z; omega
          · omega)
        have P2 : zPers h h2 := ⟨fun a p q => F2 a (fun z => by
          rcases z with z | z
          · exact q z
          · omega), fun a p q => N2 a (by omega), N2 46 (by omega), fun i _ => by rw [N2 43 (by omega)], fun j _ => by rw [N2 32 (by omega)]⟩
        have R2 := Rel0_mv R0 P2
        have C2 := RelC_mv C (N2 30 (by omega)) (N2 33 (by omega))
        have s2 : h2 1 7 = h 1 7 := by rw [N2 1 (by omega)]
        obtain ⟨v3, h3, e3, j3, G3⟩ := rn h2 R2 s2
        have R3 := Rel0_mv R2 (zPers_rf2 G3)
        have C3 := RelC_rf C2 G3
        have s3 : h3 1 7 = h 1 7 := by rw [G3.1 1 (by omega) (by omega) (by omega), s2]
        have S8 : h3 32 8 = h 1 7 := (R3.1.2.2.2.2 0 (by omega)).trans s3
        have S38 : h3 32 38 = 0 := R3.2.2.2.2.2.2.2
        have Q0 : zHr (z_up h3 36 s (nI r)) (gW g s (nI r)) n k := zHr_W R3.1.2.2.1
        have lr : ∀ m p x, p + m = 4 → (∀ a, a ≠ 32 → a ≠ 44 → a ≠ 45 → a ≠ 47 → x a = z_up h3 36 s (nI r) a) → (∀ j, (j < 28 ∨ 37 < j) → x 32 j = h3 32 j) → (∀ q, q < p → x 47 q = nI (o q)) → ∃ y : zH, zE (d + 8) 204 (17, [some (.ref 32), some (.int (nI s)), some (.int (nI r)), some (.int (h3 36 s)), some (.int (nI p))], [], x) = some (none, y) ∧ (∀ a, a ≠ 32 → a ≠ 44 → a ≠ 45 → a ≠ 47 → y a = h3 a) ∧ (∀ j, (j < 28 ∨ 35 < j) → y 32 j = h3 32 j) ∧ ∀ q, q < 4 → y 47 q = nI (o q) := by
          intro m
          induction m with
          | zero =>
            intro p x hp x1 x2 x3
            have hp : p = 4 := hp
            subst hp
            refine ⟨_, by rw [E204_32_at17, if_pos (show nI 4 ≥ (4 : Int32) by decide), zG_nI (by omega) (by omega), nI_tn (by omega)], fun a q1 q2 q3 q4 => ?_, fun j hj => ?_, fun q hq => ?_⟩
            · by_cases z : a = 36
              · subst z
                funext j
                rw [zu_ap, z_up_ne q1, z_up_ne q1, x1 36 q1 q2 q3 q4, zu_ap]
                by_cases w : j = s
                · rw [if_pos ⟨rfl, w⟩, w]
                · rw [if_neg (fun u => w u.2), if_neg (fun u => w u.2)]
              · rw [z_up_ne z, z_up_ne q1, z_up_ne q1, x1 a q1 q2 q3 q4, z_up_ne z]
            · rw [z_up_ne (by omega), zu_ap]
              by_cases z : j = 37
              · rw [if_pos ⟨rfl, z⟩, z]; exact R3.2.2.2.2.2.2.1.symm
              · rw [if_neg (fun w => z w.2), zu_ap]
                by_cases w : j = 36
                · rw [if_pos ⟨rfl, w⟩, w]; exact R3.2.2.2.2.2.1.symm
                · rw [if_neg (fun u => w u.2)]; exact x2 j (by omega)
            · rw [z_up_ne (by omega), z_up_ne (by omega), z_up_ne (by omega)]; exact x3 q hq
          | succ m ih =>
            intro p x hp x1 x2 x3
            have Hx : zHr x (gW g s (nI r)) n k := zHr_mv Q0 (by rw [x2 6 (by omega), z_up_ne (by omega)]) (by rw [x2 7 (by omega), z_up_ne (by omega)]) (fun a p q => x1 a (by omega) (by omega) (by omega) (by omega))
            obtain ⟨y, ey, y1, y2⟩ := rs x Hx ((x2 8 (by omega)).trans S8) ((x2 38 (by omega)).trans S38) p (by omega) (h3 36 s)
            rw [ey]
            refine ih (p + 1) _ (by omega) (fun a q1 q2 q3 q4 => by rw [z_up_ne q4, y1 a q1 q2 q3, x1 a q1 q2 q3 q4]) (fun j hj => by rw [z_up_ne (by omega), y2 j hj, x2 j hj]) (fun q hq => ?_)
            rw [zu_ap]
            by_cases z : q = p
            · rw [if_pos ⟨rfl, z⟩, z]
            · rw [if_neg (fun w => z w.2), y1 47 (by omega) (by omega) (by omega)]
              exact x3 q (by omega)
        obtain ⟨h4, e4, N4, J4, O4⟩ := lr 4 0 (z_up h3 36 s (nI r)) (by omega) (fun a _ _ _ _ => rfl) (fun j hj => by rw [z_up_ne (by omega)]) (fun q hq => absurd hq (by omega))
        have P4 : zPers h3 h4 := ⟨fun a p q => N4 a (by omega) (by omega) (by omega) (by omega), fun a p q => N4 a (by omega) (by omega) (by omega) (by omega), N4 46 (by omega) (by omega) (by omega) (by omega), fun i _ => by rw [N4 43 (by omega) (by omega) (by omega) (by omega)], fun j hj => J4 j (by omega)⟩
        have R4 := Rel0_mv R3 P4
        have C4 := RelC_mv C3 (N4 30 (by omega) (by omega) (by omega) (by omega)) (N4 33 (by omega) (by omega) (by omega) (by omega))
        refine sim_ok (v := .int (zsr (tP o) tV (-9) 4 0)) (h1 := h2) (h2 := h4) ?_ ?_ ⟨⟨g, n, k, R4⟩, C4⟩
        · rw [E103_0, c_hasS_1 R0.1.2.1 V, if_pos ha, zCi_some, if_neg (by decide), c_hasR_1 R0.1.2.1 V, if_pos hb, zCi_some, if_neg (by decide), e1, zCv_some, i19, if_pos (nI_lt hc (by omega)), c_put (n := 10) rfl (by omega), zCv_some, pt_nI (by omega) (by omega)]
          have l := c_twL (d := d + 7) O2 (a := nI s) (b := nI r) (x4 := x4') (x5 := x5') 4 0 (by omega)
          exact e2.trans l
        · rw [E203_32, r_isS R2.1.2.2.1 V, if_pos ha, zCi_some, if_neg (by decide), r_isR R2.1.2.2.1 V, if_pos hb, zCi_some, if_neg (by decide), e3, zCi_some, zG_nI (by omega) (by omega), nI_tn (by omega), if_pos (j3.mpr hc), E204_32, zG_nI (by omega) (by omega), zG_nI (by omega) (by omega), nI_tn (by omega)]
          have e4 : zE (d + 8) 204 (17, [some (.ref 32), some (.int (nI s)), some (.int (nI r)), some (.int (h3 36 s)), some (.int 0)], [], z_up h3 36 s (nI r)) = some (none, h4) := e4
          rw [e4, zCv_some]
          exact r_twL (d := d + 9) O4 4 0 none none (by omega)
      · obtain ⟨v3, h3, e3, j3, G3⟩ := rn h1 R1 s1
        refine sim_ok (v := .int (-9)) (h1 := h1) (h2 := h3) ?_ ?_ (Rel_of R1 C1 G3)
        · rw [E103_0, c_hasS_1 R0.1.2.1 V, if_pos ha, zCi_some, if_neg (by decide), c_hasR_1 R0.1.2.1 V, if_pos hb, zCi_some, if_neg (by decide), e1, zCv_some, i19, if_neg (nI_nlt (by omega) (by omega))]
        · rw [E203_32, r_isS R1.1.2.2.1 V, if_pos ha, zCi_some, if_neg (by decide), r_isR R1.1.2.2.1 V, if_pos hb, zCi_some, if_neg (by decide), e3, zCi_some, zG_nI (by omega) (by omega), nI_tn (by omega), if_neg (fun q => hc (j3.mp q))]
    · refine sim_rf R (c := -1) (j := 0) (by omega) ?_ ?_
      · rw [E103_0, c_hasS_1 R0.1.2.1 V, if_pos ha, zCi_some, if_neg (by decide), c_hasR_1 R0.1.2.1 V, if_neg hb, zCi_some, if_pos rfl, c_rf1, zCi_some]
      · rw [E203_32, r_isS (Rel0_c R0).1.2.2.1 V, if_pos ha, zCi_some, if_neg (by decide), r_isR (Rel0_c R0).1.2.2.1 V, if_neg hb, zCi_some, if_pos rfl, r_no1, zCi_some]
  · refine sim_rf R (c := -1) (j := 0) (by omega) ?_ ?_
    · rw [E103_0, c_hasS_1 R0.1.2.1 V, if_neg ha, zCi_some, if_pos rfl, c_rf1, zCi_some]
    · rw [E203_32, r_isS (Rel0_c R0).1.2.2.1 V, if_neg ha, zCi_some, if_pos rfl, r_no1, zCi_some]

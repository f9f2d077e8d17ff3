/-! CALLS THAT MAY BE TAKEN BACK -/
theorem cPs_mv {h h1 h' : zH} {f c : Nat} (C : cPs h h1 f c) (e1 : h' 23 = h1 23) (e2 : h' 24 = h1 24) : cPs h h' f c := by
  unfold cPs at C ⊢
  rw [e1, e2]; exact C
theorem rPs_mv {h h2 h3 h' : zH} {c : Nat} (D : rPs h2 h3 c) (e0 : h2 43 = h 43) (es : ∀ i, i < 48 → snap h2 i = snap h i) (e1 : h' 43 = h3 43) (e2 : h' 32 25 = h3 32 25) : rPs h h' c := by
  obtain ⟨d1, d2, d3⟩ := D
  exact ⟨e2.trans d1, fun i hi => by rw [e1, d2 i hi, es i hi], fun j i hj hi => by rw [e1, d3 j i hj hi, e0]⟩
theorem RelP_g {g g' : zHl} {n k : Nat} {h : zH} (e : ∀ r, r ≠ 2 → g' r = g r) (R : RelP g n k h) : RelP g' n k h := by
  obtain ⟨fi, co, p1, p2, p3, p4, p5, p6⟩ := R
  refine ⟨fi, co, p1, p2, p3, p4, p5, fun j hj => ?_⟩
  obtain ⟨r1, r2, r3⟩ := p6 j hj
  refine ⟨r1, r2, ?_⟩
  have : (fun r => if r = 2 then (fun s => h 24 (16 * ((fi + j) % 8) + s)) else g' r) = (fun r => if r = 2 then (fun s => h 24 (16 * ((fi + j) % 8) + s)) else g r) := by
    funext r
    by_cases q : r = 2
    · rw [if_pos q, if_pos q]
    · rw [if_neg q, if_neg q, e r q]
  rw [this]
  exact r3
theorem psh_rel {h h1 h2 h3 hF : zH} {g g' : zHl} {n k f c : Nat} (R : Rel0 g n k h) (C : RelC h) (P : RelPf g n k h f c) (cP : cPs h h1 f c) (F1 : ∀ a, a ≠ 23 → a ≠ 24 → h1 a = h a)
    (F2 : ∀ a, a = 0 ∨ 6 < a → h2 a = h1 a) (rP : rPs h2 h3 c) (F3 : ∀ a, a ≠ 32 → a ≠ 43 → h3 a = h2 a) (F3' : ∀ j, j ≠ 23 → j ≠ 24 → j ≠ 25 → h3 32 j = h2 32 j) (F3'' : ∀ i, i < 96 → h3 43 i = h2 43 i)
    (F4 : ∀ a, a ≠ 32 → a ≠ 44 → a ≠ 45 → (a < 34 ∨ 38 < a) → hF a = h3 a) (F4' : ∀ j, (13 < j ∧ j < 28) ∨ 35 < j → hF 32 j = h3 32 j)
    (eg : ∀ r, r ≠ 2 → g' r = g r) (RH' : RelH g' n k hF) : Rel hF := by
  obtain ⟨RH, RT, RR, RI, RP, RZ⟩ := R
  have c0 : ∀ a, (a = 0 ∨ (6 < a ∧ a < 23) ∨ (24 < a ∧ a < 32) ∨ a = 33 ∨ a = 39 ∨ a = 40 ∨ a = 41 ∨ a = 42 ∨ 45 < a) → hF a = h a := fun a ha => by
    rw [F4 a (by omega) (by omega) (by omega) (by omega), F3 a (by omega) (by omega), F2 a (by omega), F1 a (by omega) (by omega)]
  have c32 : ∀ j, (13 < j ∧ j < 23) ∨ (25 < j ∧ j < 28) ∨ 35 < j → hF 32 j = h 32 j := fun j hj => by
    rw [F4' j (by omega), F3' j (by omega) (by omega) (by omega), F2 32 (by omega), F1 32 (by omega) (by omega)]
  have c43 : ∀ i, i < 96 → hF 43 i = h 43 i := fun i hi => by
    rw [F4 43 (by omega) (by omega) (by omega) (by omega), F3'' i hi, F2 43 (by omega), F1 43 (by omega) (by omega)]
  have k23 : ∀ a, a = 23 ∨ a = 24 → hF a = h1 a := fun a ha => by
    rw [F4 a (by omega) (by omega) (by omega) (by omega), F3 a (by omega) (by omega), F2 a (by omega)]
  have cC : cPs h hF f c := cPs_mv cP (k23 23 (by omega)) (k23 24 (by omega))
  have cR : rPs h hF c := rPs_mv rP (by rw [F2 43 (by omega), F1 43 (by omega) (by omega)])
    (fun i hi => snap_eq (fun a p q => by rw [F2 a (by omega), F1 a (by omega) (by omega)]) (fun j p q => by rw [F2 32 (by omega), F1 32 (by omega) (by omega)]) hi)
    (F4 43 (by omega) (by omega) (by omega) (by omega)) (F4' 25 (by omega))
  refine ⟨⟨g', n, k, RH', RelT_mv RT (by rw [c0 26 (by omega)]) (c0 27 (by omega)) (c0 39 (by omega)) (c32 18 (by omega)), RelR_mv RR (by rw [c0 28 (by omega)]) (c0 29 (by omega)) (c0 46 (by omega)) (c32 40 (by omega)), RelI_mv RI (by rw [c0 0 (by omega)]) (fun a p q => c0 a (by omega)) (fun i hi => c43 i (by omega)) (c32 22 (by omega)), RelP_g eg (RelP_psh RH P cC cR), rAt0_mv RZ (fun j p q => c32 j (by omega))⟩, RelC_mv C (c0 30 (by omega)) (c0 33 (by omega))⟩
/-- who waits where, changed -/
def gW (g : zHl) (s : Nat) (v : Int32) : zHl := fun r => if r = 2 then upd (g 2) s v else g r
theorem sim_waits {a b : Int32} : zSim 49 167 [.int a, .int b] := by
  intro d h R
  obtain ⟨⟨g, n, k, R0⟩, C⟩ := id R
  have RH := R0.1
  have V := R0.1.1; have H1 := R0.1.2.1; have H2 := R0.1.2.2.1
  have hn := V.1; have hk := V.2.1
  have H2' := (Rel0_c (j := 0) R0).1.2.2.1
  by_cases ha : 0 ≤ a ∧ a < nI n
  · obtain ⟨s, hs, rfl⟩ := i_small (by omega) ha
    have body : ∀ v : Int32, (v = -9 ∨ ∃ x, x < k ∧ v = nI x) → (if b = -1 then (-9 : Int32) else b) = v → (b ≠ -1 → b ≥ 0) → (∀ h : zH, zHil h 1 g n k → zcal (d + 10) 49 [.ref 0, .int (nI s), .int b] h = zE (d + 9) 49 (33, [some (.ref 0), some (.int (nI s)), some (.int b), none], [], h)) →
        (∀ h : zH, zHr h g n k → ∃ (X : zH → Option zE0), zcal (d + 10) 167 [.ref 32, .int (nI s), .int b] h = zCv (zcal (d + 9) 168 [.ref 32] h) X ∧ ∀ h5, X h5 = some (some (.int (h5 36 s)), z_up h5 36 s v)) →
        ∃ (v : Value) (h1 h2 : zH), zcal (d + 10) 49 (.ref 0 :: [.int (nI s), .int b]) h = some (some v, h1) ∧ zcal (d + 10) 167 (.ref 32 :: [.int (nI s), .int b]) h1 = some (some v, h2) ∧ Rel h2 := by
      intro v hv hbv hb0 ec er
      obtain ⟨f, c, P⟩ := RelP_f R0.2.2.2.2.1
      obtain ⟨h1, e1, cP, F1⟩ := c_push (d := d + 7) (h := h) P.1 P.2.1 P.2.2.1 P.2.2.2.1
      have hold : h1 4 s = g 2 s := by rw [F1 4 (by omega) (by omega)]; exact (H1.2.2.1 s hs).2.2
      have F2 : ∀ a, a = 0 ∨ 6 < a → z_up h1 4 s v a = h1 a := fun a ha => z_up_ne (by omega)
      have H2b : zHr (z_up h1 4 s v) g n k := zHr_mv H2 (by rw [z_up_ne (by omega), F1 32 (by omega) (by omega)]) (by rw [z_up_ne (by omega), F1 32 (by omega) (by omega)]) (fun a p q => by rw [z_up_ne (by omega), F1 a (by omega) (by omega)])
      obtain ⟨h3, e3, rP, F3, F3', F3''⟩ := r_push (d := d + 5) (h := z_up h1 4 s v) (c := c) P.2.1 (by rw [z_up_ne (by omega), F1 32 (by omega) (by omega)]; exact P.2.2.2.2.1)
      obtain ⟨X, eX, eX2⟩ := er (z_up h1 4 s v) H2b
      have hold2 : h3 36 s = g 2 s := by rw [F3 36 (by omega) (by omega), z_up_ne (by omega), F1 36 (by omega) (by omega)]; exact (H2.2.2.1 s hs).2.2
      refine sim_ok (v := .int (g 2 s)) (h1 := z_up h1 4 s v) (h2 := z_up h3 36 s v) ?_ ?_ ?_
      · rw [ec h H1, E49_0_at33, e1, zCv_some, c_get (n := 10) rfl (by omega), zCi_some, gt_nI (by omega) (by omega), hold]
        by_cases hb : b = -1
        · rw [if_pos hb] at hbv
          rw [if_pos hb, c_put (n := 10) rfl (by omega), zCv_some, pt_nI (by omega) (by omega), hbv]
        · rw [if_neg hb] at hbv
          rw [if_neg hb, c_put (n := 10) rfl (by omega), zCv_some, pt_nI (by omega) (by omega), hbv]
      · rw [eX, e3, zCv_some, eX2, hold2]
      · have k1 : ∀ a, (1 ≤ a ∧ a ≤ 6 ∧ a ≠ 4) → z_up h3 36 s v a = h a := fun a ha => by rw [z_up_ne (by omega), F3 a (by omega) (by omega), z_up_ne (by omega), F1 a (by omega) (by omega)]
        have k4 : ∀ j, z_up h3 36 s v 4 j = if j = s then v else h 4 j := fun j => by
          rw [z_up_ne (by omega), F3 4 (by omega) (by omega), zu_ap, F1 4 (by omega) (by omega)]; simp
        have k36 : ∀ j, z_up h3 36 s v 36 j = if j = s then v else h 36 j := fun j => by
          rw [zu_ap, F3 36 (by omega) (by omega), z_up_ne (by omega), F1 36 (by omega) (by omega)]; simp
        have k3 : ∀ a, (34 ≤ a ∧ a ≤ 38 ∧ a ≠ 36) → z_up h3 36 s v a = h a := fun a ha => by rw [z_up_ne (by omega), F3 a (by omega) (by omega), z_up_ne (by omega), F1 a (by omega) (by omega)]
        have k32 : ∀ j, j ≠ 23 → j ≠ 24 → j ≠ 25 → z_up h3 36 s v 32 j = h 32 j := fun j q1 q2 q3 => by rw [z_up_ne (by omega), F3' j q1 q2 q3, z_up_ne (by omega), F1 32 (by omega) (by omega)]
        have g2 : ∀ j, gW g s v 2 j = if j = s then v else g 2 j := fun j => rfl
        have gn : ∀ r, r ≠ 2 → gW g s v r = g r := fun r hr => by unfold gW; rw [if_neg hr]
        refine psh_rel (g' := gW g s v) R0 C P cP F1 F2 rP F3 F3' F3'' (fun a q1 q2 q3 q4 => z_up_ne (by omega)) (fun j hj => by rw [z_up_ne (by omega)]) gn ⟨⟨hn, hk, fun j hj => ⟨?_, ?_, ?_⟩, fun r hr => ?_⟩, ⟨?_, ?_, fun j hj => ⟨?_, ?_, ?_⟩, fun r hr => ⟨?_, ?_⟩⟩, ⟨?_, ?_, fun j hj => ⟨?_, ?_, ?_⟩, fun r hr => ⟨?_, ?_⟩⟩, ?_, fun i hi => ?_⟩
        · rw [g2]
          by_cases q : j = s
          · rw [if_pos q]; exact hv
          · rw [if_neg q]; exact (V.2.2.1 j hj).1
        · rw [gn 0 (by omega)]; exact (V.2.2.1 j hj).2.1
        · rw [gn 1 (by omega)]; exact (V.2.2.1 j hj).2.2
        · rw [gn 3 (by omega), gn 4 (by omega)]; exact V.2.2.2 r hr
        · rw [k1 1 (by omega)]; exact H1.1
        · rw [k1 1 (by omega)]; exact H1.2.1
        · rw [k1 2 (by omega), gn 0 (by omega)]; exact (H1.2.2.1 j hj).1
        · rw [k1 3 (by omega), gn 1 (by omega)]; exact (H1.2.2.1 j hj).2.1
        · rw [k4, g2]
          by_cases q : j = s
          · rw [if_pos q, if_pos q]
          · rw [if_neg q, if_neg q]; exact (H1.2.2.1 j hj).2.2
        · rw [k1 5 (by omega), gn 3 (by omega)]; exact (H1.2.2.2 r hr).1
        · rw [k1 6 (by omega), gn 4 (by omega)]; exact (H1.2.2.2 r hr).2
        · rw [k32 6 (by omega) (by omega) (by omega)]; exact H2.1
        · rw [k32 7 (by omega) (by omega) (by omega)]; exact H2.2.1
        · rw [k3 34 (by omega), gn 0 (by omega)]; exact (H2.2.2.1 j hj).1
        · rw [k3 35 (by omega), gn 1 (by omega)]; exact (H2.2.2.1 j hj).2.1
        · rw [k36, g2]
          by_cases q : j = s
          · rw [if_pos q, if_pos q]
          · rw [if_neg q, if_neg q]; exact (H2.2.2.1 j hj).2.2
        · rw [k3 37 (by omega), gn 3 (by omega)]; exact (H2.2.2.2 r hr).1
        · rw [k3 38 (by omega), gn 4 (by omega)]; exact (H2.2.2.2 r hr).2
        · rw [k1 1 (by omega)]; exact RH.2.2.2.1
        · rw [k1 1 (by omega), k32 _ (by omega) (by omega) (by omega)]; exact RH.2.2.2.2 i hi
    by_cases b1 : b = -1
    · refine body (-9) (Or.inl rfl) (if_pos b1) (fun q => absurd b1 q) (fun h H => ?_) (fun h H => ?_)
      · rw [E49_0, c_hasS_1 H V, if_pos ha, zCi_some, if_neg (by decide), if_pos b1]
      · refine ⟨_, by rw [E167_32, r_isS H V, if_pos ha, zCi_some, if_neg (by decide), if_pos b1], fun h5 => ?_⟩
        rw [zG_nI (by omega) (by omega), if_neg (by rw [b1]; decide), zG_nI (by omega) (by omega), nI_tn (by omega)]
    · by_cases hb : 0 ≤ b ∧ b < nI k
      · refine body b (Or.inr (i_small (by omega) hb)) (if_neg b1) (fun _ => hb.1) (fun h H => ?_) (fun h H => ?_)
        · rw [E49_0, c_hasS_1 H V, if_pos ha, zCi_some, if_neg (by decide), if_neg b1, c_hasR_1 H V, if_pos hb, zCi_some, if_neg (by decide)]
        · refine ⟨_, by rw [E167_32, r_isS H V, if_pos ha, zCi_some, if_neg (by decide), if_neg b1, r_isR H V, if_pos hb, zCi_some, if_neg (by decide)], fun h5 => ?_⟩
          rw [zG_nI (by omega) (by omega), if_pos (show b ≥ 0 from hb.1), zG_nI (by omega) (by omega), nI_tn (by omega)]
      · refine sim_rf R (c := -1) (j := 0) (by omega) ?_ ?_
        · rw [E49_0, c_hasS_1 H1 V, if_pos ha, zCi_some, if_neg (by decide), if_neg b1, c_hasR_1 H1 V, if_neg hb, zCi_some, if_pos rfl, c_rf1, zCi_some]
        · rw [E167_32, r_isS H2' V, if_pos ha, zCi_some, if_neg (by decide), if_neg b1, r_isR H2' V, if_neg hb, zCi_some, if_pos rfl, r_no1, zCi_some]
  · refine sim_rf R (c := -1) (j := 0) (by omega) ?_ ?_
    · rw [E49_0, c_hasS_1 H1 V, if_neg ha, zCi_some, if_pos rfl, c_rf1, zCi_some]
    · rw [E167_32, r_isS H2' V, if_neg ha, zCi_some, if_pos rfl, r_no1, zCi_some]

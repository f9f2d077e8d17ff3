/-! THE ROW TOLD -/
theorem sim_judge : zSim 116 223 [] := by
  intro d h R
  obtain ⟨⟨g, n, k, R0⟩, C⟩ := id R
  have V := R0.1.1
  have hn := V.1
  obtain ⟨h1, e1, I, F, R1, C1, s1⟩ := cls_now (e := d + 3) R0 C
  obtain ⟨m, m1, m2, m3, m4⟩ := R1.2.2.1
  have H1 := R1.1.2.1
  have h22 := I.2.2.2.2.2.2.2.2.1
  have oi := fun s hs => ov_iff (b := rF) (u := rF) (w := rF) V (q_go (st := h 1 7)) (s := s) hs
  have o1 := fun s => (rOv_eq (b := rF) (u := rF) (w := rF) V (q_go (st := h 1 7)) 10 s).1
  have wq := fun s (hs : s < 10) (q : rG g n rF rF rF (rQ0 n k (h 1 7) 0) s) => (show rWh g n rF rF rF (rQ0 n k (h 1 7) 0) 10 s = rR g n rF rF rF (rQ0 n k (h 1 7) 0) s by rw [rWh_eq V q_go, if_pos (rG_C hs q)])
  -- the class's state behind, and the reference's ride
  have hcl : ∀ x : zH, (∀ a, a ≠ 28 → x a = h1 a) → x 28 1 = 0 → Rel0 g n k x ∨ True := fun _ _ _ => Or.inr trivial
  have RT := R1.2.1
  have RR := R1.2.2.1
  have RI := R1.2.2.2.1
  have RP := R1.2.2.2.2.1
  have RZ := R1.2.2.2.2.2
  have Rc : Rel0 g n k (z_up (z_up h1 28 1 0) 32 40 0) ∧ RelC (z_up (z_up h1 28 1 0) 32 40 0) := by
    refine ⟨⟨RelH_mv R1.1 (fun a h1 h2 => ?_) (fun a h1 h2 => ?_) (fun j h1 h2 => ?_), RelT_mv RT ?_ ?_ ?_ ?_, ⟨0, by omega, ?_, ?_, fun j hj => absurd hj (by omega)⟩, RelI_mv RI ?_ (fun a h1 h2 => ?_) (fun i hi => ?_) ?_, RelP_mv V RP ?_ ?_ ?_ (fun i hi => ?_) ?_, rAt0_mv RZ (fun j h1 h2 => ?_)⟩, RelC_mv C1 ?_ ?_⟩
    all_goals (try (first
      | (rw [z_up_ne (by omega), z_up_ne (by omega)])
      | (rw [zu_ni _ _ (by omega), z_up_ne (by omega)])))
    · rw [z_up_ne (by omega), zu_eq]; rfl
    · rw [zu_eq]; rfl
  obtain ⟨h2, e2, J, G⟩ := ref_now (e := d + 5) Rc.1
  have s2 : z_up (z_up h1 28 1 0) 32 40 0 1 7 = h 1 7 := by rw [z_up_ne (by omega), z_up_ne (by omega), s1]
  rw [s2] at e2 J
  obtain ⟨J1, J2, J3, J4, J5, J6, J7, J8, J9, J10, J11, J12, J13, J14, J15⟩ := J
  have M := rGt_mask (b := rF) (u := rF) (w := rF) V (q_go (st := h 1 7)) 10 (Nat.le_refl _)
  have hp := fun s (hs : s < 10) => isMask_has M (s := s) hs
  have h46 : ∀ j, j < m → h2 46 j = h1 29 j := fun j hj => by
    rw [G.1 46 (by omega) (by omega) (by omega), z_up_ne (by omega), z_up_ne (by omega), (m4 j hj).1]
  generalize hov : (fun s => rOv g n rF rF rF (rQ0 n k (h 1 7) 0) 10 s) = ov at *
  have ovd : ∀ s, rOv g n rF rF rF (rQ0 n k (h 1 7) 0) 10 s = ov s := fun s => by rw [← hov]
  generalize hwh : (fun s => rWh g n rF rF rF (rQ0 n k (h 1 7) 0) 10 s) = wh at *
  have whd : ∀ s, rWh g n rF rF rF (rQ0 n k (h 1 7) 0) 10 s = wh s := fun s => by rw [← hwh]
  generalize hgo : (fun s => rG g n rF rF rF (rQ0 n k (h 1 7) 0) s) = go at *
  have god : ∀ s, rG g n rF rF rF (rQ0 n k (h 1 7) 0) s = go s := fun s => by rw [← hgo]
  simp only [ovd, god] at oi o1
  simp only [god, whd] at wq
  simp only [ovd] at h22
  simp only [whd] at J15
  simp only [god] at hp
  rw [← J13] at hp
  have how : ∀ s, s < 10 → go s → ov s = wh s := fun s hs q => (o1 s ⟨hs, q⟩).trans (wq s hs q).symm
  have hwn : ∀ s, s < 10 → ¬ go s → ov s = -9 := fun s hs q => by
    by_cases z : ov s = -9
    · exact z
    · exact absurd ((oi s hs).mp z).2 q
  have hgn : ∀ s, s < 10 → go s → ov s ≠ -9 := fun s hs q => (oi s hs).mpr ⟨hs, q⟩
  generalize hP : (fun i => !(decide (i < n) && decide ((if ov i = -9 then 9 else ov i) = h1 29 i))) = P
  have Pd : ∀ i, P i = !(decide (i < n) && decide ((if ov i = -9 then 9 else ov i) = h1 29 i)) := fun i => by rw [← hP]
  clear I J2 J3 J4 J5 J6 J7 J8 J9 J10 J11 J12 J14 o1 wq oi hov hwh hgo ovd whd god hcl
  have st72 : ∀ i, i < 12 → zcal (d + 8) 72 [.ref 19, .int (nI i)] h1 = some (some (.int (if i < 10 then ov i else -9)), h1) := fun i hi => by
    rw [E72_19, if_neg (nI_pos (by omega))]
    by_cases q : i < 10
    · rw [if_neg (nge10 q), c_get (n := 10) rfl (by omega), zCi_some, gt_nI q (by omega), h22 i q, if_pos q]
    · rw [if_pos (show nI i ≥ (10 : Int32) from nI_le (a := 10) (by omega) (by omega)), if_neg q]
  have st25 : ∀ i, zcal (d + 8) 25 [.ref 1, .int (nI i)] h1 = some (some (.int (if 0 ≤ nI i ∧ nI i < nI n then 1 else 0)), h1) := fun i => c_hasS_1 H1 V
  have st14 : ∀ i, i < m → zcal (d + 8) 14 [.ref 28, .int (nI i)] h1 = some (some (.int (h1 29 i)), h1) := fun i hi => by
    rw [E14_28, if_neg (nI_pos (by omega)), m2, if_neg (nI_ge hi (by omega)), c_get (n := 12) rfl (by omega), zCi_some, gt_nI (by omega) (by omega)]
  have lc : ∀ r i (x2 x3 : Option Value), i + r = m → zE (d + 8) 117 (2, [some (.ref 0), some (.int (nI i)), x2, x3], [], h1) = zsr P (fun i => some (some (.int (nI i)), h1)) (some (some (.int (-9)), h1)) r i := by
    intro r
    induction r with
    | zero =>
      intro i x2 x3 hi
      have hi : i = m := hi
      subst hi
      rw [E117_0_at2, m2, if_pos (nI_le (Nat.le_refl _) (by omega))]; rfl
    | succ r ih =>
      intro i x2 x3 hi
      rw [E117_0_at2, m2, if_neg (nI_ge (by omega) (by omega)), st72 i (by omega), zCi_some, zsr, Pd]
      by_cases qn : i < n
      · have ci : (0 : Int32) ≤ nI i ∧ nI i < nI n := ⟨nI_pos' (by omega), nI_lt qn (by omega)⟩
        rw [if_pos (show i < 10 by omega), decide_eq_true qn, Bool.true_and]
        by_cases q9 : ov i = -9
        · rw [if_pos q9, st25, if_pos ci, zCi_some, if_neg (by decide), st14 i (by omega), zCi_some, if_pos q9]
          by_cases z : h1 29 i = 9
          · rw [if_pos z, decide_eq_true z.symm, if_neg (by decide), nI_1]
            exact ih (i + 1) _ _ (by omega)
          · rw [if_neg z, decide_eq_false (fun y => z y.symm), if_pos (by decide)]
        · rw [if_neg q9, st25, if_pos ci, zCi_some, if_neg (by decide), st14 i (by omega), zCi_some, if_neg q9]
          by_cases z : h1 29 i = ov i
          · rw [if_pos z, decide_eq_true z.symm, if_neg (by decide), nI_1]
            exact ih (i + 1) _ _ (by omega)
          · rw [if_neg z, decide_eq_false (fun y => z y.symm), if_pos (by decide)]
      · have ci : ¬ ((0 : Int32) ≤ nI i ∧ nI i < nI n) := fun q => qn ((lt_nI (by omega) (by omega)).mp q.2)
        rw [decide_eq_false qn, Bool.false_and, if_pos (show (!false) = true from rfl), st25, if_neg ci, zCi_some, if_pos rfl, zCi_some, if_pos rfl, ite_self]
  have lr : ∀ r i, i + r = m → zE (d + 9) 223 (17, [some (.ref 32), some (.int (nI m)), some (.int (nI i))], [], h2) = zsr P (fun i => some (some (.int (nI i)), h2)) (some (some (.int (-9)), h2)) r i := by
    intro r
    induction r with
    | zero =>
      intro i hi
      have hi : i = m := hi
      subst hi
      rw [E223_32_at17, if_pos (nI_le (Nat.le_refl _) (by omega))]; rfl
    | succ r ih =>
      intro i hi
      rw [E223_32_at17, if_neg (nI_ge (by omega) (by omega)), J1.1, zsr, Pd]
      by_cases qn : i < n
      · rw [if_neg (nI_ge qn (by omega)), r_has, zCi_some, decide_eq_true qn, Bool.true_and]
        by_cases qg : go i
        · have qo : ov i ≠ -9 := hgn i (by omega) qg
          rw [if_pos ((hp i (by omega)).mpr ⟨by omega, qg⟩), if_neg (by decide), zG_nI (by omega) (by omega), zG_nI (by omega) (by omega), nI_tn (by omega), J15 i (by omega), h46 i (by omega), if_neg qo, how i (by omega) qg]
          by_cases z : wh i = h1 29 i
          · rw [if_pos z, decide_eq_true z, if_neg (by decide), nI_1]
            exact ih (i + 1) (by omega)
          · rw [if_neg z, decide_eq_false z, if_pos (by decide)]
        · rw [if_neg (fun y => qg ((hp i (by omega)).mp y).2), if_pos rfl, zG_nI (by omega) (by omega), nI_tn (by omega), h46 i (by omega), if_pos (hwn i (by omega) qg)]
          by_cases z : (9 : Int32) = h1 29 i
          · rw [if_pos z, decide_eq_true z, if_neg (by decide), nI_1]
            exact ih (i + 1) (by omega)
          · rw [if_neg z, decide_eq_false z, if_pos (by decide)]
      · rw [if_pos (nI_le (by omega) (by omega)), decide_eq_false qn, Bool.false_and, if_pos (show (!false) = true from rfl)]
  obtain ⟨v, hv⟩ := zsr_val (P := P) m 0
  refine sim_ok (v := .int v) (h1 := z_up h1 28 1 0) (h2 := h2) ?_ ?_ (Rel_of Rc.1 Rc.2 G)
  · have e117 : zcal (d + 9) 117 [.ref 0] h1 = some (some (.int v), h1) := by
      rw [E117_0]
      exact (lc m 0 none none (by omega)).trans (hv h1)
    rw [E116_0, e1, zCv_some, e117, zCi_some, E37_28, zCv_some]
  · have e40 : z_up h1 28 1 0 32 40 = nI m := by rw [z_up_ne (by omega), m3]
    rw [E223_32, e40, e2, zCi_some]
    exact (lr m 0 (by omega)).trans (hv h2)

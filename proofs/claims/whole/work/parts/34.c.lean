/-! WHO, GAIN -/
section NXT
variable {g : zHl} {n k : Nat} {b u w : Nat → Bool} {q0 : zQ}
theorem rG_C {j : Nat} (hj : j < 10) (h : rG g n b u w q0 j) : j < rC g n b u w q0 10 := (rC_iff 10 j).mpr ⟨hj, h.1⟩
theorem rG_next (V : zVal g n k) (h0 : rGo n k q0 0) {j : Nat} (h : rG g n b u w q0 j) : j < n ∧ (rJ g n b u w q0 (j + 1)).1 = j + 1 ∧ (rJ g n b u w q0 (j + 1)).2.2.2 = if j + 1 < n then 0 else 3 := by
  obtain ⟨hm, hl⟩ := h
  obtain ⟨e, hs, _⟩ := rJ_go V h0 j hm
  rw [rJ_next hm, e] at hl ⊢
  refine ⟨hs, ?_⟩
  unfold s_nx at hl ⊢
  split at hl
  · rename_i h1
    rw [if_pos h1]
    split at hl
    · rename_i h2
      rw [if_pos h2]
      exact ⟨rfl, rfl⟩
    · exact absurd hl (by simp)
  · exact absurd hl (by simp)
theorem rC_le2 (V : zVal g n k) : rC g n b u w q0 10 ≤ 10 := rC_le 10
end NXT
theorem rVF {g : zHl} {n : Nat} {u w : Nat → Bool} {q0 : zQ} {j : Nat} : rV g n rF u w q0 j = (rJ g n rF u w q0 j).2.1 := rfl
theorem sim_who {a : Int32} : zSim 73 182 [.int a] := by
  intro d h R
  obtain ⟨⟨g, n, k, R0⟩, C⟩ := id R
  have V := R0.1.1; have H1 := R0.1.2.1
  have hn := V.1
  by_cases ha : 0 ≤ a ∧ a < nI n
  · obtain ⟨s, hs, rfl⟩ := i_small (by omega) ha
    obtain ⟨h1, e1, I, F, R1, C1, s1⟩ := cls_now (e := d + 3) R0 C
    obtain ⟨h2, e2, J, G⟩ := ref_now (e := d + 5) R1
    rw [s1] at e2 J
    obtain ⟨I1, I2, I3, I4, I5, I6, I7, I8, I9, I10, I11, I12, I13, I14⟩ := I
    obtain ⟨J1, J2, J3, J4, J5, J6, J7, J8, J9, J10, J11, J12, J13, J14, J15⟩ := J
    have M := rGt_mask (b := rF) (u := rF) (w := rF) V (q_go (st := h 1 7)) 10 (Nat.le_refl _)
    obtain ⟨o1, o2⟩ := rOv_eq (b := rF) (u := rF) (w := rF) V (q_go (st := h 1 7)) 10 s
    have e72 : zcal (d + 9) 72 [.ref 19, .int (nI s)] h1 = some (some (.int (rOv g n rF rF rF (rQ0 n k (h 1 7) 0) 10 s)), h1) := by
      rw [E72_19, if_neg (nI_pos (by omega)), if_neg (nge10 (by omega)), c_get (n := 10) rfl (by omega), zCi_some, gt_nI (by omega) (by omega), I9 s (by omega)]
    have hp := isMask_has M (s := s) (by omega)
    have R2 := Rel_of R1 C1 G
    refine sim_ok (v := .int (rOv g n rF rF rF (rQ0 n k (h 1 7) 0) 10 s)) (h1 := h1) (h2 := h2) ?_ ?_ R2
    · rw [E73_0, c_hasS_1 H1 V, if_pos ha, zCi_some, if_neg (by decide), e1, zCv_some, e72, zCi_some]
    · rw [E182_32, r_isS R1.1.2.2.1 V, if_pos ha, zCi_some, if_neg (by decide), e2, zCi_some, r_has, zCi_some, J13]
      by_cases q : s < 10 ∧ rG g n rF rF rF (rQ0 n k (h 1 7) 0) s
      · rw [if_pos (hp.mpr q), if_neg (by decide), zG_nI (by omega) (by omega), nI_tn (by omega), o1 q, J15 s (by omega), rWh_eq V q_go, if_pos (rG_C (by omega) q.2)]
      · rw [if_neg (fun z => q (hp.mp z)), if_pos rfl, o2 q]
  · refine sim_rf R (c := -1) (j := 0) (by omega) ?_ ?_
    · rw [E73_0, c_hasS_1 H1 V, if_neg ha, zCi_some, if_pos rfl, c_rf1, zCi_some]
    · rw [E182_32, r_isS (Rel0_c R0).1.2.2.1 V, if_neg ha, zCi_some, if_pos rfl, r_no1, zCi_some]
theorem sim_gain {a : Int32} : zSim 79 219 [.int a] := by
  intro d h R
  obtain ⟨⟨g, n, k, R0⟩, C⟩ := id R
  have V := R0.1.1; have H1 := R0.1.2.1
  have hn := V.1
  by_cases ha : 0 ≤ a ∧ a < nI n
  · obtain ⟨s, hs, rfl⟩ := i_small (by omega) ha
    obtain ⟨h1, e1, I, F, R1, C1, s1⟩ := cls_now (e := d + 3) R0 C
    obtain ⟨h2, e2, J, G⟩ := ref_now (e := d + 5) R1
    rw [s1] at e2 J
    obtain ⟨I1, I2, I3, I4, I5, I6, I7, I8, I9, I10, I11, I12, I13, I14⟩ := I
    obtain ⟨J1, J2, J3, J4, J5, J6, J7, J8, J9, J10, J11, J12, J13, J14, J15⟩ := J
    have M := rGt_mask (b := rF) (u := rF) (w := rF) V (q_go (st := h 1 7)) 10 (Nat.le_refl _)
    obtain ⟨o1, o2⟩ := rGa_eq (b := rF) (u := rF) (w := rF) V (q_go (st := h 1 7)) 10 s
    have hp := isMask_has M (s := s) (by omega)
    have R2 := Rel_of R1 C1 G
    have hl : (nI s + 1 = nI n) ↔ s + 1 = n := by rw [nI_1]; exact nI_eq (by omega) (by omega)
    refine sim_ok (v := .int (rGa g n rF rF rF (rQ0 n k (h 1 7) 0) 10 s)) (h1 := h1) (h2 := h2) ?_ ?_ R2
    · rw [E79_0, c_hasS_1 H1 V, if_pos ha, zCi_some, if_neg (by decide), e1, zCv_some, c_get (n := 10) rfl (by omega), zCi_some, gt_nI (by omega) (by omega), I8 s (by omega)]
    · rw [E219_32, r_isS R1.1.2.2.1 V, if_pos ha, zCi_some, if_neg (by decide), e2, zCi_some, r_has, zCi_some, J13]
      by_cases q : s < 10 ∧ rG g n rF rF rF (rQ0 n k (h 1 7) 0) s
      · obtain ⟨n1, n2, n3⟩ := rG_next V q_go q.2
        rw [if_pos (hp.mpr q), if_neg (by decide), o1 q, J1.1, rVF, zG_nI (by omega) (by omega), nI_tn (by omega), J14 s (by omega), rSp_eq V q_go, if_pos (rG_C (by omega) q.2)]
        by_cases ln : s + 1 = n
        · rw [if_pos (hl.mpr ln), J7]
          have st := rJ_stay (i := s + 1) (by rw [n3, if_neg (by omega)]; decide) 10 (by omega)
          rw [st]
        · rw [if_neg (fun z => ln (hl.mp z)), nI_1, zG_nI (by omega) (by omega), nI_tn (by omega), J14 (s + 1) (by omega), rSp_eq V q_go, if_pos ((rC_iff 10 (s + 1)).mpr ⟨by omega, by rw [n3, if_pos (by omega)]⟩), zG_nI (by omega) (by omega)]
      · rw [if_neg (fun z => q (hp.mp z)), if_pos rfl, o2 q]
  · refine sim_ok (v := .int ((1000000000 : Int32) - (-1))) (h1 := refC h 0) (h2 := refR (refC h 0) 0) ?_ ?_ (Rel_ref (by omega) R)
    · rw [E79_0, c_hasS_1 H1 V, if_neg ha, zCi_some, if_pos rfl, c_rf1, zCi_some]
    · rw [E219_32, r_isS (Rel0_c R0).1.2.2.1 V, if_neg ha, zCi_some, if_pos rfl, r_lower (j := 0) (by omega) (by decide), zCi_some]
      rfl
/-! SEARCHES -/
section SR
variable {A : Type}
/-- the first i from here on, m of them, of which P says so -/
def zsr (P : Nat → Bool) (f : Nat → A) (b : A) : Nat → Nat → A
  | 0, _ => b
  | m + 1, i => if P i = true then f i else zsr P f b m (i + 1)
theorem z_srch {S : Nat → A} {P : Nat → Bool} {f : Nat → A} {b : A} {N : Nat} (hs : ∀ i, i < N → S i = if P i = true then f i else S (i + 1)) (hN : S N = b) : ∀ m i, i + m = N → S i = zsr P f b m i := by
  intro m
  induction m with
  | zero => intro i hi; have hi : i = N := hi; subst hi; exact hN
  | succ m ih =>
    intro i hi
    rw [hs i (by omega), zsr]
    by_cases q : P i = true
    · rw [if_pos q, if_pos q]
    · rw [if_neg q, if_neg q, ih (i + 1) (by omega)]
theorem zsr_ext {P Q : Nat → Bool} {f : Nat → A} {b : A} {N N' : Nat} (hle : N' ≤ N) (h1 : ∀ i, i < N' → P i = Q i) (h2 : ∀ i, N' ≤ i → i < N → P i = false) : ∀ m i, i + m = N → zsr P f b m i = zsr Q f b (N' - i) i := by
  intro m
  induction m with
  | zero => intro i hi; rw [show N' - i = 0 by omega]; rfl
  | succ m ih =>
    intro i hi
    rw [zsr]
    rcases Nat.lt_or_ge i N' with q | q
    · rw [show N' - i = (N' - (i + 1)) + 1 by omega, zsr, h1 i q, ih (i + 1) (by omega)]
    · rw [h2 i q (by omega), if_neg (by decide), ih (i + 1) (by omega), show N' - i = 0 by omega, show N' - (i + 1) = 0 by omega, zsr, zsr]
end SR
theorem Int32_nlt {a b : Int32} : ¬ a < b ↔ b ≤ a := Int32.not_lt
theorem sp_ge0 {x : Int32} (h : zIn x 0 99) : ¬ x < 0 := by
  rw [Int32.lt_iff_toInt_lt]
  have t0 : (0 : Int32).toInt = 0 := by decide
  have := h.1
  omega
theorem st_in {g : zHl} {n k : Nat} {b u w : Nat → Bool} {st f : Int32} (V : zVal g n k) (hf : s_rid k f ∨ k = 0) (hs : zIn st 0 99) (i : Nat) : zIn (rJ g n b u w (rQ0 n k st f) i).2.1 0 99 := rJ_in V (rQ0_go hf) hs i
theorem f0 {k : Nat} : s_rid k 0 ∨ k = 0 := by
  rcases Nat.eq_zero_or_pos k with q | q
  · exact Or.inr q
  · exact Or.inl ⟨0, q, rfl⟩
theorem sim_above {a : Int32} : zSim 70 180 [.int a] := by
  intro d h R
  obtain ⟨⟨g, n, k, R0⟩, C⟩ := id R
  have V := R0.1.1; have H1 := R0.1.2.1
  have hn := V.1
  by_cases a0 : 0 ≤ a
  · by_cases a9 : a ≤ 99
    · obtain ⟨h1, e1, I, F, R1, C1, s1⟩ := cls_now (e := d + 3) R0 C
      obtain ⟨h2, e2, J, G⟩ := ref_now (e := d + 5) R1
      rw [s1] at e2 J
      obtain ⟨I1, I2, I3, I4, I5, I6, I7, I8, I9, I10, I11, I12, I13, I14⟩ := I
      obtain ⟨J1, J2, J3, J4, J5, J6, J7, J8, J9, J10, J11, J12, J13, J14, J15⟩ := J
      have R2 := Rel_of R1 C1 G
      generalize hq : rQ0 n k (h 1 7) 0 = q0 at *
      have go : rGo n k q0 0 := by rw [← hq]; exact q_go
      have hc10 := rC_le (g := g) (n := n) (b := rF) (u := rF) (w := rF) (q0 := q0) 10
      have hcn := rC_len (b := rF) (u := rF) (w := rF) V go 10
      generalize hN : rC g n rF rF rF q0 10 = N at *
      have sp0 : ∀ j, j < N → h1 20 j = (rJ g n rF rF rF q0 j).2.1 := fun j hj => by rw [I7 j (by omega), rSp_eq V go, hN, if_pos hj]
      have sp9 : ∀ j, j < N → h2 44 j = (rJ g n rF rF rF q0 j).2.1 := fun j hj => by rw [J14 j (by omega), rSp_eq V go, hN, if_pos hj]
      have spn : ∀ j, N ≤ j → j < n → h2 44 j = -9 := fun j hj hj2 => by rw [J14 j (by omega), rSp_eq V go, hN, if_neg (by omega)]
      have n9 : (-9 : Int32) < a := by
        rw [Int32.lt_iff_toInt_lt]
        rw [Int32.le_iff_toInt_le] at a0
        have t0 : (0 : Int32).toInt = 0 := by decide
        have t9 : (-9 : Int32).toInt = -9 := by decide
        omega
      have c1 := z_srch (A := Option zE0) (S := fun i => zE (d + 9) 70 (30, [some (.ref 0), some (.int a), some (.int (nI i))], [], h1)) (P := fun i => decide (¬ (rJ g n rF rF rF q0 i).2.1 < a)) (f := fun i => some (some (.int (nI i)), h1)) (b := some (some (.int (-9)), h1)) (N := N) (fun i hi => by
        show zE (d + 9) 70 (30, [some (.ref 0), some (.int a), some (.int (nI i))], [], h1) = _
        rw [E70_0_at30, I10, rCa_eq V go, hN, if_neg (nI_ge hi (by omega)), c_get (n := 10) rfl (by omega), zCi_some, gt_nI (by omega) (by omega), sp0 i hi]
        by_cases z : (rJ g n rF rF rF q0 i).2.1 < a
        · rw [if_pos z, if_neg (fun q => (of_decide_eq_true q) z), nI_1]
        · rw [if_neg z, if_pos (decide_eq_true z)]) (by
        show zE (d + 9) 70 (30, [some (.ref 0), some (.int a), some (.int (nI N))], [], h1) = _
        rw [E70_0_at30, I10, rCa_eq V go, hN, if_pos (nI_le (Nat.le_refl _) (by omega))]) N 0 (by omega)
      have c2 := z_srch (A := Option zE0) (S := fun i => zE (d + 9) 180 (25, [some (.ref 32), some (.int a), some (.int 0), some (.int (nI i))], [], h2)) (P := fun i => decide (¬ h2 44 i < a)) (f := fun i => some (some (.int (nI i)), h2)) (b := some (some (.int (-9)), h2)) (N := n) (fun i hi => by
        show zE (d + 9) 180 (25, [some (.ref 32), some (.int a), some (.int 0), some (.int (nI i))], [], h2) = _
        rw [E180_32_at25, J1.1, if_neg (nI_ge hi (by omega)), zG_nI (by omega) (by omega), nI_tn (by omega)]
        by_cases z : h2 44 i < a
        · rw [if_pos z, if_neg (fun q => (of_decide_eq_true q) z), nI_1]
        · rw [if_neg z, if_pos (decide_eq_true z)]) (by
        show zE (d + 9) 180 (25, [some (.ref 32), some (.int a), some (.int 0), some (.int (nI n))], [], h2) = _
        rw [E180_32_at25, J1.1, if_pos (nI_le (Nat.le_refl _) (by omega))]) n 0 (by omega)
      have c3 := zsr_ext (A := Option zE0) (f := fun i => some (some (.int (nI i)), h2)) (b := some (some (.int (-9)), h2)) (P := fun i => decide (¬ h2 44 i < a)) (Q := fun i => decide (¬ (rJ g n rF rF rF q0 i).2.1 < a)) hcn (fun i hi => by rw [sp9 i hi]) (fun i q1 q2 => decide_eq_false (by rw [spn i q1 q2]; exact fun z => z n9)) n 0 (by omega)
      have val : ∀ (H : zH) m i, ∃ v : Int32, (∀ H : zH, zsr (fun i => decide (¬ (rJ g n rF rF rF q0 i).2.1 < a)) (fun i => some (some (.int (nI i)), H)) (some (some (.int (-9)), H)) m i = (some (some (.int v), H) : Option zE0)) := by
        intro H m
        induction m with
        | zero => intro i; exact ⟨-9, fun H => rfl⟩
        | succ m ih =>
          intro i
          by_cases z : decide (¬ (rJ g n rF rF rF q0 i).2.1 < a) = true
          · exact ⟨nI i, fun H => by rw [zsr, if_pos z]⟩
          · obtain ⟨v, hv⟩ := ih (i + 1)
            exact ⟨v, fun H => by rw [zsr, if_neg z, hv H]⟩
      obtain ⟨v, hv⟩ := val h1 N 0
      rw [hv h1] at c1
      rw [Nat.sub_zero, hv h2] at c3
      have c4 := c2.trans c3
      refine sim_ok (v := .int v) (h1 := h1) (h2 := h2) ?_ ?_ R2
      · rw [E70_0, if_pos (show a ≥ 0 from a0), if_pos a9, e1, zCv_some]; exact c1
      · rw [E180_32, r_bound, if_pos a0, if_pos a9, zCi_some, if_pos rfl, e2, zCi_some]; exact c4
    · refine sim_rf R (c := -6) (j := 5) (by omega) ?_ ?_
      · rw [E70_0, if_pos (show a ≥ 0 from a0), if_neg a9, c_rf6, zCi_some]
      · rw [E180_32, r_bound, if_pos a0, if_neg a9, zCi_some, if_neg (by decide), r_no6, zCi_some]
  · refine sim_rf R (c := -4) (j := 3) (by omega) ?_ ?_
    · rw [E70_0, if_neg (show ¬ a ≥ 0 from a0), c_rf4, zCi_some]
    · rw [E180_32, r_bound, if_neg a0, zCi_some, if_neg (by decide), r_no4, zCi_some]

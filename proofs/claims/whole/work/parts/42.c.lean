/-! MEAN -/
def spn (g : zHl) (n : Nat) (q0 : zQ) (j : Nat) : Nat := (rJ g n rF rF rF q0 j).2.1.toNatClampNeg
def SN (g : zHl) (n : Nat) (q0 : zQ) : Nat → Nat := zfo (fun j s => s + spn g n q0 j) 0
theorem in_nI {x : Int32} (h : zIn x 0 99) : ∃ m, m ≤ 99 ∧ x = nI m := by
  obtain ⟨h1, h2⟩ := h
  have t0 : (0 : Int32).toInt = 0 := by decide
  have t9 : (nI 99).toInt = 99 := by decide
  exact nI_num (by omega) (by rw [Int32.le_iff_toInt_le]; omega) (by rw [Int32.le_iff_toInt_le]; omega)
theorem spn_ok {g : zHl} {n : Nat} {q0 : zQ} {j : Nat} (h : zIn (rJ g n rF rF rF q0 j).2.1 0 99) : (rJ g n rF rF rF q0 j).2.1 = nI (spn g n q0 j) ∧ spn g n q0 j ≤ 99 := by
  obtain ⟨m, hm, e⟩ := in_nI h
  unfold spn
  rw [e, nI_tn (by omega)]
  exact ⟨rfl, hm⟩
theorem SN_le {g : zHl} {n : Nat} {q0 : zQ} (h : ∀ j, zIn (rJ g n rF rF rF q0 j).2.1 0 99) : ∀ i, SN g n q0 i ≤ 99 * i := by
  intro i
  induction i with
  | zero => exact Nat.le_refl _
  | succ i ih =>
    have := (spn_ok (h i)).2
    show SN g n q0 i + spn g n q0 i ≤ _
    omega
theorem sim_mean {a : Int32} : zSim 77 217 [.int a] := by
  intro d h R
  obtain ⟨⟨g, n, k, R0⟩, C⟩ := id R
  have V := R0.1.1
  have hn := V.1
  have hst := R0.1.2.2.2.1.1
  by_cases ok : a = 0 ∨ a = 1
  · obtain ⟨h1, e1, I, F, R1, C1, s1⟩ := cls_now (e := d + 3) R0 C
    obtain ⟨h2, e2, J, G⟩ := ref_now (e := d + 5) R1
    rw [s1] at e2 J
    obtain ⟨I1, I2, I3, I4, I5, I6, I7, I8, I9, I10, I11, I12, I13, I14⟩ := I
    obtain ⟨J1, J2, J3, J4, J5, J6, J7, J8, J9, J10, J11, J12, J13, J14, J15⟩ := J
    have R2 := Rel_of R1 C1 G
    have hin := fun i => st_in (b := rF) (u := rF) (w := rF) (st := h 1 7) V f0 hst i
    generalize hq : rQ0 n k (h 1 7) 0 = q0 at *
    have go : rGo n k q0 0 := by rw [← hq]; exact q_go
    have hc10 := rC_le (g := g) (n := n) (b := rF) (u := rF) (w := rF) (q0 := q0) 10
    have hcn := rC_len (b := rF) (u := rF) (w := rF) V go 10
    generalize hN : rC g n rF rF rF q0 10 = N at *
    have hsn := SN_le hin N
    have sp0 : ∀ j, j < N → h1 20 j = nI (spn g n q0 j) := fun j hj => by rw [I7 j (by omega), rSp_eq V go, hN, if_pos hj]; exact (spn_ok (hin j)).1
    have sp9 : ∀ j, j < N → h2 44 j = nI (spn g n q0 j) := fun j hj => by rw [J14 j (by omega), rSp_eq V go, hN, if_pos hj]; exact (spn_ok (hin j)).1
    have spn' : ∀ j, N ≤ j → j < n → h2 44 j = -9 := fun j hj hj2 => by rw [J14 j (by omega), rSp_eq V go, hN, if_neg (by omega)]
    have c1 := z_loop (S := fun (s : Nat) i => zE (d + 9) 77 (30, [some (.ref 0), some (.int a), some (.long (lq s)), none, some (.int (nI i))], [], h1)) (F := fun j s => s + spn g n q0 j) (s0 := 0) (N := N) (fun i hi => by
      show zE (d + 9) 77 (30, [some (.ref 0), some (.int a), some (.long (lq _)), none, some (.int (nI i))], [], h1) = zE (d + 9) 77 (30, [some (.ref 0), some (.int a), some (.long (lq (_ + spn g n q0 i))), none, some (.int (nI (i + 1)))], [], h1)
      have := (spn_ok (hin i)).2
      rw [E77_0_at30, I10, rCa_eq V go, hN, if_neg (nI_ge hi (by omega)), c_get (n := 10) rfl (by omega), zCi_some, gt_nI (by omega) (by omega), sp0 i hi, nI_64 (by omega), lq_add, nI_1])
    have c2 := z_loop (S := fun (s : Nat × Nat) i => zE (d + 9) 217 (29, [some (.ref 32), some (.int a), some (.long (lq s.1)), none, some (.long (lq s.2)), none, some (.int (nI i))], [], h2)) (F := fun j s => if N ≤ j then s else (s.1 + spn g n q0 j, s.2 + 1)) (s0 := (0, 0)) (N := n) (fun i hi => by
      show zE (d + 9) 217 (29, [some (.ref 32), some (.int a), some (.long (lq _)), none, some (.long (lq _)), none, some (.int (nI i))], [], h2) = _
      have := (spn_ok (hin i)).2
      have l0 : (0 : Int64) = lq 0 := rfl
      have l1 : (1 : Int64) = lq 1 := rfl
      rw [E217_32_at29, J1.1, if_neg (nI_ge hi (by omega)), zG_nI (by omega) (by omega), nI_tn (by omega), zfo]
      by_cases q : N ≤ i
      · have n9 : h2 44 i < 0 := by rw [spn' i q hi]; decide
        rw [if_pos n9, zG_nI (by omega) (by omega), if_pos n9, if_pos q, l0, lq_add, lq_add, nI_1]
        rfl
      · have n9 : ¬ h2 44 i < 0 := by rw [sp9 i (by omega)]; exact nI_pos (by omega)
        rw [if_neg n9, zG_nI (by omega) (by omega), zG_nI (by omega) (by omega), if_neg n9, if_neg q, sp9 i (by omega), nI_64 (by omega), l1, lq_add, lq_add, nI_1])
    have e3 : zfo (fun j (s : Nat × Nat) => if N ≤ j then s else (s.1 + spn g n q0 j, s.2 + 1)) (0, 0) n = (SN g n q0 N, N) := by
      rw [zfo_stop (N := N) n hcn (fun i q1 q2 s => if_pos q1)]
      have : ∀ i, i ≤ N → zfo (fun j (s : Nat × Nat) => if N ≤ j then s else (s.1 + spn g n q0 j, s.2 + 1)) (0, 0) i = (SN g n q0 i, i) := by
        intro i
        induction i with
        | zero => intro _; rfl
        | succ i ih =>
          intro hi
          rw [zfo, ih (by omega), if_neg (by omega)]
          rfl
      exact this N (Nat.le_refl _)
    rw [e3] at c2
    refine sim_ok (v := .long (if SN g n q0 N = 0 ∨ N = 0 then a.toInt64 else if a = 0 then lq (SN g n q0 N / Nat.gcd (SN g n q0 N) N) else lq (N / Nat.gcd (SN g n q0 N) N))) (h1 := h1) (h2 := h2) ?_ ?_ R2
    · have e77 : zcal (d + 10) 77 [.ref 0, .int a] h = zE (d + 9) 77 (30, [some (.ref 0), some (.int a), some (.long (0 : Int64)), none, some (.int 0)], [], h1) := by
        rw [E77_0]
        by_cases a0 : a = 0
        · rw [if_pos a0, e1, zCv_some]
        · rw [if_neg a0, if_pos (by rcases ok with q | q; exact absurd q a0; exact q), e1, zCv_some]
      rw [e77]
      refine c1.trans ?_
      show zE (d + 9) 77 (30, [some (.ref 0), some (.int a), some (.long (lq (SN g n q0 N))), none, some (.int (nI N))], [], h1) = _
      rw [E77_0_at30, I10, rCa_eq V go, hN, if_pos (nI_le (Nat.le_refl _) (by omega)), nI_64 (by omega), c_low (by omega) hc10, zCl_some]
    · have in1 : (0 : Int32) ≤ a ∧ a ≤ 1 := by rcases ok with rfl | rfl <;> decide
      rw [E217_32, r_isIn, if_pos in1, zCi_some, if_neg (by decide), e2, zCi_some]
      refine c2.trans ?_
      show zE (d + 9) 217 (29, [some (.ref 32), some (.int a), some (.long (lq (SN g n q0 N))), none, some (.long (lq N)), none, some (.int (nI n))], [], h2) = _
      rw [E217_32_at29, J1.1, if_pos (nI_le (Nat.le_refl _) (by omega))]
      by_cases n0 : N = 0
      · rw [if_pos (lg_0.mpr ((lq_0 (by omega)).mpr n0)), if_pos (Or.inr n0)]
      · rw [if_neg (fun q => n0 ((lq_0 (by omega)).mp (lg_0.mp q))), r_low2 (d := d + 7) ok (by omega) hc10 n0, zCl_some]
  · have n0 : ¬ a = 0 := fun q => ok (Or.inl q)
    have n1 : ¬ a = 1 := fun q => ok (Or.inr q)
    have nn : ¬ ((0 : Int32) ≤ a ∧ a ≤ 1) := fun q => by
      obtain ⟨x, hx, rfl⟩ := nI_num (m := 1) (by omega) q.1 q.2
      have : x = 0 ∨ x = 1 := by omega
      rcases this with rfl | rfl
      · exact n0 rfl
      · exact n1 rfl
    refine sim_ok (v := .long ((4000000000000000000 : Int64) - (-2 : Int32).toInt64)) (h1 := refC h 1) (h2 := refR (refC h 1) 1) ?_ ?_ (Rel_ref (by omega) R)
    · rw [E77_0, if_neg n0, if_neg n1, c_rf2, zCi_some]
    · rw [E217_32, r_isIn, if_neg nn, zCi_some, if_pos rfl, r_low (j := 1) (by omega) (by decide), zCl_some]
      rfl

/-! SHARES, WAITING -/
def cnt (g : zHl) (n : Nat) (b u w : Nat → Bool) (q0 : zQ) (r : Nat) : Nat := zfo (fun j a => if rOv g n b u w q0 10 j = nI r then a + 1 else a) 0 10
theorem zfo_le {P : Nat → Prop} [DecidablePred P] : ∀ i, zfo (fun j a => if P j then a + 1 else a) 0 i ≤ i := by
  intro i
  induction i with
  | zero => exact Nat.le_refl _
  | succ i ih => rw [zfo]; split <;> omega
theorem cnt_le {g : zHl} {n : Nat} {b u w : Nat → Bool} {q0 : zQ} {r : Nat} : cnt g n b u w q0 r ≤ 10 := zfo_le 10
section CNT
variable {g : zHl} {n k : Nat} {q0 : zQ}
theorem c_cnt {d : Nat} {h : zH} (h22 : ∀ j, j < 10 → h 22 j = rOv g n rF rF rF q0 10 j) {r : Nat} : zcal (d + 2) 76 [.ref 19, .int (nI r)] h = some (some (.int (nI (cnt g n rF rF rF q0 r))), h) := by
  have c := z_loop (S := fun (acc : Nat) i => zE (d + 1) 76 (4, [some (.ref 19), some (.int (nI r)), some (.int (nI acc)), some (.int (nI i))], [], h)) (F := fun j a => if rOv g n rF rF rF q0 10 j = nI r then a + 1 else a) (s0 := 0) (N := 10) (fun i hi => by
    show zE (d + 1) 76 (4, [some (.ref 19), some (.int (nI r)), some (.int (nI _)), some (.int (nI i))], [], h) = _
    rw [E76_19_at4, if_neg (nge10 hi), c_get (n := 10) rfl (by omega), zCi_some, gt_nI (by omega) (by omega), h22 i hi, zfo, nI_1]
    by_cases q : rOv g n rF rF rF q0 10 i = nI r
    · rw [if_pos q, if_pos q, nI_1]
    · rw [if_neg q, if_neg q, nI_1])
  rw [E76_19]
  refine c.trans ?_
  show zE (d + 1) 76 (4, [some (.ref 19), some (.int (nI r)), some (.int (nI _)), some (.int (nI 10))], [], h) = _
  rw [E76_19_at4, if_pos ge10]
  rfl
theorem r_cnt {d : Nat} {h : zH} (V : zVal g n k) (h0 : rGo n k q0 0) (hn6 : h 32 6 = nI n) (h35 : h 32 35 = rGt g n rF rF rF q0 10) (h45 : ∀ j, j < 10 → h 45 j = rWh g n rF rF rF q0 10 j) {r : Nat} (hr : r < 5) : zcal (d + 2) 210 [.ref 32, .int (nI r)] h = some (some (.int (nI (cnt g n rF rF rF q0 r))), h) := by
  have hn := V.1
  have M := rGt_mask (b := rF) (u := rF) (w := rF) V h0 10 (Nat.le_refl _)
  have c := z_loop (S := fun (acc : Nat) i => zE (d + 1) 210 (4, [some (.ref 32), some (.int (nI r)), some (.int (nI acc)), some (.int (nI i))], [], h)) (F := fun j a => if rOv g n rF rF rF q0 10 j = nI r then a + 1 else a) (s0 := 0) (N := n) (fun i hi => by
    show zE (d + 1) 210 (4, [some (.ref 32), some (.int (nI r)), some (.int (nI _)), some (.int (nI i))], [], h) = _
    have hp := isMask_has M (s := i) (by omega)
    obtain ⟨o1, o2⟩ := rOv_eq (b := rF) (u := rF) (w := rF) V h0 10 i
    rw [E210_32_at4, hn6, if_neg (nI_ge hi (by omega)), r_has, zCi_some, h35, zfo, nI_1]
    by_cases q : i < 10 ∧ rG g n rF rF rF q0 i
    · rw [if_pos (hp.mpr q), if_neg (by decide), zG_nI (by omega) (by omega), nI_tn (by omega), h45 i (by omega), rWh_eq V h0, if_pos (rG_C (by omega) q.2), o1 q]
      by_cases z : rR g n rF rF rF q0 i = nI r
      · rw [if_pos z, if_pos z, nI_1]
      · rw [if_neg z, if_neg z, Int32.add_zero]
    · rw [if_neg (fun z => q (hp.mp z)), if_pos rfl, o2 q, if_neg (fun z => enc_9 (a := r) (by omega) z.symm), Int32.add_zero])
  rw [E210_32]
  refine c.trans ?_
  show zE (d + 1) 210 (4, [some (.ref 32), some (.int (nI r)), some (.int (nI _)), some (.int (nI n))], [], h) = _
  rw [E210_32_at4, hn6, if_pos (nI_le (Nat.le_refl _) (by omega))]
  have : cnt g n rF rF rF q0 r = zfo (fun j a => if rOv g n rF rF rF q0 10 j = nI r then a + 1 else a) 0 n := by
    unfold cnt
    refine zfo_stop (N := n) 10 hn (fun i h1 h2 a => ?_)
    obtain ⟨o1, o2⟩ := rOv_eq (b := rF) (u := rF) (w := rF) V h0 10 i
    show (if _ then _ else _) = _
    rw [o2 (fun q => by have := (rG_next V h0 q.2).1; omega), if_neg (fun z => enc_9 (a := r) (by omega) z.symm)]
  rw [this]
end CNT
def fM (c : Nat → Nat) (i : Nat) (acc : Nat × Nat) : Nat × Nat := (if acc.1 < c (i + 1) then c (i + 1) else acc.1, if c (i + 1) < acc.2 then c (i + 1) else acc.2)
theorem fM_le {c : Nat → Nat} (hc : ∀ i, c i ≤ 10) : ∀ i, (zfo (fM c) (c 0, c 0) i).1 ≤ 10 ∧ (zfo (fM c) (c 0, c 0) i).2 ≤ 10 := by
  intro i
  induction i with
  | zero => exact ⟨hc 0, hc 0⟩
  | succ i ih =>
    have := hc (i + 1)
    rw [zfo]
    unfold fM
    constructor
    · show (if _ then _ else _) ≤ 10
      split
      · exact this
      · exact ih.1
    · show (if _ then _ else _) ≤ 10
      split
      · exact this
      · exact ih.2
theorem sim_shares {a : Int32} : zSim 74 209 [.int a] := by
  intro d h R
  obtain ⟨⟨g, n, k, R0⟩, C⟩ := id R
  have V := R0.1.1
  have hn := V.1; have hk := V.2.1
  obtain ⟨h1, e1, I, F, R1, C1, s1⟩ := cls_now (e := d + 3) R0 C
  obtain ⟨h2, e2, J, G⟩ := ref_now (e := d + 5) R1
  rw [s1] at e2 J
  have h22 := I.2.2.2.2.2.2.2.2.1
  obtain ⟨J1, J2, J3, J4, J5, J6, J7, J8, J9, J10, J11, J12, J13, J14, J15⟩ := J
  have R2 := Rel_of R1 C1 G
  have H1 := R1.1.2.1
  have cc := fun (e r : Nat) => c_cnt (d := e) (r := r) h22
  have rc := fun (e r : Nat) (hr : r < 5) => r_cnt (d := e) (r := r) V q_go J1.1 J13 J15 hr
  have cl := fun r => cnt_le (g := g) (n := n) (b := rF) (u := rF) (w := rF) (q0 := rQ0 n k (h 1 7) 0) (r := r)
  generalize hcf : (fun r => cnt g n rF rF rF (rQ0 n k (h 1 7) 0) r) = cf
  have cfd : ∀ r, cnt g n rF rF rF (rQ0 n k (h 1 7) 0) r = cf r := fun r => by rw [← hcf]
  have cfl : ∀ r, cf r ≤ 10 := fun r => by rw [← cfd]; exact cl r
  by_cases am : a = -1
  · subst am
    have z0 : (0 : Int32) = nI 0 := rfl
    by_cases k0 : k = 0
    · subst k0
      refine sim_ok (v := .int 0) (h1 := h1) (h2 := h2) ?_ ?_ R2
      · rw [E74_0, if_pos rfl, e1, zCv_some, if_pos rfl, E75_0, H1.2.1, if_pos (show nI 0 = (0 : Int32) from rfl), zCi_some]
      · rw [E209_32, if_pos rfl, e2, zCi_some, if_pos (by decide), z0, rc (d + 7) 0 (by omega), zCi_some, E209_32_at45, J1.2.1, if_pos (show (1 : Int32) ≥ nI 0 by decide), if_pos (show nI 0 = (0 : Int32) from rfl)]
        rfl
    · have kn : ¬ nI k = 0 := fun q => k0 ((nI_z0 (by omega)).mp q)
      have c1 := z_loop (S := fun (acc : Nat × Nat) i => zE (d + 8) 75 (25, [some (.ref 0), some (.int (nI acc.1)), some (.int (nI acc.2)), some (.int (nI (i + 1)))], [], h1)) (F := fM cf) (s0 := (cf 0, cf 0)) (N := k - 1) (fun i hi => by
        show zE (d + 8) 75 (25, [some (.ref 0), some (.int (nI (zfo (fM cf) (cf 0, cf 0) i).1)), some (.int (nI (zfo (fM cf) (cf 0, cf 0) i).2)), some (.int (nI (i + 1)))], [], h1) = zE (d + 8) 75 (25, [some (.ref 0), some (.int (nI (zfo (fM cf) (cf 0, cf 0) (i + 1)).1)), some (.int (nI (zfo (fM cf) (cf 0, cf 0) (i + 1)).2)), some (.int (nI (i + 1 + 1)))], [], h1)
        obtain ⟨l1, l2⟩ := fM_le cfl i
        have l3 := cfl (i + 1)
        have m3 : ∀ x y : Int32, zcal (d + 8) 3 [.int x, .int y] h1 = some (some (.int (if x < y then y else x)), h1) := fun x y => by rw [zcal, if_pos (Or.inl rfl)]; rfl
        have m35 : ∀ x y : Int32, zcal (d + 8) 35 [.int x, .int y] h1 = some (some (.int (if y < x then y else x)), h1) := fun x y => by rw [zcal, if_pos (Or.inr rfl)]; rfl
        rw [E75_0_at25, H1.2.1, if_neg (nI_ge (by omega) (by omega)), cc (d + 6), zCi_some, cfd, m3, zCi_some, cc (d + 6), zCi_some, cfd, m35, zCi_some, nI_1]
        have st : zfo (fM cf) (cf 0, cf 0) (i + 1) = fM cf i (zfo (fM cf) (cf 0, cf 0) i) := rfl
        have f1 : (fM cf i (zfo (fM cf) (cf 0, cf 0) i)).1 = if (zfo (fM cf) (cf 0, cf 0) i).1 < cf (i + 1) then cf (i + 1) else (zfo (fM cf) (cf 0, cf 0) i).1 := rfl
        have f2 : (fM cf i (zfo (fM cf) (cf 0, cf 0) i)).2 = if cf (i + 1) < (zfo (fM cf) (cf 0, cf 0) i).2 then cf (i + 1) else (zfo (fM cf) (cf 0, cf 0) i).2 := rfl
        have q1 : (if nI (zfo (fM cf) (cf 0, cf 0) i).1 < nI (cf (i + 1)) then nI (cf (i + 1)) else nI (zfo (fM cf) (cf 0, cf 0) i).1) = nI (if (zfo (fM cf) (cf 0, cf 0) i).1 < cf (i + 1) then cf (i + 1) else (zfo (fM cf) (cf 0, cf 0) i).1) := by
          by_cases q : (zfo (fM cf) (cf 0, cf 0) i).1 < cf (i + 1)
          · rw [if_pos q, if_pos ((lt_nI (by omega) (by omega)).mpr q)]
          · rw [if_neg q, if_neg (fun z => q ((lt_nI (by omega) (by omega)).mp z))]
        have q2 : (if nI (cf (i + 1)) < nI (zfo (fM cf) (cf 0, cf 0) i).2 then nI (cf (i + 1)) else nI (zfo (fM cf) (cf 0, cf 0) i).2) = nI (if cf (i + 1) < (zfo (fM cf) (cf 0, cf 0) i).2 then cf (i + 1) else (zfo (fM cf) (cf 0, cf 0) i).2) := by
          by_cases q : cf (i + 1) < (zfo (fM cf) (cf 0, cf 0) i).2
          · rw [if_pos q, if_pos ((lt_nI (by omega) (by omega)).mpr q)]
          · rw [if_neg q, if_neg (fun z => q ((lt_nI (by omega) (by omega)).mp z))]
        rw [q1, q2, st, f1, f2])
      have c2 := z_loop (S := fun (acc : Nat × Nat) i => zE (d + 9) 209 (45, [some (.ref 32), some (.int (-1)), some (.int (nI acc.2)), some (.int (nI acc.1)), some (.int (nI (i + 1)))], [], h2)) (F := fM cf) (s0 := (cf 0, cf 0)) (N := k - 1) (fun i hi => by
        show zE (d + 9) 209 (45, [some (.ref 32), some (.int (-1)), some (.int (nI (zfo (fM cf) (cf 0, cf 0) i).2)), some (.int (nI (zfo (fM cf) (cf 0, cf 0) i).1)), some (.int (nI (i + 1)))], [], h2) = zE (d + 9) 209 (45, [some (.ref 32), some (.int (-1)), some (.int (nI (zfo (fM cf) (cf 0, cf 0) (i + 1)).2)), some (.int (nI (zfo (fM cf) (cf 0, cf 0) (i + 1)).1)), some (.int (nI (i + 1 + 1)))], [], h2)
        obtain ⟨l1, l2⟩ := fM_le cfl i
        have l3 := cfl (i + 1)
        have st : zfo (fM cf) (cf 0, cf 0) (i + 1) = fM cf i (zfo (fM cf) (cf 0, cf 0) i) := rfl
        have f1 : (fM cf i (zfo (fM cf) (cf 0, cf 0) i)).1 = if (zfo (fM cf) (cf 0, cf 0) i).1 < cf (i + 1) then cf (i + 1) else (zfo (fM cf) (cf 0, cf 0) i).1 := rfl
        have f2 : (fM cf i (zfo (fM cf) (cf 0, cf 0) i)).2 = if cf (i + 1) < (zfo (fM cf) (cf 0, cf 0) i).2 then cf (i + 1) else (zfo (fM cf) (cf 0, cf 0) i).2 := rfl
        rw [E209_32_at45, J1.2.1, if_neg (nI_ge (by omega) (by omega)), rc (d + 7) (i + 1) (by omega), zCi_some, cfd, st, f1, f2]
        by_cases q : cf (i + 1) < (zfo (fM cf) (cf 0, cf 0) i).2
        · rw [if_neg (show ¬ nI (cf (i + 1)) ≥ nI (zfo (fM cf) (cf 0, cf 0) i).2 from nI_ge q (by omega)), if_pos q, rc (d + 7) (i + 1) (by omega), zCi_some, rc (d + 7) (i + 1) (by omega), zCi_some, cfd]
          by_cases p : (zfo (fM cf) (cf 0, cf 0) i).1 < cf (i + 1)
          · rw [if_neg (Int32.not_le.mpr (nI_lt p (by omega))), if_pos p, rc (d + 7) (i + 1) (by omega), zCi_some, cfd, nI_1]
          · rw [if_pos (nI_le (by omega) (by omega)), if_neg p, nI_1]
        · rw [if_pos (show nI (cf (i + 1)) ≥ nI (zfo (fM cf) (cf 0, cf 0) i).2 from nI_le (by omega) (by omega)), if_neg q, rc (d + 7) (i + 1) (by omega), zCi_some, cfd]
          by_cases p : (zfo (fM cf) (cf 0, cf 0) i).1 < cf (i + 1)
          · rw [if_neg (Int32.not_le.mpr (nI_lt p (by omega))), if_pos p, rc (d + 7) (i + 1) (by omega), zCi_some, cfd, nI_1]
          · rw [if_pos (nI_le (by omega) (by omega)), if_neg p, nI_1])
      refine sim_ok (v := .int (nI (zfo (fM cf) (cf 0, cf 0) (k - 1)).1 - nI (zfo (fM cf) (cf 0, cf 0) (k - 1)).2)) (h1 := h1) (h2 := h2) ?_ ?_ R2
      · rw [E74_0, if_pos rfl, e1, zCv_some, if_pos rfl, E75_0, H1.2.1, if_neg kn, z0, cc (d + 6), zCi_some, cfd]
        have c1' : zE (d + 8) 75 (25, [some (.ref 0), some (.int (nI (cf 0))), some (.int (nI (cf 0))), some (.int 1)], [], h1) = zE (d + 8) 75 (25, [some (.ref 0), some (.int (nI (zfo (fM cf) (cf 0, cf 0) (k - 1)).1)), some (.int (nI (zfo (fM cf) (cf 0, cf 0) (k - 1)).2)), some (.int (nI (k - 1 + 1)))], [], h1) := c1
        rw [c1', E75_0_at25, H1.2.1, if_pos (nI_le (by omega) (by omega)), zCi_some]
      · have c2' : zE (d + 9) 209 (45, [some (.ref 32), some (.int (-1)), some (.int (nI (cf 0))), some (.int (nI (cf 0))), some (.int 1)], [], h2) = zE (d + 9) 209 (45, [some (.ref 32), some (.int (-1)), some (.int (nI (zfo (fM cf) (cf 0, cf 0) (k - 1)).2)), some (.int (nI (zfo (fM cf) (cf 0, cf 0) (k - 1)).1)), some (.int (nI (k - 1 + 1)))], [], h2) := c2
        rw [E209_32, if_pos rfl, e2, zCi_some, if_pos (by decide), z0, rc (d + 7) 0 (by omega), zCi_some, cfd, c2', E209_32_at45, J1.2.1, if_pos (nI_le (by omega) (by omega)), if_neg kn]
  · by_cases ha : 0 ≤ a ∧ a < nI k
    · obtain ⟨r, hr, rfl⟩ := i_small (by omega) ha
      refine sim_ok (v := .int (nI (cnt g n rF rF rF (rQ0 n k (h 1 7) 0) r))) (h1 := h1) (h2 := h2) ?_ ?_ R2
      · rw [E74_0, if_neg am, c_hasR_1 R0.1.2.1 V, if_pos ha, zCi_some, if_neg (by decide), e1, zCv_some, if_neg am, cc (d + 7), zCi_some]
      · rw [E209_32, if_neg am, r_isR R1.1.2.2.1 V, if_pos ha, zCi_some, if_neg (by decide), e2, zCi_some, if_neg (nI_pos (by omega)), rc (d + 7) r (by omega), zCi_some]
    · refine sim_rf R (c := -1) (j := 0) (by omega) ?_ ?_
      · rw [E74_0, if_neg am, c_hasR_1 R0.1.2.1 V, if_neg ha, zCi_some, if_pos rfl, c_rf1, zCi_some]
      · rw [E209_32, if_neg am, r_isR (Rel0_c R0).1.2.2.1 V, if_neg ha, zCi_some, if_pos rfl, r_no1, zCi_some]

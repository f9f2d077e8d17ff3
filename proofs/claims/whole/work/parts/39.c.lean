/-! WAITING, COUNT -/
def fW (g : zHl) (i : Nat) (acc : Int32) : Int32 := if 0 ≤ g 2 i then acc ||| ((1 : Int32) <<< (g 2 i &&& 31)) else acc
def fZ (c : Nat → Nat) (i : Nat) (acc : Int32) : Int32 := if c i = 0 then acc ||| ((1 : Int32) <<< (nI i &&& 31)) else acc
theorem rLa_fo {g : zHl} {n k : Nat} {b u w : Nat → Bool} {q0 : zQ} (V : zVal g n k) (h0 : rGo n k q0 0) : ∀ i, rLa g n b u w q0 i = zfo (fun i l => if (rJ g n b u w q0 i).2.2.2 = 0 ∧ rU g n b u w q0 i = true then nI i else l) (-9) i := by
  intro i
  induction i with
  | zero => rfl
  | succ i ih =>
    rw [rLa, zfo, ← ih]
    by_cases q : (rJ g n b u w q0 i).2.2.2 = 0 ∧ rU g n b u w q0 i = true
    · rw [if_pos q, if_pos q, (rJ_go V h0 i q.1).1]
    · rw [if_neg q, if_neg q]
theorem g2_nn {g : zHl} {n k : Nat} (V : zVal g n k) {s : Nat} (hs : s < n) : (g 2 s < 0 ↔ ¬ 0 ≤ g 2 s) := Int32.not_le.symm
theorem zfo_fst {α : Type} {F : Nat → Int32 → Int32} {G : Nat → α} {a : Int32} {z : α} : ∀ i, (zfo (fun i (acc : Int32 × α) => (F i acc.1, G i)) (a, z) i).1 = zfo F a i := by
  intro i
  induction i with
  | zero => rfl
  | succ i ih => rw [zfo, zfo, ← ih]
theorem zfo_pr {F G : Nat → Int32 → Int32} {a b : Int32} : ∀ i, zfo (fun i (acc : Int32 × Int32) => (F i acc.1, G i acc.2)) (a, b) i = (zfo F a i, zfo G b i) := by
  intro i
  induction i with
  | zero => rfl
  | succ i ih => rw [zfo, zfo, zfo, ih]
theorem sim_waiting {a : Int32} : zSim 80 221 [.int a] := by
  intro d h R
  obtain ⟨⟨g, n, k, R0⟩, C⟩ := id R
  have V := R0.1.1
  have hn := V.1; have hk := V.2.1
  have H1 := R0.1.2.1
  by_cases in2 : (0 : Int32) ≤ a ∧ a ≤ 2
  · have tail : ∀ (h1 : zH), Rel0 g n k h1 → RelC h1 → h1 1 7 = h 1 7 → ∃ h2, zcal (d + 10) 221 [.ref 32, .int a] h1 = some (some (.int (if a = 0 then zfo (fW g) 0 n else if a = 1 then zfo (fZ (fun r => cnt g n rF rF rF (rQ0 n k (h 1 7) 0) r)) 0 k else rLa g n rF rF rF (rQ0 n k (h 1 7) 0) 10)), h2) ∧ Rel h2 := by
      intro h1 R1 C1 s1
      obtain ⟨h2, e2, J, G⟩ := ref_now (e := d + 5) R1
      rw [s1] at e2 J
      have R2 := Rel_of R1 C1 G
      obtain ⟨J1, J2, J3, J4, J5, J6, J7, J8, J9, J10, J11, J12, J13, J14, J15⟩ := J
      have rc := fun (e r : Nat) (hr : r < 5) => r_cnt (d := e) (r := r) V q_go J1.1 J13 J15 hr
      have M := rGu_mask (b := rF) (u := rF) (w := rF) V (q_go (st := h 1 7)) 10 (Nat.le_refl _)
      refine ⟨h2, ?_, R2⟩
      have c := z_loop (S := fun (acc : Int32 × Int32) i => zE (d + 9) 221 (32, [some (.ref 32), some (.int a), some (.int acc.1), some (.int 0), some (.int acc.2), some (.int (nI i))], [], h2)) (F := fun i acc => (fW g i acc.1, if (rJ g n rF rF rF (rQ0 n k (h 1 7) 0) i).2.2.2 = 0 ∧ rU g n rF rF rF (rQ0 n k (h 1 7) 0) i = true then nI i else acc.2)) (s0 := (0, -9)) (N := n) (fun i hi => by
        show zE (d + 9) 221 (32, [some (.ref 32), some (.int a), some (.int _), some (.int 0), some (.int _), some (.int (nI i))], [], h2) = _
        have hp := isMask_has M (s := i) (by omega)
        rw [E221_32_at32, J1.1, if_neg (nI_ge hi (by omega)), zG_nI (by omega) (by omega), nI_tn (by omega), (J1.2.2.1 i hi).2.2, zfo]
        dsimp only
        unfold fW
        have hp2 : ((h2 32 32 >>> (nI i &&& 31)) &&& 1 = 1) ↔ ((rJ g n rF rF rF (rQ0 n k (h 1 7) 0) i).2.2.2 = 0 ∧ rU g n rF rF rF (rQ0 n k (h 1 7) 0) i = true) := by
          rw [J10]; exact hp.trans ⟨fun q => q.2, fun q => ⟨by omega, q⟩⟩
        by_cases z : 0 ≤ g 2 i
        · rw [if_neg (Int32.not_lt.mpr z), zG_nI (by omega) (by omega), r_has, zCi_some]
          by_cases q : (rJ g n rF rF rF (rQ0 n k (h 1 7) 0) i).2.2.2 = 0 ∧ rU g n rF rF rF (rQ0 n k (h 1 7) 0) i = true
          · rw [if_pos (hp2.mpr q), if_neg (by decide), if_pos z, if_pos q, nI_1]
          · rw [if_neg (fun y => q (hp2.mp y)), if_pos rfl, if_pos z, if_neg q, nI_1]
        · rw [if_pos (Int32.not_le.mp z), r_has, zCi_some]
          by_cases q : (rJ g n rF rF rF (rQ0 n k (h 1 7) 0) i).2.2.2 = 0 ∧ rU g n rF rF rF (rQ0 n k (h 1 7) 0) i = true
          · rw [if_pos (hp2.mpr q), if_neg (by decide), if_neg z, if_pos q, nI_1, Int32.or_zero]
          · rw [if_neg (fun y => q (hp2.mp y)), if_pos rfl, if_neg z, if_neg q, nI_1, Int32.or_zero])
      have hl : rLa g n rF rF rF (rQ0 n k (h 1 7) 0) 10 = zfo (fun i l => if (rJ g n rF rF rF (rQ0 n k (h 1 7) 0) i).2.2.2 = 0 ∧ rU g n rF rF rF (rQ0 n k (h 1 7) 0) i = true then nI i else l) (-9) n := by
        rw [rLa_fo V q_go]
        refine zfo_stop (N := n) 10 hn (fun i h1 h2 a => if_neg (fun q => ?_))
        have := (rJ_go V q_go i q.1).2.1
        omega
      have e32 : zE (d + 9) 221 (32, [some (.ref 32), some (.int a), some (.int 0), some (.int 0), some (.int (-9)), some (.int 0)], [], h2) = zE (d + 9) 221 (97, [some (.ref 32), some (.int a), some (.int (zfo (fW g) 0 n)), some (.int 0), some (.int (rLa g n rF rF rF (rQ0 n k (h 1 7) 0) 10)), some (.int 0)], [], h2) := by
        refine c.trans ?_
        rw [zfo_pr, hl]
        show zE (d + 9) 221 (32, [some (.ref 32), some (.int a), some (.int _), some (.int 0), some (.int _), some (.int (nI n))], [], h2) = _
        rw [E221_32_at32, J1.1, if_pos (nI_le (Nat.le_refl _) (by omega))]
      have c2 := z_loop (S := fun (acc : Int32) i => zE (d + 9) 221 (97, [some (.ref 32), some (.int a), some (.int (zfo (fW g) 0 n)), some (.int acc), some (.int (rLa g n rF rF rF (rQ0 n k (h 1 7) 0) 10)), some (.int (nI i))], [], h2)) (F := fZ (fun r => cnt g n rF rF rF (rQ0 n k (h 1 7) 0) r)) (s0 := 0) (N := k) (fun i hi => by
        show zE (d + 9) 221 (97, [some (.ref 32), some (.int a), some (.int _), some (.int _), some (.int _), some (.int (nI i))], [], h2) = _
        have cl := cnt_le (g := g) (n := n) (b := rF) (u := rF) (w := rF) (q0 := rQ0 n k (h 1 7) 0) (r := i)
        rw [E221_32_at97, J1.2.1, if_neg (nI_ge hi (by omega)), rc (d + 7) i (by omega), zCi_some, zfo]
        unfold fZ
        by_cases q : cnt g n rF rF rF (rQ0 n k (h 1 7) 0) i = 0
        · rw [if_pos ((nI_z0 (by omega)).mpr q), if_pos q, nI_1]
        · rw [if_neg (fun y => q ((nI_z0 (by omega)).mp y)), if_neg q, nI_1, Int32.or_zero])
      rw [E221_32, r_isIn, if_pos in2, zCi_some, if_neg (by decide), e2, zCi_some, e32]
      refine c2.trans ?_
      show zE (d + 9) 221 (97, [some (.ref 32), some (.int a), some (.int _), some (.int _), some (.int _), some (.int (nI k))], [], h2) = _
      rw [E221_32_at97, J1.2.1, if_pos (nI_le (Nat.le_refl _) (by omega))]
      by_cases a0 : a = 0
      · rw [if_pos a0, if_pos a0]
      · rw [if_neg a0, if_neg a0]
        by_cases a1 : a = 1
        · rw [if_pos a1, if_pos a1]
        · rw [if_neg a1, if_neg a1]
    by_cases a0 : a = 0
    · obtain ⟨h2, e2, R2⟩ := tail h R0 C rfl
      rw [if_pos a0] at e2
      have c := z_loop (S := fun (acc : Int32 × Option Value) i => zE (d + 8) 81 (4, [some (.ref 1), some (.int acc.1), some (.int (nI i)), acc.2], [], h)) (F := fun i acc => (fW g i acc.1, some (.int (g 2 i)))) (s0 := (0, none)) (N := n) (fun i hi => by
        show zE (d + 8) 81 (4, [some (.ref 1), some (.int _), some (.int (nI i)), _], [], h) = _
        rw [E81_1_at4, H1.1, if_neg (nI_ge hi (by omega)), c_get (n := 10) rfl (by omega), zCi_some, gt_nI (by omega) (by omega), (H1.2.2.1 i hi).2.2, c_hasW_1 H1 V hi, zCi_some, nI_1, zfo]
        dsimp only
        unfold fW
        by_cases z : 0 ≤ g 2 i
        · rw [if_pos z, if_neg (by decide), if_pos z]
        · rw [if_neg z, if_pos rfl, if_neg z])
      have e81 : zcal (d + 9) 81 [.ref 1] h = some (some (.int (zfo (fW g) 0 n)), h) := by
        rw [E81_1]
        refine c.trans ?_
        show zE (d + 8) 81 (4, [some (.ref 1), some (.int (zfo (fun i (acc : Int32 × Option Value) => (fW g i acc.1, some (.int (g 2 i)))) (0, none) n).1), some (.int (nI n)), _], [], h) = _
        rw [E81_1_at4, H1.1, if_pos (nI_le (Nat.le_refl _) (by omega)), zfo_fst]
      exact sim_ok (by rw [E80_0, if_pos a0, e81, zCi_some]) e2 R2
    · by_cases a1 : a = 1
      · obtain ⟨h1, e1, I, F, R1, C1, s1⟩ := cls_now (e := d + 2) R0 C
        obtain ⟨h2, e2, R2⟩ := tail h1 R1 C1 s1
        rw [if_neg a0, if_pos a1] at e2
        have h22 := I.2.2.2.2.2.2.2.2.1
        have cc := fun (e r : Nat) => c_cnt (d := e) (r := r) h22
        have c := z_loop (S := fun (acc : Int32) i => zE (d + 8) 82 (8, [some (.ref 0), some (.int acc), some (.int (nI i))], [], h1)) (F := fZ (fun r => cnt g n rF rF rF (rQ0 n k (h 1 7) 0) r)) (s0 := 0) (N := k) (fun i hi => by
          show zE (d + 8) 82 (8, [some (.ref 0), some (.int _), some (.int (nI i))], [], h1) = _
          have cl := cnt_le (g := g) (n := n) (b := rF) (u := rF) (w := rF) (q0 := rQ0 n k (h 1 7) 0) (r := i)
          rw [E82_0_at8, R1.1.2.1.2.1, if_neg (nI_ge hi (by omega)), cc (d + 6), zCi_some, zfo]
          unfold fZ
          by_cases q : cnt g n rF rF rF (rQ0 n k (h 1 7) 0) i = 0
          · rw [if_pos ((nI_z0 (by omega)).mpr q), if_pos q, nI_1]
          · rw [if_neg (fun y => q ((nI_z0 (by omega)).mp y)), if_neg q, nI_1])
        have e82 : zcal (d + 9) 82 [.ref 0] h = some (some (.int (zfo (fZ (fun r => cnt g n rF rF rF (rQ0 n k (h 1 7) 0) r)) 0 k)), h1) := by
          rw [E82_0, e1, zCv_some]
          refine c.trans ?_
          show zE (d + 8) 82 (8, [some (.ref 0), some (.int _), some (.int (nI k))], [], h1) = _
          rw [E82_0_at8, R1.1.2.1.2.1, if_pos (nI_le (Nat.le_refl _) (by omega))]
        exact sim_ok (by rw [E80_0, if_neg a0, if_pos a1, e82, zCi_some]) e2 R2
      · have a2 : a = 2 := by
          obtain ⟨x, hx, rfl⟩ := nI_num (m := 2) (by omega) in2.1 in2.2
          have : x = 0 ∨ x = 1 ∨ x = 2 := by omega
          rcases this with rfl | rfl | rfl
          · exact absurd rfl a0
          · exact absurd rfl a1
          · rfl
        obtain ⟨h1, e1, I, F, R1, C1, s1⟩ := cls_now (e := d + 3) R0 C
        obtain ⟨h2, e2, R2⟩ := tail h1 R1 C1 s1
        rw [if_neg a0, if_neg a1] at e2
        have i7 := I.2.2.2.2.2.2.2.2.2.2.2.2.2
        exact sim_ok (by rw [E80_0, if_neg a0, if_neg a1, if_pos a2, e1, zCv_some, i7]) e2 R2
  · have n0 : ¬ a = 0 := fun q => in2 (by rw [q]; decide)
    have n1 : ¬ a = 1 := fun q => in2 (by rw [q]; decide)
    have n2 : ¬ a = 2 := fun q => in2 (by rw [q]; decide)
    refine sim_rf R (c := -2) (j := 1) (by omega) ?_ ?_
    · rw [E80_0, if_neg n0, if_neg n1, if_neg n2, c_rf2, zCi_some]
    · rw [E221_32, r_isIn, if_neg in2, zCi_some, if_pos rfl, r_no2, zCi_some]

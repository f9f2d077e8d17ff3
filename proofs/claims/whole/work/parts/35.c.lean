/-! THE BEST OF THEM -/
def enc : Option Nat → Int32
  | none => -9
  | some a => nI a
def fK (kp : Nat → Nat → Bool) (i : Nat) (acc : Option Nat) : Option Nat := match acc with
  | none => some i
  | some a => if kp i a = true then some a else some i
theorem fK_lt {kp : Nat → Nat → Bool} : ∀ i a, zfo (fK kp) none i = some a → a < i := by
  intro i
  induction i with
  | zero => intro a h; cases h
  | succ i ih =>
    intro a h
    rw [zfo] at h
    unfold fK at h
    split at h
    · injection h with h; omega
    · rename_i a' e
      have := ih a' e
      split at h <;> (injection h with h; omega)
theorem zfo_stop {σ : Type} {F : Nat → σ → σ} {s : σ} {N : Nat} : ∀ M, N ≤ M → (∀ i, N ≤ i → i < M → ∀ a, F i a = a) → zfo F s M = zfo F s N := by
  intro M
  induction M with
  | zero => intro h _; rw [show N = 0 by omega]
  | succ M ih =>
    intro h hs
    rcases Nat.lt_or_ge M N with q | q
    · rw [show N = M + 1 by omega]
    · rw [zfo, hs M q (by omega), ih q (fun i h1 h2 a => hs i h1 (by omega) a)]
theorem enc_9 {a : Nat} (h : a < 100) : ¬ nI a = -9 := fun q => by
  have := congrArg Int32.toInt q
  rw [nI_toInt (by omega)] at this
  have t9 : (-9 : Int32).toInt = -9 := by decide
  omega
theorem sim_fastest {a : Int32} : zSim 68 179 [.int a] := by
  intro d h R
  obtain ⟨⟨g, n, k, R0⟩, C⟩ := id R
  have V := R0.1.1; have H1 := R0.1.2.1
  have hn := V.1
  have hst := R0.1.2.2.2.1.1
  by_cases ok : a = 0 ∨ a = 1
  · obtain ⟨h1, e1, I, F, R1, C1, s1⟩ := cls_now (e := d + 3) R0 C
    obtain ⟨h2, e2, J, G⟩ := ref_now (e := d + 5) R1
    rw [s1] at e2 J
    obtain ⟨I1, I2, I3, I4, I5, I6, I7, I8, I9, I10, I11, I12, I13, I14⟩ := I
    obtain ⟨J1, J2, J3, J4, J5, J6, J7, J8, J9, J10, J11, J12, J13, J14, J15⟩ := J
    have R2 := Rel_of R1 C1 G
    have hin := fun i => st_in (b := rF) (u := rF) (w := rF) (st := h 1 7) V f0 hst i
    generalize hq : rQ0 n k (h 1 7) 0 = q0 at *
    have go : rGo n k q0 0 := by rw [← hq]; exact q_go
    have hc10 := rC_le (g := g) (n := n) (b := rF) (u := rF) (w := rF) (q0 := q0) 10
    have hcn := rC_len (b := rF) (u := rF) (w := rF) V go 10
    generalize hN : rC g n rF rF rF q0 10 = N at *
    have sp0 : ∀ j, j < N → h1 20 j = (rJ g n rF rF rF q0 j).2.1 := fun j hj => by rw [I7 j (by omega), rSp_eq V go, hN, if_pos hj]
    have sp9 : ∀ j, j < N → h2 44 j = (rJ g n rF rF rF q0 j).2.1 := fun j hj => by rw [J14 j (by omega), rSp_eq V go, hN, if_pos hj]
    have spn : ∀ j, N ≤ j → j < n → h2 44 j = -9 := fun j hj hj2 => by rw [J14 j (by omega), rSp_eq V go, hN, if_neg (by omega)]
    generalize hkp : (fun i a => decide ((rJ g n rF rF rF q0 i).2.1 ≤ (rJ g n rF rF rF q0 a).2.1)) = kp
    have kpd : ∀ i a, kp i a = decide ((rJ g n rF rF rF q0 i).2.1 ≤ (rJ g n rF rF rF q0 a).2.1) := fun i a => by rw [← hkp]
    have c1 := z_loop (S := fun acc i => zE (d + 8) 69 (5, [some (.ref 19), some (.int (enc acc)), some (.int (nI i))], [], h1)) (F := fK kp) (s0 := none) (N := N) (fun i hi => by
      show zE (d + 8) 69 (5, [some (.ref 19), some (.int (enc (zfo (fK kp) none i))), some (.int (nI i))], [], h1) = zE (d + 8) 69 (5, [some (.ref 19), some (.int (enc (zfo (fK kp) none (i + 1)))), some (.int (nI (i + 1)))], [], h1)
      have lt := fK_lt (kp := kp) i
      rw [E69_19_at5, I10, rCa_eq V go, hN, if_neg (nI_ge hi (by omega)), zfo]
      cases hz : zfo (fK kp) none i with
      | none => rw [show enc none = -9 from rfl, if_pos rfl, nI_1]; rfl
      | some x =>
        have hx := lt x hz
        rw [show enc (some x) = nI x from rfl, if_neg (enc_9 (by omega)), c_get (n := 10) rfl (by omega), zCi_some, gt_nI (by omega) (by omega), c_get (n := 10) rfl (by omega), zCi_some, gt_nI (by omega) (by omega), sp0 i hi, sp0 x (by omega), nI_1]
        unfold fK
        dsimp only
        rw [kpd]
        by_cases z : (rJ g n rF rF rF q0 i).2.1 ≤ (rJ g n rF rF rF q0 x).2.1
        · rw [if_pos z, if_pos (decide_eq_true z)]; rfl
        · rw [if_neg z, if_neg (fun q => z (of_decide_eq_true q))]; rfl)
    have c2 := z_loop (S := fun acc i => zE (d + 9) 179 (26, [some (.ref 32), some (.int a), some (.int (enc acc)), some (.int (nI i))], [], h2)) (F := fun i acc => if N ≤ i then acc else fK kp i acc) (s0 := none) (N := n) (fun i hi => by
      show zE (d + 9) 179 (26, [some (.ref 32), some (.int a), some (.int (enc (zfo _ none i))), some (.int (nI i))], [], h2) = zE (d + 9) 179 (26, [some (.ref 32), some (.int a), some (.int (enc (zfo _ none (i + 1)))), some (.int (nI (i + 1)))], [], h2)
      rw [E179_32_at26, J1.1, if_neg (nI_ge hi (by omega)), zG_nI (by omega) (by omega), nI_tn (by omega), zfo]
      by_cases hiN : N ≤ i
      · rw [if_pos hiN, spn i hiN hi, if_pos (show (-9 : Int32) < 0 by decide), nI_1]
      · have e0 : zfo (fun i acc => if N ≤ i then acc else fK kp i acc) none i = zfo (fK kp) none i := zfo_eq (N := i) (fun j hj => by show (if N ≤ j then _ else _) = _; rw [if_neg (by omega)]) i (Nat.le_refl _)
        have lt := fK_lt (kp := kp) i
        rw [if_neg hiN, e0, sp9 i (by omega), if_neg (sp_ge0 (hin i))]
        cases hz : zfo (fK kp) none i with
        | none => rw [show enc none = -9 from rfl, if_pos (show (-9 : Int32) < 0 by decide), nI_1]; rfl
        | some x =>
          have hx := lt x hz
          rw [show enc (some x) = nI x from rfl, if_neg (nI_pos (by omega)), zG_nI (by omega) (by omega), zG_nI (by omega) (by omega), nI_tn (by omega), sp9 x (by omega), nI_1]
          unfold fK
          dsimp only
          rw [kpd]
          by_cases z : (rJ g n rF rF rF q0 i).2.1 ≤ (rJ g n rF rF rF q0 x).2.1
          · rw [if_pos z, if_pos (decide_eq_true z)]; rfl
          · rw [if_neg z, if_neg (fun q => z (of_decide_eq_true q))]; rfl)
    have e3 : zfo (fun i acc => if N ≤ i then acc else fK kp i acc) none n = zfo (fK kp) none N := by
      rw [zfo_stop (N := N) n hcn (fun i h1 h2 a => by show (if N ≤ i then _ else _) = _; rw [if_pos h1])]
      exact zfo_eq (N := N) (fun j hj => by show (if N ≤ j then _ else _) = _; rw [if_neg (by omega)]) N (Nat.le_refl _)
    rw [e3] at c2
    have e69 : zcal (d + 9) 69 [.ref 19] h1 = some (some (.int (enc (zfo (fK kp) none N))), h1) := by
      rw [E69_19]
      refine c1.trans ?_
      show zE (d + 8) 69 (5, [some (.ref 19), some (.int (enc _)), some (.int (nI N))], [], h1) = _
      rw [E69_19_at5, I10, rCa_eq V go, hN, if_pos (nI_le (Nat.le_refl _) (by omega))]
    have ltN := fK_lt (kp := kp) N
    have e179 : zcal (d + 10) 179 [.ref 32, .int a] h1 = zE (d + 9) 179 (26, [some (.ref 32), some (.int a), some (.int (enc (zfo (fK kp) none N))), some (.int (nI n))], [], h2) := by
      have : (0 : Int32) ≤ a ∧ a ≤ 1 := by rcases ok with rfl | rfl <;> decide
      rw [E179_32, r_isIn, if_pos this, zCi_some, if_neg (by decide), e2, zCi_some]
      exact c2
    rw [E179_32_at26, J1.1, if_pos (nI_le (Nat.le_refl _) (by omega))] at e179
    rcases ok with rfl | rfl
    · rw [if_neg (by decide)] at e179
      have ec : zcal (d + 10) 68 [.ref 0, .int 0] h = (if enc (zfo (fK kp) none N) = -9 then some (some (.int (enc (zfo (fK kp) none N))), h1) else zCi (zcal (d + 9) 6 [.ref 20, .int (enc (zfo (fK kp) none N))] h1) (fun v5 h4 => some (some (.int v5), h4))) := by
        rw [E68_0, if_pos rfl, e1, zCv_some, e69, zCi_some, if_neg (by decide)]
      cases hz : zfo (fK kp) none N with
      | none =>
        rw [hz, show enc none = -9 from rfl] at ec e179
        rw [if_pos rfl] at ec
        rw [if_neg (show ¬ (-9 : Int32) ≥ 0 by decide)] at e179
        exact sim_ok ec e179 R2
      | some x =>
        have hx := ltN x hz
        rw [hz, show enc (some x) = nI x from rfl] at ec e179
        rw [if_neg (enc_9 (by omega)), c_get (n := 10) rfl (by omega), zCi_some, gt_nI (by omega) (by omega), sp0 x hx] at ec
        rw [if_pos (show nI x ≥ 0 from nI_pos' (by omega)), zG_nI (by omega) (by omega), nI_tn (by omega), sp9 x hx] at e179
        exact sim_ok ec e179 R2
    · rw [if_pos rfl] at e179
      exact sim_ok (by rw [E68_0, if_neg (by decide), if_pos rfl, e1, zCv_some, e69, zCi_some, if_pos rfl]) e179 R2
  · have n0 : ¬ a = 0 := fun q => ok (Or.inl q)
    have n1 : ¬ a = 1 := fun q => ok (Or.inr q)
    have nn : ¬ ((0 : Int32) ≤ a ∧ a ≤ 1) := fun q => by
      obtain ⟨x, hx, rfl⟩ := nI_num (m := 1) (by omega) q.1 q.2
      have : x = 0 ∨ x = 1 := by omega
      rcases this with rfl | rfl
      · exact n0 rfl
      · exact n1 rfl
    refine sim_rf R (c := -2) (j := 1) (by omega) ?_ ?_
    · rw [E68_0, if_neg n0, if_neg n1, c_rf2, zCi_some]
    · rw [E179_32, r_isIn, if_neg nn, zCi_some, if_pos rfl, r_no2, zCi_some]
/-! BENDS, THE LIGHTEST -/
theorem sim_bends : zSim 90 212 [] := by
  intro d h R
  obtain ⟨⟨g, n, k, R0⟩, C⟩ := id R
  have V := R0.1.1; have H1 := R0.1.2.1; have H2 := R0.1.2.2.1
  have hn := V.1
  have c1 := z_loop (S := fun (acc : Int32 × Option Value) i => zE (d + 9) 90 (4, [some (.ref 0), some (.int acc.1), some (.int (nI i)), acc.2], [], h)) (F := fun i acc => (if g 0 i = 1 then acc.1 + 1 else if g 0 i = 3 then acc.1 + 1 else acc.1, some (.int (g 0 i)))) (s0 := (0, none)) (N := n) (fun i hi => by
    show zE (d + 9) 90 (4, [some (.ref 0), some (.int _), some (.int (nI i)), _], [], h) = _
    rw [E90_0_at4, H1.1, if_neg (nI_ge hi (by omega)), c_get (n := 10) rfl (by omega), zCi_some, gt_nI (by omega) (by omega), (H1.2.2.1 i hi).1, nI_1, zfo]
    dsimp only
    by_cases k1 : g 0 i = 1
    · rw [if_pos k1, if_pos k1]
    · rw [if_neg k1, if_neg k1]
      by_cases k3 : g 0 i = 3
      · rw [if_pos k3, if_pos k3]
      · rw [if_neg k3, if_neg k3])
  have c2 := z_loop (S := fun (acc : Int32) i => zE (d + 9) 212 (4, [some (.ref 32), some (.int acc), some (.int (nI i))], [], h)) (F := fun i acc => if g 0 i = 1 then acc + 1 else if g 0 i = 3 then acc + 1 else acc) (s0 := 0) (N := n) (fun i hi => by
    show zE (d + 9) 212 (4, [some (.ref 32), some (.int _), some (.int (nI i))], [], h) = _
    rw [E212_32_at4, H2.1, if_neg (nI_ge hi (by omega)), zG_nI (by omega) (by omega), nI_tn (by omega), (H2.2.2.1 i hi).1, nI_1, zfo]
    by_cases k1 : g 0 i = 1
    · rw [if_pos k1, if_pos k1]
    · rw [if_neg k1, if_neg k1, zG_nI (by omega) (by omega)]
      by_cases k3 : g 0 i = 3
      · rw [if_pos k3, if_pos k3]
      · rw [if_neg k3, if_neg k3, Int32.add_zero])
  have e : ∀ i, (zfo (fun i (acc : Int32 × Option Value) => (if g 0 i = 1 then acc.1 + 1 else if g 0 i = 3 then acc.1 + 1 else acc.1, some (.int (g 0 i)))) (0, none) i).1 = zfo (fun i (acc : Int32) => if g 0 i = 1 then acc + 1 else if g 0 i = 3 then acc + 1 else acc) 0 i := by
    intro i
    induction i with
    | zero => rfl
    | succ i ih => rw [zfo, zfo, ← ih]
  refine sim_ok (v := .int (zfo (fun i (acc : Int32) => if g 0 i = 1 then acc + 1 else if g 0 i = 3 then acc + 1 else acc) 0 n)) (h1 := h) (h2 := h) ?_ ?_ R
  · rw [E90_0]
    refine c1.trans ?_
    show zE (d + 9) 90 (4, [some (.ref 0), some (.int _), some (.int (nI n)), _], [], h) = _
    rw [E90_0_at4, H1.1, if_pos (nI_le (Nat.le_refl _) (by omega)), e]
  · rw [E212_32]
    refine c2.trans ?_
    show zE (d + 9) 212 (4, [some (.ref 32), some (.int _), some (.int (nI n))], [], h) = _
    rw [E212_32_at4, H2.1, if_pos (nI_le (Nat.le_refl _) (by omega))]
theorem sim_lightest {a : Int32} : zSim 87 211 [.int a] := by
  intro d h R
  obtain ⟨⟨g, n, k, R0⟩, C⟩ := id R
  have V := R0.1.1; have H1 := R0.1.2.1; have H2 := R0.1.2.2.1
  have hk := V.2.1
  by_cases ok : a = 0 ∨ a = 1
  · have in1 : (0 : Int32) ≤ a ∧ a ≤ 1 := by rcases ok with rfl | rfl <;> decide
    rcases ok with rfl | rfl
    · generalize hkp : (fun i x => decide (g 3 i ≥ g 3 x)) = kp
      have kpd : ∀ i x, kp i x = decide (g 3 i ≥ g 3 x) := fun i x => by rw [← hkp]
      have c1 := z_loop (S := fun acc i => zE (d + 8) 88 (5, [some (.ref 1), some (.int (enc acc)), some (.int (nI i))], [], h)) (F := fK kp) (s0 := none) (N := k) (fun i hi => by
        show zE (d + 8) 88 (5, [some (.ref 1), some (.int (enc (zfo (fK kp) none i))), some (.int (nI i))], [], h) = zE (d + 8) 88 (5, [some (.ref 1), some (.int (enc (zfo (fK kp) none (i + 1)))), some (.int (nI (i + 1)))], [], h)
        have lt := fK_lt (kp := kp) i
        rw [E88_1_at5, H1.2.1, if_neg (nI_ge hi (by omega)), zfo]
        cases hz : zfo (fK kp) none i with
        | none => rw [show enc none = -9 from rfl, if_pos rfl, nI_1]; rfl
        | some x =>
          have hx := lt x hz
          rw [show enc (some x) = nI x from rfl, if_neg (enc_9 (by omega)), c_get (n := 5) rfl (by omega), zCi_some, gt_nI (by omega) (by omega), c_get (n := 5) rfl (by omega), zCi_some, gt_nI (by omega) (by omega), (H1.2.2.2 i hi).1, (H1.2.2.2 x (by omega)).1, nI_1]
          unfold fK
          dsimp only
          rw [kpd]
          by_cases z : g 3 i ≥ g 3 x
          · rw [if_pos z, if_pos (decide_eq_true z)]; rfl
          · rw [if_neg z, if_neg (fun q => z (of_decide_eq_true q))]; rfl)
      have c2 := z_loop (S := fun acc i => zE (d + 9) 211 (21, [some (.ref 32), some (.int 0), some (.int (enc acc)), some (.int (nI i))], [], h)) (F := fK kp) (s0 := none) (N := k) (fun i hi => by
        show zE (d + 9) 211 (21, [some (.ref 32), some (.int 0), some (.int (enc (zfo (fK kp) none i))), some (.int (nI i))], [], h) = zE (d + 9) 211 (21, [some (.ref 32), some (.int 0), some (.int (enc (zfo (fK kp) none (i + 1)))), some (.int (nI (i + 1)))], [], h)
        have lt := fK_lt (kp := kp) i
        rw [E211_32_at21, H2.2.1, if_neg (nI_ge hi (by omega)), zfo]
        cases hz : zfo (fK kp) none i with
        | none => rw [show enc none = -9 from rfl, if_pos (show (-9 : Int32) < 0 by decide), nI_1]; rfl
        | some x =>
          have hx := lt x hz
          rw [show enc (some x) = nI x from rfl, if_neg (nI_pos (by omega)), if_pos rfl, zG_nI (by omega) (by omega), zG_nI (by omega) (by omega), nI_tn (by omega), nI_tn (by omega), (H2.2.2.2 i hi).1, (H2.2.2.2 x (by omega)).1, nI_1]
          unfold fK
          dsimp only
          rw [kpd]
          by_cases z : g 3 i ≥ g 3 x
          · rw [if_pos z, if_pos (decide_eq_true z)]; rfl
          · rw [if_neg z, if_neg (fun q => z (of_decide_eq_true q))]; rfl)
      refine sim_ok (v := .int (enc (zfo (fK kp) none k))) (h1 := h) (h2 := h) ?_ ?_ R
      · have e88 : zcal (d + 9) 88 [.ref 1] h = some (some (.int (enc (zfo (fK kp) none k))), h) := by
          rw [E88_1]
          refine c1.trans ?_
          show zE (d + 8) 88 (5, [some (.ref 1), some (.int (enc _)), some (.int (nI k))], [], h) = _
          rw [E88_1_at5, H1.2.1, if_pos (nI_le (Nat.le_refl _) (by omega))]
        rw [E87_0, if_pos rfl, e88, zCi_some]
      · rw [E211_32, r_isIn, if_pos in1, zCi_some, if_neg (by decide)]
        refine c2.trans ?_
        show zE (d + 9) 211 (21, [some (.ref 32), some (.int 0), some (.int (enc _)), some (.int (nI k))], [], h) = _
        rw [E211_32_at21, H2.2.1, if_pos (nI_le (Nat.le_refl _) (by omega))]
    · generalize hkp : (fun i x => decide (g 4 i ≤ g 4 x)) = kp
      have kpd : ∀ i x, kp i x = decide (g 4 i ≤ g 4 x) := fun i x => by rw [← hkp]
      have c1 := z_loop (S := fun acc i => zE (d + 8) 89 (5, [some (.ref 1), some (.int (enc acc)), some (.int (nI i))], [], h)) (F := fK kp) (s0 := none) (N := k) (fun i hi => by
        show zE (d + 8) 89 (5, [some (.ref 1), some (.int (enc (zfo (fK kp) none i))), some (.int (nI i))], [], h) = zE (d + 8) 89 (5, [some (.ref 1), some (.int (enc (zfo (fK kp) none (i + 1)))), some (.int (nI (i + 1)))], [], h)
        have lt := fK_lt (kp := kp) i
        rw [E89_1_at5, H1.2.1, if_neg (nI_ge hi (by omega)), zfo]
        cases hz : zfo (fK kp) none i with
        | none => rw [show enc none = -9 from rfl, if_pos rfl, nI_1]; rfl
        | some x =>
          have hx := lt x hz
          rw [show enc (some x) = nI x from rfl, if_neg (enc_9 (by omega)), c_get (n := 5) rfl (by omega), zCi_some, gt_nI (by omega) (by omega), c_get (n := 5) rfl (by omega), zCi_some, gt_nI (by omega) (by omega), (H1.2.2.2 i hi).2, (H1.2.2.2 x (by omega)).2, nI_1]
          unfold fK
          dsimp only
          rw [kpd]
          by_cases z : g 4 i ≤ g 4 x
          · rw [if_pos z, if_pos (decide_eq_true z)]; rfl
          · rw [if_neg z, if_neg (fun q => z (of_decide_eq_true q))]; rfl)
      have c2 := z_loop (S := fun acc i => zE (d + 9) 211 (21, [some (.ref 32), some (.int 1), some (.int (enc acc)), some (.int (nI i))], [], h)) (F := fK kp) (s0 := none) (N := k) (fun i hi => by
        show zE (d + 9) 211 (21, [some (.ref 32), some (.int 1), some (.int (enc (zfo (fK kp) none i))), some (.int (nI i))], [], h) = zE (d + 9) 211 (21, [some (.ref 32), some (.int 1), some (.int (enc (zfo (fK kp) none (i + 1)))), some (.int (nI (i + 1)))], [], h)
        have lt := fK_lt (kp := kp) i
        rw [E211_32_at21, H2.2.1, if_neg (nI_ge hi (by omega)), zfo]
        cases hz : zfo (fK kp) none i with
        | none => rw [show enc none = -9 from rfl, if_pos (show (-9 : Int32) < 0 by decide), nI_1]; rfl
        | some x =>
          have hx := lt x hz
          rw [show enc (some x) = nI x from rfl, if_neg (nI_pos (by omega)), if_neg (by decide), zG_nI (by omega) (by omega), zG_nI (by omega) (by omega), nI_tn (by omega), nI_tn (by omega), (H2.2.2.2 i hi).2, (H2.2.2.2 x (by omega)).2, nI_1]
          unfold fK
          dsimp only
          rw [kpd]
          by_cases z : g 4 i ≤ g 4 x
          · rw [if_pos z, if_pos (decide_eq_true z)]; rfl
          · rw [if_neg z, if_neg (fun q => z (of_decide_eq_true q))]; rfl)
      refine sim_ok (v := .int (enc (zfo (fK kp) none k))) (h1 := h) (h2 := h) ?_ ?_ R
      · have e88 : zcal (d + 9) 89 [.ref 1] h = some (some (.int (enc (zfo (fK kp) none k))), h) := by
          rw [E89_1]
          refine c1.trans ?_
          show zE (d + 8) 89 (5, [some (.ref 1), some (.int (enc _)), some (.int (nI k))], [], h) = _
          rw [E89_1_at5, H1.2.1, if_pos (nI_le (Nat.le_refl _) (by omega))]
        rw [E87_0, if_neg (by decide), if_pos rfl, e88, zCi_some]
      · rw [E211_32, r_isIn, if_pos in1, zCi_some, if_neg (by decide)]
        refine c2.trans ?_
        show zE (d + 9) 211 (21, [some (.ref 32), some (.int 1), some (.int (enc _)), some (.int (nI k))], [], h) = _
        rw [E211_32_at21, H2.2.1, if_pos (nI_le (Nat.le_refl _) (by omega))]
  · have n0 : ¬ a = 0 := fun q => ok (Or.inl q)
    have n1 : ¬ a = 1 := fun q => ok (Or.inr q)
    have nn : ¬ ((0 : Int32) ≤ a ∧ a ≤ 1) := fun q => by
      obtain ⟨x, hx, rfl⟩ := nI_num (m := 1) (by omega) q.1 q.2
      have : x = 0 ∨ x = 1 := by omega
      rcases this with rfl | rfl
      · exact n0 rfl
      · exact n1 rfl
    refine sim_rf R (c := -2) (j := 1) (by omega) ?_ ?_
    · rw [E87_0, if_neg n0, if_neg n1, c_rf2, zCi_some]
    · rw [E211_32, r_isIn, if_neg nn, zCi_some, if_pos rfl, r_no2, zCi_some]

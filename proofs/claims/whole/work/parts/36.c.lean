/-! SMITHY -/
section SMI
variable {A : Type}
theorem zsr_val {P : Nat → Bool} : ∀ m i, ∃ v : Int32, ∀ H : zH, zsr P (fun i => some (some (.int (nI i)), H)) (some (some (.int (-9)), H)) m i = (some (some (.int v), H) : Option zE0) := by
  intro m
  induction m with
  | zero => intro i; exact ⟨-9, fun H => rfl⟩
  | succ m ih =>
    intro i
    by_cases z : P i = true
    · exact ⟨nI i, fun H => by rw [zsr, if_pos z]⟩
    · obtain ⟨v, hv⟩ := ih (i + 1)
      exact ⟨v, fun H => by rw [zsr, if_neg z, hv H]⟩
end SMI
theorem ov_iff {g : zHl} {n k : Nat} {b u w : Nat → Bool} {q0 : zQ} (V : zVal g n k) (h0 : rGo n k q0 0) {s : Nat} (hs : s < 10) : (rOv g n b u w q0 10 s ≠ -9 ↔ s < 10 ∧ rG g n b u w q0 s) := by
  obtain ⟨o1, o2⟩ := rOv_eq (b := b) (u := u) (w := w) V h0 10 s
  constructor
  · intro h
    by_cases q : s < 10 ∧ rG g n b u w q0 s
    · exact q
    · exact absurd (o2 q) h
  · intro q
    rw [o1 q]
    obtain ⟨x, hx, ex⟩ := rR_rid V h0 (rG_C q.1 q.2)
    have := V.2.1
    rw [ex]
    exact enc_9 (by omega)
theorem sim_smithy : zSim 71 181 [] := by
  intro d h R
  obtain ⟨⟨g, n, k, R0⟩, C⟩ := id R
  have V := R0.1.1
  have hn := V.1
  obtain ⟨h1, e1, I, F, R1, C1, s1⟩ := cls_now (e := d + 3) R0 C
  obtain ⟨h2, e2, J, G⟩ := ref_now (e := d + 5) R1
  rw [s1] at e2 J
  obtain ⟨I1, I2, I3, I4, I5, I6, I7, I8, I9, I10, I11, I12, I13, I14⟩ := I
  obtain ⟨J1, J2, J3, J4, J5, J6, J7, J8, J9, J10, J11, J12, J13, J14, J15⟩ := J
  have R2 := Rel_of R1 C1 G
  have H1 := R1.1.2.1
  have M := rGt_mask (b := rF) (u := rF) (w := rF) V (q_go (st := h 1 7)) 10 (Nat.le_refl _)
  have oi : ∀ s, s < 10 → (rOv g n rF rF rF (rQ0 n k (h 1 7) 0) 10 s ≠ -9 ↔ s < 10 ∧ rG g n rF rF rF (rQ0 n k (h 1 7) 0) s) := fun s hs => ov_iff V q_go hs
  generalize hP : (fun i => decide (g 0 i = 3) && decide (rOv g n rF rF rF (rQ0 n k (h 1 7) 0) 10 i ≠ -9)) = P
  have Pd : ∀ i, P i = (decide (g 0 i = 3) && decide (rOv g n rF rF rF (rQ0 n k (h 1 7) 0) 10 i ≠ -9)) := fun i => by rw [← hP]
  have c1 := z_srch (A := Option zE0) (S := fun i => zE (d + 9) 71 (6, [some (.ref 0), some (.int (nI i))], [], h1)) (P := P) (f := fun i => some (some (.int (nI i)), h1)) (b := some (some (.int (-9)), h1)) (N := n) (fun i hi => by
    show zE (d + 9) 71 (6, [some (.ref 0), some (.int (nI i))], [], h1) = _
    rw [E71_0_at6, H1.1, if_neg (nI_ge hi (by omega)), c_get (n := 10) rfl (by omega), zCi_some, gt_nI (by omega) (by omega), (H1.2.2.1 i hi).1, Pd]
    by_cases z : g 0 i = 3
    · rw [if_pos z, E72_19, if_neg (nI_pos (by omega)), if_neg (nge10 (by omega)), c_get (n := 10) rfl (by omega), zCi_some, gt_nI (by omega) (by omega), I9 i (by omega), zCi_some, decide_eq_true z, Bool.true_and]
      by_cases q : rOv g n rF rF rF (rQ0 n k (h 1 7) 0) 10 i = -9
      · rw [if_pos q, if_neg (fun y => (of_decide_eq_true y) q), nI_1]
      · rw [if_neg q, if_pos (decide_eq_true q)]
    · rw [if_neg z, decide_eq_false z, Bool.false_and, if_neg (by decide), nI_1]) (by
    show zE (d + 9) 71 (6, [some (.ref 0), some (.int (nI n))], [], h1) = _
    rw [E71_0_at6, H1.1, if_pos (nI_le (Nat.le_refl _) (by omega))]) n 0 (by omega)
  have c2 := z_srch (A := Option zE0) (S := fun i => zE (d + 9) 181 (7, [some (.ref 32), some (.int (nI i))], [], h2)) (P := P) (f := fun i => some (some (.int (nI i)), h2)) (b := some (some (.int (-9)), h2)) (N := n) (fun i hi => by
    show zE (d + 9) 181 (7, [some (.ref 32), some (.int (nI i))], [], h2) = _
    have hp := isMask_has M (s := i) (by omega)
    rw [E181_32_at7, J1.1, if_neg (nI_ge hi (by omega)), r_has, zCi_some, J13, Pd]
    by_cases q : i < 10 ∧ rG g n rF rF rF (rQ0 n k (h 1 7) 0) i
    · rw [if_pos (hp.mpr q), if_neg (by decide), zG_nI (by omega) (by omega), nI_tn (by omega), (J1.2.2.1 i hi).1, decide_eq_true ((oi i (by omega)).mpr q), Bool.and_true]
      by_cases z : g 0 i = 3
      · rw [if_pos z, if_pos (decide_eq_true z)]
      · rw [if_neg z, if_neg (fun y => z (of_decide_eq_true y)), nI_1]
    · rw [if_neg (fun z => q (hp.mp z)), if_pos rfl, decide_eq_false (fun y => q ((oi i (by omega)).mp y)), Bool.and_false, if_neg (by decide), nI_1]) (by
    show zE (d + 9) 181 (7, [some (.ref 32), some (.int (nI n))], [], h2) = _
    rw [E181_32_at7, J1.1, if_pos (nI_le (Nat.le_refl _) (by omega))]) n 0 (by omega)
  obtain ⟨v, hv⟩ := zsr_val (P := P) n 0
  exact sim_ok (v := .int v) (h1 := h1) (h2 := h2) (by rw [E71_0, e1, zCv_some]; exact c1.trans (hv h1)) (by rw [E181_32, e2, zCi_some]; exact c2.trans (hv h2)) R2
/-! STRAIGHTS -/
theorem c_str1 {d : Nat} {h : zH} {g : zHl} {n k : Nat} (H : zHil h 1 g n k) (V : zVal g n k) {s : Nat} (hs : s < n) : zcal (d + 2) 65 [.ref 1, .int (nI s)] h = some (some (.int (if s_str g s = true then 1 else 0)), h) := by
  have hn := V.1
  rw [E65_1, c_get (n := 10) rfl (by omega), zCi_some, gt_nI (by omega) (by omega), (H.2.2.1 s hs).1, c_hasSn_1 H V hs, zCi_some, if_neg (by decide)]
  unfold s_str
  by_cases h4 : g 0 s = 4
  · rw [if_pos h4, decide_eq_true h4, Bool.true_or, if_pos rfl]
  · rw [if_neg h4, decide_eq_false h4, Bool.false_or]
    by_cases h5 : g 0 s = 5
    · rw [if_pos h5, decide_eq_true h5, if_pos rfl]
    · rw [if_neg h5, decide_eq_false h5, if_neg (by decide)]
/-- how many straights from i on -/
def rl (g : zHl) (n i : Nat) : Nat := zsr (fun c => !(s_str g (i + c))) (fun c => c) (n - i) (n - i) 0
theorem zsr_map {A B : Type} (F : A → B) {P : Nat → Bool} {f : Nat → A} {b : A} : ∀ m i, zsr P (fun c => F (f c)) (F b) m i = F (zsr P f b m i) := by
  intro m
  induction m with
  | zero => intro i; rfl
  | succ m ih =>
    intro i
    rw [zsr, zsr]
    by_cases z : P i = true
    · rw [if_pos z, if_pos z]
    · rw [if_neg z, if_neg z, ih (i + 1)]
theorem rl_le {g : zHl} {n i : Nat} : rl g n i ≤ n - i := by
  have : ∀ m j, m + j ≤ n - i → zsr (fun c => !(s_str g (i + c))) (fun c => c) (n - i) m j ≤ n - i := by
    intro m
    induction m with
    | zero => intro j _; exact Nat.le_refl _
    | succ m ih =>
      intro j hj
      rw [zsr]
      split
      · show j ≤ n - i; omega
      · exact ih (j + 1) (by omega)
  exact this (n - i) 0 (by omega)
theorem c_rl {d : Nat} {h : zH} {g : zHl} {n k : Nat} (H : zHil h 1 g n k) (V : zVal g n k) {i : Nat} (hi : i < n) : zcal (d + 3) 85 [.ref 1, .int (nI i)] h = some (some (.int (nI (rl g n i))), h) := by
  have hn := V.1
  have c := z_srch (A := Option zE0) (S := fun c => zE (d + 2) 85 (4, [some (.ref 1), some (.int (nI i)), some (.int (nI c)), some (.int (nI (i + c)))], [], h)) (P := fun c => !(s_str g (i + c))) (f := fun c => some (some (.int (nI c)), h)) (b := some (some (.int (nI (n - i))), h)) (N := n - i) (fun c hc => by
    show zE (d + 2) 85 (4, [some (.ref 1), some (.int (nI i)), some (.int (nI c)), some (.int (nI (i + c)))], [], h) = _
    rw [E85_1_at4, H.1, if_neg (nI_ge (by omega) (by omega)), c_str1 H V (by omega), zCi_some]
    by_cases z : s_str g (i + c) = true
    · rw [if_pos z, if_neg (by decide), z, if_neg (by decide), nI_1, nI_1, Nat.add_assoc]
    · rw [if_neg z, if_pos rfl, Bool.eq_false_iff.mpr z, if_pos (show (!false) = true from rfl)]) (by
    show zE (d + 2) 85 (4, [some (.ref 1), some (.int (nI i)), some (.int (nI (n - i))), some (.int (nI (i + (n - i))))], [], h) = _
    rw [E85_1_at4, H.1, if_pos (nI_le (by omega) (by omega))]) (n - i) 0 (by omega)
  rw [E85_1]
  refine c.trans ?_
  exact zsr_map (fun c => (some (some (.int (nI c)), h) : Option zE0)) (f := fun c => c) (b := n - i) (n - i) 0
theorem r_rl {d : Nat} {h : zH} {g : zHl} {n k : Nat} (H : zHr h g n k) (V : zVal g n k) {i : Nat} (hi : i < n) : zcal (d + 2) 197 [.ref 32, .int (nI i)] h = some (some (.int (nI (rl g n i))), h) := by
  have hn := V.1
  have c := z_srch (A := Option zE0) (S := fun c => zE (d + 1) 197 (2, [some (.ref 32), some (.int (nI i)), some (.int (nI c))], [], h)) (P := fun c => !(s_str g (i + c))) (f := fun c => some (some (.int (nI c)), h)) (b := some (some (.int (nI (n - i))), h)) (N := n - i) (fun c hc => by
    show zE (d + 1) 197 (2, [some (.ref 32), some (.int (nI i)), some (.int (nI c))], [], h) = _
    rw [E197_32_at2, H.1, nn_add, if_neg (nI_ge (by omega) (by omega)), zG_nI (by omega) (by omega), nI_tn (by omega), (H.2.2.1 (i + c) (by omega)).1, r_str H (by omega), zCi_some]
    by_cases z : s_str g (i + c) = true
    · rw [if_pos z, if_neg (by decide), z, if_neg (by decide), nI_1]
    · rw [if_neg z, if_pos rfl, Bool.eq_false_iff.mpr z, if_pos (show (!false) = true from rfl)]) (by
    show zE (d + 1) 197 (2, [some (.ref 32), some (.int (nI i)), some (.int (nI (n - i)))], [], h) = _
    rw [E197_32_at2, H.1, nn_add, if_pos (nI_le (by omega) (by omega))]) (n - i) 0 (by omega)
  rw [E197_32]
  refine c.trans ?_
  exact zsr_map (fun c => (some (some (.int (nI c)), h) : Option zE0)) (f := fun c => c) (b := n - i) (n - i) 0
/-- the longest, and where it stands first -/
def fL (r : Nat → Nat) (i : Nat) (acc : Option Nat × Nat) : Option Nat × Nat := if acc.2 < r i then (some i, r i) else acc
theorem fL_ok {r : Nat → Nat} : ∀ i, (∀ j, j < i → r j ≤ (zfo (fL r) (none, 0) i).2) ∧ (match (zfo (fL r) (none, 0) i).1 with
    | none => (zfo (fL r) (none, 0) i).2 = 0
    | some a => a < i ∧ r a = (zfo (fL r) (none, 0) i).2 ∧ 0 < r a ∧ ∀ j, j < a → r j < r a) := by
  intro i
  induction i with
  | zero => exact ⟨fun j hj => absurd hj (by omega), rfl⟩
  | succ i ih =>
    obtain ⟨i1, i2⟩ := ih
    rw [zfo]
    unfold fL
    by_cases q : (zfo (fL r) (none, 0) i).2 < r i
    · have q' : (zfo (fun i acc => if acc.2 < r i then (some i, r i) else acc) ((none, 0) : Option Nat × Nat) i).2 < r i := q
      rw [if_pos q']
      refine ⟨fun j hj => ?_, ?_⟩
      · show r j ≤ r i
        by_cases e : j = i
        · rw [e]; exact Nat.le_refl _
        · have := i1 j (by omega); omega
      · exact ⟨by omega, rfl, by omega, fun j hj => by have := i1 j hj; omega⟩
    · have q' : ¬ (zfo (fun i acc => if acc.2 < r i then (some i, r i) else acc) ((none, 0) : Option Nat × Nat) i).2 < r i := q
      rw [if_neg q']
      refine ⟨fun j hj => ?_, ?_⟩
      · by_cases e : j = i
        · rw [e]; exact Nat.le_of_not_lt q
        · exact i1 j (by omega)
      · show (match (zfo (fL r) (none, 0) i).1 with | none => _ | some a => _)
        have i2' := i2
        revert i2'
        cases (zfo (fL r) (none, 0) i).1 with
        | none => exact fun z => z
        | some a => exact fun z => ⟨by have := z.1; omega, z.2⟩

theorem zsr_at {A : Type} {P : Nat → Bool} {f : Nat → A} {b : A} {a : Nat} (ha : P a = true) (hb : ∀ j, j < a → P j = false) : ∀ m i, i ≤ a → a < i + m → zsr P f b m i = f a := by
  intro m
  induction m with
  | zero => intro i h1 h2; omega
  | succ m ih =>
    intro i h1 h2
    rw [zsr]
    by_cases e : i = a
    · rw [e, if_pos ha]
    · rw [if_neg (by rw [hb i (by omega)]; decide), ih (i + 1) (by omega) (by omega)]
theorem enc_fst {a : Nat} : enc (some a) = nI a := rfl
theorem fL_p {r : Nat → Nat} {i : Nat} {acc : Option Nat × Nat} (h : acc.2 < r i) : fL r i acc = (some i, r i) := if_pos h
theorem fL_n {r : Nat → Nat} {i : Nat} {acc : Option Nat × Nat} (h : ¬ acc.2 < r i) : fL r i acc = acc := if_neg h
theorem c_longest {d : Nat} {h : zH} {g : zHl} {n k : Nat} (H : zHil h 1 g n k) (V : zVal g n k) : zcal (d + 5) 84 [.ref 1] h = some (some (.int (nI (zfo (fL (rl g n)) (none, 0) n).2)), h) := by
  have hn := V.1
  have hb : ∀ i, i ≤ n → (zfo (fL (rl g n)) (none, 0) i).2 ≤ n := by
    intro i
    induction i with
    | zero => intro _; exact Nat.zero_le _
    | succ i ih =>
      intro hi
      rw [zfo]
      unfold fL
      split
      · have := rl_le (g := g) (n := n) (i := i); show rl g n i ≤ n; omega
      · exact ih (by omega)
  have c := z_loop (S := fun (acc : Option Nat × Nat) i => zE (d + 4) 84 (4, [some (.ref 1), some (.int (nI acc.2)), some (.int (nI i))], [], h)) (F := fL (rl g n)) (s0 := (none, 0)) (N := n) (fun i hi => by
    show zE (d + 4) 84 (4, [some (.ref 1), some (.int (nI (zfo (fL (rl g n)) (none, 0) i).2)), some (.int (nI i))], [], h) = zE (d + 4) 84 (4, [some (.ref 1), some (.int (nI (zfo (fL (rl g n)) (none, 0) (i + 1)).2)), some (.int (nI (i + 1)))], [], h)
    have b1 := hb i (by omega)
    have b2 := rl_le (g := g) (n := n) (i := i)
    rw [E84_1_at4, H.1, if_neg (nI_ge hi (by omega)), c_rl (d := d + 1) H V hi, zCi_some]
    have e3 : zcal (d + 4) 3 [.int (nI (zfo (fL (rl g n)) (none, 0) i).2), .int (nI (rl g n i))] h = some (some (.int (nI (zfo (fL (rl g n)) (none, 0) (i + 1)).2)), h) := by
      rw [zcal, if_pos (Or.inl rfl)]
      show (some (some (.int (if nI (zfo (fL (rl g n)) (none, 0) i).2 < nI (rl g n i) then nI (rl g n i) else nI (zfo (fL (rl g n)) (none, 0) i).2)), h) : Option zE0) = _
      rw [zfo]
      by_cases q : (zfo (fL (rl g n)) (none, 0) i).2 < rl g n i
      · rw [if_pos ((lt_nI (by omega) (by omega)).mpr q), fL_p q]
      · rw [if_neg (fun z => q ((lt_nI (by omega) (by omega)).mp z)), fL_n q]
    rw [e3, zCi_some, nI_1])
  rw [E84_1]
  refine c.trans ?_
  show zE (d + 4) 84 (4, [some (.ref 1), some (.int (nI _)), some (.int (nI n))], [], h) = _
  rw [E84_1_at4, H.1, if_pos (nI_le (Nat.le_refl _) (by omega))]
theorem fL_bd {g : zHl} {n : Nat} : ∀ i, i ≤ n → (zfo (fL (rl g n)) (none, 0) i).2 ≤ n := by
  intro i
  induction i with
  | zero => intro _; exact Nat.zero_le _
  | succ i ih =>
    intro hi
    rw [zfo]
    unfold fL
    split
    · have := rl_le (g := g) (n := n) (i := i); show rl g n i ≤ n; omega
    · exact ih (by omega)
theorem c_where {d : Nat} {h : zH} {g : zHl} {n k : Nat} (H : zHil h 1 g n k) (V : zVal g n k) : zcal (d + 6) 86 [.ref 1] h = some (some (.int (enc (zfo (fL (rl g n)) (none, 0) n).1)), h) := by
  have hn := V.1
  obtain ⟨f1, f2⟩ := fL_ok (r := rl g n) n
  have bd := fL_bd (g := g) n (Nat.le_refl _)
  rw [E86_1, c_longest H V, zCi_some]
  have n0 : nI 0 = (0 : Int32) := rfl
  cases hz : (zfo (fL (rl g n)) (none, 0) n).1 with
  | none =>
    rw [hz] at f2
    have f2 : (zfo (fL (rl g n)) (none, 0) n).2 = 0 := f2
    rw [f2, E86_1_at7]
    by_cases q : (0 : Int32) ≥ h 1 5
    · rw [if_pos q]; rfl
    · rw [if_neg q, if_pos (show nI 0 ≤ (0 : Int32) by decide)]; rfl
  | some a =>
    rw [hz] at f2
    obtain ⟨a1, a2, a3, a4⟩ := f2
    have c := z_srch (A := Option zE0) (S := fun i => zE (d + 5) 86 (7, [some (.ref 1), some (.int (nI (zfo (fL (rl g n)) (none, 0) n).2)), some (.int (nI i))], [], h)) (P := fun i => decide (rl g n i = (zfo (fL (rl g n)) (none, 0) n).2)) (f := fun i => some (some (.int (nI i)), h)) (b := some (some (.int (-9)), h)) (N := n) (fun i hi => by
      show zE (d + 5) 86 (7, [some (.ref 1), some (.int (nI (zfo (fL (rl g n)) (none, 0) n).2)), some (.int (nI i))], [], h) = _
      have b2 := rl_le (g := g) (n := n) (i := i)
      rw [E86_1_at7, H.1, if_neg (nI_ge hi (by omega)), if_neg (show ¬ nI (zfo (fL (rl g n)) (none, 0) n).2 ≤ (0 : Int32) from Int32.not_le.mpr (nI_lt (a := 0) (by omega) (by omega))), c_rl (d := d + 2) H V hi, zCi_some]
      by_cases z : rl g n i = (zfo (fL (rl g n)) (none, 0) n).2
      · rw [if_pos (by rw [z]), if_pos (decide_eq_true z)]
      · rw [if_neg (fun q => z ((nI_eq (by omega) (by omega)).mp q)), if_neg (fun q => z (of_decide_eq_true q)), nI_1]) (by
      show zE (d + 5) 86 (7, [some (.ref 1), some (.int (nI (zfo (fL (rl g n)) (none, 0) n).2)), some (.int (nI n))], [], h) = _
      rw [E86_1_at7, H.1, if_pos (nI_le (Nat.le_refl _) (by omega))]) n 0 (by omega)
    refine c.trans ?_
    rw [zsr_at (P := fun i => decide (rl g n i = (zfo (fL (rl g n)) (none, 0) n).2)) (a := a) (decide_eq_true a2) (fun j hj => decide_eq_false (by have := a4 j hj; omega)) n 0 (by omega) (by omega), enc_fst]
theorem sim_straights {a : Int32} : zSim 83 196 [.int a] := by
  intro d h R
  obtain ⟨⟨g, n, k, R0⟩, C⟩ := id R
  have V := R0.1.1
  have hn := V.1
  have H1 := R0.1.2.1
  by_cases in2 : (0 : Int32) ≤ a ∧ a ≤ 2
  · have tail : ∀ (h1 : zH), Rel0 g n k h1 → RelC h1 → h1 1 7 = h 1 7 → a ≠ 2 → ∃ h2, zcal (d + 10) 196 [.ref 32, .int a] h1 = some (some (.int (if a = 0 then nI (zfo (fL (rl g n)) (none, 0) n).2 else enc (zfo (fL (rl g n)) (none, 0) n).1)), h2) ∧ Rel h2 := by
      intro h1 R1 C1 s1 n2
      obtain ⟨h2, e2, J, G⟩ := ref_now (e := d + 5) R1
      have R2 := Rel_of R1 C1 G
      have H2 := J.1
      refine ⟨h2, ?_, R2⟩
      rw [E196_32, r_isIn, if_pos in2, zCi_some, if_neg (by decide), e2, zCi_some, if_neg n2]
      have c := z_loop (S := fun (acc : Option Nat × Nat) i => zE (d + 9) 196 (39, [some (.ref 32), some (.int a), some (.int (enc acc.1)), some (.int (nI acc.2)), some (.int (nI i))], [], h2)) (F := fL (rl g n)) (s0 := (none, 0)) (N := n) (fun i hi => by
        show zE (d + 9) 196 (39, [some (.ref 32), some (.int a), some (.int (enc (zfo (fL (rl g n)) (none, 0) i).1)), some (.int (nI (zfo (fL (rl g n)) (none, 0) i).2)), some (.int (nI i))], [], h2) = zE (d + 9) 196 (39, [some (.ref 32), some (.int a), some (.int (enc (zfo (fL (rl g n)) (none, 0) (i + 1)).1)), some (.int (nI (zfo (fL (rl g n)) (none, 0) (i + 1)).2)), some (.int (nI (i + 1)))], [], h2)
        have b1 := fL_bd (g := g) (n := n) i (by omega)
        have b2 := rl_le (g := g) (n := n) (i := i)
        rw [E196_32_at39, H2.1, if_neg (nI_ge hi (by omega)), r_rl (d := d + 7) H2 V hi, zCi_some, zfo]
        by_cases q : (zfo (fL (rl g n)) (none, 0) i).2 < rl g n i
        · rw [if_pos (show nI (rl g n i) > nI (zfo (fL (rl g n)) (none, 0) i).2 from (lt_nI (by omega) (by omega)).mpr q), r_rl (d := d + 7) H2 V hi, zCi_some, fL_p q, nI_1]
          rfl
        · rw [if_neg (show ¬ nI (rl g n i) > nI (zfo (fL (rl g n)) (none, 0) i).2 from fun z => q ((lt_nI (by omega) (by omega)).mp z)), fL_n q, nI_1])
      refine c.trans ?_
      show zE (d + 9) 196 (39, [some (.ref 32), some (.int a), some (.int (enc (zfo (fL (rl g n)) (none, 0) n).1)), some (.int (nI (zfo (fL (rl g n)) (none, 0) n).2)), some (.int (nI n))], [], h2) = _
      rw [E196_32_at39, H2.1, if_pos (nI_le (Nat.le_refl _) (by omega))]
      by_cases a0 : a = 0
      · rw [if_pos a0, if_pos a0]
      · rw [if_neg a0, if_neg a0]
    by_cases a0 : a = 0
    · obtain ⟨h2, e2, R2⟩ := tail h R0 C rfl (by rw [a0]; decide)
      rw [if_pos a0] at e2
      exact sim_ok (by rw [E83_0, if_pos a0, c_longest (d := d + 4) H1 V, zCi_some]) e2 R2
    · by_cases a1 : a = 1
      · obtain ⟨h2, e2, R2⟩ := tail h R0 C rfl (by rw [a1]; decide)
        rw [if_neg a0] at e2
        exact sim_ok (by rw [E83_0, if_neg a0, if_pos a1, c_where (d := d + 3) H1 V, zCi_some]) e2 R2
      · have a2 : a = 2 := by
          obtain ⟨x, hx, rfl⟩ := nI_num (m := 2) (by omega) in2.1 in2.2
          have : x = 0 ∨ x = 1 ∨ x = 2 := by omega
          rcases this with rfl | rfl | rfl
          · exact absurd rfl a0
          · exact absurd rfl a1
          · rfl
        obtain ⟨h1, e1, I, F, R1, C1, s1⟩ := cls_now (e := d + 3) R0 C
        obtain ⟨h2, e2, J, G⟩ := ref_now (e := d + 5) R1
        rw [s1] at e2 J
        have iw := I.2.2.2.2.2.2.2.2.2.2.2.2.1
        have jw := J.2.2.2.2.2.2.2.2.2.2.2.1
        exact sim_ok (by rw [E83_0, if_neg a0, if_neg a1, if_pos a2, e1, zCv_some, iw]) (by rw [E196_32, r_isIn, if_pos in2, zCi_some, if_neg (by decide), e2, zCi_some, if_pos a2, jw]) (Rel_of R1 C1 G)
  · have n0 : ¬ a = 0 := fun q => in2 (by rw [q]; decide)
    have n1 : ¬ a = 1 := fun q => in2 (by rw [q]; decide)
    have n2 : ¬ a = 2 := fun q => in2 (by rw [q]; decide)
    refine sim_rf R (c := -2) (j := 1) (by omega) ?_ ?_
    · rw [E83_0, if_neg n0, if_neg n1, if_neg n2, c_rf2, zCi_some]
    · rw [E196_32, r_isIn, if_neg in2, zCi_some, if_pos rfl, r_no2, zCi_some]

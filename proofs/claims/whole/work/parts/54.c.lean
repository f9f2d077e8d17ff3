def swI (e : Nat → Nat → Nat) (i : Nat) : Nat → Nat → Int32 × Nat → Int32 × Nat
  | 0, _, a => a
  | m + 1, j, a => swI e i m (j + 1) (if a.2 < e i j then ((10 : Int32) * nI i + nI j, e i j) else a)
def swO (e : Nat → Nat → Nat) (n : Nat) : Nat → Nat → Int32 × Nat → Int32 × Nat
  | 0, _, a => a
  | m + 1, i, a => swO e n m (i + 1) (swI e i (n - (i + 1)) (i + 1) a)
theorem swI_le {e : Nat → Nat → Nat} {i N : Nat} (he : ∀ i j, e i j ≤ N) : ∀ m j a, a.2 ≤ N → (swI e i m j a).2 ≤ N := by
  intro m
  induction m with
  | zero => intro j a h; exact h
  | succ m ih =>
    intro j a h
    rw [swI]
    refine ih (j + 1) _ ?_
    split
    · exact he i j
    · exact h
theorem sim_swap : zSim 107 213 [] := by
  intro d h R
  obtain ⟨⟨g, n, k, R0⟩, C⟩ := id R
  have V := R0.1.1
  have hn := V.1
  obtain ⟨h1, e1, I, F, R1, C1, s1⟩ := cls_now (e := d + 3) R0 C
  have el := fun i j => eN_le (st := h 1 7) (g := gSw g i j) (n := n) (k := k)
  have e0 := eN_le (st := h 1 7) V
  have ei0 : h1 7 8 = nI (eN g n k (h 1 7)).1 := I.2.2.1
  have cy : ∀ (x : zH), zHil x 7 g n k → x 7 7 = h 1 7 → zFr zMT h x → ∀ i j, i < j → j < n → ∃ (a b c : zH), zcal (d + 9) 108 [.ref 7, .int (nI i), .int (nI j)] x = some (none, a) ∧ zcal (d + 9) 61 [.ref 19, .ref 7] a = some (some (.int (nI (eN (gSw g i j) n k (h 1 7)).1)), b) ∧ zcal (d + 9) 108 [.ref 7, .int (nI i), .int (nI j)] b = some (none, c) ∧ zHil c 7 g n k ∧ c 7 7 = h 1 7 ∧ zFr zMT h c := fun x x1 x2 x3 i j hij hj => by
    obtain ⟨a, ea, a1, a2, a3⟩ := c_swap (d := d + 7) x1 V hij hj
    obtain ⟨b, eb, Ib, Fb⟩ := c_end (d := d + 4) a1 (zVal_Sw (by omega) hj V)
    rw [show a 7 7 = h 1 7 by rw [a2]; exact x2] at eb Ib
    obtain ⟨c, ec, c1, c2, c3⟩ := c_swap (d := d + 7) Ib.1 (zVal_Sw (by omega) hj V) hij hj
    rw [gSw2 hij] at c1
    unfold eN
    refine ⟨a, b, c, ea, eb, ec, c1, by rw [c2]; exact Ib.2.1, fun q hq => ?_⟩
    have q8 : q ≠ 8 ∧ q ≠ 9 := by unfold zMT at hq; omega
    rw [c3 q q8.1 q8.2, Fb q hq, a3 q q8.1 q8.2, x3 q hq]
  have ry : ∀ (x : zH), Rel0 g n k x → x 1 7 = h 1 7 → ∀ i j, i < j → j < n → ∃ y, zcal (d + 9) 214 [.ref 32, .int (nI i), .int (nI j)] x = some (some (.int (nI (eN (gSw g i j) n k (h 1 7)).1)), y) ∧ zPers x y ∧ y 30 = x 30 ∧ y 33 = x 33 := fun x x1 x2 i j hij hj => by
    have := r_214 (d := d + 4) x1 hij hj
    rw [x2] at this
    exact this
  have el2 : ∀ i j, i < n → j < n → (eN (gSw g i j) n k (h 1 7)).1 ≤ n := fun i j hi hj => el i j (zVal_Sw hi hj V)
  have rn : ∀ (x : zH), Rel0 g n k x → x 1 7 = h 1 7 → ∃ y, zcal (d + 9) 176 [.ref 32] x = some (some (.int (nI (eN g n k (h 1 7)).1)), y) ∧ rfF x y := fun x x1 x2 => by
    obtain ⟨y, ey, _, Gy⟩ := ref_now (e := d + 5) x1
    rw [x2] at ey
    exact ⟨y, ey, Gy⟩
  generalize hef : (fun i j => if i < n ∧ j < n then (eN (gSw g i j) n k (h 1 7)).1 else 0) = e
  have ed : ∀ i j, i < n → j < n → (eN (gSw g i j) n k (h 1 7)).1 = e i j := fun i j hi hj => by rw [← hef]; exact (if_pos ⟨hi, hj⟩).symm
  have ele : ∀ i j, e i j ≤ n := fun i j => by
    rw [← hef]
    show (if i < n ∧ j < n then (eN (gSw g i j) n k (h 1 7)).1 else 0) ≤ n
    by_cases q : i < n ∧ j < n
    · rw [if_pos q]; exact el2 i j q.1 q.2
    · rw [if_neg q]; exact Nat.zero_le _
  generalize (eN g n k (h 1 7)).1 = z0 at *
  have li : ∀ s j i (acc : Int32 × Nat) x x5, j + s = n → i < j → acc.2 ≤ n → zHil x 7 g n k → x 7 7 = h 1 7 → zFr zMT h x → ∃ y x4' x5', zE (d + 9) 107 (33, [some (.ref 0), some (.int (nI acc.2)), some (.int acc.1), some (.int (nI i)), some (.int (nI j)), x5], [], x) = zE (d + 9) 107 (17, [some (.ref 0), some (.int (nI (swI e i s j acc).2)), some (.int (swI e i s j acc).1), some (.int (nI (i + 1))), x4', x5'], [], y) ∧ zHil y 7 g n k ∧ y 7 7 = h 1 7 ∧ zFr zMT h y := by
    intro s
    induction s with
    | zero =>
      intro j i acc x x5 hs hij ha x1 x2 x3
      have hs : j = n := hs
      have x15 : x 1 5 = nI n := by rw [x3 1 (zMT_n (by omega))]; exact R0.1.2.1.1
      exact ⟨x, _, x5, by rw [E107_0_at33, x15, if_pos (nI_le (by omega) (by omega)), nI_1]; rfl, x1, x2, x3⟩
    | succ s ih =>
      intro j i acc x x5 hs hij ha x1 x2 x3
      have x15 : x 1 5 = nI n := by rw [x3 1 (zMT_n (by omega))]; exact R0.1.2.1.1
      obtain ⟨a, b, c, ea, eb, ec, c1, c2, c3⟩ := cy x x1 x2 x3 i j hij (by omega)
      rw [ed i j (by omega) (by omega)] at eb
      have lee := ele i j
      rw [E107_0_at33, x15, if_neg (nI_ge (by omega) (by omega)), ea, zCv_some, eb, zCi_some, ec, zCv_some, swI]
      by_cases q : acc.2 < e i j
      · rw [if_neg (Int32.not_le.mpr (nI_lt q (by omega))), if_pos q, nI_1]
        exact ih (j + 1) i ((10 : Int32) * nI i + nI j, e i j) c _ (by omega) (by omega) (ele i j) c1 c2 c3
      · rw [if_pos (nI_le (by omega) (by omega)), if_neg q, nI_1]
        exact ih (j + 1) i acc c _ (by omega) (by omega) ha c1 c2 c3
  have lo : ∀ s i (acc : Int32 × Nat) x x4 x5, i + s = n → acc.2 ≤ n → zHil x 7 g n k → x 7 7 = h 1 7 → zFr zMT h x → ∃ y, zE (d + 9) 107 (17, [some (.ref 0), some (.int (nI acc.2)), some (.int acc.1), some (.int (nI i)), x4, x5], [], x) = some (some (.int (swO e n s i acc).1), y) ∧ zFr zMT h y := by
    intro s
    induction s with
    | zero =>
      intro i acc x x4 x5 hs ha x1 x2 x3
      have hs : i = n := hs
      have x15 : x 1 5 = nI n := by rw [x3 1 (zMT_n (by omega))]; exact R0.1.2.1.1
      exact ⟨x, by rw [E107_0_at17, x15, if_pos (nI_le (by omega) (by omega))]; rfl, x3⟩
    | succ s ih =>
      intro i acc x x4 x5 hs ha x1 x2 x3
      have x15 : x 1 5 = nI n := by rw [x3 1 (zMT_n (by omega))]; exact R0.1.2.1.1
      obtain ⟨y, x4', x5', ey, y1, y2, y3⟩ := li (n - (i + 1)) (i + 1) i acc x x5 (by omega) (by omega) ha x1 x2 x3
      rw [E107_0_at17, x15, if_neg (nI_ge (by omega) (by omega)), nI_1, ey, swO]
      exact ih (i + 1) _ y x4' x5' (by omega) (swI_le ele _ _ _ ha) y1 y2 y3
  obtain ⟨h2, e2, F2⟩ := lo n 0 (-9, z0) h1 none none (by omega) e0 I.1 I.2.1 F
  have R2 := Rel0_mv R0 (zPers_mt F2)
  have C2 := RelC_mt C F2
  have s2 : h2 1 7 = h 1 7 := by rw [F2 1 (zMT_n (by omega))]
  have P0 : ∀ x y : zH, zPers x y → y 1 7 = x 1 7 := fun x y p => by rw [p.1 1 (by omega) (zMT_n (by omega))]
  have ri : ∀ s j i (acc : Int32 × Nat) x x5, j + s = n → i < j → acc.2 ≤ n → Rel0 g n k x → RelC x → x 1 7 = h 1 7 → ∃ y x4' x5', zE (d + 9) 213 (23, [some (.ref 32), some (.int acc.1), some (.int (nI acc.2)), some (.int (nI i)), some (.int (nI j)), x5], [], x) = zE (d + 9) 213 (10, [some (.ref 32), some (.int (swI e i s j acc).1), some (.int (nI (swI e i s j acc).2)), some (.int (nI (i + 1))), x4', x5'], [], y) ∧ Rel0 g n k y ∧ RelC y ∧ y 1 7 = h 1 7 := by
    intro s
    induction s with
    | zero =>
      intro j i acc x x5 hs hij ha x1 x2 x3
      have hs : j = n := hs
      have x15 : x 32 6 = nI n := x1.1.2.2.1.1
      exact ⟨x, _, x5, by rw [E213_32_at23, x15, if_pos (nI_le (by omega) (by omega)), nI_1]; rfl, x1, x2, x3⟩
    | succ s ih =>
      intro j i acc x x5 hs hij ha x1 x2 x3
      have x15 : x 32 6 = nI n := x1.1.2.2.1.1
      obtain ⟨y, ey, py, y30, y33⟩ := ry x x1 x3 i j hij (by omega)
      rw [ed i j (by omega) (by omega)] at ey
      have lee := ele i j
      have y1 := Rel0_mv x1 py
      have y2 := RelC_mv x2 y30 y33
      have y3 : y 1 7 = h 1 7 := (P0 x y py).trans x3
      rw [E213_32_at23, x15, if_neg (nI_ge (by omega) (by omega)), ey, zCi_some, swI]
      by_cases q : acc.2 < e i j
      · rw [if_pos (show nI (e i j) > nI acc.2 from nI_lt q (by omega)), if_pos q, nI_1]
        exact ih (j + 1) i ((10 : Int32) * nI i + nI j, e i j) y _ (by omega) (by omega) (ele i j) y1 y2 y3
      · rw [if_neg (show ¬ nI (e i j) > nI acc.2 from Int32.not_lt.mpr (nI_le (by omega) (by omega))), if_neg q, nI_1]
        exact ih (j + 1) i acc y _ (by omega) (by omega) ha y1 y2 y3
  have ro : ∀ s i (acc : Int32 × Nat) x x4 x5, i + s = n → acc.2 ≤ n → Rel0 g n k x → RelC x → x 1 7 = h 1 7 → ∃ y, zE (d + 9) 213 (10, [some (.ref 32), some (.int acc.1), some (.int (nI acc.2)), some (.int (nI i)), x4, x5], [], x) = some (some (.int (swO e n s i acc).1), y) ∧ Rel y := by
    intro s
    induction s with
    | zero =>
      intro i acc x x4 x5 hs ha x1 x2 x3
      have hs : i = n := hs
      have x15 : x 32 6 = nI n := x1.1.2.2.1.1
      exact ⟨x, by rw [E213_32_at10, x15, if_pos (nI_le (by omega) (by omega))]; rfl, ⟨⟨g, n, k, x1⟩, x2⟩⟩
    | succ s ih =>
      intro i acc x x4 x5 hs ha x1 x2 x3
      have x15 : x 32 6 = nI n := x1.1.2.2.1.1
      obtain ⟨y, x4', x5', ey, y1, y2, y3⟩ := ri (n - (i + 1)) (i + 1) i acc x x5 (by omega) (by omega) ha x1 x2 x3
      rw [E213_32_at10, x15, if_neg (nI_ge (by omega) (by omega)), nI_1, ey, swO]
      exact ih (i + 1) _ y x4' x5' (by omega) (swI_le ele _ _ _ ha) y1 y2 y3
  obtain ⟨h3, e3, G3⟩ := rn h2 R2 s2
  obtain ⟨h4, e4, R4⟩ := ro n 0 (-9, z0) h3 none none (by omega) e0 (Rel0_mv R2 (zPers_rf2 G3)) (RelC_rf C2 G3) (by rw [G3.1 1 (by omega) (by omega) (by omega), s2])
  refine sim_ok (v := .int (swO e n n 0 (-9, z0)).1) (h1 := h2) (h2 := h4) ?_ ?_ R4
  · rw [E107_0, e1, zCv_some, ei0]; exact e2
  · rw [E213_32, e3, zCi_some]; exact e4

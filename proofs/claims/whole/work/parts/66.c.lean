theorem sim_bestChanges {a b c w : Int32} : zSim 94 185 [.int a, .int b, .int c, .int w] := by
  intro d h R
  obtain ⟨⟨g, n, k, R0⟩, C⟩ := id R
  have V := R0.1.1
  have hn := V.1
  have hk := V.2.1
  have hst := R0.1.2.2.2.1.1
  have H1 := R0.1.2.1
  have Hr : ∀ j, zHr (refC h j) g n k := fun j => (Rel0_c R0).1.2.2.1
  have rf : ∀ (v : Int32) (j : Nat), j < 6 → v ≠ 0 → zcal (d + 9) 125 [.ref 32, .int v] (refC h j) = some (some (.int v), refR (refC h j) j) → zcal (d + 10) 94 [.ref 0, .int a, .int b, .int c, .int w] h = some (some (.int v), refC h j) → zcal (d + 10) 185 [.ref 32, .int a, .int b, .int c, .int w] (refC h j) = zE (d + 9) 185 (59, [some (.ref 32), some (.int a), some (.int b), some (.int c), some (.int w), none, none, none, none, none, none], [.int v], refC h j) → ∃ (v : Value) (h1 h2 : zH), zcal (d + 10) 94 [.ref 0, .int a, .int b, .int c, .int w] h = some (some v, h1) ∧ zcal (d + 10) 185 [.ref 32, .int a, .int b, .int c, .int w] h1 = some (some v, h2) ∧ Rel h2 := fun v j hj v0 e1 e2 e3 => sim_rf R (c := v) (j := j) hj e2 (by rw [e3, E185_32_at59, if_neg v0, e1, zCi_some])
  by_cases ha : 0 ≤ a ∧ a < nI n
  · by_cases hb : 0 ≤ b ∧ b < nI n
    · by_cases hc : 0 ≤ c ∧ c < nI n
      · by_cases ab : a = b
        · exact rf (-1) 0 (by omega) (by decide) r_no1 (by rw [E94_0, c_hasS_1 H1 V, if_pos ha, zCi_some, if_neg (by decide), c_hasS_1 H1 V, if_pos hb, zCi_some, if_neg (by decide), c_hasS_1 H1 V, if_pos hc, zCi_some, if_neg (by decide), if_pos ab, c_rf1, zCi_some]) (by rw [E185_32, r_isS (Hr 0) V, if_pos ha, zCi_some, if_neg (by decide), r_isS (Hr 0) V, if_pos hb, zCi_some, if_neg (by decide), r_isS (Hr 0) V, if_pos hc, zCi_some, if_neg (by decide), if_pos ab])
        · by_cases ac : a = c
          · exact rf (-1) 0 (by omega) (by decide) r_no1 (by rw [E94_0, c_hasS_1 H1 V, if_pos ha, zCi_some, if_neg (by decide), c_hasS_1 H1 V, if_pos hb, zCi_some, if_neg (by decide), c_hasS_1 H1 V, if_pos hc, zCi_some, if_neg (by decide), if_neg ab, if_pos ac, c_rf1, zCi_some]) (by rw [E185_32, r_isS (Hr 0) V, if_pos ha, zCi_some, if_neg (by decide), r_isS (Hr 0) V, if_pos hb, zCi_some, if_neg (by decide), r_isS (Hr 0) V, if_pos hc, zCi_some, if_neg (by decide), if_neg ab, if_pos ac])
          · by_cases bc : b = c
            · exact rf (-1) 0 (by omega) (by decide) r_no1 (by rw [E94_0, c_hasS_1 H1 V, if_pos ha, zCi_some, if_neg (by decide), c_hasS_1 H1 V, if_pos hb, zCi_some, if_neg (by decide), c_hasS_1 H1 V, if_pos hc, zCi_some, if_neg (by decide), if_neg ab, if_neg ac, if_pos bc, c_rf1, zCi_some]) (by rw [E185_32, r_isS (Hr 0) V, if_pos ha, zCi_some, if_neg (by decide), r_isS (Hr 0) V, if_pos hb, zCi_some, if_neg (by decide), r_isS (Hr 0) V, if_pos hc, zCi_some, if_neg (by decide), if_neg ab, if_neg ac, if_pos bc])
            · by_cases w01 : (0 : Int32) ≤ w ∧ w ≤ 1
              · have preC : ∀ h1, zcal (d + 9) 16 [.ref 7, .ref 1] h = some (none, h1) → zcal (d + 10) 94 [.ref 0, .int a, .int b, .int c, .int w] h = zE (d + 9) 94 (92, [some (.ref 0), some (.int a), some (.int b), some (.int c), some (.int w), some (.int 0), some (.int (-1)), some (.int 0), none, none, none], [], h1) := fun h1 e1 => by
                  rw [E94_0, c_hasS_1 H1 V, if_pos ha, zCi_some, if_neg (by decide), c_hasS_1 H1 V, if_pos hb, zCi_some, if_neg (by decide), c_hasS_1 H1 V, if_pos hc, zCi_some, if_neg (by decide), if_neg ab, if_neg ac, if_neg bc, e1, zCv_some]
                  by_cases w0 : w = 0
                  · rw [if_pos w0]
                  · rw [if_neg w0, if_pos (by
                      rcases nI_num (m := 1) (by omega) w01.1 w01.2 with ⟨j, j1, rfl⟩
                      rcases (show j = 0 ∨ j = 1 by omega) with rfl | rfl
                      · exact absurd rfl w0
                      · rfl)]
                have preR : ∀ x, zHr x g n k → zcal (d + 10) 185 [.ref 32, .int a, .int b, .int c, .int w] x = zE (d + 9) 185 (59, [some (.ref 32), some (.int a), some (.int b), some (.int c), some (.int w), none, none, none, none, none, none], [.int 0], x) := fun x Hx => by
                  rw [E185_32, r_isS Hx V, if_pos ha, zCi_some, if_neg (by decide), r_isS Hx V, if_pos hb, zCi_some, if_neg (by decide), r_isS Hx V, if_pos hc, zCi_some, if_neg (by decide), if_neg ab, if_neg ac, if_neg bc, r_isIn, if_pos w01, zCi_some, if_neg (by decide)]
                clear rf
                obtain ⟨A, hA, rfl⟩ := i_small (by omega) ha
                obtain ⟨B, hB, rfl⟩ := i_small (by omega) hb
                obtain ⟨D, hD, rfl⟩ := i_small (by omega) hc
                have nab : A ≠ B := fun q => ab (by rw [q])
                have nac : A ≠ D := fun q => ac (by rw [q])
                have nbc : B ≠ D := fun q => bc (by rw [q])
                obtain ⟨h1, e1, K1, K7, F1⟩ := c_like (d := d + 6) H1 V
                have cs : ∀ (x : zH) (i j l : Nat), i < k + 1 → j < k + 1 → l < k + 1 → zHil x 7 (g3 g A B D (wvI i) (wvI j) (wvI l)) n k → x 7 7 = h 1 7 → ∃ y, zcal (d + 9) 61 [.ref 19, .ref 7] x = some (some (.int (nI (eN (g3 g A B D (wvI i) (wvI j) (wvI l)) n k (h 1 7)).1)), y) ∧ zHil y 7 (g3 g A B D (wvI i) (wvI j) (wvI l)) n k ∧ y 7 7 = h 1 7 ∧ zFr zMT x y := fun x i j l hi hj hl x1 x2 => by
                  obtain ⟨y, ey, _, y1, y2, y3⟩ := c_endG (d := d + 4) (zVal_3 V hi hj hl) x1 x2
                  exact ⟨y, ey, y1, y2, y3⟩
                have rs : ∀ (x : zH) (i j l : Nat), i < k + 1 → j < k + 1 → l < k + 1 → zHr x (g3 g A B D (wvI i) (wvI j) (wvI l)) n k → x 32 8 = h 1 7 → rAt0 x → ∃ y, zcal (d + 9) 176 [.ref 32] x = some (some (.int (nI (eN (g3 g A B D (wvI i) (wvI j) (wvI l)) n k (h 1 7)).1)), y) ∧ zHr y (g3 g A B D (wvI i) (wvI j) (wvI l)) n k ∧ rfF x y := fun x i j l hi hj hl x1 x2 x3 => by
                  obtain ⟨y, ey, J, G⟩ := r_now (d := d + 5) x1 (zVal_3 V hi hj hl) (by rw [x2]; exact hst) x3
                  rw [x2] at ey
                  unfold eN
                  exact ⟨y, ey, J.1, G⟩
                have hE : ∃ E : Nat → Nat → Nat → Nat, (∀ i j l, i < k + 1 → j < k + 1 → l < k + 1 → (eN (g3 g A B D (wvI i) (wvI j) (wvI l)) n k (h 1 7)).1 = E i j l) ∧ ∀ i j l, E i j l ≤ 10 := by
                  refine ⟨fun i j l => if i < k + 1 ∧ j < k + 1 ∧ l < k + 1 then (eN (g3 g A B D (wvI i) (wvI j) (wvI l)) n k (h 1 7)).1 else 0, fun i j l hi hj hl => (if_pos ⟨hi, hj, hl⟩).symm, fun i j l => ?_⟩
                  by_cases q : i < k + 1 ∧ j < k + 1 ∧ l < k + 1
                  · have := eN_le (st := h 1 7) (zVal_3 (A := A) (B := B) (C := D) V q.1 q.2.1 q.2.2)
                    have e := (if_pos q : (if i < k + 1 ∧ j < k + 1 ∧ l < k + 1 then (eN (g3 g A B D (wvI i) (wvI j) (wvI l)) n k (h 1 7)).1 else 0) = _)
                    exact Nat.le_trans (Nat.le_of_eq e) (Nat.le_trans this hn)
                  · have e := (if_neg q : (if i < k + 1 ∧ j < k + 1 ∧ l < k + 1 then (eN (g3 g A B D (wvI i) (wvI j) (wvI l)) n k (h 1 7)).1 else 0) = _)
                    exact Nat.le_trans (Nat.le_of_eq e) (Nat.zero_le _)
                obtain ⟨E, hE1, hE2⟩ := hE
                have cs : ∀ (x : zH) (i j l : Nat), i < k + 1 → j < k + 1 → l < k + 1 → zHil x 7 (g3 g A B D (wvI i) (wvI j) (wvI l)) n k → x 7 7 = h 1 7 → ∃ y, zcal (d + 9) 61 [.ref 19, .ref 7] x = some (some (.int (nI (E i j l))), y) ∧ zHil y 7 (g3 g A B D (wvI i) (wvI j) (wvI l)) n k ∧ y 7 7 = h 1 7 ∧ zFr zMT x y := fun x i j l hi hj hl => by
                  rw [← hE1 i j l hi hj hl]; exact cs x i j l hi hj hl
                have rs : ∀ (x : zH) (i j l : Nat), i < k + 1 → j < k + 1 → l < k + 1 → zHr x (g3 g A B D (wvI i) (wvI j) (wvI l)) n k → x 32 8 = h 1 7 → rAt0 x → ∃ y, zcal (d + 9) 176 [.ref 32] x = some (some (.int (nI (E i j l))), y) ∧ zHr y (g3 g A B D (wvI i) (wvI j) (wvI l)) n k ∧ rfF x y := fun x i j l hi hj hl => by
                  rw [← hE1 i j l hi hj hl]; exact rs x i j l hi hj hl
                clear hE1
                generalize hq : k + 1 = q at *
                have gt1 : ∀ x : zH, zFr zMT h x → x 1 6 = nI k := fun x hx => by rw [hx 1 (zMT_n (by omega))]; exact H1.2.1
                have frA : ∀ (x : zH) s v, zFr zMT h x → zFr zMT h (z_up x 10 s v) := fun x s v hx => zFr_tr hx (zFr_up (by unfold zMT; omega))
                -- the innermost
                have l3 : ∀ t l i j (acc : Int32 × Int32) x x10, l + t = q → i < q → j < q → (∃ z, zHil x 7 (g3 g A B D (wvI i) (wvI j) z) n k) → x 7 7 = h 1 7 → zFr zMT h x → ∃ y l' x10', zE (d + 9) 94 (154, [some (.ref 0), some (.int (nI A)), some (.int (nI B)), some (.int (nI D)), some (.int w), some (.int acc.1), some (.int acc.2), some (.int (nI i)), some (.int (nI j)), some (.int (nI l)), x10], [], x) = zE (d + 9) 94 (123, [some (.ref 0), some (.int (nI A)), some (.int (nI B)), some (.int (nI D)), some (.int w), some (.int (bF E q t ((i * q + j) * q + l) acc).1), some (.int (bF E q t ((i * q + j) * q + l) acc).2), some (.int (nI i)), some (.int (nI (j + 1))), l', x10'], [], y) ∧ (∃ u v z, zHil y 7 (g3 g A B D u v z) n k ∧ u = wvI i) ∧ y 7 7 = h 1 7 ∧ zFr zMT h y := by
                  intro t
                  induction t with
                  | zero =>
                    intro l i j acc x x10 hl hi hj x1 x2 x3
                    obtain ⟨z, x1⟩ := x1
                    have hl : l = q := hl
                    refine ⟨x, some (.int (nI l)), x10, ?_, ⟨_, _, _, x1, rfl⟩, x2, x3⟩
                    rw [E94_0_at154, gt1 x x3, if_pos (show nI l > nI k from nI_lt (by omega) (by omega)), nI_1]
                    rfl
                  | succ t ih =>
                    intro l i j acc x x10 hl hi hj x1 x2 x3
                    obtain ⟨z, x1⟩ := x1
                    have y0 := zHil_W (s := D) (v := wvI l) x1
                    rw [g3_C] at y0
                    obtain ⟨y, ey, y1, y2, y3⟩ := cs (z_up x 10 D (wvI l)) i j l hi hj (by omega) y0 (by rw [z_up_ne (by omega)]; exact x2)
                    have y4 := zFr_tr (frA x D (wvI l) x3) y3
                    rw [E94_0_at154, gt1 x x3, if_neg (show ¬ nI l > nI k from Int32.not_lt.mpr (nI_le (by omega) (by omega))), c_95 (by omega), zCi_some, c_put (n := 10) rfl (by omega), zCv_some, pt_nI (by omega) (by omega), ey, zCi_some, bF, bSt_at hj (by omega)]
                    by_cases r : acc.2 < nI (E i j l)
                    · rw [if_neg (Int32.not_le.mpr r), if_pos r, c_96 (by omega), zCi_some, c_96 (by omega), zCi_some, c_96 (by omega), zCi_some, nI_1]
                      exact ih (l + 1) i j (((100 : Int32) * dgI i + (10 : Int32) * dgI j) + dgI l, nI (E i j l)) y _ (by omega) hi hj ⟨_, y1⟩ y2 y4
                    · rw [if_pos (Int32.not_lt.mp r), if_neg r, nI_1]
                      exact ih (l + 1) i j acc y _ (by omega) hi hj ⟨_, y1⟩ y2 y4
                have l2 : ∀ t j i (acc : Int32 × Int32) x x9 x10, j + t = q → i < q → (∃ u v z, zHil x 7 (g3 g A B D u v z) n k ∧ u = wvI i) → x 7 7 = h 1 7 → zFr zMT h x → ∃ y x8' x9' x10', zE (d + 9) 94 (123, [some (.ref 0), some (.int (nI A)), some (.int (nI B)), some (.int (nI D)), some (.int w), some (.int acc.1), some (.int acc.2), some (.int (nI i)), some (.int (nI j)), x9, x10], [], x) = zE (d + 9) 94 (92, [some (.ref 0), some (.int (nI A)), some (.int (nI B)), some (.int (nI D)), some (.int w), some (.int (bF E q (t * q) ((i * q + j) * q) acc).1), some (.int (bF E q (t * q) ((i * q + j) * q) acc).2), some (.int (nI (i + 1))), x8', x9', x10'], [], y) ∧ (∃ u v z, zHil y 7 (g3 g A B D u v z) n k) ∧ y 7 7 = h 1 7 ∧ zFr zMT h y := by
                  intro t
                  induction t with
                  | zero =>
                    intro j i acc x x9 x10 hj hi x1 x2 x3
                    obtain ⟨u, v, z, x1, _⟩ := x1
                    have hj : j = q := hj
                    refine ⟨x, some (.int (nI j)), x9, x10, ?_, ⟨_, _, _, x1⟩, x2, x3⟩
                    rw [E94_0_at123, gt1 x x3, if_pos (show nI j > nI k from nI_lt (by omega) (by omega)), nI_1, Nat.zero_mul]
                    rfl
                  | succ t ih =>
                    intro j i acc x x9 x10 hj hi x1 x2 x3
                    obtain ⟨u, v, z, x1, rfl⟩ := x1
                    have y0 := zHil_W (s := B) (v := wvI j) x1
                    rw [g3_B nbc] at y0
                    obtain ⟨y, l', x10', ey, y1, y2, y3⟩ := l3 q 0 i j acc (z_up x 10 B (wvI j)) x10 (by omega) hi (by omega) ⟨_, y0⟩ (by rw [z_up_ne (by omega)]; exact x2) (frA x B (wvI j) x3)
                    rw [E94_0_at123, gt1 x x3, if_neg (show ¬ nI j > nI k from Int32.not_lt.mpr (nI_le (by omega) (by omega))), c_95 (by omega), zCi_some, c_put (n := 10) rfl (by omega), zCv_some, pt_nI (by omega) (by omega)]
                    obtain ⟨y', a1, a2, a3, ey', b1, b2, b3⟩ := ih (j + 1) i (bF E q q ((i * q + j) * q) acc) y l' x10' (by omega) hi y1 y2 y3
                    refine ⟨y', a1, a2, a3, ?_, b1, b2, b3⟩
                    rw [show (t + 1) * q = q + t * q by rw [Nat.add_mul, Nat.one_mul, Nat.add_comm], bF_add]
                    rw [show (i * q + (j + 1)) * q = (i * q + j) * q + q by rw [← Nat.add_assoc, Nat.add_mul _ 1, Nat.one_mul]] at ey'
                    exact ey.trans ey'
                have l1 : ∀ t i (acc : Int32 × Int32) x x8 x9 x10, i + t = q → (∃ u v z, zHil x 7 (g3 g A B D u v z) n k) → x 7 7 = h 1 7 → zFr zMT h x → ∃ y, zE (d + 9) 94 (92, [some (.ref 0), some (.int (nI A)), some (.int (nI B)), some (.int (nI D)), some (.int w), some (.int acc.1), some (.int acc.2), some (.int (nI i)), x8, x9, x10], [], x) = some (some (.int (if w = 0 then (bF E q (t * q * q) (i * q * q) acc).1 else (bF E q (t * q * q) (i * q * q) acc).2)), y) ∧ zFr zMT h y := by
                  intro t
                  induction t with
                  | zero =>
                    intro i acc x x8 x9 x10 hi x1 x2 x3
                    have hi : i = q := hi
                    refine ⟨x, ?_, x3⟩
                    rw [E94_0_at92, gt1 x x3, if_pos (show nI i > nI k from nI_lt (by omega) (by omega)), Nat.zero_mul, Nat.zero_mul]
                    by_cases w0 : w = 0
                    · rw [if_pos w0, if_pos w0]; rfl
                    · rw [if_neg w0, if_neg w0]; rfl
                  | succ t ih =>
                    intro i acc x x8 x9 x10 hi x1 x2 x3
                    obtain ⟨u, v, z, x1⟩ := x1
                    have y0 := zHil_W (s := A) (v := wvI i) x1
                    rw [g3_A nab nac] at y0
                    obtain ⟨y, x8', x9', x10', ey, y1, y2, y3⟩ := l2 q 0 i acc (z_up x 10 A (wvI i)) x9 x10 (by omega) (by omega) ⟨_, _, _, y0, rfl⟩ (by rw [z_up_ne (by omega)]; exact x2) (frA x A (wvI i) x3)
                    rw [E94_0_at92, gt1 x x3, if_neg (show ¬ nI i > nI k from Int32.not_lt.mpr (nI_le (by omega) (by omega))), c_95 (by omega), zCi_some, c_put (n := 10) rfl (by omega), zCv_some, pt_nI (by omega) (by omega)]
                    obtain ⟨y', ey', b3⟩ := ih (i + 1) (bF E q (q * q) ((i * q + 0) * q) acc) y x8' x9' x10' (by omega) y1 y2 y3
                    refine ⟨y', ?_, b3⟩
                    rw [show (t + 1) * q * q = q * q + t * q * q by rw [Nat.add_mul t 1, Nat.one_mul, Nat.add_mul, Nat.add_comm], bF_add]
                    rw [show (i + 1) * q * q = i * q * q + q * q by rw [Nat.add_mul i 1, Nat.one_mul, Nat.add_mul], Nat.add_zero] at ey'
                    rw [Nat.add_zero] at ey
                    exact ey.trans ey'
                obtain ⟨h2, e2, F2⟩ := l1 q 0 (0, -1) h1 none none none (by omega) ⟨_, _, _, by rw [g3_0]; exact K1⟩ K7 F1
                rw [Nat.zero_mul, Nat.zero_mul] at e2
                obtain ⟨T, hT⟩ : ∃ T, q * q * q = T + 1 := ⟨q * q * q - 1, by
                  have : 0 < q * q * q := Nat.mul_pos (Nat.mul_pos (by omega) (by omega)) (by omega)
                  omega⟩
                have q36 : q * q ≤ 36 := Nat.mul_le_mul (show q ≤ 6 by omega) (show q ≤ 6 by omega)
                have q216 : q * q * q ≤ 216 := Nat.mul_le_mul q36 (show q ≤ 6 by omega)
                rw [show bF E q (q * q * q) 0 (0, -1) = bF E q (q * q * q) 0 (-9, -9) by rw [hT]; exact bF_first hE2] at e2
                have R2 := Rel0_mv R0 (zPers_mt F2)
                have C2 := RelC_mt C F2
                have s2 : h2 1 7 = h 1 7 := by rw [F2 1 (zMT_n (by omega))]
                have Hk : zHr (kpB h2 1 48) g n k := zHr_mv R2.1.2.2.1 (kpB_32 (by omega)) (kpB_32 (by omega)) (fun a p q => kpB_a (by omega) (by omega))
                have k8 : kpB h2 1 48 32 8 = h 1 7 := by rw [kpB_32 (by omega)]; exact (R2.1.2.2.2.2 0 (by omega)).trans s2
                have kz : rAt0 (kpB h2 1 48) := rAt0_mv R2.2.2.2.2.2 (fun j p q => kpB_32 (by omega))
                have qq0 : ¬ nI q * nI q = 0 := fun z => by
                  rw [nI_mul] at z
                  have := (nI_eq (b := 0) (by omega) (by omega)).mp z
                  have := Nat.mul_pos (show 0 < q by omega) (show 0 < q by omega)
                  omega
                have q0 : ¬ nI q = 0 := fun z => by
                  have := (nI_eq (b := 0) (by omega) (by omega)).mp z
                  omega
                have lr : ∀ t K (acc : Int32 × Int32) x x10, K + t = q * q * q → (∃ u v z, zHr x (g3 g A B D u v z) n k) → (∀ a, a ≠ 32 → a ≠ 36 → a ≠ 44 → a ≠ 45 → x a = kpB h2 1 48 a) → (∀ j, (j < 28 ∨ 35 < j) → x 32 j = kpB h2 1 48 32 j) → (∀ j, 10 ≤ j → x 36 j = kpB h2 1 48 36 j) → ∃ y, zE (d + 9) 185 (96, [some (.ref 32), some (.int (nI A)), some (.int (nI B)), some (.int (nI D)), some (.int w), some (.int 0), some (.int (nI q)), some (.int acc.1), some (.int acc.2), some (.int (nI K)), x10], [], x) = some (some (.int (if w = 0 then (bF E q t K acc).1 else (bF E q t K acc).2)), rdB y 1 48) ∧ (∀ a, a ≠ 32 → a ≠ 36 → a ≠ 44 → a ≠ 45 → y a = kpB h2 1 48 a) ∧ (∀ j, (j < 28 ∨ 35 < j) → y 32 j = kpB h2 1 48 32 j) ∧ (∀ j, 10 ≤ j → y 36 j = kpB h2 1 48 36 j) := by
                  intro t
                  induction t with
                  | zero =>
                    intro K acc x x10 hK x1 x2 x3 x4
                    have hK : K = q * q * q := hK
                    refine ⟨x, ?_, x2, x3, x4⟩
                    rw [E185_32_at96, nI_mul, nI_mul, if_pos (nI_le (by omega) (by omega)), r_174 (d := d + 5), zCv_some]
                    by_cases w0 : w = 0
                    · rw [if_pos w0, if_pos w0]; rfl
                    · rw [if_neg w0, if_neg w0]; rfl
                  | succ t ih =>
                    intro K acc x x10 hK x1 x2 x3 x4
                    obtain ⟨u, v, z, x1⟩ := x1
                    have hq1 : 0 < q := by omega
                    have b1 : K / q / q < q := by rw [Nat.div_div_eq_div_mul]; exact Nat.div_lt_of_lt_mul (by omega)
                    have b2 : K / q % q < q := Nat.mod_lt _ hq1
                    have b3 : K % q < q := Nat.mod_lt _ hq1
                    have kq : K / q ≤ K := Nat.div_le_self _ _
                    have d1 : nI K / (nI q * nI q) = nI (K / q / q) := by rw [nI_mul, nI_div (by omega) (by omega), Nat.div_div_eq_div_mul]
                    have d2 : (nI K / nI q) - (nI K / nI q) / nI q * nI q = nI (K / q % q) := by rw [nI_div (by omega) (by omega)]; exact nI_rem (by omega) (by omega)
                    have d3 : nI K - nI K / nI q * nI q = nI (K % q) := nI_rem (by omega) (by omega)
                    have z1 := zHr_W (s := A) (v := wvI (K / q / q)) x1
                    rw [g3_A nab nac] at z1
                    have z2 := zHr_W (s := B) (v := wvI (K / q % q)) z1
                    rw [g3_B nbc] at z2
                    have z3 := zHr_W (s := D) (v := wvI (K % q)) z2
                    rw [g3_C] at z3
                    generalize hS : z_up (z_up (z_up x 36 A (wvI (K / q / q))) 36 B (wvI (K / q % q))) 36 D (wvI (K % q)) = S at z3
                    have Sn : ∀ a, a ≠ 36 → S a = x a := fun a ha => by rw [← hS, z_up_ne ha, z_up_ne ha, z_up_ne ha]
                    have Sj : ∀ j, 10 ≤ j → S 36 j = x 36 j := fun j hj => by rw [← hS, zu_ni _ _ (by omega), zu_ni _ _ (by omega), zu_ni _ _ (by omega)]
                    obtain ⟨y, ey, y1, y2⟩ := rs S _ _ _ b1 b2 b3 z3 (by rw [Sn 32 (by omega), x3 8 (by omega)]; exact k8) (rAt0_mv kz (fun j p q => by rw [Sn 32 (by omega), x3 j (by omega)]))
                    have y3 : ∀ a, a ≠ 32 → a ≠ 36 → a ≠ 44 → a ≠ 45 → y a = kpB h2 1 48 a := fun a p1 p2 p3 p4 => by rw [y2.1 a p1 p3 p4, Sn a p2, x2 a p1 p2 p3 p4]
                    have y4 : ∀ j, (j < 28 ∨ 35 < j) → y 32 j = kpB h2 1 48 32 j := fun j hj => by rw [y2.2 j hj, Sn 32 (by omega), x3 j hj]
                    have y5 : ∀ j, 10 ≤ j → y 36 j = kpB h2 1 48 36 j := fun j hj => by rw [y2.1 36 (by omega) (by omega) (by omega), Sj j hj, x4 j hj]
                    rw [E185_32_at96, if_neg (show ¬ nI K ≥ nI q * nI q * nI q from by rw [nI_mul, nI_mul]; exact nI_ge (by omega) (by omega)), if_neg qq0, d1, r_186 (by omega) (by omega), zCv_some, if_neg q0, if_neg q0, d2, r_186 (by omega) (by omega), zCv_some, if_neg q0, d3, r_186 (by omega) (by omega), zCv_some, hS, ey, zCi_some, bF]
                    unfold bSt
                    by_cases r : acc.2 < nI (E (K / q / q) (K / q % q) (K % q))
                    · rw [if_pos (show nI (E (K / q / q) (K / q % q) (K % q)) > acc.2 from r), if_pos r, if_neg qq0, r_187 (by omega), zCi_some, if_neg q0, if_neg q0, r_187 (by omega), zCi_some, if_neg q0, r_187 (by omega), zCi_some, nI_1]
                      exact ih (K + 1) (_, _) y _ (by omega) ⟨_, _, _, y1⟩ y3 y4 y5
                    · rw [if_neg (show ¬ nI (E (K / q / q) (K / q % q) (K % q)) > acc.2 from r), if_neg r, nI_1]
                      exact ih (K + 1) acc y _ (by omega) ⟨_, _, _, y1⟩ y3 y4 y5
                obtain ⟨y, e4, y3, y4, y5⟩ := lr (q * q * q) 0 (-9, -9) (kpB h2 1 48) none (by omega) ⟨_, _, _, by rw [g3_0]; exact Hk⟩ (fun _ _ _ _ _ => rfl) (fun _ _ => rfl) (fun _ _ => rfl)
                have PK : zPers h2 (rdB y 1 48) := keep_pers (fun j p q => by rw [y3 43 (by omega) (by omega) (by omega) (by omega)]) (fun a p q j hj => by
                  by_cases z : a = 36
                  · subst z; rw [y5 j (by omega), kpB_a (by omega) (by omega)]
                  · rw [y3 a (by omega) z (by omega) (by omega), kpB_a (by omega) (by omega)]) (fun a p q => by rw [y3 a (by omega) (by omega) (by omega) (by omega), kpB_a (by omega) (by omega)]) (by rw [y3 39 (by omega) (by omega) (by omega) (by omega), kpB_a (by omega) (by omega)]) (by rw [y3 46 (by omega) (by omega) (by omega) (by omega), kpB_a (by omega) (by omega)]) (fun j hj => by rw [y3 43 (by omega) (by omega) (by omega) (by omega), kpB_43 (by omega)]) (fun j hj => by rw [y4 j (by omega), kpB_32 (by omega)])
                refine sim_ok (h1 := h2) (h2 := rdB y 1 48) ((preC h1 e1).trans e2) ?_ ⟨⟨g, n, k, Rel0_mv R2 PK⟩, RelC_mv C2 (by rw [rdB_c (by omega) (by omega), y3 30 (by omega) (by omega) (by omega) (by omega), kpB_a (by omega) (by omega)]) (by rw [rdB_c (by omega) (by omega), y3 33 (by omega) (by omega) (by omega) (by omega), kpB_a (by omega) (by omega)])⟩
                rw [preR h2 R2.1.2.2.1, E185_32_at59, if_pos rfl, r_173 (d := d + 5), zCv_some, R2.1.2.2.1.2.1, nI_1, hq]
                exact e4
              · exact rf (-2) 1 (by omega) (by decide) r_no2 (by
                  have n0 : ¬ w = 0 := fun q => w01 (by rw [q]; decide)
                  have n1 : ¬ w = 1 := fun q => w01 (by rw [q]; decide)
                  rw [E94_0, c_hasS_1 H1 V, if_pos ha, zCi_some, if_neg (by decide), c_hasS_1 H1 V, if_pos hb, zCi_some, if_neg (by decide), c_hasS_1 H1 V, if_pos hc, zCi_some, if_neg (by decide), if_neg ab, if_neg ac, if_neg bc, if_neg n0, if_neg n1, c_rf2, zCi_some]) (by rw [E185_32, r_isS (Hr 1) V, if_pos ha, zCi_some, if_neg (by decide), r_isS (Hr 1) V, if_pos hb, zCi_some, if_neg (by decide), r_isS (Hr 1) V, if_pos hc, zCi_some, if_neg (by decide), if_neg ab, if_neg ac, if_neg bc, r_isIn, if_neg w01, zCi_some, if_pos rfl])
      · exact rf (-1) 0 (by omega) (by decide) r_no1 (by rw [E94_0, c_hasS_1 H1 V, if_pos ha, zCi_some, if_neg (by decide), c_hasS_1 H1 V, if_pos hb, zCi_some, if_neg (by decide), c_hasS_1 H1 V, if_neg hc, zCi_some, if_pos rfl, c_rf1, zCi_some]) (by rw [E185_32, r_isS (Hr 0) V, if_pos ha, zCi_some, if_neg (by decide), r_isS (Hr 0) V, if_pos hb, zCi_some, if_neg (by decide), r_isS (Hr 0) V, if_neg hc, zCi_some, if_pos rfl])
    · exact rf (-1) 0 (by omega) (by decide) r_no1 (by rw [E94_0, c_hasS_1 H1 V, if_pos ha, zCi_some, if_neg (by decide), c_hasS_1 H1 V, if_neg hb, zCi_some, if_pos rfl, c_rf1, zCi_some]) (by rw [E185_32, r_isS (Hr 0) V, if_pos ha, zCi_some, if_neg (by decide), r_isS (Hr 0) V, if_neg hb, zCi_some, if_pos rfl])
  · exact rf (-1) 0 (by omega) (by decide) r_no1 (by rw [E94_0, c_hasS_1 H1 V, if_neg ha, zCi_some, if_pos rfl, c_rf1, zCi_some]) (by rw [E185_32, r_isS (Hr 0) V, if_neg ha, zCi_some, if_pos rfl])

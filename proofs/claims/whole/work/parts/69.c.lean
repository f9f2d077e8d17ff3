theorem fewest0 {d : Nat} {h : zH} (R : Rel h) : ∃ (v : Int32) (h1 h2 : zH), zcal (d + 9) 98 [.ref 0] h = some (some (.int v), h1) ∧ zcal (d + 9) 189 [.ref 32] h1 = some (some (.int v), h2) ∧ Rel h2 := by
  obtain ⟨⟨g, n, k, R0⟩, C⟩ := id R
  have V := R0.1.1
  have hn := V.1
  have hst := R0.1.2.2.2.1.1
  obtain ⟨h1, e1, I, F, R1, C1, s1⟩ := cls_now (e := d + 2) R0 C
  obtain ⟨H, hH, eH⟩ := msk_lt (g := g) hn
  have hp : 2 ^ n ≤ 1024 := Nat.pow_le_pow_right (n := 2) (by omega) hn
  have i8 : h1 7 8 = nI (eN g n k (h 1 7)).1 := by unfold eN; exact I.2.2.1
  have K7 := I.1
  have K77 := I.2.1
  clear I
  have z0le := eN_le (st := h 1 7) V
  have cs : ∀ (x : zH) (G : zHl), zHil x 7 G n k → (∀ r, r ≠ 2 → G r = g r) → x 7 7 = h 1 7 → zFr zMT h x → ∀ i, i < 1024 → ∃ y, zcal (d + 8) 99 [.ref 0, .int (nI i)] x = some (some (.int (nI (eN (gK g i) n k (h 1 7)).1)), y) ∧ zHil y 7 (gK g i) n k ∧ y 7 7 = h 1 7 ∧ zFr zMT h y := fun x G x1 x2 x3 x4 i hi => by
    obtain ⟨y, ey, y1, y2, y3⟩ := c_99 (d := d + 2) V x1 x2 (Rel0_mv R0 (zPers_mt x4)).1.2.1 x3 hi
    exact ⟨y, ey, y1, y2, zFr_tr x4 y3⟩
  have rs : ∀ (x : zH), Rel0 g n k x → x 1 7 = h 1 7 → ∀ i, i < 1024 → ∃ y, zcal (d + 8) 191 [.ref 32, .int (nI i)] x = some (some (.int (nI (eN (gK g i) n k (h 1 7)).1)), y) ∧ zPers x y ∧ y 30 = x 30 ∧ y 33 = x 33 := fun x x1 x2 i hi => by
    have := r_191 (d := d + 2) x1 hi
    rw [x2] at this
    exact this
  have rn : ∀ (x : zH), Rel0 g n k x → x 1 7 = h 1 7 → ∃ y, zcal (d + 8) 176 [.ref 32] x = some (some (.int (nI (eN g n k (h 1 7)).1)), y) ∧ rfF x y := fun x x1 x2 => by
    obtain ⟨y, ey, _, Gy⟩ := ref_now (e := d + 4) x1
    rw [x2] at ey
    unfold eN
    exact ⟨y, ey, Gy⟩
  have hE : ∃ E : Nat → Nat, (∀ i, (eN (gK g i) n k (h 1 7)).1 = E i) ∧ ∀ i, E i ≤ n := ⟨fun i => (eN (gK g i) n k (h 1 7)).1, fun _ => rfl, fun i => eN_le (zVal_K V)⟩
  obtain ⟨E, hE1, hE2⟩ := hE
  simp only [hE1] at cs rs
  clear hE1
  generalize (eN g n k (h 1 7)).1 = z0 at *
  have mk : ∀ i, i < 1024 → isMask (nI i) (fun s => i.testBit s = true) := fun i hi => ⟨i, hi, rfl, fun s _ => Iff.rfl⟩
  have pl : ∀ i, pc 10 i ≤ 10 := fun i => pc_le 10
  have lc : ∀ t i acc x x5 G, i + t = 2 ^ n → acc < 1024 → zHil x 7 G n k → (∀ r, r ≠ 2 → G r = g r) → x 7 7 = h 1 7 → zFr zMT h x → ∃ y, zE (d + 8) 98 (25, [some (.ref 0), some (.int (nI z0)), some (.int (nI H)), some (.int (nI acc)), some (.int (nI i)), x5], [], x) = some (some (.int (nI (uF (fun i => i &&& H = i ∧ z0 ≤ E i) (pc 10) t i acc))), y) ∧ zFr zMT h y := by
    intro t
    induction t with
    | zero =>
      intro i acc x x5 G hi ha x1 x2 x3 x4
      have hi : i = 2 ^ n := hi
      have x15 : x 1 5 = nI n := by rw [x4 1 (zMT_n (by omega))]; exact R0.1.2.1.1
      exact ⟨x, by rw [E98_0_at25, x15, sh10 n (by omega), if_pos (nI_le (by omega) (by omega))]; rfl, x4⟩
    | succ t ih =>
      intro i acc x x5 G hi ha x1 x2 x3 x4
      have x15 : x 1 5 = nI n := by rw [x4 1 (zMT_n (by omega))]; exact R0.1.2.1.1
      have p1 := pl i
      have p2 := pl acc
      rw [E98_0_at25, x15, sh10 n (by omega), if_neg (nI_ge (by omega) (by omega)), c_bits (mk i (by omega)), zCi_some, c_bits (mk acc ha), zCi_some, bc_pc10 i (by omega), bc_pc10 acc ha, uF]
      by_cases q : pc 10 i < pc 10 acc
      · rw [if_neg (show ¬ nI (pc 10 i) ≥ nI (pc 10 acc) from nI_ge q (by omega)), E98_0_at56]
        by_cases s : i &&& H = i
        · obtain ⟨y, ey, y1, y2, y3⟩ := cs x G x1 x2 x3 x4 i (by omega)
          have e1 := hE2 i
          rw [if_pos ((sub_nI (by omega) (by omega)).mpr s), if_neg (by decide), ey, zCi_some, nI_1]
          by_cases w : E i < z0
          · rw [if_pos (nI_lt w (by omega)), if_neg (fun u => by have := u.2.2; omega)]
            exact ih (i + 1) acc y _ (gK g i) (by omega) ha y1 (fun r hr => gK_o hr) y2 y3
          · rw [if_neg (nI_nlt (by omega) (by omega)), if_pos ⟨q, s, by omega⟩]
            exact ih (i + 1) i y _ (gK g i) (by omega) (by omega) y1 (fun r hr => gK_o hr) y2 y3
        · rw [if_neg (fun u => s ((sub_nI (by omega) (by omega)).mp u)), if_neg (fun u => s u.2.1), nI_1]
          exact ih (i + 1) acc x _ G (by omega) ha x1 x2 x3 x4
      · rw [if_pos (show nI (pc 10 i) ≥ nI (pc 10 acc) from nI_le (by omega) (by omega)), E98_0_at56, if_neg (show ¬ (pc 10 i < pc 10 acc ∧ i &&& H = i ∧ z0 ≤ E i) from fun u => q u.1)]
        by_cases s : i &&& H = i
        · rw [if_pos ((sub_nI (by omega) (by omega)).mpr s), if_pos rfl, nI_1]
          exact ih (i + 1) acc x _ G (by omega) ha x1 x2 x3 x4
        · rw [if_neg (fun u => s ((sub_nI (by omega) (by omega)).mp u)), nI_1]
          exact ih (i + 1) acc x _ G (by omega) ha x1 x2 x3 x4
  obtain ⟨h2, e2, F2⟩ := lc (2 ^ n) 0 H h1 none g (by omega) (by omega) K7 (fun _ _ => rfl) K77 F
  have R2 := Rel0_mv R0 (zPers_mt F2)
  have C2 := RelC_mt C F2
  have s2 : h2 1 7 = h 1 7 := by rw [F2 1 (zMT_n (by omega))]
  obtain ⟨h3, e3, G3⟩ := rn h2 R2 s2
  have R3 := Rel0_mv R2 (zPers_rf2 G3)
  have C3 := RelC_rf C2 G3
  have s3 : h3 1 7 = h 1 7 := by rw [G3.1 1 (by omega) (by omega) (by omega), s2]
  have lr : ∀ i acc x, i ≤ 1024 → acc < 1024 → Rel0 g n k x → RelC x → x 1 7 = h 1 7 → ∃ y, zE (d + 8) 189 (15, [some (.ref 32), some (.int (nI H)), some (.int (nI z0)), some (.int (nI acc)), some (.int (nI i + (-1)))], [], x) = some (some (.int (nI (dF (fun i => i &&& H = i ∧ z0 ≤ E i) (pc 10) i acc))), y) ∧ Rel y := by
    intro i
    induction i with
    | zero =>
      intro acc x hi ha x1 x2 x3
      exact ⟨x, by rw [E189_32_at15, if_pos (show nI 0 + (-1) < (0 : Int32) by decide)]; rfl, ⟨⟨g, n, k, x1⟩, x2⟩⟩
    | succ i ih =>
      intro acc x hi ha x1 x2 x3
      have p1 := pl i
      have p2 := pl acc
      rw [m_1 (by omega), E189_32_at15, if_neg (nI_pos (by omega)), dF]
      by_cases s : i &&& H = i
      · rw [if_pos ((sub_nI (by omega) (by omega)).mpr s), r_bits, zCi_some, r_bits, zCi_some, bc_pc10 i (by omega), bc_pc10 acc ha]
        by_cases q : pc 10 acc < pc 10 i
        · rw [if_pos (show nI (pc 10 i) > nI (pc 10 acc) from nI_lt q (by omega)), if_neg (fun u => by have := u.2; omega)]
          exact ih acc x (by omega) ha x1 x2 x3
        · obtain ⟨y, ey, py, y30, y33⟩ := rs x x1 x3 i (by omega)
          have e1 := hE2 i
          have y1 := Rel0_mv x1 py
          have y2 := RelC_mv x2 y30 y33
          have y3 : y 1 7 = h 1 7 := by rw [py.1 1 (by omega) (zMT_n (by omega))]; exact x3
          rw [if_neg (show ¬ nI (pc 10 i) > nI (pc 10 acc) from nI_nlt (by omega) (by omega)), ey, zCi_some]
          by_cases w : E i < z0
          · rw [if_pos (nI_lt w (by omega)), if_neg (fun u => by have := u.1.2; omega)]
            exact ih acc y (by omega) ha y1 y2 y3
          · rw [if_neg (nI_nlt (by omega) (by omega)), if_pos ⟨⟨s, by omega⟩, by omega⟩]
            exact ih i y (by omega) (by omega) y1 y2 y3
      · rw [if_neg (fun u => s ((sub_nI (by omega) (by omega)).mp u)), if_neg (fun u => s u.1.1)]
        exact ih acc x (by omega) ha x1 x2 x3
  obtain ⟨h4, e4, R4⟩ := lr (H + 1) H h3 (by omega) (by omega) R3 C3 s3
  rw [m_1 (by omega)] at e4
  have eq := uF_dF (P := fun i => i &&& H = i ∧ z0 ≤ E i) (b := pc 10) (H := H) (N := 2 ^ n) (fun j pj => ⟨by have := Nat.and_le_right (n := j) (m := H); have e := pj.1; omega, fun e => sub_eq (by have := Nat.and_le_right (n := j) (m := H); have e := pj.1; omega) (by omega) pj.1 e⟩) hH
  rw [← eq] at e4
  refine ⟨nI (uF (fun i => i &&& H = i ∧ z0 ≤ E i) (pc 10) (2 ^ n) 0 H), h2, h4, ?_, ?_, R4⟩
  · rw [E98_0, e1, zCv_some, i8, c_wmask R1.1.2.1 V, eH, zCi_some]
    exact e2
  · rw [E189_32, r_wmask R2.1.2.2.1 V, eH, zCi_some, e3, zCi_some]
    exact e4
theorem sim_fewest {a : Int32} : zSim 97 188 [.int a] := by
  intro d h R
  by_cases a01 : (0 : Int32) ≤ a ∧ a ≤ 1
  · obtain ⟨j, hj, rfl⟩ := nI_num (m := 1) (by omega) a01.1 a01.2
    rcases (show j = 0 ∨ j = 1 by omega) with rfl | rfl
    · obtain ⟨v, h1, h2, e1, e2, R2⟩ := fewest0 (d := d) R
      refine sim_ok (v := .int v) (h1 := h1) (h2 := h2) ?_ ?_ R2
      · rw [E97_0, if_pos (show nI 0 = (0 : Int32) from rfl), e1, zCi_some]
      · rw [E188_32, r_isIn, if_pos a01, zCi_some, if_neg (by decide), if_pos (show nI 0 = (0 : Int32) from rfl), e2, zCi_some]
    · obtain ⟨⟨g, n, k, R0⟩, C⟩ := id R
      have V := R0.1.1
      have hn := V.1
      have hk := V.2.1
      obtain ⟨h1, e1, I, F, R1, C1, s1⟩ := cls_now (e := d + 2) R0 C
      have i8 : h1 7 8 = nI (eN g n k (h 1 7)).1 := by unfold eN; exact I.2.2.1
      obtain ⟨h2, e2, K2, K77, F2⟩ := c_none (d := d + 7) (x1 := h1 7 8) (x2 := 0) V I.1 (R1.1.2.1.1) I.2.1
      clear I
      have F2' := zFr_tr F F2
      have z0le := eN_le (st := h 1 7) V
      have cs : ∀ (x : zH), zHil x 7 (gK g 0) n k → x 7 7 = h 1 7 → zFr zMT h x → ∀ r, r < k → ∃ y, zcal (d + 8) 62 [.ref 19, .ref 7, .int (nI r), .int (-1), .int (-1), .int 0] x = some (none, y) ∧ y 7 8 = nI (eSo g n k r (h 1 7)).1 ∧ zHil y 7 (gK g 0) n k ∧ y 7 7 = h 1 7 ∧ zFr zMT h y := fun x x1 x2 x3 r hr => by
        obtain ⟨y, ey, y1, y2, y3, y4⟩ := c_solo (d := d + 4) V x1 x2 hr
        exact ⟨y, ey, y1, y2, y3, zFr_tr x3 y4⟩
      have rs : ∀ (x : zH), Rel0 g n k x → x 1 7 = h 1 7 → ∀ r, r < k → ∃ y, zcal (d + 9) 192 [.ref 32, .int (nI r)] x = some (some (.int (nI (eSo g n k r (h 1 7)).1)), y) ∧ zPers x y ∧ y 30 = x 30 ∧ y 33 = x 33 := fun x x1 x2 r hr => by
        have := r_192 (d := d + 3) x1 hr
        rw [x2] at this
        exact this
      have rn : ∀ (x : zH), Rel0 g n k x → x 1 7 = h 1 7 → ∃ y, zcal (d + 9) 176 [.ref 32] x = some (some (.int (nI (eN g n k (h 1 7)).1)), y) ∧ rfF x y := fun x x1 x2 => by
        obtain ⟨y, ey, _, Gy⟩ := ref_now (e := d + 5) x1
        rw [x2] at ey
        unfold eN
        exact ⟨y, ey, Gy⟩
      have sl : ∀ r, r < k → (eSo g n k r (h 1 7)).1 ≤ n := fun r hr => eSo_le V hr
      have hE : ∃ E : Nat → Nat, (∀ r, (eSo g n k r (h 1 7)).1 = E r) := ⟨fun r => (eSo g n k r (h 1 7)).1, fun _ => rfl⟩
      obtain ⟨E, hE1⟩ := hE
      simp only [hE1] at cs rs sl
      clear hE1
      generalize (eN g n k (h 1 7)).1 = z0 at *
      have lc : ∀ t r (acc : Int32) x, r + t = k → zHil x 7 (gK g 0) n k → x 7 7 = h 1 7 → zFr zMT h x → ∃ y, zE (d + 8) 100 (48, [some (.ref 0), some (.int (nI z0)), some (.int acc), some (.int (nI r))], [], x) = some (some (.int (sB (fun r => decide (E r < z0)) t r acc)), y) ∧ zFr zMT h y := by
        intro t
        induction t with
        | zero =>
          intro r acc x hr x1 x2 x3
          have hr : r = k := hr
          have x16 : x 1 6 = nI k := by rw [x3 1 (zMT_n (by omega))]; exact R0.1.2.1.2.1
          exact ⟨x, by rw [E100_0_at48, x16, if_pos (nI_le (by omega) (by omega))]; rfl, x3⟩
        | succ t ih =>
          intro r acc x hr x1 x2 x3
          have x16 : x 1 6 = nI k := by rw [x3 1 (zMT_n (by omega))]; exact R0.1.2.1.2.1
          obtain ⟨y, ey, y0, y1, y2, y3⟩ := cs x x1 x2 x3 r (by omega)
          have le := sl r (by omega)
          rw [E100_0_at48, x16, if_neg (nI_ge (by omega) (by omega)), ey, zCv_some, y0, sB, nI_1]
          by_cases q : E r < z0
          · rw [if_pos (nI_lt q (by omega)), if_pos (decide_eq_true q)]
            exact ih (r + 1) acc y (by omega) y1 y2 y3
          · rw [if_neg (nI_nlt (by omega) (by omega)), if_neg (fun u => q (of_decide_eq_true u))]
            exact ih (r + 1) _ y (by omega) y1 y2 y3
      obtain ⟨h3, e3, F3⟩ := lc k 0 0 h2 (by omega) K2 K77 F2'
      have R3 := Rel0_mv R0 (zPers_mt F3)
      have C3 := RelC_mt C F3
      have s3 : h3 1 7 = h 1 7 := by rw [F3 1 (zMT_n (by omega))]
      obtain ⟨h4, e4, G4⟩ := rn h3 R3 s3
      have lr : ∀ t r (acc : Int32) x, r + t = k → Rel0 g n k x → RelC x → x 1 7 = h 1 7 → ∃ y, zE (d + 9) 188 (35, [some (.ref 32), some (.int 1), some (.int (nI z0)), some (.int acc), some (.int (nI r))], [], x) = some (some (.int (sB (fun r => decide (E r < z0)) t r acc)), y) ∧ Rel y := by
        intro t
        induction t with
        | zero =>
          intro r acc x hr x1 x2 x3
          have hr : r = k := hr
          have x16 : x 32 7 = nI k := x1.1.2.2.1.2.1
          exact ⟨x, by rw [E188_32_at35, x16, if_pos (nI_le (by omega) (by omega))]; rfl, ⟨⟨g, n, k, x1⟩, x2⟩⟩
        | succ t ih =>
          intro r acc x hr x1 x2 x3
          have x16 : x 32 7 = nI k := x1.1.2.2.1.2.1
          obtain ⟨y, ey, py, y30, y33⟩ := rs x x1 x3 r (by omega)
          have le := sl r (by omega)
          have y1 := Rel0_mv x1 py
          have y2 := RelC_mv x2 y30 y33
          have y3 : y 1 7 = h 1 7 := by rw [py.1 1 (by omega) (zMT_n (by omega))]; exact x3
          rw [E188_32_at35, x16, if_neg (nI_ge (by omega) (by omega)), ey, zCi_some, sB, nI_1]
          by_cases q : E r < z0
          · rw [if_pos (nI_lt q (by omega)), if_pos (decide_eq_true q), Int32.or_zero]
            exact ih (r + 1) acc y (by omega) y1 y2 y3
          · rw [if_neg (nI_nlt (by omega) (by omega)), if_neg (fun u => q (of_decide_eq_true u))]
            exact ih (r + 1) _ y (by omega) y1 y2 y3
      obtain ⟨h5, e5, R5⟩ := lr k 0 0 h4 (by omega) (Rel0_mv R3 (zPers_rf2 G4)) (RelC_rf C3 G4) (by rw [G4.1 1 (by omega) (by omega) (by omega), s3])
      refine sim_ok (v := .int (sB (fun r => decide (E r < z0)) k 0 0)) (h1 := h3) (h2 := h5) ?_ ?_ R5
      · rw [i8] at e2
        rw [E97_0, if_neg (show ¬ nI 1 = (0 : Int32) by decide), if_pos (show nI 1 = (1 : Int32) from rfl), E100_0, e1, zCv_some, i8, e2]
        have e3 : zE (d + 8) 100 (48, [some (.ref 0), some (.int (nI z0)), some (.int 0), some (.int 0)], [], h2) = _ := e3
        rw [e3, zCi_some]
      · rw [E188_32, r_isIn, if_pos a01, zCi_some, if_neg (by decide), if_neg (show ¬ nI 1 = (0 : Int32) by decide), e4, zCi_some]
        exact e5
  · refine sim_rf R (c := -2) (j := 1) (by omega) ?_ ?_
    · have n0 : ¬ a = 0 := fun q => a01 (by rw [q]; decide)
      have n1 : ¬ a = 1 := fun q => a01 (by rw [q]; decide)
      rw [E97_0, if_neg n0, if_neg n1, c_rf2, zCi_some]
    · rw [E188_32, r_isIn, if_neg a01, zCi_some, if_pos rfl, r_no2, zCi_some]

def wS (P : Nat → Bool) (t w : Nat) : Nat → Nat → Nat → Nat
  | 0, _, a => a
  | s + 1, m, a => wS P t w s (m + 1) (if P m = true then a + t ^ (w - pc w m) else a)
theorem wS_le {P : Nat → Bool} {t w B : Nat} (hB : ∀ m, t ^ (w - pc w m) ≤ B) : ∀ s m a, wS P t w s m a ≤ a + s * B := by
  intro s
  induction s with
  | zero => intro m a; exact Nat.le_add_right _ _
  | succ s ih =>
    intro m a
    rw [wS]
    have h1 := ih (m + 1) (if P m = true then a + t ^ (w - pc w m) else a)
    have h2 := hB m
    rw [Nat.succ_mul]
    by_cases q : P m = true
    · rw [if_pos q] at h1 ⊢; omega
    · rw [if_neg q] at h1 ⊢; omega
theorem pow20 {t e w : Nat} (ht : t ≤ 20) (hw : w ≤ 8) (he : e ≤ w) : t ^ e ≤ 25600000000 := by
  have h1 : t ^ e ≤ 20 ^ e := Nat.pow_le_pow_left ht e
  have h2 : (20 : Nat) ^ e ≤ 20 ^ 8 := Nat.pow_le_pow_right (by omega) (by omega)
  have h3 : (20 : Nat) ^ 8 = 25600000000 := by decide +kernel
  omega
theorem sh_1 : ∀ w : Nat, w < 10 → (1 : Int32) <<< (nI w &&& 31) = nI (2 ^ w) := bit_nI
theorem pow2w {w : Nat} (hw : w ≤ 8) : 2 ^ w ≤ 256 := by
  have h2 : (2 : Nat) ^ w ≤ 2 ^ 8 := Nat.pow_le_pow_right (by omega) hw
  have h3 : (2 : Nat) ^ 8 = 256 := by decide +kernel
  omega
def wF (S D : Nat) (x : Int32) : Int64 := if S = 0 ∨ D = 0 then x.toInt64 else if x = 0 then lq (S / Nat.gcd S D) else lq (D / Nat.gcd S D)
theorem r_pwL {d : Nat} {h : zH} {t w : Nat} {x1 x2 x3 x4 : Int32} {x5 : Int64} (hw : w ≤ 8) (ht : t ≤ 20) (e1 : x1 = nI w) (e2 : x2 = nI t) : ∀ m i, i + m = w → zE d 205 (77, [some (.ref 32), some (.int x1), some (.int x2), some (.int x3), some (.int x4), some (.long x5), none, some (.long (lq (t ^ i))), none, some (.int (nI i)), none, none, none], [], h) = zE d 205 (99, [some (.ref 32), some (.int x1), some (.int x2), some (.int x3), some (.int x4), some (.long x5), none, some (.long (lq (t ^ w))), none, some (.int 0), none, none, none], [], h) := by
  subst e1; subst e2
  intro m
  induction m with
  | zero =>
    intro i hi
    have hi : i = w := hi
    subst hi
    rw [E205_32_at77, if_pos (nI_le (Nat.le_refl _) (by omega))]
  | succ m ih =>
    intro i hi
    rw [E205_32_at77, if_neg (nI_ge (by omega) (by omega)), nI_64 (by omega), lq_mul, nI_1, ← Nat.pow_succ]
    exact ih (i + 1) (by omega)
theorem r_prL {d : Nat} {h : zH} {t w q : Nat} {x3 x4 : Int32} {x5 x7 : Int64} (hw : w ≤ 8) (ht : t < 20) (hq : q < 256) : ∀ m i, i + m = w → zE (d + 1) 205 (113, [some (.ref 32), some (.int (nI w)), some (.int (nI (t + 1))), some (.int x3), some (.int x4), some (.long x5), none, some (.long x7), none, some (.int (nI q)), some (.long (lq (pr t i q))), none, some (.int (nI i))], [], h) = zE (d + 1) 205 (113, [some (.ref 32), some (.int (nI w)), some (.int (nI (t + 1))), some (.int x3), some (.int x4), some (.long x5), none, some (.long x7), none, some (.int (nI q)), some (.long (lq (pr t w q))), none, some (.int (nI w))], [], h) := by
  intro m
  induction m with
  | zero =>
    intro i hi
    have hi : i = w := hi
    subst hi
    rfl
  | succ m ih =>
    intro i hi
    have st : pr t (i + 1) q = if q.testBit i = true then pr t i q else pr t i q * t := rfl
    have hb := has_nI q (by omega) i (by omega)
    rw [E205_32_at113, if_neg (nI_ge (by omega) (by omega)), r_has, zCi_some]
    by_cases z : q.testBit i = true
    · rw [if_pos (hb.mpr z), if_neg (by decide), show (1 : Int64) = lq 1 from rfl, lq_mul, Nat.mul_one, nI_1]
      rw [if_pos z] at st
      have := ih (i + 1) (by omega)
      rw [st] at this
      exact this
    · rw [if_neg (fun u => z (hb.mp u)), if_pos rfl, nI_pred, nI_64 (by omega), lq_mul, nI_1]
      rw [if_neg z] at st
      have := ih (i + 1) (by omega)
      rw [st] at this
      exact this
theorem sim_wind {a b c : Int32} : zSim 105 205 [.int a, .int b, .int c] := by
  intro d h R
  obtain ⟨⟨g, n, k, R0⟩, C⟩ := id R
  have V := R0.1.1
  have hn := V.1
  have hst := R0.1.2.2.2.1.1
  have c15 : h 1 5 = nI n := R0.1.2.1.1
  have r6 : ∀ j, (refC h j) 32 6 = nI n := fun j => (Rel0_c (j := j) R0).1.2.2.1.1
  have rf : ∀ (cc : Int32) (j : Nat), j < 6 → (-cc) - 1 = nI j → -cc = nI (j + 1) → cc ≠ 0 → zcal (d + 10) 105 [.ref 0, .int a, .int b, .int c] h = zCi (zcal (d + 9) 5 [.ref 0, .int cc] h) (fun v2 h1 => some (some (.long ((4000000000000000000 : Int64) - (v2).toInt64)), h1)) → zcal (d + 10) 205 [.ref 32, .int a, .int b, .int c] (refC h j) = zE (d + 9) 205 (54, [some (.ref 32), some (.int a), some (.int b), some (.int c), none, none, none, none, none, none, none, none, none], [.int cc], refC h j) → ∃ (v : Value) (h1 h2 : zH), zcal (d + 10) 105 [.ref 0, .int a, .int b, .int c] h = some (some v, h1) ∧ zcal (d + 10) 205 [.ref 32, .int a, .int b, .int c] h1 = some (some v, h2) ∧ Rel h2 := by
    intro cc j hj q1 q2 q3 ec er
    refine ⟨.long ((4000000000000000000 : Int64) - cc.toInt64), refC h j, refR (refC h j) j, ?_, ?_, Rel_ref hj R⟩
    · rw [ec, c_ref (d := d + 7) hj q1, zCi_some]
      rfl
    · rw [er, E205_32_at54, if_neg q3, r_low (d := d + 8) hj q2, zCl_some]
      rfl
  by_cases a0 : a < 0
  · exact rf (-4) 3 (by omega) (by decide) (by decide) (by decide) (by rw [E105_0, if_pos a0]) (by rw [E205_32, if_pos a0])
  · by_cases b2 : b ≥ 2
    · by_cases a8 : a > 8
      · exact rf (-6) 5 (by omega) (by decide) (by decide) (by decide) (by rw [E105_0, if_neg a0, if_pos b2, if_pos a8]) (by rw [E205_32, if_neg a0, if_pos b2, if_pos a8])
      · by_cases an : a > nI n
        · exact rf (-6) 5 (by omega) (by decide) (by decide) (by decide) (by rw [E105_0, if_neg a0, if_pos b2, if_neg a8, c15, if_pos an]) (by rw [E205_32, if_neg a0, if_pos b2, if_neg a8, r6, if_pos an])
        · by_cases b20 : b ≤ 20
          · obtain ⟨w, hw, rfl⟩ := nI_num (m := 8) (by omega) (Int32.not_lt.mp a0) (Int32.not_lt.mp a8)
            obtain ⟨t, ht1, ht, rfl⟩ := nI_mid (lo := 2) (hi := 20) (by omega) (by omega) (show nI 2 ≤ b from b2) b20
            obtain ⟨t, rfl⟩ : ∃ t', t = t' + 1 := ⟨t - 1, by omega⟩
            by_cases ok : c = 0 ∨ c = 1
            · have in1 : (0 : Int32) ≤ c ∧ c ≤ 1 := by rcases ok with rfl | rfl <;> decide
              obtain ⟨h1, e1, K1, K7, F1⟩ := c_like (d := d + 6) R0.1.2.1 V
              have w2 := pow2w hw
              have cs : ∀ (x : zH), zHil x 7 g n k → x 7 7 = h 1 7 → ∀ m, m < 1024 → ∃ y : zH, zcal (d + 9) 62 [.ref 19, .ref 7, .int 0, .int (-1), .int (-1), .int (nI m)] x = some (none, y) ∧ (y 7 11 = 3 ↔ decide ((eWd g n k m (h 1 7)).2.2.2 = 3) = true) ∧ zHil y 7 g n k ∧ y 7 7 = h 1 7 ∧ zFr zMT x y := fun x x1 x2 m hm => by
                obtain ⟨y, ey, y1, y2, y3, y4⟩ := c_wd (d := d + 5) x1 V hm
                rw [x2] at y1 y3
                exact ⟨y, ey, by rw [y1]; exact decide_eq_true_iff.symm, y2, y3, y4⟩
              have rs : ∀ (x : zH), Rel0 g n k x → x 1 7 = h 1 7 → ∀ m, m < 1024 → ∃ y : zH, zcal (d + 9) 194 [.ref 32] (z_up x 32 38 (nI m)) = some (some (.int (if decide ((eWd g n k m (h 1 7)).2.2.2 = 3) = true then 1 else 0)), y) ∧ rfF x (z_up y 32 38 0) := fun x x1 x2 m hm => by
                have z8 : z_up x 32 38 (nI m) 32 8 = h 1 7 := by rw [zu_ni _ _ (by omega)]; exact (x1.1.2.2.2.2 0 (by omega)).trans x2
                obtain ⟨y, ey, G⟩ := r_wd (d := d + 4) (x := z_up x 32 38 (nI m)) (m := m) (zHr_mv x1.1.2.2.1 (zu_ni _ _ (by omega)) (zu_ni _ _ (by omega)) (fun a p q => z_up_ne (by omega))) V (by rw [z8]; exact hst) (by rw [zu_ni _ _ (by omega)]; exact x1.2.2.2.2.2.1) (by rw [zu_ni _ _ (by omega)]; exact x1.2.2.2.2.2.2.1) (zu_eq _ _ _ _) hm
                rw [z8] at ey
                refine ⟨y, ?_, fun a q1 q2 q3 => by rw [z_up_ne q1, G.1 a q1 q2 q3, z_up_ne q1], fun j hj => ?_⟩
                · rw [ey]
                  by_cases q : (eWd g n k m (h 1 7)).2.2.2 = 3
                  · rw [if_pos q, if_pos (decide_eq_true q)]
                  · rw [if_neg q, if_neg (fun z => q (of_decide_eq_true z))]
                · rw [zu_ap]
                  by_cases z : j = 38
                  · rw [if_pos ⟨rfl, z⟩, z]; exact x1.2.2.2.2.2.2.2.symm
                  · rw [if_neg (fun u => z u.2), G.2 j hj, zu_ni _ _ z]
              generalize hP : (fun m => decide ((eWd g n k m (h 1 7)).2.2.2 = 3)) = P
              have ed : ∀ m, decide ((eWd g n k m (h 1 7)).2.2.2 = 3) = P m := fun m => by rw [← hP]
              simp only [ed] at cs rs
              clear hP ed
              have hB : ∀ m, t ^ (w - pc w m) ≤ 25600000000 := fun m => pow20 (by omega) hw (by omega)
              have hS := fun s m a => wS_le (P := P) hB s m a
              have hD : (t + 1) ^ w ≤ 25600000000 := pow20 (by omega) hw (Nat.le_refl _)
              have D0 : (t + 1) ^ w ≠ 0 := Nat.ne_of_gt (Nat.pow_pos (by omega))
              have p43 : (2 : Nat) ^ 43 = 8796093022208 := by decide +kernel
              have S43 : wS P t w (2 ^ w) 0 0 < 2 ^ 43 := by
                have := hS (2 ^ w) 0 0
                have h2 : 2 ^ w * 25600000000 ≤ 256 * 25600000000 := Nat.mul_le_mul_right _ w2
                omega
              have lc : ∀ s m acc x, m + s = 2 ^ w → wS P t w s m acc = wS P t w (2 ^ w) 0 0 → zHil x 7 g n k → x 7 7 = h 1 7 → zFr zMT h x → ∃ y, zE (d + 9) 105 (94, [some (.ref 0), some (.int (nI w)), some (.int (nI (t + 1))), some (.int c), some (.long (lq acc)), none, some (.int (nI m))], [], x) = some (some (.long (wF (wS P t w (2 ^ w) 0 0) ((t + 1) ^ w) c)), y) ∧ zFr zMT h y := by
                intro s
                induction s with
                | zero =>
                  intro m acc x hm hw2 x1 x2 x3
                  have hm : m = 2 ^ w := hm
                  have hw2 : acc = wS P t w (2 ^ w) 0 0 := hw2
                  subst hm; subst hw2
                  refine ⟨x, ?_, x3⟩
                  rw [E105_0_at94, sh_1 w (by omega), if_pos (nI_le (Nat.le_refl _) (by omega)), nI_64 (by omega), c_pow (d := d + 8) (by omega), zCl_some, c_lowB (d := d + 8) S43 (by omega), zCl_some]
                  rfl
                | succ s ih =>
                  intro m acc x hm hw2 x1 x2 x3
                  obtain ⟨y, ey, y1, y2, y3, y4⟩ := cs x x1 x2 m (by omega)
                  rw [E105_0_at94, sh_1 w (by omega), if_neg (nI_ge (by omega) (by omega)), ey, zCv_some]
                  rw [wS] at hw2
                  by_cases q : P m = true
                  · have pl := (pr_pc (t := t) (m := m) w).2
                    have mk : isMask (nI m) (fun s => m.testBit s = true) := ⟨m, by omega, rfl, fun s _ => Iff.rfl⟩
                    rw [if_pos q] at hw2
                    rw [if_pos (y1.mpr q), c_bits (d := d + 8) mk, zCi_some, bc_pc w (by omega) m (by omega), nI_sb pl, nI_pred, nI_64 (by omega), c_pow (d := d + 8) (by omega), zCl_some, lq_add, nI_1]
                    exact ih (m + 1) _ y (by omega) hw2 y2 y3 (zFr_tr x3 y4)
                  · rw [if_neg q] at hw2
                    rw [if_neg (fun z => q (y1.mp z)), nI_1]
                    exact ih (m + 1) _ y (by omega) hw2 y2 y3 (zFr_tr x3 y4)
              obtain ⟨h2, e2, F2⟩ := lc (2 ^ w) 0 0 h1 (by omega) rfl K1 K7 F1
              have R2 := Rel0_mv R0 (zPers_mt F2)
              have C2 := RelC_mt C F2
              have s2 : h2 1 7 = h 1 7 := by rw [F2 1 (zMT_n (by omega))]
              have lr : ∀ s m acc x (x10 x12 : Option Value), m + s = 2 ^ w → wS P t w s m acc = wS P t w (2 ^ w) 0 0 → rfF h2 (z_up x 32 38 0) → ∃ y, zE (d + 9) 205 (99, [some (.ref 32), some (.int (nI w)), some (.int (nI (t + 1))), some (.int c), some (.int 0), some (.long (lq acc)), none, some (.long (lq ((t + 1) ^ w))), none, some (.int (nI m)), x10, none, x12], [], x) = some (some (.long (wF (wS P t w (2 ^ w) 0 0) ((t + 1) ^ w) c)), y) ∧ rfF h2 y := by
                intro s
                induction s with
                | zero =>
                  intro m acc x x10 x12 hm hw2 hx
                  have hm : m = 2 ^ w := hm
                  have hw2 : acc = wS P t w (2 ^ w) 0 0 := hw2
                  subst hm; subst hw2
                  refine ⟨z_up x 32 38 0, ?_, hx⟩
                  rw [E205_32_at99, sh_1 w (by omega), if_pos (nI_le (Nat.le_refl _) (by omega)), r_lowB (d := d + 7) ok S43 (by omega) D0, zCl_some]
                  rfl
                | succ s ih =>
                  intro m acc x x10 x12 hm hw2 hx
                  have Rx := Rel0_mv R2 (zPers_rf2 hx)
                  obtain ⟨y, ey, Gy⟩ := rs _ Rx (by rw [hx.1 1 (by omega) (by omega) (by omega), s2]) m (by omega)
                  rw [z_up2] at ey
                  have pe := (pr_pc (t := t) (m := m) w).1
                  have l := r_prL (d := d + 8) (h := x) (t := t) (w := w) (q := m) (x3 := c) (x4 := 0) (x5 := lq acc) (x7 := lq ((t + 1) ^ w)) hw (by omega) (by omega) w 0 (by omega)
                  have l : zE (d + 9) 205 (113, [some (.ref 32), some (.int (nI w)), some (.int (nI (t + 1))), some (.int c), some (.int 0), some (.long (lq acc)), none, some (.long (lq ((t + 1) ^ w))), none, some (.int (nI m)), some (.long (1 : Int64)), none, some (.int 0)], [], x) = _ := l
                  rw [E205_32_at99, sh_1 w (by omega), if_neg (nI_ge (by omega) (by omega)), l, E205_32_at113, if_pos (nI_le (Nat.le_refl _) (by omega)), ey, zCi_some]
                  rw [wS] at hw2
                  by_cases q : P m = true
                  · rw [if_pos q] at hw2
                    rw [if_pos q, if_neg (by decide), lq_add, nI_1, pe]
                    exact ih (m + 1) _ y _ _ (by omega) hw2 (rfF_tr hx Gy)
                  · rw [if_neg q] at hw2
                    rw [if_neg q, if_pos rfl, show (0 : Int64) = lq 0 from rfl, lq_add, Nat.add_zero, nI_1]
                    exact ih (m + 1) _ y _ _ (by omega) hw2 (rfF_tr hx Gy)
              have i38 : z_up h2 32 38 0 = h2 := by
                have := z_up_id h2 32 38
                rw [R2.2.2.2.2.2.2.2] at this
                exact this
              obtain ⟨h3, e3, G3⟩ := lr (2 ^ w) 0 0 h2 none none (by omega) rfl (by rw [i38]; exact rfF_rf)
              refine sim_ok (v := .long (wF (wS P t w (2 ^ w) 0 0) ((t + 1) ^ w) c)) (h1 := h2) (h2 := h3) ?_ ?_ (Rel_of R2 C2 G3)
              · rw [E105_0, if_neg a0, if_pos b2, if_neg a8, c15, if_neg an, if_pos b20]
                by_cases q0 : c = 0
                · rw [if_pos q0, e1, zCv_some]; exact e2
                · rw [if_neg q0, if_pos (by rcases ok with q | q; exact absurd q q0; exact q), e1, zCv_some]; exact e2
              · have r26 : h2 32 6 = nI n := R2.1.2.2.1.1
                rw [E205_32, if_neg a0, if_pos b2, if_neg a8, r26, if_neg an, if_pos b20, r_isIn, if_pos in1, zCi_some, if_neg (by decide), E205_32_at54, if_pos rfl]
                have l := r_pwL (d := d + 9) (h := h2) (t := t + 1) (w := w) (x1 := nI w) (x2 := nI (t + 1)) (x3 := c) (x4 := 0) (x5 := lq 0) hw (by omega) rfl rfl w 0 (by omega)
                exact l.trans e3
            · have n0 : ¬ c = 0 := fun q => ok (Or.inl q)
              have n1 : ¬ c = 1 := fun q => ok (Or.inr q)
              have nn : ¬ ((0 : Int32) ≤ c ∧ c ≤ 1) := fun q => by
                obtain ⟨x, hx, rfl⟩ := nI_num (m := 1) (by omega) q.1 q.2
                have : x = 0 ∨ x = 1 := by omega
                rcases this with rfl | rfl
                · exact n0 rfl
                · exact n1 rfl
              exact rf (-2) 1 (by omega) (by decide) (by decide) (by decide) (by rw [E105_0, if_neg a0, if_pos b2, if_neg a8, c15, if_neg an, if_pos b20, if_neg n0, if_neg n1]) (by rw [E205_32, if_neg a0, if_pos b2, if_neg a8, r6, if_neg an, if_pos b20, r_isIn, if_neg nn, zCi_some, if_pos rfl])
          · exact rf (-6) 5 (by omega) (by decide) (by decide) (by decide) (by rw [E105_0, if_neg a0, if_pos b2, if_neg a8, c15, if_neg an, if_neg b20]) (by rw [E205_32, if_neg a0, if_pos b2, if_neg a8, r6, if_neg an, if_neg b20])
    · exact rf (-4) 3 (by omega) (by decide) (by decide) (by decide) (by rw [E105_0, if_neg a0, if_neg b2]) (by rw [E205_32, if_neg a0, if_neg b2])

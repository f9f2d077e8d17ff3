/-! A STRETCH LEFT OUT -/
section CUT
def gC (g : zHl) (s : Nat) : zHl := fun r j => if r ≤ 2 ∧ s ≤ j then g r (j + 1) else g r j
def gCp (g : zHl) (s i : Nat) : zHl := fun r j => if r ≤ 2 ∧ s ≤ j ∧ j < i then g r (j + 1) else g r j
theorem gC_o {g : zHl} {s r : Nat} (hr : 2 < r) : gC g s r = g r := by
  funext j
  exact if_neg (fun q => absurd q.1 (by omega))
theorem gCp_o {g : zHl} {s i r : Nat} (hr : 2 < r) : gCp g s i r = g r := by
  funext j
  exact if_neg (fun q => absurd q.1 (by omega))
theorem gCp_0 {g : zHl} {s r j : Nat} : gCp g s s r j = g r j := if_neg (fun q => by omega)
theorem gCp_n {g : zHl} {s i r : Nat} : gCp g s i r (i + 1) = g r (i + 1) := if_neg (fun q => by omega)
theorem gCp_s {g : zHl} {s i r j : Nat} (hr : r ≤ 2) (hs : s ≤ i) : gCp g s (i + 1) r j = if j = i then g r (i + 1) else gCp g s i r j := by
  unfold gCp
  by_cases e : j = i
  · rw [if_pos e, e, if_pos ⟨hr, hs, by omega⟩]
  · rw [if_neg e]
    by_cases c : r ≤ 2 ∧ s ≤ j ∧ j < i
    · rw [if_pos c, if_pos ⟨c.1, c.2.1, by omega⟩]
    · rw [if_neg c, if_neg (fun q => c ⟨q.1, q.2.1, by omega⟩)]
theorem gCp_m {g : zHl} {s m r j : Nat} (hj : j < m) : gCp g s m r j = gC g s r j := by
  unfold gCp gC
  by_cases c : r ≤ 2 ∧ s ≤ j
  · rw [if_pos c, if_pos ⟨c.1, c.2, hj⟩]
  · rw [if_neg c, if_neg (fun q => c ⟨q.1, q.2.1⟩)]
theorem zVal_C {g : zHl} {m k s : Nat} (V : zVal g (m + 1) k) : zVal (gC g s) m k := by
  obtain ⟨v1, v2, v3, v4⟩ := V
  refine ⟨by omega, v2, fun j hj => ?_, fun r h => ?_⟩
  · unfold gC
    by_cases c : s ≤ j
    · rw [if_pos ⟨by omega, c⟩, if_pos ⟨by omega, c⟩, if_pos ⟨by omega, c⟩]
      exact v3 (j + 1) (by omega)
    · rw [if_neg (fun q => c q.2), if_neg (fun q => c q.2), if_neg (fun q => c q.2)]
      exact v3 j (by omega)
  · rw [gC_o (by omega), gC_o (by omega)]; exact v4 r h
/-- three rows moved up by one at a place -/
def cRw (h : zH) (a i : Nat) : zH := z_up (z_up (z_up h a i (h a (i + 1))) (a + 1) i (h (a + 1) (i + 1))) (a + 2) i (h (a + 2) (i + 1))
theorem cRw_ne {h : zH} {a i c : Nat} (hc : c < a ∨ a + 2 < c) : cRw h a i c = h c := by unfold cRw; rw [z_up_ne (by omega), z_up_ne (by omega), z_up_ne (by omega)]
theorem cRw_v {h : zH} {a i c j : Nat} (hc : a ≤ c) (hc2 : c ≤ a + 2) : cRw h a i c j = if j = i then h c (i + 1) else h c j := by
  unfold cRw
  rcases (show c = a ∨ c = a + 1 ∨ c = a + 2 by omega) with rfl | rfl | rfl
  · rw [zu_nc _ _ (by omega), zu_nc _ _ (by omega), zu_ap]
    by_cases e : j = i
    · rw [if_pos ⟨rfl, e⟩, if_pos e]
    · rw [if_neg (fun q => e q.2), if_neg e]
  · rw [zu_nc _ _ (by omega), zu_ap, zu_nc _ _ (by omega)]
    by_cases e : j = i
    · rw [if_pos ⟨rfl, e⟩, if_pos e]
    · rw [if_neg (fun q => e q.2), if_neg e]
  · rw [zu_ap, zu_nc _ _ (by omega), zu_nc _ _ (by omega)]
    by_cases e : j = i
    · rw [if_pos ⟨rfl, e⟩, if_pos e]
    · rw [if_neg (fun q => e q.2), if_neg e]
def cIs (h : zH) (a : Nat) (f : zHl) (n : Nat) : Prop := ∀ r j, r ≤ 2 → j < n → h (a + r) j = f r j
theorem cIs_s {h : zH} {a s i m : Nat} {g : zHl} (hs : s ≤ i) (hi : i < m) (H : cIs h a (gCp g s i) (m + 1)) : cIs (cRw h a i) a (gCp g s (i + 1)) (m + 1) := by
  intro r j hr hj
  rw [cRw_v (by omega) (by omega), gCp_s hr hs, H r (i + 1) hr (by omega), gCp_n, H r j hr hj]
theorem c_110 {d : Nat} {x : zH} {g : zHl} {m k s : Nat} (H : zHil x 7 g (m + 1) k) (V : zVal g (m + 1) k) (hs : s ≤ m) : ∃ y, zcal (d + 2) 110 [.ref 7, .int (nI s)] x = some (none, y) ∧ zHil y 7 (gC g s) m k ∧ y 7 7 = x 7 7 ∧ ∀ a, a ≠ 7 → a ≠ 8 → a ≠ 9 → a ≠ 10 → y a = x a := by
  have hn := V.1
  have n1 : nI (m + 1) - 1 = nI m := by rw [← nI_1, nI_p1]
  have lp : ∀ t i z, i + t = m → s ≤ i → cIs z 8 (gCp g s i) (m + 1) → z 7 = x 7 → (∀ a, a ≠ 8 → a ≠ 9 → a ≠ 10 → z a = x a) → ∃ y, zE (d + 1) 110 (11, [some (.ref 7), some (.int (nI s)), some (.int (nI i))], [], z) = some (none, z_up y 7 5 (nI m)) ∧ cIs y 8 (gC g s) m ∧ y 7 = x 7 ∧ ∀ a, a ≠ 8 → a ≠ 9 → a ≠ 10 → y a = x a := by
    intro t
    induction t with
    | zero =>
      intro i z hi hsi z1 z2 z3
      have hi : i = m := hi
      subst hi
      refine ⟨z, ?_, fun r j hr hj => by rw [z1 r j hr (by omega), gCp_m hj], z2, z3⟩
      rw [E110_7_at11, z2, H.1, n1, if_pos (nI_le (by omega) (by omega))]
    | succ t ih =>
      intro i z hi hsi z1 z2 z3
      rw [E110_7_at11, z2, H.1, n1, if_neg (nI_ge (by omega) (by omega)), nI_1, c_get (n := 10) rfl (by omega), zCi_some, gt_nI (by omega) (by omega), c_put (n := 10) rfl (by omega), zCv_some, pt_nI (by omega) (by omega), c_get (n := 10) rfl (by omega), zCi_some, gt_nI (by omega) (by omega), c_put (n := 10) rfl (by omega), zCv_some, pt_nI (by omega) (by omega), c_get (n := 10) rfl (by omega), zCi_some, gt_nI (by omega) (by omega), c_put (n := 10) rfl (by omega), zCv_some, pt_nI (by omega) (by omega), zu_nc _ _ (show (9 : Nat) ≠ 8 by omega), zu_nc _ _ (show (10 : Nat) ≠ 9 by omega), zu_nc _ _ (show (10 : Nat) ≠ 8 by omega)]
      have z4 : cIs (cRw z 8 i) 8 (gCp g s (i + 1)) (m + 1) := cIs_s hsi (by omega) z1
      exact ih (i + 1) (cRw z 8 i) (by omega) (by omega) z4 ((cRw_ne (by omega)).trans z2) (fun a q1 q2 q3 => (cRw_ne (by omega)).trans (z3 a q1 q2 q3))
  obtain ⟨y, ey, y1, y2, y3⟩ := lp (m - s) s x (by omega) (by omega) (fun r j hr hj => by
    rw [gCp_0]
    obtain ⟨q1, q2, q3⟩ := H.2.2.1 j hj
    rcases (show r = 0 ∨ r = 1 ∨ r = 2 by omega) with rfl | rfl | rfl
    · exact q1
    · exact q2
    · exact q3) rfl (fun _ _ _ _ => rfl)
  refine ⟨z_up y 7 5 (nI m), ?_, ⟨zu_eq _ _ _ _, ?_, fun j hj => ⟨?_, ?_, ?_⟩, fun r hr => ?_⟩, ?_, fun a q1 q2 q3 q4 => by rw [z_up_ne q1, y3 a q2 q3 q4]⟩
  · rw [E110_7, c_hasS_7 H V, if_pos ⟨nI_pos' (by omega), nI_lt (by omega) (by omega)⟩, zCi_some, if_neg (by decide)]
    exact ey
  · rw [zu_ni _ _ (by omega), y2]; exact H.2.1
  · rw [z_up_ne (a := 7 + 1) (by omega)]; exact y1 0 j (by omega) hj
  · rw [z_up_ne (a := 7 + 2) (by omega)]; exact y1 1 j (by omega) hj
  · rw [z_up_ne (a := 7 + 3) (by omega)]; exact y1 2 j (by omega) hj
  · rw [z_up_ne (a := 7 + 4) (by omega), z_up_ne (a := 7 + 5) (by omega), y3 (7 + 4) (by omega) (by omega) (by omega), y3 (7 + 5) (by omega) (by omega) (by omega), gC_o (by omega), gC_o (by omega)]; exact H.2.2.2 r hr
  · rw [zu_ni _ _ (by omega), y2]
theorem r_216 {d : Nat} {x : zH} {g : zHl} {m k s : Nat} (R : Rel0 g (m + 1) k x) (hs : s ≤ m) : ∃ y, zcal (d + 6) 216 [.ref 32, .int (nI s)] x = some (some (.int (if (eN (gC g s) m k (x 1 7)).2.2.2 = 3 then 1 else 0)), y) ∧ zPers x y ∧ y 30 = x 30 ∧ y 33 = x 33 := by
  have V := R.1.1
  have hn := V.1
  have n1 : nI (m + 1) - 1 = nI m := by rw [← nI_1, nI_p1]
  have Hk : zHr (kpB x 1 48) g (m + 1) k := zHr_mv R.1.2.2.1 (kpB_32 (by omega)) (kpB_32 (by omega)) (fun a p q => kpB_a (by omega) (by omega))
  have lp : ∀ t i z, i + t = m → s ≤ i → cIs z 34 (gCp g s i) (m + 1) → z 32 6 = nI m → ∃ y, zE (d + 5) 216 (16, [some (.ref 32), some (.int (nI s)), some (.int (nI i))], [], z) = zE (d + 5) 216 (16, [some (.ref 32), some (.int (nI s)), some (.int (nI m))], [], y) ∧ cIs y 34 (gC g s) m ∧ (∀ a, a < 34 ∨ 36 < a → y a = z a) ∧ ∀ a j, 10 ≤ j → y a j = z a j := by
    intro t
    induction t with
    | zero =>
      intro i z hi hsi z1 z2
      have hi : i = m := hi
      subst hi
      exact ⟨z, rfl, fun r j hr hj => by rw [z1 r j hr (by omega), gCp_m hj], fun _ _ => rfl, fun _ _ _ => rfl⟩
    | succ t ih =>
      intro i z hi hsi z1 z2
      rw [E216_32_at16, z2, if_neg (nI_ge (by omega) (by omega)), nI_1, zG_nI (by omega) (by omega), zG_nI (by omega) (by omega), zG_nI (by omega) (by omega), zG_nI (by omega) (by omega), zG_nI (by omega) (by omega), zG_nI (by omega) (by omega), nI_tn (by omega), nI_tn (by omega)]
      have ee : z_up (z_up (z_up z 34 i (z 34 (i + 1))) 35 i (z 35 (i + 1))) 36 i (z 36 (i + 1)) = cRw z 34 i := rfl
      rw [ee]
      obtain ⟨y, ey, y1, y2, y3⟩ := ih (i + 1) (cRw z 34 i) (by omega) (by omega) (cIs_s hsi (by omega) z1) (by rw [cRw_ne (by omega)]; exact z2)
      refine ⟨y, ey, y1, fun a ha => (y2 a ha).trans (cRw_ne (by omega)), fun a j hj => (y3 a j hj).trans ?_⟩
      unfold cRw
      rw [zu_ni _ _ (by omega), zu_ni _ _ (by omega), zu_ni _ _ (by omega)]
  generalize hS : z_up (kpB x 1 48) 32 6 (nI m) = S
  have Sn : ∀ a, a ≠ 32 → S a = kpB x 1 48 a := fun a ha => by rw [← hS, z_up_ne ha]
  have Sj : ∀ j, j ≠ 6 → S 32 j = kpB x 1 48 32 j := fun j hj => by rw [← hS, zu_ni _ _ hj]
  have S6 : S 32 6 = nI m := by rw [← hS, zu_eq]
  obtain ⟨w, ew, w1, w2, w3⟩ := lp (m - s) s S (by omega) (by omega) (fun r j hr hj => by
    rw [gCp_0, Sn _ (by omega)]
    obtain ⟨q1, q2, q3⟩ := Hk.2.2.1 j hj
    rcases (show r = 0 ∨ r = 1 ∨ r = 2 by omega) with rfl | rfl | rfl
    · exact q1
    · exact q2
    · exact q3) S6
  have Hw : zHr w (gC g s) m k := ⟨by rw [w2 32 (by omega)]; exact S6, by rw [w2 32 (by omega), Sj 7 (by omega)]; exact Hk.2.1, fun j hj => ⟨w1 0 j (by omega) hj, w1 1 j (by omega) hj, w1 2 j (by omega) hj⟩, fun r hr => by rw [w2 37 (by omega), w2 38 (by omega), Sn 37 (by omega), Sn 38 (by omega), gC_o (by omega), gC_o (by omega)]; exact Hk.2.2.2 r hr⟩
  have W8 : w 32 8 = x 1 7 := by rw [w2 32 (by omega), Sj 8 (by omega), kpB_32 (by omega)]; exact R.1.2.2.2.2 0 (by omega)
  obtain ⟨y, ey, G⟩ := r_194 (d := d) (zVal_C (s := s) V) Hw (rAt0_mv R.2.2.2.2.2 (fun j p q => by rw [w2 32 (by omega), Sj j (by omega), kpB_32 (by omega)])) W8 R.1.2.2.2.1.1
  have all : ∀ a, a ≠ 32 → a ≠ 44 → a ≠ 45 → (a < 34 ∨ 36 < a) → y a = kpB x 1 48 a := fun a q1 q2 q3 q4 => by rw [G.1 a q1 q2 q3, w2 a q4, Sn a q1]
  refine ⟨rdB y 1 48, ?_, keep_pers (fun j p q => by rw [all 43 (by omega) (by omega) (by omega) (by omega)]) (fun a p q j hj => ?_) (fun a p q => by rw [all a (by omega) (by omega) (by omega) (by omega), kpB_a (by omega) (by omega)]) (by rw [all 39 (by omega) (by omega) (by omega) (by omega), kpB_a (by omega) (by omega)]) (by rw [all 46 (by omega) (by omega) (by omega) (by omega), kpB_a (by omega) (by omega)]) (fun j hj => by rw [all 43 (by omega) (by omega) (by omega) (by omega), kpB_43 (by omega)]) (fun j hj => by rw [G.2 j (by omega), w2 32 (by omega), Sj j (by omega), kpB_32 (by omega)]), by rw [rdB_c (by omega) (by omega), all 30 (by omega) (by omega) (by omega) (by omega), kpB_a (by omega) (by omega)], by rw [rdB_c (by omega) (by omega), all 33 (by omega) (by omega) (by omega) (by omega), kpB_a (by omega) (by omega)]⟩
  · rw [E216_32, r_173 (d := d + 1), zCv_some, Hk.1, n1, hS, ew, E216_32_at16, w2 32 (by omega), S6, if_pos (nI_le (by omega) (by omega)), ey, zCi_some, r_174 (d := d + 1), zCv_some]
    unfold zRz
    by_cases q : (eN (gC g s) m k (x 1 7)).2.2.2 = 3
    · rw [if_pos q, if_pos (Or.inr rfl)]
    · rw [if_neg q, if_pos (Or.inl rfl)]
  · by_cases z : a ≤ 36
    · rw [G.1 a (by omega) (by omega) (by omega), w3 a j (by omega), Sn a (by omega), kpB_a (by omega) (by omega)]
    · rw [all a (by omega) (by omega) (by omega) (by omega), kpB_a (by omega) (by omega)]
end CUT
theorem sim_cut : zSim 109 215 [] := by
  intro d h R
  obtain ⟨⟨g, n, k, R0⟩, C⟩ := id R
  have V := R0.1.1
  have hn := V.1
  have hst := R0.1.2.2.2.1.1
  obtain ⟨h1, e1, I, F, R1, C1, s1⟩ := cls_now (e := d + 3) R0 C
  have i11 : h1 7 11 = (eN g n k (h 1 7)).2.2.2 := by unfold eN; exact I.2.2.2.2.2.1
  clear I
  have cs : ∀ (x : zH), zFr zMT h x → ∀ i, i < n → ∃ (a b c : zH), zcal (d + 9) 16 [.ref 7, .ref 1] x = some (none, a) ∧ zcal (d + 9) 110 [.ref 7, .int (nI i)] a = some (none, b) ∧ zcal (d + 9) 93 [.ref 19, .ref 7] b = some (some (.int (if (eN (gC g i) (n - 1) k (h 1 7)).2.2.2 = 3 then 1 else 0)), c) ∧ zFr zMT h c := fun x x1 i hi => by
    obtain ⟨m, rfl⟩ : ∃ m, n = m + 1 := ⟨n - 1, by omega⟩
    rw [Nat.add_sub_cancel]
    have Rx := Rel0_mv R0 (zPers_mt x1)
    have x7 : x 1 7 = h 1 7 := by rw [x1 1 (zMT_n (by omega))]
    obtain ⟨a, ea, a1, a2, a3⟩ := c_like (d := d + 6) Rx.1.2.1 V
    obtain ⟨b, eb, b1, b2, b3⟩ := c_110 (d := d + 7) (s := i) a1 V (by omega)
    obtain ⟨c, ec, c1, c2, c3⟩ := c_arrG (d := d + 4) (zVal_C (s := i) V) b1 (b2.trans (a2.trans x7))
    exact ⟨a, b, c, ea, eb, ec, zFr_tr x1 (zFr_tr a3 (zFr_tr (fun q hq => b3 q (fun z => hq (by unfold zMT; omega)) (fun z => hq (by unfold zMT; omega)) (fun z => hq (by unfold zMT; omega)) (fun z => hq (by unfold zMT; omega))) c3))⟩
  have rs : ∀ (x : zH), Rel0 g n k x → x 1 7 = h 1 7 → ∀ i, i < n → ∃ y, zcal (d + 9) 216 [.ref 32, .int (nI i)] x = some (some (.int (if (eN (gC g i) (n - 1) k (h 1 7)).2.2.2 = 3 then 1 else 0)), y) ∧ zPers x y ∧ y 30 = x 30 ∧ y 33 = x 33 := fun x x1 x2 i hi => by
    obtain ⟨m, rfl⟩ : ∃ m, n = m + 1 := ⟨n - 1, by omega⟩
    rw [Nat.add_sub_cancel]
    have := r_216 (d := d + 3) (s := i) x1 (by omega)
    rw [x2] at this
    exact this
  have rn : ∀ (x : zH), Rel0 g n k x → x 1 7 = h 1 7 → ∃ y, zcal (d + 9) 194 [.ref 32] x = some (some (.int (if (eN g n k (h 1 7)).2.2.2 = 3 then 1 else 0)), y) ∧ rfF x y := fun x x1 x2 =>
    r_194 (d := d + 4) V x1.1.2.2.1 x1.2.2.2.2.2 ((x1.1.2.2.2.2 0 (by omega)).trans x2) hst
  generalize hft : (fun i : Nat => decide ((eN (gC g i) (n - 1) k (h 1 7)).2.2.2 = 3)) = P
  have Pd : ∀ i : Nat, (if (eN (gC g i) (n - 1) k (h 1 7)).2.2.2 = 3 then (1 : Int32) else 0) = if P i = true then 1 else 0 := fun i => by
    rw [← hft]
    by_cases q : (eN (gC g i) (n - 1) k (h 1 7)).2.2.2 = 3
    · rw [if_pos q, if_pos (decide_eq_true q)]
    · rw [if_neg q, if_neg (fun z => q (of_decide_eq_true z))]
  simp only [Pd] at cs rs
  clear hft Pd
  generalize (eN g n k (h 1 7)).2.2.2 = w0 at *
  by_cases q0 : w0 = 3
  · obtain ⟨h3, e3, G3⟩ := rn h1 R1 s1
    refine sim_ok (v := .int (-9)) (h1 := h1) (h2 := h3) ?_ ?_ (Rel_of R1 C1 G3)
    · rw [E109_0, e1, zCv_some, i11, if_pos q0]
    · rw [E215_32, e3, zCi_some, if_pos q0, if_neg (by decide)]
  · have lc : ∀ t i x, i + t = n → zFr zMT h x → ∃ y, zE (d + 9) 109 (20, [some (.ref 0), some (.int (nI i))], [], x) = some (some (.int (enc (zsr P some none t i))), y) ∧ zFr zMT h y := by
      intro t
      induction t with
      | zero =>
        intro i x hi x1
        have hi : i = n := hi
        have x15 : x 1 5 = nI n := by rw [x1 1 (zMT_n (by omega))]; exact R0.1.2.1.1
        exact ⟨x, by rw [E109_0_at20, x15, if_pos (nI_le (by omega) (by omega))]; rfl, x1⟩
      | succ t ih =>
        intro i x hi x1
        have x15 : x 1 5 = nI n := by rw [x1 1 (zMT_n (by omega))]; exact R0.1.2.1.1
        obtain ⟨a, b, c, ea, eb, ec, c1⟩ := cs x x1 i (by omega)
        rw [E109_0_at20, x15, if_neg (nI_ge (by omega) (by omega)), ea, zCv_some, eb, zCv_some, ec, zCi_some, zsr]
        by_cases q : P i = true
        · rw [if_pos q, if_neg (by decide), if_pos q]
          exact ⟨c, rfl, c1⟩
        · rw [if_neg q, if_pos rfl, if_neg q, nI_1]
          exact ih (i + 1) c (by omega) c1
    obtain ⟨h2, e2, F2⟩ := lc n 0 h1 (by omega) F
    have R2 := Rel0_mv R0 (zPers_mt F2)
    have C2 := RelC_mt C F2
    have s2 : h2 1 7 = h 1 7 := by rw [F2 1 (zMT_n (by omega))]
    have lr : ∀ t i x, i + t = n → Rel0 g n k x → RelC x → x 1 7 = h 1 7 → ∃ y, zE (d + 9) 215 (12, [some (.ref 32), some (.int (nI i))], [], x) = some (some (.int (enc (zsr P some none t i))), y) ∧ Rel y := by
      intro t
      induction t with
      | zero =>
        intro i x hi x1 x2 x3
        have hi : i = n := hi
        have x15 : x 32 6 = nI n := x1.1.2.2.1.1
        exact ⟨x, by rw [E215_32_at12, x15, if_pos (nI_le (by omega) (by omega))]; rfl, ⟨⟨g, n, k, x1⟩, x2⟩⟩
      | succ t ih =>
        intro i x hi x1 x2 x3
        have x15 : x 32 6 = nI n := x1.1.2.2.1.1
        obtain ⟨y, ey, py, y30, y33⟩ := rs x x1 x3 i (by omega)
        have y1 := Rel0_mv x1 py
        have y2 := RelC_mv x2 y30 y33
        rw [E215_32_at12, x15, if_neg (nI_ge (by omega) (by omega)), ey, zCi_some, zsr]
        by_cases q : P i = true
        · rw [if_pos q, if_neg (by decide), if_pos q]
          exact ⟨y, rfl, ⟨⟨g, n, k, y1⟩, y2⟩⟩
        · rw [if_neg q, if_pos rfl, if_neg q, nI_1]
          exact ih (i + 1) y (by omega) y1 y2 (by rw [py.1 1 (by omega) (zMT_n (by omega))]; exact x3)
    obtain ⟨h3, e3, G3⟩ := rn h2 R2 s2
    obtain ⟨h4, e4, R4⟩ := lr n 0 h3 (by omega) (Rel0_mv R2 (zPers_rf2 G3)) (RelC_rf C2 G3) (by rw [G3.1 1 (by omega) (by omega) (by omega), s2])
    refine sim_ok (v := .int (enc (zsr P some none n 0))) (h1 := h2) (h2 := h4) ?_ ?_ R4
    · rw [E109_0, e1, zCv_some, i11, if_neg q0]; exact e2
    · rw [E215_32, e3, zCi_some, if_neg q0, if_pos rfl]; exact e4

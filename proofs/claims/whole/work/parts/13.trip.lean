/-! THE CLASS'S RIDE -/
section TRIP
variable {d : Nat} {h : zH} {g : zHl} {n k : Nat}
theorem c_forget : zcal (d + 2) 1 [.ref 19] h = some (none, z_up (z_up (z_up (z_up (z_up (fl (fl (fl h 20 10 0) 21 10 0) 22 10 (-9)) 19 3 0) 19 4 0) 19 5 0) 19 6 0) 19 7 (-9)) := by
  rw [E1_19, c_fill rfl (by omega), zCv_some, c_fill rfl (by omega), zCv_some, c_fill rfl (by omega), zCv_some]
theorem c_nbeg {s : Nat} (ha : h 7 8 = nI s) (hs : s < 10) : zcal (d + 2) 63 [.ref 19, .ref 7] h = some (none, z_up (z_up h 20 s (h 7 9)) 19 3 (nI s + 1)) := by
  rw [E63_19_7, c_put (n := 10) rfl (by omega), zCv_some, ha, pt_nI hs (by omega)]
  have : z_up h 20 s (h 7 9) 7 8 = nI s := by rw [zu_nc _ _ (by omega), ha]
  rw [this]
theorem c_str (H : zHil h 7 g n k) (V : zVal g n k) {s : Nat} (hs : s < n) : zcal (d + 2) 65 [.ref 7, .int (nI s)] h = some (some (.int (if s_str g s = true then 1 else 0)), h) := by
  have hn := V.1
  rw [E65_7, c_get (n := 10) rfl (by omega), zCi_some, gt_nI (by omega) (by omega), (H.2.2.1 s hs).1, c_hasSn_7 H V hs, zCi_some, if_neg (by decide)]
  unfold s_str
  by_cases h4 : g 0 s = 4
  · rw [if_pos h4, decide_eq_true h4, Bool.true_or, if_pos rfl]
  · rw [if_neg h4, decide_eq_false h4, Bool.false_or]
    by_cases h5 : g 0 s = 5
    · rw [if_pos h5, decide_eq_true h5, if_pos rfl]
    · rw [if_neg h5, decide_eq_false h5, if_neg (by decide)]
def nchH (g : zHl) (u : Nat → Bool) (s : Nat) (h : zH) : zH :=
  if 0 ≤ g 2 s then (if s_up g u s (h 7 9) = true then (if s_str g s = true ∧ g 2 s ≠ h 7 10 then z_up (z_up h 19 7 (nI s)) 19 6 (h 19 6 + 1) else z_up h 19 7 (nI s)) else z_up h 19 5 (h 19 5 + 1)) else h
theorem c_nch (H : zHil h 7 g n k) (V : zVal g n k) {s : Nat} (hs : s < n) (ha : h 7 8 = nI s) {u : Nat → Bool} : zcal (d + 3) 64 [.ref 19, .ref 7, .int (s_rn u s)] h = some (none, nchH g u s h) := by
  unfold nchH
  rw [E64_19_7, c_wt_7 H V hs ha, zCi_some, c_hasW_7 H V hs, zCi_some]
  by_cases h1 : 0 ≤ g 2 s
  · rw [if_pos h1, if_neg (by decide), if_pos h1, c_up_7 H V hs, zCi_some]
    by_cases h2 : s_up g u s (h 7 9) = true
    · have H1 : zHil (z_up h 19 7 (nI s)) 7 g n k := zHil_mv H (by simp [zu_ap]) (by simp [zu_ap]) (fun j h1 h2 => by funext x; rw [zu_nc]; omega)
      rw [if_pos h2, if_neg (by decide), if_pos h2, ha, c_str H1 V hs, zCi_some]
      have e1 : z_up h 19 7 (nI s) 7 10 = h 7 10 := zu_nc _ _ (by omega)
      have e2 : z_up h 19 7 (nI s) 19 6 = h 19 6 := zu_ni _ _ (by omega)
      rw [e1, e2]
      by_cases h3 : s_str g s = true
      · rw [if_pos h3, if_neg (by decide)]
        by_cases h4 : g 2 s = h 7 10
        · rw [if_pos h4, if_neg (fun q => q.2 h4)]
        · rw [if_neg h4, if_pos ⟨h3, h4⟩]
      · rw [if_neg h3, if_pos rfl, if_neg (fun q => h3 q.1)]
    · rw [if_neg h2, if_pos rfl, if_neg h2]
  · rw [if_neg h1, if_pos rfl, if_neg h1]
theorem c_nrid (H : zHil h 7 g n k) (V : zVal g n k) {r : Int32} (hr : s_rid k r) (he : h 7 10 = r) : zcal (d + 2) 67 [.ref 19, .ref 7] h = some (none, z_up h 19 4 (h 19 4 ||| (1 <<< (r &&& 31)))) := by
  obtain ⟨x, hx, rfl⟩ := hr
  rw [E67_19_7, he, c_hasRn_7 H V hx, zCi_some, if_neg (by decide), he]
theorem nchH_ne {u : Nat → Bool} {s a j : Nat} (hn : a ≠ 19) : nchH g u s h a j = h a j := by
  unfold nchH
  split
  · split
    · split
      · rw [zu_nc _ _ hn, zu_nc _ _ hn]
      · rw [zu_nc _ _ hn]
    · rw [zu_nc _ _ hn]
  · rfl
theorem nchH_row {u : Nat → Bool} {s a : Nat} (hn : a ≠ 19) : nchH g u s h a = h a := by funext j; exact nchH_ne hn
theorem nchH_3 {u : Nat → Bool} {s j : Nat} (hj : j < 5) : nchH g u s h 19 j = h 19 j := by
  unfold nchH
  split
  · split
    · split
      · rw [zu_ni _ _ (by omega), zu_ni _ _ (by omega)]
      · rw [zu_ni _ _ (by omega)]
    · rw [zu_ni _ _ (by omega)]
  · rfl
theorem nchH_5 {u : Nat → Bool} {s : Nat} : nchH g u s h 19 5 = if 0 ≤ g 2 s ∧ s_up g u s (h 7 9) = false then h 19 5 + 1 else h 19 5 := by
  unfold nchH
  by_cases h1 : 0 ≤ g 2 s
  · rw [if_pos h1]
    by_cases h2 : s_up g u s (h 7 9) = true
    · have q : ¬ (0 ≤ g 2 s ∧ s_up g u s (h 7 9) = false) := fun q => by rw [h2] at q; cases q.2
      rw [if_pos h2, if_neg q]
      split
      · rw [zu_ni _ _ (by omega), zu_ni _ _ (by omega)]
      · rw [zu_ni _ _ (by omega)]
    · rw [if_neg h2, if_pos ⟨h1, by simpa using h2⟩, zu_eq]
  · rw [if_neg h1, if_neg (fun q => h1 q.1)]
theorem nchH_6 {u : Nat → Bool} {s : Nat} : nchH g u s h 19 6 = if s_up g u s (h 7 9) = true ∧ s_str g s = true ∧ g 2 s ≠ h 7 10 then h 19 6 + 1 else h 19 6 := by
  unfold nchH
  by_cases h1 : 0 ≤ g 2 s
  · rw [if_pos h1]
    by_cases h2 : s_up g u s (h 7 9) = true
    · rw [if_pos h2]
      by_cases h3 : s_str g s = true ∧ g 2 s ≠ h 7 10
      · rw [if_pos h3, if_pos ⟨h2, h3⟩, zu_eq]
      · rw [if_neg h3, if_neg (fun q => h3 q.2), zu_ni _ _ (by omega)]
    · rw [if_neg h2, if_neg (fun q => h2 q.1), zu_ni _ _ (by omega)]
  · have h2 : ¬ s_up g u s (h 7 9) = true := fun q => by rw [s_up, decide_eq_false h1, Bool.false_and] at q; cases q
    rw [if_neg h1, if_neg (fun q => h2 q.1)]
theorem nchH_7 {u : Nat → Bool} {s : Nat} : nchH g u s h 19 7 = if s_up g u s (h 7 9) = true then nI s else h 19 7 := by
  unfold nchH
  by_cases h1 : 0 ≤ g 2 s
  · rw [if_pos h1]
    by_cases h2 : s_up g u s (h 7 9) = true
    · rw [if_pos h2, if_pos h2]
      split
      · rw [zu_ni _ _ (by omega), zu_eq]
      · rw [zu_eq]
    · rw [if_neg h2, if_neg h2, zu_ni _ _ (by omega)]
  · have h2 : ¬ s_up g u s (h 7 9) = true := fun q => by rw [s_up, decide_eq_false h1, Bool.false_and] at q; cases q
    rw [if_neg h1, if_neg h2]
theorem c_bit {x : Int32} {s : Nat} (hs : s < 10) : zcal (d + 1) 66 [.int x, .int (nI s)] h = some (some (.int (if (x >>> (nI s &&& 31)) &&& 1 = 1 then 1 else 0)), h) := by
  rw [E66, if_neg (nI_pos (by omega)), if_neg (show ¬ nI s ≥ (31 : Int32) from nI_ge (b := 31) (by omega) (by omega))]
  by_cases h1 : (x >>> (nI s &&& 31)) &&& 1 = 1
  · rw [if_pos h1, if_pos h1]
  · rw [if_neg h1, if_neg h1]
/-- behind the note of the beginning: change, step, notes -/
theorem c_it65 (H : zHil h 7 g n k) (V : zVal g n k) {s i : Nat} {r : Int32} (hs : s < n) (hi : i < 10) (ha : h 7 8 = nI s) (hr : s_rid k r) (hrd : h 7 10 = r) (hm : h 7 11 = 0) {u w : Nat → Bool} {x2 x3 x4 x5 : Int32} {x8 x9 : Option Value}
    (hu : nI s = x4 ↔ u s = true) (hw : ((x5 >>> (nI s &&& 31)) &&& 1 = 1) ↔ w s = true) :
    ∃ (h' : zH) (x7' x8' x9' : Option Value), zE (d + 3) 62 (65, [some (.ref 19), some (.ref 7), some (.int x2), some (.int x3), some (.int x4), some (.int x5), some (.int (nI i)), some (.int (nI s)), x8, x9], [], h) = zE (d + 3) 62 (24, [some (.ref 19), some (.ref 7), some (.int x2), some (.int x3), some (.int x4), some (.int x5), some (.int (nI (i + 1))), x7', x8', x9'], [], h')
      ∧ h' 7 8 = nI (s_nx g n w s (h 7 9) (s_r1 g u s (h 7 9) r)).1 ∧ h' 7 9 = (s_nx g n w s (h 7 9) (s_r1 g u s (h 7 9) r)).2.1 ∧ h' 7 10 = (s_nx g n w s (h 7 9) (s_r1 g u s (h 7 9) r)).2.2.1 ∧ h' 7 11 = (s_nx g n w s (h 7 9) (s_r1 g u s (h 7 9) r)).2.2.2
      ∧ (∀ j, j < 8 → h' 7 j = h 7 j) ∧ (∀ a, 8 ≤ a → a ≤ 12 → h' a = h a) ∧ h' 20 = h 20
      ∧ h' 21 = (if s < (s_nx g n w s (h 7 9) (s_r1 g u s (h 7 9) r)).1 then upd (h 21) s ((s_nx g n w s (h 7 9) (s_r1 g u s (h 7 9) r)).2.1 - h 7 9) else h 21)
      ∧ h' 22 = (if s < (s_nx g n w s (h 7 9) (s_r1 g u s (h 7 9) r)).1 then upd (h 22) s (s_nx g n w s (h 7 9) (s_r1 g u s (h 7 9) r)).2.2.1 else h 22)
      ∧ h' 19 3 = h 19 3 ∧ h' 19 4 = h 19 4 ||| (1 <<< (s_r1 g u s (h 7 9) r &&& 31))
      ∧ h' 19 5 = (if 0 ≤ g 2 s ∧ s_up g u s (h 7 9) = false then h 19 5 + 1 else h 19 5)
      ∧ h' 19 6 = (if s_up g u s (h 7 9) = true ∧ s_str g s = true ∧ g 2 s ≠ r then h 19 6 + 1 else h 19 6)
      ∧ h' 19 7 = (if s_up g u s (h 7 9) = true then nI s else h 19 7) := by
  have hn := V.1
  -- the state behind the note of the change
  have H1 : zHil (nchH g u s h) 7 g n k := zHil_mv H (nchH_ne (by omega)) (nchH_ne (by omega)) (fun j h1 h2 => nchH_row (by omega))
  obtain ⟨ρ, hρ, rfl⟩ := hr
  obtain ⟨h2, e1, e2, e3, e4, e5, -, e6⟩ := c_step_7 (d := d) H1 V hs hρ (by rw [nchH_ne (by omega), ha]) (by rw [nchH_ne (by omega), hrd]) (by rw [nchH_ne (by omega), hm]) (u := u) (w := w)
  rw [nchH_ne (by omega), nchH_ne (by omega), hrd] at e2 e3 e4 e5
  have hR : s_rid k (s_nx g n w s (h 7 9) (s_r1 g u s (h 7 9) (nI ρ))).2.2.1 := by rw [s_nx_r]; exact s_r1_rid V hs ⟨ρ, hρ, rfl⟩
  have H2 : zHil h2 7 g n k := zHil_mv H1 (e6 _ _ (fun _ => by omega)) (e6 _ _ (fun _ => by omega)) (fun j h1 h3 => by funext x; exact e6 _ _ (fun q => by omega))
  have hnr := c_nrid (d := d + 1) H2 V hR e4
  have key : ∀ y0 y1 x8 x9, y0 = s_wd w s → y1 = s_rn u s → x8 = h 7 9 → ∃ (h' : zH) (x7' x8' x9' : Option Value), zE (d + 3) 62 (111, [some (.ref 19), some (.ref 7), some (.int x2), some (.int x3), some (.int x4), some (.int x5), some (.int (nI i)), some (.int (nI s)), some (.int x8), some (.int x9)], [.int y0, .int y1, .ref 7], nchH g u s h) = zE (d + 3) 62 (24, [some (.ref 19), some (.ref 7), some (.int x2), some (.int x3), some (.int x4), some (.int x5), some (.int (nI (i + 1))), x7', x8', x9'], [], h')
      ∧ h' 7 8 = nI (s_nx g n w s (h 7 9) (s_r1 g u s (h 7 9) (nI ρ))).1 ∧ h' 7 9 = (s_nx g n w s (h 7 9) (s_r1 g u s (h 7 9) (nI ρ))).2.1 ∧ h' 7 10 = (s_nx g n w s (h 7 9) (s_r1 g u s (h 7 9) (nI ρ))).2.2.1 ∧ h' 7 11 = (s_nx g n w s (h 7 9) (s_r1 g u s (h 7 9) (nI ρ))).2.2.2
      ∧ (∀ j, j < 8 → h' 7 j = h 7 j) ∧ (∀ a, 8 ≤ a → a ≤ 12 → h' a = h a) ∧ h' 20 = h 20
      ∧ h' 21 = (if s < (s_nx g n w s (h 7 9) (s_r1 g u s (h 7 9) (nI ρ))).1 then upd (h 21) s ((s_nx g n w s (h 7 9) (s_r1 g u s (h 7 9) (nI ρ))).2.1 - h 7 9) else h 21)
      ∧ h' 22 = (if s < (s_nx g n w s (h 7 9) (s_r1 g u s (h 7 9) (nI ρ))).1 then upd (h 22) s (s_nx g n w s (h 7 9) (s_r1 g u s (h 7 9) (nI ρ))).2.2.1 else h 22)
      ∧ h' 19 3 = h 19 3 ∧ h' 19 4 = h 19 4 ||| (1 <<< (s_r1 g u s (h 7 9) (nI ρ) &&& 31))
      ∧ h' 19 5 = (if 0 ≤ g 2 s ∧ s_up g u s (h 7 9) = false then h 19 5 + 1 else h 19 5)
      ∧ h' 19 6 = (if s_up g u s (h 7 9) = true ∧ s_str g s = true ∧ g 2 s ≠ nI ρ then h 19 6 + 1 else h 19 6)
      ∧ h' 19 7 = (if s_up g u s (h 7 9) = true then nI s else h 19 7) := by
    rintro y0 y1 x8 x9 rfl rfl rfl
    rw [E62_19_7_at111, e1, zCv_some, hnr, zCv_some]
    have o8 : z_up h2 19 4 (h2 19 4 ||| 1 <<< ((s_nx g n w s (h 7 9) (s_r1 g u s (h 7 9) (nI ρ))).2.2.1 &&& 31)) 7 8 = h2 7 8 := zu_nc _ _ (by omega)
    have o9 : z_up h2 19 4 (h2 19 4 ||| 1 <<< ((s_nx g n w s (h 7 9) (s_r1 g u s (h 7 9) (nI ρ))).2.2.1 &&& 31)) 7 9 = h2 7 9 := zu_nc _ _ (by omega)
    have o10 : z_up h2 19 4 (h2 19 4 ||| 1 <<< ((s_nx g n w s (h 7 9) (s_r1 g u s (h 7 9) (nI ρ))).2.2.1 &&& 31)) 7 10 = h2 7 10 := zu_nc _ _ (by omega)
    have f19 : ∀ j, h2 19 j = nchH g u s h 19 j := fun j => e6 _ _ (fun q => by omega)
    have frow : ∀ a, a ≠ 7 → a ≠ 19 → h2 a = h a := fun a q1 q2 => by funext j; rw [e6 _ _ (fun q => absurd q q1), nchH_ne q2]
    have fseven : ∀ j, j < 8 → h2 7 j = h 7 j := fun j q => by rw [e6 _ _ (fun _ => Or.inl q), nchH_ne (by omega)]
    rw [o8, o10, e2, e4]
    rcases s_nx_at (g := g) (n := n) (w := w) (s := s) (v := h 7 9) (r := s_r1 g u s (h 7 9) (nI ρ)) with q | q
    · rw [if_pos (by rw [q]; exact nI_le (Nat.le_refl _) (by omega)), nI_1]
      refine ⟨_, _, _, _, rfl, by rw [zu_nc _ _ (by omega), e2], by rw [zu_nc _ _ (by omega), e3], by rw [zu_nc _ _ (by omega), e4], by rw [zu_nc _ _ (by omega), e5], fun j hj => by rw [zu_nc _ _ (by omega)]; exact fseven j hj, fun a h1 h3 => by rw [z_up_ne (by omega)]; exact frow a (by omega) (by omega), by rw [z_up_ne (by omega)]; exact frow 20 (by omega) (by omega), by rw [if_neg (by omega), z_up_ne (by omega)]; exact frow 21 (by omega) (by omega), by rw [if_neg (by omega), z_up_ne (by omega)]; exact frow 22 (by omega) (by omega), by rw [zu_ni _ _ (by omega), f19, nchH_3 (by omega)], by rw [zu_eq, f19, nchH_3 (by omega), s_nx_r], by rw [zu_ni _ _ (by omega), f19, nchH_5], by rw [zu_ni _ _ (by omega), f19, nchH_6, hrd], by rw [zu_ni _ _ (by omega), f19, nchH_7]⟩
    · rw [if_neg (by rw [q]; exact nI_ge (by omega) (by omega)), c_put (n := 10) rfl (by omega), zCv_some, pt_nI (by omega) (by omega), c_put (n := 10) rfl (by omega), zCv_some, pt_nI (by omega) (by omega), nI_1]
      have o9' : ∀ x, z_up (z_up h2 19 4 (h2 19 4 ||| 1 <<< ((s_nx g n w s (h 7 9) (s_r1 g u s (h 7 9) (nI ρ))).2.2.1 &&& 31))) 22 s x 7 9 = h2 7 9 := fun x => by rw [zu_nc _ _ (by omega), zu_nc _ _ (by omega)]
      rw [o9', e3]
      have hup : ∀ (hh : zH) (c : Nat) (x : Int32), z_up hh c s x c = upd (hh c) s x := fun hh c x => by funext j; rw [zu_ap]; unfold upd; simp
      refine ⟨_, _, _, _, rfl, by rw [zu_nc _ _ (by omega), zu_nc _ _ (by omega), zu_nc _ _ (by omega), e2], by rw [zu_nc _ _ (by omega), zu_nc _ _ (by omega), zu_nc _ _ (by omega), e3], by rw [zu_nc _ _ (by omega), zu_nc _ _ (by omega), zu_nc _ _ (by omega), e4], by rw [zu_nc _ _ (by omega), zu_nc _ _ (by omega), zu_nc _ _ (by omega), e5], fun j hj => by rw [zu_nc _ _ (by omega), zu_nc _ _ (by omega), zu_nc _ _ (by omega)]; exact fseven j hj, fun a h1 h3 => by rw [z_up_ne (by omega), z_up_ne (by omega), z_up_ne (by omega)]; exact frow a (by omega) (by omega), by rw [z_up_ne (by omega), z_up_ne (by omega), z_up_ne (by omega)]; exact frow 20 (by omega) (by omega), by rw [if_pos (by omega), hup, z_up_ne (by omega), z_up_ne (by omega), frow 21 (by omega) (by omega)], by rw [if_pos (by omega), z_up_ne (by omega), hup, z_up_ne (by omega), frow 22 (by omega) (by omega)], by rw [zu_nc _ _ (by omega), zu_nc _ _ (by omega), zu_ni _ _ (by omega), f19, nchH_3 (by omega)], by rw [zu_nc _ _ (by omega), zu_nc _ _ (by omega), zu_eq, f19, nchH_3 (by omega), s_nx_r], by rw [zu_nc _ _ (by omega), zu_nc _ _ (by omega), zu_ni _ _ (by omega), f19, nchH_5], by rw [zu_nc _ _ (by omega), zu_nc _ _ (by omega), zu_ni _ _ (by omega), f19, nchH_6, hrd], by rw [zu_nc _ _ (by omega), zu_nc _ _ (by omega), zu_ni _ _ (by omega), f19, nchH_7]⟩
  rw [E62_19_7_at65]
  have hnch := c_nch (d := d) H V hs ha (u := u)
  by_cases hx : nI s = x4
  · have hrn : s_rn u s = 10 := by unfold s_rn; rw [if_pos (hu.mp hx)]
    rw [hrn] at hnch
    rw [if_pos hx, hnch, zCv_some, c_bit (by omega), zCi_some]
    by_cases hb : (x5 >>> (nI s &&& 31)) &&& 1 = 1
    · rw [if_pos hb, if_neg (by decide)]
      exact key _ _ _ _ (by unfold s_wd; rw [if_pos (hw.mp hb)]) hrn.symm rfl
    · rw [if_neg hb, if_pos rfl]
      exact key _ _ _ _ (by unfold s_wd; rw [if_neg (fun q => hb (hw.mpr q))]) hrn.symm rfl
  · have hrn : s_rn u s = 0 := by unfold s_rn; rw [if_neg (fun q => hx (hu.mpr q))]
    rw [hrn] at hnch
    rw [if_neg hx, hnch, zCv_some, c_bit (by omega), zCi_some]
    by_cases hb : (x5 >>> (nI s &&& 31)) &&& 1 = 1
    · rw [if_pos hb, if_neg (by decide)]
      exact key _ _ _ _ (by unfold s_wd; rw [if_pos (hw.mp hb)]) hrn.symm rfl
    · rw [if_neg hb, if_pos rfl]
      exact key _ _ _ _ (by unfold s_wd; rw [if_neg (fun q => hb (hw.mpr q))]) hrn.symm rfl
end TRIP

/-! ROWS OF ANOTHER HILL -/
def mU (P : Nat → Bool) : Nat → Nat → Int32 → Int32
  | 0, _, acc => acc
  | s + 1, i, acc => mU P s (i + 1) (if P i = true then acc ||| ((1 : Int32) <<< (nI i &&& 31)) else acc)
theorem zVal_M0 {g : zHl} {n k r0 x : Nat} (V : zVal g n k) (hx : x < 6) : zVal (gM g 0 r0 (nI x)) n k := by
  obtain ⟨v1, v2, v3, v4⟩ := V
  refine ⟨v1, v2, fun s hs => ?_, fun r h => ?_⟩
  · obtain ⟨w1, w2, w3⟩ := v3 s hs
    rw [gM_o (r := 2) (by omega), gM_o (r := 1) (by omega), gM_v]
    refine ⟨w1, ?_, w3⟩
    by_cases e : s = r0
    · rw [if_pos e]; exact ⟨x, hx, rfl⟩
    · rw [if_neg e]; exact w2
  · rw [gM_o (r := 3) (by omega), gM_o (r := 4) (by omega)]; exact v4 r h
theorem zVal_M1 {g : zHl} {n k r0 x : Nat} (V : zVal g n k) (hx : x < 10) : zVal (gM g 1 r0 (nI x)) n k := by
  obtain ⟨v1, v2, v3, v4⟩ := V
  refine ⟨v1, v2, fun s hs => ?_, fun r h => ?_⟩
  · obtain ⟨w1, w2, w3⟩ := v3 s hs
    rw [gM_o (r := 2) (by omega), gM_o (r := 0) (by omega), gM_v]
    refine ⟨w1, w2, ?_⟩
    by_cases e : s = r0
    · rw [if_pos e]; exact ⟨x, hx, rfl⟩
    · rw [if_neg e]; exact w3
  · rw [gM_o (r := 3) (by omega), gM_o (r := 4) (by omega)]; exact v4 r h
theorem zHil_M0 {h : zH} {g : zHl} {n k r0 : Nat} {u v : Int32} (H : zHil h 7 (gM g 0 r0 u) n k) : zHil (z_up h 8 r0 v) 7 (gM g 0 r0 v) n k := by
  obtain ⟨h1, h2, h3, h4⟩ := H
  have sp : ∀ s, s < n → z_up h 8 r0 v 8 s = gM g 0 r0 v 0 s := fun s hs => by
    rw [zu_ap, gM_v]
    by_cases e : s = r0
    · rw [if_pos ⟨rfl, e⟩, if_pos e]
    · rw [if_neg (fun q => e q.2), if_neg e]
      have : h 8 s = gM g 0 r0 u 0 s := (h3 s hs).1
      rw [this, gM_v, if_neg e]
  refine ⟨by rw [z_up_ne (by omega)]; exact h1, by rw [z_up_ne (by omega)]; exact h2, fun s hs => ?_, fun r hr => ?_⟩
  · obtain ⟨q1, q2, q3⟩ := h3 s hs
    exact ⟨sp s hs, by rw [z_up_ne (a := 7 + 2) (by omega)]; exact q2, by rw [z_up_ne (a := 7 + 3) (by omega)]; exact q3⟩
  · rw [z_up_ne (a := 7 + 4) (by omega), z_up_ne (a := 7 + 5) (by omega)]; exact h4 r hr
theorem zHr_M0 {h : zH} {g : zHl} {n k r0 : Nat} {v : Int32} (H : zHr h g n k) : zHr (z_up h 34 r0 v) (gM g 0 r0 v) n k := by
  obtain ⟨h1, h2, h3, h4⟩ := H
  have sp : ∀ s, s < n → z_up h 34 r0 v 34 s = gM g 0 r0 v 0 s := fun s hs => by
    rw [zu_ap, gM_v]
    by_cases e : s = r0
    · rw [if_pos ⟨rfl, e⟩, if_pos e]
    · rw [if_neg (fun q => e q.2), if_neg e]
      exact (h3 s hs).1
  refine ⟨by rw [z_up_ne (by omega)]; exact h1, by rw [z_up_ne (by omega)]; exact h2, fun s hs => ?_, fun r hr => ?_⟩
  · obtain ⟨q1, q2, q3⟩ := h3 s hs
    exact ⟨sp s hs, by rw [z_up_ne (a := 35) (by omega)]; exact q2, by rw [z_up_ne (a := 36) (by omega)]; exact q3⟩
  · rw [z_up_ne (a := 37) (by omega), z_up_ne (a := 38) (by omega)]; exact h4 r hr
theorem zHil_M1 {h : zH} {g : zHl} {n k r0 : Nat} {u v : Int32} (H : zHil h 7 (gM g 1 r0 u) n k) : zHil (z_up h 9 r0 v) 7 (gM g 1 r0 v) n k := by
  obtain ⟨h1, h2, h3, h4⟩ := H
  have sp : ∀ s, s < n → z_up h 9 r0 v 9 s = gM g 1 r0 v 1 s := fun s hs => by
    rw [zu_ap, gM_v]
    by_cases e : s = r0
    · rw [if_pos ⟨rfl, e⟩, if_pos e]
    · rw [if_neg (fun q => e q.2), if_neg e]
      have : h 9 s = gM g 1 r0 u 1 s := (h3 s hs).2.1
      rw [this, gM_v, if_neg e]
  refine ⟨by rw [z_up_ne (by omega)]; exact h1, by rw [z_up_ne (by omega)]; exact h2, fun s hs => ?_, fun r hr => ?_⟩
  · obtain ⟨q1, q2, q3⟩ := h3 s hs
    exact ⟨by rw [z_up_ne (a := 7 + 1) (by omega)]; exact q1, sp s hs, by rw [z_up_ne (a := 7 + 3) (by omega)]; exact q3⟩
  · rw [z_up_ne (a := 7 + 4) (by omega), z_up_ne (a := 7 + 5) (by omega)]; exact h4 r hr
theorem zHr_M1 {h : zH} {g : zHl} {n k r0 : Nat} {v : Int32} (H : zHr h g n k) : zHr (z_up h 35 r0 v) (gM g 1 r0 v) n k := by
  obtain ⟨h1, h2, h3, h4⟩ := H
  have sp : ∀ s, s < n → z_up h 35 r0 v 35 s = gM g 1 r0 v 1 s := fun s hs => by
    rw [zu_ap, gM_v]
    by_cases e : s = r0
    · rw [if_pos ⟨rfl, e⟩, if_pos e]
    · rw [if_neg (fun q => e q.2), if_neg e]
      exact (h3 s hs).2.1
  refine ⟨by rw [z_up_ne (by omega)]; exact h1, by rw [z_up_ne (by omega)]; exact h2, fun s hs => ?_, fun r hr => ?_⟩
  · obtain ⟨q1, q2, q3⟩ := h3 s hs
    exact ⟨by rw [z_up_ne (a := 34) (by omega)]; exact q1, sp s hs, by rw [z_up_ne (a := 36) (by omega)]; exact q3⟩
  · rw [z_up_ne (a := 37) (by omega), z_up_ne (a := 38) (by omega)]; exact h4 r hr
theorem tl_0 {d : Nat} {h : zH} {g : zHl} {n k m r0 lo hi : Nat} (R0 : Rel0 g n k h) (C : RelC h) (m2 : h 28 1 = nI m) (m3 : h 32 40 = nI m) (m4 : ∀ j, j < m → h 46 j = h 29 j) (mn : m ≤ 10) (hr0 : r0 < 10) (hh : hi ≤ 9) (hl : lo ≤ hi) (HV : ∀ i, i ≤ hi → zVal (gM g 0 r0 (nI i)) n k) : ∃ (v : Int32) (h1 h2 : zH), zcal (d + 9) 119 [.ref 0, .int (nI r0), .ref 8, .int (nI lo), .int (nI hi)] h = some (some (.int v), h1) ∧ zcal (d + 9) 199 [.ref 32, .ref 34, .int (nI r0), .int (nI lo), .int (nI hi)] h1 = some (some (.int v), h2) ∧ Rel h2 ∧ h1 32 = h 32 ∧ zFr zMT h h1 := by
  have V := R0.1.1
  obtain ⟨h1, e1, K1, K7, F1⟩ := c_like (d := d + 5) R0.1.2.1 V
  have hst := R0.1.2.2.2.1.1
  have K1' : zHil h1 7 (gM g 0 r0 (g 0 r0)) n k := by rw [gM_id]; exact K1
  have cs : ∀ (x : zH) (u : Int32), zHil x 7 (gM g 0 r0 u) n k → x 7 7 = h 1 7 → zFr zMT h x → ∀ i, i ≤ hi → ∃ y, (∃ v8 z, zcal (d + 8) 61 [.ref 19, .ref 7] (z_up x 8 r0 (nI i)) = some (some (.int v8), z) ∧ zcal (d + 8) 120 [.ref 19, .ref 28] z = some (some (.int (fit (gM g 0 r0 (nI i)) n k (h 1 7) (h 29) m)), y)) ∧ zHil y 7 (gM g 0 r0 (nI i)) n k ∧ y 7 7 = h 1 7 ∧ zFr zMT h y := fun x u x1 x2 x3 i hi => by
    obtain ⟨y, ey, Iy, Fy⟩ := c_end (d := d + 3) (zHil_M0 (v := nI i) x1) (HV i hi)
    rw [show z_up x 8 r0 (nI i) 7 7 = h 1 7 by rw [z_up_ne (by omega)]; exact x2] at ey Iy
    have Fz : zFr zMT h y := zFr_tr x3 (zFr_tr (zFr_up (by unfold zMT; omega)) Fy)
    exact ⟨y, ⟨_, y, ey, c_fit (d := d + 5) mn Iy.2.2.2.2.2.2.1 (by rw [Fz 28 (zMT_n (by omega)), m2]) (fun j hj => by rw [Fz 29 (zMT_n (by omega))])⟩, Iy.1, Iy.2.1, Fz⟩
  have rs : ∀ (x : zH), Rel0 g n k x → x 1 7 = h 1 7 → x 32 40 = nI m → (∀ j, j < m → x 46 j = h 29 j) → ∀ i, i ≤ hi → ∃ y, zcal (d + 8) 200 [.ref 32] (z_up x 34 r0 (nI i)) = some (some (.int (fit (gM g 0 r0 (nI i)) n k (h 1 7) (h 29) m)), y) ∧ rfF x (z_up y 34 r0 (x 34 r0)) := fun x x1 x2 x3 x4 i hi => by
    have e8 : z_up x 34 r0 (nI i) 32 8 = h 1 7 := by rw [z_up_ne (by omega)]; exact (x1.1.2.2.2.2 0 (by omega)).trans x2
    obtain ⟨y, ey, G⟩ := r_fit (d := d + 3) (x := z_up x 34 r0 (nI i)) (row := h 29) (m := m) (zHr_M0 (r0 := r0) (v := nI i) x1.1.2.2.1) (HV i hi) (rAt0_mv x1.2.2.2.2.2 (fun j p q => by rw [z_up_ne (by omega)])) (by rw [e8]; exact hst) mn (by rw [z_up_ne (by omega)]; exact x3) (fun j hj => by rw [z_up_ne (by omega)]; exact x4 j hj)
    rw [e8] at ey
    refine ⟨y, ey, fun a q1 q2 q3 => ?_, fun j hj => by rw [z_up_ne (by omega), G.2 j hj, z_up_ne (by omega)]⟩
    by_cases e : a = 34
    · subst e
      have : y 34 = z_up x 34 r0 (nI i) 34 := G.1 34 q1 q2 q3
      funext j
      rw [zu_ap, this, zu_ap]
      by_cases z : j = r0
      · rw [if_pos ⟨rfl, z⟩, z]
      · rw [if_neg (fun q => z q.2), if_neg (fun q => z q.2)]
    · rw [z_up_ne e, G.1 a q1 q2 q3, z_up_ne e]
  generalize hft : (fun i : Nat => fit (gM g 0 r0 (nI i)) n k (h 1 7) (h 29) m) = ft
  have fd : ∀ i : Nat, fit (gM g 0 r0 (nI i)) n k (h 1 7) (h 29) m = ft i := fun i => by rw [← hft]
  simp only [fd] at cs rs
  clear hft fd
  generalize hP : (fun i : Nat => !(decide (ft i = 0))) = P
  have Pd : ∀ i, P i = !(decide (ft i = 0)) := fun i => by rw [← hP]
  have lc : ∀ s i acc x u, i + s = hi + 1 → zHil x 7 (gM g 0 r0 u) n k → x 7 7 = h 1 7 → zFr zMT h x → ∃ y, zE (d + 8) 119 (17, [some (.ref 0), some (.int (nI r0)), some (.ref 8), some (.int (nI lo)), some (.int (nI hi)), some (.int acc), some (.int (nI i))], [], x) = some (some (.int (mU P s i acc)), y) ∧ zFr zMT h y := by
    intro s
    induction s with
    | zero =>
      intro i acc x u hi2 x1 x2 x3
      have hi2 : i = hi + 1 := hi2
      subst hi2
      exact ⟨x, by rw [E119_0_8_at17, if_pos (show nI (hi + 1) > nI hi from nI_lt (by omega) (by omega))]; rfl, x3⟩
    | succ s ih =>
      intro i acc x u hi2 x1 x2 x3
      obtain ⟨y, ⟨v8, z, ez, ey⟩, y1, y2, y3⟩ := cs x u x1 x2 x3 i (by omega)
      rw [E119_0_8_at17, if_neg (show ¬ nI i > nI hi from Int32.not_lt.mpr (nI_le (by omega) (by omega))), c_put (n := 10) rfl (by omega), zCv_some, pt_nI hr0 (by omega), ez, zCi_some, ey, zCi_some, mU, Pd]
      by_cases q : ft i = 0
      · rw [if_pos q, decide_eq_true q, if_neg (show ¬ (!true) = true by decide), nI_1]
        exact ih (i + 1) acc y (nI i) (by omega) y1 y2 y3
      · rw [if_neg q, decide_eq_false q, if_pos (show (!false) = true from rfl), nI_1]
        exact ih (i + 1) _ y (nI i) (by omega) y1 y2 y3
  obtain ⟨h2, e2, F2⟩ := lc (hi + 1 - lo) lo 0 h1 _ (by omega) K1' K7 F1
  have R2 := Rel0_mv R0 (zPers_mt F2)
  have C2 := RelC_mt C F2
  have s2 : h2 1 7 = h 1 7 := by rw [F2 1 (zMT_n (by omega))]
  have c240 : h2 32 40 = nI m := by rw [F2 32 (zMT_n (by omega)), m3]
  have c246 : ∀ j, j < m → h2 46 j = h 29 j := fun j hj => by rw [F2 46 (zMT_n (by omega)), m4 j hj]
  have lr : ∀ s i acc x, i + s = hi + 1 → rfF h2 (z_up x 34 r0 (h2 34 r0)) → ∃ y, zE (d + 8) 199 (11, [some (.ref 32), some (.ref 34), some (.int (nI r0)), some (.int (nI lo)), some (.int (nI hi)), some (.int (h2 34 r0)), some (.int acc), some (.int (nI i))], [], x) = some (some (.int (mU P s i acc)), y) ∧ rfF h2 y := by
    intro s
    induction s with
    | zero =>
      intro i acc x hi2 hx
      have hi2 : i = hi + 1 := hi2
      subst hi2
      refine ⟨z_up x 34 r0 (h2 34 r0), ?_, hx⟩
      rw [E199_32_34_at11, if_pos (show nI (hi + 1) > nI hi from nI_lt (by omega) (by omega)), zG_nI hr0 (by omega), nI_tn (by omega)]
      rfl
    | succ s ih =>
      intro i acc x hi2 hx
      have Rx := Rel0_mv R2 (zPers_rf2 hx)
      have x8 : z_up x 34 r0 (h2 34 r0) 34 r0 = h2 34 r0 := zu_eq _ _ _ _
      obtain ⟨y, ey, Gy⟩ := rs _ Rx (by rw [hx.1 1 (by omega) (by omega) (by omega), s2]) (by rw [hx.2 40 (by omega), c240]) (fun j hj => by rw [hx.1 46 (by omega) (by omega) (by omega), c246 j hj]) i (by omega)
      rw [z_up2] at ey
      rw [x8] at Gy
      rw [E199_32_34_at11, if_neg (show ¬ nI i > nI hi from Int32.not_lt.mpr (nI_le (by omega) (by omega))), zG_nI hr0 (by omega), nI_tn (by omega), ey, zCi_some, mU, Pd]
      by_cases q : ft i = 0
      · rw [if_pos q, decide_eq_true q, if_neg (show ¬ (!true) = true by decide), nI_1, Int32.or_zero]
        exact ih (i + 1) acc y (by omega) (rfF_tr hx Gy)
      · rw [if_neg q, decide_eq_false q, if_pos (show (!false) = true from rfl), nI_1]
        exact ih (i + 1) _ y (by omega) (rfF_tr hx Gy)
  obtain ⟨h3, e3, G3⟩ := lr (hi + 1 - lo) lo 0 h2 (by omega) (by rw [z_up_id]; exact rfF_rf)
  refine ⟨_, h2, h3, by rw [E119_0_8, e1, zCv_some]; exact e2, ?_, Rel_of R2 C2 G3, F2 32 (zMT_n (by omega)), F2⟩
  rw [E199_32_34, zG_nI hr0 (by omega), nI_tn (by omega)]
  exact e3
theorem tl_1 {d : Nat} {h : zH} {g : zHl} {n k m r0 lo hi : Nat} (R0 : Rel0 g n k h) (C : RelC h) (m2 : h 28 1 = nI m) (m3 : h 32 40 = nI m) (m4 : ∀ j, j < m → h 46 j = h 29 j) (mn : m ≤ 10) (hr0 : r0 < 10) (hh : hi ≤ 9) (hl : lo ≤ hi) (HV : ∀ i, i ≤ hi → zVal (gM g 1 r0 (nI i)) n k) : ∃ (v : Int32) (h1 h2 : zH), zcal (d + 9) 119 [.ref 0, .int (nI r0), .ref 9, .int (nI lo), .int (nI hi)] h = some (some (.int v), h1) ∧ zcal (d + 9) 199 [.ref 32, .ref 35, .int (nI r0), .int (nI lo), .int (nI hi)] h1 = some (some (.int v), h2) ∧ Rel h2 ∧ h1 32 = h 32 ∧ zFr zMT h h1 := by
  have V := R0.1.1
  obtain ⟨h1, e1, K1, K7, F1⟩ := c_like (d := d + 5) R0.1.2.1 V
  have hst := R0.1.2.2.2.1.1
  have K1' : zHil h1 7 (gM g 1 r0 (g 1 r0)) n k := by rw [gM_id]; exact K1
  have cs : ∀ (x : zH) (u : Int32), zHil x 7 (gM g 1 r0 u) n k → x 7 7 = h 1 7 → zFr zMT h x → ∀ i, i ≤ hi → ∃ y, (∃ v8 z, zcal (d + 8) 61 [.ref 19, .ref 7] (z_up x 9 r0 (nI i)) = some (some (.int v8), z) ∧ zcal (d + 8) 120 [.ref 19, .ref 28] z = some (some (.int (fit (gM g 1 r0 (nI i)) n k (h 1 7) (h 29) m)), y)) ∧ zHil y 7 (gM g 1 r0 (nI i)) n k ∧ y 7 7 = h 1 7 ∧ zFr zMT h y := fun x u x1 x2 x3 i hi => by
    obtain ⟨y, ey, Iy, Fy⟩ := c_end (d := d + 3) (zHil_M1 (v := nI i) x1) (HV i hi)
    rw [show z_up x 9 r0 (nI i) 7 7 = h 1 7 by rw [z_up_ne (by omega)]; exact x2] at ey Iy
    have Fz : zFr zMT h y := zFr_tr x3 (zFr_tr (zFr_up (by unfold zMT; omega)) Fy)
    exact ⟨y, ⟨_, y, ey, c_fit (d := d + 5) mn Iy.2.2.2.2.2.2.1 (by rw [Fz 28 (zMT_n (by omega)), m2]) (fun j hj => by rw [Fz 29 (zMT_n (by omega))])⟩, Iy.1, Iy.2.1, Fz⟩
  have rs : ∀ (x : zH), Rel0 g n k x → x 1 7 = h 1 7 → x 32 40 = nI m → (∀ j, j < m → x 46 j = h 29 j) → ∀ i, i ≤ hi → ∃ y, zcal (d + 8) 200 [.ref 32] (z_up x 35 r0 (nI i)) = some (some (.int (fit (gM g 1 r0 (nI i)) n k (h 1 7) (h 29) m)), y) ∧ rfF x (z_up y 35 r0 (x 35 r0)) := fun x x1 x2 x3 x4 i hi => by
    have e8 : z_up x 35 r0 (nI i) 32 8 = h 1 7 := by rw [z_up_ne (by omega)]; exact (x1.1.2.2.2.2 0 (by omega)).trans x2
    obtain ⟨y, ey, G⟩ := r_fit (d := d + 3) (x := z_up x 35 r0 (nI i)) (row := h 29) (m := m) (zHr_M1 (r0 := r0) (v := nI i) x1.1.2.2.1) (HV i hi) (rAt0_mv x1.2.2.2.2.2 (fun j p q => by rw [z_up_ne (by omega)])) (by rw [e8]; exact hst) mn (by rw [z_up_ne (by omega)]; exact x3) (fun j hj => by rw [z_up_ne (by omega)]; exact x4 j hj)
    rw [e8] at ey
    refine ⟨y, ey, fun a q1 q2 q3 => ?_, fun j hj => by rw [z_up_ne (by omega), G.2 j hj, z_up_ne (by omega)]⟩
    by_cases e : a = 35
    · subst e
      have : y 35 = z_up x 35 r0 (nI i) 35 := G.1 35 q1 q2 q3
      funext j
      rw [zu_ap, this, zu_ap]
      by_cases z : j = r0
      · rw [if_pos ⟨rfl, z⟩, z]
      · rw [if_neg (fun q => z q.2), if_neg (fun q => z q.2)]
    · rw [z_up_ne e, G.1 a q1 q2 q3, z_up_ne e]
  generalize hft : (fun i : Nat => fit (gM g 1 r0 (nI i)) n k (h 1 7) (h 29) m) = ft
  have fd : ∀ i : Nat, fit (gM g 1 r0 (nI i)) n k (h 1 7) (h 29) m = ft i := fun i => by rw [← hft]
  simp only [fd] at cs rs
  clear hft fd
  generalize hP : (fun i : Nat => !(decide (ft i = 0))) = P
  have Pd : ∀ i, P i = !(decide (ft i = 0)) := fun i => by rw [← hP]
  have lc : ∀ s i acc x u, i + s = hi + 1 → zHil x 7 (gM g 1 r0 u) n k → x 7 7 = h 1 7 → zFr zMT h x → ∃ y, zE (d + 8) 119 (17, [some (.ref 0), some (.int (nI r0)), some (.ref 9), some (.int (nI lo)), some (.int (nI hi)), some (.int acc), some (.int (nI i))], [], x) = some (some (.int (mU P s i acc)), y) ∧ zFr zMT h y := by
    intro s
    induction s with
    | zero =>
      intro i acc x u hi2 x1 x2 x3
      have hi2 : i = hi + 1 := hi2
      subst hi2
      exact ⟨x, by rw [E119_0_9_at17, if_pos (show nI (hi + 1) > nI hi from nI_lt (by omega) (by omega))]; rfl, x3⟩
    | succ s ih =>
      intro i acc x u hi2 x1 x2 x3
      obtain ⟨y, ⟨v8, z, ez, ey⟩, y1, y2, y3⟩ := cs x u x1 x2 x3 i (by omega)
      rw [E119_0_9_at17, if_neg (show ¬ nI i > nI hi from Int32.not_lt.mpr (nI_le (by omega) (by omega))), c_put (n := 10) rfl (by omega), zCv_some, pt_nI hr0 (by omega), ez, zCi_some, ey, zCi_some, mU, Pd]
      by_cases q : ft i = 0
      · rw [if_pos q, decide_eq_true q, if_neg (show ¬ (!true) = true by decide), nI_1]
        exact ih (i + 1) acc y (nI i) (by omega) y1 y2 y3
      · rw [if_neg q, decide_eq_false q, if_pos (show (!false) = true from rfl), nI_1]
        exact ih (i + 1) _ y (nI i) (by omega) y1 y2 y3
  obtain ⟨h2, e2, F2⟩ := lc (hi + 1 - lo) lo 0 h1 _ (by omega) K1' K7 F1
  have R2 := Rel0_mv R0 (zPers_mt F2)
  have C2 := RelC_mt C F2
  have s2 : h2 1 7 = h 1 7 := by rw [F2 1 (zMT_n (by omega))]
  have c240 : h2 32 40 = nI m := by rw [F2 32 (zMT_n (by omega)), m3]
  have c246 : ∀ j, j < m → h2 46 j = h 29 j := fun j hj => by rw [F2 46 (zMT_n (by omega)), m4 j hj]
  have lr : ∀ s i acc x, i + s = hi + 1 → rfF h2 (z_up x 35 r0 (h2 35 r0)) → ∃ y, zE (d + 8) 199 (11, [some (.ref 32), some (.ref 35), some (.int (nI r0)), some (.int (nI lo)), some (.int (nI hi)), some (.int (h2 35 r0)), some (.int acc), some (.int (nI i))], [], x) = some (some (.int (mU P s i acc)), y) ∧ rfF h2 y := by
    intro s
    induction s with
    | zero =>
      intro i acc x hi2 hx
      have hi2 : i = hi + 1 := hi2
      subst hi2
      refine ⟨z_up x 35 r0 (h2 35 r0), ?_, hx⟩
      rw [E199_32_35_at11, if_pos (show nI (hi + 1) > nI hi from nI_lt (by omega) (by omega)), zG_nI hr0 (by omega), nI_tn (by omega)]
      rfl
    | succ s ih =>
      intro i acc x hi2 hx
      have Rx := Rel0_mv R2 (zPers_rf2 hx)
      have x8 : z_up x 35 r0 (h2 35 r0) 35 r0 = h2 35 r0 := zu_eq _ _ _ _
      obtain ⟨y, ey, Gy⟩ := rs _ Rx (by rw [hx.1 1 (by omega) (by omega) (by omega), s2]) (by rw [hx.2 40 (by omega), c240]) (fun j hj => by rw [hx.1 46 (by omega) (by omega) (by omega), c246 j hj]) i (by omega)
      rw [z_up2] at ey
      rw [x8] at Gy
      rw [E199_32_35_at11, if_neg (show ¬ nI i > nI hi from Int32.not_lt.mpr (nI_le (by omega) (by omega))), zG_nI hr0 (by omega), nI_tn (by omega), ey, zCi_some, mU, Pd]
      by_cases q : ft i = 0
      · rw [if_pos q, decide_eq_true q, if_neg (show ¬ (!true) = true by decide), nI_1, Int32.or_zero]
        exact ih (i + 1) acc y (by omega) (rfF_tr hx Gy)
      · rw [if_neg q, decide_eq_false q, if_pos (show (!false) = true from rfl), nI_1]
        exact ih (i + 1) _ y (by omega) (rfF_tr hx Gy)
  obtain ⟨h3, e3, G3⟩ := lr (hi + 1 - lo) lo 0 h2 (by omega) (by rw [z_up_id]; exact rfF_rf)
  refine ⟨_, h2, h3, by rw [E119_0_9, e1, zCv_some]; exact e2, ?_, Rel_of R2 C2 G3, F2 32 (zMT_n (by omega)), F2⟩
  rw [E199_32_35, zG_nI hr0 (by omega), nI_tn (by omega)]
  exact e3
theorem tl_3 {d : Nat} {h : zH} {g : zHl} {n k m r0 lo hi : Nat} (R0 : Rel0 g n k h) (C : RelC h) (m2 : h 28 1 = nI m) (m3 : h 32 40 = nI m) (m4 : ∀ j, j < m → h 46 j = h 29 j) (mn : m ≤ 10) (hr0 : r0 < 5) (hh : hi ≤ 9) (hl : lo ≤ hi) (HV : ∀ i, i ≤ hi → zVal (gM g 3 r0 (nI i)) n k) : ∃ (v : Int32) (h1 h2 : zH), zcal (d + 9) 119 [.ref 0, .int (nI r0), .ref 11, .int (nI lo), .int (nI hi)] h = some (some (.int v), h1) ∧ zcal (d + 9) 199 [.ref 32, .ref 37, .int (nI r0), .int (nI lo), .int (nI hi)] h1 = some (some (.int v), h2) ∧ Rel h2 ∧ h1 32 = h 32 ∧ zFr zMT h h1 := by
  have V := R0.1.1
  obtain ⟨h1, e1, K1, K7, F1⟩ := c_like (d := d + 5) R0.1.2.1 V
  have hst := R0.1.2.2.2.1.1
  have K1' : zHil h1 7 (gM g 3 r0 (g 3 r0)) n k := by rw [gM_id]; exact K1
  have cs : ∀ (x : zH) (u : Int32), zHil x 7 (gM g 3 r0 u) n k → x 7 7 = h 1 7 → zFr zMT h x → ∀ i, i ≤ hi → ∃ y, (∃ v8 z, zcal (d + 8) 61 [.ref 19, .ref 7] (z_up x 11 r0 (nI i)) = some (some (.int v8), z) ∧ zcal (d + 8) 120 [.ref 19, .ref 28] z = some (some (.int (fit (gM g 3 r0 (nI i)) n k (h 1 7) (h 29) m)), y)) ∧ zHil y 7 (gM g 3 r0 (nI i)) n k ∧ y 7 7 = h 1 7 ∧ zFr zMT h y := fun x u x1 x2 x3 i hi => by
    obtain ⟨y, ey, Iy, Fy⟩ := c_end (d := d + 3) (zHil_M3 (v := nI i) x1) (HV i hi)
    rw [show z_up x 11 r0 (nI i) 7 7 = h 1 7 by rw [z_up_ne (by omega)]; exact x2] at ey Iy
    have Fz : zFr zMT h y := zFr_tr x3 (zFr_tr (zFr_up (by unfold zMT; omega)) Fy)
    exact ⟨y, ⟨_, y, ey, c_fit (d := d + 5) mn Iy.2.2.2.2.2.2.1 (by rw [Fz 28 (zMT_n (by omega)), m2]) (fun j hj => by rw [Fz 29 (zMT_n (by omega))])⟩, Iy.1, Iy.2.1, Fz⟩
  have rs : ∀ (x : zH), Rel0 g n k x → x 1 7 = h 1 7 → x 32 40 = nI m → (∀ j, j < m → x 46 j = h 29 j) → ∀ i, i ≤ hi → ∃ y, zcal (d + 8) 200 [.ref 32] (z_up x 37 r0 (nI i)) = some (some (.int (fit (gM g 3 r0 (nI i)) n k (h 1 7) (h 29) m)), y) ∧ rfF x (z_up y 37 r0 (x 37 r0)) := fun x x1 x2 x3 x4 i hi => by
    have e8 : z_up x 37 r0 (nI i) 32 8 = h 1 7 := by rw [z_up_ne (by omega)]; exact (x1.1.2.2.2.2 0 (by omega)).trans x2
    obtain ⟨y, ey, G⟩ := r_fit (d := d + 3) (x := z_up x 37 r0 (nI i)) (row := h 29) (m := m) (zHr_M3 (r0 := r0) (v := nI i) x1.1.2.2.1) (HV i hi) (rAt0_mv x1.2.2.2.2.2 (fun j p q => by rw [z_up_ne (by omega)])) (by rw [e8]; exact hst) mn (by rw [z_up_ne (by omega)]; exact x3) (fun j hj => by rw [z_up_ne (by omega)]; exact x4 j hj)
    rw [e8] at ey
    refine ⟨y, ey, fun a q1 q2 q3 => ?_, fun j hj => by rw [z_up_ne (by omega), G.2 j hj, z_up_ne (by omega)]⟩
    by_cases e : a = 37
    · subst e
      have : y 37 = z_up x 37 r0 (nI i) 37 := G.1 37 q1 q2 q3
      funext j
      rw [zu_ap, this, zu_ap]
      by_cases z : j = r0
      · rw [if_pos ⟨rfl, z⟩, z]
      · rw [if_neg (fun q => z q.2), if_neg (fun q => z q.2)]
    · rw [z_up_ne e, G.1 a q1 q2 q3, z_up_ne e]
  generalize hft : (fun i : Nat => fit (gM g 3 r0 (nI i)) n k (h 1 7) (h 29) m) = ft
  have fd : ∀ i : Nat, fit (gM g 3 r0 (nI i)) n k (h 1 7) (h 29) m = ft i := fun i => by rw [← hft]
  simp only [fd] at cs rs
  clear hft fd
  generalize hP : (fun i : Nat => !(decide (ft i = 0))) = P
  have Pd : ∀ i, P i = !(decide (ft i = 0)) := fun i => by rw [← hP]
  have lc : ∀ s i acc x u, i + s = hi + 1 → zHil x 7 (gM g 3 r0 u) n k → x 7 7 = h 1 7 → zFr zMT h x → ∃ y, zE (d + 8) 119 (17, [some (.ref 0), some (.int (nI r0)), some (.ref 11), some (.int (nI lo)), some (.int (nI hi)), some (.int acc), some (.int (nI i))], [], x) = some (some (.int (mU P s i acc)), y) ∧ zFr zMT h y := by
    intro s
    induction s with
    | zero =>
      intro i acc x u hi2 x1 x2 x3
      have hi2 : i = hi + 1 := hi2
      subst hi2
      exact ⟨x, by rw [E119_0_11_at17, if_pos (show nI (hi + 1) > nI hi from nI_lt (by omega) (by omega))]; rfl, x3⟩
    | succ s ih =>
      intro i acc x u hi2 x1 x2 x3
      obtain ⟨y, ⟨v8, z, ez, ey⟩, y1, y2, y3⟩ := cs x u x1 x2 x3 i (by omega)
      rw [E119_0_11_at17, if_neg (show ¬ nI i > nI hi from Int32.not_lt.mpr (nI_le (by omega) (by omega))), c_put (n := 5) rfl (by omega), zCv_some, pt_nI hr0 (by omega), ez, zCi_some, ey, zCi_some, mU, Pd]
      by_cases q : ft i = 0
      · rw [if_pos q, decide_eq_true q, if_neg (show ¬ (!true) = true by decide), nI_1]
        exact ih (i + 1) acc y (nI i) (by omega) y1 y2 y3
      · rw [if_neg q, decide_eq_false q, if_pos (show (!false) = true from rfl), nI_1]
        exact ih (i + 1) _ y (nI i) (by omega) y1 y2 y3
  obtain ⟨h2, e2, F2⟩ := lc (hi + 1 - lo) lo 0 h1 _ (by omega) K1' K7 F1
  have R2 := Rel0_mv R0 (zPers_mt F2)
  have C2 := RelC_mt C F2
  have s2 : h2 1 7 = h 1 7 := by rw [F2 1 (zMT_n (by omega))]
  have c240 : h2 32 40 = nI m := by rw [F2 32 (zMT_n (by omega)), m3]
  have c246 : ∀ j, j < m → h2 46 j = h 29 j := fun j hj => by rw [F2 46 (zMT_n (by omega)), m4 j hj]
  have lr : ∀ s i acc x, i + s = hi + 1 → rfF h2 (z_up x 37 r0 (h2 37 r0)) → ∃ y, zE (d + 8) 199 (11, [some (.ref 32), some (.ref 37), some (.int (nI r0)), some (.int (nI lo)), some (.int (nI hi)), some (.int (h2 37 r0)), some (.int acc), some (.int (nI i))], [], x) = some (some (.int (mU P s i acc)), y) ∧ rfF h2 y := by
    intro s
    induction s with
    | zero =>
      intro i acc x hi2 hx
      have hi2 : i = hi + 1 := hi2
      subst hi2
      refine ⟨z_up x 37 r0 (h2 37 r0), ?_, hx⟩
      rw [E199_32_37_at11, if_pos (show nI (hi + 1) > nI hi from nI_lt (by omega) (by omega)), zG_nI hr0 (by omega), nI_tn (by omega)]
      rfl
    | succ s ih =>
      intro i acc x hi2 hx
      have Rx := Rel0_mv R2 (zPers_rf2 hx)
      have x8 : z_up x 37 r0 (h2 37 r0) 37 r0 = h2 37 r0 := zu_eq _ _ _ _
      obtain ⟨y, ey, Gy⟩ := rs _ Rx (by rw [hx.1 1 (by omega) (by omega) (by omega), s2]) (by rw [hx.2 40 (by omega), c240]) (fun j hj => by rw [hx.1 46 (by omega) (by omega) (by omega), c246 j hj]) i (by omega)
      rw [z_up2] at ey
      rw [x8] at Gy
      rw [E199_32_37_at11, if_neg (show ¬ nI i > nI hi from Int32.not_lt.mpr (nI_le (by omega) (by omega))), zG_nI hr0 (by omega), nI_tn (by omega), ey, zCi_some, mU, Pd]
      by_cases q : ft i = 0
      · rw [if_pos q, decide_eq_true q, if_neg (show ¬ (!true) = true by decide), nI_1, Int32.or_zero]
        exact ih (i + 1) acc y (by omega) (rfF_tr hx Gy)
      · rw [if_neg q, decide_eq_false q, if_pos (show (!false) = true from rfl), nI_1]
        exact ih (i + 1) _ y (by omega) (rfF_tr hx Gy)
  obtain ⟨h3, e3, G3⟩ := lr (hi + 1 - lo) lo 0 h2 (by omega) (by rw [z_up_id]; exact rfF_rf)
  refine ⟨_, h2, h3, by rw [E119_0_11, e1, zCv_some]; exact e2, ?_, Rel_of R2 C2 G3, F2 32 (zMT_n (by omega)), F2⟩
  rw [E199_32_37, zG_nI hr0 (by omega), nI_tn (by omega)]
  exact e3
theorem tl_4 {d : Nat} {h : zH} {g : zHl} {n k m r0 lo hi : Nat} (R0 : Rel0 g n k h) (C : RelC h) (m2 : h 28 1 = nI m) (m3 : h 32 40 = nI m) (m4 : ∀ j, j < m → h 46 j = h 29 j) (mn : m ≤ 10) (hr0 : r0 < 5) (hh : hi ≤ 9) (hl : lo ≤ hi) (HV : ∀ i, i ≤ hi → zVal (gM g 4 r0 (nI i)) n k) : ∃ (v : Int32) (h1 h2 : zH), zcal (d + 9) 119 [.ref 0, .int (nI r0), .ref 12, .int (nI lo), .int (nI hi)] h = some (some (.int v), h1) ∧ zcal (d + 9) 199 [.ref 32, .ref 38, .int (nI r0), .int (nI lo), .int (nI hi)] h1 = some (some (.int v), h2) ∧ Rel h2 ∧ h1 32 = h 32 ∧ zFr zMT h h1 := by
  have V := R0.1.1
  obtain ⟨h1, e1, K1, K7, F1⟩ := c_like (d := d + 5) R0.1.2.1 V
  have hst := R0.1.2.2.2.1.1
  have K1' : zHil h1 7 (gM g 4 r0 (g 4 r0)) n k := by rw [gM_id]; exact K1
  have cs : ∀ (x : zH) (u : Int32), zHil x 7 (gM g 4 r0 u) n k → x 7 7 = h 1 7 → zFr zMT h x → ∀ i, i ≤ hi → ∃ y, (∃ v8 z, zcal (d + 8) 61 [.ref 19, .ref 7] (z_up x 12 r0 (nI i)) = some (some (.int v8), z) ∧ zcal (d + 8) 120 [.ref 19, .ref 28] z = some (some (.int (fit (gM g 4 r0 (nI i)) n k (h 1 7) (h 29) m)), y)) ∧ zHil y 7 (gM g 4 r0 (nI i)) n k ∧ y 7 7 = h 1 7 ∧ zFr zMT h y := fun x u x1 x2 x3 i hi => by
    obtain ⟨y, ey, Iy, Fy⟩ := c_end (d := d + 3) (zHil_M4 (v := nI i) x1) (HV i hi)
    rw [show z_up x 12 r0 (nI i) 7 7 = h 1 7 by rw [z_up_ne (by omega)]; exact x2] at ey Iy
    have Fz : zFr zMT h y := zFr_tr x3 (zFr_tr (zFr_up (by unfold zMT; omega)) Fy)
    exact ⟨y, ⟨_, y, ey, c_fit (d := d + 5) mn Iy.2.2.2.2.2.2.1 (by rw [Fz 28 (zMT_n (by omega)), m2]) (fun j hj => by rw [Fz 29 (zMT_n (by omega))])⟩, Iy.1, Iy.2.1, Fz⟩
  have rs : ∀ (x : zH), Rel0 g n k x → x 1 7 = h 1 7 → x 32 40 = nI m → (∀ j, j < m → x 46 j = h 29 j) → ∀ i, i ≤ hi → ∃ y, zcal (d + 8) 200 [.ref 32] (z_up x 38 r0 (nI i)) = some (some (.int (fit (gM g 4 r0 (nI i)) n k (h 1 7) (h 29) m)), y) ∧ rfF x (z_up y 38 r0 (x 38 r0)) := fun x x1 x2 x3 x4 i hi => by
    have e8 : z_up x 38 r0 (nI i) 32 8 = h 1 7 := by rw [z_up_ne (by omega)]; exact (x1.1.2.2.2.2 0 (by omega)).trans x2
    obtain ⟨y, ey, G⟩ := r_fit (d := d + 3) (x := z_up x 38 r0 (nI i)) (row := h 29) (m := m) (zHr_M4 (r0 := r0) (v := nI i) x1.1.2.2.1) (HV i hi) (rAt0_mv x1.2.2.2.2.2 (fun j p q => by rw [z_up_ne (by omega)])) (by rw [e8]; exact hst) mn (by rw [z_up_ne (by omega)]; exact x3) (fun j hj => by rw [z_up_ne (by omega)]; exact x4 j hj)
    rw [e8] at ey
    refine ⟨y, ey, fun a q1 q2 q3 => ?_, fun j hj => by rw [z_up_ne (by omega), G.2 j hj, z_up_ne (by omega)]⟩
    by_cases e : a = 38
    · subst e
      have : y 38 = z_up x 38 r0 (nI i) 38 := G.1 38 q1 q2 q3
      funext j
      rw [zu_ap, this, zu_ap]
      by_cases z : j = r0
      · rw [if_pos ⟨rfl, z⟩, z]
      · rw [if_neg (fun q => z q.2), if_neg (fun q => z q.2)]
    · rw [z_up_ne e, G.1 a q1 q2 q3, z_up_ne e]
  generalize hft : (fun i : Nat => fit (gM g 4 r0 (nI i)) n k (h 1 7) (h 29) m) = ft
  have fd : ∀ i : Nat, fit (gM g 4 r0 (nI i)) n k (h 1 7) (h 29) m = ft i := fun i => by rw [← hft]
  simp only [fd] at cs rs
  clear hft fd
  generalize hP : (fun i : Nat => !(decide (ft i = 0))) = P
  have Pd : ∀ i, P i = !(decide (ft i = 0)) := fun i => by rw [← hP]
  have lc : ∀ s i acc x u, i + s = hi + 1 → zHil x 7 (gM g 4 r0 u) n k → x 7 7 = h 1 7 → zFr zMT h x → ∃ y, zE (d + 8) 119 (17, [some (.ref 0), some (.int (nI r0)), some (.ref 12), some (.int (nI lo)), some (.int (nI hi)), some (.int acc), some (.int (nI i))], [], x) = some (some (.int (mU P s i acc)), y) ∧ zFr zMT h y := by
    intro s
    induction s with
    | zero =>
      intro i acc x u hi2 x1 x2 x3
      have hi2 : i = hi + 1 := hi2
      subst hi2
      exact ⟨x, by rw [E119_0_12_at17, if_pos (show nI (hi + 1) > nI hi from nI_lt (by omega) (by omega))]; rfl, x3⟩
    | succ s ih =>
      intro i acc x u hi2 x1 x2 x3
      obtain ⟨y, ⟨v8, z, ez, ey⟩, y1, y2, y3⟩ := cs x u x1 x2 x3 i (by omega)
      rw [E119_0_12_at17, if_neg (show ¬ nI i > nI hi from Int32.not_lt.mpr (nI_le (by omega) (by omega))), c_put (n := 5) rfl (by omega), zCv_some, pt_nI hr0 (by omega), ez, zCi_some, ey, zCi_some, mU, Pd]
      by_cases q : ft i = 0
      · rw [if_pos q, decide_eq_true q, if_neg (show ¬ (!true) = true by decide), nI_1]
        exact ih (i + 1) acc y (nI i) (by omega) y1 y2 y3
      · rw [if_neg q, decide_eq_false q, if_pos (show (!false) = true from rfl), nI_1]
        exact ih (i + 1) _ y (nI i) (by omega) y1 y2 y3
  obtain ⟨h2, e2, F2⟩ := lc (hi + 1 - lo) lo 0 h1 _ (by omega) K1' K7 F1
  have R2 := Rel0_mv R0 (zPers_mt F2)
  have C2 := RelC_mt C F2
  have s2 : h2 1 7 = h 1 7 := by rw [F2 1 (zMT_n (by omega))]
  have c240 : h2 32 40 = nI m := by rw [F2 32 (zMT_n (by omega)), m3]
  have c246 : ∀ j, j < m → h2 46 j = h 29 j := fun j hj => by rw [F2 46 (zMT_n (by omega)), m4 j hj]
  have lr : ∀ s i acc x, i + s = hi + 1 → rfF h2 (z_up x 38 r0 (h2 38 r0)) → ∃ y, zE (d + 8) 199 (11, [some (.ref 32), some (.ref 38), some (.int (nI r0)), some (.int (nI lo)), some (.int (nI hi)), some (.int (h2 38 r0)), some (.int acc), some (.int (nI i))], [], x) = some (some (.int (mU P s i acc)), y) ∧ rfF h2 y := by
    intro s
    induction s with
    | zero =>
      intro i acc x hi2 hx
      have hi2 : i = hi + 1 := hi2
      subst hi2
      refine ⟨z_up x 38 r0 (h2 38 r0), ?_, hx⟩
      rw [E199_32_38_at11, if_pos (show nI (hi + 1) > nI hi from nI_lt (by omega) (by omega)), zG_nI hr0 (by omega), nI_tn (by omega)]
      rfl
    | succ s ih =>
      intro i acc x hi2 hx
      have Rx := Rel0_mv R2 (zPers_rf2 hx)
      have x8 : z_up x 38 r0 (h2 38 r0) 38 r0 = h2 38 r0 := zu_eq _ _ _ _
      obtain ⟨y, ey, Gy⟩ := rs _ Rx (by rw [hx.1 1 (by omega) (by omega) (by omega), s2]) (by rw [hx.2 40 (by omega), c240]) (fun j hj => by rw [hx.1 46 (by omega) (by omega) (by omega), c246 j hj]) i (by omega)
      rw [z_up2] at ey
      rw [x8] at Gy
      rw [E199_32_38_at11, if_neg (show ¬ nI i > nI hi from Int32.not_lt.mpr (nI_le (by omega) (by omega))), zG_nI hr0 (by omega), nI_tn (by omega), ey, zCi_some, mU, Pd]
      by_cases q : ft i = 0
      · rw [if_pos q, decide_eq_true q, if_neg (show ¬ (!true) = true by decide), nI_1, Int32.or_zero]
        exact ih (i + 1) acc y (by omega) (rfF_tr hx Gy)
      · rw [if_neg q, decide_eq_false q, if_pos (show (!false) = true from rfl), nI_1]
        exact ih (i + 1) _ y (by omega) (rfF_tr hx Gy)
  obtain ⟨h3, e3, G3⟩ := lr (hi + 1 - lo) lo 0 h2 (by omega) (by rw [z_up_id]; exact rfF_rf)
  refine ⟨_, h2, h3, by rw [E119_0_12, e1, zCv_some]; exact e2, ?_, Rel_of R2 C2 G3, F2 32 (zMT_n (by omega)), F2⟩
  rw [E199_32_38, zG_nI hr0 (by omega), nI_tn (by omega)]
  exact e3

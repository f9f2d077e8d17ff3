/-! THE REFERENCE'S RIDE -/
section SPEC3
variable (g : zHl) (n : Nat) (b u w : Nat → Bool) (q0 : zQ)
def rWh : Nat → Nat → Int32
  | 0 => fun _ => -9
  | i + 1 => if (rJ g n b u w q0 i).2.2.2 = 0 then upd (rWh i) (rJ g n b u w q0 i).1 (rR g n b u w q0 i) else rWh i
def rGt : Nat → Int32
  | 0 => 0
  | i + 1 => if (rJ g n b u w q0 i).2.2.2 = 0 ∧ (rJ g n b u w q0 i).1 < (rJ g n b u w q0 (i + 1)).1 then rGt i ||| (1 <<< (nI (rJ g n b u w q0 i).1 &&& 31)) else rGt i
def rGu : Nat → Int32
  | 0 => 0
  | i + 1 => if (rJ g n b u w q0 i).2.2.2 = 0 ∧ rU g n b u w q0 i = true then rGu i ||| (1 <<< (nI (rJ g n b u w q0 i).1 &&& 31)) else rGu i
end SPEC3
/-- the reference holds such a hill -/
def zHr (h : zH) (g : zHl) (n k : Nat) : Prop := h 32 6 = nI n ∧ h 32 7 = nI k ∧ (∀ s, s < n → h 34 s = g 0 s ∧ h 35 s = g 1 s ∧ h 36 s = g 2 s) ∧ (∀ r, r < k → h 37 r = g 3 r ∧ h 38 r = g 4 r)
theorem zHr_mv {h h' : zH} {g : zHl} {n k : Nat} (H : zHr h g n k) (h5 : h' 32 6 = h 32 6) (h6 : h' 32 7 = h 32 7) (hr : ∀ a, 34 ≤ a → a ≤ 38 → h' a = h a) : zHr h' g n k := by
  obtain ⟨e1, e2, e3, e4⟩ := H
  refine ⟨h5.trans e1, h6.trans e2, fun s hs => ?_, fun r hr2 => ?_⟩
  · rw [hr 34 (by omega) (by omega), hr 35 (by omega) (by omega), hr 36 (by omega) (by omega)]; exact e3 s hs
  · rw [hr 37 (by omega) (by omega), hr 38 (by omega) (by omega)]; exact e4 r hr2
section REF
variable {d : Nat} {h : zH} {g : zHl} {n k : Nat}
theorem r_held {x : Int32} : zcal (d + 1) 154 [.int x, .int 0, .int 99] h = some (some (.int (s_held x)), h) := by
  rw [E154]
  unfold s_held
  by_cases h1 : x ≥ 0
  · rw [if_pos h1, if_pos h1]
    by_cases h2 : x ≤ 99
    · rw [if_pos h2, if_pos h2]
    · rw [if_neg h2, if_neg h2]
  · rw [if_neg h1, if_neg h1]
theorem r_has {x : Int32} {s : Nat} : zcal (d + 1) 155 [.int x, .int (nI s)] h = some (some (.int (if (x >>> (nI s &&& 31)) &&& 1 = 1 then 1 else 0)), h) := by
  rw [E155]
  by_cases h1 : (x >>> (nI s &&& 31)) &&& 1 = 1
  · rw [if_pos h1, if_pos h1]
  · rw [if_neg h1, if_neg h1]
theorem r_str (H : zHr h g n k) {s : Nat} (hs : s < n) : zcal (d + 1) 150 [.int (g 0 s)] h = some (some (.int (if s_str g s = true then 1 else 0)), h) := by
  rw [E150]
  unfold s_str
  by_cases h4 : g 0 s = 4
  · rw [if_pos h4, decide_eq_true h4, Bool.true_or, if_pos rfl]
  · rw [if_neg h4, decide_eq_false h4, Bool.false_or]
    by_cases h5 : g 0 s = 5
    · rw [if_pos h5, decide_eq_true h5, if_pos rfl]
    · rw [if_neg h5, decide_eq_false h5, if_neg (by decide)]
theorem r_hold (H : zHr h g n k) (V : zVal g n k) {s : Nat} {r : Int32} (hs : s < n) (hr : s_rid k r) : zcal (d + 1) 151 [.ref 32, .int (nI s), .int r] h = some (some (.int (s_hold g s r)), h) := by
  obtain ⟨x, hx, rfl⟩ := hr
  have hn := V.1; have hk := V.2.1
  rw [E151_32, zG_nI (by omega) (by omega), nI_tn (by omega), (H.2.2.1 s hs).1, zG_nI (by omega) (by omega), nI_tn (by omega), (H.2.2.2 x hx).2, zG_nI (by omega) (by omega), zG_nI (by omega) (by omega)]
  unfold s_hold
  rw [nI_tn (by omega)]
  by_cases h1 : g 0 s = 1
  · rw [if_pos h1, if_pos h1]
  · rw [if_neg h1, if_neg h1]
    by_cases h3 : g 0 s = 3
    · rw [if_pos h3, if_pos h3]
    · rw [if_neg h3, if_neg h3]
theorem r_bec (H : zHr h g n k) (V : zVal g n k) {s : Nat} {r v : Int32} (hs : s < n) : zcal (d + 1) 153 [.ref 32, .int (nI s), .int (g 3 r.toNatClampNeg), .int v] h = some (some (.int (s_bec g s r v)), h) := by
  have hn := V.1
  rw [E153_32, zG_nI (by omega) (by omega), nI_tn (by omega), (H.2.2.1 s hs).1, (H.2.2.1 s hs).2.1]
  unfold s_bec
  obtain ⟨-, ⟨x, hx, e⟩, -⟩ := V.2.2.1 s hs
  rw [e]
  rcases (show x = 0 ∨ x = 1 ∨ x = 2 ∨ x = 3 ∨ x = 4 ∨ x = 5 by omega) with rfl | rfl | rfl | rfl | rfl | rfl
  · rw [if_pos (by decide), zG_nI (by omega) (by omega), if_neg (by decide), if_neg (by decide), if_neg (by decide), if_neg (by decide), if_neg (by decide)]
  · rw [if_neg (by decide), if_pos (by decide), zG_nI (by omega) (by omega), if_pos (by decide)]
  · rw [if_neg (by decide), if_neg (by decide), if_pos (by decide), if_neg (by decide), if_pos (by decide)]
  · rw [if_neg (by decide), if_neg (by decide), if_neg (by decide), if_pos (by decide), zG_nI (by omega) (by omega), if_neg (by decide), if_neg (by decide), if_pos (by decide)]
  · rw [if_neg (by decide), if_neg (by decide), if_neg (by decide), if_neg (by decide), if_pos (by decide), zG_nI (by omega) (by omega), if_neg (by decide), if_neg (by decide), if_neg (by decide), if_pos (by decide)]
  · rw [if_neg (by decide), if_neg (by decide), if_neg (by decide), if_neg (by decide), if_neg (by decide), zG_nI (by omega) (by omega), if_neg (by decide), if_neg (by decide), if_neg (by decide), if_neg (by decide), if_pos (by decide)]
theorem r_beh (H : zHr h g n k) (V : zVal g n k) {s : Nat} {r v : Int32} (hs : s < n) (hr : s_rid k r) : zcal (d + 2) 152 [.ref 32, .int (nI s), .int r, .int v] h = some (some (.int (s_held (s_bec g s r v))), h) := by
  have hk := V.2.1
  obtain ⟨x, hx, rfl⟩ := hr
  have e : g 3 (nI x).toNatClampNeg = h 37 x := by rw [nI_tn (by omega), (H.2.2.2 x hx).1]
  rw [E152_32, zG_nI (by omega) (by omega), nI_tn (by omega), ← e, r_bec H V hs, zCi_some, r_held, zCi_some]
def rupH (g : zHl) (u : Nat → Bool) (s : Nat) (h : zH) : zH :=
  if 0 ≤ g 2 s then (if s_up g u s (h 32 29) = true then z_up (z_up (z_up h 32 32 (h 32 32 ||| (1 <<< (nI s &&& 31)))) 32 34 (h 32 34 + (if s_str g s = true ∧ g 2 s ≠ h 32 30 then 1 else 0))) 32 30 (g 2 s) else z_up h 32 33 (h 32 33 + 1)) else h
theorem r_up (H : zHr h g n k) (V : zVal g n k) {s : Nat} (hs : s < n) (ha : h 32 28 = nI s) {u : Nat → Bool} (hu : h 32 37 = nI s ↔ u s = true) : zcal (d + 2) 149 [.ref 32] h = some (none, rupH g u s h) := by
  have hn := V.1; have hk := V.2.1
  rw [E149_32, ha, zG_nI (by omega) (by omega), nI_tn (by omega), (H.2.2.1 s hs).2.2]
  unfold rupH
  rcases (V.2.2.1 s hs).1 with e | ⟨x, hx, e⟩
  · rw [e, if_neg (by decide), if_neg (by decide)]
  · have h0 : (0 : Int32) ≤ nI x := nI_pos' (by omega)
    have key : ∀ y0, y0 = s_rn u s → zE (d + 1) 149 (47, [some (.ref 32), some (.int (nI x))], [.int y0, .int ((20 : Int32) + ((2 : Int32) * (h 38 x))), .int (h 32 29)], h) = some (none, if s_up g u s (h 32 29) = true then z_up (z_up (z_up h 32 32 (h 32 32 ||| (1 <<< (nI s &&& 31)))) 32 34 (h 32 34 + (if s_str g s = true ∧ nI x ≠ h 32 30 then 1 else 0))) 32 30 (nI x) else z_up h 32 33 (h 32 33 + 1)) := by
      rintro y0 rfl
      rw [E149_32_at47, (H.2.2.2 x hx).2]
      unfold s_up
      rw [e, decide_eq_true h0, Bool.true_and, nI_tn (by omega)]
      by_cases hc : h 32 29 ≤ ((20 : Int32) + ((2 : Int32) * g 4 x)) + s_rn u s
      · have H1 : zHr (z_up h 32 32 (h 32 32 ||| (1 <<< (nI s &&& 31)))) g n k := zHr_mv H (zu_ni _ _ (by omega)) (zu_ni _ _ (by omega)) (fun a q1 q2 => z_up_ne (by omega))
        rw [if_pos hc, decide_eq_true hc, if_pos rfl, ha, zG_nI (by omega) (by omega), nI_tn (by omega), (H.2.2.1 s hs).1, r_str H1 hs, zCi_some]
        have o30 : z_up h 32 32 (h 32 32 ||| (1 <<< (nI s &&& 31))) 32 30 = h 32 30 := zu_ni _ _ (by omega)
        rw [o30]
        by_cases h3 : s_str g s = true
        · rw [if_pos h3, if_neg (by decide)]
          by_cases h4 : nI x = h 32 30
          · rw [if_pos h4, if_neg (fun q => q.2 h4)]
          · rw [if_neg h4, if_pos ⟨h3, h4⟩]
        · rw [if_neg h3, if_pos rfl, if_neg (fun q => h3 q.1)]
      · rw [if_neg hc, decide_eq_false hc, if_neg (by decide)]
    rw [e, if_pos (show nI x ≥ 0 from h0), zG_nI (by omega) (by omega), nI_tn (by omega), if_pos h0]
    by_cases hx4 : h 32 37 = nI s
    · rw [if_pos hx4]; exact key _ (by unfold s_rn; rw [if_pos (hu.mp hx4)])
    · rw [if_neg hx4]; exact key _ (by unfold s_rn; rw [if_neg (fun q => hx4 (hu.mpr q))])
theorem rupH_ne {u : Nat → Bool} {s a : Nat} (hn : a ≠ 32) : rupH g u s h a = h a := by
  unfold rupH
  split
  · split
    · rw [z_up_ne hn, z_up_ne hn, z_up_ne hn]
    · rw [z_up_ne hn]
  · rfl
theorem rupH_ni {u : Nat → Bool} {s j : Nat} (hj : j ≠ 30 ∧ j ≠ 32 ∧ j ≠ 33 ∧ j ≠ 34) : rupH g u s h 32 j = h 32 j := by
  unfold rupH
  split
  · split
    · rw [zu_ni _ _ hj.1, zu_ni _ _ hj.2.2.2, zu_ni _ _ hj.2.1]
    · rw [zu_ni _ _ hj.2.2.1]
  · rfl
theorem s_up0 {u : Nat → Bool} {s : Nat} {v : Int32} (h : ¬ 0 ≤ g 2 s) : s_up g u s v = false := by
  unfold s_up; rw [decide_eq_false h, Bool.false_and]
theorem rupH_30 {u : Nat → Bool} {s : Nat} : rupH g u s h 32 30 = s_r1 g u s (h 32 29) (h 32 30) := by
  unfold rupH s_r1
  by_cases h1 : 0 ≤ g 2 s
  · rw [if_pos h1]
    by_cases h2 : s_up g u s (h 32 29) = true
    · rw [if_pos h2, if_pos h2, zu_eq]
    · rw [if_neg h2, if_neg h2, zu_ni _ _ (by omega)]
  · rw [if_neg h1, s_up0 h1, if_neg (by decide)]
theorem rupH_32 {u : Nat → Bool} {s : Nat} : rupH g u s h 32 32 = if s_up g u s (h 32 29) = true then h 32 32 ||| (1 <<< (nI s &&& 31)) else h 32 32 := by
  unfold rupH
  by_cases h1 : 0 ≤ g 2 s
  · rw [if_pos h1]
    by_cases h2 : s_up g u s (h 32 29) = true
    · rw [if_pos h2, if_pos h2, zu_ni _ _ (by omega), zu_ni _ _ (by omega), zu_eq]
    · rw [if_neg h2, if_neg h2, zu_ni _ _ (by omega)]
  · rw [if_neg h1, s_up0 h1, if_neg (by decide)]
theorem rupH_33 {u : Nat → Bool} {s : Nat} : rupH g u s h 32 33 = if 0 ≤ g 2 s ∧ s_up g u s (h 32 29) = false then h 32 33 + 1 else h 32 33 := by
  unfold rupH
  by_cases h1 : 0 ≤ g 2 s
  · rw [if_pos h1]
    by_cases h2 : s_up g u s (h 32 29) = true
    · have q : ¬ (0 ≤ g 2 s ∧ s_up g u s (h 32 29) = false) := fun q => by rw [h2] at q; cases q.2
      rw [if_pos h2, if_neg q, zu_ni _ _ (by omega), zu_ni _ _ (by omega), zu_ni _ _ (by omega)]
    · rw [if_neg h2, if_pos ⟨h1, by simpa using h2⟩, zu_eq]
  · rw [if_neg h1, if_neg (fun q => h1 q.1)]
theorem rupH_34 {u : Nat → Bool} {s : Nat} : rupH g u s h 32 34 = if s_up g u s (h 32 29) = true ∧ s_str g s = true ∧ g 2 s ≠ h 32 30 then h 32 34 + 1 else h 32 34 := by
  unfold rupH
  by_cases h1 : 0 ≤ g 2 s
  · rw [if_pos h1]
    by_cases h2 : s_up g u s (h 32 29) = true
    · rw [if_pos h2, zu_ni _ _ (by omega), zu_eq]
      by_cases h3 : s_str g s = true ∧ g 2 s ≠ h 32 30
      · rw [if_pos h3, if_pos ⟨h2, h3⟩]
      · rw [if_neg h3, if_neg (fun q => h3 q.2), Int32.add_zero]
    · rw [if_neg h2, if_neg (fun q => h2 q.1), zu_ni _ _ (by omega)]
  · rw [if_neg h1, s_up0 h1, if_neg (fun q => by cases q.1)]
end REF

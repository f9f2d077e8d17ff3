/-! THE REFERENCE'S RIDE, WHOLE -/
section RIDES
variable {g : zHl} {n k : Nat} {b u w : Nat → Bool} {q0 : zQ} {st B U W9 : Int32}
def rfInv (g : zHl) (n k : Nat) (b u w : Nat → Bool) (q0 : zQ) (st B U W9 : Int32) (i : Nat) (h : zH) : Prop :=
  zHr h g n k ∧ h 32 8 = st ∧ h 32 36 = B ∧ h 32 37 = U ∧ h 32 38 = W9 ∧ h 32 28 = nI (rJ g n b u w q0 i).1 ∧ h 32 29 = (rJ g n b u w q0 i).2.1 ∧ h 32 30 = (rJ g n b u w q0 i).2.2.1 ∧ h 32 31 = (rJ g n b u w q0 i).2.2.2 ∧ h 32 32 = rGu g n b u w q0 i ∧ h 32 33 = rFa g n b u w q0 i ∧ h 32 34 = rWe g n b u w q0 i ∧ h 32 35 = rGt g n b u w q0 i ∧ (∀ j, j < 10 → h 44 j = rSp g n b u w q0 (-9) i j) ∧ (∀ j, j < 10 → h 45 j = rWh g n b u w q0 i j)
theorem r_at120 {d : Nat} {h : zH} (V : zVal g n k) {s : Nat} (hs : s < n) (hn6 : h 32 6 = nI n) (ha : h 32 28 = nI s) (hm : h 32 31 = 0) {x1 y0 c r : Int32} (hy : y0 = if c > 0 then c else 0) (hrd : h 32 30 = r) :
    ∃ h', zE d 148 (120, [some (.ref 32), some (.int x1)], [.int y0], h) = some (none, h') ∧ h' 32 28 = nI (if c > 0 then s + 1 else s) ∧ h' 32 29 = (if c > 0 then c else 0) ∧ h' 32 30 = r ∧ h' 32 31 = (if c > 0 then (if s + 1 < n then 0 else 3) else 1) ∧ h' 32 35 = (if c > 0 then h 32 35 ||| (1 <<< (nI s &&& 31)) else h 32 35) ∧ ∀ a j, (a = 32 → j ≠ 28 ∧ j ≠ 29 ∧ j ≠ 31 ∧ j ≠ 35) → h' a j = h a j := by
  have hn := V.1
  rw [E148_32_at120]
  by_cases hc : c > 0
  · rw [if_pos hc] at hy
    have hne : ¬ y0 = 0 := fun q => by rw [hy] at q; rw [q] at hc; exact absurd hc (by decide)
    rw [if_neg hne, if_pos hc, if_pos hc, if_pos hc, if_pos hc, hn6, ha, nI_1]
    by_cases h1 : s + 1 < n
    · rw [if_neg (fun q => by have := (nI_eq (by omega) (by omega)).mp q; omega), if_pos h1]
      refine ⟨_, rfl, by simp [zu_ap], by simp [zu_ap, hy], by simp [zu_ap, hrd], by simp [zu_ap, hm], by simp [zu_ap], fun a j hj => ?_⟩
      by_cases e : a = 32
      · obtain ⟨q1, q2, q3, q4⟩ := hj e; simp [zu_ap, q1, q2, q4]
      · simp [zu_ap, e]
    · rw [if_pos (by rw [show s + 1 = n by omega]), if_neg h1]
      refine ⟨_, rfl, by simp [zu_ap], by simp [zu_ap, hy], by simp [zu_ap, hrd], by simp [zu_ap], by simp [zu_ap], fun a j hj => ?_⟩
      by_cases e : a = 32
      · obtain ⟨q1, q2, q3, q4⟩ := hj e; simp [zu_ap, q1, q2, q3, q4]
      · simp [zu_ap, e]
  · rw [if_neg hc] at hy
    rw [if_pos hy, if_neg hc, if_neg hc, if_neg hc, if_neg hc]
    refine ⟨_, rfl, by simp [zu_ap, ha], by simp [zu_ap, hy], by simp [zu_ap, hrd], by simp [zu_ap], by simp [zu_ap], fun a j hj => ?_⟩
    by_cases e : a = 32
    · obtain ⟨q1, q2, q3, q4⟩ := hj e; simp [zu_ap, q2, q3]
    · simp [zu_ap, e]
/-- behind the brake: the change, what is held, the speed behind -/
theorem r_at34 {d : Nat} {h : zH} (H : zHr h g n k) (V : zVal g n k) {s : Nat} (hs : s < n) (ha : h 32 28 = nI s) (hrd : s_rid k (h 32 30)) (hm : h 32 31 = 0) (hv : zIn (h 32 29) 0 99) (hu : h 32 37 = nI s ↔ u s = true) (hw : ((h 32 38 >>> (nI s &&& 31)) &&& 1 = 1) ↔ w s = true) :
    ∃ h', zE (d + 2) 148 (34, [some (.ref 32), none], [], h) = some (none, h')
      ∧ h' 32 28 = nI (s_nx g n w s (h 32 29) (s_r1 g u s (h 32 29) (h 32 30))).1 ∧ h' 32 29 = (s_nx g n w s (h 32 29) (s_r1 g u s (h 32 29) (h 32 30))).2.1 ∧ h' 32 30 = (s_nx g n w s (h 32 29) (s_r1 g u s (h 32 29) (h 32 30))).2.2.1 ∧ h' 32 31 = (s_nx g n w s (h 32 29) (s_r1 g u s (h 32 29) (h 32 30))).2.2.2
      ∧ h' 32 32 = (if s_up g u s (h 32 29) = true then h 32 32 ||| (1 <<< (nI s &&& 31)) else h 32 32)
      ∧ h' 32 33 = (if 0 ≤ g 2 s ∧ s_up g u s (h 32 29) = false then h 32 33 + 1 else h 32 33)
      ∧ h' 32 34 = (if s_up g u s (h 32 29) = true ∧ s_str g s = true ∧ g 2 s ≠ h 32 30 then h 32 34 + 1 else h 32 34)
      ∧ h' 32 35 = (if s < (s_nx g n w s (h 32 29) (s_r1 g u s (h 32 29) (h 32 30))).1 then h 32 35 ||| (1 <<< (nI s &&& 31)) else h 32 35)
      ∧ h' 45 = upd (h 45) s (s_r1 g u s (h 32 29) (h 32 30))
      ∧ (∀ a, a ≠ 32 → a ≠ 45 → h' a = h a) ∧ (∀ j, j < 28 ∨ 35 < j → h' 32 j = h 32 j) := by
  have hn := V.1
  have hr1 : s_rid k (s_r1 g u s (h 32 29) (h 32 30)) := s_r1_rid V hs hrd
  rw [E148_32_at34, r_up H V hs ha hu, zCv_some, rupH_ni ⟨by omega, by omega, by omega, by omega⟩, rupH_ni (j := 29) ⟨by omega, by omega, by omega, by omega⟩, rupH_30, ha, zG_nI (by omega) (by omega), nI_tn (by omega)]
  generalize hh4 : z_up (rupH g u s h) 45 s (s_r1 g u s (h 32 29) (h 32 30)) = h4
  have f4 : ∀ j, h4 32 j = rupH g u s h 32 j := fun j => by rw [← hh4, zu_nc _ _ (by omega)]
  have f4r : ∀ a, a ≠ 32 → a ≠ 45 → h4 a = h a := fun a q1 q2 => by rw [← hh4, z_up_ne q2, rupH_ne q1]
  have f45 : h4 45 = upd (h 45) s (s_r1 g u s (h 32 29) (h 32 30)) := by
    rw [← hh4]; funext j; rw [zu_ap, rupH_ne (by omega)]; unfold upd; simp
  have f4n : ∀ j, (j ≠ 30 ∧ j ≠ 32 ∧ j ≠ 33 ∧ j ≠ 34) → h4 32 j = h 32 j := fun j hj => by rw [f4, rupH_ni hj]
  have H4 : zHr h4 g n k := zHr_mv H (f4n 6 (by omega)) (f4n 7 (by omega)) (fun a q1 q2 => f4r a (by omega) (by omega))
  have e30 : h4 32 30 = s_r1 g u s (h 32 29) (h 32 30) := by rw [f4, rupH_30]
  have e28 : h4 32 28 = nI s := by rw [f4n 28 (by omega), ha]
  have e29 : h4 32 29 = h 32 29 := f4n 29 (by omega)
  rw [r_hold H4 V hs hr1, zCi_some]
  have fin : ∀ (y0 : Int32) (x1 : Int32), h 32 29 ≤ s_hold g s (s_r1 g u s (h 32 29) (h 32 30)) → (y0 = if s_min (s_bec g s (s_r1 g u s (h 32 29) (h 32 30)) (h 32 29)) - s_wd w s > 0 then s_min (s_bec g s (s_r1 g u s (h 32 29) (h 32 30)) (h 32 29)) - s_wd w s else 0) →
      ∃ h', zE (d + 2) 148 (120, [some (.ref 32), some (.int x1)], [.int y0], h4) = some (none, h')
      ∧ h' 32 28 = nI (s_nx g n w s (h 32 29) (s_r1 g u s (h 32 29) (h 32 30))).1 ∧ h' 32 29 = (s_nx g n w s (h 32 29) (s_r1 g u s (h 32 29) (h 32 30))).2.1 ∧ h' 32 30 = (s_nx g n w s (h 32 29) (s_r1 g u s (h 32 29) (h 32 30))).2.2.1 ∧ h' 32 31 = (s_nx g n w s (h 32 29) (s_r1 g u s (h 32 29) (h 32 30))).2.2.2
      ∧ h' 32 32 = (if s_up g u s (h 32 29) = true then h 32 32 ||| (1 <<< (nI s &&& 31)) else h 32 32)
      ∧ h' 32 33 = (if 0 ≤ g 2 s ∧ s_up g u s (h 32 29) = false then h 32 33 + 1 else h 32 33)
      ∧ h' 32 34 = (if s_up g u s (h 32 29) = true ∧ s_str g s = true ∧ g 2 s ≠ h 32 30 then h 32 34 + 1 else h 32 34)
      ∧ h' 32 35 = (if s < (s_nx g n w s (h 32 29) (s_r1 g u s (h 32 29) (h 32 30))).1 then h 32 35 ||| (1 <<< (nI s &&& 31)) else h 32 35)
      ∧ h' 45 = upd (h 45) s (s_r1 g u s (h 32 29) (h 32 30))
      ∧ (∀ a, a ≠ 32 → a ≠ 45 → h' a = h a) ∧ (∀ j, j < 28 ∨ 35 < j → h' 32 j = h 32 j) := by
    intro y0 x1 hle hy
    obtain ⟨h', g0, g1, g2, g3, g4, g5, g6⟩ := r_at120 (d := d + 2) (h := h4) V hs (by rw [f4n 6 (by omega), H.1]) e28 (by rw [f4n 31 (by omega), hm]) (x1 := x1) hy e30
    have hnx : s_nx g n w s (h 32 29) (s_r1 g u s (h 32 29) (h 32 30)) = if s_min (s_bec g s (s_r1 g u s (h 32 29) (h 32 30)) (h 32 29)) - s_wd w s > 0 then (s + 1, s_min (s_bec g s (s_r1 g u s (h 32 29) (h 32 30)) (h 32 29)) - s_wd w s, s_r1 g u s (h 32 29) (h 32 30), if s + 1 < n then 0 else 3) else (s, 0, s_r1 g u s (h 32 29) (h 32 30), 1) := by unfold s_nx; rw [if_pos hle]
    have k32 : h' 32 32 = h4 32 32 := g6 _ _ (fun _ => by omega)
    have k33 : h' 32 33 = h4 32 33 := g6 _ _ (fun _ => by omega)
    have k34 : h' 32 34 = h4 32 34 := g6 _ _ (fun _ => by omega)
    refine ⟨h', g0, ?_, ?_, ?_, ?_, by rw [k32, f4, rupH_32], by rw [k33, f4, rupH_33], by rw [k34, f4, rupH_34], ?_, ?_, fun a q1 q2 => ?_, fun j hj => ?_⟩
    · rw [g1, hnx]; by_cases c : s_min (s_bec g s (s_r1 g u s (h 32 29) (h 32 30)) (h 32 29)) - s_wd w s > 0
      · rw [if_pos c, if_pos c]
      · rw [if_neg c, if_neg c]
    · rw [g2, hnx]; by_cases c : s_min (s_bec g s (s_r1 g u s (h 32 29) (h 32 30)) (h 32 29)) - s_wd w s > 0
      · rw [if_pos c, if_pos c]
      · rw [if_neg c, if_neg c]
    · rw [g3, hnx]; by_cases c : s_min (s_bec g s (s_r1 g u s (h 32 29) (h 32 30)) (h 32 29)) - s_wd w s > 0
      · rw [if_pos c]
      · rw [if_neg c]
    · rw [g4, hnx]; by_cases c : s_min (s_bec g s (s_r1 g u s (h 32 29) (h 32 30)) (h 32 29)) - s_wd w s > 0
      · rw [if_pos c, if_pos c]
      · rw [if_neg c, if_neg c]
    · rw [g5, hnx, f4n 35 (by omega)]; by_cases c : s_min (s_bec g s (s_r1 g u s (h 32 29) (h 32 30)) (h 32 29)) - s_wd w s > 0
      · rw [if_pos c, if_pos c, if_pos (Nat.lt_succ_self s)]
      · rw [if_neg c, if_neg c, if_neg (Nat.lt_irrefl s)]
    · funext j; rw [g6 45 j (fun q => by omega), f45]
    · funext j; rw [g6 a j (fun q => absurd q q1), f4r a q1 q2]
    · rw [g6 32 j (fun _ => by omega), f4n j (by omega)]
  by_cases hle : h 32 29 ≤ s_hold g s (s_r1 g u s (h 32 29) (h 32 30))
  · have hin := s_bec_in V hs hr1 hv
    rw [if_pos hle, e28, e30, e29, r_beh H4 V hs hr1, zCi_some, e28, f4n 38 (by omega), r_has, zCi_some]
    by_cases hb : (h 32 38 >>> (nI s &&& 31)) &&& 1 = 1
    · have hwd : s_wd w s = 5 := by unfold s_wd; rw [if_pos (hw.mp hb)]
      rw [if_pos hb, if_neg (by decide), r_held, zCi_some]
      exact fin _ _ hle (by rw [hwd]; exact s_same5 hin)
    · have hwd : s_wd w s = 0 := by unfold s_wd; rw [if_neg (fun q => hb (hw.mpr q))]
      rw [if_neg hb, if_pos rfl]
      exact fin _ _ hle (by rw [hwd]; exact s_same0 hin)
  · rw [if_neg hle]
    have hnx : s_nx g n w s (h 32 29) (s_r1 g u s (h 32 29) (h 32 30)) = (s, h 32 29, s_r1 g u s (h 32 29) (h 32 30), 2) := by unfold s_nx; rw [if_neg hle]
    rw [hnx]
    dsimp only
    refine ⟨_, rfl, by rw [zu_ni _ _ (by omega), e28], by rw [zu_ni _ _ (by omega), e29], by rw [zu_ni _ _ (by omega), e30], by rw [zu_eq], by rw [zu_ni _ _ (by omega), f4, rupH_32], by rw [zu_ni _ _ (by omega), f4, rupH_33], by rw [zu_ni _ _ (by omega), f4, rupH_34], by rw [zu_ni _ _ (by omega), f4n 35 (by omega), if_neg (Nat.lt_irrefl s)], by rw [z_up_ne (by omega), f45], fun a q1 q2 => by rw [z_up_ne q1, f4r a q1 q2], fun j hj => by rw [zu_ni _ _ (by omega), f4n j (by omega)]⟩
/-- what the reference's ride leaves as it was -/
def rfF (h h' : zH) : Prop := (∀ a, a ≠ 32 → a ≠ 44 → a ≠ 45 → h' a = h a) ∧ ∀ j, j < 28 ∨ 35 < j → h' 32 j = h 32 j
theorem rfF_tr {h h1 h2 : zH} (a : rfF h h1) (b : rfF h1 h2) : rfF h h2 := ⟨fun x q1 q2 q3 => (b.1 x q1 q2 q3).trans (a.1 x q1 q2 q3), fun j hj => (b.2 j hj).trans (a.2 j hj)⟩
theorem rfF_rf {h : zH} : rfF h h := ⟨fun _ _ _ _ => rfl, fun _ _ => rfl⟩
theorem r_stp {d : Nat} {h : zH} (V : zVal g n k) {i : Nat} (hgo : rGo n k (rJ g n b u w q0 i) i) (hin : zIn (rJ g n b u w q0 i).2.1 0 99) (I : rfInv g n k b u w q0 st B U W9 i h) (hi : i < 10) (hm : (rJ g n b u w q0 i).2.2.2 = 0)
    (hb : ∀ s, s < 10 → (B = nI s ↔ b s = true)) (hu : ∀ s, s < 10 → (U = nI s ↔ u s = true)) (hw : ∀ s, s < 10 → (((W9 >>> (nI s &&& 31)) &&& 1 = 1) ↔ w s = true)) :
    ∃ h', zcal (d + 3) 148 [.ref 32] h = some (none, h') ∧ rfInv g n k b u w q0 st B U W9 (i + 1) h' ∧ rfF h h' := by
  obtain ⟨es, hs, hrid⟩ := hgo hm
  have hn := V.1
  have hs2 : (rJ g n b u w q0 i).1 < n := by rw [es]; exact hs
  obtain ⟨I1, I2, I3, I4, I5, I6, I7, I8, I9, I10, I11, I12, I13, I14, I15⟩ := I
  have hJ : rJ g n b u w q0 (i + 1) = s_nx g n w (rJ g n b u w q0 i).1 (rV g n b u w q0 i) (s_r1 g u (rJ g n b u w q0 i).1 (rV g n b u w q0 i) (rJ g n b u w q0 i).2.2.1) := rJ_next hm
  have key : ∀ h2 : zH, (∀ a j, (a = 32 → j ≠ 29) → h2 a j = z_up h 44 (rJ g n b u w q0 i).1 (h 32 29) a j) → h2 32 29 = rV g n b u w q0 i → ∃ h', zE (d + 2) 148 (34, [some (.ref 32), none], [], h2) = some (none, h') ∧ rfInv g n k b u w q0 st B U W9 (i + 1) h' ∧ rfF h h' := by
    intro h2 f2 v2
    have f32 : ∀ j, j ≠ 29 → h2 32 j = h 32 j := fun j hj => by rw [f2 32 j (fun _ => hj), zu_nc _ _ (by omega)]
    have frow : ∀ a, a ≠ 32 → a ≠ 44 → h2 a = h a := fun a q1 q2 => by funext j; rw [f2 a j (fun q => absurd q q1), zu_nc _ _ q2]
    have H2 : zHr h2 g n k := zHr_mv I1 (f32 6 (by omega)) (f32 7 (by omega)) (fun a q1 q2 => frow a (by omega) (by omega))
    obtain ⟨h', g0, g1, g2, g3, g4, g5, g6, g7, g8, g9, g10, g11⟩ := r_at34 (d := d) H2 V hs2 (by rw [f32 28 (by omega), I6]) (by rw [f32 30 (by omega), I8]; exact hrid) (by rw [f32 31 (by omega), I9, hm]) (by rw [v2]; exact s_v1_in hin) (u := u) (w := w) (by rw [f32 37 (by omega), I4]; exact hu _ (by omega)) (by rw [f32 38 (by omega), I5]; exact hw _ (by omega))
    rw [v2, f32 30 (by omega), I8] at g1 g2 g3 g4 g7 g8 g9
    rw [v2] at g5 g6
    rw [← hJ] at g1 g2 g3 g4 g8
    refine ⟨h', g0, ⟨zHr_mv H2 (g11 6 (by omega)) (g11 7 (by omega)) (fun a q1 q2 => g10 a (by omega) (by omega)), by rw [g11 8 (by omega), f32 8 (by omega), I2], by rw [g11 36 (by omega), f32 36 (by omega), I3], by rw [g11 37 (by omega), f32 37 (by omega), I4], by rw [g11 38 (by omega), f32 38 (by omega), I5], g1, g2, g3, g4, ?_, ?_, ?_, ?_, fun j hj => ?_, fun j hj => ?_⟩, ⟨fun a q1 q2 q3 => (g10 a q1 q3).trans (frow a q1 q2), fun j hj => (g11 j hj).trans (f32 j (by omega))⟩⟩
    · rw [g5, f32 32 (by omega), I10, rGu]
      show (if rU g n b u w q0 i = true then _ else _) = _
      by_cases e : rU g n b u w q0 i = true
      · rw [if_pos e, if_pos ⟨hm, e⟩]
      · rw [if_neg e, if_neg (fun q => e q.2)]
    · rw [g6, f32 33 (by omega), I11, rFa]
      show (if 0 ≤ g 2 (rJ g n b u w q0 i).1 ∧ rU g n b u w q0 i = false then _ else _) = _
      by_cases e : 0 ≤ g 2 (rJ g n b u w q0 i).1 ∧ rU g n b u w q0 i = false
      · rw [if_pos e, if_pos ⟨hm, e⟩]
      · rw [if_neg e, if_neg (fun q => e q.2)]
    · rw [g7, f32 34 (by omega), I12, rWe]
      by_cases e : s_up g u (rJ g n b u w q0 i).1 (rV g n b u w q0 i) = true ∧ s_str g (rJ g n b u w q0 i).1 = true ∧ g 2 (rJ g n b u w q0 i).1 ≠ (rJ g n b u w q0 i).2.2.1
      · rw [if_pos e, if_pos ⟨hm, e⟩]
      · rw [if_neg e, if_neg (fun q => e q.2)]
    · rw [g8, f32 35 (by omega), I13, rGt]
      by_cases e : (rJ g n b u w q0 i).1 < (rJ g n b u w q0 (i + 1)).1
      · rw [if_pos e, if_pos ⟨hm, e⟩]
      · rw [if_neg e, if_neg (fun q => e q.2)]
    · rw [g10 44 (by omega) (by omega), f2 44 j (fun q => by omega), rSp, if_pos hm, upd_ap, zu_ap, I7]
      by_cases e : j = (rJ g n b u w q0 i).1
      · rw [if_pos ⟨rfl, e⟩, if_pos e]
      · rw [if_neg (fun q => e q.2), if_neg e]; exact I14 j hj
    · rw [g9, rWh, if_pos hm, upd_ap, upd_ap, frow 45 (by omega) (by omega)]
      by_cases e : j = (rJ g n b u w q0 i).1
      · rw [if_pos e, if_pos e]; rfl
      · rw [if_neg e, if_neg e]; exact I15 j hj
  rw [E148_32, I6, zG_nI (by omega) (by omega), nI_tn (by omega), I3]
  by_cases hx : B = nI (rJ g n b u w q0 i).1
  · rw [if_pos hx]
    refine key _ (fun a j hj => by rw [zu_ap, if_neg (fun q => hj q.1 q.2)]) ?_
    rw [zu_eq, rV, s_v1, if_pos ((hb _ (by omega)).mp hx), I7]
  · rw [if_neg hx]
    refine key _ (fun a j hj => rfl) ?_
    rw [zu_nc _ _ (by omega), rV, s_v1, if_neg (fun q => hx ((hb _ (by omega)).mpr q)), I7]
theorem rfInv_stay {h : zH} {i : Nat} (hm : (rJ g n b u w q0 i).2.2.2 ≠ 0) (I : rfInv g n k b u w q0 st B U W9 i h) : ∀ j, i ≤ j → rfInv g n k b u w q0 st B U W9 j h := by
  intro j hj
  induction hj with
  | refl => exact I
  | @step j hj ih =>
    have hJ := rJ_stay (g := g) (n := n) (b := b) (u := u) (w := w) (q0 := q0) hm j hj
    have hm2 : ¬ (rJ g n b u w q0 j).2.2.2 = 0 := by rw [hJ]; exact hm
    obtain ⟨I1, I2, I3, I4, I5, I6, I7, I8, I9, I10, I11, I12, I13, I14, I15⟩ := ih
    have e : rJ g n b u w q0 (j + 1) = rJ g n b u w q0 j := by rw [rJ, if_neg hm2]
    exact ⟨I1, I2, I3, I4, I5, by rw [e]; exact I6, by rw [e]; exact I7, by rw [e]; exact I8, by rw [e]; exact I9, by rw [rGu, if_neg (fun q => hm2 q.1)]; exact I10, by rw [rFa, if_neg (fun q => hm2 q.1)]; exact I11, by rw [rWe, if_neg (fun q => hm2 q.1)]; exact I12, by rw [rGt, if_neg (fun q => hm2 q.1)]; exact I13, fun x hx => by rw [rSp, if_neg hm2]; exact I14 x hx, fun x hx => by rw [rWh, if_neg hm2]; exact I15 x hx⟩
theorem r_loop {d : Nat} (V : zVal g n k) (hgo : rGo n k q0 0) (hin : zIn q0.2.1 0 99)
    (hb : ∀ s, s < 10 → (B = nI s ↔ b s = true)) (hu : ∀ s, s < 10 → (U = nI s ↔ u s = true)) (hw : ∀ s, s < 10 → (((W9 >>> (nI s &&& 31)) &&& 1 = 1) ↔ w s = true)) :
    ∀ (m i : Nat) (h : zH), i + m = 10 → rfInv g n k b u w q0 st B U W9 i h → ∃ h', zE (d + 3) 176 (4, [some (.ref 32)], [], h) = some (some (.int (nI (rJ g n b u w q0 10).1)), h') ∧ rfInv g n k b u w q0 st B U W9 10 h' ∧ rfF h h' := by
  intro m
  induction m with
  | zero =>
    intro i h hi I
    have hi : i = 10 := hi
    subst hi
    refine ⟨h, ?_, I, rfF_rf⟩
    rw [E176_32_at4, if_neg (by rw [I.2.2.2.2.2.2.2.2.1]; exact rJ_end V hgo), I.2.2.2.2.2.1]
  | succ m ih =>
    intro i h hi I
    by_cases hm : (rJ g n b u w q0 i).2.2.2 = 0
    · obtain ⟨h', e, I', F'⟩ := r_stp (d := d) V (rJ_go V hgo i) (rJ_in V hgo hin i) I (by omega) hm hb hu hw
      rw [E176_32_at4, if_pos (by rw [I.2.2.2.2.2.2.2.2.1]; exact hm), e, zCv_some]
      obtain ⟨h2, e2, I2, F2⟩ := ih (i + 1) h' (by omega) I'
      exact ⟨h2, e2, I2, rfF_tr F' F2⟩
    · have I10 := rfInv_stay hm I 10 (by omega)
      refine ⟨h, ?_, I10, rfF_rf⟩
      rw [E176_32_at4, if_neg (by rw [I.2.2.2.2.2.2.2.2.1]; exact hm), I10.2.2.2.2.2.1]
def fl2 (h : zH) (i : Nat) : zH := fun a j => if (a = 44 ∨ a = 45) ∧ j < i then -9 else h a j
theorem fl2_s (h : zH) (i : Nat) : z_up (z_up (fl2 h i) 44 i (-9)) 45 i (-9) = fl2 h (i + 1) := by
  funext a j
  rw [zu_ap, zu_ap]
  unfold fl2
  by_cases h2 : j = i
  · subst h2
    by_cases h4 : a = 44
    · subst h4; simp
    · by_cases h5 : a = 45
      · subst h5; simp
      · simp [h4, h5]
  · have : (j < i + 1) ↔ j < i := by omega
    simp [h2, this]
theorem r_fl {d : Nat} {h : zH} : ∀ m i, i + m = 10 → zE d 144 (79, [some (.ref 32), some (.int (nI i))], [], fl2 h i) = some (none, fl2 h 10) := by
  intro m
  induction m with
  | zero =>
    intro i hi
    have hi : i = 10 := hi
    subst hi
    rw [E144_32_at79, if_pos (ge10)]
  | succ m ih =>
    intro i hi
    rw [E144_32_at79, if_neg (nge10 (by omega)), zG_nI (by omega) (by omega), zG_nI (by omega) (by omega), nI_tn (by omega), fl2_s, nI_1]
    exact ih (i + 1) (by omega)
def stR (h : zH) (q : zQ) : zH := fl2 (z_up (z_up (z_up (z_up (z_up (z_up (z_up (z_up h 32 28 0) 32 29 q.2.1) 32 30 q.2.2.1) 32 31 q.2.2.2) 32 32 0) 32 33 0) 32 34 0) 32 35 0) 10
theorem r_starts {d : Nat} {h : zH} (H : zHr h g n k) (V : zVal g n k) : zcal (d + 1) 144 [.ref 32] h = some (none, stR h (rQ0 n k (h 32 8) 0)) := by
  have hk := V.2.1; have hn := V.1
  have key : ∀ (h1 : zH) (y0 : Int32), zE d 144 (54, [some (.ref 32), none], [.int y0, .ref 32], h1) = some (none, fl2 (z_up (z_up (z_up (z_up (z_up h1 32 31 y0) 32 32 0) 32 33 0) 32 34 0) 32 35 0) 10) := by
    intro h1 y0
    rw [E144_32_at54]
    have := r_fl (d := d) (h := z_up (z_up (z_up (z_up (z_up h1 32 31 y0) 32 32 0) 32 33 0) 32 34 0) 32 35 0) 10 0 rfl
    have e : fl2 (z_up (z_up (z_up (z_up (z_up h1 32 31 y0) 32 32 0) 32 33 0) 32 34 0) 32 35 0) 0 = (z_up (z_up (z_up (z_up (z_up h1 32 31 y0) 32 32 0) 32 33 0) 32 34 0) 32 35 0) := by
      funext a j; unfold fl2; rw [if_neg (by omega)]
    rw [e] at this
    exact this
  rw [E144_32, H.1, H.2.1]
  unfold stR rQ0
  by_cases h1 : k = 0
  · rw [if_pos ((nI_z0 (by omega)).mpr h1), if_pos ((nI_z0 (by omega)).mpr h1), if_pos h1, if_pos h1, key]
  · rw [if_neg (fun q => h1 ((nI_z0 (by omega)).mp q)), if_neg (fun q => h1 ((nI_z0 (by omega)).mp q)), if_neg h1, if_neg h1]
    by_cases h2 : n = 0
    · rw [if_pos ((nI_z0 (by omega)).mpr h2), if_pos h2, key]
    · rw [if_neg (fun q => h2 ((nI_z0 (by omega)).mp q)), if_neg h2, key]
/-- THE REFERENCE'S RIDE -/
theorem r_rides {d : Nat} {h : zH} (H : zHr h g n k) (V : zVal g n k) (hin : zIn (h 32 8) 0 99)
    (hb : ∀ s, s < 10 → (h 32 36 = nI s ↔ b s = true)) (hu : ∀ s, s < 10 → (h 32 37 = nI s ↔ u s = true)) (hw : ∀ s, s < 10 → (((h 32 38 >>> (nI s &&& 31)) &&& 1 = 1) ↔ w s = true)) :
    ∃ h', zcal (d + 4) 176 [.ref 32] h = some (some (.int (nI (rJ g n b u w (rQ0 n k (h 32 8) 0) 10).1)), h') ∧ rfInv g n k b u w (rQ0 n k (h 32 8) 0) (h 32 8) (h 32 36) (h 32 37) (h 32 38) 10 h' ∧ rfF h h' := by
  rw [E176_32, r_starts H V, zCv_some]
  generalize hq : rQ0 n k (h 32 8) 0 = q
  have hgo : rGo n k q 0 := by
    rw [← hq]
    by_cases h0 : k = 0
    · exact rQ0_go (Or.inr h0)
    · exact rQ0_go (Or.inl ⟨0, by omega, rfl⟩)
  have f : ∀ a, a ≠ 32 → a ≠ 44 → a ≠ 45 → stR h q a = h a := fun a q1 q2 q3 => by
    funext j; unfold stR fl2; rw [if_neg (by omega), zu_nc _ _ q1, zu_nc _ _ q1, zu_nc _ _ q1, zu_nc _ _ q1, zu_nc _ _ q1, zu_nc _ _ q1, zu_nc _ _ q1, zu_nc _ _ q1]
  have f32 : ∀ j, stR h q 32 j = if j = 35 then 0 else if j = 34 then 0 else if j = 33 then 0 else if j = 32 then 0 else if j = 31 then q.2.2.2 else if j = 30 then q.2.2.1 else if j = 29 then q.2.1 else if j = 28 then 0 else h 32 j := fun j => by
    unfold stR fl2; rw [if_neg (by omega)]; simp only [zu_ap, true_and]
  have q1 : q.1 = 0 := by rw [← hq]; rfl
  have q2 : q.2.1 = h 32 8 := by rw [← hq]; rfl
  have hfin := r_loop (d := d) (st := h 32 8) (B := h 32 36) (U := h 32 37) (W9 := h 32 38) V hgo (by rw [q2]; exact hin) hb hu hw 10 0 (stR h q) rfl ?_
  · obtain ⟨h', e, I, F⟩ := hfin
    refine ⟨h', e, I, rfF_tr ⟨f, fun j hj => ?_⟩ F⟩
    rw [f32, if_neg (by omega), if_neg (by omega), if_neg (by omega), if_neg (by omega), if_neg (by omega), if_neg (by omega), if_neg (by omega), if_neg (by omega)]
  refine ⟨zHr_mv H (by rw [f32]; rfl) (by rw [f32]; rfl) (fun a h1 h2 => f a (by omega) (by omega) (by omega)), by rw [f32]; rfl, by rw [f32]; rfl, by rw [f32]; rfl, by rw [f32]; rfl, ?_, by rw [f32]; rfl, by rw [f32]; rfl, by rw [f32]; rfl, by rw [f32]; rfl, by rw [f32]; rfl, by rw [f32]; rfl, by rw [f32]; rfl, fun j hj => ?_, fun j hj => ?_⟩
  · rw [f32]; show (0 : Int32) = nI q.1; rw [q1]; rfl
  · unfold stR fl2; rw [if_pos ⟨Or.inl rfl, hj⟩]; rfl
  · unfold stR fl2; rw [if_pos ⟨Or.inr rfl, hj⟩]; rfl
end RIDES

/-! THE CLASS'S RIDE, WHOLE -/
section RUN
variable {g : zHl} {n k : Nat} {b u w : Nat → Bool} {q0 : zQ} {st : Int32}
def rInv (g : zHl) (n k : Nat) (b u w : Nat → Bool) (q0 : zQ) (st : Int32) (i : Nat) (h : zH) : Prop :=
  zHil h 7 g n k ∧ h 7 7 = st ∧ h 7 8 = nI (rJ g n b u w q0 i).1 ∧ h 7 9 = (rJ g n b u w q0 i).2.1 ∧ h 7 10 = (rJ g n b u w q0 i).2.2.1 ∧ h 7 11 = (rJ g n b u w q0 i).2.2.2 ∧ (∀ j, j < 10 → h 20 j = rSp g n b u w q0 0 i j) ∧ (∀ j, j < 10 → h 21 j = rGa g n b u w q0 i j) ∧ (∀ j, j < 10 → h 22 j = rOv g n b u w q0 i j) ∧ h 19 3 = rCa g n b u w q0 i ∧ h 19 4 = rRo g n b u w q0 i ∧ h 19 5 = rFa g n b u w q0 i ∧ h 19 6 = rWe g n b u w q0 i ∧ h 19 7 = rLa g n b u w q0 i
theorem upd_ap {f : Nat → Int32} {k j : Nat} {x : Int32} : upd f k x j = if j = k then x else f j := rfl
theorem c_iter {d : Nat} {h : zH} (V : zVal g n k) {i : Nat} (hgo : rGo n k (rJ g n b u w q0 i) i) (I : rInv g n k b u w q0 st i h) (hi : i < 10) (hm : (rJ g n b u w q0 i).2.2.2 = 0) {x2 x3 x4 x5 : Int32} {x7 x8 x9 : Option Value}
    (hb : ∀ s, s < 10 → (nI s = x3 ↔ b s = true)) (hu : ∀ s, s < 10 → (nI s = x4 ↔ u s = true)) (hw : ∀ s, s < 10 → (((x5 >>> (nI s &&& 31)) &&& 1 = 1) ↔ w s = true)) :
    ∃ (h' : zH) (x7' x8' x9' : Option Value), zE (d + 3) 62 (24, [some (.ref 19), some (.ref 7), some (.int x2), some (.int x3), some (.int x4), some (.int x5), some (.int (nI i)), x7, x8, x9], [], h) = zE (d + 3) 62 (24, [some (.ref 19), some (.ref 7), some (.int x2), some (.int x3), some (.int x4), some (.int x5), some (.int (nI (i + 1))), x7', x8', x9'], [], h') ∧ rInv g n k b u w q0 st (i + 1) h' := by
  obtain ⟨es, hs, hrid⟩ := hgo hm
  obtain ⟨I1, I2, I3, I4, I5, I6, I7, I8, I9, I10, I11, I12, I13, I14⟩ := I
  have hn := V.1
  have e0 : (rJ g n b u w q0 i).1 = i := es
  rw [E62_19_7_at24, if_neg (nge10 hi), if_pos (by rw [I6, hm]), c_nbeg I3 (by omega), zCv_some, I3]
  -- the heap behind the note of the beginning and the brake
  have key : ∀ h2 : zH, (∀ a j, (a = 7 → j ≠ 9) → h2 a j = z_up (z_up h 20 (rJ g n b u w q0 i).1 (h 7 9)) 19 3 (nI (rJ g n b u w q0 i).1 + 1) a j) → h2 7 9 = rV g n b u w q0 i →
      ∃ (h' : zH) (x7' x8' x9' : Option Value), zE (d + 3) 62 (65, [some (.ref 19), some (.ref 7), some (.int x2), some (.int x3), some (.int x4), some (.int x5), some (.int (nI i)), some (.int (nI (rJ g n b u w q0 i).1)), x8, x9], [], h2) = zE (d + 3) 62 (24, [some (.ref 19), some (.ref 7), some (.int x2), some (.int x3), some (.int x4), some (.int x5), some (.int (nI (i + 1))), x7', x8', x9'], [], h') ∧ rInv g n k b u w q0 st (i + 1) h' := by
    intro h2 f2 v2
    have f7 : ∀ j, j ≠ 9 → h2 7 j = h 7 j := fun j hj => by rw [f2 7 j (fun _ => hj), zu_nc _ _ (by omega), zu_nc _ _ (by omega)]
    have frow : ∀ a, a ≠ 7 → a ≠ 19 → a ≠ 20 → h2 a = h a := fun a q1 q2 q3 => by funext j; rw [f2 a j (fun q => absurd q q1), zu_nc _ _ q2, zu_nc _ _ q3]
    have f19 : ∀ j, j ≠ 3 → h2 19 j = h 19 j := fun j hj => by rw [f2 19 j (fun q => by omega), zu_ni _ _ hj, zu_nc _ _ (by omega)]
    have H2 : zHil h2 7 g n k := zHil_mv I1 (f7 5 (by omega)) (f7 6 (by omega)) (fun j h1 h3 => frow _ (by omega) (by omega) (by omega))
    obtain ⟨h', x7', x8', x9', g0, g1, g2, g3, g4, g5, g6, g7, g8, g9, g10, g11, g12, g13, g14⟩ := c_it65 (d := d) H2 V (s := (rJ g n b u w q0 i).1) (i := i) (r := (rJ g n b u w q0 i).2.2.1) (by omega) hi (by rw [f7 8 (by omega), I3]) hrid (by rw [f7 10 (by omega), I5]) (by rw [f7 11 (by omega), I6, hm]) (u := u) (w := w) (x2 := x2) (x3 := x3) (x4 := x4) (x5 := x5) (x8 := x8) (x9 := x9) (hu _ (by omega)) (hw _ (by omega))
    rw [v2] at g1 g2 g3 g4 g8 g9 g11 g12 g13 g14
    have hJ : rJ g n b u w q0 (i + 1) = s_nx g n w (rJ g n b u w q0 i).1 (rV g n b u w q0 i) (s_r1 g u (rJ g n b u w q0 i).1 (rV g n b u w q0 i) (rJ g n b u w q0 i).2.2.1) := rJ_next hm
    rw [← hJ] at g1 g2 g3 g4 g8 g9
    refine ⟨h', x7', x8', x9', g0, zHil_mv H2 (g5 5 (by omega)) (g5 6 (by omega)) (fun j h1 h3 => g6 _ (by omega) (by omega)), by rw [g5 7 (by omega), f7 7 (by omega), I2], g1, g2, g3, g4, fun j hj => ?_, fun j hj => ?_, fun j hj => ?_, ?_, ?_, ?_, ?_, ?_⟩
    · rw [g7, f2 20 j (fun q => by omega), zu_nc _ _ (by omega), rSp, if_pos hm, upd_ap, zu_ap, I4]
      by_cases e : j = (rJ g n b u w q0 i).1
      · rw [if_pos ⟨rfl, e⟩, if_pos e]
      · rw [if_neg (fun q => e q.2), if_neg e]; exact I7 j hj
    · rw [g8, rGa]
      by_cases e : (rJ g n b u w q0 i).1 < (rJ g n b u w q0 (i + 1)).1
      · rw [if_pos e, if_pos ⟨hm, e⟩, upd_ap, upd_ap]
        by_cases e2 : j = (rJ g n b u w q0 i).1
        · rw [if_pos e2, if_pos e2]
        · rw [if_neg e2, if_neg e2, frow 21 (by omega) (by omega) (by omega)]; exact I8 j hj
      · rw [if_neg e, if_neg (fun q => e q.2), frow 21 (by omega) (by omega) (by omega)]; exact I8 j hj
    · rw [g9, rOv]
      by_cases e : (rJ g n b u w q0 i).1 < (rJ g n b u w q0 (i + 1)).1
      · rw [if_pos e, if_pos ⟨hm, e⟩, upd_ap, upd_ap]
        by_cases e2 : j = (rJ g n b u w q0 i).1
        · rw [if_pos e2, if_pos e2]
        · rw [if_neg e2, if_neg e2, frow 22 (by omega) (by omega) (by omega)]; exact I9 j hj
      · rw [if_neg e, if_neg (fun q => e q.2), frow 22 (by omega) (by omega) (by omega)]; exact I9 j hj
    · rw [g10, f2 19 3 (fun q => by omega), zu_eq, rCa, if_pos hm]
    · rw [g11, f19 4 (by omega), I11, rRo, if_pos hm]; rfl
    · rw [g12, f19 5 (by omega), I12, rFa]
      show (if 0 ≤ g 2 (rJ g n b u w q0 i).1 ∧ rU g n b u w q0 i = false then _ else _) = _
      by_cases e : 0 ≤ g 2 (rJ g n b u w q0 i).1 ∧ rU g n b u w q0 i = false
      · rw [if_pos e, if_pos ⟨hm, e⟩]
      · rw [if_neg e, if_neg (fun q => e q.2)]
    · rw [g13, f19 6 (by omega), I13, rWe]
      by_cases e : s_up g u (rJ g n b u w q0 i).1 (rV g n b u w q0 i) = true ∧ s_str g (rJ g n b u w q0 i).1 = true ∧ g 2 (rJ g n b u w q0 i).1 ≠ (rJ g n b u w q0 i).2.2.1
      · rw [if_pos e, if_pos ⟨hm, e⟩]
      · rw [if_neg e, if_neg (fun q => e q.2)]
    · rw [g14, f19 7 (by omega), I14, rLa]
      show (if rU g n b u w q0 i = true then _ else _) = _
      by_cases e : rU g n b u w q0 i = true
      · rw [if_pos e, if_pos ⟨hm, e⟩]
      · rw [if_neg e, if_neg (fun q => e q.2)]
  have o9 : z_up (z_up h 20 (rJ g n b u w q0 i).1 (h 7 9)) 19 3 (nI (rJ g n b u w q0 i).1 + 1) 7 9 = h 7 9 := by rw [zu_nc _ _ (by omega), zu_nc _ _ (by omega)]
  by_cases hx : nI (rJ g n b u w q0 i).1 = x3
  · rw [if_pos hx, o9]
    refine key _ (fun a j hj => ?_) ?_
    · rw [zu_ap, if_neg (fun q => hj q.1 q.2)]
    · rw [zu_eq, rV, s_v1, if_pos ((hb _ (by omega)).mp hx), I4]
  · rw [if_neg hx]
    refine key _ (fun a j hj => rfl) ?_
    rw [o9, rV, s_v1, if_neg (fun q => hx ((hb _ (by omega)).mpr q)), I4]
theorem rInv_stay {h : zH} {i : Nat} (hm : (rJ g n b u w q0 i).2.2.2 ≠ 0) (I : rInv g n k b u w q0 st i h) : ∀ j, i ≤ j → rInv g n k b u w q0 st j h := by
  intro j hj
  induction hj with
  | refl => exact I
  | @step j hj ih =>
    have hJ := rJ_stay (g := g) (n := n) (b := b) (u := u) (w := w) (q0 := q0) hm j hj
    have hm2 : ¬ (rJ g n b u w q0 j).2.2.2 = 0 := by rw [hJ]; exact hm
    obtain ⟨I1, I2, I3, I4, I5, I6, I7, I8, I9, I10, I11, I12, I13, I14⟩ := ih
    have e : rJ g n b u w q0 (j + 1) = rJ g n b u w q0 j := by rw [rJ, if_neg hm2]
    refine ⟨I1, I2, by rw [e]; exact I3, by rw [e]; exact I4, by rw [e]; exact I5, by rw [e]; exact I6, fun x hx => by rw [rSp, if_neg hm2]; exact I7 x hx, fun x hx => by rw [rGa, if_neg (fun q => hm2 q.1)]; exact I8 x hx, fun x hx => by rw [rOv, if_neg (fun q => hm2 q.1)]; exact I9 x hx, by rw [rCa, if_neg hm2]; exact I10, by rw [rRo, if_neg hm2]; exact I11, by rw [rFa, if_neg (fun q => hm2 q.1)]; exact I12, by rw [rWe, if_neg (fun q => hm2 q.1)]; exact I13, by rw [rLa, if_neg (fun q => hm2 q.1)]; exact I14⟩
theorem c_loop {d : Nat} (V : zVal g n k) (hgo : rGo n k q0 0) {x2 x3 x4 x5 : Int32}
    (hb : ∀ s, s < 10 → (nI s = x3 ↔ b s = true)) (hu : ∀ s, s < 10 → (nI s = x4 ↔ u s = true)) (hw : ∀ s, s < 10 → (((x5 >>> (nI s &&& 31)) &&& 1 = 1) ↔ w s = true)) :
    ∀ (m i : Nat) (h : zH) (x7 x8 x9 : Option Value), i + m = 10 → rInv g n k b u w q0 st i h → ∃ h', zE (d + 3) 62 (24, [some (.ref 19), some (.ref 7), some (.int x2), some (.int x3), some (.int x4), some (.int x5), some (.int (nI i)), x7, x8, x9], [], h) = some (none, h') ∧ rInv g n k b u w q0 st 10 h' := by
  intro m
  induction m with
  | zero =>
    intro i h x7 x8 x9 hi I
    have hi : i = 10 := hi
    subst hi
    exact ⟨h, by rw [E62_19_7_at24, if_pos (ge10)], I⟩
  | succ m ih =>
    intro i h x7 x8 x9 hi I
    by_cases hm : (rJ g n b u w q0 i).2.2.2 = 0
    · obtain ⟨h', y7, y8, y9, e, I'⟩ := c_iter (d := d) V (rJ_go V hgo i) I (by omega) hm (x2 := x2) (x3 := x3) (x4 := x4) (x5 := x5) (x7 := x7) (x8 := x8) (x9 := x9) hb hu hw
      rw [e]
      exact ih (i + 1) h' y7 y8 y9 (by omega) I'
    · refine ⟨h, ?_, rInv_stay hm I 10 (by omega)⟩
      rw [E62_19_7_at24, if_neg (nge10 (by omega)), if_neg (by rw [I.2.2.2.2.2.1]; exact hm)]
/-- where a ride begins -/
def rQ0 (n k : Nat) (st f : Int32) : zQ := (0, st, if k = 0 then -9 else f, if k = 0 then 1 else if n = 0 then 3 else 0)
theorem nI_z0 {n : Nat} (h : n ≤ 1000) : (nI n = 0) ↔ n = 0 := nI_eq (b := 0) (by omega) (by omega)
theorem c_begin_7 {d : Nat} {h : zH} (H : zHil h 7 g n k) (V : zVal g n k) : zcal (d + 1) 0 [.ref 7] h = some (none, z_up (z_up (z_up (z_up h 7 8 0) 7 9 (h 7 7)) 7 10 (rQ0 n k (h 7 7) 0).2.2.1) 7 11 (rQ0 n k (h 7 7) 0).2.2.2) := by
  have hk := V.2.1; have hn := V.1
  rw [E0_7, H.1, H.2.1]
  unfold rQ0
  by_cases h1 : k = 0
  · rw [if_pos ((nI_z0 (by omega)).mpr h1), if_pos ((nI_z0 (by omega)).mpr h1), if_pos h1, if_pos h1]
  · rw [if_neg (fun q => h1 ((nI_z0 (by omega)).mp q)), if_neg (fun q => h1 ((nI_z0 (by omega)).mp q)), if_neg h1, if_neg h1]
    by_cases h2 : n = 0
    · rw [if_pos ((nI_z0 (by omega)).mpr h2), if_pos h2]
    · rw [if_neg (fun q => h2 ((nI_z0 (by omega)).mp q)), if_neg h2]
theorem c_begin_1 {d : Nat} {h : zH} (H : zHil h 1 g n k) (V : zVal g n k) : zcal (d + 1) 0 [.ref 1] h = some (none, z_up (z_up (z_up (z_up h 1 8 0) 1 9 (h 1 7)) 1 10 (rQ0 n k (h 1 7) 0).2.2.1) 1 11 (rQ0 n k (h 1 7) 0).2.2.2) := by
  have hk := V.2.1; have hn := V.1
  rw [E0_1, H.1, H.2.1]
  unfold rQ0
  by_cases h1 : k = 0
  · rw [if_pos ((nI_z0 (by omega)).mpr h1), if_pos ((nI_z0 (by omega)).mpr h1), if_pos h1, if_pos h1]
  · rw [if_neg (fun q => h1 ((nI_z0 (by omega)).mp q)), if_neg (fun q => h1 ((nI_z0 (by omega)).mp q)), if_neg h1, if_neg h1]
    by_cases h2 : n = 0
    · rw [if_pos ((nI_z0 (by omega)).mpr h2), if_pos h2]
    · rw [if_neg (fun q => h2 ((nI_z0 (by omega)).mp q)), if_neg h2]
theorem rQ0_go {f : Int32} (hf : s_rid k f ∨ k = 0) : rGo n k (rQ0 n k st f) 0 := by
  intro hm
  unfold rQ0 at hm ⊢
  dsimp only at hm ⊢
  by_cases h1 : k = 0
  · rw [if_pos h1] at hm; exact absurd hm (by decide)
  · rw [if_neg h1] at hm
    by_cases h2 : n = 0
    · rw [if_pos h2] at hm; exact absurd hm (by decide)
    · refine ⟨rfl, by omega, ?_⟩
      rw [if_neg h1]
      rcases hf with hf | hf
      · exact hf
      · exact absurd hf h1
/-- THE CLASS'S RIDE: of the hill in mind, with a first rider, brake, run, winds -/
theorem c_run {d : Nat} {h : zH} (H : zHil h 7 g n k) (V : zVal g n k) {x2 x3 x4 x5 : Int32} (hf : s_rid k x2 ∨ (k = 0 ∧ x2 = 0))
    (hb : ∀ s, s < 10 → (nI s = x3 ↔ b s = true)) (hu : ∀ s, s < 10 → (nI s = x4 ↔ u s = true)) (hw : ∀ s, s < 10 → (((x5 >>> (nI s &&& 31)) &&& 1 = 1) ↔ w s = true)) :
    ∃ h', zcal (d + 4) 62 [.ref 19, .ref 7, .int x2, .int x3, .int x4, .int x5] h = some (none, h') ∧ rInv g n k b u w (rQ0 n k (h 7 7) x2) (h 7 7) 10 h' := by
  rw [E62_19_7, c_forget, zCv_some]
  generalize hh1 : z_up (z_up (z_up (z_up (z_up (fl (fl (fl h 20 10 0) 21 10 0) 22 10 (-9)) 19 3 0) 19 4 0) 19 5 0) 19 6 0) 19 7 (-9) = h1
  have f1 : ∀ a, a ≤ 18 → h1 a = h a := fun a ha => by
    funext j; rw [← hh1, zu_nc _ _ (by omega), zu_nc _ _ (by omega), zu_nc _ _ (by omega), zu_nc _ _ (by omega), zu_nc _ _ (by omega)]
    unfold fl
    rw [if_neg (fun q => by omega), if_neg (fun q => by omega), if_neg (fun q => by omega)]
  have H1 : zHil h1 7 g n k := zHil_mv H (by rw [f1 7 (by omega)]) (by rw [f1 7 (by omega)]) (fun j q1 q2 => f1 _ (by omega))
  rw [c_begin_7 H1 V, zCv_some, f1 7 (by omega)]
  generalize hh2 : z_up (z_up (z_up (z_up h1 7 8 0) 7 9 (h 7 7)) 7 10 (rQ0 n k (h 7 7) 0).2.2.1) 7 11 (rQ0 n k (h 7 7) 0).2.2.2 = h2
  have f2 : ∀ a, a ≠ 7 → h2 a = h1 a := fun a ha => by
    funext j; rw [← hh2, zu_nc _ _ ha, zu_nc _ _ ha, zu_nc _ _ ha, zu_nc _ _ ha]
  have f27 : ∀ j, j < 8 → h2 7 j = h 7 j := fun j hj => by
    rw [← hh2, zu_ni _ _ (by omega), zu_ni _ _ (by omega), zu_ni _ _ (by omega), zu_ni _ _ (by omega), f1 7 (by omega)]
  have H2 : zHil h2 7 g n k := zHil_mv H1 (by rw [f27 5 (by omega), f1 7 (by omega)]) (by rw [f27 6 (by omega), f1 7 (by omega)]) (fun j q1 q2 => f2 _ (by omega))
  have hq : ∀ h3 : zH, (∀ a j, (a = 7 → j ≠ 10) → h3 a j = h2 a j) → h3 7 10 = (rQ0 n k (h 7 7) x2).2.2.1 → rInv g n k b u w (rQ0 n k (h 7 7) x2) (h 7 7) 0 h3 := by
    intro h3 f3 e10
    have g7 : ∀ j, j ≠ 10 → h3 7 j = h2 7 j := fun j hj => f3 7 j (fun _ => hj)
    have gr : ∀ a, a ≠ 7 → h3 a = h1 a := fun a ha => by funext j; rw [f3 a j (fun q => absurd q ha), f2 a ha]
    have e9 : h2 7 9 = h 7 7 := by rw [← hh2, zu_ni _ _ (by omega), zu_ni _ _ (by omega), zu_eq]
    have e8 : h2 7 8 = 0 := by rw [← hh2, zu_ni _ _ (by omega), zu_ni _ _ (by omega), zu_ni _ _ (by omega), zu_eq]
    have e11 : h2 7 11 = (rQ0 n k (h 7 7) x2).2.2.2 := by rw [← hh2, zu_eq]; rfl
    have l20 : ∀ j, j < 10 → h1 20 j = 0 := fun j hj => by
      rw [← hh1, zu_nc _ _ (by omega), zu_nc _ _ (by omega), zu_nc _ _ (by omega), zu_nc _ _ (by omega), zu_nc _ _ (by omega)]; unfold fl
      rw [if_neg (fun q => by omega), if_neg (fun q => by omega), if_pos ⟨rfl, hj⟩]
    have l21 : ∀ j, j < 10 → h1 21 j = 0 := fun j hj => by
      rw [← hh1, zu_nc _ _ (by omega), zu_nc _ _ (by omega), zu_nc _ _ (by omega), zu_nc _ _ (by omega), zu_nc _ _ (by omega)]; unfold fl
      rw [if_neg (fun q => by omega), if_pos ⟨rfl, hj⟩]
    have l22 : ∀ j, j < 10 → h1 22 j = -9 := fun j hj => by
      rw [← hh1, zu_nc _ _ (by omega), zu_nc _ _ (by omega), zu_nc _ _ (by omega), zu_nc _ _ (by omega), zu_nc _ _ (by omega)]; unfold fl
      rw [if_pos ⟨rfl, hj⟩]
    refine ⟨zHil_mv H2 (g7 5 (by omega)) (g7 6 (by omega)) (fun j q1 q2 => by rw [gr _ (by omega), f2 _ (by omega)]), by rw [g7 7 (by omega), f27 7 (by omega)], by rw [g7 8 (by omega), e8]; exact nI_0.symm, by rw [g7 9 (by omega), e9]; rfl, e10, by rw [g7 11 (by omega), e11]; rfl, fun j hj => by rw [gr _ (by omega), l20 j hj]; rfl, fun j hj => by rw [gr _ (by omega), l21 j hj]; rfl, fun j hj => by rw [gr _ (by omega), l22 j hj]; rfl, ?_, ?_, ?_, ?_, ?_⟩
    · rw [gr _ (by omega), ← hh1, zu_ni _ _ (by omega), zu_ni _ _ (by omega), zu_ni _ _ (by omega), zu_ni _ _ (by omega), zu_eq]; rfl
    · rw [gr _ (by omega), ← hh1, zu_ni _ _ (by omega), zu_ni _ _ (by omega), zu_ni _ _ (by omega), zu_eq]; rfl
    · rw [gr _ (by omega), ← hh1, zu_ni _ _ (by omega), zu_ni _ _ (by omega), zu_eq]; rfl
    · rw [gr _ (by omega), ← hh1, zu_ni _ _ (by omega), zu_eq]; rfl
    · rw [gr _ (by omega), ← hh1, zu_eq]; rfl
  have hgo : rGo n k (rQ0 n k (h 7 7) x2) 0 := rQ0_go (hf.elim Or.inl (fun q => Or.inr q.1))
  rcases hf with ⟨x, hx, rfl⟩ | ⟨h0, rfl⟩
  · rw [c_hasRn_7 H2 V hx, zCi_some, if_neg (by decide)]
    exact c_loop (d := d) V hgo hb hu hw 10 0 _ none none none rfl (hq _ (fun a j hj => by rw [zu_ap, if_neg (fun q => hj q.1 q.2)]) (by rw [zu_eq]; unfold rQ0; dsimp only; rw [if_neg (by omega)]))
  · rw [c_hasR_7 H2 V, if_neg (fun q => by rw [h0] at q; exact absurd q.2 (by decide)), zCi_some, if_pos rfl]
    exact c_loop (d := d) V hgo hb hu hw 10 0 _ none none none rfl (hq _ (fun a j hj => rfl) (by rw [← hh2, zu_ni _ _ (by omega), zu_eq]))
end RUN

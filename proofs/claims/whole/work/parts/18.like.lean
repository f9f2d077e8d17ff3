section LIKE
variable {d : Nat} {h : zH}
theorem c_like_7_1 : ∃ h', zcal (d + 3) 16 [.ref 7, .ref 1] h = some (none, h') ∧ (∀ j, 5 ≤ j → j ≤ 12 → h' 7 j = h 1 j) ∧ (∀ j, j < 10 → h' 8 j = h 2 j) ∧ (∀ j, j < 10 → h' 9 j = h 3 j) ∧ (∀ j, j < 10 → h' 10 j = h 4 j) ∧ (∀ j, j < 5 → h' 11 j = h 5 j) ∧ (∀ j, j < 5 → h' 12 j = h 6 j) ∧ ∀ a, (a < 7 ∨ 12 < a) → h' a = h a := by
  rw [E16_7_1, c_copy (nf := 10) (nt := 10) rfl rfl (by omega) (by omega) (by omega), zCv_some, c_copy (nf := 10) (nt := 10) rfl rfl (by omega) (by omega) (by omega), zCv_some, c_copy (nf := 10) (nt := 10) rfl rfl (by omega) (by omega) (by omega), zCv_some, c_copy (nf := 5) (nt := 5) rfl rfl (by omega) (by omega) (by omega), zCv_some, c_copy (nf := 5) (nt := 5) rfl rfl (by omega) (by omega) (by omega), zCv_some]
  refine ⟨_, rfl, fun j h1 h2 => ?_, fun j hj => ?_, fun j hj => ?_, fun j hj => ?_, fun j hj => ?_, fun j hj => ?_, fun a ha => ?_⟩
  · rcases (show j = 5 ∨ j = 6 ∨ j = 7 ∨ j = 8 ∨ j = 9 ∨ j = 10 ∨ j = 11 ∨ j = 12 by omega) with rfl | rfl | rfl | rfl | rfl | rfl | rfl | rfl <;> simp [zu_ap, cp]
  · simp [zu_ap, cp, hj]
  · simp [zu_ap, cp, hj]
  · simp [zu_ap, cp, hj]
  · simp [zu_ap, cp, hj]
  · simp [zu_ap, cp, hj]
  · funext j
    have e0 : a ≠ 7 := by omega
    have e1 : a ≠ 8 := by omega
    have e2 : a ≠ 9 := by omega
    have e3 : a ≠ 10 := by omega
    have e4 : a ≠ 11 := by omega
    have e5 : a ≠ 12 := by omega
    simp [zu_ap, cp, e0, e1, e2, e3, e4, e5]
theorem c_likeH_7_1 {g : zHl} {n k : Nat} (H : zHil h 1 g n k) (V : zVal g n k) : ∃ h', zcal (d + 3) 16 [.ref 7, .ref 1] h = some (none, h') ∧ zHil h' 7 g n k ∧ (∀ j, 5 ≤ j → j ≤ 12 → h' 7 j = h 1 j) ∧ ∀ a, (a < 7 ∨ 12 < a) → h' a = h a := by
  obtain ⟨h', e, e1, e2, e3, e4, e5, e6, e7⟩ := c_like_7_1 (d := d) (h := h)
  have hn := V.1; have hk := V.2.1
  refine ⟨h', e, ⟨(e1 5 (by omega) (by omega)).trans H.1, (e1 6 (by omega) (by omega)).trans H.2.1, fun s hs => ⟨(e2 s (by omega)).trans (H.2.2.1 s hs).1, (e3 s (by omega)).trans (H.2.2.1 s hs).2.1, (e4 s (by omega)).trans (H.2.2.1 s hs).2.2⟩, fun r hr => ⟨(e5 r (by omega)).trans (H.2.2.2 r hr).1, (e6 r (by omega)).trans (H.2.2.2 r hr).2⟩⟩, e1, e7⟩
end LIKE
section LIKE
variable {d : Nat} {h : zH}
theorem c_like_13_1 : ∃ h', zcal (d + 3) 16 [.ref 13, .ref 1] h = some (none, h') ∧ (∀ j, 5 ≤ j → j ≤ 12 → h' 13 j = h 1 j) ∧ (∀ j, j < 10 → h' 14 j = h 2 j) ∧ (∀ j, j < 10 → h' 15 j = h 3 j) ∧ (∀ j, j < 10 → h' 16 j = h 4 j) ∧ (∀ j, j < 5 → h' 17 j = h 5 j) ∧ (∀ j, j < 5 → h' 18 j = h 6 j) ∧ ∀ a, (a < 13 ∨ 18 < a) → h' a = h a := by
  rw [E16_13_1, c_copy (nf := 10) (nt := 10) rfl rfl (by omega) (by omega) (by omega), zCv_some, c_copy (nf := 10) (nt := 10) rfl rfl (by omega) (by omega) (by omega), zCv_some, c_copy (nf := 10) (nt := 10) rfl rfl (by omega) (by omega) (by omega), zCv_some, c_copy (nf := 5) (nt := 5) rfl rfl (by omega) (by omega) (by omega), zCv_some, c_copy (nf := 5) (nt := 5) rfl rfl (by omega) (by omega) (by omega), zCv_some]
  refine ⟨_, rfl, fun j h1 h2 => ?_, fun j hj => ?_, fun j hj => ?_, fun j hj => ?_, fun j hj => ?_, fun j hj => ?_, fun a ha => ?_⟩
  · rcases (show j = 5 ∨ j = 6 ∨ j = 7 ∨ j = 8 ∨ j = 9 ∨ j = 10 ∨ j = 11 ∨ j = 12 by omega) with rfl | rfl | rfl | rfl | rfl | rfl | rfl | rfl <;> simp [zu_ap, cp]
  · simp [zu_ap, cp, hj]
  · simp [zu_ap, cp, hj]
  · simp [zu_ap, cp, hj]
  · simp [zu_ap, cp, hj]
  · simp [zu_ap, cp, hj]
  · funext j
    have e0 : a ≠ 13 := by omega
    have e1 : a ≠ 14 := by omega
    have e2 : a ≠ 15 := by omega
    have e3 : a ≠ 16 := by omega
    have e4 : a ≠ 17 := by omega
    have e5 : a ≠ 18 := by omega
    simp [zu_ap, cp, e0, e1, e2, e3, e4, e5]
theorem c_likeH_13_1 {g : zHl} {n k : Nat} (H : zHil h 1 g n k) (V : zVal g n k) : ∃ h', zcal (d + 3) 16 [.ref 13, .ref 1] h = some (none, h') ∧ zHil h' 13 g n k ∧ (∀ j, 5 ≤ j → j ≤ 12 → h' 13 j = h 1 j) ∧ ∀ a, (a < 13 ∨ 18 < a) → h' a = h a := by
  obtain ⟨h', e, e1, e2, e3, e4, e5, e6, e7⟩ := c_like_13_1 (d := d) (h := h)
  have hn := V.1; have hk := V.2.1
  refine ⟨h', e, ⟨(e1 5 (by omega) (by omega)).trans H.1, (e1 6 (by omega) (by omega)).trans H.2.1, fun s hs => ⟨(e2 s (by omega)).trans (H.2.2.1 s hs).1, (e3 s (by omega)).trans (H.2.2.1 s hs).2.1, (e4 s (by omega)).trans (H.2.2.1 s hs).2.2⟩, fun r hr => ⟨(e5 r (by omega)).trans (H.2.2.2 r hr).1, (e6 r (by omega)).trans (H.2.2.2 r hr).2⟩⟩, e1, e7⟩
end LIKE
section LIKE
variable {d : Nat} {h : zH}
theorem c_like_1_7 : ∃ h', zcal (d + 3) 16 [.ref 1, .ref 7] h = some (none, h') ∧ (∀ j, 5 ≤ j → j ≤ 12 → h' 1 j = h 7 j) ∧ (∀ j, j < 10 → h' 2 j = h 8 j) ∧ (∀ j, j < 10 → h' 3 j = h 9 j) ∧ (∀ j, j < 10 → h' 4 j = h 10 j) ∧ (∀ j, j < 5 → h' 5 j = h 11 j) ∧ (∀ j, j < 5 → h' 6 j = h 12 j) ∧ ∀ a, (a < 1 ∨ 6 < a) → h' a = h a := by
  rw [E16_1_7, c_copy (nf := 10) (nt := 10) rfl rfl (by omega) (by omega) (by omega), zCv_some, c_copy (nf := 10) (nt := 10) rfl rfl (by omega) (by omega) (by omega), zCv_some, c_copy (nf := 10) (nt := 10) rfl rfl (by omega) (by omega) (by omega), zCv_some, c_copy (nf := 5) (nt := 5) rfl rfl (by omega) (by omega) (by omega), zCv_some, c_copy (nf := 5) (nt := 5) rfl rfl (by omega) (by omega) (by omega), zCv_some]
  refine ⟨_, rfl, fun j h1 h2 => ?_, fun j hj => ?_, fun j hj => ?_, fun j hj => ?_, fun j hj => ?_, fun j hj => ?_, fun a ha => ?_⟩
  · rcases (show j = 5 ∨ j = 6 ∨ j = 7 ∨ j = 8 ∨ j = 9 ∨ j = 10 ∨ j = 11 ∨ j = 12 by omega) with rfl | rfl | rfl | rfl | rfl | rfl | rfl | rfl <;> simp [zu_ap, cp]
  · simp [zu_ap, cp, hj]
  · simp [zu_ap, cp, hj]
  · simp [zu_ap, cp, hj]
  · simp [zu_ap, cp, hj]
  · simp [zu_ap, cp, hj]
  · funext j
    have e0 : a ≠ 1 := by omega
    have e1 : a ≠ 2 := by omega
    have e2 : a ≠ 3 := by omega
    have e3 : a ≠ 4 := by omega
    have e4 : a ≠ 5 := by omega
    have e5 : a ≠ 6 := by omega
    simp [zu_ap, cp, e0, e1, e2, e3, e4, e5]
theorem c_likeH_1_7 {g : zHl} {n k : Nat} (H : zHil h 7 g n k) (V : zVal g n k) : ∃ h', zcal (d + 3) 16 [.ref 1, .ref 7] h = some (none, h') ∧ zHil h' 1 g n k ∧ (∀ j, 5 ≤ j → j ≤ 12 → h' 1 j = h 7 j) ∧ ∀ a, (a < 1 ∨ 6 < a) → h' a = h a := by
  obtain ⟨h', e, e1, e2, e3, e4, e5, e6, e7⟩ := c_like_1_7 (d := d) (h := h)
  have hn := V.1; have hk := V.2.1
  refine ⟨h', e, ⟨(e1 5 (by omega) (by omega)).trans H.1, (e1 6 (by omega) (by omega)).trans H.2.1, fun s hs => ⟨(e2 s (by omega)).trans (H.2.2.1 s hs).1, (e3 s (by omega)).trans (H.2.2.1 s hs).2.1, (e4 s (by omega)).trans (H.2.2.1 s hs).2.2⟩, fun r hr => ⟨(e5 r (by omega)).trans (H.2.2.2 r hr).1, (e6 r (by omega)).trans (H.2.2.2 r hr).2⟩⟩, e1, e7⟩
end LIKE
section LIKE
variable {d : Nat} {h : zH}
theorem c_like_1_13 : ∃ h', zcal (d + 3) 16 [.ref 1, .ref 13] h = some (none, h') ∧ (∀ j, 5 ≤ j → j ≤ 12 → h' 1 j = h 13 j) ∧ (∀ j, j < 10 → h' 2 j = h 14 j) ∧ (∀ j, j < 10 → h' 3 j = h 15 j) ∧ (∀ j, j < 10 → h' 4 j = h 16 j) ∧ (∀ j, j < 5 → h' 5 j = h 17 j) ∧ (∀ j, j < 5 → h' 6 j = h 18 j) ∧ ∀ a, (a < 1 ∨ 6 < a) → h' a = h a := by
  rw [E16_1_13, c_copy (nf := 10) (nt := 10) rfl rfl (by omega) (by omega) (by omega), zCv_some, c_copy (nf := 10) (nt := 10) rfl rfl (by omega) (by omega) (by omega), zCv_some, c_copy (nf := 10) (nt := 10) rfl rfl (by omega) (by omega) (by omega), zCv_some, c_copy (nf := 5) (nt := 5) rfl rfl (by omega) (by omega) (by omega), zCv_some, c_copy (nf := 5) (nt := 5) rfl rfl (by omega) (by omega) (by omega), zCv_some]
  refine ⟨_, rfl, fun j h1 h2 => ?_, fun j hj => ?_, fun j hj => ?_, fun j hj => ?_, fun j hj => ?_, fun j hj => ?_, fun a ha => ?_⟩
  · rcases (show j = 5 ∨ j = 6 ∨ j = 7 ∨ j = 8 ∨ j = 9 ∨ j = 10 ∨ j = 11 ∨ j = 12 by omega) with rfl | rfl | rfl | rfl | rfl | rfl | rfl | rfl <;> simp [zu_ap, cp]
  · simp [zu_ap, cp, hj]
  · simp [zu_ap, cp, hj]
  · simp [zu_ap, cp, hj]
  · simp [zu_ap, cp, hj]
  · simp [zu_ap, cp, hj]
  · funext j
    have e0 : a ≠ 1 := by omega
    have e1 : a ≠ 2 := by omega
    have e2 : a ≠ 3 := by omega
    have e3 : a ≠ 4 := by omega
    have e4 : a ≠ 5 := by omega
    have e5 : a ≠ 6 := by omega
    simp [zu_ap, cp, e0, e1, e2, e3, e4, e5]
theorem c_likeH_1_13 {g : zHl} {n k : Nat} (H : zHil h 13 g n k) (V : zVal g n k) : ∃ h', zcal (d + 3) 16 [.ref 1, .ref 13] h = some (none, h') ∧ zHil h' 1 g n k ∧ (∀ j, 5 ≤ j → j ≤ 12 → h' 1 j = h 13 j) ∧ ∀ a, (a < 1 ∨ 6 < a) → h' a = h a := by
  obtain ⟨h', e, e1, e2, e3, e4, e5, e6, e7⟩ := c_like_1_13 (d := d) (h := h)
  have hn := V.1; have hk := V.2.1
  refine ⟨h', e, ⟨(e1 5 (by omega) (by omega)).trans H.1, (e1 6 (by omega) (by omega)).trans H.2.1, fun s hs => ⟨(e2 s (by omega)).trans (H.2.2.1 s hs).1, (e3 s (by omega)).trans (H.2.2.1 s hs).2.1, (e4 s (by omega)).trans (H.2.2.1 s hs).2.2⟩, fun r hr => ⟨(e5 r (by omega)).trans (H.2.2.2 r hr).1, (e6 r (by omega)).trans (H.2.2.2 r hr).2⟩⟩, e1, e7⟩
end LIKE
/-! RIDES AS THEY ARE NOW -/
def rF : Nat → Bool := fun _ => false
/-- the cells of the hill in mind and of the trip -/
def zMT (a : Nat) : Prop := (7 ≤ a ∧ a ≤ 12) ∨ (19 ≤ a ∧ a ≤ 22)
theorem zMT_clo : zClo zMT := by
  have key : ∀ a, a < 48 → (7 ≤ a ∧ a ≤ 12 ∨ 19 ≤ a ∧ a ≤ 22) → ∀ x ∈ (match zSh[a]? with | some (.inr x) => x.2 | _ => []), ∀ k, x = some k → (7 ≤ k ∧ k ≤ 12 ∨ 19 ≤ k ∧ k ≤ 22) := by
    have h1 : (List.range 48).all (fun a => !(decide (7 ≤ a ∧ a ≤ 12 ∨ 19 ≤ a ∧ a ≤ 22)) || (match zSh[a]? with | some (.inr x) => x.2 | _ => []).all (fun x => match x with | some k => decide (7 ≤ k ∧ k ≤ 12 ∨ 19 ≤ k ∧ k ≤ 22) | none => true)) = true := by decide +kernel
    intro a ha hp x hx k hk
    have h2 := List.all_eq_true.mp h1 a (List.mem_range.mpr ha)
    rw [decide_eq_true hp] at h2
    have h3 := List.all_eq_true.mp (by simpa using h2) x hx
    subst hk
    simpa using h3
  intro a ci fs hp ho j k hk
  have hs := zObj_sh ho
  have ha : a < 48 := by have := (List.getElem?_eq_some_iff.mp hs).1; exact this
  refine key a ha hp (some k) ?_ k rfl
  rw [hs]
  exact List.mem_of_getElem? hk
theorem nI_m1 {s : Nat} (hs : s < 10) : nI s ≠ -1 := fun q => absurd (nI_pos (n := s) (by omega)) (by rw [q]; decide)
theorem nI_m9 {s : Nat} (hs : s < 10) : nI s ≠ -9 := fun q => absurd (nI_pos (n := s) (by omega)) (by rw [q]; decide)
theorem bit0 {s : Nat} (hs : s < 10) : ¬ (((0 : Int32) >>> (nI s &&& 31)) &&& 1 = 1) := by
  have : ∀ s, s < 10 → ¬ (((0 : Int32) >>> (nI s &&& 31)) &&& 1 = 1) := by decide +kernel
  exact this s hs
section ASNOW
variable {d : Nat} {h : zH} {g : zHl} {n k : Nat}
theorem rid0 (k : Nat) : s_rid k 0 ∨ (k = 0 ∧ (0 : Int32) = 0) := by
  by_cases h0 : k = 0
  · exact Or.inr ⟨h0, rfl⟩
  · exact Or.inl ⟨0, by omega, rfl⟩
/-- the ride of the hill in mind, plain -/
theorem c_run0 (H : zHil h 7 g n k) (V : zVal g n k) : ∃ h', zcal (d + 4) 62 [.ref 19, .ref 7, .int 0, .int (-1), .int (-1), .int 0] h = some (none, h') ∧ rInv g n k rF rF rF (rQ0 n k (h 7 7) 0) (h 7 7) 10 h' ∧ zFr zMT h h' := by
  obtain ⟨h', e, I⟩ := c_run (d := d) (b := rF) (u := rF) (w := rF) H V (x2 := 0) (x3 := -1) (x4 := -1) (x5 := 0) (rid0 k) (fun s hs => ⟨fun q => absurd q (nI_m1 hs), fun q => by cases q⟩) (fun s hs => ⟨fun q => absurd q (nI_m1 hs), fun q => by cases q⟩) (fun s hs => ⟨fun q => absurd q (bit0 hs), fun q => by cases q⟩)
  refine ⟨h', e, I, zcal_fr zMT_clo _ _ _ _ _ e (fun v hv => ?_)⟩
  simp at hv
  rcases hv with rfl | rfl
  · exact Or.inr ⟨by omega, by omega⟩
  · exact Or.inl ⟨by omega, by omega⟩
theorem c_end (H : zHil h 7 g n k) (V : zVal g n k) : ∃ h', zcal (d + 5) 61 [.ref 19, .ref 7] h = some (some (.int (nI (rJ g n rF rF rF (rQ0 n k (h 7 7) 0) 10).1)), h') ∧ rInv g n k rF rF rF (rQ0 n k (h 7 7) 0) (h 7 7) 10 h' ∧ zFr zMT h h' := by
  obtain ⟨h', e, I, F⟩ := c_run0 (d := d) H V
  refine ⟨h', ?_, I, F⟩
  rw [E61_19_7, e, zCv_some, I.2.2.1]
theorem c_arr (H : zHil h 7 g n k) (V : zVal g n k) : ∃ h', zcal (d + 5) 93 [.ref 19, .ref 7] h = some (some (.int (if (rJ g n rF rF rF (rQ0 n k (h 7 7) 0) 10).2.2.2 = 3 then 1 else 0)), h') ∧ rInv g n k rF rF rF (rQ0 n k (h 7 7) 0) (h 7 7) 10 h' ∧ zFr zMT h h' := by
  obtain ⟨h', e, I, F⟩ := c_run0 (d := d) H V
  refine ⟨h', ?_, I, F⟩
  rw [E93_19_7, e, zCv_some, I.2.2.2.2.2.1]
  by_cases h3 : (rJ g n rF rF rF (rQ0 n k (h 7 7) 0) 10).2.2.2 = 3
  · rw [if_pos h3, if_pos h3]
  · rw [if_neg h3, if_neg h3]
theorem c_like (H : zHil h 1 g n k) (V : zVal g n k) : ∃ h', zcal (d + 3) 16 [.ref 7, .ref 1] h = some (none, h') ∧ zHil h' 7 g n k ∧ h' 7 7 = h 1 7 ∧ zFr zMT h h' := by
  obtain ⟨h', e, H', f, F⟩ := c_likeH_7_1 (d := d) H V
  refine ⟨h', e, H', f 7 (by omega) (by omega), fun a ha => F a ?_⟩
  unfold zMT at ha
  omega
theorem c_now (H : zHil h 1 g n k) (V : zVal g n k) : ∃ h', zcal (d + 6) 60 [.ref 0] h = some (none, h') ∧ rInv g n k rF rF rF (rQ0 n k (h 1 7) 0) (h 1 7) 10 h' ∧ zFr zMT h h' := by
  obtain ⟨h1, e1, H1, s1, F1⟩ := c_like (d := d + 2) H V
  obtain ⟨h2, e2, I2, F2⟩ := c_end (d := d) H1 V
  rw [s1] at I2
  exact ⟨h2, by rw [E60_0, e1, zCv_some, e2, zCi_some], I2, zFr_tr F1 F2⟩
end ASNOW
/-- the reference's ride as it is now -/
def rAt0 (h : zH) : Prop := h 32 36 = -9 ∧ h 32 37 = -9 ∧ h 32 38 = 0
theorem r_now {d : Nat} {h : zH} {g : zHl} {n k : Nat} (H : zHr h g n k) (V : zVal g n k) (hin : zIn (h 32 8) 0 99) (Z : rAt0 h) : ∃ h', zcal (d + 4) 176 [.ref 32] h = some (some (.int (nI (rJ g n rF rF rF (rQ0 n k (h 32 8) 0) 10).1)), h') ∧ rfInv g n k rF rF rF (rQ0 n k (h 32 8) 0) (h 32 8) (-9) (-9) 0 10 h' ∧ rfF h h' := by
  obtain ⟨z1, z2, z3⟩ := Z
  have := r_rides (d := d) (b := rF) (u := rF) (w := rF) H V hin (fun s hs => ⟨fun q => absurd (z1 ▸ q).symm (nI_m9 hs), fun q => by cases q⟩) (fun s hs => ⟨fun q => absurd (z2 ▸ q).symm (nI_m9 hs), fun q => by cases q⟩) (fun s hs => ⟨fun q => absurd (by rw [z3] at q; exact q) (bit0 hs), fun q => by cases q⟩)
  rw [z1, z2, z3] at this
  exact this

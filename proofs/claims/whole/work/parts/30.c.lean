/-! STEPS -/
def jOk (n k : Nat) (q : zQ) : Prop := zIn q.2.1 0 99 ∧ (q.2.2.2 = 0 → q.1 < n ∧ s_rid k q.2.2.1)
def rN (g : zHl) (n : Nat) (q0 : zQ) : Nat → Nat
  | 0 => 0
  | i + 1 => if (rJ g n rF rF rF q0 i).2.2.2 = 0 then rN g n q0 i + 1 else rN g n q0 i
section STP
variable {g : zHl} {n k : Nat} {q0 : zQ}
theorem s_v1F {s : Nat} {v : Int32} : s_v1 rF s v = v := rfl
theorem jOk_i (V : zVal g n k) (h0 : jOk n k q0) : ∀ i, jOk n k (rJ g n rF rF rF q0 i) := by
  intro i
  induction i with
  | zero => exact h0
  | succ i ih =>
    rw [rJ]
    by_cases hm : (rJ g n rF rF rF q0 i).2.2.2 = 0
    · rw [if_pos hm]
      obtain ⟨hs, hr⟩ := ih.2 hm
      unfold s_st
      rw [s_v1F]
      have hr1 := s_r1_rid (u := rF) (v := (rJ g n rF rF rF q0 i).2.1) V hs hr
      refine ⟨s_nx_in V hs hr1 ih.1, fun q => ?_⟩
      obtain ⟨f1, f2⟩ := s_nx_go hs q
      refine ⟨by rw [f1]; exact f2, ?_⟩
      rw [s_nx_r]
      exact hr1
    · rw [if_neg hm]; exact ih
theorem rN_le : ∀ i, rN g n q0 i ≤ i := by
  intro i
  induction i with
  | zero => exact Nat.le_refl _
  | succ i ih => rw [rN]; split <;> omega
theorem rJ_nextF {i : Nat} (hm : (rJ g n rF rF rF q0 i).2.2.2 = 0) : rJ g n rF rF rF q0 (i + 1) = s_nx g n rF (rJ g n rF rF rF q0 i).1 (rJ g n rF rF rF q0 i).2.1 (s_r1 g rF (rJ g n rF rF rF q0 i).1 (rJ g n rF rF rF q0 i).2.1 (rJ g n rF rF rF q0 i).2.2.1) := by
  rw [rJ, if_pos hm]; rfl
theorem rN_stay {i : Nat} (hm : (rJ g n rF rF rF q0 i).2.2.2 ≠ 0) : ∀ j, i ≤ j → rN g n q0 j = rN g n q0 i := by
  intro j hj
  induction hj with
  | refl => rfl
  | step hj ih => rw [rN, rJ_stay hm _ hj, if_neg hm, ih]
/-! the class's -/
def cSt_1 (g : zHl) (n k : Nat) (q0 : zQ) (h : zH) (i : Nat) (h' : zH) : Prop := zHil h' 1 g n k ∧ h' 1 8 = nI (rJ g n rF rF rF q0 i).1 ∧ h' 1 9 = (rJ g n rF rF rF q0 i).2.1 ∧ h' 1 10 = (rJ g n rF rF rF q0 i).2.2.1 ∧ h' 1 11 = (rJ g n rF rF rF q0 i).2.2.2 ∧ h' 1 12 = h 1 12 + nI (rN g n q0 i) ∧ (∀ j, j < 8 ∨ 12 < j → h' 1 j = h 1 j) ∧ ∀ a, a ≠ 1 → h' a = h a
theorem c_stp1_1 {d : Nat} {h h1 : zH} (V : zVal g n k) (h0 : jOk n k q0) {i : Nat} (I : cSt_1 g n k q0 h i h1) (hm : (rJ g n rF rF rF q0 i).2.2.2 = 0) : ∃ h2, zcal (d + 3) 30 [.ref 1, .int 0, .int 0] h1 = some (none, h2) ∧ cSt_1 g n k q0 h (i + 1) h2 := by
  obtain ⟨I1, I2, I3, I4, I5, I6, I7, I8⟩ := I
  obtain ⟨hs, r, hr, er⟩ := (jOk_i V h0 i).2 hm
  obtain ⟨h2, e, k8, k9, k10, k11, k12, F⟩ := c_step_1 (d := d) (u := rF) (w := rF) I1 V hs hr I2 (I4.trans er) (I5.trans hm)
  rw [I3, I4, ← rJ_nextF hm] at k8 k9 k10 k11
  refine ⟨h2, e, zHil_mv I1 (F _ _ (fun _ => by omega)) (F _ _ (fun _ => by omega)) (fun j p q => by funext x; exact F _ _ (fun q => by omega)), k8, k9, k10, k11, ?_, fun j hj => (F _ _ (fun _ => hj)).trans (I7 j hj), fun a ha => by funext j; rw [F a j (fun q => absurd q ha), I8 a ha]⟩
  rw [k12, I6, rN, if_pos hm, ← nI_1, Int32.add_assoc]
theorem c_stps_1 {d : Nat} {h : zH} (V : zVal g n k) (h0 : jOk n k q0) {p : Nat} (hp : p ≤ 60) : ∀ m i h1, i + m = p → cSt_1 g n k q0 h i h1 → ∃ h2, zE (d + 3) 29 (2, [some (.ref 1), some (.int (nI p)), some (.int (nI i))], [], h1) = some (none, h2) ∧ cSt_1 g n k q0 h p h2 := by
  intro m
  induction m with
  | zero =>
    intro i h1 hi I
    have hi : i = p := hi
    subst hi
    exact ⟨h1, by rw [E29_1_at2, if_pos (nI_le (Nat.le_refl _) (by omega))], I⟩
  | succ m ih =>
    intro i h1 hi I
    rw [E29_1_at2, if_neg (nI_ge (by omega) (by omega)), I.2.2.2.2.1]
    by_cases hm : (rJ g n rF rF rF q0 i).2.2.2 = 0
    · obtain ⟨h2, e, I2⟩ := c_stp1_1 (d := d) V h0 I hm
      rw [if_pos hm, e, zCv_some, nI_1]
      exact ih (i + 1) h2 (by omega) I2
    · rw [if_neg hm]
      refine ⟨h1, rfl, ?_⟩
      unfold cSt_1 at I ⊢
      rw [rJ_stay hm p (by omega), rN_stay hm p (by omega)]
      exact I
theorem c_steps_1 {d : Nat} {h : zH} (V : zVal g n k) (H : zHil h 1 g n k) (h0 : jOk n k q0) (e8 : h 1 8 = nI q0.1) (e9 : h 1 9 = q0.2.1) (e10 : h 1 10 = q0.2.2.1) (e11 : h 1 11 = q0.2.2.2) {p : Nat} (hp : p ≤ 60) : ∃ h2, zcal (d + 4) 29 [.ref 1, .int (nI p)] h = some (none, h2) ∧ cSt_1 g n k q0 h p h2 := by
  rw [E29_1]
  exact c_stps_1 (d := d) V h0 hp p 0 h (by omega) ⟨H, e8, e9, e10, e11, by rw [rN]; exact (Int32.add_zero _).symm, fun _ _ => rfl, fun _ _ => rfl⟩
def cSt_7 (g : zHl) (n k : Nat) (q0 : zQ) (h : zH) (i : Nat) (h' : zH) : Prop := zHil h' 7 g n k ∧ h' 7 8 = nI (rJ g n rF rF rF q0 i).1 ∧ h' 7 9 = (rJ g n rF rF rF q0 i).2.1 ∧ h' 7 10 = (rJ g n rF rF rF q0 i).2.2.1 ∧ h' 7 11 = (rJ g n rF rF rF q0 i).2.2.2 ∧ h' 7 12 = h 7 12 + nI (rN g n q0 i) ∧ (∀ j, j < 8 ∨ 12 < j → h' 7 j = h 7 j) ∧ ∀ a, a ≠ 7 → h' a = h a
theorem c_stp1_7 {d : Nat} {h h1 : zH} (V : zVal g n k) (h0 : jOk n k q0) {i : Nat} (I : cSt_7 g n k q0 h i h1) (hm : (rJ g n rF rF rF q0 i).2.2.2 = 0) : ∃ h2, zcal (d + 3) 30 [.ref 7, .int 0, .int 0] h1 = some (none, h2) ∧ cSt_7 g n k q0 h (i + 1) h2 := by
  obtain ⟨I1, I2, I3, I4, I5, I6, I7, I8⟩ := I
  obtain ⟨hs, r, hr, er⟩ := (jOk_i V h0 i).2 hm
  obtain ⟨h2, e, k8, k9, k10, k11, k12, F⟩ := c_step_7 (d := d) (u := rF) (w := rF) I1 V hs hr I2 (I4.trans er) (I5.trans hm)
  rw [I3, I4, ← rJ_nextF hm] at k8 k9 k10 k11
  refine ⟨h2, e, zHil_mv I1 (F _ _ (fun _ => by omega)) (F _ _ (fun _ => by omega)) (fun j p q => by funext x; exact F _ _ (fun q => by omega)), k8, k9, k10, k11, ?_, fun j hj => (F _ _ (fun _ => hj)).trans (I7 j hj), fun a ha => by funext j; rw [F a j (fun q => absurd q ha), I8 a ha]⟩
  rw [k12, I6, rN, if_pos hm, ← nI_1, Int32.add_assoc]
theorem c_stps_7 {d : Nat} {h : zH} (V : zVal g n k) (h0 : jOk n k q0) {p : Nat} (hp : p ≤ 60) : ∀ m i h1, i + m = p → cSt_7 g n k q0 h i h1 → ∃ h2, zE (d + 3) 29 (2, [some (.ref 7), some (.int (nI p)), some (.int (nI i))], [], h1) = some (none, h2) ∧ cSt_7 g n k q0 h p h2 := by
  intro m
  induction m with
  | zero =>
    intro i h1 hi I
    have hi : i = p := hi
    subst hi
    exact ⟨h1, by rw [E29_7_at2, if_pos (nI_le (Nat.le_refl _) (by omega))], I⟩
  | succ m ih =>
    intro i h1 hi I
    rw [E29_7_at2, if_neg (nI_ge (by omega) (by omega)), I.2.2.2.2.1]
    by_cases hm : (rJ g n rF rF rF q0 i).2.2.2 = 0
    · obtain ⟨h2, e, I2⟩ := c_stp1_7 (d := d) V h0 I hm
      rw [if_pos hm, e, zCv_some, nI_1]
      exact ih (i + 1) h2 (by omega) I2
    · rw [if_neg hm]
      refine ⟨h1, rfl, ?_⟩
      unfold cSt_7 at I ⊢
      rw [rJ_stay hm p (by omega), rN_stay hm p (by omega)]
      exact I
theorem c_steps_7 {d : Nat} {h : zH} (V : zVal g n k) (H : zHil h 7 g n k) (h0 : jOk n k q0) (e8 : h 7 8 = nI q0.1) (e9 : h 7 9 = q0.2.1) (e10 : h 7 10 = q0.2.2.1) (e11 : h 7 11 = q0.2.2.2) {p : Nat} (hp : p ≤ 60) : ∃ h2, zcal (d + 4) 29 [.ref 7, .int (nI p)] h = some (none, h2) ∧ cSt_7 g n k q0 h p h2 := by
  rw [E29_7]
  exact c_stps_7 (d := d) V h0 hp p 0 h (by omega) ⟨H, e8, e9, e10, e11, by rw [rN]; exact (Int32.add_zero _).symm, fun _ _ => rfl, fun _ _ => rfl⟩
/-! the reference's -/
def rSt (g : zHl) (n k : Nat) (q0 : zQ) (h : zH) (i : Nat) (h' : zH) : Prop := zHr h' g n k ∧ h' 32 28 = nI (rJ g n rF rF rF q0 i).1 ∧ h' 32 29 = (rJ g n rF rF rF q0 i).2.1 ∧ h' 32 30 = (rJ g n rF rF rF q0 i).2.2.1 ∧ h' 32 31 = (rJ g n rF rF rF q0 i).2.2.2 ∧ h' 32 13 = h 32 13 + nI (rN g n q0 i) ∧ (∀ j, (j < 28 ∧ j ≠ 13) ∨ 35 < j → h' 32 j = h 32 j) ∧ ∀ a, a ≠ 32 → a ≠ 44 → a ≠ 45 → h' a = h a
theorem r_stp1 {d : Nat} {h h1 : zH} (V : zVal g n k) (h0 : jOk n k q0) (Z : rAt0 h) {i : Nat} (I : rSt g n k q0 h i h1) (hm : (rJ g n rF rF rF q0 i).2.2.2 = 0) : ∃ h2, zcal (d + 3) 148 [.ref 32] h1 = some (none, h2) ∧ rSt g n k q0 h (i + 1) (z_up h2 32 13 (h2 32 13 + 1)) := by
  obtain ⟨I1, I2, I3, I4, I5, I6, I7, I8⟩ := I
  obtain ⟨z1, z2, z3⟩ := Z
  obtain ⟨hs, hr⟩ := (jOk_i V h0 i).2 hm
  have hin := (jOk_i V h0 i).1
  have hn := V.1
  have f2 : ∀ a, a ≠ 44 → z_up h1 44 (rJ g n rF rF rF q0 i).1 (h1 32 29) a = h1 a := fun a ha => z_up_ne ha
  have H2 : zHr (z_up h1 44 (rJ g n rF rF rF q0 i).1 (h1 32 29)) g n k := zHr_mv I1 (by rw [f2 32 (by omega)]) (by rw [f2 32 (by omega)]) (fun a p q => f2 a (by omega))
  obtain ⟨h', g0, g1, g2, g3, g4, _, _, _, _, _, g10, g11⟩ := r_at34 (d := d) (u := rF) (w := rF) H2 V hs (by rw [f2 32 (by omega), I2]) (by rw [f2 32 (by omega), I4]; exact hr) (by rw [f2 32 (by omega), I5, hm]) (by rw [f2 32 (by omega), I3]; exact hin) (by rw [f2 32 (by omega), I7 37 (by omega), z2]; exact ⟨fun q => absurd q.symm (nI_m9 (by omega)), fun q => by cases q⟩) (by rw [f2 32 (by omega), I7 38 (by omega), z3]; exact ⟨fun q => absurd q (bit0 (by omega)), fun q => by cases q⟩)
  rw [f2 32 (by omega), I3, I4, ← rJ_nextF hm] at g1 g2 g3 g4
  refine ⟨h', ?_, ?_⟩
  · rw [E148_32, I2, zG_nI (by omega) (by omega), nI_tn (by omega), I7 36 (by omega), z1, if_neg (fun q => absurd q.symm (nI_m9 (by omega)))]
    exact g0
  · have c32 : ∀ j, j < 28 ∨ 35 < j → h' 32 j = h1 32 j := fun j hj => by rw [g11 j hj, f2 32 (by omega)]
    have ca : ∀ a, a ≠ 32 → a ≠ 44 → a ≠ 45 → h' a = h1 a := fun a q1 q2 q3 => by rw [g10 a q1 q3, f2 a q2]
    refine ⟨zHr_mv I1 (by rw [zu_ni _ _ (by omega), c32 6 (by omega)]) (by rw [zu_ni _ _ (by omega), c32 7 (by omega)]) (fun a p q => by rw [z_up_ne (by omega), ca a (by omega) (by omega) (by omega)]), by rw [zu_ni _ _ (by omega), g1], by rw [zu_ni _ _ (by omega), g2], by rw [zu_ni _ _ (by omega), g3], by rw [zu_ni _ _ (by omega), g4], ?_, fun j hj => by rw [zu_ni _ _ (by omega), c32 j (by omega), I7 j hj], fun a q1 q2 q3 => by rw [z_up_ne q1, ca a q1 q2 q3, I8 a q1 q2 q3]⟩
    rw [zu_eq, c32 13 (by omega), I6, rN, if_pos hm, ← nI_1, Int32.add_assoc]
theorem r_stps {d : Nat} {h : zH} (V : zVal g n k) (h0 : jOk n k q0) (Z : rAt0 h) {p : Nat} (hp : p ≤ 60) : ∀ m i h1, i + m = p → rSt g n k q0 h i h1 → ∃ h2, zE (d + 3) 147 (34, [some (.ref 32), some (.int (nI p)), some (.int (nI i))], [], h1) = some (none, z_up (z_up (z_up (z_up h2 32 9 (h2 32 28)) 32 10 (h2 32 29)) 32 11 (h2 32 30)) 32 12 (h2 32 31)) ∧ rSt g n k q0 h p h2 := by
  intro m
  induction m with
  | zero =>
    intro i h1 hi I
    have hi : i = p := hi
    subst hi
    exact ⟨h1, by rw [E147_32_at34, if_pos (nI_le (Nat.le_refl _) (by omega)), E145_32, zCv_some], I⟩
  | succ m ih =>
    intro i h1 hi I
    rw [E147_32_at34, if_neg (nI_ge (by omega) (by omega)), I.2.2.2.2.1]
    by_cases hm : (rJ g n rF rF rF q0 i).2.2.2 = 0
    · obtain ⟨h2, e, I2⟩ := r_stp1 (d := d) V h0 Z I hm
      rw [if_pos hm, e, zCv_some, nI_1]
      exact ih (i + 1) _ (by omega) I2
    · rw [if_neg hm]
      refine ⟨h1, by rw [E145_32, zCv_some], ?_⟩
      unfold rSt at I ⊢
      rw [rJ_stay hm p (by omega), rN_stay hm p (by omega)]
      exact I
theorem r_steps {d : Nat} {h : zH} (V : zVal g n k) (H : zHr h g n k) (h0 : jOk n k q0) (Z : rAt0 h) (e8 : h 32 9 = nI q0.1) (e9 : h 32 10 = q0.2.1) (e10 : h 32 11 = q0.2.2.1) (e11 : h 32 12 = q0.2.2.2) {p : Nat} (hp : p ≤ 60) : ∃ h', zcal (d + 4) 147 [.ref 32, .int (nI p)] h = some (none, h') ∧ zHr h' g n k ∧ h' 32 9 = nI (rJ g n rF rF rF q0 p).1 ∧ h' 32 10 = (rJ g n rF rF rF q0 p).2.1 ∧ h' 32 11 = (rJ g n rF rF rF q0 p).2.2.1 ∧ h' 32 12 = (rJ g n rF rF rF q0 p).2.2.2 ∧ h' 32 13 = h 32 13 + nI (rN g n q0 p) ∧ (∀ j, j < 9 ∨ (13 < j ∧ j < 28) ∨ 35 < j → h' 32 j = h 32 j) ∧ ∀ a, a ≠ 32 → a ≠ 44 → a ≠ 45 → h' a = h a := by
  have Z' : rAt0 (z_up (z_up (z_up (z_up h 32 28 (h 32 9)) 32 29 (h 32 10)) 32 30 (h 32 11)) 32 31 (h 32 12)) := rAt0_mv Z (fun j p q => by rw [zu_ni _ _ (by omega), zu_ni _ _ (by omega), zu_ni _ _ (by omega), zu_ni _ _ (by omega)])
  have fz : ∀ j, j < 28 ∨ 31 < j → z_up (z_up (z_up (z_up h 32 28 (h 32 9)) 32 29 (h 32 10)) 32 30 (h 32 11)) 32 31 (h 32 12) 32 j = h 32 j := fun j hj => by rw [zu_ni _ _ (by omega), zu_ni _ _ (by omega), zu_ni _ _ (by omega), zu_ni _ _ (by omega)]
  have fa : ∀ a, a ≠ 32 → z_up (z_up (z_up (z_up h 32 28 (h 32 9)) 32 29 (h 32 10)) 32 30 (h 32 11)) 32 31 (h 32 12) a = h a := fun a ha => by rw [z_up_ne ha, z_up_ne ha, z_up_ne ha, z_up_ne ha]
  have I0 : rSt g n k q0 (z_up (z_up (z_up (z_up h 32 28 (h 32 9)) 32 29 (h 32 10)) 32 30 (h 32 11)) 32 31 (h 32 12)) 0 (z_up (z_up (z_up (z_up h 32 28 (h 32 9)) 32 29 (h 32 10)) 32 30 (h 32 11)) 32 31 (h 32 12)) := by
    refine ⟨zHr_mv H (fz 6 (by omega)) (fz 7 (by omega)) (fun a p q => fa a (by omega)), ?_, ?_, ?_, ?_, by rw [rN]; exact (Int32.add_zero _).symm, fun _ _ => rfl, fun _ _ _ _ => rfl⟩
    · rw [zu_ni _ _ (by omega), zu_ni _ _ (by omega), zu_ni _ _ (by omega), zu_eq]; exact e8
    · rw [zu_ni _ _ (by omega), zu_ni _ _ (by omega), zu_eq]; exact e9
    · rw [zu_ni _ _ (by omega), zu_eq]; exact e10
    · rw [zu_eq]; exact e11
  obtain ⟨h2, e, J1, J2, J3, J4, J5, J6, J7, J8⟩ := r_stps (d := d) V h0 Z' hp p 0 _ (by omega) I0
  refine ⟨_, by rw [E147_32]; exact e, zHr_mv J1 (by rw [zu_ni _ _ (by omega), zu_ni _ _ (by omega), zu_ni _ _ (by omega), zu_ni _ _ (by omega)]) (by rw [zu_ni _ _ (by omega), zu_ni _ _ (by omega), zu_ni _ _ (by omega), zu_ni _ _ (by omega)]) (fun a p q => by rw [z_up_ne (by omega), z_up_ne (by omega), z_up_ne (by omega), z_up_ne (by omega)]), ?_, ?_, ?_, ?_, ?_, fun j hj => ?_, fun a q1 q2 q3 => ?_⟩
  · rw [zu_ni _ _ (by omega), zu_ni _ _ (by omega), zu_ni _ _ (by omega), zu_eq, J2]
  · rw [zu_ni _ _ (by omega), zu_ni _ _ (by omega), zu_eq, J3]
  · rw [zu_ni _ _ (by omega), zu_eq, J4]
  · rw [zu_eq, J5]
  · rw [zu_ni _ _ (by omega), zu_ni _ _ (by omega), zu_ni _ _ (by omega), zu_ni _ _ (by omega), J6, fz 13 (by omega)]
  · rw [zu_ni _ _ (by omega), zu_ni _ _ (by omega), zu_ni _ _ (by omega), zu_ni _ _ (by omega), J7 j (by omega), fz j (by omega)]
  · rw [z_up_ne q1, z_up_ne q1, z_up_ne q1, z_up_ne q1, J8 a q1 q2 q3, fa a q1]
/-- the same, when it goes no more -/
theorem r_steps0 {d : Nat} {h : zH} (hm : h 32 12 ≠ 0) {x : Int32} : ∃ h', zcal (d + 2) 147 [.ref 32, .int x] h = some (none, h') ∧ (∀ j, j < 28 ∨ 31 < j → h' 32 j = h 32 j) ∧ ∀ a, a ≠ 32 → h' a = h a := by
  have e31 : z_up (z_up (z_up (z_up h 32 28 (h 32 9)) 32 29 (h 32 10)) 32 30 (h 32 11)) 32 31 (h 32 12) 32 31 = h 32 12 := by rw [zu_eq]
  have key : ∀ H : zH, H = z_up (z_up (z_up (z_up h 32 28 (h 32 9)) 32 29 (h 32 10)) 32 30 (h 32 11)) 32 31 (h 32 12) → (∀ j, j < 28 ∨ 31 < j → z_up (z_up (z_up (z_up H 32 9 (H 32 28)) 32 10 (H 32 29)) 32 11 (H 32 30)) 32 12 (H 32 31) 32 j = h 32 j) ∧ ∀ a, a ≠ 32 → z_up (z_up (z_up (z_up H 32 9 (H 32 28)) 32 10 (H 32 29)) 32 11 (H 32 30)) 32 12 (H 32 31) a = h a := by
    intro H hH
    have h28 : H 32 28 = h 32 9 := by rw [hH]; simp [zu_ap]
    have h29 : H 32 29 = h 32 10 := by rw [hH]; simp [zu_ap]
    have h30 : H 32 30 = h 32 11 := by rw [hH]; simp [zu_ap]
    have h31 : H 32 31 = h 32 12 := by rw [hH]; simp [zu_ap]
    have ho : ∀ j, j < 28 ∨ 31 < j → H 32 j = h 32 j := fun j hj => by rw [hH, zu_ni _ _ (by omega), zu_ni _ _ (by omega), zu_ni _ _ (by omega), zu_ni _ _ (by omega)]
    rw [h28, h29, h30, h31]
    refine ⟨fun j hj => ?_, fun a ha => by rw [z_up_ne ha, z_up_ne ha, z_up_ne ha, z_up_ne ha, hH, z_up_ne ha, z_up_ne ha, z_up_ne ha, z_up_ne ha]⟩
    by_cases q12 : j = 12
    · subst q12; rw [zu_eq]
    · rw [zu_ni _ _ q12]
      by_cases q11 : j = 11
      · subst q11; rw [zu_eq]
      · rw [zu_ni _ _ q11]
        by_cases q10 : j = 10
        · subst q10; rw [zu_eq]
        · rw [zu_ni _ _ q10]
          by_cases q9 : j = 9
          · subst q9; rw [zu_eq]
          · rw [zu_ni _ _ q9, ho j hj]
  obtain ⟨k1, k2⟩ := key _ rfl
  refine ⟨_, ?_, k1, k2⟩
  rw [E147_32, E147_32_at34]
  by_cases hx : (0 : Int32) ≥ x
  · rw [if_pos hx, E145_32, zCv_some]
  · rw [if_neg hx, e31, if_neg hm, E145_32, zCv_some, e31]

end STP

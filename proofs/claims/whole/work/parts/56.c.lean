/-! A BRAKE AND A RUN AT ONE PLACE -/
def at1 (q : Bool) (i : Nat) : Nat → Bool := fun s => q && decide (s = i)
theorem at1_c {q : Bool} {i : Nat} (hi : i < 10) {s : Nat} (hs : s < 10) : (nI s = (if q = true then nI i else -1)) ↔ at1 q i s = true := by
  unfold at1
  cases q with
  | true =>
    rw [if_pos rfl, Bool.true_and]
    exact ⟨fun e => decide_eq_true ((nI_eq (by omega) (by omega)).mp e), fun e => by rw [of_decide_eq_true e]⟩
  | false =>
    rw [if_neg (by decide), Bool.false_and]
    exact ⟨fun e => absurd e (nI_m1 hs), fun e => by cases e⟩
theorem at1_r {q : Bool} {i : Nat} (hi : i < 10) {s : Nat} (hs : s < 10) : ((if q = true then nI i else -9) = nI s) ↔ at1 q i s = true := by
  unfold at1
  cases q with
  | true =>
    rw [if_pos rfl, Bool.true_and]
    exact ⟨fun e => decide_eq_true ((nI_eq (by omega) (by omega)).mp e).symm, fun e => by rw [of_decide_eq_true e]⟩
  | false =>
    rw [if_neg (by decide), Bool.false_and]
    exact ⟨fun e => absurd e.symm (nI_m9 hs), fun e => by cases e⟩
def eT (g : zHl) (n k i : Nat) (b u : Bool) (st : Int32) : zQ := rJ g n (at1 b i) (at1 u i) rF (rQ0 n k st 0) 10
theorem c_two {d : Nat} {h : zH} {g : zHl} {n k i : Nat} {b u : Bool} (H : zHil h 7 g n k) (V : zVal g n k) (hi : i < 10) : ∃ h', zcal (d + 4) 62 [.ref 19, .ref 7, .int 0, .int (if b = true then nI i else -1), .int (if u = true then nI i else -1), .int 0] h = some (none, h') ∧ h' 7 8 = nI (eT g n k i b u (h 7 7)).1 ∧ zHil h' 7 g n k ∧ h' 7 7 = h 7 7 ∧ zFr zMT h h' := by
  obtain ⟨h', e, I⟩ := c_run (d := d) (b := at1 b i) (u := at1 u i) (w := rF) H V (x2 := 0) (x3 := if b = true then nI i else -1) (x4 := if u = true then nI i else -1) (x5 := 0) (by
    rcases f0 (k := k) with q | q
    · exact Or.inl q
    · exact Or.inr ⟨q, rfl⟩) (fun s hs => at1_c hi hs) (fun s hs => at1_c hi hs) (fun s hs => ⟨fun q => absurd q (bit0 hs), fun q => by cases q⟩)
  unfold eT
  refine ⟨h', e, I.2.2.1, I.1, I.2.1, zcal_fr zMT_clo _ _ _ _ _ e (fun v hv => ?_)⟩
  simp at hv
  rcases hv with rfl | rfl
  · exact Or.inr ⟨by omega, by omega⟩
  · exact Or.inl ⟨by omega, by omega⟩
/-- the reference's, and the bits it counts -/
theorem r_two {d : Nat} {h : zH} {g : zHl} {n k i : Nat} {b u : Bool} (H : zHr h g n k) (V : zVal g n k) (hst : zIn (h 32 8) 0 99) (hi : i < 10) (hb : h 32 36 = if b = true then nI i else -9) (hu : h 32 37 = if u = true then nI i else -9) (hw : h 32 38 = 0) : ∃ v h', zcal (d + 4) 176 [.ref 32] h = some (some (.int v), h') ∧ (∀ e, zcal (e + 1) 178 [.int (h' 32 35)] h' = some (some (.int (nI (eT g n k i b u (h 32 8)).1)), h')) ∧ rfF h h' := by
  obtain ⟨h', e, J, G⟩ := r_rides (d := d) (b := at1 b i) (u := at1 u i) (w := rF) H V hst (fun s hs => by rw [hb]; exact at1_r hi hs) (fun s hs => by rw [hu]; exact at1_r hi hs) (fun s hs => ⟨fun q => absurd (by rw [hw] at q; exact q) (bit0 hs), fun q => by cases q⟩)
  have bf := bits_far (b := at1 b i) (u := at1 u i) (w := rF) V (q_go (st := h 32 8)) rfl
  have j35 : h' 32 35 = rGt g n (at1 b i) (at1 u i) rF (rQ0 n k (h 32 8) 0) 10 := J.2.2.2.2.2.2.2.2.2.2.2.2.1
  unfold eT
  refine ⟨_, h', e, fun e2 => ?_, G⟩
  rw [r_bits, j35, bf]

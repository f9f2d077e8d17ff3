/-! A RIDE'S STATES AND LOGS -/
section SPEC
variable (g : zHl) (n : Nat) (b u w : Nat → Bool) (q0 : zQ)
def rJ : Nat → zQ
  | 0 => q0
  | i + 1 => if (rJ i).2.2.2 = 0 then s_st g n b u w (rJ i) else rJ i
def rV (i : Nat) : Int32 := s_v1 b (rJ g n b u w q0 i).1 (rJ g n b u w q0 i).2.1
def rR (i : Nat) : Int32 := s_r1 g u (rJ g n b u w q0 i).1 (rV g n b u w q0 i) (rJ g n b u w q0 i).2.2.1
def rU (i : Nat) : Bool := s_up g u (rJ g n b u w q0 i).1 (rV g n b u w q0 i)
def s_str (g : zHl) (s : Nat) : Bool := decide (g 0 s = 4) || decide (g 0 s = 5)
/-- logs: v at a place, if the ride goes there -/
def rSp (x : Int32) : Nat → Nat → Int32
  | 0 => fun _ => x
  | i + 1 => if (rJ g n b u w q0 i).2.2.2 = 0 then upd (rSp x i) (rJ g n b u w q0 i).1 (rJ g n b u w q0 i).2.1 else rSp x i
def rGa : Nat → Nat → Int32
  | 0 => fun _ => 0
  | i + 1 => if (rJ g n b u w q0 i).2.2.2 = 0 ∧ (rJ g n b u w q0 i).1 < (rJ g n b u w q0 (i + 1)).1 then upd (rGa i) (rJ g n b u w q0 i).1 ((rJ g n b u w q0 (i + 1)).2.1 - rV g n b u w q0 i) else rGa i
def rOv : Nat → Nat → Int32
  | 0 => fun _ => -9
  | i + 1 => if (rJ g n b u w q0 i).2.2.2 = 0 ∧ (rJ g n b u w q0 i).1 < (rJ g n b u w q0 (i + 1)).1 then upd (rOv i) (rJ g n b u w q0 i).1 (rJ g n b u w q0 (i + 1)).2.2.1 else rOv i
def rCa : Nat → Int32
  | 0 => 0
  | i + 1 => if (rJ g n b u w q0 i).2.2.2 = 0 then nI (rJ g n b u w q0 i).1 + 1 else rCa i
def rRo : Nat → Int32
  | 0 => 0
  | i + 1 => if (rJ g n b u w q0 i).2.2.2 = 0 then rRo i ||| (1 <<< (rR g n b u w q0 i &&& 31)) else rRo i
def rFa : Nat → Int32
  | 0 => 0
  | i + 1 => if (rJ g n b u w q0 i).2.2.2 = 0 ∧ 0 ≤ g 2 (rJ g n b u w q0 i).1 ∧ rU g n b u w q0 i = false then rFa i + 1 else rFa i
def rWe : Nat → Int32
  | 0 => 0
  | i + 1 => if (rJ g n b u w q0 i).2.2.2 = 0 ∧ rU g n b u w q0 i = true ∧ s_str g (rJ g n b u w q0 i).1 = true ∧ g 2 (rJ g n b u w q0 i).1 ≠ (rJ g n b u w q0 i).2.2.1 then rWe i + 1 else rWe i
def rLa : Nat → Int32
  | 0 => -9
  | i + 1 => if (rJ g n b u w q0 i).2.2.2 = 0 ∧ rU g n b u w q0 i = true then nI (rJ g n b u w q0 i).1 else rLa i
end SPEC
/-- the rider is one of k -/
def s_rid (k : Nat) (r : Int32) : Prop := ∃ x, x < k ∧ r = nI x
theorem s_r1_rid {g : zHl} {n k : Nat} (V : zVal g n k) {u : Nat → Bool} {s : Nat} {v r : Int32} (hs : s < n) (hr : s_rid k r) : s_rid k (s_r1 g u s v r) := by
  unfold s_r1
  split
  · rename_i hu
    rcases (V.2.2.1 s hs).1 with e | e
    · exfalso; rw [s_up, e, decide_eq_false (show ¬ (0 : Int32) ≤ -9 by decide), Bool.false_and] at hu; cases hu
    · exact e
  · exact hr
theorem s_nx_r {g : zHl} {n : Nat} {w : Nat → Bool} {s : Nat} {v r : Int32} : (s_nx g n w s v r).2.2.1 = r := by
  unfold s_nx
  split
  · split <;> rfl
  · rfl
theorem s_nx_at {g : zHl} {n : Nat} {w : Nat → Bool} {s : Nat} {v r : Int32} : (s_nx g n w s v r).1 = s ∨ (s_nx g n w s v r).1 = s + 1 := by
  unfold s_nx
  split
  · split
    · exact Or.inr rfl
    · exact Or.inl rfl
  · exact Or.inl rfl
theorem s_nx_go {g : zHl} {n : Nat} {w : Nat → Bool} {s : Nat} {v r : Int32} (hs : s < n) (h : (s_nx g n w s v r).2.2.2 = 0) : (s_nx g n w s v r).1 = s + 1 ∧ s + 1 < n := by
  unfold s_nx at h ⊢
  split at h
  · split at h
    · split at h
      · rename_i h1 h2 h3
        rw [if_pos h1, if_pos h2]; exact ⟨rfl, h3⟩
      · exact absurd (show (3 : Int32) = 0 from h) (by decide)
    · exact absurd (show (1 : Int32) = 0 from h) (by decide)
  · exact absurd (show (2 : Int32) = 0 from h) (by decide)
theorem s_nx_ar {g : zHl} {n : Nat} {w : Nat → Bool} {s : Nat} {v r : Int32} (hs : s < n) : (s_nx g n w s v r).2.2.2 = 3 → (s_nx g n w s v r).1 = n := by
  intro h
  unfold s_nx at h ⊢
  split at h
  · split at h
    · split at h
      · exact absurd (show (0 : Int32) = 3 from h) (by decide)
      · rename_i h1 h2 h3
        rw [if_pos h1, if_pos h2]; show s + 1 = n; omega
    · exact absurd (show (1 : Int32) = 3 from h) (by decide)
  · exact absurd (show (2 : Int32) = 3 from h) (by decide)
section SPEC2
variable {g : zHl} {n k : Nat} {b u w : Nat → Bool} {q0 : zQ}
/-- while it goes, it is at the step's number, short of the end, ridden by one of them -/
def rGo (n k : Nat) (q : zQ) (i : Nat) : Prop := q.2.2.2 = 0 → q.1 = i ∧ i < n ∧ s_rid k q.2.2.1
theorem rJ_go (V : zVal g n k) (h0 : rGo n k q0 0) : ∀ i, rGo n k (rJ g n b u w q0 i) i := by
  intro i
  induction i with
  | zero => exact h0
  | succ i ih =>
    intro hm
    rw [rJ] at hm ⊢
    split at hm
    · rename_i hg
      obtain ⟨e1, e2, e3⟩ := ih hg
      rw [if_pos hg]
      unfold s_st at hm ⊢
      have hs : (rJ g n b u w q0 i).1 < n := by rw [e1]; exact e2
      obtain ⟨f1, f2⟩ := s_nx_go hs hm
      refine ⟨by rw [f1, e1], by rw [← e1]; exact f2, ?_⟩
      rw [s_nx_r]
      exact s_r1_rid V hs e3
    · rename_i hg
      exact absurd hm hg
theorem rJ_end (V : zVal g n k) (h0 : rGo n k q0 0) : (rJ g n b u w q0 10).2.2.2 ≠ 0 := by
  intro hm
  have := (rJ_go (b := b) (u := u) (w := w) V h0 10 hm).2.1
  have := V.1
  omega
theorem rJ_stay {i : Nat} (hm : (rJ g n b u w q0 i).2.2.2 ≠ 0) : ∀ j, i ≤ j → rJ g n b u w q0 j = rJ g n b u w q0 i := by
  intro j hj
  induction hj with
  | refl => rfl
  | step _ ih => rw [rJ, ih, if_neg hm]
theorem rJ_next {i : Nat} (hm : (rJ g n b u w q0 i).2.2.2 = 0) : rJ g n b u w q0 (i + 1) = s_nx g n w (rJ g n b u w q0 i).1 (rV g n b u w q0 i) (rR g n b u w q0 i) := by
  rw [rJ, if_pos hm]; rfl
end SPEC2

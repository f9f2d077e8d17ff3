/-! NUMBERS -/
theorem zu_ap (h : zH) (c i a j : Nat) (v : Int32) : z_up h c i v a j = if a = c ∧ j = i then v else h a j := rfl
theorem zu_eq (h : zH) (c i : Nat) (v : Int32) : z_up h c i v c i = v := by rw [zu_ap, if_pos ⟨rfl, rfl⟩]
theorem zu_nc (h : zH) {c i a j : Nat} (v : Int32) (hn : a ≠ c) : z_up h c i v a j = h a j := by rw [zu_ap, if_neg (fun q => hn q.1)]
theorem zu_ni (h : zH) {c i a j : Nat} (v : Int32) (hn : j ≠ i) : z_up h c i v a j = h a j := by rw [zu_ap, if_neg (fun q => hn q.2)]
theorem nn_lit (n : Nat) : (OfNat.ofNat n : Int32) = nI n := rfl
theorem nn_m9 : (-9 : Int32).toInt = -9 := by decide
theorem nn_ge0 {n : Nat} (h : n < 2 ^ 31) : nI n ≥ 0 := nI_pos' h
theorem nn_add (a b : Nat) : nI a + nI b = nI (a + b) := nI_add a b
/-- a small number's place -/
theorem zIx_nI {s n : Nat} (h : s < n) (hn : n < 2 ^ 31) : zIx (nI s) n := nI_in h hn
theorem zG_nI {s n : Nat} {K : Option zE0} (h : s < n) (hn : n < 2 ^ 31) : zG (nI s) n K = K := zG_in (zIx_nI h hn)
theorem nI_tn {n : Nat} (h : n < 2 ^ 31) : (nI n).toNatClampNeg = n := nI_clamp h
theorem ofNat_nI (n : Nat) : Int32.ofNat n = nI n := rfl
/-- what stands in a row at a place, 0 outside -/
def gt (h : zH) (a n : Nat) (i : Int32) : Int32 := if i < 0 then 0 else if i ≥ nI n then 0 else h a i.toNatClampNeg
def pt (h : zH) (a n : Nat) (i v : Int32) : zH := if i < 0 then h else if i ≥ nI n then h else z_up h a i.toNatClampNeg v
theorem gt_nI {h : zH} {a n s : Nat} (hs : s < n) (hn : n < 2 ^ 31) : gt h a n (nI s) = h a s := by
  unfold gt
  rw [if_neg (nI_pos (by omega)), if_neg (nI_ge hs hn), nI_tn (by omega)]
theorem pt_nI {h : zH} {a n s : Nat} {v : Int32} (hs : s < n) (hn : n < 2 ^ 31) : pt h a n (nI s) v = z_up h a s v := by
  unfold pt
  rw [if_neg (nI_pos (by omega)), if_neg (nI_ge hs hn), nI_tn (by omega)]
theorem zIx_of {i : Int32} {n : Nat} (hn : n < 2 ^ 31) (h1 : ¬ i < 0) (h2 : ¬ i ≥ nI n) : zIx i n := by
  obtain ⟨j, hj, rfl⟩ := nI_of h1
  refine nI_in ?_ hn
  rcases Nat.lt_or_ge j n with g | g
  · exact g
  · exact absurd (nI_le g hj) h2
/-! ROWS -/
section B1
variable {d : Nat} {h : zH}
theorem c_get {a n : Nat} (ha : zArr a = some n) (hn : n < 2 ^ 31) {i : Int32} : zcal (d + 1) 6 [.ref a, .int i] h = some (some (.int (gt h a n i)), h) := by
  rw [E6_a0 ha]
  unfold gt
  rw [ofNat_nI]
  by_cases h1 : i < 0
  · rw [if_pos h1, if_pos h1]
  · rw [if_neg h1, if_neg h1]
    by_cases h2 : i ≥ nI n
    · rw [if_pos h2, if_pos h2]
    · rw [if_neg h2, if_neg h2, zG_in (zIx_of hn h1 h2)]
theorem c_put {a n : Nat} (ha : zArr a = some n) (hn : n < 2 ^ 31) {i v : Int32} : zcal (d + 1) 7 [.ref a, .int i, .int v] h = some (none, pt h a n i v) := by
  rw [E7_a0 ha]
  unfold pt
  rw [ofNat_nI]
  by_cases h1 : i < 0
  · rw [if_pos h1, if_pos h1]
  · rw [if_neg h1, if_neg h1]
    by_cases h2 : i ≥ nI n
    · rw [if_pos h2, if_pos h2]
    · rw [if_neg h2, if_neg h2, zG_in (zIx_of hn h1 h2)]
/-- a row copied, as far as i -/
def cp (h : zH) (f t i : Nat) : zH := fun a j => if a = t ∧ j < i then h f j else h a j
def fl (h : zH) (t i : Nat) (v : Int32) : zH := fun a j => if a = t ∧ j < i then v else h a j
theorem cp_0 (h : zH) (f t : Nat) : cp h f t 0 = h := by funext a j; unfold cp; rw [if_neg (by omega)]
theorem fl_0 (h : zH) (t : Nat) (v : Int32) : fl h t 0 v = h := by funext a j; unfold fl; rw [if_neg (by omega)]
theorem cp_s (h : zH) (f t i : Nat) : z_up (cp h f t i) t i (h f i) = cp h f t (i + 1) := by
  funext a j
  rw [zu_ap]
  unfold cp
  by_cases h1 : a = t
  · subst h1
    by_cases h2 : j = i
    · subst h2; simp
    · have : (j < i + 1) ↔ j < i := by omega
      simp [h2, this]
  · simp [h1]
theorem fl_s (h : zH) (t i : Nat) (v : Int32) : z_up (fl h t i v) t i v = fl h t (i + 1) v := by
  funext a j
  rw [zu_ap]
  unfold fl
  by_cases h1 : a = t
  · subst h1
    by_cases h2 : j = i
    · subst h2; simp
    · have : (j < i + 1) ↔ j < i := by omega
      simp [h2, this]
  · simp [h1]
theorem l_copy {f t nf nt : Nat} (hf : zArr f = some nf) (ht : zArr t = some nt) (h31 : nf < 2 ^ 31) (hle : nt ≤ nf) (hne : f ≠ t) : ∀ k i, i + k = nt → zE (d + 1) 17 (2, [some (.ref f), some (.ref t), some (.int (nI i))], [], cp h f t i) = some (none, cp h f t nt) := by
  intro k
  induction k with
  | zero =>
    intro i hi
    have hi : i = nt := hi
    subst hi
    rw [E17_a0_a1_at2 hf ht, ofNat_nI, if_pos (nI_le (Nat.le_refl _) (by omega))]
  | succ k ih =>
    intro i hi
    rw [E17_a0_a1_at2 hf ht, ofNat_nI, if_neg (nI_ge (by omega) (by omega)), c_get hf h31, zCi_some, zG_nI (by omega) (by omega), nI_tn (by omega), gt_nI (by omega) h31]
    have e1 : cp h f t i f i = h f i := by unfold cp; rw [if_neg (fun q => hne q.1)]
    rw [e1, cp_s, nI_1]
    exact ih (i + 1) (by omega)
theorem c_copy {f t nf nt : Nat} (hf : zArr f = some nf) (ht : zArr t = some nt) (h31 : nf < 2 ^ 31) (hle : nt ≤ nf) (hne : f ≠ t) : zcal (d + 2) 17 [.ref f, .ref t] h = some (none, cp h f t nt) := by
  rw [E17_a0_a1 hf ht]
  have := l_copy (d := d) (h := h) hf ht h31 hle hne nt 0 (by omega)
  rw [cp_0] at this
  exact this
theorem l_fill {t nt : Nat} (ht : zArr t = some nt) (h31 : nt < 2 ^ 31) {v : Int32} : ∀ k i, i + k = nt → zE d 2 (2, [some (.ref t), some (.int v), some (.int (nI i))], [], fl h t i v) = some (none, fl h t nt v) := by
  intro k
  induction k with
  | zero =>
    intro i hi
    have hi : i = nt := hi
    subst hi
    rw [E2_a0_at2 ht, ofNat_nI, if_pos (nI_le (Nat.le_refl _) (by omega))]
  | succ k ih =>
    intro i hi
    rw [E2_a0_at2 ht, ofNat_nI, if_neg (nI_ge (by omega) (by omega)), zG_nI (by omega) (by omega), nI_tn (by omega), fl_s, nI_1]
    exact ih (i + 1) (by omega)
theorem c_fill {t nt : Nat} (ht : zArr t = some nt) (h31 : nt < 2 ^ 31) {v : Int32} : zcal (d + 1) 2 [.ref t, .int v] h = some (none, fl h t nt v) := by
  rw [E2_a0 ht]
  have := l_fill (d := d) (h := h) ht h31 (v := v) nt 0 (by omega)
  rw [fl_0] at this
  exact this
end B1
/-! THE RIDE, IN NUMBERS (g: kinds, figures, changes, weights, skills; b: brakes, u: runs, w: winds) -/
abbrev zHl : Type := Nat → Nat → Int32
abbrev zQ : Type := Nat × Int32 × Int32 × Int32
def s_v1 (b : Nat → Bool) (s : Nat) (v : Int32) : Int32 := if b s = true then v / 2 else v
def s_rn (u : Nat → Bool) (s : Nat) : Int32 := if u s = true then 10 else 0
def s_wd (w : Nat → Bool) (s : Nat) : Int32 := if w s = true then 5 else 0
def s_up (g : zHl) (u : Nat → Bool) (s : Nat) (v : Int32) : Bool := decide (0 ≤ g 2 s) && decide (v ≤ (20 + 2 * g 4 (g 2 s).toNatClampNeg) + s_rn u s)
def s_r1 (g : zHl) (u : Nat → Bool) (s : Nat) (v r : Int32) : Int32 := if s_up g u s v = true then g 2 s else r
def s_hold (g : zHl) (s : Nat) (r : Int32) : Int32 := if g 0 s = 1 then 10 + 4 * g 4 r.toNatClampNeg else if g 0 s = 3 then 5 + 4 * g 4 r.toNatClampNeg else 99
def s_bec (g : zHl) (s : Nat) (r v : Int32) : Int32 := if g 0 s = 1 then v - g 1 s else if g 0 s = 2 then v + 2 * g 3 r.toNatClampNeg else if g 0 s = 3 then (v - g 1 s) / 2 else if g 0 s = 4 then ((v + g 3 r.toNatClampNeg) - g 1 s) + 2 else if g 0 s = 5 then (v - g 1 s) - 5 else (v + g 3 r.toNatClampNeg) - g 1 s
def s_min (e : Int32) : Int32 := if (99 : Int32) < e then 99 else e
def s_nx (g : zHl) (n : Nat) (w : Nat → Bool) (s : Nat) (v r : Int32) : zQ :=
  if v ≤ s_hold g s r then (if s_min (s_bec g s r v) - s_wd w s > 0 then (s + 1, s_min (s_bec g s r v) - s_wd w s, r, if s + 1 < n then 0 else 3) else (s, 0, r, 1)) else (s, v, r, 2)
def s_st (g : zHl) (n : Nat) (b u w : Nat → Bool) (q : zQ) : zQ := s_nx g n w q.1 (s_v1 b q.1 q.2.1) (s_r1 g u q.1 (s_v1 b q.1 q.2.1) q.2.2.1)
/-- what holds of a hill's numbers -/
def zVal (g : zHl) (n k : Nat) : Prop := n ≤ 10 ∧ k ≤ 5 ∧ (∀ s, s < n → (g 2 s = -9 ∨ ∃ x, x < k ∧ g 2 s = nI x) ∧ (∃ x, x < 6 ∧ g 0 s = nI x) ∧ (∃ x, x < 10 ∧ g 1 s = nI x)) ∧ (∀ r, r < k → (∃ x, x < 10 ∧ g 3 r = nI x) ∧ (∃ x, x < 10 ∧ g 4 r = nI x))
/-- the cells a .. a + 5 hold such a hill -/
def zHil (h : zH) (a : Nat) (g : zHl) (n k : Nat) : Prop := h a 5 = nI n ∧ h a 6 = nI k ∧ (∀ s, s < n → h (a + 1) s = g 0 s ∧ h (a + 2) s = g 1 s ∧ h (a + 3) s = g 2 s) ∧ (∀ r, r < k → h (a + 4) r = g 3 r ∧ h (a + 5) r = g 4 r)
theorem zHil_mv {h h' : zH} {a : Nat} {g : zHl} {n k : Nat} (H : zHil h a g n k) (h5 : h' a 5 = h a 5) (h6 : h' a 6 = h a 6) (hr : ∀ j, 1 ≤ j → j ≤ 5 → h' (a + j) = h (a + j)) : zHil h' a g n k := by
  obtain ⟨e1, e2, e3, e4⟩ := H
  refine ⟨h5.trans e1, h6.trans e2, fun s hs => ?_, fun r hr2 => ?_⟩
  · rw [hr 1 (by omega) (by omega), hr 2 (by omega) (by omega), hr 3 (by omega) (by omega)]; exact e3 s hs
  · rw [hr 4 (by omega) (by omega), hr 5 (by omega) (by omega)]; exact e4 r hr2
theorem nI_lit9 : (-9 : Int32) < 0 := by decide
theorem n31 {n : Nat} (h : n ≤ 1000000) : n < 2 ^ 31 := by omega
theorem c_min {d : Nat} {h : zH} {x : Int32} : zcal (d + 1) 35 [.int x, .int 99] h = some (some (.int (s_min x)), h) := by
  rw [zcal, if_pos (Or.inr rfl)]; rfl
theorem nge10 {i : Nat} (h : i < 10) : ¬ nI i ≥ (10 : Int32) := nI_ge (b := 10) h (by omega)
theorem ge10 : nI 10 ≥ (10 : Int32) := nI_le (a := 10) (b := 10) (by omega) (by omega)

/-! WHAT HOLDS BETWEEN THE CLASS AND THE REFERENCE, BETWEEN CALLS -/
/-- the bicycle and its like: start, at, speed, rider, how, steps -/
def bOk (n k : Nat) (f : Nat → Int32) : Prop := zIn (f 0) 0 99 ∧ zIn (f 2) 0 99 ∧ (∃ t, t ≤ 999 ∧ f 5 = nI t) ∧ (f 4 = 0 → ∃ a, a < n ∧ f 1 = nI a ∧ s_rid k (f 3))
/-- a slot of the reference's keeping -/
def zSn (h : zH) (w : Nat) (g : zHl) (n k : Nat) (f : Nat → Int32) : Prop := (∀ s, s < n → h 43 (48 * w + s) = g 0 s ∧ h 43 (48 * w + 10 + s) = g 1 s ∧ h 43 (48 * w + 20 + s) = g 2 s) ∧ (∀ r, r < k → h 43 (48 * w + 30 + r) = g 3 r ∧ h 43 (48 * w + 35 + r) = g 4 r) ∧ h 43 (48 * w + 40) = nI n ∧ h 43 (48 * w + 41) = nI k ∧ ∀ i, i < 6 → h 43 (48 * w + 42 + i) = f i
def RelH (g : zHl) (n k : Nat) (h : zH) : Prop := zVal g n k ∧ zHil h 1 g n k ∧ zHr h g n k ∧ bOk n k (fun i => h 1 (7 + i)) ∧ ∀ i, i < 6 → h 32 (8 + i) = h 1 (7 + i)
def RelT (h : zH) : Prop := ∃ t, t ≤ 96 ∧ h 26 1 = nI t ∧ h 32 18 = nI t ∧ ∀ j, j < t → h 39 j = h 27 j ∧ ∃ x, x < 256 ∧ h 27 j = nI x
def RelR (h : zH) : Prop := ∃ m, m ≤ 12 ∧ h 28 1 = nI m ∧ h 32 40 = nI m ∧ ∀ j, j < m → h 46 j = h 29 j ∧ zIn (h 29 j) 0 99
def RelI (h : zH) : Prop := h 32 22 = h 0 3 ∧ (h 0 3 = 0 ∨ (h 0 3 = 1 ∧ ∃ g n k, zVal g n k ∧ zHil h 13 g n k ∧ bOk n k (fun i => h 13 (7 + i)) ∧ zSn h 0 g n k (fun i => h 13 (7 + i))))
/-- what may be taken back: the j-th of the class's ring is the reference's slot 2 + j -/
def RelP (g : zHl) (n k : Nat) (h : zH) : Prop := ∃ f c, f < 8 ∧ c ≤ 8 ∧ h 23 1 = nI f ∧ h 23 2 = nI c ∧ h 32 25 = nI c ∧ ∀ j, j < c → (∀ s, s < n → (h 24 (16 * ((f + j) % 8) + s) = -9 ∨ ∃ x, x < k ∧ h 24 (16 * ((f + j) % 8) + s) = nI x)) ∧ bOk n k (fun i => h 24 (16 * ((f + j) % 8) + 10 + i)) ∧ zSn h (2 + j) (fun r => if r = 2 then (fun s => h 24 (16 * ((f + j) % 8) + s)) else g r) n k (fun i => h 24 (16 * ((f + j) % 8) + 10 + i))
def RelC (h : zH) : Prop := ∀ j, j < 6 → h 33 (j + 1) = h 30 j
def Rel0 (g : zHl) (n k : Nat) (h : zH) : Prop := RelH g n k h ∧ RelT h ∧ RelR h ∧ RelI h ∧ RelP g n k h ∧ rAt0 h
def Rel (h : zH) : Prop := (∃ g n k, Rel0 g n k h) ∧ RelC h
/-- the cells that last from call to call -/
def zPers (h h' : zH) : Prop := (∀ a, a < 30 → ¬ zMT a → h' a = h a) ∧ (∀ a, 34 ≤ a → a ≤ 39 → h' a = h a) ∧ h' 46 = h 46 ∧ (∀ i, i < 48 ∨ 96 ≤ i → h' 43 i = h 43 i) ∧ ∀ j, (6 ≤ j ∧ j ≤ 13) ∨ j = 18 ∨ j = 22 ∨ j = 25 ∨ (36 ≤ j ∧ j ≤ 38) ∨ j = 40 → h' 32 j = h 32 j
theorem zPers_rf {h : zH} : zPers h h := ⟨fun _ _ _ => rfl, fun _ _ _ => rfl, rfl, fun _ _ => rfl, fun _ _ => rfl⟩
theorem zPers_tr {h h1 h2 : zH} (a : zPers h h1) (b : zPers h1 h2) : zPers h h2 := ⟨fun x p q => (b.1 x p q).trans (a.1 x p q), fun x p q => (b.2.1 x p q).trans (a.2.1 x p q), b.2.2.1.trans a.2.2.1, fun i p => (b.2.2.2.1 i p).trans (a.2.2.2.1 i p), fun j p => (b.2.2.2.2 j p).trans (a.2.2.2.2 j p)⟩
theorem zPers_mt {h h' : zH} (F : zFr zMT h h') : zPers h h' := by
  have hn : ∀ a, (a < 7 ∨ (12 < a ∧ a < 19) ∨ 22 < a) → h' a = h a := fun a ha => F a (by unfold zMT; omega)
  exact ⟨fun a p q => F a q, fun a p q => hn a (by omega), hn 46 (by omega), fun i _ => by rw [hn 43 (by omega)], fun j _ => by rw [hn 32 (by omega)]⟩
theorem zPers_rf2 {h h' : zH} (F : rfF h h') : zPers h h' :=
  ⟨fun a p q => F.1 a (by omega) (by omega) (by omega), fun a p q => F.1 a (by omega) (by omega) (by omega), F.1 46 (by omega) (by omega) (by omega), fun i _ => by rw [F.1 43 (by omega) (by omega) (by omega)], fun j hj => F.2 j (by omega)⟩
theorem zMT_n {a : Nat} (h : a < 7 ∨ (12 < a ∧ a < 19) ∨ 22 < a) : ¬ zMT a := by unfold zMT; omega
theorem zSn_mv {h h' : zH} {w : Nat} {g : zHl} {n k : Nat} {f : Nat → Int32} (V : n ≤ 10 ∧ k ≤ 5) (H : zSn h w g n k f) (e : ∀ i, i < 48 → h' 43 (48 * w + i) = h 43 (48 * w + i)) : zSn h' w g n k f := by
  obtain ⟨a1, a2, a3, a4, a5⟩ := H
  have e2 : ∀ x i, x + i < 48 → h' 43 (48 * w + x + i) = h 43 (48 * w + x + i) := fun x i hx => by rw [Nat.add_assoc]; exact e _ hx
  refine ⟨fun s hs => ?_, fun r hr => ?_, (e 40 (by omega)).trans a3, (e 41 (by omega)).trans a4, fun i hi => (e2 42 i (by omega)).trans (a5 i hi)⟩
  · obtain ⟨b1, b2, b3⟩ := a1 s hs
    exact ⟨(e s (by omega)).trans b1, (e2 10 s (by omega)).trans b2, (e2 20 s (by omega)).trans b3⟩
  · obtain ⟨b1, b2⟩ := a2 r hr
    exact ⟨(e2 30 r (by omega)).trans b1, (e2 35 r (by omega)).trans b2⟩
theorem Rel0_mv {h h' : zH} {g : zHl} {n k : Nat} (R : Rel0 g n k h) (P : zPers h h') : Rel0 g n k h' := by
  obtain ⟨⟨V, H1, H2, b, e⟩, ⟨t, t1, t2, t3, t4⟩, ⟨m, m1, m2, m3, m4⟩, ⟨i1, i2⟩, ⟨f, c, p1, p2, p3, p4, p5, p6⟩, z⟩ := R
  obtain ⟨q1, q2, q3, q4, q5⟩ := P
  have c1 : h' 1 = h 1 := q1 1 (by omega) (zMT_n (by omega))
  have cr : ∀ a, (a < 7 ∨ (12 < a ∧ a < 19) ∨ (22 < a ∧ a < 30)) → h' a = h a := fun a ha => q1 a (by omega) (zMT_n (by omega))
  refine ⟨⟨V, zHil_mv H1 (by rw [c1]) (by rw [c1]) (fun j h1 h2 => cr _ (by omega)), zHr_mv H2 (q5 6 (by omega)) (q5 7 (by omega)) (fun a h1 h2 => q2 a h1 (by omega)), by rw [c1]; exact b, fun i hi => by rw [c1, q5 _ (by omega)]; exact e i hi⟩, ⟨t, t1, by rw [cr 26 (by omega)]; exact t2, by rw [q5 18 (by omega)]; exact t3, by rw [cr 27 (by omega), q2 39 (by omega) (by omega)]; exact t4⟩, ⟨m, m1, by rw [cr 28 (by omega)]; exact m2, by rw [q5 40 (by omega)]; exact m3, by rw [cr 29 (by omega), q3]; exact m4⟩, ⟨by rw [q5 22 (by omega), cr 0 (by omega)]; exact i1, ?_⟩, ⟨f, c, p1, p2, by rw [cr 23 (by omega)]; exact p3, by rw [cr 23 (by omega)]; exact p4, by rw [q5 25 (by omega)]; exact p5, fun j hj => ?_⟩, by rw [rAt0, q5 36 (by omega), q5 37 (by omega), q5 38 (by omega)]; exact z⟩
  · rw [cr 0 (by omega)]
    rcases i2 with i2 | ⟨i2, g', n', k', V', K', B', S'⟩
    · exact Or.inl i2
    · refine Or.inr ⟨i2, g', n', k', V', zHil_mv K' (by rw [cr 13 (by omega)]) (by rw [cr 13 (by omega)]) (fun j h1 h2 => cr _ (by omega)), by rw [cr 13 (by omega)]; exact B', ?_⟩
      rw [cr 13 (by omega)]
      exact zSn_mv ⟨V'.1, V'.2.1⟩ S' (fun i hi => q4 _ (by omega))
  · obtain ⟨r1, r2, r3⟩ := p6 j hj
    rw [cr 24 (by omega)]
    exact ⟨r1, r2, zSn_mv ⟨V.1, V.2.1⟩ r3 (fun i hi => q4 _ (by omega))⟩
theorem RelC_mt {h h' : zH} (R : RelC h) (F : zFr zMT h h') : RelC h' := fun j hj => by rw [F 30 (zMT_n (by omega)), F 33 (zMT_n (by omega))]; exact R j hj
theorem RelC_rf {h h' : zH} (R : RelC h) (F : rfF h h') : RelC h' := fun j hj => by rw [F.1 30 (by omega) (by omega) (by omega), F.1 33 (by omega) (by omega) (by omega)]; exact R j hj
/-- a question answered by rides alone -/
theorem Rel_q {h h1 h2 : zH} (R : Rel h) (F : zFr zMT h h1) (G : rfF h1 h2) : Rel h2 := by
  obtain ⟨⟨g, n, k, R0⟩, C⟩ := R
  exact ⟨⟨g, n, k, Rel0_mv (Rel0_mv R0 (zPers_mt F)) (zPers_rf2 G)⟩, RelC_rf (RelC_mt C F) G⟩
/-- a call on both sides -/
def zSim (mc mr : Nat) (as : List Value) : Prop := ∀ (d : Nat) (h : zH), Rel h → ∃ (v : Value) (h1 h2 : zH), zcal (d + 10) mc (.ref 0 :: as) h = some (some v, h1) ∧ zcal (d + 10) mr (.ref 32 :: as) h1 = some (some v, h2) ∧ Rel h2
/-! REFUSALS -/
theorem c_ref {d : Nat} {h : zH} {c : Int32} {j : Nat} (hj : j < 6) (hc : (-c) - 1 = nI j) : zcal (d + 2) 5 [.ref 0, .int c] h = some (some (.int c), z_up h 30 j (h 30 j + 1)) := by
  rw [E5_0, hc, c_get (n := 6) rfl (by omega), zCi_some, gt_nI hj (by omega), c_put (n := 6) rfl (by omega), zCv_some, pt_nI hj (by omega)]
theorem r_no {d : Nat} {h : zH} {c : Int32} {j : Nat} (hj : j < 6) (hc : -c = nI (j + 1)) : zcal (d + 1) 125 [.ref 32, .int c] h = some (some (.int c), z_up h 33 (j + 1) (h 33 (j + 1) + 1)) := by
  rw [E125_32, hc, zG_nI (by omega) (by omega), zG_nI (by omega) (by omega), nI_tn (by omega)]
theorem r_low {d : Nat} {h : zH} {c : Int32} {j : Nat} (hj : j < 6) (hc : -c = nI (j + 1)) : zcal (d + 1) 206 [.ref 32, .int c] h = some (some (.long ((4000000000000000000 : Int64) - c.toInt64)), z_up h 33 (j + 1) (h 33 (j + 1) + 1)) := by
  rw [E206_32, hc, zG_nI (by omega) (by omega), zG_nI (by omega) (by omega), nI_tn (by omega)]
theorem r_lower {d : Nat} {h : zH} {c : Int32} {j : Nat} (hj : j < 6) (hc : -c = nI (j + 1)) : zcal (d + 1) 220 [.ref 32, .int c] h = some (some (.int ((1000000000 : Int32) - c)), z_up h 33 (j + 1) (h 33 (j + 1) + 1)) := by
  rw [E220_32, hc, zG_nI (by omega) (by omega), zG_nI (by omega) (by omega), nI_tn (by omega)]
def refC (h : zH) (j : Nat) : zH := z_up h 30 j (h 30 j + 1)
def refR (h : zH) (j : Nat) : zH := z_up h 33 (j + 1) (h 33 (j + 1) + 1)
theorem zPers_c {h : zH} {j : Nat} {x : Int32} : zPers h (z_up h 30 j x) := ⟨fun a p q => z_up_ne (by omega), fun a p q => z_up_ne (by omega), z_up_ne (by omega), fun i _ => by rw [z_up_ne (by omega)], fun j _ => by rw [z_up_ne (by omega)]⟩
theorem zPers_r {h : zH} {j : Nat} {x : Int32} : zPers h (z_up h 33 j x) := ⟨fun a p q => z_up_ne (by omega), fun a p q => z_up_ne (by omega), z_up_ne (by omega), fun i _ => by rw [z_up_ne (by omega)], fun j _ => by rw [z_up_ne (by omega)]⟩
theorem Rel_ref {h : zH} {j : Nat} (hj : j < 6) (R : Rel h) : Rel (refR (refC h j) j) := by
  obtain ⟨⟨g, n, k, R0⟩, C⟩ := R
  refine ⟨⟨g, n, k, Rel0_mv (Rel0_mv R0 zPers_c) zPers_r⟩, fun i hi => ?_⟩
  unfold refR refC
  by_cases e : i = j
  · subst e
    rw [zu_eq, zu_nc _ _ (by omega), zu_nc _ _ (by omega), zu_eq, C i hi]
  · rw [zu_ni _ _ (by omega), zu_nc _ _ (by omega), zu_nc _ _ (by omega), zu_ni _ _ e, C i hi]
theorem zHil_c {h : zH} {a j : Nat} {x : Int32} {g : zHl} {n k : Nat} (ha : a < 25) (H : zHil h a g n k) : zHil (z_up h 30 j x) a g n k := zHil_mv H (by rw [z_up_ne (by omega)]) (by rw [z_up_ne (by omega)]) (fun j h1 h2 => z_up_ne (by omega))
theorem zHr_c {h : zH} {j : Nat} {x : Int32} {g : zHl} {n k : Nat} (H : zHr h g n k) : zHr (z_up h 30 j x) g n k := zHr_mv H (by rw [z_up_ne (by omega)]) (by rw [z_up_ne (by omega)]) (fun a h1 h2 => z_up_ne (by omega))
/-! THE REFERENCE'S SMALL QUESTIONS -/
section RQ
variable {d : Nat} {h : zH} {g : zHl} {n k : Nat}
theorem r_isS (H : zHr h g n k) (V : zVal g n k) {i : Int32} : zcal (d + 1) 141 [.ref 32, .int i] h = some (some (.int (if 0 ≤ i ∧ i < nI n then 1 else 0)), h) := by
  rw [E141_32, H.1]
  by_cases h1 : i < 0
  · rw [if_pos h1, if_neg (fun q => Int32.not_le.mpr h1 q.1)]
  · rw [if_neg h1]
    by_cases h2 : i ≥ nI n
    · rw [if_pos h2, if_neg (fun q => Int32.not_le.mpr q.2 h2)]
    · rw [if_neg h2, if_pos ⟨Int32.not_lt.mp h1, Int32.not_le.mp h2⟩]
theorem r_isR (H : zHr h g n k) (V : zVal g n k) {i : Int32} : zcal (d + 1) 142 [.ref 32, .int i] h = some (some (.int (if 0 ≤ i ∧ i < nI k then 1 else 0)), h) := by
  rw [E142_32, H.2.1]
  by_cases h1 : i < 0
  · rw [if_pos h1, if_neg (fun q => Int32.not_le.mpr h1 q.1)]
  · rw [if_neg h1]
    by_cases h2 : i ≥ nI k
    · rw [if_pos h2, if_neg (fun q => Int32.not_le.mpr q.2 h2)]
    · rw [if_neg h2, if_pos ⟨Int32.not_lt.mp h1, Int32.not_le.mp h2⟩]
theorem r_isIn {x lo hi : Int32} : zcal (d + 1) 131 [.int x, .int lo, .int hi] h = some (some (.int (if lo ≤ x ∧ x ≤ hi then 1 else 0)), h) := by
  rw [E131]
  by_cases h1 : x < lo
  · rw [if_pos h1, if_neg (fun q => Int32.not_le.mpr h1 q.1)]
  · rw [if_neg h1]
    by_cases h2 : x > hi
    · rw [if_pos h2, if_neg (fun q => Int32.not_le.mpr h2 q.2)]
    · rw [if_neg h2, if_pos ⟨Int32.not_lt.mp h1, Int32.not_lt.mp h2⟩]
theorem r_bound {x lo hi : Int32} : zcal (d + 1) 124 [.int x, .int lo, .int hi] h = some (some (.int (if lo ≤ x then (if x ≤ hi then 0 else -6) else -4)), h) := by
  rw [E124]
  by_cases h1 : lo ≤ x
  · rw [if_pos (show x ≥ lo from h1), if_pos h1]
    by_cases h2 : x ≤ hi
    · rw [if_pos h2, if_pos h2]
    · rw [if_neg h2, if_neg h2]
  · rw [if_neg (show ¬ x ≥ lo from h1), if_neg h1]
end RQ
/-- a place that a hill has is a small number -/
theorem i_small {i : Int32} {n : Nat} (hn : n ≤ 1000000) (h : 0 ≤ i ∧ i < nI n) : ∃ s, s < n ∧ i = nI s := by
  obtain ⟨j, hj, rfl⟩ := nI_of (Int32.not_lt.mpr h.1)
  exact ⟨j, (nI_ltI hj (by omega)).mp h.2, rfl⟩

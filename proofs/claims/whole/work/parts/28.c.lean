theorem gS_n {g : zHl} {n : Nat} {a b : Int32} : gS g n a b 0 n = a ∧ gS g n a b 1 n = b ∧ gS g n a b 2 n = -9 := by
  unfold gS
  simp [upd_ap]
theorem gR_n {g : zHl} {k : Nat} {a b : Int32} : gR g k a b 3 k = a ∧ gR g k a b 4 k = b := by
  unfold gR
  simp [upd_ap]
theorem zVal_S {g : zHl} {n k x y : Nat} (V : zVal g n k) (hn : n < 10) (hx : x < 6) (hy : y < 10) : zVal (gS g n (nI x) (nI y)) (n + 1) k := by
  obtain ⟨v1, v2, v3, v4⟩ := V
  refine ⟨by omega, v2, fun s hs => ?_, fun r hr => ?_⟩
  · by_cases e : s = n
    · subst e
      obtain ⟨q1, q2, q3⟩ := gS_n (g := g) (n := s) (a := nI x) (b := nI y)
      rw [q1, q2, q3]
      exact ⟨Or.inl rfl, ⟨x, hx, rfl⟩, ⟨y, hy, rfl⟩⟩
    · rw [gS_o (Or.inl e), gS_o (Or.inl e), gS_o (Or.inl e)]; exact v3 s (by omega)
  · rw [gS_o (Or.inr (by omega)), gS_o (Or.inr (by omega))]; exact v4 r hr
theorem zVal_R {g : zHl} {n k x y : Nat} (V : zVal g n k) (hk : k < 5) (hx : x < 10) (hy : y < 10) : zVal (gR g k (nI x) (nI y)) n (k + 1) := by
  obtain ⟨v1, v2, v3, v4⟩ := V
  refine ⟨v1, by omega, fun s hs => ?_, fun r hr => ?_⟩
  · rw [gR_o (Or.inr (by omega)), gR_o (Or.inr (by omega)), gR_o (Or.inr (by omega))]
    obtain ⟨w1, w2, w3⟩ := v3 s hs
    refine ⟨?_, w2, w3⟩
    rcases w1 with w1 | ⟨z, hz, w1⟩
    · exact Or.inl w1
    · exact Or.inr ⟨z, by omega, w1⟩
  · by_cases e : r = k
    · subst e
      obtain ⟨q1, q2⟩ := gR_n (g := g) (k := r) (a := nI x) (b := nI y)
      rw [q1, q2]
      exact ⟨⟨x, hx, rfl⟩, ⟨y, hy, rfl⟩⟩
    · rw [gR_o (Or.inl e), gR_o (Or.inl e)]; exact v4 r (by omega)
theorem nI_p1 {n : Nat} : nI n + 1 - 1 = nI n := by rw [Int32.add_sub_cancel]
theorem c_addS_1 {d : Nat} {h : zH} {g : zHl} {n k : Nat} (H : zHil h 1 g n k) (hn : n < 10) {a b : Int32} : ∃ h', zcal (d + 2) 21 [.ref 1, .int a, .int b] h = some (some (.int (nI n)), h') ∧ zHil h' 1 (gS g n a b) (n + 1) k ∧ (∀ j, j ≠ 5 → h' 1 j = h 1 j) ∧ ∀ c, (c < 1 ∨ 4 < c) → h' c = h c := by
  obtain ⟨q1, q2, q3⟩ := gS_n (g := g) (n := n) (a := a) (b := b)
  refine ⟨z_up (z_up (z_up (z_up h 2 n a) 3 n b) 4 n (-9)) 1 5 (nI n + 1), ?_, ⟨by rw [zu_eq, nI_1], ?_, fun s hs => ⟨?_, ?_, ?_⟩, fun r hr => ?_⟩, fun j hj => ?_, fun c hc => ?_⟩
  · rw [E21_1, H.1, c_put (n := 10) rfl (by omega), zCv_some, pt_nI hn (by omega), z_up_ne (by omega), H.1, c_put (n := 10) rfl (by omega), zCv_some, pt_nI hn (by omega), z_up_ne (by omega), z_up_ne (by omega), H.1, c_put (n := 10) rfl (by omega), zCv_some, pt_nI hn (by omega), z_up_ne (by omega), z_up_ne (by omega), z_up_ne (by omega), H.1, nI_p1]
  · rw [zu_ni _ _ (by omega), z_up_ne (by omega), z_up_ne (by omega), z_up_ne (by omega)]; exact H.2.1
  · show z_up _ 1 5 _ 2 s = _
    rw [z_up_ne (by omega), z_up_ne (by omega), z_up_ne (by omega), zu_ap]
    by_cases e : s = n
    · rw [if_pos ⟨rfl, e⟩, e, q1]
    · rw [if_neg (fun q => e q.2), gS_o (Or.inl e)]; exact (H.2.2.1 s (by omega)).1
  · show z_up _ 1 5 _ 3 s = _
    rw [z_up_ne (by omega), z_up_ne (by omega), zu_ap, z_up_ne (by omega)]
    by_cases e : s = n
    · rw [if_pos ⟨rfl, e⟩, e, q2]
    · rw [if_neg (fun q => e q.2), gS_o (Or.inl e)]; exact (H.2.2.1 s (by omega)).2.1
  · show z_up _ 1 5 _ 4 s = _
    rw [z_up_ne (by omega), zu_ap, z_up_ne (by omega), z_up_ne (by omega)]
    by_cases e : s = n
    · rw [if_pos ⟨rfl, e⟩, e, q3]
    · rw [if_neg (fun q => e q.2), gS_o (Or.inl e)]; exact (H.2.2.1 s (by omega)).2.2
  · rw [gS_o (Or.inr (by omega)), gS_o (Or.inr (by omega)), z_up_ne (by omega), z_up_ne (by omega), z_up_ne (by omega), z_up_ne (by omega), z_up_ne (by omega), z_up_ne (by omega), z_up_ne (by omega), z_up_ne (by omega)]; exact H.2.2.2 r hr
  · rw [zu_ni _ _ hj, z_up_ne (by omega), z_up_ne (by omega), z_up_ne (by omega)]
  · rw [z_up_ne (by omega), z_up_ne (by omega), z_up_ne (by omega), z_up_ne (by omega)]
theorem c_addR_1 {d : Nat} {h : zH} {g : zHl} {n k : Nat} (H : zHil h 1 g n k) (hk : k < 5) {a b : Int32} : ∃ h', zcal (d + 2) 23 [.ref 1, .int a, .int b] h = some (some (.int (nI k)), h') ∧ zHil h' 1 (gR g k a b) n (k + 1) ∧ (∀ j, j ≠ 6 → h' 1 j = h 1 j) ∧ ∀ c, (c < 1 ∨ 6 < c) → h' c = h c := by
  obtain ⟨q1, q2⟩ := gR_n (g := g) (k := k) (a := a) (b := b)
  refine ⟨z_up (z_up (z_up h 5 k a) 6 k b) 1 6 (nI k + 1), ?_, ⟨?_, by rw [zu_eq, nI_1], fun s hs => ?_, fun r hr => ⟨?_, ?_⟩⟩, fun j hj => ?_, fun c hc => ?_⟩
  · rw [E23_1, H.2.1, c_put (n := 5) rfl (by omega), zCv_some, pt_nI hk (by omega), z_up_ne (by omega), H.2.1, c_put (n := 5) rfl (by omega), zCv_some, pt_nI hk (by omega), z_up_ne (by omega), z_up_ne (by omega), H.2.1, nI_p1]
  · rw [zu_ni _ _ (by omega), z_up_ne (by omega), z_up_ne (by omega)]; exact H.1
  · rw [gR_o (Or.inr (by omega)), gR_o (Or.inr (by omega)), gR_o (Or.inr (by omega))]
    have e : ∀ c, c = 1 + 1 ∨ c = 1 + 2 ∨ c = 1 + 3 → z_up (z_up (z_up h 5 k a) 6 k b) 1 6 (nI k + 1) c = h c := fun c hc => by rw [z_up_ne (by omega), z_up_ne (by omega), z_up_ne (by omega)]
    rw [e _ (by omega), e _ (by omega), e _ (by omega)]; exact H.2.2.1 s hs
  · show z_up _ 1 6 _ 5 r = _
    rw [z_up_ne (by omega), z_up_ne (by omega), zu_ap]
    by_cases e : r = k
    · rw [if_pos ⟨rfl, e⟩, e, q1]
    · rw [if_neg (fun q => e q.2), gR_o (Or.inl e)]; exact (H.2.2.2 r (by omega)).1
  · show z_up _ 1 6 _ 6 r = _
    rw [z_up_ne (by omega), zu_ap, z_up_ne (by omega)]
    by_cases e : r = k
    · rw [if_pos ⟨rfl, e⟩, e, q2]
    · rw [if_neg (fun q => e q.2), gR_o (Or.inl e)]; exact (H.2.2.2 r (by omega)).2
  · rw [zu_ni _ _ hj, z_up_ne (by omega), z_up_ne (by omega)]
  · rw [z_up_ne (by omega), z_up_ne (by omega), z_up_ne (by omega)]
theorem c_addS_7 {d : Nat} {h : zH} {g : zHl} {n k : Nat} (H : zHil h 7 g n k) (hn : n < 10) {a b : Int32} : ∃ h', zcal (d + 2) 21 [.ref 7, .int a, .int b] h = some (some (.int (nI n)), h') ∧ zHil h' 7 (gS g n a b) (n + 1) k ∧ (∀ j, j ≠ 5 → h' 7 j = h 7 j) ∧ ∀ c, (c < 7 ∨ 10 < c) → h' c = h c := by
  obtain ⟨q1, q2, q3⟩ := gS_n (g := g) (n := n) (a := a) (b := b)
  refine ⟨z_up (z_up (z_up (z_up h 8 n a) 9 n b) 10 n (-9)) 7 5 (nI n + 1), ?_, ⟨by rw [zu_eq, nI_1], ?_, fun s hs => ⟨?_, ?_, ?_⟩, fun r hr => ?_⟩, fun j hj => ?_, fun c hc => ?_⟩
  · rw [E21_7, H.1, c_put (n := 10) rfl (by omega), zCv_some, pt_nI hn (by omega), z_up_ne (by omega), H.1, c_put (n := 10) rfl (by omega), zCv_some, pt_nI hn (by omega), z_up_ne (by omega), z_up_ne (by omega), H.1, c_put (n := 10) rfl (by omega), zCv_some, pt_nI hn (by omega), z_up_ne (by omega), z_up_ne (by omega), z_up_ne (by omega), H.1, nI_p1]
  · rw [zu_ni _ _ (by omega), z_up_ne (by omega), z_up_ne (by omega), z_up_ne (by omega)]; exact H.2.1
  · show z_up _ 7 5 _ 8 s = _
    rw [z_up_ne (by omega), z_up_ne (by omega), z_up_ne (by omega), zu_ap]
    by_cases e : s = n
    · rw [if_pos ⟨rfl, e⟩, e, q1]
    · rw [if_neg (fun q => e q.2), gS_o (Or.inl e)]; exact (H.2.2.1 s (by omega)).1
  · show z_up _ 7 5 _ 9 s = _
    rw [z_up_ne (by omega), z_up_ne (by omega), zu_ap, z_up_ne (by omega)]
    by_cases e : s = n
    · rw [if_pos ⟨rfl, e⟩, e, q2]
    · rw [if_neg (fun q => e q.2), gS_o (Or.inl e)]; exact (H.2.2.1 s (by omega)).2.1
  · show z_up _ 7 5 _ 10 s = _
    rw [z_up_ne (by omega), zu_ap, z_up_ne (by omega), z_up_ne (by omega)]
    by_cases e : s = n
    · rw [if_pos ⟨rfl, e⟩, e, q3]
    · rw [if_neg (fun q => e q.2), gS_o (Or.inl e)]; exact (H.2.2.1 s (by omega)).2.2
  · rw [gS_o (Or.inr (by omega)), gS_o (Or.inr (by omega)), z_up_ne (by omega), z_up_ne (by omega), z_up_ne (by omega), z_up_ne (by omega), z_up_ne (by omega), z_up_ne (by omega), z_up_ne (by omega), z_up_ne (by omega)]; exact H.2.2.2 r hr
  · rw [zu_ni _ _ hj, z_up_ne (by omega), z_up_ne (by omega), z_up_ne (by omega)]
  · rw [z_up_ne (by omega), z_up_ne (by omega), z_up_ne (by omega), z_up_ne (by omega)]
theorem c_addR_7 {d : Nat} {h : zH} {g : zHl} {n k : Nat} (H : zHil h 7 g n k) (hk : k < 5) {a b : Int32} : ∃ h', zcal (d + 2) 23 [.ref 7, .int a, .int b] h = some (some (.int (nI k)), h') ∧ zHil h' 7 (gR g k a b) n (k + 1) ∧ (∀ j, j ≠ 6 → h' 7 j = h 7 j) ∧ ∀ c, (c < 7 ∨ 12 < c) → h' c = h c := by
  obtain ⟨q1, q2⟩ := gR_n (g := g) (k := k) (a := a) (b := b)
  refine ⟨z_up (z_up (z_up h 11 k a) 12 k b) 7 6 (nI k + 1), ?_, ⟨?_, by rw [zu_eq, nI_1], fun s hs => ?_, fun r hr => ⟨?_, ?_⟩⟩, fun j hj => ?_, fun c hc => ?_⟩
  · rw [E23_7, H.2.1, c_put (n := 5) rfl (by omega), zCv_some, pt_nI hk (by omega), z_up_ne (by omega), H.2.1, c_put (n := 5) rfl (by omega), zCv_some, pt_nI hk (by omega), z_up_ne (by omega), z_up_ne (by omega), H.2.1, nI_p1]
  · rw [zu_ni _ _ (by omega), z_up_ne (by omega), z_up_ne (by omega)]; exact H.1
  · rw [gR_o (Or.inr (by omega)), gR_o (Or.inr (by omega)), gR_o (Or.inr (by omega))]
    have e : ∀ c, c = 7 + 1 ∨ c = 7 + 2 ∨ c = 7 + 3 → z_up (z_up (z_up h 11 k a) 12 k b) 7 6 (nI k + 1) c = h c := fun c hc => by rw [z_up_ne (by omega), z_up_ne (by omega), z_up_ne (by omega)]
    rw [e _ (by omega), e _ (by omega), e _ (by omega)]; exact H.2.2.1 s hs
  · show z_up _ 7 6 _ 11 r = _
    rw [z_up_ne (by omega), z_up_ne (by omega), zu_ap]
    by_cases e : r = k
    · rw [if_pos ⟨rfl, e⟩, e, q1]
    · rw [if_neg (fun q => e q.2), gR_o (Or.inl e)]; exact (H.2.2.2 r (by omega)).1
  · show z_up _ 7 6 _ 12 r = _
    rw [z_up_ne (by omega), zu_ap, z_up_ne (by omega)]
    by_cases e : r = k
    · rw [if_pos ⟨rfl, e⟩, e, q2]
    · rw [if_neg (fun q => e q.2), gR_o (Or.inl e)]; exact (H.2.2.2 r (by omega)).2
  · rw [zu_ni _ _ hj, z_up_ne (by omega), z_up_ne (by omega)]
  · rw [z_up_ne (by omega), z_up_ne (by omega), z_up_ne (by omega)]
theorem r_addS {d : Nat} {h : zH} {g : zHl} {n k : Nat} (H : zHr h g n k) (hn : n < 10) {a b : Int32} : ∃ h', zcal (d + 1) 137 [.ref 32, .int a, .int b] h = some (none, h') ∧ zHr h' (gS g n a b) (n + 1) k ∧ (∀ j, j ≠ 6 → h' 32 j = h 32 j) ∧ ∀ c, c ≠ 32 → (c < 34 ∨ 36 < c) → h' c = h c := by
  obtain ⟨q1, q2, q3⟩ := gS_n (g := g) (n := n) (a := a) (b := b)
  refine ⟨z_up (z_up (z_up (z_up h 34 n a) 35 n b) 36 n (-9)) 32 6 (nI n + 1), ?_, ⟨by rw [zu_eq, nI_1], ?_, fun s hs => ⟨?_, ?_, ?_⟩, fun r hr => ?_⟩, fun j hj => ?_, fun c hc hc2 => ?_⟩
  · rw [E137_32, H.1, zG_nI (by omega) (by omega), zG_nI (by omega) (by omega), zG_nI (by omega) (by omega), nI_tn (by omega)]
  · rw [zu_ni _ _ (by omega), z_up_ne (by omega), z_up_ne (by omega), z_up_ne (by omega)]; exact H.2.1
  · rw [z_up_ne (by omega), z_up_ne (by omega), z_up_ne (by omega), zu_ap]
    by_cases e : s = n
    · rw [if_pos ⟨rfl, e⟩, e, q1]
    · rw [if_neg (fun q => e q.2), gS_o (Or.inl e)]; exact (H.2.2.1 s (by omega)).1
  · rw [z_up_ne (by omega), z_up_ne (by omega), zu_ap, z_up_ne (by omega)]
    by_cases e : s = n
    · rw [if_pos ⟨rfl, e⟩, e, q2]
    · rw [if_neg (fun q => e q.2), gS_o (Or.inl e)]; exact (H.2.2.1 s (by omega)).2.1
  · rw [z_up_ne (by omega), zu_ap, z_up_ne (by omega), z_up_ne (by omega)]
    by_cases e : s = n
    · rw [if_pos ⟨rfl, e⟩, e, q3]
    · rw [if_neg (fun q => e q.2), gS_o (Or.inl e)]; exact (H.2.2.1 s (by omega)).2.2
  · rw [gS_o (Or.inr (by omega)), gS_o (Or.inr (by omega)), z_up_ne (by omega), z_up_ne (by omega), z_up_ne (by omega), z_up_ne (by omega), z_up_ne (by omega), z_up_ne (by omega), z_up_ne (by omega), z_up_ne (by omega)]; exact H.2.2.2 r hr
  · rw [zu_ni _ _ hj, z_up_ne (by omega), z_up_ne (by omega), z_up_ne (by omega)]
  · rw [z_up_ne (by omega), z_up_ne (by omega), z_up_ne (by omega), z_up_ne (by omega)]
theorem r_addR {d : Nat} {h : zH} {g : zHl} {n k : Nat} (H : zHr h g n k) (hk : k < 5) {a b : Int32} : ∃ h', zcal (d + 1) 139 [.ref 32, .int a, .int b] h = some (none, h') ∧ zHr h' (gR g k a b) n (k + 1) ∧ (∀ j, j ≠ 7 → h' 32 j = h 32 j) ∧ ∀ c, c ≠ 32 → (c < 37 ∨ 38 < c) → h' c = h c := by
  obtain ⟨q1, q2⟩ := gR_n (g := g) (k := k) (a := a) (b := b)
  refine ⟨z_up (z_up (z_up h 37 k a) 38 k b) 32 7 (nI k + 1), ?_, ⟨?_, by rw [zu_eq, nI_1], fun s hs => ?_, fun r hr => ⟨?_, ?_⟩⟩, fun j hj => ?_, fun c hc hc2 => ?_⟩
  · rw [E139_32, H.2.1, zG_nI (by omega) (by omega), zG_nI (by omega) (by omega), nI_tn (by omega)]
  · rw [zu_ni _ _ (by omega), z_up_ne (by omega), z_up_ne (by omega)]; exact H.1
  · rw [gR_o (Or.inr (by omega)), gR_o (Or.inr (by omega)), gR_o (Or.inr (by omega))]
    have e : ∀ c, c = 34 ∨ c = 35 ∨ c = 36 → z_up (z_up (z_up h 37 k a) 38 k b) 32 7 (nI k + 1) c = h c := fun c hc => by rw [z_up_ne (by omega), z_up_ne (by omega), z_up_ne (by omega)]
    rw [e _ (by omega), e _ (by omega), e _ (by omega)]; exact H.2.2.1 s hs
  · rw [z_up_ne (by omega), z_up_ne (by omega), zu_ap]
    by_cases e : r = k
    · rw [if_pos ⟨rfl, e⟩, e, q1]
    · rw [if_neg (fun q => e q.2), gR_o (Or.inl e)]; exact (H.2.2.2 r (by omega)).1
  · rw [z_up_ne (by omega), zu_ap, z_up_ne (by omega)]
    by_cases e : r = k
    · rw [if_pos ⟨rfl, e⟩, e, q2]
    · rw [if_neg (fun q => e q.2), gR_o (Or.inl e)]; exact (H.2.2.2 r (by omega)).2
  · rw [zu_ni _ _ hj, z_up_ne (by omega), z_up_ne (by omega)]
  · rw [z_up_ne (by omega), z_up_ne (by omega), z_up_ne (by omega)]
theorem bOk_mo {n k n' k' : Nat} {f : Nat → Int32} (hn : n ≤ n') (hk : k ≤ k') (b : bOk n k f) : bOk n' k' f := by
  obtain ⟨b1, b2, b3, b4⟩ := b
  refine ⟨b1, b2, b3, fun q => ?_⟩
  obtain ⟨a, ha, e, x, hx, e2⟩ := b4 q
  exact ⟨a, by omega, e, x, by omega, e2⟩
/-- the hill changed, nothing to take back -/
theorem new_rel {h hF : zH} {g g' : zHl} {n k n' k' : Nat} (R : Rel0 g n k h) (C : RelC h) (F : ∀ a, a = 0 ∨ (12 < a ∧ a < 19) ∨ (23 < a ∧ a < 32) ∨ a = 33 ∨ a = 39 ∨ a = 43 ∨ a = 46 → hF a = h a) (F1 : hF 23 1 = h 23 1) (F2 : hF 23 2 = 0) (F3 : hF 32 25 = 0) (F4 : ∀ j, j = 18 ∨ j = 22 ∨ (35 < j ∧ j < 39) ∨ j = 40 → hF 32 j = h 32 j) (RH' : RelH g' n' k' hF) : Rel hF := by
  obtain ⟨RH, RT, RR, RI, RP, RZ⟩ := R
  exact ⟨⟨g', n', k', RH', RelT_mv RT (by rw [F 26 (by omega)]) (F 27 (by omega)) (F 39 (by omega)) (F4 18 (by omega)), RelR_mv RR (by rw [F 28 (by omega)]) (F 29 (by omega)) (F 46 (by omega)) (F4 40 (by omega)), RelI_mv RI (by rw [F 0 (by omega)]) (fun a p q => F a (by omega)) (fun i hi => by rw [F 43 (by omega)]) (F4 22 (by omega)), RelP_0 RP F1 F2 F3, rAt0_mv RZ (fun j p q => F4 j (by omega))⟩, RelC_mv C (F 30 (by omega)) (F 33 (by omega))⟩
theorem sim_stretch {a b : Int32} : zSim 47 165 [.int a, .int b] := by
  intro d h R
  obtain ⟨⟨g, n, k, R0⟩, C⟩ := id R
  have RH := R0.1
  have V := RH.1; have H1 := RH.2.1; have H2 := RH.2.2.1
  have hn := V.1
  by_cases a0 : 0 ≤ a
  · have a0' : ¬ a < 0 := Int32.not_lt.mpr a0
    by_cases a5 : a ≤ 5
    · have a5' : a < 6 := by
        obtain ⟨x, hx, rfl⟩ := nI_num (m := 5) (by omega) a0 a5
        exact nI_lt (b := 6) (by omega) (by omega)
      by_cases b0 : 0 ≤ b
      · by_cases b9 : b ≤ 9
        · have b9' : ¬ b > 9 := Int32.not_lt.mpr b9
          by_cases hn10 : n < 10
          · obtain ⟨x, hx, rfl⟩ := nI_num (m := 5) (by omega) a0 a5
            obtain ⟨y, hy, rfl⟩ := nI_num (m := 9) (by omega) b0 b9
            have H1' : zHil (z_up h 23 2 0) 1 g n k := zHil_mv H1 (by rw [z_up_ne (by omega)]) (by rw [z_up_ne (by omega)]) (fun j p q => z_up_ne (by omega))
            obtain ⟨h1, e1, K1, K2, K3⟩ := c_addS_1 (d := d + 7) H1' hn10 (a := nI x) (b := nI y)
            have H2' : zHr (z_up h1 32 25 0) g n k := zHr_mv H2 (by rw [zu_ni _ _ (by omega), K3 32 (by omega), z_up_ne (by omega)]) (by rw [zu_ni _ _ (by omega), K3 32 (by omega), z_up_ne (by omega)]) (fun a p q => by rw [z_up_ne (by omega), K3 a (by omega), z_up_ne (by omega)])
            obtain ⟨h2, e2, L1, L2, L3⟩ := r_addS (d := d + 8) H2' hn10 (a := nI x) (b := nI y)
            have n10 : ¬ nI n = (10 : Int32) := fun q => by have := (nI_eq (a := n) (b := 10) (by omega) (by omega)).mp q; omega
            refine sim_ok (v := .int (nI n)) (h1 := h1) (h2 := h2) ?_ ?_ ?_
            · rw [E47_0, if_neg a0', if_pos a5', if_pos (show nI y ≥ 0 from b0), if_neg b9', H1.1, if_pos (show nI n < (10 : Int32) from nI_lt (b := 10) hn10 (by omega)), E36_23, zCv_some, e1, zCi_some]
            · rw [E165_32, r_isIn, if_pos ⟨a0, a5⟩, zCi_some, if_neg (by decide), r_bound, if_pos b0, if_pos b9, zCi_some, if_pos rfl, K3 32 (by omega), z_up_ne (by omega), H2.1, if_neg n10, E165_32_at38, if_pos rfl, e2, zCv_some, L1.1, ← nI_1, nI_p1]
            · have c1 : h2 1 = h1 1 := by rw [L3 1 (by omega) (by omega), z_up_ne (by omega)]
              refine new_rel (g' := gS g n (nI x) (nI y)) (n' := n + 1) (k' := k) R0 C (fun a ha => by rw [L3 a (by omega) (by omega), z_up_ne (by omega), K3 a (by omega), z_up_ne (by omega)]) (by rw [L3 23 (by omega) (by omega), z_up_ne (by omega), K3 23 (by omega), zu_ni _ _ (by omega)]) (by rw [L3 23 (by omega) (by omega), z_up_ne (by omega), K3 23 (by omega), zu_eq]) (by rw [L2 25 (by omega), zu_eq]) (fun j hj => by rw [L2 j (by omega), zu_ni _ _ (by omega), K3 32 (by omega), z_up_ne (by omega)]) ⟨zVal_S V hn10 (by omega) (by omega), zHil_mv K1 (by rw [c1]) (by rw [c1]) (fun j p q => by rw [L3 _ (by omega) (by omega), z_up_ne (by omega)]), L1, bOk_mo (by omega) (Nat.le_refl _) (bOk_ex RH.2.2.2.1 (fun i hi => by rw [c1, K2 _ (by omega), z_up_ne (by omega)])), fun i hi => ?_⟩
              rw [c1, K2 _ (by omega), z_up_ne (by omega), L2 _ (by omega), zu_ni _ _ (by omega), K3 32 (by omega), z_up_ne (by omega)]
              exact RH.2.2.2.2 i hi
          · have hn : n = 10 := by omega
            subst hn
            refine sim_rf R (c := -6) (j := 5) (by omega) ?_ ?_
            · rw [E47_0, if_neg a0', if_pos a5', if_pos (show b ≥ 0 from b0), if_neg b9', H1.1, if_neg (show ¬ nI 10 < (10 : Int32) by decide), c_rf6, zCi_some]
            · have e6 : refC h 5 32 6 = nI 10 := by unfold refC; rw [z_up_ne (by omega)]; exact H2.1
              rw [E165_32, r_isIn, if_pos ⟨a0, a5⟩, zCi_some, if_neg (by decide), r_bound, if_pos b0, if_pos b9, zCi_some, if_pos rfl, e6, if_pos (show nI 10 = (10 : Int32) from rfl), E165_32_at38, if_neg (by decide), r_no6, zCi_some]
        · refine sim_rf R (c := -6) (j := 5) (by omega) ?_ ?_
          · rw [E47_0, if_neg a0', if_pos a5', if_pos (show b ≥ 0 from b0), if_pos (Int32.not_le.mp b9), c_rf6, zCi_some]
          · rw [E165_32, r_isIn, if_pos ⟨a0, a5⟩, zCi_some, if_neg (by decide), r_bound, if_pos b0, if_neg b9, zCi_some, if_neg (by decide), E165_32_at38, if_neg (by decide), r_no6, zCi_some]
      · refine sim_rf R (c := -4) (j := 3) (by omega) ?_ ?_
        · rw [E47_0, if_neg a0', if_pos a5', if_neg (show ¬ b ≥ 0 from b0), c_rf4, zCi_some]
        · rw [E165_32, r_isIn, if_pos ⟨a0, a5⟩, zCi_some, if_neg (by decide), r_bound, if_neg b0, zCi_some, if_neg (by decide), E165_32_at38, if_neg (by decide), r_no4, zCi_some]
    · have a5' : ¬ a < 6 := fun q => a5 (by
        rw [Int32.lt_iff_toInt_lt] at q
        rw [Int32.le_iff_toInt_le]
        have t5 : (5 : Int32).toInt = 5 := by decide
        have t6 : (6 : Int32).toInt = 6 := by decide
        omega)
      refine sim_rf R (c := -2) (j := 1) (by omega) ?_ ?_
      · rw [E47_0, if_neg a0', if_neg a5', c_rf2, zCi_some]
      · rw [E165_32, r_isIn, if_neg (fun q => a5 q.2), zCi_some, if_pos rfl, if_neg (by decide), E165_32_at38, if_neg (by decide), r_no2, zCi_some]
  · refine sim_rf R (c := -2) (j := 1) (by omega) ?_ ?_
    · rw [E47_0, if_pos (Int32.not_le.mp a0), c_rf2, zCi_some]
    · rw [E165_32, r_isIn, if_neg (fun q => a0 q.1), zCi_some, if_pos rfl, if_neg (by decide), E165_32_at38, if_neg (by decide), r_no2, zCi_some]

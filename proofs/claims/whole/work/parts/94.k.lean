/-! THE WORLD AT THE LAW'S LOOP -/
def kFT (j : Nat) : Int32 := if j = 7 then -9 else 0
def kFR (j : Nat) : Int32 := if j = 8 then 9 else if j = 10 then 9 else if j = 11 then -9 else if j = 12 then 1 else if j = 36 then -9 else if j = 37 then -9 else 0
def kHI (xs : Nat → Int32) (L : Nat) : zH := fun a => if a = 1 ∨ a = 7 ∨ a = 13 then kF1 else if a = 19 then kFT else if a = 22 then kHT1 22 else if a = 32 then kFR else if a = 100 then xs else if a = 101 then (fun _ => nI L) else fun _ => 0
theorem kHI_0 {xs : Nat → Int32} {L a : Nat} (h : a ≠ 1 ∧ a ≠ 7 ∧ a ≠ 13 ∧ a ≠ 19 ∧ a ≠ 22 ∧ a ≠ 32 ∧ a ≠ 100 ∧ a ≠ 101) : kHI xs L a = fun _ => 0 := by
  unfold kHI
  rw [if_neg (by omega), if_neg (by omega), if_neg (by omega), if_neg (by omega), if_neg (by omega), if_neg (by omega)]
theorem kHI_1 {xs : Nat → Int32} {L : Nat} : kHI xs L 1 = kF1 := rfl
theorem kHI_32 {xs : Nat → Int32} {L : Nat} : kHI xs L 32 = kFR := rfl
theorem kHI_100 {xs : Nat → Int32} {L : Nat} : kHI xs L 100 = xs := rfl
theorem kHI_101 {xs : Nat → Int32} {L : Nat} : kHI xs L 101 0 = nI L := rfl
theorem rel_ini {xs : Nat → Int32} {L : Nat} : Rel (kHI xs L) := by
  have z : ∀ a, a ≠ 1 ∧ a ≠ 7 ∧ a ≠ 13 ∧ a ≠ 19 ∧ a ≠ 22 ∧ a ≠ 32 ∧ a ≠ 100 ∧ a ≠ 101 → ∀ j, kHI xs L a j = 0 := fun a ha j => by rw [kHI_0 ha]
  refine ⟨⟨fun _ _ => 0, 0, 0, ⟨⟨by omega, by omega, fun s hs => absurd hs (by omega), fun r hr => absurd hr (by omega)⟩, ⟨rfl, rfl, fun s hs => absurd hs (by omega), fun r hr => absurd hr (by omega)⟩, ⟨rfl, rfl, fun s hs => absurd hs (by omega), fun r hr => absurd hr (by omega)⟩, ⟨?_, ?_, ⟨0, by omega, rfl⟩, fun q => absurd (show (1 : Int32) = 0 from q) (by decide)⟩, fun i hi => ?_⟩, ⟨0, by omega, z 26 (by omega) 1, rfl, fun j hj => absurd hj (by omega)⟩, ⟨0, by omega, z 28 (by omega) 1, rfl, fun j hj => absurd hj (by omega)⟩, ⟨?_, Or.inl (z 0 (by omega) 3)⟩, ⟨0, 0, by omega, by omega, z 23 (by omega) 1, z 23 (by omega) 2, rfl, fun j hj => absurd hj (by omega)⟩, rfl, rfl, rfl⟩, fun j hj => by rw [z 33 (by omega), z 30 (by omega)]⟩
  · show zIn (9 : Int32) 0 99
    unfold zIn
    decide
  · show zIn (9 : Int32) 0 99
    unfold zIn
    decide
  · rcases (show i = 0 ∨ i = 1 ∨ i = 2 ∨ i = 3 ∨ i = 4 ∨ i = 5 by omega) with rfl | rfl | rfl | rfl | rfl | rfl <;> rfl
  · rw [z 0 (by omega)]; rfl
/-- the law's loop runs to its end, on the picture machine -/
theorem law_zev {xs : Nat → Int32} {L : Nat} (hL : L ≤ 2560) : ∃ h' n, zev (zcal 10) 228 n (18, [some (.ref 100), some (.ref 0), some (.ref 32), some (.int 0)], [], kHI xs L) = some (some (.int 1), h') := by
  obtain ⟨h', e⟩ := lw_loop (L + 1) 0 (kHI xs L) L 0 (by omega) rel_ini kHI_101 (by omega) (by omega)
  have e : zE 10 228 (18, [some (.ref 100), some (.ref 0), some (.ref 32), some (.int 0)], [], kHI xs L) = some (some (.int 1), h') := e
  obtain ⟨n, hn⟩ := zEv_some e
  exact ⟨h', n, hn⟩
abbrev kPl : List Nat := [0, 1, 2, 3, 4, 5, 6, 7, 8, 9, 10, 11, 12, 13, 14, 15, 16, 17, 18, 19, 20, 21, 22, 23, 24, 25, 26, 27, 28, 29, 30, 31, 32, 33, 34, 35, 36, 37, 38, 39, 40, 41, 42, 43, 44, 45, 46, 47]
theorem kPl_nd : zNd kPl := kNd _ (by decide)
theorem kPl_cl : zClo (fun a => a ∈ kPl ∨ a = 100) := kClo_ok (by decide) rfl
set_option maxHeartbeats 4000000 in
set_option maxRecDepth 100000 in
/-- the law's loop on the machine -/
theorem law_run {p : Program} {e : Env} {s : State} {m : MethodId} {below : List Frame} {meth : Method} {c : Code} (l : Launch) {b L : Nat} {xs : Nat → Int32} (hL : L ≤ 2560) (C0 : lw_At p s m meth c b L xs) {D : va_G} {cA : ClassId} (hK : va_K D zcl [(cA, .int)] s) (hN : ∀ w ∈ zNw, va_Nw w s) {ad : Nat → Nat} (had : ad 100 = b) {H : Heap} {locs : List Loc} {cells slots : Nat} (hc : cells ≤ 600000) (hs : slots ≤ 7302250) (hP : va_P D zcl (zWl kPl ad cA (kHI xs L)) H) (hD : va_D (fun q : Nat => s.heap.size ≤ q) (zWl kPl ad cA (kHI xs L))) (hS : va_S (fun q : Nat => s.heap.size ≤ q) s.heap H locs) {ls : Array Slot} (hl : lv_has ls 4 [(3, .int 0), (2, .ref (ad 32)), (1, .ref (ad 0)), (0, .ref b)]) :
    W p l e room_1 s m #[Value.ref b] below meth c H locs cells slots (lw_Z below #[Value.ref b] s) (F0 m 18 ls []) := by
  obtain ⟨hx, hb, hr, hml, hown, hts, hX, hbl, hlocks, hgv⟩ := id C0
  obtain ⟨h', n, hn⟩ := law_zev (xs := xs) hL
  have C : zCx p s m #[Value.ref b] meth c D cA (fun q : Nat => s.heap.size ≤ q) zLaw := ⟨hx, hb, hml, hown, fun w hw => hts w (zBig_sub w hw), hN, hK, fun q hq => hq, zDec_law, hr⟩
  refine W.widen (k := 600000) (n := 7302250) hc hs ?_
  have hRf : zRf (fun a => a ∈ kPl ∨ a = 100) ((18, [some (.ref 100), some (.ref 0), some (.ref 32), some (.int 0)], [], kHI xs L) : zF) := by
    refine ⟨fun i v hv => ?_, fun v hv => by cases hv⟩
    match i, hv with
    | 0, hv =>
      have hv : v = 100 := by injection hv with hv; injection hv with hv; injection hv with hv; exact hv.symm
      exact Or.inr hv
    | 1, hv =>
      have hv : v = 0 := by injection hv with hv; injection hv with hv; injection hv with hv; exact hv.symm
      subst hv
      exact Or.inl (by decide)
    | 2, hv =>
      have hv : v = 32 := by injection hv with hv; injection hv with hv; injection hv with hv; exact hv.symm
      subst hv
      exact Or.inl (by decide)
    | 3, hv => injection hv with hv; injection hv with hv; cases hv
    | i + 4, hv => cases hv
  have run := z_run (p := p) (l := l) (e := e) (R := room_1) (below := below) (ad := ad) (cells := 600000) (slots := 7302250) (d := 10) (r := (some (.int 1), h')) (Q := lw_Z below #[Value.ref b] s) C kPl_nd kPl_cl ⟨Nat.le_of_ble_eq_true rfl, Nat.le_of_ble_eq_true rfl⟩ (fun m2 as h r hz hrs => ⟨zcal_keep _ _ _ _ _ hz, by
    by_cases hm2 : m2 = mMath_max ∨ m2 = mMath_min
    · rw [zcal, if_pos hm2] at hz
      exact Or.inl ⟨hm2, hz, Nat.le_of_ble_eq_true rfl, Nat.le_of_ble_eq_true rfl⟩
    · obtain ⟨g1, g2⟩ := z_met l kPl_nd kPl_cl 9 m2 as h r hz hm2 hrs
      exact Or.inr ⟨9, g1, g2, Nat.le_of_ble_eq_true rfl, Nat.le_of_ble_eq_true rfl⟩⟩) (fun pc pl H locs ls hi hw => by
    refine va_forget (fun q hq => hw.2.2.1.2.2 q hq) ?_
    exact lw_ret hx hb hr hlocks (zAt_dec1 zDec_law hi.1 rfl)) n (18, [some (.ref 100), some (.ref 0), some (.ref 32), some (.int 0)], [], kHI xs L) hn hRf
  have nL : (nI L).toNatClampNeg = L := nI_tn (by omega)
  refine run H locs ls ⟨hP, hD, hS, fun _ => ?_⟩ ⟨hl.1, hl.2.1, fun i v hv => ?_⟩ (fun _ i v hv => ?_)
  · show va_X (ad 100) (kHI xs L 101 0).toNatClampNeg (kHI xs L 100) s s.heap ∧ ad 100 < s.heap.size ∧ ¬ s.heap.size ≤ ad 100 ∧ Int32.ofNat (kHI xs L 101 0).toNatClampNeg = kHI xs L 101 0
    rw [kHI_100, kHI_101, nL, had]
    exact ⟨hX, hbl, Nat.not_le.mpr hbl, rfl⟩
  · match i, hv with
    | 0, hv => injection hv with hv; injection hv with hv; subst hv; show ls[0]? = some (.val (.ref (ad 100))); rw [had]; exact hl.2.2 (0, .ref b) (by simp)
    | 1, hv => injection hv with hv; injection hv with hv; subst hv; exact hl.2.2 (1, .ref (ad 0)) (by simp)
    | 2, hv => injection hv with hv; injection hv with hv; subst hv; exact hl.2.2 (2, .ref (ad 32)) (by simp)
    | 3, hv => injection hv with hv; injection hv with hv; subst hv; exact hl.2.2 (3, .int 0) (by simp)
    | i + 4, hv => cases hv
  · match i, hv with
    | 0, hv => injection hv with hv; injection hv with hv; subst hv; rfl
    | 1, hv => injection hv with hv; injection hv with hv; subst hv; rfl
    | 2, hv => injection hv with hv; injection hv with hv; subst hv; rfl
    | 3, hv => injection hv with hv; injection hv with hv; subst hv; rfl
    | i + 4, hv => cases hv

/-! WHAT WOULD BE: OTHER STARTS, A BRAKE -/
theorem z_loopE {σ X : Type} {S : σ → Nat → zH → X} {F : Nat → σ → σ} {s0 : σ} {N : Nat} {I : zH → Prop} (hs : ∀ i h, i < N → I h → ∃ h', S (zfo F s0 i) i h = S (zfo F s0 (i + 1)) (i + 1) h' ∧ I h') {h : zH} (h0 : I h) : ∃ h', S s0 0 h = S (zfo F s0 N) N h' ∧ I h' := by
  have : ∀ i, i ≤ N → ∃ h', S s0 0 h = S (zfo F s0 i) i h' ∧ I h' := by
    intro i
    induction i with
    | zero => intro _; exact ⟨h, rfl, h0⟩
    | succ i ih =>
      intro hi
      obtain ⟨h1, e1, I1⟩ := ih (by omega)
      obtain ⟨h2, e2, I2⟩ := hs i h1 (by omega) I1
      exact ⟨h2, e1.trans e2, I2⟩
  exact this N (Nat.le_refl _)
/-- the ride's end from such a start -/
def eN (g : zHl) (n k : Nat) (st : Int32) : zQ := rJ g n rF rF rF (rQ0 n k st 0) 10
def eB (g : zHl) (n k i : Nat) (st : Int32) : zQ := rJ g n (fun s => decide (s = i)) rF rF (rQ0 n k st 0) 10
theorem rJ_le {g : zHl} {n k : Nat} {b u w : Nat → Bool} {q0 : zQ} (V : zVal g n k) (h0 : rGo n k q0 0) (hz : q0.1 = 0) : ∀ i, (rJ g n b u w q0 i).1 ≤ n := by
  intro i
  induction i with
  | zero => show q0.1 ≤ n; omega
  | succ i ih =>
    by_cases hm : (rJ g n b u w q0 i).2.2.2 = 0
    · have hs := (rJ_go V h0 i hm)
      rw [rJ_next hm]
      rcases s_nx_at (g := g) (n := n) (w := w) (s := (rJ g n b u w q0 i).1) (v := rV g n b u w q0 i) (r := rR g n b u w q0 i) with e | e
      · rw [e]; exact ih
      · rw [e]; have := hs.1; have := hs.2.1; omega
    · rw [rJ, if_neg hm]; exact ih
theorem eN_le {g : zHl} {n k : Nat} {st : Int32} (V : zVal g n k) : (eN g n k st).1 ≤ n := rJ_le V q_go rfl 10
theorem eB_le {g : zHl} {n k i : Nat} {st : Int32} (V : zVal g n k) : (eB g n k i st).1 ≤ n := rJ_le V q_go rfl 10
theorem r_184 {d : Nat} {h : zH} {g : zHl} {n k : Nat} (R : Rel0 g n k h) {x : Int32} (hx : zIn x 0 99) : ∃ h', zcal (d + 5) 184 [.ref 32, .int x] h = some (some (.int (nI (eN g n k x).1)), h') ∧ h' 32 31 = (eN g n k x).2.2.2 ∧ rfF h h' := by
  unfold eN
  obtain ⟨z1, z2, z3⟩ := R.2.2.2.2.2
  have H : zHr (z_up h 32 8 x) g n k := zHr_mv R.1.2.2.1 (zu_ni _ _ (by omega)) (zu_ni _ _ (by omega)) (fun a p q => z_up_ne (by omega))
  have e8 : z_up h 32 8 x 32 8 = x := zu_eq _ _ _ _
  obtain ⟨h1, e1, J, G⟩ := r_rides (d := d) (b := rF) (u := rF) (w := rF) H R.1.1 (by rw [e8]; exact hx) (fun s hs => ⟨fun q => by rw [zu_ni _ _ (by omega), z1] at q; exact absurd q.symm (nI_m9 hs), fun q => by cases q⟩) (fun s hs => ⟨fun q => by rw [zu_ni _ _ (by omega), z2] at q; exact absurd q.symm (nI_m9 hs), fun q => by cases q⟩) (fun s hs => ⟨fun q => by rw [zu_ni _ _ (by omega), z3] at q; exact absurd q (bit0 hs), fun q => by cases q⟩)
  rw [e8] at e1 J
  refine ⟨z_up h1 32 8 (h 32 8), by rw [E184_32, e1, zCi_some], by rw [zu_ni _ _ (by omega)]; exact J.2.2.2.2.2.2.2.2.1, fun a q1 q2 q3 => by rw [z_up_ne q1, G.1 a q1 q2 q3, z_up_ne q1], fun j hj => ?_⟩
  by_cases e : j = 8
  · rw [e, zu_eq]
  · rw [zu_ni _ _ e, G.2 j hj, zu_ni _ _ e]
theorem r_br {d : Nat} {h : zH} {g : zHl} {n k : Nat} (R : Rel0 g n k h) {i : Nat} (hi : i < 10) : ∃ h', zcal (d + 4) 176 [.ref 32] (z_up h 32 36 (nI i)) = some (some (.int (nI (eB g n k i (h 1 7)).1)), h') ∧ rfF h (z_up h' 32 36 (-9)) := by
  unfold eB
  obtain ⟨z1, z2, z3⟩ := R.2.2.2.2.2
  have s8 : h 32 8 = h 1 7 := R.1.2.2.2.2 0 (by omega)
  have H : zHr (z_up h 32 36 (nI i)) g n k := zHr_mv R.1.2.2.1 (zu_ni _ _ (by omega)) (zu_ni _ _ (by omega)) (fun a p q => z_up_ne (by omega))
  have e8 : z_up h 32 36 (nI i) 32 8 = h 1 7 := by rw [zu_ni _ _ (by omega), s8]
  obtain ⟨h1, e1, J, G⟩ := r_rides (d := d) (b := fun s => decide (s = i)) (u := rF) (w := rF) H R.1.1 (by rw [e8]; exact R.1.2.2.2.1.1) (fun s hs => by
    rw [zu_eq]
    exact ⟨fun q => decide_eq_true ((nI_eq (by omega) (by omega)).mp q).symm, fun q => by rw [of_decide_eq_true q]⟩) (fun s hs => ⟨fun q => by rw [zu_ni _ _ (by omega), z2] at q; exact absurd q.symm (nI_m9 hs), fun q => by cases q⟩) (fun s hs => ⟨fun q => by rw [zu_ni _ _ (by omega), z3] at q; exact absurd q (bit0 hs), fun q => by cases q⟩)
  rw [e8] at e1 J
  refine ⟨h1, e1, fun a q1 q2 q3 => by rw [z_up_ne q1, G.1 a q1 q2 q3, z_up_ne q1], fun j hj => ?_⟩
  by_cases e : j = 36
  · rw [e, zu_eq, z1]
  · rw [zu_ni _ _ e, G.2 j hj, zu_ni _ _ e]
theorem c_br {d : Nat} {h : zH} {g : zHl} {n k : Nat} (H : zHil h 7 g n k) (V : zVal g n k) {i : Nat} (hi : i < 10) : ∃ h', zcal (d + 4) 62 [.ref 19, .ref 7, .int 0, .int (nI i), .int (-1), .int 0] h = some (none, h') ∧ rInv g n k (fun s => decide (s = i)) rF rF (rQ0 n k (h 7 7) 0) (h 7 7) 10 h' ∧ zFr zMT h h' := by
  obtain ⟨h', e, I⟩ := c_run (d := d) (b := fun s => decide (s = i)) (u := rF) (w := rF) H V (x2 := 0) (x3 := nI i) (x4 := -1) (x5 := 0) (by
    rcases f0 (k := k) with q | q
    · exact Or.inl q
    · exact Or.inr ⟨q, rfl⟩) (fun s hs => ⟨fun q => decide_eq_true ((nI_eq (by omega) (by omega)).mp q), fun q => by rw [of_decide_eq_true q]⟩) (fun s hs => ⟨fun q => absurd q (nI_m1 hs), fun q => by cases q⟩) (fun s hs => ⟨fun q => absurd q (bit0 hs), fun q => by cases q⟩)
  refine ⟨h', e, I, zcal_fr zMT_clo _ _ _ _ _ e (fun v hv => ?_)⟩
  simp at hv
  rcases hv with rfl | rfl
  · exact Or.inr ⟨by omega, by omega⟩
  · exact Or.inl ⟨by omega, by omega⟩
/-- the farther of them -/
def fF (e : Nat → Nat) (i : Nat) (acc : Option Nat × Nat) : Option Nat × Nat := if acc.2 < e i then (some i, e i) else acc
theorem fF_p {r : Nat → Nat} {i : Nat} {acc : Option Nat × Nat} (h : acc.2 < r i) : fF r i acc = (some i, r i) := if_pos h
theorem fF_n {r : Nat → Nat} {i : Nat} {acc : Option Nat × Nat} (h : ¬ acc.2 < r i) : fF r i acc = acc := if_neg h
theorem fF_le {r : Nat → Nat} {m e0 : Nat} (h0 : e0 ≤ m) (hr : ∀ i, r i ≤ m) : ∀ i, (zfo (fF r) (none, e0) i).2 ≤ m := by
  intro i
  induction i with
  | zero => exact h0
  | succ i ih =>
    rw [zfo]
    by_cases q : (zfo (fF r) (none, e0) i).2 < r i
    · rw [fF_p q]; exact hr i
    · rw [fF_n q]; exact ih
theorem sim_brake : zSim 111 218 [] := by
  intro d h R
  obtain ⟨⟨g, n, k, R0⟩, C⟩ := id R
  have V := R0.1.1
  have hn := V.1
  obtain ⟨h1, e1, I, F, R1, C1, s1⟩ := cls_now (e := d + 3) R0 C
  have el := fun i => eB_le (i := i) (st := h 1 7) V
  have e0 := eN_le (st := h 1 7) V
  have fl := fF_le (r := fun i => (eB g n k i (h 1 7)).1) e0 el
  have ei0 : h1 7 8 = nI (eN g n k (h 1 7)).1 := I.2.2.1
  have ey0 : ∀ (d : Nat) (x : zH), zHil x 7 g n k → x 7 7 = h 1 7 → ∀ i, i < 10 → ∃ y, zcal (d + 4) 62 [.ref 19, .ref 7, .int 0, .int (nI i), .int (-1), .int 0] x = some (none, y) ∧ y 7 8 = nI (eB g n k i (h 1 7)).1 ∧ zHil y 7 g n k ∧ y 7 7 = h 1 7 ∧ zFr zMT x y := fun d x x1 x2 i hi => by
    obtain ⟨y, ey, Iy, Fy⟩ := c_br (d := d) x1 V hi
    rw [x2] at Iy
    exact ⟨y, ey, Iy.2.2.1, Iy.1, Iy.2.1, Fy⟩
  have er0 : ∀ (d : Nat) (x : zH), Rel0 g n k x → x 1 7 = h 1 7 → ∀ i, i < 10 → ∃ y, zcal (d + 4) 176 [.ref 32] (z_up x 32 36 (nI i)) = some (some (.int (nI (eB g n k i (h 1 7)).1)), y) ∧ rfF x (z_up y 32 36 (-9)) := fun d x x1 x2 i hi => by
    obtain ⟨y, ey, Gy⟩ := r_br (d := d) x1 hi
    rw [x2] at ey
    exact ⟨y, ey, Gy⟩
  have en0 : ∀ (d : Nat) (x : zH), Rel0 g n k x → x 1 7 = h 1 7 → ∃ y, zcal (d + 4) 176 [.ref 32] x = some (some (.int (nI (eN g n k (h 1 7)).1)), y) ∧ rfF x y := fun d x x1 x2 => by
    obtain ⟨y, ey, _, Gy⟩ := ref_now (e := d) x1
    rw [x2] at ey
    exact ⟨y, ey, Gy⟩
  generalize he : (fun i => (eB g n k i (h 1 7)).1) = ef at *
  have ed : ∀ i, (eB g n k i (h 1 7)).1 = ef i := fun i => by rw [← he]
  simp only [ed] at ey0 er0 el
  generalize (eN g n k (h 1 7)).1 = z0 at *
  obtain ⟨h2, c1, K1, K2⟩ := z_loopE (S := fun (acc : Option Nat × Nat) i h => zE (d + 9) 111 (17, [some (.ref 0), some (.int (nI acc.2)), some (.int (enc acc.1)), some (.int (nI i))], [], h)) (F := fF ef) (s0 := (none, z0)) (N := n) (I := fun x => (zHil x 7 g n k ∧ x 7 7 = h 1 7) ∧ zFr zMT h x) (fun i x hi hI => by
    obtain ⟨⟨x1, x2⟩, x3⟩ := hI
    obtain ⟨y, ey, iy3, iy1, iy2, Fy⟩ := ey0 (d + 5) x x1 x2 i (by omega)
    have l1 := fl i
    have l2 := el i
    have x5 : x 1 5 = nI n := by rw [x3 1 (zMT_n (by omega))]; exact R0.1.2.1.1
    refine ⟨y, ?_, ⟨iy1, iy2⟩, zFr_tr x3 Fy⟩
    show zE (d + 9) 111 (17, [some (.ref 0), some (.int (nI (zfo (fF ef) (none, z0) i).2)), some (.int (enc (zfo (fF ef) (none, z0) i).1)), some (.int (nI i))], [], x) = zE (d + 9) 111 (17, [some (.ref 0), some (.int (nI (zfo (fF ef) (none, z0) (i + 1)).2)), some (.int (enc (zfo (fF ef) (none, z0) (i + 1)).1)), some (.int (nI (i + 1)))], [], y)
    rw [E111_0_at17, x5, if_neg (nI_ge hi (by omega)), ey, zCv_some, iy3, zfo]
    by_cases q : (zfo (fF ef) (none, z0) i).2 < (ef i)
    · rw [if_neg (Int32.not_le.mpr (nI_lt q (by omega))), fF_p q, nI_1]
      rfl
    · rw [if_pos (nI_le (by omega) (by omega)), fF_n q, nI_1]) (h := h1) ⟨⟨I.1, I.2.1⟩, F⟩
  have R2 := Rel0_mv R0 (zPers_mt K2)
  have C2 := RelC_mt C K2
  have s2 : h2 1 7 = h 1 7 := by rw [K2 1 (zMT_n (by omega))]
  obtain ⟨h3, e3, G⟩ := en0 (d + 5) h2 R2 s2
  have lp : ∀ m i x (x4 : Option Value), i + m = n → rfF h2 x → ∃ y, zE (d + 9) 218 (10, [some (.ref 32), some (.int (enc (zfo (fF ef) (none, z0) i).1)), some (.int (nI (zfo (fF ef) (none, z0) i).2)), some (.int (nI i)), x4], [], x) = some (some (.int (enc (zfo (fF ef) (none, z0) n).1)), y) ∧ rfF h2 y := by
    intro m
    induction m with
    | zero =>
      intro i x x4 hi hx
      have hi : i = n := hi
      subst hi
      have x6 : x 32 6 = nI i := by rw [hx.2 6 (by omega)]; exact R2.1.2.2.1.1
      exact ⟨x, by rw [E218_32_at10, x6, if_pos (nI_le (Nat.le_refl _) (by omega))], hx⟩
    | succ m ih =>
      intro i x x4 hi hx
      have Rx := Rel0_mv R2 (zPers_rf2 hx)
      have x6 : x 32 6 = nI n := by rw [hx.2 6 (by omega)]; exact R2.1.2.2.1.1
      have x17 : x 1 7 = h 1 7 := by rw [hx.1 1 (by omega) (by omega) (by omega), s2]
      obtain ⟨y, ey, Gy⟩ := er0 (d + 5) x Rx x17 i (by omega)
      have l1 := fl i
      have l2 := el i
      have st : zfo (fF ef) (none, z0) (i + 1) = fF ef i (zfo (fF ef) (none, z0) i) := rfl
      rw [E218_32_at10, x6, if_neg (nI_ge (by omega) (by omega)), ey, zCi_some]
      by_cases q : (zfo (fF ef) (none, z0) i).2 < (ef i)
      · rw [if_pos (show nI (ef i) > nI (zfo (fF ef) (none, z0) i).2 from nI_lt q (by omega)), nI_1]
        have := ih (i + 1) _ (some (.int (nI (ef i)))) (by omega) (rfF_tr hx Gy)
        rw [st, fF_p q] at this
        exact this
      · rw [if_neg (show ¬ nI (ef i) > nI (zfo (fF ef) (none, z0) i).2 from Int32.not_lt.mpr (nI_le (by omega) (by omega))), nI_1]
        have := ih (i + 1) _ (some (.int (nI (ef i)))) (by omega) (rfF_tr hx Gy)
        rw [st, fF_n q] at this
        exact this
  obtain ⟨h5, e5, G5⟩ := lp n 0 h3 none (by omega) G
  refine sim_ok (v := .int (enc (zfo (fF ef) (none, z0) n).1)) (h1 := h2) (h2 := h5) ?_ ?_ (Rel_of R2 C2 G5)
  · rw [E111_0, e1, zCv_some, ei0]
    refine c1.trans ?_
    have x5 : h2 1 5 = nI n := by rw [K2 1 (zMT_n (by omega))]; exact R0.1.2.1.1
    show zE (d + 9) 111 (17, [some (.ref 0), some (.int (nI _)), some (.int (enc _)), some (.int (nI n))], [], h2) = _
    rw [E111_0_at17, x5, if_pos (nI_le (Nat.le_refl _) (by omega))]
  · rw [E218_32, e3, zCi_some]
    exact e5

/-! THE HEAVIEST -/
def dn (P : Nat → Bool) : Nat → Option Nat
  | 0 => none
  | i + 1 => if P (i + 1) = true then some (i + 1) else dn P i
theorem eN_k0 {g : zHl} {n : Nat} {st : Int32} : (eN g n 0 st).2.2.2 = 1 := by
  unfold eN
  have h := rJ_stay (g := g) (n := n) (b := rF) (u := rF) (w := rF) (q0 := rQ0 n 0 st 0) (i := 0) (by show (1 : Int32) ≠ 0; decide) 10 (by omega)
  rw [h]
  rfl
theorem sim_heaviest : zSim 101 193 [] := by
  intro d h R
  obtain ⟨⟨g, n, k, R0⟩, C⟩ := id R
  have V := R0.1.1
  have hk := V.2.1
  obtain ⟨h1, e1, K1, K7, F1⟩ := c_like (d := d + 6) R0.1.2.1 V
  have hst := R0.1.2.2.2.1.1
  have K1' : zHil h1 7 (gM g 3 0 (g 3 0)) n k := by rw [gM_id]; exact K1
  have cs : ∀ (x : zH) (u : Int32), zHil x 7 (gM g 3 0 u) n k → x 7 7 = h 1 7 → zFr zMT h x → ∀ i, i < 10 → ∃ y, zcal (d + 9) 93 [.ref 19, .ref 7] (z_up x 11 0 (nI i)) = some (some (.int (if (eN (gM g 3 0 (nI i)) n k (h 1 7)).2.2.2 = 3 then 1 else 0)), y) ∧ zHil y 7 (gM g 3 0 (nI i)) n k ∧ y 7 7 = h 1 7 ∧ zFr zMT h y := fun x u x1 x2 x3 i hi => by
    obtain ⟨y, ey, y1, y2, y3⟩ := c_arrG (d := d + 4) (zVal_M (Or.inl rfl) V hi) (zHil_M3 (v := nI i) x1) (st := h 1 7) (by rw [z_up_ne (by omega)]; exact x2)
    exact ⟨y, ey, y1, y2, zFr_tr x3 (zFr_tr (zFr_up (by unfold zMT; omega)) y3)⟩
  have rs : ∀ (x : zH), Rel0 g n k x → x 1 7 = h 1 7 → ∀ i, i < 10 → ∃ y, zcal (d + 9) 194 [.ref 32] (z_up x 37 0 (nI i)) = some (some (.int (if (eN (gM g 3 0 (nI i)) n k (h 1 7)).2.2.2 = 3 then 1 else 0)), y) ∧ rfF x (z_up y 37 0 (x 37 0)) := fun x x1 x2 i hi => by
    obtain ⟨y, ey, G⟩ := r_194 (d := d + 4) (zVal_M (Or.inl rfl) V hi) (zHr_M3 (r0 := 0) (v := nI i) x1.1.2.2.1) (rAt0_mv x1.2.2.2.2.2 (fun j p q => by rw [z_up_ne (by omega)])) (st := h 1 7) (by rw [z_up_ne (by omega)]; exact (x1.1.2.2.2.2 0 (by omega)).trans x2) hst
    refine ⟨y, ey, fun a q1 q2 q3 => ?_, fun j hj => by rw [z_up_ne (by omega), G.2 j hj, z_up_ne (by omega)]⟩
    by_cases e : a = 37
    · subst e
      have : y 37 = z_up x 37 0 (nI i) 37 := G.1 37 q1 q2 q3
      funext j
      rw [zu_ap, this, zu_ap]
      by_cases z : j = 0
      · rw [if_pos ⟨rfl, z⟩, z]
      · rw [if_neg (fun q => z q.2), if_neg (fun q => z q.2)]
    · rw [z_up_ne e, G.1 a q1 q2 q3, z_up_ne e]
  have hk0 : k = 0 → ∀ i : Nat, ¬ (eN (gM g 3 0 (nI i)) n k (h 1 7)).2.2.2 = 3 := fun e i q => by
    rw [e, eN_k0] at q
    exact absurd q (by decide)
  generalize hft : (fun i : Nat => decide ((eN (gM g 3 0 (nI i)) n k (h 1 7)).2.2.2 = 3)) = P
  have Pd : ∀ i : Nat, (if (eN (gM g 3 0 (nI i)) n k (h 1 7)).2.2.2 = 3 then (1 : Int32) else 0) = if P i = true then 1 else 0 := fun i => by
    rw [← hft]
    by_cases q : (eN (gM g 3 0 (nI i)) n k (h 1 7)).2.2.2 = 3
    · rw [if_pos q, if_pos (decide_eq_true q)]
    · rw [if_neg q, if_neg (fun z => q (of_decide_eq_true z))]
  have Pk : k = 0 → ∀ i, ¬ P i = true := fun e i q => by
    rw [← hft] at q
    exact hk0 e i (of_decide_eq_true q)
  simp only [Pd] at cs rs
  clear hft Pd hk0
  have pz : ∀ (x : zH) (v : Int32), pt x 11 5 (0 : Int32) v = z_up x 11 0 v := fun x v => pt_nI (s := 0) (by omega) (by omega)
  have m1 : ∀ i : Nat, nI (i + 1) + (-1 : Int32) = nI i := fun i => by rw [← Int32.sub_eq_add_neg, ← nI_1, nI_p1]
  have lc : ∀ i x u, i ≤ 9 → zHil x 7 (gM g 3 0 u) n k → x 7 7 = h 1 7 → zFr zMT h x → ∃ y, zE (d + 9) 101 (14, [some (.ref 0), some (.int (nI i))], [], x) = some (some (.int (enc (dn P i))), y) ∧ zFr zMT h y := by
    intro i
    induction i with
    | zero =>
      intro x u hi x1 x2 x3
      exact ⟨x, by rw [E101_0_at14, if_pos (show nI 0 < (1 : Int32) by decide)]; rfl, x3⟩
    | succ i ih =>
      intro x u hi x1 x2 x3
      obtain ⟨y, ey, y1, y2, y3⟩ := cs x u x1 x2 x3 (i + 1) (by omega)
      rw [E101_0_at14, if_neg (show ¬ nI (i + 1) < (1 : Int32) from Int32.not_lt.mpr (nI_le (a := 1) (by omega) (by omega))), c_put (n := 5) rfl (by omega), zCv_some, pz, ey, zCi_some, dn]
      by_cases q : P (i + 1) = true
      · rw [if_pos q, if_neg (by decide), if_pos q]
        exact ⟨y, rfl, y3⟩
      · rw [if_neg q, if_pos rfl, if_neg q, m1]
        exact ih y (nI (i + 1)) (by omega) y1 y2 y3
  obtain ⟨h2, e2, F2⟩ := lc 9 h1 _ (by omega) K1' K7 F1
  have R2 := Rel0_mv R0 (zPers_mt F2)
  have C2 := RelC_mt C F2
  have s2 : h2 1 7 = h 1 7 := by rw [F2 1 (zMT_n (by omega))]
  have c0 : (0 : Int32).toNatClampNeg = 0 := rfl
  have g0 : ∀ K : Option zE0, zG (0 : Int32) 5 K = K := fun K => zG_nI (s := 0) (by omega) (by omega)
  have lr : ∀ i x, i ≤ 9 → rfF h2 (z_up x 37 0 (h2 37 0)) → ∃ y, zE (d + 9) 193 (23, [some (.ref 32), some (.int (h2 37 0)), some (.int (-9)), some (.int (nI i))], [], x) = some (some (.int (enc (dn P i))), y) ∧ rfF h2 y := by
    intro i
    induction i with
    | zero =>
      intro x hi hx
      refine ⟨z_up x 37 0 (h2 37 0), ?_, hx⟩
      rw [E193_32_at23, if_pos (show nI 0 ≤ (0 : Int32) by decide), g0, c0]
      rfl
    | succ i ih =>
      intro x hi hx
      have Rx := Rel0_mv R2 (zPers_rf2 hx)
      have x8 : z_up x 37 0 (h2 37 0) 37 0 = h2 37 0 := zu_eq _ _ _ _
      obtain ⟨y, ey, Gy⟩ := rs _ Rx (by rw [hx.1 1 (by omega) (by omega) (by omega), s2]) (i + 1) (by omega)
      rw [z_up2] at ey
      rw [x8] at Gy
      rw [E193_32_at23, if_neg (show ¬ nI (i + 1) ≤ (0 : Int32) from Int32.not_le.mpr (nI_lt (a := 0) (by omega) (by omega))), if_neg (show ¬ (-9 : Int32) ≥ 0 by decide), g0, c0, ey, zCi_some, dn, m1]
      by_cases q : P (i + 1) = true
      · rw [if_pos q, if_neg (by decide), if_pos q]
        refine ⟨z_up y 37 0 (h2 37 0), ?_, rfF_tr hx Gy⟩
        rw [E193_32_at23]
        by_cases z : nI i ≤ (0 : Int32)
        · rw [if_pos z, g0, c0]; rfl
        · rw [if_neg z, if_pos (show nI (i + 1) ≥ 0 from nI_pos' (by omega)), g0, c0]; rfl
      · rw [if_neg q, if_pos rfl, if_neg q]
        exact ih y (by omega) (rfF_tr hx Gy)
  have ec : zcal (d + 10) 101 [.ref 0] h = some (some (.int (enc (dn P 9))), h2) := by
    rw [E101_0, e1, zCv_some]
    exact e2
  by_cases k0 : k = 0
  · have dz : ∀ i, dn P i = none := by
      intro i
      induction i with
      | zero => rfl
      | succ i ih => rw [dn, if_neg (Pk k0 (i + 1)), ih]
    have n7 : h2 32 7 = 0 := by
      have : h2 32 7 = nI k := R2.1.2.2.1.2.1
      rw [this, k0]; rfl
    refine sim_ok (v := .int (-9)) (h1 := h2) (h2 := h2) ?_ ?_ ⟨⟨g, n, k, R2⟩, C2⟩
    · rw [dz 9] at ec; exact ec
    · rw [E193_32, n7, if_pos rfl]
  · have n7 : ¬ h2 32 7 = 0 := by
      have : h2 32 7 = nI k := R2.1.2.2.1.2.1
      rw [this]
      exact fun q => k0 ((nI_z0 (by omega)).mp q)
    obtain ⟨h3, e3, G3⟩ := lr 9 h2 (by omega) (by rw [z_up_id]; exact rfF_rf)
    refine sim_ok ec ?_ (Rel_of R2 C2 G3)
    rw [E193_32, if_neg n7, g0, c0]
    exact e3

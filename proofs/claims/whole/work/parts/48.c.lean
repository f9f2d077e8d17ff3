/-! ANOTHER WEIGHT, ANOTHER SKILL -/
def gM (g : zHl) (rr r0 : Nat) (v : Int32) : zHl := fun r => if r = rr then upd (g rr) r0 v else g r
theorem gM_id (g : zHl) (rr r0 : Nat) : gM g rr r0 (g rr r0) = g := by
  funext r s
  unfold gM
  by_cases e : r = rr
  · subst e
    rw [if_pos rfl, upd_ap]
    by_cases q : s = r0
    · rw [if_pos q, q]
    · rw [if_neg q]
  · rw [if_neg e]
theorem gM_o {g : zHl} {rr r0 r : Nat} {v : Int32} (h : r ≠ rr) : gM g rr r0 v r = g r := if_neg h
theorem gM_v {g : zHl} {rr r0 s : Nat} {v : Int32} : gM g rr r0 v rr s = if s = r0 then v else g rr s := by
  unfold gM
  rw [if_pos rfl, upd_ap]
theorem zVal_M {g : zHl} {n k rr r0 x : Nat} (hr : rr = 3 ∨ rr = 4) (V : zVal g n k) (hx : x < 10) : zVal (gM g rr r0 (nI x)) n k := by
  obtain ⟨v1, v2, v3, v4⟩ := V
  refine ⟨v1, v2, fun s hs => ?_, fun r h => ?_⟩
  · rw [gM_o (r := 0) (by omega), gM_o (r := 1) (by omega), gM_o (r := 2) (by omega)]; exact v3 s hs
  · rcases hr with rfl | rfl
    · rw [gM_o (r := 4) (by omega), gM_v]
      refine ⟨?_, (v4 r h).2⟩
      by_cases e : r = r0
      · rw [if_pos e]; exact ⟨x, hx, rfl⟩
      · rw [if_neg e]; exact (v4 r h).1
    · rw [gM_o (r := 3) (by omega), gM_v]
      refine ⟨(v4 r h).1, ?_⟩
      by_cases e : r = r0
      · rw [if_pos e]; exact ⟨x, hx, rfl⟩
      · rw [if_neg e]; exact (v4 r h).2
theorem zHil_M3 {h : zH} {g : zHl} {n k r0 : Nat} {u v : Int32} (H : zHil h 7 (gM g 3 r0 u) n k) : zHil (z_up h 11 r0 v) 7 (gM g 3 r0 v) n k := by
  obtain ⟨h1, h2, h3, h4⟩ := H
  refine ⟨by rw [z_up_ne (by omega)]; exact h1, by rw [z_up_ne (by omega)]; exact h2, fun s hs => ?_, fun r hr => ?_⟩
  · rw [z_up_ne (a := 7 + 1) (by omega), z_up_ne (a := 7 + 2) (by omega), z_up_ne (a := 7 + 3) (by omega)]; exact h3 s hs
  · obtain ⟨q1, q2⟩ := h4 r hr
    refine ⟨?_, by rw [z_up_ne (a := 7 + 5) (by omega)]; exact q2⟩
    show z_up h 11 r0 v 11 r = _
    rw [zu_ap, gM_v]
    by_cases e : r = r0
    · rw [if_pos ⟨rfl, e⟩, if_pos e]
    · rw [if_neg (fun q => e q.2), if_neg e]
      have : h 11 r = gM g 3 r0 u 3 r := q1
      rw [this, gM_v, if_neg e]
theorem zHil_M4 {h : zH} {g : zHl} {n k r0 : Nat} {u v : Int32} (H : zHil h 7 (gM g 4 r0 u) n k) : zHil (z_up h 12 r0 v) 7 (gM g 4 r0 v) n k := by
  obtain ⟨h1, h2, h3, h4⟩ := H
  refine ⟨by rw [z_up_ne (by omega)]; exact h1, by rw [z_up_ne (by omega)]; exact h2, fun s hs => ?_, fun r hr => ?_⟩
  · rw [z_up_ne (a := 7 + 1) (by omega), z_up_ne (a := 7 + 2) (by omega), z_up_ne (a := 7 + 3) (by omega)]; exact h3 s hs
  · obtain ⟨q1, q2⟩ := h4 r hr
    refine ⟨by rw [z_up_ne (a := 7 + 4) (by omega)]; exact q1, ?_⟩
    show z_up h 12 r0 v 12 r = _
    rw [zu_ap, gM_v]
    by_cases e : r = r0
    · rw [if_pos ⟨rfl, e⟩, if_pos e]
    · rw [if_neg (fun q => e q.2), if_neg e]
      have : h 12 r = gM g 4 r0 u 4 r := q2
      rw [this, gM_v, if_neg e]
theorem zHr_M3 {h : zH} {g : zHl} {n k r0 : Nat} {v : Int32} (H : zHr h g n k) : zHr (z_up h 37 r0 v) (gM g 3 r0 v) n k := by
  obtain ⟨h1, h2, h3, h4⟩ := H
  refine ⟨by rw [z_up_ne (by omega)]; exact h1, by rw [z_up_ne (by omega)]; exact h2, fun s hs => ?_, fun r hr => ?_⟩
  · rw [z_up_ne (a := 34) (by omega), z_up_ne (a := 35) (by omega), z_up_ne (a := 36) (by omega)]; exact h3 s hs
  · obtain ⟨q1, q2⟩ := h4 r hr
    refine ⟨?_, by rw [z_up_ne (a := 38) (by omega)]; exact q2⟩
    rw [zu_ap, gM_v]
    by_cases e : r = r0
    · rw [if_pos ⟨rfl, e⟩, if_pos e]
    · rw [if_neg (fun q => e q.2), if_neg e]; exact q1
theorem zHr_M4 {h : zH} {g : zHl} {n k r0 : Nat} {v : Int32} (H : zHr h g n k) : zHr (z_up h 38 r0 v) (gM g 4 r0 v) n k := by
  obtain ⟨h1, h2, h3, h4⟩ := H
  refine ⟨by rw [z_up_ne (by omega)]; exact h1, by rw [z_up_ne (by omega)]; exact h2, fun s hs => ?_, fun r hr => ?_⟩
  · rw [z_up_ne (a := 34) (by omega), z_up_ne (a := 35) (by omega), z_up_ne (a := 36) (by omega)]; exact h3 s hs
  · obtain ⟨q1, q2⟩ := h4 r hr
    refine ⟨by rw [z_up_ne (a := 37) (by omega)]; exact q1, ?_⟩
    rw [zu_ap, gM_v]
    by_cases e : r = r0
    · rw [if_pos ⟨rfl, e⟩, if_pos e]
    · rw [if_neg (fun q => e q.2), if_neg e]; exact q2
theorem c_arrG {d : Nat} {x : zH} {g : zHl} {n k : Nat} (V : zVal g n k) (H : zHil x 7 g n k) {st : Int32} (hs : x 7 7 = st) : ∃ y, zcal (d + 5) 93 [.ref 19, .ref 7] x = some (some (.int (if (eN g n k st).2.2.2 = 3 then 1 else 0)), y) ∧ zHil y 7 g n k ∧ y 7 7 = st ∧ zFr zMT x y := by
  obtain ⟨y, ey, Iy, Fy⟩ := c_arr (d := d) H V
  unfold eN
  rw [hs] at ey Iy
  exact ⟨y, ey, Iy.1, Iy.2.1, Fy⟩
theorem r_194 {d : Nat} {x : zH} {g : zHl} {n k : Nat} (V : zVal g n k) (H : zHr x g n k) (Z : rAt0 x) {st : Int32} (hs : x 32 8 = st) (hst : zIn st 0 99) : ∃ y, zcal (d + 5) 194 [.ref 32] x = some (some (.int (if (eN g n k st).2.2.2 = 3 then 1 else 0)), y) ∧ rfF x y := by
  obtain ⟨y, ey, J, G⟩ := r_now (d := d) H V (by rw [hs]; exact hst) Z
  unfold eN
  rw [hs] at ey J
  refine ⟨y, ?_, G⟩
  rw [E194_32, ey, zCi_some, J.2.2.2.2.2.2.2.2.1]
  by_cases q : (rJ g n rF rF rF (rQ0 n k st 0) 10).2.2.2 = 3
  · rw [if_pos q, if_pos q]
  · rw [if_neg q, if_neg q]
theorem sim_skillWanted {a : Int32} : zSim 102 195 [.int a] := by
  intro d h R
  obtain ⟨⟨g, n, k, R0⟩, C⟩ := id R
  have V := R0.1.1
  have hk := V.2.1
  by_cases ha : 0 ≤ a ∧ a < nI k
  · obtain ⟨r, hr, rfl⟩ := i_small (by omega) ha
    obtain ⟨h1, e1, K1, K7, F1⟩ := c_like (d := d + 6) R0.1.2.1 V
    have hst := R0.1.2.2.2.1.1
    have K1' : zHil h1 7 (gM g 4 r (g 4 r)) n k := by rw [gM_id]; exact K1
    have cs : ∀ (x : zH) (u : Int32), zHil x 7 (gM g 4 r u) n k → x 7 7 = h 1 7 → zFr zMT h x → ∀ i, i < 10 → ∃ y, zcal (d + 9) 93 [.ref 19, .ref 7] (z_up x 12 r (nI i)) = some (some (.int (if (eN (gM g 4 r (nI i)) n k (h 1 7)).2.2.2 = 3 then 1 else 0)), y) ∧ zHil y 7 (gM g 4 r (nI i)) n k ∧ y 7 7 = h 1 7 ∧ zFr zMT h y := fun x u x1 x2 x3 i hi => by
      obtain ⟨y, ey, y1, y2, y3⟩ := c_arrG (d := d + 4) (zVal_M (Or.inr rfl) V hi) (zHil_M4 (v := nI i) x1) (st := h 1 7) (by rw [z_up_ne (by omega)]; exact x2)
      exact ⟨y, ey, y1, y2, zFr_tr x3 (zFr_tr (zFr_up (by unfold zMT; omega)) y3)⟩
    have rs : ∀ (x : zH), Rel0 g n k x → x 1 7 = h 1 7 → ∀ i, i < 10 → ∃ y, zcal (d + 9) 194 [.ref 32] (z_up x 38 r (nI i)) = some (some (.int (if (eN (gM g 4 r (nI i)) n k (h 1 7)).2.2.2 = 3 then 1 else 0)), y) ∧ rfF x (z_up y 38 r (x 38 r)) := fun x x1 x2 i hi => by
      obtain ⟨y, ey, G⟩ := r_194 (d := d + 4) (zVal_M (Or.inr rfl) V hi) (zHr_M4 (r0 := r) (v := nI i) x1.1.2.2.1) (rAt0_mv x1.2.2.2.2.2 (fun j p q => by rw [z_up_ne (by omega)])) (st := h 1 7) (by rw [z_up_ne (by omega)]; exact (x1.1.2.2.2.2 0 (by omega)).trans x2) hst
      refine ⟨y, ey, fun a q1 q2 q3 => ?_, fun j hj => by rw [z_up_ne (by omega), G.2 j hj, z_up_ne (by omega)]⟩
      by_cases e : a = 38
      · subst e
        have : y 38 = z_up x 38 r (nI i) 38 := G.1 38 q1 q2 q3
        funext j
        rw [zu_ap, this, zu_ap]
        by_cases z : j = r
        · rw [if_pos ⟨rfl, z⟩, z]
        · rw [if_neg (fun q => z q.2), if_neg (fun q => z q.2)]
      · rw [z_up_ne e, G.1 a q1 q2 q3, z_up_ne e]
    generalize hft : (fun i : Nat => decide ((eN (gM g 4 r (nI i)) n k (h 1 7)).2.2.2 = 3)) = P
    have Pd : ∀ i : Nat, (if (eN (gM g 4 r (nI i)) n k (h 1 7)).2.2.2 = 3 then (1 : Int32) else 0) = if P i = true then 1 else 0 := fun i => by
      rw [← hft]
      by_cases q : (eN (gM g 4 r (nI i)) n k (h 1 7)).2.2.2 = 3
      · rw [if_pos q, if_pos (decide_eq_true q)]
      · rw [if_neg q, if_neg (fun z => q (of_decide_eq_true z))]
    simp only [Pd] at cs rs
    clear hft Pd
    have lc : ∀ s i x u, i + s = 10 → zHil x 7 (gM g 4 r u) n k → x 7 7 = h 1 7 → zFr zMT h x → ∃ y, zE (d + 9) 102 (30, [some (.ref 0), some (.int (nI r)), some (.int (nI i))], [], x) = some (some (.int (enc (zsr P some none s i))), y) ∧ zFr zMT h y := by
      intro s
      induction s with
      | zero =>
        intro i x u hi x1 x2 x3
        have hi : i = 10 := hi
        subst hi
        exact ⟨x, by rw [E102_0_at30, if_pos (show nI 10 > (9 : Int32) by decide)]; rfl, x3⟩
      | succ s ih =>
        intro i x u hi x1 x2 x3
        obtain ⟨y, ey, y1, y2, y3⟩ := cs x u x1 x2 x3 i (by omega)
        rw [E102_0_at30, if_neg (show ¬ nI i > (9 : Int32) from Int32.not_lt.mpr (nI_le (b := 9) (by omega) (by omega))), c_put (n := 5) rfl (by omega), zCv_some, pt_nI (by omega) (by omega), ey, zCi_some, zsr]
        by_cases q : P i = true
        · rw [if_pos q, if_neg (by decide), if_pos q]
          exact ⟨y, rfl, y3⟩
        · rw [if_neg q, if_pos rfl, if_neg q, nI_1]
          exact ih (i + 1) y (nI i) (by omega) y1 y2 y3
    obtain ⟨h2, e2, F2⟩ := lc 10 0 h1 _ (by omega) K1' K7 F1
    have R2 := Rel0_mv R0 (zPers_mt F2)
    have C2 := RelC_mt C F2
    have s2 : h2 1 7 = h 1 7 := by rw [F2 1 (zMT_n (by omega))]
    have lr : ∀ s i x, i + s = 10 → rfF h2 (z_up x 38 r (h2 38 r)) → ∃ y, zE (d + 9) 195 (27, [some (.ref 32), some (.int (nI r)), some (.int (h2 38 r)), some (.int (-9)), some (.int (nI i))], [], x) = some (some (.int (enc (zsr P some none s i))), y) ∧ rfF h2 y := by
      intro s
      induction s with
      | zero =>
        intro i x hi hx
        have hi : i = 10 := hi
        subst hi
        refine ⟨z_up x 38 r (h2 38 r), ?_, hx⟩
        rw [E195_32_at27, if_pos ge10, zG_nI (by omega) (by omega), nI_tn (by omega)]
        rfl
      | succ s ih =>
        intro i x hi hx
        have Rx := Rel0_mv R2 (zPers_rf2 hx)
        have x8 : z_up x 38 r (h2 38 r) 38 r = h2 38 r := zu_eq _ _ _ _
        obtain ⟨y, ey, Gy⟩ := rs _ Rx (by rw [hx.1 1 (by omega) (by omega) (by omega), s2]) i (by omega)
        rw [z_up2] at ey
        rw [x8] at Gy
        rw [E195_32_at27, if_neg (nge10 (by omega)), if_neg (show ¬ (-9 : Int32) ≥ 0 by decide), zG_nI (by omega) (by omega), nI_tn (by omega), ey, zCi_some, zsr]
        by_cases q : P i = true
        · rw [if_pos q, if_neg (by decide), if_pos q]
          refine ⟨z_up y 38 r (h2 38 r), ?_, rfF_tr hx Gy⟩
          rw [E195_32_at27]
          by_cases z : nI i + 1 ≥ (10 : Int32)
          · rw [if_pos z, zG_nI (by omega) (by omega), nI_tn (by omega)]; rfl
          · rw [if_neg z, if_pos (show nI i ≥ 0 from nI_pos' (by omega)), zG_nI (by omega) (by omega), nI_tn (by omega)]; rfl
        · rw [if_neg q, if_pos rfl, if_neg q, nI_1]
          exact ih (i + 1) y (by omega) (rfF_tr hx Gy)
    obtain ⟨h3, e3, G3⟩ := lr 10 0 h2 (by omega) (by rw [z_up_id]; exact rfF_rf)
    refine sim_ok (v := .int (enc (zsr P some none 10 0))) (h1 := h2) (h2 := h3) ?_ ?_ (Rel_of R2 C2 G3)
    · rw [E102_0, c_hasR_1 R0.1.2.1 V, if_pos ha, zCi_some, if_neg (by decide), e1, zCv_some]
      exact e2
    · rw [E195_32, r_isR R2.1.2.2.1 V, if_pos ha, zCi_some, if_neg (by decide), zG_nI (by omega) (by omega), nI_tn (by omega)]
      exact e3
  · refine sim_rf R (c := -1) (j := 0) (by omega) ?_ ?_
    · rw [E102_0, c_hasR_1 R0.1.2.1 V, if_neg ha, zCi_some, if_pos rfl, c_rf1, zCi_some]
    · rw [E195_32, r_isR (Rel0_c R0).1.2.2.1 V, if_neg ha, zCi_some, if_pos rfl, r_no1, zCi_some]

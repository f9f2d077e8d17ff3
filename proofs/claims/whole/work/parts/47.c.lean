/-! ROWS THAT FIT -/
/-- 1 when the ride's speeds from such a start are the row's, 0 when not -/
def fit (g : zHl) (n k : Nat) (st : Int32) (row : Nat → Int32) (m : Nat) : Int32 := zsr (fun i => !(decide (rSp g n rF rF rF (rQ0 n k st 0) 0 10 i = row i))) (fun _ => 0) 1 m 0
theorem held_in {x : Int32} (h : zIn x 0 99) : s_held x = x := by
  obtain ⟨m, hm, rfl⟩ := in_nI h
  unfold s_held
  rw [if_pos (show nI m ≥ 0 from nI_pos' (by omega)), if_pos (show nI m ≤ (99 : Int32) from nI_le (b := 99) hm (by omega))]
theorem held_sp {g : zHl} {n k : Nat} {st : Int32} (V : zVal g n k) (hst : zIn st 0 99) (j : Nat) : s_held (rSp g n rF rF rF (rQ0 n k st 0) (-9) 10 j) = rSp g n rF rF rF (rQ0 n k st 0) 0 10 j := by
  rw [rSp_eq V q_go, rSp_eq V q_go]
  by_cases q : j < rC g n rF rF rF (rQ0 n k st 0) 10
  · rw [if_pos q, if_pos q]; exact held_in (st_in V f0 hst j)
  · rw [if_neg q, if_neg q]; decide
theorem c_fit {d : Nat} {y : zH} {g : zHl} {n k m : Nat} {st : Int32} {row : Nat → Int32} (hm : m ≤ 10) (h20 : ∀ j, j < 10 → y 20 j = rSp g n rF rF rF (rQ0 n k st 0) 0 10 j) (e1 : y 28 1 = nI m) (er : ∀ j, j < m → y 29 j = row j) : zcal (d + 3) 120 [.ref 19, .ref 28] y = some (some (.int (fit g n k st row m)), y) := by
  unfold fit
  generalize hs : (fun i => rSp g n rF rF rF (rQ0 n k st 0) 0 10 i) = sp
  have sd : ∀ i, rSp g n rF rF rF (rQ0 n k st 0) 0 10 i = sp i := fun i => by rw [← hs]
  simp only [sd] at h20 ⊢
  clear hs sd
  have c := z_srch (A := Option zE0) (S := fun i => zE (d + 2) 120 (2, [some (.ref 19), some (.ref 28), some (.int (nI i))], [], y)) (P := fun i => !(decide (sp i = row i))) (f := fun _ => some (some (.int 0), y)) (b := some (some (.int 1), y)) (N := m) (fun i hi => by
    show zE (d + 2) 120 (2, [some (.ref 19), some (.ref 28), some (.int (nI i))], [], y) = _
    have e14 : zcal (d + 2) 14 [.ref 28, .int (nI i)] y = some (some (.int (row i)), y) := by
      rw [E14_28, if_neg (nI_pos (by omega)), e1, if_neg (nI_ge hi (by omega)), c_get (n := 12) rfl (by omega), zCi_some, gt_nI (by omega) (by omega), er i hi]
    rw [E120_19_28_at2, e1, if_neg (nI_ge hi (by omega)), c_get (n := 10) rfl (by omega), zCi_some, gt_nI (by omega) (by omega), h20 i (by omega), e14, zCi_some]
    by_cases z : sp i = row i
    · rw [if_pos z, decide_eq_true z, if_neg (by decide), nI_1]
    · rw [if_neg z, decide_eq_false z, if_pos (show (!false) = true from rfl)]) (by
    show zE (d + 2) 120 (2, [some (.ref 19), some (.ref 28), some (.int (nI m))], [], y) = _
    rw [E120_19_28_at2, e1, if_pos (nI_le (Nat.le_refl _) (by omega))]) m 0 (by omega)
  rw [E120_19_28]
  refine c.trans ?_
  exact zsr_map (fun v : Int32 => (some (some (.int v), y) : Option zE0)) (f := fun _ => (0 : Int32)) (b := 1) m 0
theorem r_fit {d : Nat} {x : zH} {g : zHl} {n k m : Nat} {row : Nat → Int32} (H : zHr x g n k) (V : zVal g n k) (Z : rAt0 x) (hst : zIn (x 32 8) 0 99) (hm : m ≤ 10) (e1 : x 32 40 = nI m) (er : ∀ j, j < m → x 46 j = row j) : ∃ y, zcal (d + 5) 200 [.ref 32] x = some (some (.int (fit g n k (x 32 8) row m)), y) ∧ rfF x y := by
  obtain ⟨y, ey, J, G⟩ := r_now (d := d) H V hst Z
  have h44 : ∀ j, j < 10 → s_held (y 44 j) = rSp g n rF rF rF (rQ0 n k (x 32 8) 0) 0 10 j := fun j hj => by rw [J.2.2.2.2.2.2.2.2.2.2.2.2.2.1 j hj, held_sp V hst]
  refine ⟨y, ?_, G⟩
  rw [E200_32, ey, zCi_some]
  clear ey J
  unfold fit
  generalize hs : (fun i => rSp g n rF rF rF (rQ0 n k (x 32 8) 0) 0 10 i) = sp
  have sd : ∀ i, rSp g n rF rF rF (rQ0 n k (x 32 8) 0) 0 10 i = sp i := fun i => by rw [← hs]
  simp only [sd] at h44 ⊢
  clear hs sd
  have y40 : y 32 40 = nI m := by rw [G.2 40 (by omega), e1]
  have y46 : ∀ j, j < m → y 46 j = row j := fun j hj => by rw [G.1 46 (by omega) (by omega) (by omega), er j hj]
  have c := z_srch (A := Option zE0) (S := fun i => zE (d + 4) 200 (7, [some (.ref 32), some (.int (nI i))], [], y)) (P := fun i => !(decide (sp i = row i))) (f := fun _ => some (some (.int 0), y)) (b := some (some (.int 1), y)) (N := m) (fun i hi => by
    show zE (d + 4) 200 (7, [some (.ref 32), some (.int (nI i))], [], y) = _
    rw [E200_32_at7, y40, if_neg (nI_ge hi (by omega)), zG_nI (by omega) (by omega), nI_tn (by omega), r_held, zCi_some, zG_nI (by omega) (by omega), h44 i (by omega), y46 i hi]
    by_cases z : sp i = row i
    · rw [if_pos z, decide_eq_true z, if_neg (by decide), nI_1]
    · rw [if_neg z, decide_eq_false z, if_pos (show (!false) = true from rfl)]) (by
    show zE (d + 4) 200 (7, [some (.ref 32), some (.int (nI m))], [], y) = _
    rw [E200_32_at7, y40, if_pos (nI_le (Nat.le_refl _) (by omega))]) m 0 (by omega)
  refine c.trans ?_
  exact zsr_map (fun v : Int32 => (some (some (.int v), y) : Option zE0)) (f := fun _ => (0 : Int32)) (b := 1) m 0
/-! STARTS TOLD -/
def cU (P : Nat → Bool) : Nat → Nat → Nat
  | 0, _ => 0
  | m + 1, i => (if P i = true then 1 else 0) + cU P m (i + 1)
theorem z_up2 (h : zH) (c i : Nat) (a b : Int32) : z_up (z_up h c i a) c i b = z_up h c i b := by
  funext x j
  rw [zu_ap, zu_ap, zu_ap]
  by_cases e : x = c ∧ j = i
  · rw [if_pos e, if_pos e]
  · rw [if_neg e, if_neg e, if_neg e]
theorem sim_startTold {a : Int32} : zSim 122 202 [.int a] := by
  intro d h R
  obtain ⟨⟨g, n, k, R0⟩, C⟩ := id R
  have V := R0.1.1
  have hn := V.1
  obtain ⟨m, m1, m2, m3, m4⟩ := R0.2.2.1
  have H15 := R0.1.2.1.1
  have H26 := R0.1.2.2.1.1
  by_cases ok : a = 0 ∨ a = 1
  · have in1 : (0 : Int32) ≤ a ∧ a ≤ 1 := by rcases ok with rfl | rfl <;> decide
    by_cases mn : m ≤ n
    · have le1 : nI m ≤ nI n := nI_le mn (by omega)
      obtain ⟨h1, e1, K1, _, F1⟩ := c_like (d := d + 6) R0.1.2.1 V
      have ec : zcal (d + 10) 122 [.ref 0, .int a] h = zE (d + 9) 122 (59, [some (.ref 0), some (.int a), some (.int 0), some (.int (-9)), some (.int 0)], [], h1) := by
        rw [E122_0]
        by_cases a0 : a = 0
        · rw [if_pos a0, m2, H15, if_pos le1, e1, zCv_some]
        · rw [if_neg a0, if_pos (by rcases ok with q | q; exact absurd q a0; exact q), m2, H15, if_pos le1, e1, zCv_some]
      have cs : ∀ (x : zH), zHil x 7 g n k → zFr zMT h x → ∀ i, ∃ y, (∃ v8 z, zcal (d + 9) 61 [.ref 19, .ref 7] (z_up x 7 7 (nI i)) = some (some (.int v8), z) ∧ zcal (d + 9) 120 [.ref 19, .ref 28] z = some (some (.int (fit g n k (nI i) (h 29) m)), y)) ∧ zHil y 7 g n k ∧ zFr zMT h y := fun x x1 x2 i => by
        have x1' : zHil (z_up x 7 7 (nI i)) 7 g n k := zHil_mv x1 (zu_ni _ _ (by omega)) (zu_ni _ _ (by omega)) (fun j p q => z_up_ne (by omega))
        obtain ⟨y, ey, Iy, Fy⟩ := c_end (d := d + 4) x1' V
        rw [zu_eq] at ey Iy
        have Fz : zFr zMT h y := zFr_tr x2 (zFr_tr (zFr_up (by unfold zMT; omega)) Fy)
        exact ⟨y, ⟨_, y, ey, c_fit (d := d + 6) (by omega) Iy.2.2.2.2.2.2.1 (by rw [Fz 28 (zMT_n (by omega)), m2]) (fun j hj => by rw [Fz 29 (zMT_n (by omega))])⟩, Iy.1, Fz⟩
      have rs : ∀ (x : zH), Rel0 g n k x → x 32 40 = nI m → (∀ j, j < m → x 46 j = h 29 j) → ∀ i, i < 100 → ∃ y, zcal (d + 9) 200 [.ref 32] (z_up x 32 8 (nI i)) = some (some (.int (fit g n k (nI i) (h 29) m)), y) ∧ rfF x (z_up y 32 8 (x 32 8)) := fun x x1 x2 x3 i hi => by
        have e8 : z_up x 32 8 (nI i) 32 8 = nI i := zu_eq _ _ _ _
        obtain ⟨y, ey, G⟩ := r_fit (d := d + 4) (x := z_up x 32 8 (nI i)) (row := h 29) (m := m) (zHr_mv x1.1.2.2.1 (zu_ni _ _ (by omega)) (zu_ni _ _ (by omega)) (fun a p q => z_up_ne (by omega))) V (rAt0_mv x1.2.2.2.2.2 (fun j p q => zu_ni _ _ (by omega))) (by rw [e8]; exact ⟨by rw [nI_toInt (by omega)]; omega, by rw [nI_toInt (by omega)]; omega⟩) (by omega) (by rw [zu_ni _ _ (by omega), x2]) (fun j hj => by rw [z_up_ne (by omega), x3 j hj])
        rw [e8] at ey
        refine ⟨y, ey, fun a q1 q2 q3 => by rw [z_up_ne q1, G.1 a q1 q2 q3, z_up_ne q1], fun j hj => ?_⟩
        by_cases e : j = 8
        · rw [e, zu_eq]
        · rw [zu_ni _ _ e, G.2 j hj, zu_ni _ _ e]
      generalize hft : (fun i : Nat => fit g n k (nI i) (h 29) m) = ft
      have fd : ∀ i : Nat, fit g n k (nI i) (h 29) m = ft i := fun i => by rw [← hft]
      simp only [fd] at cs rs
      clear hft fd
      generalize hP : (fun i : Nat => !(decide (ft i = 0))) = P
      have Pd : ∀ i, P i = !(decide (ft i = 0)) := fun i => by rw [← hP]
      have cule : ∀ m i, cU P m i ≤ m := by
        intro m
        induction m with
        | zero => intro i; exact Nat.le_refl _
        | succ m ih => intro i; rw [cU]; have := ih (i + 1); split <;> omega
      have zlt : ∀ m i s, zsr P some none m i = some s → i ≤ s ∧ s < i + m := by
        intro m
        induction m with
        | zero => intro i s e; cases e
        | succ m ih =>
          intro i s e
          rw [zsr] at e
          split at e
          · injection e with e; omega
          · have := ih (i + 1) s e; omega
      have fst_or : ∀ o : Option Nat, (match o with | some s => some s | none => none) = o := fun o => by cases o <;> rfl
      -- the class goes up
      have lc : ∀ r i (c : Nat) (o : Option Nat) x, i + r = 100 → (∀ s, o = some s → s < 100) → zHil x 7 g n k → zFr zMT h x → ∃ y, zE (d + 9) 122 (59, [some (.ref 0), some (.int a), some (.int (nI c)), some (.int (enc o)), some (.int (nI i))], [], x) = some (some (.int (if a = 0 then nI (c + cU P r i) else enc (match o with | some s => some s | none => zsr P some none r i))), y) ∧ zFr zMT h y := by
        intro r
        induction r with
        | zero =>
          intro i c o x hi ho hx fx
          have hi : i = 100 := hi
          subst hi
          refine ⟨x, ?_, fx⟩
          rw [E122_0_at59, if_pos (show nI 100 > (99 : Int32) by decide)]
          by_cases a0 : a = 0
          · rw [if_pos a0, if_pos a0]; rfl
          · rw [if_neg a0, if_neg a0]
            cases o <;> rfl
        | succ r ih =>
          intro i c o x hi ho hx fx
          obtain ⟨y, ⟨v8, z, ez, ey⟩, Hy, Fy⟩ := cs x hx fx i
          rw [E122_0_at59, if_neg (show ¬ nI i > (99 : Int32) from Int32.not_lt.mpr (nI_le (b := 99) (by omega) (by omega))), ez, zCi_some, ey, zCi_some, cU, zsr, Pd]
          by_cases q : ft i = 0
          · rw [if_pos q, nI_1, decide_eq_true q]
            obtain ⟨w, ew, Fw⟩ := ih (i + 1) c o y (by omega) ho Hy Fy
            refine ⟨w, ?_, Fw⟩
            rw [ew, if_neg (show ¬ (!true) = true by decide), if_neg (show ¬ (!true) = true by decide), Nat.zero_add]
          · rw [if_neg q, nI_1, nI_1, decide_eq_false q, if_pos (show (!false) = true from rfl), if_pos (show (!false) = true from rfl)]
            cases o with
            | none =>
              rw [show enc none = -9 from rfl, if_pos rfl]
              obtain ⟨w, ew, Fw⟩ := ih (i + 1) (c + 1) (some i) y (by omega) (fun s e => by injection e with e; omega) Hy Fy
              refine ⟨w, ?_, Fw⟩
              have ew' : zE (d + 9) 122 (59, [some (.ref 0), some (.int a), some (.int (nI (c + 1))), some (.int (nI i)), some (.int (nI (i + 1)))], [], y) = _ := ew
              rw [ew', Nat.add_assoc]
            | some s =>
              have hs := ho s rfl
              rw [show enc (some s) = nI s from rfl, if_neg (enc_9 hs)]
              obtain ⟨w, ew, Fw⟩ := ih (i + 1) (c + 1) (some s) y (by omega) ho Hy Fy
              refine ⟨w, ?_, Fw⟩
              have ew' : zE (d + 9) 122 (59, [some (.ref 0), some (.int a), some (.int (nI (c + 1))), some (.int (nI s)), some (.int (nI (i + 1)))], [], y) = _ := ew
              rw [ew', Nat.add_assoc]
              rfl
      obtain ⟨h2, e2, F2⟩ := lc 100 0 0 none h1 (by omega) (fun s e => by cases e) K1 F1
      have R2 := Rel0_mv R0 (zPers_mt F2)
      have C2 := RelC_mt C F2
      have c240 : h2 32 40 = nI m := by rw [F2 32 (zMT_n (by omega)), m3]
      have c246 : ∀ j, j < m → h2 46 j = h 29 j := fun j hj => by rw [F2 46 (zMT_n (by omega)), (m4 j hj).1]
      -- the reference goes down
      have lr : ∀ i r x, i + r = 100 → rfF h2 (z_up x 32 8 (h2 32 8)) → ∃ y, zE (d + 9) 202 (58, [some (.ref 32), some (.int a), some (.int 0), some (.int (h2 32 8)), some (.int (nI (cU P r i))), some (.int (enc (zsr P some none r i))), some (.int (nI i - 1))], [], x) = some (some (.int (if a = 0 then nI (cU P 100 0) else enc (zsr P some none 100 0))), y) ∧ rfF h2 y := by
        intro i
        induction i with
        | zero =>
          intro r x hi hx
          have hr : r = 100 := by omega
          subst hr
          refine ⟨z_up x 32 8 (h2 32 8), ?_, hx⟩
          rw [E202_32_at58, if_pos (show nI 0 - 1 < (0 : Int32) by decide)]
          by_cases a0 : a = 0
          · rw [if_pos a0, if_pos a0]
          · rw [if_neg a0, if_neg a0]
        | succ i ih =>
          intro r x hi hx
          have hm1 : nI (i + 1) - 1 = nI i := by rw [← nI_1, nI_p1]
          have Rx := Rel0_mv R2 (zPers_rf2 hx)
          have x8 : z_up x 32 8 (h2 32 8) 32 8 = h2 32 8 := zu_eq _ _ _ _
          obtain ⟨y, ey, Gy⟩ := rs _ Rx (by rw [hx.2 40 (by omega), c240]) (fun j hj => by rw [hx.1 46 (by omega) (by omega) (by omega), c246 j hj]) i (by omega)
          rw [z_up2] at ey
          rw [x8] at Gy
          obtain ⟨w, ew, Gw⟩ := ih (r + 1) y (by omega) (rfF_tr hx Gy)
          refine ⟨w, ?_, Gw⟩
          have n1 : nI i + (-1 : Int32) = nI i - 1 := by rw [Int32.sub_eq_add_neg]
          rw [← ew, hm1, E202_32_at58, if_neg (nI_pos (by omega)), ey, zCi_some, cU, zsr, Pd, n1]
          by_cases q : ft i = 0
          · rw [if_pos q, decide_eq_true q, if_neg (show ¬ (!true) = true by decide), if_neg (show ¬ (!true) = true by decide), Nat.zero_add]
          · rw [if_neg q, decide_eq_false q, if_pos (show (!false) = true from rfl), if_pos (show (!false) = true from rfl), nI_1, Nat.add_comm 1 (cU P r (i + 1))]
            rfl
      obtain ⟨h3, e3, G3⟩ := lr 100 0 h2 (by omega) (by rw [z_up_id]; exact rfF_rf)
      refine sim_ok (v := .int (if a = 0 then nI (cU P 100 0) else enc (zsr P some none 100 0))) (h1 := h2) (h2 := h3) ?_ ?_ (Rel_of R2 C2 G3)
      · rw [ec]
        refine Eq.trans e2 ?_
        rw [Nat.zero_add]
      · have c26 : h2 32 6 = nI n := by rw [F2 32 (zMT_n (by omega)), H26]
        rw [E202_32, r_isIn, if_pos in1, zCi_some, if_neg (by decide), c240, c26, if_pos le1, E202_32_at31, if_pos rfl]
        exact e3
    · have gt1 : ¬ nI m ≤ nI n := Int32.not_le.mpr (nI_lt (by omega) (by omega))
      refine sim_rf R (c := -3) (j := 2) (by omega) ?_ ?_
      · rw [E122_0]
        by_cases a0 : a = 0
        · rw [if_pos a0, m2, H15, if_neg gt1, c_rf3, zCi_some]
        · rw [if_neg a0, if_pos (by rcases ok with q | q; exact absurd q a0; exact q), m2, H15, if_neg gt1, c_rf3, zCi_some]
      · have e40 : refC h 2 32 40 = nI m := by unfold refC; rw [z_up_ne (by omega), m3]
        have e6 : refC h 2 32 6 = nI n := by unfold refC; rw [z_up_ne (by omega), H26]
        rw [E202_32, r_isIn, if_pos in1, zCi_some, if_neg (by decide), e40, e6, if_neg gt1, E202_32_at31, if_neg (by decide), r_no3, zCi_some]
  · have n0 : ¬ a = 0 := fun q => ok (Or.inl q)
    have n1 : ¬ a = 1 := fun q => ok (Or.inr q)
    have nn : ¬ ((0 : Int32) ≤ a ∧ a ≤ 1) := fun q => by
      obtain ⟨x, hx, rfl⟩ := nI_num (m := 1) (by omega) q.1 q.2
      have : x = 0 ∨ x = 1 := by omega
      rcases this with rfl | rfl
      · exact n0 rfl
      · exact n1 rfl
    refine sim_rf R (c := -2) (j := 1) (by omega) ?_ ?_
    · rw [E122_0, if_neg n0, if_neg n1, c_rf2, zCi_some]
    · rw [E202_32, r_isIn, if_neg nn, zCi_some, if_pos rfl, E202_32_at31, if_neg (by decide), r_no2, zCi_some]

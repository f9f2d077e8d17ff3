section ST
variable {T : Nat → Int32} {t : Nat}
theorem stP_of {p i : Nat} {g : zHl} {n k : Nat} {f : Nat → Int32} {mc mr : Nat} {ac ar : List Value} (O : opR mc mr ac ar g n k f)
    (hc : ∀ d x, txC T t x → zcal (d + 8) 19 [.ref 25, .ref 7, .int (nI p)] x = zCi (zcal (d + 7) mc ac x) (fun v h => zRz v h))
    (hr : ∀ d (x : zH), x 40 i = lA T t p → nmR T t p i x → zcal (d + 8) 135 [.ref 32, .int (nI i)] x = zCi (zcal (d + 7) mr ar x) (fun v h => zRz v h)) : stP T t p i g n k f := by
  have z1 : ∀ h : zH, zRz 1 h = some (some (.int 1), h) := fun h => by unfold zRz; rw [if_pos (Or.inr rfl)]
  have z0 : ∀ h : zH, zRz 0 h = some (some (.int 0), h) := fun h => by unfold zRz; rw [if_pos (Or.inl rfl)]
  rcases O with ⟨g', n', k', f', W, A, B⟩ | ⟨A, B⟩
  · refine Or.inl ⟨g', n', k', f', W, fun d x X tx => ?_, fun d x X x40 nm => ?_⟩
    · obtain ⟨y, ey, y1, y2⟩ := A (d + 1) x X
      exact ⟨y, by rw [hc d x tx, ey, zCi_some, z1], y1, y2⟩
    · obtain ⟨y, ey, y1, y2⟩ := B (d + 1) x X
      exact ⟨y, by rw [hr d x x40 nm, ey, zCi_some, z1], y1, y2⟩
  · refine Or.inr ⟨fun d x X tx => ?_, fun d x X x40 nm => ?_⟩
    · rw [hc d x tx, A (d + 1) x X, zCi_some, z0]
    · rw [hr d x x40 nm, B (d + 1) x X, zCi_some, z0]
theorem sb48 {x : Nat} : nI (48 + x) - 48 = nI x := by rw [show (48 : Int32) = nI 48 from rfl, nI_sb (by omega), show 48 + x - 48 = x by omega]
theorem ten {a b : Nat} : (10 : Int32) * nI a + nI b = nI (10 * a + b) := by rw [show (10 : Int32) * nI a = nI (10 * a) from nI_mul 10 a, nI_add]
/-- a statement that is formed as it must be -/
theorem st_ok {p i : Nat} {g : zHl} {n k : Nat} {f : Nat → Int32} (ht : t ≤ 96) (hp : p ≤ 200) (hi : i < 48) (V : zVal g n k) (B : bOk n k f) (hW : sW (lA T t) p = none) : stP T t p i g n k f := by
  have l2 : ∀ d x, txC T t x → zcal (d + 8) 19 [.ref 25, .ref 7, .int (nI p)] x = (if lA T t p = 98 then (zCv (zcal (d + 7) 0 [.ref 7] x) (fun h7 => some (some (.int 1), h7))) else (if lA T t p = 99 then (zCi (zcal (d + 7) 24 [.ref 7, .int (lA T t (p + 1) - 48), .int (lA T t (p + 2) - 48)] x) (fun v9 h8 => zRz v9 h8)) else (if lA T t p = 103 then (zCi (zcal (d + 7) 27 [.ref 7, .int ((10 * (lA T t (p + 1) - 48)) + (lA T t (p + 2) - 48))] x) (fun v11 h10 => zRz v11 h10)) else (if lA T t p = 114 then (zCi (zcal (d + 7) 22 [.ref 7, .int (lA T t (p + 1) - 48), .int (lA T t (p + 2) - 48)] x) (fun v13 h12 => zRz v13 h12)) else (if lA T t p = 115 then (zCi (zcal (d + 7) 20 [.ref 7, .int (lA T t (p + 1) - 48), .int (lA T t (p + 2) - 48)] x) (fun v15 h14 => zRz v15 h14)) else (if lA T t p = 118 then some (some (.int 1), (z_up x 7 7 ((10 * (lA T t (p + 1) - 48)) + (lA T t (p + 2) - 48)))) else some (some (.int 0), x))))))) := fun d x tx => by
    rw [E19_25_7, nI_1, c_14 tx ht (by omega), zCi_some, show nI p + 2 = nI (p + 2) from nI_add p 2, c_14 tx ht (by omega), zCi_some, c_14 tx ht (by omega), zCi_some]
  have two : (2 : Int32) * nI i = nI (2 * i) := nI_mul 2 i
  rcases sL_v (lA T t p) with e | ⟨e, ec⟩ | ⟨e, hc⟩
  · rw [sW_0 e.1] at hW; cases hW
  · have BB : bOk n k (fU f 0 (f 0) (rQ0 n k (f 0) 0).2.2.1 (rQ0 n k (f 0) 0).2.2.2 (f 5)) := by
      refine ⟨B.1, B.1, B.2.2.1, ?_⟩
      show (rQ0 n k (f 0) 0).2.2.2 = 0 → ∃ a, a < n ∧ (0 : Int32) = nI a ∧ s_rid k (rQ0 n k (f 0) 0).2.2.1
      unfold rQ0
      dsimp only
      intro q
      by_cases k0 : k = 0
      · rw [if_pos k0] at q; exact absurd q (by decide)
      · rw [if_neg k0] at q
        by_cases n0 : n = 0
        · rw [if_pos n0] at q; exact absurd q (by decide)
        · rw [if_neg k0]
          exact ⟨0, by omega, rfl, 0, by omega, rfl⟩
    refine Or.inl ⟨g, n, k, fU f 0 (f 0) (rQ0 n k (f 0) 0).2.2.1 (rQ0 n k (f 0) 0).2.2.2 (f 5), ?_, fun d x X tx => ?_, fun d x X x40 nm => ?_⟩
    · exact ⟨V, BB⟩
    · have eb := c_begin_7 (d := d + 6) X.2.1 V
      have x7 : x 7 7 = f 0 := X.2.2.2 0 (by omega)
      rw [x7] at eb
      refine ⟨_, by rw [l2 d x tx, if_pos ec, eb, zCv_some], ⟨V, zHil_mv X.2.1 ?_ ?_ (fun j p q => ?_), BB, fun i hi => ?_⟩, fun a ha => ?_⟩
      · rw [zu_ni _ _ (by omega), zu_ni _ _ (by omega), zu_ni _ _ (by omega), zu_ni _ _ (by omega)]
      · rw [zu_ni _ _ (by omega), zu_ni _ _ (by omega), zu_ni _ _ (by omega), zu_ni _ _ (by omega)]
      · rw [z_up_ne (by omega), z_up_ne (by omega), z_up_ne (by omega), z_up_ne (by omega)]
      · rcases (show i = 0 ∨ i = 1 ∨ i = 2 ∨ i = 3 ∨ i = 4 ∨ i = 5 by omega) with rfl | rfl | rfl | rfl | rfl | rfl
        · rw [zu_ni _ _ (by omega), zu_ni _ _ (by omega), zu_ni _ _ (by omega), zu_ni _ _ (by omega)]; exact x7
        · rw [zu_ni _ _ (by omega), zu_ni _ _ (by omega), zu_ni _ _ (by omega), zu_eq]; rfl
        · rw [zu_ni _ _ (by omega), zu_ni _ _ (by omega), zu_eq]; rfl
        · rw [zu_ni _ _ (by omega), zu_eq]; rfl
        · rw [zu_eq]; rfl
        · rw [zu_ni _ _ (by omega), zu_ni _ _ (by omega), zu_ni _ _ (by omega), zu_ni _ _ (by omega)]; exact X.2.2.2 5 (by omega)
      · have a7 : a ≠ 7 := fun z => ha (by unfold zMT; omega)
        rw [z_up_ne a7, z_up_ne a7, z_up_ne a7, z_up_ne a7]
    · obtain ⟨y, ey, v9, v10, v11, v12, F1, F2⟩ := r_begin (d := d + 5) X.2.1 V
      have x8 : x 32 8 = f 0 := X.2.2.2.1 0 (by omega)
      rw [x8] at v10 v11 v12
      refine ⟨y, by rw [E135_32, zG_nI hi (by omega), nI_tn (by omega), x40, if_pos ec, ey, zCv_some], ⟨V, zHr_mv X.2.1 (F2 6 (by omega)) (F2 7 (by omega)) (fun a p q => F1 a (by omega) (by omega) (by omega)), BB, fun i hi => ?_, rAt0_mv X.2.2.2.2 (fun j p q => F2 j (by omega))⟩, fun a q1 q2 q3 q4 => F1 a q1 q3 q4, fun j hj => F2 j (by omega), fun a j q1 q2 q3 => by rw [F1 a (by omega) (by omega) (by omega)]⟩
      rcases (show i = 0 ∨ i = 1 ∨ i = 2 ∨ i = 3 ∨ i = 4 ∨ i = 5 by omega) with rfl | rfl | rfl | rfl | rfl | rfl
      · rw [F2 (8 + 0) (by omega)]; exact x8
      · exact v9
      · exact v10
      · exact v11
      · exact v12
      · rw [F2 (8 + 5) (by omega)]; exact X.2.2.2.1 5 (by omega)
  · obtain ⟨a1, a2, a3, a4⟩ := sW_4 e
    have c1 : dg (lA T t (p + 1)) := Classical.byContradiction (fun z => by rw [a1 z] at hW; cases hW)
    have c2 : dg (lA T t (p + 2)) := Classical.byContradiction (fun z => by rw [a2 c1 z] at hW; cases hW)
    obtain ⟨a, ha, ea⟩ := dg_nI c1
    obtain ⟨b, hb, eb⟩ := dg_nI c2
    have eA : lA T t (p + 1) - 48 = nI a := by rw [ea]; exact sb48
    have eB : lA T t (p + 2) - 48 = nI b := by rw [eb]; exact sb48
    have nms : ∀ x : zH, nmR T t p i x → ((lA T t p = 99 ∨ lA T t p = 114 ∨ lA T t p = 115) → x 42 (2 * i) = nI a ∧ x 42 (2 * i + 1) = nI b) ∧ ((lA T t p = 103 ∨ lA T t p = 118) → x 42 (2 * i) = nI (10 * a + b)) := fun x nm => nm a b ea ha eb hb
    rw [eA, eB, ten] at l2
    have g1 : ∀ K : Option zE0, zG (nI (2 * i)) 96 K = K := fun K => zG_nI (by omega) (by omega)
    have g2 : ∀ K : Option zE0, zG (nI (2 * i + 1)) 96 K = K := fun K => zG_nI (by omega) (by omega)
    have t1 : (nI (2 * i)).toNatClampNeg = 2 * i := nI_tn (by omega)
    have t2 : (nI (2 * i + 1)).toNatClampNeg = 2 * i + 1 := nI_tn (by omega)
    rcases hc with z | z | z | z | z
    · refine stP_of (op_C V B ha hb) (fun d x tx => ?_) (fun d x x40 nm => ?_)
      · rw [l2 d x tx, z, if_neg (by decide), if_pos rfl]
      · obtain ⟨m1, m2⟩ := (nms x nm).1 (by rw [z]; decide)
        rw [E135_32, zG_nI hi (by omega), nI_tn (by omega), x40, z, if_neg (by decide), if_pos rfl, two, nI_1, g1, g2, t1, t2, m1, m2]
    · refine stP_of (op_G V B (p := 10 * a + b) (by omega)) (fun d x tx => ?_) (fun d x x40 nm => ?_)
      · rw [l2 d x tx, z, if_neg (by decide), if_neg (by decide), if_pos rfl]
      · have m1 := (nms x nm).2 (by rw [z]; decide)
        rw [E135_32, zG_nI hi (by omega), nI_tn (by omega), x40, z, if_neg (by decide), if_neg (by decide), if_neg (by decide), if_neg (by decide), if_neg (by decide), two, g1, t1, m1]
    · refine stP_of (op_R V B ha hb) (fun d x tx => ?_) (fun d x x40 nm => ?_)
      · rw [l2 d x tx, z, if_neg (by decide), if_neg (by decide), if_neg (by decide), if_pos rfl]
      · obtain ⟨m1, m2⟩ := (nms x nm).1 (by rw [z]; decide)
        rw [E135_32, zG_nI hi (by omega), nI_tn (by omega), x40, z, if_neg (by decide), if_neg (by decide), if_pos rfl, two, nI_1, g1, g2, t1, t2, m1, m2]
    · refine stP_of (op_S V B ha hb) (fun d x tx => ?_) (fun d x x40 nm => ?_)
      · rw [l2 d x tx, z, if_neg (by decide), if_neg (by decide), if_neg (by decide), if_neg (by decide), if_pos rfl]
      · obtain ⟨m1, m2⟩ := (nms x nm).1 (by rw [z]; decide)
        rw [E135_32, zG_nI hi (by omega), nI_tn (by omega), x40, z, if_neg (by decide), if_neg (by decide), if_neg (by decide), if_pos rfl, two, nI_1, g1, g2, t1, t2, m1, m2]
    · have in9 : zIn (nI (10 * a + b)) 0 99 := by
        have := nI_toInt (n := 10 * a + b) (by omega)
        unfold zIn
        omega
      refine Or.inl ⟨g, n, k, fV f (nI (10 * a + b)), ⟨V, in9, B.2.1, B.2.2.1, B.2.2.2⟩, fun d x X tx => ?_, fun d x X x40 nm => ?_⟩
      · refine ⟨_, by rw [l2 d x tx, z, if_neg (by decide), if_neg (by decide), if_neg (by decide), if_neg (by decide), if_neg (by decide), if_pos rfl], ⟨V, zHil_mv X.2.1 (zu_ni _ _ (by omega)) (zu_ni _ _ (by omega)) (fun j p q => z_up_ne (by omega)), ⟨in9, B.2.1, B.2.2.1, B.2.2.2⟩, fun i hi => ?_⟩, zFr_up (by unfold zMT; omega)⟩
        cases i with
        | zero => exact zu_eq _ _ _ _
        | succ i => rw [zu_ni _ _ (by omega)]; exact X.2.2.2 (i + 1) hi
      · have m1 := (nms x nm).2 (by rw [z]; decide)
        refine ⟨_, by rw [E135_32, zG_nI hi (by omega), nI_tn (by omega), x40, z, if_neg (by decide), if_neg (by decide), if_neg (by decide), if_neg (by decide), if_pos rfl, two, g1, t1, m1], ⟨V, zHr_mv X.2.1 (zu_ni _ _ (by omega)) (zu_ni _ _ (by omega)) (fun a p q => z_up_ne (by omega)), ⟨in9, B.2.1, B.2.2.1, B.2.2.2⟩, fun i hi => ?_, rAt0_mv X.2.2.2.2 (fun j p q => zu_ni _ _ (by omega))⟩, fun a q1 q2 q3 q4 => z_up_ne q1, fun j hj => zu_ni _ _ (by omega), fun a j q1 q2 q3 => by rw [z_up_ne (by omega)]⟩
        cases i with
        | zero => exact zu_eq _ _ _ _
        | succ i => rw [zu_ni _ _ (by omega)]; exact X.2.2.2.1 (i + 1) hi
/-- all of them, one behind the other -/
theorem st_all {K : Nat} (ht : t ≤ 96) (gd : gdS (lA T t) t K) (hK : t ≤ pL (lA T t) K) : ∀ m i (g : zHl) (n k : Nat) (f : Nat → Int32), i + m = K → zVal g n k → bOk n k f →
    (∃ (g' : zHl) (n' k' : Nat) (f' : Nat → Int32), (∀ d x, zC7 g n k f x → txC T t x → ∃ y, zE (d + 8) 18 (7, [some (.ref 25), some (.ref 7), some (.int (nI i)), some (.int (nI (pL (lA T t) i))), some (.int (nI i))], [], x) = some (some (.int (nI K)), y) ∧ zC7 g' n' k' f' y ∧ zFr zMT x y) ∧ ∀ d x, zRR g n k f x → fmA T t K x → x 32 20 = nI K → ∃ y, zE (d + 9) 126 (86, [some (.ref 32), some (.int 1), some (.int (nI i))], [], x) = some (some (.int (nI K)), z_up y 32 25 0) ∧ zRR g' n' k' f' y ∧ fRR x y) ∨
    ∃ j, j < K ∧ (∀ d x, zC7 g n k f x → txC T t x → ∃ y, zE (d + 8) 18 (7, [some (.ref 25), some (.ref 7), some (.int (nI i)), some (.int (nI (pL (lA T t) i))), some (.int (nI i))], [], x) = some (some (.int ((-2000 : Int32) - nI (pL (lA T t) j))), y) ∧ zFr zMT x y) ∧ ∀ d x, zRR g n k f x → fmA T t K x → x 32 20 = nI K → ∃ y, zE (d + 9) 126 (86, [some (.ref 32), some (.int 1), some (.int (nI i))], [], x) = some (some (.int ((-2000 : Int32) - nI (pL (lA T t) j))), rdB y 1 48) ∧ fRR x y := by
  have k48 := gdS_K ht gd
  have p100 := pL_le ht gd
  intro m
  induction m with
  | zero =>
    intro i g n k f hi V B
    have hi : i = K := hi
    subst hi
    refine Or.inl ⟨g, n, k, f, fun d x X tx => ⟨x, ?_, X, fun _ _ => rfl⟩, fun d x X A x20 => ⟨x, ?_, X, fun _ _ _ _ _ => rfl, fun _ _ => rfl, fun _ _ _ _ _ => rfl⟩⟩
    · rw [E18_25_7_at7, if_neg (show ¬ nI i ≥ (96 : Int32) from nI_ge (b := 96) (by omega) (by omega)), tx.1, if_pos (nI_le hK (by omega))]
    · rw [E126_32_at86, x20, if_pos (nI_le (by omega) (by omega))]
  | succ m ih =>
    intro i g n k f hi V B
    obtain ⟨g1, g2⟩ := gd i (by omega)
    have pre : ∀ d x, txC T t x → zE (d + 8) 18 (7, [some (.ref 25), some (.ref 7), some (.int (nI i)), some (.int (nI (pL (lA T t) i))), some (.int (nI i))], [], x) = (zCi (zcal (d + 8) 19 [.ref 25, .ref 7, .int (nI (pL (lA T t) i))] x) (fun v2 h1 => (if v2 = 0 then some (some (.int ((-2000 : Int32) - nI (pL (lA T t) i))), h1) else (zCi (zcal (d + 8) 13 [.ref 25, .int (nI (pL (lA T t) i))] h1) (fun v4 h3 => zE (d + 8) 18 (7, [some (.ref 25), some (.ref 7), some (.int (nI i + 1)), some (.int (nI (pL (lA T t) i) + v4)), some (.int (nI i + 1))], [], h3)))))) := fun d x tx => by
      rw [E18_25_7_at7, if_neg (show ¬ nI i ≥ (96 : Int32) from nI_ge (b := 96) (by omega) (by omega)), tx.1, if_neg (nI_ge g2 (by omega))]
    have preR : ∀ d x, x 32 20 = nI K → zE (d + 9) 126 (86, [some (.ref 32), some (.int 1), some (.int (nI i))], [], x) = (zCi (zcal (d + 9) 135 [.ref 32, .int (nI i)] x) (fun v2 h1 => (if v2 = 0 then (zCv (zcal (d + 9) 132 [.ref 32, .int 1, .int 0] h1) (fun h3 => (zG (nI i) 48 (some (some (.int ((-2000 : Int32) - (h3 41 (nI i).toNatClampNeg))), h3))))) else zE (d + 9) 126 (86, [some (.ref 32), some (.int 1), some (.int (nI i + 1))], [], h1)))) := fun d x x20 => by
      rw [E126_32_at86, x20, if_neg (nI_ge (by omega) (by omega))]
    rcases st_ok (i := i) ht (show pL (lA T t) i ≤ 200 by omega) (by omega) V B g1 with ⟨g', n', k', f', ⟨V', B'⟩, A1, A2⟩ | ⟨A1, A2⟩
    · have c1 : ∀ d x, zC7 g n k f x → txC T t x → ∃ y, zE (d + 8) 18 (7, [some (.ref 25), some (.ref 7), some (.int (nI i)), some (.int (nI (pL (lA T t) i))), some (.int (nI i))], [], x) = zE (d + 8) 18 (7, [some (.ref 25), some (.ref 7), some (.int (nI (i + 1))), some (.int (nI (pL (lA T t) (i + 1)))), some (.int (nI (i + 1)))], [], y) ∧ zC7 g' n' k' f' y ∧ zFr zMT x y := fun d x X tx => by
        obtain ⟨y, ey, y1, y2⟩ := A1 d x X tx
        refine ⟨y, ?_, y1, y2⟩
        rw [pre d x tx, ey, zCi_some, if_neg (by decide), c_13 (txC_mt tx y2) ht (by omega), zCi_some, nI_1, nI_add]
        rfl
      have c2 : ∀ d x, zRR g n k f x → fmA T t K x → x 32 20 = nI K → ∃ y, zE (d + 9) 126 (86, [some (.ref 32), some (.int 1), some (.int (nI i))], [], x) = zE (d + 9) 126 (86, [some (.ref 32), some (.int 1), some (.int (nI (i + 1)))], [], y) ∧ zRR g' n' k' f' y ∧ fRR x y ∧ fmA T t K y ∧ y 32 20 = nI K := fun d x X A x20 => by
        obtain ⟨b1, b2, b3⟩ := A i (by omega)
        obtain ⟨y, ey, y1, y2⟩ := A2 (d + 1) x X b1 b3
        refine ⟨y, ?_, y1, y2, fun j hj => ?_, by rw [y2.2.1 20 (by omega)]; exact x20⟩
        · rw [preR d x x20, ey, zCi_some, if_neg (by decide), nI_1]
        · obtain ⟨b1, b2, b3⟩ := A j hj
          refine ⟨by rw [y2.1 40 (by omega) (by omega) (by omega) (by omega)]; exact b1, by rw [y2.1 41 (by omega) (by omega) (by omega) (by omega)]; exact b2, fun a b q1 q2 q3 q4 => ?_⟩
          rw [y2.1 42 (by omega) (by omega) (by omega) (by omega)]
          exact b3 a b q1 q2 q3 q4
      rcases ih (i + 1) g' n' k' f' (by omega) V' B' with ⟨g2', n2', k2', f2', D1, D2⟩ | ⟨j, hj, D1, D2⟩
      · refine Or.inl ⟨g2', n2', k2', f2', fun d x X tx => ?_, fun d x X A x20 => ?_⟩
        · obtain ⟨y, ey, y1, y2⟩ := c1 d x X tx
          obtain ⟨w, ew, w1, w2⟩ := D1 d y y1 (txC_mt tx y2)
          exact ⟨w, ey.trans ew, w1, zFr_tr y2 w2⟩
        · obtain ⟨y, ey, y1, y2, y3, y4⟩ := c2 d x X A x20
          obtain ⟨w, ew, w1, w2⟩ := D2 d y y1 y3 y4
          exact ⟨w, ey.trans ew, w1, fRR_tr y2 w2⟩
      · refine Or.inr ⟨j, hj, fun d x X tx => ?_, fun d x X A x20 => ?_⟩
        · obtain ⟨y, ey, y1, y2⟩ := c1 d x X tx
          obtain ⟨w, ew, w2⟩ := D1 d y y1 (txC_mt tx y2)
          exact ⟨w, ey.trans ew, zFr_tr y2 w2⟩
        · obtain ⟨y, ey, y1, y2, y3, y4⟩ := c2 d x X A x20
          obtain ⟨w, ew, w2⟩ := D2 d y y1 y3 y4
          exact ⟨w, ey.trans ew, fRR_tr y2 w2⟩
    · refine Or.inr ⟨i, by omega, fun d x X tx => ⟨x, by rw [pre d x tx, A1 d x X tx, zCi_some, if_pos rfl], fun _ _ => rfl⟩, fun d x X A x20 => ?_⟩
      obtain ⟨b1, b2, b3⟩ := A i (by omega)
      have rr := r_read (d := d + 6) (h := x) (w := 1) (by omega)
      rw [show nI 1 = (1 : Int32) from rfl] at rr
      refine ⟨x, ?_, fun _ _ _ _ _ => rfl, fun _ _ => rfl, fun _ _ _ _ _ => rfl⟩
      rw [preR d x x20, A2 (d + 1) x X b1 b3, zCi_some, if_pos rfl, rr, zCv_some, zG_nI (by omega) (by omega), nI_tn (by omega), rdB_c (by omega) (by omega), b2]
end ST

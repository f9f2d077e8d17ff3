/-! A RIDE BY ONE OF THEM ALONE -/
section SOLO
theorem up0 {G : zHl} {u : Nat → Bool} {s : Nat} {v r : Int32} (h : G 2 s = -9) : s_r1 G u s v r = r := by
  unfold s_r1 s_up
  rw [h, decide_eq_false (show ¬ (0 : Int32) ≤ -9 by decide), Bool.false_and]
  exact if_neg (by decide)
theorem hold_eq {G G' : zHl} {s : Nat} {p p' : Int32} (h0 : G 0 s = G' 0 s) (h4 : G 4 p.toNatClampNeg = G' 4 p'.toNatClampNeg) : s_hold G s p = s_hold G' s p' := by
  unfold s_hold
  rw [h0, h4]
theorem bec_eq {G G' : zHl} {s : Nat} {p p' v : Int32} (h0 : G 0 s = G' 0 s) (h1 : G 1 s = G' 1 s) (h3 : G 3 p.toNatClampNeg = G' 3 p'.toNatClampNeg) : s_bec G s p v = s_bec G' s p' v := by
  unfold s_bec
  rw [h0, h1, h3]
theorem nx_like {G G' : zHl} {n : Nat} {w : Nat → Bool} {s : Nat} {v p p' : Int32} (hh : s_hold G s p = s_hold G' s p') (hb : s_bec G s p v = s_bec G' s p' v) : (s_nx G n w s v p).1 = (s_nx G' n w s v p').1 ∧ (s_nx G n w s v p).2.1 = (s_nx G' n w s v p').2.1 ∧ (s_nx G n w s v p).2.2.2 = (s_nx G' n w s v p').2.2.2 := by
  unfold s_nx
  rw [hh, hb]
  by_cases c : v ≤ s_hold G' s p'
  · by_cases e : s_min (s_bec G' s p' v) - s_wd w s > 0
    · simp only [if_pos c, if_pos e]; exact ⟨trivial, trivial, trivial⟩
    · simp only [if_pos c, if_neg e]; exact ⟨trivial, trivial, trivial⟩
  · simp only [if_neg c]; exact ⟨trivial, trivial, trivial⟩
def eSo (g : zHl) (n k r : Nat) (st : Int32) : zQ := rJ (gK g 0) n rF rF rF (rQ0 n k st (nI r)) 10
def gO (g : zHl) (r : Nat) : zHl := gM (gM (gK g 0) 3 0 (g 3 r)) 4 0 (g 4 r)
theorem gK0 {g : zHl} {j : Nat} : gK g 0 2 j = -9 := by rw [gK_v, Nat.zero_testBit, if_neg (by decide)]
theorem gO_3 {g : zHl} {r : Nat} : gO g r 3 0 = g 3 r := by unfold gO; rw [gM_o (by omega), gM_v, if_pos rfl]
theorem gO_4 {g : zHl} {r : Nat} : gO g r 4 0 = g 4 r := by unfold gO; rw [gM_v, if_pos rfl]
theorem gO_o {g : zHl} {r x : Nat} (hx : x < 3) : gO g r x = gK g 0 x := by unfold gO; rw [gM_o (by omega), gM_o (by omega)]
theorem eSo_le {g : zHl} {n k r : Nat} {st : Int32} (V : zVal g n k) (hr : r < k) : (eSo g n k r st).1 ≤ n := rJ_le (zVal_K V) (rQ0_go (Or.inl ⟨r, hr, rfl⟩)) rfl 10
theorem zVal_O {g : zHl} {n k r : Nat} (V : zVal g n k) (hr : r < k) : zVal (gO g r) n k := by
  obtain ⟨⟨x, hx, ex⟩, y, hy, ey⟩ := V.2.2.2 r hr
  unfold gO
  rw [ex, ey]
  exact zVal_M (Or.inr rfl) (zVal_M (Or.inl rfl) (zVal_K V) hx) hy
theorem solo_eq {g : zHl} {n k r : Nat} {st : Int32} (V : zVal g n k) (hr : r < k) : (eN (gO g r) n k st).1 = (eSo g n k r st).1 := by
  have hk := V.2.1
  have key : ∀ i, (rJ (gO g r) n rF rF rF (rQ0 n k st 0) i).1 = (rJ (gK g 0) n rF rF rF (rQ0 n k st (nI r)) i).1 ∧ (rJ (gO g r) n rF rF rF (rQ0 n k st 0) i).2.1 = (rJ (gK g 0) n rF rF rF (rQ0 n k st (nI r)) i).2.1 ∧ (rJ (gO g r) n rF rF rF (rQ0 n k st 0) i).2.2.2 = (rJ (gK g 0) n rF rF rF (rQ0 n k st (nI r)) i).2.2.2 ∧ (rJ (gO g r) n rF rF rF (rQ0 n k st 0) i).2.2.1 = 0 ∧ (rJ (gK g 0) n rF rF rF (rQ0 n k st (nI r)) i).2.2.1 = nI r := by
    intro i
    induction i with
    | zero =>
      refine ⟨rfl, rfl, rfl, ?_, ?_⟩
      · show (rQ0 n k st 0).2.2.1 = 0
        unfold rQ0
        exact if_neg (by omega)
      · show (rQ0 n k st (nI r)).2.2.1 = nI r
        unfold rQ0
        exact if_neg (by omega)
    | succ i ih =>
      obtain ⟨a1, a2, a3, a4, a5⟩ := ih
      rw [rJ, rJ]
      generalize rJ (gO g r) n rF rF rF (rQ0 n k st 0) i = q at *
      generalize rJ (gK g 0) n rF rF rF (rQ0 n k st (nI r)) i = q' at *
      by_cases hm : q.2.2.2 = 0
      · rw [if_pos hm, if_pos (a3 ▸ hm)]
        unfold s_st
        rw [up0 (by rw [gO_o (by omega)]; exact gK0), up0 gK0, a1, a2, a4, a5]
        have g0 : (0 : Int32).toNatClampNeg = 0 := rfl
        have gr : (nI r).toNatClampNeg = r := nI_tn (by omega)
        have e0 : gO g r 0 q'.1 = gK g 0 0 q'.1 := by rw [gO_o (by omega)]
        have e1 : gO g r 1 q'.1 = gK g 0 1 q'.1 := by rw [gO_o (by omega)]
        have e3 : gO g r 3 (0 : Int32).toNatClampNeg = gK g 0 3 (nI r).toNatClampNeg := by rw [g0, gr, gO_3, gK_o (by omega)]
        have e4 : gO g r 4 (0 : Int32).toNatClampNeg = gK g 0 4 (nI r).toNatClampNeg := by rw [g0, gr, gO_4, gK_o (by omega)]
        have nl := nx_like (n := n) (w := rF) (hold_eq e0 e4) (bec_eq (v := s_v1 rF q'.1 q'.2.1) e0 e1 e3) (v := s_v1 rF q'.1 q'.2.1)
        exact ⟨nl.1, nl.2.1, nl.2.2, s_nx_r, s_nx_r⟩
      · rw [if_neg hm, if_neg (a3 ▸ hm)]
        exact ⟨a1, a2, a3, a4, a5⟩
  unfold eN eSo
  exact (key 10).1
theorem c_none {d : Nat} {x : zH} {g : zHl} {n k : Nat} {st x1 x2 : Int32} (V : zVal g n k) (H : zHil x 7 g n k) (h15 : x 1 5 = nI n) (hs : x 7 7 = st) : ∃ y, zE (d + 1) 100 (16, [some (.ref 0), some (.int x1), some (.int x2), some (.int 0)], [], x) = zE (d + 1) 100 (48, [some (.ref 0), some (.int x1), some (.int x2), some (.int 0)], [], y) ∧ zHil y 7 (gK g 0) n k ∧ y 7 7 = st ∧ zFr zMT x y := by
  have hn := V.1
  have lp : ∀ t i z G, i + t = n → kSo G g 0 i → zHil z 7 G n k → z 7 7 = st → zFr zMT x z → ∃ y, zE (d + 1) 100 (16, [some (.ref 0), some (.int x1), some (.int x2), some (.int (nI i))], [], z) = zE (d + 1) 100 (48, [some (.ref 0), some (.int x1), some (.int x2), some (.int 0)], [], y) ∧ zHil y 7 (gK g 0) n k ∧ y 7 7 = st ∧ zFr zMT x y := by
    intro t
    induction t with
    | zero =>
      intro i z G hi S z1 z2 z3
      have hi : i = n := hi
      subst hi
      have z15 : z 1 5 = nI i := by rw [z3 1 (zMT_n (by omega))]; exact h15
      exact ⟨z, by rw [E100_0_at16, z15, if_pos (nI_le (by omega) (by omega))], zHil_ext z1 (kSo_e S), z2, z3⟩
    | succ t ih =>
      intro i z G hi S z1 z2 z3
      have z15 : z 1 5 = nI n := by rw [z3 1 (zMT_n (by omega))]; exact h15
      rw [E100_0_at16, z15, if_neg (nI_ge (by omega) (by omega)), c_put (n := 10) rfl (by omega), zCv_some, pt_nI (by omega) (by omega), nI_1]
      exact ih (i + 1) _ (gW G i (-9)) (by omega) (kSo_s S gK0.symm) (zHil_W z1) (by rw [z_up_ne (by omega)]; exact z2) (zFr_tr z3 (zFr_up (by unfold zMT; omega)))
  exact lp n 0 x g (by omega) ⟨fun _ _ => rfl, fun j hj => absurd hj (by omega)⟩ H hs (fun _ _ => rfl)
theorem c_solo {d : Nat} {x : zH} {g : zHl} {n k r : Nat} {st : Int32} (V : zVal g n k) (H : zHil x 7 (gK g 0) n k) (hs : x 7 7 = st) (hr : r < k) : ∃ y, zcal (d + 4) 62 [.ref 19, .ref 7, .int (nI r), .int (-1), .int (-1), .int 0] x = some (none, y) ∧ y 7 8 = nI (eSo g n k r st).1 ∧ zHil y 7 (gK g 0) n k ∧ y 7 7 = st ∧ zFr zMT x y := by
  obtain ⟨y, e, I⟩ := c_run (d := d) (b := rF) (u := rF) (w := rF) H (zVal_K V) (x2 := nI r) (x3 := -1) (x4 := -1) (x5 := 0) (Or.inl ⟨r, hr, rfl⟩) (fun s hs => ⟨fun q => absurd q (nI_m1 hs), fun q => by cases q⟩) (fun s hs => ⟨fun q => absurd q (nI_m1 hs), fun q => by cases q⟩) (fun s hs => ⟨fun q => absurd q (bit0 hs), fun q => by cases q⟩)
  rw [hs] at I
  unfold eSo
  refine ⟨y, e, I.2.2.1, I.1, I.2.1, zcal_fr zMT_clo _ _ _ _ _ e (fun v hv => ?_)⟩
  simp at hv
  rcases hv with rfl | rfl
  · exact Or.inr ⟨by omega, by omega⟩
  · exact Or.inl ⟨by omega, by omega⟩
theorem r_192 {d : Nat} {x : zH} {g : zHl} {n k r : Nat} (R : Rel0 g n k x) (hr : r < k) : ∃ y, zcal (d + 6) 192 [.ref 32, .int (nI r)] x = some (some (.int (nI (eSo g n k r (x 1 7)).1)), y) ∧ zPers x y ∧ y 30 = x 30 ∧ y 33 = x 33 := by
  have V := R.1.1
  have hn := V.1
  have hk := V.2.1
  have Hk : zHr (kpB x 1 48) g n k := zHr_mv R.1.2.2.1 (kpB_32 (by omega)) (kpB_32 (by omega)) (fun a p q => kpB_a (by omega) (by omega))
  rw [← solo_eq V hr]
  generalize hS : kpB x 1 48 = S at Hk
  have lp : ∀ t i z G, i + t = n → kSo G g 0 i → zHr z G n k → (∀ a, a ≠ 36 → z a = S a) → (∀ j, 10 ≤ j → z 36 j = S 36 j) → ∃ y, zE (d + 5) 192 (6, [some (.ref 32), some (.int (nI r)), some (.int (nI i))], [], z) = zE (d + 5) 192 (6, [some (.ref 32), some (.int (nI r)), some (.int (nI n))], [], y) ∧ zHr y (gK g 0) n k ∧ (∀ a, a ≠ 36 → y a = S a) ∧ ∀ j, 10 ≤ j → y 36 j = S 36 j := by
    intro t
    induction t with
    | zero =>
      intro i z G hi Q z1 z3 z4
      have hi : i = n := hi
      subst hi
      exact ⟨z, rfl, zHr_ext z1 (kSo_e Q), z3, z4⟩
    | succ t ih =>
      intro i z G hi Q z1 z3 z4
      rw [E192_32_at6, z1.1, if_neg (nI_ge (by omega) (by omega)), zG_nI (by omega) (by omega), nI_tn (by omega), nI_1]
      exact ih (i + 1) _ (gW G i (-9)) (by omega) (kSo_s Q gK0.symm) (zHr_W z1) (fun a ha => by rw [z_up_ne ha]; exact z3 a ha) (fun j hj => by rw [zu_ni _ _ (by omega)]; exact z4 j hj)
  obtain ⟨w, ew, w1, w2, w3⟩ := lp n 0 S g (by omega) ⟨fun _ _ => rfl, fun j hj => absurd hj (by omega)⟩ Hk (fun _ _ => rfl) (fun _ _ => rfl)
  subst hS
  have v37 : w 37 r = g 3 r := by rw [(w1.2.2.2 r hr).1, gK_o (by omega)]
  have v38 : w 38 r = g 4 r := by rw [(w1.2.2.2 r hr).2, gK_o (by omega)]
  have H3 := zHr_M4 (r0 := 0) (v := g 4 r) (zHr_M3 (r0 := 0) (v := g 3 r) w1)
  have H3 : zHr (z_up (z_up w 37 0 (g 3 r)) 38 0 (g 4 r)) (gO g r) n k := H3
  generalize hS : z_up (z_up w 37 0 (g 3 r)) 38 0 (g 4 r) = S at H3
  have Sn : ∀ a, a ≠ 37 → a ≠ 38 → S a = w a := fun a p q => by rw [← hS, z_up_ne q, z_up_ne p]
  have Sj : ∀ a j, j ≠ 0 → S a j = w a j := fun a j hj => by rw [← hS, zu_ni _ _ hj, zu_ni _ _ hj]
  have W8 : S 32 8 = x 1 7 := by rw [Sn 32 (by omega) (by omega), w2 32 (by omega), kpB_32 (by omega)]; exact R.1.2.2.2.2 0 (by omega)
  obtain ⟨y, ey, J, G⟩ := r_now (d := d + 1) H3 (zVal_O V hr) (by rw [W8]; exact R.1.2.2.2.1.1) (rAt0_mv R.2.2.2.2.2 (fun j p q => by rw [Sn 32 (by omega) (by omega), w2 32 (by omega), kpB_32 (by omega)]))
  rw [W8] at ey
  clear J
  have all : ∀ a, a ≠ 32 → (a < 36 ∨ 38 < a) → a ≠ 44 → a ≠ 45 → y a = kpB x 1 48 a := fun a q1 q2 q3 q4 => by rw [G.1 a q1 q3 q4, Sn a (by omega) (by omega), w2 a (by omega)]
  refine ⟨rdB y 1 48, ?_, keep_pers (fun j p q => by rw [all 43 (by omega) (by omega) (by omega) (by omega)]) (fun a p q j hj => ?_) (fun a p q => by rw [all a (by omega) (by omega) (by omega) (by omega), kpB_a (by omega) (by omega)]) (by rw [all 39 (by omega) (by omega) (by omega) (by omega), kpB_a (by omega) (by omega)]) (by rw [all 46 (by omega) (by omega) (by omega) (by omega), kpB_a (by omega) (by omega)]) (fun j hj => by rw [all 43 (by omega) (by omega) (by omega) (by omega), kpB_43 (by omega)]) (fun j hj => by rw [G.2 j (by omega), Sn 32 (by omega) (by omega), w2 32 (by omega), kpB_32 (by omega)]), by rw [rdB_c (by omega) (by omega), all 30 (by omega) (by omega) (by omega) (by omega), kpB_a (by omega) (by omega)], by rw [rdB_c (by omega) (by omega), all 33 (by omega) (by omega) (by omega) (by omega), kpB_a (by omega) (by omega)]⟩
  · have ew : zE (d + 5) 192 (6, [some (.ref 32), some (.int (nI r)), some (.int 0)], [], kpB x 1 48) = _ := ew
    have g0 : ∀ K : Option zE0, zG (0 : Int32) 5 K = K := fun K => zG_nI (s := 0) (by omega) (by omega)
    have c0 : (0 : Int32).toNatClampNeg = 0 := rfl
    unfold eN
    rw [E192_32, r_173 (d := d + 1), zCv_some, ew, E192_32_at6, w1.1, if_pos (nI_le (by omega) (by omega)), zG_nI (by omega) (by omega), g0, zG_nI (by omega) (by omega), g0, c0, nI_tn (by omega), v37, v38, hS, ey, zCi_some, r_174 (d := d + 1), zCv_some]
  · by_cases z : a = 36
    · subst z; rw [G.1 36 (by omega) (by omega) (by omega), Sn 36 (by omega) (by omega), w3 j (by omega), kpB_a (by omega) (by omega)]
    · by_cases z2 : a = 37 ∨ a = 38
      · rw [G.1 a (by omega) (by omega) (by omega), Sj a j (by omega), w2 a (by omega), kpB_a (by omega) (by omega)]
      · rw [all a (by omega) (by omega) (by omega) (by omega), kpB_a (by omega) (by omega)]
def sB (Q : Nat → Bool) : Nat → Nat → Int32 → Int32
  | 0, _, a => a
  | t + 1, r, a => sB Q t (r + 1) (if Q r = true then a else a ||| ((1 : Int32) <<< (nI r &&& 31)))
end SOLO

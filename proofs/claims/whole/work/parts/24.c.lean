/-! WHAT MAY BE TAKEN BACK -/
theorem mod8 : ∀ a : Nat, a < 17 → nI a - nI a / 8 * 8 = nI (a % 8) := by decide
theorem mul16 : ∀ a : Nat, a < 8 → nI a * 16 = nI (16 * a) := by decide
def csn (h : zH) (i : Nat) : Int32 := if i < 10 then h 4 i else h 1 (i - 3)
def cPu (h : zH) (b i : Nat) : zH := fun c j => if c = 24 ∧ b ≤ j ∧ j < b + i then csn h (j - b) else h c j
def pE (c : Nat) : Nat := if c = 8 then 7 else c
def pS (c : Nat) : Nat := if c = 8 then 1 else 0
def pF (f c : Nat) : Nat := if c = 8 then (f + 1) % 8 else f
theorem cPu_0 (h : zH) (b : Nat) : cPu h b 0 = h := by funext c j; unfold cPu; rw [if_neg (by omega)]
theorem cPu_s {h : zH} {b e : Nat} {x : Int32} (hx : x = csn h e) : z_up (cPu h b e) 24 (b + e) x = cPu h b (e + 1) := by
  subst hx
  funext c j
  simp only [zu_ap, cPu]
  by_cases a : c = 24 ∧ j = b + e
  · rw [if_pos a, if_pos ⟨a.1, by omega, by omega⟩, a.2, show b + e - b = e by omega]
  · rw [if_neg a]
    by_cases q : c = 24 ∧ b ≤ j ∧ j < b + e
    · rw [if_pos q, if_pos ⟨q.1, q.2.1, by omega⟩]
    · rw [if_neg q, if_neg (by omega)]
theorem cPu_o {h : zH} {b e c j : Nat} (hc : c ≠ 24) : cPu h b e c j = h c j := by unfold cPu; rw [if_neg (by omega)]
theorem l_push {d : Nat} {h : zH} {b : Nat} (hb : b ≤ 112) : ∀ m i, i + m = 10 → zE (d + 1) 50 (60, [some (.ref 23), some (.ref 1), some (.int (nI b)), some (.int (nI i))], [], cPu h b i) = some (none, cPu h b 16) := by
  intro m
  induction m with
  | zero =>
    intro i hi
    have hi : i = 10 := hi
    subst hi
    have t0 : nI b + (10 : Int32) = nI (b + 10) := nn_add b 10
    have t1 : nI (b + 10) + (1 : Int32) = nI (b + 11) := nn_add (b + 10) 1
    have t2 : nI (b + 10) + (2 : Int32) = nI (b + 12) := nn_add (b + 10) 2
    have t3 : nI (b + 10) + (3 : Int32) = nI (b + 13) := nn_add (b + 10) 3
    have t4 : nI (b + 10) + (4 : Int32) = nI (b + 14) := nn_add (b + 10) 4
    have t5 : nI (b + 10) + (5 : Int32) = nI (b + 15) := nn_add (b + 10) 5
    rw [E50_23_1_at60, if_pos ge10, t0, t1, t2, t3, t4, t5, cPu_o (by omega),
      c_put (n := 128) rfl (by omega), zCv_some, pt_nI (by omega) (by omega), cPu_s (by rfl), cPu_o (by omega),
      c_put (n := 128) rfl (by omega), zCv_some, pt_nI (by omega) (by omega), cPu_s (by rfl), cPu_o (by omega),
      c_put (n := 128) rfl (by omega), zCv_some, pt_nI (by omega) (by omega), cPu_s (by rfl), cPu_o (by omega),
      c_put (n := 128) rfl (by omega), zCv_some, pt_nI (by omega) (by omega), cPu_s (by rfl), cPu_o (by omega),
      c_put (n := 128) rfl (by omega), zCv_some, pt_nI (by omega) (by omega), cPu_s (by rfl), cPu_o (by omega),
      c_put (n := 128) rfl (by omega), zCv_some, pt_nI (by omega) (by omega), cPu_s (by rfl)]
  | succ m ih =>
    intro i hi
    rw [E50_23_1_at60, if_neg (nge10 (by omega)), c_get (n := 10) rfl (by omega), zCi_some, gt_nI (by omega) (by omega), nn_add, c_put (n := 128) rfl (by omega), zCv_some, pt_nI (by omega) (by omega), cPu_o (by omega), cPu_s (by unfold csn; rw [if_pos (by omega)]), nI_1]
    exact ih (i + 1) (by omega)
def cPs (h h' : zH) (f c : Nat) : Prop := h' 23 1 = nI (pF f c) ∧ h' 23 2 = nI (pE c + 1) ∧ (∀ i, i < 16 → h' 24 (16 * ((pF f c + pE c) % 8) + i) = csn h i) ∧ ∀ j i, j < pE c → i < 16 → h' 24 (16 * ((pF f c + j) % 8) + i) = h 24 (16 * ((f + (j + pS c)) % 8) + i)
theorem c_push {d : Nat} {h : zH} {f c : Nat} (hf : f < 8) (hc : c ≤ 8) (e1 : h 23 1 = nI f) (e2 : h 23 2 = nI c) : ∃ h', zcal (d + 2) 50 [.ref 23, .ref 1] h = some (none, h') ∧ cPs h h' f c ∧ ∀ a, a ≠ 23 → a ≠ 24 → h' a = h a := by
  have key : ∀ (H : zH) (b : Nat), b ≤ 112 → zE (d + 1) 50 (60, [some (.ref 23), some (.ref 1), some (.int (nI b)), some (.int 0)], [], H) = some (none, cPu H b 16) := by
    intro H b hb
    have := l_push (d := d) (h := H) hb 10 0 (by omega)
    rw [cPu_0] at this
    exact this
  have fin : ∀ (H : zH), (∀ a, a ≠ 23 → H a = h a) → H 23 1 = nI (pF f c) → H 23 2 = nI (pE c + 1) → cPs h (cPu H (16 * ((pF f c + pE c) % 8)) 16) f c ∧ ∀ a, a ≠ 23 → a ≠ 24 → cPu H (16 * ((pF f c + pE c) % 8)) 16 a = h a := by
    intro H hH h1 h2
    refine ⟨⟨by rw [cPu_o (by omega), h1], by rw [cPu_o (by omega), h2], fun i hi => ?_, fun j i hj hi => ?_⟩, fun a q1 q2 => by funext j; rw [cPu_o q2, hH a q1]⟩
    · unfold cPu
      rw [if_pos ⟨rfl, by omega, by omega⟩, show 16 * ((pF f c + pE c) % 8) + i - 16 * ((pF f c + pE c) % 8) = i by omega]
      unfold csn
      rw [hH 4 (by omega), hH 1 (by omega)]
    · have hpe : pE c ≤ 7 := by unfold pE; split <;> omega
      unfold cPu
      rw [if_neg (by omega), hH 24 (by omega)]
      congr 2
      unfold pF pS
      split <;> omega
  by_cases c8 : c = 8
  · subst c8
    have hp : pF f 8 = (f + 1) % 8 := rfl
    have m1 : nI f + (1 : Int32) - (nI f + 1) / 8 * 8 = nI ((f + 1) % 8) := by rw [nI_1]; exact mod8 (f + 1) (by omega)
    have m2 : ∀ q, q < 8 → nI q + (nI 8 - (1 : Int32)) - (nI q + (nI 8 - 1)) / 8 * 8 = nI ((q + 7) % 8) := fun q hq => by
      have : nI q + (nI 8 - (1 : Int32)) = nI (q + 7) := nn_add q 7
      rw [this]; exact mod8 (q + 7) (by omega)
    refine ⟨cPu (z_up (z_up (z_up h 23 1 (nI ((f + 1) % 8))) 23 2 (nI 8 - 1)) 23 2 (nI 8 - 1 + 1)) (16 * (((f + 1) % 8 + 7) % 8)) 16, ?_, fin _ (fun a ha => by rw [z_up_ne ha, z_up_ne ha, z_up_ne ha]) (by rw [zu_ni _ _ (by omega), zu_ni _ _ (by omega), zu_eq]; rfl) (by rw [zu_eq]; rfl)⟩
    rw [E50_23_1, e1, e2, if_pos (show nI 8 = (8 : Int32) from rfl), m1, m2 _ (by omega), mul16 _ (by omega)]
    exact key _ _ (by omega)
  · have hp : pF f c = f := by unfold pF; rw [if_neg c8]
    have he : pE c = c := by unfold pE; rw [if_neg c8]
    have n8 : ¬ nI c = (8 : Int32) := fun q => c8 ((nI_eq (a := c) (b := 8) (by omega) (by omega)).mp q)
    have m1 : nI f + nI c - (nI f + nI c) / 8 * 8 = nI ((f + c) % 8) := by rw [nn_add]; exact mod8 (f + c) (by omega)
    refine ⟨cPu (z_up h 23 2 (nI c + 1)) (16 * ((f + c) % 8)) 16, ?_, ?_⟩
    · rw [E50_23_1, e1, e2, if_neg n8, m1, mul16 _ (by omega)]
      exact key _ _ (by omega)
    · have := fin (z_up h 23 2 (nI c + 1)) (fun a ha => z_up_ne ha) (by rw [zu_ni _ _ (by omega), hp, e1]) (by rw [zu_eq, he, nI_1])
      rw [hp, he] at this
      exact this
/-! THE REFERENCE'S -/
def sh43 (h : zH) (i : Nat) : zH := fun c j => if c = 43 ∧ 96 ≤ j ∧ j < 96 + i then h 43 (j + 48) else h c j
theorem l_shift {d : Nat} {h : zH} : ∀ m i, i + m = 336 → zE d 168 (12, [some (.ref 32), some (.int (nI (96 + i)))], [], sh43 h i) = zE d 168 (12, [some (.ref 32), some (.int (nI 432))], [], sh43 h 336) := by
  intro m
  induction m with
  | zero => intro i hi; have hi : i = 336 := hi; subst hi; rfl
  | succ m ih =>
    intro i hi
    have t : nI (96 + i) + (48 : Int32) = nI (96 + i + 48) := nn_add _ 48
    rw [E168_32_at12, if_neg (show ¬ nI (96 + i) ≥ (432 : Int32) from nI_ge (b := 432) (by omega) (by omega)), t, zG_nI (by omega) (by omega), zG_nI (by omega) (by omega), nI_tn (by omega), nI_tn (by omega), nI_1]
    have e : z_up (sh43 h i) 43 (96 + i) (sh43 h i 43 (96 + i + 48)) = sh43 h (i + 1) := by
      funext c j
      have e1 : sh43 h i 43 (96 + i + 48) = h 43 (96 + i + 48) := by unfold sh43; rw [if_neg (by omega)]
      rw [zu_ap, e1]
      unfold sh43
      by_cases a : c = 43 ∧ j = 96 + i
      · rw [if_pos a, if_pos ⟨a.1, by omega, by omega⟩, a.2]
      · rw [if_neg a]
        by_cases q : c = 43 ∧ 96 ≤ j ∧ j < 96 + i
        · rw [if_pos q, if_pos ⟨q.1, q.2.1, by omega⟩]
        · rw [if_neg q, if_neg (by omega)]
    rw [e]
    exact ih (i + 1) (by omega)
def rPs (h h' : zH) (c : Nat) : Prop := h' 32 25 = nI (pE c + 1) ∧ (∀ i, i < 48 → h' 43 (48 * (2 + pE c) + i) = snap h i) ∧ ∀ j i, j < pE c → i < 48 → h' 43 (48 * (2 + j) + i) = h 43 (48 * (2 + (j + pS c)) + i)
theorem snap_eq {h h' : zH} (r : ∀ a, 34 ≤ a → a ≤ 38 → h' a = h a) (f : ∀ j, 6 ≤ j → j ≤ 13 → h' 32 j = h 32 j) {i : Nat} (hi : i < 48) : snap h' i = snap h i := by
  unfold snap
  rw [r 34 (by omega) (by omega), r 35 (by omega) (by omega), r 36 (by omega) (by omega), r 37 (by omega) (by omega), r 38 (by omega) (by omega)]
  by_cases q : 40 ≤ i
  · rw [f (i - 34) (by omega) (by omega)]
  · rw [if_pos (show i < 40 by omega), if_pos (show i < 40 by omega)]
theorem r_push {d : Nat} {h : zH} {c : Nat} (hc : c ≤ 8) (e1 : h 32 25 = nI c) : ∃ h', zcal (d + 4) 168 [.ref 32] h = some (none, h') ∧ rPs h h' c ∧ (∀ a, a ≠ 32 → a ≠ 43 → h' a = h a) ∧ (∀ j, j ≠ 23 → j ≠ 24 → j ≠ 25 → h' 32 j = h 32 j) ∧ ∀ i, i < 96 → h' 43 i = h 43 i := by
  have kin : ∀ (H : zH) (w i : Nat), i < 48 → kpB H w 48 43 (48 * w + i) = snap H i := by
    intro H w i hi
    unfold kpB
    rw [if_pos ⟨rfl, by omega, by omega⟩, show 48 * w + i - 48 * w = i by omega]
  have kout : ∀ (H : zH) (w i : Nat), i < 48 * w ∨ 48 * w + 48 ≤ i → kpB H w 48 43 i = H 43 i := by
    intro H w i hi
    unfold kpB
    rw [if_neg (by omega), if_neg (by omega), if_neg (by omega)]
  by_cases c8 : c = 8
  · subst c8
    have s0 : sh43 h 0 = h := by funext c j; unfold sh43; rw [if_neg (by omega)]
    have ls := l_shift (d := d + 3) (h := h) 336 0 (by omega)
    rw [s0] at ls
    have e25 : sh43 h 336 32 25 = nI 8 := by unfold sh43; rw [if_neg (by omega), e1]
    have t : (2 : Int32) + (nI 8 - 1) = nI 9 := by decide
    refine ⟨z_up (kpB (z_up (sh43 h 336) 32 25 (nI 8 - 1)) 9 48) 32 25 (nI 8 - 1 + 1), ?_, ⟨?_, fun i hi => ?_, fun j i hj hi => ?_⟩, fun a q1 q2 => ?_, fun j q1 q2 q3 => ?_, fun i hi => ?_⟩
    · rw [E168_32, e1, if_pos (show nI 8 = (8 : Int32) from rfl)]
      refine ls.trans ?_
      rw [E168_32_at12, if_pos (show nI 432 ≥ (432 : Int32) by decide), e25, t, r_keep (by omega), zCv_some, kpB_o (by omega) (by omega), zu_eq]
    · rw [zu_eq]; rfl
    · rw [zu_nc _ _ (by omega)]
      show kpB _ 9 48 43 (48 * 9 + i) = _
      rw [kin _ _ _ hi]
      exact snap_eq (fun a p q => by rw [z_up_ne (by omega)]; funext j; unfold sh43; rw [if_neg (by omega)]) (fun j p q => by rw [zu_ni _ _ (by omega)]; unfold sh43; rw [if_neg (by omega)]) hi
    · have hj : j < 7 := hj
      rw [zu_nc _ _ (by omega), kout _ _ _ (by omega), zu_nc _ _ (by omega)]
      unfold sh43
      rw [if_pos ⟨rfl, by omega, by omega⟩]
      congr 1
      have : pS 8 = 1 := rfl
      omega
    · rw [z_up_ne q1]; funext j; rw [kpB_o q2 (by omega), zu_nc _ _ q1]; unfold sh43; rw [if_neg (by omega)]
    · rw [zu_ni _ _ q3, kpB_o (by omega) (by omega), zu_ni _ _ q3]; unfold sh43; rw [if_neg (by omega)]
    · rw [zu_nc _ _ (by omega), kout _ _ _ (by omega), zu_nc _ _ (by omega)]; unfold sh43; rw [if_neg (by omega)]
  · have he : pE c = c := by unfold pE; rw [if_neg c8]
    have hs : pS c = 0 := by unfold pS; rw [if_neg c8]
    have n8 : ¬ nI c = (8 : Int32) := fun q => c8 ((nI_eq (a := c) (b := 8) (by omega) (by omega)).mp q)
    have t : (2 : Int32) + nI c = nI (2 + c) := nn_add 2 c
    refine ⟨z_up (kpB h (2 + c) 48) 32 25 (nI c + 1), ?_, ⟨?_, fun i hi => ?_, fun j i hj hi => ?_⟩, fun a q1 q2 => ?_, fun j q1 q2 q3 => ?_, fun i hi => ?_⟩
    · rw [E168_32, e1, if_neg n8, t, r_keep (by omega), zCv_some, kpB_o (by omega) (by omega), e1]
    · rw [zu_eq, he, nI_1]
    · rw [zu_nc _ _ (by omega), he, kin _ _ _ hi]
    · rw [he] at hj
      rw [zu_nc _ _ (by omega), kout _ _ _ (by omega), hs]; rfl
    · rw [z_up_ne q1]; funext j; rw [kpB_o q2 (by omega)]
    · rw [zu_ni _ _ q3, kpB_o (by omega) (by omega)]
    · rw [zu_nc _ _ (by omega), kout _ _ _ (by omega)]
theorem zSn_tr {h h' : zH} {w w' : Nat} {g g' : zHl} {n k : Nat} {f f' : Nat → Int32} (V : n ≤ 10 ∧ k ≤ 5) (H : zSn h w g n k f) (e : ∀ i, i < 48 → h' 43 (48 * w' + i) = h 43 (48 * w + i)) (e0 : ∀ r s, r < 5 → s < 10 → g' r s = g r s) (ef : ∀ i, i < 6 → f' i = f i) : zSn h' w' g' n k f' := by
  obtain ⟨a1, a2, a3, a4, a5⟩ := H
  have e2 : ∀ x i, x + i < 48 → h' 43 (48 * w' + x + i) = h 43 (48 * w + x + i) := fun x i hx => by rw [Nat.add_assoc, Nat.add_assoc]; exact e _ hx
  refine ⟨fun s hs => ?_, fun r hr => ?_, (e 40 (by omega)).trans a3, (e 41 (by omega)).trans a4, fun i hi => (e2 42 i (by omega)).trans ((a5 i hi).trans (ef i hi).symm)⟩
  · obtain ⟨b1, b2, b3⟩ := a1 s hs
    rw [e0 0 s (by omega) (by omega), e0 1 s (by omega) (by omega), e0 2 s (by omega) (by omega)]
    exact ⟨(e s (by omega)).trans b1, (e2 10 s (by omega)).trans b2, (e2 20 s (by omega)).trans b3⟩
  · obtain ⟨b1, b2⟩ := a2 r hr
    rw [e0 3 r (by omega) (by omega), e0 4 r (by omega) (by omega)]
    exact ⟨(e2 30 r (by omega)).trans b1, (e2 35 r (by omega)).trans b2⟩
theorem bOk_ex {n k : Nat} {f f' : Nat → Int32} (b : bOk n k f) (e : ∀ i, i < 6 → f' i = f i) : bOk n k f' := by
  unfold bOk at b ⊢
  rw [e 0 (by omega), e 1 (by omega), e 2 (by omega), e 3 (by omega), e 4 (by omega), e 5 (by omega)]
  exact b
/-- the RelP of a ring f, c -/
def RelPf (g : zHl) (n k : Nat) (h : zH) (f c : Nat) : Prop := f < 8 ∧ c ≤ 8 ∧ h 23 1 = nI f ∧ h 23 2 = nI c ∧ h 32 25 = nI c ∧ ∀ j, j < c → (∀ s, s < n → (h 24 (16 * ((f + j) % 8) + s) = -9 ∨ ∃ x, x < k ∧ h 24 (16 * ((f + j) % 8) + s) = nI x)) ∧ bOk n k (fun i => h 24 (16 * ((f + j) % 8) + 10 + i)) ∧ zSn h (2 + j) (fun r => if r = 2 then (fun s => h 24 (16 * ((f + j) % 8) + s)) else g r) n k (fun i => h 24 (16 * ((f + j) % 8) + 10 + i))
theorem RelP_f {g : zHl} {n k : Nat} {h : zH} (R : RelP g n k h) : ∃ f c, RelPf g n k h f c := R
theorem RelP_psh {h hF : zH} {g : zHl} {n k f c : Nat} (RH : RelH g n k h) (RP : RelPf g n k h f c) (C : cPs h hF f c) (D : rPs h hF c) : RelP g n k hF := by
  obtain ⟨V, H1, H2, B, Q⟩ := RH
  obtain ⟨p1, p2, p3, p4, p5, p6⟩ := RP
  obtain ⟨c1, c2, c3, c4⟩ := C
  obtain ⟨d1, d2, d3⟩ := D
  have hn := V.1; have hk := V.2.1
  have hpe : pE c ≤ 7 ∧ pE c + pS c ≤ c ∧ pF f c < 8 := by unfold pE pS pF; split <;> omega
  refine ⟨pF f c, pE c + 1, hpe.2.2, by omega, c1, c2, d1, fun j hj => ?_⟩
  by_cases q : j < pE c
  · obtain ⟨r1, r2, r3⟩ := p6 (j + pS c) (by omega)
    have e1 : ∀ i, i < 16 → hF 24 (16 * ((pF f c + j) % 8) + i) = h 24 (16 * ((f + (j + pS c)) % 8) + i) := fun i hi => c4 j i q hi
    have e2 : ∀ i, i < 6 → hF 24 (16 * ((pF f c + j) % 8) + 10 + i) = h 24 (16 * ((f + (j + pS c)) % 8) + 10 + i) := fun i hi => by rw [Nat.add_assoc, Nat.add_assoc]; exact e1 _ (by omega)
    refine ⟨fun s hs => by rw [e1 s (by omega)]; exact r1 s hs, bOk_ex r2 e2, zSn_tr ⟨hn, hk⟩ r3 (fun i hi => d3 j i q hi) (fun r s hr hs => ?_) e2⟩
    by_cases r2 : r = 2
    · subst r2; exact e1 s (by omega)
    · simp [r2]
  · have q : j = pE c := by omega
    subst q
    have e1 : ∀ i, i < 10 → hF 24 (16 * ((pF f c + pE c) % 8) + i) = h 4 i := fun i hi => by rw [c3 i (by omega)]; unfold csn; rw [if_pos hi]
    have e2 : ∀ i, i < 6 → hF 24 (16 * ((pF f c + pE c) % 8) + 10 + i) = h 1 (7 + i) := fun i hi => by rw [Nat.add_assoc, c3 _ (by omega)]; unfold csn; rw [if_neg (by omega), show 10 + i - 3 = 7 + i by omega]
    have f2 : ∀ x i, x + i < 48 → hF 43 (48 * (2 + pE c) + x + i) = snap h (x + i) := fun x i hx => by rw [Nat.add_assoc]; exact d2 _ hx
    refine ⟨fun s hs => ?_, bOk_ex B e2, ⟨fun s hs => ?_, fun r hr => ?_, ?_, ?_, fun i hi => ?_⟩⟩
    · rw [e1 s (by omega), show h 4 s = g 2 s from (H1.2.2.1 s hs).2.2]; exact (V.2.2.1 s hs).1
    · obtain ⟨k1, k2, k3⟩ := H2.2.2.1 s hs
      refine ⟨?_, ?_, ?_⟩
      · rw [d2 s (by omega)]; unfold snap; rw [if_pos (by omega), k1]; rfl
      · rw [f2 10 s (by omega)]; unfold snap; rw [if_neg (by omega), if_pos (by omega), show 10 + s - 10 = s by omega, k2]; rfl
      · rw [f2 20 s (by omega)]; unfold snap; rw [if_neg (by omega), if_neg (by omega), if_pos (by omega), show 20 + s - 20 = s by omega, k3, ← (H1.2.2.1 s hs).2.2]; exact (e1 s (by omega)).symm
    · obtain ⟨k1, k2⟩ := H2.2.2.2 r hr
      refine ⟨?_, ?_⟩
      · rw [f2 30 r (by omega)]; unfold snap; rw [if_neg (by omega), if_neg (by omega), if_neg (by omega), if_pos (by omega), show 30 + r - 30 = r by omega, k1]; rfl
      · rw [f2 35 r (by omega)]; unfold snap; rw [if_neg (by omega), if_neg (by omega), if_neg (by omega), if_neg (by omega), if_pos (by omega), show 35 + r - 35 = r by omega, k2]; rfl
    · rw [d2 40 (by omega)]; exact H2.1
    · rw [d2 41 (by omega)]; exact H2.2.1
    · rw [f2 42 i (by omega)]
      show _ = hF 24 (16 * ((pF f c + pE c) % 8) + 10 + i)
      rw [e2 i hi, ← Q i hi]; unfold snap; rw [if_neg (by omega), if_neg (by omega), if_neg (by omega), if_neg (by omega), if_neg (by omega), show 42 + i - 34 = 8 + i by omega]

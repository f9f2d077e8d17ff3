/-! THE FEWEST CHANGES -/
section FEW
theorem zHil_ext {h : zH} {a : Nat} {g g' : zHl} {n k : Nat} (H : zHil h a g n k) (e : ∀ r j, (r ≤ 2 → j < n) → g' r j = g r j) : zHil h a g' n k := by
  obtain ⟨h1, h2, h3, h4⟩ := H
  refine ⟨h1, h2, fun s hs => ?_, fun r hr => ?_⟩
  · rw [e 0 s (fun _ => hs), e 1 s (fun _ => hs), e 2 s (fun _ => hs)]; exact h3 s hs
  · rw [e 3 r (fun q => absurd q (by omega)), e 4 r (fun q => absurd q (by omega))]; exact h4 r hr
theorem zHr_ext {h : zH} {g g' : zHl} {n k : Nat} (H : zHr h g n k) (e : ∀ r j, (r ≤ 2 → j < n) → g' r j = g r j) : zHr h g' n k := by
  obtain ⟨h1, h2, h3, h4⟩ := H
  refine ⟨h1, h2, fun s hs => ?_, fun r hr => ?_⟩
  · rw [e 0 s (fun _ => hs), e 1 s (fun _ => hs), e 2 s (fun _ => hs)]; exact h3 s hs
  · rw [e 3 r (fun q => absurd q (by omega)), e 4 r (fun q => absurd q (by omega))]; exact h4 r hr
/-- the changes of a mask alone -/
def gK (g : zHl) (m : Nat) : zHl := fun r j => if r = 2 then (if m.testBit j = true then g 2 j else -9) else g r j
theorem gK_o {g : zHl} {m r : Nat} (h : r ≠ 2) : gK g m r = g r := by funext j; exact if_neg h
theorem gK_v {g : zHl} {m j : Nat} : gK g m 2 j = if m.testBit j = true then g 2 j else -9 := if_pos rfl
theorem zVal_K {g : zHl} {n k m : Nat} (V : zVal g n k) : zVal (gK g m) n k := by
  obtain ⟨v1, v2, v3, v4⟩ := V
  refine ⟨v1, v2, fun s hs => ?_, fun r h => ?_⟩
  · obtain ⟨q1, q2, q3⟩ := v3 s hs
    rw [gK_o (r := 0) (by omega), gK_o (r := 1) (by omega), gK_v]
    refine ⟨?_, q2, q3⟩
    by_cases c : m.testBit s = true
    · rw [if_pos c]; exact q1
    · rw [if_neg c]; exact Or.inl rfl
  · rw [gK_o (by omega), gK_o (by omega)]; exact v4 r h
/-- row 2 written to gK up to i -/
def kSo (G g : zHl) (m i : Nat) : Prop := (∀ r, r ≠ 2 → G r = g r) ∧ ∀ j, j < i → G 2 j = gK g m 2 j
theorem kSo_s {G g : zHl} {m i : Nat} {v : Int32} (S : kSo G g m i) (hv : v = gK g m 2 i) : kSo (gW G i v) g m (i + 1) := by
  refine ⟨fun r hr => by rw [gW_o hr]; exact S.1 r hr, fun j hj => ?_⟩
  rw [gW_v]
  by_cases e : j = i
  · rw [if_pos e, e]; exact hv
  · rw [if_neg e]; exact S.2 j (by omega)
theorem kSo_e {G g : zHl} {m n : Nat} (S : kSo G g m n) : ∀ r j, (r ≤ 2 → j < n) → gK g m r j = G r j := by
  intro r j h
  by_cases e : r = 2
  · subst e; exact (S.2 j (h (by omega))).symm
  · rw [gK_o e, S.1 r e]
theorem c_99 {d : Nat} {x : zH} {G g : zHl} {n k m : Nat} {st : Int32} (V : zVal g n k) (H : zHil x 7 G n k) (hG : ∀ r, r ≠ 2 → G r = g r) (H1 : zHil x 1 g n k) (hs : x 7 7 = st) (hm : m < 1024) : ∃ y, zcal (d + 6) 99 [.ref 0, .int (nI m)] x = some (some (.int (nI (eN (gK g m) n k st).1)), y) ∧ zHil y 7 (gK g m) n k ∧ y 7 7 = st ∧ zFr zMT x y := by
  have hn := V.1
  have lp : ∀ t i z G, i + t = n → kSo G g m i → zHil z 7 G n k → z 7 7 = st → zFr zMT x z → ∃ y, zE (d + 5) 99 (2, [some (.ref 0), some (.int (nI m)), some (.int (nI i))], [], z) = zE (d + 5) 99 (2, [some (.ref 0), some (.int (nI m)), some (.int (nI n))], [], y) ∧ zHil y 7 (gK g m) n k ∧ y 7 7 = st ∧ zFr zMT x y := by
    intro t
    induction t with
    | zero =>
      intro i z G hi S z1 z2 z3
      have hi : i = n := hi
      subst hi
      exact ⟨z, rfl, zHil_ext z1 (kSo_e S), z2, z3⟩
    | succ t ih =>
      intro i z G hi S z1 z2 z3
      have z15 : z 1 5 = nI n := by rw [z3 1 (zMT_n (by omega))]; exact H1.1
      have z4 : z 4 i = g 2 i := by rw [z3 4 (zMT_n (by omega))]; exact (H1.2.2.1 i (by omega)).2.2
      have up : ∀ v, v = gK g m 2 i → ∃ y, zE (d + 5) 99 (2, [some (.ref 0), some (.int (nI m)), some (.int (nI (i + 1)))], [], z_up z 10 i v) = zE (d + 5) 99 (2, [some (.ref 0), some (.int (nI m)), some (.int (nI n))], [], y) ∧ zHil y 7 (gK g m) n k ∧ y 7 7 = st ∧ zFr zMT x y := fun v hv => ih (i + 1) _ (gW G i v) (by omega) (kSo_s S hv) (zHil_W z1) (by rw [z_up_ne (by omega)]; exact z2) (zFr_tr z3 (zFr_up (by unfold zMT; omega)))
      rw [E99_0_at2, z15, if_neg (nI_ge (by omega) (by omega)), c_bit (by omega), zCi_some]
      by_cases q : m.testBit i = true
      · rw [if_pos ((has_nI m hm i (by omega)).mpr q), if_neg (by decide), c_get (n := 10) rfl (by omega), zCi_some, gt_nI (by omega) (by omega), c_put (n := 10) rfl (by omega), zCv_some, pt_nI (by omega) (by omega), nI_1]
        exact up _ (by rw [gK_v, if_pos q, z4])
      · rw [if_neg (fun z => q ((has_nI m hm i (by omega)).mp z)), if_pos rfl, c_put (n := 10) rfl (by omega), zCv_some, pt_nI (by omega) (by omega), nI_1]
        exact up _ (by rw [gK_v, if_neg q])
  obtain ⟨y, ey, y1, y2, y3⟩ := lp n 0 x G (by omega) ⟨hG, fun j hj => absurd hj (by omega)⟩ H hs (fun _ _ => rfl)
  obtain ⟨w, ew, _, w1, w2, w3⟩ := c_endG (d := d) (zVal_K (m := m) V) y1 y2
  have y15 : y 1 5 = nI n := by rw [y3 1 (zMT_n (by omega))]; exact H1.1
  refine ⟨w, ?_, w1, w2, zFr_tr y3 w3⟩
  have ey : zE (d + 5) 99 (2, [some (.ref 0), some (.int (nI m)), some (.int 0)], [], x) = _ := ey
  rw [E99_0, ey, E99_0_at2, y15, if_pos (nI_le (by omega) (by omega)), ew, zCi_some]
theorem r_191 {d : Nat} {x : zH} {g : zHl} {n k m : Nat} (R : Rel0 g n k x) (hm : m < 1024) : ∃ y, zcal (d + 6) 191 [.ref 32, .int (nI m)] x = some (some (.int (nI (eN (gK g m) n k (x 1 7)).1)), y) ∧ zPers x y ∧ y 30 = x 30 ∧ y 33 = x 33 := by
  have V := R.1.1
  have hn := V.1
  have Hk : zHr (kpB x 1 48) g n k := zHr_mv R.1.2.2.1 (kpB_32 (by omega)) (kpB_32 (by omega)) (fun a p q => kpB_a (by omega) (by omega))
  generalize hS : kpB x 1 48 = S at Hk
  have lp : ∀ t i z G, i + t = n → kSo G g m i → zHr z G n k → (∀ j, i ≤ j → G 2 j = g 2 j) → (∀ a, a ≠ 36 → z a = S a) → (∀ j, 10 ≤ j → z 36 j = S 36 j) → ∃ y, zE (d + 5) 191 (6, [some (.ref 32), some (.int (nI m)), some (.int (nI i))], [], z) = zE (d + 5) 191 (6, [some (.ref 32), some (.int (nI m)), some (.int (nI n))], [], y) ∧ zHr y (gK g m) n k ∧ (∀ a, a ≠ 36 → y a = S a) ∧ ∀ j, 10 ≤ j → y 36 j = S 36 j := by
    intro t
    induction t with
    | zero =>
      intro i z G hi Q z1 z2 z3 z4
      have hi : i = n := hi
      subst hi
      exact ⟨z, rfl, zHr_ext z1 (kSo_e Q), z3, z4⟩
    | succ t ih =>
      intro i z G hi Q z1 z2 z3 z4
      have zi : z 36 i = g 2 i := by rw [(z1.2.2.1 i (by omega)).2.2]; exact z2 i (by omega)
      have up : ∀ v, v = gK g m 2 i → ∃ y, zE (d + 5) 191 (6, [some (.ref 32), some (.int (nI m)), some (.int (nI (i + 1)))], [], z_up z 36 i v) = zE (d + 5) 191 (6, [some (.ref 32), some (.int (nI m)), some (.int (nI n))], [], y) ∧ zHr y (gK g m) n k ∧ (∀ a, a ≠ 36 → y a = S a) ∧ ∀ j, 10 ≤ j → y 36 j = S 36 j := fun v hv => ih (i + 1) _ (gW G i v) (by omega) (kSo_s Q hv) (zHr_W z1) (fun j hj => by rw [gW_v, if_neg (by omega)]; exact z2 j (by omega)) (fun a ha => by rw [z_up_ne ha]; exact z3 a ha) (fun j hj => by rw [zu_ni _ _ (by omega)]; exact z4 j hj)
      rw [E191_32_at6, z1.1, if_neg (nI_ge (by omega) (by omega)), r_has, zCi_some]
      by_cases q : m.testBit i = true
      · rw [if_pos ((has_nI m hm i (by omega)).mpr q), if_neg (by decide), zG_nI (by omega) (by omega), zG_nI (by omega) (by omega), nI_tn (by omega), nI_1]
        exact up _ (by rw [gK_v, if_pos q, zi])
      · rw [if_neg (fun z => q ((has_nI m hm i (by omega)).mp z)), if_pos rfl, zG_nI (by omega) (by omega), nI_tn (by omega), nI_1]
        exact up _ (by rw [gK_v, if_neg q])
  obtain ⟨w, ew, w1, w2, w3⟩ := lp n 0 S g (by omega) ⟨fun _ _ => rfl, fun j hj => absurd hj (by omega)⟩ Hk (fun _ _ => rfl) (fun _ _ => rfl) (fun _ _ => rfl)
  subst hS
  have W8 : w 32 8 = x 1 7 := by rw [w2 32 (by omega), kpB_32 (by omega)]; exact R.1.2.2.2.2 0 (by omega)
  obtain ⟨y, ey, J, G⟩ := r_now (d := d + 1) w1 (zVal_K (m := m) V) (by rw [W8]; exact R.1.2.2.2.1.1) (rAt0_mv R.2.2.2.2.2 (fun j p q => by rw [w2 32 (by omega), kpB_32 (by omega)]))
  rw [W8] at ey
  clear J
  have all : ∀ a, a ≠ 32 → a ≠ 36 → a ≠ 44 → a ≠ 45 → y a = kpB x 1 48 a := fun a q1 q2 q3 q4 => by rw [G.1 a q1 q3 q4, w2 a q2]
  refine ⟨rdB y 1 48, ?_, keep_pers (fun j p q => by rw [all 43 (by omega) (by omega) (by omega) (by omega)]) (fun a p q j hj => ?_) (fun a p q => by rw [all a (by omega) (by omega) (by omega) (by omega), kpB_a (by omega) (by omega)]) (by rw [all 39 (by omega) (by omega) (by omega) (by omega), kpB_a (by omega) (by omega)]) (by rw [all 46 (by omega) (by omega) (by omega) (by omega), kpB_a (by omega) (by omega)]) (fun j hj => by rw [all 43 (by omega) (by omega) (by omega) (by omega), kpB_43 (by omega)]) (fun j hj => by rw [G.2 j (by omega), w2 32 (by omega), kpB_32 (by omega)]), by rw [rdB_c (by omega) (by omega), all 30 (by omega) (by omega) (by omega) (by omega), kpB_a (by omega) (by omega)], by rw [rdB_c (by omega) (by omega), all 33 (by omega) (by omega) (by omega) (by omega), kpB_a (by omega) (by omega)]⟩
  · unfold eN
    have ew : zE (d + 5) 191 (6, [some (.ref 32), some (.int (nI m)), some (.int 0)], [], kpB x 1 48) = _ := ew
    rw [E191_32, r_173 (d := d + 1), zCv_some, ew, E191_32_at6, w1.1, if_pos (nI_le (by omega) (by omega)), ey, zCi_some, r_174 (d := d + 1), zCv_some]
  · by_cases z : a = 36
    · subst z; rw [G.1 36 (by omega) (by omega) (by omega), w3 j (by omega), kpB_a (by omega) (by omega)]
    · rw [all a (by omega) z (by omega) (by omega), kpB_a (by omega) (by omega)]
/-! the least mask of the fewest, from below and from above -/
noncomputable def uF (P : Nat → Prop) (b : Nat → Nat) : Nat → Nat → Nat → Nat
  | 0, _, a => a
  | t + 1, i, a => uF P b t (i + 1) (@ite _ (b i < b a ∧ P i) (Classical.propDecidable _) i a)
noncomputable def dF (P : Nat → Prop) (b : Nat → Nat) : Nat → Nat → Nat
  | 0, a => a
  | i + 1, a => dF P b i (@ite _ (P i ∧ b i ≤ b a) (Classical.propDecidable _) i a)
def lx (b : Nat → Nat) (r i : Nat) : Prop := b r < b i ∨ (b r = b i ∧ r ≤ i)
theorem uF_least {P : Nat → Prop} {b : Nat → Nat} {H : Nat} (hP : ∀ j, P j → j ≤ H ∧ (b j = b H → j = H)) : ∀ t i a, (a = H ∨ (P a ∧ a < i)) → lx b a H → (∀ j, j < i → P j → lx b a j) → (uF P b t i a = H ∨ P (uF P b t i a)) ∧ lx b (uF P b t i a) H ∧ ∀ j, j < i + t → P j → lx b (uF P b t i a) j := by
  intro t
  induction t with
  | zero => intro i a h1 h2 h3; exact ⟨h1.elim Or.inl (fun q => Or.inr q.1), h2, h3⟩
  | succ t ih =>
    intro i a h1 h2 h3
    rw [uF, show i + (t + 1) = (i + 1) + t by omega]
    unfold lx at h2 h3
    by_cases q : b i < b a ∧ P i
    · rw [if_pos q]
      refine ih (i + 1) i (Or.inr ⟨q.2, by omega⟩) (by unfold lx; omega) (fun j hj pj => ?_)
      unfold lx
      by_cases e : j = i
      · rw [e]; omega
      · have := h3 j (by omega) pj; omega
    · rw [if_neg q]
      refine ih (i + 1) a (h1.elim Or.inl (fun q => Or.inr ⟨q.1, by omega⟩)) h2 (fun j hj pj => ?_)
      by_cases e : j = i
      · subst e
        have n1 : ¬ b j < b a := fun z => q ⟨z, pj⟩
        unfold lx
        rcases h1 with h1 | h1
        · subst h1
          by_cases z : b j = b a
          · have := (hP j pj).2 z; omega
          · omega
        · omega
      · exact h3 j (by omega) pj
theorem dF_least {P : Nat → Prop} {b : Nat → Nat} {H : Nat} (hP : ∀ j, P j → j ≤ H ∧ (b j = b H → j = H)) : ∀ i a, (a = H ∨ P a) → lx b a H → (∀ j, i ≤ j → P j → lx b a j) → (dF P b i a = H ∨ P (dF P b i a)) ∧ lx b (dF P b i a) H ∧ ∀ j, P j → lx b (dF P b i a) j := by
  intro i
  induction i with
  | zero => intro a h1 h2 h3; exact ⟨h1, h2, fun j pj => h3 j (by omega) pj⟩
  | succ i ih =>
    intro a h1 h2 h3
    rw [dF]
    unfold lx at h2 h3
    by_cases q : P i ∧ b i ≤ b a
    · rw [if_pos q]
      have hi := (hP i q.1).1
      refine ih i (Or.inr q.1) (by unfold lx; omega) (fun j hj pj => ?_)
      unfold lx
      by_cases e : j = i
      · rw [e]; omega
      · have := h3 j (by omega) pj; omega
    · rw [if_neg q]
      refine ih a h1 h2 (fun j hj pj => ?_)
      by_cases e : j = i
      · subst e
        have n1 : ¬ b j ≤ b a := fun z => q ⟨pj, z⟩
        unfold lx
        omega
      · exact h3 j (by omega) pj
theorem uF_dF {P : Nat → Prop} {b : Nat → Nat} {H N : Nat} (hP : ∀ j, P j → j ≤ H ∧ (b j = b H → j = H)) (hH : H < N) : uF P b N 0 H = dF P b (H + 1) H := by
  have u := uF_least hP N 0 H (Or.inl rfl) (Or.inr ⟨rfl, Nat.le_refl _⟩) (fun j hj => absurd hj (by omega))
  have w := dF_least hP (H + 1) H (Or.inl rfl) (Or.inr ⟨rfl, Nat.le_refl _⟩) (fun j hj pj => by have := (hP j pj).1; omega)
  generalize uF P b N 0 H = r at *
  generalize dF P b (H + 1) H = r' at *
  have a1 : lx b r r' := by
    rcases w.1 with e | e
    · rw [e]; exact u.2.1
    · exact u.2.2 r' (by have := (hP r' e).1; omega) e
  have a2 : lx b r' r := by
    rcases u.1 with e | e
    · rw [e]; exact w.2.1
    · exact w.2.2 r e
  unfold lx at a1 a2
  omega
/-! masks within a mask -/
theorem nI_and (a b : Nat) : nI a &&& nI b = nI (a &&& b) := by
  apply Int32.toBitVec_inj.mp
  rw [Int32.toBitVec_and]
  exact BitVec.ofNat_and.symm
theorem sub_bv (x y : BitVec 32) : (x &&& (y ^^^ BitVec.allOnes 32) = 0#32) ↔ x &&& y = x := by
  constructor
  · intro h
    apply BitVec.eq_of_getLsbD_eq
    intro i hi
    have e := congrArg (fun z => z.getLsbD i) h
    simp only [BitVec.getLsbD_and, BitVec.getLsbD_xor, BitVec.getLsbD_allOnes, BitVec.getLsbD_zero, decide_eq_true hi] at e ⊢
    cases hx : x.getLsbD i <;> cases hy : y.getLsbD i <;> simp [hx, hy] at e ⊢
  · intro h
    apply BitVec.eq_of_getLsbD_eq
    intro i hi
    have e := congrArg (fun z => z.getLsbD i) h
    simp only [BitVec.getLsbD_and, BitVec.getLsbD_xor, BitVec.getLsbD_allOnes, BitVec.getLsbD_zero, decide_eq_true hi] at e ⊢
    cases hx : x.getLsbD i <;> cases hy : y.getLsbD i <;> simp [hx, hy] at e ⊢
theorem sub_nI {i H : Nat} (hi : i < 1024) (hH : H < 1024) : (nI i &&& (nI H ^^^ (-1))) = 0 ↔ i &&& H = i := by
  have e1 : (nI i &&& (nI H ^^^ (-1))) = 0 ↔ (nI i).toBitVec &&& ((nI H).toBitVec ^^^ BitVec.allOnes 32) = 0#32 := by
    rw [← Int32.toBitVec_inj, Int32.toBitVec_and, Int32.toBitVec_xor]
    rfl
  rw [e1, sub_bv, ← Int32.toBitVec_and, Int32.toBitVec_inj, nI_and]
  have := Nat.and_le_left (n := i) (m := H)
  exact nI_eq (by omega) (by omega)
theorem and_tb {i H : Nat} (h : i &&& H = i) {s : Nat} (hs : i.testBit s = true) : H.testBit s = true := by
  rw [← h, Nat.testBit_and] at hs
  revert hs
  cases H.testBit s <;> simp
theorem pc_sub {i H : Nat} (h : i &&& H = i) : ∀ n, pc n i ≤ pc n H ∧ (pc n i = pc n H → ∀ s, s < n → i.testBit s = H.testBit s) := by
  intro n
  induction n with
  | zero => exact ⟨Nat.le_refl _, fun _ s hs => absurd hs (by omega)⟩
  | succ n ih =>
    obtain ⟨h1, h2⟩ := ih
    have e1 : pc (n + 1) i = if i.testBit n = true then pc n i + 1 else pc n i := rfl
    have e2 : pc (n + 1) H = if H.testBit n = true then pc n H + 1 else pc n H := rfl
    rw [e1, e2]
    by_cases q : i.testBit n = true
    · have q' := and_tb h q
      rw [if_pos q, if_pos q']
      refine ⟨by omega, fun e s hs => ?_⟩
      by_cases z : s = n
      · rw [z, q, q']
      · exact h2 (by omega) s (by omega)
    · rw [if_neg q]
      by_cases q' : H.testBit n = true
      · rw [if_pos q']
        exact ⟨by omega, fun e => absurd e (by omega)⟩
      · rw [if_neg q']
        refine ⟨h1, fun e s hs => ?_⟩
        by_cases z : s = n
        · rw [z, eq_false_of_ne_true q, eq_false_of_ne_true q']
        · exact h2 e s (by omega)
theorem tb_big {i s : Nat} (hi : i < 1024) (hs : 10 ≤ s) : i.testBit s = false := Nat.testBit_lt_two_pow (Nat.lt_of_lt_of_le hi (Nat.pow_le_pow_right (n := 2) (by omega) hs))
theorem sub_eq {i H : Nat} (hi : i < 1024) (hH : H < 1024) (h : i &&& H = i) (e : pc 10 i = pc 10 H) : i = H := by
  apply Nat.eq_of_testBit_eq
  intro s
  rcases Nat.lt_or_ge s 10 with q | q
  · exact (pc_sub h 10).2 e s q
  · rw [tb_big hi q, tb_big hH q]
set_option maxRecDepth 100000 in
theorem bc_pc10 : ∀ m : Nat, m < 1024 → bcN (nI m) = nI (pc 10 m) := by decide +kernel
theorem sh10 : ∀ n : Nat, n < 11 → (1 : Int32) <<< (nI n &&& 31) = nI (2 ^ n) := by decide
theorem pc_le {m : Nat} : ∀ n, pc n m ≤ n := by
  intro n
  induction n with
  | zero => exact Nat.le_refl _
  | succ n ih =>
    have e1 : pc (n + 1) m = if m.testBit n = true then pc n m + 1 else pc n m := rfl
    rw [e1]
    split <;> omega
/-- the least of the two folds' places -/
theorem msk_lt {g : zHl} {n : Nat} (hn : n ≤ 10) : ∃ H, H < 2 ^ n ∧ zfo (fI g) 0 n = nI H := by
  obtain ⟨H, h1, h2, h3⟩ := fI_mask (g := g) n hn
  refine ⟨H, Nat.lt_pow_two_of_testBit _ (fun s hs => ?_), h2⟩
  rcases Nat.lt_or_ge s 10 with q | q
  · cases e : H.testBit s with
    | false => rfl
    | true => exact absurd ((h3 s q).mp e).1 (by omega)
  · exact tb_big h1 q
theorem m_1 {i : Nat} (hi : i < 1024) : nI (i + 1) + (-1) = nI i := by
  rw [← nI_1, Int32.add_assoc, show (1 : Int32) + -1 = 0 from by decide, Int32.add_zero]
end FEW

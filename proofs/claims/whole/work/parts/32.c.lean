/-! LOOPS AND MASKS -/
def zfo {σ : Type} (F : Nat → σ → σ) (s : σ) : Nat → σ
  | 0 => s
  | i + 1 => F i (zfo F s i)
theorem z_loop {σ : Type} {X : Type} {S : σ → Nat → X} {F : Nat → σ → σ} {s0 : σ} {N : Nat} (hs : ∀ i, i < N → S (zfo F s0 i) i = S (zfo F s0 (i + 1)) (i + 1)) : S s0 0 = S (zfo F s0 N) N := by
  have : ∀ i, i ≤ N → S s0 0 = S (zfo F s0 i) i := by
    intro i
    induction i with
    | zero => intro _; rfl
    | succ i ih => intro hi; rw [ih (by omega), hs i (by omega)]
  exact this N (Nat.le_refl _)
theorem zfo_eq {σ : Type} {F G : Nat → σ → σ} {s0 : σ} {N : Nat} (h : ∀ i, i < N → F i (zfo G s0 i) = G i (zfo G s0 i)) : ∀ i, i ≤ N → zfo F s0 i = zfo G s0 i := by
  intro i
  induction i with
  | zero => intro _; rfl
  | succ i ih => intro hi; rw [zfo, zfo, ih (by omega), h i (by omega)]
theorem bit_nI : ∀ s : Nat, s < 10 → (1 : Int32) <<< (nI s &&& 31) = nI (2 ^ s) := by decide
theorem nI_or (a b : Nat) : nI a ||| nI b = nI (a ||| b) := by
  apply Int32.toBitVec_inj.mp
  rw [Int32.toBitVec_or]
  exact BitVec.ofNat_or.symm
theorem nI_orb {m s : Nat} (hs : s < 10) : nI m ||| ((1 : Int32) <<< (nI s &&& 31)) = nI (m ||| 2 ^ s) := by rw [bit_nI s hs, nI_or]
theorem or_lt {m s : Nat} (hm : m < 1024) (hs : s < 10) : m ||| 2 ^ s < 1024 := by
  have h1 : m < 2 ^ 10 := hm
  have h2 : 2 ^ s < 2 ^ 10 := Nat.pow_lt_pow_right (by omega) hs
  exact Nat.or_lt_two_pow h1 h2
theorem or_bit {m s t : Nat} : (m ||| 2 ^ s).testBit t = true ↔ m.testBit t = true ∨ t = s := by
  rw [Nat.testBit_or, Nat.testBit_two_pow]
  constructor
  · intro h
    rcases (Bool.or_eq_true _ _).mp h with h | h
    · exact Or.inl h
    · exact Or.inr (of_decide_eq_true h).symm
  · intro h
    rcases h with h | h
    · rw [h]; rfl
    · rw [h]; simp
/-- a mask of places, told place by place -/
def isMask (x : Int32) (P : Nat → Prop) : Prop := ∃ m, m < 1024 ∧ x = nI m ∧ ∀ s, s < 10 → (m.testBit s = true ↔ P s)
set_option maxRecDepth 100000 in
theorem has_nI : ∀ m : Nat, m < 1024 → ∀ s : Nat, s < 10 → (((nI m >>> (nI s &&& 31)) &&& 1 = 1) ↔ m.testBit s = true) := by
  intro m hm s hs
  have h0 : nI s &&& 31 = nI s := by
    have : ∀ s : Nat, s < 10 → nI s &&& 31 = nI s := by decide
    exact this s hs
  have e1 : nI m >>> (nI s &&& 31) = nI (m >>> s) := by
    rw [h0]
    have : ∀ s : Nat, s < 10 → ∀ x : Int32, x >>> nI s = Int32.ofBitVec (x.toBitVec.sshiftRight s) := by
      intro s hs x
      have e : s = 0 ∨ s = 1 ∨ s = 2 ∨ s = 3 ∨ s = 4 ∨ s = 5 ∨ s = 6 ∨ s = 7 ∨ s = 8 ∨ s = 9 := by omega
      rcases e with rfl | rfl | rfl | rfl | rfl | rfl | rfl | rfl | rfl | rfl <;> rfl
    rw [this s hs]
    apply Int32.toBitVec_inj.mp
    show (BitVec.ofNat 32 m).sshiftRight s = BitVec.ofNat 32 (m >>> s)
    rw [BitVec.sshiftRight_eq_of_msb_false]
    · apply BitVec.eq_of_toNat_eq
      rw [BitVec.toNat_ushiftRight, BitVec.toNat_ofNat, BitVec.toNat_ofNat, Nat.mod_eq_of_lt (by omega), Nat.mod_eq_of_lt]
      have := Nat.shiftRight_le m s
      omega
    · rw [BitVec.msb_eq_false_iff_two_mul_lt, BitVec.toNat_ofNat, Nat.mod_eq_of_lt (by omega)]
      omega
  rw [e1]
  have e2 : nI (m >>> s) &&& 1 = nI ((m >>> s) &&& 1) := by
    apply Int32.toBitVec_inj.mp
    rw [Int32.toBitVec_and]
    exact BitVec.ofNat_and.symm
  rw [e2]
  have e3 : (m >>> s) &&& 1 = (m >>> s) % 2 := Nat.and_one_is_mod _
  rw [Nat.testBit, Nat.and_comm 1, e3]
  have e4 : (m >>> s) % 2 < 2 := Nat.mod_lt _ (by omega)
  have e5 : (nI ((m >>> s) % 2) = 1) ↔ (m >>> s) % 2 = 1 := nI_eq (b := 1) (by omega) (by omega)
  rw [e5]
  constructor
  · intro h; rw [h]; rfl
  · intro h
    rcases Nat.lt_or_ge ((m >>> s) % 2) 1 with q | q
    · exfalso
      have : (m >>> s) % 2 = 0 := by omega
      rw [this] at h
      cases h
    · omega
theorem isMask_has {x : Int32} {P : Nat → Prop} (M : isMask x P) {s : Nat} (hs : s < 10) : ((x >>> (nI s &&& 31)) &&& 1 = 1) ↔ P s := by
  obtain ⟨m, hm, rfl, h⟩ := M
  rw [has_nI m hm s hs]
  exact h s hs
theorem isMask_0 : isMask 0 (fun _ => False) := ⟨0, by omega, rfl, fun s _ => by rw [Nat.zero_testBit]; exact ⟨fun q => Bool.noConfusion q, fun q => False.elim q⟩⟩
theorem isMask_or {x : Int32} {P : Nat → Prop} (M : isMask x P) {s : Nat} (hs : s < 10) : isMask (x ||| ((1 : Int32) <<< (nI s &&& 31))) (fun t => P t ∨ t = s) := by
  obtain ⟨m, hm, rfl, h⟩ := M
  exact ⟨m ||| 2 ^ s, or_lt hm hs, nI_orb hs, fun t ht => by rw [or_bit, h t ht]⟩
theorem isMask_ex {x : Int32} {P Q : Nat → Prop} (M : isMask x P) (e : ∀ s, s < 10 → (P s ↔ Q s)) : isMask x Q := by
  obtain ⟨m, hm, ex, h⟩ := M
  exact ⟨m, hm, ex, fun s hs => (h s hs).trans (e s hs)⟩
/-- two masks of the same places are one number -/
theorem isMask_eq {x y : Int32} {P Q : Nat → Prop} (M : isMask x P) (N : isMask y Q) (e : ∀ s, s < 10 → (P s ↔ Q s)) : x = y := by
  obtain ⟨m, hm, rfl, h⟩ := M
  obtain ⟨m', hm', rfl, h'⟩ := N
  have : m = m' := by
    apply Nat.eq_of_testBit_eq
    intro s
    rcases Nat.lt_or_ge s 10 with hs | hs
    · have := (h s hs).trans ((e s hs).trans (h' s hs).symm)
      cases ha : m.testBit s <;> cases hb : m'.testBit s <;> simp_all
    · have p : 1024 ≤ 2 ^ s := Nat.le_trans (show 1024 ≤ 2 ^ 10 from by decide) (Nat.pow_le_pow_right (by omega) hs)
      rw [Nat.testBit_lt_two_pow (by omega), Nat.testBit_lt_two_pow (by omega)]
  rw [this]
/-! A RIDE, STRETCH BY STRETCH -/
section FACTS
variable {g : zHl} {n k : Nat} {b u w : Nat → Bool} {q0 : zQ}
def rC (g : zHl) (n : Nat) (b u w : Nat → Bool) (q0 : zQ) : Nat → Nat
  | 0 => 0
  | i + 1 => if (rJ g n b u w q0 i).2.2.2 = 0 then i + 1 else rC g n b u w q0 i
def rG (g : zHl) (n : Nat) (b u w : Nat → Bool) (q0 : zQ) (j : Nat) : Prop := (rJ g n b u w q0 j).2.2.2 = 0 ∧ (rJ g n b u w q0 j).1 < (rJ g n b u w q0 (j + 1)).1
theorem rC_le : ∀ i, rC g n b u w q0 i ≤ i := by
  intro i
  induction i with
  | zero => exact Nat.le_refl _
  | succ i ih => rw [rC]; split <;> omega
theorem rJ_pre {i j : Nat} (hm : (rJ g n b u w q0 i).2.2.2 = 0) (hj : j ≤ i) : (rJ g n b u w q0 j).2.2.2 = 0 := by
  by_cases q : (rJ g n b u w q0 j).2.2.2 = 0
  · exact q
  · rw [rJ_stay q i hj] at hm; exact absurd hm q
theorem rC_iff : ∀ i j, j < rC g n b u w q0 i ↔ j < i ∧ (rJ g n b u w q0 j).2.2.2 = 0 := by
  intro i
  induction i with
  | zero => intro j; rw [rC]; constructor <;> omega
  | succ i ih =>
    intro j
    rw [rC]
    by_cases hm : (rJ g n b u w q0 i).2.2.2 = 0
    · rw [if_pos hm]
      exact ⟨fun h => ⟨h, rJ_pre hm (by omega)⟩, fun h => h.1⟩
    · rw [if_neg hm, ih j]
      refine ⟨fun h => ⟨by omega, h.2⟩, fun h => ⟨?_, h.2⟩⟩
      rcases Nat.lt_or_ge j i with q | q
      · exact q
      · have : j = i := by omega
        subst this
        exact absurd h.2 hm
theorem rC_n (V : zVal g n k) (h0 : rGo n k q0 0) {i j : Nat} (h : j < rC g n b u w q0 i) : j < n ∧ (rJ g n b u w q0 j).1 = j ∧ s_rid k (rJ g n b u w q0 j).2.2.1 ∧ (rJ g n b u w q0 j).2.2.2 = 0 := by
  have hm := ((rC_iff i j).mp h).2
  obtain ⟨e, h1, h2⟩ := rJ_go V h0 j hm
  exact ⟨h1, e, h2, hm⟩
theorem rC_len (V : zVal g n k) (h0 : rGo n k q0 0) (i : Nat) : rC g n b u w q0 i ≤ n := by
  rcases Nat.eq_zero_or_pos (rC g n b u w q0 i) with q | q
  · omega
  · have := (rC_n (b := b) (u := u) (w := w) V h0 (i := i) (j := rC g n b u w q0 i - 1) (by omega)).1
    omega
theorem rCa_eq (V : zVal g n k) (h0 : rGo n k q0 0) : ∀ i, rCa g n b u w q0 i = nI (rC g n b u w q0 i) := by
  intro i
  induction i with
  | zero => rfl
  | succ i ih =>
    rw [rCa, rC]
    by_cases hm : (rJ g n b u w q0 i).2.2.2 = 0
    · rw [if_pos hm, if_pos hm, (rJ_go V h0 i hm).1, nI_1]
    · rw [if_neg hm, if_neg hm, ih]
theorem rSp_eq (V : zVal g n k) (h0 : rGo n k q0 0) {x : Int32} : ∀ i j, rSp g n b u w q0 x i j = if j < rC g n b u w q0 i then (rJ g n b u w q0 j).2.1 else x := by
  intro i
  induction i with
  | zero => intro j; rw [rSp, rC, if_neg (by omega)]
  | succ i ih =>
    intro j
    rw [rSp, rC]
    by_cases hm : (rJ g n b u w q0 i).2.2.2 = 0
    · rw [if_pos hm, if_pos hm, upd_ap, (rJ_go V h0 i hm).1]
      by_cases e : j = i
      · subst e; rw [if_pos rfl, if_pos (by omega)]
      · rw [if_neg e, ih j]
        by_cases q : j < i
        · rw [if_pos ((rC_iff i j).mpr ⟨q, rJ_pre hm (by omega)⟩), if_pos (by omega)]
        · rw [if_neg (fun h => q ((rC_iff i j).mp h).1), if_neg (by omega)]
    · rw [if_neg hm, if_neg hm, ih j]
theorem rWh_eq (V : zVal g n k) (h0 : rGo n k q0 0) : ∀ i j, rWh g n b u w q0 i j = if j < rC g n b u w q0 i then rR g n b u w q0 j else -9 := by
  intro i
  induction i with
  | zero => intro j; rw [rWh, rC, if_neg (by omega)]
  | succ i ih =>
    intro j
    rw [rWh, rC]
    by_cases hm : (rJ g n b u w q0 i).2.2.2 = 0
    · rw [if_pos hm, if_pos hm, upd_ap, (rJ_go V h0 i hm).1]
      by_cases e : j = i
      · subst e; rw [if_pos rfl, if_pos (by omega)]
      · rw [if_neg e, ih j]
        by_cases q : j < i
        · rw [if_pos ((rC_iff i j).mpr ⟨q, rJ_pre hm (by omega)⟩), if_pos (by omega)]
        · rw [if_neg (fun h => q ((rC_iff i j).mp h).1), if_neg (by omega)]
    · rw [if_neg hm, if_neg hm, ih j]
theorem rNx_r {i : Nat} (hm : (rJ g n b u w q0 i).2.2.2 = 0) : (rJ g n b u w q0 (i + 1)).2.2.1 = rR g n b u w q0 i := by
  rw [rJ_next hm, s_nx_r]
theorem rOv_eq (V : zVal g n k) (h0 : rGo n k q0 0) : ∀ i j, (j < i ∧ rG g n b u w q0 j → rOv g n b u w q0 i j = rR g n b u w q0 j) ∧ (¬ (j < i ∧ rG g n b u w q0 j) → rOv g n b u w q0 i j = -9) := by
  intro i
  induction i with
  | zero => intro j; exact ⟨fun h => absurd h.1 (by omega), fun _ => rfl⟩
  | succ i ih =>
    intro j
    obtain ⟨i1, i2⟩ := ih j
    rw [rOv]
    by_cases hg : (rJ g n b u w q0 i).2.2.2 = 0 ∧ (rJ g n b u w q0 i).1 < (rJ g n b u w q0 (i + 1)).1
    · rw [if_pos hg, upd_ap, (rJ_go V h0 i hg.1).1]
      by_cases e : j = i
      · subst e
        rw [if_pos rfl, rNx_r hg.1]
        exact ⟨fun _ => rfl, fun q => absurd ⟨by omega, hg⟩ q⟩
      · rw [if_neg e]
        exact ⟨fun h => i1 ⟨by omega, h.2⟩, fun h => i2 (fun q => h ⟨by omega, q.2⟩)⟩
    · rw [if_neg hg]
      refine ⟨fun h => i1 ⟨?_, h.2⟩, fun h => i2 (fun q => h ⟨by omega, q.2⟩)⟩
      rcases Nat.lt_or_ge j i with q | q
      · exact q
      · have : j = i := by omega
        subst this
        exact absurd h.2 hg
theorem rGa_eq (V : zVal g n k) (h0 : rGo n k q0 0) : ∀ i j, (j < i ∧ rG g n b u w q0 j → rGa g n b u w q0 i j = (rJ g n b u w q0 (j + 1)).2.1 - rV g n b u w q0 j) ∧ (¬ (j < i ∧ rG g n b u w q0 j) → rGa g n b u w q0 i j = 0) := by
  intro i
  induction i with
  | zero => intro j; exact ⟨fun h => absurd h.1 (by omega), fun _ => rfl⟩
  | succ i ih =>
    intro j
    obtain ⟨i1, i2⟩ := ih j
    rw [rGa]
    by_cases hg : (rJ g n b u w q0 i).2.2.2 = 0 ∧ (rJ g n b u w q0 i).1 < (rJ g n b u w q0 (i + 1)).1
    · rw [if_pos hg, upd_ap, (rJ_go V h0 i hg.1).1]
      by_cases e : j = i
      · subst e
        rw [if_pos rfl]
        exact ⟨fun _ => rfl, fun q => absurd ⟨by omega, hg⟩ q⟩
      · rw [if_neg e]
        exact ⟨fun h => i1 ⟨by omega, h.2⟩, fun h => i2 (fun q => h ⟨by omega, q.2⟩)⟩
    · rw [if_neg hg]
      refine ⟨fun h => i1 ⟨?_, h.2⟩, fun h => i2 (fun q => h ⟨by omega, q.2⟩)⟩
      rcases Nat.lt_or_ge j i with q | q
      · exact q
      · have : j = i := by omega
        subst this
        exact absurd h.2 hg
theorem rGt_mask (V : zVal g n k) (h0 : rGo n k q0 0) : ∀ i, i ≤ 10 → isMask (rGt g n b u w q0 i) (fun j => j < i ∧ rG g n b u w q0 j) := by
  intro i
  induction i with
  | zero => intro _; exact isMask_ex isMask_0 (fun s _ => ⟨fun q => False.elim q, fun q => absurd q.1 (by omega)⟩)
  | succ i ih =>
    intro hi
    rw [rGt]
    by_cases hg : (rJ g n b u w q0 i).2.2.2 = 0 ∧ (rJ g n b u w q0 i).1 < (rJ g n b u w q0 (i + 1)).1
    · rw [if_pos hg, (rJ_go V h0 i hg.1).1]
      refine isMask_ex (isMask_or (ih (by omega)) (by omega)) (fun s hs => ⟨fun q => ?_, fun q => ?_⟩)
      · rcases q with q | q
        · exact ⟨by omega, q.2⟩
        · subst q; exact ⟨by omega, hg⟩
      · by_cases e : s = i
        · exact Or.inr e
        · exact Or.inl ⟨by omega, q.2⟩
    · rw [if_neg hg]
      refine isMask_ex (ih (by omega)) (fun s hs => ⟨fun q => ⟨by omega, q.2⟩, fun q => ⟨?_, q.2⟩⟩)
      rcases Nat.lt_or_ge s i with z | z
      · exact z
      · have : s = i := by omega
        subst this
        exact absurd q.2 hg
theorem rGu_mask (V : zVal g n k) (h0 : rGo n k q0 0) : ∀ i, i ≤ 10 → isMask (rGu g n b u w q0 i) (fun j => j < i ∧ (rJ g n b u w q0 j).2.2.2 = 0 ∧ rU g n b u w q0 j = true) := by
  intro i
  induction i with
  | zero => intro _; exact isMask_ex isMask_0 (fun s _ => ⟨fun q => False.elim q, fun q => absurd q.1 (by omega)⟩)
  | succ i ih =>
    intro hi
    rw [rGu]
    by_cases hg : (rJ g n b u w q0 i).2.2.2 = 0 ∧ rU g n b u w q0 i = true
    · rw [if_pos hg, (rJ_go V h0 i hg.1).1]
      refine isMask_ex (isMask_or (ih (by omega)) (by omega)) (fun s hs => ⟨fun q => ?_, fun q => ?_⟩)
      · rcases q with q | q
        · exact ⟨by omega, q.2⟩
        · subst q; exact ⟨by omega, hg⟩
      · by_cases e : s = i
        · exact Or.inr e
        · exact Or.inl ⟨by omega, q.2⟩
    · rw [if_neg hg]
      refine isMask_ex (ih (by omega)) (fun s hs => ⟨fun q => ⟨by omega, q.2⟩, fun q => ⟨?_, q.2⟩⟩)
      rcases Nat.lt_or_ge s i with z | z
      · exact z
      · have : s = i := by omega
        subst this
        exact absurd q.2 hg
theorem rR_rid (V : zVal g n k) (h0 : rGo n k q0 0) {i j : Nat} (h : j < rC g n b u w q0 i) : s_rid k (rR g n b u w q0 j) := by
  obtain ⟨h1, h2, h3, h4⟩ := rC_n V h0 h
  unfold rR
  rw [h2]
  exact s_r1_rid V h1 h3
end FACTS

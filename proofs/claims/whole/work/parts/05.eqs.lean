/-! ONE STEP, AS AN EQUATION -/
section ZE
variable {d mi pc : Nat} {ls : zL} {st : List Value} {h : zH}
theorem e_next {ins : Instr} {y : zF} (ha : zAt mi pc = some ins) (hz : zop mi ins pc ls st h = some (.inl y)) : zE d mi (pc, ls, st, h) = zE d mi y := by
  refine zEv_next ?_
  show (match zAt mi pc with
    | none => none
    | some ins => zop mi ins pc ls st h) = _
  rw [ha]; exact hz
theorem e_norm {x v : Int32} (hv : x = v) : zE d mi (pc, ls, .int x :: st, h) = zE d mi (pc, ls, .int v :: st, h) := by rw [hv]
theorem zJ_eq {off : Int} {t : Nat} (ht : (pc : Int) + off = (t : Int)) : zJ pc off ls st h = some (.inl (t, ls, st, h)) := by
  unfold zJ; rw [ht]; rfl
theorem zBr_eq {b : Bool} {off : Int} {t : Nat} (ht : (pc : Int) + off = (t : Int)) : zBr b pc off ls st h = some (.inl (if b = true then (t, ls, st, h) else (pc + 3, ls, st, h))) := by
  unfold zBr; rw [ht]
  show (if b = true then zNx t ls st h else zNx (pc + 3) ls st h) = _
  cases b <;> rfl
theorem e_br {ins : Instr} {b : Bool} {off : Int} {t : Nat} {st' : List Value} (ha : zAt mi pc = some ins) (hz : zop mi ins pc ls st h = zBr b pc off ls st' h) (ht : (pc : Int) + off = (t : Int)) : zE d mi (pc, ls, st, h) = if b = true then zE d mi (t, ls, st', h) else zE d mi (pc + 3, ls, st', h) := by
  rw [e_next ha (hz.trans (zBr_eq ht))]
  cases b <;> rfl

theorem e_icmp_eq {off : Int} {t : Nat} {x y : Int32} (ha : zAt mi pc = some (.if_icmp .eq off)) (ht : (pc : Int) + off = (t : Int)) : zE d mi (pc, ls, .int y :: .int x :: st, h) = if x = y then zE d mi (t, ls, st, h) else zE d mi (pc + 3, ls, st, h) := by
  rw [e_br (b := decide (x = y)) (st' := st) ha rfl ht]; simp only [decide_eq_true_eq]
theorem e_if_eq {off : Int} {t : Nat} {x : Int32} (ha : zAt mi pc = some (.ifCond .eq off)) (ht : (pc : Int) + off = (t : Int)) : zE d mi (pc, ls, .int x :: st, h) = if x = 0 then zE d mi (t, ls, st, h) else zE d mi (pc + 3, ls, st, h) := by
  rw [e_br (b := decide (x = 0)) (st' := st) ha rfl ht]; simp only [decide_eq_true_eq]
theorem e_icmp_lt {off : Int} {t : Nat} {x y : Int32} (ha : zAt mi pc = some (.if_icmp .lt off)) (ht : (pc : Int) + off = (t : Int)) : zE d mi (pc, ls, .int y :: .int x :: st, h) = if x < y then zE d mi (t, ls, st, h) else zE d mi (pc + 3, ls, st, h) := by
  rw [e_br (b := decide (x < y)) (st' := st) ha rfl ht]; simp only [decide_eq_true_eq]
theorem e_if_lt {off : Int} {t : Nat} {x : Int32} (ha : zAt mi pc = some (.ifCond .lt off)) (ht : (pc : Int) + off = (t : Int)) : zE d mi (pc, ls, .int x :: st, h) = if x < 0 then zE d mi (t, ls, st, h) else zE d mi (pc + 3, ls, st, h) := by
  rw [e_br (b := decide (x < 0)) (st' := st) ha rfl ht]; simp only [decide_eq_true_eq]
theorem e_icmp_ge {off : Int} {t : Nat} {x y : Int32} (ha : zAt mi pc = some (.if_icmp .ge off)) (ht : (pc : Int) + off = (t : Int)) : zE d mi (pc, ls, .int y :: .int x :: st, h) = if x ≥ y then zE d mi (t, ls, st, h) else zE d mi (pc + 3, ls, st, h) := by
  rw [e_br (b := decide (x ≥ y)) (st' := st) ha rfl ht]; simp only [decide_eq_true_eq]
theorem e_if_ge {off : Int} {t : Nat} {x : Int32} (ha : zAt mi pc = some (.ifCond .ge off)) (ht : (pc : Int) + off = (t : Int)) : zE d mi (pc, ls, .int x :: st, h) = if x ≥ 0 then zE d mi (t, ls, st, h) else zE d mi (pc + 3, ls, st, h) := by
  rw [e_br (b := decide (x ≥ 0)) (st' := st) ha rfl ht]; simp only [decide_eq_true_eq]
theorem e_icmp_gt {off : Int} {t : Nat} {x y : Int32} (ha : zAt mi pc = some (.if_icmp .gt off)) (ht : (pc : Int) + off = (t : Int)) : zE d mi (pc, ls, .int y :: .int x :: st, h) = if x > y then zE d mi (t, ls, st, h) else zE d mi (pc + 3, ls, st, h) := by
  rw [e_br (b := decide (x > y)) (st' := st) ha rfl ht]; simp only [decide_eq_true_eq]
theorem e_if_gt {off : Int} {t : Nat} {x : Int32} (ha : zAt mi pc = some (.ifCond .gt off)) (ht : (pc : Int) + off = (t : Int)) : zE d mi (pc, ls, .int x :: st, h) = if x > 0 then zE d mi (t, ls, st, h) else zE d mi (pc + 3, ls, st, h) := by
  rw [e_br (b := decide (x > 0)) (st' := st) ha rfl ht]; simp only [decide_eq_true_eq]
theorem e_icmp_le {off : Int} {t : Nat} {x y : Int32} (ha : zAt mi pc = some (.if_icmp .le off)) (ht : (pc : Int) + off = (t : Int)) : zE d mi (pc, ls, .int y :: .int x :: st, h) = if x ≤ y then zE d mi (t, ls, st, h) else zE d mi (pc + 3, ls, st, h) := by
  rw [e_br (b := decide (x ≤ y)) (st' := st) ha rfl ht]; simp only [decide_eq_true_eq]
theorem e_if_le {off : Int} {t : Nat} {x : Int32} (ha : zAt mi pc = some (.ifCond .le off)) (ht : (pc : Int) + off = (t : Int)) : zE d mi (pc, ls, .int x :: st, h) = if x ≤ 0 then zE d mi (t, ls, st, h) else zE d mi (pc + 3, ls, st, h) := by
  rw [e_br (b := decide (x ≤ 0)) (st' := st) ha rfl ht]; simp only [decide_eq_true_eq]
theorem e_icmp_ne {off : Int} {t : Nat} {x y : Int32} (ha : zAt mi pc = some (.if_icmp .ne off)) (ht : (pc : Int) + off = (t : Int)) : zE d mi (pc, ls, .int y :: .int x :: st, h) = if x = y then zE d mi (pc + 3, ls, st, h) else zE d mi (t, ls, st, h) := by
  rw [e_br (b := !decide (x = y)) (st' := st) ha rfl ht]; by_cases hx : x = y <;> simp [hx]
theorem e_if_ne {off : Int} {t : Nat} {x : Int32} (ha : zAt mi pc = some (.ifCond .ne off)) (ht : (pc : Int) + off = (t : Int)) : zE d mi (pc, ls, .int x :: st, h) = if x = 0 then zE d mi (pc + 3, ls, st, h) else zE d mi (t, ls, st, h) := by
  rw [e_br (b := !decide (x = 0)) (st' := st) ha rfl ht]; by_cases hx : x = 0 <;> simp [hx]
theorem e_goto {off : Int} {t : Nat} (ha : zAt mi pc = some (.goto off)) (ht : (pc : Int) + off = (t : Int)) : zE d mi (pc, ls, st, h) = zE d mi (t, ls, st, h) := e_next ha (zJ_eq ht)
theorem e_ifnonnull {off : Int} {t x : Nat} (ha : zAt mi pc = some (.ifnonnull off)) (ht : (pc : Int) + off = (t : Int)) : zE d mi (pc, ls, .ref x :: st, h) = zE d mi (t, ls, st, h) := e_next ha (zJ_eq ht)
theorem e_ifnull {off : Int} {x : Nat} (ha : zAt mi pc = some (.ifnull off)) : zE d mi (pc, ls, .ref x :: st, h) = zE d mi (pc + 3, ls, st, h) := e_next ha rfl

theorem e_iload_n {k : Fin 4} {x : Int32} (ha : zAt mi pc = some (.iload_n k)) (hl : ls[k.val]? = some (some (.int x))) : zE d mi (pc, ls, st, h) = zE d mi (pc + 1, ls, .int x :: st, h) :=
  e_next ha (by show zldi ls k.val (pc + 1) st h = _; unfold zldi; rw [hl]; rfl)
theorem e_iload {k : Nat} {x : Int32} (ha : zAt mi pc = some (.iload k)) (hl : ls[k]? = some (some (.int x))) : zE d mi (pc, ls, st, h) = zE d mi (pc + 2, ls, .int x :: st, h) :=
  e_next ha (by show zldi ls k (pc + 2) st h = _; unfold zldi; rw [hl]; rfl)
theorem e_aload_n {k : Fin 4} {x : Nat} (ha : zAt mi pc = some (.aload_n k)) (hl : ls[k.val]? = some (some (.ref x))) : zE d mi (pc, ls, st, h) = zE d mi (pc + 1, ls, .ref x :: st, h) :=
  e_next ha (by show zldr ls k.val (pc + 1) st h = _; unfold zldr; rw [hl]; rfl)
theorem e_aload {k : Nat} {x : Nat} (ha : zAt mi pc = some (.aload k)) (hl : ls[k]? = some (some (.ref x))) : zE d mi (pc, ls, st, h) = zE d mi (pc + 2, ls, .ref x :: st, h) :=
  e_next ha (by show zldr ls k (pc + 2) st h = _; unfold zldr; rw [hl]; rfl)
theorem e_lload_n {k : Fin 4} {x : Int64} (ha : zAt mi pc = some (.lload_n k)) (hl : ls[k.val]? = some (some (.long x))) : zE d mi (pc, ls, st, h) = zE d mi (pc + 1, ls, .long x :: st, h) :=
  e_next ha (by show zldl ls k.val (pc + 1) st h = _; unfold zldl; rw [hl]; rfl)
theorem e_lload {k : Nat} {x : Int64} (ha : zAt mi pc = some (.lload k)) (hl : ls[k]? = some (some (.long x))) : zE d mi (pc, ls, st, h) = zE d mi (pc + 2, ls, .long x :: st, h) :=
  e_next ha (by show zldl ls k (pc + 2) st h = _; unfold zldl; rw [hl]; rfl)
def zSok (mi k : Nat) : Bool := decide (k < zMax mi) && !zLg mi
def zSok1 (mi k : Nat) : Bool := decide (k < zMax mi) && zLg mi
def zSok2 (mi k : Nat) : Bool := decide (k + 1 < zMax mi) && zLg mi
theorem e_istore_n {k : Fin 4} {x : Int32} (ha : zAt mi pc = some (.istore_n k)) (hk : zSok mi k.val = true) : zE d mi (pc, ls, .int x :: st, h) = zE d mi (pc + 1, ls.set k.val (some (.int x)), st, h) := by
  unfold zSok at hk
  simp only [Bool.and_eq_true, decide_eq_true_eq, Bool.not_eq_true'] at hk
  refine e_next ha ?_
  show zsti mi ls k.val (pc + 1) x st h = _
  unfold zsti; rw [if_pos hk.1, zst1, hk.2]; rfl
theorem e_istore_n_l {k : Fin 4} {x : Int32} (ha : zAt mi pc = some (.istore_n k)) (hk : zSok1 mi k.val = true) : zE d mi (pc, ls, .int x :: st, h) = zE d mi (pc + 1, (zpre ls k.val).set k.val (some (.int x)), st, h) := by
  unfold zSok1 at hk
  simp only [Bool.and_eq_true, decide_eq_true_eq] at hk
  refine e_next ha ?_
  show zsti mi ls k.val (pc + 1) x st h = _
  unfold zsti; rw [if_pos hk.1, zst1, hk.2]; rfl
theorem e_istore {k : Nat} {x : Int32} (ha : zAt mi pc = some (.istore k)) (hk : zSok mi k = true) : zE d mi (pc, ls, .int x :: st, h) = zE d mi (pc + 2, ls.set k (some (.int x)), st, h) := by
  unfold zSok at hk
  simp only [Bool.and_eq_true, decide_eq_true_eq, Bool.not_eq_true'] at hk
  refine e_next ha ?_
  show zsti mi ls k (pc + 2) x st h = _
  unfold zsti; rw [if_pos hk.1, zst1, hk.2]; rfl
theorem e_istore_l {k : Nat} {x : Int32} (ha : zAt mi pc = some (.istore k)) (hk : zSok1 mi k = true) : zE d mi (pc, ls, .int x :: st, h) = zE d mi (pc + 2, (zpre ls k).set k (some (.int x)), st, h) := by
  unfold zSok1 at hk
  simp only [Bool.and_eq_true, decide_eq_true_eq] at hk
  refine e_next ha ?_
  show zsti mi ls k (pc + 2) x st h = _
  unfold zsti; rw [if_pos hk.1, zst1, hk.2]; rfl
theorem e_astore_n {k : Fin 4} {x : Nat} (ha : zAt mi pc = some (.astore_n k)) (hk : zSok mi k.val = true) : zE d mi (pc, ls, .ref x :: st, h) = zE d mi (pc + 1, ls.set k.val (some (.ref x)), st, h) := by
  unfold zSok at hk
  simp only [Bool.and_eq_true, decide_eq_true_eq, Bool.not_eq_true'] at hk
  refine e_next ha ?_
  show zstr mi ls k.val (pc + 1) x st h = _
  unfold zstr; rw [if_pos hk.1, zst1, hk.2]; rfl
theorem e_astore_n_l {k : Fin 4} {x : Nat} (ha : zAt mi pc = some (.astore_n k)) (hk : zSok1 mi k.val = true) : zE d mi (pc, ls, .ref x :: st, h) = zE d mi (pc + 1, (zpre ls k.val).set k.val (some (.ref x)), st, h) := by
  unfold zSok1 at hk
  simp only [Bool.and_eq_true, decide_eq_true_eq] at hk
  refine e_next ha ?_
  show zstr mi ls k.val (pc + 1) x st h = _
  unfold zstr; rw [if_pos hk.1, zst1, hk.2]; rfl
theorem e_lstore_n_l {k : Fin 4} {x : Int64} (ha : zAt mi pc = some (.lstore_n k)) (hk : zSok2 mi k.val = true) : zE d mi (pc, ls, .long x :: st, h) = zE d mi (pc + 1, ((zpre ls k.val).set k.val (some (.long x))).set (k.val + 1) none, st, h) := by
  unfold zSok2 at hk
  simp only [Bool.and_eq_true, decide_eq_true_eq] at hk
  refine e_next ha ?_
  show zstl mi ls k.val (pc + 1) x st h = _
  unfold zstl; rw [if_pos ⟨hk.2, hk.1⟩]; rfl
theorem e_lstore_l {k : Nat} {x : Int64} (ha : zAt mi pc = some (.lstore k)) (hk : zSok2 mi k = true) : zE d mi (pc, ls, .long x :: st, h) = zE d mi (pc + 2, ((zpre ls k).set k (some (.long x))).set (k + 1) none, st, h) := by
  unfold zSok2 at hk
  simp only [Bool.and_eq_true, decide_eq_true_eq] at hk
  refine e_next ha ?_
  show zstl mi ls k (pc + 2) x st h = _
  unfold zstl; rw [if_pos ⟨hk.2, hk.1⟩]; rfl
theorem e_iinc {k : Nat} {n : Int} {x v : Int32} (ha : zAt mi pc = some (.iinc k n)) (hk : zSok mi k = true) (hl : ls[k]? = some (some (.int x))) (hv : Int32.ofInt n = v) : zE d mi (pc, ls, st, h) = zE d mi (pc + 3, ls.set k (some (.int (x + v))), st, h) := by
  subst hv
  unfold zSok at hk
  simp only [Bool.and_eq_true, decide_eq_true_eq, Bool.not_eq_true'] at hk
  refine e_next ha ?_
  show ziin mi ls k (pc + 3) n st h = _
  unfold ziin; rw [hl]
  show zsti mi ls k (pc + 3) (x + Int32.ofInt n) st h = _
  unfold zsti; rw [if_pos hk.1, zst1, hk.2]; rfl
theorem e_iinc_l {k : Nat} {n : Int} {x v : Int32} (ha : zAt mi pc = some (.iinc k n)) (hk : zSok1 mi k = true) (hl : ls[k]? = some (some (.int x))) (hv : Int32.ofInt n = v) : zE d mi (pc, ls, st, h) = zE d mi (pc + 3, (zpre ls k).set k (some (.int (x + v))), st, h) := by
  subst hv
  unfold zSok1 at hk
  simp only [Bool.and_eq_true, decide_eq_true_eq, Bool.not_eq_true'] at hk
  refine e_next ha ?_
  show ziin mi ls k (pc + 3) n st h = _
  unfold ziin; rw [hl]
  show zsti mi ls k (pc + 3) (x + Int32.ofInt n) st h = _
  unfold zsti; rw [if_pos hk.1, zst1, hk.2]; rfl
theorem e_iconst {n : Int} {v : Int32} (ha : zAt mi pc = some (.iconst n)) (hv : Int32.ofInt n = v) : zE d mi (pc, ls, st, h) = zE d mi (pc + 1, ls, .int v :: st, h) := by subst hv; exact e_next ha rfl
theorem e_bipush {n : Int} {v : Int32} (ha : zAt mi pc = some (.bipush n)) (hv : (Int8.ofInt n).toInt32 = v) : zE d mi (pc, ls, st, h) = zE d mi (pc + 2, ls, .int v :: st, h) := by subst hv; exact e_next ha rfl
theorem e_sipush {n : Int} {v : Int32} (ha : zAt mi pc = some (.sipush n)) (hv : (Int16.ofInt n).toInt32 = v) : zE d mi (pc, ls, st, h) = zE d mi (pc + 3, ls, .int v :: st, h) := by subst hv; exact e_next ha rfl
theorem e_lconst {n : Fin 2} {v : Int64} (ha : zAt mi pc = some (.lconst n)) (hv : Int64.ofNat n.val = v) : zE d mi (pc, ls, st, h) = zE d mi (pc + 1, ls, .long v :: st, h) := by subst hv; exact e_next ha rfl
theorem e_ldc {i : Nat} {v : Int32} (ha : zAt mi pc = some (.ldc i)) (hv : zCon (zOwn mi) i = some v) : zE d mi (pc, ls, st, h) = zE d mi (pc + 2, ls, .int v :: st, h) := e_next ha (by show zci (zCon (zOwn mi) i) (pc + 2) ls st h = _; rw [hv]; rfl)
theorem e_ldc_w {i : Nat} {v : Int32} (ha : zAt mi pc = some (.ldc_w i)) (hv : zCon (zOwn mi) i = some v) : zE d mi (pc, ls, st, h) = zE d mi (pc + 3, ls, .int v :: st, h) := e_next ha (by show zci (zCon (zOwn mi) i) (pc + 3) ls st h = _; rw [hv]; rfl)
theorem e_ldc2_w {i : Nat} {v : Int64} (ha : zAt mi pc = some (.ldc2_w i)) (hv : zCo2 (zOwn mi) i = some v) : zE d mi (pc, ls, st, h) = zE d mi (pc + 3, ls, .long v :: st, h) := e_next ha (by show zc2 (zCo2 (zOwn mi) i) (pc + 3) ls st h = _; rw [hv]; rfl)
theorem e_dup_int {x : Int32} (ha : zAt mi pc = some .dup) : zE d mi (pc, ls, .int x :: st, h) = zE d mi (pc + 1, ls, .int x :: .int x :: st, h) := e_next ha rfl
theorem e_pop_int {x : Int32} (ha : zAt mi pc = some .pop) : zE d mi (pc, ls, .int x :: st, h) = zE d mi (pc + 1, ls, st, h) := e_next ha rfl
theorem e_dup_ref {x : Nat} (ha : zAt mi pc = some .dup) : zE d mi (pc, ls, .ref x :: st, h) = zE d mi (pc + 1, ls, .ref x :: .ref x :: st, h) := e_next ha rfl
theorem e_pop_ref {x : Nat} (ha : zAt mi pc = some .pop) : zE d mi (pc, ls, .ref x :: st, h) = zE d mi (pc + 1, ls, st, h) := e_next ha rfl
theorem e_dup2 {x : Int32} {a : Nat} (ha : zAt mi pc = some .dup2) : zE d mi (pc, ls, .int x :: .ref a :: st, h) = zE d mi (pc + 1, ls, .int x :: .ref a :: .int x :: .ref a :: st, h) := e_next ha rfl
theorem e_iadd {x y : Int32} (ha : zAt mi pc = some .iadd) : zE d mi (pc, ls, .int y :: .int x :: st, h) = zE d mi (pc + 1, ls, .int (x + y) :: st, h) := e_next ha rfl
theorem e_isub {x y : Int32} (ha : zAt mi pc = some .isub) : zE d mi (pc, ls, .int y :: .int x :: st, h) = zE d mi (pc + 1, ls, .int (x - y) :: st, h) := e_next ha rfl
theorem e_imul {x y : Int32} (ha : zAt mi pc = some .imul) : zE d mi (pc, ls, .int y :: .int x :: st, h) = zE d mi (pc + 1, ls, .int (x * y) :: st, h) := e_next ha rfl
theorem e_ishl {x y : Int32} (ha : zAt mi pc = some .ishl) : zE d mi (pc, ls, .int y :: .int x :: st, h) = zE d mi (pc + 1, ls, .int (x <<< (y &&& 31)) :: st, h) := e_next ha rfl
theorem e_ishr {x y : Int32} (ha : zAt mi pc = some .ishr) : zE d mi (pc, ls, .int y :: .int x :: st, h) = zE d mi (pc + 1, ls, .int (x >>> (y &&& 31)) :: st, h) := e_next ha rfl
theorem e_iand {x y : Int32} (ha : zAt mi pc = some .iand) : zE d mi (pc, ls, .int y :: .int x :: st, h) = zE d mi (pc + 1, ls, .int (x &&& y) :: st, h) := e_next ha rfl
theorem e_ior {x y : Int32} (ha : zAt mi pc = some .ior) : zE d mi (pc, ls, .int y :: .int x :: st, h) = zE d mi (pc + 1, ls, .int (x ||| y) :: st, h) := e_next ha rfl
theorem e_ixor {x y : Int32} (ha : zAt mi pc = some .ixor) : zE d mi (pc, ls, .int y :: .int x :: st, h) = zE d mi (pc + 1, ls, .int (x ^^^ y) :: st, h) := e_next ha rfl
theorem e_iushr {x y : Int32} (ha : zAt mi pc = some .iushr) : zE d mi (pc, ls, .int y :: .int x :: st, h) = zE d mi (pc + 1, ls, .int ((x.toUInt32 >>> (y.toUInt32 &&& Int32.toUInt32 31)).toInt32) :: st, h) := e_next ha rfl
theorem e_ineg {x : Int32} (ha : zAt mi pc = some .ineg) : zE d mi (pc, ls, .int x :: st, h) = zE d mi (pc + 1, ls, .int (-x) :: st, h) := e_next ha rfl
theorem e_i2l {x : Int32} (ha : zAt mi pc = some .i2l) : zE d mi (pc, ls, .int x :: st, h) = zE d mi (pc + 1, ls, .long x.toInt64 :: st, h) := e_next ha rfl
theorem e_ladd {x y : Int64} (ha : zAt mi pc = some .ladd) : zE d mi (pc, ls, .long y :: .long x :: st, h) = zE d mi (pc + 1, ls, .long (x + y) :: st, h) := e_next ha rfl
theorem e_lsub {x y : Int64} (ha : zAt mi pc = some .lsub) : zE d mi (pc, ls, .long y :: .long x :: st, h) = zE d mi (pc + 1, ls, .long (x - y) :: st, h) := e_next ha rfl
theorem e_lmul {x y : Int64} (ha : zAt mi pc = some .lmul) : zE d mi (pc, ls, .long y :: .long x :: st, h) = zE d mi (pc + 1, ls, .long (x * y) :: st, h) := e_next ha rfl
theorem e_lcmp {x y : Int64} (ha : zAt mi pc = some .lcmp) : zE d mi (pc, ls, .long y :: .long x :: st, h) = zE d mi (pc + 1, ls, .int (lg_cmp x y) :: st, h) := e_next ha rfl
/-- what has no next step -/
theorem e_stuck (hz : zn mi (pc, ls, st, h) = none) : zE d mi (pc, ls, st, h) = none := by
  cases hx : zE d mi (pc, ls, st, h) with
  | none => rfl
  | some r =>
    obtain ⟨n, hn⟩ := zEv_some hx
    cases n with
    | zero => cases hn
    | succ n =>
      have hn : zev1 (zcal d) (zev (zcal d) mi n) (pc, ls, st, h) (zn mi (pc, ls, st, h)) = some r := hn
      rw [hz] at hn; cases hn
theorem e_idiv {x y : Int32} (ha : zAt mi pc = some .idiv) : zE d mi (pc, ls, .int y :: .int x :: st, h) = if y = 0 then none else zE d mi (pc + 1, ls, .int (x / y) :: st, h) := by
  by_cases hy : y = 0
  · rw [if_pos hy]
    refine e_stuck ?_
    show (match zAt mi pc with
      | none => none
      | some ins => zop mi ins pc ls (.int y :: .int x :: st) h) = _
    rw [ha]
    show (if y = 0 then none else zNx (pc + 1) ls (.int (x / y) :: st) h) = _
    rw [if_pos hy]
  · rw [if_neg hy]
    refine e_next ha ?_
    show (if y = 0 then none else zNx (pc + 1) ls (.int (x / y) :: st) h) = _
    rw [if_neg hy]; rfl
theorem e_idiv_n {x y : Int32} (ha : zAt mi pc = some .idiv) (hy : ¬ y = 0) : zE d mi (pc, ls, .int y :: .int x :: st, h) = zE d mi (pc + 1, ls, .int (x / y) :: st, h) := (e_idiv ha).trans (if_neg hy)
theorem e_irem {x y : Int32} (ha : zAt mi pc = some .irem) : zE d mi (pc, ls, .int y :: .int x :: st, h) = if y = 0 then none else zE d mi (pc + 1, ls, .int (x - x / y * y) :: st, h) := by
  by_cases hy : y = 0
  · rw [if_pos hy]
    refine e_stuck ?_
    show (match zAt mi pc with
      | none => none
      | some ins => zop mi ins pc ls (.int y :: .int x :: st) h) = _
    rw [ha]
    show (if y = 0 then none else zNx (pc + 1) ls (.int (x - x / y * y) :: st) h) = _
    rw [if_pos hy]
  · rw [if_neg hy]
    refine e_next ha ?_
    show (if y = 0 then none else zNx (pc + 1) ls (.int (x - x / y * y) :: st) h) = _
    rw [if_neg hy]; rfl
theorem e_irem_n {x y : Int32} (ha : zAt mi pc = some .irem) (hy : ¬ y = 0) : zE d mi (pc, ls, .int y :: .int x :: st, h) = zE d mi (pc + 1, ls, .int (x - x / y * y) :: st, h) := (e_irem ha).trans (if_neg hy)
theorem e_ldiv {x y : Int64} (ha : zAt mi pc = some .ldiv) : zE d mi (pc, ls, .long y :: .long x :: st, h) = if y = 0 then none else zE d mi (pc + 1, ls, .long (x / y) :: st, h) := by
  by_cases hy : y = 0
  · rw [if_pos hy]
    refine e_stuck ?_
    show (match zAt mi pc with
      | none => none
      | some ins => zop mi ins pc ls (.long y :: .long x :: st) h) = _
    rw [ha]
    show (if y = 0 then none else zNx (pc + 1) ls (.long (x / y) :: st) h) = _
    rw [if_pos hy]
  · rw [if_neg hy]
    refine e_next ha ?_
    show (if y = 0 then none else zNx (pc + 1) ls (.long (x / y) :: st) h) = _
    rw [if_neg hy]; rfl
theorem e_ldiv_n {x y : Int64} (ha : zAt mi pc = some .ldiv) (hy : ¬ y = 0) : zE d mi (pc, ls, .long y :: .long x :: st, h) = zE d mi (pc + 1, ls, .long (x / y) :: st, h) := (e_ldiv ha).trans (if_neg hy)
theorem e_lrem {x y : Int64} (ha : zAt mi pc = some .lrem) : zE d mi (pc, ls, .long y :: .long x :: st, h) = if y = 0 then none else zE d mi (pc + 1, ls, .long (x - x / y * y) :: st, h) := by
  by_cases hy : y = 0
  · rw [if_pos hy]
    refine e_stuck ?_
    show (match zAt mi pc with
      | none => none
      | some ins => zop mi ins pc ls (.long y :: .long x :: st) h) = _
    rw [ha]
    show (if y = 0 then none else zNx (pc + 1) ls (.long (x - x / y * y) :: st) h) = _
    rw [if_pos hy]
  · rw [if_neg hy]
    refine e_next ha ?_
    show (if y = 0 then none else zNx (pc + 1) ls (.long (x - x / y * y) :: st) h) = _
    rw [if_neg hy]; rfl
theorem e_lrem_n {x y : Int64} (ha : zAt mi pc = some .lrem) (hy : ¬ y = 0) : zE d mi (pc, ls, .long y :: .long x :: st, h) = zE d mi (pc + 1, ls, .long (x - x / y * y) :: st, h) := (e_lrem ha).trans (if_neg hy)
theorem e_geti {i a ci j : Nat} {fs : List (Option Nat)} (ha : zAt mi pc = some (.getfield i)) (h1 : zFld (zOwn mi) i = some (ci, j)) (h2 : zObj a = some (ci, fs)) (h3 : fs[j]? = some none) : zE d mi (pc, ls, .ref a :: st, h) = zE d mi (pc + 3, ls, .int (h a j) :: st, h) :=
  e_next ha (by show zget (zFld (zOwn mi) i) (zObj a) a (pc + 3) ls st h = _; rw [h1, h2]; show (if ci = ci then _ else none) = _; rw [if_pos rfl, h3]; rfl)
theorem e_getr {i a ci j k : Nat} {fs : List (Option Nat)} (ha : zAt mi pc = some (.getfield i)) (h1 : zFld (zOwn mi) i = some (ci, j)) (h2 : zObj a = some (ci, fs)) (h3 : fs[j]? = some (some k)) : zE d mi (pc, ls, .ref a :: st, h) = zE d mi (pc + 3, ls, .ref k :: st, h) :=
  e_next ha (by show zget (zFld (zOwn mi) i) (zObj a) a (pc + 3) ls st h = _; rw [h1, h2]; show (if ci = ci then _ else none) = _; rw [if_pos rfl, h3]; rfl)
theorem e_put {i a ci j : Nat} {x : Int32} {fs : List (Option Nat)} (ha : zAt mi pc = some (.putfield i)) (h1 : zFld (zOwn mi) i = some (ci, j)) (h2 : zObj a = some (ci, fs)) (h3 : fs[j]? = some none) (h4 : zbo ci j = some .int) : zE d mi (pc, ls, .int x :: .ref a :: st, h) = zE d mi (pc + 3, ls, st, z_up h a j x) :=
  e_next ha (by show zput (zFld (zOwn mi) i) (zObj a) a (pc + 3) x ls st h = _; rw [h1, h2]; show (if ci = ci ∧ _ ∧ _ then _ else none) = _; rw [if_pos ⟨rfl, h3, Or.inl h4⟩]; rfl)
theorem e_putz {i a ci j : Nat} {x : Int32} {fs : List (Option Nat)} (ha : zAt mi pc = some (.putfield i)) (h1 : zFld (zOwn mi) i = some (ci, j)) (h2 : zObj a = some (ci, fs)) (h3 : fs[j]? = some none) (h4 : zbo ci j = some .boolean) (hx : x = 0 ∨ x = 1) : zE d mi (pc, ls, .int x :: .ref a :: st, h) = zE d mi (pc + 3, ls, st, z_up h a j x) :=
  e_next ha (by show zput (zFld (zOwn mi) i) (zObj a) a (pc + 3) x ls st h = _; rw [h1, h2]; show (if ci = ci ∧ _ ∧ _ then _ else none) = _; rw [if_pos ⟨rfl, h3, Or.inr ⟨h4, hx⟩⟩]; rfl)
theorem e_alen {a n : Nat} (ha : zAt mi pc = some .arraylength) (hm : ¬ mi = zLaw) (h1 : zArr a = some n) : zE d mi (pc, ls, .ref a :: st, h) = zE d mi (pc + 1, ls, .int (Int32.ofNat n) :: st, h) :=
  e_next ha (by show zaln mi a (pc + 1) ls st h = _; unfold zaln; rw [if_neg (fun q => hm q.1), h1]; rfl)
def zIx (i : Int32) (n : Nat) : Prop := ¬ (i < 0 ∨ n ≤ i.toNatClampNeg)
theorem e_iald {a n : Nat} {i : Int32} (ha : zAt mi pc = some .iaload) (hm : ¬ mi = zLaw) (h1 : zArr a = some n) (hi : zIx i n) : zE d mi (pc, ls, .int i :: .ref a :: st, h) = zE d mi (pc + 1, ls, .int (h a i.toNatClampNeg) :: st, h) :=
  e_next ha (by show zald mi a (pc + 1) i ls st h = _; unfold zald; rw [if_neg (fun q => hm q.1), h1]; show (if ¬ (i < 0 ∨ n ≤ i.toNatClampNeg) then _ else none) = _; exact if_pos hi)
theorem e_iast {a n : Nat} {i x : Int32} (ha : zAt mi pc = some .iastore) (h1 : zArr a = some n) (hi : zIx i n) : zE d mi (pc, ls, .int x :: .int i :: .ref a :: st, h) = zE d mi (pc + 1, ls, st, z_up h a i.toNatClampNeg x) :=
  e_next ha (by show zast a (pc + 1) i x ls st h = _; unfold zast; rw [h1]; show (if ¬ (i < 0 ∨ n ≤ i.toNatClampNeg) then _ else none) = _; exact if_pos hi)
/-- a place of a row, guarded: what lies outside has no run -/
def zG (i : Int32) (n : Nat) (K : Option zE0) : Option zE0 := if i < 0 ∨ n ≤ i.toNatClampNeg then none else K
theorem zG_in {i : Int32} {n : Nat} {K : Option zE0} (hi : zIx i n) : zG i n K = K := if_neg hi
theorem e_ialdG {a n : Nat} {i : Int32} (ha : zAt mi pc = some .iaload) (hm : ¬ mi = zLaw) (h1 : zArr a = some n) : zE d mi (pc, ls, .int i :: .ref a :: st, h) = zG i n (zE d mi (pc + 1, ls, .int (h a i.toNatClampNeg) :: st, h)) := by
  by_cases hi : zIx i n
  · rw [zG_in hi]; exact e_iald ha hm h1 hi
  · unfold zG; rw [if_pos (Classical.not_not.mp hi)]
    refine e_stuck ?_
    show (match zAt mi pc with
      | none => none
      | some ins => zop mi ins pc ls (.int i :: .ref a :: st) h) = _
    rw [ha]
    show zald mi a (pc + 1) i ls st h = _; unfold zald; rw [if_neg (fun q => hm q.1), h1]; show (if ¬ (i < 0 ∨ n ≤ i.toNatClampNeg) then _ else none) = _; exact if_neg hi
theorem e_iastG {a n : Nat} {i x : Int32} (ha : zAt mi pc = some .iastore) (h1 : zArr a = some n) : zE d mi (pc, ls, .int x :: .int i :: .ref a :: st, h) = zG i n (zE d mi (pc + 1, ls, st, z_up h a i.toNatClampNeg x)) := by
  by_cases hi : zIx i n
  · rw [zG_in hi]; exact e_iast ha h1 hi
  · unfold zG; rw [if_pos (Classical.not_not.mp hi)]
    refine e_stuck ?_
    show (match zAt mi pc with
      | none => none
      | some ins => zop mi ins pc ls (.int x :: .int i :: .ref a :: st) h) = _
    rw [ha]
    show zast a (pc + 1) i x ls st h = _; unfold zast; rw [h1]; show (if ¬ (i < 0 ∨ n ≤ i.toNatClampNeg) then _ else none) = _; exact if_neg hi
theorem e_slen (ha : zAt mi pc = some .arraylength) (hm : mi = zLaw := by rfl) : zE d mi (pc, ls, .ref 100 :: st, h) = zE d mi (pc + 1, ls, .int (h 101 0) :: st, h) :=
  e_next ha (by show zaln mi 100 (pc + 1) ls st h = _; unfold zaln; rw [if_pos ⟨hm, rfl⟩]; rfl)
theorem e_sldG {i : Int32} (ha : zAt mi pc = some .iaload) (hm : mi = zLaw := by rfl) : zE d mi (pc, ls, .int i :: .ref 100 :: st, h) = zG i (h 101 0).toNatClampNeg (zE d mi (pc + 1, ls, .int (h 100 i.toNatClampNeg) :: st, h)) := by
  by_cases hi : zIx i (h 101 0).toNatClampNeg
  · rw [zG_in hi]
    refine e_next ha ?_
    show zald mi 100 (pc + 1) i ls st h = _; unfold zald; rw [if_pos ⟨hm, rfl⟩]; show (if ¬ (i < 0 ∨ (h 101 0).toNatClampNeg ≤ i.toNatClampNeg) then _ else none) = _; exact if_pos hi
  · unfold zG; rw [if_pos (Classical.not_not.mp hi)]
    refine e_stuck ?_
    show (match zAt mi pc with
      | none => none
      | some ins => zop mi ins pc ls (.int i :: .ref 100 :: st) h) = _
    rw [ha]
    show zald mi 100 (pc + 1) i ls st h = _; unfold zald; rw [if_pos ⟨hm, rfl⟩]; show (if ¬ (i < 0 ∨ (h 101 0).toNatClampNeg ≤ i.toNatClampNeg) then _ else none) = _; exact if_neg hi
theorem e_call {q : zC0} {ins : Instr} (ha : zAt mi pc = some ins) (hz : zop mi ins pc ls st h = some (.inr (.inr q))) : zE d mi (pc, ls, st, h) = (zcal d q.1 q.2.1 h).bind (fun r => zE d mi (pc + 3, ls, r.1.toList ++ q.2.2, r.2)) := by
  refine zEv_call (z := (pc, ls, st, h)) ?_
  show (match zAt mi pc with
    | none => none
    | some ins => zop mi ins pc ls st h) = _
  rw [ha]; exact hz
theorem e_inv {i m2 n a : Nat} {as rest : List Value} (ha : zAt mi pc = some (.invokevirtual i)) (h1 : zMth (zOwn mi) i = some (m2, 0)) (hn : zNar m2 = n) (hs : st = as.reverse ++ .ref a :: rest) (hl : as.length = n) (h2 : (zObj a).map (fun x => x.1) = some (zOwn m2)) (hc : zcat rest ≤ 8) : zE d mi (pc, ls, st, h) = (zcal d m2 (.ref a :: as) h).bind (fun r => zE d mi (pc + 3, ls, r.1.toList ++ rest, r.2)) := by
  refine e_call (q := (m2, .ref a :: as, rest)) ha ?_
  show zinv (zMth (zOwn mi) i) st = _
  rw [h1]; unfold zinv
  have hr : as.reverse.length = zNar m2 := by rw [List.length_reverse, hl, hn]
  have hd : st.drop (zNar m2) = .ref a :: rest := by rw [hs, ← hr, List.drop_left]
  have ht : st.take (zNar m2) = as.reverse := by rw [hs, ← hr, List.take_left]
  have hg : zNar m2 ≤ st.length := by rw [hs, List.length_append, hr]; omega
  simp only [hd, ht, List.reverse_reverse]
  rw [if_pos ⟨hg, hc, h2⟩]
theorem e_ins {i m2 n k : Nat} {as rest : List Value} (ha : zAt mi pc = some (.invokestatic i)) (h1 : zMth (zOwn mi) i = some (m2, k + 1)) (hn : zNar m2 = n) (hs : st = as.reverse ++ rest) (hl : as.length = n) (hc : zcat rest ≤ 8) : zE d mi (pc, ls, st, h) = (zcal d m2 as h).bind (fun r => zE d mi (pc + 3, ls, r.1.toList ++ rest, r.2)) := by
  refine e_call (q := (m2, as, rest)) ha ?_
  show zins (zMth (zOwn mi) i) st = _
  rw [h1]; unfold zins
  have hr : as.reverse.length = zNar m2 := by rw [List.length_reverse, hl, hn]
  have hd : st.drop (zNar m2) = rest := by rw [hs, ← hr, List.drop_left]
  have ht : st.take (zNar m2) = as.reverse := by rw [hs, ← hr, List.take_left]
  have hg : zNar m2 ≤ st.length := by rw [hs, List.length_append, hr]; omega
  simp only [hd, ht, List.reverse_reverse]
  rw [if_pos ⟨hg, hc⟩]
theorem e_ret {ins : Instr} {r : zE0} (ha : zAt mi pc = some ins) (hz : zop mi ins pc ls st h = some (.inr (.inl r))) : zE d mi (pc, ls, st, h) = some r := by
  refine zEv_ret (z := (pc, ls, st, h)) ?_
  show (match zAt mi pc with
    | none => none
    | some ins => zop mi ins pc ls st h) = _
  rw [ha]; exact hz
theorem e_iret {x : Int32} (ha : zAt mi pc = some .ireturn) (hr : zRet mi = some .int) : zE d mi (pc, ls, [.int x], h) = some (some (.int x), h) := e_ret ha (by show zrti mi x h = _; unfold zrti; rw [if_pos (Or.inl hr)])
theorem e_zret {x : Int32} (ha : zAt mi pc = some .ireturn) (hr : zRet mi = some .boolean) (hx : x = 0 ∨ x = 1) : zE d mi (pc, ls, [.int x], h) = some (some (.int x), h) := e_ret ha (by show zrti mi x h = _; unfold zrti; rw [if_pos (Or.inr ⟨hr, hx⟩)])
/-- a truth value handed on -/
def zRz (x : Int32) (h : zH) : Option zE0 := if x = 0 ∨ x = 1 then some (some (.int x), h) else none
theorem e_zretG {x : Int32} (ha : zAt mi pc = some .ireturn) (hr : zRet mi = some .boolean) : zE d mi (pc, ls, [.int x], h) = zRz x h := by
  by_cases hx : x = 0 ∨ x = 1
  · unfold zRz; rw [if_pos hx]; exact e_zret ha hr hx
  · unfold zRz; rw [if_neg hx]
    refine e_stuck ?_
    show (match zAt mi pc with
      | none => none
      | some ins => zop mi ins pc ls [.int x] h) = _
    rw [ha]
    show zrti mi x h = _
    unfold zrti
    rw [if_neg]
    rintro (q | q)
    · rw [hr] at q; cases q
    · exact hx q.2
theorem e_lret {x : Int64} (ha : zAt mi pc = some .lreturn) (hr : zRet mi = some .long) : zE d mi (pc, ls, [.long x], h) = some (some (.long x), h) := e_ret ha (by show (if zRet mi = some .long then _ else none) = _; rw [if_pos hr])
theorem e_vret (ha : zAt mi pc = some .return_) (hr : zRet mi = none) : zE d mi (pc, ls, [], h) = some (none, h) := e_ret ha (by show (if zRet mi = none then _ else none) = _; rw [if_pos hr])
theorem e_entry {as : List Value} {n : Nat} {l0 : zL} (h1 : (decide (mi < zLaw) && (mi != mMath_max && mi != mMath_min)) = true) (h2 : zMax mi = n) (h3 : (zloc as).length ≤ n) (h4 : zLg mi = true ∨ as.all (fun v => v.category == 1) = true) (h5 : zent n as = l0) : zcal (d + 1) mi as h = zE d mi (0, l0, [], h) := by
  subst h5
  have hm : ¬ (mi = mMath_max ∨ mi = mMath_min) := by
    simp only [Bool.and_eq_true, bne_iff_ne, ne_eq] at h1
    exact fun q => q.elim h1.2.1 h1.2.2
  have hok : zok mi as = true := by
    unfold zok
    rw [h1, h2]
    simp only [Bool.true_and, Bool.and_eq_true, decide_eq_true_eq, Bool.or_eq_true]
    exact ⟨h3, h4⟩
  rw [zcal, if_neg hm, if_pos hok, h2]
end ZE
theorem e_ite {c : Prop} {i : Decidable c} {a a' b b' : Option zE0} (h1 : a = a') (h2 : b = b') : (@ite _ c i a b) = (@ite _ c i a' b') := by rw [h1, h2]
theorem e_zG {i : Int32} {n : Nat} {a b : Option zE0} (h : a = b) : zG i n a = zG i n b := by rw [h]
/-- what a call gives on -/
def zCi (o : Option zE0) (K : Int32 → zH → Option zE0) : Option zE0 := match o with
  | some (some (.int x), h) => K x h
  | _ => none
def zCl (o : Option zE0) (K : Int64 → zH → Option zE0) : Option zE0 := match o with
  | some (some (.long x), h) => K x h
  | _ => none
def zCv (o : Option zE0) (K : zH → Option zE0) : Option zE0 := match o with
  | some (none, h) => K h
  | _ => none
theorem zCi_some {x : Int32} {h : zH} {K : Int32 → zH → Option zE0} : zCi (some (some (.int x), h)) K = K x h := rfl
theorem zCl_some {x : Int64} {h : zH} {K : Int64 → zH → Option zE0} : zCl (some (some (.long x), h)) K = K x h := rfl
theorem zCv_some {h : zH} {K : zH → Option zE0} : zCv (some (none, h)) K = K h := rfl
theorem zev_ty {d mi : Nat} {r : zE0} : ∀ (n : Nat) (z : zF), zev (zcal d) mi n z = some r → ∃ pc, zRetI mi pc r.1 := by
  intro n
  induction n with
  | zero => intro z hz; cases hz
  | succ n ih =>
    intro z hz
    have hz : zev1 (zcal d) (zev (zcal d) mi n) z (zn mi z) = some r := hz
    cases hq : zn mi z with
    | none => rw [hq] at hz; cases hz
    | some o =>
      rw [hq] at hz
      rcases o with y | r1 | q
      · exact ih y hz
      · have hz : r1 = r := Option.some.inj hz
        subst hz
        exact ⟨_, (zn_ret hq).1⟩
      · have hz : (zcal d q.1 q.2.1 z.2.2.2).bind (fun r => zev (zcal d) mi n (z.1 + 3, z.2.1, r.1.toList ++ q.2.2, r.2)) = some r := hz
        obtain ⟨r1, h1, h2⟩ := Option.bind_eq_some_iff.mp hz
        exact ih _ h2
def zRk (mi : Nat) (v : Option Value) : Prop := match v with
  | none => zRet mi = none
  | some (.int x) => zRet mi = some .int ∨ (zRet mi = some .boolean ∧ (x = 0 ∨ x = 1))
  | some (.long _) => zRet mi = some .long
  | _ => False
theorem zcal_ty {d m2 : Nat} {as : List Value} {h : zH} {r : zE0} (hz : zcal d m2 as h = some r) : zRk m2 r.1 := by
  cases d with
  | zero => cases hz
  | succ d =>
    rw [zcal] at hz
    split at hz
    · rename_i hm
      unfold zmm at hz
      split at hz
      · split at hz
        · cases hz; rcases hm with rfl | rfl <;> exact Or.inl rfl
        · cases hz; rcases hm with rfl | rfl <;> exact Or.inl rfl
      · cases hz
    · split at hz
      · obtain ⟨n, hn⟩ := zEv_some hz
        obtain ⟨pc, hp⟩ := zev_ty n _ hn
        unfold zRetI at hp
        unfold zRk
        split <;> simp_all
      · cases hz
theorem e_ci {d m2 mi pc : Nat} {as rest : List Value} {ls : zL} {h : zH} {T : Int32 → zH → Option zE0} (ht : zRet m2 = some .int ∨ zRet m2 = some .boolean) (hk : ∀ x h, zE d mi (pc, ls, .int x :: rest, h) = T x h) : (zcal d m2 as h).bind (fun r => zE d mi (pc, ls, r.1.toList ++ rest, r.2)) = zCi (zcal d m2 as h) T := by
  cases hc : zcal d m2 as h with
  | none => rfl
  | some r =>
    have := zcal_ty hc
    obtain ⟨v, h'⟩ := r
    match v, this with
    | some (.int x), _ => exact hk x h'
    | some (.long x), g => have g : zRet m2 = some .long := g; rcases ht with t | t <;> (rw [g] at t; cases t)
    | none, g => have g : zRet m2 = none := g; rcases ht with t | t <;> (rw [g] at t; cases t)
theorem e_cl {d m2 mi pc : Nat} {as rest : List Value} {ls : zL} {h : zH} {T : Int64 → zH → Option zE0} (ht : zRet m2 = some .long) (hk : ∀ x h, zE d mi (pc, ls, .long x :: rest, h) = T x h) : (zcal d m2 as h).bind (fun r => zE d mi (pc, ls, r.1.toList ++ rest, r.2)) = zCl (zcal d m2 as h) T := by
  cases hc : zcal d m2 as h with
  | none => rfl
  | some r =>
    have := zcal_ty hc
    obtain ⟨v, h'⟩ := r
    match v, this with
    | some (.int x), g =>
      have g : zRet m2 = some .int ∨ (zRet m2 = some .boolean ∧ (x = 0 ∨ x = 1)) := g
      rcases g with g | g
      · rw [g] at ht; cases ht
      · rw [g.1] at ht; cases ht
    | some (.long x), g => exact hk x h'
    | none, g => have g : zRet m2 = none := g; rw [g] at ht; cases ht
theorem e_cv {d m2 mi pc : Nat} {as rest : List Value} {ls : zL} {h : zH} {T : zH → Option zE0} (ht : zRet m2 = none) (hk : ∀ h, zE d mi (pc, ls, rest, h) = T h) : (zcal d m2 as h).bind (fun r => zE d mi (pc, ls, r.1.toList ++ rest, r.2)) = zCv (zcal d m2 as h) T := by
  cases hc : zcal d m2 as h with
  | none => rfl
  | some r =>
    have := zcal_ty hc
    obtain ⟨v, h'⟩ := r
    match v, this with
    | some (.int x), g =>
      have g : zRet m2 = some .int ∨ (zRet m2 = some .boolean ∧ (x = 0 ∨ x = 1)) := g
      rcases g with g | g
      · rw [g] at ht; cases ht
      · rw [g.1] at ht; cases ht
    | some (.long x), g => have g : zRet m2 = some .long := g; rw [g] at ht; cases ht
    | none, g => exact hk h'
/-- switches, case by case -/
def zLk (l : List (Int32 × Nat)) (t : Nat) (x : Int32) (f : Nat → Option zE0) : Option zE0 := match l with
  | [] => f t
  | q :: l => if x = q.1 then f q.2 else zLk l t x f
def zLo (pc : Nat) (l : List (Int × Int)) : List (Int32 × Nat) := l.map fun q => (Int32.ofInt q.1, ((pc : Int) + q.2).toNat)
def zLok (pc : Nat) (l : List (Int × Int)) (df : Int) : Bool := l.all (fun q => decide ((Int32.ofInt q.1).toInt = q.1) && decide (0 ≤ (pc : Int) + q.2)) && decide (0 ≤ (pc : Int) + df)
theorem e_lkp1 {d mi pc : Nat} {ls : zL} {st : List Value} {h : zH} {df : Int} {x : Int32} : ∀ (l : List (Int × Int)), zLok pc l df = true → ∃ t : Nat, (pc : Int) + Op.lookupswitch.offset l df x.toInt = (t : Int) ∧ ∀ f : Nat → Option zE0, zLk (zLo pc l) ((pc : Int) + df).toNat x f = f t := by
  intro l
  induction l with
  | nil =>
    intro hok
    unfold zLok at hok
    simp only [List.all_nil, Bool.true_and, decide_eq_true_eq] at hok
    exact ⟨((pc : Int) + df).toNat, by show (pc : Int) + df = _; omega, fun f => rfl⟩
  | cons q l ih =>
    intro hok
    unfold zLok at hok
    simp only [List.all_cons, Bool.and_eq_true, decide_eq_true_eq] at hok
    obtain ⟨⟨⟨h1, h2⟩, h3⟩, h4⟩ := hok
    have hok' : zLok pc l df = true := by
      unfold zLok
      simp only [Bool.and_eq_true, decide_eq_true_eq]
      exact ⟨h3, h4⟩
    obtain ⟨t, e1, e2⟩ := ih hok'
    obtain ⟨a, b⟩ := q
    by_cases hx : x = Int32.ofInt a
    · have hx2 : x.toInt = a := by rw [hx]; exact h1
      refine ⟨((pc : Int) + b).toNat, ?_, fun f => ?_⟩
      · simp only [Op.lookupswitch.offset, hx2]
        simp
        dsimp only at h2
        omega
      · show (if x = Int32.ofInt a then f ((pc : Int) + b).toNat else _) = _
        rw [if_pos hx]
    · have hx2 : ¬ x.toInt = a := fun q => hx (by rw [← q]; simp)
      refine ⟨t, ?_, fun f => ?_⟩
      · rw [← e1]
        have hx3 : ¬ a = x.toInt := fun q => hx2 q.symm
        simp [Op.lookupswitch.offset, hx2, hx3]
      · show (if x = Int32.ofInt a then _ else zLk (zLo pc l) ((pc : Int) + df).toNat x f) = _
        rw [if_neg hx]; exact e2 f
theorem e_lookup {d mi pc : Nat} {ls : zL} {st : List Value} {h : zH} {df : Int} {ps : Array (Int × Int)} {x : Int32} {L : List (Int32 × Nat)} {t : Nat} (ha : zAt mi pc = some (.lookupswitch df ps)) (hp : (ps.toList.zip (ps.toList.drop 1)).all (fun (a, next) => a.1 < next.1) = true) (hok : zLok pc ps.toList df = true) (hL : zLo pc ps.toList = L) (ht : ((pc : Int) + df).toNat = t) : zE d mi (pc, ls, .int x :: st, h) = zLk L t x (fun t => zE d mi (t, ls, st, h)) := by
  subst hL; subst ht
  obtain ⟨t, e1, e2⟩ := e_lkp1 (d := d) (mi := mi) (ls := ls) (st := st) (h := h) (x := x) ps.toList hok
  rw [e2]
  refine e_next ha ?_
  show zlkp pc df ps x ls st h = _
  unfold zlkp
  rw [if_pos hp]
  exact zJ_eq e1
def zTo (lo : Int) (l : List Int) : List (Int × Int) := match l with
  | [] => []
  | o :: l => (lo, o) :: zTo (lo + 1) l
theorem zTo_off {df v : Int} : ∀ (l : List Int) (lo : Int), Op.lookupswitch.offset (zTo lo l) df v = if v < lo ∨ lo + l.length ≤ v then df else (l[(v - lo).toNat]?).getD df := by
  intro l
  induction l with
  | nil => intro lo; simp [zTo, Op.lookupswitch.offset]
  | cons o l ih =>
    intro lo
    simp only [zTo, Op.lookupswitch.offset]
    by_cases hv : v = lo
    · subst hv
      simp
      omega
    · rw [if_neg (by simpa using (fun q => hv (by omega : v = lo))), ih]
      by_cases h1 : v < lo ∨ lo + (o :: l).length ≤ v
      · rw [if_pos h1, if_pos]
        simp only [List.length_cons] at h1
        omega
      · rw [if_neg h1, if_neg]
        · have : (v - lo).toNat = (v - (lo + 1)).toNat + 1 := by omega
          rw [this, List.getElem?_cons_succ]
        · simp only [List.length_cons] at h1
          omega
theorem e_table {d mi pc : Nat} {ls : zL} {st : List Value} {h : zH} {df lo hi : Int} {offs : Array Int} {x : Int32} {L : List (Int32 × Nat)} {t : Nat} (ha : zAt mi pc = some (.tableswitch df lo hi offs)) (hn : lo + offs.toList.length = hi + 1) (hok : zLok pc (zTo lo offs.toList) df = true) (hL : zLo pc (zTo lo offs.toList) = L) (ht : ((pc : Int) + df).toNat = t) : zE d mi (pc, ls, .int x :: st, h) = zLk L t x (fun t => zE d mi (t, ls, st, h)) := by
  subst hL; subst ht
  obtain ⟨t, e1, e2⟩ := e_lkp1 (d := d) (mi := mi) (ls := ls) (st := st) (h := h) (x := x) (zTo lo offs.toList) hok
  rw [e2]
  refine e_next ha ?_
  show ztab pc df lo hi offs x ls st h = _
  rw [zTo_off] at e1
  unfold ztab
  by_cases hx : x.toInt < lo ∨ hi < x.toInt
  · rw [if_pos hx]
    rw [if_pos (by omega)] at e1
    exact zJ_eq e1
  · rw [if_neg hx]
    rw [if_neg (by omega)] at e1
    have hlt : (x.toInt - lo).toNat < offs.toList.length := by omega
    have hs : offs[(x.toInt - lo).toNat]? = some (offs.toList[(x.toInt - lo).toNat]) := by
      rw [← Array.getElem?_toList, List.getElem?_eq_getElem hlt]
    rw [List.getElem?_eq_getElem hlt, Option.getD_some] at e1
    rw [hs]
    exact zJ_eq e1


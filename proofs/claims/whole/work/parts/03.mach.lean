/-! THE PICTURE MACHINE: bytecode over a picture of the heap (cell, place -> number); pure -/
abbrev zH : Type := Nat → Nat → Int32
abbrev zL : Type := List (Option Value)
abbrev zF : Type := Nat × zL × List Value × zH
abbrev zE0 : Type := Option Value × zH
abbrev zC0 : Type := Nat × List Value × List Value
abbrev zO : Type := Option (zF ⊕ zE0 ⊕ zC0)
def z_up (h : zH) (c i : Nat) (v : Int32) : zH := fun a j => if a = c ∧ j = i then v else h a j
def zAt (mi pc : Nat) : Option Instr := (((zI[mi]?).getD []).find? (fun e => e.1 == pc)).map (fun e => e.2.1)
def zOwn (mi : Nat) : Nat := ((zM[mi]?).map (fun e => e.1)).getD 10
def zYn (mi : Nat) : MethodName := ((zM[mi]?).map (fun e => e.2.1)).getD ⟨"", "", ""⟩
def zCode (mi : Nat) : ByteArray := ((zM[mi]?).map (fun e => e.2.2.1)).getD ⟨#[]⟩
def zMax (mi : Nat) : Nat := ((zM[mi]?).map (fun e => e.2.2.2.1)).getD 0
def zRet (mi : Nat) : Option FieldType := ((zM[mi]?).map (fun e => e.2.2.2.2.1)).getD none
def zStt (mi : Nat) : Bool := ((zM[mi]?).map (fun e => e.2.2.2.2.2.1)).getD false
def zNar (mi : Nat) : Nat := ((zM[mi]?).map (fun e => e.2.2.2.2.2.2.1)).getD 0
def zLg (mi : Nat) : Bool := ((zM[mi]?).map (fun e => e.2.2.2.2.2.2.2)).getD false
def zFld (cn i : Nat) : Option (Nat × Nat) := (zFldL.find? (fun e => e.1 == cn && e.2.1 == i)).map (fun e => (e.2.2.1, e.2.2.2.1))
def zMth (cn i : Nat) : Option (Nat × Nat) := (zMthL.find? (fun e => e.1 == cn && e.2.1 == i)).map (fun e => (e.2.2.1, e.2.2.2.1))
def zCon (cn i : Nat) : Option Int32 := (zConL.find? (fun e => e.1 == cn && e.2.1 == i)).map (fun e => e.2.2.1)
def zCo2 (cn i : Nat) : Option Int64 := (zConLL.find? (fun e => e.1 == cn && e.2.1 == i)).map (fun e => e.2.2.1)
def zObj (a : Nat) : Option (Nat × List (Option Nat)) := match zSh[a]? with
  | some (.inr x) => some x
  | _ => none
def zArr (a : Nat) : Option Nat := match zSh[a]? with
  | some (.inl n) => some n
  | _ => none
def zcl1 : Option Value → Option Value
  | some (.long _) => none
  | some (.double _) => none
  | o => o
def zpre (ls : zL) : Nat → zL
  | 0 => ls
  | k + 1 => ls.modify k zcl1
def zst1 (lg : Bool) (ls : zL) (i : Nat) (v : Value) : zL := (if lg = true then zpre ls i else ls).set i (some v)
def zst2 (ls : zL) (i : Nat) (v : Value) : zL := ((zpre ls i).set i (some v)).set (i + 1) none
def zNx (pc : Nat) (ls : zL) (st : List Value) (h : zH) : zO := some (.inl (pc, ls, st, h))
def zJ (pc : Nat) (off : Int) (ls : zL) (st : List Value) (h : zH) : zO := match (pc : Int) + off with
  | .ofNat t => zNx t ls st h
  | .negSucc _ => none
def zBr (b : Bool) (pc : Nat) (off : Int) (ls : zL) (st : List Value) (h : zH) : zO := match (pc : Int) + off with
  | .ofNat t => if b = true then zNx t ls st h else zNx (pc + 3) ls st h
  | .negSucc _ => none
def zldi (ls : zL) (k pc : Nat) (st : List Value) (h : zH) : zO := match ls[k]? with
  | some (some (.int x)) => zNx pc ls (.int x :: st) h
  | _ => none
def zldr (ls : zL) (k pc : Nat) (st : List Value) (h : zH) : zO := match ls[k]? with
  | some (some (.ref x)) => zNx pc ls (.ref x :: st) h
  | _ => none
def zldl (ls : zL) (k pc : Nat) (st : List Value) (h : zH) : zO := match ls[k]? with
  | some (some (.long x)) => zNx pc ls (.long x :: st) h
  | _ => none
def zsti (mi : Nat) (ls : zL) (k pc : Nat) (x : Int32) (st : List Value) (h : zH) : zO := if k < zMax mi then zNx pc (zst1 (zLg mi) ls k (.int x)) st h else none
def zstr (mi : Nat) (ls : zL) (k pc : Nat) (x : Nat) (st : List Value) (h : zH) : zO := if k < zMax mi then zNx pc (zst1 (zLg mi) ls k (.ref x)) st h else none
def zstl (mi : Nat) (ls : zL) (k pc : Nat) (x : Int64) (st : List Value) (h : zH) : zO := if zLg mi = true ∧ k + 1 < zMax mi then zNx pc (zst2 ls k (.long x)) st h else none
def ziin (mi : Nat) (ls : zL) (k pc : Nat) (n : Int) (st : List Value) (h : zH) : zO := match ls[k]? with
  | some (some (.int x)) => zsti mi ls k pc (x + Int32.ofInt n) st h
  | _ => none
def zget (o : Option (Nat × Nat)) (b : Option (Nat × List (Option Nat))) (a pc : Nat) (ls : zL) (st : List Value) (h : zH) : zO := match o, b with
  | some (ci, j), some (cj, fs) => if ci = cj then (match fs[j]? with
    | some none => zNx pc ls (.int (h a j) :: st) h
    | some (some k) => zNx pc ls (.ref k :: st) h
    | none => none) else none
  | _, _ => none
def zbo (ci j : Nat) : Option FieldType := (zTy[ci]?).map (fun f => f j)
def zput (o : Option (Nat × Nat)) (b : Option (Nat × List (Option Nat))) (a pc : Nat) (x : Int32) (ls : zL) (st : List Value) (h : zH) : zO := match o, b with
  | some (ci, j), some (cj, fs) => if ci = cj ∧ fs[j]? = some none ∧ (zbo ci j = some .int ∨ (zbo ci j = some .boolean ∧ (x = 0 ∨ x = 1))) then zNx pc ls st (z_up h a j x) else none
  | _, _ => none
def zLaw : Nat := mLaw_law
/-- the script's cell in the law's own picture: 100; its length stands at (101, 0) -/
def zaln (mi a pc : Nat) (ls : zL) (st : List Value) (h : zH) : zO := if mi = zLaw ∧ a = 100 then zNx pc ls (.int (h 101 0) :: st) h else match zArr a with
  | some n => zNx pc ls (.int (Int32.ofNat n) :: st) h
  | none => none
def zald (mi a pc : Nat) (i : Int32) (ls : zL) (st : List Value) (h : zH) : zO := if mi = zLaw ∧ a = 100 then (if ¬ (i < 0 ∨ (h 101 0).toNatClampNeg ≤ i.toNatClampNeg) then zNx pc ls (.int (h 100 i.toNatClampNeg) :: st) h else none) else match zArr a with
  | some n => if ¬ (i < 0 ∨ n ≤ i.toNatClampNeg) then zNx pc ls (.int (h a i.toNatClampNeg) :: st) h else none
  | none => none
def zast (a pc : Nat) (i x : Int32) (ls : zL) (st : List Value) (h : zH) : zO := match zArr a with
  | some n => if ¬ (i < 0 ∨ n ≤ i.toNatClampNeg) then zNx pc ls st (z_up h a i.toNatClampNeg x) else none
  | none => none
def zcat (l : List Value) : Nat := (l.map fun v => v.category).sum
def zinv (o : Option (Nat × Nat)) (st : List Value) : zO := match o with
  | some (m2, 0) => (match st.drop (zNar m2) with
    | .ref a :: rest => if zNar m2 ≤ st.length ∧ zcat rest ≤ 8 ∧ (zObj a).map (fun x => x.1) = some (zOwn m2) then some (.inr (.inr (m2, .ref a :: (st.take (zNar m2)).reverse, rest))) else none
    | _ => none)
  | _ => none
def zins (o : Option (Nat × Nat)) (st : List Value) : zO := match o with
  | some (m2, k + 1) => if zNar m2 ≤ st.length ∧ zcat (st.drop (zNar m2)) ≤ 8 then some (.inr (.inr (m2, (st.take (zNar m2)).reverse, st.drop (zNar m2)))) else none
  | _ => none
def zrti (mi : Nat) (x : Int32) (h : zH) : zO := if zRet mi = some .int ∨ (zRet mi = some .boolean ∧ (x = 0 ∨ x = 1)) then some (.inr (.inl (some (.int x), h))) else none
def zci (o : Option Int32) (pc : Nat) (ls : zL) (st : List Value) (h : zH) : zO := match o with
  | some v => zNx pc ls (.int v :: st) h
  | none => none
def zc2 (o : Option Int64) (pc : Nat) (ls : zL) (st : List Value) (h : zH) : zO := match o with
  | some v => zNx pc ls (.long v :: st) h
  | none => none
def ztab (pc : Nat) (d lo hi : Int) (offs : Array Int) (x : Int32) (ls : zL) (st : List Value) (h : zH) : zO :=
  if x.toInt < lo ∨ hi < x.toInt then zJ pc d ls st h else match offs[(x.toInt - lo).toNat]? with
  | some off => zJ pc off ls st h
  | none => none
def zlkp (pc : Nat) (d : Int) (ps : Array (Int × Int)) (x : Int32) (ls : zL) (st : List Value) (h : zH) : zO :=
  if (ps.toList.zip (ps.toList.drop 1)).all (fun (a, next) => a.1 < next.1) = true then zJ pc (Op.lookupswitch.offset ps.toList d x.toInt) ls st h else none
def zop (mi : Nat) (ins : Instr) (pc : Nat) (ls : zL) (st : List Value) (h : zH) : zO := match ins, st with
  | .aload_n k, st => zldr ls k.val (pc + 1) st h
  | .aload k, st => zldr ls k (pc + 2) st h
  | .iload_n k, st => zldi ls k.val (pc + 1) st h
  | .iload k, st => zldi ls k (pc + 2) st h
  | .lload_n k, st => zldl ls k.val (pc + 1) st h
  | .lload k, st => zldl ls k (pc + 2) st h
  | .istore_n k, .int x :: st => zsti mi ls k.val (pc + 1) x st h
  | .istore k, .int x :: st => zsti mi ls k (pc + 2) x st h
  | .astore_n k, .ref x :: st => zstr mi ls k.val (pc + 1) x st h
  | .lstore_n k, .long x :: st => zstl mi ls k.val (pc + 1) x st h
  | .lstore k, .long x :: st => zstl mi ls k (pc + 2) x st h
  | .iinc k n, st => ziin mi ls k (pc + 3) n st h
  | .iconst n, st => zNx (pc + 1) ls (.int (Int32.ofInt n) :: st) h
  | .bipush n, st => zNx (pc + 2) ls (.int (Int8.ofInt n).toInt32 :: st) h
  | .sipush n, st => zNx (pc + 3) ls (.int (Int16.ofInt n).toInt32 :: st) h
  | .lconst n, st => zNx (pc + 1) ls (.long (Int64.ofNat n.val) :: st) h
  | .ldc i, st => zci (zCon (zOwn mi) i) (pc + 2) ls st h
  | .ldc_w i, st => zci (zCon (zOwn mi) i) (pc + 3) ls st h
  | .ldc2_w i, st => zc2 (zCo2 (zOwn mi) i) (pc + 3) ls st h
  | .dup, v :: st => if v.category = 1 then zNx (pc + 1) ls (v :: v :: st) h else none
  | .pop, v :: st => if v.category = 1 then zNx (pc + 1) ls st h else none
  | .dup2, v :: w :: st => if v.category = 1 ∧ w.category = 1 then zNx (pc + 1) ls (v :: w :: v :: w :: st) h else none
  | .iadd, .int y :: .int x :: st => zNx (pc + 1) ls (.int (x + y) :: st) h
  | .isub, .int y :: .int x :: st => zNx (pc + 1) ls (.int (x - y) :: st) h
  | .imul, .int y :: .int x :: st => zNx (pc + 1) ls (.int (x * y) :: st) h
  | .idiv, .int y :: .int x :: st => if y = 0 then none else zNx (pc + 1) ls (.int (x / y) :: st) h
  | .irem, .int y :: .int x :: st => if y = 0 then none else zNx (pc + 1) ls (.int (x - x / y * y) :: st) h
  | .ineg, .int x :: st => zNx (pc + 1) ls (.int (-x) :: st) h
  | .ishl, .int y :: .int x :: st => zNx (pc + 1) ls (.int (x <<< (y &&& 31)) :: st) h
  | .ishr, .int y :: .int x :: st => zNx (pc + 1) ls (.int (x >>> (y &&& 31)) :: st) h
  | .iushr, .int y :: .int x :: st => zNx (pc + 1) ls (.int (x.toUInt32 >>> (y.toUInt32 &&& Int32.toUInt32 31)).toInt32 :: st) h
  | .iand, .int y :: .int x :: st => zNx (pc + 1) ls (.int (x &&& y) :: st) h
  | .ior, .int y :: .int x :: st => zNx (pc + 1) ls (.int (x ||| y) :: st) h
  | .ixor, .int y :: .int x :: st => zNx (pc + 1) ls (.int (x ^^^ y) :: st) h
  | .i2l, .int x :: st => zNx (pc + 1) ls (.long x.toInt64 :: st) h
  | .ladd, .long y :: .long x :: st => zNx (pc + 1) ls (.long (x + y) :: st) h
  | .lsub, .long y :: .long x :: st => zNx (pc + 1) ls (.long (x - y) :: st) h
  | .lmul, .long y :: .long x :: st => zNx (pc + 1) ls (.long (x * y) :: st) h
  | .ldiv, .long y :: .long x :: st => if y = 0 then none else zNx (pc + 1) ls (.long (x / y) :: st) h
  | .lrem, .long y :: .long x :: st => if y = 0 then none else zNx (pc + 1) ls (.long (x - x / y * y) :: st) h
  | .lcmp, .long y :: .long x :: st => zNx (pc + 1) ls (.int (lg_cmp x y) :: st) h
  | .if_icmp .eq off, .int y :: .int x :: st => zBr (decide (x = y)) pc off ls st h
  | .if_icmp .ne off, .int y :: .int x :: st => zBr (!decide (x = y)) pc off ls st h
  | .if_icmp .lt off, .int y :: .int x :: st => zBr (decide (x < y)) pc off ls st h
  | .if_icmp .ge off, .int y :: .int x :: st => zBr (decide (x ≥ y)) pc off ls st h
  | .if_icmp .gt off, .int y :: .int x :: st => zBr (decide (x > y)) pc off ls st h
  | .if_icmp .le off, .int y :: .int x :: st => zBr (decide (x ≤ y)) pc off ls st h
  | .ifCond .eq off, .int x :: st => zBr (decide (x = 0)) pc off ls st h
  | .ifCond .ne off, .int x :: st => zBr (!decide (x = 0)) pc off ls st h
  | .ifCond .lt off, .int x :: st => zBr (decide (x < 0)) pc off ls st h
  | .ifCond .ge off, .int x :: st => zBr (decide (x ≥ 0)) pc off ls st h
  | .ifCond .gt off, .int x :: st => zBr (decide (x > 0)) pc off ls st h
  | .ifCond .le off, .int x :: st => zBr (decide (x ≤ 0)) pc off ls st h
  | .goto off, st => zJ pc off ls st h
  | .ifnull off, .ref _ :: st => zNx (pc + 3) ls st h
  | .ifnonnull off, .ref _ :: st => zJ pc off ls st h
  | .tableswitch d lo hi offs, .int x :: st => ztab pc d lo hi offs x ls st h
  | .lookupswitch d ps, .int x :: st => zlkp pc d ps x ls st h
  | .getfield i, .ref a :: st => zget (zFld (zOwn mi) i) (zObj a) a (pc + 3) ls st h
  | .putfield i, .int x :: .ref a :: st => zput (zFld (zOwn mi) i) (zObj a) a (pc + 3) x ls st h
  | .arraylength, .ref a :: st => zaln mi a (pc + 1) ls st h
  | .iaload, .int i :: .ref a :: st => zald mi a (pc + 1) i ls st h
  | .iastore, .int x :: .int i :: .ref a :: st => zast a (pc + 1) i x ls st h
  | .invokevirtual i, st => zinv (zMth (zOwn mi) i) st
  | .invokestatic i, st => zins (zMth (zOwn mi) i) st
  | .ireturn, [.int x] => zrti mi x h
  | .lreturn, [.long x] => if zRet mi = some .long then some (.inr (.inl (some (.long x), h))) else none
  | .return_, [] => if zRet mi = none then some (.inr (.inl (none, h))) else none
  | _, _ => none
def zn (mi : Nat) (z : zF) : zO := match zAt mi z.1 with
  | none => none
  | some ins => zop mi ins z.1 z.2.1 z.2.2.1 z.2.2.2
def zev1 (cal : Nat → List Value → zH → Option zE0) (K : zF → Option zE0) (z : zF) : zO → Option zE0
  | none => none
  | some (.inl y) => K y
  | some (.inr (.inl r)) => some r
  | some (.inr (.inr q)) => (cal q.1 q.2.1 z.2.2.2).bind (fun r => K (z.1 + 3, z.2.1, r.1.toList ++ q.2.2, r.2))
def zev (cal : Nat → List Value → zH → Option zE0) (mi : Nat) : Nat → zF → Option zE0
  | 0, _ => none
  | n + 1, z => zev1 cal (zev cal mi n) z (zn mi z)
noncomputable def zEv (cal : Nat → List Value → zH → Option zE0) (mi : Nat) (z : zF) : Option zE0 :=
  @dite _ (∃ r, ∃ n, zev cal mi n z = some r) (Classical.propDecidable _) (fun hx => some hx.choose) (fun _ => none)
theorem zev_succ {cal : Nat → List Value → zH → Option zE0} {mi : Nat} {r : zE0} : ∀ {n : Nat} {z : zF}, zev cal mi n z = some r → zev cal mi (n + 1) z = some r := by
  intro n
  induction n with
  | zero => intro z h; cases h
  | succ n ih =>
    intro z h
    have h : zev1 cal (zev cal mi n) z (zn mi z) = some r := h
    show zev1 cal (zev cal mi (n + 1)) z (zn mi z) = some r
    cases hq : zn mi z with
    | none => rw [hq] at h; cases h
    | some q =>
      rw [hq] at h
      rcases q with y | q | q
      · exact ih h
      · exact h
      · have h : (cal q.1 q.2.1 z.2.2.2).bind _ = some r := h
        obtain ⟨r1, h1, h2⟩ := Option.bind_eq_some_iff.mp h
        exact Option.bind_eq_some_iff.mpr ⟨r1, h1, ih h2⟩
theorem zev_le {cal : Nat → List Value → zH → Option zE0} {mi : Nat} {r : zE0} {z : zF} {n k : Nat} (h : zev cal mi n z = some r) (hk : n ≤ k) : zev cal mi k z = some r := by
  induction hk with
  | refl => exact h
  | step _ ih => exact zev_succ ih
theorem zEv_of {cal : Nat → List Value → zH → Option zE0} {mi : Nat} {r : zE0} {z : zF} {n : Nat} (h : zev cal mi n z = some r) : zEv cal mi z = some r := by
  have hx : ∃ r, ∃ n, zev cal mi n z = some r := ⟨r, n, h⟩
  unfold zEv
  rw [dif_pos hx]
  obtain ⟨k, hk⟩ := hx.choose_spec
  have h1 := zev_le h (Nat.le_max_left n k)
  have h2 := zev_le hk (Nat.le_max_right n k)
  rw [h1] at h2
  rw [Option.some.inj h2]
theorem zEv_some {cal : Nat → List Value → zH → Option zE0} {mi : Nat} {r : zE0} {z : zF} (h : zEv cal mi z = some r) : ∃ n, zev cal mi n z = some r := by
  unfold zEv at h
  split at h
  · rename_i hx
    rw [← Option.some.inj h]
    exact hx.choose_spec
  · cases h
theorem zEv_ext {cal : Nat → List Value → zH → Option zE0} {mi : Nat} {z y : zF} (h1 : ∀ n r, zev cal mi n y = some r → ∃ k, zev cal mi k z = some r) (h2 : ∀ n r, zev cal mi n z = some r → ∃ k, zev cal mi k y = some r) : zEv cal mi z = zEv cal mi y := by
  cases hy : zEv cal mi y with
  | some r =>
    obtain ⟨n, hn⟩ := zEv_some hy
    obtain ⟨k, hk⟩ := h1 n r hn
    exact zEv_of hk
  | none =>
    cases hz : zEv cal mi z with
    | none => rfl
    | some r =>
      obtain ⟨n, hn⟩ := zEv_some hz
      obtain ⟨k, hk⟩ := h2 n r hn
      rw [zEv_of hk] at hy
      cases hy
theorem zEv_next {cal : Nat → List Value → zH → Option zE0} {mi : Nat} {z y : zF} (h : zn mi z = some (.inl y)) : zEv cal mi z = zEv cal mi y := by
  refine zEv_ext (fun n r hr => ⟨n + 1, ?_⟩) (fun n r hr => ?_)
  · show zev1 cal (zev cal mi n) z (zn mi z) = some r
    rw [h]; exact hr
  · cases n with
    | zero => cases hr
    | succ n =>
      have hr : zev1 cal (zev cal mi n) z (zn mi z) = some r := hr
      rw [h] at hr
      exact ⟨n, hr⟩
theorem zEv_ret {cal : Nat → List Value → zH → Option zE0} {mi : Nat} {z : zF} {r : zE0} (h : zn mi z = some (.inr (.inl r))) : zEv cal mi z = some r :=
  zEv_of (n := 1) (by show zev1 cal (zev cal mi 0) z (zn mi z) = some r; rw [h]; rfl)
theorem zEv_call {cal : Nat → List Value → zH → Option zE0} {mi : Nat} {z : zF} {q : zC0} (h : zn mi z = some (.inr (.inr q))) : zEv cal mi z = (cal q.1 q.2.1 z.2.2.2).bind (fun r => zEv cal mi (z.1 + 3, z.2.1, r.1.toList ++ q.2.2, r.2)) := by
  have key : ∀ n r, zev cal mi (n + 1) z = some r ↔ (cal q.1 q.2.1 z.2.2.2).bind (fun r => zev cal mi n (z.1 + 3, z.2.1, r.1.toList ++ q.2.2, r.2)) = some r := by
    intro n r
    show zev1 cal (zev cal mi n) z (zn mi z) = some r ↔ _
    rw [h]; rfl
  cases hc : cal q.1 q.2.1 z.2.2.2 with
  | none =>
    cases hz : zEv cal mi z with
    | none => rfl
    | some r =>
      obtain ⟨n, hn⟩ := zEv_some hz
      cases n with
      | zero => cases hn
      | succ n =>
        rw [key, hc] at hn
        cases hn
  | some r =>
    show _ = zEv cal mi _
    refine zEv_ext (fun n r1 hr => ⟨n + 1, by rw [key, hc]; exact hr⟩) (fun n r1 hr => ?_)
    cases n with
    | zero => cases hr
    | succ n =>
      rw [key, hc] at hr
      exact ⟨n, hr⟩
def zloc : List Value → zL
  | [] => []
  | v :: vs => if v.category = 2 then some v :: none :: zloc vs else some v :: zloc vs
def zent (n : Nat) (as : List Value) : zL := zloc as ++ List.replicate (n - (zloc as).length) none
def zok (mi : Nat) (as : List Value) : Bool := (decide (mi < zLaw) && (mi != mMath_max && mi != mMath_min)) && (decide ((zloc as).length ≤ zMax mi) && (zLg mi || as.all (fun v => v.category == 1)))
/-- Math.max and min are the machine's own -/
def zmm (mi : Nat) (as : List Value) (h : zH) : Option zE0 := match as with
  | [.int x, .int y] => if mi = mMath_max then some (some (.int (if x < y then y else x)), h) else some (some (.int (if y < x then y else x)), h)
  | _ => none
noncomputable def zcal : Nat → Nat → List Value → zH → Option zE0
  | 0, _, _, _ => none
  | d + 1, mi, as, h => if mi = mMath_max ∨ mi = mMath_min then zmm mi as h else if zok mi as = true then zEv (zcal d) mi (0, zent (zMax mi) as, [], h) else none
/-- a run at depth d -/
noncomputable abbrev zE (d mi : Nat) (z : zF) : Option zE0 := zEv (zcal d) mi z

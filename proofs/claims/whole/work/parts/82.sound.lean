/-! SOUNDNESS: what the picture machine does, the machine does -/
def zTr (ad : Nat → Nat) : Value → Value
  | .ref a => .ref (ad a)
  | v => v
theorem zTr_cat (ad : Nat → Nat) (v : Value) : (zTr ad v).category = v.category := by cases v <;> rfl
def zFl (ad : Nat → Nat) (h : zH) (a : Nat) (fs : List (Option Nat)) : List Value := fs.mapIdx (fun j f => match f with
  | none => .int (h a j)
  | some k => .ref (ad k))
def zEn (ad : Nat → Nat) (cA : ClassId) (h : zH) (a : Nat) : (Nat ⊕ (Nat × List (Option Nat))) → va_E
  | .inl n => .inl (cA, n, .inl (h a))
  | .inr x => .inr (x.1, zFl ad h a x.2)
def zWl (Pl : List Nat) (ad : Nat → Nat) (cA : ClassId) (h : zH) : va_W := Pl.map (fun a => (ad a, zEn ad cA h a ((zSh[a]?).getD (.inl 0))))
def zNd (Pl : List Nat) : Prop := ∀ i j a : Nat, Pl[i]? = some a → Pl[j]? = some a → i = j
theorem zWl_k {Pl : List Nat} {ad : Nat → Nat} {cA : ClassId} {h : zH} {k a : Nat} {x : Nat ⊕ (Nat × List (Option Nat))} (hk : Pl[k]? = some a) (hx : zSh[a]? = some x) : (zWl Pl ad cA h)[k]? = some (ad a, zEn ad cA h a x) := by
  rw [zWl, List.getElem?_map, hk, Option.map_some, hx]; rfl
theorem zWl_inv {Pl : List Nat} {ad : Nat → Nat} {cA : ClassId} {h : zH} {k : Nat} {q : Nat × va_E} (hx : (zWl Pl ad cA h)[k]? = some q) : ∃ a, Pl[k]? = some a ∧ q = (ad a, zEn ad cA h a ((zSh[a]?).getD (.inl 0))) := by
  rw [zWl, List.getElem?_map] at hx
  cases hs : Pl[k]? with
  | none => rw [hs] at hx; cases hx
  | some a => rw [hs] at hx; exact ⟨a, rfl, (Option.some.inj hx).symm⟩
theorem zEn_ne {ad : Nat → Nat} {cA : ClassId} {h : zH} {c i a : Nat} {v : Int32} {x : Nat ⊕ (Nat × List (Option Nat))} (hne : a ≠ c) : zEn ad cA (z_up h c i v) a x = zEn ad cA h a x := by
  cases x with
  | inl n => simp only [zEn, z_up_ne hne]
  | inr y => simp only [zEn, zFl, z_up_ne hne]
theorem zWl_set {Pl : List Nat} (hnd : zNd Pl) {ad : Nat → Nat} {cA : ClassId} {h : zH} {c i k : Nat} {v : Int32} {x : Nat ⊕ (Nat × List (Option Nat))} (hk : Pl[k]? = some c) (hx : zSh[c]? = some x) : (zWl Pl ad cA h).set k (ad c, zEn ad cA (z_up h c i v) c x) = zWl Pl ad cA (z_up h c i v) := by
  apply List.ext_getElem?
  intro j
  by_cases hj : j = k
  · subst hj
    rw [List.getElem?_set_self (List.getElem?_eq_some_iff.mp (zWl_k hk hx)).1, zWl_k hk hx]
  · rw [List.getElem?_set_ne (Ne.symm hj), zWl, zWl, List.getElem?_map, List.getElem?_map]
    cases hp : Pl[j]? with
    | none => rfl
    | some a =>
      have hne : a ≠ c := fun e => hj (hnd j k c (by rw [hp, e]) hk)
      show some (ad a, _) = some (ad a, _)
      rw [zEn_ne hne]
theorem zEn_arr {ad : Nat → Nat} {cA : ClassId} {h : zH} {c i n : Nat} {v : Int32} : zEn ad cA (z_up h c i v) c (.inl n) = .inl (cA, n, .inl (upd (h c) i v)) := by
  show Sum.inl (cA, n, Sum.inl (z_up h c i v c)) = _
  have : z_up h c i v c = upd (h c) i v := by funext j; unfold z_up upd; simp
  rw [this]
theorem zFl_at {ad : Nat → Nat} {h : zH} {a j : Nat} {fs : List (Option Nat)} {f : Option Nat} (hf : fs[j]? = some f) : (zFl ad h a fs)[j]? = some (match f with
  | none => .int (h a j)
  | some k => .ref (ad k)) := by
  subst_vars
  cases f <;> simp [zFl, List.getElem?_mapIdx, hf]
theorem zFl_set {ad : Nat → Nat} {h : zH} {a j : Nat} {fs : List (Option Nat)} {v : Int32} (hf : fs[j]? = some none) : (zFl ad h a fs).set j (.int v) = zFl ad (z_up h a j v) a fs := by
  apply List.ext_getElem?
  intro k
  by_cases hk : k = j
  · subst hk
    rw [List.getElem?_set_self (List.getElem?_eq_some_iff.mp (zFl_at (ad := ad) (h := h) (a := a) hf)).1, zFl_at hf]
    simp [z_up]
  · rw [List.getElem?_set_ne (Ne.symm hk), zFl, zFl, List.getElem?_mapIdx, List.getElem?_mapIdx]
    cases fs[k]? with
    | none => rfl
    | some y =>
      cases y with
      | none => simp [z_up, hk]
      | some _ => rfl
theorem zFl_len {ad : Nat → Nat} {h : zH} {a : Nat} {fs : List (Option Nat)} : (zFl ad h a fs).length = fs.length := by simp [zFl]
/-- locals -/
def zLs (ad : Nat → Nat) (nL : Nat) (pl : zL) (ls : Array Slot) : Prop := ls.size = nL ∧ lv_wf ls ∧ ∀ (i : Nat) (v : Value), pl[i]? = some (some v) → ls[i]? = some (Slot.val (zTr ad v))
def zNl (lg : Bool) (pl : zL) : Prop := lg = false → ∀ (i : Nat) (v : Value), pl[i]? = some (some v) → v.category = 1
def zAl (ad : Nat → Nat) (pl : zL) : List (Nat × Value) := (List.range pl.length).filterMap (fun i => match pl[i]? with
  | some (some v) => some (i, zTr ad v)
  | _ => none)
theorem zAl_mem {ad : Nat → Nat} {pl : zL} {q : Nat × Value} : q ∈ zAl ad pl ↔ ∃ v, pl[q.1]? = some (some v) ∧ q.2 = zTr ad v := by
  unfold zAl
  rw [List.mem_filterMap]
  constructor
  · rintro ⟨i, -, hi⟩
    split at hi
    · rename_i v hv; cases hi; exact ⟨v, hv, rfl⟩
    · cases hi
  · rintro ⟨v, hv, he⟩
    refine ⟨q.1, List.mem_range.mpr (List.getElem?_eq_some_iff.mp hv).1, ?_⟩
    rw [hv]; show some (q.1, zTr ad v) = some q; rw [← he]
theorem zLs_has {ad : Nat → Nat} {nL : Nat} {pl : zL} {ls : Array Slot} (h : zLs ad nL pl ls) : lv_has ls nL (zAl ad pl) := by
  refine ⟨h.1, h.2.1, fun q hq => ?_⟩
  obtain ⟨v, hv, he⟩ := zAl_mem.mp hq
  rw [h.2.2 _ _ hv, he]
theorem zLs_st1 {ad : Nat → Nat} {nL i : Nat} {lg : Bool} {pl : zL} {ls : Array Slot} {v : Value} (hn : zNl lg pl) (hc : v.category = 1) (h : lv_has ls nL ((i, zTr ad v) :: (zAl ad pl).filter (fun q => !(q.1 == i) && !(q.1 + 1 == i && q.2.category == 2)))) : zLs ad nL (zst1 lg pl i v) ls ∧ zNl lg (zst1 lg pl i v) := by
  have key : ∀ (j : Nat) (w : Value), (zst1 lg pl i v)[j]? = some (some w) → (j = i ∧ w = v) ∨ (j ≠ i ∧ pl[j]? = some (some w) ∧ (j + 1 = i → w.category = 1)) := by
    intro j w hj
    unfold zst1 at hj
    rcases zset_at hj with g | ⟨g1, g2⟩
    · exact Or.inl g
    · refine Or.inr ⟨g1, ?_⟩
      by_cases hl : lg = true
      · rw [if_pos hl] at g2; exact zpre_at g2
      · rw [if_neg hl] at g2
        exact ⟨g2, fun _ => hn (by simpa using hl) j w g2⟩
  refine ⟨⟨h.1, h.2.1, fun j w hj => ?_⟩, fun hl j w hj => ?_⟩
  · rcases key j w hj with ⟨rfl, rfl⟩ | ⟨h1, h2, h3⟩
    · exact h.2.2 (j, zTr ad w) List.mem_cons_self
    · refine h.2.2 (j, zTr ad w) (List.mem_cons_of_mem _ (List.mem_filter.mpr ⟨zAl_mem.mpr ⟨w, h2, rfl⟩, ?_⟩))
      simp only [zTr_cat]
      by_cases he : j + 1 = i
      · simp [h1, he, h3 he]
      · simp [h1, he]
  · rcases key j w hj with ⟨rfl, rfl⟩ | ⟨h1, h2, h3⟩
    · exact hc
    · exact hn hl j w h2
theorem zLs_st2 {ad : Nat → Nat} {nL i : Nat} {pl : zL} {ls : Array Slot} {v : Value} (h : lv_has ls nL ((i, zTr ad v) :: (zAl ad pl).filter (fun q => !(q.1 == i) && (!(q.1 == i + 1) && !(q.1 + 1 == i && q.2.category == 2))))) : zLs ad nL (zst2 pl i v) ls := by
  refine ⟨h.1, h.2.1, fun j w hj => ?_⟩
  unfold zst2 at hj
  have h1 : j ≠ i + 1 := by
    intro h1
    subst h1
    have hl := (List.getElem?_eq_some_iff.mp hj).1
    rw [List.getElem?_set_self (by simpa using hl)] at hj
    cases hj
  rw [List.getElem?_set_ne (Ne.symm h1)] at hj
  rcases zset_at hj with ⟨rfl, rfl⟩ | ⟨hji, g⟩
  · exact h.2.2 (j, zTr ad w) List.mem_cons_self
  · obtain ⟨g1, g2⟩ := zpre_at g
    refine h.2.2 (j, zTr ad w) (List.mem_cons_of_mem _ (List.mem_filter.mpr ⟨zAl_mem.mpr ⟨w, g1, rfl⟩, ?_⟩))
    simp only [zTr_cat]
    by_cases he : j + 1 = i
    · simp [hji, h1, he, g2 he]
    · simp [hji, h1, he]
/-- a decoded instruction of the tables -/
theorem zAt_mem {mi pc : Nat} {ins : Instr} (h : zAt mi pc = some ins) : ∃ len, (pc, ins, len) ∈ (zI[mi]?).getD [] := by
  unfold zAt at h
  cases hf : ((zI[mi]?).getD []).find? (fun e => e.1 == pc) with
  | none => rw [hf] at h; cases h
  | some e =>
    rw [hf] at h
    have h1 := List.find?_some hf
    have h2 := List.mem_of_find?_eq_some hf
    obtain ⟨a, b, c⟩ := e
    simp only [beq_iff_eq] at h1
    subst h1
    cases h
    exact ⟨c, h2⟩
theorem zAt_dec {mi pc : Nat} {ins : Instr} (hd : zdec (zCode mi) ((zI[mi]?).getD []) = true) (h : zAt mi pc = some ins) : ∃ len, decode (zCode mi) pc = .ok (ins, len) ∧ (zsw ins = true ∨ len = zlen ins) := by
  obtain ⟨len, hm⟩ := zAt_mem h
  have h1 := List.all_eq_true.mp hd _ hm
  simp only [Bool.and_eq_true, decide_eq_true_eq, Bool.or_eq_true, beq_iff_eq] at h1
  exact ⟨len, h1.1, h1.2⟩
theorem zAt_dec1 {mi pc : Nat} {ins : Instr} (hd : zdec (zCode mi) ((zI[mi]?).getD []) = true) (h : zAt mi pc = some ins) (hs : zsw ins = false) : decode (zCode mi) pc = .ok (ins, zlen ins) := by
  obtain ⟨len, h1, h2⟩ := zAt_dec hd h
  rcases h2 with h2 | h2
  · rw [h2] at hs; cases hs
  · rw [← h2]; exact h1
theorem zNl_lg {lg : Bool} {pl : zL} (h : lg = true) : zNl lg pl := fun h2 => by rw [h] at h2; cases h2
section ZS
variable (p : Program) (l : Launch) (e : Env) (R : Room) (s : State) (m : MethodId) (args : Array Value) (below : List Frame) (meth : Method) (c : Code) (D : va_G) (Pl : List Nat) (ad : Nat → Nat) (cA : ClassId) (A : Nat → Prop) (mi : Nat) (cells slots : Nat) (Q : State → Prop)
def zScr (h : zH) : Prop := va_X (ad 100) (h 101 0).toNatClampNeg (h 100) s s.heap ∧ ad 100 < s.heap.size ∧ ¬ A (ad 100) ∧ Int32.ofNat (h 101 0).toNatClampNeg = h 101 0
def zWd (h : zH) (H : Heap) (locs : List Loc) : Prop := va_P D zcl (zWl Pl ad cA h) H ∧ va_D A (zWl Pl ad cA h) ∧ va_S A s.heap H locs ∧ (mi = zLaw → zScr s ad A h)
def zCx : Prop := p.tables.exec = Jvm.exec ∧ c.code = zCode mi ∧ c.maxLocals = zMax mi ∧ s.vm.findClass (zName (zOwn mi)) = some m.cls ∧ (∀ w ∈ zBig, w.before args s = true) ∧ (∀ w ∈ zNw, va_Nw w s) ∧ va_K D zcl [(cA, .int)] s ∧ (∀ q, s.heap.size ≤ q → A q) ∧ zdec (zCode mi) ((zI[mi]?).getD []) = true ∧ meth.sig.returnType = zRet mi
def zGo (z : zF) : Prop := ∀ (H : Heap) (locs : List Loc) (ls : Array Slot), zWd s D Pl ad cA A mi z.2.2.2 H locs → zLs ad (zMax mi) z.2.1 ls → zNl (zLg mi) z.2.1 → W p l e R s m args below meth c H locs cells slots Q (F0 m z.1 ls (z.2.2.1.map (zTr ad)))
variable {p l e R s m args below meth c D Pl ad cA A mi cells slots Q}
theorem zWd_up {h : zH} {H H1 : Heap} {locs locs1 : List Loc} {a i : Nat} {x : Int32} (hw : zWd s D Pl ad cA A mi h H locs) (ha : a < 100) (h1 : va_P D zcl (zWl Pl ad cA (z_up h a i x)) H1) (h2 : va_D A (zWl Pl ad cA (z_up h a i x))) (h3 : va_S A s.heap H1 locs1) : zWd s D Pl ad cA A mi (z_up h a i x) H1 locs1 := by
  refine ⟨h1, h2, h3, fun hm => ?_⟩
  have := hw.2.2.2 hm
  unfold zScr at this ⊢
  rw [z_up_ne (by omega : (100 : Nat) ≠ a), z_up_ne (by omega : (101 : Nat) ≠ a)]
  exact this
theorem z_nx {pc : Nat} {pl : zL} {st : List Value} {h : zH} {y : zF} (hz : zNx pc pl st h = some (.inl y)) (k : zGo p l e R s m args below meth c D Pl ad cA A mi cells slots Q y) : zGo p l e R s m args below meth c D Pl ad cA A mi cells slots Q (pc, pl, st, h) := by
  have : (pc, pl, st, h) = y := Sum.inl.inj (Option.some.inj hz)
  rw [this]; exact k
/-- a jump -/
theorem z_j {pc : Nat} {off : Int} {pl : zL} {st : List Value} {h : zH} {y : zF} (hz : zJ pc off pl st h = some (.inl y)) (k : zGo p l e R s m args below meth c D Pl ad cA A mi cells slots Q y) : ∃ t : Nat, (pc : Int) + off = (t : Int) ∧ zGo p l e R s m args below meth c D Pl ad cA A mi cells slots Q (t, pl, st, h) := by
  unfold zJ at hz
  split at hz
  · rename_i t ht; exact ⟨t, ht, z_nx hz k⟩
  · cases hz
/-- a branch -/
theorem z_br {b : Bool} {pc : Nat} {off : Int} {pl : zL} {st : List Value} {h : zH} {y : zF} (hz : zBr b pc off pl st h = some (.inl y)) (k : zGo p l e R s m args below meth c D Pl ad cA A mi cells slots Q y) : ∃ t : Nat, (pc : Int) + off = (t : Int) ∧ (b = true → zGo p l e R s m args below meth c D Pl ad cA A mi cells slots Q (t, pl, st, h)) ∧ (b = false → zGo p l e R s m args below meth c D Pl ad cA A mi cells slots Q (pc + 3, pl, st, h)) := by
  unfold zBr at hz
  split at hz
  · rename_i t ht
    refine ⟨t, ht, fun hb => ?_, fun hb => ?_⟩
    · rw [if_pos hb] at hz; exact z_nx hz k
    · rw [if_neg (by rw [hb]; decide)] at hz; exact z_nx hz k
  · cases hz
theorem z_iadd {pc : Nat} {pl : zL} {st : List Value} {h : zH} {x y : Int32} {z : zF} (C : zCx p s m args meth c D cA A mi) (ha : zAt mi pc = some .iadd) (hz : zNx (pc + 1) pl (.int (x + y) :: st) h = some (.inl z)) (k : zGo p l e R s m args below meth c D Pl ad cA A mi cells slots Q z) : zGo p l e R s m args below meth c D Pl ad cA A mi cells slots Q (pc, pl, .int y :: .int x :: st, h) := by
  intro H locs ls hw hl hn
  exact lv_iadd C.1 C.2.1 (zAt_dec1 C.2.2.2.2.2.2.2.2.1 ha rfl) (z_nx hz k H locs ls hw hl hn)
theorem z_isub {pc : Nat} {pl : zL} {st : List Value} {h : zH} {x y : Int32} {z : zF} (C : zCx p s m args meth c D cA A mi) (ha : zAt mi pc = some .isub) (hz : zNx (pc + 1) pl (.int (x - y) :: st) h = some (.inl z)) (k : zGo p l e R s m args below meth c D Pl ad cA A mi cells slots Q z) : zGo p l e R s m args below meth c D Pl ad cA A mi cells slots Q (pc, pl, .int y :: .int x :: st, h) := by
  intro H locs ls hw hl hn
  exact lv_isub C.1 C.2.1 (zAt_dec1 C.2.2.2.2.2.2.2.2.1 ha rfl) (z_nx hz k H locs ls hw hl hn)
theorem z_imul {pc : Nat} {pl : zL} {st : List Value} {h : zH} {x y : Int32} {z : zF} (C : zCx p s m args meth c D cA A mi) (ha : zAt mi pc = some .imul) (hz : zNx (pc + 1) pl (.int (x * y) :: st) h = some (.inl z)) (k : zGo p l e R s m args below meth c D Pl ad cA A mi cells slots Q z) : zGo p l e R s m args below meth c D Pl ad cA A mi cells slots Q (pc, pl, .int y :: .int x :: st, h) := by
  intro H locs ls hw hl hn
  exact lv_imul C.1 C.2.1 (zAt_dec1 C.2.2.2.2.2.2.2.2.1 ha rfl) (z_nx hz k H locs ls hw hl hn)
theorem z_ishl {pc : Nat} {pl : zL} {st : List Value} {h : zH} {x y : Int32} {z : zF} (C : zCx p s m args meth c D cA A mi) (ha : zAt mi pc = some .ishl) (hz : zNx (pc + 1) pl (.int (x <<< (y &&& 31)) :: st) h = some (.inl z)) (k : zGo p l e R s m args below meth c D Pl ad cA A mi cells slots Q z) : zGo p l e R s m args below meth c D Pl ad cA A mi cells slots Q (pc, pl, .int y :: .int x :: st, h) := by
  intro H locs ls hw hl hn
  exact lv_ishl C.1 C.2.1 (zAt_dec1 C.2.2.2.2.2.2.2.2.1 ha rfl) (z_nx hz k H locs ls hw hl hn)
theorem z_ishr {pc : Nat} {pl : zL} {st : List Value} {h : zH} {x y : Int32} {z : zF} (C : zCx p s m args meth c D cA A mi) (ha : zAt mi pc = some .ishr) (hz : zNx (pc + 1) pl (.int (x >>> (y &&& 31)) :: st) h = some (.inl z)) (k : zGo p l e R s m args below meth c D Pl ad cA A mi cells slots Q z) : zGo p l e R s m args below meth c D Pl ad cA A mi cells slots Q (pc, pl, .int y :: .int x :: st, h) := by
  intro H locs ls hw hl hn
  exact lv_ishr C.1 C.2.1 (zAt_dec1 C.2.2.2.2.2.2.2.2.1 ha rfl) (z_nx hz k H locs ls hw hl hn)
theorem z_iand {pc : Nat} {pl : zL} {st : List Value} {h : zH} {x y : Int32} {z : zF} (C : zCx p s m args meth c D cA A mi) (ha : zAt mi pc = some .iand) (hz : zNx (pc + 1) pl (.int (x &&& y) :: st) h = some (.inl z)) (k : zGo p l e R s m args below meth c D Pl ad cA A mi cells slots Q z) : zGo p l e R s m args below meth c D Pl ad cA A mi cells slots Q (pc, pl, .int y :: .int x :: st, h) := by
  intro H locs ls hw hl hn
  exact lv_iand C.1 C.2.1 (zAt_dec1 C.2.2.2.2.2.2.2.2.1 ha rfl) (z_nx hz k H locs ls hw hl hn)
theorem z_ior {pc : Nat} {pl : zL} {st : List Value} {h : zH} {x y : Int32} {z : zF} (C : zCx p s m args meth c D cA A mi) (ha : zAt mi pc = some .ior) (hz : zNx (pc + 1) pl (.int (x ||| y) :: st) h = some (.inl z)) (k : zGo p l e R s m args below meth c D Pl ad cA A mi cells slots Q z) : zGo p l e R s m args below meth c D Pl ad cA A mi cells slots Q (pc, pl, .int y :: .int x :: st, h) := by
  intro H locs ls hw hl hn
  exact lv_ior C.1 C.2.1 (zAt_dec1 C.2.2.2.2.2.2.2.2.1 ha rfl) (z_nx hz k H locs ls hw hl hn)
theorem z_ixor {pc : Nat} {pl : zL} {st : List Value} {h : zH} {x y : Int32} {z : zF} (C : zCx p s m args meth c D cA A mi) (ha : zAt mi pc = some .ixor) (hz : zNx (pc + 1) pl (.int (x ^^^ y) :: st) h = some (.inl z)) (k : zGo p l e R s m args below meth c D Pl ad cA A mi cells slots Q z) : zGo p l e R s m args below meth c D Pl ad cA A mi cells slots Q (pc, pl, .int y :: .int x :: st, h) := by
  intro H locs ls hw hl hn
  exact lv_ixor C.1 C.2.1 (zAt_dec1 C.2.2.2.2.2.2.2.2.1 ha rfl) (z_nx hz k H locs ls hw hl hn)
theorem z_ladd {pc : Nat} {pl : zL} {st : List Value} {h : zH} {x y : Int64} {z : zF} (C : zCx p s m args meth c D cA A mi) (ha : zAt mi pc = some .ladd) (hz : zNx (pc + 1) pl (.long (x + y) :: st) h = some (.inl z)) (k : zGo p l e R s m args below meth c D Pl ad cA A mi cells slots Q z) : zGo p l e R s m args below meth c D Pl ad cA A mi cells slots Q (pc, pl, .long y :: .long x :: st, h) := by
  intro H locs ls hw hl hn
  exact lv_ladd C.1 C.2.1 (zAt_dec1 C.2.2.2.2.2.2.2.2.1 ha rfl) (z_nx hz k H locs ls hw hl hn)
theorem z_lsub {pc : Nat} {pl : zL} {st : List Value} {h : zH} {x y : Int64} {z : zF} (C : zCx p s m args meth c D cA A mi) (ha : zAt mi pc = some .lsub) (hz : zNx (pc + 1) pl (.long (x - y) :: st) h = some (.inl z)) (k : zGo p l e R s m args below meth c D Pl ad cA A mi cells slots Q z) : zGo p l e R s m args below meth c D Pl ad cA A mi cells slots Q (pc, pl, .long y :: .long x :: st, h) := by
  intro H locs ls hw hl hn
  exact lv_lsub C.1 C.2.1 (zAt_dec1 C.2.2.2.2.2.2.2.2.1 ha rfl) (z_nx hz k H locs ls hw hl hn)
theorem z_lmul {pc : Nat} {pl : zL} {st : List Value} {h : zH} {x y : Int64} {z : zF} (C : zCx p s m args meth c D cA A mi) (ha : zAt mi pc = some .lmul) (hz : zNx (pc + 1) pl (.long (x * y) :: st) h = some (.inl z)) (k : zGo p l e R s m args below meth c D Pl ad cA A mi cells slots Q z) : zGo p l e R s m args below meth c D Pl ad cA A mi cells slots Q (pc, pl, .long y :: .long x :: st, h) := by
  intro H locs ls hw hl hn
  exact lv_lmul C.1 C.2.1 (zAt_dec1 C.2.2.2.2.2.2.2.2.1 ha rfl) (z_nx hz k H locs ls hw hl hn)
theorem z_lcmp {pc : Nat} {pl : zL} {st : List Value} {h : zH} {x y : Int64} {z : zF} (C : zCx p s m args meth c D cA A mi) (ha : zAt mi pc = some .lcmp) (hz : zNx (pc + 1) pl (.int (lg_cmp x y) :: st) h = some (.inl z)) (k : zGo p l e R s m args below meth c D Pl ad cA A mi cells slots Q z) : zGo p l e R s m args below meth c D Pl ad cA A mi cells slots Q (pc, pl, .long y :: .long x :: st, h) := by
  intro H locs ls hw hl hn
  exact W.lcmp C.1 C.2.1 (zAt_dec1 C.2.2.2.2.2.2.2.2.1 ha rfl) (z_nx hz k H locs ls hw hl hn)
theorem z_idiv {pc : Nat} {pl : zL} {st : List Value} {h : zH} {x y : Int32} {z : zF} (C : zCx p s m args meth c D cA A mi) (ha : zAt mi pc = some .idiv) (hz : (if y = 0 then none else zNx (pc + 1) pl (.int (x / y) :: st) h) = some (.inl z)) (k : zGo p l e R s m args below meth c D Pl ad cA A mi cells slots Q z) : zGo p l e R s m args below meth c D Pl ad cA A mi cells slots Q (pc, pl, .int y :: .int x :: st, h) := by
  intro H locs ls hw hl hn
  split at hz
  · cases hz
  · rename_i hne
    exact lv_idiv C.1 C.2.1 (zAt_dec1 C.2.2.2.2.2.2.2.2.1 ha rfl) hne (z_nx hz k H locs ls hw hl hn)
theorem z_irem {pc : Nat} {pl : zL} {st : List Value} {h : zH} {x y : Int32} {z : zF} (C : zCx p s m args meth c D cA A mi) (ha : zAt mi pc = some .irem) (hz : (if y = 0 then none else zNx (pc + 1) pl (.int (x - x / y * y) :: st) h) = some (.inl z)) (k : zGo p l e R s m args below meth c D Pl ad cA A mi cells slots Q z) : zGo p l e R s m args below meth c D Pl ad cA A mi cells slots Q (pc, pl, .int y :: .int x :: st, h) := by
  intro H locs ls hw hl hn
  split at hz
  · cases hz
  · rename_i hne
    exact lv_irem C.1 C.2.1 (zAt_dec1 C.2.2.2.2.2.2.2.2.1 ha rfl) hne (z_nx hz k H locs ls hw hl hn)
theorem z_ldiv {pc : Nat} {pl : zL} {st : List Value} {h : zH} {x y : Int64} {z : zF} (C : zCx p s m args meth c D cA A mi) (ha : zAt mi pc = some .ldiv) (hz : (if y = 0 then none else zNx (pc + 1) pl (.long (x / y) :: st) h) = some (.inl z)) (k : zGo p l e R s m args below meth c D Pl ad cA A mi cells slots Q z) : zGo p l e R s m args below meth c D Pl ad cA A mi cells slots Q (pc, pl, .long y :: .long x :: st, h) := by
  intro H locs ls hw hl hn
  split at hz
  · cases hz
  · rename_i hne
    exact lv_ldiv C.1 C.2.1 (zAt_dec1 C.2.2.2.2.2.2.2.2.1 ha rfl) hne (z_nx hz k H locs ls hw hl hn)
theorem z_lrem {pc : Nat} {pl : zL} {st : List Value} {h : zH} {x y : Int64} {z : zF} (C : zCx p s m args meth c D cA A mi) (ha : zAt mi pc = some .lrem) (hz : (if y = 0 then none else zNx (pc + 1) pl (.long (x - x / y * y) :: st) h) = some (.inl z)) (k : zGo p l e R s m args below meth c D Pl ad cA A mi cells slots Q z) : zGo p l e R s m args below meth c D Pl ad cA A mi cells slots Q (pc, pl, .long y :: .long x :: st, h) := by
  intro H locs ls hw hl hn
  split at hz
  · cases hz
  · rename_i hne
    exact lv_lrem C.1 C.2.1 (zAt_dec1 C.2.2.2.2.2.2.2.2.1 ha rfl) hne (z_nx hz k H locs ls hw hl hn)
theorem z_ineg {pc : Nat} {pl : zL} {st : List Value} {h : zH} {x : Int32} {z : zF} (C : zCx p s m args meth c D cA A mi) (ha : zAt mi pc = some .ineg) (hz : zNx (pc + 1) pl (.int (-x) :: st) h = some (.inl z)) (k : zGo p l e R s m args below meth c D Pl ad cA A mi cells slots Q z) : zGo p l e R s m args below meth c D Pl ad cA A mi cells slots Q (pc, pl, .int x :: st, h) := by
  intro H locs ls hw hl hn
  exact lv_ineg C.1 C.2.1 (zAt_dec1 C.2.2.2.2.2.2.2.2.1 ha rfl) (z_nx hz k H locs ls hw hl hn)
theorem z_iushr {pc : Nat} {pl : zL} {st : List Value} {h : zH} {x y : Int32} {z : zF} (C : zCx p s m args meth c D cA A mi) (ha : zAt mi pc = some .iushr) (hz : zNx (pc + 1) pl (.int (x.toUInt32 >>> (y.toUInt32 &&& Int32.toUInt32 31)).toInt32 :: st) h = some (.inl z)) (k : zGo p l e R s m args below meth c D Pl ad cA A mi cells slots Q z) : zGo p l e R s m args below meth c D Pl ad cA A mi cells slots Q (pc, pl, .int y :: .int x :: st, h) := by
  intro H locs ls hw hl hn
  exact lv_iushr C.1 C.2.1 (zAt_dec1 C.2.2.2.2.2.2.2.2.1 ha rfl) rfl (z_nx hz k H locs ls hw hl hn)
theorem z_i2l {pc : Nat} {pl : zL} {st : List Value} {h : zH} {x : Int32} {z : zF} (C : zCx p s m args meth c D cA A mi) (ha : zAt mi pc = some .i2l) (hz : zNx (pc + 1) pl (.long x.toInt64 :: st) h = some (.inl z)) (k : zGo p l e R s m args below meth c D Pl ad cA A mi cells slots Q z) : zGo p l e R s m args below meth c D Pl ad cA A mi cells slots Q (pc, pl, .int x :: st, h) := by
  intro H locs ls hw hl hn
  exact lv_i2l C.1 C.2.1 (zAt_dec1 C.2.2.2.2.2.2.2.2.1 ha rfl) rfl (z_nx hz k H locs ls hw hl hn)
theorem z_iconst {pc : Nat} {pl : zL} {st : List Value} {h : zH} {n : Int} {z : zF} (C : zCx p s m args meth c D cA A mi) (ha : zAt mi pc = some (.iconst n)) (hz : zNx (pc + 1) pl (.int (Int32.ofInt n) :: st) h = some (.inl z)) (k : zGo p l e R s m args below meth c D Pl ad cA A mi cells slots Q z) : zGo p l e R s m args below meth c D Pl ad cA A mi cells slots Q (pc, pl, st, h) := by
  intro H locs ls hw hl hn
  exact lv_iconst C.1 C.2.1 (zAt_dec1 C.2.2.2.2.2.2.2.2.1 ha rfl) rfl (z_nx hz k H locs ls hw hl hn)
theorem z_bipush {pc : Nat} {pl : zL} {st : List Value} {h : zH} {n : Int} {z : zF} (C : zCx p s m args meth c D cA A mi) (ha : zAt mi pc = some (.bipush n)) (hz : zNx (pc + 2) pl (.int (Int8.ofInt n).toInt32 :: st) h = some (.inl z)) (k : zGo p l e R s m args below meth c D Pl ad cA A mi cells slots Q z) : zGo p l e R s m args below meth c D Pl ad cA A mi cells slots Q (pc, pl, st, h) := by
  intro H locs ls hw hl hn
  exact lv_bipush C.1 C.2.1 (zAt_dec1 C.2.2.2.2.2.2.2.2.1 ha rfl) rfl (z_nx hz k H locs ls hw hl hn)
theorem z_sipush {pc : Nat} {pl : zL} {st : List Value} {h : zH} {n : Int} {z : zF} (C : zCx p s m args meth c D cA A mi) (ha : zAt mi pc = some (.sipush n)) (hz : zNx (pc + 3) pl (.int (Int16.ofInt n).toInt32 :: st) h = some (.inl z)) (k : zGo p l e R s m args below meth c D Pl ad cA A mi cells slots Q z) : zGo p l e R s m args below meth c D Pl ad cA A mi cells slots Q (pc, pl, st, h) := by
  intro H locs ls hw hl hn
  exact lv_sipush C.1 C.2.1 (zAt_dec1 C.2.2.2.2.2.2.2.2.1 ha rfl) rfl (z_nx hz k H locs ls hw hl hn)
theorem z_lconst {pc : Nat} {pl : zL} {st : List Value} {h : zH} {n : Fin 2} {z : zF} (C : zCx p s m args meth c D cA A mi) (ha : zAt mi pc = some (.lconst n)) (hz : zNx (pc + 1) pl (.long (Int64.ofNat n.val) :: st) h = some (.inl z)) (k : zGo p l e R s m args below meth c D Pl ad cA A mi cells slots Q z) : zGo p l e R s m args below meth c D Pl ad cA A mi cells slots Q (pc, pl, st, h) := by
  intro H locs ls hw hl hn
  exact lv_lconst C.1 C.2.1 (zAt_dec1 C.2.2.2.2.2.2.2.2.1 ha rfl) rfl (z_nx hz k H locs ls hw hl hn)
theorem z_iload_n {pc : Nat} {pl : zL} {st : List Value} {h : zH} {i : Fin 4} {z : zF} (C : zCx p s m args meth c D cA A mi) (ha : zAt mi pc = some (.iload_n i)) (hz : zldi pl i.val (pc + 1) st h = some (.inl z)) (k : zGo p l e R s m args below meth c D Pl ad cA A mi cells slots Q z) : zGo p l e R s m args below meth c D Pl ad cA A mi cells slots Q (pc, pl, st, h) := by
  intro H locs ls hw hl hn
  unfold zldi at hz
  split at hz
  · rename_i x hx
    exact lv_iload_n C.1 C.2.1 (zAt_dec1 C.2.2.2.2.2.2.2.2.1 ha rfl) rfl (hl.2.2 _ _ hx) (z_nx hz k H locs ls hw hl hn)
  · cases hz
theorem z_iload {pc : Nat} {pl : zL} {st : List Value} {h : zH} {i : Nat} {z : zF} (C : zCx p s m args meth c D cA A mi) (ha : zAt mi pc = some (.iload i)) (hz : zldi pl i (pc + 2) st h = some (.inl z)) (k : zGo p l e R s m args below meth c D Pl ad cA A mi cells slots Q z) : zGo p l e R s m args below meth c D Pl ad cA A mi cells slots Q (pc, pl, st, h) := by
  intro H locs ls hw hl hn
  unfold zldi at hz
  split at hz
  · rename_i x hx
    exact lv_iload C.1 C.2.1 (zAt_dec1 C.2.2.2.2.2.2.2.2.1 ha rfl) (hl.2.2 _ _ hx) (z_nx hz k H locs ls hw hl hn)
  · cases hz
theorem z_aload_n {pc : Nat} {pl : zL} {st : List Value} {h : zH} {i : Fin 4} {z : zF} (C : zCx p s m args meth c D cA A mi) (ha : zAt mi pc = some (.aload_n i)) (hz : zldr pl i.val (pc + 1) st h = some (.inl z)) (k : zGo p l e R s m args below meth c D Pl ad cA A mi cells slots Q z) : zGo p l e R s m args below meth c D Pl ad cA A mi cells slots Q (pc, pl, st, h) := by
  intro H locs ls hw hl hn
  unfold zldr at hz
  split at hz
  · rename_i x hx
    exact lv_aload_n C.1 C.2.1 (zAt_dec1 C.2.2.2.2.2.2.2.2.1 ha rfl) rfl (hl.2.2 _ _ hx) (z_nx hz k H locs ls hw hl hn)
  · cases hz
theorem z_aload {pc : Nat} {pl : zL} {st : List Value} {h : zH} {i : Nat} {z : zF} (C : zCx p s m args meth c D cA A mi) (ha : zAt mi pc = some (.aload i)) (hz : zldr pl i (pc + 2) st h = some (.inl z)) (k : zGo p l e R s m args below meth c D Pl ad cA A mi cells slots Q z) : zGo p l e R s m args below meth c D Pl ad cA A mi cells slots Q (pc, pl, st, h) := by
  intro H locs ls hw hl hn
  unfold zldr at hz
  split at hz
  · rename_i x hx
    exact lv_aload C.1 C.2.1 (zAt_dec1 C.2.2.2.2.2.2.2.2.1 ha rfl) (hl.2.2 _ _ hx) (z_nx hz k H locs ls hw hl hn)
  · cases hz
theorem z_lload_n {pc : Nat} {pl : zL} {st : List Value} {h : zH} {i : Fin 4} {z : zF} (C : zCx p s m args meth c D cA A mi) (ha : zAt mi pc = some (.lload_n i)) (hz : zldl pl i.val (pc + 1) st h = some (.inl z)) (k : zGo p l e R s m args below meth c D Pl ad cA A mi cells slots Q z) : zGo p l e R s m args below meth c D Pl ad cA A mi cells slots Q (pc, pl, st, h) := by
  intro H locs ls hw hl hn
  unfold zldl at hz
  split at hz
  · rename_i x hx
    exact lv_lload_n C.1 C.2.1 (zAt_dec1 C.2.2.2.2.2.2.2.2.1 ha rfl) rfl (hl.2.2 _ _ hx) (z_nx hz k H locs ls hw hl hn)
  · cases hz
theorem z_lload {pc : Nat} {pl : zL} {st : List Value} {h : zH} {i : Nat} {z : zF} (C : zCx p s m args meth c D cA A mi) (ha : zAt mi pc = some (.lload i)) (hz : zldl pl i (pc + 2) st h = some (.inl z)) (k : zGo p l e R s m args below meth c D Pl ad cA A mi cells slots Q z) : zGo p l e R s m args below meth c D Pl ad cA A mi cells slots Q (pc, pl, st, h) := by
  intro H locs ls hw hl hn
  unfold zldl at hz
  split at hz
  · rename_i x hx
    exact lv_lload C.1 C.2.1 (zAt_dec1 C.2.2.2.2.2.2.2.2.1 ha rfl) (hl.2.2 _ _ hx) (z_nx hz k H locs ls hw hl hn)
  · cases hz
theorem z_istore_n {pc : Nat} {pl : zL} {st : List Value} {h : zH} {i : Fin 4} {x : Int32} {z : zF} (C : zCx p s m args meth c D cA A mi) (ha : zAt mi pc = some (.istore_n i)) (hz : zsti mi pl i.val (pc + 1) x st h = some (.inl z)) (k : zGo p l e R s m args below meth c D Pl ad cA A mi cells slots Q z) : zGo p l e R s m args below meth c D Pl ad cA A mi cells slots Q (pc, pl, .int x :: st, h) := by
  intro H locs ls hw hl hn
  unfold zsti at hz
  split at hz
  · rename_i hi
    exact lv_istore_n C.1 C.2.1 (zAt_dec1 C.2.2.2.2.2.2.2.2.1 ha rfl) rfl (zLs_has hl) hi rfl (fun ls' hl' => (z_nx hz k H locs ls' hw (zLs_st1 (v := .int x) hn rfl hl').1 (zLs_st1 (v := .int x) hn rfl hl').2))
  · cases hz
theorem z_istore {pc : Nat} {pl : zL} {st : List Value} {h : zH} {i : Nat} {x : Int32} {z : zF} (C : zCx p s m args meth c D cA A mi) (ha : zAt mi pc = some (.istore i)) (hz : zsti mi pl i (pc + 2) x st h = some (.inl z)) (k : zGo p l e R s m args below meth c D Pl ad cA A mi cells slots Q z) : zGo p l e R s m args below meth c D Pl ad cA A mi cells slots Q (pc, pl, .int x :: st, h) := by
  intro H locs ls hw hl hn
  unfold zsti at hz
  split at hz
  · rename_i hi
    exact lv_istore C.1 C.2.1 (zAt_dec1 C.2.2.2.2.2.2.2.2.1 ha rfl) (zLs_has hl) hi rfl (fun ls' hl' => (z_nx hz k H locs ls' hw (zLs_st1 (v := .int x) hn rfl hl').1 (zLs_st1 (v := .int x) hn rfl hl').2))
  · cases hz
theorem z_astore_n {pc : Nat} {pl : zL} {st : List Value} {h : zH} {i : Fin 4} {x : Nat} {z : zF} (C : zCx p s m args meth c D cA A mi) (ha : zAt mi pc = some (.astore_n i)) (hz : zstr mi pl i.val (pc + 1) x st h = some (.inl z)) (k : zGo p l e R s m args below meth c D Pl ad cA A mi cells slots Q z) : zGo p l e R s m args below meth c D Pl ad cA A mi cells slots Q (pc, pl, .ref x :: st, h) := by
  intro H locs ls hw hl hn
  unfold zstr at hz
  split at hz
  · rename_i hi
    exact lv_astore_n C.1 C.2.1 (zAt_dec1 C.2.2.2.2.2.2.2.2.1 ha rfl) rfl (zLs_has hl) hi rfl (fun ls' hl' => (z_nx hz k H locs ls' hw (zLs_st1 (v := .ref x) hn rfl hl').1 (zLs_st1 (v := .ref x) hn rfl hl').2))
  · cases hz
theorem z_lstore_n {pc : Nat} {pl : zL} {st : List Value} {h : zH} {i : Fin 4} {x : Int64} {z : zF} (C : zCx p s m args meth c D cA A mi) (ha : zAt mi pc = some (.lstore_n i)) (hz : zstl mi pl i.val (pc + 1) x st h = some (.inl z)) (k : zGo p l e R s m args below meth c D Pl ad cA A mi cells slots Q z) : zGo p l e R s m args below meth c D Pl ad cA A mi cells slots Q (pc, pl, .long x :: st, h) := by
  intro H locs ls hw hl hn
  unfold zstl at hz
  split at hz
  · rename_i hi
    exact lv_lstore_n C.1 C.2.1 (zAt_dec1 C.2.2.2.2.2.2.2.2.1 ha rfl) rfl (zLs_has hl) hi.2 rfl (fun ls' hl' => (z_nx hz k H locs ls' hw (zLs_st2 (v := .long x) hl') (zNl_lg hi.1)))
  · cases hz
theorem z_lstore {pc : Nat} {pl : zL} {st : List Value} {h : zH} {i : Nat} {x : Int64} {z : zF} (C : zCx p s m args meth c D cA A mi) (ha : zAt mi pc = some (.lstore i)) (hz : zstl mi pl i (pc + 2) x st h = some (.inl z)) (k : zGo p l e R s m args below meth c D Pl ad cA A mi cells slots Q z) : zGo p l e R s m args below meth c D Pl ad cA A mi cells slots Q (pc, pl, .long x :: st, h) := by
  intro H locs ls hw hl hn
  unfold zstl at hz
  split at hz
  · rename_i hi
    exact lv_lstore C.1 C.2.1 (zAt_dec1 C.2.2.2.2.2.2.2.2.1 ha rfl) (zLs_has hl) hi.2 rfl (fun ls' hl' => (z_nx hz k H locs ls' hw (zLs_st2 (v := .long x) hl') (zNl_lg hi.1)))
  · cases hz
theorem z_iinc {pc : Nat} {pl : zL} {st : List Value} {h : zH} {i : Nat} {n : Int} {z : zF} (C : zCx p s m args meth c D cA A mi) (ha : zAt mi pc = some (.iinc i n)) (hz : ziin mi pl i (pc + 3) n st h = some (.inl z)) (k : zGo p l e R s m args below meth c D Pl ad cA A mi cells slots Q z) : zGo p l e R s m args below meth c D Pl ad cA A mi cells slots Q (pc, pl, st, h) := by
  intro H locs ls hw hl hn
  unfold ziin at hz
  split at hz
  · rename_i x hx
    unfold zsti at hz
    split at hz
    · rename_i hi
      obtain ⟨j, hj⟩ := List.getElem?_of_mem (zAl_mem.mpr ⟨_, hx, rfl⟩ : (i, zTr ad (.int x)) ∈ zAl ad pl)
      exact lv_iinc C.1 C.2.1 (zAt_dec1 C.2.2.2.2.2.2.2.2.1 ha rfl) (zLs_has hl) hj rfl hi rfl (fun ls' hl' => (z_nx hz k H locs ls' hw (zLs_st1 (v := .int (x + Int32.ofInt n)) hn rfl hl').1 (zLs_st1 (v := .int (x + Int32.ofInt n)) hn rfl hl').2))
    · cases hz
  · cases hz
theorem z_icmp_eq {pc : Nat} {pl : zL} {st : List Value} {h : zH} {off : Int} {x y : Int32} {z : zF} (C : zCx p s m args meth c D cA A mi) (ha : zAt mi pc = some (.if_icmp .eq off)) (hz : zBr (decide (x = y)) pc off pl st h = some (.inl z)) (k : zGo p l e R s m args below meth c D Pl ad cA A mi cells slots Q z) : zGo p l e R s m args below meth c D Pl ad cA A mi cells slots Q (pc, pl, .int y :: .int x :: st, h) := by
  intro H locs ls hw hl hn
  obtain ⟨t, ht, g1, g2⟩ := z_br hz k
  exact lv_icmp_eq C.1 C.2.1 (zAt_dec1 C.2.2.2.2.2.2.2.2.1 ha rfl) ht (fun q => g1 (decide_eq_true q) H locs ls hw hl hn) (fun q => g2 (decide_eq_false q) H locs ls hw hl hn)
theorem z_if_eq {pc : Nat} {pl : zL} {st : List Value} {h : zH} {off : Int} {x : Int32} {z : zF} (C : zCx p s m args meth c D cA A mi) (ha : zAt mi pc = some (.ifCond .eq off)) (hz : zBr (decide (x = 0)) pc off pl st h = some (.inl z)) (k : zGo p l e R s m args below meth c D Pl ad cA A mi cells slots Q z) : zGo p l e R s m args below meth c D Pl ad cA A mi cells slots Q (pc, pl, .int x :: st, h) := by
  intro H locs ls hw hl hn
  obtain ⟨t, ht, g1, g2⟩ := z_br hz k
  exact lv_if_eq C.1 C.2.1 (zAt_dec1 C.2.2.2.2.2.2.2.2.1 ha rfl) ht (fun q => g1 (decide_eq_true q) H locs ls hw hl hn) (fun q => g2 (decide_eq_false q) H locs ls hw hl hn)
theorem z_icmp_ne {pc : Nat} {pl : zL} {st : List Value} {h : zH} {off : Int} {x y : Int32} {z : zF} (C : zCx p s m args meth c D cA A mi) (ha : zAt mi pc = some (.if_icmp .ne off)) (hz : zBr (!decide (x = y)) pc off pl st h = some (.inl z)) (k : zGo p l e R s m args below meth c D Pl ad cA A mi cells slots Q z) : zGo p l e R s m args below meth c D Pl ad cA A mi cells slots Q (pc, pl, .int y :: .int x :: st, h) := by
  intro H locs ls hw hl hn
  obtain ⟨t, ht, g1, g2⟩ := z_br hz k
  exact lv_icmp_ne C.1 C.2.1 (zAt_dec1 C.2.2.2.2.2.2.2.2.1 ha rfl) ht (fun q => g1 (by simp [q]) H locs ls hw hl hn) (fun q => g2 (by simp [q]) H locs ls hw hl hn)
theorem z_if_ne {pc : Nat} {pl : zL} {st : List Value} {h : zH} {off : Int} {x : Int32} {z : zF} (C : zCx p s m args meth c D cA A mi) (ha : zAt mi pc = some (.ifCond .ne off)) (hz : zBr (!decide (x = 0)) pc off pl st h = some (.inl z)) (k : zGo p l e R s m args below meth c D Pl ad cA A mi cells slots Q z) : zGo p l e R s m args below meth c D Pl ad cA A mi cells slots Q (pc, pl, .int x :: st, h) := by
  intro H locs ls hw hl hn
  obtain ⟨t, ht, g1, g2⟩ := z_br hz k
  exact lv_if_ne C.1 C.2.1 (zAt_dec1 C.2.2.2.2.2.2.2.2.1 ha rfl) ht (fun q => g1 (by simp [q]) H locs ls hw hl hn) (fun q => g2 (by simp [q]) H locs ls hw hl hn)
theorem z_icmp_lt {pc : Nat} {pl : zL} {st : List Value} {h : zH} {off : Int} {x y : Int32} {z : zF} (C : zCx p s m args meth c D cA A mi) (ha : zAt mi pc = some (.if_icmp .lt off)) (hz : zBr (decide (x < y)) pc off pl st h = some (.inl z)) (k : zGo p l e R s m args below meth c D Pl ad cA A mi cells slots Q z) : zGo p l e R s m args below meth c D Pl ad cA A mi cells slots Q (pc, pl, .int y :: .int x :: st, h) := by
  intro H locs ls hw hl hn
  obtain ⟨t, ht, g1, g2⟩ := z_br hz k
  exact lv_icmp_lt C.1 C.2.1 (zAt_dec1 C.2.2.2.2.2.2.2.2.1 ha rfl) ht (fun q => g1 (decide_eq_true q) H locs ls hw hl hn) (fun q => g2 (decide_eq_false q) H locs ls hw hl hn)
theorem z_if_lt {pc : Nat} {pl : zL} {st : List Value} {h : zH} {off : Int} {x : Int32} {z : zF} (C : zCx p s m args meth c D cA A mi) (ha : zAt mi pc = some (.ifCond .lt off)) (hz : zBr (decide (x < 0)) pc off pl st h = some (.inl z)) (k : zGo p l e R s m args below meth c D Pl ad cA A mi cells slots Q z) : zGo p l e R s m args below meth c D Pl ad cA A mi cells slots Q (pc, pl, .int x :: st, h) := by
  intro H locs ls hw hl hn
  obtain ⟨t, ht, g1, g2⟩ := z_br hz k
  exact lv_if_lt C.1 C.2.1 (zAt_dec1 C.2.2.2.2.2.2.2.2.1 ha rfl) ht (fun q => g1 (decide_eq_true q) H locs ls hw hl hn) (fun q => g2 (decide_eq_false q) H locs ls hw hl hn)
theorem z_icmp_ge {pc : Nat} {pl : zL} {st : List Value} {h : zH} {off : Int} {x y : Int32} {z : zF} (C : zCx p s m args meth c D cA A mi) (ha : zAt mi pc = some (.if_icmp .ge off)) (hz : zBr (decide (x ≥ y)) pc off pl st h = some (.inl z)) (k : zGo p l e R s m args below meth c D Pl ad cA A mi cells slots Q z) : zGo p l e R s m args below meth c D Pl ad cA A mi cells slots Q (pc, pl, .int y :: .int x :: st, h) := by
  intro H locs ls hw hl hn
  obtain ⟨t, ht, g1, g2⟩ := z_br hz k
  exact lv_icmp_ge C.1 C.2.1 (zAt_dec1 C.2.2.2.2.2.2.2.2.1 ha rfl) ht (fun q => g1 (decide_eq_true q) H locs ls hw hl hn) (fun q => g2 (decide_eq_false q) H locs ls hw hl hn)
theorem z_if_ge {pc : Nat} {pl : zL} {st : List Value} {h : zH} {off : Int} {x : Int32} {z : zF} (C : zCx p s m args meth c D cA A mi) (ha : zAt mi pc = some (.ifCond .ge off)) (hz : zBr (decide (x ≥ 0)) pc off pl st h = some (.inl z)) (k : zGo p l e R s m args below meth c D Pl ad cA A mi cells slots Q z) : zGo p l e R s m args below meth c D Pl ad cA A mi cells slots Q (pc, pl, .int x :: st, h) := by
  intro H locs ls hw hl hn
  obtain ⟨t, ht, g1, g2⟩ := z_br hz k
  exact lv_if_ge C.1 C.2.1 (zAt_dec1 C.2.2.2.2.2.2.2.2.1 ha rfl) ht (fun q => g1 (decide_eq_true q) H locs ls hw hl hn) (fun q => g2 (decide_eq_false q) H locs ls hw hl hn)
theorem z_icmp_gt {pc : Nat} {pl : zL} {st : List Value} {h : zH} {off : Int} {x y : Int32} {z : zF} (C : zCx p s m args meth c D cA A mi) (ha : zAt mi pc = some (.if_icmp .gt off)) (hz : zBr (decide (x > y)) pc off pl st h = some (.inl z)) (k : zGo p l e R s m args below meth c D Pl ad cA A mi cells slots Q z) : zGo p l e R s m args below meth c D Pl ad cA A mi cells slots Q (pc, pl, .int y :: .int x :: st, h) := by
  intro H locs ls hw hl hn
  obtain ⟨t, ht, g1, g2⟩ := z_br hz k
  exact lv_icmp_gt C.1 C.2.1 (zAt_dec1 C.2.2.2.2.2.2.2.2.1 ha rfl) ht (fun q => g1 (decide_eq_true q) H locs ls hw hl hn) (fun q => g2 (decide_eq_false q) H locs ls hw hl hn)
theorem z_if_gt {pc : Nat} {pl : zL} {st : List Value} {h : zH} {off : Int} {x : Int32} {z : zF} (C : zCx p s m args meth c D cA A mi) (ha : zAt mi pc = some (.ifCond .gt off)) (hz : zBr (decide (x > 0)) pc off pl st h = some (.inl z)) (k : zGo p l e R s m args below meth c D Pl ad cA A mi cells slots Q z) : zGo p l e R s m args below meth c D Pl ad cA A mi cells slots Q (pc, pl, .int x :: st, h) := by
  intro H locs ls hw hl hn
  obtain ⟨t, ht, g1, g2⟩ := z_br hz k
  exact lv_if_gt C.1 C.2.1 (zAt_dec1 C.2.2.2.2.2.2.2.2.1 ha rfl) ht (fun q => g1 (decide_eq_true q) H locs ls hw hl hn) (fun q => g2 (decide_eq_false q) H locs ls hw hl hn)
theorem z_icmp_le {pc : Nat} {pl : zL} {st : List Value} {h : zH} {off : Int} {x y : Int32} {z : zF} (C : zCx p s m args meth c D cA A mi) (ha : zAt mi pc = some (.if_icmp .le off)) (hz : zBr (decide (x ≤ y)) pc off pl st h = some (.inl z)) (k : zGo p l e R s m args below meth c D Pl ad cA A mi cells slots Q z) : zGo p l e R s m args below meth c D Pl ad cA A mi cells slots Q (pc, pl, .int y :: .int x :: st, h) := by
  intro H locs ls hw hl hn
  obtain ⟨t, ht, g1, g2⟩ := z_br hz k
  exact lv_icmp_le C.1 C.2.1 (zAt_dec1 C.2.2.2.2.2.2.2.2.1 ha rfl) ht (fun q => g1 (decide_eq_true q) H locs ls hw hl hn) (fun q => g2 (decide_eq_false q) H locs ls hw hl hn)
theorem z_if_le {pc : Nat} {pl : zL} {st : List Value} {h : zH} {off : Int} {x : Int32} {z : zF} (C : zCx p s m args meth c D cA A mi) (ha : zAt mi pc = some (.ifCond .le off)) (hz : zBr (decide (x ≤ 0)) pc off pl st h = some (.inl z)) (k : zGo p l e R s m args below meth c D Pl ad cA A mi cells slots Q z) : zGo p l e R s m args below meth c D Pl ad cA A mi cells slots Q (pc, pl, .int x :: st, h) := by
  intro H locs ls hw hl hn
  obtain ⟨t, ht, g1, g2⟩ := z_br hz k
  exact lv_if_le C.1 C.2.1 (zAt_dec1 C.2.2.2.2.2.2.2.2.1 ha rfl) ht (fun q => g1 (decide_eq_true q) H locs ls hw hl hn) (fun q => g2 (decide_eq_false q) H locs ls hw hl hn)
theorem z_goto {pc : Nat} {pl : zL} {st : List Value} {h : zH} {off : Int} {z : zF} (C : zCx p s m args meth c D cA A mi) (ha : zAt mi pc = some (.goto off)) (hz : zJ pc off pl st h = some (.inl z)) (k : zGo p l e R s m args below meth c D Pl ad cA A mi cells slots Q z) : zGo p l e R s m args below meth c D Pl ad cA A mi cells slots Q (pc, pl, st, h) := by
  intro H locs ls hw hl hn
  obtain ⟨t, ht, g⟩ := z_j hz k
  exact lv_goto C.1 C.2.1 (zAt_dec1 C.2.2.2.2.2.2.2.2.1 ha rfl) ht (g H locs ls hw hl hn)
theorem z_ifnull {pc : Nat} {pl : zL} {st : List Value} {h : zH} {off : Int} {x : Nat} {z : zF} (C : zCx p s m args meth c D cA A mi) (ha : zAt mi pc = some (.ifnull off)) (hz : zNx (pc + 3) pl st h = some (.inl z)) (k : zGo p l e R s m args below meth c D Pl ad cA A mi cells slots Q z) : zGo p l e R s m args below meth c D Pl ad cA A mi cells slots Q (pc, pl, .ref x :: st, h) := by
  intro H locs ls hw hl hn
  exact lv_ifnull C.1 C.2.1 (zAt_dec1 C.2.2.2.2.2.2.2.2.1 ha rfl) (z_nx hz k H locs ls hw hl hn)
theorem z_ifnonnull {pc : Nat} {pl : zL} {st : List Value} {h : zH} {off : Int} {x : Nat} {z : zF} (C : zCx p s m args meth c D cA A mi) (ha : zAt mi pc = some (.ifnonnull off)) (hz : zJ pc off pl st h = some (.inl z)) (k : zGo p l e R s m args below meth c D Pl ad cA A mi cells slots Q z) : zGo p l e R s m args below meth c D Pl ad cA A mi cells slots Q (pc, pl, .ref x :: st, h) := by
  intro H locs ls hw hl hn
  obtain ⟨t, ht, g⟩ := z_j hz k
  exact lv_ifnonnull C.1 C.2.1 (zAt_dec1 C.2.2.2.2.2.2.2.2.1 ha rfl) ht (g H locs ls hw hl hn)
theorem z_dup {pc : Nat} {pl : zL} {st : List Value} {h : zH} {v : Value} {z : zF} (C : zCx p s m args meth c D cA A mi) (ha : zAt mi pc = some .dup) (hz : (if v.category = 1 then zNx (pc + 1) pl (v :: v :: st) h else none) = some (.inl z)) (k : zGo p l e R s m args below meth c D Pl ad cA A mi cells slots Q z) : zGo p l e R s m args below meth c D Pl ad cA A mi cells slots Q (pc, pl, v :: st, h) := by
  intro H locs ls hw hl hn
  split at hz
  · rename_i hv
    exact lv_dup C.1 C.2.1 (zAt_dec1 C.2.2.2.2.2.2.2.2.1 ha rfl) (by rw [zTr_cat]; exact hv) (z_nx hz k H locs ls hw hl hn)
  · cases hz
theorem z_pop {pc : Nat} {pl : zL} {st : List Value} {h : zH} {v : Value} {z : zF} (C : zCx p s m args meth c D cA A mi) (ha : zAt mi pc = some .pop) (hz : (if v.category = 1 then zNx (pc + 1) pl st h else none) = some (.inl z)) (k : zGo p l e R s m args below meth c D Pl ad cA A mi cells slots Q z) : zGo p l e R s m args below meth c D Pl ad cA A mi cells slots Q (pc, pl, v :: st, h) := by
  intro H locs ls hw hl hn
  split at hz
  · rename_i hv
    exact lv_pop C.1 C.2.1 (zAt_dec1 C.2.2.2.2.2.2.2.2.1 ha rfl) (by rw [zTr_cat]; exact hv) (z_nx hz k H locs ls hw hl hn)
  · cases hz
theorem z_dup2 {pc : Nat} {pl : zL} {st : List Value} {h : zH} {v w : Value} {z : zF} (C : zCx p s m args meth c D cA A mi) (ha : zAt mi pc = some .dup2) (hz : (if v.category = 1 ∧ w.category = 1 then zNx (pc + 1) pl (v :: w :: v :: w :: st) h else none) = some (.inl z)) (k : zGo p l e R s m args below meth c D Pl ad cA A mi cells slots Q z) : zGo p l e R s m args below meth c D Pl ad cA A mi cells slots Q (pc, pl, v :: w :: st, h) := by
  intro H locs ls hw hl hn
  split at hz
  · rename_i hv
    exact lv_dup2_11 C.1 C.2.1 (zAt_dec1 C.2.2.2.2.2.2.2.2.1 ha rfl) (by rw [zTr_cat]; exact hv.1) (by rw [zTr_cat]; exact hv.2) (z_nx hz k H locs ls hw hl hn)
  · cases hz
theorem zCon_ok {cn i : Nat} {v : Int32} (h : zCon cn i = some v) : Cond.constant (zName cn) i v ∈ zBig := by
  unfold zCon at h
  cases hf : zConL.find? (fun e => e.1 == cn && e.2.1 == i) with
  | none => rw [hf] at h; cases h
  | some e =>
    rw [hf] at h
    have h1 := List.find?_some hf
    have h2 := List.all_eq_true.mp zCon_chk _ (List.mem_of_find?_eq_some hf)
    obtain ⟨a, b, x, q⟩ := e
    simp only [Bool.and_eq_true, beq_iff_eq] at h1
    obtain ⟨rfl, rfl⟩ := h1
    cases h
    exact zBig_in (of_decide_eq_true h2) rfl
theorem zCo2_ok {cn i : Nat} {v : Int64} (h : zCo2 cn i = some v) : Cond.constantLong (zName cn) i v ∈ zBig := by
  unfold zCo2 at h
  cases hf : zConLL.find? (fun e => e.1 == cn && e.2.1 == i) with
  | none => rw [hf] at h; cases h
  | some e =>
    rw [hf] at h
    have h1 := List.find?_some hf
    have h2 := List.all_eq_true.mp zCo2_chk _ (List.mem_of_find?_eq_some hf)
    obtain ⟨a, b, x, q⟩ := e
    simp only [Bool.and_eq_true, beq_iff_eq] at h1
    obtain ⟨rfl, rfl⟩ := h1
    cases h
    exact zBig_in (of_decide_eq_true h2) rfl
theorem zFld_ok {cn i ci j : Nat} (h : zFld cn i = some (ci, j)) : Cond.fieldLink (zName cn) i (zName ci) (zTf ci j).2.1 (zTf ci j).2.2.1 ∈ zBig ∧ ci < 7 ∧ j < zTn ci := by
  unfold zFld at h
  cases hf : zFldL.find? (fun e => e.1 == cn && e.2.1 == i) with
  | none => rw [hf] at h; cases h
  | some e =>
    rw [hf] at h
    have h1 := List.find?_some hf
    have h2 := List.all_eq_true.mp zFld_chk _ (List.mem_of_find?_eq_some hf)
    obtain ⟨a, b, x, y, q⟩ := e
    simp only [Bool.and_eq_true, beq_iff_eq] at h1
    obtain ⟨rfl, rfl⟩ := h1
    simp only [Bool.and_eq_true, decide_eq_true_eq] at h2
    cases h
    exact ⟨zBig_in h2.1 rfl, h2.2⟩
theorem zLay_in {ci : Nat} (hc : ci < 7) : ∀ w ∈ u_ws (zName ci) (zTf ci) (zTn ci), w ∈ zBig := by
  intro w hw
  obtain ⟨j, hj, rfl⟩ := List.mem_map.mp hw
  have hj := List.mem_range.mp hj
  have h1 := zLay_has ci hc j hj
  cases hf : zLayL.find? (fun e => e.1 == ci && e.2.1 == j) with
  | none => rw [hf] at h1; cases h1
  | some e =>
    have h2 := List.find?_some hf
    have h3 := List.all_eq_true.mp zLay_chk _ (List.mem_of_find?_eq_some hf)
    obtain ⟨a, b, q⟩ := e
    simp only [Bool.and_eq_true, beq_iff_eq] at h2
    obtain ⟨rfl, rfl⟩ := h2
    refine zBig_in (of_decide_eq_true h3) ?_
    unfold u_lay
    split <;> rfl
theorem z_ldc {pc : Nat} {pl : zL} {st : List Value} {h : zH} {i : Nat} {z : zF} (C : zCx p s m args meth c D cA A mi) (ha : zAt mi pc = some (.ldc i)) (hz : zci (zCon (zOwn mi) i) (pc + 2) pl st h = some (.inl z)) (k : zGo p l e R s m args below meth c D Pl ad cA A mi cells slots Q z) : zGo p l e R s m args below meth c D Pl ad cA A mi cells slots Q (pc, pl, st, h) := by
  intro H locs ls hw hl hn
  unfold zci at hz
  split at hz
  · rename_i v hv
    exact lv_ldc C.1 C.2.1 C.2.2.2.1 (C.2.2.2.2.1 _ (zCon_ok hv)) (zAt_dec1 C.2.2.2.2.2.2.2.2.1 ha rfl) (z_nx hz k H locs ls hw hl hn)
  · cases hz
theorem z_ldc_w {pc : Nat} {pl : zL} {st : List Value} {h : zH} {i : Nat} {z : zF} (C : zCx p s m args meth c D cA A mi) (ha : zAt mi pc = some (.ldc_w i)) (hz : zci (zCon (zOwn mi) i) (pc + 3) pl st h = some (.inl z)) (k : zGo p l e R s m args below meth c D Pl ad cA A mi cells slots Q z) : zGo p l e R s m args below meth c D Pl ad cA A mi cells slots Q (pc, pl, st, h) := by
  intro H locs ls hw hl hn
  unfold zci at hz
  split at hz
  · rename_i v hv
    exact lv_ldcw C.1 C.2.1 C.2.2.2.1 (C.2.2.2.2.1 _ (zCon_ok hv)) (zAt_dec1 C.2.2.2.2.2.2.2.2.1 ha rfl) (z_nx hz k H locs ls hw hl hn)
  · cases hz
theorem z_ldc2_w {pc : Nat} {pl : zL} {st : List Value} {h : zH} {i : Nat} {z : zF} (C : zCx p s m args meth c D cA A mi) (ha : zAt mi pc = some (.ldc2_w i)) (hz : zc2 (zCo2 (zOwn mi) i) (pc + 3) pl st h = some (.inl z)) (k : zGo p l e R s m args below meth c D Pl ad cA A mi cells slots Q z) : zGo p l e R s m args below meth c D Pl ad cA A mi cells slots Q (pc, pl, st, h) := by
  intro H locs ls hw hl hn
  unfold zc2 at hz
  split at hz
  · rename_i v hv
    exact lv_ldc2 C.1 C.2.1 C.2.2.2.1 (C.2.2.2.2.1 _ (zCo2_ok hv)) (zAt_dec1 C.2.2.2.2.2.2.2.2.1 ha rfl) (z_nx hz k H locs ls hw hl hn)
  · cases hz
theorem z_tableswitch {pc : Nat} {pl : zL} {st : List Value} {h : zH} {d lo hi : Int} {offs : Array Int} {x : Int32} {z : zF} (C : zCx p s m args meth c D cA A mi) (ha : zAt mi pc = some (.tableswitch d lo hi offs)) (hz : ztab pc d lo hi offs x pl st h = some (.inl z)) (k : zGo p l e R s m args below meth c D Pl ad cA A mi cells slots Q z) : zGo p l e R s m args below meth c D Pl ad cA A mi cells slots Q (pc, pl, .int x :: st, h) := by
  intro H locs ls hw hl hn
  obtain ⟨len, hdg, -⟩ := zAt_dec C.2.2.2.2.2.2.2.2.1 ha
  unfold ztab at hz
  split at hz
  · rename_i hx
    obtain ⟨t, ht, g⟩ := z_j hz k
    exact lv_tableOut C.1 C.2.1 hdg hx ht (g H locs ls hw hl hn)
  · rename_i hx
    split at hz
    · rename_i off ho
      obtain ⟨t, ht, g⟩ := z_j hz k
      exact lv_tableIn C.1 C.2.1 hdg (fun q => hx (Or.inl q)) (fun q => hx (Or.inr q)) ho ht (g H locs ls hw hl hn)
    · cases hz
theorem z_lookupswitch {pc : Nat} {pl : zL} {st : List Value} {h : zH} {d : Int} {ps : Array (Int × Int)} {x : Int32} {z : zF} (C : zCx p s m args meth c D cA A mi) (ha : zAt mi pc = some (.lookupswitch d ps)) (hz : zlkp pc d ps x pl st h = some (.inl z)) (k : zGo p l e R s m args below meth c D Pl ad cA A mi cells slots Q z) : zGo p l e R s m args below meth c D Pl ad cA A mi cells slots Q (pc, pl, .int x :: st, h) := by
  intro H locs ls hw hl hn
  obtain ⟨len, hdg, -⟩ := zAt_dec C.2.2.2.2.2.2.2.2.1 ha
  unfold zlkp at hz
  split at hz
  · rename_i hx
    obtain ⟨t, ht, g⟩ := z_j hz k
    exact lv_lookup C.1 C.2.1 hdg hx rfl ht (g H locs ls hw hl hn)
  · cases hz
theorem zPl_at {Pl : List Nat} {a : Nat} {x : Nat ⊕ (Nat × List (Option Nat))} (hpa : a ∈ Pl ∨ a = 100) (hx : zSh[a]? = some x) : ∃ k : Nat, Pl[k]? = some a := by
  rcases hpa with g | g
  · exact List.getElem?_of_mem g
  · have := zSh_lt hx; omega
theorem z_getfield {pc : Nat} {pl : zL} {st : List Value} {h : zH} {i a : Nat} {z : zF} (C : zCx p s m args meth c D cA A mi) (hnd : zNd Pl) (hpa : a ∈ Pl ∨ a = 100) (ha : zAt mi pc = some (.getfield i)) (hz : zget (zFld (zOwn mi) i) (zObj a) a (pc + 3) pl st h = some (.inl z)) (k : zGo p l e R s m args below meth c D Pl ad cA A mi cells slots Q z) : zGo p l e R s m args below meth c D Pl ad cA A mi cells slots Q (pc, pl, .ref a :: st, h) := by
  intro H locs ls hw hl hn
  unfold zget at hz
  split at hz
  · rename_i ci j cj fs h1 h2
    split at hz
    · rename_i hci
      subst hci
      obtain ⟨w1, w2, w3⟩ := zFld_ok h1
      obtain ⟨q0, hq0⟩ := zPl_at hpa (zObj_sh h2)
      have hdg := zAt_dec1 C.2.2.2.2.2.2.2.2.1 ha rfl
      have hsame : ∀ x, s.fieldFound? (zTf ci j).1 (zTf ci j).2.1 (zTf ci j).2.2.1 = some x → s.fieldFound? (zName ci) (zTf ci j).2.1 (zTf ci j).2.2.1 = some x := by
        intro x hx; rw [zTf_own ci w2 j w3] at hx; exact hx
      split at hz
      · rename_i hf
        exact va_get C.1 C.2.1 C.2.2.2.2.1 (zLay_in w2) C.2.2.2.1 C.2.2.2.2.2.2.1 hw.1 q0 (zWl_k hq0 (zObj_sh h2)) (zcl_at ci w2) j w3 (C.2.2.2.2.1 _ w1) hsame (zFl_at hf) hdg (z_nx hz k H locs ls hw hl hn)
      · rename_i r hf
        exact va_get C.1 C.2.1 C.2.2.2.2.1 (zLay_in w2) C.2.2.2.1 C.2.2.2.2.2.2.1 hw.1 q0 (zWl_k hq0 (zObj_sh h2)) (zcl_at ci w2) j w3 (C.2.2.2.2.1 _ w1) hsame (zFl_at hf) hdg (z_nx hz k H locs ls hw hl hn)
      · cases hz
    · cases hz
  · cases hz
theorem zTy_at {ci : Nat} (hc : ci < 7) : ∃ f, zTy[ci]? = some f ∧ ∀ j, j < zTn ci → parseFieldDescriptor (zTf ci j).2.2.1 = some (f j) := by
  have hl : zTy.length = 7 := rfl
  refine ⟨zTy[ci]'(by omega), List.getElem?_eq_getElem _, fun j hj => ?_⟩
  rw [zTy_ok ci hc j hj, List.getElem?_eq_getElem (by omega : ci < zTy.length), Option.map_some]
theorem z_putfield {pc : Nat} {pl : zL} {st : List Value} {h : zH} {i a : Nat} {x : Int32} {z : zF} (C : zCx p s m args meth c D cA A mi) (hnd : zNd Pl) (hpa : a ∈ Pl ∨ a = 100) (ha : zAt mi pc = some (.putfield i)) (hz : zput (zFld (zOwn mi) i) (zObj a) a (pc + 3) x pl st h = some (.inl z)) (k : zGo p l e R s m args below meth c D Pl ad cA A mi cells slots Q z) : zGo p l e R s m args below meth c D Pl ad cA A mi cells slots Q (pc, pl, .int x :: .ref a :: st, h) := by
  intro H locs ls hw hl hn
  unfold zput at hz
  split at hz
  · rename_i ci j cj fs h1 h2
    split at hz
    · rename_i hci
      obtain ⟨rfl, hf, hb⟩ := hci
      obtain ⟨w1, w2, w3⟩ := zFld_ok h1
      obtain ⟨q0, hq0⟩ := zPl_at hpa (zObj_sh h2)
      have hdg := zAt_dec1 C.2.2.2.2.2.2.2.2.1 ha rfl
      have hsame : ∀ x, s.fieldFound? (zTf ci j).1 (zTf ci j).2.1 (zTf ci j).2.2.1 = some x → s.fieldFound? (zName ci) (zTf ci j).2.1 (zTf ci j).2.2.1 = some x := by
        intro x hx; rw [zTf_own ci w2 j w3] at hx; exact hx
      obtain ⟨f, hf1, hf2⟩ := zTy_at w2
      have hjl : j < fs.length := (List.getElem?_eq_some_iff.mp hf).1
      have hfin : (zTf ci j).2.2.2 = false := by
        have h5 := List.all_eq_true.mp zSh_fin _ (List.mem_of_getElem? (zObj_sh h2))
        have h6 := List.all_eq_true.mp h5 j (List.mem_range.mpr hjl)
        simp only [Bool.or_eq_true, decide_eq_true_eq] at h6
        rcases h6 with h6 | h6
        · exact absurd hf h6
        · exact h6
      have hnf : narrow (f j) (.int x) = .int x ∧ fits (f j) (.int x) = true := by
        unfold zbo at hb
        rw [hf1] at hb
        rcases hb with hb | ⟨hb, hx⟩
        · have hb : f j = .int := Option.some.inj hb
          rw [hb]; exact ⟨rfl, rfl⟩
        · have hb : f j = .boolean := Option.some.inj hb
          rw [hb]
          rcases hx with rfl | rfl
          · exact ⟨by decide, by decide⟩
          · exact ⟨by decide, by decide⟩
      refine va_put C.1 C.2.1 C.2.2.2.2.1 (zLay_in w2) f hf2 (zTf_nm ci w2) C.2.2.2.1 C.2.2.2.2.2.2.1 hw.1 hw.2.1 hw.2.2.1 q0 (zWl_k hq0 (zObj_sh h2)) (zcl_at ci w2) j w3 (C.2.2.2.2.1 _ w1) hsame hfin (hf2 j w3) hnf.1 hnf.2 (by rw [zFl_len]; exact hjl) hdg (fun H1 locs1 e1 e2 e3 => ?_)
      have hs : (zWl Pl ad cA h).set q0 (ad a, .inr (ci, (zFl ad h a fs).set j (.int x))) = zWl Pl ad cA (z_up h a j x) := by
        have g := zWl_set hnd (ad := ad) (cA := cA) (h := h) (c := a) (i := j) (v := x) (x := .inr (ci, fs)) hq0 (zObj_sh h2)
        rw [zFl_set hf]
        exact g
      have e1 : va_P D zcl ((zWl Pl ad cA h).set q0 (ad a, .inr (ci, (zFl ad h a fs).set j (.int x)))) H1 := e1
      have e2 : va_D A ((zWl Pl ad cA h).set q0 (ad a, .inr (ci, (zFl ad h a fs).set j (.int x)))) := e2
      rw [hs] at e1 e2
      exact z_nx hz k H1 locs1 ls (zWd_up hw (zSh_lt (zObj_sh h2)) e1 e2 e3) hl hn
    · cases hz
  · cases hz
theorem z_arraylength {pc : Nat} {pl : zL} {st : List Value} {h : zH} {a : Nat} {z : zF} (C : zCx p s m args meth c D cA A mi) (hnd : zNd Pl) (hpa : a ∈ Pl ∨ a = 100) (ha : zAt mi pc = some .arraylength) (hz : zaln mi a (pc + 1) pl st h = some (.inl z)) (k : zGo p l e R s m args below meth c D Pl ad cA A mi cells slots Q z) : zGo p l e R s m args below meth c D Pl ad cA A mi cells slots Q (pc, pl, .ref a :: st, h) := by
  intro H locs ls hw hl hn
  have hdg := zAt_dec1 C.2.2.2.2.2.2.2.2.1 ha rfl
  unfold zaln at hz
  split at hz
  · rename_i hc
    obtain ⟨hm, rfl⟩ := hc
    obtain ⟨s1, s2, s3, s4⟩ := hw.2.2.2 hm
    refine va_slen C.1 C.2.1 s1 s2 s3 hw.2.2.1 hdg ?_
    rw [s4]
    exact z_nx hz k H locs ls hw hl hn
  · split at hz
    · rename_i n hn2
      obtain ⟨q0, hq0⟩ := zPl_at hpa (zArr_sh hn2)
      exact va_alen C.1 C.2.1 C.2.2.2.2.2.2.1 hw.1 q0 0 (zWl_k hq0 (zArr_sh hn2)) (rfl : ([(cA, FieldType.int)] : List (ClassId × FieldType))[0]? = _) rfl hdg (z_nx hz k H locs ls hw hl hn)
    · cases hz
theorem z_iaload {pc : Nat} {pl : zL} {st : List Value} {h : zH} {a : Nat} {i : Int32} {z : zF} (C : zCx p s m args meth c D cA A mi) (hnd : zNd Pl) (hpa : a ∈ Pl ∨ a = 100) (ha : zAt mi pc = some .iaload) (hz : zald mi a (pc + 1) i pl st h = some (.inl z)) (k : zGo p l e R s m args below meth c D Pl ad cA A mi cells slots Q z) : zGo p l e R s m args below meth c D Pl ad cA A mi cells slots Q (pc, pl, .int i :: .ref a :: st, h) := by
  intro H locs ls hw hl hn
  have hdg := zAt_dec1 C.2.2.2.2.2.2.2.2.1 ha rfl
  unfold zald at hz
  split at hz
  · rename_i hc
    obtain ⟨hm, rfl⟩ := hc
    obtain ⟨s1, s2, s3, s4⟩ := hw.2.2.2 hm
    split at hz
    · rename_i hi
      exact va_sld C.1 C.2.1 s1 s2 s3 hw.2.2.1 hi hdg (z_nx hz k H locs ls hw hl hn)
    · cases hz
  · split at hz
    · rename_i n hn2
      split at hz
      · rename_i hi
        obtain ⟨q0, hq0⟩ := zPl_at hpa (zArr_sh hn2)
        exact va_iald C.1 C.2.1 C.2.2.2.2.2.2.1 hw.1 q0 0 (zWl_k hq0 (zArr_sh hn2)) (rfl : ([(cA, FieldType.int)] : List (ClassId × FieldType))[0]? = _) hi hdg (z_nx hz k H locs ls hw hl hn)
      · cases hz
    · cases hz
theorem z_iastore {pc : Nat} {pl : zL} {st : List Value} {h : zH} {a : Nat} {i x : Int32} {z : zF} (C : zCx p s m args meth c D cA A mi) (hnd : zNd Pl) (hpa : a ∈ Pl ∨ a = 100) (ha : zAt mi pc = some .iastore) (hz : zast a (pc + 1) i x pl st h = some (.inl z)) (k : zGo p l e R s m args below meth c D Pl ad cA A mi cells slots Q z) : zGo p l e R s m args below meth c D Pl ad cA A mi cells slots Q (pc, pl, .int x :: .int i :: .ref a :: st, h) := by
  intro H locs ls hw hl hn
  have hdg := zAt_dec1 C.2.2.2.2.2.2.2.2.1 ha rfl
  unfold zast at hz
  split at hz
  · rename_i n hn2
    split at hz
    · rename_i hi
      obtain ⟨q0, hq0⟩ := zPl_at hpa (zArr_sh hn2)
      refine va_iast C.1 C.2.1 C.2.2.2.2.2.2.1 hw.1 hw.2.1 hw.2.2.1 q0 0 (zWl_k hq0 (zArr_sh hn2)) (rfl : ([(cA, FieldType.int)] : List (ClassId × FieldType))[0]? = _) hi hdg (fun H1 locs1 e1 e2 e3 => ?_)
      have hs : (zWl Pl ad cA h).set q0 (ad a, .inl (cA, n, .inl (upd (h a) i.toNatClampNeg x))) = zWl Pl ad cA (z_up h a i.toNatClampNeg x) := by
        have g := zWl_set hnd (ad := ad) (cA := cA) (h := h) (c := a) (i := i.toNatClampNeg) (v := x) (x := .inl n) hq0 (zArr_sh hn2)
        rw [zEn_arr] at g
        exact g
      rw [hs] at e1 e2
      exact z_nx hz k H1 locs1 ls (zWd_up hw (zSh_lt (zArr_sh hn2)) e1 e2 e3) hl hn
    · cases hz
  · cases hz
end ZS

/-! WHAT A STEP DOES TO THE PICTURE -/
theorem z_up_ne {h : zH} {c i a : Nat} {v : Int32} (hne : a ≠ c) : z_up h c i v a = h a := by
  funext j; unfold z_up; rw [if_neg (fun z => hne z.1)]
theorem zSh_lt {a : Nat} {x : Nat ⊕ (Nat × List (Option Nat))} (h : zSh[a]? = some x) : a < 100 := by
  have h1 := (List.getElem?_eq_some_iff.mp h).1
  have h2 : zSh.length = 48 := by decide +kernel
  omega
theorem zArr_sh {a n : Nat} (h : zArr a = some n) : zSh[a]? = some (.inl n) := by
  unfold zArr at h
  split at h
  · rename_i k hk; cases h; exact hk
  · cases h
theorem zObj_sh {a : Nat} {x : Nat × List (Option Nat)} (h : zObj a = some x) : zSh[a]? = some (.inr x) := by
  unfold zObj at h
  split at h
  · rename_i k hk; cases h; exact hk
  · cases h
/-! FROM STEPS TO CONTRACTS -/
theorem zinv_ne {o : Option (Nat × Nat)} {st : List Value} {y : zF ⊕ zE0} (h : zinv o st = some (match y with
  | .inl y => .inl y
  | .inr y => .inr (.inl y))) : False := by
  unfold zinv at h
  split at h
  · split at h
    · split at h
      · cases y <;> cases h
      · cases h
    · cases h
  · cases h
theorem zins_ne {o : Option (Nat × Nat)} {st : List Value} {y : zF ⊕ zE0} (h : zins o st = some (match y with
  | .inl y => .inl y
  | .inr y => .inr (.inl y))) : False := by
  unfold zins at h
  split at h
  · split at h
    · cases y <;> cases h
    · cases h
  · cases h
theorem zinv_ne1 {o : Option (Nat × Nat)} {st : List Value} {y : zF} (h : zinv o st = some (.inl y)) : False := zinv_ne (y := .inl y) h
theorem zinv_ne2 {o : Option (Nat × Nat)} {st : List Value} {y : zE0} (h : zinv o st = some (.inr (.inl y))) : False := zinv_ne (y := .inr y) h
theorem zins_ne1 {o : Option (Nat × Nat)} {st : List Value} {y : zF} (h : zins o st = some (.inl y)) : False := zins_ne (y := .inl y) h
theorem zins_ne2 {o : Option (Nat × Nat)} {st : List Value} {y : zE0} (h : zins o st = some (.inr (.inl y))) : False := zins_ne (y := .inr y) h
/-- a step's heap: the same, or one number of a cell changed -/
def zHk (h h' : zH) : Prop := ∀ a, 100 ≤ a → h' a = h a
theorem zHk_rf {h : zH} : zHk h h := fun _ _ => rfl
theorem zHk_tr {h h1 h2 : zH} (a : zHk h h1) (b : zHk h1 h2) : zHk h h2 := fun x hx => (b x hx).trans (a x hx)
theorem zHk_up {h : zH} {a i : Nat} {x : Int32} (ha : a < 100) : zHk h (z_up h a i x) := fun b hb => z_up_ne (by omega)
theorem zhk_nx {pc : Nat} {ls : zL} {st : List Value} {h : zH} {y : zF} (hz : zNx pc ls st h = some (.inl y)) : zHk h y.2.2.2 := by
  have := Sum.inl.inj (Option.some.inj hz); rw [← this]; exact zHk_rf
theorem zhk_j {pc : Nat} {off : Int} {ls : zL} {st : List Value} {h : zH} {y : zF} (hz : zJ pc off ls st h = some (.inl y)) : zHk h y.2.2.2 := by
  unfold zJ at hz
  split at hz
  · exact zhk_nx hz
  · cases hz
theorem zhk_br {b : Bool} {pc : Nat} {off : Int} {ls : zL} {st : List Value} {h : zH} {y : zF} (hz : zBr b pc off ls st h = some (.inl y)) : zHk h y.2.2.2 := by
  unfold zBr at hz
  split at hz
  · split at hz <;> exact zhk_nx hz
  · cases hz
theorem zhk_ldi {ls : zL} {k pc : Nat} {st : List Value} {h : zH} {y : zF} (hz : zldi ls k pc st h = some (.inl y)) : zHk h y.2.2.2 := by
  unfold zldi at hz
  split at hz
  · exact zhk_nx hz
  · cases hz
theorem zhk_ldr {ls : zL} {k pc : Nat} {st : List Value} {h : zH} {y : zF} (hz : zldr ls k pc st h = some (.inl y)) : zHk h y.2.2.2 := by
  unfold zldr at hz
  split at hz
  · exact zhk_nx hz
  · cases hz
theorem zhk_ldl {ls : zL} {k pc : Nat} {st : List Value} {h : zH} {y : zF} (hz : zldl ls k pc st h = some (.inl y)) : zHk h y.2.2.2 := by
  unfold zldl at hz
  split at hz
  · exact zhk_nx hz
  · cases hz
theorem zhk_sti {mi : Nat} {ls : zL} {k pc : Nat} {x : Int32} {st : List Value} {h : zH} {y : zF} (hz : zsti mi ls k pc x st h = some (.inl y)) : zHk h y.2.2.2 := by
  unfold zsti at hz
  split at hz
  · exact zhk_nx hz
  · cases hz
theorem zhk_str {mi : Nat} {ls : zL} {k pc : Nat} {x : Nat} {st : List Value} {h : zH} {y : zF} (hz : zstr mi ls k pc x st h = some (.inl y)) : zHk h y.2.2.2 := by
  unfold zstr at hz
  split at hz
  · exact zhk_nx hz
  · cases hz
theorem zhk_stl {mi : Nat} {ls : zL} {k pc : Nat} {x : Int64} {st : List Value} {h : zH} {y : zF} (hz : zstl mi ls k pc x st h = some (.inl y)) : zHk h y.2.2.2 := by
  unfold zstl at hz
  split at hz
  · exact zhk_nx hz
  · cases hz
theorem zhk_iin {mi : Nat} {ls : zL} {k pc : Nat} {n : Int} {st : List Value} {h : zH} {y : zF} (hz : ziin mi ls k pc n st h = some (.inl y)) : zHk h y.2.2.2 := by
  unfold ziin at hz
  split at hz
  · exact zhk_sti hz
  · cases hz
theorem zhk_ci {o : Option Int32} {pc : Nat} {ls : zL} {st : List Value} {h : zH} {y : zF} (hz : zci o pc ls st h = some (.inl y)) : zHk h y.2.2.2 := by
  unfold zci at hz
  split at hz
  · exact zhk_nx hz
  · cases hz
theorem zhk_c2 {o : Option Int64} {pc : Nat} {ls : zL} {st : List Value} {h : zH} {y : zF} (hz : zc2 o pc ls st h = some (.inl y)) : zHk h y.2.2.2 := by
  unfold zc2 at hz
  split at hz
  · exact zhk_nx hz
  · cases hz
theorem zhk_tab {pc : Nat} {d lo hi : Int} {offs : Array Int} {x : Int32} {ls : zL} {st : List Value} {h : zH} {y : zF} (hz : ztab pc d lo hi offs x ls st h = some (.inl y)) : zHk h y.2.2.2 := by
  unfold ztab at hz
  split at hz
  · exact zhk_j hz
  · split at hz
    · exact zhk_j hz
    · cases hz
theorem zhk_lkp {pc : Nat} {d : Int} {ps : Array (Int × Int)} {x : Int32} {ls : zL} {st : List Value} {h : zH} {y : zF} (hz : zlkp pc d ps x ls st h = some (.inl y)) : zHk h y.2.2.2 := by
  unfold zlkp at hz
  split at hz
  · exact zhk_j hz
  · cases hz
theorem zhk_get {o : Option (Nat × Nat)} {b : Option (Nat × List (Option Nat))} {a pc : Nat} {ls : zL} {st : List Value} {h : zH} {y : zF} (hz : zget o b a pc ls st h = some (.inl y)) : zHk h y.2.2.2 := by
  unfold zget at hz
  split at hz
  · split at hz
    · split at hz
      · exact zhk_nx hz
      · exact zhk_nx hz
      · cases hz
    · cases hz
  · cases hz
theorem zhk_put {o : Option (Nat × Nat)} {a pc : Nat} {x : Int32} {ls : zL} {st : List Value} {h : zH} {y : zF} (hz : zput o (zObj a) a pc x ls st h = some (.inl y)) : zHk h y.2.2.2 := by
  unfold zput at hz
  split at hz
  · rename_i h2
    split at hz
    · exact zHk_tr (zHk_up (zSh_lt (zObj_sh h2))) (zhk_nx hz)
    · cases hz
  · cases hz
theorem zhk_aln {mi a pc : Nat} {ls : zL} {st : List Value} {h : zH} {y : zF} (hz : zaln mi a pc ls st h = some (.inl y)) : zHk h y.2.2.2 := by
  unfold zaln at hz
  split at hz
  · exact zhk_nx hz
  · split at hz
    · exact zhk_nx hz
    · cases hz
theorem zhk_ald {mi a pc : Nat} {i : Int32} {ls : zL} {st : List Value} {h : zH} {y : zF} (hz : zald mi a pc i ls st h = some (.inl y)) : zHk h y.2.2.2 := by
  unfold zald at hz
  split at hz
  · split at hz
    · exact zhk_nx hz
    · cases hz
  · split at hz
    · split at hz
      · exact zhk_nx hz
      · cases hz
    · cases hz
theorem zhk_ast {a pc : Nat} {i x : Int32} {ls : zL} {st : List Value} {h : zH} {y : zF} (hz : zast a pc i x ls st h = some (.inl y)) : zHk h y.2.2.2 := by
  unfold zast at hz
  split at hz
  · rename_i h2
    split at hz
    · exact zHk_tr (zHk_up (zSh_lt (zArr_sh h2))) (zhk_nx hz)
    · cases hz
  · cases hz
theorem znl_nx {pc : Nat} {ls : zL} {st : List Value} {h : zH} {o : zF ⊕ zE0 ⊕ zC0} (hz : zNx pc ls st h = some o) : ∃ y, o = .inl y := by
  exact ⟨_, (Option.some.inj hz).symm⟩
theorem znl_j {pc : Nat} {off : Int} {ls : zL} {st : List Value} {h : zH} {o : zF ⊕ zE0 ⊕ zC0} (hz : zJ pc off ls st h = some o) : ∃ y, o = .inl y := by
  unfold zJ at hz
  split at hz
  · exact znl_nx hz
  · cases hz
theorem znl_br {b : Bool} {pc : Nat} {off : Int} {ls : zL} {st : List Value} {h : zH} {o : zF ⊕ zE0 ⊕ zC0} (hz : zBr b pc off ls st h = some o) : ∃ y, o = .inl y := by
  unfold zBr at hz
  split at hz
  · split at hz <;> exact znl_nx hz
  · cases hz
theorem znl_ldi {ls : zL} {k pc : Nat} {st : List Value} {h : zH} {o : zF ⊕ zE0 ⊕ zC0} (hz : zldi ls k pc st h = some o) : ∃ y, o = .inl y := by
  unfold zldi at hz
  split at hz
  · exact znl_nx hz
  · cases hz
theorem znl_ldr {ls : zL} {k pc : Nat} {st : List Value} {h : zH} {o : zF ⊕ zE0 ⊕ zC0} (hz : zldr ls k pc st h = some o) : ∃ y, o = .inl y := by
  unfold zldr at hz
  split at hz
  · exact znl_nx hz
  · cases hz
theorem znl_ldl {ls : zL} {k pc : Nat} {st : List Value} {h : zH} {o : zF ⊕ zE0 ⊕ zC0} (hz : zldl ls k pc st h = some o) : ∃ y, o = .inl y := by
  unfold zldl at hz
  split at hz
  · exact znl_nx hz
  · cases hz
theorem znl_sti {mi : Nat} {ls : zL} {k pc : Nat} {x : Int32} {st : List Value} {h : zH} {o : zF ⊕ zE0 ⊕ zC0} (hz : zsti mi ls k pc x st h = some o) : ∃ y, o = .inl y := by
  unfold zsti at hz
  split at hz
  · exact znl_nx hz
  · cases hz
theorem znl_str {mi : Nat} {ls : zL} {k pc : Nat} {x : Nat} {st : List Value} {h : zH} {o : zF ⊕ zE0 ⊕ zC0} (hz : zstr mi ls k pc x st h = some o) : ∃ y, o = .inl y := by
  unfold zstr at hz
  split at hz
  · exact znl_nx hz
  · cases hz
theorem znl_stl {mi : Nat} {ls : zL} {k pc : Nat} {x : Int64} {st : List Value} {h : zH} {o : zF ⊕ zE0 ⊕ zC0} (hz : zstl mi ls k pc x st h = some o) : ∃ y, o = .inl y := by
  unfold zstl at hz
  split at hz
  · exact znl_nx hz
  · cases hz
theorem znl_iin {mi : Nat} {ls : zL} {k pc : Nat} {n : Int} {st : List Value} {h : zH} {o : zF ⊕ zE0 ⊕ zC0} (hz : ziin mi ls k pc n st h = some o) : ∃ y, o = .inl y := by
  unfold ziin at hz
  split at hz
  · exact znl_sti hz
  · cases hz
theorem znl_ci {oo : Option Int32} {pc : Nat} {ls : zL} {st : List Value} {h : zH} {o : zF ⊕ zE0 ⊕ zC0} (hz : zci oo pc ls st h = some o) : ∃ y, o = .inl y := by
  unfold zci at hz
  split at hz
  · exact znl_nx hz
  · cases hz
theorem znl_c2 {oo : Option Int64} {pc : Nat} {ls : zL} {st : List Value} {h : zH} {o : zF ⊕ zE0 ⊕ zC0} (hz : zc2 oo pc ls st h = some o) : ∃ y, o = .inl y := by
  unfold zc2 at hz
  split at hz
  · exact znl_nx hz
  · cases hz
theorem znl_tab {pc : Nat} {d lo hi : Int} {offs : Array Int} {x : Int32} {ls : zL} {st : List Value} {h : zH} {o : zF ⊕ zE0 ⊕ zC0} (hz : ztab pc d lo hi offs x ls st h = some o) : ∃ y, o = .inl y := by
  unfold ztab at hz
  split at hz
  · exact znl_j hz
  · split at hz
    · exact znl_j hz
    · cases hz
theorem znl_lkp {pc : Nat} {d : Int} {ps : Array (Int × Int)} {x : Int32} {ls : zL} {st : List Value} {h : zH} {o : zF ⊕ zE0 ⊕ zC0} (hz : zlkp pc d ps x ls st h = some o) : ∃ y, o = .inl y := by
  unfold zlkp at hz
  split at hz
  · exact znl_j hz
  · cases hz
theorem znl_get {oo : Option (Nat × Nat)} {b : Option (Nat × List (Option Nat))} {a pc : Nat} {ls : zL} {st : List Value} {h : zH} {o : zF ⊕ zE0 ⊕ zC0} (hz : zget oo b a pc ls st h = some o) : ∃ y, o = .inl y := by
  unfold zget at hz
  split at hz
  · split at hz
    · split at hz
      · exact znl_nx hz
      · exact znl_nx hz
      · cases hz
    · cases hz
  · cases hz
theorem znl_put {oo : Option (Nat × Nat)} {a pc : Nat} {x : Int32} {ls : zL} {st : List Value} {h : zH} {o : zF ⊕ zE0 ⊕ zC0} (hz : zput oo (zObj a) a pc x ls st h = some o) : ∃ y, o = .inl y := by
  unfold zput at hz
  split at hz
  · rename_i h2
    split at hz
    · exact znl_nx hz
    · cases hz
  · cases hz
theorem znl_aln {mi a pc : Nat} {ls : zL} {st : List Value} {h : zH} {o : zF ⊕ zE0 ⊕ zC0} (hz : zaln mi a pc ls st h = some o) : ∃ y, o = .inl y := by
  unfold zaln at hz
  split at hz
  · exact znl_nx hz
  · split at hz
    · exact znl_nx hz
    · cases hz
theorem znl_ald {mi a pc : Nat} {i : Int32} {ls : zL} {st : List Value} {h : zH} {o : zF ⊕ zE0 ⊕ zC0} (hz : zald mi a pc i ls st h = some o) : ∃ y, o = .inl y := by
  unfold zald at hz
  split at hz
  · split at hz
    · exact znl_nx hz
    · cases hz
  · split at hz
    · split at hz
      · exact znl_nx hz
      · cases hz
    · cases hz
theorem znl_ast {a pc : Nat} {i x : Int32} {ls : zL} {st : List Value} {h : zH} {o : zF ⊕ zE0 ⊕ zC0} (hz : zast a pc i x ls st h = some o) : ∃ y, o = .inl y := by
  unfold zast at hz
  split at hz
  · rename_i h2
    split at hz
    · exact znl_nx hz
    · cases hz
  · cases hz
theorem zn_op {mi : Nat} {z : zF} {o : zF ⊕ zE0 ⊕ zC0} (hz : zn mi z = some o) : ∃ ins, zAt mi z.1 = some ins ∧ zop mi ins z.1 z.2.1 z.2.2.1 z.2.2.2 = some o := by
  unfold zn at hz
  split at hz
  · cases hz
  · rename_i ins hi; exact ⟨ins, hi, hz⟩
set_option maxHeartbeats 4000000 in
theorem zn_keep {mi : Nat} {z y : zF} (hz : zn mi z = some (.inl y)) : zHk z.2.2.2 y.2.2.2 := by
  obtain ⟨ins, -, hz⟩ := zn_op hz
  unfold zop at hz
  split at hz
  · exact zhk_ldr hz
  · exact zhk_ldr hz
  · exact zhk_ldi hz
  · exact zhk_ldi hz
  · exact zhk_ldl hz
  · exact zhk_ldl hz
  · exact zhk_sti hz
  · exact zhk_sti hz
  · exact zhk_str hz
  · exact zhk_stl hz
  · exact zhk_stl hz
  · exact zhk_iin hz
  · exact zhk_nx hz
  · exact zhk_nx hz
  · exact zhk_nx hz
  · exact zhk_nx hz
  · exact zhk_ci hz
  · exact zhk_ci hz
  · exact zhk_c2 hz
  · split at hz
    · exact zhk_nx hz
    · cases hz
  · split at hz
    · exact zhk_nx hz
    · cases hz
  · split at hz
    · exact zhk_nx hz
    · cases hz
  · exact zhk_nx hz
  · exact zhk_nx hz
  · exact zhk_nx hz
  · split at hz
    · cases hz
    · exact zhk_nx hz
  · split at hz
    · cases hz
    · exact zhk_nx hz
  · exact zhk_nx hz
  · exact zhk_nx hz
  · exact zhk_nx hz
  · exact zhk_nx hz
  · exact zhk_nx hz
  · exact zhk_nx hz
  · exact zhk_nx hz
  · exact zhk_nx hz
  · exact zhk_nx hz
  · exact zhk_nx hz
  · exact zhk_nx hz
  · split at hz
    · cases hz
    · exact zhk_nx hz
  · split at hz
    · cases hz
    · exact zhk_nx hz
  · exact zhk_nx hz
  · exact zhk_br hz
  · exact zhk_br hz
  · exact zhk_br hz
  · exact zhk_br hz
  · exact zhk_br hz
  · exact zhk_br hz
  · exact zhk_br hz
  · exact zhk_br hz
  · exact zhk_br hz
  · exact zhk_br hz
  · exact zhk_br hz
  · exact zhk_br hz
  · exact zhk_j hz
  · exact zhk_nx hz
  · exact zhk_j hz
  · exact zhk_tab hz
  · exact zhk_lkp hz
  · exact zhk_get hz
  · exact zhk_put hz
  · exact zhk_aln hz
  · exact zhk_ald hz
  · exact zhk_ast hz
  · exact (zinv_ne1 hz).elim
  · exact (zins_ne1 hz).elim
  · unfold zrti at hz; split at hz <;> cases hz
  · split at hz <;> cases hz
  · split at hz <;> cases hz
  · cases hz
def zRetI (mi pc : Nat) (v : Option Value) : Prop := match v with
  | none => zAt mi pc = some .return_ ∧ zRet mi = none
  | some (.int x) => zAt mi pc = some .ireturn ∧ (zRet mi = some .int ∨ (zRet mi = some .boolean ∧ (x = 0 ∨ x = 1)))
  | some (.long _) => zAt mi pc = some .lreturn ∧ zRet mi = some .long
  | _ => False
set_option maxHeartbeats 4000000 in
theorem zn_ret {mi : Nat} {z : zF} {r : zE0} (hz : zn mi z = some (.inr (.inl r))) : zRetI mi z.1 r.1 ∧ z.2.2.1 = r.1.toList ∧ z.2.2.2 = r.2 := by
  obtain ⟨pc, pl, st, h⟩ := z
  obtain ⟨ins, ha, hz⟩ := zn_op hz
  dsimp only at hz ha ⊢
  unfold zop at hz
  split at hz
  · obtain ⟨y, hy⟩ := znl_ldr hz; cases hy
  · obtain ⟨y, hy⟩ := znl_ldr hz; cases hy
  · obtain ⟨y, hy⟩ := znl_ldi hz; cases hy
  · obtain ⟨y, hy⟩ := znl_ldi hz; cases hy
  · obtain ⟨y, hy⟩ := znl_ldl hz; cases hy
  · obtain ⟨y, hy⟩ := znl_ldl hz; cases hy
  · obtain ⟨y, hy⟩ := znl_sti hz; cases hy
  · obtain ⟨y, hy⟩ := znl_sti hz; cases hy
  · obtain ⟨y, hy⟩ := znl_str hz; cases hy
  · obtain ⟨y, hy⟩ := znl_stl hz; cases hy
  · obtain ⟨y, hy⟩ := znl_stl hz; cases hy
  · obtain ⟨y, hy⟩ := znl_iin hz; cases hy
  · obtain ⟨y, hy⟩ := znl_nx hz; cases hy
  · obtain ⟨y, hy⟩ := znl_nx hz; cases hy
  · obtain ⟨y, hy⟩ := znl_nx hz; cases hy
  · obtain ⟨y, hy⟩ := znl_nx hz; cases hy
  · obtain ⟨y, hy⟩ := znl_ci hz; cases hy
  · obtain ⟨y, hy⟩ := znl_ci hz; cases hy
  · obtain ⟨y, hy⟩ := znl_c2 hz; cases hy
  · split at hz
    · obtain ⟨y, hy⟩ := znl_nx hz; cases hy
    · cases hz
  · split at hz
    · obtain ⟨y, hy⟩ := znl_nx hz; cases hy
    · cases hz
  · split at hz
    · obtain ⟨y, hy⟩ := znl_nx hz; cases hy
    · cases hz
  · obtain ⟨y, hy⟩ := znl_nx hz; cases hy
  · obtain ⟨y, hy⟩ := znl_nx hz; cases hy
  · obtain ⟨y, hy⟩ := znl_nx hz; cases hy
  · split at hz
    · cases hz
    · obtain ⟨y, hy⟩ := znl_nx hz; cases hy
  · split at hz
    · cases hz
    · obtain ⟨y, hy⟩ := znl_nx hz; cases hy
  · obtain ⟨y, hy⟩ := znl_nx hz; cases hy
  · obtain ⟨y, hy⟩ := znl_nx hz; cases hy
  · obtain ⟨y, hy⟩ := znl_nx hz; cases hy
  · obtain ⟨y, hy⟩ := znl_nx hz; cases hy
  · obtain ⟨y, hy⟩ := znl_nx hz; cases hy
  · obtain ⟨y, hy⟩ := znl_nx hz; cases hy
  · obtain ⟨y, hy⟩ := znl_nx hz; cases hy
  · obtain ⟨y, hy⟩ := znl_nx hz; cases hy
  · obtain ⟨y, hy⟩ := znl_nx hz; cases hy
  · obtain ⟨y, hy⟩ := znl_nx hz; cases hy
  · obtain ⟨y, hy⟩ := znl_nx hz; cases hy
  · split at hz
    · cases hz
    · obtain ⟨y, hy⟩ := znl_nx hz; cases hy
  · split at hz
    · cases hz
    · obtain ⟨y, hy⟩ := znl_nx hz; cases hy
  · obtain ⟨y, hy⟩ := znl_nx hz; cases hy
  · obtain ⟨y, hy⟩ := znl_br hz; cases hy
  · obtain ⟨y, hy⟩ := znl_br hz; cases hy
  · obtain ⟨y, hy⟩ := znl_br hz; cases hy
  · obtain ⟨y, hy⟩ := znl_br hz; cases hy
  · obtain ⟨y, hy⟩ := znl_br hz; cases hy
  · obtain ⟨y, hy⟩ := znl_br hz; cases hy
  · obtain ⟨y, hy⟩ := znl_br hz; cases hy
  · obtain ⟨y, hy⟩ := znl_br hz; cases hy
  · obtain ⟨y, hy⟩ := znl_br hz; cases hy
  · obtain ⟨y, hy⟩ := znl_br hz; cases hy
  · obtain ⟨y, hy⟩ := znl_br hz; cases hy
  · obtain ⟨y, hy⟩ := znl_br hz; cases hy
  · obtain ⟨y, hy⟩ := znl_j hz; cases hy
  · obtain ⟨y, hy⟩ := znl_nx hz; cases hy
  · obtain ⟨y, hy⟩ := znl_j hz; cases hy
  · obtain ⟨y, hy⟩ := znl_tab hz; cases hy
  · obtain ⟨y, hy⟩ := znl_lkp hz; cases hy
  · obtain ⟨y, hy⟩ := znl_get hz; cases hy
  · obtain ⟨y, hy⟩ := znl_put hz; cases hy
  · obtain ⟨y, hy⟩ := znl_aln hz; cases hy
  · obtain ⟨y, hy⟩ := znl_ald hz; cases hy
  · obtain ⟨y, hy⟩ := znl_ast hz; cases hy
  · exact (zinv_ne2 hz).elim
  · exact (zins_ne2 hz).elim
  · unfold zrti at hz
    split at hz
    · rename_i hc; cases hz; exact ⟨⟨ha, hc⟩, rfl, rfl⟩
    · cases hz
  · split at hz
    · rename_i hc; cases hz; exact ⟨⟨ha, hc⟩, rfl, rfl⟩
    · cases hz
  · split at hz
    · rename_i hc; cases hz; exact ⟨⟨ha, hc⟩, rfl, rfl⟩
    · cases hz
  · cases hz
def zCalI (mi : Nat) (z : zF) (q : zC0) : Prop := zcat q.2.2 ≤ 8 ∧ ((∃ i a as, zAt mi z.1 = some (.invokevirtual i) ∧ zMth (zOwn mi) i = some (q.1, 0) ∧ q.2.1 = .ref a :: as ∧ as.length = zNar q.1 ∧ z.2.2.1 = as.reverse ++ .ref a :: q.2.2 ∧ (zObj a).map (fun x => x.1) = some (zOwn q.1)) ∨ (∃ i k, zAt mi z.1 = some (.invokestatic i) ∧ zMth (zOwn mi) i = some (q.1, k + 1) ∧ q.2.1.length = zNar q.1 ∧ z.2.2.1 = q.2.1.reverse ++ q.2.2))
theorem zinv_call {o : Option (Nat × Nat)} {st : List Value} {q : zC0} (h : zinv o st = some (.inr (.inr q))) : ∃ a as, o = some (q.1, 0) ∧ q.2.1 = .ref a :: as ∧ as.length = zNar q.1 ∧ st = as.reverse ++ .ref a :: q.2.2 ∧ (zObj a).map (fun x => x.1) = some (zOwn q.1) ∧ zcat q.2.2 ≤ 8 := by
  unfold zinv at h
  split at h
  · rename_i m2
    split at h
    · rename_i a rest hd
      split at h
      · rename_i hc
        cases h
        refine ⟨a, _, rfl, rfl, ?_, ?_, hc.2.2, hc.2.1⟩
        · simp; omega
        · rw [List.reverse_reverse, ← hd, List.take_append_drop]
      · cases h
    · cases h
  · cases h
theorem zins_call {o : Option (Nat × Nat)} {st : List Value} {q : zC0} (h : zins o st = some (.inr (.inr q))) : ∃ k, o = some (q.1, k + 1) ∧ q.2.1.length = zNar q.1 ∧ st = q.2.1.reverse ++ q.2.2 ∧ zcat q.2.2 ≤ 8 := by
  unfold zins at h
  split at h
  · rename_i m2 k
    split at h
    · rename_i hc
      cases h
      refine ⟨k, rfl, ?_, ?_, hc.2⟩
      · simp; omega
      · rw [List.reverse_reverse, List.take_append_drop]
    · cases h
  · cases h
set_option maxHeartbeats 4000000 in
theorem zn_call {mi : Nat} {z : zF} {q : zC0} (hz : zn mi z = some (.inr (.inr q))) : zCalI mi z q := by
  obtain ⟨pc, pl, st, h⟩ := z
  obtain ⟨ins, ha, hz⟩ := zn_op hz
  dsimp only at hz ha
  unfold zop at hz
  split at hz
  · obtain ⟨y, hy⟩ := znl_ldr hz; cases hy
  · obtain ⟨y, hy⟩ := znl_ldr hz; cases hy
  · obtain ⟨y, hy⟩ := znl_ldi hz; cases hy
  · obtain ⟨y, hy⟩ := znl_ldi hz; cases hy
  · obtain ⟨y, hy⟩ := znl_ldl hz; cases hy
  · obtain ⟨y, hy⟩ := znl_ldl hz; cases hy
  · obtain ⟨y, hy⟩ := znl_sti hz; cases hy
  · obtain ⟨y, hy⟩ := znl_sti hz; cases hy
  · obtain ⟨y, hy⟩ := znl_str hz; cases hy
  · obtain ⟨y, hy⟩ := znl_stl hz; cases hy
  · obtain ⟨y, hy⟩ := znl_stl hz; cases hy
  · obtain ⟨y, hy⟩ := znl_iin hz; cases hy
  · obtain ⟨y, hy⟩ := znl_nx hz; cases hy
  · obtain ⟨y, hy⟩ := znl_nx hz; cases hy
  · obtain ⟨y, hy⟩ := znl_nx hz; cases hy
  · obtain ⟨y, hy⟩ := znl_nx hz; cases hy
  · obtain ⟨y, hy⟩ := znl_ci hz; cases hy
  · obtain ⟨y, hy⟩ := znl_ci hz; cases hy
  · obtain ⟨y, hy⟩ := znl_c2 hz; cases hy
  · split at hz
    · obtain ⟨y, hy⟩ := znl_nx hz; cases hy
    · cases hz
  · split at hz
    · obtain ⟨y, hy⟩ := znl_nx hz; cases hy
    · cases hz
  · split at hz
    · obtain ⟨y, hy⟩ := znl_nx hz; cases hy
    · cases hz
  · obtain ⟨y, hy⟩ := znl_nx hz; cases hy
  · obtain ⟨y, hy⟩ := znl_nx hz; cases hy
  · obtain ⟨y, hy⟩ := znl_nx hz; cases hy
  · split at hz
    · cases hz
    · obtain ⟨y, hy⟩ := znl_nx hz; cases hy
  · split at hz
    · cases hz
    · obtain ⟨y, hy⟩ := znl_nx hz; cases hy
  · obtain ⟨y, hy⟩ := znl_nx hz; cases hy
  · obtain ⟨y, hy⟩ := znl_nx hz; cases hy
  · obtain ⟨y, hy⟩ := znl_nx hz; cases hy
  · obtain ⟨y, hy⟩ := znl_nx hz; cases hy
  · obtain ⟨y, hy⟩ := znl_nx hz; cases hy
  · obtain ⟨y, hy⟩ := znl_nx hz; cases hy
  · obtain ⟨y, hy⟩ := znl_nx hz; cases hy
  · obtain ⟨y, hy⟩ := znl_nx hz; cases hy
  · obtain ⟨y, hy⟩ := znl_nx hz; cases hy
  · obtain ⟨y, hy⟩ := znl_nx hz; cases hy
  · obtain ⟨y, hy⟩ := znl_nx hz; cases hy
  · split at hz
    · cases hz
    · obtain ⟨y, hy⟩ := znl_nx hz; cases hy
  · split at hz
    · cases hz
    · obtain ⟨y, hy⟩ := znl_nx hz; cases hy
  · obtain ⟨y, hy⟩ := znl_nx hz; cases hy
  · obtain ⟨y, hy⟩ := znl_br hz; cases hy
  · obtain ⟨y, hy⟩ := znl_br hz; cases hy
  · obtain ⟨y, hy⟩ := znl_br hz; cases hy
  · obtain ⟨y, hy⟩ := znl_br hz; cases hy
  · obtain ⟨y, hy⟩ := znl_br hz; cases hy
  · obtain ⟨y, hy⟩ := znl_br hz; cases hy
  · obtain ⟨y, hy⟩ := znl_br hz; cases hy
  · obtain ⟨y, hy⟩ := znl_br hz; cases hy
  · obtain ⟨y, hy⟩ := znl_br hz; cases hy
  · obtain ⟨y, hy⟩ := znl_br hz; cases hy
  · obtain ⟨y, hy⟩ := znl_br hz; cases hy
  · obtain ⟨y, hy⟩ := znl_br hz; cases hy
  · obtain ⟨y, hy⟩ := znl_j hz; cases hy
  · obtain ⟨y, hy⟩ := znl_nx hz; cases hy
  · obtain ⟨y, hy⟩ := znl_j hz; cases hy
  · obtain ⟨y, hy⟩ := znl_tab hz; cases hy
  · obtain ⟨y, hy⟩ := znl_lkp hz; cases hy
  · obtain ⟨y, hy⟩ := znl_get hz; cases hy
  · obtain ⟨y, hy⟩ := znl_put hz; cases hy
  · obtain ⟨y, hy⟩ := znl_aln hz; cases hy
  · obtain ⟨y, hy⟩ := znl_ald hz; cases hy
  · obtain ⟨y, hy⟩ := znl_ast hz; cases hy
  · obtain ⟨a, as, h1, h2, h3, h4, h5, h6⟩ := zinv_call hz
    exact ⟨h6, Or.inl ⟨_, a, as, ha, h1, h2, h3, h4, h5⟩⟩
  · obtain ⟨k, h1, h3, h4, h6⟩ := zins_call hz
    exact ⟨h6, Or.inr ⟨_, k, ha, h1, h3, h4⟩⟩
  · unfold zrti at hz; split at hz <;> cases hz
  · split at hz <;> cases hz
  · split at hz <;> cases hz
  · cases hz
theorem zev_keep {d mi : Nat} (hcal : ∀ m2 as h r, zcal d m2 as h = some r → zHk h r.2) {r : zE0} : ∀ (n : Nat) (z : zF), zev (zcal d) mi n z = some r → zHk z.2.2.2 r.2 := by
  intro n
  induction n with
  | zero => intro z hz; cases hz
  | succ n ih =>
    intro z hz
    have hz : zev1 (zcal d) (zev (zcal d) mi n) z (zn mi z) = some r := hz
    cases hq : zn mi z with
    | none => rw [hq] at hz; cases hz
    | some o =>
      rw [hq] at hz
      rcases o with y | r1 | q
      · exact zHk_tr (zn_keep hq) (ih y hz)
      · have hz : r1 = r := Option.some.inj hz
        subst hz
        rw [(zn_ret hq).2.2]
        exact zHk_rf
      · have hz : (zcal d q.1 q.2.1 z.2.2.2).bind (fun r => zev (zcal d) mi n (z.1 + 3, z.2.1, r.1.toList ++ q.2.2, r.2)) = some r := hz
        obtain ⟨r1, h1, h2⟩ := Option.bind_eq_some_iff.mp hz
        exact zHk_tr (hcal _ _ _ _ h1) (ih _ h2)
theorem zmm_keep {m2 : Nat} {as : List Value} {h : zH} {r : zE0} (hz : zmm m2 as h = some r) : zHk h r.2 := by
  unfold zmm at hz
  split at hz
  · split at hz <;> (cases hz; exact zHk_rf)
  · cases hz
theorem zcal_keep : ∀ (d m2 : Nat) (as : List Value) (h : zH) (r : zE0), zcal d m2 as h = some r → zHk h r.2 := by
  intro d
  induction d with
  | zero => intro m2 as h r hz; cases hz
  | succ d ih =>
    intro m2 as h r hz
    rw [zcal] at hz
    split at hz
    · exact zmm_keep hz
    · split at hz
      · obtain ⟨n, hn⟩ := zEv_some hz
        exact zev_keep ih n _ hn
      · cases hz

/-! REFERENCES STAY IN A CLOSED SET, AND SO DOES WHAT IS WRITTEN -/
theorem zpre_at {pl : zL} {i j : Nat} {w : Value} (h : (zpre pl i)[j]? = some (some w)) : pl[j]? = some (some w) ∧ (j + 1 = i → w.category = 1) := by
  cases i with
  | zero => exact ⟨h, fun e => by omega⟩
  | succ k =>
    have h : (pl.modify k zcl1)[j]? = some (some w) := h
    rw [List.getElem?_modify] at h
    cases hp : pl[j]? with
    | none => rw [hp] at h; cases h
    | some o =>
      rw [hp] at h
      have h : (if k = j then zcl1 o else o) = some w := Option.some.inj h
      by_cases hk : k = j
      · rw [if_pos hk] at h
        unfold zcl1 at h
        split at h
        · cases h
        · cases h
        · rename_i o' ho ho2
          subst h
          refine ⟨rfl, fun _ => ?_⟩
          cases w with
          | long x => exact absurd rfl (ho x)
          | double x => exact absurd rfl (ho2 x)
          | _ => rfl
      · rw [if_neg hk] at h
        exact ⟨by rw [h], fun e => by omega⟩
theorem zset_at {pl : zL} {i j : Nat} {v w : Value} (h : (pl.set i (some v))[j]? = some (some w)) : (j = i ∧ w = v) ∨ (j ≠ i ∧ pl[j]? = some (some w)) := by
  by_cases hji : i = j
  · subst hji
    have hl : i < (pl.set i (some v)).length := (List.getElem?_eq_some_iff.mp h).1
    rw [List.getElem?_set_self (by simpa using hl)] at h
    exact Or.inl ⟨rfl, (Option.some.inj (Option.some.inj h)).symm⟩
  · rw [List.getElem?_set_ne hji] at h
    exact Or.inr ⟨fun e => hji e.symm, h⟩
def zClo (P : Nat → Prop) : Prop := ∀ (a ci : Nat) (fs : List (Option Nat)), P a → zObj a = some (ci, fs) → ∀ j k : Nat, fs[j]? = some (some k) → P k
def zRfL (P : Nat → Prop) (ls : zL) : Prop := ∀ (i v : Nat), ls[i]? = some (some (.ref v)) → P v
def zRfS (P : Nat → Prop) (st : List Value) : Prop := ∀ v : Nat, Value.ref v ∈ st → P v
def zRf (P : Nat → Prop) (z : zF) : Prop := zRfL P z.2.1 ∧ zRfS P z.2.2.1
def zFr (P : Nat → Prop) (h h' : zH) : Prop := ∀ a : Nat, ¬ P a → h' a = h a
theorem zFr_rf {P : Nat → Prop} {h : zH} : zFr P h h := fun _ _ => rfl
theorem zFr_tr {P : Nat → Prop} {h h1 h2 : zH} (a : zFr P h h1) (b : zFr P h1 h2) : zFr P h h2 := fun x hx => (b x hx).trans (a x hx)
theorem zFr_up {P : Nat → Prop} {h : zH} {a i : Nat} {x : Int32} (ha : P a) : zFr P h (z_up h a i x) := fun b hb => z_up_ne (fun e => hb (by rw [e]; exact ha))
theorem zRfS_i {P : Nat → Prop} {st : List Value} {x : Int32} (h : zRfS P st) : zRfS P (.int x :: st) := fun v hv => by
  rcases List.mem_cons.mp hv with g | g
  · cases g
  · exact h v g
theorem zRfS_l {P : Nat → Prop} {st : List Value} {x : Int64} (h : zRfS P st) : zRfS P (.long x :: st) := fun v hv => by
  rcases List.mem_cons.mp hv with g | g
  · cases g
  · exact h v g
theorem zRfS_r {P : Nat → Prop} {st : List Value} {a : Nat} (ha : P a) (h : zRfS P st) : zRfS P (.ref a :: st) := fun v hv => by
  rcases List.mem_cons.mp hv with g | g
  · cases g; exact ha
  · exact h v g
theorem zRfS_t {P : Nat → Prop} {st : List Value} {x : Value} (h : zRfS P (x :: st)) : zRfS P st := fun v hv => h v (List.mem_cons_of_mem _ hv)
theorem zRfS_h {P : Nat → Prop} {st : List Value} {a : Nat} (h : zRfS P (.ref a :: st)) : P a := h a List.mem_cons_self
theorem zRfS_d {P : Nat → Prop} {st : List Value} {x : Value} (h : zRfS P (x :: st)) : zRfS P (x :: x :: st) := fun v hv => by
  rcases List.mem_cons.mp hv with g | g
  · exact h v (by rw [g]; exact List.mem_cons_self)
  · exact h v g
theorem zRfS_d2 {P : Nat → Prop} {st : List Value} {x y : Value} (h : zRfS P (x :: y :: st)) : zRfS P (x :: y :: x :: y :: st) := fun v hv => by
  rcases List.mem_cons.mp hv with g | g
  · exact h v (by rw [g]; exact List.mem_cons_self)
  · rcases List.mem_cons.mp g with g | g
    · exact h v (by rw [g]; exact List.mem_cons_of_mem _ List.mem_cons_self)
    · exact h v g
theorem zRfL_1 {P : Nat → Prop} {lg : Bool} {ls : zL} {i : Nat} {v : Value} (h : zRfL P ls) (hv : ∀ a, v = .ref a → P a) : zRfL P (zst1 lg ls i v) := by
  intro j w hj
  unfold zst1 at hj
  rcases zset_at hj with ⟨-, g⟩ | ⟨-, g⟩
  · exact hv w g.symm
  · split at g
    · exact h j w (zpre_at g).1
    · exact h j w g
theorem zRfL_2 {P : Nat → Prop} {ls : zL} {i : Nat} {x : Int64} (h : zRfL P ls) : zRfL P (zst2 ls i (.long x)) := by
  intro j w hj
  unfold zst2 at hj
  by_cases h1 : j = i + 1
  · subst h1
    have hl := (List.getElem?_eq_some_iff.mp hj).1
    rw [List.getElem?_set_self (by simpa using hl)] at hj
    cases hj
  · rw [List.getElem?_set_ne (Ne.symm h1)] at hj
    rcases zset_at hj with ⟨-, g⟩ | ⟨-, g⟩
    · cases g
    · exact h j w (zpre_at g).1
section ZR
variable {P : Nat → Prop} {mi pc k a : Nat} {ls : zL} {st : List Value} {h : zH} {y : zF}
def zOk (P : Nat → Prop) (h : zH) (y : zF) : Prop := zRf P y ∧ zFr P h y.2.2.2
theorem zr_nx (hz : zNx pc ls st h = some (.inl y)) (hl : zRfL P ls) (hs : zRfS P st) : zOk P h y := by
  have := Sum.inl.inj (Option.some.inj hz); rw [← this]; exact ⟨⟨hl, hs⟩, zFr_rf⟩
theorem zr_up {i : Nat} {x : Int32} (ha : P a) (hz : zNx pc ls st (z_up h a i x) = some (.inl y)) (hl : zRfL P ls) (hs : zRfS P st) : zOk P h y := by
  have := Sum.inl.inj (Option.some.inj hz); rw [← this]; exact ⟨⟨hl, hs⟩, zFr_up ha⟩
theorem zr_j {off : Int} (hz : zJ pc off ls st h = some (.inl y)) (hl : zRfL P ls) (hs : zRfS P st) : zOk P h y := by
  unfold zJ at hz
  split at hz
  · exact zr_nx hz hl hs
  · cases hz
theorem zr_br {b : Bool} {off : Int} (hz : zBr b pc off ls st h = some (.inl y)) (hl : zRfL P ls) (hs : zRfS P st) : zOk P h y := by
  unfold zBr at hz
  split at hz
  · split at hz <;> exact zr_nx hz hl hs
  · cases hz
theorem zr_ldi (hz : zldi ls k pc st h = some (.inl y)) (hl : zRfL P ls) (hs : zRfS P st) : zOk P h y := by
  unfold zldi at hz
  split at hz
  · exact zr_nx hz hl (zRfS_i hs)
  · cases hz
theorem zr_ldl (hz : zldl ls k pc st h = some (.inl y)) (hl : zRfL P ls) (hs : zRfS P st) : zOk P h y := by
  unfold zldl at hz
  split at hz
  · exact zr_nx hz hl (zRfS_l hs)
  · cases hz
theorem zr_ldr (hz : zldr ls k pc st h = some (.inl y)) (hl : zRfL P ls) (hs : zRfS P st) : zOk P h y := by
  unfold zldr at hz
  split at hz
  · rename_i x hx; exact zr_nx hz hl (zRfS_r (hl _ _ hx) hs)
  · cases hz
theorem zr_sti {x : Int32} (hz : zsti mi ls k pc x st h = some (.inl y)) (hl : zRfL P ls) (hs : zRfS P st) : zOk P h y := by
  unfold zsti at hz
  split at hz
  · exact zr_nx hz (zRfL_1 hl (fun _ e => by cases e)) hs
  · cases hz
theorem zr_str (hz : zstr mi ls k pc a st h = some (.inl y)) (hl : zRfL P ls) (ha : P a) (hs : zRfS P st) : zOk P h y := by
  unfold zstr at hz
  split at hz
  · exact zr_nx hz (zRfL_1 hl (fun _ e => by cases e; exact ha)) hs
  · cases hz
theorem zr_stl {x : Int64} (hz : zstl mi ls k pc x st h = some (.inl y)) (hl : zRfL P ls) (hs : zRfS P st) : zOk P h y := by
  unfold zstl at hz
  split at hz
  · exact zr_nx hz (zRfL_2 hl) hs
  · cases hz
theorem zr_iin {n : Int} (hz : ziin mi ls k pc n st h = some (.inl y)) (hl : zRfL P ls) (hs : zRfS P st) : zOk P h y := by
  unfold ziin at hz
  split at hz
  · exact zr_sti hz hl hs
  · cases hz
theorem zr_ci {oo : Option Int32} (hz : zci oo pc ls st h = some (.inl y)) (hl : zRfL P ls) (hs : zRfS P st) : zOk P h y := by
  unfold zci at hz
  split at hz
  · exact zr_nx hz hl (zRfS_i hs)
  · cases hz
theorem zr_c2 {oo : Option Int64} (hz : zc2 oo pc ls st h = some (.inl y)) (hl : zRfL P ls) (hs : zRfS P st) : zOk P h y := by
  unfold zc2 at hz
  split at hz
  · exact zr_nx hz hl (zRfS_l hs)
  · cases hz
theorem zr_tab {d lo hi : Int} {offs : Array Int} {x : Int32} (hz : ztab pc d lo hi offs x ls st h = some (.inl y)) (hl : zRfL P ls) (hs : zRfS P st) : zOk P h y := by
  unfold ztab at hz
  split at hz
  · exact zr_j hz hl hs
  · split at hz
    · exact zr_j hz hl hs
    · cases hz
theorem zr_lkp {d : Int} {ps : Array (Int × Int)} {x : Int32} (hz : zlkp pc d ps x ls st h = some (.inl y)) (hl : zRfL P ls) (hs : zRfS P st) : zOk P h y := by
  unfold zlkp at hz
  split at hz
  · exact zr_j hz hl hs
  · cases hz
theorem zr_get {oo : Option (Nat × Nat)} (hc : zClo P) (ha : P a) (hz : zget oo (zObj a) a pc ls st h = some (.inl y)) (hl : zRfL P ls) (hs : zRfS P st) : zOk P h y := by
  unfold zget at hz
  split at hz
  · rename_i ci j cj fs h1 h2
    split at hz
    · split at hz
      · exact zr_nx hz hl (zRfS_i hs)
      · rename_i k hk; exact zr_nx hz hl (zRfS_r (hc _ _ _ ha h2 _ _ hk) hs)
      · cases hz
    · cases hz
  · cases hz
theorem zr_put {oo : Option (Nat × Nat)} {x : Int32} (ha : P a) (hz : zput oo (zObj a) a pc x ls st h = some (.inl y)) (hl : zRfL P ls) (hs : zRfS P st) : zOk P h y := by
  unfold zput at hz
  split at hz
  · split at hz
    · exact zr_up ha hz hl hs
    · cases hz
  · cases hz
theorem zr_aln (hz : zaln mi a pc ls st h = some (.inl y)) (hl : zRfL P ls) (hs : zRfS P st) : zOk P h y := by
  unfold zaln at hz
  split at hz
  · exact zr_nx hz hl (zRfS_i hs)
  · split at hz
    · exact zr_nx hz hl (zRfS_i hs)
    · cases hz
theorem zr_ald {i : Int32} (hz : zald mi a pc i ls st h = some (.inl y)) (hl : zRfL P ls) (hs : zRfS P st) : zOk P h y := by
  unfold zald at hz
  split at hz
  · split at hz
    · exact zr_nx hz hl (zRfS_i hs)
    · cases hz
  · split at hz
    · split at hz
      · exact zr_nx hz hl (zRfS_i hs)
      · cases hz
    · cases hz
theorem zr_ast {i x : Int32} (ha : P a) (hz : zast a pc i x ls st h = some (.inl y)) (hl : zRfL P ls) (hs : zRfS P st) : zOk P h y := by
  unfold zast at hz
  split at hz
  · split at hz
    · exact zr_up ha hz hl hs
    · cases hz
  · cases hz
end ZR
set_option maxHeartbeats 4000000 in
theorem zn_ref {P : Nat → Prop} (hc : zClo P) {mi : Nat} {z y : zF} (hz : zn mi z = some (.inl y)) (hR : zRf P z) : zOk P z.2.2.2 y := by
  obtain ⟨pc, ls, st, h⟩ := z
  obtain ⟨ins, -, hz⟩ := zn_op hz
  obtain ⟨hl, hs⟩ := hR
  dsimp only at hz hl hs ⊢
  unfold zop at hz
  split at hz
  · exact zr_ldr hz hl (hs)
  · exact zr_ldr hz hl (hs)
  · exact zr_ldi hz hl (hs)
  · exact zr_ldi hz hl (hs)
  · exact zr_ldl hz hl (hs)
  · exact zr_ldl hz hl (hs)
  · exact zr_sti hz hl (zRfS_t hs)
  · exact zr_sti hz hl (zRfS_t hs)
  · exact zr_str hz hl (zRfS_h hs) (zRfS_t hs)
  · exact zr_stl hz hl (zRfS_t hs)
  · exact zr_stl hz hl (zRfS_t hs)
  · exact zr_iin hz hl (hs)
  · exact zr_nx hz hl (zRfS_i hs)
  · exact zr_nx hz hl (zRfS_i hs)
  · exact zr_nx hz hl (zRfS_i hs)
  · exact zr_nx hz hl (zRfS_l hs)
  · exact zr_ci hz hl (hs)
  · exact zr_ci hz hl (hs)
  · exact zr_c2 hz hl (hs)
  · split at hz
    · exact zr_nx hz hl (zRfS_d hs)
    · cases hz
  · split at hz
    · exact zr_nx hz hl (zRfS_t hs)
    · cases hz
  · split at hz
    · exact zr_nx hz hl (zRfS_d2 hs)
    · cases hz
  · exact zr_nx hz hl (zRfS_i (zRfS_t (zRfS_t hs)))
  · exact zr_nx hz hl (zRfS_i (zRfS_t (zRfS_t hs)))
  · exact zr_nx hz hl (zRfS_i (zRfS_t (zRfS_t hs)))
  · split at hz
    · cases hz
    · exact zr_nx hz hl (zRfS_i (zRfS_t (zRfS_t hs)))
  · split at hz
    · cases hz
    · exact zr_nx hz hl (zRfS_i (zRfS_t (zRfS_t hs)))
  · exact zr_nx hz hl (zRfS_i (zRfS_t hs))
  · exact zr_nx hz hl (zRfS_i (zRfS_t (zRfS_t hs)))
  · exact zr_nx hz hl (zRfS_i (zRfS_t (zRfS_t hs)))
  · exact zr_nx hz hl (zRfS_i (zRfS_t (zRfS_t hs)))
  · exact zr_nx hz hl (zRfS_i (zRfS_t (zRfS_t hs)))
  · exact zr_nx hz hl (zRfS_i (zRfS_t (zRfS_t hs)))
  · exact zr_nx hz hl (zRfS_i (zRfS_t (zRfS_t hs)))
  · exact zr_nx hz hl (zRfS_l (zRfS_t hs))
  · exact zr_nx hz hl (zRfS_l (zRfS_t (zRfS_t hs)))
  · exact zr_nx hz hl (zRfS_l (zRfS_t (zRfS_t hs)))
  · exact zr_nx hz hl (zRfS_l (zRfS_t (zRfS_t hs)))
  · split at hz
    · cases hz
    · exact zr_nx hz hl (zRfS_l (zRfS_t (zRfS_t hs)))
  · split at hz
    · cases hz
    · exact zr_nx hz hl (zRfS_l (zRfS_t (zRfS_t hs)))
  · exact zr_nx hz hl (zRfS_i (zRfS_t (zRfS_t hs)))
  · exact zr_br hz hl (zRfS_t (zRfS_t hs))
  · exact zr_br hz hl (zRfS_t (zRfS_t hs))
  · exact zr_br hz hl (zRfS_t (zRfS_t hs))
  · exact zr_br hz hl (zRfS_t (zRfS_t hs))
  · exact zr_br hz hl (zRfS_t (zRfS_t hs))
  · exact zr_br hz hl (zRfS_t (zRfS_t hs))
  · exact zr_br hz hl (zRfS_t hs)
  · exact zr_br hz hl (zRfS_t hs)
  · exact zr_br hz hl (zRfS_t hs)
  · exact zr_br hz hl (zRfS_t hs)
  · exact zr_br hz hl (zRfS_t hs)
  · exact zr_br hz hl (zRfS_t hs)
  · exact zr_j hz hl (hs)
  · exact zr_nx hz hl (zRfS_t hs)
  · exact zr_j hz hl (zRfS_t hs)
  · exact zr_tab hz hl (zRfS_t hs)
  · exact zr_lkp hz hl (zRfS_t hs)
  · exact zr_get hc (zRfS_h hs) hz hl (zRfS_t hs)
  · exact zr_put (zRfS_h (zRfS_t hs)) hz hl (zRfS_t (zRfS_t hs))
  · exact zr_aln hz hl (zRfS_t hs)
  · exact zr_ald hz hl (zRfS_t (zRfS_t hs))
  · exact zr_ast (zRfS_h (zRfS_t (zRfS_t hs))) hz hl (zRfS_t (zRfS_t (zRfS_t hs)))
  · exact (zinv_ne1 hz).elim
  · exact (zins_ne1 hz).elim
  · unfold zrti at hz; split at hz <;> cases hz
  · split at hz <;> cases hz
  · split at hz <;> cases hz
  · cases hz
theorem zn_refc {P : Nat → Prop} {mi : Nat} {z : zF} {q : zC0} (hz : zn mi z = some (.inr (.inr q))) (hR : zRf P z) : zRfS P q.2.1 ∧ zRfS P q.2.2 := by
  obtain ⟨-, hc⟩ := zn_call hz
  rcases hc with ⟨i, a, as, -, -, h1, -, h2, -⟩ | ⟨i, k, -, -, -, h2⟩
  · refine ⟨fun v hv => ?_, fun v hv => hR.2 v ?_⟩
    · rw [h1] at hv
      refine hR.2 v ?_
      rw [h2]
      rcases List.mem_cons.mp hv with g | g
      · rw [g]; simp
      · simp [g]
    · rw [h2]; simp [hv]
  · exact ⟨fun v hv => hR.2 v (by rw [h2]; simp [hv]), fun v hv => hR.2 v (by rw [h2]; simp [hv])⟩
theorem zev_fr {P : Nat → Prop} (hc : zClo P) {d mi : Nat} (hcal : ∀ m2 as h r, zcal d m2 as h = some r → zRfS P as → zFr P h r.2) {r : zE0} : ∀ (n : Nat) (z : zF), zev (zcal d) mi n z = some r → zRf P z → zFr P z.2.2.2 r.2 := by
  intro n
  induction n with
  | zero => intro z hz; cases hz
  | succ n ih =>
    intro z hz hR
    have hz : zev1 (zcal d) (zev (zcal d) mi n) z (zn mi z) = some r := hz
    cases hq : zn mi z with
    | none => rw [hq] at hz; cases hz
    | some o =>
      rw [hq] at hz
      rcases o with y | r1 | q
      · obtain ⟨g1, g2⟩ := zn_ref hc hq hR
        exact zFr_tr g2 (ih y hz g1)
      · have hz : r1 = r := Option.some.inj hz
        subst hz
        rw [(zn_ret hq).2.2]
        exact zFr_rf
      · have hz : (zcal d q.1 q.2.1 z.2.2.2).bind (fun r => zev (zcal d) mi n (z.1 + 3, z.2.1, r.1.toList ++ q.2.2, r.2)) = some r := hz
        obtain ⟨r1, h1, h2⟩ := Option.bind_eq_some_iff.mp hz
        obtain ⟨g1, g2⟩ := zn_refc hq hR
        refine zFr_tr (hcal _ _ _ _ h1 g1) (ih _ h2 ⟨hR.1, ?_⟩)
        have ht := zcal_ty h1
        obtain ⟨v, h'⟩ := r1
        match v, ht with
        | none, _ => exact g2
        | some (.int x), _ => exact zRfS_i g2
        | some (.long x), _ => exact zRfS_l g2
theorem zloc_ref {as : List Value} : ∀ (i : Nat) (v : Value), (zloc as)[i]? = some (some v) → v ∈ as := by
  induction as with
  | nil => intro i v h; cases h
  | cons a as ih =>
    intro i v h
    unfold zloc at h
    split at h
    · match i, h with
      | 0, h => cases h; exact List.mem_cons_self
      | 1, h => cases h
      | i + 2, h => exact List.mem_cons_of_mem _ (ih i v h)
    · match i, h with
      | 0, h => cases h; exact List.mem_cons_self
      | i + 1, h => exact List.mem_cons_of_mem _ (ih i v h)
theorem zent_ref {n i : Nat} {as : List Value} {v : Value} (h : (zent n as)[i]? = some (some v)) : v ∈ as := by
  unfold zent at h
  by_cases hi : i < (zloc as).length
  · rw [List.getElem?_append_left hi] at h; exact zloc_ref i v h
  · rw [List.getElem?_append_right (by omega), List.getElem?_replicate] at h
    split at h <;> cases h
/-- THE FRAME: a call changes no cell but of the closed set that its references lie in -/
theorem zcal_fr {P : Nat → Prop} (hc : zClo P) : ∀ (d m2 : Nat) (as : List Value) (h : zH) (r : zE0), zcal d m2 as h = some r → zRfS P as → zFr P h r.2 := by
  intro d
  induction d with
  | zero => intro m2 as h r hz; cases hz
  | succ d ih =>
    intro m2 as h r hz hs
    rw [zcal] at hz
    split at hz
    · unfold zmm at hz
      split at hz
      · split at hz <;> (cases hz; exact zFr_rf)
      · cases hz
    · split at hz
      · obtain ⟨n, hn⟩ := zEv_some hz
        exact zev_fr hc ih n _ hn ⟨fun i v hv => hs v (zent_ref hv), fun v hv => by cases hv⟩
      · cases hz

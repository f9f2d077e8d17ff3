/-! CALLS -/
def zWs (mi : Nat) : List Cond := Cond.code (zYn mi) (zCode mi) (zMax mi) (zRet mi) :: zBig
def rmz (d : Nat) : Room := { frames := d, cells := 0, slots := 0, locals := 32 * d }
def zA (Pl : List Nat) (ad : Nat → Nat) (sz : Nat) : Nat → Prop := fun q => (∃ k, k ∈ Pl ∧ ad k = q) ∨ sz ≤ q
def zPc (D : va_G) (Pl : List Nat) (ad : Nat → Nat) (cA : ClassId) (as : List Value) (h : zH) (sz : Nat) : Array Value → State → Prop := va_Pc (as.map (zTr ad)) (fun U => U.heap.size = sz ∧ va_P D zcl (zWl Pl ad cA h) U.heap ∧ va_K D zcl [(cA, .int)] U ∧ va_D (fun _ => True) (zWl Pl ad cA h) ∧ ∀ w ∈ zNw, va_Nw w U)
def zQc (D : va_G) (Pl : List Nat) (ad : Nat → Nat) (cA : ClassId) (r : zE0) (sz : Nat) : Array Value → State → Outcome → State → Prop := fun _ st o t => (o = .returned (r.1.map (zTr ad)) ∧ va_P D zcl (zWl Pl ad cA r.2) t.heap) ∧ va_F (zA Pl ad sz) st t
def zMet (l : Launch) (Pl : List Nat) (d mi : Nat) (as : List Value) (h : zH) (r : zE0) : Prop := ∀ (D : va_G) (ad : Nat → Nat) (cA : ClassId) (sz : Nat), Met l (zYn mi) (zWs mi) (rmz d) (zPc D Pl ad cA as h sz) (zQc D Pl ad cA r sz) 0 0 (zA Pl ad sz)
theorem zNw_sh {w : Cond} (hw : w ∈ zNw) : (∃ p : Nat, lw_tbl[p]? = some w) ∧ ∃ a i x h, w = .methodLinkNest a i x h := by
  obtain ⟨k, hk⟩ := List.getElem?_of_mem hw
  have hl : k < zNwPl.length := by rw [← zNw_len]; exact (List.getElem?_eq_some_iff.mp hk).1
  have h1 : (zNw.zip zNwPl)[k]? = some (w, zNwPl[k]) := by rw [List.getElem?_zip_eq_some]; exact ⟨hk, List.getElem?_eq_getElem hl⟩
  have h2 := List.all_eq_true.mp zNw_chk _ (List.mem_of_getElem? h1)
  simp only [Bool.and_eq_true, decide_eq_true_eq] at h2
  refine ⟨⟨_, h2.1⟩, ?_⟩
  have h3 := h2.2
  unfold zIsN at h3
  split at h3
  · exact ⟨_, _, _, _, rfl⟩
  · cases h3
theorem zNw_warm {w : Cond} {s U : State} (hw : w ∈ zNw) (hW : s.WarmedH U.vm) (h : va_Nw w s) : va_Nw w U := by
  obtain ⟨-, a, i, x, y, rfl⟩ := zNw_sh hw
  exact va_Nw.warmM hW h
theorem zNw_same {w : Cond} {u U : State} (hw : w ∈ zNw) (hv : u.vm = U.vm) (h : va_Nw w u) : va_Nw w U := by
  obtain ⟨-, a, i, x, y, rfl⟩ := zNw_sh hw
  exact va_Nw.same rfl hv h
theorem zPc_blind {D : va_G} {Pl : List Nat} {ad : Nat → Nat} {cA : ClassId} {as : List Value} {h : zH} {sz : Nat} : FrameBlind (zPc D Pl ad cA as h sz) := by
  intro a U g mk q
  obtain ⟨q0, q1, qP, qK, qD, qN⟩ := q
  exact ⟨q0, q1, qP, va_K.moved (u := U) (U := U.calling g mk a) (Vm.Alike.refl U.vm) qK, qD, fun w hw => zNw_same (u := U) (U := U.calling g mk a) hw rfl (qN w hw)⟩
theorem zWl_D {Pl : List Nat} {ad : Nat → Nat} {cA : ClassId} {h h' : zH} {A : Nat → Prop} (hD : va_D A (zWl Pl ad cA h)) : va_D A (zWl Pl ad cA h') := by
  have key : ∀ (k : Nat) (q : Nat × va_E), (zWl Pl ad cA h')[k]? = some q → ∃ q0 : Nat × va_E, (zWl Pl ad cA h)[k]? = some q0 ∧ q0.1 = q.1 := by
    intro k q hk
    obtain ⟨a, ha, rfl⟩ := zWl_inv hk
    exact ⟨(ad a, zEn ad cA h a ((zSh[a]?).getD (.inl 0))), by rw [zWl, List.getElem?_map, ha]; rfl, rfl⟩
  refine ⟨fun i j x y hi hj hxy => ?_, fun k q hk => ?_⟩
  · obtain ⟨x0, h1, h2⟩ := key i x hi
    obtain ⟨y0, h3, h4⟩ := key j y hj
    exact hD.1 i j x0 y0 h1 h3 (h2.trans (hxy.trans h4.symm))
  · obtain ⟨q0, h1, h2⟩ := key k q hk
    rw [← h2]
    exact hD.2 k q0 h1
theorem zWl_A {Pl : List Nat} {ad : Nat → Nat} {cA : ClassId} {h : zH} {A : Nat → Prop} {k : Nat} (hD : va_D A (zWl Pl ad cA h)) (hk : k ∈ Pl) : A (ad k) := by
  obtain ⟨i, hi⟩ := List.getElem?_of_mem hk
  exact hD.2 i (ad k, zEn ad cA h k ((zSh[k]?).getD (.inl 0))) (by rw [zWl, List.getElem?_map, hi]; rfl)
theorem zMth_ok {cn i m2 k : Nat} (h : zMth cn i = some (m2, k)) : m2 < zLaw ∧ ((k = 0 ∧ zStt m2 = false ∧ Cond.methodLink (zName cn) i (zYn m2) ∈ zBig) ∨ (k = 1 ∧ zStt m2 = true ∧ Cond.methodLink (zName cn) i (zYn m2) ∈ zBig) ∨ (2 ≤ k ∧ zStt m2 = true ∧ Cond.methodLinkNest (zName cn) i (zYn m2) "FreeWheelDown" ∈ zNw)) := by
  unfold zMth at h
  cases hf : zMthL.find? (fun e => e.1 == cn && e.2.1 == i) with
  | none => rw [hf] at h; cases h
  | some e =>
    rw [hf] at h
    have h1 := List.find?_some hf
    have h2 := List.all_eq_true.mp zMth_chk _ (List.mem_of_find?_eq_some hf)
    obtain ⟨a, b, x, y, q⟩ := e
    simp only [Bool.and_eq_true, beq_iff_eq] at h1
    obtain ⟨rfl, rfl⟩ := h1
    cases h
    match y, h2 with
    | 0, h2 =>
      simp only [Bool.and_eq_true, decide_eq_true_eq, Bool.not_eq_true'] at h2
      exact ⟨h2.1, Or.inl ⟨rfl, h2.2.2, zBig_in h2.2.1 rfl⟩⟩
    | 1, h2 =>
      simp only [Bool.and_eq_true, decide_eq_true_eq] at h2
      exact ⟨h2.1, Or.inr (Or.inl ⟨rfl, h2.2.2, zBig_in h2.2.1 rfl⟩)⟩
    | y + 2, h2 =>
      simp only [Bool.and_eq_true, decide_eq_true_eq] at h2
      exact ⟨h2.1, Or.inr (Or.inr ⟨Nat.le_add_left 2 y, h2.2.2, List.mem_of_getElem? h2.2.1⟩)⟩
/-- what the tables say of a method -/
theorem zM_ok {mi : Nat} (h : mi < zLaw) : Cond.code (zYn mi) (zCode mi) (zMax mi) (zRet mi) ∈ zBig ∧ (zStt mi = true → Cond.static (zYn mi) ∈ zBig) ∧ (zStt mi = false → Cond.instanceMethod (zYn mi) ∈ zBig ∧ Cond.selects (zName (zOwn mi)) (zYn mi) (zYn mi) ∈ zBig) ∧ Cond.initialized (zYn mi).cls ∈ zBig ∧ (zYn mi).cls = zName (zOwn mi) ∧ ((zYn mi).cls ≠ "java/lang/invoke/MethodHandle" ∧ (zYn mi).cls ≠ "java/lang/invoke/VarHandle") ∧ (plainName (zYn mi).cls = true ∨ mi = mMath_max ∨ mi = mMath_min) ∧ (parseMethodDescriptor (zYn mi).desc).map (fun d => d.parameters.length) = some (zNar mi) ∧ zMax mi ≤ 13 := by
  have h1 := zM_chk h
  have h0 := zCw_all h
  unfold zMok at h1
  split at h1
  · rename_i a b c d hp
    simp only [Bool.and_eq_true, Bool.or_eq_true, decide_eq_true_eq, beq_iff_eq] at h1
    obtain ⟨⟨⟨⟨⟨⟨⟨hb, hc⟩, hd⟩, he⟩, hm⟩, hq⟩, hr⟩, hx⟩ := h1
    refine ⟨zBig_in h0 rfl, fun hs => ?_, fun hs => ⟨?_, ?_⟩, zBig_in hd rfl, he, hm, ?_, hr, hx⟩
    · rw [if_pos hs] at hb; exact zBig_in hb rfl
    · rw [if_neg (by rw [hs]; decide)] at hb; exact zBig_in hb rfl
    · rcases hc with hc | hc
      · rw [hs] at hc; cases hc
      · exact zBig_in hc rfl
    · rcases hq with (hq | hq) | hq
      · exact Or.inl hq
      · exact Or.inr (Or.inl hq)
      · exact Or.inr (Or.inr hq)
  · cases h1
theorem zWs_good {mi : Nat} (h : mi < zLaw) : GoodIn zBig (zWs mi) := by
  intro w hw
  have hm : w ∈ zBig := by
    rcases List.mem_cons.mp hw with rfl | hw
    · exact (zM_ok h).1
    · exact hw
  exact ⟨hm, good_of_word (zBig_good w hm)⟩
section ZS3
variable {p : Program} {l : Launch} {e : Env} {R : Room} {s : State} {m : MethodId} {args : Array Value} {below : List Frame} {meth : Method} {c : Code} {D : va_G} {Pl : List Nat} {ad : Nat → Nat} {cA : ClassId} {A : Nat → Prop} {mi : Nat} {cells slots : Nat} {Q : State → Prop}
/-- behind a call: from the kit's run to the picture -/
theorem z_back {m2 pc : Nat} {pl : zL} {rest st : List Value} {a : Array Value} {h : zH} {r : zE0} {H : Heap} {locs : List Loc} {ls : Array Slot} (C : zCx p s m args meth c D cA A mi) (hkeep : zHk h r.2) (hw : zWd s D Pl ad cA A mi h H locs) (hl : zLs ad (zMax mi) pl ls) (hn : zNl (zLg mi) pl) (k : zGo p l e R s m args below meth c D Pl ad cA A mi cells slots Q (pc + 3, pl, r.1.toList ++ rest, r.2))
    (hr : va_Run p l e R s m args below meth c H locs cells slots 0 0 (F0 m pc ls st) (rest.map (zTr ad)) (zQc D Pl ad cA r H.size a) (zA Pl ad H.size)) : W p l e R s m args below meth c H locs cells slots Q (F0 m pc ls st) := by
  intro T hT X
  obtain ⟨v, st₀, t, T', L, h0, X', hL, e1, e2, ⟨⟨hv, hP1⟩, hz, hk⟩, go⟩ := hr T hT X
  have hv : v = r.1.map (zTr ad) := by injection hv
  rw [h0] at hz hk
  have hAq : ∀ q, q < H.size → zA Pl ad H.size q → A q := by
    intro q h1 h2
    rcases h2 with ⟨k, hk1, rfl⟩ | h2
    · exact zWl_A hw.2.1 hk1
    · omega
  have hAf : ∀ q, zA Pl ad H.size q → A q := by
    intro q h2
    rcases h2 with ⟨k, hk1, rfl⟩ | h2
    · exact zWl_A hw.2.1 hk1
    · exact C.2.2.2.2.2.2.2.1 q (Nat.le_trans hw.2.2.1.1 h2)
  have hw' : zWd s D Pl ad cA A mi r.2 T'.heap (locs ++ L) := by
    refine ⟨by rw [e1]; exact hP1, zWl_D hw.2.1, ⟨Nat.le_trans hw.2.2.1.1 (by rw [e1]; exact hz), fun q h1 h2 => ?_, fun q hq => ?_⟩, fun hm => ?_⟩
    · rw [e1, hk q (Nat.lt_of_lt_of_le h1 hw.2.2.1.1) (fun z => h2 (hAq q (Nat.lt_of_lt_of_le h1 hw.2.2.1.1) z))]
      exact hw.2.2.1.2.1 q h1 h2
    · rcases List.mem_append.mp hq with h | h
      · exact hw.2.2.1.2.2 q h
      · exact hAf _ (hL q h)
    · have := hw.2.2.2 hm
      unfold zScr at this ⊢
      rw [hkeep 100 (by omega), hkeep 101 (by omega)]
      exact this
  obtain ⟨t2, a1, b1⟩ := k T'.heap (locs ++ L) ls hw' hl hn T' rfl X'
  refine ⟨t2, go t2 ?_, b1⟩
  have : v.toList ++ rest.map (zTr ad) = (r.1.toList ++ rest).map (zTr ad) := by
    rw [hv]; cases r.1 <;> simp
  rw [this]
  exact a1
theorem zLs_size {nL : Nat} {pl : zL} {ls : Array Slot} (h : zLs ad nL pl ls) : ls.size = nL := h.1
theorem z_call {z : zF} {q : zC0} {r : zE0} {d : Nat} (C : zCx p s m args meth c D cA A mi) (hR0 : zRf (fun a => a ∈ Pl ∨ a = 100) z) (hz : zn mi z = some (.inr (.inr q))) (hM : zMet l Pl d q.1 q.2.1 z.2.2.2 r) (hp : plainName (zYn q.1).cls = true) (hkeep : zHk z.2.2.2 r.2) (hR : d + 1 ≤ R.frames ∧ 32 + 32 * d ≤ R.locals) (hcs : cells ≤ R.cells ∧ slots ≤ R.slots) (k : zGo p l e R s m args below meth c D Pl ad cA A mi cells slots Q (z.1 + 3, z.2.1, r.1.toList ++ q.2.2, r.2)) : zGo p l e R s m args below meth c D Pl ad cA A mi cells slots Q z := by
  obtain ⟨pc, pl, st, h⟩ := z
  obtain ⟨m2, as, rest⟩ := q
  intro H locs ls hw hl hn
  have hcall := zn_call hz
  unfold zCalI at hcall
  dsimp only at hcall hM hp hkeep k ⊢
  obtain ⟨hcat, hcall⟩ := hcall
  have hPre : ∀ U : State, U.heap = H → s.WarmedH U.vm → zPc D Pl ad cA as h H.size (as.map (zTr ad)).toArray U := by
    intro U hU hW
    exact ⟨rfl, by rw [hU], by rw [hU]; exact hw.1, va_K.moved hW.alike C.2.2.2.2.2.2.1, hw.2.1.weaken (fun _ _ _ _ => trivial), fun w hq => zNw_warm hq hW (C.2.2.2.2.2.1 w hq)⟩
  have hcat2 : 2 * (F0 m pc ls (st.map (zTr ad))).monitorRoom + ((rest.map (zTr ad)).map fun v => v.category).sum ≤ 8 := by
    refine lv_room ?_
    have : (rest.map (zTr ad)).map (fun v => v.category) = rest.map (fun v => v.category) := by
      rw [List.map_map]; apply List.map_congr_left; intro v _; exact zTr_cat ad v
    rw [this]; exact hcat
  rcases hcall with ⟨i, a, bs, hi, hm, has, hlen, hst, hob⟩ | ⟨i, kd, hi, hm, hlen, hst⟩
  · subst has
    obtain ⟨g0, g1⟩ := zMth_ok hm
    have g1 : zStt m2 = false ∧ Cond.methodLink (zName (zOwn mi)) i (zYn m2) ∈ zBig := by
      rcases g1 with g | g | g
      · exact g.2
      · omega
      · omega
    obtain ⟨o1, o2, o3, o4, o5, o6, o7, o8, o9⟩ := zM_ok g0
    have hdg := zAt_dec1 C.2.2.2.2.2.2.2.2.1 hi rfl
    have cb : CallB R s args (zName (zOwn mi)) i (zYn m2) (zCode m2) (zMax m2) (zRet m2) (zWs m2) (rmz d) 0 0 (zNar m2) := by
      refine callB_of (zNar m2) C.2.2.2.2.1 (zWs_good g0) rfl rfl rfl (C.2.2.2.2.1 _ o4) (C.2.2.2.2.1 _ g1.2) ⟨o6.1, o6.2, o8⟩ ⟨hR.1, ?_⟩
      show 8 + (zMax m2 + 11) + 32 * d ≤ R.locals
      omega
    obtain ⟨⟨ci, fs⟩, hob1, hob2⟩ := Option.map_eq_some_iff.mp hob
    dsimp only at hob2
    subst hob2
    have hc7 : zOwn m2 < 7 := by
      have h5 := List.all_eq_true.mp zSh_chk _ (List.mem_of_getElem? (zObj_sh hob1))
      simp only [decide_eq_true_eq] at h5
      exact h5.1
    have hpa : a ∈ Pl ∨ a = 100 := hR0.2 a (by show Value.ref a ∈ st; rw [hst]; simp)
    obtain ⟨q0, hq0⟩ := zPl_at hpa (zObj_sh hob1)
    have hrun := va_runV (As := bs.map (zTr ad)) (rest := rest.map (zTr ad)) (b := ad a) (cells := cells) (slots := slots) (H := H) (locs := locs) (meth := meth) (below := below) (e := e) (g := F0 m pc ls (st.map (zTr ad))) ⟨C.1, C.2.1, C.2.2.1, C.2.2.2.1, C.2.2.2.2.1⟩ (hM D ad cA H.size) ⟨cb, C.2.2.2.2.1 _ (o3 g1.1).1, C.2.2.2.2.1 _ (o3 g1.1).2⟩ ⟨zPc_blind, va_recv C.2.2.2.2.2.2.1 hw.1 (zcl_at _ hc7) (zWl_k hq0 (zObj_sh hob1)), hPre⟩ rfl (by rw [List.length_map]; exact hlen) hl.1 (by show st.map (zTr ad) = _; rw [hst]; simp [zTr]) hcat2 hdg ⟨by omega, by omega⟩
    exact z_back (m2 := m2) C hkeep hw hl hn k hrun
  · obtain ⟨g0, g1⟩ := zMth_ok hm
    obtain ⟨o1, o2, o3, o4, o5, o6, o7, o8, o9⟩ := zM_ok g0
    have hdg := zAt_dec1 C.2.2.2.2.2.2.2.2.1 hi rfl
    rcases g1 with g | g | g
    · omega
    · have cb : CallB R s args (zName (zOwn mi)) i (zYn m2) (zCode m2) (zMax m2) (zRet m2) (zWs m2) (rmz d) 0 0 (zNar m2) := by
        refine callB_of (zNar m2) C.2.2.2.2.1 (zWs_good g0) rfl rfl rfl (C.2.2.2.2.1 _ o4) (C.2.2.2.2.1 _ g.2.2) ⟨o6.1, o6.2, o8⟩ ⟨hR.1, ?_⟩
        show 8 + (zMax m2 + 11) + 32 * d ≤ R.locals
        omega
      have hrun := va_runS (As := as.map (zTr ad)) (rest := rest.map (zTr ad)) (cells := cells) (slots := slots) (H := H) (locs := locs) (meth := meth) (below := below) (e := e) (g := F0 m pc ls (st.map (zTr ad))) ⟨C.1, C.2.1, C.2.2.1, C.2.2.2.1, C.2.2.2.2.1⟩ (hM D ad cA H.size) ⟨cb, C.2.2.2.2.1 _ (o2 g.2.1)⟩ ⟨zPc_blind, hPre⟩ rfl (by rw [List.length_map]; exact hlen) hl.1 (by show st.map (zTr ad) = _; rw [hst]; simp) hcat2 hdg ⟨by omega, by omega⟩
      exact z_back (m2 := m2) C hkeep hw hl hn k hrun
    · have cb : va_CN R s args (zName (zOwn mi)) i (zYn m2) "FreeWheelDown" (zCode m2) (zMax m2) (zRet m2) (zWs m2) (rmz d) 0 0 (zNar m2) := by
        refine va_cnB (zNar m2) C.2.2.2.2.1 (zWs_good g0) rfl rfl rfl (C.2.2.2.2.2.1 _ g.2.2) (C.2.2.2.2.1 _ o4) ⟨o6.1, o6.2, o8⟩ ⟨hR.1, ?_⟩
        show 8 + (zMax m2 + 11) + 32 * d ≤ R.locals
        omega
      have hrun := va_runSN (As := as.map (zTr ad)) (rest := rest.map (zTr ad)) (cells := cells) (slots := slots) (H := H) (locs := locs) (meth := meth) (below := below) (e := e) (g := F0 m pc ls (st.map (zTr ad))) ⟨C.1, C.2.1, C.2.2.1, C.2.2.2.1, C.2.2.2.2.1⟩ (hM D ad cA H.size) ⟨cb, C.2.2.2.2.1 _ (o2 g.2.1), trivial⟩ ⟨zPc_blind, hPre⟩ rfl (by rw [List.length_map]; exact hlen) hl.1 (by show st.map (zTr ad) = _; rw [hst]; simp) hcat2 hdg ⟨by omega, by omega⟩
      exact z_back (m2 := m2) C hkeep hw hl hn k hrun
theorem z_max {z : zF} {q : zC0} {r : zE0} (C : zCx p s m args meth c D cA A mi) (hz : zn mi z = some (.inr (.inr q))) (hq : q.1 = mMath_max ∨ q.1 = mMath_min) (hM : zmm q.1 q.2.1 z.2.2.2 = some r) (hR : 1 ≤ R.frames ∧ 32 ≤ R.locals) (hcs : cells ≤ R.cells ∧ slots ≤ R.slots) (k : zGo p l e R s m args below meth c D Pl ad cA A mi cells slots Q (z.1 + 3, z.2.1, r.1.toList ++ q.2.2, r.2)) : zGo p l e R s m args below meth c D Pl ad cA A mi cells slots Q z := by
  obtain ⟨pc, pl, st, h⟩ := z
  obtain ⟨m2, as, rest⟩ := q
  intro H locs ls hw hl hn
  have hcall := zn_call hz
  unfold zCalI at hcall
  dsimp only at hcall hM hq k ⊢
  obtain ⟨hcat, hcall⟩ := hcall
  have hcat2 : ((rest.map (zTr ad)).map fun v => v.category).sum ≤ 8 := by
    have : (rest.map (zTr ad)).map (fun v => v.category) = rest.map (fun v => v.category) := by
      rw [List.map_map]; apply List.map_congr_left; intro v _; exact zTr_cat ad v
    rw [this]; exact hcat
  have hst2 : zStt m2 = true := by rcases hq with rfl | rfl <;> rfl
  rcases hcall with ⟨i, a, bs, hi, hm, has, hlen, hst, hob⟩ | ⟨i, kd, hi, hm, hlen, hst⟩
  · obtain ⟨g0, g1⟩ := zMth_ok hm
    rcases g1 with g | g | g
    · rw [g.2.1] at hst2; cases hst2
    · omega
    · omega
  · obtain ⟨g0, g1⟩ := zMth_ok hm
    obtain ⟨o1, o2, o3, o4, o5, o6, o7, o8, o9⟩ := zM_ok g0
    have hdg := zAt_dec1 C.2.2.2.2.2.2.2.2.1 hi rfl
    have hlk : Cond.methodLink (zName (zOwn mi)) i (zYn m2) ∈ zBig := by
      rcases g1 with g | g | g
      · exact g.2.2
      · exact g.2.2
      · exfalso
        obtain ⟨k, hk⟩ := List.getElem?_of_mem g.2.2
        have : ∀ w ∈ zNw, ∀ cn i x y, w = Cond.methodLinkNest cn i x y → x ≠ zYn mMath_max ∧ x ≠ zYn mMath_min := by
          intro w hw
          have h2 : zNw.all (fun w => match w with
            | .methodLinkNest _ _ x _ => decide (x ≠ zYn mMath_max ∧ x ≠ zYn mMath_min)
            | _ => true) = true := by decide +kernel
          intro cn i x y hx
          have h3 := List.all_eq_true.mp h2 w hw
          subst hx
          exact of_decide_eq_true h3
        rcases hq with rfl | rfl
        · exact (this _ g.2.2 _ _ _ _ rfl).1 rfl
        · exact (this _ g.2.2 _ _ _ _ rfl).2 rfl
    unfold zmm at hM
    split at hM
    · rename_i x y
      have hst' : st.map (zTr ad) = .int y :: .int x :: rest.map (zTr ad) := by rw [hst]; simp [zTr]
      rw [hst']
      rcases hq with rfl | rfl
      · rw [if_pos rfl] at hM
        cases hM
        exact va_mmax C.1 C.2.1 (C.2.2.1.trans hl.1.symm) C.2.2.2.1 (C.2.2.2.2.1 _ hlk) (C.2.2.2.2.1 _ (o2 hst2)) (C.2.2.2.2.1 _ o4) (C.2.2.2.2.1 _ o1) hR.1 (by omega) hcs.1 hcs.2 hdg (k H locs ls hw hl hn)
      · rw [if_neg (by decide)] at hM
        cases hM
        exact va_mmin C.1 C.2.1 (C.2.2.1.trans hl.1.symm) C.2.2.2.1 (C.2.2.2.2.1 _ hlk) (C.2.2.2.2.1 _ (o2 hst2)) (C.2.2.2.2.1 _ o4) (C.2.2.2.2.1 _ o1) hR.1 (by omega) hcs.1 hcs.2 hdg (k H locs ls hw hl hn)
    · cases hM
/-- a whole run -/
theorem z_run {d : Nat} {r : zE0} (C : zCx p s m args meth c D cA A mi) (hnd : zNd Pl) (hcl : zClo (fun a => a ∈ Pl ∨ a = 100)) (hcs : cells ≤ R.cells ∧ slots ≤ R.slots)
    (hcal : ∀ m2 as h r, zcal d m2 as h = some r → zRfS (fun a => a ∈ Pl ∨ a = 100) as → zHk h r.2 ∧ ((m2 = mMath_max ∨ m2 = mMath_min) ∧ zmm m2 as h = some r ∧ 1 ≤ R.frames ∧ 32 ≤ R.locals ∨ ∃ d', zMet l Pl d' m2 as h r ∧ plainName (zYn m2).cls = true ∧ d' + 1 ≤ R.frames ∧ 32 + 32 * d' ≤ R.locals))
    (hret : ∀ (pc : Nat) (pl : zL) (H : Heap) (locs : List Loc) (ls : Array Slot), zRetI mi pc r.1 → zWd s D Pl ad cA A mi r.2 H locs → W p l e R s m args below meth c H locs cells slots Q (F0 m pc ls (r.1.toList.map (zTr ad)))) :
    ∀ (n : Nat) (z : zF), zev (zcal d) mi n z = some r → zRf (fun a => a ∈ Pl ∨ a = 100) z → zGo p l e R s m args below meth c D Pl ad cA A mi cells slots Q z := by
  intro n
  induction n with
  | zero => intro z hz; cases hz
  | succ n ih =>
    intro z hz hR
    have hz : zev1 (zcal d) (zev (zcal d) mi n) z (zn mi z) = some r := hz
    cases hq : zn mi z with
    | none => rw [hq] at hz; cases hz
    | some o =>
      rw [hq] at hz
      rcases o with y | r1 | q
      · exact z_step C hnd hR hq (ih y hz (zn_ref hcl hq hR).1)
      · have hz : r1 = r := Option.some.inj hz
        subst hz
        obtain ⟨g1, g2, g3⟩ := zn_ret hq
        obtain ⟨pc, pl, st, h⟩ := z
        dsimp only at g1 g2 g3
        subst g2; subst g3
        intro H locs ls hw hl hn
        exact hret pc pl H locs ls g1 hw
      · have hz : (zcal d q.1 q.2.1 z.2.2.2).bind (fun r => zev (zcal d) mi n (z.1 + 3, z.2.1, r.1.toList ++ q.2.2, r.2)) = some r := hz
        obtain ⟨r1, h1, h2⟩ := Option.bind_eq_some_iff.mp hz
        obtain ⟨g1, g2⟩ := zn_refc hq hR
        obtain ⟨hk, hc⟩ := hcal _ _ _ _ h1 g1
        have hR2 : zRf (fun a => a ∈ Pl ∨ a = 100) (z.1 + 3, z.2.1, r1.1.toList ++ q.2.2, r1.2) := by
          refine ⟨hR.1, ?_⟩
          have ht := zcal_ty h1
          obtain ⟨v, h'⟩ := r1
          match v, ht with
          | none, _ => exact g2
          | some (.int x), _ => exact zRfS_i g2
          | some (.long x), _ => exact zRfS_l g2
        rcases hc with ⟨h3, h4, h5⟩ | ⟨d', h3, h4, h5⟩
        · exact z_max C hq h3 h4 h5 hcs (ih _ h2 hR2)
        · exact z_call C hR hq h3 h4 hk h5 hcs (ih _ h2 hR2)
end ZS3
theorem zloc_len (ad : Nat → Nat) : ∀ as : List Value, (lg_sl (as.map (zTr ad))).length = (zloc as).length
  | [] => rfl
  | v :: vs => by
    have ih := zloc_len ad vs
    unfold lg_sl at ih ⊢
    simp only [List.map_cons, List.flatMap_cons, List.length_append, ih, zloc, zTr_cat]
    split <;> simp <;> omega
theorem zloc_args (ad : Nat → Nat) : ∀ (as : List Value) (o i : Nat) (v : Value), (zloc as)[i]? = some (some v) → (o + i, zTr ad v) ∈ lv_args o (as.map (zTr ad)) := by
  intro as
  induction as with
  | nil => intro o i v h; cases h
  | cons a as ih =>
    intro o i v h
    simp only [List.map_cons, lv_args, zTr_cat]
    unfold zloc at h
    split at h
    · rename_i hc
      match i, h with
      | 0, h => cases h; exact List.mem_cons_self
      | 1, h => cases h
      | i + 2, h =>
        refine List.mem_cons_of_mem _ ?_
        have := ih (o + 2) i v h
        rw [if_pos hc]
        rw [show o + (i + 2) = o + 2 + i by omega]
        exact this
    · rename_i hc
      match i, h with
      | 0, h => cases h; exact List.mem_cons_self
      | i + 1, h =>
        refine List.mem_cons_of_mem _ ?_
        have := ih (o + 1) i v h
        rw [if_neg hc]
        rw [show o + (i + 1) = o + 1 + i by omega]
        exact this
theorem zent_at {n i : Nat} {as : List Value} {v : Value} (h : (zent n as)[i]? = some (some v)) : (zloc as)[i]? = some (some v) := by
  unfold zent at h
  by_cases hi : i < (zloc as).length
  · rw [List.getElem?_append_left hi] at h; exact h
  · rw [List.getElem?_append_right (by omega), List.getElem?_replicate] at h
    split at h <;> cases h
theorem zloc_mem : ∀ (as : List Value) (i : Nat) (v : Value), (zloc as)[i]? = some (some v) → v ∈ as := by
  intro as
  induction as with
  | nil => intro i v h; cases h
  | cons a as ih =>
    intro i v h
    unfold zloc at h
    split at h
    · match i, h with
      | 0, h => cases h; exact List.mem_cons_self
      | 1, h => cases h
      | i + 2, h => exact List.mem_cons_of_mem _ (ih i v h)
    · match i, h with
      | 0, h => cases h; exact List.mem_cons_self
      | i + 1, h => exact List.mem_cons_of_mem _ (ih i v h)

/-! THE CONSTRUCTORS: TOOLS -/
def kWs (y : MethodName) (b : ByteArray) (n : Nat) : List Cond := Cond.code y b n none :: zBig
theorem kIn {w : Cond} (h : w ∈ lw_tbl) (g : goodWord w = true) : w ∈ zBig := List.mem_filter.mpr ⟨h, g⟩
theorem kWs_good {y : MethodName} {b : ByteArray} {n : Nat} (h : Cond.code y b n none ∈ zBig) : GoodIn zBig (kWs y b n) := by
  intro w hw
  have hm : w ∈ zBig := by
    rcases List.mem_cons.mp hw with rfl | hw
    · exact h
    · exact hw
  exact ⟨hm, good_of_word (zBig_good w hm)⟩
theorem kArr {D : va_G} {s : State} {a b : ClassId} (h : va_K D zcl [(a, .int), (b, .int)] s) : b = a := by
  have h1 : s.vm.findClass ("[" ++ (FieldType.int).toString) = some a := (h.2 0 _ rfl).2
  have h2 : s.vm.findClass ("[" ++ (FieldType.int).toString) = some b := (h.2 1 _ rfl).2
  exact Option.some.inj (h2.symm.trans h1)
/-- a list of addresses as a function -/
def kU (l : List Nat) (i : Nat) : Nat := l.getD i 0
/-- a constructor's start: the words, the world, the nest's words -/
abbrev kPc (D : va_G) (cA : ClassId) (as : List Value) (ws : va_W) (sz : Nat) : Array Value → State → Prop := va_Pc as (fun U => U.heap.size = sz ∧ va_P D zcl ws U.heap ∧ va_K D zcl [(cA, .int)] U ∧ va_D (fun _ => True) ws ∧ ∀ w ∈ zNw, va_Nw w U)
theorem kPc_blind {D : va_G} {cA : ClassId} {as : List Value} {ws : va_W} {sz : Nat} : FrameBlind (kPc D cA as ws sz) := by
  intro a U g mk q
  obtain ⟨q0, q1, qP, qK, qD, qN⟩ := q
  exact ⟨q0, q1, qP, va_K.moved (u := U) (U := U.calling g mk a) (Vm.Alike.refl U.vm) qK, qD, fun w hw => zNw_same (u := U) (U := U.calling g mk a) hw rfl (qN w hw)⟩
/-- a constructor's end -/
abbrev kQc (D : va_G) (A : Nat → Prop) (W : (Nat → Nat) → va_W) : Array Value → State → Outcome → State → Prop := va_Qv (fun _ : Nat → Nat => True) (fun u t => va_P D zcl (W u) t.heap ∧ va_D A (W u)) A
theorem zA_eq {Pl : List Nat} {ad : Nat → Nat} {cA : ClassId} {h : zH} {sz : Nat} : zA Pl ad sz = va_A (zWl Pl ad cA h) sz := by
  funext q
  apply propext
  constructor
  · rintro (⟨k, hk, rfl⟩ | hq)
    · obtain ⟨i, hi⟩ := List.getElem?_of_mem hk
      exact Or.inl ⟨i, _, by rw [zWl, List.getElem?_map, hi]; rfl⟩
    · exact Or.inr hq
  · rintro (⟨k, e, hk⟩ | hq)
    · obtain ⟨a, ha, he⟩ := zWl_inv hk
      exact Or.inl ⟨a, List.mem_of_getElem? ha, by injection he with h1 _; exact h1.symm⟩
    · exact Or.inr hq
theorem zQc_v {D : va_G} {Pl : List Nat} {ad : Nat → Nat} {cA : ClassId} {h h' : zH} {sz : Nat} : zQc D Pl ad cA (none, h') sz = va_Qv (fun _ : Unit => True) (fun _ t => va_P D zcl (zWl Pl ad cA h') t.heap) (va_A (zWl Pl ad cA h) sz) := by
  funext a st o t
  apply propext
  unfold zQc va_Qv
  rw [zA_eq (cA := cA) (h := h)]
  constructor
  · rintro ⟨⟨h1, h2⟩, h3⟩
    exact ⟨⟨(), h1, trivial, h2⟩, h3⟩
  · rintro ⟨⟨_, h1, _, h2⟩, h3⟩
    exact ⟨⟨h1, h2⟩, h3⟩
/-- a picture method that answers nothing, as a contract for a walk by hand -/
theorem zMet_v {l : Launch} {Pl : List Nat} {d mi : Nat} {as : List Value} {h h' : zH} (M : zMet l Pl d mi as h (none, h')) (D : va_G) (ad : Nat → Nat) (cA : ClassId) (sz : Nat) : Met l (zYn mi) (zWs mi) (rmz d) (zPc D Pl ad cA as h sz) (va_Qv (fun _ : Unit => True) (fun _ t => va_P D zcl (zWl Pl ad cA h') t.heap) (va_A (zWl Pl ad cA h) sz)) 0 0 (va_A (zWl Pl ad cA h) sz) := by
  have := M D ad cA sz
  rw [zQc_v (h := h), zA_eq (cA := cA) (h := h)] at this
  exact this
section KN
variable {p : Program} {l : Launch} {e : Env} {R : Room} {s : State} {m : MethodId} {args : Array Value} {below : List Frame} {meth : Method} {c : Code} {H H0 : Heap} {locs : List Loc} {cells slots : Nat} {Q : State → Prop} {D : va_G} {A : Nat → Prop} {cc : ByteArray} {pc : Nat} {ls : Array Slot} {rest : List Value} {ws : va_W} {cA : ClassId}
theorem k_newi (hexec : p.tables.exec = Jvm.exec) (hb : c.code = cc) (harr : (Cond.arrayClass .int).before args s = true) (hK : va_K D zcl [(cA, .int)] s) (hP : va_P D zcl ws H) (hD : va_D A ws) (hS : va_S A H0 H locs) (hA : ∀ q, H0.size ≤ q → A q)
    {n : Int32} (N' : Nat) (hn : ¬ n < 0) (hN : n.toNatClampNeg = N') (hbytes : N' * componentBytes .int ≤ 536870912) (hcells : cells + 1 ≤ R.cells) (hslots : slots + N' ≤ R.slots) (hdg : decode cc pc = .ok (.newarray .int, 2))
    (kk : ∀ (q : Nat) (H1 : Heap), va_P D zcl (ws ++ [(q, .inl (cA, N', .inl (fun _ => 0)))]) H1 → va_D A (ws ++ [(q, .inl (cA, N', .inl (fun _ => 0)))]) → va_S A H0 H1 locs → W p l e R s m args below meth c H1 locs (cells + 1) (slots + N') Q (F0 m (pc + 2) ls (.ref q :: rest))) : W p l e R s m args below meth c H locs cells slots Q (F0 m pc ls (.int n :: rest)) :=
  va_newa (atype := .int) hexec hb harr rfl hK hP hD hS hA (a0 := (N', .inl (fun _ => 0))) (fun _ => rfl) hn hN hbytes hcells hslots hdg (fun q cB H1 hK' hP' hD' hS' => by
    have e : cB = cA := kArr hK'
    subst e
    exact kk q H1 hP' hD' hS')
end KN
/-- the hill as it is laid, ahead of its beginning -/
def kF0 (j : Nat) : Int32 := if j = 7 then 9 else if j = 10 then -9 else if j = 11 then 1 else 0
def kF1 (j : Nat) : Int32 := if j = 7 then 9 else if j = 9 then 9 else if j = 10 then -9 else if j = 11 then 1 else 0
def kHB0 : zH := fun a j => if a = 1 then kF0 j else 0
def kHB1 : zH := fun a j => if a = 1 then kF1 j else 0
theorem kBeg : zcal 1 0 [.ref 1] kHB0 = some (none, kHB1) := by
  have e : z_up (z_up (z_up (z_up kHB0 1 8 0) 1 9 (kHB0 1 7)) 1 10 (-9)) 1 11 1 = kHB1 := by
    have e7 : kHB0 1 7 = 9 := rfl
    rw [e7]
    funext a j
    unfold kHB0 kHB1 kF0 kF1
    simp only [zu_ap]
    (repeat' split) <;> first | rfl | (exfalso; omega)
  rw [E0_1, if_pos (show kHB0 1 6 = 0 from rfl), if_pos (show kHB0 1 6 = 0 from rfl), e]
def kHT0 : zH := fun a j => if a = 19 ∧ j = 7 then -9 else 0
def kHT1 : zH := fun a j => if a = 19 ∧ j = 7 then -9 else if a = 22 ∧ j < 10 then -9 else 0
theorem kFor : zcal 2 1 [.ref 19] kHT0 = some (none, kHT1) := by
  have e : z_up (z_up (z_up (z_up (z_up (fl (fl (fl kHT0 20 10 0) 21 10 0) 22 10 (-9)) 19 3 0) 19 4 0) 19 5 0) 19 6 0) 19 7 (-9) = kHT1 := by
    funext a j
    unfold kHT0 kHT1 fl
    simp only [zu_ap]
    (repeat' split) <;> first | rfl | (exfalso; omega)
  rw [← e]
  exact c_forget (d := 0)
theorem kNd (Pl : List Nat) (h : Pl.Nodup) : zNd Pl := by
  intro i j a hi hj
  have h1 := (List.getElem?_eq_some_iff.mp hi)
  have h2 := (List.getElem?_eq_some_iff.mp hj)
  obtain ⟨l1, e1⟩ := h1
  obtain ⟨l2, e2⟩ := h2
  have P := List.pairwise_iff_getElem.mp h
  rcases Nat.lt_trichotomy i j with q | q | q
  · exact absurd (e1.trans e2.symm) (P i j l1 l2 q)
  · exact q
  · exact absurd (e2.trans e1.symm) (P j i l2 l1 q)
/-- refs stay in the list -/
def kClo (Pl : List Nat) : Bool := Pl.all (fun a => match zObj a with
  | some x => x.2.all (fun f => match f with
    | some k => decide (k ∈ Pl)
    | none => true)
  | none => true)
theorem kClo_ok {Pl : List Nat} (h : kClo Pl = true) (h100 : zObj 100 = none) : zClo (fun a => a ∈ Pl ∨ a = 100) := by
  intro a ci fs ha ho j k hk
  rcases ha with ha | ha
  · have h1 := List.all_eq_true.mp h a ha
    rw [ho] at h1
    have h2 := List.all_eq_true.mp h1 (some k) (List.mem_of_getElem? hk)
    exact Or.inl (of_decide_eq_true h2)
  · rw [ha, h100] at ho; cases ho

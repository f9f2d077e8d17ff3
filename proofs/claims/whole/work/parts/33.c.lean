/-! COUNTING BITS -/
def bcE (p1 : Int32) : Int32 := (((((((p1 - (((p1.toUInt32 >>> ((1 : Int32).toUInt32 &&& Int32.toUInt32 31)).toInt32) &&& (1431655765 : Int32))) &&& (858993459 : Int32)) + ((((p1 - (((p1.toUInt32 >>> ((1 : Int32).toUInt32 &&& Int32.toUInt32 31)).toInt32) &&& (1431655765 : Int32))).toUInt32 >>> ((2 : Int32).toUInt32 &&& Int32.toUInt32 31)).toInt32) &&& (858993459 : Int32))) + (((((p1 - (((p1.toUInt32 >>> ((1 : Int32).toUInt32 &&& Int32.toUInt32 31)).toInt32) &&& (1431655765 : Int32))) &&& (858993459 : Int32)) + ((((p1 - (((p1.toUInt32 >>> ((1 : Int32).toUInt32 &&& Int32.toUInt32 31)).toInt32) &&& (1431655765 : Int32))).toUInt32 >>> ((2 : Int32).toUInt32 &&& Int32.toUInt32 31)).toInt32) &&& (858993459 : Int32))).toUInt32 >>> ((4 : Int32).toUInt32 &&& Int32.toUInt32 31)).toInt32)) &&& (252645135 : Int32)) + (((((((p1 - (((p1.toUInt32 >>> ((1 : Int32).toUInt32 &&& Int32.toUInt32 31)).toInt32) &&& (1431655765 : Int32))) &&& (858993459 : Int32)) + ((((p1 - (((p1.toUInt32 >>> ((1 : Int32).toUInt32 &&& Int32.toUInt32 31)).toInt32) &&& (1431655765 : Int32))).toUInt32 >>> ((2 : Int32).toUInt32 &&& Int32.toUInt32 31)).toInt32) &&& (858993459 : Int32))) + (((((p1 - (((p1.toUInt32 >>> ((1 : Int32).toUInt32 &&& Int32.toUInt32 31)).toInt32) &&& (1431655765 : Int32))) &&& (858993459 : Int32)) + ((((p1 - (((p1.toUInt32 >>> ((1 : Int32).toUInt32 &&& Int32.toUInt32 31)).toInt32) &&& (1431655765 : Int32))).toUInt32 >>> ((2 : Int32).toUInt32 &&& Int32.toUInt32 31)).toInt32) &&& (858993459 : Int32))).toUInt32 >>> ((4 : Int32).toUInt32 &&& Int32.toUInt32 31)).toInt32)) &&& (252645135 : Int32)).toUInt32 >>> ((8 : Int32).toUInt32 &&& Int32.toUInt32 31)).toInt32)) + ((((((((p1 - (((p1.toUInt32 >>> ((1 : Int32).toUInt32 &&& Int32.toUInt32 31)).toInt32) &&& (1431655765 : Int32))) &&& (858993459 : Int32)) + ((((p1 - (((p1.toUInt32 >>> ((1 : Int32).toUInt32 &&& Int32.toUInt32 31)).toInt32) &&& (1431655765 : Int32))).toUInt32 >>> ((2 : Int32).toUInt32 &&& Int32.toUInt32 31)).toInt32) &&& (858993459 : Int32))) + (((((p1 - (((p1.toUInt32 >>> ((1 : Int32).toUInt32 &&& Int32.toUInt32 31)).toInt32) &&& (1431655765 : Int32))) &&& (858993459 : Int32)) + ((((p1 - (((p1.toUInt32 >>> ((1 : Int32).toUInt32 &&& Int32.toUInt32 31)).toInt32) &&& (1431655765 : Int32))).toUInt32 >>> ((2 : Int32).toUInt32 &&& Int32.toUInt32 31)).toInt32) &&& (858993459 : Int32))).toUInt32 >>> ((4 : Int32).toUInt32 &&& Int32.toUInt32 31)).toInt32)) &&& (252645135 : Int32)) + (((((((p1 - (((p1.toUInt32 >>> ((1 : Int32).toUInt32 &&& Int32.toUInt32 31)).toInt32) &&& (1431655765 : Int32))) &&& (858993459 : Int32)) + ((((p1 - (((p1.toUInt32 >>> ((1 : Int32).toUInt32 &&& Int32.toUInt32 31)).toInt32) &&& (1431655765 : Int32))).toUInt32 >>> ((2 : Int32).toUInt32 &&& Int32.toUInt32 31)).toInt32) &&& (858993459 : Int32))) + (((((p1 - (((p1.toUInt32 >>> ((1 : Int32).toUInt32 &&& Int32.toUInt32 31)).toInt32) &&& (1431655765 : Int32))) &&& (858993459 : Int32)) + ((((p1 - (((p1.toUInt32 >>> ((1 : Int32).toUInt32 &&& Int32.toUInt32 31)).toInt32) &&& (1431655765 : Int32))).toUInt32 >>> ((2 : Int32).toUInt32 &&& Int32.toUInt32 31)).toInt32) &&& (858993459 : Int32))).toUInt32 >>> ((4 : Int32).toUInt32 &&& Int32.toUInt32 31)).toInt32)) &&& (252645135 : Int32)).toUInt32 >>> ((8 : Int32).toUInt32 &&& Int32.toUInt32 31)).toInt32)).toUInt32 >>> ((16 : Int32).toUInt32 &&& Int32.toUInt32 31)).toInt32)) &&& (63 : Int32)
def bcN (x : Int32) : Int32 := zfo (fun i a => a + ((x >>> (nI i &&& 31)) &&& 1)) 0 31
theorem bc_eq : ∀ m : Nat, m < 1024 → bcE (nI m) = bcN (nI m) := by decide +kernel
theorem c_bits {d : Nat} {h : zH} {x : Int32} {P : Nat → Prop} (M : isMask x P) : zcal (d + 1) 46 [.int x] h = some (some (.int (bcN x)), h) := by
  obtain ⟨m, hm, rfl, _⟩ := M
  rw [← bc_eq m hm]
  exact E46
theorem r_bits {d : Nat} {h : zH} {x : Int32} : zcal (d + 1) 178 [.int x] h = some (some (.int (bcN x)), h) := by
  rw [E178]
  have l := z_loop (S := fun a i => zE d 178 (4, [some (.int x), some (.int a), some (.int (nI i))], [], h)) (F := fun i a => a + ((x >>> (nI i &&& 31)) &&& 1)) (s0 := (0 : Int32)) (N := 31) (fun i hi => by
    show zE d 178 (4, [some (.int x), some (.int _), some (.int (nI i))], [], h) = _
    rw [E178_at4, if_neg (show ¬ nI i ≥ (31 : Int32) from nI_ge (b := 31) hi (by omega)), nI_1]
    rfl)
  refine l.trans ?_
  show zE d 178 (4, [some (.int x), some (.int _), some (.int (nI 31))], [], h) = _
  rw [E178_at4, if_pos (show nI 31 ≥ (31 : Int32) by decide)]
  rfl
/-! THE RIDE AS IT IS NOW, ON BOTH SIDES -/
theorem ref_now {e : Nat} {h : zH} {g : zHl} {n k : Nat} (R0 : Rel0 g n k h) : ∃ h2, zcal (e + 4) 176 [.ref 32] h = some (some (.int (nI (rJ g n rF rF rF (rQ0 n k (h 1 7) 0) 10).1)), h2) ∧ rfInv g n k rF rF rF (rQ0 n k (h 1 7) 0) (h 1 7) (-9) (-9) 0 10 h2 ∧ rfF h h2 := by
  have q : h 32 8 = h 1 7 := R0.1.2.2.2.2 0 (by omega)
  have := r_now (d := e) R0.1.2.2.1 R0.1.1 (by rw [q]; exact R0.1.2.2.2.1.1) R0.2.2.2.2.2
  rw [q] at this
  exact this
theorem cls_now {e : Nat} {h : zH} {g : zHl} {n k : Nat} (R0 : Rel0 g n k h) (C : RelC h) : ∃ h1, zcal (e + 6) 60 [.ref 0] h = some (none, h1) ∧ rInv g n k rF rF rF (rQ0 n k (h 1 7) 0) (h 1 7) 10 h1 ∧ zFr zMT h h1 ∧ Rel0 g n k h1 ∧ RelC h1 ∧ h1 1 7 = h 1 7 := by
  obtain ⟨h1, e1, I, F⟩ := c_now (d := e) R0.1.2.1 R0.1.1
  exact ⟨h1, e1, I, F, Rel0_mv R0 (zPers_mt F), RelC_mt C F, by rw [F 1 (zMT_n (by omega))]⟩
theorem q_go {n k : Nat} {st : Int32} : rGo n k (rQ0 n k st 0) 0 := rQ0_go (by
  rcases Nat.eq_zero_or_pos k with q | q
  · exact Or.inr q
  · exact Or.inl ⟨0, q, rfl⟩)
theorem Rel_of {h h2 : zH} {g : zHl} {n k : Nat} (R0 : Rel0 g n k h) (C : RelC h) (G : rfF h h2) : Rel h2 := ⟨⟨g, n, k, Rel0_mv R0 (zPers_rf2 G)⟩, RelC_rf C G⟩
theorem Rel_refq {h h2 : zH} {j : Nat} (hj : j < 6) {g : zHl} {n k : Nat} (R0 : Rel0 g n k h) (C : RelC h) (G : rfF (refC h j) h2) : Rel (refR h2 j) := by
  refine ⟨⟨g, n, k, Rel0_mv (Rel0_mv (Rel0_mv R0 zPers_c) (zPers_rf2 G)) zPers_r⟩, fun i hi => ?_⟩
  have e30 : h2 30 = refC h j 30 := G.1 30 (by omega) (by omega) (by omega)
  have e33 : h2 33 = refC h j 33 := G.1 33 (by omega) (by omega) (by omega)
  unfold refR
  rw [z_up_ne (a := 30) (by omega), e30]
  by_cases e : i = j
  · subst e
    rw [zu_eq, e33]
    unfold refC
    rw [zu_eq, z_up_ne (by omega), C i hi]
  · rw [zu_ni _ _ (by omega), e33]
    unfold refC
    rw [z_up_ne (by omega), zu_ni _ _ e, C i hi]
section RODE
variable {g : zHl} {n k : Nat} {b u w : Nat → Bool} {q0 : zQ}
theorem rRo_mask (V : zVal g n k) (h0 : rGo n k q0 0) : ∀ i, isMask (rRo g n b u w q0 i) (fun r => ∃ j, j < rC g n b u w q0 i ∧ rR g n b u w q0 j = nI r) := by
  intro i
  induction i with
  | zero => exact isMask_ex isMask_0 (fun s _ => ⟨fun q => False.elim q, fun q => by obtain ⟨j, hj, _⟩ := q; exact absurd hj (by rw [rC]; omega)⟩)
  | succ i ih =>
    rw [rRo]
    by_cases hm : (rJ g n b u w q0 i).2.2.2 = 0
    · have hc : ∀ j, j < rC g n b u w q0 (i + 1) ↔ j < rC g n b u w q0 i ∨ j = i := fun j => by
        rw [rC_iff, rC_iff]
        refine ⟨fun h => ?_, fun h => ?_⟩
        · by_cases e : j = i
          · exact Or.inr e
          · exact Or.inl ⟨by omega, h.2⟩
        · rcases h with h | h
          · exact ⟨by omega, h.2⟩
          · subst h; exact ⟨by omega, hm⟩
      obtain ⟨x, hx, ex⟩ := rR_rid (i := i + 1) (j := i) V h0 ((hc i).mpr (Or.inr rfl))
      have hk := V.2.1
      rw [if_pos hm, ex]
      refine isMask_ex (isMask_or ih (show x < 10 by omega)) (fun s hs => ⟨fun q => ?_, fun q => ?_⟩)
      · rcases q with ⟨j, hj, q⟩ | q
        · exact ⟨j, (hc j).mpr (Or.inl hj), q⟩
        · subst q; exact ⟨i, (hc i).mpr (Or.inr rfl), ex⟩
      · obtain ⟨j, hj, q⟩ := q
        rcases (hc j).mp hj with e | e
        · exact Or.inl ⟨j, e, q⟩
        · subst e
          rw [ex] at q
          exact Or.inr ((nI_eq (by omega) (by omega)).mp q).symm
    · have : rC g n b u w q0 (i + 1) = rC g n b u w q0 i := by rw [rC, if_neg hm]
      rw [if_neg hm, this]
      exact ih
/-- who rode, as the reference counts it -/
theorem r_rode {d : Nat} {h : zH} (V : zVal g n k) (h0 : rGo n k q0 0) (hn6 : h 32 6 = nI n) (h45 : ∀ j, j < 10 → h 45 j = rWh g n b u w q0 10 j) : zcal (d + 1) 177 [.ref 32] h = some (some (.int (rRo g n b u w q0 10)), h) := by
  have hn := V.1; have hk := V.2.1
  rw [E177_32]
  have l := z_loop (S := fun a i => zE d 177 (4, [some (.ref 32), some (.int a), some (.int (nI i))], [], h)) (F := fun i a => if h 45 i < 0 then a else a ||| ((1 : Int32) <<< (h 45 i &&& 31))) (s0 := (0 : Int32)) (N := n) (fun i hi => by
    show zE d 177 (4, [some (.ref 32), some (.int _), some (.int (nI i))], [], h) = zE d 177 (4, [some (.ref 32), some (.int (zfo _ _ (i + 1))), some (.int (nI (i + 1)))], [], h)
    rw [E177_32_at4, hn6, if_neg (nI_ge hi (by omega)), zG_nI (by omega) (by omega), nI_tn (by omega), nI_1, zfo]
    by_cases q : h 45 i < 0
    · rw [if_pos q, if_pos q, Int32.or_zero]
    · rw [if_neg q, if_neg q, zG_nI (by omega) (by omega)])
  refine l.trans ?_
  show zE d 177 (4, [some (.ref 32), some (.int _), some (.int (nI n))], [], h) = _
  rw [E177_32_at4, hn6, if_pos (nI_le (Nat.le_refl _) (by omega))]
  have M : ∀ i, i ≤ n → isMask (zfo (fun i a => if h 45 i < 0 then a else a ||| ((1 : Int32) <<< (h 45 i &&& 31))) 0 i) (fun r => ∃ j, j < i ∧ j < rC g n b u w q0 10 ∧ rR g n b u w q0 j = nI r) := by
    intro i
    induction i with
    | zero => intro _; exact isMask_ex isMask_0 (fun s _ => ⟨fun q => False.elim q, fun q => by obtain ⟨j, hj, _⟩ := q; exact absurd hj (by omega)⟩)
    | succ i ih =>
      intro hi
      rw [zfo, h45 i (by omega), rWh_eq V h0]
      by_cases q : i < rC g n b u w q0 10
      · obtain ⟨x, hx, ex⟩ := rR_rid V h0 q
        rw [if_pos q, ex, if_neg (nI_pos (by omega))]
        refine isMask_ex (isMask_or (ih (by omega)) (show x < 10 by omega)) (fun s hs => ⟨fun z => ?_, fun z => ?_⟩)
        · rcases z with ⟨j, hj, z⟩ | z
          · exact ⟨j, by omega, z⟩
          · subst z; exact ⟨i, by omega, q, ex⟩
        · obtain ⟨j, hj, z1, z2⟩ := z
          by_cases e : j = i
          · subst e
            rw [ex] at z2
            exact Or.inr ((nI_eq (by omega) (by omega)).mp z2).symm
          · exact Or.inl ⟨j, by omega, z1, z2⟩
      · rw [if_neg q, if_pos (show (-9 : Int32) < 0 by decide)]
        refine isMask_ex (ih (by omega)) (fun s hs => ⟨fun z => ?_, fun z => ?_⟩)
        · obtain ⟨j, hj, z⟩ := z; exact ⟨j, by omega, z⟩
        · obtain ⟨j, hj, z1, z2⟩ := z; exact ⟨j, by omega, z1, z2⟩
  have := isMask_eq (M n (Nat.le_refl _)) (rRo_mask V h0 10) (fun s hs => ⟨fun z => by obtain ⟨j, _, z1, z2⟩ := z; exact ⟨j, z1, z2⟩, fun z => by obtain ⟨j, z1, z2⟩ := z; exact ⟨j, by have := rC_len (b := b) (u := u) (w := w) V h0 10; omega, z1, z2⟩⟩)
  rw [this]
end RODE
theorem sim_ride {a : Int32} : zSim 59 175 [.int a] := by
  intro d h R
  obtain ⟨⟨g, n, k, R0⟩, C⟩ := R
  have V := R0.1.1
  obtain ⟨h1, e1, I, F, R1, C1, s1⟩ := cls_now (e := d + 3) R0 C
  obtain ⟨h2, e2, J, G⟩ := ref_now (e := d + 5) R1
  rw [s1] at e2 J
  obtain ⟨I1, I2, I3, I4, I5, I6, I7, I8, I9, I10, I11, I12, I13, I14⟩ := I
  obtain ⟨J1, J2, J3, J4, J5, J6, J7, J8, J9, J10, J11, J12, J13, J14, J15⟩ := J
  have R2 := Rel_of R1 C1 G
  have M := rRo_mask (b := rF) (u := rF) (w := rF) V (q_go (st := h 1 7)) 10
  by_cases a0 : a = 0
  · exact sim_ok (by rw [E59_0, e1, zCv_some, if_pos a0, I3]) (by rw [E175_32, e2, zCi_some, if_pos a0, J6]) R2
  · by_cases a1 : a = 1
    · exact sim_ok (by rw [E59_0, e1, zCv_some, if_neg a0, if_pos a1, I6]) (by rw [E175_32, e2, zCi_some, if_neg a0, if_pos a1, J9]) R2
    · by_cases a2 : a = 2
      · exact sim_ok (by rw [E59_0, e1, zCv_some, if_neg a0, if_neg a1, if_pos a2, I4]) (by rw [E175_32, e2, zCi_some, if_neg a0, if_neg a1, if_pos a2, J7]) R2
      · by_cases a3 : a = 3
        · exact sim_ok (by rw [E59_0, e1, zCv_some, if_neg a0, if_neg a1, if_neg a2, if_pos a3, I11, c_bits M, zCi_some]) (by rw [E175_32, e2, zCi_some, if_neg a0, if_neg a1, if_neg a2, if_pos a3, r_rode V q_go J1.1 J15, zCi_some, r_bits, zCi_some]) R2
        · by_cases a4 : a = 4
          · exact sim_ok (by rw [E59_0, e1, zCv_some, if_neg a0, if_neg a1, if_neg a2, if_neg a3, if_pos a4, I12]) (by rw [E175_32, e2, zCi_some, if_neg a0, if_neg a1, if_neg a2, if_neg a3, if_pos a4, J11]) R2
          · obtain ⟨h3, e3, _, G3⟩ := ref_now (e := d + 5) (Rel0_c (j := 1) R1)
            exact sim_ok (by rw [E59_0, e1, zCv_some, if_neg a0, if_neg a1, if_neg a2, if_neg a3, if_neg a4, c_rf2, zCi_some]) (by rw [E175_32, e3, zCi_some, if_neg a0, if_neg a1, if_neg a2, if_neg a3, if_neg a4, r_no2, zCi_some]) (Rel_refq (by omega) R1 C1 G3)

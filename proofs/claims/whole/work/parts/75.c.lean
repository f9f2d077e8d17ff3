/-! THE LAW'S LOOP -/
section LAW
theorem lw_i {mc mr : Nat} {as : List Value} {d : Nat} {h : zH} (R : Rel h) (S : zSim mc mr as) (t : zRet mc = some .int) : ∃ (x : Int32) (h1 h2 : zH), zcal (d + 10) mc (.ref 0 :: as) h = some (some (.int x), h1) ∧ zcal (d + 10) mr (.ref 32 :: as) h1 = some (some (.int x), h2) ∧ Rel h2 ∧ (h1 100 = h 100 ∧ h1 101 = h 101) ∧ h2 100 = h 100 ∧ h2 101 = h 101 := by
  obtain ⟨v, h1, h2, e1, e2, R2⟩ := S d h R
  have k1 := zcal_keep _ _ _ _ _ e1
  have k2 := zcal_keep _ _ _ _ _ e2
  have ty := zcal_ty e1
  match v, ty with
  | .int x, _ => exact ⟨x, h1, h2, e1, e2, R2, ⟨k1 100 (by omega), k1 101 (by omega)⟩, (k2 100 (by omega)).trans (k1 100 (by omega)), (k2 101 (by omega)).trans (k1 101 (by omega))⟩
  | .long x, g => have g : zRet mc = some .long := g; rw [t] at g; cases g
theorem lw_l {mc mr : Nat} {as : List Value} {d : Nat} {h : zH} (R : Rel h) (S : zSim mc mr as) (t : zRet mc = some .long) : ∃ (x : Int64) (h1 h2 : zH), zcal (d + 10) mc (.ref 0 :: as) h = some (some (.long x), h1) ∧ zcal (d + 10) mr (.ref 32 :: as) h1 = some (some (.long x), h2) ∧ Rel h2 ∧ (h1 100 = h 100 ∧ h1 101 = h 101) ∧ h2 100 = h 100 ∧ h2 101 = h 101 := by
  obtain ⟨v, h1, h2, e1, e2, R2⟩ := S d h R
  have k1 := zcal_keep _ _ _ _ _ e1
  have k2 := zcal_keep _ _ _ _ _ e2
  have ty := zcal_ty e1
  match v, ty with
  | .long x, _ => exact ⟨x, h1, h2, e1, e2, R2, ⟨k1 100 (by omega), k1 101 (by omega)⟩, (k2 100 (by omega)).trans (k1 100 (by omega)), (k2 101 (by omega)).trans (k1 101 (by omega))⟩
  | .int x, g =>
    have g : zRet mc = some .int ∨ (zRet mc = some .boolean ∧ (x = 0 ∨ x = 1)) := g
    rw [t] at g
    rcases g with g | ⟨g, _⟩ <;> cases g
theorem lg_cmp_self (x : Int64) : lg_cmp x x = 0 := by
  unfold lg_cmp
  rw [if_neg (Int64.lt_irrefl), if_pos rfl]
/-- a case of the law, from its place to behind it -/
def lwC (pc : Nat) : Prop := ∀ (d : Nat) (h : zH) (L j : Nat), Rel h → h 101 0 = nI L → j + 5 ≤ L → L ≤ 1000000 → ∃ h', zE (d + 10) 228 (pc, [some (.ref 100), some (.ref 0), some (.ref 32), some (.int (nI j))], [], h) = zE (d + 10) 228 (1369, [some (.ref 100), some (.ref 0), some (.ref 32), some (.int (nI j))], [], h') ∧ Rel h' ∧ h' 100 = h 100 ∧ h' 101 = h 101
theorem lw_236 : lwC 236 := by
  intro d h L j R hL hj hb
  obtain ⟨x, h1, h2, e1, e2, R2, ⟨k0, k1⟩, k2⟩ := lw_i (d := d) R (sim_feed : zSim 4 123 [.int (h 100 (j + 1))]) rfl
  refine ⟨h2, ?_, R2, k2⟩
  have tL : (nI L).toNatClampNeg = L := nI_tn (by omega)
  have a1 : nI j + 1 = nI (j + 1) := nI_1 j
  have g1 : ∀ K : Option zE0, zG (nI (j + 1)) L K = K := fun K => zG_nI (by omega) (by omega)
  have t1 : (nI (j + 1)).toNatClampNeg = j + 1 := nI_tn (by omega)
  rw [E228_at236, a1, hL, tL, g1, t1, e1, zCi_some, k1, k0, hL, tL, g1, e2, zCi_some, if_pos rfl]
theorem lw_259 : lwC 259 := by
  intro d h L j R hL hj hb
  obtain ⟨x, h1, h2, e1, e2, R2, ⟨k0, k1⟩, k2⟩ := lw_i (d := d) R (sim_hill : zSim 10 126 []) rfl
  refine ⟨h2, ?_, R2, k2⟩
  rw [E228_at259, e1, zCi_some, e2, zCi_some, if_pos rfl]
theorem lw_272 : lwC 272 := by
  intro d h L j R hL hj hb
  obtain ⟨x, h1, h2, e1, e2, R2, ⟨k0, k1⟩, k2⟩ := lw_i (d := d) R (sim_stretchOf : zSim 38 159 [.int (h 100 (j + 1)), .int (h 100 (j + 2))]) rfl
  refine ⟨h2, ?_, R2, k2⟩
  have tL : (nI L).toNatClampNeg = L := nI_tn (by omega)
  have a1 : nI j + 1 = nI (j + 1) := nI_1 j
  have g1 : ∀ K : Option zE0, zG (nI (j + 1)) L K = K := fun K => zG_nI (by omega) (by omega)
  have t1 : (nI (j + 1)).toNatClampNeg = j + 1 := nI_tn (by omega)
  have a2 : nI j + 2 = nI (j + 2) := nI_add j 2
  have g2 : ∀ K : Option zE0, zG (nI (j + 2)) L K = K := fun K => zG_nI (by omega) (by omega)
  have t2 : (nI (j + 2)).toNatClampNeg = j + 2 := nI_tn (by omega)
  rw [E228_at272, a1, a2, hL, tL, g1, g2, t1, t2, e1, zCi_some, k1, k0, hL, tL, g1, g2, e2, zCi_some, if_pos rfl]
theorem lw_305 : lwC 305 := by
  intro d h L j R hL hj hb
  obtain ⟨x, h1, h2, e1, e2, R2, ⟨k0, k1⟩, k2⟩ := lw_i (d := d) R (sim_riderOf : zSim 39 160 [.int (h 100 (j + 1)), .int (h 100 (j + 2))]) rfl
  refine ⟨h2, ?_, R2, k2⟩
  have tL : (nI L).toNatClampNeg = L := nI_tn (by omega)
  have a1 : nI j + 1 = nI (j + 1) := nI_1 j
  have g1 : ∀ K : Option zE0, zG (nI (j + 1)) L K = K := fun K => zG_nI (by omega) (by omega)
  have t1 : (nI (j + 1)).toNatClampNeg = j + 1 := nI_tn (by omega)
  have a2 : nI j + 2 = nI (j + 2) := nI_add j 2
  have g2 : ∀ K : Option zE0, zG (nI (j + 2)) L K = K := fun K => zG_nI (by omega) (by omega)
  have t2 : (nI (j + 2)).toNatClampNeg = j + 2 := nI_tn (by omega)
  rw [E228_at305, a1, a2, hL, tL, g1, g2, t1, t2, e1, zCi_some, k1, k0, hL, tL, g1, g2, e2, zCi_some, if_pos rfl]
theorem lw_338 : lwC 338 := by
  intro d h L j R hL hj hb
  obtain ⟨x, h1, h2, e1, e2, R2, ⟨k0, k1⟩, k2⟩ := lw_i (d := d) R (sim_bicycle : zSim 40 161 [.int (h 100 (j + 1))]) rfl
  refine ⟨h2, ?_, R2, k2⟩
  have tL : (nI L).toNatClampNeg = L := nI_tn (by omega)
  have a1 : nI j + 1 = nI (j + 1) := nI_1 j
  have g1 : ∀ K : Option zE0, zG (nI (j + 1)) L K = K := fun K => zG_nI (by omega) (by omega)
  have t1 : (nI (j + 1)).toNatClampNeg = j + 1 := nI_tn (by omega)
  rw [E228_at338, a1, hL, tL, g1, t1, e1, zCi_some, k1, k0, hL, tL, g1, e2, zCi_some, if_pos rfl]
theorem lw_361 : lwC 361 := by
  intro d h L j R hL hj hb
  obtain ⟨x, h1, h2, e1, e2, R2, ⟨k0, k1⟩, k2⟩ := lw_i (d := d) R (sim_goesOn : zSim 42 163 [.int (h 100 (j + 1)), .int (h 100 (j + 2)), .int (h 100 (j + 3))]) rfl
  refine ⟨h2, ?_, R2, k2⟩
  have tL : (nI L).toNatClampNeg = L := nI_tn (by omega)
  have a1 : nI j + 1 = nI (j + 1) := nI_1 j
  have g1 : ∀ K : Option zE0, zG (nI (j + 1)) L K = K := fun K => zG_nI (by omega) (by omega)
  have t1 : (nI (j + 1)).toNatClampNeg = j + 1 := nI_tn (by omega)
  have a2 : nI j + 2 = nI (j + 2) := nI_add j 2
  have g2 : ∀ K : Option zE0, zG (nI (j + 2)) L K = K := fun K => zG_nI (by omega) (by omega)
  have t2 : (nI (j + 2)).toNatClampNeg = j + 2 := nI_tn (by omega)
  have a3 : nI j + 3 = nI (j + 3) := nI_add j 3
  have g3 : ∀ K : Option zE0, zG (nI (j + 3)) L K = K := fun K => zG_nI (by omega) (by omega)
  have t3 : (nI (j + 3)).toNatClampNeg = j + 3 := nI_tn (by omega)
  rw [E228_at361, a1, a2, a3, hL, tL, g1, g2, g3, t1, t2, t3, e1, zCi_some, k1, k0, hL, tL, g1, g2, g3, e2, zCi_some, if_pos rfl]
theorem lw_404 : lwC 404 := by
  intro d h L j R hL hj hb
  obtain ⟨x, h1, h2, e1, e2, R2, ⟨k0, k1⟩, k2⟩ := lw_i (d := d) R (sim_holds : zSim 43 164 [.int (h 100 (j + 1)), .int (h 100 (j + 2))]) rfl
  refine ⟨h2, ?_, R2, k2⟩
  have tL : (nI L).toNatClampNeg = L := nI_tn (by omega)
  have a1 : nI j + 1 = nI (j + 1) := nI_1 j
  have g1 : ∀ K : Option zE0, zG (nI (j + 1)) L K = K := fun K => zG_nI (by omega) (by omega)
  have t1 : (nI (j + 1)).toNatClampNeg = j + 1 := nI_tn (by omega)
  have a2 : nI j + 2 = nI (j + 2) := nI_add j 2
  have g2 : ∀ K : Option zE0, zG (nI (j + 2)) L K = K := fun K => zG_nI (by omega) (by omega)
  have t2 : (nI (j + 2)).toNatClampNeg = j + 2 := nI_tn (by omega)
  rw [E228_at404, a1, a2, hL, tL, g1, g2, t1, t2, e1, zCi_some, k1, k0, hL, tL, g1, g2, e2, zCi_some, if_pos rfl]
theorem lw_437 : lwC 437 := by
  intro d h L j R hL hj hb
  obtain ⟨x, h1, h2, e1, e2, R2, ⟨k0, k1⟩, k2⟩ := lw_i (d := d) R (sim_stretch : zSim 47 165 [.int (h 100 (j + 1)), .int (h 100 (j + 2))]) rfl
  refine ⟨h2, ?_, R2, k2⟩
  have tL : (nI L).toNatClampNeg = L := nI_tn (by omega)
  have a1 : nI j + 1 = nI (j + 1) := nI_1 j
  have g1 : ∀ K : Option zE0, zG (nI (j + 1)) L K = K := fun K => zG_nI (by omega) (by omega)
  have t1 : (nI (j + 1)).toNatClampNeg = j + 1 := nI_tn (by omega)
  have a2 : nI j + 2 = nI (j + 2) := nI_add j 2
  have g2 : ∀ K : Option zE0, zG (nI (j + 2)) L K = K := fun K => zG_nI (by omega) (by omega)
  have t2 : (nI (j + 2)).toNatClampNeg = j + 2 := nI_tn (by omega)
  rw [E228_at437, a1, a2, hL, tL, g1, g2, t1, t2, e1, zCi_some, k1, k0, hL, tL, g1, g2, e2, zCi_some, if_pos rfl]
theorem lw_470 : lwC 470 := by
  intro d h L j R hL hj hb
  obtain ⟨x, h1, h2, e1, e2, R2, ⟨k0, k1⟩, k2⟩ := lw_i (d := d) R (sim_rider : zSim 48 166 [.int (h 100 (j + 1)), .int (h 100 (j + 2))]) rfl
  refine ⟨h2, ?_, R2, k2⟩
  have tL : (nI L).toNatClampNeg = L := nI_tn (by omega)
  have a1 : nI j + 1 = nI (j + 1) := nI_1 j
  have g1 : ∀ K : Option zE0, zG (nI (j + 1)) L K = K := fun K => zG_nI (by omega) (by omega)
  have t1 : (nI (j + 1)).toNatClampNeg = j + 1 := nI_tn (by omega)
  have a2 : nI j + 2 = nI (j + 2) := nI_add j 2
  have g2 : ∀ K : Option zE0, zG (nI (j + 2)) L K = K := fun K => zG_nI (by omega) (by omega)
  have t2 : (nI (j + 2)).toNatClampNeg = j + 2 := nI_tn (by omega)
  rw [E228_at470, a1, a2, hL, tL, g1, g2, t1, t2, e1, zCi_some, k1, k0, hL, tL, g1, g2, e2, zCi_some, if_pos rfl]
theorem lw_503 : lwC 503 := by
  intro d h L j R hL hj hb
  obtain ⟨x, h1, h2, e1, e2, R2, ⟨k0, k1⟩, k2⟩ := lw_i (d := d) R (sim_waits : zSim 49 167 [.int (h 100 (j + 1)), .int (h 100 (j + 2))]) rfl
  refine ⟨h2, ?_, R2, k2⟩
  have tL : (nI L).toNatClampNeg = L := nI_tn (by omega)
  have a1 : nI j + 1 = nI (j + 1) := nI_1 j
  have g1 : ∀ K : Option zE0, zG (nI (j + 1)) L K = K := fun K => zG_nI (by omega) (by omega)
  have t1 : (nI (j + 1)).toNatClampNeg = j + 1 := nI_tn (by omega)
  have a2 : nI j + 2 = nI (j + 2) := nI_add j 2
  have g2 : ∀ K : Option zE0, zG (nI (j + 2)) L K = K := fun K => zG_nI (by omega) (by omega)
  have t2 : (nI (j + 2)).toNatClampNeg = j + 2 := nI_tn (by omega)
  rw [E228_at503, a1, a2, hL, tL, g1, g2, t1, t2, e1, zCi_some, k1, k0, hL, tL, g1, g2, e2, zCi_some, if_pos rfl]
theorem lw_536 : lwC 536 := by
  intro d h L j R hL hj hb
  obtain ⟨x, h1, h2, e1, e2, R2, ⟨k0, k1⟩, k2⟩ := lw_i (d := d) R (sim_starts : zSim 51 169 [.int (h 100 (j + 1))]) rfl
  refine ⟨h2, ?_, R2, k2⟩
  have tL : (nI L).toNatClampNeg = L := nI_tn (by omega)
  have a1 : nI j + 1 = nI (j + 1) := nI_1 j
  have g1 : ∀ K : Option zE0, zG (nI (j + 1)) L K = K := fun K => zG_nI (by omega) (by omega)
  have t1 : (nI (j + 1)).toNatClampNeg = j + 1 := nI_tn (by omega)
  rw [E228_at536, a1, hL, tL, g1, t1, e1, zCi_some, k1, k0, hL, tL, g1, e2, zCi_some, if_pos rfl]
theorem lw_559 : lwC 559 := by
  intro d h L j R hL hj hb
  obtain ⟨x, h1, h2, e1, e2, R2, ⟨k0, k1⟩, k2⟩ := lw_i (d := d) R (sim_begins : zSim 52 170 []) rfl
  refine ⟨h2, ?_, R2, k2⟩
  rw [E228_at559, e1, zCi_some, e2, zCi_some, if_pos rfl]
theorem lw_572 : lwC 572 := by
  intro d h L j R hL hj hb
  obtain ⟨x, h1, h2, e1, e2, R2, ⟨k0, k1⟩, k2⟩ := lw_i (d := d) R (sim_steps : zSim 53 171 [.int (h 100 (j + 1))]) rfl
  refine ⟨h2, ?_, R2, k2⟩
  have tL : (nI L).toNatClampNeg = L := nI_tn (by omega)
  have a1 : nI j + 1 = nI (j + 1) := nI_1 j
  have g1 : ∀ K : Option zE0, zG (nI (j + 1)) L K = K := fun K => zG_nI (by omega) (by omega)
  have t1 : (nI (j + 1)).toNatClampNeg = j + 1 := nI_tn (by omega)
  rw [E228_at572, a1, hL, tL, g1, t1, e1, zCi_some, k1, k0, hL, tL, g1, e2, zCi_some, if_pos rfl]
theorem lw_595 : lwC 595 := by
  intro d h L j R hL hj hb
  obtain ⟨x, h1, h2, e1, e2, R2, ⟨k0, k1⟩, k2⟩ := lw_i (d := d) R (sim_back : zSim 54 156 []) rfl
  refine ⟨h2, ?_, R2, k2⟩
  rw [E228_at595, e1, zCi_some, e2, zCi_some, if_pos rfl]
theorem lw_608 : lwC 608 := by
  intro d h L j R hL hj hb
  obtain ⟨x, h1, h2, e1, e2, R2, ⟨k0, k1⟩, k2⟩ := lw_i (d := d) R (sim_behind : zSim 58 172 [.int (h 100 (j + 1)), .int (h 100 (j + 2))]) rfl
  refine ⟨h2, ?_, R2, k2⟩
  have tL : (nI L).toNatClampNeg = L := nI_tn (by omega)
  have a1 : nI j + 1 = nI (j + 1) := nI_1 j
  have g1 : ∀ K : Option zE0, zG (nI (j + 1)) L K = K := fun K => zG_nI (by omega) (by omega)
  have t1 : (nI (j + 1)).toNatClampNeg = j + 1 := nI_tn (by omega)
  have a2 : nI j + 2 = nI (j + 2) := nI_add j 2
  have g2 : ∀ K : Option zE0, zG (nI (j + 2)) L K = K := fun K => zG_nI (by omega) (by omega)
  have t2 : (nI (j + 2)).toNatClampNeg = j + 2 := nI_tn (by omega)
  rw [E228_at608, a1, a2, hL, tL, g1, g2, t1, t2, e1, zCi_some, k1, k0, hL, tL, g1, g2, e2, zCi_some, if_pos rfl]
theorem lw_641 : lwC 641 := by
  intro d h L j R hL hj hb
  obtain ⟨x, h1, h2, e1, e2, R2, ⟨k0, k1⟩, k2⟩ := lw_i (d := d) R (sim_ride : zSim 59 175 [.int (h 100 (j + 1))]) rfl
  refine ⟨h2, ?_, R2, k2⟩
  have tL : (nI L).toNatClampNeg = L := nI_tn (by omega)
  have a1 : nI j + 1 = nI (j + 1) := nI_1 j
  have g1 : ∀ K : Option zE0, zG (nI (j + 1)) L K = K := fun K => zG_nI (by omega) (by omega)
  have t1 : (nI (j + 1)).toNatClampNeg = j + 1 := nI_tn (by omega)
  rw [E228_at641, a1, hL, tL, g1, t1, e1, zCi_some, k1, k0, hL, tL, g1, e2, zCi_some, if_pos rfl]
theorem lw_664 : lwC 664 := by
  intro d h L j R hL hj hb
  obtain ⟨x, h1, h2, e1, e2, R2, ⟨k0, k1⟩, k2⟩ := lw_i (d := d) R (sim_fastest : zSim 68 179 [.int (h 100 (j + 1))]) rfl
  refine ⟨h2, ?_, R2, k2⟩
  have tL : (nI L).toNatClampNeg = L := nI_tn (by omega)
  have a1 : nI j + 1 = nI (j + 1) := nI_1 j
  have g1 : ∀ K : Option zE0, zG (nI (j + 1)) L K = K := fun K => zG_nI (by omega) (by omega)
  have t1 : (nI (j + 1)).toNatClampNeg = j + 1 := nI_tn (by omega)
  rw [E228_at664, a1, hL, tL, g1, t1, e1, zCi_some, k1, k0, hL, tL, g1, e2, zCi_some, if_pos rfl]
theorem lw_687 : lwC 687 := by
  intro d h L j R hL hj hb
  obtain ⟨x, h1, h2, e1, e2, R2, ⟨k0, k1⟩, k2⟩ := lw_i (d := d) R (sim_above : zSim 70 180 [.int (h 100 (j + 1))]) rfl
  refine ⟨h2, ?_, R2, k2⟩
  have tL : (nI L).toNatClampNeg = L := nI_tn (by omega)
  have a1 : nI j + 1 = nI (j + 1) := nI_1 j
  have g1 : ∀ K : Option zE0, zG (nI (j + 1)) L K = K := fun K => zG_nI (by omega) (by omega)
  have t1 : (nI (j + 1)).toNatClampNeg = j + 1 := nI_tn (by omega)
  rw [E228_at687, a1, hL, tL, g1, t1, e1, zCi_some, k1, k0, hL, tL, g1, e2, zCi_some, if_pos rfl]
theorem lw_710 : lwC 710 := by
  intro d h L j R hL hj hb
  obtain ⟨x, h1, h2, e1, e2, R2, ⟨k0, k1⟩, k2⟩ := lw_i (d := d) R (sim_smithy : zSim 71 181 []) rfl
  refine ⟨h2, ?_, R2, k2⟩
  rw [E228_at710, e1, zCi_some, e2, zCi_some, if_pos rfl]
theorem lw_723 : lwC 723 := by
  intro d h L j R hL hj hb
  obtain ⟨x, h1, h2, e1, e2, R2, ⟨k0, k1⟩, k2⟩ := lw_i (d := d) R (sim_who : zSim 73 182 [.int (h 100 (j + 1))]) rfl
  refine ⟨h2, ?_, R2, k2⟩
  have tL : (nI L).toNatClampNeg = L := nI_tn (by omega)
  have a1 : nI j + 1 = nI (j + 1) := nI_1 j
  have g1 : ∀ K : Option zE0, zG (nI (j + 1)) L K = K := fun K => zG_nI (by omega) (by omega)
  have t1 : (nI (j + 1)).toNatClampNeg = j + 1 := nI_tn (by omega)
  rw [E228_at723, a1, hL, tL, g1, t1, e1, zCi_some, k1, k0, hL, tL, g1, e2, zCi_some, if_pos rfl]
theorem lw_746 : lwC 746 := by
  intro d h L j R hL hj hb
  obtain ⟨x, h1, h2, e1, e2, R2, ⟨k0, k1⟩, k2⟩ := lw_i (d := d) R (sim_bestStart : zSim 91 183 [.int (h 100 (j + 1))]) rfl
  refine ⟨h2, ?_, R2, k2⟩
  have tL : (nI L).toNatClampNeg = L := nI_tn (by omega)
  have a1 : nI j + 1 = nI (j + 1) := nI_1 j
  have g1 : ∀ K : Option zE0, zG (nI (j + 1)) L K = K := fun K => zG_nI (by omega) (by omega)
  have t1 : (nI (j + 1)).toNatClampNeg = j + 1 := nI_tn (by omega)
  rw [E228_at746, a1, hL, tL, g1, t1, e1, zCi_some, k1, k0, hL, tL, g1, e2, zCi_some, if_pos rfl]
theorem lw_769 : lwC 769 := by
  intro d h L j R hL hj hb
  obtain ⟨x, h1, h2, e1, e2, R2, ⟨k0, k1⟩, k2⟩ := lw_i (d := d) R (sim_bestChanges : zSim 94 185 [.int (h 100 (j + 1)), .int (h 100 (j + 2)), .int (h 100 (j + 3)), .int (h 100 (j + 4))]) rfl
  refine ⟨h2, ?_, R2, k2⟩
  have tL : (nI L).toNatClampNeg = L := nI_tn (by omega)
  have a1 : nI j + 1 = nI (j + 1) := nI_1 j
  have g1 : ∀ K : Option zE0, zG (nI (j + 1)) L K = K := fun K => zG_nI (by omega) (by omega)
  have t1 : (nI (j + 1)).toNatClampNeg = j + 1 := nI_tn (by omega)
  have a2 : nI j + 2 = nI (j + 2) := nI_add j 2
  have g2 : ∀ K : Option zE0, zG (nI (j + 2)) L K = K := fun K => zG_nI (by omega) (by omega)
  have t2 : (nI (j + 2)).toNatClampNeg = j + 2 := nI_tn (by omega)
  have a3 : nI j + 3 = nI (j + 3) := nI_add j 3
  have g3 : ∀ K : Option zE0, zG (nI (j + 3)) L K = K := fun K => zG_nI (by omega) (by omega)
  have t3 : (nI (j + 3)).toNatClampNeg = j + 3 := nI_tn (by omega)
  have a4 : nI j + 4 = nI (j + 4) := nI_add j 4
  have g4 : ∀ K : Option zE0, zG (nI (j + 4)) L K = K := fun K => zG_nI (by omega) (by omega)
  have t4 : (nI (j + 4)).toNatClampNeg = j + 4 := nI_tn (by omega)
  rw [E228_at769, a1, a2, a3, a4, hL, tL, g1, g2, g3, g4, t1, t2, t3, t4, e1, zCi_some, k1, k0, hL, tL, g1, g2, g3, g4, e2, zCi_some, if_pos rfl]
theorem lw_822 : lwC 822 := by
  intro d h L j R hL hj hb
  obtain ⟨x, h1, h2, e1, e2, R2, ⟨k0, k1⟩, k2⟩ := lw_i (d := d) R (sim_fewest : zSim 97 188 [.int (h 100 (j + 1))]) rfl
  refine ⟨h2, ?_, R2, k2⟩
  have tL : (nI L).toNatClampNeg = L := nI_tn (by omega)
  have a1 : nI j + 1 = nI (j + 1) := nI_1 j
  have g1 : ∀ K : Option zE0, zG (nI (j + 1)) L K = K := fun K => zG_nI (by omega) (by omega)
  have t1 : (nI (j + 1)).toNatClampNeg = j + 1 := nI_tn (by omega)
  rw [E228_at822, a1, hL, tL, g1, t1, e1, zCi_some, k1, k0, hL, tL, g1, e2, zCi_some, if_pos rfl]
theorem lw_845 : lwC 845 := by
  intro d h L j R hL hj hb
  obtain ⟨x, h1, h2, e1, e2, R2, ⟨k0, k1⟩, k2⟩ := lw_i (d := d) R (sim_heaviest : zSim 101 193 []) rfl
  refine ⟨h2, ?_, R2, k2⟩
  rw [E228_at845, e1, zCi_some, e2, zCi_some, if_pos rfl]
theorem lw_858 : lwC 858 := by
  intro d h L j R hL hj hb
  obtain ⟨x, h1, h2, e1, e2, R2, ⟨k0, k1⟩, k2⟩ := lw_i (d := d) R (sim_skillWanted : zSim 102 195 [.int (h 100 (j + 1))]) rfl
  refine ⟨h2, ?_, R2, k2⟩
  have tL : (nI L).toNatClampNeg = L := nI_tn (by omega)
  have a1 : nI j + 1 = nI (j + 1) := nI_1 j
  have g1 : ∀ K : Option zE0, zG (nI (j + 1)) L K = K := fun K => zG_nI (by omega) (by omega)
  have t1 : (nI (j + 1)).toNatClampNeg = j + 1 := nI_tn (by omega)
  rw [E228_at858, a1, hL, tL, g1, t1, e1, zCi_some, k1, k0, hL, tL, g1, e2, zCi_some, if_pos rfl]
theorem lw_881 : lwC 881 := by
  intro d h L j R hL hj hb
  obtain ⟨x, h1, h2, e1, e2, R2, ⟨k0, k1⟩, k2⟩ := lw_i (d := d) R (sim_straights : zSim 83 196 [.int (h 100 (j + 1))]) rfl
  refine ⟨h2, ?_, R2, k2⟩
  have tL : (nI L).toNatClampNeg = L := nI_tn (by omega)
  have a1 : nI j + 1 = nI (j + 1) := nI_1 j
  have g1 : ∀ K : Option zE0, zG (nI (j + 1)) L K = K := fun K => zG_nI (by omega) (by omega)
  have t1 : (nI (j + 1)).toNatClampNeg = j + 1 := nI_tn (by omega)
  rw [E228_at881, a1, hL, tL, g1, t1, e1, zCi_some, k1, k0, hL, tL, g1, e2, zCi_some, if_pos rfl]
theorem lw_904 : lwC 904 := by
  intro d h L j R hL hj hb
  obtain ⟨x, h1, h2, e1, e2, R2, ⟨k0, k1⟩, k2⟩ := lw_i (d := d) R (sim_whoRode : zSim 118 198 [.int (h 100 (j + 1))]) rfl
  refine ⟨h2, ?_, R2, k2⟩
  have tL : (nI L).toNatClampNeg = L := nI_tn (by omega)
  have a1 : nI j + 1 = nI (j + 1) := nI_1 j
  have g1 : ∀ K : Option zE0, zG (nI (j + 1)) L K = K := fun K => zG_nI (by omega) (by omega)
  have t1 : (nI (j + 1)).toNatClampNeg = j + 1 := nI_tn (by omega)
  rw [E228_at904, a1, hL, tL, g1, t1, e1, zCi_some, k1, k0, hL, tL, g1, e2, zCi_some, if_pos rfl]
theorem lw_927 : lwC 927 := by
  intro d h L j R hL hj hb
  obtain ⟨x, h1, h2, e1, e2, R2, ⟨k0, k1⟩, k2⟩ := lw_i (d := d) R (sim_whatKind : zSim 121 201 [.int (h 100 (j + 1)), .int (h 100 (j + 2))]) rfl
  refine ⟨h2, ?_, R2, k2⟩
  have tL : (nI L).toNatClampNeg = L := nI_tn (by omega)
  have a1 : nI j + 1 = nI (j + 1) := nI_1 j
  have g1 : ∀ K : Option zE0, zG (nI (j + 1)) L K = K := fun K => zG_nI (by omega) (by omega)
  have t1 : (nI (j + 1)).toNatClampNeg = j + 1 := nI_tn (by omega)
  have a2 : nI j + 2 = nI (j + 2) := nI_add j 2
  have g2 : ∀ K : Option zE0, zG (nI (j + 2)) L K = K := fun K => zG_nI (by omega) (by omega)
  have t2 : (nI (j + 2)).toNatClampNeg = j + 2 := nI_tn (by omega)
  rw [E228_at927, a1, a2, hL, tL, g1, g2, t1, t2, e1, zCi_some, k1, k0, hL, tL, g1, g2, e2, zCi_some, if_pos rfl]
theorem lw_960 : lwC 960 := by
  intro d h L j R hL hj hb
  obtain ⟨x, h1, h2, e1, e2, R2, ⟨k0, k1⟩, k2⟩ := lw_i (d := d) R (sim_startTold : zSim 122 202 [.int (h 100 (j + 1))]) rfl
  refine ⟨h2, ?_, R2, k2⟩
  have tL : (nI L).toNatClampNeg = L := nI_tn (by omega)
  have a1 : nI j + 1 = nI (j + 1) := nI_1 j
  have g1 : ∀ K : Option zE0, zG (nI (j + 1)) L K = K := fun K => zG_nI (by omega) (by omega)
  have t1 : (nI (j + 1)).toNatClampNeg = j + 1 := nI_tn (by omega)
  rw [E228_at960, a1, hL, tL, g1, t1, e1, zCi_some, k1, k0, hL, tL, g1, e2, zCi_some, if_pos rfl]
theorem lw_983 : lwC 983 := by
  intro d h L j R hL hj hb
  obtain ⟨x, h1, h2, e1, e2, R2, ⟨k0, k1⟩, k2⟩ := lw_i (d := d) R (sim_two : zSim 103 203 [.int (h 100 (j + 1)), .int (h 100 (j + 2))]) rfl
  refine ⟨h2, ?_, R2, k2⟩
  have tL : (nI L).toNatClampNeg = L := nI_tn (by omega)
  have a1 : nI j + 1 = nI (j + 1) := nI_1 j
  have g1 : ∀ K : Option zE0, zG (nI (j + 1)) L K = K := fun K => zG_nI (by omega) (by omega)
  have t1 : (nI (j + 1)).toNatClampNeg = j + 1 := nI_tn (by omega)
  have a2 : nI j + 2 = nI (j + 2) := nI_add j 2
  have g2 : ∀ K : Option zE0, zG (nI (j + 2)) L K = K := fun K => zG_nI (by omega) (by omega)
  have t2 : (nI (j + 2)).toNatClampNeg = j + 2 := nI_tn (by omega)
  rw [E228_at983, a1, a2, hL, tL, g1, g2, t1, t2, e1, zCi_some, k1, k0, hL, tL, g1, g2, e2, zCi_some, if_pos rfl]
theorem lw_1016 : lwC 1016 := by
  intro d h L j R hL hj hb
  obtain ⟨x, h1, h2, e1, e2, R2, ⟨k0, k1⟩, k2⟩ := lw_l (d := d) R (sim_wind : zSim 105 205 [.int (h 100 (j + 1)), .int (h 100 (j + 2)), .int (h 100 (j + 3))]) rfl
  refine ⟨h2, ?_, R2, k2⟩
  have tL : (nI L).toNatClampNeg = L := nI_tn (by omega)
  have a1 : nI j + 1 = nI (j + 1) := nI_1 j
  have g1 : ∀ K : Option zE0, zG (nI (j + 1)) L K = K := fun K => zG_nI (by omega) (by omega)
  have t1 : (nI (j + 1)).toNatClampNeg = j + 1 := nI_tn (by omega)
  have a2 : nI j + 2 = nI (j + 2) := nI_add j 2
  have g2 : ∀ K : Option zE0, zG (nI (j + 2)) L K = K := fun K => zG_nI (by omega) (by omega)
  have t2 : (nI (j + 2)).toNatClampNeg = j + 2 := nI_tn (by omega)
  have a3 : nI j + 3 = nI (j + 3) := nI_add j 3
  have g3 : ∀ K : Option zE0, zG (nI (j + 3)) L K = K := fun K => zG_nI (by omega) (by omega)
  have t3 : (nI (j + 3)).toNatClampNeg = j + 3 := nI_tn (by omega)
  rw [E228_at1016, a1, a2, a3, hL, tL, g1, g2, g3, t1, t2, t3, e1, zCl_some, k1, k0, hL, tL, g1, g2, g3, e2, zCl_some, if_pos (lg_cmp_self x)]
theorem lw_1060 : lwC 1060 := by
  intro d h L j R hL hj hb
  obtain ⟨x, h1, h2, e1, e2, R2, ⟨k0, k1⟩, k2⟩ := lw_i (d := d) R (sim_shares : zSim 74 209 [.int (h 100 (j + 1))]) rfl
  refine ⟨h2, ?_, R2, k2⟩
  have tL : (nI L).toNatClampNeg = L := nI_tn (by omega)
  have a1 : nI j + 1 = nI (j + 1) := nI_1 j
  have g1 : ∀ K : Option zE0, zG (nI (j + 1)) L K = K := fun K => zG_nI (by omega) (by omega)
  have t1 : (nI (j + 1)).toNatClampNeg = j + 1 := nI_tn (by omega)
  rw [E228_at1060, a1, hL, tL, g1, t1, e1, zCi_some, k1, k0, hL, tL, g1, e2, zCi_some, if_pos rfl]
theorem lw_1083 : lwC 1083 := by
  intro d h L j R hL hj hb
  obtain ⟨x, h1, h2, e1, e2, R2, ⟨k0, k1⟩, k2⟩ := lw_i (d := d) R (sim_lightest : zSim 87 211 [.int (h 100 (j + 1))]) rfl
  refine ⟨h2, ?_, R2, k2⟩
  have tL : (nI L).toNatClampNeg = L := nI_tn (by omega)
  have a1 : nI j + 1 = nI (j + 1) := nI_1 j
  have g1 : ∀ K : Option zE0, zG (nI (j + 1)) L K = K := fun K => zG_nI (by omega) (by omega)
  have t1 : (nI (j + 1)).toNatClampNeg = j + 1 := nI_tn (by omega)
  rw [E228_at1083, a1, hL, tL, g1, t1, e1, zCi_some, k1, k0, hL, tL, g1, e2, zCi_some, if_pos rfl]
theorem lw_1106 : lwC 1106 := by
  intro d h L j R hL hj hb
  obtain ⟨x, h1, h2, e1, e2, R2, ⟨k0, k1⟩, k2⟩ := lw_i (d := d) R (sim_bends : zSim 90 212 []) rfl
  refine ⟨h2, ?_, R2, k2⟩
  rw [E228_at1106, e1, zCi_some, e2, zCi_some, if_pos rfl]
theorem lw_1119 : lwC 1119 := by
  intro d h L j R hL hj hb
  obtain ⟨x, h1, h2, e1, e2, R2, ⟨k0, k1⟩, k2⟩ := lw_i (d := d) R (sim_swap : zSim 107 213 []) rfl
  refine ⟨h2, ?_, R2, k2⟩
  rw [E228_at1119, e1, zCi_some, e2, zCi_some, if_pos rfl]
theorem lw_1132 : lwC 1132 := by
  intro d h L j R hL hj hb
  obtain ⟨x, h1, h2, e1, e2, R2, ⟨k0, k1⟩, k2⟩ := lw_i (d := d) R (sim_cut : zSim 109 215 []) rfl
  refine ⟨h2, ?_, R2, k2⟩
  rw [E228_at1132, e1, zCi_some, e2, zCi_some, if_pos rfl]
theorem lw_1145 : lwC 1145 := by
  intro d h L j R hL hj hb
  obtain ⟨x, h1, h2, e1, e2, R2, ⟨k0, k1⟩, k2⟩ := lw_l (d := d) R (sim_mean : zSim 77 217 [.int (h 100 (j + 1))]) rfl
  refine ⟨h2, ?_, R2, k2⟩
  have tL : (nI L).toNatClampNeg = L := nI_tn (by omega)
  have a1 : nI j + 1 = nI (j + 1) := nI_1 j
  have g1 : ∀ K : Option zE0, zG (nI (j + 1)) L K = K := fun K => zG_nI (by omega) (by omega)
  have t1 : (nI (j + 1)).toNatClampNeg = j + 1 := nI_tn (by omega)
  rw [E228_at1145, a1, hL, tL, g1, t1, e1, zCl_some, k1, k0, hL, tL, g1, e2, zCl_some, if_pos (lg_cmp_self x)]
theorem lw_1169 : lwC 1169 := by
  intro d h L j R hL hj hb
  obtain ⟨x, h1, h2, e1, e2, R2, ⟨k0, k1⟩, k2⟩ := lw_i (d := d) R (sim_brake : zSim 111 218 []) rfl
  refine ⟨h2, ?_, R2, k2⟩
  rw [E228_at1169, e1, zCi_some, e2, zCi_some, if_pos rfl]
theorem lw_1182 : lwC 1182 := by
  intro d h L j R hL hj hb
  obtain ⟨x, h1, h2, e1, e2, R2, ⟨k0, k1⟩, k2⟩ := lw_i (d := d) R (sim_gain : zSim 79 219 [.int (h 100 (j + 1))]) rfl
  refine ⟨h2, ?_, R2, k2⟩
  have tL : (nI L).toNatClampNeg = L := nI_tn (by omega)
  have a1 : nI j + 1 = nI (j + 1) := nI_1 j
  have g1 : ∀ K : Option zE0, zG (nI (j + 1)) L K = K := fun K => zG_nI (by omega) (by omega)
  have t1 : (nI (j + 1)).toNatClampNeg = j + 1 := nI_tn (by omega)
  rw [E228_at1182, a1, hL, tL, g1, t1, e1, zCi_some, k1, k0, hL, tL, g1, e2, zCi_some, if_pos rfl]
theorem lw_1205 : lwC 1205 := by
  intro d h L j R hL hj hb
  obtain ⟨x, h1, h2, e1, e2, R2, ⟨k0, k1⟩, k2⟩ := lw_i (d := d) R (sim_waiting : zSim 80 221 [.int (h 100 (j + 1))]) rfl
  refine ⟨h2, ?_, R2, k2⟩
  have tL : (nI L).toNatClampNeg = L := nI_tn (by omega)
  have a1 : nI j + 1 = nI (j + 1) := nI_1 j
  have g1 : ∀ K : Option zE0, zG (nI (j + 1)) L K = K := fun K => zG_nI (by omega) (by omega)
  have t1 : (nI (j + 1)).toNatClampNeg = j + 1 := nI_tn (by omega)
  rw [E228_at1205, a1, hL, tL, g1, t1, e1, zCi_some, k1, k0, hL, tL, g1, e2, zCi_some, if_pos rfl]
theorem lw_1228 : lwC 1228 := by
  intro d h L j R hL hj hb
  obtain ⟨x, h1, h2, e1, e2, R2, ⟨k0, k1⟩, k2⟩ := lw_i (d := d) R (sim_row : zSim 114 222 [.int (h 100 (j + 1))]) rfl
  refine ⟨h2, ?_, R2, k2⟩
  have tL : (nI L).toNatClampNeg = L := nI_tn (by omega)
  have a1 : nI j + 1 = nI (j + 1) := nI_1 j
  have g1 : ∀ K : Option zE0, zG (nI (j + 1)) L K = K := fun K => zG_nI (by omega) (by omega)
  have t1 : (nI (j + 1)).toNatClampNeg = j + 1 := nI_tn (by omega)
  rw [E228_at1228, a1, hL, tL, g1, t1, e1, zCi_some, k1, k0, hL, tL, g1, e2, zCi_some, if_pos rfl]
theorem lw_1251 : lwC 1251 := by
  intro d h L j R hL hj hb
  obtain ⟨x, h1, h2, e1, e2, R2, ⟨k0, k1⟩, k2⟩ := lw_i (d := d) R (sim_judge : zSim 116 223 []) rfl
  refine ⟨h2, ?_, R2, k2⟩
  rw [E228_at1251, e1, zCi_some, e2, zCi_some, if_pos rfl]
theorem lw_1264 : lwC 1264 := by
  intro d h L j R hL hj hb
  obtain ⟨x, h1, h2, e1, e2, R2, ⟨k0, k1⟩, k2⟩ := lw_i (d := d) R (sim_clear : zSim 115 224 []) rfl
  refine ⟨h2, ?_, R2, k2⟩
  rw [E228_at1264, e1, zCi_some, e2, zCi_some, if_pos rfl]
theorem lw_1277 : lwC 1277 := by
  intro d h L j R hL hj hb
  obtain ⟨x, h1, h2, e1, e2, R2, ⟨k0, k1⟩, k2⟩ := lw_i (d := d) R (sim_lots : zSim 112 225 [.int (h 100 (j + 1)), .int (h 100 (j + 2)), .int (h 100 (j + 3))]) rfl
  refine ⟨h2, ?_, R2, k2⟩
  have tL : (nI L).toNatClampNeg = L := nI_tn (by omega)
  have a1 : nI j + 1 = nI (j + 1) := nI_1 j
  have g1 : ∀ K : Option zE0, zG (nI (j + 1)) L K = K := fun K => zG_nI (by omega) (by omega)
  have t1 : (nI (j + 1)).toNatClampNeg = j + 1 := nI_tn (by omega)
  have a2 : nI j + 2 = nI (j + 2) := nI_add j 2
  have g2 : ∀ K : Option zE0, zG (nI (j + 2)) L K = K := fun K => zG_nI (by omega) (by omega)
  have t2 : (nI (j + 2)).toNatClampNeg = j + 2 := nI_tn (by omega)
  have a3 : nI j + 3 = nI (j + 3) := nI_add j 3
  have g3 : ∀ K : Option zE0, zG (nI (j + 3)) L K = K := fun K => zG_nI (by omega) (by omega)
  have t3 : (nI (j + 3)).toNatClampNeg = j + 3 := nI_tn (by omega)
  rw [E228_at1277, a1, a2, a3, hL, tL, g1, g2, g3, t1, t2, t3, e1, zCi_some, k1, k0, hL, tL, g1, g2, g3, e2, zCi_some, if_pos rfl]
theorem lw_1320 : lwC 1320 := by
  intro d h L j R hL hj hb
  obtain ⟨x, h1, h2, e1, e2, R2, ⟨k0, k1⟩, k2⟩ := lw_i (d := d) R (sim_image : zSim 56 157 []) rfl
  refine ⟨h2, ?_, R2, k2⟩
  rw [E228_at1320, e1, zCi_some, e2, zCi_some, if_pos rfl]
theorem lw_1333 : lwC 1333 := by
  intro d h L j R hL hj hb
  obtain ⟨x, h1, h2, e1, e2, R2, ⟨k0, k1⟩, k2⟩ := lw_i (d := d) R (sim_restore : zSim 57 158 []) rfl
  refine ⟨h2, ?_, R2, k2⟩
  rw [E228_at1333, e1, zCi_some, e2, zCi_some, if_pos rfl]
theorem lw_1346 : lwC 1346 := by
  intro d h L j R hL hj hb
  obtain ⟨x, h1, h2, e1, e2, R2, ⟨k0, k1⟩, k2⟩ := lw_i (d := d) R (sim_count : zSim 44 227 [.int (h 100 (j + 1))]) rfl
  refine ⟨h2, ?_, R2, k2⟩
  have tL : (nI L).toNatClampNeg = L := nI_tn (by omega)
  have a1 : nI j + 1 = nI (j + 1) := nI_1 j
  have g1 : ∀ K : Option zE0, zG (nI (j + 1)) L K = K := fun K => zG_nI (by omega) (by omega)
  have t1 : (nI (j + 1)).toNatClampNeg = j + 1 := nI_tn (by omega)
  rw [E228_at1346, a1, hL, tL, g1, t1, e1, zCi_some, k1, k0, hL, tL, g1, e2, zCi_some, if_pos rfl]
theorem lw_sub : ∀ L : Nat, L < 5 → nI L - 5 < (0 : Int32) := by decide
theorem lw_loop : ∀ (m : Nat) (d : Nat) (h : zH) (L j : Nat), L < j + m → Rel h → h 101 0 = nI L → L ≤ 1000000 → j ≤ 1000010 → ∃ h', zE (d + 10) 228 (18, [some (.ref 100), some (.ref 0), some (.ref 32), some (.int (nI j))], [], h) = some (some (.int 1), h') := by
  intro m
  induction m with
  | zero =>
    intro d h L j hm R hL hb hj
    have gt : nI j > nI L - 5 := by
      by_cases q : L < 5
      · exact Int32.lt_of_lt_of_le (lw_sub L q) (nI_pos' (by omega))
      · rw [show nI L - 5 = nI (L - 5) from nI_sb (a := L) (b := 5) (by omega)]
        exact nI_lt (by omega) (by omega)
    exact ⟨h, by rw [E228_at18, hL, if_pos gt]⟩
  | succ m ih =>
    intro d h L j hm R hL hb hj
    by_cases hlt : L < j + 5
    · have gt : nI j > nI L - 5 := by
        by_cases q : L < 5
        · exact Int32.lt_of_lt_of_le (lw_sub L q) (nI_pos' (by omega))
        · rw [show nI L - 5 = nI (L - 5) from nI_sb (a := L) (b := 5) (by omega)]
          exact nI_lt (by omega) (by omega)
      exact ⟨h, by rw [E228_at18, hL, if_pos gt]⟩
    · have ngt : ¬ nI j > nI L - 5 := by
        rw [show nI L - 5 = nI (L - 5) from nI_sb (a := L) (b := 5) (by omega)]
        exact nI_nlt (by omega) (by omega)
      have go : ∀ h' : zH, Rel h' → h' 101 = h 101 → ∃ h'', zE (d + 10) 228 (1369, [some (.ref 100), some (.ref 0), some (.ref 32), some (.int (nI j))], [], h') = some (some (.int 1), h'') := fun h' R' k => by
        obtain ⟨h'', e⟩ := ih d h' L (j + 5) (by omega) R' (by rw [k]; exact hL) hb (by omega)
        exact ⟨h'', by rw [E228_at1369, show nI j + 5 = nI (j + 5) from nI_add j 5]; exact e⟩
      have cs : ∀ pc, lwC pc → ∃ h'', zE (d + 10) 228 (pc, [some (.ref 100), some (.ref 0), some (.ref 32), some (.int (nI j))], [], h) = some (some (.int 1), h'') := fun pc hpc => by
        obtain ⟨h', e, R', _, k⟩ := hpc d h L j R hL (by omega) hb
        obtain ⟨h'', e2⟩ := go h' R' k
        exact ⟨h'', e.trans e2⟩
      rw [E228_at18, hL, if_neg ngt, nI_tn (by omega), zG_nI (by omega) (by omega), nI_tn (by omega)]
      generalize (h 100 j &&& 63) = op
      by_cases c0 : op = 0
      · rw [if_pos c0]; exact cs 236 lw_236
      rw [if_neg c0]
      by_cases c1 : op = 1
      · rw [if_pos c1]; exact cs 259 lw_259
      rw [if_neg c1]
      by_cases c2 : op = 2
      · rw [if_pos c2]; exact cs 272 lw_272
      rw [if_neg c2]
      by_cases c3 : op = 3
      · rw [if_pos c3]; exact cs 305 lw_305
      rw [if_neg c3]
      by_cases c4 : op = 4
      · rw [if_pos c4]; exact cs 338 lw_338
      rw [if_neg c4]
      by_cases c5 : op = 5
      · rw [if_pos c5]; exact cs 361 lw_361
      rw [if_neg c5]
      by_cases c6 : op = 6
      · rw [if_pos c6]; exact cs 404 lw_404
      rw [if_neg c6]
      by_cases c7 : op = 7
      · rw [if_pos c7]; exact cs 437 lw_437
      rw [if_neg c7]
      by_cases c8 : op = 8
      · rw [if_pos c8]; exact cs 470 lw_470
      rw [if_neg c8]
      by_cases c9 : op = 9
      · rw [if_pos c9]; exact cs 503 lw_503
      rw [if_neg c9]
      by_cases c10 : op = 10
      · rw [if_pos c10]; exact cs 536 lw_536
      rw [if_neg c10]
      by_cases c11 : op = 11
      · rw [if_pos c11]; exact cs 559 lw_559
      rw [if_neg c11]
      by_cases c12 : op = 12
      · rw [if_pos c12]; exact cs 572 lw_572
      rw [if_neg c12]
      by_cases c13 : op = 13
      · rw [if_pos c13]; exact cs 595 lw_595
      rw [if_neg c13]
      by_cases c14 : op = 14
      · rw [if_pos c14]; exact cs 608 lw_608
      rw [if_neg c14]
      by_cases c15 : op = 15
      · rw [if_pos c15]; exact cs 641 lw_641
      rw [if_neg c15]
      by_cases c16 : op = 16
      · rw [if_pos c16]; exact cs 664 lw_664
      rw [if_neg c16]
      by_cases c17 : op = 17
      · rw [if_pos c17]; exact cs 687 lw_687
      rw [if_neg c17]
      by_cases c18 : op = 18
      · rw [if_pos c18]; exact cs 710 lw_710
      rw [if_neg c18]
      by_cases c19 : op = 19
      · rw [if_pos c19]; exact cs 723 lw_723
      rw [if_neg c19]
      by_cases c20 : op = 20
      · rw [if_pos c20]; exact cs 746 lw_746
      rw [if_neg c20]
      by_cases c21 : op = 21
      · rw [if_pos c21]; exact cs 769 lw_769
      rw [if_neg c21]
      by_cases c22 : op = 22
      · rw [if_pos c22]; exact cs 822 lw_822
      rw [if_neg c22]
      by_cases c23 : op = 23
      · rw [if_pos c23]; exact cs 845 lw_845
      rw [if_neg c23]
      by_cases c24 : op = 24
      · rw [if_pos c24]; exact cs 858 lw_858
      rw [if_neg c24]
      by_cases c25 : op = 25
      · rw [if_pos c25]; exact cs 881 lw_881
      rw [if_neg c25]
      by_cases c26 : op = 26
      · rw [if_pos c26]; exact cs 904 lw_904
      rw [if_neg c26]
      by_cases c27 : op = 27
      · rw [if_pos c27]; exact cs 927 lw_927
      rw [if_neg c27]
      by_cases c28 : op = 28
      · rw [if_pos c28]; exact cs 960 lw_960
      rw [if_neg c28]
      by_cases c29 : op = 29
      · rw [if_pos c29]; exact cs 983 lw_983
      rw [if_neg c29]
      by_cases c30 : op = 30
      · rw [if_pos c30]; exact cs 1016 lw_1016
      rw [if_neg c30]
      by_cases c31 : op = 31
      · rw [if_pos c31]; exact cs 1060 lw_1060
      rw [if_neg c31]
      by_cases c32 : op = 32
      · rw [if_pos c32]; exact cs 1083 lw_1083
      rw [if_neg c32]
      by_cases c33 : op = 33
      · rw [if_pos c33]; exact cs 1106 lw_1106
      rw [if_neg c33]
      by_cases c34 : op = 34
      · rw [if_pos c34]; exact cs 1119 lw_1119
      rw [if_neg c34]
      by_cases c35 : op = 35
      · rw [if_pos c35]; exact cs 1132 lw_1132
      rw [if_neg c35]
      by_cases c36 : op = 36
      · rw [if_pos c36]; exact cs 1145 lw_1145
      rw [if_neg c36]
      by_cases c37 : op = 37
      · rw [if_pos c37]; exact cs 1169 lw_1169
      rw [if_neg c37]
      by_cases c38 : op = 38
      · rw [if_pos c38]; exact cs 1182 lw_1182
      rw [if_neg c38]
      by_cases c39 : op = 39
      · rw [if_pos c39]; exact cs 1205 lw_1205
      rw [if_neg c39]
      by_cases c40 : op = 40
      · rw [if_pos c40]; exact cs 1228 lw_1228
      rw [if_neg c40]
      by_cases c41 : op = 41
      · rw [if_pos c41]; exact cs 1251 lw_1251
      rw [if_neg c41]
      by_cases c42 : op = 42
      · rw [if_pos c42]; exact cs 1264 lw_1264
      rw [if_neg c42]
      by_cases c43 : op = 43
      · rw [if_pos c43]; exact cs 1277 lw_1277
      rw [if_neg c43]
      by_cases c44 : op = 44
      · rw [if_pos c44]; exact cs 1320 lw_1320
      rw [if_neg c44]
      by_cases c45 : op = 45
      · rw [if_pos c45]; exact cs 1333 lw_1333
      rw [if_neg c45]
      by_cases c46 : op = 46
      · rw [if_pos c46]; exact cs 1346 lw_1346
      rw [if_neg c46]
      exact go h R rfl
end LAW

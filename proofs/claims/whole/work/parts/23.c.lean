/-! THE REFERENCE'S KEEPING -/
theorem z_up_id (h : zH) (c i : Nat) : z_up h c i (h c i) = h := by
  funext a j
  rw [zu_ap]
  by_cases e : a = c ∧ j = i
  · rw [if_pos e, e.1, e.2]
  · rw [if_neg e]
theorem nI_mul (a b : Nat) : nI a * nI b = nI (a * b) := by
  apply Int32.toBitVec_inj.mp
  rw [Int32.toBitVec_mul]
  exact (BitVec.ofNat_mul a b).symm
/-- what is kept, at its place -/
def snap (h : zH) (i : Nat) : Int32 := if i < 10 then h 34 i else if i < 20 then h 35 (i - 10) else if i < 30 then h 36 (i - 20) else if i < 35 then h 37 (i - 30) else if i < 40 then h 38 (i - 35) else h 32 (i - 34)
def kpB (h : zH) (w e : Nat) : zH := fun c j => if c = 43 ∧ 48 * w ≤ j ∧ j < 48 * w + e then snap h (j - 48 * w) else if c = 32 ∧ j = 24 then nI (48 * w + e) else if c = 32 ∧ j = 23 then 1 else h c j
def rp (c j : Nat) : Nat := if c = 34 ∧ j < 10 then j else if c = 35 ∧ j < 10 then 10 + j else if c = 36 ∧ j < 10 then 20 + j else if c = 37 ∧ j < 5 then 30 + j else if c = 38 ∧ j < 5 then 35 + j else if c = 32 ∧ 6 ≤ j ∧ j < 14 then 34 + j else 48
def rdB (h : zH) (w e : Nat) : zH := fun c j => if c = 32 ∧ j = 24 then nI (48 * w + e) else if c = 32 ∧ j = 23 then 0 else if rp c j < e then h 43 (48 * w + rp c j) else h c j
theorem rp_inj {c j c0 j0 : Nat} (h : rp c j = rp c0 j0) (hl : rp c0 j0 < 48) : c = c0 ∧ j = j0 := by
  unfold rp at h hl
  split at hl <;> rename_i q0 <;> (try (split at hl <;> rename_i q1)) <;> (try (split at hl <;> rename_i q2)) <;> (try (split at hl <;> rename_i q3)) <;> (try (split at hl <;> rename_i q4)) <;> (try (split at hl <;> rename_i q5)) <;> (repeat' split at h) <;> omega
section KP
variable {d : Nat} {h : zH} {w : Nat}
theorem kpB_s {e : Nat} {x : Int32} (hx : x = snap h e) : z_up (z_up (kpB h w e) 43 (48 * w + e) x) 32 24 (nI (48 * w + e) + 1) = kpB h w (e + 1) := by
  subst hx
  funext c j
  simp only [zu_ap, kpB]
  by_cases c43 : c = 43
  · subst c43
    by_cases j0 : j = 48 * w + e
    · subst j0
      rw [if_neg (by omega), if_pos ⟨rfl, rfl⟩, if_pos ⟨rfl, by omega, by omega⟩, show 48 * w + e - 48 * w = e by omega]
    · rw [if_neg (by omega), if_neg (by omega)]
      by_cases j1 : 48 * w ≤ j ∧ j < 48 * w + e
      · rw [if_pos ⟨rfl, j1.1, j1.2⟩, if_pos ⟨rfl, by omega, by omega⟩]
      · rw [if_neg (by omega), if_neg (by omega), if_neg (by omega), if_neg (by omega), if_neg (by omega)]
  · by_cases c32 : c = 32 ∧ j = 24
    · rw [if_pos c32, if_neg (by omega), if_pos c32, nI_1]; rfl
    · simp only [c43, c32, false_and, ↓reduceIte]
theorem kpB_24 {e : Nat} : kpB h w e 32 24 = nI (48 * w + e) := by unfold kpB; rw [if_neg (by omega), if_pos ⟨rfl, rfl⟩]
theorem kpB_23 {e : Nat} : kpB h w e 32 23 = 1 := by unfold kpB; rw [if_neg (by omega), if_neg (by omega), if_pos ⟨rfl, rfl⟩]
theorem kpB_o {e c j : Nat} (h1 : c ≠ 43) (h2 : c ≠ 32 ∨ (j ≠ 23 ∧ j ≠ 24)) : kpB h w e c j = h c j := by unfold kpB; rw [if_neg (by omega), if_neg (by omega), if_neg (by omega)]
theorem rdB_24 {e : Nat} : rdB h w e 32 24 = nI (48 * w + e) := by unfold rdB; rw [if_pos ⟨rfl, rfl⟩]
theorem rdB_23 {e : Nat} : rdB h w e 32 23 = 0 := by unfold rdB; rw [if_neg (by omega), if_pos ⟨rfl, rfl⟩]
theorem rdB_43 {e j : Nat} (he : e ≤ 48) : rdB h w e 43 j = h 43 j := by
  have : rp 43 j = 48 := by simp [rp]
  unfold rdB
  rw [if_neg (by omega), if_neg (by omega), this, if_neg (by omega)]
theorem rdB_st {h' : zH} {c0 j0 e : Nat} (hp : rp c0 j0 = e) (he : e < 48) (E : ∀ c j, h' c j = if c = 32 ∧ j = 24 then nI (48 * w + e) + 1 else if c = c0 ∧ j = j0 then h 43 (48 * w + e) else rdB h w e c j) : h' = rdB h w (e + 1) := by
  funext c j
  rw [E]
  unfold rdB
  by_cases a : c = 32 ∧ j = 24
  · rw [if_pos a, if_pos a, nI_1]; rfl
  · rw [if_neg a, if_neg a, if_neg a]
    by_cases b : c = 32 ∧ j = 23
    · have : ¬ (c = c0 ∧ j = j0) := by
        rintro ⟨rfl, rfl⟩
        rw [b.1, b.2] at hp
        have : rp 32 23 = 48 := by decide
        omega
      rw [if_neg this, if_pos b, if_pos b]
    · rw [if_neg b, if_neg b]
      by_cases f : c = c0 ∧ j = j0
      · rw [if_pos f, f.1, f.2, hp, if_pos (by omega)]
      · rw [if_neg f]
        have ne : rp c j ≠ e := fun q => f (rp_inj (by omega) (by omega))
        by_cases l : rp c j < e
        · rw [if_pos l, if_pos (by omega)]
        · rw [if_neg l, if_neg (by omega)]
theorem kpB_0 (hq : (48 : Int32) * nI w = nI (48 * w)) : z_up (z_up h 32 24 ((48 : Int32) * nI w)) 32 23 1 = kpB h w 0 := by
  funext c j
  simp only [zu_ap, kpB]
  by_cases a : c = 32 ∧ j = 23
  · rw [if_pos a, if_neg (by omega), if_neg (by omega), if_pos a]
  · rw [if_neg a]
    by_cases b : c = 32 ∧ j = 24
    · rw [if_pos b, if_neg (by omega), if_pos b, hq]; rfl
    · rw [if_neg b, if_neg (by omega), if_neg b, if_neg a]
theorem rdB_0 (hq : (48 : Int32) * nI w = nI (48 * w)) : z_up (z_up h 32 24 ((48 : Int32) * nI w)) 32 23 0 = rdB h w 0 := by
  funext c j
  simp only [zu_ap, rdB]
  by_cases a : c = 32 ∧ j = 23
  · rw [if_pos a, if_neg (by omega), if_pos a]
  · rw [if_neg a]
    by_cases b : c = 32 ∧ j = 24
    · rw [if_pos b, if_pos b, hq]; rfl
    · rw [if_neg b, if_neg b, if_neg a, if_neg (by omega)]
theorem l_kp_34 (hw : w < 10) : ∀ m i, i + m = 10 → zE d 133 (2, [some (.ref 32), some (.ref 34), some (.int (nI i))], [], kpB h w (0 + i)) = some (none, kpB h w 10) := by
  intro m
  induction m with
  | zero =>
    intro i hi
    have hi : i = 10 := hi
    subst hi
    rw [E133_32_34_at2, if_pos (show nI 10 ≥ (10 : Int32) from nI_le (a := 10) (b := 10) (by omega) (by omega))]
  | succ m ih =>
    intro i hi
    rw [E133_32_34_at2, if_neg (show ¬ nI i ≥ (10 : Int32) from nI_ge (b := 10) (by omega) (by omega)), kpB_23, if_neg (by decide), zG_nI (by omega) (by omega), kpB_24, zG_nI (by omega) (by omega), nI_tn (by omega), nI_tn (by omega), kpB_o (by omega) (by omega), kpB_s, nI_1]
    · exact ih (i + 1) (by omega)
    · unfold snap
      rw [if_pos (by omega), show 0 + i = i by omega]
theorem r_kp_34 (hw : w < 10) : zcal (d + 1) 133 [.ref 32, .ref 34] (kpB h w 0) = some (none, kpB h w 10) := by
  rw [E133_32_34]
  exact l_kp_34 hw 10 0 (by omega)
theorem rdB_s_34 {i : Nat} (hi : i < 10) : z_up (z_up (rdB h w (0 + i)) 34 i (h 43 (48 * w + (0 + i)))) 32 24 (nI (48 * w + (0 + i)) + 1) = rdB h w (0 + i + 1) := by
  refine rdB_st (c0 := 34) (j0 := i) (e := 0 + i) ?_ (by omega) (fun c j => ?_)
  · unfold rp
    rw [if_pos ⟨rfl, by omega⟩]; omega
  · rw [zu_ap, zu_ap]
theorem l_rd_34 (hw : w < 10) : ∀ m i, i + m = 10 → zE d 133 (2, [some (.ref 32), some (.ref 34), some (.int (nI i))], [], rdB h w (0 + i)) = some (none, rdB h w 10) := by
  intro m
  induction m with
  | zero =>
    intro i hi
    have hi : i = 10 := hi
    subst hi
    rw [E133_32_34_at2, if_pos (show nI 10 ≥ (10 : Int32) from nI_le (a := 10) (b := 10) (by omega) (by omega))]
  | succ m ih =>
    intro i hi
    rw [E133_32_34_at2, if_neg (show ¬ nI i ≥ (10 : Int32) from nI_ge (b := 10) (by omega) (by omega)), rdB_23, if_pos rfl, rdB_24, zG_nI (by omega) (by omega), zG_nI (by omega) (by omega), nI_tn (by omega), nI_tn (by omega), rdB_43 (by omega), rdB_s_34 (by omega), nI_1]
    exact ih (i + 1) (by omega)
theorem r_rd_34 (hw : w < 10) : zcal (d + 1) 133 [.ref 32, .ref 34] (rdB h w 0) = some (none, rdB h w 10) := by
  rw [E133_32_34]
  exact l_rd_34 hw 10 0 (by omega)
theorem l_kp_35 (hw : w < 10) : ∀ m i, i + m = 10 → zE d 133 (2, [some (.ref 32), some (.ref 35), some (.int (nI i))], [], kpB h w (10 + i)) = some (none, kpB h w 20) := by
  intro m
  induction m with
  | zero =>
    intro i hi
    have hi : i = 10 := hi
    subst hi
    rw [E133_32_35_at2, if_pos (show nI 10 ≥ (10 : Int32) from nI_le (a := 10) (b := 10) (by omega) (by omega))]
  | succ m ih =>
    intro i hi
    rw [E133_32_35_at2, if_neg (show ¬ nI i ≥ (10 : Int32) from nI_ge (b := 10) (by omega) (by omega)), kpB_23, if_neg (by decide), zG_nI (by omega) (by omega), kpB_24, zG_nI (by omega) (by omega), nI_tn (by omega), nI_tn (by omega), kpB_o (by omega) (by omega), kpB_s, nI_1]
    · exact ih (i + 1) (by omega)
    · unfold snap
      rw [if_neg (by omega), if_pos (by omega), show 10 + i - 10 = i by omega]
theorem r_kp_35 (hw : w < 10) : zcal (d + 1) 133 [.ref 32, .ref 35] (kpB h w 10) = some (none, kpB h w 20) := by
  rw [E133_32_35]
  exact l_kp_35 hw 10 0 (by omega)
theorem rdB_s_35 {i : Nat} (hi : i < 10) : z_up (z_up (rdB h w (10 + i)) 35 i (h 43 (48 * w + (10 + i)))) 32 24 (nI (48 * w + (10 + i)) + 1) = rdB h w (10 + i + 1) := by
  refine rdB_st (c0 := 35) (j0 := i) (e := 10 + i) ?_ (by omega) (fun c j => ?_)
  · unfold rp
    rw [if_neg (by omega), if_pos ⟨rfl, by omega⟩]
  · rw [zu_ap, zu_ap]
theorem l_rd_35 (hw : w < 10) : ∀ m i, i + m = 10 → zE d 133 (2, [some (.ref 32), some (.ref 35), some (.int (nI i))], [], rdB h w (10 + i)) = some (none, rdB h w 20) := by
  intro m
  induction m with
  | zero =>
    intro i hi
    have hi : i = 10 := hi
    subst hi
    rw [E133_32_35_at2, if_pos (show nI 10 ≥ (10 : Int32) from nI_le (a := 10) (b := 10) (by omega) (by omega))]
  | succ m ih =>
    intro i hi
    rw [E133_32_35_at2, if_neg (show ¬ nI i ≥ (10 : Int32) from nI_ge (b := 10) (by omega) (by omega)), rdB_23, if_pos rfl, rdB_24, zG_nI (by omega) (by omega), zG_nI (by omega) (by omega), nI_tn (by omega), nI_tn (by omega), rdB_43 (by omega), rdB_s_35 (by omega), nI_1]
    exact ih (i + 1) (by omega)
theorem r_rd_35 (hw : w < 10) : zcal (d + 1) 133 [.ref 32, .ref 35] (rdB h w 10) = some (none, rdB h w 20) := by
  rw [E133_32_35]
  exact l_rd_35 hw 10 0 (by omega)
theorem l_kp_36 (hw : w < 10) : ∀ m i, i + m = 10 → zE d 133 (2, [some (.ref 32), some (.ref 36), some (.int (nI i))], [], kpB h w (20 + i)) = some (none, kpB h w 30) := by
  intro m
  induction m with
  | zero =>
    intro i hi
    have hi : i = 10 := hi
    subst hi
    rw [E133_32_36_at2, if_pos (show nI 10 ≥ (10 : Int32) from nI_le (a := 10) (b := 10) (by omega) (by omega))]
  | succ m ih =>
    intro i hi
    rw [E133_32_36_at2, if_neg (show ¬ nI i ≥ (10 : Int32) from nI_ge (b := 10) (by omega) (by omega)), kpB_23, if_neg (by decide), zG_nI (by omega) (by omega), kpB_24, zG_nI (by omega) (by omega), nI_tn (by omega), nI_tn (by omega), kpB_o (by omega) (by omega), kpB_s, nI_1]
    · exact ih (i + 1) (by omega)
    · unfold snap
      rw [if_neg (by omega), if_neg (by omega), if_pos (by omega), show 20 + i - 20 = i by omega]
theorem r_kp_36 (hw : w < 10) : zcal (d + 1) 133 [.ref 32, .ref 36] (kpB h w 20) = some (none, kpB h w 30) := by
  rw [E133_32_36]
  exact l_kp_36 hw 10 0 (by omega)
theorem rdB_s_36 {i : Nat} (hi : i < 10) : z_up (z_up (rdB h w (20 + i)) 36 i (h 43 (48 * w + (20 + i)))) 32 24 (nI (48 * w + (20 + i)) + 1) = rdB h w (20 + i + 1) := by
  refine rdB_st (c0 := 36) (j0 := i) (e := 20 + i) ?_ (by omega) (fun c j => ?_)
  · unfold rp
    rw [if_neg (by omega), if_neg (by omega), if_pos ⟨rfl, by omega⟩]
  · rw [zu_ap, zu_ap]
theorem l_rd_36 (hw : w < 10) : ∀ m i, i + m = 10 → zE d 133 (2, [some (.ref 32), some (.ref 36), some (.int (nI i))], [], rdB h w (20 + i)) = some (none, rdB h w 30) := by
  intro m
  induction m with
  | zero =>
    intro i hi
    have hi : i = 10 := hi
    subst hi
    rw [E133_32_36_at2, if_pos (show nI 10 ≥ (10 : Int32) from nI_le (a := 10) (b := 10) (by omega) (by omega))]
  | succ m ih =>
    intro i hi
    rw [E133_32_36_at2, if_neg (show ¬ nI i ≥ (10 : Int32) from nI_ge (b := 10) (by omega) (by omega)), rdB_23, if_pos rfl, rdB_24, zG_nI (by omega) (by omega), zG_nI (by omega) (by omega), nI_tn (by omega), nI_tn (by omega), rdB_43 (by omega), rdB_s_36 (by omega), nI_1]
    exact ih (i + 1) (by omega)
theorem r_rd_36 (hw : w < 10) : zcal (d + 1) 133 [.ref 32, .ref 36] (rdB h w 20) = some (none, rdB h w 30) := by
  rw [E133_32_36]
  exact l_rd_36 hw 10 0 (by omega)
theorem l_kp_37 (hw : w < 10) : ∀ m i, i + m = 5 → zE d 133 (2, [some (.ref 32), some (.ref 37), some (.int (nI i))], [], kpB h w (30 + i)) = some (none, kpB h w 35) := by
  intro m
  induction m with
  | zero =>
    intro i hi
    have hi : i = 5 := hi
    subst hi
    rw [E133_32_37_at2, if_pos (show nI 5 ≥ (5 : Int32) from nI_le (a := 5) (b := 5) (by omega) (by omega))]
  | succ m ih =>
    intro i hi
    rw [E133_32_37_at2, if_neg (show ¬ nI i ≥ (5 : Int32) from nI_ge (b := 5) (by omega) (by omega)), kpB_23, if_neg (by decide), zG_nI (by omega) (by omega), kpB_24, zG_nI (by omega) (by omega), nI_tn (by omega), nI_tn (by omega), kpB_o (by omega) (by omega), kpB_s, nI_1]
    · exact ih (i + 1) (by omega)
    · unfold snap
      rw [if_neg (by omega), if_neg (by omega), if_neg (by omega), if_pos (by omega), show 30 + i - 30 = i by omega]
theorem r_kp_37 (hw : w < 10) : zcal (d + 1) 133 [.ref 32, .ref 37] (kpB h w 30) = some (none, kpB h w 35) := by
  rw [E133_32_37]
  exact l_kp_37 hw 5 0 (by omega)
theorem rdB_s_37 {i : Nat} (hi : i < 5) : z_up (z_up (rdB h w (30 + i)) 37 i (h 43 (48 * w + (30 + i)))) 32 24 (nI (48 * w + (30 + i)) + 1) = rdB h w (30 + i + 1) := by
  refine rdB_st (c0 := 37) (j0 := i) (e := 30 + i) ?_ (by omega) (fun c j => ?_)
  · unfold rp
    rw [if_neg (by omega), if_neg (by omega), if_neg (by omega), if_pos ⟨rfl, by omega⟩]
  · rw [zu_ap, zu_ap]
theorem l_rd_37 (hw : w < 10) : ∀ m i, i + m = 5 → zE d 133 (2, [some (.ref 32), some (.ref 37), some (.int (nI i))], [], rdB h w (30 + i)) = some (none, rdB h w 35) := by
  intro m
  induction m with
  | zero =>
    intro i hi
    have hi : i = 5 := hi
    subst hi
    rw [E133_32_37_at2, if_pos (show nI 5 ≥ (5 : Int32) from nI_le (a := 5) (b := 5) (by omega) (by omega))]
  | succ m ih =>
    intro i hi
    rw [E133_32_37_at2, if_neg (show ¬ nI i ≥ (5 : Int32) from nI_ge (b := 5) (by omega) (by omega)), rdB_23, if_pos rfl, rdB_24, zG_nI (by omega) (by omega), zG_nI (by omega) (by omega), nI_tn (by omega), nI_tn (by omega), rdB_43 (by omega), rdB_s_37 (by omega), nI_1]
    exact ih (i + 1) (by omega)
theorem r_rd_37 (hw : w < 10) : zcal (d + 1) 133 [.ref 32, .ref 37] (rdB h w 30) = some (none, rdB h w 35) := by
  rw [E133_32_37]
  exact l_rd_37 hw 5 0 (by omega)
theorem l_kp_38 (hw : w < 10) : ∀ m i, i + m = 5 → zE d 133 (2, [some (.ref 32), some (.ref 38), some (.int (nI i))], [], kpB h w (35 + i)) = some (none, kpB h w 40) := by
  intro m
  induction m with
  | zero =>
    intro i hi
    have hi : i = 5 := hi
    subst hi
    rw [E133_32_38_at2, if_pos (show nI 5 ≥ (5 : Int32) from nI_le (a := 5) (b := 5) (by omega) (by omega))]
  | succ m ih =>
    intro i hi
    rw [E133_32_38_at2, if_neg (show ¬ nI i ≥ (5 : Int32) from nI_ge (b := 5) (by omega) (by omega)), kpB_23, if_neg (by decide), zG_nI (by omega) (by omega), kpB_24, zG_nI (by omega) (by omega), nI_tn (by omega), nI_tn (by omega), kpB_o (by omega) (by omega), kpB_s, nI_1]
    · exact ih (i + 1) (by omega)
    · unfold snap
      rw [if_neg (by omega), if_neg (by omega), if_neg (by omega), if_neg (by omega), if_pos (by omega), show 35 + i - 35 = i by omega]
theorem r_kp_38 (hw : w < 10) : zcal (d + 1) 133 [.ref 32, .ref 38] (kpB h w 35) = some (none, kpB h w 40) := by
  rw [E133_32_38]
  exact l_kp_38 hw 5 0 (by omega)
theorem rdB_s_38 {i : Nat} (hi : i < 5) : z_up (z_up (rdB h w (35 + i)) 38 i (h 43 (48 * w + (35 + i)))) 32 24 (nI (48 * w + (35 + i)) + 1) = rdB h w (35 + i + 1) := by
  refine rdB_st (c0 := 38) (j0 := i) (e := 35 + i) ?_ (by omega) (fun c j => ?_)
  · unfold rp
    rw [if_neg (by omega), if_neg (by omega), if_neg (by omega), if_neg (by omega), if_pos ⟨rfl, by omega⟩]
  · rw [zu_ap, zu_ap]
theorem l_rd_38 (hw : w < 10) : ∀ m i, i + m = 5 → zE d 133 (2, [some (.ref 32), some (.ref 38), some (.int (nI i))], [], rdB h w (35 + i)) = some (none, rdB h w 40) := by
  intro m
  induction m with
  | zero =>
    intro i hi
    have hi : i = 5 := hi
    subst hi
    rw [E133_32_38_at2, if_pos (show nI 5 ≥ (5 : Int32) from nI_le (a := 5) (b := 5) (by omega) (by omega))]
  | succ m ih =>
    intro i hi
    rw [E133_32_38_at2, if_neg (show ¬ nI i ≥ (5 : Int32) from nI_ge (b := 5) (by omega) (by omega)), rdB_23, if_pos rfl, rdB_24, zG_nI (by omega) (by omega), zG_nI (by omega) (by omega), nI_tn (by omega), nI_tn (by omega), rdB_43 (by omega), rdB_s_38 (by omega), nI_1]
    exact ih (i + 1) (by omega)
theorem r_rd_38 (hw : w < 10) : zcal (d + 1) 133 [.ref 32, .ref 38] (rdB h w 35) = some (none, rdB h w 40) := by
  rw [E133_32_38]
  exact l_rd_38 hw 5 0 (by omega)
theorem kpB_f {i : Nat} (hw : w < 10) (hi : i < 8) : zcal (d + 1) 134 [.ref 32, .int (kpB h w (40 + i) 32 (6 + i))] (kpB h w (40 + i)) = some (some (.int (h 32 (6 + i))), kpB h w (40 + i + 1)) := by
  rw [E134_32, kpB_23, if_neg (by decide), E134_32_at20, kpB_23, if_neg (by decide), kpB_24, zG_nI (by omega) (by omega), nI_tn (by omega), kpB_o (by omega) (by omega), kpB_s]
  unfold snap
  rw [if_neg (by omega), if_neg (by omega), if_neg (by omega), if_neg (by omega), if_neg (by omega), show 40 + i - 34 = 6 + i by omega]
theorem kpB_id {e i : Nat} (h1 : i ≠ 23 ∧ i ≠ 24) : z_up (kpB h w e) 32 i (h 32 i) = kpB h w e := by
  have := z_up_id (kpB h w e) 32 i
  rw [kpB_o (by omega) (by omega)] at this
  exact this
theorem r_keep (hw : w < 10) : zcal (d + 3) 132 [.ref 32, .int (nI w), .int 1] h = some (none, kpB h w 48) := by
  have hq : (48 : Int32) * nI w = nI (48 * w) := nI_mul 48 w
  rw [E132_32 (Or.inr rfl), kpB_0 hq, r_kp_34 hw, zCv_some, r_kp_35 hw, zCv_some, r_kp_36 hw, zCv_some, r_kp_37 hw, zCv_some, r_kp_38 hw, zCv_some,
    kpB_f (i := 0) hw (by omega), zCi_some, kpB_id (by omega), kpB_f (i := 1) hw (by omega), zCi_some, kpB_id (by omega), kpB_f (i := 2) hw (by omega), zCi_some, kpB_id (by omega), kpB_f (i := 3) hw (by omega), zCi_some, kpB_id (by omega), kpB_f (i := 4) hw (by omega), zCi_some, kpB_id (by omega), kpB_f (i := 5) hw (by omega), zCi_some, kpB_id (by omega), kpB_f (i := 6) hw (by omega), zCi_some, kpB_id (by omega), kpB_f (i := 7) hw (by omega), zCi_some, kpB_id (by omega)]
theorem rdB_f {i : Nat} {x : Int32} (hw : w < 10) (hi : i < 8) : ∃ h', zcal (d + 1) 134 [.ref 32, .int x] (rdB h w (40 + i)) = some (some (.int (h 43 (48 * w + (40 + i)))), h') ∧ z_up h' 32 (6 + i) (h 43 (48 * w + (40 + i))) = rdB h w (40 + i + 1) := by
  rw [E134_32, rdB_23, if_pos rfl, rdB_24, zG_nI (by omega) (by omega), nI_tn (by omega), rdB_43 (by omega), E134_32_at20, rdB_23, if_pos rfl]
  refine ⟨_, rfl, ?_⟩
  rw [rdB_24]
  refine rdB_st (c0 := 32) (j0 := 6 + i) (e := 40 + i) ?_ (by omega) (fun c j => ?_)
  · unfold rp
    rw [if_neg (by omega), if_neg (by omega), if_neg (by omega), if_neg (by omega), if_neg (by omega), if_pos ⟨rfl, by omega, by omega⟩]; omega
  · rw [zu_ap, zu_ap]
    by_cases a : c = 32 ∧ j = 6 + i
    · rw [if_pos a, if_neg (by omega), if_pos a]
    · rw [if_neg a, if_neg a]
theorem r_read (hw : w < 10) : zcal (d + 3) 132 [.ref 32, .int (nI w), .int 0] h = some (none, rdB h w 48) := by
  have hq : (48 : Int32) * nI w = nI (48 * w) := nI_mul 48 w
  rw [E132_32 (Or.inl rfl), rdB_0 hq, r_rd_34 hw, zCv_some, r_rd_35 hw, zCv_some, r_rd_36 hw, zCv_some, r_rd_37 hw, zCv_some, r_rd_38 hw, zCv_some]
  obtain ⟨k0, e0, f0⟩ := rdB_f (d := d + 1) (h := h) (w := w) (i := 0) (x := rdB h w 40 32 6) hw (by omega)
  rw [e0, zCi_some, f0]
  obtain ⟨k1, e1, f1⟩ := rdB_f (d := d + 1) (h := h) (w := w) (i := 1) (x := k0 32 7) hw (by omega)
  rw [e1, zCi_some, f1]
  obtain ⟨k2, e2, f2⟩ := rdB_f (d := d + 1) (h := h) (w := w) (i := 2) (x := k1 32 8) hw (by omega)
  rw [e2, zCi_some, f2]
  obtain ⟨k3, e3, f3⟩ := rdB_f (d := d + 1) (h := h) (w := w) (i := 3) (x := k2 32 9) hw (by omega)
  rw [e3, zCi_some, f3]
  obtain ⟨k4, e4, f4⟩ := rdB_f (d := d + 1) (h := h) (w := w) (i := 4) (x := k3 32 10) hw (by omega)
  rw [e4, zCi_some, f4]
  obtain ⟨k5, e5, f5⟩ := rdB_f (d := d + 1) (h := h) (w := w) (i := 5) (x := k4 32 11) hw (by omega)
  rw [e5, zCi_some, f5]
  obtain ⟨k6, e6, f6⟩ := rdB_f (d := d + 1) (h := h) (w := w) (i := 6) (x := k5 32 12) hw (by omega)
  rw [e6, zCi_some, f6]
  obtain ⟨k7, e7, f7⟩ := rdB_f (d := d + 1) (h := h) (w := w) (i := 7) (x := k6 32 13) hw (by omega)
  rw [e7, zCi_some, f7]
end KP

/-! SWAP -/
def gSw (g : zHl) (i j : Nat) : zHl := fun r => if r = 0 ∨ r = 1 then (fun s => if s = i then g r j else if s = j then g r i else g r s) else g r
theorem gSw_o {g : zHl} {i j r : Nat} (h : 2 ≤ r) : gSw g i j r = g r := if_neg (by omega)
theorem gSw_v {g : zHl} {i j r s : Nat} (h : r = 0 ∨ r = 1) : gSw g i j r s = if s = i then g r j else if s = j then g r i else g r s := by
  unfold gSw
  rw [if_pos h]
theorem gSw2 {g : zHl} {i j : Nat} (hij : i < j) : gSw (gSw g i j) i j = g := by
  funext r s
  by_cases h : r = 0 ∨ r = 1
  · rw [gSw_v h, gSw_v h, gSw_v h, gSw_v h]
    by_cases e : s = i
    · rw [if_pos e, if_neg (by omega), if_pos rfl, e]
    · rw [if_neg e]
      by_cases q : s = j
      · rw [if_pos q, if_pos rfl, q]
      · rw [if_neg q, if_neg e, if_neg q]
  · rw [gSw_o (by omega), gSw_o (by omega)]
theorem zVal_Sw {g : zHl} {n k i j : Nat} (hi : i < n) (hj : j < n) (V : zVal g n k) : zVal (gSw g i j) n k := by
  obtain ⟨v1, v2, v3, v4⟩ := V
  refine ⟨v1, v2, fun s hs => ?_, fun r h => ?_⟩
  · obtain ⟨w1, w2, w3⟩ := v3 s hs
    rw [gSw_o (r := 2) (by omega), gSw_v (Or.inl rfl), gSw_v (Or.inr rfl)]
    refine ⟨w1, ?_, ?_⟩
    · by_cases e : s = i
      · rw [if_pos e]; exact (v3 j hj).2.1
      · rw [if_neg e]
        by_cases q : s = j
        · rw [if_pos q]; exact (v3 i hi).2.1
        · rw [if_neg q]; exact w2
    · by_cases e : s = i
      · rw [if_pos e]; exact (v3 j hj).2.2
      · rw [if_neg e]
        by_cases q : s = j
        · rw [if_pos q]; exact (v3 i hi).2.2
        · rw [if_neg q]; exact w3
  · rw [gSw_o (by omega), gSw_o (by omega)]; exact v4 r h
theorem c_swap {d : Nat} {h : zH} {g : zHl} {n k i j : Nat} (H : zHil h 7 g n k) (V : zVal g n k) (hij : i < j) (hj : j < n) : ∃ h', zcal (d + 2) 108 [.ref 7, .int (nI i), .int (nI j)] h = some (none, h') ∧ zHil h' 7 (gSw g i j) n k ∧ h' 7 = h 7 ∧ ∀ a, a ≠ 8 → a ≠ 9 → h' a = h a := by
  have hn := V.1
  obtain ⟨q1, q2, q3, q4⟩ := H
  refine ⟨z_up (z_up (z_up (z_up h 8 i (h 8 j)) 9 i (h 9 j)) 8 j (h 8 i)) 9 j (h 9 i), ?_, ⟨?_, ?_, fun s hs => ⟨?_, ?_, ?_⟩, fun r hr => ?_⟩, ?_, fun a e1 e2 => ?_⟩
  · rw [E108_7, c_get (n := 10) rfl (by omega), zCi_some, gt_nI (by omega) (by omega), c_get (n := 10) rfl (by omega), zCi_some, gt_nI (by omega) (by omega), c_get (n := 10) rfl (by omega), zCi_some, gt_nI (by omega) (by omega), c_put (n := 10) rfl (by omega), zCv_some, pt_nI (by omega) (by omega), c_get (n := 10) rfl (by omega), zCi_some, gt_nI (by omega) (by omega), c_put (n := 10) rfl (by omega), zCv_some, pt_nI (by omega) (by omega), c_put (n := 10) rfl (by omega), zCv_some, pt_nI (by omega) (by omega), c_put (n := 10) rfl (by omega), zCv_some, pt_nI (by omega) (by omega), z_up_ne (a := 9) (c := 8) (by omega)]
  · rw [z_up_ne (by omega), z_up_ne (by omega), z_up_ne (by omega), z_up_ne (by omega)]; exact q1
  · rw [z_up_ne (by omega), z_up_ne (by omega), z_up_ne (by omega), z_up_ne (by omega)]; exact q2
  · show z_up _ 9 j _ 8 s = _
    rw [z_up_ne (by omega), zu_ap, z_up_ne (by omega), zu_ap, gSw_v (Or.inl rfl), show h 8 j = g 0 j from (q3 j hj).1, show h 8 i = g 0 i from (q3 i (by omega)).1, show h 8 s = g 0 s from (q3 s hs).1]
    by_cases e : s = i
    · rw [if_neg (by omega), if_pos ⟨rfl, e⟩, if_pos e]
    · rw [if_neg e]
      by_cases q : s = j
      · rw [if_pos ⟨rfl, q⟩, if_pos q]
      · rw [if_neg (fun z => q z.2), if_neg (fun z => e z.2), if_neg q]
  · show z_up _ 9 j _ 9 s = _
    rw [zu_ap, z_up_ne (by omega), zu_ap, z_up_ne (by omega), gSw_v (Or.inr rfl), show h 9 j = g 1 j from (q3 j hj).2.1, show h 9 i = g 1 i from (q3 i (by omega)).2.1, show h 9 s = g 1 s from (q3 s hs).2.1]
    by_cases e : s = i
    · rw [if_neg (by omega), if_pos ⟨rfl, e⟩, if_pos e]
    · rw [if_neg e]
      by_cases q : s = j
      · rw [if_pos ⟨rfl, q⟩, if_pos q]
      · rw [if_neg (fun z => q z.2), if_neg (fun z => e z.2), if_neg q]
  · rw [z_up_ne (by omega), z_up_ne (by omega), z_up_ne (by omega), z_up_ne (by omega), gSw_o (by omega)]; exact (q3 s hs).2.2
  · rw [z_up_ne (a := 7 + 4) (by omega), z_up_ne (a := 7 + 4) (by omega), z_up_ne (a := 7 + 4) (by omega), z_up_ne (a := 7 + 4) (by omega), z_up_ne (a := 7 + 5) (by omega), z_up_ne (a := 7 + 5) (by omega), z_up_ne (a := 7 + 5) (by omega), z_up_ne (a := 7 + 5) (by omega), gSw_o (by omega), gSw_o (by omega)]; exact q4 r hr
  · rw [z_up_ne (by omega), z_up_ne (by omega), z_up_ne (by omega), z_up_ne (by omega)]
  · rw [z_up_ne e2, z_up_ne e1, z_up_ne e2, z_up_ne e1]

theorem zHr_Sw {h : zH} {g : zHl} {n k i j : Nat} (H : zHr h g n k) (hij : i < j) (hj : j < n) : zHr (z_up (z_up (z_up (z_up h 34 i (h 34 j)) 35 i (h 35 j)) 34 j (h 34 i)) 35 j (h 35 i)) (gSw g i j) n k := by
  obtain ⟨q1, q2, q3, q4⟩ := H
  refine ⟨by rw [z_up_ne (by omega), z_up_ne (by omega), z_up_ne (by omega), z_up_ne (by omega)]; exact q1, by rw [z_up_ne (by omega), z_up_ne (by omega), z_up_ne (by omega), z_up_ne (by omega)]; exact q2, fun s hs => ⟨?_, ?_, ?_⟩, fun r hr => ?_⟩
  · rw [z_up_ne (by omega), zu_ap, z_up_ne (by omega), zu_ap, gSw_v (Or.inl rfl), show h 34 j = g 0 j from (q3 j hj).1, show h 34 i = g 0 i from (q3 i (by omega)).1, show h 34 s = g 0 s from (q3 s hs).1]
    by_cases e : s = i
    · rw [if_neg (by omega), if_pos ⟨rfl, e⟩, if_pos e]
    · rw [if_neg e]
      by_cases q : s = j
      · rw [if_pos ⟨rfl, q⟩, if_pos q]
      · rw [if_neg (fun z => q z.2), if_neg (fun z => e z.2), if_neg q]
  · rw [zu_ap, z_up_ne (by omega), zu_ap, z_up_ne (by omega), gSw_v (Or.inr rfl), show h 35 j = g 1 j from (q3 j hj).2.1, show h 35 i = g 1 i from (q3 i (by omega)).2.1, show h 35 s = g 1 s from (q3 s hs).2.1]
    by_cases e : s = i
    · rw [if_neg (by omega), if_pos ⟨rfl, e⟩, if_pos e]
    · rw [if_neg e]
      by_cases q : s = j
      · rw [if_pos ⟨rfl, q⟩, if_pos q]
      · rw [if_neg (fun z => q z.2), if_neg (fun z => e z.2), if_neg q]
  · rw [z_up_ne (by omega), z_up_ne (by omega), z_up_ne (by omega), z_up_ne (by omega), gSw_o (by omega)]; exact (q3 s hs).2.2
  · rw [z_up_ne (a := 37) (by omega), z_up_ne (a := 37) (by omega), z_up_ne (a := 37) (by omega), z_up_ne (a := 37) (by omega), z_up_ne (a := 38) (by omega), z_up_ne (a := 38) (by omega), z_up_ne (a := 38) (by omega), z_up_ne (a := 38) (by omega), gSw_o (by omega), gSw_o (by omega)]; exact q4 r hr
theorem r_214 {d : Nat} {x : zH} {g : zHl} {n k i j : Nat} (R : Rel0 g n k x) (hij : i < j) (hj : j < n) : ∃ y, zcal (d + 5) 214 [.ref 32, .int (nI i), .int (nI j)] x = some (some (.int (nI (eN (gSw g i j) n k (x 1 7)).1)), y) ∧ zPers x y ∧ y 30 = x 30 ∧ y 33 = x 33 := by
  have V := R.1.1
  have hn := V.1
  have Hk : zHr (kpB x 1 48) g n k := zHr_mv R.1.2.2.1 (kpB_32 (by omega)) (kpB_32 (by omega)) (fun a p q => kpB_a (by omega) (by omega))
  have Hs := zHr_Sw Hk hij hj
  generalize hS : z_up (z_up (z_up (z_up (kpB x 1 48) 34 i (kpB x 1 48 34 j)) 35 i (kpB x 1 48 35 j)) 34 j (kpB x 1 48 34 i)) 35 j (kpB x 1 48 35 i) = S at Hs
  have So : ∀ a, a ≠ 34 → a ≠ 35 → S a = kpB x 1 48 a := fun a e1 e2 => by rw [← hS, z_up_ne e2, z_up_ne e1, z_up_ne e2, z_up_ne e1]
  have Sj : ∀ a s, 10 ≤ s → S a s = kpB x 1 48 a s := fun a s hs => by rw [← hS, zu_ni _ _ (by omega), zu_ni _ _ (by omega), zu_ni _ _ (by omega), zu_ni _ _ (by omega)]
  have S8 : S 32 8 = x 1 7 := by rw [So 32 (by omega) (by omega), kpB_32 (by omega)]; exact R.1.2.2.2.2 0 (by omega)
  obtain ⟨y, ey, J, G⟩ := r_now (d := d) Hs (zVal_Sw (by omega) hj V) (by rw [S8]; exact R.1.2.2.2.1.1) (rAt0_mv R.2.2.2.2.2 (fun s p q => by rw [So 32 (by omega) (by omega), kpB_32 (by omega)]))
  rw [S8] at ey
  clear J
  refine ⟨rdB y 1 48, ?_, keep_pers (fun s p q => by rw [G.1 43 (by omega) (by omega) (by omega), So 43 (by omega) (by omega)]) (fun a p q s hs => ?_) (fun a p q => by rw [G.1 a (by omega) (by omega) (by omega), So a (by omega) (by omega), kpB_a (by omega) (by omega)]) (by rw [G.1 39 (by omega) (by omega) (by omega), So 39 (by omega) (by omega), kpB_a (by omega) (by omega)]) (by rw [G.1 46 (by omega) (by omega) (by omega), So 46 (by omega) (by omega), kpB_a (by omega) (by omega)]) (fun s hs => by rw [G.1 43 (by omega) (by omega) (by omega), So 43 (by omega) (by omega), kpB_43 (by omega)]) (fun s hs => by rw [G.2 s (by omega), So 32 (by omega) (by omega), kpB_32 (by omega)]), by rw [rdB_c (by omega) (by omega), G.1 30 (by omega) (by omega) (by omega), So 30 (by omega) (by omega), kpB_a (by omega) (by omega)], by rw [rdB_c (by omega) (by omega), G.1 33 (by omega) (by omega) (by omega), So 33 (by omega) (by omega), kpB_a (by omega) (by omega)]⟩
  · unfold eN
    rw [E214_32, r_173 (d := d), zCv_some, nI_tn (by omega), nI_tn (by omega), zG_nI (by omega) (by omega), zG_nI (by omega) (by omega), zG_nI (by omega) (by omega), zG_nI (by omega) (by omega), zG_nI (by omega) (by omega), zG_nI (by omega) (by omega), zG_nI (by omega) (by omega), zG_nI (by omega) (by omega), hS, ey, zCi_some, r_174 (d := d), zCv_some]
  · rw [G.1 a (by omega) (by omega) (by omega)]
    by_cases z : 10 ≤ s
    · rw [Sj a s z, kpB_a (by omega) (by omega)]
    · rw [So a (by omega) (by omega), kpB_a (by omega) (by omega)]

theorem rdB_v {h : zH} {w c j x : Nat} (hx : rp c j = x) (hl : x < 48) (hn : c ≠ 32 ∨ j < 23) : rdB h w 48 c j = h 43 (48 * w + x) := by
  unfold rdB
  rw [if_neg (by omega), if_neg (by omega), hx, if_pos hl]
theorem rdB_k {h : zH} {w c j : Nat} (hx : rp c j = 48) (hn : c ≠ 32 ∨ (j ≠ 23 ∧ j ≠ 24)) : rdB h w 48 c j = h c j := by
  unfold rdB
  rw [if_neg (by omega), if_neg (by omega), hx, if_neg (by omega)]
theorem rp_k {c j : Nat} (h1 : c < 34 ∨ 38 < c) (h2 : c ≠ 32 ∨ j < 6 ∨ 13 < j) : rp c j = 48 := by
  unfold rp
  rw [if_neg (by omega), if_neg (by omega), if_neg (by omega), if_neg (by omega), if_neg (by omega), if_neg (by omega)]
theorem rdB_c {h : zH} {w c : Nat} (h1 : c < 34 ∨ 38 < c) (h2 : c ≠ 32) : rdB h w 48 c = h c := by
  funext j
  exact rdB_k (rp_k h1 (Or.inl h2)) (Or.inl h2)
theorem rdB_32 {h : zH} {w j : Nat} (h1 : j < 6 ∨ (13 < j ∧ j ≠ 23 ∧ j ≠ 24)) : rdB h w 48 32 j = h 32 j := rdB_k (rp_k (by omega) (Or.inr (by omega))) (Or.inr (by omega))
theorem rd_Hr {h : zH} {w : Nat} {g : zHl} {n k : Nat} {f : Nat → Int32} (V : n ≤ 10 ∧ k ≤ 5) (S : zSn h w g n k f) : zHr (rdB h w 48) g n k ∧ ∀ i, i < 6 → rdB h w 48 32 (8 + i) = f i := by
  obtain ⟨a1, a2, a3, a4, a5⟩ := S
  have r34 : ∀ s, s < 10 → rp 34 s = s := fun s hs => by unfold rp; rw [if_pos ⟨rfl, hs⟩]
  have r35 : ∀ s, s < 10 → rp 35 s = 10 + s := fun s hs => by unfold rp; rw [if_neg (by omega), if_pos ⟨rfl, hs⟩]
  have r36 : ∀ s, s < 10 → rp 36 s = 20 + s := fun s hs => by unfold rp; rw [if_neg (by omega), if_neg (by omega), if_pos ⟨rfl, hs⟩]
  have r37 : ∀ s, s < 5 → rp 37 s = 30 + s := fun s hs => by unfold rp; rw [if_neg (by omega), if_neg (by omega), if_neg (by omega), if_pos ⟨rfl, hs⟩]
  have r38 : ∀ s, s < 5 → rp 38 s = 35 + s := fun s hs => by unfold rp; rw [if_neg (by omega), if_neg (by omega), if_neg (by omega), if_neg (by omega), if_pos ⟨rfl, hs⟩]
  have r32 : ∀ s, 6 ≤ s → s < 14 → rp 32 s = 34 + s := fun s h1 h2 => by unfold rp; rw [if_neg (by omega), if_neg (by omega), if_neg (by omega), if_neg (by omega), if_neg (by omega), if_pos ⟨rfl, h1, h2⟩]
  refine ⟨⟨(rdB_v (r32 6 (by omega) (by omega)) (by omega) (by omega)).trans a3, (rdB_v (r32 7 (by omega) (by omega)) (by omega) (by omega)).trans a4, fun s hs => ?_, fun r hr => ?_⟩, fun i hi => ?_⟩
  · obtain ⟨b1, b2, b3⟩ := a1 s hs
    exact ⟨(rdB_v (r34 s (by omega)) (by omega) (by omega)).trans b1, (rdB_v (r35 s (by omega)) (by omega) (by omega)).trans (by rw [← Nat.add_assoc]; exact b2), (rdB_v (r36 s (by omega)) (by omega) (by omega)).trans (by rw [← Nat.add_assoc]; exact b3)⟩
  · obtain ⟨b1, b2⟩ := a2 r hr
    exact ⟨(rdB_v (r37 r (by omega)) (by omega) (by omega)).trans (by rw [← Nat.add_assoc]; exact b1), (rdB_v (r38 r (by omega)) (by omega) (by omega)).trans (by rw [← Nat.add_assoc]; exact b2)⟩
  · have := a5 i hi
    exact (rdB_v (r32 (8 + i) (by omega) (by omega)) (by omega) (by omega)).trans (by rw [show 48 * w + (34 + (8 + i)) = 48 * w + 42 + i by omega]; exact this)
theorem snap_Sn {h h' : zH} {w : Nat} {g : zHl} {n k : Nat} (V : n ≤ 10 ∧ k ≤ 5) (H : zHr h g n k) (d2 : ∀ i, i < 48 → h' 43 (48 * w + i) = snap h i) : zSn h' w g n k (fun i => h 32 (8 + i)) := by
  have f2 : ∀ x i, x + i < 48 → h' 43 (48 * w + x + i) = snap h (x + i) := fun x i hx => by rw [Nat.add_assoc]; exact d2 _ hx
  refine ⟨fun s hs => ?_, fun r hr => ?_, ?_, ?_, fun i hi => ?_⟩
  · obtain ⟨k1, k2, k3⟩ := H.2.2.1 s hs
    refine ⟨?_, ?_, ?_⟩
    · rw [d2 s (by omega)]; unfold snap; rw [if_pos (by omega), k1]
    · rw [f2 10 s (by omega)]; unfold snap; rw [if_neg (by omega), if_pos (by omega), show 10 + s - 10 = s by omega, k2]
    · rw [f2 20 s (by omega)]; unfold snap; rw [if_neg (by omega), if_neg (by omega), if_pos (by omega), show 20 + s - 20 = s by omega, k3]
  · obtain ⟨k1, k2⟩ := H.2.2.2 r hr
    refine ⟨?_, ?_⟩
    · rw [f2 30 r (by omega)]; unfold snap; rw [if_neg (by omega), if_neg (by omega), if_neg (by omega), if_pos (by omega), show 30 + r - 30 = r by omega, k1]
    · rw [f2 35 r (by omega)]; unfold snap; rw [if_neg (by omega), if_neg (by omega), if_neg (by omega), if_neg (by omega), if_pos (by omega), show 35 + r - 35 = r by omega, k2]
  · rw [d2 40 (by omega)]; exact H.1
  · rw [d2 41 (by omega)]; exact H.2.1
  · rw [f2 42 i (by omega)]
    unfold snap; rw [if_neg (by omega), if_neg (by omega), if_neg (by omega), if_neg (by omega), if_neg (by omega), show 42 + i - 34 = 8 + i by omega]
theorem sim_image : zSim 56 157 [] := by
  intro d h R
  obtain ⟨⟨g, n, k, RH, RT, RR, RI, RP, RZ⟩, C⟩ := id R
  have V := RH.1
  obtain ⟨h1, e1, K1, K2, K3⟩ := c_likeH_13_1 (d := d + 6) RH.2.1 V
  have f1 : ∀ a, a < 13 ∨ 18 < a → h1 a = h a := fun a ha => K3 a (by omega)
  have r0 := r_keep (d := d + 6) (h := z_up (z_up h1 0 3 1) 32 22 1) (w := 0) (by omega)
  have hz : nI 0 = (0 : Int32) := rfl
  rw [hz] at r0
  have s12 : h1 1 12 = h 1 12 := by rw [f1 1 (by omega)]
  have k43i : ∀ i, i < 48 → kpB (z_up (z_up h1 0 3 1) 32 22 1) 0 48 43 (48 * 0 + i) = snap (z_up (z_up h1 0 3 1) 32 22 1) i := fun i hi => by
    unfold kpB; rw [if_pos ⟨rfl, by omega, by omega⟩, show 48 * 0 + i - 48 * 0 = i by omega]
  have k43o : ∀ i, 48 ≤ i → kpB (z_up (z_up h1 0 3 1) 32 22 1) 0 48 43 i = h 43 i := fun i hi => by
    unfold kpB; rw [if_neg (by omega), if_neg (by omega), if_neg (by omega), z_up_ne (by omega), z_up_ne (by omega), f1 43 (by omega)]
  have ko : ∀ a, a ≠ 43 → a ≠ 32 → a ≠ 0 → (a < 13 ∨ 18 < a) → kpB (z_up (z_up h1 0 3 1) 32 22 1) 0 48 a = h a := fun a q1 q2 q3 q4 => by
    funext j; rw [kpB_o q1 (Or.inl q2), zu_nc _ _ q2, zu_nc _ _ q3, f1 a q4]
  have ko2 : ∀ a, 13 ≤ a → a ≤ 18 → kpB (z_up (z_up h1 0 3 1) 32 22 1) 0 48 a = h1 a := fun a q1 q2 => by
    funext j; rw [kpB_o (by omega) (Or.inl (by omega)), zu_nc _ _ (by omega), zu_nc _ _ (by omega)]
  have k32 : ∀ j, j ≠ 22 → j ≠ 23 → j ≠ 24 → kpB (z_up (z_up h1 0 3 1) 32 22 1) 0 48 32 j = h 32 j := fun j q1 q2 q3 => by
    rw [kpB_o (by omega) (Or.inr ⟨q2, q3⟩), zu_ni _ _ q1, zu_nc _ _ (by omega), f1 32 (by omega)]
  have k03 : kpB (z_up (z_up h1 0 3 1) 32 22 1) 0 48 0 3 = 1 := by rw [kpB_o (by omega) (Or.inl (by omega)), zu_nc _ _ (by omega), zu_eq]
  have k22 : kpB (z_up (z_up h1 0 3 1) 32 22 1) 0 48 32 22 = 1 := by rw [kpB_o (by omega) (Or.inr (by omega)), zu_eq]
  have k13 : ∀ j, 5 ≤ j → j ≤ 12 → kpB (z_up (z_up h1 0 3 1) 32 22 1) 0 48 13 j = h 1 j := fun j p q => by rw [ko2 13 (by omega) (by omega), K2 j p q]
  refine sim_ok (v := .int (h 1 12)) (h1 := z_up h1 0 3 1) (h2 := kpB (z_up (z_up h1 0 3 1) 32 22 1) 0 48) ?_ ?_ ?_
  · rw [E56_0, e1, zCv_some, s12]
  · rw [E157_32, r0, zCv_some, k32 13 (by omega) (by omega) (by omega)]
    rw [show h 32 13 = h 1 12 from RH.2.2.2.2 5 (by omega)]
  · refine ⟨⟨g, n, k, RelH_mv RH (fun a p q => ko a (by omega) (by omega) (by omega) (by omega)) (fun a p q => ko a (by omega) (by omega) (by omega) (by omega)) (fun j p q => k32 j (by omega) (by omega) (by omega)), RelT_mv RT (by rw [ko 26 (by omega) (by omega) (by omega) (by omega)]) (ko 27 (by omega) (by omega) (by omega) (by omega)) (ko 39 (by omega) (by omega) (by omega) (by omega)) (k32 18 (by omega) (by omega) (by omega)), RelR_mv RR (by rw [ko 28 (by omega) (by omega) (by omega) (by omega)]) (ko 29 (by omega) (by omega) (by omega) (by omega)) (ko 46 (by omega) (by omega) (by omega) (by omega)) (k32 40 (by omega) (by omega) (by omega)), ⟨k22.trans k03.symm, Or.inr ⟨k03, g, n, k, V, zHil_mv K1 (by rw [ko2 13 (by omega) (by omega)]) (by rw [ko2 13 (by omega) (by omega)]) (fun j p q => ko2 _ (by omega) (by omega)), bOk_ex RH.2.2.2.1 (fun i hi => k13 _ (by omega) (by omega)), ?_⟩⟩, RelP_mv V RP (by rw [ko 23 (by omega) (by omega) (by omega) (by omega)]) (by rw [ko 23 (by omega) (by omega) (by omega) (by omega)]) (ko 24 (by omega) (by omega) (by omega) (by omega)) (fun i hi => k43o i (by omega)) (k32 25 (by omega) (by omega) (by omega)), rAt0_mv RZ (fun j p q => k32 j (by omega) (by omega) (by omega))⟩, RelC_mv C (ko 30 (by omega) (by omega) (by omega) (by omega)) (ko 33 (by omega) (by omega) (by omega) (by omega))⟩
    have Hr : zHr (z_up (z_up h1 0 3 1) 32 22 1) g n k := zHr_mv RH.2.2.1 (by rw [zu_ni _ _ (by omega), zu_nc _ _ (by omega), f1 32 (by omega)]) (by rw [zu_ni _ _ (by omega), zu_nc _ _ (by omega), f1 32 (by omega)]) (fun a p q => by rw [z_up_ne (by omega), z_up_ne (by omega), f1 a (by omega)])
    have S := snap_Sn (w := 0) ⟨V.1, V.2.1⟩ Hr k43i
    refine zSn_tr ⟨V.1, V.2.1⟩ S (fun i hi => rfl) (fun r s _ _ => rfl) (fun i hi => ?_)
    show kpB _ 0 48 13 (7 + i) = z_up (z_up h1 0 3 1) 32 22 1 32 (8 + i)
    rw [k13 _ (by omega) (by omega), zu_ni _ _ (by omega), zu_nc _ _ (by omega), f1 32 (by omega), RH.2.2.2.2 i hi]
theorem sim_restore : zSim 57 158 [] := by
  intro d h R
  obtain ⟨⟨g, n, k, RH, RT, RR, RI, RP, RZ⟩, C⟩ := id R
  have RI' := id RI
  obtain ⟨i1, i2⟩ := RI'
  rcases i2 with i2 | ⟨i2, g', n', k', V', K', B', S'⟩
  · refine sim_rf R (c := -3) (j := 2) (by omega) ?_ ?_
    · rw [E57_0, i2, if_pos rfl, c_rf3, zCi_some]
    · have : refC h 2 32 22 = 0 := by unfold refC; rw [z_up_ne (by omega), i1, i2]
      rw [E158_32, this, if_pos rfl, r_no3, zCi_some]
  · obtain ⟨h1, e1, K1, K2, K3⟩ := c_likeH_1_13 (d := d + 6) K' V'
    have f1 : ∀ a, a < 1 ∨ 6 < a → h1 a = h a := fun a ha => K3 a (by omega)
    have r0 := r_read (d := d + 6) (h := z_up h1 23 2 0) (w := 0) (by omega)
    have hz : nI 0 = (0 : Int32) := rfl
    rw [hz] at r0
    have S1 : zSn (z_up h1 23 2 0) 0 g' n' k' (fun i => h 13 (7 + i)) := zSn_mv ⟨V'.1, V'.2.1⟩ S' (fun i hi => by rw [z_up_ne (by omega), f1 43 (by omega)])
    obtain ⟨Hr, Hf⟩ := rd_Hr ⟨V'.1, V'.2.1⟩ S1
    have ko : ∀ a, a ≠ 32 → a ≠ 23 → (a < 34 ∨ 38 < a) → z_up (rdB (z_up h1 23 2 0) 0 48) 32 25 0 a = h1 a := fun a q1 q2 q3 => by
      rw [z_up_ne q1, rdB_c q3 q1, z_up_ne q2]
    have k32 : ∀ j, 14 ≤ j → j ≠ 23 → j ≠ 24 → j ≠ 25 → z_up (rdB (z_up h1 23 2 0) 0 48) 32 25 0 32 j = h 32 j := fun j q1 q2 q3 q4 => by
      rw [zu_ni _ _ q4, rdB_32 (by omega), zu_nc _ _ (by omega), f1 32 (by omega)]
    have e13 : rdB (z_up h1 23 2 0) 0 48 32 13 = h 13 12 := Hf 5 (by omega)
    refine sim_ok (v := .int (h 13 12)) (h1 := z_up h1 23 2 0) (h2 := z_up (rdB (z_up h1 23 2 0) 0 48) 32 25 0) ?_ ?_ ?_
    · rw [E57_0, i2, if_neg (by decide), e1, zCv_some, E36_23, zCv_some, zu_nc _ _ (by omega), K2 12 (by omega) (by omega)]
    · have : z_up h1 23 2 0 32 22 = 1 := by rw [z_up_ne (by omega), f1 32 (by omega), i1, i2]
      rw [E158_32, this, if_neg (by decide), r0, zCv_some, e13]
    · refine ⟨⟨g', n', k', ⟨V', zHil_mv K1 (by rw [ko 1 (by omega) (by omega) (by omega)]) (by rw [ko 1 (by omega) (by omega) (by omega)]) (fun j p q => ko _ (by omega) (by omega) (by omega)), zHr_mv Hr (zu_ni _ _ (by omega)) (zu_ni _ _ (by omega)) (fun a p q => z_up_ne (by omega)), bOk_ex B' (fun i hi => ?_), fun i hi => ?_⟩, RelT_mv RT (by rw [ko 26 (by omega) (by omega) (by omega), f1 26 (by omega)]) (by rw [ko 27 (by omega) (by omega) (by omega), f1 27 (by omega)]) (by rw [ko 39 (by omega) (by omega) (by omega), f1 39 (by omega)]) (k32 18 (by omega) (by omega) (by omega) (by omega)), RelR_mv RR (by rw [ko 28 (by omega) (by omega) (by omega), f1 28 (by omega)]) (by rw [ko 29 (by omega) (by omega) (by omega), f1 29 (by omega)]) (by rw [ko 46 (by omega) (by omega) (by omega), f1 46 (by omega)]) (k32 40 (by omega) (by omega) (by omega) (by omega)), RelI_mv RI (by rw [ko 0 (by omega) (by omega) (by omega), f1 0 (by omega)]) (fun a p q => by rw [ko a (by omega) (by omega) (by omega), f1 a (by omega)]) (fun i hi => by rw [ko 43 (by omega) (by omega) (by omega), f1 43 (by omega)]) (k32 22 (by omega) (by omega) (by omega) (by omega)), RelP_0 RP ?_ ?_ ?_, rAt0_mv RZ (fun j p q => k32 j (by omega) (by omega) (by omega) (by omega))⟩, RelC_mv C (by rw [ko 30 (by omega) (by omega) (by omega), f1 30 (by omega)]) (by rw [ko 33 (by omega) (by omega) (by omega), f1 33 (by omega)])⟩
      · rw [ko 1 (by omega) (by omega) (by omega), K2 _ (by omega) (by omega)]
      · rw [ko 1 (by omega) (by omega) (by omega), K2 _ (by omega) (by omega), zu_ni _ _ (by omega)]; exact Hf i hi
      · rw [z_up_ne (by omega), rdB_c (by omega) (by omega), zu_ni _ _ (by omega), f1 23 (by omega)]
      · rw [z_up_ne (by omega), rdB_c (by omega) (by omega), zu_eq]
      · rw [zu_eq]
/-! ONE MORE STRETCH, ONE MORE RIDER -/
def gS (g : zHl) (n : Nat) (a b : Int32) : zHl := fun r => if r = 0 then upd (g 0) n a else if r = 1 then upd (g 1) n b else if r = 2 then upd (g 2) n (-9) else g r
def gR (g : zHl) (k : Nat) (a b : Int32) : zHl := fun r => if r = 3 then upd (g 3) k a else if r = 4 then upd (g 4) k b else g r
theorem gS_o {g : zHl} {n s : Nat} {a b : Int32} {r : Nat} (h : s ≠ n ∨ 2 < r) : gS g n a b r s = g r s := by
  unfold gS
  by_cases r0 : r = 0
  · subst r0; rw [if_pos rfl, upd_ap, if_neg (by omega)]
  · rw [if_neg r0]
    by_cases r1 : r = 1
    · subst r1; rw [if_pos rfl, upd_ap, if_neg (by omega)]
    · rw [if_neg r1]
      by_cases r2 : r = 2
      · subst r2; rw [if_pos rfl, upd_ap, if_neg (by omega)]
      · rw [if_neg r2]
theorem gR_o {g : zHl} {k s : Nat} {a b : Int32} {r : Nat} (h : s ≠ k ∨ r < 3) : gR g k a b r s = g r s := by
  unfold gR
  by_cases r0 : r = 3
  · subst r0; rw [if_pos rfl, upd_ap, if_neg (by omega)]
  · rw [if_neg r0]
    by_cases r1 : r = 4
    · subst r1; rw [if_pos rfl, upd_ap, if_neg (by omega)]
    · rw [if_neg r1]

/-! ANOTHER RIDER WAITS -/
theorem gW_v {g : zHl} {s j : Nat} {v : Int32} : gW g s v 2 j = if j = s then v else g 2 j := rfl
theorem gW_o {g : zHl} {s r : Nat} {v : Int32} (h : r ≠ 2) : gW g s v r = g r := if_neg h
theorem gW_id (g : zHl) (s : Nat) : gW g s (g 2 s) = g := by
  funext r j
  by_cases e : r = 2
  · subst e
    rw [gW_v]
    by_cases q : j = s
    · rw [if_pos q, q]
    · rw [if_neg q]
  · rw [gW_o e]
theorem zVal_W {g : zHl} {n k s : Nat} {v : Int32} (V : zVal g n k) (hv : v = -9 ∨ ∃ x, x < k ∧ v = nI x) : zVal (gW g s v) n k := by
  obtain ⟨v1, v2, v3, v4⟩ := V
  refine ⟨v1, v2, fun j hj => ?_, fun r h => ?_⟩
  · obtain ⟨w1, w2, w3⟩ := v3 j hj
    rw [gW_o (r := 0) (by omega), gW_o (r := 1) (by omega), gW_v]
    refine ⟨?_, w2, w3⟩
    by_cases e : j = s
    · rw [if_pos e]; exact hv
    · rw [if_neg e]; exact w1
  · rw [gW_o (by omega), gW_o (by omega)]; exact v4 r h
theorem zHil_W {h : zH} {g : zHl} {n k s : Nat} {v : Int32} (H : zHil h 7 g n k) : zHil (z_up h 10 s v) 7 (gW g s v) n k := by
  obtain ⟨h1, h2, h3, h4⟩ := H
  refine ⟨by rw [z_up_ne (by omega)]; exact h1, by rw [z_up_ne (by omega)]; exact h2, fun j hj => ?_, fun r hr => ?_⟩
  · obtain ⟨q1, q2, q3⟩ := h3 j hj
    rw [gW_o (r := 0) (by omega), gW_o (r := 1) (by omega)]
    refine ⟨by rw [z_up_ne (a := 7 + 1) (by omega)]; exact q1, by rw [z_up_ne (a := 7 + 2) (by omega)]; exact q2, ?_⟩
    show z_up h 10 s v 10 j = _
    rw [zu_ap, gW_v]
    by_cases e : j = s
    · rw [if_pos ⟨rfl, e⟩, if_pos e]
    · rw [if_neg (fun q => e q.2), if_neg e]; exact q3
  · rw [z_up_ne (a := 7 + 4) (by omega), z_up_ne (a := 7 + 5) (by omega), gW_o (by omega), gW_o (by omega)]; exact h4 r hr
theorem zHr_W {h : zH} {g : zHl} {n k s : Nat} {v : Int32} (H : zHr h g n k) : zHr (z_up h 36 s v) (gW g s v) n k := by
  obtain ⟨h1, h2, h3, h4⟩ := H
  refine ⟨by rw [z_up_ne (by omega)]; exact h1, by rw [z_up_ne (by omega)]; exact h2, fun j hj => ?_, fun r hr => ?_⟩
  · obtain ⟨q1, q2, q3⟩ := h3 j hj
    rw [gW_o (r := 0) (by omega), gW_o (r := 1) (by omega)]
    refine ⟨by rw [z_up_ne (by omega)]; exact q1, by rw [z_up_ne (by omega)]; exact q2, ?_⟩
    rw [zu_ap, gW_v]
    by_cases e : j = s
    · rw [if_pos ⟨rfl, e⟩, if_pos e]
    · rw [if_neg (fun q => e q.2), if_neg e]; exact q3
  · rw [z_up_ne (a := 37) (by omega), z_up_ne (a := 38) (by omega), gW_o (by omega), gW_o (by omega)]; exact h4 r hr

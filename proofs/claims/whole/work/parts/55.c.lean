/-! HOW FAR, AS BITS -/
section FAR
variable {g : zHl} {n k : Nat} {b u w : Nat → Bool} {q0 : zQ}
theorem far_iff (V : zVal g n k) (h0 : rGo n k q0 0) (hz : q0.1 = 0) : ∀ i j, (j < (rJ g n b u w q0 i).1 ↔ j < i ∧ rG g n b u w q0 j) := by
  intro i
  induction i with
  | zero => intro j; show j < q0.1 ↔ _; rw [hz]; exact ⟨fun q => absurd q (by omega), fun q => absurd q.1 (by omega)⟩
  | succ i ih =>
    intro j
    by_cases hm : (rJ g n b u w q0 i).2.2.2 = 0
    · have ei := (rJ_go V h0 i hm).1
      have hj := rJ_next hm
      have hat := s_nx_at (g := g) (n := n) (w := w) (s := (rJ g n b u w q0 i).1) (v := rV g n b u w q0 i) (r := rR g n b u w q0 i)
      rw [← hj, ei] at hat
      have iff : rG g n b u w q0 i ↔ (rJ g n b u w q0 (i + 1)).1 = i + 1 := by
        unfold rG
        rw [ei]
        constructor
        · intro q; rcases hat with e | e
          · have := q.2; omega
          · exact e
        · intro q; exact ⟨hm, by omega⟩
      have ihj := ih j
      rw [ei] at ihj
      rcases hat with e | e
      · rw [e, ihj]
        refine ⟨fun q => ⟨by omega, q.2⟩, fun q => ⟨?_, q.2⟩⟩
        by_cases z : j = i
        · subst z; have := iff.mp q.2; omega
        · omega
      · rw [e]
        refine ⟨fun q => ⟨q, ?_⟩, fun q => q.1⟩
        by_cases z : j = i
        · subst z; exact iff.mpr e
        · exact (ihj.mp (by omega)).2
    · rw [rJ, if_neg hm, ih j]
      refine ⟨fun q => ⟨by omega, q.2⟩, fun q => ⟨?_, q.2⟩⟩
      by_cases z : j = i
      · subst z; exact absurd q.2.1 hm
      · omega
theorem bc_far : ∀ e : Nat, e < 11 → bcN (nI (2 ^ e - 1)) = nI e := by decide +kernel
theorem low_mask : ∀ e : Nat, e < 11 → isMask (nI (2 ^ e - 1)) (fun s => s < e) := by
  intro e he
  have h1 : 2 ^ e ≤ 2 ^ 10 := Nat.pow_le_pow_right (by omega) (by omega)
  have h2 : 0 < 2 ^ e := Nat.two_pow_pos e
  have h3 : (2 : Nat) ^ 10 = 1024 := by decide
  refine ⟨2 ^ e - 1, by omega, rfl, fun s hs => ?_⟩
  rw [Nat.testBit_two_pow_sub_one]
  exact decide_eq_true_iff
/-- the bits of what it got through are as many as the place it came to -/
theorem bits_far (V : zVal g n k) (h0 : rGo n k q0 0) (hz : q0.1 = 0) : bcN (rGt g n b u w q0 10) = nI (rJ g n b u w q0 10).1 := by
  have hl := rJ_le (b := b) (u := u) (w := w) V h0 hz 10
  have hn := V.1
  have := isMask_eq (rGt_mask (b := b) (u := u) (w := w) V h0 10 (Nat.le_refl _)) (low_mask (rJ g n b u w q0 10).1 (by omega)) (fun s hs => (far_iff V h0 hz 10 s).symm)
  rw [this]
  exact bc_far _ (by omega)
end FAR

/-! SMALL NUMBERS -/
theorem zb_id {x : Int} (h1 : -2147483648 ≤ x) (h2 : x < 2147483648) : x.bmod 4294967296 = x := by
  unfold Int.bmod
  dsimp only
  split <;> omega
theorem zt_add {a b : Int32} (h1 : -2147483648 ≤ a.toInt + b.toInt) (h2 : a.toInt + b.toInt < 2147483648) : (a + b).toInt = a.toInt + b.toInt := by
  rw [Int32.toInt_add]; exact zb_id h1 h2
theorem zt_sub {a b : Int32} (h1 : -2147483648 ≤ a.toInt - b.toInt) (h2 : a.toInt - b.toInt < 2147483648) : (a - b).toInt = a.toInt - b.toInt := by
  rw [Int32.toInt_sub]; exact zb_id h1 h2
theorem zt_mul {a b : Int32} (h1 : -2147483648 ≤ a.toInt * b.toInt) (h2 : a.toInt * b.toInt < 2147483648) : (a * b).toInt = a.toInt * b.toInt := by
  rw [Int32.toInt_mul]; exact zb_id h1 h2
theorem zt_div2 {a : Int32} (h1 : -1000000 ≤ a.toInt) (h2 : a.toInt ≤ 1000000) : (a / 2).toInt = a.toInt.tdiv 2 := by
  rw [Int32.toInt_div]
  have : (2 : Int32).toInt = 2 := by decide
  rw [this]
  have e1 : a.toInt.tdiv 2 ≤ 1000000 := by
    rcases Int.le_total 0 a.toInt with g | g
    · rw [Int.tdiv_eq_ediv_of_nonneg g]; omega
    · have e : a.toInt.tdiv 2 = -((-a.toInt).tdiv 2) := by rw [Int.neg_tdiv, Int.neg_neg]
      rw [e, Int.tdiv_eq_ediv_of_nonneg (by omega)]; omega
  have e2 : -1000000 ≤ a.toInt.tdiv 2 := by
    rcases Int.le_total 0 a.toInt with g | g
    · rw [Int.tdiv_eq_ediv_of_nonneg g]; omega
    · have e : a.toInt.tdiv 2 = -((-a.toInt).tdiv 2) := by rw [Int.neg_tdiv, Int.neg_neg]
      rw [e, Int.tdiv_eq_ediv_of_nonneg (by omega)]; omega
  exact zb_id (by omega) (by omega)
theorem zt_nI {n : Nat} (h : n ≤ 1000000) : (nI n).toInt = n := nI_toInt (by omega)
def zIn (x : Int32) (lo hi : Int) : Prop := lo ≤ x.toInt ∧ x.toInt ≤ hi
/-- cut to 0 .. 99 -/
def s_held (x : Int32) : Int32 := if x ≥ 0 then (if x ≤ 99 then x else 99) else 0
theorem s_min_t {e : Int32} : (s_min e).toInt = if 99 < e.toInt then 99 else e.toInt := by
  unfold s_min
  have : ((99 : Int32) < e) ↔ 99 < e.toInt := by rw [Int32.lt_iff_toInt_lt]; exact Iff.rfl
  by_cases h : (99 : Int32) < e
  · rw [if_pos h, if_pos (this.mp h)]; decide
  · rw [if_neg h, if_neg (fun q => h (this.mpr q))]
theorem s_held_t {e : Int32} : (s_held e).toInt = if 0 ≤ e.toInt then (if e.toInt ≤ 99 then e.toInt else 99) else 0 := by
  unfold s_held
  have h0 : (e ≥ 0) ↔ 0 ≤ e.toInt := by rw [ge_iff_le, Int32.le_iff_toInt_le]; exact Iff.rfl
  have h9 : (e ≤ 99) ↔ e.toInt ≤ 99 := by rw [Int32.le_iff_toInt_le]; exact Iff.rfl
  by_cases a : e ≥ 0
  · rw [if_pos a, if_pos (h0.mp a)]
    by_cases b : e ≤ 99
    · rw [if_pos b, if_pos (h9.mp b)]
    · rw [if_neg b, if_neg (fun q => b (h9.mpr q))]; decide
  · rw [if_neg a, if_neg (fun q => a (h0.mpr q))]; decide
/-- the speed behind a stretch, told both ways -/
theorem s_same0 {e : Int32} (h : zIn e (-1000) 1000) : s_held e = if s_min e - 0 > 0 then s_min e - 0 else 0 := by
  have hs : (s_min e - 0).toInt = (s_min e).toInt := by rw [Int32.sub_zero]
  have hg : (s_min e - 0 > 0) ↔ 0 < (s_min e).toInt := by rw [gt_iff_lt, Int32.lt_iff_toInt_lt, hs]; exact Iff.rfl
  obtain ⟨h1, h2⟩ := h
  apply Int32.toInt_inj.mp
  rw [s_held_t]
  by_cases c : s_min e - 0 > 0
  · rw [if_pos c, hs]
    have := hg.mp c
    rw [s_min_t] at this ⊢
    split at this <;> split <;> (try split) <;> omega
  · rw [if_neg c]
    have : ¬ 0 < (s_min e).toInt := fun q => c (hg.mpr q)
    rw [s_min_t] at this
    show _ = (0 : Int)
    split at this <;> split <;> (try split) <;> omega
theorem s_same5 {e : Int32} (h : zIn e (-1000) 1000) : s_held (s_held e - 5) = if s_min e - 5 > 0 then s_min e - 5 else 0 := by
  obtain ⟨h1, h2⟩ := h
  have t5 : (5 : Int32).toInt = 5 := by decide
  have hm := s_min_t (e := e)
  have hh := s_held_t (e := e)
  have bm : -1000 ≤ (s_min e).toInt ∧ (s_min e).toInt ≤ 99 := by rw [hm]; split <;> omega
  have bh : 0 ≤ (s_held e).toInt ∧ (s_held e).toInt ≤ 99 := by rw [hh]; split <;> (try split) <;> omega
  have hs : (s_min e - 5).toInt = (s_min e).toInt - 5 := by rw [zt_sub (by rw [t5]; omega) (by rw [t5]; omega), t5]
  have hs2 : (s_held e - 5).toInt = (s_held e).toInt - 5 := by rw [zt_sub (by rw [t5]; omega) (by rw [t5]; omega), t5]
  have hg : (s_min e - 5 > 0) ↔ 0 < (s_min e).toInt - 5 := by rw [gt_iff_lt, Int32.lt_iff_toInt_lt, hs]; exact Iff.rfl
  apply Int32.toInt_inj.mp
  rw [s_held_t, hs2]
  by_cases c : s_min e - 5 > 0
  · rw [if_pos c, hs]
    have := hg.mp c
    rw [hm] at this ⊢
    rw [hh]
    repeat' split
    all_goals first | omega | (rename_i q1 q2; omega)
  · rw [if_neg c]
    have : ¬ 0 < (s_min e).toInt - 5 := fun q => c (hg.mpr q)
    rw [hm] at this
    rw [hh]
    show _ = (0 : Int)
    split at this <;> (repeat' split) <;> omega
section BND
variable {g : zHl} {n k : Nat} {b u w : Nat → Bool}
theorem zVal_r (V : zVal g n k) {r : Int32} (hr : s_rid k r) : zIn (g 3 r.toNatClampNeg) 0 9 ∧ zIn (g 4 r.toNatClampNeg) 0 9 := by
  obtain ⟨x, hx, rfl⟩ := hr
  have hk := V.2.1
  obtain ⟨⟨y, hy, e1⟩, ⟨z, hz, e2⟩⟩ := V.2.2.2 x hx
  rw [nI_tn (by omega), e1, e2]
  unfold zIn
  rw [zt_nI (by omega), zt_nI (by omega)]
  omega
theorem zVal_s (V : zVal g n k) {s : Nat} (hs : s < n) : zIn (g 1 s) 0 9 := by
  obtain ⟨-, -, y, hy, e⟩ := V.2.2.1 s hs
  rw [e]; unfold zIn; rw [zt_nI (by omega)]; omega
theorem s_bec_in (V : zVal g n k) {s : Nat} (hs : s < n) {r v : Int32} (hr : s_rid k r) (hv : zIn v 0 99) : zIn (s_bec g s r v) (-1000) 1000 := by
  obtain ⟨⟨a1, a2⟩, -⟩ := zVal_r V hr
  obtain ⟨b1, b2⟩ := zVal_s V hs
  obtain ⟨v1, v2⟩ := hv
  have t2 : (2 : Int32).toInt = 2 := by decide
  have t5 : (5 : Int32).toInt = 5 := by decide
  have e1 : (v - g 1 s).toInt = v.toInt - (g 1 s).toInt := zt_sub (by omega) (by omega)
  have e2 : (2 * g 3 r.toNatClampNeg).toInt = 2 * (g 3 r.toNatClampNeg).toInt := by rw [zt_mul (by rw [t2]; omega) (by rw [t2]; omega), t2]
  have e3 : (v + g 3 r.toNatClampNeg).toInt = v.toInt + (g 3 r.toNatClampNeg).toInt := zt_add (by omega) (by omega)
  have e4 : ((v + g 3 r.toNatClampNeg) - g 1 s).toInt = v.toInt + (g 3 r.toNatClampNeg).toInt - (g 1 s).toInt := by rw [zt_sub (by rw [e3]; omega) (by rw [e3]; omega), e3]
  unfold s_bec zIn
  split
  · rw [e1]; omega
  · split
    · rw [zt_add (by rw [e2]; omega) (by rw [e2]; omega), e2]; omega
    · split
      · rw [zt_div2 (by rw [e1]; omega) (by rw [e1]; omega), e1]
        rcases Int.le_total 0 (v.toInt - (g 1 s).toInt) with q | q
        · rw [Int.tdiv_eq_ediv_of_nonneg q]; omega
        · have e : (v.toInt - (g 1 s).toInt).tdiv 2 = -((-(v.toInt - (g 1 s).toInt)).tdiv 2) := by rw [Int.neg_tdiv, Int.neg_neg]
          rw [e, Int.tdiv_eq_ediv_of_nonneg (by omega)]; omega
      · split
        · rw [zt_add (by rw [e4, t2]; omega) (by rw [e4, t2]; omega), e4, t2]; omega
        · split
          · rw [zt_sub (by rw [e1, t5]; omega) (by rw [e1, t5]; omega), e1, t5]; omega
          · rw [e4]; omega
theorem s_v1_in {s : Nat} {v : Int32} (hv : zIn v 0 99) : zIn (s_v1 b s v) 0 99 := by
  obtain ⟨v1, v2⟩ := hv
  unfold s_v1 zIn
  split
  · rw [zt_div2 (by omega) (by omega), Int.tdiv_eq_ediv_of_nonneg v1]; omega
  · exact ⟨v1, v2⟩
theorem s_nx_in (V : zVal g n k) {s : Nat} (hs : s < n) {r v : Int32} (hr : s_rid k r) (hv : zIn v 0 99) : zIn (s_nx g n w s v r).2.1 0 99 := by
  have hb := s_bec_in V hs hr hv
  unfold s_nx
  split
  · split
    · rename_i h1 h2
      obtain ⟨q1, q2⟩ := hb
      have hm := s_min_t (e := s_bec g s r v)
      have bm : (s_min (s_bec g s r v)).toInt ≤ 99 ∧ -1000 ≤ (s_min (s_bec g s r v)).toInt := by rw [hm]; split <;> omega
      have bw : 0 ≤ (s_wd w s).toInt ∧ (s_wd w s).toInt ≤ 5 := by unfold s_wd; split <;> decide
      have hs2 : (s_min (s_bec g s r v) - s_wd w s).toInt = (s_min (s_bec g s r v)).toInt - (s_wd w s).toInt := zt_sub (by omega) (by omega)
      have := Int32.lt_iff_toInt_lt.mp h2
      have t0 : (0 : Int32).toInt = 0 := by decide
      unfold zIn
      dsimp only
      rw [hs2] at this ⊢
      rw [t0] at this
      omega
    · exact (show zIn 0 0 99 from ⟨by decide, by decide⟩)
  · exact hv
theorem rJ_in {q0 : zQ} (V : zVal g n k) (h0 : rGo n k q0 0) (hq : zIn q0.2.1 0 99) : ∀ i, zIn (rJ g n b u w q0 i).2.1 0 99 := by
  intro i
  induction i with
  | zero => exact hq
  | succ i ih =>
    rw [rJ]
    split
    · rename_i hm
      obtain ⟨e1, e2, e3⟩ := rJ_go (b := b) (u := u) (w := w) V h0 i hm
      exact s_nx_in V (by omega) (s_r1_rid V (by omega) e3) (s_v1_in ih)
    · exact ih
end BND

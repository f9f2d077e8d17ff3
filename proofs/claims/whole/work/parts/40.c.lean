/-! COUNT -/
def fI (g : zHl) (i : Nat) (acc : Int32) : Int32 := if g 2 i = -9 then acc else acc ||| ((1 : Int32) <<< (nI i &&& 31))
theorem fI_mask {g : zHl} : ∀ i, i ≤ 10 → isMask (zfo (fI g) 0 i) (fun s => s < i ∧ g 2 s ≠ -9) := by
  intro i
  induction i with
  | zero => intro _; exact isMask_ex isMask_0 (fun s _ => ⟨fun q => False.elim q, fun q => absurd q.1 (by omega)⟩)
  | succ i ih =>
    intro hi
    rw [zfo]
    unfold fI
    by_cases q : g 2 i = -9
    · rw [if_pos q]
      refine isMask_ex (ih (by omega)) (fun s hs => ⟨fun z => ⟨by omega, z.2⟩, fun z => ⟨?_, z.2⟩⟩)
      by_cases e : s = i
      · rw [e] at z; exact absurd q z.2
      · omega
    · rw [if_neg q]
      refine isMask_ex (isMask_or (ih (by omega)) (show i < 10 by omega)) (fun s hs => ⟨fun z => ?_, fun z => ?_⟩)
      · rcases z with z | z
        · exact ⟨by omega, z.2⟩
        · rw [z]; exact ⟨by omega, q⟩
      · by_cases e : s = i
        · exact Or.inr e
        · exact Or.inl ⟨by omega, z.2⟩
theorem c_wmask {d : Nat} {h : zH} {g : zHl} {n k : Nat} (H : zHil h 1 g n k) (V : zVal g n k) : zcal (d + 2) 45 [.ref 1] h = some (some (.int (zfo (fI g) 0 n)), h) := by
  have hn := V.1
  have c := z_loop (S := fun (acc : Int32) i => zE (d + 1) 45 (4, [some (.ref 1), some (.int acc), some (.int (nI i))], [], h)) (F := fI g) (s0 := 0) (N := n) (fun i hi => by
    show zE (d + 1) 45 (4, [some (.ref 1), some (.int _), some (.int (nI i))], [], h) = _
    rw [E45_1_at4, H.1, if_neg (nI_ge hi (by omega)), c_get (n := 10) rfl (by omega), zCi_some, gt_nI (by omega) (by omega), (H.2.2.1 i hi).2.2, nI_1, zfo]
    unfold fI
    by_cases q : g 2 i = -9
    · rw [if_pos q, if_pos q]
    · rw [if_neg q, if_neg q])
  rw [E45_1]
  refine c.trans ?_
  show zE (d + 1) 45 (4, [some (.ref 1), some (.int _), some (.int (nI n))], [], h) = _
  rw [E45_1_at4, H.1, if_pos (nI_le (Nat.le_refl _) (by omega))]
theorem r_wmask {d : Nat} {h : zH} {g : zHl} {n k : Nat} (H : zHr h g n k) (V : zVal g n k) : zcal (d + 1) 190 [.ref 32] h = some (some (.int (zfo (fI g) 0 n)), h) := by
  have hn := V.1
  have c := z_loop (S := fun (acc : Int32) i => zE d 190 (4, [some (.ref 32), some (.int acc), some (.int (nI i))], [], h)) (F := fI g) (s0 := 0) (N := n) (fun i hi => by
    show zE d 190 (4, [some (.ref 32), some (.int _), some (.int (nI i))], [], h) = _
    rw [E190_32_at4, H.1, if_neg (nI_ge hi (by omega)), zG_nI (by omega) (by omega), nI_tn (by omega), (H.2.2.1 i hi).2.2, nI_1, zfo]
    unfold fI
    rcases (V.2.2.1 i hi).1 with e | ⟨x, hx, e⟩
    · rw [e, if_pos (show (-9 : Int32) < 0 by decide), if_pos rfl, Int32.or_zero]
    · have := V.2.1
      rw [e, if_neg (nI_pos (by omega)), if_neg (enc_9 (by omega))])
  rw [E190_32]
  refine c.trans ?_
  show zE d 190 (4, [some (.ref 32), some (.int _), some (.int (nI n))], [], h) = _
  rw [E190_32_at4, H.1, if_pos (nI_le (Nat.le_refl _) (by omega))]
theorem nI_sb {a b : Nat} (h : b ≤ a) : nI a - nI b = nI (a - b) := by
  have : nI a = nI (a - b) + nI b := by rw [nn_add, show a - b + b = a by omega]
  rw [this, Int32.add_sub_cancel]
theorem nI_mid {x : Int32} {lo hi : Nat} (hh : hi ≤ 1000000) (hl : lo ≤ hi) (h0 : nI lo ≤ x) (h1 : x ≤ nI hi) : ∃ j, lo ≤ j ∧ j ≤ hi ∧ x = nI j := by
  obtain ⟨j, hj, e⟩ := nI_num hh (Int32.le_trans (nI_pos' (show lo < 2 ^ 31 by omega)) h0) h1
  refine ⟨j, ?_, hj, e⟩
  rcases Nat.lt_or_ge j lo with q | q
  · rw [e] at h0
    exact absurd h0 (Int32.not_le.mpr (nI_lt q (by omega)))
  · exact q
theorem sim_count {a : Int32} : zSim 44 227 [.int a] := by
  intro d h R
  obtain ⟨⟨g, n, k, RH, RT, RR, RI, RP, RZ⟩, C⟩ := id R
  have V := RH.1; have H1 := RH.2.1; have H2 := RH.2.2.1; have Q := RH.2.2.2.2
  have hn := V.1
  obtain ⟨t, t1, t2, t3, t4⟩ := RT
  obtain ⟨m, m1, m2, m3, m4⟩ := RR
  obtain ⟨f, c, P⟩ := RelP_f RP
  by_cases in6 : (11 : Int32) ≤ a ∧ a ≤ 16
  · obtain ⟨j, j1, j2, rfl⟩ := nI_mid (lo := 11) (hi := 16) (by omega) (by omega) in6.1 in6.2
    have s1 : nI j - (11 : Int32) = nI (j - 11) := nI_sb (b := 11) j1
    have s2 : nI j - (10 : Int32) = nI (j - 10) := nI_sb (b := 10) (by omega)
    refine sim_ok (v := .int (h 30 (j - 11))) (h1 := h) (h2 := h) ?_ ?_ R
    · rw [E44_0, if_neg (Int32.not_lt.mpr in6.1), if_neg (Int32.not_lt.mpr in6.2), s1, c_get (n := 6) rfl (by omega), zCi_some, gt_nI (by omega) (by omega)]
    · rw [E227_32, r_isIn, if_pos in6, zCi_some, if_neg (by decide), s2, zG_nI (by omega) (by omega), nI_tn (by omega), ← C (j - 11) (by omega), show j - 11 + 1 = j - 10 by omega]
  · have pre : zcal (d + 10) 44 [.ref 0, .int a] h = zE (d + 9) 44 (24, [some (.ref 0), some (.int a)], [], h) := by
      rw [E44_0]
      by_cases q : a < 11
      · rw [if_pos q]
      · rw [if_neg q, if_pos (Int32.not_le.mp (fun z => in6 ⟨Int32.not_lt.mp q, z⟩))]
    by_cases a0 : a = 0
    · exact sim_ok (by rw [pre, E44_0_at24, if_pos a0, H1.1]) (by rw [E227_32, r_isIn, if_neg in6, zCi_some, if_pos rfl, if_pos a0, H2.1]) R
    · by_cases a1 : a = 1
      · exact sim_ok (by rw [pre, E44_0_at24, if_neg a0, if_pos a1, H1.2.1]) (by rw [E227_32, r_isIn, if_neg in6, zCi_some, if_pos rfl, if_neg a0, if_pos a1, H2.2.1]) R
      · by_cases a2 : a = 2
        · exact sim_ok (by rw [pre, E44_0_at24, if_neg a0, if_neg a1, if_pos a2]) (by rw [E227_32, r_isIn, if_neg in6, zCi_some, if_pos rfl, if_neg a0, if_neg a1, if_pos a2, show h 32 8 = h 1 7 from Q 0 (by omega)]) R
        · by_cases a3 : a = 3
          · exact sim_ok (by rw [pre, E44_0_at24, if_neg a0, if_neg a1, if_neg a2, if_pos a3]) (by rw [E227_32, r_isIn, if_neg in6, zCi_some, if_pos rfl, if_neg a0, if_neg a1, if_neg a2, if_pos a3, show h 32 13 = h 1 12 from Q 5 (by omega)]) R
          · by_cases a4 : a = 4
            · exact sim_ok (by rw [pre, E44_0_at24, if_neg a0, if_neg a1, if_neg a2, if_neg a3, if_pos a4, c_wmask (d := d + 7) H1 V, zCi_some, c_bits (fI_mask n hn), zCi_some]) (by rw [E227_32, r_isIn, if_neg in6, zCi_some, if_pos rfl, if_neg a0, if_neg a1, if_neg a2, if_neg a3, if_pos a4, r_wmask H2 V, zCi_some, r_bits, zCi_some]) R
            · by_cases a5 : a = 5
              · exact sim_ok (by rw [pre, E44_0_at24, if_neg a0, if_neg a1, if_neg a2, if_neg a3, if_neg a4, if_pos a5, t2]) (by rw [E227_32, r_isIn, if_neg in6, zCi_some, if_pos rfl, if_neg a0, if_neg a1, if_neg a2, if_neg a3, if_neg a4, if_pos a5, t3]) R
              · by_cases a6 : a = 6
                · exact sim_ok (by rw [pre, E44_0_at24, if_neg a0, if_neg a1, if_neg a2, if_neg a3, if_neg a4, if_neg a5, if_pos a6, m2]) (by rw [E227_32, r_isIn, if_neg in6, zCi_some, if_pos rfl, if_neg a0, if_neg a1, if_neg a2, if_neg a3, if_neg a4, if_neg a5, if_pos a6, m3]) R
                · by_cases a7 : a = 7
                  · exact sim_ok (by rw [pre, E44_0_at24, if_neg a0, if_neg a1, if_neg a2, if_neg a3, if_neg a4, if_neg a5, if_neg a6, if_pos a7, P.2.2.2.1]) (by rw [E227_32, r_isIn, if_neg in6, zCi_some, if_pos rfl, if_neg a0, if_neg a1, if_neg a2, if_neg a3, if_neg a4, if_neg a5, if_neg a6, if_pos a7, P.2.2.2.2.1]) R
                  · exact sim_ok (by rw [pre, E44_0_at24, if_neg a0, if_neg a1, if_neg a2, if_neg a3, if_neg a4, if_neg a5, if_neg a6, if_neg a7]) (by rw [E227_32, r_isIn, if_neg in6, zCi_some, if_pos rfl, if_neg a0, if_neg a1, if_neg a2, if_neg a3, if_neg a4, if_neg a5, if_neg a6, if_neg a7]) R

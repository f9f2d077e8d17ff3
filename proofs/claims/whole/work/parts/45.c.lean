/-! THE BEST START -/
def fS (e : Nat → Nat) (i : Nat) (acc : Option (Nat × Nat)) : Option (Nat × Nat) := match acc with
  | none => some (i, e i)
  | some q => if q.2 < e i then some (i, e i) else some q
def fA (p : Nat → Bool) (i : Nat) (acc : Option Nat) : Option Nat := match acc with
  | none => if p i = true then some i else none
  | some s => some s
def eS : Option (Nat × Nat) → Int32
  | none => 0
  | some q => nI q.1
def eV (z : Int32) : Option (Nat × Nat) → Int32
  | none => z
  | some q => nI q.2
theorem fS_le {e : Nat → Nat} {m : Nat} (he : ∀ i, e i ≤ m) : ∀ i q, zfo (fS e) none i = some q → q.2 ≤ m := by
  intro i
  induction i with
  | zero => intro q h; cases h
  | succ i ih =>
    intro q h
    rw [zfo] at h
    unfold fS at h
    split at h
    · injection h with h; rw [← h]; exact he i
    · rename_i q' e'
      split at h
      · injection h with h; rw [← h]; exact he i
      · injection h with h; rw [← h]; exact ih q' e'
theorem fS_some {e : Nat → Nat} (i : Nat) : ∃ q, zfo (fS e) none (i + 1) = some q := by
  rw [zfo]
  unfold fS
  split
  · exact ⟨_, rfl⟩
  · split
    · exact ⟨_, rfl⟩
    · exact ⟨_, rfl⟩
theorem fA_stay {p : Nat → Bool} {i s : Nat} (h : zfo (fA p) none i = some s) : ∀ j, i ≤ j → zfo (fA p) none j = some s := by
  intro j hj
  induction hj with
  | refl => exact h
  | step _ ih => rw [zfo, ih]; rfl
theorem c_endN {d : Nat} {x : zH} {g : zHl} {n k : Nat} (V : zVal g n k) (x1 : zHil x 7 g n k) {v : Int32} : ∃ y, zcal (d + 5) 61 [.ref 19, .ref 7] (z_up x 7 7 v) = some (some (.int (nI (eN g n k v).1)), y) ∧ zHil y 7 g n k ∧ zFr zMT x y := by
  have x1' : zHil (z_up x 7 7 v) 7 g n k := zHil_mv x1 (zu_ni _ _ (by omega)) (zu_ni _ _ (by omega)) (fun j p q => z_up_ne (by omega))
  obtain ⟨y, ey, Iy, Fy⟩ := c_end (d := d) x1' V
  unfold eN
  rw [zu_eq] at ey Iy
  exact ⟨y, ey, Iy.1, zFr_tr (zFr_up (by unfold zMT; omega)) Fy⟩
theorem c_arrN {d : Nat} {x : zH} {g : zHl} {n k : Nat} (V : zVal g n k) (x1 : zHil x 7 g n k) {v : Int32} : ∃ y, zcal (d + 5) 93 [.ref 19, .ref 7] (z_up x 7 7 v) = some (some (.int (if (eN g n k v).2.2.2 = 3 then 1 else 0)), y) ∧ zHil y 7 g n k ∧ zFr zMT x y := by
  have x1' : zHil (z_up x 7 7 v) 7 g n k := zHil_mv x1 (zu_ni _ _ (by omega)) (zu_ni _ _ (by omega)) (fun j p q => z_up_ne (by omega))
  obtain ⟨y, ey, Iy, Fy⟩ := c_arr (d := d) x1' V
  unfold eN
  rw [zu_eq] at ey Iy
  exact ⟨y, ey, Iy.1, zFr_tr (zFr_up (by unfold zMT; omega)) Fy⟩
theorem sim_bestStart {a : Int32} : zSim 91 183 [.int a] := by
  intro d h R
  obtain ⟨⟨g, n, k, R0⟩, C⟩ := id R
  have V := R0.1.1
  have hn := V.1
  by_cases in2 : (0 : Int32) ≤ a ∧ a ≤ 2
  · have el : ∀ i : Nat, (eN g n k (nI i)).1 ≤ n := fun i => eN_le V
    have ey0 : ∀ (d : Nat) (x : zH), zHil x 7 g n k → ∀ i, i < 100 → ∃ y, zcal (d + 5) 61 [.ref 19, .ref 7] (z_up x 7 7 (nI i)) = some (some (.int (nI (eN g n k (nI i)).1)), y) ∧ zHil y 7 g n k ∧ zFr zMT x y := fun d x x1 i hi => c_endN V x1
    have ea0 : ∀ (d : Nat) (x : zH), zHil x 7 g n k → ∀ i, i < 100 → ∃ y, zcal (d + 5) 93 [.ref 19, .ref 7] (z_up x 7 7 (nI i)) = some (some (.int (if (eN g n k (nI i)).2.2.2 = 3 then 1 else 0)), y) ∧ zHil y 7 g n k ∧ zFr zMT x y := fun d x x1 i hi => c_arrN V x1
    have er0 : ∀ (d : Nat) (x : zH), Rel0 g n k x → ∀ i, i < 100 → ∃ y, zcal (d + 5) 184 [.ref 32, .int (nI i)] x = some (some (.int (nI (eN g n k (nI i)).1)), y) ∧ y 32 31 = (eN g n k (nI i)).2.2.2 ∧ rfF x y := fun d x x1 i hi => r_184 x1 ⟨by rw [nI_toInt (by omega)]; omega, by rw [nI_toInt (by omega)]; omega⟩
    generalize he : (fun i : Nat => (eN g n k (nI i)).1) = ef
    have ed : ∀ i, (eN g n k (nI i)).1 = ef i := fun i => by rw [← he]
    generalize hp : (fun i : Nat => decide ((eN g n k (nI i)).2.2.2 = 3)) = pf
    have pd : ∀ i, pf i = decide ((eN g n k (nI i)).2.2.2 = 3) := fun i => by rw [← hp]
    generalize hm : (fun i : Nat => (eN g n k (nI i)).2.2.2) = mf
    have md : ∀ i, (eN g n k (nI i)).2.2.2 = mf i := fun i => by rw [← hm]
    simp only [md] at ea0 er0 pd
    simp only [ed] at ey0 er0 el
    clear he hp hm ed md
    have i99 : ∀ i, i < 100 → ¬ nI i > (99 : Int32) := fun i hi => Int32.not_lt.mpr (nI_le (b := 99) (by omega) (by omega))
    have fl := fS_le el
    obtain ⟨qN, hqN⟩ := fS_some (e := ef) 99
    -- the reference's loop
    have lr : ∀ m i x (x6 : Option Value), i + m = 100 → Rel0 g n k x → ∃ y, zE (d + 9) 183 (28, [some (.ref 32), some (.int a), some (.int (eS (zfo (fS ef) none i))), some (.int (enc (zfo (fA pf) none i))), some (.int (eV (-9) (zfo (fS ef) none i))), some (.int (nI i)), x6], [], x) = some (some (.int (if a = 0 then nI qN.1 else if a = 1 then nI qN.2 else enc (zfo (fA pf) none 100))), y) ∧ rfF x y := by
      intro m
      induction m with
      | zero =>
        intro i x x6 hi hx
        have hi : i = 100 := hi
        subst hi
        refine ⟨x, ?_, rfF_rf⟩
        rw [E183_32_at28, if_pos (show nI 100 > (99 : Int32) by decide), hqN]
        by_cases a0 : a = 0
        · rw [if_pos a0, if_pos a0]; rfl
        · rw [if_neg a0, if_neg a0]
          by_cases a1 : a = 1
          · rw [if_pos a1, if_pos a1]; rfl
          · rw [if_neg a1, if_neg a1]
      | succ m ih =>
        intro i x x6 hi hx
        obtain ⟨y, ey, em, Gy⟩ := er0 (d + 4) x hx i (by omega)
        obtain ⟨z, ez, Gz⟩ := ih (i + 1) y (some (.int (nI (ef i)))) (by omega) (Rel0_mv hx (zPers_rf2 Gy))
        refine ⟨z, ?_, rfF_tr Gy Gz⟩
        rw [← ez, E183_32_at28, if_neg (i99 i (by omega)), ey, zCi_some, em, nI_1, zfo, zfo]
        have hv : (nI (ef i) > eV (-9) (zfo (fS ef) none i)) ↔ fS ef i (zfo (fS ef) none i) = some (i, ef i) ∧ (∀ q, zfo (fS ef) none i = some q → q.2 < ef i) := by
          cases hz : zfo (fS ef) none i with
          | none => exact ⟨fun _ => ⟨rfl, fun q h => by cases h⟩, fun _ => by
              have h9 := nI_toInt (n := ef i) (by have := el i; omega)
              have t9 : (-9 : Int32).toInt = -9 := by decide
              show (-9 : Int32) < nI (ef i)
              rw [Int32.lt_iff_toInt_lt]; omega⟩
          | some q =>
            have b1 := fl i q hz
            have b2 := el i
            show (nI q.2 < nI (ef i)) ↔ _
            rw [lt_nI (by omega) (by omega)]
            refine ⟨fun hl => ⟨by show (if q.2 < ef i then some (i, ef i) else some q) = _; rw [if_pos hl], fun q' h => by injection h with h; rw [← h]; exact hl⟩, fun hh => hh.2 q rfl⟩
        have hv2 : ¬ (nI (ef i) > eV (-9) (zfo (fS ef) none i)) → fS ef i (zfo (fS ef) none i) = zfo (fS ef) none i := by
          intro hh
          cases hz : zfo (fS ef) none i with
          | none => rw [hz] at hh; exact absurd (hv.mpr ⟨by rw [hz]; rfl, fun q h => by rw [hz] at h; cases h⟩) (by rw [hz]; exact hh)
          | some q =>
            have b1 := fl i q hz
            have b2 := el i
            rw [hz] at hh
            have hl : ¬ q.2 < ef i := fun l => hh ((lt_nI (by omega) (by omega)).mpr l)
            show (if q.2 < ef i then some (i, ef i) else some q) = _
            rw [if_neg hl]
        have key : ∀ X3 : Int32, enc (fA pf i (zfo (fA pf) none i)) = X3 → (if nI (ef i) > eV (-9) (zfo (fS ef) none i) then zE (d + 9) 183 (28, [some (.ref 32), some (.int a), some (.int (nI i)), some (.int X3), some (.int (nI (ef i))), some (.int (nI (i + 1))), some (.int (nI (ef i)))], [], y) else zE (d + 9) 183 (28, [some (.ref 32), some (.int a), some (.int (eS (zfo (fS ef) none i))), some (.int X3), some (.int (eV (-9) (zfo (fS ef) none i))), some (.int (nI (i + 1))), some (.int (nI (ef i)))], [], y)) = zE (d + 9) 183 (28, [some (.ref 32), some (.int a), some (.int (eS (fS ef i (zfo (fS ef) none i)))), some (.int (enc (fA pf i (zfo (fA pf) none i)))), some (.int (eV (-9) (fS ef i (zfo (fS ef) none i)))), some (.int (nI (i + 1))), some (.int (nI (ef i)))], [], y) := by
          intro X3 hX
          rw [hX]
          by_cases q : nI (ef i) > eV (-9) (zfo (fS ef) none i)
          · rw [if_pos q, (hv.mp q).1]; rfl
          · rw [if_neg q, hv2 q]
        cases hz : zfo (fA pf) none i with
        | some s =>
          have hs : (0 : Int32) ≤ nI s ∨ True := Or.inr trivial
          rw [hz] at key
          have hsl : s < 100 := by
            have : ∀ j t, zfo (fA pf) none j = some t → t < j := by
              intro j
              induction j with
              | zero => intro t h; cases h
              | succ j ih2 =>
                intro t h
                rw [zfo] at h
                unfold fA at h
                split at h
                · split at h
                  · injection h with h; omega
                  · cases h
                · rename_i s' e'
                  injection h with h
                  have := ih2 s' e'
                  omega
            have := this i s hz
            omega
          rw [show enc (some s) = nI s from rfl, if_pos (show nI s ≥ 0 from nI_pos' (by omega))]
          exact key (nI s) rfl
        | none =>
          rw [hz] at key
          rw [show enc none = -9 from rfl, if_neg (show ¬ (-9 : Int32) ≥ 0 by decide)]
          by_cases q : mf i = 3
          · rw [if_pos q]
            exact key (nI i) (by show enc (if pf i = true then some i else none) = _; rw [pd, if_pos (decide_eq_true q)]; rfl)
          · rw [if_neg q]
            exact key (-9) (by show enc (if pf i = true then some i else none) = _; rw [pd, if_neg (fun z => q (of_decide_eq_true z))]; rfl)
    have fin : ∀ (h2 : zH) (v : Int32), zFr zMT h h2 → zcal (d + 10) 91 [.ref 0, .int a] h = some (some (.int v), h2) → v = (if a = 0 then nI qN.1 else if a = 1 then nI qN.2 else enc (zfo (fA pf) none 100)) → ∃ (v : Value) (h1 h2 : zH), zcal (d + 10) 91 (.ref 0 :: [.int a]) h = some (some v, h1) ∧ zcal (d + 10) 183 (.ref 32 :: [.int a]) h1 = some (some v, h2) ∧ Rel h2 := by
      intro h2 v F ev hv
      have R2 := Rel0_mv R0 (zPers_mt F)
      have C2 := RelC_mt C F
      obtain ⟨y, ey, Gy⟩ := lr 100 0 h2 none (by omega) R2
      refine sim_ok ev ?_ (Rel_of R2 C2 Gy)
      rw [E183_32, r_isIn, if_pos in2, zCi_some, if_neg (by decide), hv]
      exact ey
    have an : ¬ a < 0 := Int32.not_lt.mpr in2.1
    obtain ⟨h1, e1, K1, _, F1⟩ := c_like (d := d + 6) R0.1.2.1 V
    obtain ⟨h1', e1', K1', _, F1'⟩ := c_like (d := d + 5) R0.1.2.1 V
    by_cases a2 : a = 2
    · have ls : ∀ m i x, i + m = 100 → zHil x 7 g n k → zfo (fA pf) none i = none → ∃ y, zE (d + 8) 92 (13, [some (.ref 0), some (.int (nI i))], [], x) = some (some (.int (enc (zfo (fA pf) none 100))), y) ∧ zFr zMT x y := by
        intro m
        induction m with
        | zero =>
          intro i x hi hx hz
          have hi : i = 100 := hi
          subst hi
          exact ⟨x, by rw [E92_0_at13, if_pos (show nI 100 > (99 : Int32) by decide), hz]; rfl, zFr_rf⟩
        | succ m ih =>
          intro i x hi hx hz
          obtain ⟨y, ey, Hy, Fy⟩ := ea0 (d + 3) x hx i (by omega)
          have st : zfo (fA pf) none (i + 1) = if pf i = true then some i else none := by rw [zfo, hz]; rfl
          rw [E92_0_at13, if_neg (i99 i (by omega)), ey, zCi_some]
          by_cases q : mf i = 3
          · rw [if_pos q, if_neg (by decide)]
            rw [pd, if_pos (decide_eq_true q)] at st
            exact ⟨y, by rw [fA_stay st 100 (by omega)]; rfl, Fy⟩
          · rw [if_neg q, if_pos rfl, nI_1]
            rw [pd, if_neg (fun z => q (of_decide_eq_true z))] at st
            obtain ⟨z, ez, Fz⟩ := ih (i + 1) y (by omega) Hy st
            exact ⟨z, ez, zFr_tr Fy Fz⟩
      obtain ⟨y, ey, Fy⟩ := ls 100 0 h1' (by omega) K1' rfl
      refine fin y _ (zFr_tr F1' Fy) (by rw [E91_0, if_neg an, if_pos in2.2, if_pos a2, E92_0, e1', zCv_some]; exact (congrArg (fun o => zCi o _) ey).trans (by rw [zCi_some])) ?_
      rw [if_neg (by rw [a2]; decide), if_neg (by rw [a2]; decide)]
    · have ls : ∀ m i x (x5 : Option Value), i + m = 100 → zHil x 7 g n k → ∃ y, zE (d + 9) 91 (44, [some (.ref 0), some (.int a), some (.int (eS (zfo (fS ef) none i))), some (.int (eV (-1) (zfo (fS ef) none i))), some (.int (nI i)), x5], [], x) = some (some (.int (if a = 0 then nI qN.1 else nI qN.2)), y) ∧ zFr zMT x y := by
        intro m
        induction m with
        | zero =>
          intro i x x5 hi hx
          have hi : i = 100 := hi
          subst hi
          refine ⟨x, ?_, zFr_rf⟩
          rw [E91_0_at44, if_pos (show nI 100 > (99 : Int32) by decide), hqN]
          by_cases a0 : a = 0
          · rw [if_pos a0, if_pos a0]; rfl
          · rw [if_neg a0, if_neg a0]; rfl
        | succ m ih =>
          intro i x x5 hi hx
          obtain ⟨y, ey, Hy, Fy⟩ := ey0 (d + 4) x hx i (by omega)
          obtain ⟨z, ez, Fz⟩ := ih (i + 1) y (some (.int (nI (ef i)))) (by omega) Hy
          refine ⟨z, ?_, zFr_tr Fy Fz⟩
          rw [← ez, E91_0_at44, if_neg (i99 i (by omega)), ey, zCi_some, nI_1, zfo]
          have b2 := el i
          cases hz : zfo (fS ef) none i with
          | none =>
            have : ¬ nI (ef i) ≤ eV (-1) none := by
              show ¬ nI (ef i) ≤ (-1 : Int32)
              have h9 := nI_toInt (n := ef i) (by omega)
              have t9 : (-1 : Int32).toInt = -1 := by decide
              rw [Int32.le_iff_toInt_le]; omega
            rw [if_neg this]
            rfl
          | some q =>
            have b1 := fl i q hz
            by_cases l : q.2 < ef i
            · rw [if_neg (show ¬ nI (ef i) ≤ eV (-1) (some q) from Int32.not_le.mpr (nI_lt l (by omega)))]
              have : fS ef i (some q) = some (i, ef i) := if_pos l
              rw [this]
              rfl
            · rw [if_pos (show nI (ef i) ≤ eV (-1) (some q) from nI_le (by omega) (by omega))]
              have : fS ef i (some q) = some q := if_neg l
              rw [this]
      obtain ⟨y, ey, Fy⟩ := ls 100 0 h1 none (by omega) K1
      refine fin y _ (zFr_tr F1 Fy) (by rw [E91_0, if_neg an, if_pos in2.2, if_neg a2, e1, zCv_some]; exact ey) ?_
      by_cases a0 : a = 0
      · rw [if_pos a0, if_pos a0]
      · have a1 : a = 1 := by
          obtain ⟨x, hx, rfl⟩ := nI_num (m := 2) (by omega) in2.1 in2.2
          have : x = 0 ∨ x = 1 ∨ x = 2 := by omega
          rcases this with rfl | rfl | rfl
          · exact absurd rfl a0
          · rfl
          · exact absurd rfl a2
        rw [if_neg a0, if_neg a0, if_pos a1]
  · refine sim_rf R (c := -2) (j := 1) (by omega) ?_ ?_
    · rw [E91_0]
      by_cases q : a < 0
      · rw [if_pos q, c_rf2, zCi_some]
      · rw [if_neg q, if_neg (fun z => in2 ⟨Int32.not_lt.mp q, z⟩), c_rf2, zCi_some]
    · rw [E183_32, r_isIn, if_neg in2, zCi_some, if_pos rfl, r_no2, zCi_some]

/-! A HILL TOLD IN LETTERS: WHAT COMES -/
section OPS
def zC7 (g : zHl) (n k : Nat) (f : Nat → Int32) (x : zH) : Prop := zVal g n k ∧ zHil x 7 g n k ∧ bOk n k f ∧ ∀ i, i < 6 → x 7 (7 + i) = f i
def zRR (g : zHl) (n k : Nat) (f : Nat → Int32) (x : zH) : Prop := zVal g n k ∧ zHr x g n k ∧ bOk n k f ∧ (∀ i, i < 6 → x 32 (8 + i) = f i) ∧ rAt0 x
def fRR (x y : zH) : Prop := (∀ a, a ≠ 32 → (a < 34 ∨ 38 < a) → a ≠ 44 → a ≠ 45 → y a = x a) ∧ (∀ j, j < 6 ∨ (13 < j ∧ j < 28) ∨ 35 < j → y 32 j = x 32 j) ∧ ∀ a j, 34 ≤ a → a ≤ 38 → (10 ≤ j ∨ (36 < a ∧ 5 ≤ j)) → y a j = x a j
theorem fRR_tr {x y z : zH} (A : fRR x y) (B : fRR y z) : fRR x z := ⟨fun a p q r s => (B.1 a p q r s).trans (A.1 a p q r s), fun j p => (B.2.1 j p).trans (A.2.1 j p), fun a j p q r => (B.2.2 a j p q r).trans (A.2.2 a j p q r)⟩
def opR (mc mr : Nat) (ac ar : List Value) (g : zHl) (n k : Nat) (f : Nat → Int32) : Prop :=
  (∃ (g' : zHl) (n' k' : Nat) (f' : Nat → Int32), (zVal g' n' k' ∧ bOk n' k' f') ∧ (∀ d x, zC7 g n k f x → ∃ y, zcal (d + 6) mc ac x = some (some (.int 1), y) ∧ zC7 g' n' k' f' y ∧ zFr zMT x y) ∧ ∀ d x, zRR g n k f x → ∃ y, zcal (d + 6) mr ar x = some (some (.int 1), y) ∧ zRR g' n' k' f' y ∧ fRR x y) ∨ ((∀ d x, zC7 g n k f x → zcal (d + 6) mc ac x = some (some (.int 0), x)) ∧ ∀ d x, zRR g n k f x → zcal (d + 6) mr ar x = some (some (.int 0), x))
section O
variable {g : zHl} {n k : Nat} {f : Nat → Int32}
theorem op_S (V : zVal g n k) (B : bOk n k f) {a b : Nat} (ha : a < 10) (hb : b < 10) : opR 20 136 [.ref 7, .int (nI a), .int (nI b)] [.ref 32, .int (nI a), .int (nI b)] g n k f := by
  have hn := V.1
  by_cases a6 : a < 6
  · by_cases n10 : n < 10
    · refine Or.inl ⟨gS g n (nI a) (nI b), n + 1, k, f, ⟨zVal_S V n10 a6 hb, bOk_mo (by omega) (Nat.le_refl _) B⟩, fun d x X => ?_, fun d x X => ?_⟩
      · obtain ⟨y, ey, y1, y2, y3⟩ := c_addS_7 (d := d + 3) X.2.1 n10 (a := nI a) (b := nI b)
        refine ⟨y, ?_, ⟨zVal_S V n10 a6 hb, y1, bOk_mo (by omega) (Nat.le_refl _) B, fun i hi => by rw [y2 _ (by omega)]; exact X.2.2.2 i hi⟩, fun c hc => y3 c (by unfold zMT at hc; omega)⟩
        rw [E20_7, if_neg (show ¬ nI a ≥ (6 : Int32) from nI_ge (b := 6) a6 (by omega)), X.2.1.1, if_neg (show ¬ nI n ≥ (10 : Int32) from nI_ge (b := 10) n10 (by omega)), if_neg (by decide), ey, zCi_some]
      · obtain ⟨y, ey, y1, y2, y3⟩ := r_addS (d := d + 4) X.2.1 n10 (a := nI a) (b := nI b)
        have ex : zcal (d + 5) 137 [.ref 32, .int (nI a), .int (nI b)] x = some (none, z_up (z_up (z_up (z_up x 34 n (nI a)) 35 n (nI b)) 36 n (-9)) 32 6 (nI n + 1)) := by rw [E137_32, X.2.1.1, zG_nI (by omega) (by omega), zG_nI (by omega) (by omega), zG_nI (by omega) (by omega), nI_tn (by omega)]
        have ey2 := ey
        rw [ex] at ey2
        injection ey2 with ey2
        injection ey2 with _ ey2
        have far : ∀ c j, 34 ≤ c → c ≤ 38 → (10 ≤ j ∨ (36 < c ∧ 5 ≤ j)) → y c j = x c j := fun c j p q r => by
          rw [← ey2, zu_nc _ _ (by omega), zu_ap, if_neg (by omega), zu_ap, if_neg (by omega), zu_ap, if_neg (by omega)]
        refine ⟨y, ?_, ⟨zVal_S V n10 a6 hb, y1, bOk_mo (by omega) (Nat.le_refl _) B, fun i hi => by rw [y2 _ (by omega)]; exact X.2.2.2.1 i hi, rAt0_mv X.2.2.2.2 (fun j p q => y2 j (by omega))⟩, fun c p q r s => y3 c p (by omega), fun j hj => y2 j (by omega), far⟩
        rw [E136_32, if_neg (show ¬ nI a > (5 : Int32) from Int32.not_lt.mpr (nI_le (b := 5) (by omega) (by omega))), X.2.1.1, if_neg (fun z => by have := (nI_eq (a := n) (b := 10) (by omega) (by omega)).mp z; omega), ey, zCv_some]
    · have hn : n = 10 := by omega
      subst hn
      refine Or.inr ⟨fun d x X => ?_, fun d x X => ?_⟩
      · rw [E20_7, if_neg (show ¬ nI a ≥ (6 : Int32) from nI_ge (b := 6) a6 (by omega)), X.2.1.1, if_pos (show nI 10 ≥ (10 : Int32) by decide), if_pos rfl]
      · rw [E136_32, if_neg (show ¬ nI a > (5 : Int32) from Int32.not_lt.mpr (nI_le (b := 5) (by omega) (by omega))), X.2.1.1, if_pos (show nI 10 = (10 : Int32) from rfl)]
  · refine Or.inr ⟨fun d x X => ?_, fun d x X => ?_⟩
    · rw [E20_7, if_pos (show nI a ≥ (6 : Int32) from nI_le (a := 6) (by omega) (by omega)), if_pos rfl]
    · rw [E136_32, if_pos (show nI a > (5 : Int32) from nI_lt (a := 5) (by omega) (by omega))]
theorem op_R (V : zVal g n k) (B : bOk n k f) {a b : Nat} (ha : a < 10) (hb : b < 10) : opR 22 138 [.ref 7, .int (nI a), .int (nI b)] [.ref 32, .int (nI a), .int (nI b)] g n k f := by
  have hk := V.2.1
  by_cases a0 : 1 ≤ a
  · have na0 : ¬ nI a = (0 : Int32) := fun z => by have := (nI_eq (a := a) (b := 0) (by omega) (by omega)).mp z; omega
    by_cases k5 : k < 5
    · refine Or.inl ⟨gR g k (nI a) (nI b), n, k + 1, f, ⟨zVal_R V k5 ha hb, bOk_mo (Nat.le_refl _) (by omega) B⟩, fun d x X => ?_, fun d x X => ?_⟩
      · obtain ⟨y, ey, y1, y2, y3⟩ := c_addR_7 (d := d + 3) X.2.1 k5 (a := nI a) (b := nI b)
        refine ⟨y, ?_, ⟨zVal_R V k5 ha hb, y1, bOk_mo (Nat.le_refl _) (by omega) B, fun i hi => by rw [y2 _ (by omega)]; exact X.2.2.2 i hi⟩, fun c hc => y3 c (by unfold zMT at hc; omega)⟩
        rw [E22_7, if_neg (show ¬ nI a < (1 : Int32) from Int32.not_lt.mpr (nI_le (a := 1) a0 (by omega))), X.2.1.2.1, if_neg (show ¬ nI k ≥ (5 : Int32) from nI_ge (b := 5) k5 (by omega)), if_neg (by decide), ey, zCi_some]
      · obtain ⟨y, ey, y1, y2, y3⟩ := r_addR (d := d + 4) X.2.1 k5 (a := nI a) (b := nI b)
        have ex : zcal (d + 5) 139 [.ref 32, .int (nI a), .int (nI b)] x = some (none, z_up (z_up (z_up x 37 k (nI a)) 38 k (nI b)) 32 7 (nI k + 1)) := by rw [E139_32, X.2.1.2.1, zG_nI (by omega) (by omega), zG_nI (by omega) (by omega), nI_tn (by omega)]
        have ey2 := ey
        rw [ex] at ey2
        injection ey2 with ey2
        injection ey2 with _ ey2
        have far : ∀ c j, 34 ≤ c → c ≤ 38 → (10 ≤ j ∨ (36 < c ∧ 5 ≤ j)) → y c j = x c j := fun c j p q r => by
          rw [← ey2, zu_nc _ _ (by omega), zu_ap, if_neg (by omega), zu_ap, if_neg (by omega)]
        refine ⟨y, ?_, ⟨zVal_R V k5 ha hb, y1, bOk_mo (Nat.le_refl _) (by omega) B, fun i hi => by rw [y2 _ (by omega)]; exact X.2.2.2.1 i hi, rAt0_mv X.2.2.2.2 (fun j p q => y2 j (by omega))⟩, fun c p q r s => y3 c p (by omega), fun j hj => y2 j (by omega), far⟩
        rw [E138_32, if_neg na0, X.2.1.2.1, if_neg (fun z => by have := (nI_eq (a := k) (b := 5) (by omega) (by omega)).mp z; omega), ey, zCv_some]
    · have hk : k = 5 := by omega
      subst hk
      refine Or.inr ⟨fun d x X => ?_, fun d x X => ?_⟩
      · rw [E22_7, if_neg (show ¬ nI a < (1 : Int32) from Int32.not_lt.mpr (nI_le (a := 1) a0 (by omega))), X.2.1.2.1, if_pos (show nI 5 ≥ (5 : Int32) by decide), if_pos rfl]
      · rw [E138_32, if_neg na0, X.2.1.2.1, if_pos (show nI 5 = (5 : Int32) from rfl)]
  · have ha : a = 0 := by omega
    subst ha
    refine Or.inr ⟨fun d x X => ?_, fun d x X => ?_⟩
    · rw [E22_7, if_pos (show nI 0 < (1 : Int32) by decide), if_pos rfl]
    · rw [E138_32, if_pos (show nI 0 = (0 : Int32) from rfl)]
theorem op_C (V : zVal g n k) (B : bOk n k f) {a b : Nat} (ha : a < 10) (hb : b < 10) : opR 24 140 [.ref 7, .int (nI a), .int (nI b)] [.ref 32, .int (nI a), .int (nI b)] g n k f := by
  have hn := V.1
  have hk := V.2.1
  have n9 : ∀ b : Nat, b < 10 → (nI b = (9 : Int32) ↔ b = 9) := fun b hb => nI_eq (b := 9) (by omega) (by omega)
  have w7 : ∀ (v : Int32) (x : zH), (v = -9 ∨ ∃ x, x < k ∧ v = nI x) → zC7 g n k f x → zC7 (gW g a v) n k f (z_up x 10 a v) ∧ zFr zMT x (z_up x 10 a v) := fun v x hv X => ⟨⟨zVal_W V hv, zHil_W X.2.1, B, fun i hi => by rw [z_up_ne (by omega)]; exact X.2.2.2 i hi⟩, zFr_up (by unfold zMT; omega)⟩
  have wR : ∀ (v : Int32) (x : zH), (v = -9 ∨ ∃ x, x < k ∧ v = nI x) → zRR g n k f x → zRR (gW g a v) n k f (z_up x 36 a v) ∧ fRR x (z_up x 36 a v) := fun v x hv X => ⟨⟨zVal_W V hv, zHr_W X.2.1, B, fun i hi => by rw [z_up_ne (by omega)]; exact X.2.2.2.1 i hi, rAt0_mv X.2.2.2.2 (fun j p q => by rw [z_up_ne (by omega)])⟩, fun c p q r s => z_up_ne (by omega), fun j hj => by rw [z_up_ne (by omega)], fun c j p q r => by rw [zu_ap, if_neg (by omega)]⟩
  by_cases an : a < n
  · have in1 : (0 : Int32) ≤ nI a ∧ nI a < nI n := ⟨nI_pos' (by omega), nI_lt an (by omega)⟩
    by_cases b9 : b = 9
    · subst b9
      refine Or.inl ⟨gW g a (-9), n, k, f, ⟨zVal_W V (Or.inl rfl), B⟩, fun d x X => ?_, fun d x X => ?_⟩
      · obtain ⟨y1, y2⟩ := w7 (-9) x (Or.inl rfl) X
        refine ⟨_, ?_, y1, y2⟩
        rw [E24_7, c_hasS_7 X.2.1 V, if_pos in1, zCi_some, if_neg (by decide), if_pos (show nI 9 = (9 : Int32) from rfl), if_neg (by decide), if_pos (show nI 9 = (9 : Int32) from rfl), c_put (n := 10) rfl (by omega), zCv_some, pt_nI (by omega) (by omega)]
      · obtain ⟨y1, y2⟩ := wR (-9) x (Or.inl rfl) X
        refine ⟨_, ?_, y1, y2⟩
        rw [E140_32, r_isS X.2.1 V, if_pos in1, zCi_some, if_neg (by decide), if_pos (show nI 9 = (9 : Int32) from rfl), if_pos (show nI 9 = (9 : Int32) from rfl), zG_nI (by omega) (by omega), nI_tn (by omega)]
    · have e9 : ¬ nI b = (9 : Int32) := fun z => b9 ((n9 b hb).mp z)
      by_cases bk : b < k
      · have in2 : (0 : Int32) ≤ nI b ∧ nI b < nI k := ⟨nI_pos' (by omega), nI_lt bk (by omega)⟩
        refine Or.inl ⟨gW g a (nI b), n, k, f, ⟨zVal_W V (Or.inr ⟨b, bk, rfl⟩), B⟩, fun d x X => ?_, fun d x X => ?_⟩
        · obtain ⟨y1, y2⟩ := w7 (nI b) x (Or.inr ⟨b, bk, rfl⟩) X
          refine ⟨_, ?_, y1, y2⟩
          rw [E24_7, c_hasS_7 X.2.1 V, if_pos in1, zCi_some, if_neg (by decide), if_neg e9, c_hasR_7 X.2.1 V, if_pos in2, zCi_some, if_neg (by decide), if_neg (by decide), if_neg e9, c_put (n := 10) rfl (by omega), zCv_some, pt_nI (by omega) (by omega)]
        · obtain ⟨y1, y2⟩ := wR (nI b) x (Or.inr ⟨b, bk, rfl⟩) X
          refine ⟨_, ?_, y1, y2⟩
          rw [E140_32, r_isS X.2.1 V, if_pos in1, zCi_some, if_neg (by decide), if_neg e9, r_isR X.2.1 V, if_pos in2, zCi_some, if_neg (by decide), if_neg e9, zG_nI (by omega) (by omega), nI_tn (by omega)]
      · have out2 : ¬ ((0 : Int32) ≤ nI b ∧ nI b < nI k) := fun z => nI_nlt (a := b) (b := k) (by omega) (by omega) z.2
        refine Or.inr ⟨fun d x X => ?_, fun d x X => ?_⟩
        · rw [E24_7, c_hasS_7 X.2.1 V, if_pos in1, zCi_some, if_neg (by decide), if_neg e9, c_hasR_7 X.2.1 V, if_neg out2, zCi_some, if_pos rfl, if_pos rfl]
        · rw [E140_32, r_isS X.2.1 V, if_pos in1, zCi_some, if_neg (by decide), if_neg e9, r_isR X.2.1 V, if_neg out2, zCi_some, if_pos rfl]
  · have out1 : ¬ ((0 : Int32) ≤ nI a ∧ nI a < nI n) := fun z => nI_nlt (a := a) (b := n) (by omega) (by omega) z.2
    refine Or.inr ⟨fun d x X => ?_, fun d x X => ?_⟩
    · rw [E24_7, c_hasS_7 X.2.1 V, if_neg out1, zCi_some, if_pos rfl, if_pos rfl]
    · rw [E140_32, r_isS X.2.1 V, if_neg out1, zCi_some, if_pos rfl]
/-- the bicycle's numbers, changed -/
def fU (f : Nat → Int32) (a b c e t : Int32) : Nat → Int32
  | 0 => f 0
  | 1 => a
  | 2 => b
  | 3 => c
  | 4 => e
  | _ => t
def fV (f : Nat → Int32) (v : Int32) : Nat → Int32
  | 0 => v
  | i + 1 => f (i + 1)
theorem op_G (V : zVal g n k) (B : bOk n k f) {p : Nat} (hp : p < 100) : opR 27 146 [.ref 7, .int (nI p)] [.ref 32, .int (nI p)] g n k f := by
  obtain ⟨t, ht, et⟩ := B.2.2.1
  by_cases p1 : 1 ≤ p
  · have np1 : ¬ nI p < (1 : Int32) := Int32.not_lt.mpr (nI_le (a := 1) p1 (by omega))
    have gp1 : (1 : Int32) ≤ nI p := nI_le (a := 1) p1 (by omega)
    by_cases p60 : p ≤ 60
    · have np60 : ¬ nI p > (60 : Int32) := Int32.not_lt.mpr (nI_le (b := 60) p60 (by omega))
      have gp60 : nI p ≤ (60 : Int32) := nI_le (b := 60) p60 (by omega)
      by_cases hs : t + p ≤ 999
      · have s1 : ¬ nI (t + p) > 999 := Int32.not_lt.mpr (nI_le (b := 999) hs (by omega))
        have s2 : nI (t + p) ≤ 999 := nI_le (b := 999) hs (by omega)
        have preC : ∀ d x, zC7 g n k f x → zcal (d + 6) 27 [.ref 7, .int (nI p)] x = zCv (zcal (d + 5) 29 [.ref 7, .int (nI p)] x) (fun h5 => some (some (.int 1), h5)) := fun d x X => by
          have x12 : x 7 12 = nI t := (X.2.2.2 5 (by omega)).trans et
          rw [E27_7, if_neg np1, E28_7, if_neg np60, x12, nn_add, if_neg s1, zCi_some, if_neg (by decide), if_neg (by decide)]
        have preR : ∀ d x, zRR g n k f x → zcal (d + 6) 146 [.ref 32, .int (nI p)] x = zCv (zcal (d + 5) 147 [.ref 32, .int (nI p)] x) (fun h3 => some (some (.int 1), h3)) := fun d x X => by
          have x13 : x 32 13 = nI t := (X.2.2.2.1 5 (by omega)).trans et
          rw [E146_32, r_isIn, if_pos ⟨gp1, gp60⟩, zCi_some, if_neg (by decide), x13, nn_add, if_pos s2]
        by_cases hm : f 4 = 0
        · obtain ⟨at0, hat, eat, hrid⟩ := B.2.2.2 hm
          have h0 : jOk n k (at0, f 2, f 3, f 4) := ⟨B.2.1, fun _ => ⟨hat, hrid⟩⟩
          have jk := jOk_i V h0 p
          have nle := rN_le (g := g) (n := n) (q0 := (at0, f 2, f 3, f 4)) p
          refine Or.inl ⟨g, n, k, fU f (nI (rJ g n rF rF rF (at0, f 2, f 3, f 4) p).1) (rJ g n rF rF rF (at0, f 2, f 3, f 4) p).2.1 (rJ g n rF rF rF (at0, f 2, f 3, f 4) p).2.2.1 (rJ g n rF rF rF (at0, f 2, f 3, f 4) p).2.2.2 (nI (t + rN g n (at0, f 2, f 3, f 4) p)), ⟨V, B.1, jk.1, ⟨_, by omega, rfl⟩, fun q => ⟨_, (jk.2 q).1, rfl, (jk.2 q).2⟩⟩, fun d x X => ?_, fun d x X => ?_⟩
          · obtain ⟨y, ey, S1, S8, S9, S10, S11, S12, S7, SF⟩ := c_steps_7 (d := d + 1) (q0 := (at0, f 2, f 3, f 4)) V X.2.1 h0 ((X.2.2.2 1 (by omega)).trans eat) (X.2.2.2 2 (by omega)) (X.2.2.2 3 (by omega)) (X.2.2.2 4 (by omega)) p60
            have x12 : x 7 12 = nI t := (X.2.2.2 5 (by omega)).trans et
            refine ⟨y, by rw [preC d x X, ey, zCv_some], ⟨V, S1, ⟨B.1, jk.1, ⟨_, by omega, rfl⟩, fun q => ⟨_, (jk.2 q).1, rfl, (jk.2 q).2⟩⟩, fun i hi => ?_⟩, fun a ha => SF a (fun z => ha (by unfold zMT; omega))⟩
            rcases (show i = 0 ∨ i = 1 ∨ i = 2 ∨ i = 3 ∨ i = 4 ∨ i = 5 by omega) with rfl | rfl | rfl | rfl | rfl | rfl
            · rw [S7 (7 + 0) (by omega)]; exact X.2.2.2 0 (by omega)
            · exact S8
            · exact S9
            · exact S10
            · exact S11
            · exact S12.trans (by rw [x12, nn_add]; rfl)
          · obtain ⟨y, ey, T1, T9, T10, T11, T12, T13, T32, TF⟩ := r_steps (d := d + 1) (q0 := (at0, f 2, f 3, f 4)) V X.2.1 h0 X.2.2.2.2 ((X.2.2.2.1 1 (by omega)).trans eat) (X.2.2.2.1 2 (by omega)) (X.2.2.2.1 3 (by omega)) (X.2.2.2.1 4 (by omega)) p60
            have x13 : x 32 13 = nI t := (X.2.2.2.1 5 (by omega)).trans et
            refine ⟨y, by rw [preR d x X, ey, zCv_some], ⟨V, T1, ⟨B.1, jk.1, ⟨_, by omega, rfl⟩, fun q => ⟨_, (jk.2 q).1, rfl, (jk.2 q).2⟩⟩, fun i hi => ?_, rAt0_mv X.2.2.2.2 (fun j p q => T32 j (by omega))⟩, fun a q1 q2 q3 q4 => TF a q1 q3 q4, fun j hj => T32 j (by omega), fun a j q1 q2 q3 => by rw [TF a (by omega) (by omega) (by omega)]⟩
            rcases (show i = 0 ∨ i = 1 ∨ i = 2 ∨ i = 3 ∨ i = 4 ∨ i = 5 by omega) with rfl | rfl | rfl | rfl | rfl | rfl
            · rw [T32 (8 + 0) (by omega)]; exact X.2.2.2.1 0 (by omega)
            · exact T9
            · exact T10
            · exact T11
            · exact T12
            · exact T13.trans (by rw [x13, nn_add]; rfl)
        · refine Or.inl ⟨g, n, k, f, ⟨V, B⟩, fun d x X => ?_, fun d x X => ?_⟩
          · have x11 : x 7 11 ≠ 0 := by rw [show x 7 11 = f 4 from X.2.2.2 4 (by omega)]; exact hm
            exact ⟨x, by rw [preC d x X, c_steps07 (d := d + 4) x11, zCv_some], X, fun _ _ => rfl⟩
          · have x12 : x 32 12 ≠ 0 := by rw [show x 32 12 = f 4 from X.2.2.2.1 4 (by omega)]; exact hm
            obtain ⟨y, ey, T32, TF⟩ := r_steps0 (d := d + 3) x12 (x := nI p)
            exact ⟨y, by rw [preR d x X, ey, zCv_some], ⟨V, zHr_mv X.2.1 (T32 6 (by omega)) (T32 7 (by omega)) (fun a p q => TF a (by omega)), B, fun i hi => (T32 _ (by omega)).trans (X.2.2.2.1 i hi), rAt0_mv X.2.2.2.2 (fun j p q => T32 j (by omega))⟩, fun a q1 q2 q3 q4 => TF a q1, fun j hj => T32 j (by omega), fun a j q1 q2 q3 => by rw [TF a (by omega)]⟩
      · have s1 : nI (t + p) > 999 := nI_lt (a := 999) (by omega) (by omega)
        refine Or.inr ⟨fun d x X => ?_, fun d x X => ?_⟩
        · have x12 : x 7 12 = nI t := (X.2.2.2 5 (by omega)).trans et
          rw [E27_7, if_neg np1, E28_7, if_neg np60, x12, nn_add, if_pos s1, zCi_some, if_pos rfl, if_pos rfl]
        · have x13 : x 32 13 = nI t := (X.2.2.2.1 5 (by omega)).trans et
          rw [E146_32, r_isIn, if_pos ⟨gp1, gp60⟩, zCi_some, if_neg (by decide), x13, nn_add, if_neg (Int32.not_le.mpr s1)]
    · have gt60 : nI p > (60 : Int32) := nI_lt (a := 60) (by omega) (by omega)
      refine Or.inr ⟨fun d x X => ?_, fun d x X => ?_⟩
      · rw [E27_7, if_neg np1, E28_7, if_pos gt60, zCi_some, if_pos rfl, if_pos rfl]
      · rw [E146_32, r_isIn, if_neg (fun z => Int32.not_le.mpr gt60 z.2), zCi_some, if_pos rfl]
  · have hp : p = 0 := by omega
    subst hp
    refine Or.inr ⟨fun d x X => ?_, fun d x X => ?_⟩
    · rw [E27_7, if_pos (show nI 0 < (1 : Int32) by decide), if_pos rfl]
    · rw [E146_32, r_isIn, if_neg (show ¬ ((1 : Int32) ≤ nI 0 ∧ nI 0 ≤ (60 : Int32)) by decide), zCi_some, if_pos rfl]
end O
/-- one statement comes alike to both -/
def stP (T : Nat → Int32) (t p i : Nat) (g : zHl) (n k : Nat) (f : Nat → Int32) : Prop :=
  (∃ (g' : zHl) (n' k' : Nat) (f' : Nat → Int32), (zVal g' n' k' ∧ bOk n' k' f') ∧ (∀ d x, zC7 g n k f x → txC T t x → ∃ y, zcal (d + 8) 19 [.ref 25, .ref 7, .int (nI p)] x = some (some (.int 1), y) ∧ zC7 g' n' k' f' y ∧ zFr zMT x y) ∧ ∀ d x, zRR g n k f x → x 40 i = lA T t p → nmR T t p i x → ∃ y, zcal (d + 8) 135 [.ref 32, .int (nI i)] x = some (some (.int 1), y) ∧ zRR g' n' k' f' y ∧ fRR x y) ∨ ((∀ d x, zC7 g n k f x → txC T t x → zcal (d + 8) 19 [.ref 25, .ref 7, .int (nI p)] x = some (some (.int 0), x)) ∧ ∀ d x, zRR g n k f x → x 40 i = lA T t p → nmR T t p i x → zcal (d + 8) 135 [.ref 32, .int (nI i)] x = some (some (.int 0), x))
end OPS

/-! THE REFERENCE READS THE LETTERS -/
section RD
def txR (T : Nat → Int32) (t : Nat) (h : zH) : Prop := h 32 18 = nI t ∧ ∀ j, j < t → h 39 j = T j
section R
variable {d : Nat} {T : Nat → Int32} {t : Nat}
theorem txR_mv {h h' : zH} (X : txR T t h) (e1 : h' 32 18 = h 32 18) (e2 : h' 39 = h 39) : txR T t h' := ⟨e1.trans X.1, fun j hj => by rw [e2]; exact X.2 j hj⟩
theorem r_128 {h : zH} (X : txR T t h) (ht : t ≤ 96) {p : Nat} (hp : p ≤ 1000) (e : h 32 19 = nI p) : zcal (d + 1) 128 [.ref 32] h = some (some (.int (lA T t p)), h) := by
  rw [E128_32, e, X.1]
  unfold lA
  by_cases q : p < t
  · rw [if_neg (nI_ge q (by omega)), if_pos q, zG_nI (by omega) (by omega), nI_tn (by omega), X.2 p q]
  · rw [if_pos (nI_le (by omega) (by omega)), if_neg q]
theorem r_130s {h : zH} (X : txR T t h) (ht : t ≤ 96) {p : Nat} (hp : p ≤ 500) (e : h 32 19 = nI p) {u m x3 x4 : Int32} (hm : ¬ x4 ≥ m) : (dg (lA T t p) → zE (d + 1) 130 (5, [some (.ref 32), some (.int u), some (.int m), some (.int x3), some (.int x4)], [], h) = zE (d + 1) 130 (5, [some (.ref 32), some (.int u), some (.int m), some (.int (((10 * x3) + lA T t p) - 48)), some (.int (x4 + 1))], [], z_up h 32 19 (nI (p + 1)))) ∧ (¬ dg (lA T t p) → zE (d + 1) 130 (5, [some (.ref 32), some (.int u), some (.int m), some (.int x3), some (.int x4)], [], h) = some (some (.int 0), h)) := by
  rw [E130_32_at5, if_neg hm, r_128 X ht (by omega) e, zCi_some, r_isIn]
  refine ⟨fun q => ?_, fun q => ?_⟩
  · unfold dg at q
    rw [if_pos q, zCi_some, if_neg (by decide), r_128 X ht (by omega) e, zCi_some, e, nI_1]
  · unfold dg at q
    rw [if_neg q, zCi_some, if_pos rfl]
theorem dv {a x : Nat} : ((10 : Int32) * nI a + nI (48 + x)) - 48 = nI (10 * a + x) := by
  rw [show (10 : Int32) * nI a = nI (10 * a) from nI_mul 10 a, nI_add, show (48 : Int32) = nI 48 from rfl, nI_sb (by omega), show 10 * a + (48 + x) - 48 = 10 * a + x by omega]
theorem r_130_1 {h : zH} (X : txR T t h) (ht : t ≤ 96) {p u : Nat} (hu : u < 96) (hp : p ≤ 500) (e : h 32 19 = nI p) : (∀ a, lA T t p = nI (48 + a) → a < 10 → zcal (d + 2) 130 [.ref 32, .int (nI u), .int 1] h = some (some (.int 1), z_up (z_up h 32 19 (nI (p + 1))) 42 u (nI a))) ∧ (¬ dg (lA T t p) → zcal (d + 2) 130 [.ref 32, .int (nI u), .int 1] h = some (some (.int 0), h)) := by
  obtain ⟨s1, s2⟩ := r_130s (d := d) X ht hp e (u := nI u) (m := 1) (x3 := 0) (x4 := 0) (by decide)
  rw [E130_32]
  refine ⟨fun a ea ha => ?_, fun q => s2 q⟩
  have q : dg (lA T t p) := by rw [ea]; exact ⟨nI_le (a := 48) (by omega) (by omega), nI_le (b := 57) (by omega) (by omega)⟩
  have v := dv (a := 0) (x := a)
  rw [show nI 0 = (0 : Int32) from rfl, show 10 * 0 + a = a by omega] at v
  rw [s1 q, ea, v, E130_32_at5, if_pos (show (0 : Int32) + 1 ≥ 1 by decide), zG_nI hu (by omega), nI_tn (by omega)]
theorem r_130_2 {h : zH} (X : txR T t h) (ht : t ≤ 96) {p u : Nat} (hu : u < 96) (hp : p ≤ 400) (e : h 32 19 = nI p) : (∀ a b, lA T t p = nI (48 + a) → a < 10 → lA T t (p + 1) = nI (48 + b) → b < 10 → zcal (d + 2) 130 [.ref 32, .int (nI u), .int 2] h = some (some (.int 1), z_up (z_up (z_up h 32 19 (nI (p + 1))) 32 19 (nI (p + 2))) 42 u (nI (10 * a + b)))) ∧ (¬ dg (lA T t p) → zcal (d + 2) 130 [.ref 32, .int (nI u), .int 2] h = some (some (.int 0), h)) ∧ (dg (lA T t p) → ¬ dg (lA T t (p + 1)) → zcal (d + 2) 130 [.ref 32, .int (nI u), .int 2] h = some (some (.int 0), z_up h 32 19 (nI (p + 1)))) := by
  obtain ⟨s1, s2⟩ := r_130s (d := d) X ht (show p ≤ 500 by omega) e (u := nI u) (m := 2) (x3 := 0) (x4 := 0) (by decide)
  have X1 : txR T t (z_up h 32 19 (nI (p + 1))) := txR_mv X (zu_ni _ _ (by omega)) (z_up_ne (by omega))
  have s3 := fun x3 => r_130s (d := d) X1 ht (show p + 1 ≤ 500 by omega) (zu_eq _ _ _ _) (u := nI u) (m := 2) (x3 := x3) (x4 := 0 + 1) (by decide)
  rw [E130_32]
  refine ⟨fun a b ea ha eb hb => ?_, fun q => s2 q, fun q1 q2 => by rw [s1 q1, (s3 _).2 q2]⟩
  have q1 : dg (lA T t p) := by rw [ea]; exact ⟨nI_le (a := 48) (by omega) (by omega), nI_le (b := 57) (by omega) (by omega)⟩
  have q2 : dg (lA T t (p + 1)) := by rw [eb]; exact ⟨nI_le (a := 48) (by omega) (by omega), nI_le (b := 57) (by omega) (by omega)⟩
  have v := dv (a := 0) (x := a)
  rw [show nI 0 = (0 : Int32) from rfl, show 10 * 0 + a = a by omega] at v
  rw [s1 q1, (s3 _).1 q2, ea, eb, v, dv, E130_32_at5, if_pos (show (0 : Int32) + 1 + 1 ≥ 2 by decide), zG_nI hu (by omega), nI_tn (by omega)]
/-- the figures noted -/
def nmR (T : Nat → Int32) (t p i : Nat) (y : zH) : Prop := ∀ a b, lA T t (p + 1) = nI (48 + a) → a < 10 → lA T t (p + 2) = nI (48 + b) → b < 10 → ((lA T t p = 99 ∨ lA T t p = 114 ∨ lA T t p = 115) → y 42 (2 * i) = nI a ∧ y 42 (2 * i + 1) = nI b) ∧ ((lA T t p = 103 ∨ lA T t p = 118) → y 42 (2 * i) = nI (10 * a + b))
def fr9 (i : Nat) (x y : zH) : Prop := ∀ c j, (c = 32 → j ≠ 19) → (c = 42 → j ≠ 2 * i ∧ j ≠ 2 * i + 1) → y c j = x c j
theorem r_129 {h : zH} (X : txR T t h) (ht : t ≤ 96) {p i : Nat} (hi : i < 48) (hp : p ≤ 300) (e : h 32 19 = nI (p + 1)) (hc : lA T t p = 99 ∨ lA T t p = 103 ∨ lA T t p = 114 ∨ lA T t p = 115 ∨ lA T t p = 118) : (dg (lA T t (p + 1)) → dg (lA T t (p + 2)) → ∃ y, zcal (d + 3) 129 [.ref 32, .int (lA T t p), .int (nI (2 * i))] h = some (some (.int 1), y) ∧ y 32 19 = nI (p + 3) ∧ nmR T t p i y ∧ fr9 i h y) ∧ (¬ dg (lA T t (p + 1)) → ∃ y, zcal (d + 3) 129 [.ref 32, .int (lA T t p), .int (nI (2 * i))] h = some (some (.int 0), y) ∧ y 32 19 = nI (p + 1) ∧ fr9 i h y) ∧ (dg (lA T t (p + 1)) → ¬ dg (lA T t (p + 2)) → ∃ y, zcal (d + 3) 129 [.ref 32, .int (lA T t p), .int (nI (2 * i))] h = some (some (.int 0), y) ∧ y 32 19 = nI (p + 2) ∧ fr9 i h y) := by
  have c98 : ¬ lA T t p = 98 := by
    rcases hc with z | z | z | z | z <;> rw [z] <;> decide
  by_cases two : lA T t p = 103 ∨ lA T t p = 118
  · have e2 : zcal (d + 3) 129 [.ref 32, .int (lA T t p), .int (nI (2 * i))] h = (zCi (zcal (d + 2) 130 [.ref 32, .int (nI (2 * i)), .int 2] h) (fun v2 h1 => zRz v2 h1)) := by
      rw [E129_32, if_neg c98]
      by_cases c103 : lA T t p = 103
      · rw [if_pos c103]
      · rw [if_neg c103, if_pos (two.resolve_left c103)]
    obtain ⟨s1, s2, s3⟩ := r_130_2 (d := d) X ht (u := 2 * i) (by omega) (show p + 1 ≤ 400 by omega) e
    rw [e2]
    refine ⟨fun q1 q2 => ?_, fun q => ⟨h, by rw [s2 q, zCi_some]; unfold zRz; rw [if_pos (Or.inl rfl)], e, fun _ _ _ _ => rfl⟩, fun q1 q2 => ⟨_, by rw [s3 q1 q2, zCi_some]; unfold zRz; rw [if_pos (Or.inl rfl)], zu_eq _ _ _ _, fun c j h1 h2 => by rw [zu_ap, if_neg (fun z => h1 z.1 z.2)]⟩⟩
    obtain ⟨a, ha, ea⟩ := dg_nI q1
    obtain ⟨b, hb, eb⟩ := dg_nI q2
    refine ⟨_, by rw [s1 a b ea ha eb hb, zCi_some]; unfold zRz; rw [if_pos (Or.inr rfl)], by rw [z_up_ne (by omega), zu_eq], fun a' b' ea' ha' eb' hb' => ⟨fun z => ?_, fun _ => ?_⟩, fun c j h1 h2 => ?_⟩
    · exfalso
      rcases two with w | w <;> rw [w] at z <;> revert z <;> decide
    · have e1 : a = a' := by have := (nI_eq (a := 48 + a) (b := 48 + a') (by omega) (by omega)).mp (ea.symm.trans ea'); omega
      have e2 : b = b' := by have := (nI_eq (a := 48 + b) (b := 48 + b') (by omega) (by omega)).mp (eb.symm.trans eb'); omega
      rw [zu_eq, e1, e2]
    · rw [zu_ap, if_neg (fun z => (h2 z.1).1 z.2), zu_ap, if_neg (fun z => h1 z.1 z.2), zu_ap, if_neg (fun z => h1 z.1 z.2)]
  · have n103 : ¬ lA T t p = 103 := fun z => two (Or.inl z)
    have n118 : ¬ lA T t p = 118 := fun z => two (Or.inr z)
    obtain ⟨s1, s2⟩ := r_130_1 (d := d) X ht (u := 2 * i) (by omega) (show p + 1 ≤ 500 by omega) e
    rw [E129_32, if_neg c98, if_neg n103, if_neg n118]
    refine ⟨fun q1 q2 => ?_, fun q => ⟨h, by rw [s2 q, zCi_some, if_pos rfl], e, fun _ _ _ _ => rfl⟩, fun q1 q2 => ?_⟩
    · obtain ⟨a, ha, ea⟩ := dg_nI q1
      obtain ⟨b, hb, eb⟩ := dg_nI q2
      have X1 : txR T t (z_up (z_up h 32 19 (nI (p + 1 + 1))) 42 (2 * i) (nI a)) := txR_mv X (by rw [z_up_ne (by omega), zu_ni _ _ (by omega)]) (by rw [z_up_ne (by omega), z_up_ne (by omega)])
      obtain ⟨s3, s4⟩ := r_130_1 (d := d) X1 ht (u := 2 * i + 1) (p := p + 2) (by omega) (by omega) (by rw [z_up_ne (by omega), zu_eq])
      refine ⟨_, by rw [s1 a ea ha, zCi_some, if_neg (by decide), nI_1, s3 b eb hb, zCi_some, if_neg (by decide)], by rw [z_up_ne (by omega), zu_eq], fun a' b' ea' ha' eb' hb' => ⟨fun _ => ?_, fun z => absurd z two⟩, fun c j h1 h2 => ?_⟩
      · have e1 : a = a' := by have := (nI_eq (a := 48 + a) (b := 48 + a') (by omega) (by omega)).mp (ea.symm.trans ea'); omega
        have e2 : b = b' := by have := (nI_eq (a := 48 + b) (b := 48 + b') (by omega) (by omega)).mp (eb.symm.trans eb'); omega
        refine ⟨?_, by rw [zu_eq, e2]⟩
        rw [zu_ni _ _ (by omega), z_up_ne (by omega), zu_eq, e1]
      · rw [zu_ap, if_neg (fun z => (h2 z.1).2 z.2), zu_ap, if_neg (fun z => h1 z.1 z.2), zu_ap, if_neg (fun z => (h2 z.1).1 z.2), zu_ap, if_neg (fun z => h1 z.1 z.2)]
    · obtain ⟨a, ha, ea⟩ := dg_nI q1
      have X1 : txR T t (z_up (z_up h 32 19 (nI (p + 1 + 1))) 42 (2 * i) (nI a)) := txR_mv X (by rw [z_up_ne (by omega), zu_ni _ _ (by omega)]) (by rw [z_up_ne (by omega), z_up_ne (by omega)])
      obtain ⟨s3, s4⟩ := r_130_1 (d := d) X1 ht (u := 2 * i + 1) (p := p + 2) (by omega) (by omega) (by rw [z_up_ne (by omega), zu_eq])
      refine ⟨_, by rw [s1 a ea ha, zCi_some, if_neg (by decide), nI_1, s4 q2, zCi_some, if_pos rfl], by rw [z_up_ne (by omega), zu_eq], fun c j h1 h2 => ?_⟩
      rw [zu_ap, if_neg (fun z => (h2 z.1).1 z.2), zu_ap, if_neg (fun z => h1 z.1 z.2)]
def fr7 (i : Nat) (x y : zH) : Prop := ∀ c j, (c = 32 → j ≠ 19) → (c = 40 → j ≠ i) → (c = 41 → j ≠ i) → (c = 42 → j ≠ 2 * i ∧ j ≠ 2 * i + 1) → y c j = x c j
theorem r_127 {h : zH} (X : txR T t h) (ht : t ≤ 96) {p i : Nat} (hi : i < 48) (hp : p ≤ 200) (e : h 32 19 = nI p) (ei : h 32 20 = nI i) : (sW (lA T t) p = none → ∃ y, zcal (d + 5) 127 [.ref 32] h = some (some (.int 1), y) ∧ y 32 19 = nI (p + sL (lA T t p)) ∧ y 40 i = lA T t p ∧ y 41 i = nI p ∧ nmR T t p i y ∧ fr7 i h y) ∧ ∀ q, sW (lA T t) p = some q → ∃ y, zcal (d + 5) 127 [.ref 32] h = some (some (.int 0), y) ∧ y 32 19 = nI q ∧ fr7 i h y := by
  rcases sL_v (lA T t p) with ⟨e0, n98, n99, n103, n114, n115, n118⟩ | ⟨e2, ec⟩ | ⟨e4, hc⟩
  · rw [sW_0 e0]
    refine ⟨fun z => (by cases z), fun q z => ⟨h, ?_, ?_, fun _ _ _ _ _ _ => rfl⟩⟩
    · rw [E127_32, r_128 X ht (by omega) e, zCi_some, if_neg n115, if_neg n114, if_neg n99, if_neg n118, if_neg n98, if_neg n103]
    · injection z with z; rw [← z]; exact e
  all_goals generalize hx : z_up (z_up (z_up h 40 i (lA T t p)) 41 i (nI p)) 32 19 (nI (p + 1)) = x
  all_goals have x19 : x 32 19 = nI (p + 1) := by rw [← hx, zu_eq]
  all_goals have x40 : x 40 i = lA T t p := by rw [← hx, z_up_ne (by omega), z_up_ne (by omega), zu_eq]
  all_goals have x41 : x 41 i = nI p := by rw [← hx, z_up_ne (by omega), zu_eq]
  all_goals have xo : ∀ c j, (c = 32 → j ≠ 19) → (c = 40 → j ≠ i) → (c = 41 → j ≠ i) → x c j = h c j := fun c j h1 h2 h3 => by rw [← hx, zu_ap, if_neg (fun z => h1 z.1 z.2), zu_ap, if_neg (fun z => h3 z.1 z.2), zu_ap, if_neg (fun z => h2 z.1 z.2)]
  all_goals have X1 : txR T t x := txR_mv X (xo 32 18 (by omega) (by omega) (by omega)) (by funext j; exact xo 39 j (by omega) (by omega) (by omega))
  all_goals have two : (2 : Int32) * nI i = nI (2 * i) := nI_mul 2 i
  · have pre : zcal (d + 5) 127 [.ref 32] h = (zCi (zcal (d + 4) 129 [.ref 32, .int (lA T t p), .int (nI (2 * i))] x) (fun v2 h1 => (if v2 = 0 then some (some (.int 0), h1) else (zCi (zcal (d + 4) 128 [.ref 32] h1) (fun v4 h3 => (if v4 = 59 then some (some (.int 1), (z_up h3 32 19 ((h3 32 19) + 1))) else some (some (.int 0), h3))))))) := by
      have n115 : ¬ lA T t p = 115 := by rw [ec]; decide
      have n114 : ¬ lA T t p = 114 := by rw [ec]; decide
      have n99 : ¬ lA T t p = 99 := by rw [ec]; decide
      have n118 : ¬ lA T t p = 118 := by rw [ec]; decide
      rw [E127_32, r_128 X ht (by omega) e, zCi_some, if_neg n115, if_neg n114, if_neg n99, if_neg n118, if_pos ec, E127_32_at43, ei, zG_nI (by omega) (by omega), zG_nI (by omega) (by omega), nI_tn (by omega), e, nI_1, two, hx]
    have r9 : zcal (d + 4) 129 [.ref 32, .int (lA T t p), .int (nI (2 * i))] x = some (some (.int 1), x) := by rw [E129_32, if_pos ec]
    obtain ⟨w1, w2⟩ := sW_2 e2
    rw [pre, r9, zCi_some, if_neg (by decide), r_128 X1 ht (by omega) x19, zCi_some, x19, nI_1, e2]
    by_cases c1 : lA T t (p + 1) = 59
    · rw [w1 c1, if_pos c1]
      refine ⟨fun _ => ⟨_, rfl, zu_eq _ _ _ _, by rw [z_up_ne (by omega)]; exact x40, by rw [z_up_ne (by omega)]; exact x41, fun a b _ _ _ _ => ⟨fun z => ?_, fun z => ?_⟩, fun c j h1 h2 h3 _ => by rw [zu_ap, if_neg (fun z => h1 z.1 z.2)]; exact xo c j h1 h2 h3⟩, fun q z => (by cases z)⟩
      · exfalso; rw [ec] at z; revert z; decide
      · exfalso; rw [ec] at z; revert z; decide
    · rw [w2 c1, if_neg c1]
      exact ⟨fun z => (by cases z), fun q z => ⟨x, rfl, by injection z with z; rw [← z]; exact x19, fun c j h1 h2 h3 _ => xo c j h1 h2 h3⟩⟩
  · have pre : zcal (d + 5) 127 [.ref 32] h = (zCi (zcal (d + 4) 129 [.ref 32, .int (lA T t p), .int (nI (2 * i))] x) (fun v2 h1 => (if v2 = 0 then some (some (.int 0), h1) else (zCi (zcal (d + 4) 128 [.ref 32] h1) (fun v4 h3 => (if v4 = 59 then some (some (.int 1), (z_up h3 32 19 ((h3 32 19) + 1))) else some (some (.int 0), h3))))))) := by
      have fin : zE (d + 4) 127 (43, [some (.ref 32), some (.int (lA T t p))], [], h) = (zCi (zcal (d + 4) 129 [.ref 32, .int (lA T t p), .int (nI (2 * i))] x) (fun v2 h1 => (if v2 = 0 then some (some (.int 0), h1) else (zCi (zcal (d + 4) 128 [.ref 32] h1) (fun v4 h3 => (if v4 = 59 then some (some (.int 1), (z_up h3 32 19 ((h3 32 19) + 1))) else some (some (.int 0), h3))))))) := by
        rw [E127_32_at43, ei, zG_nI (by omega) (by omega), zG_nI (by omega) (by omega), nI_tn (by omega), e, nI_1, two, hx]
      rw [E127_32, r_128 X ht (by omega) e, zCi_some]
      by_cases c1 : lA T t p = 115
      · rw [if_pos c1]; exact fin
      · rw [if_neg c1]
        by_cases c2 : lA T t p = 114
        · rw [if_pos c2]; exact fin
        · rw [if_neg c2]
          by_cases c3 : lA T t p = 99
          · rw [if_pos c3]; exact fin
          · rw [if_neg c3]
            by_cases c4 : lA T t p = 118
            · rw [if_pos c4]; exact fin
            · rw [if_neg c4]
              by_cases c5 : lA T t p = 98
              · rw [if_pos c5]; exact fin
              · rw [if_neg c5, if_pos (by rcases hc with z | z | z | z | z <;> first | exact z | exact absurd z (by assumption))]; exact fin
    obtain ⟨a1, a2, a3, a4⟩ := sW_4 e4
    obtain ⟨s1, s2, s3⟩ := r_129 (d := d + 1) X1 ht hi (show p ≤ 300 by omega) x19 hc
    have xf : ∀ y : zH, fr9 i x y → fr7 i h y := fun y F c j h1 h2 h3 h4 => (F c j h1 h4).trans (xo c j h1 h2 h3)
    rw [pre, e4]
    by_cases c1 : dg (lA T t (p + 1))
    · by_cases c2 : dg (lA T t (p + 2))
      · obtain ⟨y, ey, y19, nm, F⟩ := s1 c1 c2
        have Y : txR T t y := txR_mv X1 (F 32 18 (by omega) (by omega)) (by funext j; exact F 39 j (by omega) (by omega))
        have y40 : y 40 i = lA T t p := (F 40 i (by omega) (by omega)).trans x40
        have y41 : y 41 i = nI p := (F 41 i (by omega) (by omega)).trans x41
        rw [ey, zCi_some, if_neg (by decide), r_128 Y ht (by omega) y19, zCi_some, y19, nI_1]
        by_cases c3 : lA T t (p + 3) = 59
        · rw [a4 c1 c2 c3, if_pos c3]
          refine ⟨fun _ => ⟨_, rfl, zu_eq _ _ _ _, by rw [z_up_ne (by omega)]; exact y40, by rw [z_up_ne (by omega)]; exact y41, fun a b ea ha eb hb => ?_, fun c j h1 h2 h3 h4 => by rw [zu_ap, if_neg (fun z => h1 z.1 z.2)]; exact xf y F c j h1 h2 h3 h4⟩, fun q z => (by cases z)⟩
          rw [z_up_ne (by omega)]
          exact nm a b ea ha eb hb
        · rw [a3 c1 c2 c3, if_neg c3]
          exact ⟨fun z => (by cases z), fun q z => ⟨y, rfl, by injection z with z; rw [← z]; exact y19, xf y F⟩⟩
      · obtain ⟨y, ey, y19, F⟩ := s3 c1 c2
        rw [ey, zCi_some, if_pos rfl, a2 c1 c2]
        exact ⟨fun z => (by cases z), fun q z => ⟨y, rfl, by injection z with z; rw [← z]; exact y19, xf y F⟩⟩
    · obtain ⟨y, ey, y19, F⟩ := s2 c1
      rw [ey, zCi_some, if_pos rfl, a1 c1]
      exact ⟨fun z => (by cases z), fun q z => ⟨y, rfl, by injection z with z; rw [← z]; exact y19, xf y F⟩⟩
/-- what the reference has noted of the statements ahead of i -/
def fmA (T : Nat → Int32) (t i : Nat) (x : zH) : Prop := ∀ j, j < i → x 40 j = lA T t (pL (lA T t) j) ∧ x 41 j = nI (pL (lA T t) j) ∧ nmR T t (pL (lA T t) j) j x
def fr6 (x y : zH) : Prop := ∀ c j, (c = 32 → j ≠ 19 ∧ j ≠ 20) → c ≠ 40 → c ≠ 41 → c ≠ 42 → y c j = x c j
theorem r_rd {K : Nat} (ht : t ≤ 96) (g : gdS (lA T t) t K) : ∀ m i (x : zH), i + m = K → txR T t x → x 32 19 = nI (pL (lA T t) i) → x 32 20 = nI i → fmA T t i x → ∃ y, zE (d + 5) 126 (12, [some (.ref 32), some (.int 1), none], [], x) = zE (d + 5) 126 (12, [some (.ref 32), some (.int 1), none], [], y) ∧ txR T t y ∧ y 32 19 = nI (pL (lA T t) K) ∧ y 32 20 = nI K ∧ fmA T t K y ∧ fr6 x y := by
  have hK := gdS_K ht g
  intro m
  induction m with
  | zero =>
    intro i x hi X x19 x20 A
    have hi : i = K := hi
    subst hi
    exact ⟨x, rfl, X, x19, x20, A, fun _ _ _ _ _ _ => rfl⟩
  | succ m ih =>
    intro i x hi X x19 x20 A
    obtain ⟨g1, g2⟩ := g i (by omega)
    obtain ⟨y, ey, y19, y40, y41, nm, F⟩ := (r_127 (d := d) X ht (i := i) (by omega) (by omega) x19 x20).1 g1
    have y20 : y 32 20 = nI i := (F 32 20 (by omega) (by omega) (by omega) (by omega)).trans x20
    have Y : txR T t (z_up y 32 20 (nI (i + 1))) := txR_mv X (by rw [zu_ni _ _ (by omega)]; exact F 32 18 (by omega) (by omega) (by omega) (by omega)) (by rw [z_up_ne (by omega)]; funext j; exact F 39 j (by omega) (by omega) (by omega) (by omega))
    obtain ⟨w, ew, w1, w2, w3, w4, w5⟩ := ih (i + 1) (z_up y 32 20 (nI (i + 1))) (by omega) Y (by rw [zu_ni _ _ (by omega)]; exact y19) (zu_eq _ _ _ _) (fun j hj => by
      rw [z_up_ne (by omega), z_up_ne (by omega)]
      by_cases z : j = i
      · subst z
        exact ⟨y40, y41, fun a b ea ha eb hb => by rw [z_up_ne (by omega)]; exact nm a b ea ha eb hb⟩
      · obtain ⟨b1, b2, b3⟩ := A j (by omega)
        refine ⟨(F 40 j (by omega) (by omega) (by omega) (by omega)).trans b1, (F 41 j (by omega) (by omega) (by omega) (by omega)).trans b2, fun a b ea ha eb hb => ?_⟩
        rw [z_up_ne (by omega), F 42 (2 * j) (by omega) (by omega) (by omega) (by omega), F 42 (2 * j + 1) (by omega) (by omega) (by omega) (by omega)]
        exact b3 a b ea ha eb hb)
    refine ⟨w, ?_, w1, w2, w3, w4, fun c j h1 h2 h3 h4 => ?_⟩
    · rw [E126_32_at12, if_neg (by decide), x19, X.1, if_pos (nI_lt g2 (by omega)), ey, zCi_some, if_neg (by decide), y20, nI_1]
      exact ew
    · rw [w5 c j h1 h2 h3 h4, zu_ap, if_neg (fun z => (h1 z.1).2 z.2)]
      exact F c j (fun z => (h1 z).1) (fun z => absurd z h2) (fun z => absurd z h3) (fun z => absurd z h4)
/-- the reference's first pass: a fault -/
theorem r_f1 {K q : Nat} {x : zH} (ht : t ≤ 96) (g : gdS (lA T t) t K) (hq : sW (lA T t) (pL (lA T t) K) = some q) (hz : pL (lA T t) K < t ∨ (K = 0 ∧ t = 0)) (X : txR T t x) : ∃ y, zcal (d + 6) 126 [.ref 32] x = some (some (.int ((-1000 : Int32) - nI q)), y) ∧ y 32 18 = 0 ∧ ∀ c j, (c = 32 → j ≠ 18 ∧ j ≠ 19 ∧ j ≠ 20) → c ≠ 40 → c ≠ 41 → c ≠ 42 → y c j = x c j := by
  have hK := gdS_K ht g
  have p100 := pL_le ht g
  have K47 : K < 48 := by
    have h1 := pL_ge K g
    omega
  have X0 : txR T t (z_up (z_up x 32 19 0) 32 20 0) := txR_mv X (by rw [zu_ni _ _ (by omega), zu_ni _ _ (by omega)]) (by rw [z_up_ne (by omega), z_up_ne (by omega)])
  obtain ⟨y, ey, Y, y19, y20, _, F⟩ := r_rd (d := d) ht g K 0 (z_up (z_up x 32 19 0) 32 20 0) (by omega) X0 (by rw [zu_ni _ _ (by omega), zu_eq]; rfl) (by rw [zu_eq]; rfl) (fun j hj => absurd hj (by omega))
  obtain ⟨w, ew, w19, G⟩ := (r_127 (d := d) Y ht (i := K) K47 (by omega) y19 y20).2 q hq
  have fin : zE (d + 5) 126 (12, [some (.ref 32), some (.int 1), none], [], y) = some (some (.int ((-1000 : Int32) - nI q)), z_up (z_up w 32 20 (w 32 20 + 0)) 32 18 0) := by
    have last : zE (d + 5) 126 (12, [some (.ref 32), some (.int 0), none], [], z_up w 32 20 (w 32 20 + 0)) = some (some (.int ((-1000 : Int32) - nI q)), z_up (z_up w 32 20 (w 32 20 + 0)) 32 18 0) := by
      rw [E126_32_at12, if_pos rfl, if_pos rfl, zu_ni _ _ (by omega), w19]
    rw [E126_32_at12, if_neg (by decide), y19, Y.1]
    rcases hz with z | ⟨z1, z2⟩
    · rw [if_pos (nI_lt z (by omega)), ew, zCi_some, if_pos rfl]
      exact last
    · rw [if_neg (show ¬ nI (pL (lA T t) K) < nI t from nI_nlt (by omega) (by omega)), y20, z1, if_pos (show nI 0 = (0 : Int32) from rfl), ew, zCi_some, if_pos rfl]
      exact last
  refine ⟨z_up (z_up w 32 20 (w 32 20 + 0)) 32 18 0, ?_, zu_eq _ _ _ _, fun c j h1 h2 h3 h4 => ?_⟩
  · rw [E126_32, ey]; exact fin
  · rw [zu_ap, if_neg (fun z => (h1 z.1).1 z.2), zu_ap, if_neg (fun z => (h1 z.1).2.2 z.2), G c j (fun z => (h1 z).2.1) (fun z => absurd z h2) (fun z => absurd z h3) (fun z => absurd z h4), F c j (fun z => ⟨(h1 z).2.1, (h1 z).2.2⟩) h2 h3 h4, zu_ap, if_neg (fun z => (h1 z.1).2.2 z.2), zu_ap, if_neg (fun z => (h1 z.1).2.1 z.2)]
/-- no fault of the first kind -/
theorem r_g1 {K : Nat} {x : zH} (ht : t ≤ 96) (g : gdS (lA T t) t K) (h0 : 0 < K) (hK : t ≤ pL (lA T t) K) (X : txR T t x) : ∃ y, zcal (d + 6) 126 [.ref 32] x = zE (d + 5) 126 (86, [some (.ref 32), some (.int 1), some (.int 0)], [], kpB y 1 48) ∧ y 32 18 = 0 ∧ y 32 20 = nI K ∧ fmA T t K y ∧ ∀ c j, (c = 32 → j ≠ 18 ∧ j ≠ 19 ∧ j ≠ 20) → c ≠ 40 → c ≠ 41 → c ≠ 42 → y c j = x c j := by
  have k48 := gdS_K ht g
  have p100 := pL_le ht g
  have X0 : txR T t (z_up (z_up x 32 19 0) 32 20 0) := txR_mv X (by rw [zu_ni _ _ (by omega), zu_ni _ _ (by omega)]) (by rw [z_up_ne (by omega), z_up_ne (by omega)])
  obtain ⟨y, ey, Y, y19, y20, A, F⟩ := r_rd (d := d) ht g K 0 (z_up (z_up x 32 19 0) 32 20 0) (by omega) X0 (by rw [zu_ni _ _ (by omega), zu_eq]; rfl) (by rw [zu_eq]; rfl) (fun j hj => absurd hj (by omega))
  have kk := r_keep (d := d + 2) (h := z_up y 32 18 0) (w := 1) (by omega)
  rw [show nI 1 = (1 : Int32) from rfl] at kk
  refine ⟨z_up y 32 18 0, ?_, zu_eq _ _ _ _, by rw [zu_ni _ _ (by omega)]; exact y20, fun j hj => ?_, fun c j h1 h2 h3 h4 => ?_⟩
  · rw [E126_32, ey, E126_32_at12, if_neg (by decide), y19, Y.1, if_neg (show ¬ nI (pL (lA T t) K) < nI t from nI_nlt hK (by omega)), y20, if_neg (fun z => by have := (nI_eq (a := K) (b := 0) (by omega) (by omega)).mp z; omega), if_neg (by decide), kk, zCv_some]
  · rw [z_up_ne (by omega), z_up_ne (by omega)]
    obtain ⟨b1, b2, b3⟩ := A j hj
    exact ⟨b1, b2, fun a b ea ha eb hb => by rw [z_up_ne (by omega)]; exact b3 a b ea ha eb hb⟩
  · rw [zu_ap, if_neg (fun z => (h1 z.1).1 z.2), F c j (fun z => ⟨(h1 z).2.1, (h1 z).2.2⟩) h2 h3 h4, zu_ap, if_neg (fun z => (h1 z.1).2.2 z.2), zu_ap, if_neg (fun z => (h1 z.1).2.1 z.2)]
end R
end RD

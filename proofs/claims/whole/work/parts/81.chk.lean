/-! THE TABLES HOLD: every word that the picture machine's tables name stands among the claim's words -/
def zTf (c : Nat) : u_T := ((zcl[c]?).map (fun q => q.2.1)).getD (fun _ => ("", "", "", false))
def zTn (c : Nat) : Nat := ((zcl[c]?).map (fun q => q.2.2)).getD 0
def zName (c : Nat) : String := (zNm[c]?).getD ""
def zBig : List Cond := lw_tbl.filter goodWord
theorem zBig_in {p : Nat} {w : Cond} (h : lw_tbl[p]? = some w) (hg : goodWord w = true) : w ∈ zBig := List.mem_filter.mpr ⟨List.mem_of_getElem? h, hg⟩
theorem zBig_sub : ∀ w ∈ zBig, w ∈ lw_tbl := fun _ h => (List.mem_filter.mp h).1
theorem zBig_good : ∀ w ∈ zBig, goodWord w = true := fun _ h => (List.mem_filter.mp h).2
theorem zFld_chk : zFldL.all (fun e => decide (lw_tbl[e.2.2.2.2]? = some (Cond.fieldLink (zName e.1) e.2.1 (zName e.2.2.1) (zTf e.2.2.1 e.2.2.2.1).2.1 (zTf e.2.2.1 e.2.2.2.1).2.2.1)) && decide (e.2.2.1 < 7 ∧ e.2.2.2.1 < zTn e.2.2.1)) = true := by decide +kernel
def zLayL : List (Nat × Nat × Nat) := [(0, 0, 137), (0, 1, 139), (0, 2, 141), (0, 3, 143), (0, 4, 145), (0, 5, 147), (0, 6, 149), (0, 7, 151), (0, 8, 153), (0, 9, 155), (0, 10, 157), (0, 11, 159), (0, 12, 161), (4, 0, 193), (4, 1, 195), (4, 2, 197), (4, 3, 199), (4, 4, 201), (4, 5, 203), (4, 6, 205), (4, 7, 207), (3, 0, 220), (3, 1, 222), (3, 2, 224), (2, 0, 247), (2, 1, 249), (1, 0, 254), (5, 0, 269), (5, 1, 271), (5, 2, 273), (5, 3, 275), (5, 4, 277), (5, 5, 279), (5, 6, 281), (5, 7, 283), (5, 8, 285), (5, 9, 287), (6, 0, 844), (6, 1, 846), (6, 2, 848), (6, 3, 850), (6, 4, 852), (6, 5, 854), (6, 6, 856), (6, 7, 858), (6, 8, 860), (6, 9, 862), (6, 10, 864), (6, 11, 866), (6, 12, 868), (6, 13, 870), (6, 14, 872), (6, 15, 874), (6, 16, 876), (6, 17, 878), (6, 18, 880), (6, 19, 882), (6, 20, 884), (6, 21, 886), (6, 22, 888), (6, 23, 890), (6, 24, 892), (6, 25, 894), (6, 26, 896), (6, 27, 898), (6, 28, 900), (6, 29, 902), (6, 30, 904), (6, 31, 906), (6, 32, 908), (6, 33, 910), (6, 34, 912), (6, 35, 914), (6, 36, 916), (6, 37, 918), (6, 38, 920), (6, 39, 922), (6, 40, 924), (6, 41, 926), (6, 42, 928)]
theorem zLay_chk : zLayL.all (fun e => decide (lw_tbl[e.2.2]? = some (u_lay (zName e.1) (zTf e.1) e.2.1))) = true := by decide +kernel
theorem zLay_has : ∀ c, c < 7 → ∀ j, j < zTn c → (zLayL.find? (fun e => e.1 == c && e.2.1 == j)).isSome = true := by decide +kernel
theorem zTf_own : ∀ c, c < 7 → ∀ j, j < zTn c → (zTf c j).1 = zName c := by decide +kernel
theorem zcl_at : ∀ c, c < 7 → zcl[c]? = some (zName c, zTf c, zTn c) := by
  intro c hc
  match c, hc with
  | 0, _ => rfl
  | 1, _ => rfl
  | 2, _ => rfl
  | 3, _ => rfl
  | 4, _ => rfl
  | 5, _ => rfl
  | 6, _ => rfl
def zMok (mi : Nat) : Bool := match zMpl[mi]? with
  | some (a, b, c, d) => decide (lw_tbl[b]? = some (if zStt mi = true then Cond.static (zYn mi) else Cond.instanceMethod (zYn mi))) && (zStt mi || decide (lw_tbl[c]? = some (Cond.selects (zName (zOwn mi)) (zYn mi) (zYn mi)))) && decide (lw_tbl[d]? = some (Cond.initialized (zYn mi).cls)) && decide ((zYn mi).cls = zName (zOwn mi)) && decide ((zYn mi).cls ≠ "java/lang/invoke/MethodHandle" ∧ (zYn mi).cls ≠ "java/lang/invoke/VarHandle") && (plainName (zYn mi).cls || mi == mMath_max || mi == mMath_min) && decide ((parseMethodDescriptor (zYn mi).desc).map (fun d => d.parameters.length) = some (zNar mi)) && decide (zMax mi ≤ 13)
  | none => false
theorem zM_chk1 : (List.range' 0 60).all zMok = true := by decide +kernel
theorem zM_chk2 : (List.range' 60 60).all zMok = true := by decide +kernel
theorem zM_chk3 : (List.range' 120 60).all zMok = true := by decide +kernel
theorem zM_chk4 : (List.range' 180 48).all zMok = true := by decide +kernel
theorem zM_chk {mi : Nat} (h : mi < zLaw) : zMok mi = true := by
  have h : mi < 228 := h
  rcases Nat.lt_or_ge mi 60 with a | a
  · exact List.all_eq_true.mp zM_chk1 mi (List.mem_range'_1.mpr ⟨by omega, by omega⟩)
  · rcases Nat.lt_or_ge mi 120 with b | b
    · exact List.all_eq_true.mp zM_chk2 mi (List.mem_range'_1.mpr ⟨by omega, by omega⟩)
    · rcases Nat.lt_or_ge mi 180 with c | c
      · exact List.all_eq_true.mp zM_chk3 mi (List.mem_range'_1.mpr ⟨by omega, by omega⟩)
      · exact List.all_eq_true.mp zM_chk4 mi (List.mem_range'_1.mpr ⟨by omega, by omega⟩)
/-- the code's words: by computation, name by name -/
def zCwP (mi : Nat) : Prop := lw_tbl[((zMpl[mi]?).getD (0, 0, 0, 0)).1]? = some (Cond.code (zYn mi) (zCode mi) (zMax mi) (zRet mi))
set_option maxRecDepth 100000 in
theorem zCw_0 : zCwP 0 := rfl
set_option maxRecDepth 100000 in
theorem zCw_1 : zCwP 1 := rfl
set_option maxRecDepth 100000 in
theorem zCw_2 : zCwP 2 := rfl
set_option maxRecDepth 100000 in
theorem zCw_3 : zCwP 3 := rfl
set_option maxRecDepth 100000 in
theorem zCw_4 : zCwP 4 := rfl
set_option maxRecDepth 100000 in
theorem zCw_5 : zCwP 5 := rfl
set_option maxRecDepth 100000 in
theorem zCw_6 : zCwP 6 := rfl
set_option maxRecDepth 100000 in
theorem zCw_7 : zCwP 7 := rfl
set_option maxRecDepth 100000 in
theorem zCw_8 : zCwP 8 := rfl
set_option maxRecDepth 100000 in
theorem zCw_9 : zCwP 9 := rfl
set_option maxRecDepth 100000 in
theorem zCw_10 : zCwP 10 := rfl
set_option maxRecDepth 100000 in
theorem zCw_11 : zCwP 11 := rfl
set_option maxRecDepth 100000 in
theorem zCw_12 : zCwP 12 := rfl
set_option maxRecDepth 100000 in
theorem zCw_13 : zCwP 13 := rfl
set_option maxRecDepth 100000 in
theorem zCw_14 : zCwP 14 := rfl
set_option maxRecDepth 100000 in
theorem zCw_15 : zCwP 15 := rfl
set_option maxRecDepth 100000 in
theorem zCw_16 : zCwP 16 := rfl
set_option maxRecDepth 100000 in
theorem zCw_17 : zCwP 17 := rfl
set_option maxRecDepth 100000 in
theorem zCw_18 : zCwP 18 := rfl
set_option maxRecDepth 100000 in
theorem zCw_19 : zCwP 19 := rfl
set_option maxRecDepth 100000 in
theorem zCw_20 : zCwP 20 := rfl
set_option maxRecDepth 100000 in
theorem zCw_21 : zCwP 21 := rfl
set_option maxRecDepth 100000 in
theorem zCw_22 : zCwP 22 := rfl
set_option maxRecDepth 100000 in
theorem zCw_23 : zCwP 23 := rfl
set_option maxRecDepth 100000 in
theorem zCw_24 : zCwP 24 := rfl
set_option maxRecDepth 100000 in
theorem zCw_25 : zCwP 25 := rfl
set_option maxRecDepth 100000 in
theorem zCw_26 : zCwP 26 := rfl
set_option maxRecDepth 100000 in
theorem zCw_27 : zCwP 27 := rfl
set_option maxRecDepth 100000 in
theorem zCw_28 : zCwP 28 := rfl
set_option maxRecDepth 100000 in
theorem zCw_29 : zCwP 29 := rfl
set_option maxRecDepth 100000 in
theorem zCw_30 : zCwP 30 := rfl
set_option maxRecDepth 100000 in
theorem zCw_31 : zCwP 31 := rfl
set_option maxRecDepth 100000 in
theorem zCw_32 : zCwP 32 := rfl
set_option maxRecDepth 100000 in
theorem zCw_33 : zCwP 33 := rfl
set_option maxRecDepth 100000 in
theorem zCw_34 : zCwP 34 := rfl
set_option maxRecDepth 100000 in
theorem zCw_35 : zCwP 35 := rfl
set_option maxRecDepth 100000 in
theorem zCw_36 : zCwP 36 := rfl
set_option maxRecDepth 100000 in
theorem zCw_37 : zCwP 37 := rfl
set_option maxRecDepth 100000 in
theorem zCw_38 : zCwP 38 := rfl
set_option maxRecDepth 100000 in
theorem zCw_39 : zCwP 39 := rfl
set_option maxRecDepth 100000 in
theorem zCw_40 : zCwP 40 := rfl
set_option maxRecDepth 100000 in
theorem zCw_41 : zCwP 41 := rfl
set_option maxRecDepth 100000 in
theorem zCw_42 : zCwP 42 := rfl
set_option maxRecDepth 100000 in
theorem zCw_43 : zCwP 43 := rfl
set_option maxRecDepth 100000 in
theorem zCw_44 : zCwP 44 := rfl
set_option maxRecDepth 100000 in
theorem zCw_45 : zCwP 45 := rfl
set_option maxRecDepth 100000 in
theorem zCw_46 : zCwP 46 := rfl
set_option maxRecDepth 100000 in
theorem zCw_47 : zCwP 47 := rfl
set_option maxRecDepth 100000 in
theorem zCw_48 : zCwP 48 := rfl
set_option maxRecDepth 100000 in
theorem zCw_49 : zCwP 49 := rfl
set_option maxRecDepth 100000 in
theorem zCw_50 : zCwP 50 := rfl
set_option maxRecDepth 100000 in
theorem zCw_51 : zCwP 51 := rfl
set_option maxRecDepth 100000 in
theorem zCw_52 : zCwP 52 := rfl
set_option maxRecDepth 100000 in
theorem zCw_53 : zCwP 53 := rfl
set_option maxRecDepth 100000 in
theorem zCw_54 : zCwP 54 := rfl
set_option maxRecDepth 100000 in
theorem zCw_55 : zCwP 55 := rfl
set_option maxRecDepth 100000 in
theorem zCw_56 : zCwP 56 := rfl
set_option maxRecDepth 100000 in
theorem zCw_57 : zCwP 57 := rfl
set_option maxRecDepth 100000 in
theorem zCw_58 : zCwP 58 := rfl
set_option maxRecDepth 100000 in
theorem zCw_59 : zCwP 59 := rfl
set_option maxRecDepth 100000 in
theorem zCw_60 : zCwP 60 := rfl
set_option maxRecDepth 100000 in
theorem zCw_61 : zCwP 61 := rfl
set_option maxRecDepth 100000 in
theorem zCw_62 : zCwP 62 := rfl
set_option maxRecDepth 100000 in
theorem zCw_63 : zCwP 63 := rfl
set_option maxRecDepth 100000 in
theorem zCw_64 : zCwP 64 := rfl
set_option maxRecDepth 100000 in
theorem zCw_65 : zCwP 65 := rfl
set_option maxRecDepth 100000 in
theorem zCw_66 : zCwP 66 := rfl
set_option maxRecDepth 100000 in
theorem zCw_67 : zCwP 67 := rfl
set_option maxRecDepth 100000 in
theorem zCw_68 : zCwP 68 := rfl
set_option maxRecDepth 100000 in
theorem zCw_69 : zCwP 69 := rfl
set_option maxRecDepth 100000 in
theorem zCw_70 : zCwP 70 := rfl
set_option maxRecDepth 100000 in
theorem zCw_71 : zCwP 71 := rfl
set_option maxRecDepth 100000 in
theorem zCw_72 : zCwP 72 := rfl
set_option maxRecDepth 100000 in
theorem zCw_73 : zCwP 73 := rfl
set_option maxRecDepth 100000 in
theorem zCw_74 : zCwP 74 := rfl
set_option maxRecDepth 100000 in
theorem zCw_75 : zCwP 75 := rfl
set_option maxRecDepth 100000 in
theorem zCw_76 : zCwP 76 := rfl
set_option maxRecDepth 100000 in
theorem zCw_77 : zCwP 77 := rfl
set_option maxRecDepth 100000 in
theorem zCw_78 : zCwP 78 := rfl
set_option maxRecDepth 100000 in
theorem zCw_79 : zCwP 79 := rfl
set_option maxRecDepth 100000 in
theorem zCw_80 : zCwP 80 := rfl
set_option maxRecDepth 100000 in
theorem zCw_81 : zCwP 81 := rfl
set_option maxRecDepth 100000 in
theorem zCw_82 : zCwP 82 := rfl
set_option maxRecDepth 100000 in
theorem zCw_83 : zCwP 83 := rfl
set_option maxRecDepth 100000 in
theorem zCw_84 : zCwP 84 := rfl
set_option maxRecDepth 100000 in
theorem zCw_85 : zCwP 85 := rfl
set_option maxRecDepth 100000 in
theorem zCw_86 : zCwP 86 := rfl
set_option maxRecDepth 100000 in
theorem zCw_87 : zCwP 87 := rfl
set_option maxRecDepth 100000 in
theorem zCw_88 : zCwP 88 := rfl
set_option maxRecDepth 100000 in
theorem zCw_89 : zCwP 89 := rfl
set_option maxRecDepth 100000 in
theorem zCw_90 : zCwP 90 := rfl
set_option maxRecDepth 100000 in
theorem zCw_91 : zCwP 91 := rfl
set_option maxRecDepth 100000 in
theorem zCw_92 : zCwP 92 := rfl
set_option maxRecDepth 100000 in
theorem zCw_93 : zCwP 93 := rfl
set_option maxRecDepth 100000 in
theorem zCw_94 : zCwP 94 := rfl
set_option maxRecDepth 100000 in
theorem zCw_95 : zCwP 95 := rfl
set_option maxRecDepth 100000 in
theorem zCw_96 : zCwP 96 := rfl
set_option maxRecDepth 100000 in
theorem zCw_97 : zCwP 97 := rfl
set_option maxRecDepth 100000 in
theorem zCw_98 : zCwP 98 := rfl
set_option maxRecDepth 100000 in
theorem zCw_99 : zCwP 99 := rfl
set_option maxRecDepth 100000 in
theorem zCw_100 : zCwP 100 := rfl
set_option maxRecDepth 100000 in
theorem zCw_101 : zCwP 101 := rfl
set_option maxRecDepth 100000 in
theorem zCw_102 : zCwP 102 := rfl
set_option maxRecDepth 100000 in
theorem zCw_103 : zCwP 103 := rfl
set_option maxRecDepth 100000 in
theorem zCw_104 : zCwP 104 := rfl
set_option maxRecDepth 100000 in
theorem zCw_105 : zCwP 105 := rfl
set_option maxRecDepth 100000 in
theorem zCw_106 : zCwP 106 := rfl
set_option maxRecDepth 100000 in
theorem zCw_107 : zCwP 107 := rfl
set_option maxRecDepth 100000 in
theorem zCw_108 : zCwP 108 := rfl
set_option maxRecDepth 100000 in
theorem zCw_109 : zCwP 109 := rfl
set_option maxRecDepth 100000 in
theorem zCw_110 : zCwP 110 := rfl
set_option maxRecDepth 100000 in
theorem zCw_111 : zCwP 111 := rfl
set_option maxRecDepth 100000 in
theorem zCw_112 : zCwP 112 := rfl
set_option maxRecDepth 100000 in
theorem zCw_113 : zCwP 113 := rfl
set_option maxRecDepth 100000 in
theorem zCw_114 : zCwP 114 := rfl
set_option maxRecDepth 100000 in
theorem zCw_115 : zCwP 115 := rfl
set_option maxRecDepth 100000 in
theorem zCw_116 : zCwP 116 := rfl
set_option maxRecDepth 100000 in
theorem zCw_117 : zCwP 117 := rfl
set_option maxRecDepth 100000 in
theorem zCw_118 : zCwP 118 := rfl
set_option maxRecDepth 100000 in
theorem zCw_119 : zCwP 119 := rfl
set_option maxRecDepth 100000 in
theorem zCw_120 : zCwP 120 := rfl
set_option maxRecDepth 100000 in
theorem zCw_121 : zCwP 121 := rfl
set_option maxRecDepth 100000 in
theorem zCw_122 : zCwP 122 := rfl
set_option maxRecDepth 100000 in
theorem zCw_123 : zCwP 123 := rfl
set_option maxRecDepth 100000 in
theorem zCw_124 : zCwP 124 := rfl
set_option maxRecDepth 100000 in
theorem zCw_125 : zCwP 125 := rfl
set_option maxRecDepth 100000 in
theorem zCw_126 : zCwP 126 := rfl
set_option maxRecDepth 100000 in
theorem zCw_127 : zCwP 127 := rfl
set_option maxRecDepth 100000 in
theorem zCw_128 : zCwP 128 := rfl
set_option maxRecDepth 100000 in
theorem zCw_129 : zCwP 129 := rfl
set_option maxRecDepth 100000 in
theorem zCw_130 : zCwP 130 := rfl
set_option maxRecDepth 100000 in
theorem zCw_131 : zCwP 131 := rfl
set_option maxRecDepth 100000 in
theorem zCw_132 : zCwP 132 := rfl
set_option maxRecDepth 100000 in
theorem zCw_133 : zCwP 133 := rfl
set_option maxRecDepth 100000 in
theorem zCw_134 : zCwP 134 := rfl
set_option maxRecDepth 100000 in
theorem zCw_135 : zCwP 135 := rfl
set_option maxRecDepth 100000 in
theorem zCw_136 : zCwP 136 := rfl
set_option maxRecDepth 100000 in
theorem zCw_137 : zCwP 137 := rfl
set_option maxRecDepth 100000 in
theorem zCw_138 : zCwP 138 := rfl
set_option maxRecDepth 100000 in
theorem zCw_139 : zCwP 139 := rfl
set_option maxRecDepth 100000 in
theorem zCw_140 : zCwP 140 := rfl
set_option maxRecDepth 100000 in
theorem zCw_141 : zCwP 141 := rfl
set_option maxRecDepth 100000 in
theorem zCw_142 : zCwP 142 := rfl
set_option maxRecDepth 100000 in
theorem zCw_143 : zCwP 143 := rfl
set_option maxRecDepth 100000 in
theorem zCw_144 : zCwP 144 := rfl
set_option maxRecDepth 100000 in
theorem zCw_145 : zCwP 145 := rfl
set_option maxRecDepth 100000 in
theorem zCw_146 : zCwP 146 := rfl
set_option maxRecDepth 100000 in
theorem zCw_147 : zCwP 147 := rfl
set_option maxRecDepth 100000 in
theorem zCw_148 : zCwP 148 := rfl
set_option maxRecDepth 100000 in
theorem zCw_149 : zCwP 149 := rfl
set_option maxRecDepth 100000 in
theorem zCw_150 : zCwP 150 := rfl
set_option maxRecDepth 100000 in
theorem zCw_151 : zCwP 151 := rfl
set_option maxRecDepth 100000 in
theorem zCw_152 : zCwP 152 := rfl
set_option maxRecDepth 100000 in
theorem zCw_153 : zCwP 153 := rfl
set_option maxRecDepth 100000 in
theorem zCw_154 : zCwP 154 := rfl
set_option maxRecDepth 100000 in
theorem zCw_155 : zCwP 155 := rfl
set_option maxRecDepth 100000 in
theorem zCw_156 : zCwP 156 := rfl
set_option maxRecDepth 100000 in
theorem zCw_157 : zCwP 157 := rfl
set_option maxRecDepth 100000 in
theorem zCw_158 : zCwP 158 := rfl
set_option maxRecDepth 100000 in
theorem zCw_159 : zCwP 159 := rfl
set_option maxRecDepth 100000 in
theorem zCw_160 : zCwP 160 := rfl
set_option maxRecDepth 100000 in
theorem zCw_161 : zCwP 161 := rfl
set_option maxRecDepth 100000 in
theorem zCw_162 : zCwP 162 := rfl
set_option maxRecDepth 100000 in
theorem zCw_163 : zCwP 163 := rfl
set_option maxRecDepth 100000 in
theorem zCw_164 : zCwP 164 := rfl
set_option maxRecDepth 100000 in
theorem zCw_165 : zCwP 165 := rfl
set_option maxRecDepth 100000 in
theorem zCw_166 : zCwP 166 := rfl
set_option maxRecDepth 100000 in
theorem zCw_167 : zCwP 167 := rfl
set_option maxRecDepth 100000 in
theorem zCw_168 : zCwP 168 := rfl
set_option maxRecDepth 100000 in
theorem zCw_169 : zCwP 169 := rfl
set_option maxRecDepth 100000 in
theorem zCw_170 : zCwP 170 := rfl
set_option maxRecDepth 100000 in
theorem zCw_171 : zCwP 171 := rfl
set_option maxRecDepth 100000 in
theorem zCw_172 : zCwP 172 := rfl
set_option maxRecDepth 100000 in
theorem zCw_173 : zCwP 173 := rfl
set_option maxRecDepth 100000 in
theorem zCw_174 : zCwP 174 := rfl
set_option maxRecDepth 100000 in
theorem zCw_175 : zCwP 175 := rfl
set_option maxRecDepth 100000 in
theorem zCw_176 : zCwP 176 := rfl
set_option maxRecDepth 100000 in
theorem zCw_177 : zCwP 177 := rfl
set_option maxRecDepth 100000 in
theorem zCw_178 : zCwP 178 := rfl
set_option maxRecDepth 100000 in
theorem zCw_179 : zCwP 179 := rfl
set_option maxRecDepth 100000 in
theorem zCw_180 : zCwP 180 := rfl
set_option maxRecDepth 100000 in
theorem zCw_181 : zCwP 181 := rfl
set_option maxRecDepth 100000 in
theorem zCw_182 : zCwP 182 := rfl
set_option maxRecDepth 100000 in
theorem zCw_183 : zCwP 183 := rfl
set_option maxRecDepth 100000 in
theorem zCw_184 : zCwP 184 := rfl
set_option maxRecDepth 100000 in
theorem zCw_185 : zCwP 185 := rfl
set_option maxRecDepth 100000 in
theorem zCw_186 : zCwP 186 := rfl
set_option maxRecDepth 100000 in
theorem zCw_187 : zCwP 187 := rfl
set_option maxRecDepth 100000 in
theorem zCw_188 : zCwP 188 := rfl
set_option maxRecDepth 100000 in
theorem zCw_189 : zCwP 189 := rfl
set_option maxRecDepth 100000 in
theorem zCw_190 : zCwP 190 := rfl
set_option maxRecDepth 100000 in
theorem zCw_191 : zCwP 191 := rfl
set_option maxRecDepth 100000 in
theorem zCw_192 : zCwP 192 := rfl
set_option maxRecDepth 100000 in
theorem zCw_193 : zCwP 193 := rfl
set_option maxRecDepth 100000 in
theorem zCw_194 : zCwP 194 := rfl
set_option maxRecDepth 100000 in
theorem zCw_195 : zCwP 195 := rfl
set_option maxRecDepth 100000 in
theorem zCw_196 : zCwP 196 := rfl
set_option maxRecDepth 100000 in
theorem zCw_197 : zCwP 197 := rfl
set_option maxRecDepth 100000 in
theorem zCw_198 : zCwP 198 := rfl
set_option maxRecDepth 100000 in
theorem zCw_199 : zCwP 199 := rfl
set_option maxRecDepth 100000 in
theorem zCw_200 : zCwP 200 := rfl
set_option maxRecDepth 100000 in
theorem zCw_201 : zCwP 201 := rfl
set_option maxRecDepth 100000 in
theorem zCw_202 : zCwP 202 := rfl
set_option maxRecDepth 100000 in
theorem zCw_203 : zCwP 203 := rfl
set_option maxRecDepth 100000 in
theorem zCw_204 : zCwP 204 := rfl
set_option maxRecDepth 100000 in
theorem zCw_205 : zCwP 205 := rfl
set_option maxRecDepth 100000 in
theorem zCw_206 : zCwP 206 := rfl
set_option maxRecDepth 100000 in
theorem zCw_207 : zCwP 207 := rfl
set_option maxRecDepth 100000 in
theorem zCw_208 : zCwP 208 := rfl
set_option maxRecDepth 100000 in
theorem zCw_209 : zCwP 209 := rfl
set_option maxRecDepth 100000 in
theorem zCw_210 : zCwP 210 := rfl
set_option maxRecDepth 100000 in
theorem zCw_211 : zCwP 211 := rfl
set_option maxRecDepth 100000 in
theorem zCw_212 : zCwP 212 := rfl
set_option maxRecDepth 100000 in
theorem zCw_213 : zCwP 213 := rfl
set_option maxRecDepth 100000 in
theorem zCw_214 : zCwP 214 := rfl
set_option maxRecDepth 100000 in
theorem zCw_215 : zCwP 215 := rfl
set_option maxRecDepth 100000 in
theorem zCw_216 : zCwP 216 := rfl
set_option maxRecDepth 100000 in
theorem zCw_217 : zCwP 217 := rfl
set_option maxRecDepth 100000 in
theorem zCw_218 : zCwP 218 := rfl
set_option maxRecDepth 100000 in
theorem zCw_219 : zCwP 219 := rfl
set_option maxRecDepth 100000 in
theorem zCw_220 : zCwP 220 := rfl
set_option maxRecDepth 100000 in
theorem zCw_221 : zCwP 221 := rfl
set_option maxRecDepth 100000 in
theorem zCw_222 : zCwP 222 := rfl
set_option maxRecDepth 100000 in
theorem zCw_223 : zCwP 223 := rfl
set_option maxRecDepth 100000 in
theorem zCw_224 : zCwP 224 := rfl
set_option maxRecDepth 100000 in
theorem zCw_225 : zCwP 225 := rfl
set_option maxRecDepth 100000 in
theorem zCw_226 : zCwP 226 := rfl
set_option maxRecDepth 100000 in
theorem zCw_227 : zCwP 227 := rfl
theorem zCwC_0 : ∀ x ∈ List.range' 0 19, zCwP x := List.forall_mem_cons.mpr ⟨zCw_0, List.forall_mem_cons.mpr ⟨zCw_1, List.forall_mem_cons.mpr ⟨zCw_2, List.forall_mem_cons.mpr ⟨zCw_3, List.forall_mem_cons.mpr ⟨zCw_4, List.forall_mem_cons.mpr ⟨zCw_5, List.forall_mem_cons.mpr ⟨zCw_6, List.forall_mem_cons.mpr ⟨zCw_7, List.forall_mem_cons.mpr ⟨zCw_8, List.forall_mem_cons.mpr ⟨zCw_9, List.forall_mem_cons.mpr ⟨zCw_10, List.forall_mem_cons.mpr ⟨zCw_11, List.forall_mem_cons.mpr ⟨zCw_12, List.forall_mem_cons.mpr ⟨zCw_13, List.forall_mem_cons.mpr ⟨zCw_14, List.forall_mem_cons.mpr ⟨zCw_15, List.forall_mem_cons.mpr ⟨zCw_16, List.forall_mem_cons.mpr ⟨zCw_17, List.forall_mem_cons.mpr ⟨zCw_18, fun _ h => absurd h List.not_mem_nil⟩⟩⟩⟩⟩⟩⟩⟩⟩⟩⟩⟩⟩⟩⟩⟩⟩⟩⟩
theorem zCwC_1 : ∀ x ∈ List.range' 19 19, zCwP x := List.forall_mem_cons.mpr ⟨zCw_19, List.forall_mem_cons.mpr ⟨zCw_20, List.forall_mem_cons.mpr ⟨zCw_21, List.forall_mem_cons.mpr ⟨zCw_22, List.forall_mem_cons.mpr ⟨zCw_23, List.forall_mem_cons.mpr ⟨zCw_24, List.forall_mem_cons.mpr ⟨zCw_25, List.forall_mem_cons.mpr ⟨zCw_26, List.forall_mem_cons.mpr ⟨zCw_27, List.forall_mem_cons.mpr ⟨zCw_28, List.forall_mem_cons.mpr ⟨zCw_29, List.forall_mem_cons.mpr ⟨zCw_30, List.forall_mem_cons.mpr ⟨zCw_31, List.forall_mem_cons.mpr ⟨zCw_32, List.forall_mem_cons.mpr ⟨zCw_33, List.forall_mem_cons.mpr ⟨zCw_34, List.forall_mem_cons.mpr ⟨zCw_35, List.forall_mem_cons.mpr ⟨zCw_36, List.forall_mem_cons.mpr ⟨zCw_37, fun _ h => absurd h List.not_mem_nil⟩⟩⟩⟩⟩⟩⟩⟩⟩⟩⟩⟩⟩⟩⟩⟩⟩⟩⟩
theorem zCwC_2 : ∀ x ∈ List.range' 38 19, zCwP x := List.forall_mem_cons.mpr ⟨zCw_38, List.forall_mem_cons.mpr ⟨zCw_39, List.forall_mem_cons.mpr ⟨zCw_40, List.forall_mem_cons.mpr ⟨zCw_41, List.forall_mem_cons.mpr ⟨zCw_42, List.forall_mem_cons.mpr ⟨zCw_43, List.forall_mem_cons.mpr ⟨zCw_44, List.forall_mem_cons.mpr ⟨zCw_45, List.forall_mem_cons.mpr ⟨zCw_46, List.forall_mem_cons.mpr ⟨zCw_47, List.forall_mem_cons.mpr ⟨zCw_48, List.forall_mem_cons.mpr ⟨zCw_49, List.forall_mem_cons.mpr ⟨zCw_50, List.forall_mem_cons.mpr ⟨zCw_51, List.forall_mem_cons.mpr ⟨zCw_52, List.forall_mem_cons.mpr ⟨zCw_53, List.forall_mem_cons.mpr ⟨zCw_54, List.forall_mem_cons.mpr ⟨zCw_55, List.forall_mem_cons.mpr ⟨zCw_56, fun _ h => absurd h List.not_mem_nil⟩⟩⟩⟩⟩⟩⟩⟩⟩⟩⟩⟩⟩⟩⟩⟩⟩⟩⟩
theorem zCwC_3 : ∀ x ∈ List.range' 57 19, zCwP x := List.forall_mem_cons.mpr ⟨zCw_57, List.forall_mem_cons.mpr ⟨zCw_58, List.forall_mem_cons.mpr ⟨zCw_59, List.forall_mem_cons.mpr ⟨zCw_60, List.forall_mem_cons.mpr ⟨zCw_61, List.forall_mem_cons.mpr ⟨zCw_62, List.forall_mem_cons.mpr ⟨zCw_63, List.forall_mem_cons.mpr ⟨zCw_64, List.forall_mem_cons.mpr ⟨zCw_65, List.forall_mem_cons.mpr ⟨zCw_66, List.forall_mem_cons.mpr ⟨zCw_67, List.forall_mem_cons.mpr ⟨zCw_68, List.forall_mem_cons.mpr ⟨zCw_69, List.forall_mem_cons.mpr ⟨zCw_70, List.forall_mem_cons.mpr ⟨zCw_71, List.forall_mem_cons.mpr ⟨zCw_72, List.forall_mem_cons.mpr ⟨zCw_73, List.forall_mem_cons.mpr ⟨zCw_74, List.forall_mem_cons.mpr ⟨zCw_75, fun _ h => absurd h List.not_mem_nil⟩⟩⟩⟩⟩⟩⟩⟩⟩⟩⟩⟩⟩⟩⟩⟩⟩⟩⟩
theorem zCwC_4 : ∀ x ∈ List.range' 76 19, zCwP x := List.forall_mem_cons.mpr ⟨zCw_76, List.forall_mem_cons.mpr ⟨zCw_77, List.forall_mem_cons.mpr ⟨zCw_78, List.forall_mem_cons.mpr ⟨zCw_79, List.forall_mem_cons.mpr ⟨zCw_80, List.forall_mem_cons.mpr ⟨zCw_81, List.forall_mem_cons.mpr ⟨zCw_82, List.forall_mem_cons.mpr ⟨zCw_83, List.forall_mem_cons.mpr ⟨zCw_84, List.forall_mem_cons.mpr ⟨zCw_85, List.forall_mem_cons.mpr ⟨zCw_86, List.forall_mem_cons.mpr ⟨zCw_87, List.forall_mem_cons.mpr ⟨zCw_88, List.forall_mem_cons.mpr ⟨zCw_89, List.forall_mem_cons.mpr ⟨zCw_90, List.forall_mem_cons.mpr ⟨zCw_91, List.forall_mem_cons.mpr ⟨zCw_92, List.forall_mem_cons.mpr ⟨zCw_93, List.forall_mem_cons.mpr ⟨zCw_94, fun _ h => absurd h List.not_mem_nil⟩⟩⟩⟩⟩⟩⟩⟩⟩⟩⟩⟩⟩⟩⟩⟩⟩⟩⟩
theorem zCwC_5 : ∀ x ∈ List.range' 95 19, zCwP x := List.forall_mem_cons.mpr ⟨zCw_95, List.forall_mem_cons.mpr ⟨zCw_96, List.forall_mem_cons.mpr ⟨zCw_97, List.forall_mem_cons.mpr ⟨zCw_98, List.forall_mem_cons.mpr ⟨zCw_99, List.forall_mem_cons.mpr ⟨zCw_100, List.forall_mem_cons.mpr ⟨zCw_101, List.forall_mem_cons.mpr ⟨zCw_102, List.forall_mem_cons.mpr ⟨zCw_103, List.forall_mem_cons.mpr ⟨zCw_104, List.forall_mem_cons.mpr ⟨zCw_105, List.forall_mem_cons.mpr ⟨zCw_106, List.forall_mem_cons.mpr ⟨zCw_107, List.forall_mem_cons.mpr ⟨zCw_108, List.forall_mem_cons.mpr ⟨zCw_109, List.forall_mem_cons.mpr ⟨zCw_110, List.forall_mem_cons.mpr ⟨zCw_111, List.forall_mem_cons.mpr ⟨zCw_112, List.forall_mem_cons.mpr ⟨zCw_113, fun _ h => absurd h List.not_mem_nil⟩⟩⟩⟩⟩⟩⟩⟩⟩⟩⟩⟩⟩⟩⟩⟩⟩⟩⟩
theorem zCwC_6 : ∀ x ∈ List.range' 114 19, zCwP x := List.forall_mem_cons.mpr ⟨zCw_114, List.forall_mem_cons.mpr ⟨zCw_115, List.forall_mem_cons.mpr ⟨zCw_116, List.forall_mem_cons.mpr ⟨zCw_117, List.forall_mem_cons.mpr ⟨zCw_118, List.forall_mem_cons.mpr ⟨zCw_119, List.forall_mem_cons.mpr ⟨zCw_120, List.forall_mem_cons.mpr ⟨zCw_121, List.forall_mem_cons.mpr ⟨zCw_122, List.forall_mem_cons.mpr ⟨zCw_123, List.forall_mem_cons.mpr ⟨zCw_124, List.forall_mem_cons.mpr ⟨zCw_125, List.forall_mem_cons.mpr ⟨zCw_126, List.forall_mem_cons.mpr ⟨zCw_127, List.forall_mem_cons.mpr ⟨zCw_128, List.forall_mem_cons.mpr ⟨zCw_129, List.forall_mem_cons.mpr ⟨zCw_130, List.forall_mem_cons.mpr ⟨zCw_131, List.forall_mem_cons.mpr ⟨zCw_132, fun _ h => absurd h List.not_mem_nil⟩⟩⟩⟩⟩⟩⟩⟩⟩⟩⟩⟩⟩⟩⟩⟩⟩⟩⟩
theorem zCwC_7 : ∀ x ∈ List.range' 133 19, zCwP x := List.forall_mem_cons.mpr ⟨zCw_133, List.forall_mem_cons.mpr ⟨zCw_134, List.forall_mem_cons.mpr ⟨zCw_135, List.forall_mem_cons.mpr ⟨zCw_136, List.forall_mem_cons.mpr ⟨zCw_137, List.forall_mem_cons.mpr ⟨zCw_138, List.forall_mem_cons.mpr ⟨zCw_139, List.forall_mem_cons.mpr ⟨zCw_140, List.forall_mem_cons.mpr ⟨zCw_141, List.forall_mem_cons.mpr ⟨zCw_142, List.forall_mem_cons.mpr ⟨zCw_143, List.forall_mem_cons.mpr ⟨zCw_144, List.forall_mem_cons.mpr ⟨zCw_145, List.forall_mem_cons.mpr ⟨zCw_146, List.forall_mem_cons.mpr ⟨zCw_147, List.forall_mem_cons.mpr ⟨zCw_148, List.forall_mem_cons.mpr ⟨zCw_149, List.forall_mem_cons.mpr ⟨zCw_150, List.forall_mem_cons.mpr ⟨zCw_151, fun _ h => absurd h List.not_mem_nil⟩⟩⟩⟩⟩⟩⟩⟩⟩⟩⟩⟩⟩⟩⟩⟩⟩⟩⟩
theorem zCwC_8 : ∀ x ∈ List.range' 152 19, zCwP x := List.forall_mem_cons.mpr ⟨zCw_152, List.forall_mem_cons.mpr ⟨zCw_153, List.forall_mem_cons.mpr ⟨zCw_154, List.forall_mem_cons.mpr ⟨zCw_155, List.forall_mem_cons.mpr ⟨zCw_156, List.forall_mem_cons.mpr ⟨zCw_157, List.forall_mem_cons.mpr ⟨zCw_158, List.forall_mem_cons.mpr ⟨zCw_159, List.forall_mem_cons.mpr ⟨zCw_160, List.forall_mem_cons.mpr ⟨zCw_161, List.forall_mem_cons.mpr ⟨zCw_162, List.forall_mem_cons.mpr ⟨zCw_163, List.forall_mem_cons.mpr ⟨zCw_164, List.forall_mem_cons.mpr ⟨zCw_165, List.forall_mem_cons.mpr ⟨zCw_166, List.forall_mem_cons.mpr ⟨zCw_167, List.forall_mem_cons.mpr ⟨zCw_168, List.forall_mem_cons.mpr ⟨zCw_169, List.forall_mem_cons.mpr ⟨zCw_170, fun _ h => absurd h List.not_mem_nil⟩⟩⟩⟩⟩⟩⟩⟩⟩⟩⟩⟩⟩⟩⟩⟩⟩⟩⟩
theorem zCwC_9 : ∀ x ∈ List.range' 171 19, zCwP x := List.forall_mem_cons.mpr ⟨zCw_171, List.forall_mem_cons.mpr ⟨zCw_172, List.forall_mem_cons.mpr ⟨zCw_173, List.forall_mem_cons.mpr ⟨zCw_174, List.forall_mem_cons.mpr ⟨zCw_175, List.forall_mem_cons.mpr ⟨zCw_176, List.forall_mem_cons.mpr ⟨zCw_177, List.forall_mem_cons.mpr ⟨zCw_178, List.forall_mem_cons.mpr ⟨zCw_179, List.forall_mem_cons.mpr ⟨zCw_180, List.forall_mem_cons.mpr ⟨zCw_181, List.forall_mem_cons.mpr ⟨zCw_182, List.forall_mem_cons.mpr ⟨zCw_183, List.forall_mem_cons.mpr ⟨zCw_184, List.forall_mem_cons.mpr ⟨zCw_185, List.forall_mem_cons.mpr ⟨zCw_186, List.forall_mem_cons.mpr ⟨zCw_187, List.forall_mem_cons.mpr ⟨zCw_188, List.forall_mem_cons.mpr ⟨zCw_189, fun _ h => absurd h List.not_mem_nil⟩⟩⟩⟩⟩⟩⟩⟩⟩⟩⟩⟩⟩⟩⟩⟩⟩⟩⟩
theorem zCwC_10 : ∀ x ∈ List.range' 190 19, zCwP x := List.forall_mem_cons.mpr ⟨zCw_190, List.forall_mem_cons.mpr ⟨zCw_191, List.forall_mem_cons.mpr ⟨zCw_192, List.forall_mem_cons.mpr ⟨zCw_193, List.forall_mem_cons.mpr ⟨zCw_194, List.forall_mem_cons.mpr ⟨zCw_195, List.forall_mem_cons.mpr ⟨zCw_196, List.forall_mem_cons.mpr ⟨zCw_197, List.forall_mem_cons.mpr ⟨zCw_198, List.forall_mem_cons.mpr ⟨zCw_199, List.forall_mem_cons.mpr ⟨zCw_200, List.forall_mem_cons.mpr ⟨zCw_201, List.forall_mem_cons.mpr ⟨zCw_202, List.forall_mem_cons.mpr ⟨zCw_203, List.forall_mem_cons.mpr ⟨zCw_204, List.forall_mem_cons.mpr ⟨zCw_205, List.forall_mem_cons.mpr ⟨zCw_206, List.forall_mem_cons.mpr ⟨zCw_207, List.forall_mem_cons.mpr ⟨zCw_208, fun _ h => absurd h List.not_mem_nil⟩⟩⟩⟩⟩⟩⟩⟩⟩⟩⟩⟩⟩⟩⟩⟩⟩⟩⟩
theorem zCwC_11 : ∀ x ∈ List.range' 209 19, zCwP x := List.forall_mem_cons.mpr ⟨zCw_209, List.forall_mem_cons.mpr ⟨zCw_210, List.forall_mem_cons.mpr ⟨zCw_211, List.forall_mem_cons.mpr ⟨zCw_212, List.forall_mem_cons.mpr ⟨zCw_213, List.forall_mem_cons.mpr ⟨zCw_214, List.forall_mem_cons.mpr ⟨zCw_215, List.forall_mem_cons.mpr ⟨zCw_216, List.forall_mem_cons.mpr ⟨zCw_217, List.forall_mem_cons.mpr ⟨zCw_218, List.forall_mem_cons.mpr ⟨zCw_219, List.forall_mem_cons.mpr ⟨zCw_220, List.forall_mem_cons.mpr ⟨zCw_221, List.forall_mem_cons.mpr ⟨zCw_222, List.forall_mem_cons.mpr ⟨zCw_223, List.forall_mem_cons.mpr ⟨zCw_224, List.forall_mem_cons.mpr ⟨zCw_225, List.forall_mem_cons.mpr ⟨zCw_226, List.forall_mem_cons.mpr ⟨zCw_227, fun _ h => absurd h List.not_mem_nil⟩⟩⟩⟩⟩⟩⟩⟩⟩⟩⟩⟩⟩⟩⟩⟩⟩⟩⟩
theorem zCw_all {mi : Nat} (h : mi < 228) : zCwP mi := by
  have e : ∀ a n, (∀ x ∈ List.range' a n, zCwP x) → a ≤ mi → mi < a + n → zCwP mi := fun a n g h1 h2 => g mi (List.mem_range'_1.mpr ⟨h1, h2⟩)
  rcases Nat.lt_or_ge mi 19 with g | g0
  · exact e _ _ zCwC_0 (by omega) (by omega)
  rcases Nat.lt_or_ge mi 38 with g | g1
  · exact e _ _ zCwC_1 (by omega) (by omega)
  rcases Nat.lt_or_ge mi 57 with g | g2
  · exact e _ _ zCwC_2 (by omega) (by omega)
  rcases Nat.lt_or_ge mi 76 with g | g3
  · exact e _ _ zCwC_3 (by omega) (by omega)
  rcases Nat.lt_or_ge mi 95 with g | g4
  · exact e _ _ zCwC_4 (by omega) (by omega)
  rcases Nat.lt_or_ge mi 114 with g | g5
  · exact e _ _ zCwC_5 (by omega) (by omega)
  rcases Nat.lt_or_ge mi 133 with g | g6
  · exact e _ _ zCwC_6 (by omega) (by omega)
  rcases Nat.lt_or_ge mi 152 with g | g7
  · exact e _ _ zCwC_7 (by omega) (by omega)
  rcases Nat.lt_or_ge mi 171 with g | g8
  · exact e _ _ zCwC_8 (by omega) (by omega)
  rcases Nat.lt_or_ge mi 190 with g | g9
  · exact e _ _ zCwC_9 (by omega) (by omega)
  rcases Nat.lt_or_ge mi 209 with g | g10
  · exact e _ _ zCwC_10 (by omega) (by omega)
  exact e _ _ zCwC_11 (by omega) (by omega)
def zIsN : Cond → Bool
  | .methodLinkNest _ _ _ _ => true
  | _ => false
theorem zNw_chk : (zNw.zip zNwPl).all (fun e => decide (lw_tbl[e.2]? = some e.1) && zIsN e.1) = true := by decide +kernel
theorem zNw_len : zNw.length = zNwPl.length := by decide +kernel
theorem zMth_chk : zMthL.all (fun e => decide (e.2.2.1 < zLaw) && (match e.2.2.2.1 with
  | 0 => decide (lw_tbl[e.2.2.2.2]? = some (Cond.methodLink (zName e.1) e.2.1 (zYn e.2.2.1))) && !zStt e.2.2.1
  | 1 => decide (lw_tbl[e.2.2.2.2]? = some (Cond.methodLink (zName e.1) e.2.1 (zYn e.2.2.1))) && zStt e.2.2.1
  | _ => decide (zNw[e.2.2.2.2]? = some (Cond.methodLinkNest (zName e.1) e.2.1 (zYn e.2.2.1) "FreeWheelDown")) && zStt e.2.2.1)) = true := by decide +kernel
theorem zCon_chk : zConL.all (fun e => decide (lw_tbl[e.2.2.2]? = some (Cond.constant (zName e.1) e.2.1 e.2.2.1))) = true := by decide +kernel
theorem zCo2_chk : zConLL.all (fun e => decide (lw_tbl[e.2.2.2]? = some (Cond.constantLong (zName e.1) e.2.1 e.2.2.1))) = true := by decide +kernel
theorem zSh_chk : zSh.all (fun x => match x with
  | .inl _ => true
  | .inr y => decide (y.1 < 7 ∧ y.2.length = zTn y.1)) = true := by decide +kernel
theorem zTy_ok : ∀ c, c < 7 → ∀ j, j < zTn c → parseFieldDescriptor (zTf c j).2.2.1 = ((zTy[c]?).map (fun f => f j)) := by decide +kernel
theorem zTf_nm : ∀ c, c < 7 → ∀ a, a < zTn c → ∀ b, b < zTn c → a ≠ b → (zTf c a).2.1 ≠ (zTf c b).2.1 := by
  intro c hc
  match c, hc with
  | 0, _ => exact nmX0
  | 1, _ => exact nmX1
  | 2, _ => exact nmX2
  | 3, _ => exact nmX3
  | 4, _ => exact nmX4
  | 5, _ => exact nmX5
  | 6, _ => exact nmX6
/-- a field that holds a number isn't final -/
theorem zSh_fin : zSh.all (fun x => match x with
  | .inl _ => true
  | .inr y => (List.range y.2.length).all (fun j => decide (y.2[j]? ≠ some none) || decide ((zTf y.1 j).2.2.2 = false))) = true := by decide +kernel

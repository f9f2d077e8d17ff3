/-! EVERY METHOD'S CONTRACT -/
def zDecP (mi : Nat) : Prop := zdec (zCode mi) ((zI[mi]?).getD []) = true
set_option maxRecDepth 100000 in
theorem zDec_0 : zDecP 0 := zdec_0
set_option maxRecDepth 100000 in
theorem zDec_1 : zDecP 1 := zdec_1
set_option maxRecDepth 100000 in
theorem zDec_2 : zDecP 2 := zdec_2
set_option maxRecDepth 100000 in
theorem zDec_3 : zDecP 3 := zdec_3
set_option maxRecDepth 100000 in
theorem zDec_4 : zDecP 4 := zdec_4
set_option maxRecDepth 100000 in
theorem zDec_5 : zDecP 5 := zdec_5
set_option maxRecDepth 100000 in
theorem zDec_6 : zDecP 6 := zdec_6
set_option maxRecDepth 100000 in
theorem zDec_7 : zDecP 7 := zdec_7
set_option maxRecDepth 100000 in
theorem zDec_8 : zDecP 8 := zdec_8
set_option maxRecDepth 100000 in
theorem zDec_9 : zDecP 9 := zdec_9
set_option maxRecDepth 100000 in
theorem zDec_10 : zDecP 10 := zdec_10
set_option maxRecDepth 100000 in
theorem zDec_11 : zDecP 11 := zdec_11
set_option maxRecDepth 100000 in
theorem zDec_12 : zDecP 12 := zdec_12
set_option maxRecDepth 100000 in
theorem zDec_13 : zDecP 13 := zdec_13
set_option maxRecDepth 100000 in
theorem zDec_14 : zDecP 14 := zdec_14
set_option maxRecDepth 100000 in
theorem zDec_15 : zDecP 15 := zdec_15
set_option maxRecDepth 100000 in
theorem zDec_16 : zDecP 16 := zdec_16
set_option maxRecDepth 100000 in
theorem zDec_17 : zDecP 17 := zdec_17
set_option maxRecDepth 100000 in
theorem zDec_18 : zDecP 18 := zdec_18
set_option maxRecDepth 100000 in
theorem zDec_19 : zDecP 19 := zdec_19
set_option maxRecDepth 100000 in
theorem zDec_20 : zDecP 20 := zdec_20
set_option maxRecDepth 100000 in
theorem zDec_21 : zDecP 21 := zdec_21
set_option maxRecDepth 100000 in
theorem zDec_22 : zDecP 22 := zdec_22
set_option maxRecDepth 100000 in
theorem zDec_23 : zDecP 23 := zdec_23
set_option maxRecDepth 100000 in
theorem zDec_24 : zDecP 24 := zdec_24
set_option maxRecDepth 100000 in
theorem zDec_25 : zDecP 25 := zdec_25
set_option maxRecDepth 100000 in
theorem zDec_26 : zDecP 26 := zdec_26
set_option maxRecDepth 100000 in
theorem zDec_27 : zDecP 27 := zdec_27
set_option maxRecDepth 100000 in
theorem zDec_28 : zDecP 28 := zdec_28
set_option maxRecDepth 100000 in
theorem zDec_29 : zDecP 29 := zdec_29
set_option maxRecDepth 100000 in
theorem zDec_30 : zDecP 30 := zdec_30
set_option maxRecDepth 100000 in
theorem zDec_31 : zDecP 31 := zdec_31
set_option maxRecDepth 100000 in
theorem zDec_32 : zDecP 32 := zdec_32
set_option maxRecDepth 100000 in
theorem zDec_33 : zDecP 33 := zdec_33
set_option maxRecDepth 100000 in
theorem zDec_34 : zDecP 34 := zdec_34
set_option maxRecDepth 100000 in
theorem zDec_35 : zDecP 35 := zdec_35
set_option maxRecDepth 100000 in
theorem zDec_36 : zDecP 36 := zdec_36
set_option maxRecDepth 100000 in
theorem zDec_37 : zDecP 37 := zdec_37
set_option maxRecDepth 100000 in
theorem zDec_38 : zDecP 38 := zdec_38
set_option maxRecDepth 100000 in
theorem zDec_39 : zDecP 39 := zdec_39
set_option maxRecDepth 100000 in
theorem zDec_40 : zDecP 40 := zdec_40
set_option maxRecDepth 100000 in
theorem zDec_41 : zDecP 41 := zdec_41
set_option maxRecDepth 100000 in
theorem zDec_42 : zDecP 42 := zdec_42
set_option maxRecDepth 100000 in
theorem zDec_43 : zDecP 43 := zdec_43
set_option maxRecDepth 100000 in
theorem zDec_44 : zDecP 44 := zdec_44
set_option maxRecDepth 100000 in
theorem zDec_45 : zDecP 45 := zdec_45
set_option maxRecDepth 100000 in
theorem zDec_46 : zDecP 46 := zdec_46
set_option maxRecDepth 100000 in
theorem zDec_47 : zDecP 47 := zdec_47
set_option maxRecDepth 100000 in
theorem zDec_48 : zDecP 48 := zdec_48
set_option maxRecDepth 100000 in
theorem zDec_49 : zDecP 49 := zdec_49
set_option maxRecDepth 100000 in
theorem zDec_50 : zDecP 50 := zdec_50
set_option maxRecDepth 100000 in
theorem zDec_51 : zDecP 51 := zdec_51
set_option maxRecDepth 100000 in
theorem zDec_52 : zDecP 52 := zdec_52
set_option maxRecDepth 100000 in
theorem zDec_53 : zDecP 53 := zdec_53
set_option maxRecDepth 100000 in
theorem zDec_54 : zDecP 54 := zdec_54
set_option maxRecDepth 100000 in
theorem zDec_55 : zDecP 55 := zdec_55
set_option maxRecDepth 100000 in
theorem zDec_56 : zDecP 56 := zdec_56
set_option maxRecDepth 100000 in
theorem zDec_57 : zDecP 57 := zdec_57
set_option maxRecDepth 100000 in
theorem zDec_58 : zDecP 58 := zdec_58
set_option maxRecDepth 100000 in
theorem zDec_59 : zDecP 59 := zdec_59
set_option maxRecDepth 100000 in
theorem zDec_60 : zDecP 60 := zdec_60
set_option maxRecDepth 100000 in
theorem zDec_61 : zDecP 61 := zdec_61
set_option maxRecDepth 100000 in
theorem zDec_62 : zDecP 62 := zdec_62
set_option maxRecDepth 100000 in
theorem zDec_63 : zDecP 63 := zdec_63
set_option maxRecDepth 100000 in
theorem zDec_64 : zDecP 64 := zdec_64
set_option maxRecDepth 100000 in
theorem zDec_65 : zDecP 65 := zdec_65
set_option maxRecDepth 100000 in
theorem zDec_66 : zDecP 66 := zdec_66
set_option maxRecDepth 100000 in
theorem zDec_67 : zDecP 67 := zdec_67
set_option maxRecDepth 100000 in
theorem zDec_68 : zDecP 68 := zdec_68
set_option maxRecDepth 100000 in
theorem zDec_69 : zDecP 69 := zdec_69
set_option maxRecDepth 100000 in
theorem zDec_70 : zDecP 70 := zdec_70
set_option maxRecDepth 100000 in
theorem zDec_71 : zDecP 71 := zdec_71
set_option maxRecDepth 100000 in
theorem zDec_72 : zDecP 72 := zdec_72
set_option maxRecDepth 100000 in
theorem zDec_73 : zDecP 73 := zdec_73
set_option maxRecDepth 100000 in
theorem zDec_74 : zDecP 74 := zdec_74
set_option maxRecDepth 100000 in
theorem zDec_75 : zDecP 75 := zdec_75
set_option maxRecDepth 100000 in
theorem zDec_76 : zDecP 76 := zdec_76
set_option maxRecDepth 100000 in
theorem zDec_77 : zDecP 77 := zdec_77
set_option maxRecDepth 100000 in
theorem zDec_78 : zDecP 78 := zdec_78
set_option maxRecDepth 100000 in
theorem zDec_79 : zDecP 79 := zdec_79
set_option maxRecDepth 100000 in
theorem zDec_80 : zDecP 80 := zdec_80
set_option maxRecDepth 100000 in
theorem zDec_81 : zDecP 81 := zdec_81
set_option maxRecDepth 100000 in
theorem zDec_82 : zDecP 82 := zdec_82
set_option maxRecDepth 100000 in
theorem zDec_83 : zDecP 83 := zdec_83
set_option maxRecDepth 100000 in
theorem zDec_84 : zDecP 84 := zdec_84
set_option maxRecDepth 100000 in
theorem zDec_85 : zDecP 85 := zdec_85
set_option maxRecDepth 100000 in
theorem zDec_86 : zDecP 86 := zdec_86
set_option maxRecDepth 100000 in
theorem zDec_87 : zDecP 87 := zdec_87
set_option maxRecDepth 100000 in
theorem zDec_88 : zDecP 88 := zdec_88
set_option maxRecDepth 100000 in
theorem zDec_89 : zDecP 89 := zdec_89
set_option maxRecDepth 100000 in
theorem zDec_90 : zDecP 90 := zdec_90
set_option maxRecDepth 100000 in
theorem zDec_91 : zDecP 91 := zdec_91
set_option maxRecDepth 100000 in
theorem zDec_92 : zDecP 92 := zdec_92
set_option maxRecDepth 100000 in
theorem zDec_93 : zDecP 93 := zdec_93
set_option maxRecDepth 100000 in
theorem zDec_94 : zDecP 94 := zdec_94
set_option maxRecDepth 100000 in
theorem zDec_95 : zDecP 95 := zdec_95
set_option maxRecDepth 100000 in
theorem zDec_96 : zDecP 96 := zdec_96
set_option maxRecDepth 100000 in
theorem zDec_97 : zDecP 97 := zdec_97
set_option maxRecDepth 100000 in
theorem zDec_98 : zDecP 98 := zdec_98
set_option maxRecDepth 100000 in
theorem zDec_99 : zDecP 99 := zdec_99
set_option maxRecDepth 100000 in
theorem zDec_100 : zDecP 100 := zdec_100
set_option maxRecDepth 100000 in
theorem zDec_101 : zDecP 101 := zdec_101
set_option maxRecDepth 100000 in
theorem zDec_102 : zDecP 102 := zdec_102
set_option maxRecDepth 100000 in
theorem zDec_103 : zDecP 103 := zdec_103
set_option maxRecDepth 100000 in
theorem zDec_104 : zDecP 104 := zdec_104
set_option maxRecDepth 100000 in
theorem zDec_105 : zDecP 105 := zdec_105
set_option maxRecDepth 100000 in
theorem zDec_106 : zDecP 106 := zdec_106
set_option maxRecDepth 100000 in
theorem zDec_107 : zDecP 107 := zdec_107
set_option maxRecDepth 100000 in
theorem zDec_108 : zDecP 108 := zdec_108
set_option maxRecDepth 100000 in
theorem zDec_109 : zDecP 109 := zdec_109
set_option maxRecDepth 100000 in
theorem zDec_110 : zDecP 110 := zdec_110
set_option maxRecDepth 100000 in
theorem zDec_111 : zDecP 111 := zdec_111
set_option maxRecDepth 100000 in
theorem zDec_112 : zDecP 112 := zdec_112
set_option maxRecDepth 100000 in
theorem zDec_113 : zDecP 113 := zdec_113
set_option maxRecDepth 100000 in
theorem zDec_114 : zDecP 114 := zdec_114
set_option maxRecDepth 100000 in
theorem zDec_115 : zDecP 115 := zdec_115
set_option maxRecDepth 100000 in
theorem zDec_116 : zDecP 116 := zdec_116
set_option maxRecDepth 100000 in
theorem zDec_117 : zDecP 117 := zdec_117
set_option maxRecDepth 100000 in
theorem zDec_118 : zDecP 118 := zdec_118
set_option maxRecDepth 100000 in
theorem zDec_119 : zDecP 119 := zdec_119
set_option maxRecDepth 100000 in
theorem zDec_120 : zDecP 120 := zdec_120
set_option maxRecDepth 100000 in
theorem zDec_121 : zDecP 121 := zdec_121
set_option maxRecDepth 100000 in
theorem zDec_122 : zDecP 122 := zdec_122
set_option maxRecDepth 100000 in
theorem zDec_123 : zDecP 123 := zdec_123
set_option maxRecDepth 100000 in
theorem zDec_124 : zDecP 124 := zdec_124
set_option maxRecDepth 100000 in
theorem zDec_125 : zDecP 125 := zdec_125
set_option maxRecDepth 100000 in
theorem zDec_126 : zDecP 126 := zdec_126
set_option maxRecDepth 100000 in
theorem zDec_127 : zDecP 127 := zdec_127
set_option maxRecDepth 100000 in
theorem zDec_128 : zDecP 128 := zdec_128
set_option maxRecDepth 100000 in
theorem zDec_129 : zDecP 129 := zdec_129
set_option maxRecDepth 100000 in
theorem zDec_130 : zDecP 130 := zdec_130
set_option maxRecDepth 100000 in
theorem zDec_131 : zDecP 131 := zdec_131
set_option maxRecDepth 100000 in
theorem zDec_132 : zDecP 132 := zdec_132
set_option maxRecDepth 100000 in
theorem zDec_133 : zDecP 133 := zdec_133
set_option maxRecDepth 100000 in
theorem zDec_134 : zDecP 134 := zdec_134
set_option maxRecDepth 100000 in
theorem zDec_135 : zDecP 135 := zdec_135
set_option maxRecDepth 100000 in
theorem zDec_136 : zDecP 136 := zdec_136
set_option maxRecDepth 100000 in
theorem zDec_137 : zDecP 137 := zdec_137
set_option maxRecDepth 100000 in
theorem zDec_138 : zDecP 138 := zdec_138
set_option maxRecDepth 100000 in
theorem zDec_139 : zDecP 139 := zdec_139
set_option maxRecDepth 100000 in
theorem zDec_140 : zDecP 140 := zdec_140
set_option maxRecDepth 100000 in
theorem zDec_141 : zDecP 141 := zdec_141
set_option maxRecDepth 100000 in
theorem zDec_142 : zDecP 142 := zdec_142
set_option maxRecDepth 100000 in
theorem zDec_143 : zDecP 143 := zdec_143
set_option maxRecDepth 100000 in
theorem zDec_144 : zDecP 144 := zdec_144
set_option maxRecDepth 100000 in
theorem zDec_145 : zDecP 145 := zdec_145
set_option maxRecDepth 100000 in
theorem zDec_146 : zDecP 146 := zdec_146
set_option maxRecDepth 100000 in
theorem zDec_147 : zDecP 147 := zdec_147
set_option maxRecDepth 100000 in
theorem zDec_148 : zDecP 148 := zdec_148
set_option maxRecDepth 100000 in
theorem zDec_149 : zDecP 149 := zdec_149
set_option maxRecDepth 100000 in
theorem zDec_150 : zDecP 150 := zdec_150
set_option maxRecDepth 100000 in
theorem zDec_151 : zDecP 151 := zdec_151
set_option maxRecDepth 100000 in
theorem zDec_152 : zDecP 152 := zdec_152
set_option maxRecDepth 100000 in
theorem zDec_153 : zDecP 153 := zdec_153
set_option maxRecDepth 100000 in
theorem zDec_154 : zDecP 154 := zdec_154
set_option maxRecDepth 100000 in
theorem zDec_155 : zDecP 155 := zdec_155
set_option maxRecDepth 100000 in
theorem zDec_156 : zDecP 156 := zdec_156
set_option maxRecDepth 100000 in
theorem zDec_157 : zDecP 157 := zdec_157
set_option maxRecDepth 100000 in
theorem zDec_158 : zDecP 158 := zdec_158
set_option maxRecDepth 100000 in
theorem zDec_159 : zDecP 159 := zdec_159
set_option maxRecDepth 100000 in
theorem zDec_160 : zDecP 160 := zdec_160
set_option maxRecDepth 100000 in
theorem zDec_161 : zDecP 161 := zdec_161
set_option maxRecDepth 100000 in
theorem zDec_162 : zDecP 162 := zdec_162
set_option maxRecDepth 100000 in
theorem zDec_163 : zDecP 163 := zdec_163
set_option maxRecDepth 100000 in
theorem zDec_164 : zDecP 164 := zdec_164
set_option maxRecDepth 100000 in
theorem zDec_165 : zDecP 165 := zdec_165
set_option maxRecDepth 100000 in
theorem zDec_166 : zDecP 166 := zdec_166
set_option maxRecDepth 100000 in
theorem zDec_167 : zDecP 167 := zdec_167
set_option maxRecDepth 100000 in
theorem zDec_168 : zDecP 168 := zdec_168
set_option maxRecDepth 100000 in
theorem zDec_169 : zDecP 169 := zdec_169
set_option maxRecDepth 100000 in
theorem zDec_170 : zDecP 170 := zdec_170
set_option maxRecDepth 100000 in
theorem zDec_171 : zDecP 171 := zdec_171
set_option maxRecDepth 100000 in
theorem zDec_172 : zDecP 172 := zdec_172
set_option maxRecDepth 100000 in
theorem zDec_173 : zDecP 173 := zdec_173
set_option maxRecDepth 100000 in
theorem zDec_174 : zDecP 174 := zdec_174
set_option maxRecDepth 100000 in
theorem zDec_175 : zDecP 175 := zdec_175
set_option maxRecDepth 100000 in
theorem zDec_176 : zDecP 176 := zdec_176
set_option maxRecDepth 100000 in
theorem zDec_177 : zDecP 177 := zdec_177
set_option maxRecDepth 100000 in
theorem zDec_178 : zDecP 178 := zdec_178
set_option maxRecDepth 100000 in
theorem zDec_179 : zDecP 179 := zdec_179
set_option maxRecDepth 100000 in
theorem zDec_180 : zDecP 180 := zdec_180
set_option maxRecDepth 100000 in
theorem zDec_181 : zDecP 181 := zdec_181
set_option maxRecDepth 100000 in
theorem zDec_182 : zDecP 182 := zdec_182
set_option maxRecDepth 100000 in
theorem zDec_183 : zDecP 183 := zdec_183
set_option maxRecDepth 100000 in
theorem zDec_184 : zDecP 184 := zdec_184
set_option maxRecDepth 100000 in
theorem zDec_185 : zDecP 185 := zdec_185
set_option maxRecDepth 100000 in
theorem zDec_186 : zDecP 186 := zdec_186
set_option maxRecDepth 100000 in
theorem zDec_187 : zDecP 187 := zdec_187
set_option maxRecDepth 100000 in
theorem zDec_188 : zDecP 188 := zdec_188
set_option maxRecDepth 100000 in
theorem zDec_189 : zDecP 189 := zdec_189
set_option maxRecDepth 100000 in
theorem zDec_190 : zDecP 190 := zdec_190
set_option maxRecDepth 100000 in
theorem zDec_191 : zDecP 191 := zdec_191
set_option maxRecDepth 100000 in
theorem zDec_192 : zDecP 192 := zdec_192
set_option maxRecDepth 100000 in
theorem zDec_193 : zDecP 193 := zdec_193
set_option maxRecDepth 100000 in
theorem zDec_194 : zDecP 194 := zdec_194
set_option maxRecDepth 100000 in
theorem zDec_195 : zDecP 195 := zdec_195
set_option maxRecDepth 100000 in
theorem zDec_196 : zDecP 196 := zdec_196
set_option maxRecDepth 100000 in
theorem zDec_197 : zDecP 197 := zdec_197
set_option maxRecDepth 100000 in
theorem zDec_198 : zDecP 198 := zdec_198
set_option maxRecDepth 100000 in
theorem zDec_199 : zDecP 199 := zdec_199
set_option maxRecDepth 100000 in
theorem zDec_200 : zDecP 200 := zdec_200
set_option maxRecDepth 100000 in
theorem zDec_201 : zDecP 201 := zdec_201
set_option maxRecDepth 100000 in
theorem zDec_202 : zDecP 202 := zdec_202
set_option maxRecDepth 100000 in
theorem zDec_203 : zDecP 203 := zdec_203
set_option maxRecDepth 100000 in
theorem zDec_204 : zDecP 204 := zdec_204
set_option maxRecDepth 100000 in
theorem zDec_205 : zDecP 205 := zdec_205
set_option maxRecDepth 100000 in
theorem zDec_206 : zDecP 206 := zdec_206
set_option maxRecDepth 100000 in
theorem zDec_207 : zDecP 207 := zdec_207
set_option maxRecDepth 100000 in
theorem zDec_208 : zDecP 208 := zdec_208
set_option maxRecDepth 100000 in
theorem zDec_209 : zDecP 209 := zdec_209
set_option maxRecDepth 100000 in
theorem zDec_210 : zDecP 210 := zdec_210
set_option maxRecDepth 100000 in
theorem zDec_211 : zDecP 211 := zdec_211
set_option maxRecDepth 100000 in
theorem zDec_212 : zDecP 212 := zdec_212
set_option maxRecDepth 100000 in
theorem zDec_213 : zDecP 213 := zdec_213
set_option maxRecDepth 100000 in
theorem zDec_214 : zDecP 214 := zdec_214
set_option maxRecDepth 100000 in
theorem zDec_215 : zDecP 215 := zdec_215
set_option maxRecDepth 100000 in
theorem zDec_216 : zDecP 216 := zdec_216
set_option maxRecDepth 100000 in
theorem zDec_217 : zDecP 217 := zdec_217
set_option maxRecDepth 100000 in
theorem zDec_218 : zDecP 218 := zdec_218
set_option maxRecDepth 100000 in
theorem zDec_219 : zDecP 219 := zdec_219
set_option maxRecDepth 100000 in
theorem zDec_220 : zDecP 220 := zdec_220
set_option maxRecDepth 100000 in
theorem zDec_221 : zDecP 221 := zdec_221
set_option maxRecDepth 100000 in
theorem zDec_222 : zDecP 222 := zdec_222
set_option maxRecDepth 100000 in
theorem zDec_223 : zDecP 223 := zdec_223
set_option maxRecDepth 100000 in
theorem zDec_224 : zDecP 224 := zdec_224
set_option maxRecDepth 100000 in
theorem zDec_225 : zDecP 225 := zdec_225
set_option maxRecDepth 100000 in
theorem zDec_226 : zDecP 226 := zdec_226
set_option maxRecDepth 100000 in
theorem zDec_227 : zDecP 227 := zdec_227
theorem zDecC_0 : ∀ x ∈ List.range' 0 19, zDecP x := List.forall_mem_cons.mpr ⟨zDec_0, List.forall_mem_cons.mpr ⟨zDec_1, List.forall_mem_cons.mpr ⟨zDec_2, List.forall_mem_cons.mpr ⟨zDec_3, List.forall_mem_cons.mpr ⟨zDec_4, List.forall_mem_cons.mpr ⟨zDec_5, List.forall_mem_cons.mpr ⟨zDec_6, List.forall_mem_cons.mpr ⟨zDec_7, List.forall_mem_cons.mpr ⟨zDec_8, List.forall_mem_cons.mpr ⟨zDec_9, List.forall_mem_cons.mpr ⟨zDec_10, List.forall_mem_cons.mpr ⟨zDec_11, List.forall_mem_cons.mpr ⟨zDec_12, List.forall_mem_cons.mpr ⟨zDec_13, List.forall_mem_cons.mpr ⟨zDec_14, List.forall_mem_cons.mpr ⟨zDec_15, List.forall_mem_cons.mpr ⟨zDec_16, List.forall_mem_cons.mpr ⟨zDec_17, List.forall_mem_cons.mpr ⟨zDec_18, fun _ h => absurd h List.not_mem_nil⟩⟩⟩⟩⟩⟩⟩⟩⟩⟩⟩⟩⟩⟩⟩⟩⟩⟩⟩
theorem zDecC_1 : ∀ x ∈ List.range' 19 19, zDecP x := List.forall_mem_cons.mpr ⟨zDec_19, List.forall_mem_cons.mpr ⟨zDec_20, List.forall_mem_cons.mpr ⟨zDec_21, List.forall_mem_cons.mpr ⟨zDec_22, List.forall_mem_cons.mpr ⟨zDec_23, List.forall_mem_cons.mpr ⟨zDec_24, List.forall_mem_cons.mpr ⟨zDec_25, List.forall_mem_cons.mpr ⟨zDec_26, List.forall_mem_cons.mpr ⟨zDec_27, List.forall_mem_cons.mpr ⟨zDec_28, List.forall_mem_cons.mpr ⟨zDec_29, List.forall_mem_cons.mpr ⟨zDec_30, List.forall_mem_cons.mpr ⟨zDec_31, List.forall_mem_cons.mpr ⟨zDec_32, List.forall_mem_cons.mpr ⟨zDec_33, List.forall_mem_cons.mpr ⟨zDec_34, List.forall_mem_cons.mpr ⟨zDec_35, List.forall_mem_cons.mpr ⟨zDec_36, List.forall_mem_cons.mpr ⟨zDec_37, fun _ h => absurd h List.not_mem_nil⟩⟩⟩⟩⟩⟩⟩⟩⟩⟩⟩⟩⟩⟩⟩⟩⟩⟩⟩
theorem zDecC_2 : ∀ x ∈ List.range' 38 19, zDecP x := List.forall_mem_cons.mpr ⟨zDec_38, List.forall_mem_cons.mpr ⟨zDec_39, List.forall_mem_cons.mpr ⟨zDec_40, List.forall_mem_cons.mpr ⟨zDec_41, List.forall_mem_cons.mpr ⟨zDec_42, List.forall_mem_cons.mpr ⟨zDec_43, List.forall_mem_cons.mpr ⟨zDec_44, List.forall_mem_cons.mpr ⟨zDec_45, List.forall_mem_cons.mpr ⟨zDec_46, List.forall_mem_cons.mpr ⟨zDec_47, List.forall_mem_cons.mpr ⟨zDec_48, List.forall_mem_cons.mpr ⟨zDec_49, List.forall_mem_cons.mpr ⟨zDec_50, List.forall_mem_cons.mpr ⟨zDec_51, List.forall_mem_cons.mpr ⟨zDec_52, List.forall_mem_cons.mpr ⟨zDec_53, List.forall_mem_cons.mpr ⟨zDec_54, List.forall_mem_cons.mpr ⟨zDec_55, List.forall_mem_cons.mpr ⟨zDec_56, fun _ h => absurd h List.not_mem_nil⟩⟩⟩⟩⟩⟩⟩⟩⟩⟩⟩⟩⟩⟩⟩⟩⟩⟩⟩
theorem zDecC_3 : ∀ x ∈ List.range' 57 19, zDecP x := List.forall_mem_cons.mpr ⟨zDec_57, List.forall_mem_cons.mpr ⟨zDec_58, List.forall_mem_cons.mpr ⟨zDec_59, List.forall_mem_cons.mpr ⟨zDec_60, List.forall_mem_cons.mpr ⟨zDec_61, List.forall_mem_cons.mpr ⟨zDec_62, List.forall_mem_cons.mpr ⟨zDec_63, List.forall_mem_cons.mpr ⟨zDec_64, List.forall_mem_cons.mpr ⟨zDec_65, List.forall_mem_cons.mpr ⟨zDec_66, List.forall_mem_cons.mpr ⟨zDec_67, List.forall_mem_cons.mpr ⟨zDec_68, List.forall_mem_cons.mpr ⟨zDec_69, List.forall_mem_cons.mpr ⟨zDec_70, List.forall_mem_cons.mpr ⟨zDec_71, List.forall_mem_cons.mpr ⟨zDec_72, List.forall_mem_cons.mpr ⟨zDec_73, List.forall_mem_cons.mpr ⟨zDec_74, List.forall_mem_cons.mpr ⟨zDec_75, fun _ h => absurd h List.not_mem_nil⟩⟩⟩⟩⟩⟩⟩⟩⟩⟩⟩⟩⟩⟩⟩⟩⟩⟩⟩
theorem zDecC_4 : ∀ x ∈ List.range' 76 19, zDecP x := List.forall_mem_cons.mpr ⟨zDec_76, List.forall_mem_cons.mpr ⟨zDec_77, List.forall_mem_cons.mpr ⟨zDec_78, List.forall_mem_cons.mpr ⟨zDec_79, List.forall_mem_cons.mpr ⟨zDec_80, List.forall_mem_cons.mpr ⟨zDec_81, List.forall_mem_cons.mpr ⟨zDec_82, List.forall_mem_cons.mpr ⟨zDec_83, List.forall_mem_cons.mpr ⟨zDec_84, List.forall_mem_cons.mpr ⟨zDec_85, List.forall_mem_cons.mpr ⟨zDec_86, List.forall_mem_cons.mpr ⟨zDec_87, List.forall_mem_cons.mpr ⟨zDec_88, List.forall_mem_cons.mpr ⟨zDec_89, List.forall_mem_cons.mpr ⟨zDec_90, List.forall_mem_cons.mpr ⟨zDec_91, List.forall_mem_cons.mpr ⟨zDec_92, List.forall_mem_cons.mpr ⟨zDec_93, List.forall_mem_cons.mpr ⟨zDec_94, fun _ h => absurd h List.not_mem_nil⟩⟩⟩⟩⟩⟩⟩⟩⟩⟩⟩⟩⟩⟩⟩⟩⟩⟩⟩
theorem zDecC_5 : ∀ x ∈ List.range' 95 19, zDecP x := List.forall_mem_cons.mpr ⟨zDec_95, List.forall_mem_cons.mpr ⟨zDec_96, List.forall_mem_cons.mpr ⟨zDec_97, List.forall_mem_cons.mpr ⟨zDec_98, List.forall_mem_cons.mpr ⟨zDec_99, List.forall_mem_cons.mpr ⟨zDec_100, List.forall_mem_cons.mpr ⟨zDec_101, List.forall_mem_cons.mpr ⟨zDec_102, List.forall_mem_cons.mpr ⟨zDec_103, List.forall_mem_cons.mpr ⟨zDec_104, List.forall_mem_cons.mpr ⟨zDec_105, List.forall_mem_cons.mpr ⟨zDec_106, List.forall_mem_cons.mpr ⟨zDec_107, List.forall_mem_cons.mpr ⟨zDec_108, List.forall_mem_cons.mpr ⟨zDec_109, List.forall_mem_cons.mpr ⟨zDec_110, List.forall_mem_cons.mpr ⟨zDec_111, List.forall_mem_cons.mpr ⟨zDec_112, List.forall_mem_cons.mpr ⟨zDec_113, fun _ h => absurd h List.not_mem_nil⟩⟩⟩⟩⟩⟩⟩⟩⟩⟩⟩⟩⟩⟩⟩⟩⟩⟩⟩
theorem zDecC_6 : ∀ x ∈ List.range' 114 19, zDecP x := List.forall_mem_cons.mpr ⟨zDec_114, List.forall_mem_cons.mpr ⟨zDec_115, List.forall_mem_cons.mpr ⟨zDec_116, List.forall_mem_cons.mpr ⟨zDec_117, List.forall_mem_cons.mpr ⟨zDec_118, List.forall_mem_cons.mpr ⟨zDec_119, List.forall_mem_cons.mpr ⟨zDec_120, List.forall_mem_cons.mpr ⟨zDec_121, List.forall_mem_cons.mpr ⟨zDec_122, List.forall_mem_cons.mpr ⟨zDec_123, List.forall_mem_cons.mpr ⟨zDec_124, List.forall_mem_cons.mpr ⟨zDec_125, List.forall_mem_cons.mpr ⟨zDec_126, List.forall_mem_cons.mpr ⟨zDec_127, List.forall_mem_cons.mpr ⟨zDec_128, List.forall_mem_cons.mpr ⟨zDec_129, List.forall_mem_cons.mpr ⟨zDec_130, List.forall_mem_cons.mpr ⟨zDec_131, List.forall_mem_cons.mpr ⟨zDec_132, fun _ h => absurd h List.not_mem_nil⟩⟩⟩⟩⟩⟩⟩⟩⟩⟩⟩⟩⟩⟩⟩⟩⟩⟩⟩
theorem zDecC_7 : ∀ x ∈ List.range' 133 19, zDecP x := List.forall_mem_cons.mpr ⟨zDec_133, List.forall_mem_cons.mpr ⟨zDec_134, List.forall_mem_cons.mpr ⟨zDec_135, List.forall_mem_cons.mpr ⟨zDec_136, List.forall_mem_cons.mpr ⟨zDec_137, List.forall_mem_cons.mpr ⟨zDec_138, List.forall_mem_cons.mpr ⟨zDec_139, List.forall_mem_cons.mpr ⟨zDec_140, List.forall_mem_cons.mpr ⟨zDec_141, List.forall_mem_cons.mpr ⟨zDec_142, List.forall_mem_cons.mpr ⟨zDec_143, List.forall_mem_cons.mpr ⟨zDec_144, List.forall_mem_cons.mpr ⟨zDec_145, List.forall_mem_cons.mpr ⟨zDec_146, List.forall_mem_cons.mpr ⟨zDec_147, List.forall_mem_cons.mpr ⟨zDec_148, List.forall_mem_cons.mpr ⟨zDec_149, List.forall_mem_cons.mpr ⟨zDec_150, List.forall_mem_cons.mpr ⟨zDec_151, fun _ h => absurd h List.not_mem_nil⟩⟩⟩⟩⟩⟩⟩⟩⟩⟩⟩⟩⟩⟩⟩⟩⟩⟩⟩
theorem zDecC_8 : ∀ x ∈ List.range' 152 19, zDecP x := List.forall_mem_cons.mpr ⟨zDec_152, List.forall_mem_cons.mpr ⟨zDec_153, List.forall_mem_cons.mpr ⟨zDec_154, List.forall_mem_cons.mpr ⟨zDec_155, List.forall_mem_cons.mpr ⟨zDec_156, List.forall_mem_cons.mpr ⟨zDec_157, List.forall_mem_cons.mpr ⟨zDec_158, List.forall_mem_cons.mpr ⟨zDec_159, List.forall_mem_cons.mpr ⟨zDec_160, List.forall_mem_cons.mpr ⟨zDec_161, List.forall_mem_cons.mpr ⟨zDec_162, List.forall_mem_cons.mpr ⟨zDec_163, List.forall_mem_cons.mpr ⟨zDec_164, List.forall_mem_cons.mpr ⟨zDec_165, List.forall_mem_cons.mpr ⟨zDec_166, List.forall_mem_cons.mpr ⟨zDec_167, List.forall_mem_cons.mpr ⟨zDec_168, List.forall_mem_cons.mpr ⟨zDec_169, List.forall_mem_cons.mpr ⟨zDec_170, fun _ h => absurd h List.not_mem_nil⟩⟩⟩⟩⟩⟩⟩⟩⟩⟩⟩⟩⟩⟩⟩⟩⟩⟩⟩
theorem zDecC_9 : ∀ x ∈ List.range' 171 19, zDecP x := List.forall_mem_cons.mpr ⟨zDec_171, List.forall_mem_cons.mpr ⟨zDec_172, List.forall_mem_cons.mpr ⟨zDec_173, List.forall_mem_cons.mpr ⟨zDec_174, List.forall_mem_cons.mpr ⟨zDec_175, List.forall_mem_cons.mpr ⟨zDec_176, List.forall_mem_cons.mpr ⟨zDec_177, List.forall_mem_cons.mpr ⟨zDec_178, List.forall_mem_cons.mpr ⟨zDec_179, List.forall_mem_cons.mpr ⟨zDec_180, List.forall_mem_cons.mpr ⟨zDec_181, List.forall_mem_cons.mpr ⟨zDec_182, List.forall_mem_cons.mpr ⟨zDec_183, List.forall_mem_cons.mpr ⟨zDec_184, List.forall_mem_cons.mpr ⟨zDec_185, List.forall_mem_cons.mpr ⟨zDec_186, List.forall_mem_cons.mpr ⟨zDec_187, List.forall_mem_cons.mpr ⟨zDec_188, List.forall_mem_cons.mpr ⟨zDec_189, fun _ h => absurd h List.not_mem_nil⟩⟩⟩⟩⟩⟩⟩⟩⟩⟩⟩⟩⟩⟩⟩⟩⟩⟩⟩
theorem zDecC_10 : ∀ x ∈ List.range' 190 19, zDecP x := List.forall_mem_cons.mpr ⟨zDec_190, List.forall_mem_cons.mpr ⟨zDec_191, List.forall_mem_cons.mpr ⟨zDec_192, List.forall_mem_cons.mpr ⟨zDec_193, List.forall_mem_cons.mpr ⟨zDec_194, List.forall_mem_cons.mpr ⟨zDec_195, List.forall_mem_cons.mpr ⟨zDec_196, List.forall_mem_cons.mpr ⟨zDec_197, List.forall_mem_cons.mpr ⟨zDec_198, List.forall_mem_cons.mpr ⟨zDec_199, List.forall_mem_cons.mpr ⟨zDec_200, List.forall_mem_cons.mpr ⟨zDec_201, List.forall_mem_cons.mpr ⟨zDec_202, List.forall_mem_cons.mpr ⟨zDec_203, List.forall_mem_cons.mpr ⟨zDec_204, List.forall_mem_cons.mpr ⟨zDec_205, List.forall_mem_cons.mpr ⟨zDec_206, List.forall_mem_cons.mpr ⟨zDec_207, List.forall_mem_cons.mpr ⟨zDec_208, fun _ h => absurd h List.not_mem_nil⟩⟩⟩⟩⟩⟩⟩⟩⟩⟩⟩⟩⟩⟩⟩⟩⟩⟩⟩
theorem zDecC_11 : ∀ x ∈ List.range' 209 19, zDecP x := List.forall_mem_cons.mpr ⟨zDec_209, List.forall_mem_cons.mpr ⟨zDec_210, List.forall_mem_cons.mpr ⟨zDec_211, List.forall_mem_cons.mpr ⟨zDec_212, List.forall_mem_cons.mpr ⟨zDec_213, List.forall_mem_cons.mpr ⟨zDec_214, List.forall_mem_cons.mpr ⟨zDec_215, List.forall_mem_cons.mpr ⟨zDec_216, List.forall_mem_cons.mpr ⟨zDec_217, List.forall_mem_cons.mpr ⟨zDec_218, List.forall_mem_cons.mpr ⟨zDec_219, List.forall_mem_cons.mpr ⟨zDec_220, List.forall_mem_cons.mpr ⟨zDec_221, List.forall_mem_cons.mpr ⟨zDec_222, List.forall_mem_cons.mpr ⟨zDec_223, List.forall_mem_cons.mpr ⟨zDec_224, List.forall_mem_cons.mpr ⟨zDec_225, List.forall_mem_cons.mpr ⟨zDec_226, List.forall_mem_cons.mpr ⟨zDec_227, fun _ h => absurd h List.not_mem_nil⟩⟩⟩⟩⟩⟩⟩⟩⟩⟩⟩⟩⟩⟩⟩⟩⟩⟩⟩
theorem zDec_all {mi : Nat} (h : mi < zLaw) : zDecP mi := by
  have h : mi < 228 := h
  have e : ∀ a n, (∀ x ∈ List.range' a n, zDecP x) → a ≤ mi → mi < a + n → zDecP mi := fun a n g h1 h2 => g mi (List.mem_range'_1.mpr ⟨h1, h2⟩)
  rcases Nat.lt_or_ge mi 19 with g | g0
  · exact e _ _ zDecC_0 (by omega) (by omega)
  rcases Nat.lt_or_ge mi 38 with g | g1
  · exact e _ _ zDecC_1 (by omega) (by omega)
  rcases Nat.lt_or_ge mi 57 with g | g2
  · exact e _ _ zDecC_2 (by omega) (by omega)
  rcases Nat.lt_or_ge mi 76 with g | g3
  · exact e _ _ zDecC_3 (by omega) (by omega)
  rcases Nat.lt_or_ge mi 95 with g | g4
  · exact e _ _ zDecC_4 (by omega) (by omega)
  rcases Nat.lt_or_ge mi 114 with g | g5
  · exact e _ _ zDecC_5 (by omega) (by omega)
  rcases Nat.lt_or_ge mi 133 with g | g6
  · exact e _ _ zDecC_6 (by omega) (by omega)
  rcases Nat.lt_or_ge mi 152 with g | g7
  · exact e _ _ zDecC_7 (by omega) (by omega)
  rcases Nat.lt_or_ge mi 171 with g | g8
  · exact e _ _ zDecC_8 (by omega) (by omega)
  rcases Nat.lt_or_ge mi 190 with g | g9
  · exact e _ _ zDecC_9 (by omega) (by omega)
  rcases Nat.lt_or_ge mi 209 with g | g10
  · exact e _ _ zDecC_10 (by omega) (by omega)
  exact e _ _ zDecC_11 (by omega) (by omega)
theorem zdec_app {b : ByteArray} {x y : List (Nat × Instr × Nat)} (h1 : zdec b x = true) (h2 : zdec b y = true) : zdec b (x ++ y) = true := by
  unfold zdec at *; rw [List.all_append, h1, h2]; rfl
set_option maxRecDepth 100000 in
theorem zDec_law : zDecP zLaw := (zdec_app zdec_228_0 (zdec_app zdec_228_1 (zdec_app zdec_228_2 (zdec_app zdec_228_3 (zdec_app zdec_228_4 (zdec_app zdec_228_5 (zdec_app zdec_228_6 (zdec_app zdec_228_7 (zdec_app zdec_228_8 (zdec_app zdec_228_9 (zdec_app zdec_228_10 (zdec_app zdec_228_11 (zdec_app zdec_228_12 (zdec_app zdec_228_13 (zdec_app zdec_228_14 (zdec_app zdec_228_15 (zdec_app zdec_228_16 (zdec_app zdec_228_17 (zdec_app zdec_228_18 (zdec_app zdec_228_19 (zdec_app zdec_228_20 zdec_228_21)))))))))))))))))))))
theorem zok_ok {mi : Nat} {as : List Value} (h : zok mi as = true) : mi < zLaw ∧ (zloc as).length ≤ zMax mi ∧ (zLg mi = false → ∀ v ∈ as, v.category = 1) := by
  unfold zok at h
  simp only [Bool.and_eq_true, Bool.or_eq_true, decide_eq_true_eq] at h
  refine ⟨h.1.1, h.2.1, fun hl v hv => ?_⟩
  rcases h.2.2 with g | g
  · rw [hl] at g; cases g
  · exact beq_iff_eq.mp (List.all_eq_true.mp g v hv)
set_option maxHeartbeats 2000000 in
theorem z_met1 (l : Launch) {Pl : List Nat} (hnd : zNd Pl) (hcl : zClo (fun a => a ∈ Pl ∨ a = 100)) {d mi : Nat} {as : List Value} {h : zH} {r : zE0}
    (hcal : ∀ m2 as h r, zcal d m2 as h = some r → zRfS (fun a => a ∈ Pl ∨ a = 100) as → zHk h r.2 ∧ ((m2 = mMath_max ∨ m2 = mMath_min) ∧ zmm m2 as h = some r ∧ 1 ≤ (rmz d).frames ∧ 32 ≤ (rmz d).locals ∨ ∃ d', zMet l Pl d' m2 as h r ∧ plainName (zYn m2).cls = true ∧ d' + 1 ≤ (rmz d).frames ∧ 32 + 32 * d' ≤ (rmz d).locals))
    (hz : zcal (d + 1) mi as h = some r) (hmm : ¬ (mi = mMath_max ∨ mi = mMath_min)) (hRs : zRfS (fun a => a ∈ Pl ∨ a = 100) as) : zMet l Pl d mi as h r ∧ plainName (zYn mi).cls = true := by
  rw [zcal, if_neg hmm] at hz
  split at hz
  case isFalse => cases hz
  case isTrue hok =>
    obtain ⟨k1, k2, k3⟩ := zok_ok hok
    obtain ⟨o1, o2, o3, o4, o5, o6, o7, o8, o9⟩ := zM_ok k1
    have hy : plainName (zYn mi).cls = true := by
      rcases o7 with o7 | o7
      · exact o7
      · exact absurd o7 hmm
    refine ⟨?_, hy⟩
    obtain ⟨n, hn⟩ := zEv_some hz
    intro D ad cA sz
    refine Met.ofW (cc := zCode mi) (maxL := zMax mi) (ret := zRet mi) hy rfl ?_
    intro p e s m args below meth c s₁ B hml hv
    obtain ⟨rfl, hsz, hP, hK, hD0, hN⟩ := hv
    have hts := atoms_spec (ws := zWs mi) B.pre
    have hown : s.vm.findClass (zName (zOwn mi)) = some m.cls := by rw [← o5]; exact findClass_of_methodNamed B.named
    have hD : va_D (zA Pl ad sz) (zWl Pl ad cA h) := by
      refine ⟨hD0.1, fun k q hk => ?_⟩
      obtain ⟨a, ha, rfl⟩ := zWl_inv hk
      exact Or.inl ⟨a, List.mem_of_getElem? ha, rfl⟩
    have hA : ∀ q, s.heap.size ≤ q → zA Pl ad sz q := fun q hq => Or.inr (by rw [← hsz]; exact hq)
    have C : zCx p s m (as.map (zTr ad)).toArray meth c D cA (zA Pl ad sz) mi := ⟨B.exec, B.bytes, hml, hown, fun w hw => hts w (List.mem_cons_of_mem _ hw), hN, hK, hA, zDec_all k1, B.returns⟩
    have hlocks := B.notSynchronized
    have hrun := z_run (p := p) (l := l) (e := e) (R := rmz d) (below := below) (ad := ad) (cells := 0) (slots := 0) (Q := MQ below (zQc D Pl ad cA r sz) (as.map (zTr ad)).toArray s 0 0 (zA Pl ad sz)) C hnd hcl ⟨Nat.zero_le _, Nat.zero_le _⟩ hcal (fun pc pl H locs ls hi hw => by
      obtain ⟨v, h'⟩ := r
      unfold zRetI at hi
      have hq : ∀ t : State, t.heap = H → s.WarmedH t.vm → zQc D Pl ad cA (v, h') sz (as.map (zTr ad)).toArray s (.returned (v.map (zTr ad))) t := fun t ht _ => ⟨⟨rfl, by rw [ht]; exact hw.1⟩, hw.2.2.1.F ht⟩
      match v, hi, hq with
      | none, hi, hq => exact W.vret B.exec B.bytes (B.returns.trans hi.2) hq hw.2.2.1.2.2 (zAt_dec1 (zDec_all k1) hi.1 rfl) hlocks
      | some (.int x), hi, hq =>
        rcases hi with ⟨h1, h2 | ⟨h2, h3⟩⟩
        · exact W.iret B.exec B.bytes (B.returns.trans h2) hq hw.2.2.1.2.2 (zAt_dec1 (zDec_all k1) h1 rfl) hlocks
        · exact W.zret B.exec B.bytes (B.returns.trans h2) (by rcases h3 with rfl | rfl <;> decide) hq hw.2.2.1.2.2 (zAt_dec1 (zDec_all k1) h1 rfl) hlocks
      | some (.long x), hi, hq => exact W.lret B.exec B.bytes (B.returns.trans hi.2) hq hw.2.2.1.2.2 (zAt_dec1 (zDec_all k1) hi.1 rfl) hlocks) n _ hn ⟨fun i v hv => hRs v (zent_ref hv), fun v hv => by cases hv⟩
    have hl := lv_entry (as.map (zTr ad)) (n := zMax mi) (by rw [zloc_len]; exact k2)
    rw [lg_entry_eq]
    refine hrun s.heap [] _ ⟨hP, hD, va_S.rf, fun hm => absurd hm (by omega)⟩ ⟨hl.1, hl.2.1, fun i v hv => ?_⟩ (fun hlg i v hv => ?_)
    · have := hl.2.2 _ (zloc_args ad as 0 i v (zent_at hv))
      rw [Nat.zero_add] at this
      exact this
    · exact k3 hlg v (zloc_mem as i v (zent_at hv))
set_option maxHeartbeats 2000000 in
theorem z_met (l : Launch) {Pl : List Nat} (hnd : zNd Pl) (hcl : zClo (fun a => a ∈ Pl ∨ a = 100)) : ∀ (d mi : Nat) (as : List Value) (h : zH) (r : zE0), zcal (d + 1) mi as h = some r → ¬ (mi = mMath_max ∨ mi = mMath_min) → zRfS (fun a => a ∈ Pl ∨ a = 100) as → zMet l Pl d mi as h r ∧ plainName (zYn mi).cls = true := by
  intro d
  induction d with
  | zero =>
    intro mi as h r hz hmm hRs
    exact z_met1 l hnd hcl (fun m2 as h r hz => by cases hz) hz hmm hRs
  | succ d ih =>
    intro mi as h r hz hmm hRs
    refine z_met1 l hnd hcl (fun m2 as h r hz hr2 => ⟨zcal_keep _ _ _ _ _ hz, ?_⟩) hz hmm hRs
    by_cases hm2 : m2 = mMath_max ∨ m2 = mMath_min
    · refine Or.inl ⟨hm2, ?_, ?_, ?_⟩
      · rw [zcal, if_pos hm2] at hz; exact hz
      · show 1 ≤ d + 1; omega
      · show 32 ≤ 32 * (d + 1); omega
    · obtain ⟨g1, g2⟩ := ih m2 as h r hz hm2 hr2
      refine Or.inr ⟨d, g1, g2, Nat.le_refl _, ?_⟩
      show 32 + 32 * d ≤ 32 * (d + 1)
      omega

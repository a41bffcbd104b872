/-! the cells as they stand behind the two constructors: kinds, and the references that stay -/
def LAY : List pK := [.inl 11, .inl 9, .inr (0, 200), .inl 1, .inr (0, 8), .inr (0, 8), .inr (0, 8), .inr (0, 8), .inr (0, 8), .inr (0, 32), .inr (0, 32), .inl 3, .inr (0, 160), .inr (0, 12), .inr (0, 12), .inr (0, 12), .inr (0, 12), .inr (0, 10), .inr (0, 40), .inl 3, .inr (0, 160), .inr (0, 12), .inr (0, 12), .inr (0, 12), .inr (0, 12), .inr (0, 10), .inr (0, 40), .inl 4, .inr (5, 8), .inl 6, .inr (0, 8), .inr (0, 8), .inl 2, .inr (4, 80), .inr (0, 10), .inr (0, 10), .inl 8, .inl 8, .inl 8, .inl 8, .inl 8, .inl 8, .inl 8, .inl 8, .inl 8, .inl 8, .inl 8, .inl 8, .inl 8, .inl 8, .inl 8, .inl 8, .inl 8, .inl 8, .inl 8, .inl 8, .inl 8, .inl 8, .inl 8, .inl 8, .inl 8, .inl 8, .inl 8, .inl 8, .inl 8, .inl 8, .inl 8, .inl 8, .inl 8, .inl 8, .inl 8, .inl 8, .inl 8, .inl 8, .inl 8, .inl 8, .inl 8, .inl 8, .inl 8, .inl 8, .inl 8, .inl 8, .inl 8, .inl 8, .inl 8, .inl 8, .inl 8, .inl 8, .inl 8, .inl 8, .inl 8, .inl 8, .inl 8, .inl 8, .inl 8, .inl 8, .inl 8, .inl 8, .inl 8, .inl 8, .inl 8, .inl 8, .inl 8, .inl 8, .inl 8, .inl 8, .inl 8, .inl 8, .inl 8, .inl 8, .inl 8, .inl 8, .inl 8, .inl 8, .inl 8, .inl 8, .inl 5, .inr (0, 2000), .inr (0, 32), .inr (0, 8), .inr (0, 8), .inr (0, 8), .inr (0, 8), .inl 8, .inl 10, .inr (0, 8), .inr (0, 8), .inr (0, 8), .inr (0, 8), .inr (5, 8), .inl 6, .inr (0, 8), .inr (0, 8), .inl 6, .inr (0, 8), .inr (0, 8), .inl 6, .inr (0, 8), .inr (0, 8), .inl 6, .inr (0, 8), .inr (0, 8), .inl 6, .inr (0, 8), .inr (0, 8), .inl 6, .inr (0, 8), .inr (0, 8), .inl 6, .inr (0, 8), .inr (0, 8), .inl 6, .inr (0, 8), .inr (0, 8), .inl 7, .inr (0, 6), .inr (0, 60), .inr (0, 10), .inr (0, 240), .inr (1, 41), .inr (1, 205), .inr (0, 4), .inl 0, .inr (0, 10), .inr (0, 10), .inl 8, .inl 6, .inr (0, 8), .inr (0, 8), .inl 6, .inr (0, 8), .inr (0, 8), .inl 6, .inr (0, 8), .inr (0, 8), .inl 6, .inr (0, 8), .inr (0, 8), .inl 6, .inr (0, 8), .inr (0, 8), .inl 6, .inr (0, 8), .inr (0, 8), .inl 6, .inr (0, 8), .inr (0, 8), .inl 6, .inr (0, 8), .inr (0, 8), .inl 6, .inr (0, 8), .inr (0, 8), .inl 12, .inr (2, 200), .inr (0, 8), .inr (0, 8), .inr (0, 8), .inr (0, 8), .inr (0, 8), .inr (0, 32), .inr (0, 32), .inr (0, 12), .inr (0, 12), .inr (0, 12), .inr (0, 12), .inr (0, 160), .inr (0, 160), .inr (0, 12), .inr (0, 12), .inr (0, 12), .inr (0, 12), .inr (0, 160), .inr (0, 160), .inr (0, 200), .inr (0, 200), .inr (3, 200), .inr (0, 16), .inr (0, 128), .inr (0, 128), .inr (0, 16), .inr (0, 8), .inr (0, 8), .inr (0, 32), .inr (0, 8), .inr (0, 8), .inr (0, 8), .inr (0, 8), .inr (0, 10), .inr (0, 10), .inr (0, 80), .inr (0, 80), .inr (0, 80), .inr (0, 80), .inr (0, 6), .inr (0, 60), .inr (0, 10), .inr (0, 10), .inr (0, 10), .inr (0, 240), .inr (1, 41), .inr (1, 205)]
def RTB : List (List (Option Nat)) := [[some 1, some 3, some 27, some 28, some 29, some 32, some 116, some 124, some 154, some 162, some 165, some 166], [some 2], [], [some 4, some 5, some 6, some 7, some 8, some 9, some 10, none, none, some 11, some 19], [], [], [], [], [], [], [], [some 12, some 13, some 14, some 15, some 16, some 17, some 18], [], [], [], [], [], [], [], [some 20, some 21, some 22, some 23, some 24, some 25, some 26], [], [], [], [], [], [], [], [some 1, some 19], [some 169, some 172, some 175, some 178, some 181, some 184, some 187, some 190], [some 30, some 31], [], [], [some 3, some 33, some 34, some 35], [some 36, some 37, some 38, some 39, some 40, some 41, some 42, some 43, some 44, some 45, some 46, some 47, some 48, some 49, some 50, some 51, some 52, some 53, some 54, some 55, some 56, some 57, some 58, some 59, some 60, some 61, some 62, some 63, some 64, some 65, some 66, some 67, some 68, some 69, some 70, some 71, some 72, some 73, some 74, some 75, some 76, some 77, some 78, some 79, some 80, some 81, some 82, some 83, some 84, some 85, some 86, some 87, some 88, some 89, some 90, some 91, some 92, some 93, some 94, some 95, some 96, some 97, some 98, some 99, some 100, some 101, some 102, some 103, some 104, some 105, some 106, some 107, some 108, some 109, some 110, some 111, some 112, some 113, some 114, some 115], [], [], [some 3], [some 3], [some 3], [some 3], [some 3], [some 3], [some 3], [some 3], [some 3], [some 3], [some 3], [some 3], [some 3], [some 3], [some 3], [some 3], [some 3], [some 3], [some 3], [some 3], [some 3], [some 3], [some 3], [some 3], [some 3], [some 3], [some 3], [some 3], [some 3], [some 3], [some 3], [some 3], [some 3], [some 3], [some 3], [some 3], [some 3], [some 3], [some 3], [some 3], [some 3], [some 3], [some 3], [some 3], [some 3], [some 3], [some 3], [some 3], [some 3], [some 3], [some 3], [some 3], [some 3], [some 3], [some 3], [some 3], [some 3], [some 3], [some 3], [some 3], [some 3], [some 3], [some 3], [some 3], [some 3], [some 3], [some 3], [some 3], [some 3], [some 3], [some 3], [some 3], [some 3], [some 3], [some 3], [some 3], [some 3], [some 3], [some 3], [some 3], [some 3, some 123, some 117, some 118, some 119, some 120, some 121, some 122], [], [], [], [], [], [], [some 3], [some 125, some 126, some 127, some 128, some 129], [], [], [], [], [some 130, some 133, some 136, some 139, some 142, some 145, some 148, some 151], [some 131, some 132], [], [], [some 134, some 135], [], [], [some 137, some 138], [], [], [some 140, some 141], [], [], [some 143, some 144], [], [], [some 146, some 147], [], [], [some 149, some 150], [], [], [some 152, some 153], [], [], [some 155, some 156, some 157, some 158, some 159, some 160, some 161], [], [], [], [], [], [], [], [some 163, some 164], [], [], [some 3], [some 167, some 168], [], [], [some 170, some 171], [], [], [some 173, some 174], [], [], [some 176, some 177], [], [], [some 179, some 180], [], [], [some 182, some 183], [], [], [some 185, some 186], [], [], [some 188, some 189], [], [], [some 191, some 192], [], [], [some 194, none, none, none, none, none, none, none, some 195, some 196, some 197, some 198, some 199, some 200, some 201, none, some 202, some 203, some 204, some 205, some 206, some 207, some 208, some 209, some 210, some 211, some 212, some 213, none, none, none, none, none, none, none, none, none, some 214, none, none, none, none, none, none, none, some 215, some 216, some 217, some 218, some 219, some 220, some 221, some 222, none, none, some 223, some 224, some 225, some 226, some 227, some 228, some 229, some 230, some 231, some 232, some 233, some 234, some 235, some 236, none, none, none, some 237, some 238, some 239, some 240, some 241], [], [], [], [], [], [], [], [], [], [], [], [], [], [], [], [], [], [], [], [], [], [], [], [], [], [], [], [], [], [], [], [], [], [], [], [], [], [], [], [], [], [], [], [], [], [], [], []]
def VR0 : Nat → Nat → Option Nat := fun o k => (RTB.getD o []).getD k none
def VR (q : Nat × Nat × Nat) : Nat → Nat → Option Nat := upd2 (upd2 (upd2 VR0 3 9 (some q.1)) 3 10 (some q.2.1)) 27 1 (some q.2.2)
theorem LA_0 : LAY[0]? = some (.inl 11) := rfl
theorem LA_1 : LAY[1]? = some (.inl 9) := rfl
theorem LA_2 : LAY[2]? = some (.inr (0, 200)) := rfl
theorem LA_3 : LAY[3]? = some (.inl 1) := rfl
theorem LA_4 : LAY[4]? = some (.inr (0, 8)) := rfl
theorem LA_5 : LAY[5]? = some (.inr (0, 8)) := rfl
theorem LA_6 : LAY[6]? = some (.inr (0, 8)) := rfl
theorem LA_7 : LAY[7]? = some (.inr (0, 8)) := rfl
theorem LA_8 : LAY[8]? = some (.inr (0, 8)) := rfl
theorem LA_9 : LAY[9]? = some (.inr (0, 32)) := rfl
theorem LA_10 : LAY[10]? = some (.inr (0, 32)) := rfl
theorem LA_11 : LAY[11]? = some (.inl 3) := rfl
theorem LA_12 : LAY[12]? = some (.inr (0, 160)) := rfl
theorem LA_13 : LAY[13]? = some (.inr (0, 12)) := rfl
theorem LA_14 : LAY[14]? = some (.inr (0, 12)) := rfl
theorem LA_15 : LAY[15]? = some (.inr (0, 12)) := rfl
theorem LA_16 : LAY[16]? = some (.inr (0, 12)) := rfl
theorem LA_17 : LAY[17]? = some (.inr (0, 10)) := rfl
theorem LA_18 : LAY[18]? = some (.inr (0, 40)) := rfl
theorem LA_19 : LAY[19]? = some (.inl 3) := rfl
theorem LA_20 : LAY[20]? = some (.inr (0, 160)) := rfl
theorem LA_21 : LAY[21]? = some (.inr (0, 12)) := rfl
theorem LA_22 : LAY[22]? = some (.inr (0, 12)) := rfl
theorem LA_23 : LAY[23]? = some (.inr (0, 12)) := rfl
theorem LA_24 : LAY[24]? = some (.inr (0, 12)) := rfl
theorem LA_25 : LAY[25]? = some (.inr (0, 10)) := rfl
theorem LA_26 : LAY[26]? = some (.inr (0, 40)) := rfl
theorem LA_27 : LAY[27]? = some (.inl 4) := rfl
theorem LA_28 : LAY[28]? = some (.inr (5, 8)) := rfl
theorem LA_29 : LAY[29]? = some (.inl 6) := rfl
theorem LA_30 : LAY[30]? = some (.inr (0, 8)) := rfl
theorem LA_31 : LAY[31]? = some (.inr (0, 8)) := rfl
theorem LA_32 : LAY[32]? = some (.inl 2) := rfl
theorem LA_33 : LAY[33]? = some (.inr (4, 80)) := rfl
theorem LA_34 : LAY[34]? = some (.inr (0, 10)) := rfl
theorem LA_35 : LAY[35]? = some (.inr (0, 10)) := rfl
theorem LA_116 : LAY[116]? = some (.inl 5) := rfl
theorem LA_117 : LAY[117]? = some (.inr (0, 2000)) := rfl
theorem LA_118 : LAY[118]? = some (.inr (0, 32)) := rfl
theorem LA_119 : LAY[119]? = some (.inr (0, 8)) := rfl
theorem LA_120 : LAY[120]? = some (.inr (0, 8)) := rfl
theorem LA_121 : LAY[121]? = some (.inr (0, 8)) := rfl
theorem LA_122 : LAY[122]? = some (.inr (0, 8)) := rfl
theorem LA_123 : LAY[123]? = some (.inl 8) := rfl
theorem LA_124 : LAY[124]? = some (.inl 10) := rfl
theorem LA_125 : LAY[125]? = some (.inr (0, 8)) := rfl
theorem LA_126 : LAY[126]? = some (.inr (0, 8)) := rfl
theorem LA_127 : LAY[127]? = some (.inr (0, 8)) := rfl
theorem LA_128 : LAY[128]? = some (.inr (0, 8)) := rfl
theorem LA_129 : LAY[129]? = some (.inr (5, 8)) := rfl
theorem LA_130 : LAY[130]? = some (.inl 6) := rfl
theorem LA_131 : LAY[131]? = some (.inr (0, 8)) := rfl
theorem LA_132 : LAY[132]? = some (.inr (0, 8)) := rfl
theorem LA_133 : LAY[133]? = some (.inl 6) := rfl
theorem LA_134 : LAY[134]? = some (.inr (0, 8)) := rfl
theorem LA_135 : LAY[135]? = some (.inr (0, 8)) := rfl
theorem LA_136 : LAY[136]? = some (.inl 6) := rfl
theorem LA_137 : LAY[137]? = some (.inr (0, 8)) := rfl
theorem LA_138 : LAY[138]? = some (.inr (0, 8)) := rfl
theorem LA_139 : LAY[139]? = some (.inl 6) := rfl
theorem LA_140 : LAY[140]? = some (.inr (0, 8)) := rfl
theorem LA_141 : LAY[141]? = some (.inr (0, 8)) := rfl
theorem LA_142 : LAY[142]? = some (.inl 6) := rfl
theorem LA_143 : LAY[143]? = some (.inr (0, 8)) := rfl
theorem LA_144 : LAY[144]? = some (.inr (0, 8)) := rfl
theorem LA_145 : LAY[145]? = some (.inl 6) := rfl
theorem LA_146 : LAY[146]? = some (.inr (0, 8)) := rfl
theorem LA_147 : LAY[147]? = some (.inr (0, 8)) := rfl
theorem LA_148 : LAY[148]? = some (.inl 6) := rfl
theorem LA_149 : LAY[149]? = some (.inr (0, 8)) := rfl
theorem LA_150 : LAY[150]? = some (.inr (0, 8)) := rfl
theorem LA_151 : LAY[151]? = some (.inl 6) := rfl
theorem LA_152 : LAY[152]? = some (.inr (0, 8)) := rfl
theorem LA_153 : LAY[153]? = some (.inr (0, 8)) := rfl
theorem LA_154 : LAY[154]? = some (.inl 7) := rfl
theorem LA_155 : LAY[155]? = some (.inr (0, 6)) := rfl
theorem LA_156 : LAY[156]? = some (.inr (0, 60)) := rfl
theorem LA_157 : LAY[157]? = some (.inr (0, 10)) := rfl
theorem LA_158 : LAY[158]? = some (.inr (0, 240)) := rfl
theorem LA_159 : LAY[159]? = some (.inr (1, 41)) := rfl
theorem LA_160 : LAY[160]? = some (.inr (1, 205)) := rfl
theorem LA_161 : LAY[161]? = some (.inr (0, 4)) := rfl
theorem LA_162 : LAY[162]? = some (.inl 0) := rfl
theorem LA_163 : LAY[163]? = some (.inr (0, 10)) := rfl
theorem LA_164 : LAY[164]? = some (.inr (0, 10)) := rfl
theorem LA_165 : LAY[165]? = some (.inl 8) := rfl
theorem LA_166 : LAY[166]? = some (.inl 6) := rfl
theorem LA_167 : LAY[167]? = some (.inr (0, 8)) := rfl
theorem LA_168 : LAY[168]? = some (.inr (0, 8)) := rfl
theorem LA_169 : LAY[169]? = some (.inl 6) := rfl
theorem LA_170 : LAY[170]? = some (.inr (0, 8)) := rfl
theorem LA_171 : LAY[171]? = some (.inr (0, 8)) := rfl
theorem LA_172 : LAY[172]? = some (.inl 6) := rfl
theorem LA_173 : LAY[173]? = some (.inr (0, 8)) := rfl
theorem LA_174 : LAY[174]? = some (.inr (0, 8)) := rfl
theorem LA_175 : LAY[175]? = some (.inl 6) := rfl
theorem LA_176 : LAY[176]? = some (.inr (0, 8)) := rfl
theorem LA_177 : LAY[177]? = some (.inr (0, 8)) := rfl
theorem LA_178 : LAY[178]? = some (.inl 6) := rfl
theorem LA_179 : LAY[179]? = some (.inr (0, 8)) := rfl
theorem LA_180 : LAY[180]? = some (.inr (0, 8)) := rfl
theorem LA_181 : LAY[181]? = some (.inl 6) := rfl
theorem LA_182 : LAY[182]? = some (.inr (0, 8)) := rfl
theorem LA_183 : LAY[183]? = some (.inr (0, 8)) := rfl
theorem LA_184 : LAY[184]? = some (.inl 6) := rfl
theorem LA_185 : LAY[185]? = some (.inr (0, 8)) := rfl
theorem LA_186 : LAY[186]? = some (.inr (0, 8)) := rfl
theorem LA_187 : LAY[187]? = some (.inl 6) := rfl
theorem LA_188 : LAY[188]? = some (.inr (0, 8)) := rfl
theorem LA_189 : LAY[189]? = some (.inr (0, 8)) := rfl
theorem LA_190 : LAY[190]? = some (.inl 6) := rfl
theorem LA_191 : LAY[191]? = some (.inr (0, 8)) := rfl
theorem LA_192 : LAY[192]? = some (.inr (0, 8)) := rfl
theorem LA_193 : LAY[193]? = some (.inl 12) := rfl
theorem LA_194 : LAY[194]? = some (.inr (2, 200)) := rfl
theorem LA_195 : LAY[195]? = some (.inr (0, 8)) := rfl
theorem LA_196 : LAY[196]? = some (.inr (0, 8)) := rfl
theorem LA_197 : LAY[197]? = some (.inr (0, 8)) := rfl
theorem LA_198 : LAY[198]? = some (.inr (0, 8)) := rfl
theorem LA_199 : LAY[199]? = some (.inr (0, 8)) := rfl
theorem LA_200 : LAY[200]? = some (.inr (0, 32)) := rfl
theorem LA_201 : LAY[201]? = some (.inr (0, 32)) := rfl
theorem LA_202 : LAY[202]? = some (.inr (0, 12)) := rfl
theorem LA_203 : LAY[203]? = some (.inr (0, 12)) := rfl
theorem LA_204 : LAY[204]? = some (.inr (0, 12)) := rfl
theorem LA_205 : LAY[205]? = some (.inr (0, 12)) := rfl
theorem LA_206 : LAY[206]? = some (.inr (0, 160)) := rfl
theorem LA_207 : LAY[207]? = some (.inr (0, 160)) := rfl
theorem LA_208 : LAY[208]? = some (.inr (0, 12)) := rfl
theorem LA_209 : LAY[209]? = some (.inr (0, 12)) := rfl
theorem LA_210 : LAY[210]? = some (.inr (0, 12)) := rfl
theorem LA_211 : LAY[211]? = some (.inr (0, 12)) := rfl
theorem LA_212 : LAY[212]? = some (.inr (0, 160)) := rfl
theorem LA_213 : LAY[213]? = some (.inr (0, 160)) := rfl
theorem LA_214 : LAY[214]? = some (.inr (0, 200)) := rfl
theorem LA_215 : LAY[215]? = some (.inr (0, 200)) := rfl
theorem LA_216 : LAY[216]? = some (.inr (3, 200)) := rfl
theorem LA_217 : LAY[217]? = some (.inr (0, 16)) := rfl
theorem LA_218 : LAY[218]? = some (.inr (0, 128)) := rfl
theorem LA_219 : LAY[219]? = some (.inr (0, 128)) := rfl
theorem LA_220 : LAY[220]? = some (.inr (0, 16)) := rfl
theorem LA_221 : LAY[221]? = some (.inr (0, 8)) := rfl
theorem LA_222 : LAY[222]? = some (.inr (0, 8)) := rfl
theorem LA_223 : LAY[223]? = some (.inr (0, 32)) := rfl
theorem LA_224 : LAY[224]? = some (.inr (0, 8)) := rfl
theorem LA_225 : LAY[225]? = some (.inr (0, 8)) := rfl
theorem LA_226 : LAY[226]? = some (.inr (0, 8)) := rfl
theorem LA_227 : LAY[227]? = some (.inr (0, 8)) := rfl
theorem LA_228 : LAY[228]? = some (.inr (0, 10)) := rfl
theorem LA_229 : LAY[229]? = some (.inr (0, 10)) := rfl
theorem LA_230 : LAY[230]? = some (.inr (0, 80)) := rfl
theorem LA_231 : LAY[231]? = some (.inr (0, 80)) := rfl
theorem LA_232 : LAY[232]? = some (.inr (0, 80)) := rfl
theorem LA_233 : LAY[233]? = some (.inr (0, 80)) := rfl
theorem LA_234 : LAY[234]? = some (.inr (0, 6)) := rfl
theorem LA_235 : LAY[235]? = some (.inr (0, 60)) := rfl
theorem LA_236 : LAY[236]? = some (.inr (0, 10)) := rfl
theorem LA_237 : LAY[237]? = some (.inr (0, 10)) := rfl
theorem LA_238 : LAY[238]? = some (.inr (0, 10)) := rfl
theorem LA_239 : LAY[239]? = some (.inr (0, 240)) := rfl
theorem LA_240 : LAY[240]? = some (.inr (1, 41)) := rfl
theorem LA_241 : LAY[241]? = some (.inr (1, 205)) := rfl
abbrev kd (T ci : Nat) : Prop := LAY[T]? = some (.inl ci)
theorem kd_lt {T ci : Nat} (h : kd T ci) : T < 242 := (List.getElem?_eq_some_iff.mp h).1
theorem VR_eq {q : Nat × Nat × Nat} {o k : Nat} (h1 : o ≠ 3) (h2 : o ≠ 27) : VR q o k = VR0 o k := by
  unfold VR
  rw [upd2_ne h2, upd2_ne h1, upd2_ne h1]
theorem kx_8_0 : ∀ T, T < 242 → kd T 8 → VR0 T 0 = some 3 := by decide +kernel
theorem kx_8_1 : ∀ T, T < 242 → kd T 8 → T ≠ 3 := by decide +kernel
theorem kx_8_2 : ∀ T, T < 242 → kd T 8 → T ≠ 27 := by decide +kernel
theorem kr_8_0 {T : Nat} (h : kd T 8) (q : Nat × Nat × Nat) : VR q T 0 = some 3 := by
  rw [VR_eq (kx_8_1 T (kd_lt h) h) (kx_8_2 T (kd_lt h) h)]
  exact kx_8_0 T (kd_lt h) h
theorem kx_6_0 : ∀ T, T < 242 → kd T 6 → VR0 T 0 = some (T + 1) := by decide +kernel
theorem kx_6_1 : ∀ T, T < 242 → kd T 6 → VR0 T 1 = some (T + 2) := by decide +kernel
theorem kx_6_2 : ∀ T, T < 242 → kd T 6 → LAY[T + 1]? = some (.inr (0, 8)) := by decide +kernel
theorem kx_6_3 : ∀ T, T < 242 → kd T 6 → LAY[T + 2]? = some (.inr (0, 8)) := by decide +kernel
theorem kx_6_4 : ∀ T, T < 242 → kd T 6 → T ≠ 3 := by decide +kernel
theorem kx_6_5 : ∀ T, T < 242 → kd T 6 → T ≠ 27 := by decide +kernel
theorem kr_6_0 {T : Nat} (h : kd T 6) (q : Nat × Nat × Nat) : VR q T 0 = some (T + 1) := by
  rw [VR_eq (kx_6_4 T (kd_lt h) h) (kx_6_5 T (kd_lt h) h)]
  exact kx_6_0 T (kd_lt h) h
theorem kr_6_1 {T : Nat} (h : kd T 6) (q : Nat × Nat × Nat) : VR q T 1 = some (T + 2) := by
  rw [VR_eq (kx_6_4 T (kd_lt h) h) (kx_6_5 T (kd_lt h) h)]
  exact kx_6_1 T (kd_lt h) h
theorem ka_6_1 {T : Nat} (h : kd T 6) : LAY[T + 1]? = some (.inr (0, 8)) := kx_6_2 T (kd_lt h) h
theorem ka_6_2 {T : Nat} (h : kd T 6) : LAY[T + 2]? = some (.inr (0, 8)) := kx_6_3 T (kd_lt h) h
theorem kx_3_0 : ∀ T, T < 242 → kd T 3 → VR0 T 0 = some (T + 1) := by decide +kernel
theorem kx_3_1 : ∀ T, T < 242 → kd T 3 → VR0 T 1 = some (T + 2) := by decide +kernel
theorem kx_3_2 : ∀ T, T < 242 → kd T 3 → VR0 T 2 = some (T + 3) := by decide +kernel
theorem kx_3_3 : ∀ T, T < 242 → kd T 3 → VR0 T 3 = some (T + 4) := by decide +kernel
theorem kx_3_4 : ∀ T, T < 242 → kd T 3 → VR0 T 4 = some (T + 5) := by decide +kernel
theorem kx_3_5 : ∀ T, T < 242 → kd T 3 → VR0 T 5 = some (T + 6) := by decide +kernel
theorem kx_3_6 : ∀ T, T < 242 → kd T 3 → VR0 T 6 = some (T + 7) := by decide +kernel
theorem kx_3_7 : ∀ T, T < 242 → kd T 3 → LAY[T + 1]? = some (.inr (0, 160)) := by decide +kernel
theorem kx_3_8 : ∀ T, T < 242 → kd T 3 → LAY[T + 2]? = some (.inr (0, 12)) := by decide +kernel
theorem kx_3_9 : ∀ T, T < 242 → kd T 3 → LAY[T + 3]? = some (.inr (0, 12)) := by decide +kernel
theorem kx_3_10 : ∀ T, T < 242 → kd T 3 → LAY[T + 4]? = some (.inr (0, 12)) := by decide +kernel
theorem kx_3_11 : ∀ T, T < 242 → kd T 3 → LAY[T + 5]? = some (.inr (0, 12)) := by decide +kernel
theorem kx_3_12 : ∀ T, T < 242 → kd T 3 → LAY[T + 6]? = some (.inr (0, 10)) := by decide +kernel
theorem kx_3_13 : ∀ T, T < 242 → kd T 3 → LAY[T + 7]? = some (.inr (0, 40)) := by decide +kernel
theorem kx_3_14 : ∀ T, T < 242 → kd T 3 → T ≠ 3 := by decide +kernel
theorem kx_3_15 : ∀ T, T < 242 → kd T 3 → T ≠ 27 := by decide +kernel
theorem kr_3_0 {T : Nat} (h : kd T 3) (q : Nat × Nat × Nat) : VR q T 0 = some (T + 1) := by
  rw [VR_eq (kx_3_14 T (kd_lt h) h) (kx_3_15 T (kd_lt h) h)]
  exact kx_3_0 T (kd_lt h) h
theorem kr_3_1 {T : Nat} (h : kd T 3) (q : Nat × Nat × Nat) : VR q T 1 = some (T + 2) := by
  rw [VR_eq (kx_3_14 T (kd_lt h) h) (kx_3_15 T (kd_lt h) h)]
  exact kx_3_1 T (kd_lt h) h
theorem kr_3_2 {T : Nat} (h : kd T 3) (q : Nat × Nat × Nat) : VR q T 2 = some (T + 3) := by
  rw [VR_eq (kx_3_14 T (kd_lt h) h) (kx_3_15 T (kd_lt h) h)]
  exact kx_3_2 T (kd_lt h) h
theorem kr_3_3 {T : Nat} (h : kd T 3) (q : Nat × Nat × Nat) : VR q T 3 = some (T + 4) := by
  rw [VR_eq (kx_3_14 T (kd_lt h) h) (kx_3_15 T (kd_lt h) h)]
  exact kx_3_3 T (kd_lt h) h
theorem kr_3_4 {T : Nat} (h : kd T 3) (q : Nat × Nat × Nat) : VR q T 4 = some (T + 5) := by
  rw [VR_eq (kx_3_14 T (kd_lt h) h) (kx_3_15 T (kd_lt h) h)]
  exact kx_3_4 T (kd_lt h) h
theorem kr_3_5 {T : Nat} (h : kd T 3) (q : Nat × Nat × Nat) : VR q T 5 = some (T + 6) := by
  rw [VR_eq (kx_3_14 T (kd_lt h) h) (kx_3_15 T (kd_lt h) h)]
  exact kx_3_5 T (kd_lt h) h
theorem kr_3_6 {T : Nat} (h : kd T 3) (q : Nat × Nat × Nat) : VR q T 6 = some (T + 7) := by
  rw [VR_eq (kx_3_14 T (kd_lt h) h) (kx_3_15 T (kd_lt h) h)]
  exact kx_3_6 T (kd_lt h) h
theorem ka_3_1 {T : Nat} (h : kd T 3) : LAY[T + 1]? = some (.inr (0, 160)) := kx_3_7 T (kd_lt h) h
theorem ka_3_2 {T : Nat} (h : kd T 3) : LAY[T + 2]? = some (.inr (0, 12)) := kx_3_8 T (kd_lt h) h
theorem ka_3_3 {T : Nat} (h : kd T 3) : LAY[T + 3]? = some (.inr (0, 12)) := kx_3_9 T (kd_lt h) h
theorem ka_3_4 {T : Nat} (h : kd T 3) : LAY[T + 4]? = some (.inr (0, 12)) := kx_3_10 T (kd_lt h) h
theorem ka_3_5 {T : Nat} (h : kd T 3) : LAY[T + 5]? = some (.inr (0, 12)) := kx_3_11 T (kd_lt h) h
theorem ka_3_6 {T : Nat} (h : kd T 3) : LAY[T + 6]? = some (.inr (0, 10)) := kx_3_12 T (kd_lt h) h
theorem ka_3_7 {T : Nat} (h : kd T 3) : LAY[T + 7]? = some (.inr (0, 40)) := kx_3_13 T (kd_lt h) h
/-- the state between calls: what may change -/
abbrev cS : Type := (Nat × Nat × Nat) × (Nat → Nat → Int32) × (Nat → Nat → Int64)
def tS (s : cS) : pS := (LAY, s.2.1, s.2.2, VR s.1)
def iG (s : cS) (o k : Nat) : Int32 := s.2.1 o k
def lG (s : cS) (o k : Nat) : Int64 := s.2.2 o k
def rG (s : cS) (o k : Nat) : Option Nat := VR s.1 o k
def iS (s : cS) (o k : Nat) (v : Int32) : cS := (s.1, upd2 s.2.1 o k v, s.2.2)
def lS (s : cS) (o k : Nat) (v : Int64) : cS := (s.1, s.2.1, upd2 s.2.2 o k v)
def qA (s : cS) (T : Nat) : cS := ((T, s.1.2), s.2)
def qB (s : cS) (T : Nat) : cS := ((s.1.1, T, s.1.2.2), s.2)
def qC (s : cS) (T : Nat) : cS := ((s.1.1, s.1.2.1, T), s.2)
abbrev inb (i : Int32) (n : Nat) : Prop := ¬ (i < 0 ∨ n ≤ i.toNatClampNeg)
def itr {V ρ : Type} (B : V → Option (V ⊕ ρ)) : Nat → V → Option ρ
  | 0, _ => none
  | n + 1, v => match B v with
    | none => none
    | some (.inl v') => itr B n v'
    | some (.inr q) => some q
def KL {V ρ : Type} (P : V → Prop) (K : ρ → Prop) : V ⊕ ρ → Prop := fun x => match x with
  | .inl v => P v
  | .inr q => K q
theorem okIter {V ρ : Type} {B : V → Option (V ⊕ ρ)} {P : V → Prop} {K : ρ → Prop} (hB : ∀ v x, B v = some x → KL P K x → P v) : ∀ n v q, itr B n v = some q → K q → P v
  | 0, v, q, h, _ => by cases h
  | n + 1, v, q, h, hq => by
    unfold itr at h
    cases hb : B v with
    | none => rw [hb] at h; cases h
    | some x =>
      cases x with
      | inl v' =>
        rw [hb] at h
        exact hB v _ hb (okIter hB n v' q h hq)
      | inr q' =>
        rw [hb] at h
        cases h
        exact hB v _ hb hq
theorem isA_rf (r : Option Nat) : isA (va_rf r) = true := by cases r <;> rfl
theorem cat_rf (r : Option Nat) : (va_rf r).category = 1 := by cases r <;> rfl
theorem narZ {v : Int32} (h : v = 0 ∨ v = 1) : narrow .boolean (.int v) = .int v := by rcases h with rfl | rfl <;> rfl
section CP
variable {g : pG} {l : Launch} {R : Room} {μ : pM} {F : pF} {pc : Nat} {lv lv' : List (Nat × Value)} {st : List Value} {s : cS}
theorem PW.pick {S : pS} {kc ks : Nat} (js : List Nat) (hv : lv_pick lv js = lv') (k : PW g l R μ F pc lv' st S kc ks) : PW g l R μ F pc lv st S kc ks := by
  subst hv
  intro p e s m args below meth c H locs ls C hR hS hl
  refine k p e s m args below meth c H locs ls C hR hS (lv_sub hl js ?_)
  unfold lv_pick
  rw [List.map_filterMap]
  congr 1
  funext j
  rw [List.getElem?_map]
theorem CW.geti {idx ci k T : Nat} (hd : decode μ.2.1 pc = .ok (.getfield idx, 3)) (hf : FLD μ.1.cls idx ci k) (ho : LAY[T]? = some (.inl ci)) (ht : kT ci k = .int ∨ kT ci k = .boolean) (kk : PW g l R μ F (pc + 3) lv (.int (iG s T k) :: st) (tS s) 0 0) : PW g l R μ F pc lv (.ref T :: st) (tS s) 0 0 :=
  PW.getf hd hf ho (by rcases ht with h | h <;> rw [h] <;> rfl) kk
theorem CW.getr {idx ci k T t : Nat} (hd : decode μ.2.1 pc = .ok (.getfield idx, 3)) (hf : FLD μ.1.cls idx ci k) (ho : LAY[T]? = some (.inl ci)) (ht : (∃ n, kT ci k = .object n) ∨ ∃ n, kT ci k = .array n) (hr : VR s.1 T k = some t) (kk : PW g l R μ F (pc + 3) lv (.ref t :: st) (tS s) 0 0) : PW g l R μ F pc lv (.ref T :: st) (tS s) 0 0 :=
  PW.getf (v := .ref t) hd hf ho (by
    rcases ht with ⟨n, h⟩ | ⟨n, h⟩ <;> rw [h] <;> show va_rf (VR s.1 T k) = _ <;> rw [hr] <;> rfl) kk
theorem CW.puti {idx ci k T : Nat} {x : Int32} (hd : decode μ.2.1 pc = .ok (.putfield idx, 3)) (hf : FLD μ.1.cls idx ci k) (hfin : (kF ci k).2.2.2 = false) (ho : LAY[T]? = some (.inl ci)) (hty : kT ci k = .int) (kk : PW g l R μ F (pc + 3) lv st (tS (iS s T k x)) 0 0) : PW g l R μ F pc lv (.int x :: .ref T :: st) (tS s) 0 0 :=
  PW.putI hd hf hfin ho hty kk
theorem CW.putz {idx ci k T : Nat} {x : Int32} (hd : decode μ.2.1 pc = .ok (.putfield idx, 3)) (hf : FLD μ.1.cls idx ci k) (hfin : (kF ci k).2.2.2 = false) (ho : LAY[T]? = some (.inl ci)) (hty : kT ci k = .boolean) (hx : x = 0 ∨ x = 1) (kk : PW g l R μ F (pc + 3) lv st (tS (iS s T k x)) 0 0) : PW g l R μ F pc lv (.int x :: .ref T :: st) (tS s) 0 0 :=
  PW.putZ hd hf hfin ho hty hx kk
theorem CW.iald {a n : Nat} {i : Int32} (hd : decode μ.2.1 pc = .ok (.iaload, 1)) (ha : LAY[a]? = some (.inr (0, n))) (hin : inb i n) (kk : PW g l R μ F (pc + 1) lv (.int (iG s a i.toNatClampNeg) :: st) (tS s) 0 0) : PW g l R μ F pc lv (.int i :: .ref a :: st) (tS s) 0 0 := PW.iaload hd ha hin kk
theorem CW.lald {a n : Nat} {i : Int32} (hd : decode μ.2.1 pc = .ok (.laload, 1)) (ha : LAY[a]? = some (.inr (1, n))) (hin : inb i n) (kk : PW g l R μ F (pc + 1) lv (.long (lG s a i.toNatClampNeg) :: st) (tS s) 0 0) : PW g l R μ F pc lv (.int i :: .ref a :: st) (tS s) 0 0 := PW.laload hd ha hin kk
theorem CW.bald {a n : Nat} {i : Int32} (hd : decode μ.2.1 pc = .ok (.baload, 1)) (ha : LAY[a]? = some (.inr (2, n))) (hin : inb i n) (kk : PW g l R μ F (pc + 1) lv (.int (iG s a i.toNatClampNeg) :: st) (tS s) 0 0) : PW g l R μ F pc lv (.int i :: .ref a :: st) (tS s) 0 0 := PW.baload hd ha hin kk
theorem CW.zald {a n : Nat} {i : Int32} (hd : decode μ.2.1 pc = .ok (.baload, 1)) (ha : LAY[a]? = some (.inr (3, n))) (hin : inb i n) (kk : PW g l R μ F (pc + 1) lv (.int (iG s a i.toNatClampNeg) :: st) (tS s) 0 0) : PW g l R μ F pc lv (.int i :: .ref a :: st) (tS s) 0 0 := PW.zaload hd ha hin kk
theorem CW.aald4 {a n : Nat} {i : Int32} (hd : decode μ.2.1 pc = .ok (.aaload, 1)) (ha : LAY[a]? = some (.inr (4, n))) (hin : inb i n) (kk : PW g l R μ F (pc + 1) lv (va_rf (rG s a i.toNatClampNeg) :: st) (tS s) 0 0) : PW g l R μ F pc lv (.int i :: .ref a :: st) (tS s) 0 0 := PW.aaload4 hd ha hin rfl kk
theorem CW.aald5 {a n : Nat} {i : Int32} (hd : decode μ.2.1 pc = .ok (.aaload, 1)) (ha : LAY[a]? = some (.inr (5, n))) (hin : inb i n) (kk : PW g l R μ F (pc + 1) lv (va_rf (rG s a i.toNatClampNeg) :: st) (tS s) 0 0) : PW g l R μ F pc lv (.int i :: .ref a :: st) (tS s) 0 0 := PW.aaload5 hd ha hin rfl kk
theorem CW.alen {a t n : Nat} {v : Int32} (hd : decode μ.2.1 pc = .ok (.arraylength, 1)) (ha : LAY[a]? = some (.inr (t, n))) (ht : t < 6) (hv : Int32.ofNat n = v) (kk : PW g l R μ F (pc + 1) lv (.int v :: st) (tS s) 0 0) : PW g l R μ F pc lv (.ref a :: st) (tS s) 0 0 := PW.alen hd ha ht hv kk
theorem CW.iast {a n : Nat} {i x : Int32} (hd : decode μ.2.1 pc = .ok (.iastore, 1)) (ha : LAY[a]? = some (.inr (0, n))) (hin : inb i n) (kk : PW g l R μ F (pc + 1) lv st (tS (iS s a i.toNatClampNeg x)) 0 0) : PW g l R μ F pc lv (.int x :: .int i :: .ref a :: st) (tS s) 0 0 := PW.iastore hd ha hin kk
theorem CW.last {a n : Nat} {i : Int32} {x : Int64} (hd : decode μ.2.1 pc = .ok (.lastore, 1)) (ha : LAY[a]? = some (.inr (1, n))) (hin : inb i n) (kk : PW g l R μ F (pc + 1) lv st (tS (lS s a i.toNatClampNeg x)) 0 0) : PW g l R μ F pc lv (.long x :: .int i :: .ref a :: st) (tS s) 0 0 := PW.lastore hd ha hin kk
theorem CW.bast {a n : Nat} {i x : Int32} (hd : decode μ.2.1 pc = .ok (.bastore, 1)) (ha : LAY[a]? = some (.inr (2, n))) (hin : inb i n) (kk : PW g l R μ F (pc + 1) lv st (tS (iS s a i.toNatClampNeg x.toInt8.toInt32)) 0 0) : PW g l R μ F pc lv (.int x :: .int i :: .ref a :: st) (tS s) 0 0 := PW.bastore hd ha hin kk
theorem CW.zast {a n : Nat} {i x : Int32} (hd : decode μ.2.1 pc = .ok (.bastore, 1)) (ha : LAY[a]? = some (.inr (3, n))) (hin : inb i n) (hx : x = 0 ∨ x = 1) (kk : PW g l R μ F (pc + 1) lv st (tS (iS s a i.toNatClampNeg x)) 0 0) : PW g l R μ F pc lv (.int x :: .int i :: .ref a :: st) (tS s) 0 0 := PW.zastore hd ha hin hx kk
theorem CW.putqA {idx T : Nat} (hd : decode μ.2.1 pc = .ok (.putfield idx, 3)) (hf : FLD μ.1.cls idx 1 9) (kk : PW g l R μ F (pc + 3) lv st (tS (qA s T)) 0 0) : PW g l R μ F pc lv (.ref T :: .ref 3 :: st) (tS s) 0 0 := by
  refine PW.putR (r := some T) hd hf (Or.inl rfl) (by exact LA_3) (Or.inl ⟨_, rfl⟩) rfl ?_
  have e : sR (tS s) 3 9 (some T) = tS (qA s T) := by
    show (LAY, s.2.1, s.2.2, upd2 (VR s.1) 3 9 (some T)) = (LAY, s.2.1, s.2.2, VR (qA s T).1)
    congr 3
    funext a j
    unfold VR qA upd2
    by_cases h1 : a = 3 <;> by_cases h2 : a = 27 <;> by_cases h3 : j = 9 <;> by_cases h4 : j = 10 <;> by_cases h5 : j = 1 <;> simp [h1, h2, h3, h4, h5] <;> omega
  rw [e]
  exact kk
theorem CW.putqB {idx T : Nat} (hd : decode μ.2.1 pc = .ok (.putfield idx, 3)) (hf : FLD μ.1.cls idx 1 10) (kk : PW g l R μ F (pc + 3) lv st (tS (qB s T)) 0 0) : PW g l R μ F pc lv (.ref T :: .ref 3 :: st) (tS s) 0 0 := by
  refine PW.putR (r := some T) hd hf (Or.inl rfl) (by exact LA_3) (Or.inl ⟨_, rfl⟩) rfl ?_
  have e : sR (tS s) 3 10 (some T) = tS (qB s T) := by
    show (LAY, s.2.1, s.2.2, upd2 (VR s.1) 3 10 (some T)) = (LAY, s.2.1, s.2.2, VR (qB s T).1)
    congr 3
    funext a j
    unfold VR qB upd2
    by_cases h1 : a = 3 <;> by_cases h2 : a = 27 <;> by_cases h3 : j = 9 <;> by_cases h4 : j = 10 <;> by_cases h5 : j = 1 <;> simp [h1, h2, h3, h4, h5] <;> omega
  rw [e]
  exact kk
theorem CW.putqC {idx T : Nat} (hd : decode μ.2.1 pc = .ok (.putfield idx, 3)) (hf : FLD μ.1.cls idx 4 1) (kk : PW g l R μ F (pc + 3) lv st (tS (qC s T)) 0 0) : PW g l R μ F pc lv (.ref T :: .ref 27 :: st) (tS s) 0 0 := by
  refine PW.putR (r := some T) hd hf (Or.inl rfl) (by exact LA_27) (Or.inl ⟨_, rfl⟩) rfl ?_
  have e : sR (tS s) 27 1 (some T) = tS (qC s T) := by
    show (LAY, s.2.1, s.2.2, upd2 (VR s.1) 27 1 (some T)) = (LAY, s.2.1, s.2.2, VR (qC s T).1)
    congr 3
    funext a j
    unfold VR qC upd2
    by_cases h1 : a = 3 <;> by_cases h2 : a = 27 <;> by_cases h3 : j = 9 <;> by_cases h4 : j = 10 <;> by_cases h5 : j = 1 <;> simp [h1, h2, h3, h4, h5] <;> omega
  rw [e]
  exact kk
end CP

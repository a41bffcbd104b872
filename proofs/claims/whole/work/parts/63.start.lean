/-! behind the constructors: which ints stand where -/
def QZ (S : pS) (w : Nat → Nat → Int32) (u : Nat → Nat → Int64) : Prop := S.2.1 = w ∧ S.2.2.1 = u ∧ ∀ i j, S.1.length ≤ i → w i j = 0 ∧ u i j = 0
theorem zr_same {α : Type} {f : Nat → Nat → α} {o : Nat} {v : α} (h : ∀ j, f o j = v) : zr f o v = f := by
  funext i j
  unfold zr
  by_cases hi : i = o
  · subst hi
    rw [if_pos rfl, h]
  · rw [if_neg hi]
theorem q_sN {S : pS} {w : Nat → Nat → Int32} {u : Nat → Nat → Int64} {k : pK} (h : QZ S w u) : QZ (sN S k) w u := by
  obtain ⟨rfl, rfl, h3⟩ := h
  refine ⟨zr_same fun j => (h3 _ j (Nat.le_refl _)).1, zr_same fun j => (h3 _ j (Nat.le_refl _)).2, fun i j hi => h3 i j ?_⟩
  have : (S.1 ++ [k]).length ≤ i := hi
  rw [List.length_append] at this
  omega
theorem q_sR {S : pS} {w : Nat → Nat → Int32} {u : Nat → Nat → Int64} {o k : Nat} {v : Option Nat} (h : QZ S w u) : QZ (sR S o k v) w u := h
theorem q_sI {S : pS} {w : Nat → Nat → Int32} {u : Nat → Nat → Int64} {o k : Nat} {v : Int32} (h : QZ S w u) (ho : o < S.1.length) : QZ (sI S o k v) (upd2 w o k v) u := by
  obtain ⟨rfl, rfl, h3⟩ := h
  refine ⟨rfl, rfl, fun i j hi => ⟨?_, (h3 i j hi).2⟩⟩
  have hi' : S.1.length ≤ i := hi
  rw [upd2_ne (by omega)]
  exact (h3 i j hi).1
theorem q_cX6 {S : pS} {w : Nat → Nat → Int32} {u : Nat → Nat → Int64} {T : Nat} (h : QZ S w u) : QZ (cX6 T S) w u := q_sR (q_sN (q_sR (q_sN h)))
theorem q_cX3 {S : pS} {w : Nat → Nat → Int32} {u : Nat → Nat → Int64} {T : Nat} (h : QZ S w u) : QZ (cX3 T S) w u := q_sR (q_sN (q_sR (q_sN (q_sR (q_sN (q_sR (q_sN (q_sR (q_sN (q_sR (q_sN (q_sR (q_sN h)))))))))))))
theorem q_objP {S : pS} {w : Nat → Nat → Int32} {u : Nat → Nat → Int64} {a ci : Nat} (n : Nat) (h : QZ S w u) : QZ (objS a ci mkP n S) w u := by
  induction n with
  | zero => exact h
  | succ n ih => exact q_sR (q_cX6 (q_sN ih))
theorem q_objS {S : pS} {w : Nat → Nat → Int32} {u : Nat → Nat → Int64} {a ci C : Nat} (n : Nat) (h : QZ S w u) : QZ (objS a ci (mkS C) n S) w u := by
  induction n with
  | zero => exact h
  | succ n ih => exact q_sR (q_sR (q_sN ih))
def fillw (a : Nat) (v : Int32) : Nat → (Nat → Nat → Int32) → Nat → Nat → Int32
  | 0, w => w
  | n + 1, w => upd2 (fillw a v n w) a n v
theorem q_fill {S : pS} {w : Nat → Nat → Int32} {u : Nat → Nat → Int64} {a : Nat} {v : Int32} (n : Nat) (h : QZ S w u) (ha : a < S.1.length) : QZ (fillS a v n S) (fillw a v n w) u := by
  induction n with
  | zero => exact h
  | succ n ih => exact q_sI ih (by rw [(fillS_1 a v n S).1]; exact ha)
theorem fillw_ne {a : Nat} {v : Int32} {w : Nat → Nat → Int32} {i : Nat} (h : i ≠ a) (n : Nat) : fillw a v n w i = w i := by
  induction n with
  | zero => rfl
  | succ n ih => exact (upd2_ne h).trans ih
theorem fillw_eq {a : Nat} {v : Int32} {w : Nat → Nat → Int32} {j n : Nat} (h : j < n) : fillw a v n w a j = v := by
  induction n with
  | zero => omega
  | succ n ih =>
    show upd2 (fillw a v n w) a n v a j = v
    by_cases hj : j = n
    · subst hj; exact upd2_eq
    · rw [upd2_nk hj]; exact ih (by omega)
def w_0 : Nat → Nat → Int32 := fun _ _ => 0
def u_0 : Nat → Nat → Int64 := fun _ _ => 0
theorem zq_0 : QZ z_0 w_0 u_0 := ⟨rfl, rfl, fun _ _ _ => ⟨rfl, rfl⟩⟩
theorem zq_1 : QZ z_1 w_0 u_0 := q_sN zq_0
theorem zq_2 : QZ z_2 w_0 u_0 := q_sN zq_1
theorem zq_3 : QZ z_3 w_0 u_0 := q_sN zq_2
theorem zq_4 : QZ z_4 w_0 u_0 := q_sR zq_3
theorem zq_5 : QZ z_5 w_0 u_0 := q_sR zq_4
theorem zq_6 : QZ z_6 w_0 u_0 := q_sN zq_5
theorem zq_7 : QZ z_7 w_0 u_0 := q_sN zq_6
theorem zq_8 : QZ z_8 w_0 u_0 := q_sR zq_7
theorem zq_9 : QZ z_9 w_0 u_0 := q_sN zq_8
theorem zq_10 : QZ z_10 w_0 u_0 := q_sR zq_9
theorem zq_11 : QZ z_11 w_0 u_0 := q_sN zq_10
theorem zq_12 : QZ z_12 w_0 u_0 := q_sR zq_11
theorem zq_13 : QZ z_13 w_0 u_0 := q_sN zq_12
theorem zq_14 : QZ z_14 w_0 u_0 := q_sR zq_13
theorem zq_15 : QZ z_15 w_0 u_0 := q_sN zq_14
theorem zq_16 : QZ z_16 w_0 u_0 := q_sR zq_15
theorem zq_17 : QZ z_17 w_0 u_0 := q_sN zq_16
theorem zq_18 : QZ z_18 w_0 u_0 := q_sR zq_17
theorem zq_19 : QZ z_19 w_0 u_0 := q_sN zq_18
theorem zq_20 : QZ z_20 w_0 u_0 := q_sR zq_19
theorem zq_21 : QZ z_21 w_0 u_0 := q_sN zq_20
theorem zq_22 : QZ z_22 w_0 u_0 := q_cX3 zq_21
theorem zq_23 : QZ z_23 w_0 u_0 := q_sR zq_22
theorem zq_24 : QZ z_24 w_0 u_0 := q_sN zq_23
theorem zq_25 : QZ z_25 w_0 u_0 := q_cX3 zq_24
theorem zq_26 : QZ z_26 w_0 u_0 := q_sR zq_25
theorem zq_27 : QZ z_27 w_0 u_0 := q_sR zq_26
theorem zq_28 : QZ z_28 w_0 u_0 := q_sN zq_27
theorem zq_29 : QZ z_29 w_0 u_0 := q_sR zq_28
theorem zq_30 : QZ z_30 w_0 u_0 := q_sR zq_29
theorem zq_31 : QZ z_31 w_0 u_0 := q_sR zq_30
theorem zq_32 : QZ z_32 w_0 u_0 := q_sN zq_31
theorem zq_33 : QZ z_33 w_0 u_0 := q_sR zq_32
theorem zq_34 : QZ z_34 w_0 u_0 := q_sN zq_33
theorem zq_35 : QZ z_35 w_0 u_0 := q_cX6 zq_34
theorem zq_36 : QZ z_36 w_0 u_0 := q_sR zq_35
theorem zq_37 : QZ z_37 w_0 u_0 := q_sN zq_36
theorem zq_38 : QZ z_38 w_0 u_0 := q_sN zq_37
theorem zq_39 : QZ z_39 w_0 u_0 := q_sR zq_38
theorem zq_40 : QZ z_40 w_0 u_0 := q_sN zq_39
theorem zq_41 : QZ z_41 w_0 u_0 := q_sR zq_40
theorem zq_42 : QZ z_42 w_0 u_0 := q_sN zq_41
theorem zq_43 : QZ z_43 w_0 u_0 := q_sR zq_42
theorem zq_44 : QZ z_44 w_0 u_0 := q_sR zq_43
theorem zq_45 : QZ z_45 w_0 u_0 := q_objS 80 zq_44
theorem zq_46 : QZ z_46 w_0 u_0 := q_sR zq_45
theorem zq_47 : QZ z_47 w_0 u_0 := q_sN zq_46
theorem zq_48 : QZ z_48 w_0 u_0 := q_sN zq_47
theorem zq_49 : QZ z_49 w_0 u_0 := q_sR zq_48
theorem zq_50 : QZ z_50 w_0 u_0 := q_sN zq_49
theorem zq_51 : QZ z_51 w_0 u_0 := q_sR zq_50
theorem zq_52 : QZ z_52 w_0 u_0 := q_sN zq_51
theorem zq_53 : QZ z_53 w_0 u_0 := q_sR zq_52
theorem zq_54 : QZ z_54 w_0 u_0 := q_sN zq_53
theorem zq_55 : QZ z_55 w_0 u_0 := q_sR zq_54
theorem zq_56 : QZ z_56 w_0 u_0 := q_sN zq_55
theorem zq_57 : QZ z_57 w_0 u_0 := q_sR zq_56
theorem zq_58 : QZ z_58 w_0 u_0 := q_sN zq_57
theorem zq_59 : QZ z_59 w_0 u_0 := q_sR zq_58
theorem zq_60 : QZ z_60 w_0 u_0 := q_sR zq_59
theorem zq_61 : QZ z_61 w_0 u_0 := q_sN zq_60
theorem zq_62 : QZ z_62 w_0 u_0 := q_sR zq_61
theorem zq_63 : QZ z_63 w_0 u_0 := q_sR zq_62
theorem zq_64 : QZ z_64 w_0 u_0 := q_sR zq_63
theorem zq_65 : QZ z_65 w_0 u_0 := q_sN zq_64
theorem zq_66 : QZ z_66 w_0 u_0 := q_sN zq_65
theorem zq_67 : QZ z_67 w_0 u_0 := q_sR zq_66
theorem zq_68 : QZ z_68 w_0 u_0 := q_sN zq_67
theorem zq_69 : QZ z_69 w_0 u_0 := q_sR zq_68
theorem zq_70 : QZ z_70 w_0 u_0 := q_sN zq_69
theorem zq_71 : QZ z_71 w_0 u_0 := q_sR zq_70
theorem zq_72 : QZ z_72 w_0 u_0 := q_sN zq_71
theorem zq_73 : QZ z_73 w_0 u_0 := q_sR zq_72
theorem zq_74 : QZ z_74 w_0 u_0 := q_sN zq_73
theorem zq_75 : QZ z_75 w_0 u_0 := q_sR zq_74
theorem zq_76 : QZ z_76 w_0 u_0 := q_objP 8 zq_75
theorem zq_77 : QZ z_77 w_0 u_0 := q_sR zq_76
theorem zq_78 : QZ z_78 w_0 u_0 := q_sN zq_77
theorem zq_79 : QZ z_79 w_0 u_0 := q_sN zq_78
theorem zq_80 : QZ z_80 w_0 u_0 := q_sR zq_79
theorem zq_81 : QZ z_81 w_0 u_0 := q_sN zq_80
theorem zq_82 : QZ z_82 w_0 u_0 := q_sR zq_81
theorem zq_83 : QZ z_83 w_0 u_0 := q_sN zq_82
theorem zq_84 : QZ z_84 w_0 u_0 := q_sR zq_83
theorem zq_85 : QZ z_85 w_0 u_0 := q_sN zq_84
theorem zq_86 : QZ z_86 w_0 u_0 := q_sR zq_85
theorem zq_87 : QZ z_87 w_0 u_0 := q_sN zq_86
theorem zq_88 : QZ z_88 w_0 u_0 := q_sR zq_87
theorem zq_89 : QZ z_89 w_0 u_0 := q_sN zq_88
theorem zq_90 : QZ z_90 w_0 u_0 := q_sR zq_89
theorem zq_91 : QZ z_91 w_0 u_0 := q_sN zq_90
theorem zq_92 : QZ z_92 w_0 u_0 := q_sR zq_91
def w_1 : Nat → Nat → Int32 := fillw 156 (5) 60 w_0
theorem zq_93 : QZ z_93 w_1 u_0 := q_fill 60 zq_92 (by decide +kernel)
def w_2 : Nat → Nat → Int32 := fillw 157 (-1) 10 w_1
theorem zq_94 : QZ z_94 w_2 u_0 := q_fill 10 zq_93 (by decide +kernel)
theorem zq_95 : QZ z_95 w_2 u_0 := q_sR zq_94
theorem zq_96 : QZ z_96 w_2 u_0 := q_sN zq_95
theorem zq_97 : QZ z_97 w_2 u_0 := q_sN zq_96
theorem zq_98 : QZ z_98 w_2 u_0 := q_sR zq_97
theorem zq_99 : QZ z_99 w_2 u_0 := q_sN zq_98
theorem zq_100 : QZ z_100 w_2 u_0 := q_sR zq_99
def w_3 : Nat → Nat → Int32 := upd2 w_2 162 3 1
theorem zq_101 : QZ z_101 w_3 u_0 := q_sI zq_100 (by decide +kernel)
theorem zq_102 : QZ z_102 w_3 u_0 := q_sR zq_101
theorem zq_103 : QZ z_103 w_3 u_0 := q_sN zq_102
theorem zq_104 : QZ z_104 w_3 u_0 := q_sR zq_103
theorem zq_105 : QZ z_105 w_3 u_0 := q_sR zq_104
theorem zq_106 : QZ z_106 w_3 u_0 := q_sN zq_105
theorem zq_107 : QZ z_107 w_3 u_0 := q_cX6 zq_106
theorem zq_108 : QZ z_108 w_3 u_0 := q_sR zq_107
theorem zq_109 : QZ z_109 w_3 u_0 := q_objP 8 zq_108
theorem zq_110 : QZ z_110 w_3 u_0 := q_sN zq_109
theorem zq_111 : QZ z_111 w_3 u_0 := q_sN zq_110
theorem zq_112 : QZ z_112 w_3 u_0 := q_sR zq_111
theorem zq_113 : QZ z_113 w_3 u_0 := q_sN zq_112
theorem zq_114 : QZ z_114 w_3 u_0 := q_sR zq_113
theorem zq_115 : QZ z_115 w_3 u_0 := q_sN zq_114
theorem zq_116 : QZ z_116 w_3 u_0 := q_sR zq_115
theorem zq_117 : QZ z_117 w_3 u_0 := q_sN zq_116
theorem zq_118 : QZ z_118 w_3 u_0 := q_sR zq_117
theorem zq_119 : QZ z_119 w_3 u_0 := q_sN zq_118
theorem zq_120 : QZ z_120 w_3 u_0 := q_sR zq_119
theorem zq_121 : QZ z_121 w_3 u_0 := q_sN zq_120
theorem zq_122 : QZ z_122 w_3 u_0 := q_sR zq_121
theorem zq_123 : QZ z_123 w_3 u_0 := q_sN zq_122
theorem zq_124 : QZ z_124 w_3 u_0 := q_sR zq_123
theorem zq_125 : QZ z_125 w_3 u_0 := q_sN zq_124
theorem zq_126 : QZ z_126 w_3 u_0 := q_sR zq_125
theorem zq_127 : QZ z_127 w_3 u_0 := q_sN zq_126
theorem zq_128 : QZ z_128 w_3 u_0 := q_sR zq_127
theorem zq_129 : QZ z_129 w_3 u_0 := q_sN zq_128
theorem zq_130 : QZ z_130 w_3 u_0 := q_sR zq_129
theorem zq_131 : QZ z_131 w_3 u_0 := q_sN zq_130
theorem zq_132 : QZ z_132 w_3 u_0 := q_sR zq_131
theorem zq_133 : QZ z_133 w_3 u_0 := q_sN zq_132
theorem zq_134 : QZ z_134 w_3 u_0 := q_sR zq_133
theorem zq_135 : QZ z_135 w_3 u_0 := q_sN zq_134
theorem zq_136 : QZ z_136 w_3 u_0 := q_sR zq_135
theorem zq_137 : QZ z_137 w_3 u_0 := q_sN zq_136
theorem zq_138 : QZ z_138 w_3 u_0 := q_sR zq_137
theorem zq_139 : QZ z_139 w_3 u_0 := q_sN zq_138
theorem zq_140 : QZ z_140 w_3 u_0 := q_sR zq_139
theorem zq_141 : QZ z_141 w_3 u_0 := q_sN zq_140
theorem zq_142 : QZ z_142 w_3 u_0 := q_sR zq_141
theorem zq_143 : QZ z_143 w_3 u_0 := q_sN zq_142
theorem zq_144 : QZ z_144 w_3 u_0 := q_sR zq_143
theorem zq_145 : QZ z_145 w_3 u_0 := q_sN zq_144
theorem zq_146 : QZ z_146 w_3 u_0 := q_sR zq_145
theorem zq_147 : QZ z_147 w_3 u_0 := q_sN zq_146
theorem zq_148 : QZ z_148 w_3 u_0 := q_sR zq_147
theorem zq_149 : QZ z_149 w_3 u_0 := q_sN zq_148
theorem zq_150 : QZ z_150 w_3 u_0 := q_sR zq_149
theorem zq_151 : QZ z_151 w_3 u_0 := q_sN zq_150
theorem zq_152 : QZ z_152 w_3 u_0 := q_sR zq_151
theorem zq_153 : QZ z_153 w_3 u_0 := q_sN zq_152
theorem zq_154 : QZ z_154 w_3 u_0 := q_sR zq_153
theorem zq_155 : QZ z_155 w_3 u_0 := q_sN zq_154
theorem zq_156 : QZ z_156 w_3 u_0 := q_sR zq_155
theorem zq_157 : QZ z_157 w_3 u_0 := q_sN zq_156
theorem zq_158 : QZ z_158 w_3 u_0 := q_sR zq_157
theorem zq_159 : QZ z_159 w_3 u_0 := q_sN zq_158
theorem zq_160 : QZ z_160 w_3 u_0 := q_sR zq_159
theorem zq_161 : QZ z_161 w_3 u_0 := q_sN zq_160
theorem zq_162 : QZ z_162 w_3 u_0 := q_sR zq_161
theorem zq_163 : QZ z_163 w_3 u_0 := q_sN zq_162
theorem zq_164 : QZ z_164 w_3 u_0 := q_sR zq_163
theorem zq_165 : QZ z_165 w_3 u_0 := q_sN zq_164
theorem zq_166 : QZ z_166 w_3 u_0 := q_sR zq_165
theorem zq_167 : QZ z_167 w_3 u_0 := q_sN zq_166
theorem zq_168 : QZ z_168 w_3 u_0 := q_sR zq_167
theorem zq_169 : QZ z_169 w_3 u_0 := q_sN zq_168
theorem zq_170 : QZ z_170 w_3 u_0 := q_sR zq_169
theorem zq_171 : QZ z_171 w_3 u_0 := q_sN zq_170
theorem zq_172 : QZ z_172 w_3 u_0 := q_sR zq_171
theorem zq_173 : QZ z_173 w_3 u_0 := q_sN zq_172
theorem zq_174 : QZ z_174 w_3 u_0 := q_sR zq_173
theorem zq_175 : QZ z_175 w_3 u_0 := q_sN zq_174
theorem zq_176 : QZ z_176 w_3 u_0 := q_sR zq_175
theorem zq_177 : QZ z_177 w_3 u_0 := q_sN zq_176
theorem zq_178 : QZ z_178 w_3 u_0 := q_sR zq_177
theorem zq_179 : QZ z_179 w_3 u_0 := q_sN zq_178
theorem zq_180 : QZ z_180 w_3 u_0 := q_sR zq_179
theorem zq_181 : QZ z_181 w_3 u_0 := q_sN zq_180
theorem zq_182 : QZ z_182 w_3 u_0 := q_sR zq_181
theorem zq_183 : QZ z_183 w_3 u_0 := q_sN zq_182
theorem zq_184 : QZ z_184 w_3 u_0 := q_sR zq_183
theorem zq_185 : QZ z_185 w_3 u_0 := q_sN zq_184
theorem zq_186 : QZ z_186 w_3 u_0 := q_sR zq_185
theorem zq_187 : QZ z_187 w_3 u_0 := q_sN zq_186
theorem zq_188 : QZ z_188 w_3 u_0 := q_sR zq_187
theorem zq_189 : QZ z_189 w_3 u_0 := q_sN zq_188
theorem zq_190 : QZ z_190 w_3 u_0 := q_sR zq_189
theorem zq_191 : QZ z_191 w_3 u_0 := q_sN zq_190
theorem zq_192 : QZ z_192 w_3 u_0 := q_sR zq_191
theorem zq_193 : QZ z_193 w_3 u_0 := q_sN zq_192
theorem zq_194 : QZ z_194 w_3 u_0 := q_sR zq_193
theorem zq_195 : QZ z_195 w_3 u_0 := q_sN zq_194
theorem zq_196 : QZ z_196 w_3 u_0 := q_sR zq_195
def w_4 : Nat → Nat → Int32 := upd2 w_3 193 69 1
theorem zq_197 : QZ z_197 w_4 u_0 := q_sI zq_196 (by decide +kernel)
theorem zq_198 : QZ z_198 w_4 u_0 := q_sN zq_197
theorem zq_199 : QZ z_199 w_4 u_0 := q_sR zq_198
theorem zq_200 : QZ z_200 w_4 u_0 := q_sN zq_199
theorem zq_201 : QZ z_201 w_4 u_0 := q_sR zq_200
theorem zq_202 : QZ z_202 w_4 u_0 := q_sN zq_201
theorem zq_203 : QZ z_203 w_4 u_0 := q_sR zq_202
theorem zq_204 : QZ z_204 w_4 u_0 := q_sN zq_203
theorem zq_205 : QZ z_205 w_4 u_0 := q_sR zq_204
theorem zq_206 : QZ z_206 w_4 u_0 := q_sN zq_205
theorem zq_207 : QZ z_207 w_4 u_0 := q_sR zq_206
def w_5 : Nat → Nat → Int32 := fillw 235 (5) 60 w_4
theorem zq_208 : QZ z_208 w_5 u_0 := q_fill 60 zq_207 (by decide +kernel)
def w_6 : Nat → Nat → Int32 := fillw 236 (-1) 10 w_5
theorem zq_209 : QZ z_209 w_6 u_0 := q_fill 10 zq_208 (by decide +kernel)
def s0 : cS := ((11, 19, 19), w_6, u_0)
def isR : FieldType → Bool := fun t => match t with
  | .object _ => true
  | .array _ => true
  | _ => false
def agB (S : pS) (v : Nat → Nat → Option Nat) : Bool := (List.range 242).all fun i => match LAY[i]? with
  | some (.inl ci) => (List.range (kN ci)).all fun f => !(isR (kT ci f)) || decide (S.2.2.2 i f = v i f)
  | some (.inr (t, n)) => decide (t < 4) || (List.range n).all fun j => decide (S.2.2.2 i j = v i j)
  | none => true
theorem z_lay : z_209.1 = LAY := by decide +kernel
theorem z_ref : agB z_209 (VR s0.1) = true := by decide +kernel
theorem arrV_congr {c : ClassId} {n : Nat} {f f' : Nat → Value} (h : ∀ j, j < n → f j = f' j) : arrV c n f = arrV c n f' := by
  unfold arrV
  congr 2
  funext j
  exact h j.val j.isLt
theorem fv_ref {S S' : pS} {i k : Nat} {ty : FieldType} (h1 : S'.2.1 = S.2.1) (h2 : S'.2.2.1 = S.2.2.1) (h3 : isR ty = true → S'.2.2.2 i k = S.2.2.2 i k) : fv S' i ty k = fv S i ty k := by
  unfold fv
  rw [h1, h2]
  cases ty <;> first | rfl | (show va_rf _ = va_rf _; rw [h3 rfl])
/-- the state between calls, at first -/
theorem z_s0 {g : pG} {H : Heap} (h : RH g z_209 H) : RH g (tS s0) H := by
  have hq := zq_209
  have e1 : (tS s0).2.1 = z_209.2.1 := hq.1.symm
  have e2 : (tS s0).2.2.1 = z_209.2.2.1 := hq.2.1.symm
  have hl : (tS s0).1 = z_209.1 := z_lay.symm
  have hag := List.all_eq_true.mp z_ref
  refine ⟨by rw [hl]; exact h.1, fun i k hi => ?_⟩
  have hi' : LAY[i]? = some k := hi
  have hz : z_209.1[i]? = some k := by rw [z_lay]; exact hi'
  have hb := hag i (List.mem_range.mpr (List.getElem?_eq_some_iff.mp hi').1)
  rw [hi'] at hb
  have hk := h.2 i k hz
  cases k with
  | inl ci =>
    obtain ⟨r, h1, h2⟩ := hk
    refine ⟨r, h1, ?_⟩
    have : (List.range (kN ci)).map (fun f => ren g (fv (tS s0) i (kT ci f) f)) = (List.range (kN ci)).map (fun f => ren g (fv z_209 i (kT ci f) f)) := by
      refine List.map_congr_left fun f hf => ?_
      rw [fv_ref (S := z_209) e1 e2 fun hr => ?_]
      have hx := List.all_eq_true.mp hb f hf
      rw [hr] at hx
      simp only [Bool.not_true, Bool.false_or, decide_eq_true_eq] at hx
      exact hx.symm
    show t_OB (gz g + i) _ _ _ H (vp_V ((List.range (kN ci)).map (fun f => ren g (fv (tS s0) i (kT ci f) f))))
    rw [this]
    exact h2
  | inr q =>
    obtain ⟨t, n⟩ := q
    have hk' : H[gz g + i]? = some (vp_cell (gA g t) (n, aE g z_209 i t)) := hk
    show H[gz g + i]? = some (vp_cell (gA g t) (n, aE g (tS s0) i t))
    rw [hk']
    refine congrArg some ?_
    rcases t with _ | _ | _ | _ | t
    · show vp_cell _ (n, .inl (z_209.2.1 i)) = vp_cell _ (n, .inl ((tS s0).2.1 i))
      rw [e1]
    · show vp_cell _ (n, .inr (.inl (z_209.2.2.1 i))) = vp_cell _ (n, .inr (.inl ((tS s0).2.2.1 i)))
      rw [e2]
    · show vp_cell _ (n, .inl (z_209.2.1 i)) = vp_cell _ (n, .inl ((tS s0).2.1 i))
      rw [e1]
    · show vp_cell _ (n, .inl (z_209.2.1 i)) = vp_cell _ (n, .inl ((tS s0).2.1 i))
      rw [e1]
    · have hx : (List.range n).all (fun j => decide (z_209.2.2.2 i j = VR s0.1 i j)) = true := by
        have hb' : (decide (t + 4 < 4) || (List.range n).all fun j => decide (z_209.2.2.2 i j = VR s0.1 i j)) = true := hb
        have hd : decide (t + 4 < 4) = false := decide_eq_false (by omega)
        rwa [hd, Bool.false_or] at hb'
      have hy := List.all_eq_true.mp hx
      show arrV _ n (fun j => va_rf ((z_209.2.2.2 i j).map (gz g + ·))) = arrV _ n (fun j => va_rf (((tS s0).2.2.2 i j).map (gz g + ·)))
      refine arrV_congr fun j hj => ?_
      have := hy j (List.mem_range.mpr hj)
      simp only [decide_eq_true_eq] at this
      rw [this]
      rfl
theorem PW.same {g : pG} {l : Launch} {R : Room} {μ : pM} {F : pF} {pc : Nat} {lv : List (Nat × Value)} {st : List Value} {S S' : pS} {kc ks : Nat} (h : ∀ H, RH g S H → RH g S' H) (k : PW g l R μ F pc lv st S' kc ks) : PW g l R μ F pc lv st S kc ks :=
  fun p e s m args below meth c H locs ls C hR hS hl => k p e s m args below meth c H locs ls C (h H hR) hS hl
theorem zl_last : z_109.1.length = 193 := by decide +kernel
set_option maxRecDepth 20000 in
set_option maxHeartbeats 4000000 in
/-- the law up to its loop -/
theorem law_start {nm : String} {g : pG} {l : Launch} (K : PW g l room_1 (M_L_law nm) (FL g) 18 [(3, .int 0), (2, .ref 193), (1, .ref 0), (0, .float 0)] [] (tS s0) 242 KS) : PW g l room_1 (M_L_law nm) (FL g) 0 [(0, .float 0)] [] z_0 0 0 := by
  refine KW.newo (ci := 11) (n := 0) (S' := z_1) dL_law_0 (by decide) cL_L_7 iN_11 (Nat.le_of_ble_eq_true rfl) (Nat.le_of_ble_eq_true rfl) rfl rfl ?_
  refine PW.dup dL_law_3 rfl ?_
  refine PW.callI (S' := z_109) (r := none) (mc := 192) (ms := 5369) (st := [.ref 0]) [] dL_law_4 k_X11_init MI_X11_init mL_L_9 rfl rfl (Nat.le_of_ble_eq_true rfl) (by decide) (by decide) (Nat.le_of_ble_eq_true rfl) (Nat.le_of_ble_eq_true rfl) ?_
  show PW _ _ _ _ _ _ _ [.ref 0] _ _ _
  refine PW.astore_n dL_law_7 rfl (Nat.le_of_ble_eq_true rfl) rfl rfl ?_
  refine KW.newo (ci := 12) (n := 193) (S' := z_110) dL_law_8 (by decide) cL_L_10 iN_12 (Nat.le_of_ble_eq_true rfl) (Nat.le_of_ble_eq_true rfl) zl_last rfl ?_
  refine PW.dup dL_law_11 rfl ?_
  refine PW.callI (S' := z_209) (r := none) (mc := 48) (ms := 2930) (st := [.ref 193]) [] dL_law_12 k_X12_init MI_X12_init mL_L_12 rfl rfl (Nat.le_of_ble_eq_true rfl) (by decide) (by decide) (Nat.le_of_ble_eq_true rfl) (Nat.le_of_ble_eq_true rfl) ?_
  show PW _ _ _ _ _ _ _ [.ref 193] _ _ _
  refine PW.astore_n dL_law_15 rfl (Nat.le_of_ble_eq_true rfl) rfl rfl ?_
  refine PW.iconst (v := 0) dL_law_16 (by decide) ?_
  refine PW.istore_n dL_law_17 rfl (Nat.le_of_ble_eq_true rfl) rfl ?_
  exact PW.same (fun H h => z_s0 h) K

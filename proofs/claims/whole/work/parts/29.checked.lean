theorem xg_0 : ∀ y, 0 ≤ y → y < 20 → (xcode y).all (xokA y) = true := by
  intro y h1 h2
  rcases (show y = 0 ∨ y = 1 ∨ y = 2 ∨ y = 3 ∨ y = 4 ∨ y = 5 ∨ y = 6 ∨ y = 7 ∨ y = 8 ∨ y = 9 ∨ y = 10 ∨ y = 11 ∨ y = 12 ∨ y = 13 ∨ y = 14 ∨ y = 15 ∨ y = 16 ∨ y = 17 ∨ y = 18 ∨ y = 19 by omega) with rfl | rfl | rfl | rfl | rfl | rfl | rfl | rfl | rfl | rfl | rfl | rfl | rfl | rfl | rfl | rfl | rfl | rfl | rfl | rfl
  · exact xo_0
  · exact xo_1
  · exact xo_2
  · exact xo_3
  · exact xo_4
  · exact xo_5
  · exact xo_6
  · exact xo_7
  · exact xo_8
  · exact xo_9
  · exact xo_10
  · exact xo_11
  · exact xo_12
  · exact xo_13
  · exact xo_14
  · exact xo_15
  · exact xo_16
  · exact xo_17
  · exact xo_18
  · exact xo_19
theorem xg_1 : ∀ y, 20 ≤ y → y < 40 → (xcode y).all (xokA y) = true := by
  intro y h1 h2
  rcases (show y = 20 ∨ y = 21 ∨ y = 22 ∨ y = 23 ∨ y = 24 ∨ y = 25 ∨ y = 26 ∨ y = 27 ∨ y = 28 ∨ y = 29 ∨ y = 30 ∨ y = 31 ∨ y = 32 ∨ y = 33 ∨ y = 34 ∨ y = 35 ∨ y = 36 ∨ y = 37 ∨ y = 38 ∨ y = 39 by omega) with rfl | rfl | rfl | rfl | rfl | rfl | rfl | rfl | rfl | rfl | rfl | rfl | rfl | rfl | rfl | rfl | rfl | rfl | rfl | rfl
  · exact xo_20
  · exact xo_21
  · exact xo_22
  · exact xo_23
  · exact xo_24
  · exact xo_25
  · exact xo_26
  · exact xo_27
  · exact xo_28
  · exact xo_29
  · exact xo_30
  · exact xo_31
  · exact xo_32
  · exact xo_33
  · exact xo_34
  · exact xo_35
  · exact xo_36
  · exact xo_37
  · exact xo_38
  · exact xo_39
theorem xg_2 : ∀ y, 40 ≤ y → y < 60 → (xcode y).all (xokA y) = true := by
  intro y h1 h2
  rcases (show y = 40 ∨ y = 41 ∨ y = 42 ∨ y = 43 ∨ y = 44 ∨ y = 45 ∨ y = 46 ∨ y = 47 ∨ y = 48 ∨ y = 49 ∨ y = 50 ∨ y = 51 ∨ y = 52 ∨ y = 53 ∨ y = 54 ∨ y = 55 ∨ y = 56 ∨ y = 57 ∨ y = 58 ∨ y = 59 by omega) with rfl | rfl | rfl | rfl | rfl | rfl | rfl | rfl | rfl | rfl | rfl | rfl | rfl | rfl | rfl | rfl | rfl | rfl | rfl | rfl
  · exact xo_40
  · exact xo_41
  · exact xo_42
  · exact xo_43
  · exact xo_44
  · exact xo_45
  · exact xo_46
  · exact xo_47
  · exact xo_48
  · exact xo_49
  · exact xo_50
  · exact xo_51
  · exact xo_52
  · exact xo_53
  · exact xo_54
  · exact xo_55
  · exact xo_56
  · exact xo_57
  · exact xo_58
  · exact xo_59
theorem xg_3 : ∀ y, 60 ≤ y → y < 80 → (xcode y).all (xokA y) = true := by
  intro y h1 h2
  rcases (show y = 60 ∨ y = 61 ∨ y = 62 ∨ y = 63 ∨ y = 64 ∨ y = 65 ∨ y = 66 ∨ y = 67 ∨ y = 68 ∨ y = 69 ∨ y = 70 ∨ y = 71 ∨ y = 72 ∨ y = 73 ∨ y = 74 ∨ y = 75 ∨ y = 76 ∨ y = 77 ∨ y = 78 ∨ y = 79 by omega) with rfl | rfl | rfl | rfl | rfl | rfl | rfl | rfl | rfl | rfl | rfl | rfl | rfl | rfl | rfl | rfl | rfl | rfl | rfl | rfl
  · exact xo_60
  · exact xo_61
  · exact xo_62
  · exact xo_63
  · exact xo_64
  · exact xo_65
  · exact xo_66
  · exact xo_67
  · exact xo_68
  · exact xo_69
  · exact xo_70
  · exact xo_71
  · exact xo_72
  · exact xo_73
  · exact xo_74
  · exact xo_75
  · exact xo_76
  · exact xo_77
  · exact xo_78
  · exact xo_79
theorem xg_4 : ∀ y, 80 ≤ y → y < 100 → (xcode y).all (xokA y) = true := by
  intro y h1 h2
  rcases (show y = 80 ∨ y = 81 ∨ y = 82 ∨ y = 83 ∨ y = 84 ∨ y = 85 ∨ y = 86 ∨ y = 87 ∨ y = 88 ∨ y = 89 ∨ y = 90 ∨ y = 91 ∨ y = 92 ∨ y = 93 ∨ y = 94 ∨ y = 95 ∨ y = 96 ∨ y = 97 ∨ y = 98 ∨ y = 99 by omega) with rfl | rfl | rfl | rfl | rfl | rfl | rfl | rfl | rfl | rfl | rfl | rfl | rfl | rfl | rfl | rfl | rfl | rfl | rfl | rfl
  · exact xo_80
  · exact xo_81
  · exact xo_82
  · exact xo_83
  · exact xo_84
  · exact xo_85
  · exact xo_86
  · exact xo_87
  · exact xo_88
  · exact xo_89
  · exact xo_90
  · exact xo_91
  · exact xo_92
  · exact xo_93
  · exact xo_94
  · exact xo_95
  · exact xo_96
  · exact xo_97
  · exact xo_98
  · exact xo_99
theorem xg_5 : ∀ y, 100 ≤ y → y < 120 → (xcode y).all (xokA y) = true := by
  intro y h1 h2
  rcases (show y = 100 ∨ y = 101 ∨ y = 102 ∨ y = 103 ∨ y = 104 ∨ y = 105 ∨ y = 106 ∨ y = 107 ∨ y = 108 ∨ y = 109 ∨ y = 110 ∨ y = 111 ∨ y = 112 ∨ y = 113 ∨ y = 114 ∨ y = 115 ∨ y = 116 ∨ y = 117 ∨ y = 118 ∨ y = 119 by omega) with rfl | rfl | rfl | rfl | rfl | rfl | rfl | rfl | rfl | rfl | rfl | rfl | rfl | rfl | rfl | rfl | rfl | rfl | rfl | rfl
  · exact xo_100
  · exact xo_101
  · exact xo_102
  · exact xo_103
  · exact xo_104
  · exact xo_105
  · exact xo_106
  · exact xo_107
  · exact xo_108
  · exact xo_109
  · exact xo_110
  · exact xo_111
  · exact xo_112
  · exact xo_113
  · exact xo_114
  · exact xo_115
  · exact xo_116
  · exact xo_117
  · exact xo_118
  · exact xo_119
theorem xg_6 : ∀ y, 120 ≤ y → y < 140 → (xcode y).all (xokA y) = true := by
  intro y h1 h2
  rcases (show y = 120 ∨ y = 121 ∨ y = 122 ∨ y = 123 ∨ y = 124 ∨ y = 125 ∨ y = 126 ∨ y = 127 ∨ y = 128 ∨ y = 129 ∨ y = 130 ∨ y = 131 ∨ y = 132 ∨ y = 133 ∨ y = 134 ∨ y = 135 ∨ y = 136 ∨ y = 137 ∨ y = 138 ∨ y = 139 by omega) with rfl | rfl | rfl | rfl | rfl | rfl | rfl | rfl | rfl | rfl | rfl | rfl | rfl | rfl | rfl | rfl | rfl | rfl | rfl | rfl
  · exact xo_120
  · exact xo_121
  · exact xo_122
  · exact xo_123
  · exact xo_124
  · exact xo_125
  · exact xo_126
  · exact xo_127
  · exact xo_128
  · exact xo_129
  · exact xo_130
  · exact xo_131
  · exact xo_132
  · exact xo_133
  · exact xo_134
  · exact xo_135
  · exact xo_136
  · exact xo_137
  · exact xo_138
  · exact xo_139
theorem xg_7 : ∀ y, 140 ≤ y → y < 160 → (xcode y).all (xokA y) = true := by
  intro y h1 h2
  rcases (show y = 140 ∨ y = 141 ∨ y = 142 ∨ y = 143 ∨ y = 144 ∨ y = 145 ∨ y = 146 ∨ y = 147 ∨ y = 148 ∨ y = 149 ∨ y = 150 ∨ y = 151 ∨ y = 152 ∨ y = 153 ∨ y = 154 ∨ y = 155 ∨ y = 156 ∨ y = 157 ∨ y = 158 ∨ y = 159 by omega) with rfl | rfl | rfl | rfl | rfl | rfl | rfl | rfl | rfl | rfl | rfl | rfl | rfl | rfl | rfl | rfl | rfl | rfl | rfl | rfl
  · exact xo_140
  · exact xo_141
  · exact xo_142
  · exact xo_143
  · exact xo_144
  · exact xo_145
  · exact xo_146
  · exact xo_147
  · exact xo_148
  · exact xo_149
  · exact xo_150
  · exact xo_151
  · exact xo_152
  · exact xo_153
  · exact xo_154
  · exact xo_155
  · exact xo_156
  · exact xo_157
  · exact xo_158
  · exact xo_159
theorem xg_8 : ∀ y, 160 ≤ y → y < 180 → (xcode y).all (xokA y) = true := by
  intro y h1 h2
  rcases (show y = 160 ∨ y = 161 ∨ y = 162 ∨ y = 163 ∨ y = 164 ∨ y = 165 ∨ y = 166 ∨ y = 167 ∨ y = 168 ∨ y = 169 ∨ y = 170 ∨ y = 171 ∨ y = 172 ∨ y = 173 ∨ y = 174 ∨ y = 175 ∨ y = 176 ∨ y = 177 ∨ y = 178 ∨ y = 179 by omega) with rfl | rfl | rfl | rfl | rfl | rfl | rfl | rfl | rfl | rfl | rfl | rfl | rfl | rfl | rfl | rfl | rfl | rfl | rfl | rfl
  · exact xo_160
  · exact xo_161
  · exact xo_162
  · exact xo_163
  · exact xo_164
  · exact xo_165
  · exact xo_166
  · exact xo_167
  · exact xo_168
  · exact xo_169
  · exact xo_170
  · exact xo_171
  · exact xo_172
  · exact xo_173
  · exact xo_174
  · exact xo_175
  · exact xo_176
  · exact xo_177
  · exact xo_178
  · exact xo_179
theorem xg_9 : ∀ y, 180 ≤ y → y < 200 → (xcode y).all (xokA y) = true := by
  intro y h1 h2
  rcases (show y = 180 ∨ y = 181 ∨ y = 182 ∨ y = 183 ∨ y = 184 ∨ y = 185 ∨ y = 186 ∨ y = 187 ∨ y = 188 ∨ y = 189 ∨ y = 190 ∨ y = 191 ∨ y = 192 ∨ y = 193 ∨ y = 194 ∨ y = 195 ∨ y = 196 ∨ y = 197 ∨ y = 198 ∨ y = 199 by omega) with rfl | rfl | rfl | rfl | rfl | rfl | rfl | rfl | rfl | rfl | rfl | rfl | rfl | rfl | rfl | rfl | rfl | rfl | rfl | rfl
  · exact xo_180
  · exact xo_181
  · exact xo_182
  · exact xo_183
  · exact xo_184
  · exact xo_185
  · exact xo_186
  · exact xo_187
  · exact xo_188
  · exact xo_189
  · exact xo_190
  · exact xo_191
  · exact xo_192
  · exact xo_193
  · exact xo_194
  · exact xo_195
  · exact xo_196
  · exact xo_197
  · exact xo_198
  · exact xo_199
theorem xg_10 : ∀ y, 200 ≤ y → y < 220 → (xcode y).all (xokA y) = true := by
  intro y h1 h2
  rcases (show y = 200 ∨ y = 201 ∨ y = 202 ∨ y = 203 ∨ y = 204 ∨ y = 205 ∨ y = 206 ∨ y = 207 ∨ y = 208 ∨ y = 209 ∨ y = 210 ∨ y = 211 ∨ y = 212 ∨ y = 213 ∨ y = 214 ∨ y = 215 ∨ y = 216 ∨ y = 217 ∨ y = 218 ∨ y = 219 by omega) with rfl | rfl | rfl | rfl | rfl | rfl | rfl | rfl | rfl | rfl | rfl | rfl | rfl | rfl | rfl | rfl | rfl | rfl | rfl | rfl
  · exact xo_200
  · exact xo_201
  · exact xo_202
  · exact xo_203
  · exact xo_204
  · exact xo_205
  · exact xo_206
  · exact xo_207
  · exact xo_208
  · exact xo_209
  · exact xo_210
  · exact xo_211
  · exact xo_212
  · exact xo_213
  · exact xo_214
  · exact xo_215
  · exact xo_216
  · exact xo_217
  · exact xo_218
  · exact xo_219
theorem xg_11 : ∀ y, 220 ≤ y → y < 236 → (xcode y).all (xokA y) = true := by
  intro y h1 h2
  rcases (show y = 220 ∨ y = 221 ∨ y = 222 ∨ y = 223 ∨ y = 224 ∨ y = 225 ∨ y = 226 ∨ y = 227 ∨ y = 228 ∨ y = 229 ∨ y = 230 ∨ y = 231 ∨ y = 232 ∨ y = 233 ∨ y = 234 ∨ y = 235 by omega) with rfl | rfl | rfl | rfl | rfl | rfl | rfl | rfl | rfl | rfl | rfl | rfl | rfl | rfl | rfl | rfl
  · exact xo_220
  · exact xo_221
  · exact xo_222
  · exact xo_223
  · exact xo_224
  · exact xo_225
  · exact xo_226
  · exact xo_227
  · exact xo_228
  · exact xo_229
  · exact xo_230
  · exact xo_231
  · exact xo_232
  · exact xo_233
  · exact xo_234
  · exact xo_235
theorem xcode_hi {y : Nat} (h : 236 ≤ y) : xcode y = [] := by
  unfold xcode
  exact xgetD_hi (Nat.le_trans (by decide +kernel) h)
theorem xf_mem : ∀ (l : List XE) (pc : Nat) (q : XI), xf l pc = some q → (pc, q) ∈ l := by
  intro l
  induction l with
  | nil => intro pc q h; cases h
  | cons z t ih =>
    intro pc q h
    unfold xf at h
    cases hz : Nat.beq z.1 pc with
    | true =>
      rw [hz] at h
      have e1 := Nat.eq_of_beq_eq_true hz
      have e2 : z.2 = q := Option.some.inj h
      rw [← e1, ← e2]; exact List.mem_cons_self
    | false => rw [hz] at h; exact List.mem_cons_of_mem _ (ih pc q h)
theorem xall_lt : ∀ y, (xcode y).all (xokA y) = true := by
  intro y
  rcases Nat.lt_or_ge y 20 with h | h0
  · exact xg_0 y (Nat.zero_le _) h
  rcases Nat.lt_or_ge y 40 with h | h1
  · exact xg_1 y h0 h
  rcases Nat.lt_or_ge y 60 with h | h2
  · exact xg_2 y h1 h
  rcases Nat.lt_or_ge y 80 with h | h3
  · exact xg_3 y h2 h
  rcases Nat.lt_or_ge y 100 with h | h4
  · exact xg_4 y h3 h
  rcases Nat.lt_or_ge y 120 with h | h5
  · exact xg_5 y h4 h
  rcases Nat.lt_or_ge y 140 with h | h6
  · exact xg_6 y h5 h
  rcases Nat.lt_or_ge y 160 with h | h7
  · exact xg_7 y h6 h
  rcases Nat.lt_or_ge y 180 with h | h8
  · exact xg_8 y h7 h
  rcases Nat.lt_or_ge y 200 with h | h9
  · exact xg_9 y h8 h
  rcases Nat.lt_or_ge y 220 with h | h10
  · exact xg_10 y h9 h
  rcases Nat.lt_or_ge y 236 with h | h11
  · exact xg_11 y h10 h
  · rw [xcode_hi h11]; rfl
theorem xpar_lt : ∀ y, y < 236 → xparT y (xmH y) (xmX y) = true := by decide +kernel
theorem xpar_all : ∀ y, xparT y (xmH y) (xmX y) = true := by
  intro y
  rcases Nat.lt_or_ge y 236 with h | h
  · exact xpar_lt y h
  · have e1 : xmH y = [] := xgetD_hi (Nat.le_trans (by decide +kernel) h)
    have e2 : xmX y = [] := by
      unfold xmX xmi
      rw [xgetD_hi (Nat.le_trans (by decide +kernel) h)]
    rw [e1, e2]; rfl
theorem xth_0 : ∀ w ∈ vx_atS "LogServer" (xic 0) (xnm 0) xnms, w ∈ lw_tbl ∧ xtw w = true ∧ vx_ot w = true := by decide +kernel
theorem xth_1 : ∀ w ∈ vx_atS "LogServer" (xic 1) (xnm 1) xnms, w ∈ lw_tbl ∧ xtw w = true ∧ vx_ot w = true := by decide +kernel
theorem xth_2 : ∀ w ∈ vx_atS "LogServer" (xic 2) (xnm 2) xnms, w ∈ lw_tbl ∧ xtw w = true ∧ vx_ot w = true := by decide +kernel
theorem xall_ok : xAll := by
  refine ⟨fun y pc q h => ?_, xpar_all, fun k hk => ?_, ⟨by decide +kernel, by decide +kernel, by decide +kernel⟩, ⟨by decide +kernel, by decide +kernel⟩⟩
  · have := List.all_eq_true.mp (xall_lt y) _ (xf_mem _ _ _ h)
    exact xand this
  · have h3 : ∀ k, k < 3 → Cond.initialized (xnm k) ∈ lw_tbl ∧ Cond.castable (xnm k) (xnm k) ∈ lw_tbl := by decide +kernel
    refine ⟨fun w hw => ?_, h3 k hk⟩
    rcases (show k = 0 ∨ k = 1 ∨ k = 2 by omega) with rfl | rfl | rfl
    · obtain ⟨a1, a2, a3⟩ := xth_0 w hw; exact ⟨xmem' a1 a2, a3⟩
    · obtain ⟨a1, a2, a3⟩ := xth_1 w hw; exact ⟨xmem' a1 a2, a3⟩
    · obtain ⟨a1, a2, a3⟩ := xth_2 w hw; exact ⟨xmem' a1 a2, a3⟩

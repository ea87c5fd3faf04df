theorem all_ch {α : Type} (f : α → Bool) (l : List α) (n : Nat) (h1 : (l.take n).all f = true) (h2 : (l.drop n).all f = true) : l.all f = true := by
  rw [← List.take_append_drop n l, List.all_append, h1, h2]
  rfl
theorem chk_128 : chkM 128 = true := by
  refine all_ch _ _ 100 (by simpa only [List.drop_drop, List.drop_zero, Nat.reduceAdd] using chk_128_0) ?_
  refine all_ch _ _ 100 (by simpa only [List.drop_drop, List.drop_zero, Nat.reduceAdd] using chk_128_100) ?_
  simpa only [List.drop_drop, List.drop_zero, Nat.reduceAdd] using chk_128_e
theorem chk_135 : chkM 135 = true := by
  refine all_ch _ _ 100 (by simpa only [List.drop_drop, List.drop_zero, Nat.reduceAdd] using chk_135_0) ?_
  refine all_ch _ _ 100 (by simpa only [List.drop_drop, List.drop_zero, Nat.reduceAdd] using chk_135_100) ?_
  simpa only [List.drop_drop, List.drop_zero, Nat.reduceAdd] using chk_135_e
theorem chk_141 : chkM 141 = true := by
  refine all_ch _ _ 100 (by simpa only [List.drop_drop, List.drop_zero, Nat.reduceAdd] using chk_141_0) ?_
  refine all_ch _ _ 100 (by simpa only [List.drop_drop, List.drop_zero, Nat.reduceAdd] using chk_141_100) ?_
  refine all_ch _ _ 100 (by simpa only [List.drop_drop, List.drop_zero, Nat.reduceAdd] using chk_141_200) ?_
  simpa only [List.drop_drop, List.drop_zero, Nat.reduceAdd] using chk_141_e
theorem chk_145 : chkM 145 = true := by
  refine all_ch _ _ 100 (by simpa only [List.drop_drop, List.drop_zero, Nat.reduceAdd] using chk_145_0) ?_
  refine all_ch _ _ 100 (by simpa only [List.drop_drop, List.drop_zero, Nat.reduceAdd] using chk_145_100) ?_
  simpa only [List.drop_drop, List.drop_zero, Nat.reduceAdd] using chk_145_e
theorem chk_169 : chkM 169 = true := by
  refine all_ch _ _ 100 (by simpa only [List.drop_drop, List.drop_zero, Nat.reduceAdd] using chk_169_0) ?_
  refine all_ch _ _ 100 (by simpa only [List.drop_drop, List.drop_zero, Nat.reduceAdd] using chk_169_100) ?_
  simpa only [List.drop_drop, List.drop_zero, Nat.reduceAdd] using chk_169_e
theorem chk_223 : chkM 223 = true := by
  refine all_ch _ _ 100 (by simpa only [List.drop_drop, List.drop_zero, Nat.reduceAdd] using chk_223_0) ?_
  refine all_ch _ _ 100 (by simpa only [List.drop_drop, List.drop_zero, Nat.reduceAdd] using chk_223_100) ?_
  simpa only [List.drop_drop, List.drop_zero, Nat.reduceAdd] using chk_223_e
theorem chk_225 : chkM 225 = true := by
  refine all_ch _ _ 100 (by simpa only [List.drop_drop, List.drop_zero, Nat.reduceAdd] using chk_225_0) ?_
  refine all_ch _ _ 100 (by simpa only [List.drop_drop, List.drop_zero, Nat.reduceAdd] using chk_225_100) ?_
  simpa only [List.drop_drop, List.drop_zero, Nat.reduceAdd] using chk_225_e
theorem chk_252 : chkM 252 = true := by
  refine all_ch _ _ 100 (by simpa only [List.drop_drop, List.drop_zero, Nat.reduceAdd] using chk_252_0) ?_
  refine all_ch _ _ 100 (by simpa only [List.drop_drop, List.drop_zero, Nat.reduceAdd] using chk_252_100) ?_
  refine all_ch _ _ 100 (by simpa only [List.drop_drop, List.drop_zero, Nat.reduceAdd] using chk_252_200) ?_
  refine all_ch _ _ 100 (by simpa only [List.drop_drop, List.drop_zero, Nat.reduceAdd] using chk_252_300) ?_
  refine all_ch _ _ 100 (by simpa only [List.drop_drop, List.drop_zero, Nat.reduceAdd] using chk_252_400) ?_
  refine all_ch _ _ 100 (by simpa only [List.drop_drop, List.drop_zero, Nat.reduceAdd] using chk_252_500) ?_
  refine all_ch _ _ 100 (by simpa only [List.drop_drop, List.drop_zero, Nat.reduceAdd] using chk_252_600) ?_
  refine all_ch _ _ 100 (by simpa only [List.drop_drop, List.drop_zero, Nat.reduceAdd] using chk_252_700) ?_
  simpa only [List.drop_drop, List.drop_zero, Nat.reduceAdd] using chk_252_e
theorem chk_all : ∀ m, m < 253 → chkM m = true := by
  intro m hm
  match m, hm with
  | 0, _ => exact chk_0
  | 1, _ => exact chk_1
  | 2, _ => exact chk_2
  | 3, _ => exact chk_3
  | 4, _ => exact chk_4
  | 5, _ => exact chk_5
  | 6, _ => exact chk_6
  | 7, _ => exact chk_7
  | 8, _ => exact chk_8
  | 9, _ => exact chk_9
  | 10, _ => exact chk_10
  | 11, _ => exact chk_11
  | 12, _ => exact chk_12
  | 13, _ => exact chk_13
  | 14, _ => exact chk_14
  | 15, _ => exact chk_15
  | 16, _ => exact chk_16
  | 17, _ => exact chk_17
  | 18, _ => exact chk_18
  | 19, _ => exact chk_19
  | 20, _ => exact chk_20
  | 21, _ => exact chk_21
  | 22, _ => exact chk_22
  | 23, _ => exact chk_23
  | 24, _ => exact chk_24
  | 25, _ => exact chk_25
  | 26, _ => exact chk_26
  | 27, _ => exact chk_27
  | 28, _ => exact chk_28
  | 29, _ => exact chk_29
  | 30, _ => exact chk_30
  | 31, _ => exact chk_31
  | 32, _ => exact chk_32
  | 33, _ => exact chk_33
  | 34, _ => exact chk_34
  | 35, _ => exact chk_35
  | 36, _ => exact chk_36
  | 37, _ => exact chk_37
  | 38, _ => exact chk_38
  | 39, _ => exact chk_39
  | 40, _ => exact chk_40
  | 41, _ => exact chk_41
  | 42, _ => exact chk_42
  | 43, _ => exact chk_43
  | 44, _ => exact chk_44
  | 45, _ => exact chk_45
  | 46, _ => exact chk_46
  | 47, _ => exact chk_47
  | 48, _ => exact chk_48
  | 49, _ => exact chk_49
  | 50, _ => exact chk_50
  | 51, _ => exact chk_51
  | 52, _ => exact chk_52
  | 53, _ => exact chk_53
  | 54, _ => exact chk_54
  | 55, _ => exact chk_55
  | 56, _ => exact chk_56
  | 57, _ => exact chk_57
  | 58, _ => exact chk_58
  | 59, _ => exact chk_59
  | 60, _ => exact chk_60
  | 61, _ => exact chk_61
  | 62, _ => exact chk_62
  | 63, _ => exact chk_63
  | 64, _ => exact chk_64
  | 65, _ => exact chk_65
  | 66, _ => exact chk_66
  | 67, _ => exact chk_67
  | 68, _ => exact chk_68
  | 69, _ => exact chk_69
  | 70, _ => exact chk_70
  | 71, _ => exact chk_71
  | 72, _ => exact chk_72
  | 73, _ => exact chk_73
  | 74, _ => exact chk_74
  | 75, _ => exact chk_75
  | 76, _ => exact chk_76
  | 77, _ => exact chk_77
  | 78, _ => exact chk_78
  | 79, _ => exact chk_79
  | 80, _ => exact chk_80
  | 81, _ => exact chk_81
  | 82, _ => exact chk_82
  | 83, _ => exact chk_83
  | 84, _ => exact chk_84
  | 85, _ => exact chk_85
  | 86, _ => exact chk_86
  | 87, _ => exact chk_87
  | 88, _ => exact chk_88
  | 89, _ => exact chk_89
  | 90, _ => exact chk_90
  | 91, _ => exact chk_91
  | 92, _ => exact chk_92
  | 93, _ => exact chk_93
  | 94, _ => exact chk_94
  | 95, _ => exact chk_95
  | 96, _ => exact chk_96
  | 97, _ => exact chk_97
  | 98, _ => exact chk_98
  | 99, _ => exact chk_99
  | 100, _ => exact chk_100
  | 101, _ => exact chk_101
  | 102, _ => exact chk_102
  | 103, _ => exact chk_103
  | 104, _ => exact chk_104
  | 105, _ => exact chk_105
  | 106, _ => exact chk_106
  | 107, _ => exact chk_107
  | 108, _ => exact chk_108
  | 109, _ => exact chk_109
  | 110, _ => exact chk_110
  | 111, _ => exact chk_111
  | 112, _ => exact chk_112
  | 113, _ => exact chk_113
  | 114, _ => exact chk_114
  | 115, _ => exact chk_115
  | 116, _ => exact chk_116
  | 117, _ => exact chk_117
  | 118, _ => exact chk_118
  | 119, _ => exact chk_119
  | 120, _ => exact chk_120
  | 121, _ => exact chk_121
  | 122, _ => exact chk_122
  | 123, _ => exact chk_123
  | 124, _ => exact chk_124
  | 125, _ => exact chk_125
  | 126, _ => exact chk_126
  | 127, _ => exact chk_127
  | 128, _ => exact chk_128
  | 129, _ => exact chk_129
  | 130, _ => exact chk_130
  | 131, _ => exact chk_131
  | 132, _ => exact chk_132
  | 133, _ => exact chk_133
  | 134, _ => exact chk_134
  | 135, _ => exact chk_135
  | 136, _ => exact chk_136
  | 137, _ => exact chk_137
  | 138, _ => exact chk_138
  | 139, _ => exact chk_139
  | 140, _ => exact chk_140
  | 141, _ => exact chk_141
  | 142, _ => exact chk_142
  | 143, _ => exact chk_143
  | 144, _ => exact chk_144
  | 145, _ => exact chk_145
  | 146, _ => exact chk_146
  | 147, _ => exact chk_147
  | 148, _ => exact chk_148
  | 149, _ => exact chk_149
  | 150, _ => exact chk_150
  | 151, _ => exact chk_151
  | 152, _ => exact chk_152
  | 153, _ => exact chk_153
  | 154, _ => exact chk_154
  | 155, _ => exact chk_155
  | 156, _ => exact chk_156
  | 157, _ => exact chk_157
  | 158, _ => exact chk_158
  | 159, _ => exact chk_159
  | 160, _ => exact chk_160
  | 161, _ => exact chk_161
  | 162, _ => exact chk_162
  | 163, _ => exact chk_163
  | 164, _ => exact chk_164
  | 165, _ => exact chk_165
  | 166, _ => exact chk_166
  | 167, _ => exact chk_167
  | 168, _ => exact chk_168
  | 169, _ => exact chk_169
  | 170, _ => exact chk_170
  | 171, _ => exact chk_171
  | 172, _ => exact chk_172
  | 173, _ => exact chk_173
  | 174, _ => exact chk_174
  | 175, _ => exact chk_175
  | 176, _ => exact chk_176
  | 177, _ => exact chk_177
  | 178, _ => exact chk_178
  | 179, _ => exact chk_179
  | 180, _ => exact chk_180
  | 181, _ => exact chk_181
  | 182, _ => exact chk_182
  | 183, _ => exact chk_183
  | 184, _ => exact chk_184
  | 185, _ => exact chk_185
  | 186, _ => exact chk_186
  | 187, _ => exact chk_187
  | 188, _ => exact chk_188
  | 189, _ => exact chk_189
  | 190, _ => exact chk_190
  | 191, _ => exact chk_191
  | 192, _ => exact chk_192
  | 193, _ => exact chk_193
  | 194, _ => exact chk_194
  | 195, _ => exact chk_195
  | 196, _ => exact chk_196
  | 197, _ => exact chk_197
  | 198, _ => exact chk_198
  | 199, _ => exact chk_199
  | 200, _ => exact chk_200
  | 201, _ => exact chk_201
  | 202, _ => exact chk_202
  | 203, _ => exact chk_203
  | 204, _ => exact chk_204
  | 205, _ => exact chk_205
  | 206, _ => exact chk_206
  | 207, _ => exact chk_207
  | 208, _ => exact chk_208
  | 209, _ => exact chk_209
  | 210, _ => exact chk_210
  | 211, _ => exact chk_211
  | 212, _ => exact chk_212
  | 213, _ => exact chk_213
  | 214, _ => exact chk_214
  | 215, _ => exact chk_215
  | 216, _ => exact chk_216
  | 217, _ => exact chk_217
  | 218, _ => exact chk_218
  | 219, _ => exact chk_219
  | 220, _ => exact chk_220
  | 221, _ => exact chk_221
  | 222, _ => exact chk_222
  | 223, _ => exact chk_223
  | 224, _ => exact chk_224
  | 225, _ => exact chk_225
  | 226, _ => exact chk_226
  | 227, _ => exact chk_227
  | 228, _ => exact chk_228
  | 229, _ => exact chk_229
  | 230, _ => exact chk_230
  | 231, _ => exact chk_231
  | 232, _ => exact chk_232
  | 233, _ => exact chk_233
  | 234, _ => exact chk_234
  | 235, _ => exact chk_235
  | 236, _ => exact chk_236
  | 237, _ => exact chk_237
  | 238, _ => exact chk_238
  | 239, _ => exact chk_239
  | 240, _ => exact chk_240
  | 241, _ => exact chk_241
  | 242, _ => exact chk_242
  | 243, _ => exact chk_243
  | 244, _ => exact chk_244
  | 245, _ => exact chk_245
  | 246, _ => exact chk_246
  | 247, _ => exact chk_247
  | 248, _ => exact chk_248
  | 249, _ => exact chk_249
  | 250, _ => exact chk_250
  | 251, _ => exact chk_251
  | 252, _ => exact chk_252
  | n + 253, h => exact absurd h (by omega)
def NM : Nat := 253
theorem cod_chk {m pc : Nat} {x : Ent} (h : cod m pc = some x) : m < NM ∧ chk1 m (pc, x) = true := by
  have hm : m < NM := by
    apply Decidable.byContradiction
    intro hm
    have h253 : ctab.length = 253 := by decide +kernel
    have hl : ctab.length ≤ m := by unfold NM at hm; omega
    simp [cod, List.getD, List.getElem?_eq_none hl] at h
  refine ⟨hm, ?_⟩
  have h1 := chk_all m hm
  unfold chkM at h1
  have h2 : (pc, x) ∈ ctab.getD m [] := by
    unfold cod at h
    rw [List.lookup_eq_some_iff] at h
    obtain ⟨l1, l2, h3, -⟩ := h
    rw [h3]
    simp
  exact List.all_eq_true.mp h1 _ h2

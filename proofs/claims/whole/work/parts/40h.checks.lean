/-! All tables keep to it. -/
theorem zka_0 : ∀ (j : Nat) (mi : zMi), zMl_0[j]? = some mi → zchk (0 + j) mi = true := by
  intro j mi h
  match j, h with
  | 0, h => cases h; exact zk_0
  | 1, h => cases h; exact zk_1
  | 2, h => cases h; exact zk_2
  | 3, h => cases h; exact zk_3
  | 4, h => cases h; exact zk_4
  | 5, h => cases h; exact zk_5
  | 6, h => cases h; exact zk_6
  | 7, h => cases h; exact zk_7
  | 8, h => cases h; exact zk_8
  | 9, h => cases h; exact zk_9
  | 10, h => cases h; exact zk_10
  | 11, h => cases h; exact zk_11
  | 12, h => cases h; exact zk_12
  | 13, h => cases h; exact zk_13
  | 14, h => cases h; exact zk_14
  | 15, h => cases h; exact zk_15
  | 16, h => cases h; exact zk_16
  | 17, h => cases h; exact zk_17
  | 18, h => cases h; exact zk_18
  | 19, h => cases h; exact zk_19
  | 20, h => cases h; exact zk_20
  | 21, h => cases h; exact zk_21
  | 22, h => cases h; exact zk_22
  | 23, h => cases h; exact zk_23
  | 24, h => cases h; exact zk_24
  | 25, h => cases h; exact zk_25
  | 26, h => cases h; exact zk_26
  | 27, h => cases h; exact zk_27
  | 28, h => cases h; exact zk_28
  | 29, h => cases h; exact zk_29
  | 30, h => cases h; exact zk_30
  | 31, h => cases h; exact zk_31
  | 32, h => cases h; exact zk_32
  | 33, h => cases h; exact zk_33
  | 34, h => cases h; exact zk_34
  | 35, h => cases h; exact zk_35
  | 36, h => cases h; exact zk_36
  | 37, h => cases h; exact zk_37
  | 38, h => cases h; exact zk_38
  | 39, h => cases h; exact zk_39
  | 40, h => cases h; exact zk_40
  | 41, h => cases h; exact zk_41
  | 42, h => cases h; exact zk_42
  | 43, h => cases h; exact zk_43
  | 44, h => cases h; exact zk_44
  | 45, h => cases h; exact zk_45
  | 46, h => cases h; exact zk_46
  | 47, h => cases h; exact zk_47
  | 48, h => cases h; exact zk_48
  | 49, h => cases h; exact zk_49
  | j + 50, h => exact absurd (List.getElem?_eq_some_iff.mp h).1 (by show ¬ j + 50 < 50; omega)
theorem zka_1 : ∀ (j : Nat) (mi : zMi), zMl_1[j]? = some mi → zchk (50 + j) mi = true := by
  intro j mi h
  match j, h with
  | 0, h => cases h; exact zk_50
  | 1, h => cases h; exact zk_51
  | 2, h => cases h; exact zk_52
  | 3, h => cases h; exact zk_53
  | 4, h => cases h; exact zk_54
  | 5, h => cases h; exact zk_55
  | 6, h => cases h; exact zk_56
  | 7, h => cases h; exact zk_57
  | 8, h => cases h; exact zk_58
  | 9, h => cases h; exact zk_59
  | 10, h => cases h; exact zk_60
  | 11, h => cases h; exact zk_61
  | 12, h => cases h; exact zk_62
  | 13, h => cases h; exact zk_63
  | 14, h => cases h; exact zk_64
  | 15, h => cases h; exact zk_65
  | 16, h => cases h; exact zk_66
  | 17, h => cases h; exact zk_67
  | 18, h => cases h; exact zk_68
  | 19, h => cases h; exact zk_69
  | 20, h => cases h; exact zk_70
  | 21, h => cases h; exact zk_71
  | 22, h => cases h; exact zk_72
  | 23, h => cases h; exact zk_73
  | 24, h => cases h; exact zk_74
  | 25, h => cases h; exact zk_75
  | 26, h => cases h; exact zk_76
  | 27, h => cases h; exact zk_77
  | 28, h => cases h; exact zk_78
  | 29, h => cases h; exact zk_79
  | 30, h => cases h; exact zk_80
  | 31, h => cases h; exact zk_81
  | 32, h => cases h; exact zk_82
  | 33, h => cases h; exact zk_83
  | 34, h => cases h; exact zk_84
  | 35, h => cases h; exact zk_85
  | 36, h => cases h; exact zk_86
  | 37, h => cases h; exact zk_87
  | 38, h => cases h; exact zk_88
  | 39, h => cases h; exact zk_89
  | 40, h => cases h; exact zk_90
  | 41, h => cases h; exact zk_91
  | 42, h => cases h; exact zk_92
  | 43, h => cases h; exact zk_93
  | 44, h => cases h; exact zk_94
  | 45, h => cases h; exact zk_95
  | 46, h => cases h; exact zk_96
  | 47, h => cases h; exact zk_97
  | 48, h => cases h; exact zk_98
  | 49, h => cases h; exact zk_99
  | j + 50, h => exact absurd (List.getElem?_eq_some_iff.mp h).1 (by show ¬ j + 50 < 50; omega)
theorem zka_2 : ∀ (j : Nat) (mi : zMi), zMl_2[j]? = some mi → zchk (100 + j) mi = true := by
  intro j mi h
  match j, h with
  | 0, h => cases h; exact zk_100
  | 1, h => cases h; exact zk_101
  | 2, h => cases h; exact zk_102
  | 3, h => cases h; exact zk_103
  | 4, h => cases h; exact zk_104
  | 5, h => cases h; exact zk_105
  | 6, h => cases h; exact zk_106
  | 7, h => cases h; exact zk_107
  | 8, h => cases h; exact zk_108
  | 9, h => cases h; exact zk_109
  | 10, h => cases h; exact zk_110
  | 11, h => cases h; exact zk_111
  | 12, h => cases h; exact zk_112
  | 13, h => cases h; exact zk_113
  | 14, h => cases h; exact zk_114
  | 15, h => cases h; exact zk_115
  | 16, h => cases h; exact zk_116
  | 17, h => cases h; exact zk_117
  | 18, h => cases h; exact zk_118
  | 19, h => cases h; exact zk_119
  | 20, h => cases h; exact zk_120
  | 21, h => cases h; exact zk_121
  | 22, h => cases h; exact zk_122
  | 23, h => cases h; exact zk_123
  | 24, h => cases h; exact zk_124
  | 25, h => cases h; exact zk_125
  | 26, h => cases h; exact zk_126
  | 27, h => cases h; exact zk_127
  | 28, h => cases h; exact zk_128
  | 29, h => cases h; exact zk_129
  | 30, h => cases h; exact zk_130
  | 31, h => cases h; exact zk_131
  | 32, h => cases h; exact zk_132
  | 33, h => cases h; exact zk_133
  | 34, h => cases h; exact zk_134
  | 35, h => cases h; exact zk_135
  | 36, h => cases h; exact zk_136
  | 37, h => cases h; exact zk_137
  | 38, h => cases h; exact zk_138
  | 39, h => cases h; exact zk_139
  | 40, h => cases h; exact zk_140
  | 41, h => cases h; exact zk_141
  | 42, h => cases h; exact zk_142
  | 43, h => cases h; exact zk_143
  | 44, h => cases h; exact zk_144
  | 45, h => cases h; exact zk_145
  | 46, h => cases h; exact zk_146
  | 47, h => cases h; exact zk_147
  | 48, h => cases h; exact zk_148
  | 49, h => cases h; exact zk_149
  | j + 50, h => exact absurd (List.getElem?_eq_some_iff.mp h).1 (by show ¬ j + 50 < 50; omega)
theorem zka_3 : ∀ (j : Nat) (mi : zMi), zMl_3[j]? = some mi → zchk (150 + j) mi = true := by
  intro j mi h
  match j, h with
  | 0, h => cases h; exact zk_150
  | 1, h => cases h; exact zk_151
  | 2, h => cases h; exact zk_152
  | 3, h => cases h; exact zk_153
  | 4, h => cases h; exact zk_154
  | 5, h => cases h; exact zk_155
  | 6, h => cases h; exact zk_156
  | 7, h => cases h; exact zk_157
  | 8, h => cases h; exact zk_158
  | 9, h => cases h; exact zk_159
  | 10, h => cases h; exact zk_160
  | 11, h => cases h; exact zk_161
  | 12, h => cases h; exact zk_162
  | 13, h => cases h; exact zk_163
  | 14, h => cases h; exact zk_164
  | 15, h => cases h; exact zk_165
  | 16, h => cases h; exact zk_166
  | 17, h => cases h; exact zk_167
  | 18, h => cases h; exact zk_168
  | 19, h => cases h; exact zk_169
  | 20, h => cases h; exact zk_170
  | 21, h => cases h; exact zk_171
  | 22, h => cases h; exact zk_172
  | 23, h => cases h; exact zk_173
  | 24, h => cases h; exact zk_174
  | 25, h => cases h; exact zk_175
  | 26, h => cases h; exact zk_176
  | 27, h => cases h; exact zk_177
  | 28, h => cases h; exact zk_178
  | 29, h => cases h; exact zk_179
  | 30, h => cases h; exact zk_180
  | 31, h => cases h; exact zk_181
  | 32, h => cases h; exact zk_182
  | 33, h => cases h; exact zk_183
  | 34, h => cases h; exact zk_184
  | 35, h => cases h; exact zk_185
  | 36, h => cases h; exact zk_186
  | 37, h => cases h; exact zk_187
  | 38, h => cases h; exact zk_188
  | 39, h => cases h; exact zk_189
  | 40, h => cases h; exact zk_190
  | 41, h => cases h; exact zk_191
  | 42, h => cases h; exact zk_192
  | 43, h => cases h; exact zk_193
  | 44, h => cases h; exact zk_194
  | 45, h => cases h; exact zk_195
  | 46, h => cases h; exact zk_196
  | 47, h => cases h; exact zk_197
  | 48, h => cases h; exact zk_198
  | 49, h => cases h; exact zk_199
  | j + 50, h => exact absurd (List.getElem?_eq_some_iff.mp h).1 (by show ¬ j + 50 < 50; omega)
theorem zka_4 : ∀ (j : Nat) (mi : zMi), zMl_4[j]? = some mi → zchk (200 + j) mi = true := by
  intro j mi h
  match j, h with
  | 0, h => cases h; exact zk_200
  | 1, h => cases h; exact zk_201
  | 2, h => cases h; exact zk_202
  | 3, h => cases h; exact zk_203
  | 4, h => cases h; exact zk_204
  | 5, h => cases h; exact zk_205
  | 6, h => cases h; exact zk_206
  | 7, h => cases h; exact zk_207
  | 8, h => cases h; exact zk_208
  | 9, h => cases h; exact zk_209
  | 10, h => cases h; exact zk_210
  | 11, h => cases h; exact zk_211
  | 12, h => cases h; exact zk_212
  | 13, h => cases h; exact zk_213
  | 14, h => cases h; exact zk_214
  | 15, h => cases h; exact zk_215
  | 16, h => cases h; exact zk_216
  | 17, h => cases h; exact zk_217
  | 18, h => cases h; exact zk_218
  | 19, h => cases h; exact zk_219
  | 20, h => cases h; exact zk_220
  | 21, h => cases h; exact zk_221
  | 22, h => cases h; exact zk_222
  | 23, h => cases h; exact zk_223
  | 24, h => cases h; exact zk_224
  | 25, h => cases h; exact zk_225
  | 26, h => cases h; exact zk_226
  | 27, h => cases h; exact zk_227
  | 28, h => cases h; exact zk_228
  | 29, h => cases h; exact zk_229
  | 30, h => cases h; exact zk_230
  | 31, h => cases h; exact zk_231
  | 32, h => cases h; exact zk_232
  | 33, h => cases h; exact zk_233
  | 34, h => cases h; exact zk_234
  | 35, h => cases h; exact zk_235
  | 36, h => cases h; exact zk_236
  | 37, h => cases h; exact zk_237
  | 38, h => cases h; exact zk_238
  | 39, h => cases h; exact zk_239
  | 40, h => cases h; exact zk_240
  | 41, h => cases h; exact zk_241
  | 42, h => cases h; exact zk_242
  | 43, h => cases h; exact zk_243
  | 44, h => cases h; exact zk_244
  | 45, h => cases h; exact zk_245
  | 46, h => cases h; exact zk_246
  | 47, h => cases h; exact zk_247
  | 48, h => cases h; exact zk_248
  | 49, h => cases h; exact zk_249
  | j + 50, h => exact absurd (List.getElem?_eq_some_iff.mp h).1 (by show ¬ j + 50 < 50; omega)
theorem zka_5 : ∀ (j : Nat) (mi : zMi), zMl_5[j]? = some mi → zchk (250 + j) mi = true := by
  intro j mi h
  match j, h with
  | 0, h => cases h; exact zk_250
  | 1, h => cases h; exact zk_251
  | 2, h => cases h; exact zk_252
  | 3, h => cases h; exact zk_253
  | 4, h => cases h; exact zk_254
  | 5, h => cases h; exact zk_255
  | 6, h => cases h; exact zk_256
  | 7, h => cases h; exact zk_257
  | 8, h => cases h; exact zk_258
  | 9, h => cases h; exact zk_259
  | 10, h => cases h; exact zk_260
  | 11, h => cases h; exact zk_261
  | 12, h => cases h; exact zk_262
  | 13, h => cases h; exact zk_263
  | 14, h => cases h; exact zk_264
  | 15, h => cases h; exact zk_265
  | 16, h => cases h; exact zk_266
  | 17, h => cases h; exact zk_267
  | 18, h => cases h; exact zk_268
  | 19, h => cases h; exact zk_269
  | 20, h => cases h; exact zk_270
  | 21, h => cases h; exact zk_271
  | 22, h => cases h; exact zk_272
  | 23, h => cases h; exact zk_273
  | 24, h => cases h; exact zk_274
  | 25, h => cases h; exact zk_275
  | 26, h => cases h; exact zk_276
  | 27, h => cases h; exact zk_277
  | 28, h => cases h; exact zk_278
  | 29, h => cases h; exact zk_279
  | 30, h => cases h; exact zk_280
  | 31, h => cases h; exact zk_281
  | 32, h => cases h; exact zk_282
  | 33, h => cases h; exact zk_283
  | 34, h => cases h; exact zk_284
  | 35, h => cases h; exact zk_285
  | 36, h => cases h; exact zk_286
  | 37, h => cases h; exact zk_287
  | 38, h => cases h; exact zk_288
  | 39, h => cases h; exact zk_289
  | 40, h => cases h; exact zk_290
  | 41, h => cases h; exact zk_291
  | j + 42, h => exact absurd (List.getElem?_eq_some_iff.mp h).1 (by show ¬ j + 42 < 42; omega)
theorem zchk_all (k : Nat) (mi : zMi) (h : zM k = some mi) : zchk k mi = true := by
  have h : (zMl_0 ++ (zMl_1 ++ (zMl_2 ++ (zMl_3 ++ (zMl_4 ++ (zMl_5))))))[k]? = some mi := h
  by_cases h0 : k < 50
  · rw [List.getElem?_append_left (by show k < 50; omega)] at h
    have := zka_0 _ mi h
    rwa [Nat.zero_add] at this
  rw [List.getElem?_append_right (by show 50 ≤ k; omega)] at h
  rw [show k - zMl_0.length = k - 50 from by show k - 50 = _; omega] at h
  by_cases h1 : k < 100
  · rw [List.getElem?_append_left (by show k - 50 < 50; omega)] at h
    have := zka_1 _ mi h
    rwa [show 50 + (k - 50) = k by omega] at this
  rw [List.getElem?_append_right (by show 50 ≤ k - 50; omega)] at h
  rw [show k - 50 - zMl_1.length = k - 100 from by show k - 50 - 50 = _; omega] at h
  by_cases h2 : k < 150
  · rw [List.getElem?_append_left (by show k - 100 < 50; omega)] at h
    have := zka_2 _ mi h
    rwa [show 100 + (k - 100) = k by omega] at this
  rw [List.getElem?_append_right (by show 50 ≤ k - 100; omega)] at h
  rw [show k - 100 - zMl_2.length = k - 150 from by show k - 100 - 50 = _; omega] at h
  by_cases h3 : k < 200
  · rw [List.getElem?_append_left (by show k - 150 < 50; omega)] at h
    have := zka_3 _ mi h
    rwa [show 150 + (k - 150) = k by omega] at this
  rw [List.getElem?_append_right (by show 50 ≤ k - 150; omega)] at h
  rw [show k - 150 - zMl_3.length = k - 200 from by show k - 150 - 50 = _; omega] at h
  by_cases h4 : k < 250
  · rw [List.getElem?_append_left (by show k - 200 < 50; omega)] at h
    have := zka_4 _ mi h
    rwa [show 200 + (k - 200) = k by omega] at this
  rw [List.getElem?_append_right (by show 50 ≤ k - 200; omega)] at h
  rw [show k - 200 - zMl_4.length = k - 250 from by show k - 200 - 50 = _; omega] at h
  have := zka_5 _ mi h
  rwa [show 250 + (k - 250) = k by omega] at this

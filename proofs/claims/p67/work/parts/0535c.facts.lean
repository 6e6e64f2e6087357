noncomputable section
theorem dMO_c0 : ∀ k, k < 32 → 32 * 0 + k < dNM → 32 * 0 + k ≠ dLaw → dMO (32 * 0 + k) := by
  intro k h
  match k, h with
  | 0, _ => exact fun _ _ => mo0
  | 1, _ => exact fun _ _ => mo1
  | 2, _ => exact fun _ _ => mo2
  | 3, _ => exact fun _ _ => mo3
  | 4, _ => exact fun _ _ => mo4
  | 5, _ => exact fun _ _ => mo5
  | 6, _ => exact fun _ _ => mo6
  | 7, _ => exact fun _ _ => mo7
  | 8, _ => exact fun _ _ => mo8
  | 9, _ => exact fun _ _ => mo9
  | 10, _ => exact fun _ _ => mo10
  | 11, _ => exact fun _ _ => mo11
  | 12, _ => exact fun _ _ => mo12
  | 13, _ => exact fun _ _ => mo13
  | 14, _ => exact fun _ _ => mo14
  | 15, _ => exact fun _ _ => mo15
  | 16, _ => exact fun _ _ => mo16
  | 17, _ => exact fun _ _ => mo17
  | 18, _ => exact fun _ _ => mo18
  | 19, _ => exact fun _ _ => mo19
  | 20, _ => exact fun _ _ => mo20
  | 21, _ => exact fun _ _ => mo21
  | 22, _ => exact fun _ _ => mo22
  | 23, _ => exact fun _ _ => mo23
  | 24, _ => exact fun _ _ => mo24
  | 25, _ => exact fun _ _ => mo25
  | 26, _ => exact fun _ _ => mo26
  | 27, _ => exact fun _ _ => mo27
  | 28, _ => exact fun _ _ => mo28
  | 29, _ => exact fun _ _ => mo29
  | 30, _ => exact fun _ _ => mo30
  | 31, _ => exact fun _ _ => mo31
  | k + 32, h => exact absurd h (by omega)
theorem dMO_c1 : ∀ k, k < 32 → 32 * 1 + k < dNM → 32 * 1 + k ≠ dLaw → dMO (32 * 1 + k) := by
  intro k h
  match k, h with
  | 0, _ => exact fun _ _ => mo32
  | 1, _ => exact fun _ _ => mo33
  | 2, _ => exact fun _ _ => mo34
  | 3, _ => exact fun _ _ => mo35
  | 4, _ => exact fun _ _ => mo36
  | 5, _ => exact fun _ _ => mo37
  | 6, _ => exact fun _ _ => mo38
  | 7, _ => exact fun _ _ => mo39
  | 8, _ => exact fun _ _ => mo40
  | 9, _ => exact fun _ _ => mo41
  | 10, _ => exact fun _ _ => mo42
  | 11, _ => exact fun _ _ => mo43
  | 12, _ => exact fun _ _ => mo44
  | 13, _ => exact fun _ _ => mo45
  | 14, _ => exact fun _ _ => mo46
  | 15, _ => exact fun _ _ => mo47
  | 16, _ => exact fun _ _ => mo48
  | 17, _ => exact fun _ _ => mo49
  | 18, _ => exact fun _ _ => mo50
  | 19, _ => exact fun _ _ => mo51
  | 20, _ => exact fun _ _ => mo52
  | 21, _ => exact fun _ _ => mo53
  | 22, _ => exact fun _ _ => mo54
  | 23, _ => exact fun _ _ => mo55
  | 24, _ => exact fun _ _ => mo56
  | 25, _ => exact fun _ _ => mo57
  | 26, _ => exact fun _ _ => mo58
  | 27, _ => exact fun _ _ => mo59
  | 28, _ => exact fun _ _ => mo60
  | 29, _ => exact fun _ _ => mo61
  | 30, _ => exact fun _ _ => mo62
  | 31, _ => exact fun _ _ => mo63
  | k + 32, h => exact absurd h (by omega)
theorem dMO_c2 : ∀ k, k < 32 → 32 * 2 + k < dNM → 32 * 2 + k ≠ dLaw → dMO (32 * 2 + k) := by
  intro k h
  match k, h with
  | 0, _ => exact fun _ _ => mo64
  | 1, _ => exact fun _ _ => mo65
  | 2, _ => exact fun _ _ => mo66
  | 3, _ => exact fun _ _ => mo67
  | 4, _ => exact fun _ _ => mo68
  | 5, _ => exact fun _ _ => mo69
  | 6, _ => exact fun _ _ => mo70
  | 7, _ => exact fun _ _ => mo71
  | 8, _ => exact fun _ _ => mo72
  | 9, _ => exact fun _ _ => mo73
  | 10, _ => exact fun _ _ => mo74
  | 11, _ => exact fun _ _ => mo75
  | 12, _ => exact fun _ _ => mo76
  | 13, _ => exact fun _ _ => mo77
  | 14, _ => exact fun _ _ => mo78
  | 15, _ => exact fun _ _ => mo79
  | 16, _ => exact fun _ _ => mo80
  | 17, _ => exact fun _ _ => mo81
  | 18, _ => exact fun _ _ => mo82
  | 19, _ => exact fun _ _ => mo83
  | 20, _ => exact fun _ _ => mo84
  | 21, _ => exact fun _ _ => mo85
  | 22, _ => exact fun _ _ => mo86
  | 23, _ => exact fun _ _ => mo87
  | 24, _ => exact fun _ _ => mo88
  | 25, _ => exact fun _ _ => mo89
  | 26, _ => exact fun _ _ => mo90
  | 27, _ => exact fun _ _ => mo91
  | 28, _ => exact fun _ _ => mo92
  | 29, _ => exact fun _ _ => mo93
  | 30, _ => exact fun _ _ => mo94
  | 31, _ => exact fun _ _ => mo95
  | k + 32, h => exact absurd h (by omega)
theorem dMO_c3 : ∀ k, k < 32 → 32 * 3 + k < dNM → 32 * 3 + k ≠ dLaw → dMO (32 * 3 + k) := by
  intro k h
  match k, h with
  | 0, _ => exact fun _ _ => mo96
  | 1, _ => exact fun _ _ => mo97
  | 2, _ => exact fun _ _ => mo98
  | 3, _ => exact fun _ _ => mo99
  | 4, _ => exact fun _ _ => mo100
  | 5, _ => exact fun _ _ => mo101
  | 6, _ => exact fun _ _ => mo102
  | 7, _ => exact fun _ _ => mo103
  | 8, _ => exact fun _ _ => mo104
  | 9, _ => exact fun _ _ => mo105
  | 10, _ => exact fun _ _ => mo106
  | 11, _ => exact fun _ _ => mo107
  | 12, _ => exact fun _ _ => mo108
  | 13, _ => exact fun _ _ => mo109
  | 14, _ => exact fun _ _ => mo110
  | 15, _ => exact fun _ _ => mo111
  | 16, _ => exact fun _ _ => mo112
  | 17, _ => exact fun _ _ => mo113
  | 18, _ => exact fun _ _ => mo114
  | 19, _ => exact fun _ _ => mo115
  | 20, _ => exact fun _ _ => mo116
  | 21, _ => exact fun _ _ => mo117
  | 22, _ => exact fun _ _ => mo118
  | 23, _ => exact fun _ _ => mo119
  | 24, _ => exact fun _ _ => mo120
  | 25, _ => exact fun _ _ => mo121
  | 26, _ => exact fun _ _ => mo122
  | 27, _ => exact fun _ _ => mo123
  | 28, _ => exact fun _ _ => mo124
  | 29, _ => exact fun _ _ => mo125
  | 30, _ => exact fun _ _ => mo126
  | 31, _ => exact fun _ _ => mo127
  | k + 32, h => exact absurd h (by omega)
theorem dMO_c4 : ∀ k, k < 32 → 32 * 4 + k < dNM → 32 * 4 + k ≠ dLaw → dMO (32 * 4 + k) := by
  intro k h
  match k, h with
  | 0, _ => exact fun _ _ => mo128
  | 1, _ => exact fun _ _ => mo129
  | 2, _ => exact fun _ _ => mo130
  | 3, _ => exact fun _ _ => mo131
  | 4, _ => exact fun _ _ => mo132
  | 5, _ => exact fun _ _ => mo133
  | 6, _ => exact fun _ _ => mo134
  | 7, _ => exact fun _ _ => mo135
  | 8, _ => exact fun _ _ => mo136
  | 9, _ => exact fun _ _ => mo137
  | 10, _ => exact fun _ _ => mo138
  | 11, _ => exact fun _ _ => mo139
  | 12, _ => exact fun _ _ => mo140
  | 13, _ => exact fun _ _ => mo141
  | 14, _ => exact fun _ _ => mo142
  | 15, _ => exact fun _ _ => mo143
  | 16, _ => exact fun _ _ => mo144
  | 17, _ => exact fun _ _ => mo145
  | 18, _ => exact fun _ _ => mo146
  | 19, _ => exact fun _ _ => mo147
  | 20, _ => exact fun _ _ => mo148
  | 21, _ => exact fun _ _ => mo149
  | 22, _ => exact fun _ _ => mo150
  | 23, _ => exact fun _ _ => mo151
  | 24, _ => exact fun _ _ => mo152
  | 25, _ => exact fun _ _ => mo153
  | 26, _ => exact fun _ _ => mo154
  | 27, _ => exact fun _ _ => mo155
  | 28, _ => exact fun _ _ => mo156
  | 29, _ => exact fun _ _ => mo157
  | 30, _ => exact fun _ _ => mo158
  | 31, _ => exact fun _ _ => mo159
  | k + 32, h => exact absurd h (by omega)
theorem dMO_c5 : ∀ k, k < 32 → 32 * 5 + k < dNM → 32 * 5 + k ≠ dLaw → dMO (32 * 5 + k) := by
  intro k h
  match k, h with
  | 0, _ => exact fun _ _ => mo160
  | 1, _ => exact fun _ _ => mo161
  | 2, _ => exact fun _ _ => mo162
  | 3, _ => exact fun _ _ => mo163
  | 4, _ => exact fun _ _ => mo164
  | 5, _ => exact fun _ _ => mo165
  | 6, _ => exact fun _ _ => mo166
  | 7, _ => exact fun _ _ => mo167
  | 8, _ => exact fun _ _ => mo168
  | 9, _ => exact fun _ _ => mo169
  | 10, _ => exact fun _ _ => mo170
  | 11, _ => exact fun _ _ => mo171
  | 12, _ => exact fun _ _ => mo172
  | 13, _ => exact fun _ _ => mo173
  | 14, _ => exact fun _ _ => mo174
  | 15, _ => exact fun _ _ => mo175
  | 16, _ => exact fun _ _ => mo176
  | 17, _ => exact fun _ _ => mo177
  | 18, _ => exact fun _ _ => mo178
  | 19, _ => exact fun _ _ => mo179
  | 20, _ => exact fun _ _ => mo180
  | 21, _ => exact fun _ _ => mo181
  | 22, _ => exact fun _ _ => mo182
  | 23, _ => exact fun _ _ => mo183
  | 24, _ => exact fun _ _ => mo184
  | 25, _ => exact fun _ _ => mo185
  | 26, _ => exact fun _ _ => mo186
  | 27, _ => exact fun _ _ => mo187
  | 28, _ => exact fun _ _ => mo188
  | 29, _ => exact fun _ _ => mo189
  | 30, _ => exact fun _ _ => mo190
  | 31, _ => exact fun _ _ => mo191
  | k + 32, h => exact absurd h (by omega)
theorem dMO_c6 : ∀ k, k < 32 → 32 * 6 + k < dNM → 32 * 6 + k ≠ dLaw → dMO (32 * 6 + k) := by
  intro k h
  match k, h with
  | 0, _ => exact fun _ _ => mo192
  | 1, _ => exact fun _ _ => mo193
  | 2, _ => exact fun _ _ => mo194
  | 3, _ => exact fun _ _ => mo195
  | 4, _ => exact fun _ _ => mo196
  | 5, _ => exact fun _ _ => mo197
  | 6, _ => exact fun _ _ => mo198
  | 7, _ => exact fun _ _ => mo199
  | 8, _ => exact fun _ _ => mo200
  | 9, _ => exact fun _ _ => mo201
  | 10, _ => exact fun _ _ => mo202
  | 11, _ => exact fun _ _ => mo203
  | 12, _ => exact fun _ _ => mo204
  | 13, _ => exact fun _ _ => mo205
  | 14, _ => exact fun _ _ => mo206
  | 15, _ => exact fun _ _ => mo207
  | 16, _ => exact fun _ _ => mo208
  | 17, _ => exact fun _ _ => mo209
  | 18, _ => exact fun _ _ => mo210
  | 19, _ => exact fun _ _ => mo211
  | 20, _ => exact fun _ _ => mo212
  | 21, _ => exact fun _ _ => mo213
  | 22, _ => exact fun _ _ => mo214
  | 23, _ => exact fun _ _ => mo215
  | 24, _ => exact fun _ _ => mo216
  | 25, _ => exact fun _ _ => mo217
  | 26, _ => exact fun _ _ => mo218
  | 27, _ => exact fun _ _ => mo219
  | 28, _ => exact fun _ _ => mo220
  | 29, _ => exact fun _ _ => mo221
  | 30, _ => exact fun _ _ => mo222
  | 31, _ => exact fun _ _ => mo223
  | k + 32, h => exact absurd h (by omega)
theorem dMO_c7 : ∀ k, k < 32 → 32 * 7 + k < dNM → 32 * 7 + k ≠ dLaw → dMO (32 * 7 + k) := by
  intro k h
  match k, h with
  | 0, _ => exact fun _ _ => mo224
  | 1, _ => exact fun _ _ => mo225
  | 2, _ => exact fun _ _ => mo226
  | 3, _ => exact fun _ _ => mo227
  | 4, _ => exact fun _ _ => mo228
  | 5, _ => exact fun _ _ => mo229
  | 6, _ => exact fun _ _ => mo230
  | 7, _ => exact fun _ _ => mo231
  | 8, _ => exact fun _ _ => mo232
  | 9, _ => exact fun _ _ => mo233
  | 10, _ => exact fun _ _ => mo234
  | 11, _ => exact fun _ _ => mo235
  | 12, _ => exact fun _ _ => mo236
  | 13, _ => exact fun _ _ => mo237
  | 14, _ => exact fun _ _ => mo238
  | 15, _ => exact fun _ _ => mo239
  | 16, _ => exact fun _ _ => mo240
  | 17, _ => exact fun _ _ => mo241
  | 18, _ => exact fun _ _ => mo242
  | 19, _ => exact fun _ _ => mo243
  | 20, _ => exact fun _ _ => mo244
  | 21, _ => exact fun _ _ => mo245
  | 22, _ => exact fun _ _ => mo246
  | 23, _ => exact fun _ _ => mo247
  | 24, _ => exact fun _ _ => mo248
  | 25, _ => exact fun _ _ => mo249
  | 26, _ => exact fun _ _ => mo250
  | 27, _ => exact fun _ _ => mo251
  | 28, _ => exact fun _ _ => mo252
  | 29, _ => exact fun _ _ => mo253
  | 30, _ => exact fun _ _ => mo254
  | 31, _ => exact fun _ _ => mo255
  | k + 32, h => exact absurd h (by omega)
theorem dMO_c8 : ∀ k, k < 32 → 32 * 8 + k < dNM → 32 * 8 + k ≠ dLaw → dMO (32 * 8 + k) := by
  intro k h
  match k, h with
  | 0, _ => exact fun _ _ => mo256
  | 1, _ => exact fun _ _ => mo257
  | 2, _ => exact fun _ _ => mo258
  | 3, _ => exact fun _ _ => mo259
  | 4, _ => exact fun _ _ => mo260
  | 5, _ => exact fun _ _ => mo261
  | 6, _ => exact fun _ _ => mo262
  | 7, _ => exact fun _ _ => mo263
  | 8, _ => exact fun _ _ => mo264
  | 9, _ => exact fun _ _ => mo265
  | 10, _ => exact fun _ _ => mo266
  | 11, _ => exact fun _ _ => mo267
  | 12, _ => exact fun _ _ => mo268
  | 13, _ => exact fun _ _ => mo269
  | 14, _ => exact fun _ _ => mo270
  | 15, _ => exact fun _ _ => mo271
  | 16, _ => exact fun _ _ => mo272
  | 17, _ => exact fun _ _ => mo273
  | 18, _ => exact fun _ _ => mo274
  | 19, _ => exact fun _ _ => mo275
  | 20, _ => exact fun _ _ => mo276
  | 21, _ => exact fun _ _ => mo277
  | 22, _ => exact fun _ _ => mo278
  | 23, _ => exact fun _ _ => mo279
  | 24, _ => exact fun _ _ => mo280
  | 25, _ => exact fun _ _ => mo281
  | 26, _ => exact fun _ _ => mo282
  | 27, _ => exact fun _ _ => mo283
  | 28, _ => exact fun _ _ => mo284
  | 29, _ => exact fun _ _ => mo285
  | 30, _ => exact fun _ _ => mo286
  | 31, _ => exact fun _ _ => mo287
  | k + 32, h => exact absurd h (by omega)
theorem dMO_c9 : ∀ k, k < 32 → 32 * 9 + k < dNM → 32 * 9 + k ≠ dLaw → dMO (32 * 9 + k) := by
  intro k h
  match k, h with
  | 0, _ => exact fun _ _ => mo288
  | 1, _ => exact fun _ _ => mo289
  | 2, _ => exact fun _ _ => mo290
  | 3, _ => exact fun _ _ => mo291
  | 4, _ => exact fun _ _ => mo292
  | 5, _ => exact fun _ _ => mo293
  | 6, _ => exact fun _ _ => mo294
  | 7, _ => exact fun _ _ => mo295
  | 8, _ => exact fun _ _ => mo296
  | 9, _ => exact fun _ _ => mo297
  | 10, _ => exact fun _ _ => mo298
  | 11, _ => exact fun _ _ => mo299
  | 12, _ => exact fun _ _ => mo300
  | 13, _ => exact fun _ _ => mo301
  | 14, _ => exact fun _ _ => mo302
  | 15, _ => exact fun _ _ => mo303
  | 16, _ => exact fun _ _ => mo304
  | 17, _ => exact fun _ _ => mo305
  | 18, _ => exact fun _ _ => mo306
  | 19, _ => exact fun _ _ => mo307
  | 20, _ => exact fun _ _ => mo308
  | 21, _ => exact fun _ _ => mo309
  | 22, _ => exact fun _ _ => mo310
  | 23, _ => exact fun _ _ => mo311
  | 24, _ => exact fun _ _ => mo312
  | 25, _ => exact fun _ _ => mo313
  | 26, _ => exact fun _ _ => mo314
  | 27, _ => exact fun _ _ => mo315
  | 28, _ => exact fun _ _ => mo316
  | 29, _ => exact fun _ _ => mo317
  | 30, _ => exact fun _ _ => mo318
  | 31, _ => exact fun _ _ => mo319
  | k + 32, h => exact absurd h (by omega)
theorem dMO_c10 : ∀ k, k < 32 → 32 * 10 + k < dNM → 32 * 10 + k ≠ dLaw → dMO (32 * 10 + k) := by
  intro k h
  match k, h with
  | 0, _ => exact fun _ _ => mo320
  | 1, _ => exact fun _ _ => mo321
  | 2, _ => exact fun _ _ => mo322
  | 3, _ => exact fun _ _ => mo323
  | 4, _ => exact fun _ _ => mo324
  | 5, _ => exact fun _ _ => mo325
  | 6, _ => exact fun _ _ => mo326
  | 7, _ => exact fun _ _ => mo327
  | 8, _ => exact fun _ _ => mo328
  | 9, _ => exact fun _ _ => mo329
  | 10, _ => exact fun _ _ => mo330
  | 11, _ => exact fun _ _ => mo331
  | 12, _ => exact fun _ _ => mo332
  | 13, _ => exact fun _ _ => mo333
  | 14, _ => exact fun _ _ => mo334
  | 15, _ => exact fun _ _ => mo335
  | 16, _ => exact fun _ _ => mo336
  | 17, _ => exact fun _ _ => mo337
  | 18, _ => exact fun _ _ => mo338
  | 19, _ => exact fun _ _ => mo339
  | 20, _ => exact fun _ _ => mo340
  | 21, _ => exact fun _ _ => mo341
  | 22, _ => exact fun _ _ => mo342
  | 23, _ => exact fun _ _ => mo343
  | 24, _ => exact fun _ _ => mo344
  | 25, _ => exact fun _ _ => mo345
  | 26, _ => exact fun _ _ => mo346
  | 27, _ => exact fun _ _ => mo347
  | 28, _ => exact fun _ _ => mo348
  | 29, _ => exact fun _ _ => mo349
  | 30, _ => exact fun _ _ => mo350
  | 31, _ => exact fun _ _ => mo351
  | k + 32, h => exact absurd h (by omega)
theorem dMO_c11 : ∀ k, k < 32 → 32 * 11 + k < dNM → 32 * 11 + k ≠ dLaw → dMO (32 * 11 + k) := by
  intro k h
  match k, h with
  | 0, _ => exact fun _ _ => mo352
  | 1, _ => exact fun _ _ => mo353
  | 2, _ => exact fun _ _ => mo354
  | 3, _ => exact fun _ _ => mo355
  | 4, _ => exact fun _ _ => mo356
  | 5, _ => exact fun _ _ => mo357
  | 6, _ => exact fun _ _ => mo358
  | 7, _ => exact fun _ _ => mo359
  | 8, _ => exact fun _ _ => mo360
  | 9, _ => exact fun _ _ => mo361
  | 10, _ => exact fun _ _ => mo362
  | 11, _ => exact fun _ _ => mo363
  | 12, _ => exact fun _ _ => mo364
  | 13, _ => exact fun _ h2 => absurd rfl h2
  | 14, _ => exact fun _ _ => mo366
  | 15, _ => exact fun _ _ => mo367
  | 16, _ => exact fun _ _ => mo368
  | 17, _ => exact fun _ _ => mo369
  | 18, _ => exact fun _ _ => mo370
  | 19, _ => exact fun _ _ => mo371
  | 20, _ => exact fun _ _ => mo372
  | 21, _ => exact fun _ _ => mo373
  | 22, _ => exact fun _ _ => mo374
  | 23, _ => exact fun _ _ => mo375
  | 24, _ => exact fun _ _ => mo376
  | 25, _ => exact fun _ _ => mo377
  | 26, _ => exact fun _ _ => mo378
  | 27, _ => exact fun _ _ => mo379
  | 28, _ => exact fun _ _ => mo380
  | 29, _ => exact fun _ _ => mo381
  | 30, _ => exact fun _ _ => mo382
  | 31, _ => exact fun _ _ => mo383
  | k + 32, h => exact absurd h (by omega)
theorem dMO_c12 : ∀ k, k < 32 → 32 * 12 + k < dNM → 32 * 12 + k ≠ dLaw → dMO (32 * 12 + k) := by
  intro k h
  match k, h with
  | 0, _ => exact fun _ _ => mo384
  | 1, _ => exact fun _ _ => mo385
  | 2, _ => exact fun _ _ => mo386
  | 3, _ => exact fun _ _ => mo387
  | 4, _ => exact fun _ _ => mo388
  | 5, _ => exact fun _ _ => mo389
  | 6, _ => exact fun _ _ => mo390
  | 7, _ => exact fun _ _ => mo391
  | 8, _ => exact fun _ _ => mo392
  | 9, _ => exact fun _ _ => mo393
  | 10, _ => exact fun _ _ => mo394
  | 11, _ => exact fun _ _ => mo395
  | 12, _ => exact fun _ _ => mo396
  | 13, _ => exact fun _ _ => mo397
  | 14, _ => exact fun _ _ => mo398
  | 15, _ => exact fun _ _ => mo399
  | 16, _ => exact fun _ _ => mo400
  | 17, _ => exact fun _ _ => mo401
  | 18, _ => exact fun _ _ => mo402
  | 19, _ => exact fun _ _ => mo403
  | 20, _ => exact fun _ _ => mo404
  | 21, _ => exact fun _ _ => mo405
  | 22, _ => exact fun h1 _ => absurd h1 (by decide)
  | 23, _ => exact fun h1 _ => absurd h1 (by decide)
  | 24, _ => exact fun h1 _ => absurd h1 (by decide)
  | 25, _ => exact fun h1 _ => absurd h1 (by decide)
  | 26, _ => exact fun h1 _ => absurd h1 (by decide)
  | 27, _ => exact fun h1 _ => absurd h1 (by decide)
  | 28, _ => exact fun h1 _ => absurd h1 (by decide)
  | 29, _ => exact fun h1 _ => absurd h1 (by decide)
  | 30, _ => exact fun h1 _ => absurd h1 (by decide)
  | 31, _ => exact fun h1 _ => absurd h1 (by decide)
  | k + 32, h => exact absurd h (by omega)
theorem dMO_all (j : Nat) (h : j < dNM) (h2 : j ≠ dLaw) : dMO j := by
  have e : 32 * (j / 32) + j % 32 = j := Nat.div_add_mod j 32
  have hr : j % 32 < 32 := Nat.mod_lt _ (by decide)
  have hq : j / 32 < 13 := Nat.div_lt_of_lt_mul (Nat.lt_of_lt_of_le h (by decide))
  generalize j / 32 = q at e hq
  generalize j % 32 = k at e hr
  subst e
  match q, hq with
  | 0, _ => exact dMO_c0 k hr h h2
  | 1, _ => exact dMO_c1 k hr h h2
  | 2, _ => exact dMO_c2 k hr h h2
  | 3, _ => exact dMO_c3 k hr h h2
  | 4, _ => exact dMO_c4 k hr h h2
  | 5, _ => exact dMO_c5 k hr h h2
  | 6, _ => exact dMO_c6 k hr h h2
  | 7, _ => exact dMO_c7 k hr h h2
  | 8, _ => exact dMO_c8 k hr h h2
  | 9, _ => exact dMO_c9 k hr h h2
  | 10, _ => exact dMO_c10 k hr h h2
  | 11, _ => exact dMO_c11 k hr h h2
  | 12, _ => exact dMO_c12 k hr h h2
end

theorem cg0 (i : Nat) : aOKgm (16 * 0 + i) 0 (aCs0.getD i []) = true := by
  match i with
  | 0 => exact ck0
  | 1 => exact ck1
  | 2 => exact ck2
  | 3 => exact ck3
  | 4 => exact ck4
  | 5 => exact ck5
  | 6 => exact ck6
  | 7 => exact ck7
  | 8 => exact ck8
  | 9 => exact ck9
  | 10 => exact ck10
  | 11 => exact ck11
  | 12 => exact ck12
  | 13 => exact ck13
  | 14 => exact ck14
  | 15 => exact ck15
  | i + 16 => rfl
theorem cg1 (i : Nat) : aOKgm (16 * 1 + i) 0 (aCs1.getD i []) = true := by
  match i with
  | 0 => exact ck16
  | 1 => exact ck17
  | 2 => exact ck18
  | 3 => exact ck19
  | 4 => exact ck20
  | 5 => exact ck21
  | 6 => exact ck22
  | 7 => exact ck23
  | 8 => exact ck24
  | 9 => exact ck25
  | 10 => exact ck26
  | 11 => exact ck27
  | 12 => exact ck28
  | 13 => exact ck29
  | 14 => exact ck30
  | 15 => exact ck31
  | i + 16 => rfl
theorem cg2 (i : Nat) : aOKgm (16 * 2 + i) 0 (aCs2.getD i []) = true := by
  match i with
  | 0 => exact ck32
  | 1 => exact ck33
  | 2 => exact ck34
  | 3 => exact ck35
  | 4 => exact ck36
  | 5 => exact ck37
  | 6 => exact ck38
  | 7 => exact ck39
  | 8 => exact ck40
  | 9 => exact ck41
  | 10 => exact ck42
  | 11 => exact ck43
  | 12 => exact ck44
  | 13 => exact ck45
  | 14 => exact ck46
  | 15 => exact ck47
  | i + 16 => rfl
theorem cg3 (i : Nat) : aOKgm (16 * 3 + i) 0 (aCs3.getD i []) = true := by
  match i with
  | 0 => exact ck48
  | 1 => exact ck49
  | 2 => exact ck50
  | 3 => exact ck51
  | 4 => exact ck52
  | 5 => exact ck53
  | 6 => exact ck54
  | 7 => exact ck55
  | 8 => exact ck56
  | 9 => exact ck57
  | 10 => exact ck58
  | 11 => exact ck59
  | 12 => exact ck60
  | 13 => exact ck61
  | 14 => exact ck62
  | 15 => exact ck63
  | i + 16 => rfl
theorem cg4 (i : Nat) : aOKgm (16 * 4 + i) 0 (aCs4.getD i []) = true := by
  match i with
  | 0 => exact ck64
  | 1 => exact ck65
  | 2 => exact ck66
  | 3 => exact ck67
  | 4 => exact ck68
  | 5 => exact ck69
  | 6 => exact ck70
  | 7 => exact ck71
  | 8 => exact ck72
  | 9 => exact ck73
  | 10 => exact ck74
  | 11 => exact ck75
  | 12 => exact ck76
  | 13 => exact ck77
  | 14 => exact ck78
  | 15 => exact ck79
  | i + 16 => rfl
theorem cg5 (i : Nat) : aOKgm (16 * 5 + i) 0 (aCs5.getD i []) = true := by
  match i with
  | 0 => exact ck80
  | 1 => exact ck81
  | 2 => exact ck82
  | 3 => exact ck83
  | 4 => exact ck84
  | 5 => exact ck85
  | 6 => exact ck86
  | 7 => exact ck87
  | 8 => exact ck88
  | 9 => exact ck89
  | 10 => exact ck90
  | 11 => exact ck91
  | 12 => exact ck92
  | 13 => exact ck93
  | 14 => exact ck94
  | 15 => exact ck95
  | i + 16 => rfl
theorem cg6 (i : Nat) : aOKgm (16 * 6 + i) 0 (aCs6.getD i []) = true := by
  match i with
  | 0 => exact ck96
  | 1 => exact ck97
  | 2 => exact ck98
  | 3 => exact ck99
  | 4 => exact ck100
  | 5 => exact ck101
  | 6 => exact ck102
  | 7 => exact ck103
  | 8 => exact ck104
  | 9 => exact ck105
  | 10 => exact ck106
  | 11 => exact ck107
  | 12 => exact ck108
  | 13 => exact ck109
  | 14 => exact ck110
  | 15 => exact ck111
  | i + 16 => rfl
theorem cg7 (i : Nat) : aOKgm (16 * 7 + i) 0 (aCs7.getD i []) = true := by
  match i with
  | 0 => exact ck112
  | 1 => exact ck113
  | 2 => exact ck114
  | 3 => exact ck115
  | 4 => exact ck116
  | 5 => exact ck117
  | 6 => exact ck118
  | 7 => exact ck119
  | 8 => exact ck120
  | 9 => exact ck121
  | 10 => exact ck122
  | 11 => exact ck123
  | 12 => exact ck124
  | 13 => exact ck125
  | 14 => exact ck126
  | 15 => exact ck127
  | i + 16 => rfl
theorem cg8 (i : Nat) : aOKgm (16 * 8 + i) 0 (aCs8.getD i []) = true := by
  match i with
  | 0 => exact ck128
  | 1 => exact ck129
  | 2 => exact ck130
  | 3 => exact ck131
  | 4 => exact ck132
  | 5 => exact ck133
  | 6 => exact ck134
  | 7 => exact ck135
  | 8 => exact ck136
  | 9 => exact ck137
  | 10 => exact ck138
  | 11 => exact ck139
  | 12 => exact ck140
  | 13 => exact ck141
  | 14 => exact ck142
  | 15 => exact ck143
  | i + 16 => rfl
theorem cg9 (i : Nat) : aOKgm (16 * 9 + i) 0 (aCs9.getD i []) = true := by
  match i with
  | 0 => exact ck144
  | 1 => exact ck145
  | 2 => exact ck146
  | 3 => exact ck147
  | 4 => exact ck148
  | 5 => exact ck149
  | 6 => exact ck150
  | 7 => exact ck151
  | 8 => exact ck152
  | 9 => exact ck153
  | 10 => exact ck154
  | 11 => exact ck155
  | 12 => exact ck156
  | 13 => exact ck157
  | 14 => exact ck158
  | 15 => exact ck159
  | i + 16 => rfl
theorem cg10 (i : Nat) : aOKgm (16 * 10 + i) 0 (aCs10.getD i []) = true := by
  match i with
  | 0 => exact ck160
  | 1 => exact ck161
  | 2 => exact ck162
  | 3 => exact ck163
  | 4 => exact ck164
  | 5 => exact ck165
  | 6 => exact ck166
  | 7 => exact ck167
  | 8 => exact ck168
  | 9 => exact ck169
  | 10 => exact ck170
  | 11 => exact ck171
  | 12 => exact ck172
  | 13 => exact ck173
  | 14 => exact ck174
  | 15 => exact ck175
  | i + 16 => rfl
theorem cg11 (i : Nat) : aOKgm (16 * 11 + i) 0 (aCs11.getD i []) = true := by
  match i with
  | 0 => exact ck176
  | 1 => exact ck177
  | 2 => exact ck178
  | 3 => exact ck179
  | 4 => exact ck180
  | 5 => exact ck181
  | 6 => exact ck182
  | 7 => exact ck183
  | 8 => exact ck184
  | 9 => exact ck185
  | 10 => exact ck186
  | 11 => exact ck187
  | 12 => exact ck188
  | 13 => exact ck189
  | 14 => exact ck190
  | 15 => exact ck191
  | i + 16 => rfl
theorem cg12 (i : Nat) : aOKgm (16 * 12 + i) 0 (aCs12.getD i []) = true := by
  match i with
  | 0 => exact ck192
  | 1 => exact ck193
  | 2 => exact ck194
  | 3 => exact ck195
  | 4 => exact ck196
  | 5 => exact ck197
  | 6 => exact ck198
  | 7 => exact ck199
  | 8 => exact ck200
  | 9 => exact ck201
  | 10 => exact ck202
  | 11 => exact ck203
  | 12 => exact ck204
  | 13 => exact ck205
  | 14 => exact ck206
  | 15 => exact ck207
  | i + 16 => rfl
theorem cg13 (i : Nat) : aOKgm (16 * 13 + i) 0 (aCs13.getD i []) = true := by
  match i with
  | 0 => exact ck208
  | 1 => exact ck209
  | 2 => exact ck210
  | 3 => exact ck211
  | 4 => exact ck212
  | 5 => exact ck213
  | 6 => exact ck214
  | 7 => exact ck215
  | 8 => exact ck216
  | 9 => exact ck217
  | 10 => exact ck218
  | 11 => exact ck219
  | 12 => exact ck220
  | 13 => exact ck221
  | 14 => exact ck222
  | 15 => exact ck223
  | i + 16 => rfl
theorem cg14 (i : Nat) : aOKgm (16 * 14 + i) 0 (aCs14.getD i []) = true := by
  match i with
  | 0 => exact ck224
  | 1 => exact ck225
  | 2 => exact ck226
  | 3 => exact ck227
  | 4 => exact ck228
  | 5 => exact ck229
  | 6 => exact ck230
  | 7 => exact ck231
  | 8 => exact ck232
  | 9 => exact ck233
  | 10 => exact ck234
  | 11 => exact ck235
  | 12 => exact ck236
  | 13 => exact ck237
  | 14 => exact ck238
  | 15 => exact ck239
  | i + 16 => rfl
theorem cg15 (i : Nat) : aOKgm (16 * 15 + i) 0 (aCs15.getD i []) = true := by
  match i with
  | 0 => exact ck240
  | 1 => exact ck241
  | 2 => exact ck242
  | 3 => exact ck243
  | 4 => exact ck244
  | 5 => exact ck245
  | 6 => exact ck246
  | 7 => exact ck247
  | 8 => exact ck248
  | 9 => exact ck249
  | 10 => exact ck250
  | 11 => exact ck251
  | 12 => exact ck252
  | 13 => exact ck253
  | 14 => exact ck254
  | 15 => exact ck255
  | i + 16 => rfl
theorem cg16 (i : Nat) : aOKgm (16 * 16 + i) 0 (aCs16.getD i []) = true := by
  match i with
  | 0 => exact ck256
  | 1 => exact ck257
  | 2 => exact ck258
  | 3 => exact ck259
  | 4 => exact ck260
  | 5 => exact ck261
  | 6 => exact ck262
  | 7 => exact ck263
  | 8 => exact ck264
  | 9 => exact ck265
  | 10 => exact ck266
  | 11 => exact ck267
  | 12 => exact ck268
  | 13 => exact ck269
  | 14 => exact ck270
  | 15 => exact ck271
  | i + 16 => rfl
theorem cg17 (i : Nat) : aOKgm (16 * 17 + i) 0 (aCs17.getD i []) = true := by
  match i with
  | 0 => exact ck272
  | 1 => exact ck273
  | 2 => exact ck274
  | 3 => exact ck275
  | 4 => exact ck276
  | 5 => exact ck277
  | 6 => exact ck278
  | 7 => exact ck279
  | 8 => exact ck280
  | 9 => exact ck281
  | 10 => exact ck282
  | 11 => exact ck283
  | 12 => exact ck284
  | 13 => exact ck285
  | 14 => exact ck286
  | 15 => exact ck287
  | i + 16 => rfl
theorem cg18 (i : Nat) : aOKgm (16 * 18 + i) 0 (aCs18.getD i []) = true := by
  match i with
  | 0 => exact ck288
  | 1 => exact ck289
  | 2 => exact ck290
  | 3 => exact ck291
  | 4 => exact ck292
  | 5 => exact ck293
  | 6 => exact ck294
  | 7 => exact ck295
  | 8 => exact ck296
  | 9 => exact ck297
  | 10 => exact ck298
  | 11 => exact ck299
  | 12 => exact ck300
  | 13 => exact ck301
  | 14 => exact ck302
  | 15 => exact ck303
  | i + 16 => rfl
theorem cg19 (i : Nat) : aOKgm (16 * 19 + i) 0 (aCs19.getD i []) = true := by
  match i with
  | 0 => exact ck304
  | 1 => exact ck305
  | 2 => exact ck306
  | 3 => exact ck307
  | 4 => exact ck308
  | 5 => exact ck309
  | 6 => exact ck310
  | 7 => exact ck311
  | 8 => exact ck312
  | 9 => exact ck313
  | 10 => exact ck314
  | 11 => exact ck315
  | 12 => exact ck316
  | 13 => exact ck317
  | 14 => exact ck318
  | 15 => exact ck319
  | i + 16 => rfl
theorem cg20 (i : Nat) : aOKgm (16 * 20 + i) 0 (aCs20.getD i []) = true := by
  match i with
  | 0 => exact ck320
  | 1 => exact ck321
  | 2 => exact ck322
  | 3 => exact ck323
  | 4 => exact ck324
  | 5 => exact ck325
  | 6 => exact ck326
  | 7 => exact ck327
  | 8 => exact ck328
  | i + 9 => rfl
theorem cgg (g i : Nat) : aOKgm (16 * g + i) 0 ((aCss.getD g []).getD i []) = true := by
  match g with
  | 0 => exact cg0 i
  | 1 => exact cg1 i
  | 2 => exact cg2 i
  | 3 => exact cg3 i
  | 4 => exact cg4 i
  | 5 => exact cg5 i
  | 6 => exact cg6 i
  | 7 => exact cg7 i
  | 8 => exact cg8 i
  | 9 => exact cg9 i
  | 10 => exact cg10 i
  | 11 => exact cg11 i
  | 12 => exact cg12 i
  | 13 => exact cg13 i
  | 14 => exact cg14 i
  | 15 => exact cg15 i
  | 16 => exact cg16 i
  | 17 => exact cg17 i
  | 18 => exact cg18 i
  | 19 => exact cg19 i
  | 20 => exact cg20 i
  | g + 21 => cases i <;> rfl
theorem aOKgc_at (mi : Nat) : ∀ (l : List aE) (k j : Nat), aOKgc mi k l = true → l.getD j aX = aX ∨ aOKg mi (k + j) (l.getD j aX) = true := by
  intro l
  induction l with
  | nil => intro k j _; exact Or.inl rfl
  | cons E l ih =>
    intro k j h
    simp only [aOKgc, Bool.and_eq_true] at h
    cases j with
    | zero => exact Or.inr h.1
    | succ j =>
      have := ih (k + 1) j h.2
      rw [show k + 1 + j = k + (j + 1) by omega] at this
      simpa using this
theorem aOKgm_at (mi : Nat) : ∀ (l : List (List aE)) (k q j : Nat), j < 32 → aOKgm mi k l = true → (l.getD q []).getD j aX = aX ∨ aOKg mi (k + 32 * q + j) ((l.getD q []).getD j aX) = true := by
  intro l
  induction l with
  | nil => intro k q j _ _; exact Or.inl rfl
  | cons a l ih =>
    intro k q j hj h
    simp only [aOKgm, Bool.and_eq_true] at h
    cases q with
    | zero =>
      have := aOKgc_at mi a k j h.1.2
      simpa using this
    | succ q =>
      have := ih (k + 32) q j hj h.2
      rw [show k + 32 + 32 * q + j = k + 32 * (q + 1) + j by omega] at this
      simpa using this
theorem aCode_ok (mi pc : Nat) : aCode mi pc = aX ∨ aOKg mi pc (aCode mi pc) = true := by
  have h := aOKgm_at mi _ 0 (pc / 32) (pc % 32) (Nat.mod_lt _ (by omega)) (by have := cgg (mi / 16) (mi % 16); rwa [show 16 * (mi / 16) + mi % 16 = mi by omega] at this)
  rw [show 0 + 32 * (pc / 32) + pc % 32 = pc by omega] at h
  exact h

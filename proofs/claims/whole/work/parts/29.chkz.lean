/-! ALL THAT IS LOOKED UP STANDS: the small machine's runs are contracts -/
theorem xheads : ∀ a, xisM a = true → xmfb a = true := by
  intro a ha
  have hlt : a < 327 := by simp only [xisM, Bool.and_eq_true, decide_eq_true_eq] at ha; exact ha.1
  have h0 : a ≠ 0 := by rintro rfl; cases ha
  have key : ∀ lo n, (List.range' lo n).all (fun a => !xisM a || xmfb a) = true → lo ≤ a → a < lo + n → xmfb a = true := by
    intro lo n h h1 h2
    have h3 := List.all_eq_true.mp h a (by rw [List.mem_range'_1]; omega)
    rw [ha] at h3
    exact h3
  by_cases c1 : a < 17
  · exact key 1 16 xh_1 (by omega) c1
  by_cases c17 : a < 33
  · exact key 17 16 xh_17 (by omega) c17
  by_cases c33 : a < 49
  · exact key 33 16 xh_33 (by omega) c33
  by_cases c49 : a < 65
  · exact key 49 16 xh_49 (by omega) c49
  by_cases c65 : a < 81
  · exact key 65 16 xh_65 (by omega) c65
  by_cases c81 : a < 97
  · exact key 81 16 xh_81 (by omega) c81
  by_cases c97 : a < 113
  · exact key 97 16 xh_97 (by omega) c97
  by_cases c113 : a < 129
  · exact key 113 16 xh_113 (by omega) c113
  by_cases c129 : a < 145
  · exact key 129 16 xh_129 (by omega) c129
  by_cases c145 : a < 161
  · exact key 145 16 xh_145 (by omega) c145
  by_cases c161 : a < 177
  · exact key 161 16 xh_161 (by omega) c161
  by_cases c177 : a < 193
  · exact key 177 16 xh_177 (by omega) c177
  by_cases c193 : a < 209
  · exact key 193 16 xh_193 (by omega) c193
  by_cases c209 : a < 225
  · exact key 209 16 xh_209 (by omega) c209
  by_cases c225 : a < 241
  · exact key 225 16 xh_225 (by omega) c225
  by_cases c241 : a < 257
  · exact key 241 16 xh_241 (by omega) c241
  by_cases c257 : a < 273
  · exact key 257 16 xh_257 (by omega) c257
  by_cases c273 : a < 289
  · exact key 273 16 xh_273 (by omega) c273
  by_cases c289 : a < 305
  · exact key 289 16 xh_289 (by omega) c289
  by_cases c305 : a < 321
  · exact key 305 16 xh_305 (by omega) c305
  exact key 321 6 xh_321 (by omega) (by omega)
theorem xalls : ∀ k, k < 327 → xall k = true := by
  intro k hk
  refine xall_f xheads ?_
  have key : ∀ lo n, (List.range' lo n).all (fun k => xallf k 0 (xTN k)) = true → lo ≤ k → k < lo + n → xallf k 0 (xTN k) = true := by
    intro lo n h h1 h2
    exact List.all_eq_true.mp h k (by rw [List.mem_range'_1]; omega)
  by_cases c0 : k < 1
  · exact key 0 1 xg_0 (by omega) c0
  by_cases c1 : k < 5
  · exact key 1 4 xg_1 (by omega) c1
  by_cases c2 : k < 9
  · exact key 5 4 xg_2 (by omega) c2
  by_cases c3 : k < 18
  · exact key 9 9 xg_3 (by omega) c3
  by_cases c4 : k < 25
  · exact key 18 7 xg_4 (by omega) c4
  by_cases c5 : k < 32
  · exact key 25 7 xg_5 (by omega) c5
  by_cases c6 : k < 37
  · exact key 32 5 xg_6 (by omega) c6
  by_cases c7 : k < 43
  · exact key 37 6 xg_7 (by omega) c7
  by_cases c8 : k < 49
  · exact key 43 6 xg_8 (by omega) c8
  by_cases c9 : k < 57
  · exact key 49 8 xg_9 (by omega) c9
  by_cases c10 : k < 61
  · exact key 57 4 xg_10 (by omega) c10
  by_cases c11 : k < 67
  · exact key 61 6 xg_11 (by omega) c11
  by_cases c12 : k < 74
  · exact key 67 7 xg_12 (by omega) c12
  by_cases c13 : k < 79
  · exact key 74 5 xg_13 (by omega) c13
  by_cases c14 : k < 88
  · exact key 79 9 xg_14 (by omega) c14
  by_cases c15 : k < 99
  · exact key 88 11 xg_15 (by omega) c15
  by_cases c16 : k < 105
  · exact key 99 6 xg_16 (by omega) c16
  by_cases c17 : k < 111
  · exact key 105 6 xg_17 (by omega) c17
  by_cases c18 : k < 120
  · exact key 111 9 xg_18 (by omega) c18
  by_cases c19 : k < 133
  · exact key 120 13 xg_19 (by omega) c19
  by_cases c20 : k < 138
  · exact key 133 5 xg_20 (by omega) c20
  by_cases c21 : k < 144
  · exact key 138 6 xg_21 (by omega) c21
  by_cases c22 : k < 149
  · exact key 144 5 xg_22 (by omega) c22
  by_cases c23 : k < 157
  · exact key 149 8 xg_23 (by omega) c23
  by_cases c24 : k < 163
  · exact key 157 6 xg_24 (by omega) c24
  by_cases c25 : k < 168
  · exact key 163 5 xg_25 (by omega) c25
  by_cases c26 : k < 172
  · exact key 168 4 xg_26 (by omega) c26
  by_cases c27 : k < 181
  · exact key 172 9 xg_27 (by omega) c27
  by_cases c28 : k < 182
  · exact key 181 1 xg_28 (by omega) c28
  by_cases c29 : k < 198
  · exact key 182 16 xg_29 (by omega) c29
  by_cases c30 : k < 205
  · exact key 198 7 xg_30 (by omega) c30
  by_cases c31 : k < 211
  · exact key 205 6 xg_31 (by omega) c31
  by_cases c32 : k < 215
  · exact key 211 4 xg_32 (by omega) c32
  by_cases c33 : k < 217
  · exact key 215 2 xg_33 (by omega) c33
  by_cases c34 : k < 219
  · exact key 217 2 xg_34 (by omega) c34
  by_cases c35 : k < 224
  · exact key 219 5 xg_35 (by omega) c35
  by_cases c36 : k < 226
  · exact key 224 2 xg_36 (by omega) c36
  by_cases c37 : k < 232
  · exact key 226 6 xg_37 (by omega) c37
  by_cases c38 : k < 238
  · exact key 232 6 xg_38 (by omega) c38
  by_cases c39 : k < 247
  · exact key 238 9 xg_39 (by omega) c39
  by_cases c40 : k < 251
  · exact key 247 4 xg_40 (by omega) c40
  by_cases c41 : k < 258
  · exact key 251 7 xg_41 (by omega) c41
  by_cases c42 : k < 262
  · exact key 258 4 xg_42 (by omega) c42
  by_cases c43 : k < 265
  · exact key 262 3 xg_43 (by omega) c43
  by_cases c44 : k < 272
  · exact key 265 7 xg_44 (by omega) c44
  by_cases c45 : k < 277
  · exact key 272 5 xg_45 (by omega) c45
  by_cases c46 : k < 280
  · exact key 277 3 xg_46 (by omega) c46
  by_cases c47 : k < 285
  · exact key 280 5 xg_47 (by omega) c47
  by_cases c48 : k < 292
  · exact key 285 7 xg_48 (by omega) c48
  by_cases c49 : k < 295
  · exact key 292 3 xg_49 (by omega) c49
  by_cases c50 : k < 298
  · exact key 295 3 xg_50 (by omega) c50
  by_cases c51 : k < 304
  · exact key 298 6 xg_51 (by omega) c51
  by_cases c52 : k < 307
  · exact key 304 3 xg_52 (by omega) c52
  by_cases c53 : k < 309
  · exact key 307 2 xg_53 (by omega) c53
  by_cases c54 : k < 317
  · exact key 309 8 xg_54 (by omega) c54
  exact key 317 10 xg_55 (by omega) (by omega)

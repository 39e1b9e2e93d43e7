theorem kw_of {C : String} {T : u_T} {N : Nat} (ps : List Nat) (h : (List.range N).all (fun k => decide (lw_tbl[ps.getD k 0]? = some (u_lay C T k)) && goodWord (u_lay C T k)) = true) : ∀ w ∈ u_ws C T N, w ∈ TT := by
  intro w hw
  obtain ⟨k, hk, rfl⟩ := List.mem_map.mp hw
  have h1 := List.all_eq_true.mp h k hk
  simp only [Bool.and_eq_true, decide_eq_true_eq] at h1
  exact tt_of _ h1.1 h1.2
theorem kf_0 : KF 0 := ⟨RX0, TX0, 7, rfl, rfl, kw_of [397, 399, 401, 403, 405, 407, 409] (by decide +kernel), tyX0_ok, nmX0⟩
theorem kf_1 : KF 1 := ⟨RX1, TX1, 6, rfl, rfl, kw_of [366, 368, 370, 372, 374, 376] (by decide +kernel), tyX1_ok, nmX1⟩
theorem kf_2 : KF 2 := ⟨RX2, TX2, 4, rfl, rfl, kw_of [321, 323, 325, 327] (by decide +kernel), tyX2_ok, nmX2⟩
theorem kf_3 : KF 3 := ⟨RX3, TX3, 5, rfl, rfl, kw_of [449, 451, 453, 455, 457] (by decide +kernel), tyX3_ok, nmX3⟩
theorem kf_4 : KF 4 := ⟨RX4, TX4, 3, rfl, rfl, kw_of [343, 345, 347] (by decide +kernel), tyX4_ok, nmX4⟩
theorem kf_5 : KF 5 := ⟨RX5, TX5, 4, rfl, rfl, kw_of [295, 297, 299, 301] (by decide +kernel), tyX5_ok, nmX5⟩
theorem kf_6 : KF 6 := ⟨RX6, TX6, 17, rfl, rfl, kw_of [248, 250, 252, 254, 256, 258, 260, 262, 264, 266, 268, 270, 272, 274, 276, 278, 280] (by decide +kernel), tyX6_ok, nmX6⟩
theorem kf_7 : KF 7 := ⟨RX7, TX7, 4, rfl, rfl, kw_of [165, 167, 169, 171] (by decide +kernel), tyX7_ok, nmX7⟩
theorem kf_8 : KF 8 := ⟨RX8, TX8, 4, rfl, rfl, kw_of [196, 198, 200, 202] (by decide +kernel), tyX8_ok, nmX8⟩
theorem kf_9 : KF 9 := ⟨RX9, TX9, 4, rfl, rfl, kw_of [432, 434, 436, 438] (by decide +kernel), tyX9_ok, nmX9⟩
theorem kf_10 : KF 10 := ⟨RX10, TX10, 20, rfl, rfl, kw_of [480, 482, 484, 486, 488, 490, 492, 494, 496, 498, 500, 502, 504, 506, 508, 510, 512, 514, 516, 518] (by decide +kernel), tyX10_ok, nmX10⟩
theorem kf_11 : KF 11 := ⟨RX11, TX11, 58, rfl, rfl, kw_of [1247, 1249, 1251, 1253, 1255, 1257, 1259, 1261, 1263, 1265, 1267, 1269, 1271, 1273, 1275, 1277, 1279, 1281, 1283, 1285, 1287, 1289, 1291, 1293, 1295, 1297, 1299, 1301, 1303, 1305, 1307, 1309, 1311, 1313, 1315, 1317, 1319, 1321, 1323, 1325, 1327, 1329, 1331, 1333, 1335, 1337, 1339, 1341, 1343, 1345, 1347, 1349, 1351, 1353, 1355, 1357, 1359, 1361] (by decide +kernel), tyX11_ok, nmX11⟩
theorem fl_X10_9 : FL RX10 9 10 0 true := ⟨RX10, TX10, 20, rfl, by decide, tt_of 460 (by decide +kernel) (by decide +kernel), rfl, kf_10⟩
theorem fl_X10_16 : FL RX10 16 10 2 true := ⟨RX10, TX10, 20, rfl, by decide, tt_of 462 (by decide +kernel) (by decide +kernel), rfl, kf_10⟩
theorem fl_X10_20 : FL RX10 20 10 3 true := ⟨RX10, TX10, 20, rfl, by decide, tt_of 463 (by decide +kernel) (by decide +kernel), rfl, kf_10⟩
theorem fl_X10_27 : FL RX10 27 10 4 true := ⟨RX10, TX10, 20, rfl, by decide, tt_of 464 (by decide +kernel) (by decide +kernel), rfl, kf_10⟩
theorem fl_X10_31 : FL RX10 31 10 5 true := ⟨RX10, TX10, 20, rfl, by decide, tt_of 465 (by decide +kernel) (by decide +kernel), rfl, kf_10⟩
theorem fl_X10_37 : FL RX10 37 10 6 true := ⟨RX10, TX10, 20, rfl, by decide, tt_of 466 (by decide +kernel) (by decide +kernel), rfl, kf_10⟩
theorem fl_X10_41 : FL RX10 41 10 7 true := ⟨RX10, TX10, 20, rfl, by decide, tt_of 467 (by decide +kernel) (by decide +kernel), rfl, kf_10⟩
theorem fl_X10_47 : FL RX10 47 10 8 true := ⟨RX10, TX10, 20, rfl, by decide, tt_of 468 (by decide +kernel) (by decide +kernel), rfl, kf_10⟩
theorem fl_X10_54 : FL RX10 54 10 9 true := ⟨RX10, TX10, 20, rfl, by decide, tt_of 469 (by decide +kernel) (by decide +kernel), rfl, kf_10⟩
theorem fl_X10_63 : FL RX10 63 10 10 true := ⟨RX10, TX10, 20, rfl, by decide, tt_of 470 (by decide +kernel) (by decide +kernel), rfl, kf_10⟩
theorem fl_X10_72 : FL RX10 72 10 11 true := ⟨RX10, TX10, 20, rfl, by decide, tt_of 471 (by decide +kernel) (by decide +kernel), rfl, kf_10⟩
theorem fl_X10_79 : FL RX10 79 10 12 true := ⟨RX10, TX10, 20, rfl, by decide, tt_of 472 (by decide +kernel) (by decide +kernel), rfl, kf_10⟩
theorem fl_X10_83 : FL RX10 83 10 13 true := ⟨RX10, TX10, 20, rfl, by decide, tt_of 473 (by decide +kernel) (by decide +kernel), rfl, kf_10⟩
theorem fl_X10_86 : FL RX10 86 10 15 false := ⟨RX10, TX10, 20, rfl, by decide, tt_of 475 (by decide +kernel) (by decide +kernel), rfl, kf_10⟩
theorem fl_X10_90 : FL RX10 90 10 17 false := ⟨RX10, TX10, 20, rfl, by decide, tt_of 477 (by decide +kernel) (by decide +kernel), rfl, kf_10⟩
theorem fl_X10_93 : FL RX10 93 10 19 false := ⟨RX10, TX10, 20, rfl, by decide, tt_of 479 (by decide +kernel) (by decide +kernel), rfl, kf_10⟩
theorem fl_X10_100 : FL RX10 100 6 1 false := ⟨RX6, TX6, 17, rfl, by decide, tt_of 210 (by decide +kernel) (by decide +kernel), rfl, kf_6⟩
theorem fl_X10_117 : FL RX10 117 6 3 true := ⟨RX6, TX6, 17, rfl, by decide, tt_of 217 (by decide +kernel) (by decide +kernel), rfl, kf_6⟩
theorem fl_X10_120 : FL RX10 120 6 0 true := ⟨RX6, TX6, 17, rfl, by decide, tt_of 207 (by decide +kernel) (by decide +kernel), rfl, kf_6⟩
theorem fl_X10_123 : FL RX10 123 7 0 true := ⟨RX7, TX7, 4, rfl, by decide, tt_of 151 (by decide +kernel) (by decide +kernel), rfl, kf_7⟩
theorem fl_X10_126 : FL RX10 126 6 2 true := ⟨RX6, TX6, 17, rfl, by decide, tt_of 213 (by decide +kernel) (by decide +kernel), rfl, kf_6⟩
theorem fl_X10_148 : FL RX10 148 6 4 false := ⟨RX6, TX6, 17, rfl, by decide, tt_of 220 (by decide +kernel) (by decide +kernel), rfl, kf_6⟩
theorem fl_X10_154 : FL RX10 154 6 5 true := ⟨RX6, TX6, 17, rfl, by decide, tt_of 224 (by decide +kernel) (by decide +kernel), rfl, kf_6⟩
theorem fl_X10_157 : FL RX10 157 6 6 true := ⟨RX6, TX6, 17, rfl, by decide, tt_of 228 (by decide +kernel) (by decide +kernel), rfl, kf_6⟩
theorem fl_X10_160 : FL RX10 160 7 1 true := ⟨RX7, TX7, 4, rfl, by decide, tt_of 155 (by decide +kernel) (by decide +kernel), rfl, kf_7⟩
theorem fl_X10_170 : FL RX10 170 1 2 false := ⟨RX1, TX1, 6, rfl, by decide, tt_of 360 (by decide +kernel) (by decide +kernel), rfl, kf_1⟩
theorem fl_X10_173 : FL RX10 173 1 3 false := ⟨RX1, TX1, 6, rfl, by decide, tt_of 362 (by decide +kernel) (by decide +kernel), rfl, kf_1⟩
theorem fl_X10_189 : FL RX10 189 7 3 false := ⟨RX7, TX7, 4, rfl, by decide, tt_of 164 (by decide +kernel) (by decide +kernel), rfl, kf_7⟩
theorem fl_X10_192 : FL RX10 192 6 7 false := ⟨RX6, TX6, 17, rfl, by decide, tt_of 230 (by decide +kernel) (by decide +kernel), rfl, kf_6⟩
theorem fl_X10_195 : FL RX10 195 6 8 false := ⟨RX6, TX6, 17, rfl, by decide, tt_of 233 (by decide +kernel) (by decide +kernel), rfl, kf_6⟩
theorem fl_X10_198 : FL RX10 198 6 9 false := ⟨RX6, TX6, 17, rfl, by decide, tt_of 235 (by decide +kernel) (by decide +kernel), rfl, kf_6⟩
theorem fl_X10_201 : FL RX10 201 10 1 false := ⟨RX10, TX10, 20, rfl, by decide, tt_of 461 (by decide +kernel) (by decide +kernel), rfl, kf_10⟩
theorem fl_X10_214 : FL RX10 214 10 16 false := ⟨RX10, TX10, 20, rfl, by decide, tt_of 476 (by decide +kernel) (by decide +kernel), rfl, kf_10⟩
theorem fl_X10_217 : FL RX10 217 6 12 false := ⟨RX6, TX6, 17, rfl, by decide, tt_of 241 (by decide +kernel) (by decide +kernel), rfl, kf_6⟩
theorem fl_X10_228 : FL RX10 228 6 13 true := ⟨RX6, TX6, 17, rfl, by decide, tt_of 243 (by decide +kernel) (by decide +kernel), rfl, kf_6⟩
theorem fl_X10_232 : FL RX10 232 3 1 true := ⟨RX3, TX3, 5, rfl, by decide, tt_of 445 (by decide +kernel) (by decide +kernel), rfl, kf_3⟩
theorem fl_X10_244 : FL RX10 244 10 18 false := ⟨RX10, TX10, 20, rfl, by decide, tt_of 478 (by decide +kernel) (by decide +kernel), rfl, kf_10⟩
theorem fl_X10_247 : FL RX10 247 8 3 false := ⟨RX8, TX8, 4, rfl, by decide, tt_of 195 (by decide +kernel) (by decide +kernel), rfl, kf_8⟩
theorem fl_X10_260 : FL RX10 260 8 0 true := ⟨RX8, TX8, 4, rfl, by decide, tt_of 188 (by decide +kernel) (by decide +kernel), rfl, kf_8⟩
theorem fl_X10_267 : FL RX10 267 4 2 false := ⟨RX4, TX4, 3, rfl, by decide, tt_of 342 (by decide +kernel) (by decide +kernel), rfl, kf_4⟩
theorem fl_X10_274 : FL RX10 274 4 0 true := ⟨RX4, TX4, 3, rfl, by decide, tt_of 338 (by decide +kernel) (by decide +kernel), rfl, kf_4⟩
theorem fl_X10_277 : FL RX10 277 7 2 false := ⟨RX7, TX7, 4, rfl, by decide, tt_of 161 (by decide +kernel) (by decide +kernel), rfl, kf_7⟩
theorem fl_X10_292 : FL RX10 292 6 15 false := ⟨RX6, TX6, 17, rfl, by decide, tt_of 246 (by decide +kernel) (by decide +kernel), rfl, kf_6⟩
theorem fl_X10_329 : FL RX10 329 0 6 false := ⟨RX0, TX0, 7, rfl, by decide, tt_of 396 (by decide +kernel) (by decide +kernel), rfl, kf_0⟩
theorem fl_X10_332 : FL RX10 332 0 5 false := ⟨RX0, TX0, 7, rfl, by decide, tt_of 394 (by decide +kernel) (by decide +kernel), rfl, kf_0⟩
theorem fl_X10_335 : FL RX10 335 0 4 true := ⟨RX0, TX0, 7, rfl, by decide, tt_of 392 (by decide +kernel) (by decide +kernel), rfl, kf_0⟩
theorem fl_X10_365 : FL RX10 365 6 10 false := ⟨RX6, TX6, 17, rfl, by decide, tt_of 238 (by decide +kernel) (by decide +kernel), rfl, kf_6⟩
theorem fl_X10_394 : FL RX10 394 2 0 true := ⟨RX2, TX2, 4, rfl, by decide, tt_of 315 (by decide +kernel) (by decide +kernel), rfl, kf_2⟩
theorem fl_X10_398 : FL RX10 398 2 2 false := ⟨RX2, TX2, 4, rfl, by decide, tt_of 319 (by decide +kernel) (by decide +kernel), rfl, kf_2⟩
theorem fl_X10_399 : FL RX10 399 2 1 false := ⟨RX2, TX2, 4, rfl, by decide, tt_of 317 (by decide +kernel) (by decide +kernel), rfl, kf_2⟩
theorem fl_X10_403 : FL RX10 403 6 16 false := ⟨RX6, TX6, 17, rfl, by decide, tt_of 247 (by decide +kernel) (by decide +kernel), rfl, kf_6⟩
theorem fl_X10_407 : FL RX10 407 5 3 false := ⟨RX5, TX5, 4, rfl, by decide, tt_of 294 (by decide +kernel) (by decide +kernel), rfl, kf_5⟩
theorem fl_X10_410 : FL RX10 410 10 14 false := ⟨RX10, TX10, 20, rfl, by decide, tt_of 474 (by decide +kernel) (by decide +kernel), rfl, kf_10⟩
theorem fl_X0_12 : FL RX0 12 0 1 true := ⟨RX0, TX0, 7, rfl, by decide, tt_of 388 (by decide +kernel) (by decide +kernel), rfl, kf_0⟩
theorem fl_X0_18 : FL RX0 18 0 2 true := ⟨RX0, TX0, 7, rfl, by decide, tt_of 389 (by decide +kernel) (by decide +kernel), rfl, kf_0⟩
theorem fl_X0_22 : FL RX0 22 0 3 true := ⟨RX0, TX0, 7, rfl, by decide, tt_of 390 (by decide +kernel) (by decide +kernel), rfl, kf_0⟩
theorem fl_X0_25 : FL RX0 25 0 4 true := ⟨RX0, TX0, 7, rfl, by decide, tt_of 391 (by decide +kernel) (by decide +kernel), rfl, kf_0⟩
theorem fl_X0_28 : FL RX0 28 0 0 true := ⟨RX0, TX0, 7, rfl, by decide, tt_of 387 (by decide +kernel) (by decide +kernel), rfl, kf_0⟩
theorem fl_X0_36 : FL RX0 36 0 5 false := ⟨RX0, TX0, 7, rfl, by decide, tt_of 393 (by decide +kernel) (by decide +kernel), rfl, kf_0⟩
theorem fl_X0_40 : FL RX0 40 0 6 false := ⟨RX0, TX0, 7, rfl, by decide, tt_of 395 (by decide +kernel) (by decide +kernel), rfl, kf_0⟩
theorem fl_X0_53 : FL RX0 53 1 0 true := ⟨RX1, TX1, 6, rfl, by decide, tt_of 358 (by decide +kernel) (by decide +kernel), rfl, kf_1⟩
theorem fl_X0_59 : FL RX0 59 6 6 true := ⟨RX6, TX6, 17, rfl, by decide, tt_of 227 (by decide +kernel) (by decide +kernel), rfl, kf_6⟩
theorem fl_X0_68 : FL RX0 68 7 2 false := ⟨RX7, TX7, 4, rfl, by decide, tt_of 160 (by decide +kernel) (by decide +kernel), rfl, kf_7⟩
theorem fl_X0_71 : FL RX0 71 7 1 true := ⟨RX7, TX7, 4, rfl, by decide, tt_of 154 (by decide +kernel) (by decide +kernel), rfl, kf_7⟩
theorem fl_X1_9 : FL RX1 9 1 4 true := ⟨RX1, TX1, 6, rfl, by decide, tt_of 364 (by decide +kernel) (by decide +kernel), rfl, kf_1⟩
theorem fl_X1_15 : FL RX1 15 1 5 true := ⟨RX1, TX1, 6, rfl, by decide, tt_of 365 (by decide +kernel) (by decide +kernel), rfl, kf_1⟩
theorem fl_X1_18 : FL RX1 18 1 0 true := ⟨RX1, TX1, 6, rfl, by decide, tt_of 357 (by decide +kernel) (by decide +kernel), rfl, kf_1⟩
theorem fl_X1_22 : FL RX1 22 1 1 true := ⟨RX1, TX1, 6, rfl, by decide, tt_of 359 (by decide +kernel) (by decide +kernel), rfl, kf_1⟩
theorem fl_X1_26 : FL RX1 26 4 0 true := ⟨RX4, TX4, 3, rfl, by decide, tt_of 337 (by decide +kernel) (by decide +kernel), rfl, kf_4⟩
theorem fl_X1_31 : FL RX1 31 6 5 true := ⟨RX6, TX6, 17, rfl, by decide, tt_of 223 (by decide +kernel) (by decide +kernel), rfl, kf_6⟩
theorem fl_X1_36 : FL RX1 36 6 6 true := ⟨RX6, TX6, 17, rfl, by decide, tt_of 226 (by decide +kernel) (by decide +kernel), rfl, kf_6⟩
theorem fl_X1_39 : FL RX1 39 7 2 false := ⟨RX7, TX7, 4, rfl, by decide, tt_of 159 (by decide +kernel) (by decide +kernel), rfl, kf_7⟩
theorem fl_X1_45 : FL RX1 45 7 3 false := ⟨RX7, TX7, 4, rfl, by decide, tt_of 163 (by decide +kernel) (by decide +kernel), rfl, kf_7⟩
theorem fl_X1_48 : FL RX1 48 6 8 false := ⟨RX6, TX6, 17, rfl, by decide, tt_of 231 (by decide +kernel) (by decide +kernel), rfl, kf_6⟩
theorem fl_X1_51 : FL RX1 51 7 0 true := ⟨RX7, TX7, 4, rfl, by decide, tt_of 150 (by decide +kernel) (by decide +kernel), rfl, kf_7⟩
theorem fl_X1_54 : FL RX1 54 6 3 true := ⟨RX6, TX6, 17, rfl, by decide, tt_of 216 (by decide +kernel) (by decide +kernel), rfl, kf_6⟩
theorem fl_X1_82 : FL RX1 82 4 2 false := ⟨RX4, TX4, 3, rfl, by decide, tt_of 341 (by decide +kernel) (by decide +kernel), rfl, kf_4⟩
theorem fl_X1_89 : FL RX1 89 1 2 false := ⟨RX1, TX1, 6, rfl, by decide, tt_of 361 (by decide +kernel) (by decide +kernel), rfl, kf_1⟩
theorem fl_X1_92 : FL RX1 92 1 3 false := ⟨RX1, TX1, 6, rfl, by decide, tt_of 363 (by decide +kernel) (by decide +kernel), rfl, kf_1⟩
theorem fl_X1_95 : FL RX1 95 6 1 false := ⟨RX6, TX6, 17, rfl, by decide, tt_of 211 (by decide +kernel) (by decide +kernel), rfl, kf_6⟩
theorem fl_X1_102 : FL RX1 102 6 4 false := ⟨RX6, TX6, 17, rfl, by decide, tt_of 221 (by decide +kernel) (by decide +kernel), rfl, kf_6⟩
theorem fl_X1_105 : FL RX1 105 7 1 true := ⟨RX7, TX7, 4, rfl, by decide, tt_of 157 (by decide +kernel) (by decide +kernel), rfl, kf_7⟩
theorem fl_X1_112 : FL RX1 112 6 2 true := ⟨RX6, TX6, 17, rfl, by decide, tt_of 214 (by decide +kernel) (by decide +kernel), rfl, kf_6⟩
theorem fl_X1_143 : FL RX1 143 6 9 false := ⟨RX6, TX6, 17, rfl, by decide, tt_of 236 (by decide +kernel) (by decide +kernel), rfl, kf_6⟩
theorem fl_X2_12 : FL RX2 12 2 0 true := ⟨RX2, TX2, 4, rfl, by decide, tt_of 314 (by decide +kernel) (by decide +kernel), rfl, kf_2⟩
theorem fl_X2_18 : FL RX2 18 6 0 true := ⟨RX6, TX6, 17, rfl, by decide, tt_of 206 (by decide +kernel) (by decide +kernel), rfl, kf_6⟩
theorem fl_X2_25 : FL RX2 25 6 1 false := ⟨RX6, TX6, 17, rfl, by decide, tt_of 208 (by decide +kernel) (by decide +kernel), rfl, kf_6⟩
theorem fl_X2_29 : FL RX2 29 2 1 false := ⟨RX2, TX2, 4, rfl, by decide, tt_of 316 (by decide +kernel) (by decide +kernel), rfl, kf_2⟩
theorem fl_X2_30 : FL RX2 30 6 4 false := ⟨RX6, TX6, 17, rfl, by decide, tt_of 218 (by decide +kernel) (by decide +kernel), rfl, kf_6⟩
theorem fl_X2_33 : FL RX2 33 2 2 false := ⟨RX2, TX2, 4, rfl, by decide, tt_of 318 (by decide +kernel) (by decide +kernel), rfl, kf_2⟩
theorem fl_X2_34 : FL RX2 34 2 3 false := ⟨RX2, TX2, 4, rfl, by decide, tt_of 320 (by decide +kernel) (by decide +kernel), rfl, kf_2⟩
theorem fl_X3_12 : FL RX3 12 3 0 true := ⟨RX3, TX3, 5, rfl, by decide, tt_of 443 (by decide +kernel) (by decide +kernel), rfl, kf_3⟩
theorem fl_X3_23 : FL RX3 23 3 1 true := ⟨RX3, TX3, 5, rfl, by decide, tt_of 444 (by decide +kernel) (by decide +kernel), rfl, kf_3⟩
theorem fl_X3_31 : FL RX3 31 3 2 false := ⟨RX3, TX3, 5, rfl, by decide, tt_of 446 (by decide +kernel) (by decide +kernel), rfl, kf_3⟩
theorem fl_X3_35 : FL RX3 35 3 3 false := ⟨RX3, TX3, 5, rfl, by decide, tt_of 447 (by decide +kernel) (by decide +kernel), rfl, kf_3⟩
theorem fl_X3_39 : FL RX3 39 3 4 false := ⟨RX3, TX3, 5, rfl, by decide, tt_of 448 (by decide +kernel) (by decide +kernel), rfl, kf_3⟩
theorem fl_X3_42 : FL RX3 42 8 2 false := ⟨RX8, TX8, 4, rfl, by decide, tt_of 191 (by decide +kernel) (by decide +kernel), rfl, kf_8⟩
theorem fl_X3_45 : FL RX3 45 8 3 false := ⟨RX8, TX8, 4, rfl, by decide, tt_of 194 (by decide +kernel) (by decide +kernel), rfl, kf_8⟩
theorem fl_X3_69 : FL RX3 69 9 3 false := ⟨RX9, TX9, 4, rfl, by decide, tt_of 431 (by decide +kernel) (by decide +kernel), rfl, kf_9⟩
theorem fl_X3_72 : FL RX3 72 9 1 true := ⟨RX9, TX9, 4, rfl, by decide, tt_of 427 (by decide +kernel) (by decide +kernel), rfl, kf_9⟩
theorem fl_X3_76 : FL RX3 76 9 0 true := ⟨RX9, TX9, 4, rfl, by decide, tt_of 425 (by decide +kernel) (by decide +kernel), rfl, kf_9⟩
theorem fl_X3_79 : FL RX3 79 9 2 true := ⟨RX9, TX9, 4, rfl, by decide, tt_of 429 (by decide +kernel) (by decide +kernel), rfl, kf_9⟩
theorem fl_X3_85 : FL RX3 85 8 0 true := ⟨RX8, TX8, 4, rfl, by decide, tt_of 187 (by decide +kernel) (by decide +kernel), rfl, kf_8⟩
theorem fl_X4_9 : FL RX4 9 4 0 true := ⟨RX4, TX4, 3, rfl, by decide, tt_of 336 (by decide +kernel) (by decide +kernel), rfl, kf_4⟩
theorem fl_X4_15 : FL RX4 15 4 1 true := ⟨RX4, TX4, 3, rfl, by decide, tt_of 339 (by decide +kernel) (by decide +kernel), rfl, kf_4⟩
theorem fl_X4_19 : FL RX4 19 8 3 false := ⟨RX8, TX8, 4, rfl, by decide, tt_of 192 (by decide +kernel) (by decide +kernel), rfl, kf_8⟩
theorem fl_X4_29 : FL RX4 29 8 0 true := ⟨RX8, TX8, 4, rfl, by decide, tt_of 186 (by decide +kernel) (by decide +kernel), rfl, kf_8⟩
theorem fl_X4_36 : FL RX4 36 4 2 false := ⟨RX4, TX4, 3, rfl, by decide, tt_of 340 (by decide +kernel) (by decide +kernel), rfl, kf_4⟩
theorem fl_X5_13 : FL RX5 13 5 0 true := ⟨RX5, TX5, 4, rfl, by decide, tt_of 290 (by decide +kernel) (by decide +kernel), rfl, kf_5⟩
theorem fl_X5_17 : FL RX5 17 5 1 true := ⟨RX5, TX5, 4, rfl, by decide, tt_of 291 (by decide +kernel) (by decide +kernel), rfl, kf_5⟩
theorem fl_X5_20 : FL RX5 20 5 2 false := ⟨RX5, TX5, 4, rfl, by decide, tt_of 292 (by decide +kernel) (by decide +kernel), rfl, kf_5⟩
theorem fl_X5_28 : FL RX5 28 5 3 false := ⟨RX5, TX5, 4, rfl, by decide, tt_of 293 (by decide +kernel) (by decide +kernel), rfl, kf_5⟩
theorem fl_X6_12 : FL RX6 12 6 0 true := ⟨RX6, TX6, 17, rfl, by decide, tt_of 205 (by decide +kernel) (by decide +kernel), rfl, kf_6⟩
theorem fl_X6_18 : FL RX6 18 6 2 true := ⟨RX6, TX6, 17, rfl, by decide, tt_of 212 (by decide +kernel) (by decide +kernel), rfl, kf_6⟩
theorem fl_X6_22 : FL RX6 22 6 3 true := ⟨RX6, TX6, 17, rfl, by decide, tt_of 215 (by decide +kernel) (by decide +kernel), rfl, kf_6⟩
theorem fl_X6_25 : FL RX6 25 6 5 true := ⟨RX6, TX6, 17, rfl, by decide, tt_of 222 (by decide +kernel) (by decide +kernel), rfl, kf_6⟩
theorem fl_X6_28 : FL RX6 28 6 6 true := ⟨RX6, TX6, 17, rfl, by decide, tt_of 225 (by decide +kernel) (by decide +kernel), rfl, kf_6⟩
theorem fl_X6_31 : FL RX6 31 6 7 false := ⟨RX6, TX6, 17, rfl, by decide, tt_of 229 (by decide +kernel) (by decide +kernel), rfl, kf_6⟩
theorem fl_X6_35 : FL RX6 35 6 9 false := ⟨RX6, TX6, 17, rfl, by decide, tt_of 234 (by decide +kernel) (by decide +kernel), rfl, kf_6⟩
theorem fl_X6_38 : FL RX6 38 6 11 true := ⟨RX6, TX6, 17, rfl, by decide, tt_of 239 (by decide +kernel) (by decide +kernel), rfl, kf_6⟩
theorem fl_X6_43 : FL RX6 43 6 13 true := ⟨RX6, TX6, 17, rfl, by decide, tt_of 242 (by decide +kernel) (by decide +kernel), rfl, kf_6⟩
theorem fl_X6_50 : FL RX6 50 6 14 true := ⟨RX6, TX6, 17, rfl, by decide, tt_of 244 (by decide +kernel) (by decide +kernel), rfl, kf_6⟩
theorem fl_X6_54 : FL RX6 54 6 15 false := ⟨RX6, TX6, 17, rfl, by decide, tt_of 245 (by decide +kernel) (by decide +kernel), rfl, kf_6⟩
theorem fl_X6_61 : FL RX6 61 6 1 false := ⟨RX6, TX6, 17, rfl, by decide, tt_of 209 (by decide +kernel) (by decide +kernel), rfl, kf_6⟩
theorem fl_X6_70 : FL RX6 70 6 4 false := ⟨RX6, TX6, 17, rfl, by decide, tt_of 219 (by decide +kernel) (by decide +kernel), rfl, kf_6⟩
theorem fl_X6_73 : FL RX6 73 6 8 false := ⟨RX6, TX6, 17, rfl, by decide, tt_of 232 (by decide +kernel) (by decide +kernel), rfl, kf_6⟩
theorem fl_X6_76 : FL RX6 76 6 10 false := ⟨RX6, TX6, 17, rfl, by decide, tt_of 237 (by decide +kernel) (by decide +kernel), rfl, kf_6⟩
theorem fl_X6_79 : FL RX6 79 6 12 false := ⟨RX6, TX6, 17, rfl, by decide, tt_of 240 (by decide +kernel) (by decide +kernel), rfl, kf_6⟩
theorem fl_X6_88 : FL RX6 88 7 0 true := ⟨RX7, TX7, 4, rfl, by decide, tt_of 152 (by decide +kernel) (by decide +kernel), rfl, kf_7⟩
theorem fl_X6_91 : FL RX6 91 7 1 true := ⟨RX7, TX7, 4, rfl, by decide, tt_of 156 (by decide +kernel) (by decide +kernel), rfl, kf_7⟩
theorem fl_X7_9 : FL RX7 9 7 0 true := ⟨RX7, TX7, 4, rfl, by decide, tt_of 149 (by decide +kernel) (by decide +kernel), rfl, kf_7⟩
theorem fl_X7_15 : FL RX7 15 7 1 true := ⟨RX7, TX7, 4, rfl, by decide, tt_of 153 (by decide +kernel) (by decide +kernel), rfl, kf_7⟩
theorem fl_X7_24 : FL RX7 24 7 2 false := ⟨RX7, TX7, 4, rfl, by decide, tt_of 158 (by decide +kernel) (by decide +kernel), rfl, kf_7⟩
theorem fl_X7_28 : FL RX7 28 7 3 false := ⟨RX7, TX7, 4, rfl, by decide, tt_of 162 (by decide +kernel) (by decide +kernel), rfl, kf_7⟩
theorem fl_X8_15 : FL RX8 15 8 0 true := ⟨RX8, TX8, 4, rfl, by decide, tt_of 185 (by decide +kernel) (by decide +kernel), rfl, kf_8⟩
theorem fl_X8_21 : FL RX8 21 8 1 true := ⟨RX8, TX8, 4, rfl, by decide, tt_of 189 (by decide +kernel) (by decide +kernel), rfl, kf_8⟩
theorem fl_X8_24 : FL RX8 24 8 2 false := ⟨RX8, TX8, 4, rfl, by decide, tt_of 190 (by decide +kernel) (by decide +kernel), rfl, kf_8⟩
theorem fl_X8_28 : FL RX8 28 8 3 false := ⟨RX8, TX8, 4, rfl, by decide, tt_of 193 (by decide +kernel) (by decide +kernel), rfl, kf_8⟩
theorem fl_X9_9 : FL RX9 9 9 0 true := ⟨RX9, TX9, 4, rfl, by decide, tt_of 424 (by decide +kernel) (by decide +kernel), rfl, kf_9⟩
theorem fl_X9_15 : FL RX9 15 9 1 true := ⟨RX9, TX9, 4, rfl, by decide, tt_of 426 (by decide +kernel) (by decide +kernel), rfl, kf_9⟩
theorem fl_X9_18 : FL RX9 18 9 2 true := ⟨RX9, TX9, 4, rfl, by decide, tt_of 428 (by decide +kernel) (by decide +kernel), rfl, kf_9⟩
theorem fl_X9_21 : FL RX9 21 9 3 false := ⟨RX9, TX9, 4, rfl, by decide, tt_of 430 (by decide +kernel) (by decide +kernel), rfl, kf_9⟩
theorem fl_X11_7 : FL RX11 7 11 2 true := ⟨RX11, TX11, 58, rfl, by decide, tt_of 1191 (by decide +kernel) (by decide +kernel), rfl, kf_11⟩
theorem fl_X11_13 : FL RX11 13 11 3 true := ⟨RX11, TX11, 58, rfl, by decide, tt_of 1192 (by decide +kernel) (by decide +kernel), rfl, kf_11⟩
theorem fl_X11_16 : FL RX11 16 11 4 true := ⟨RX11, TX11, 58, rfl, by decide, tt_of 1193 (by decide +kernel) (by decide +kernel), rfl, kf_11⟩
theorem fl_X11_19 : FL RX11 19 11 5 true := ⟨RX11, TX11, 58, rfl, by decide, tt_of 1194 (by decide +kernel) (by decide +kernel), rfl, kf_11⟩
theorem fl_X11_23 : FL RX11 23 11 6 true := ⟨RX11, TX11, 58, rfl, by decide, tt_of 1195 (by decide +kernel) (by decide +kernel), rfl, kf_11⟩
theorem fl_X11_26 : FL RX11 26 11 7 true := ⟨RX11, TX11, 58, rfl, by decide, tt_of 1196 (by decide +kernel) (by decide +kernel), rfl, kf_11⟩
theorem fl_X11_29 : FL RX11 29 11 9 true := ⟨RX11, TX11, 58, rfl, by decide, tt_of 1198 (by decide +kernel) (by decide +kernel), rfl, kf_11⟩
theorem fl_X11_32 : FL RX11 32 11 10 true := ⟨RX11, TX11, 58, rfl, by decide, tt_of 1199 (by decide +kernel) (by decide +kernel), rfl, kf_11⟩
theorem fl_X11_35 : FL RX11 35 11 12 true := ⟨RX11, TX11, 58, rfl, by decide, tt_of 1201 (by decide +kernel) (by decide +kernel), rfl, kf_11⟩
theorem fl_X11_38 : FL RX11 38 11 18 false := ⟨RX11, TX11, 58, rfl, by decide, tt_of 1207 (by decide +kernel) (by decide +kernel), rfl, kf_11⟩
theorem fl_X11_42 : FL RX11 42 11 22 true := ⟨RX11, TX11, 58, rfl, by decide, tt_of 1211 (by decide +kernel) (by decide +kernel), rfl, kf_11⟩
theorem fl_X11_45 : FL RX11 45 11 24 true := ⟨RX11, TX11, 58, rfl, by decide, tt_of 1213 (by decide +kernel) (by decide +kernel), rfl, kf_11⟩
theorem fl_X11_48 : FL RX11 48 11 25 true := ⟨RX11, TX11, 58, rfl, by decide, tt_of 1214 (by decide +kernel) (by decide +kernel), rfl, kf_11⟩
theorem fl_X11_51 : FL RX11 51 11 27 true := ⟨RX11, TX11, 58, rfl, by decide, tt_of 1216 (by decide +kernel) (by decide +kernel), rfl, kf_11⟩
theorem fl_X11_54 : FL RX11 54 11 28 true := ⟨RX11, TX11, 58, rfl, by decide, tt_of 1217 (by decide +kernel) (by decide +kernel), rfl, kf_11⟩
theorem fl_X11_75 : FL RX11 75 11 31 true := ⟨RX11, TX11, 58, rfl, by decide, tt_of 1220 (by decide +kernel) (by decide +kernel), rfl, kf_11⟩
theorem fl_X11_87 : FL RX11 87 11 32 true := ⟨RX11, TX11, 58, rfl, by decide, tt_of 1221 (by decide +kernel) (by decide +kernel), rfl, kf_11⟩
theorem fl_X11_96 : FL RX11 96 11 33 true := ⟨RX11, TX11, 58, rfl, by decide, tt_of 1222 (by decide +kernel) (by decide +kernel), rfl, kf_11⟩
theorem fl_X11_99 : FL RX11 99 11 35 true := ⟨RX11, TX11, 58, rfl, by decide, tt_of 1224 (by decide +kernel) (by decide +kernel), rfl, kf_11⟩
theorem fl_X11_102 : FL RX11 102 11 36 true := ⟨RX11, TX11, 58, rfl, by decide, tt_of 1225 (by decide +kernel) (by decide +kernel), rfl, kf_11⟩
theorem fl_X11_105 : FL RX11 105 11 37 true := ⟨RX11, TX11, 58, rfl, by decide, tt_of 1226 (by decide +kernel) (by decide +kernel), rfl, kf_11⟩
theorem fl_X11_108 : FL RX11 108 11 41 true := ⟨RX11, TX11, 58, rfl, by decide, tt_of 1230 (by decide +kernel) (by decide +kernel), rfl, kf_11⟩
theorem fl_X11_111 : FL RX11 111 11 42 true := ⟨RX11, TX11, 58, rfl, by decide, tt_of 1231 (by decide +kernel) (by decide +kernel), rfl, kf_11⟩
theorem fl_X11_114 : FL RX11 114 11 43 true := ⟨RX11, TX11, 58, rfl, by decide, tt_of 1232 (by decide +kernel) (by decide +kernel), rfl, kf_11⟩
theorem fl_X11_117 : FL RX11 117 11 44 true := ⟨RX11, TX11, 58, rfl, by decide, tt_of 1233 (by decide +kernel) (by decide +kernel), rfl, kf_11⟩
theorem fl_X11_120 : FL RX11 120 11 46 true := ⟨RX11, TX11, 58, rfl, by decide, tt_of 1235 (by decide +kernel) (by decide +kernel), rfl, kf_11⟩
theorem fl_X11_123 : FL RX11 123 11 47 true := ⟨RX11, TX11, 58, rfl, by decide, tt_of 1236 (by decide +kernel) (by decide +kernel), rfl, kf_11⟩
theorem fl_X11_134 : FL RX11 134 11 48 true := ⟨RX11, TX11, 58, rfl, by decide, tt_of 1237 (by decide +kernel) (by decide +kernel), rfl, kf_11⟩
theorem fl_X11_137 : FL RX11 137 11 49 true := ⟨RX11, TX11, 58, rfl, by decide, tt_of 1238 (by decide +kernel) (by decide +kernel), rfl, kf_11⟩
theorem fl_X11_140 : FL RX11 140 11 52 false := ⟨RX11, TX11, 58, rfl, by decide, tt_of 1241 (by decide +kernel) (by decide +kernel), rfl, kf_11⟩
theorem fl_X11_143 : FL RX11 143 11 55 true := ⟨RX11, TX11, 58, rfl, by decide, tt_of 1244 (by decide +kernel) (by decide +kernel), rfl, kf_11⟩
theorem fl_X11_146 : FL RX11 146 11 56 false := ⟨RX11, TX11, 58, rfl, by decide, tt_of 1245 (by decide +kernel) (by decide +kernel), rfl, kf_11⟩
theorem fl_X11_149 : FL RX11 149 11 57 false := ⟨RX11, TX11, 58, rfl, by decide, tt_of 1246 (by decide +kernel) (by decide +kernel), rfl, kf_11⟩
theorem fl_X11_152 : FL RX11 152 11 0 false := ⟨RX11, TX11, 58, rfl, by decide, tt_of 1189 (by decide +kernel) (by decide +kernel), rfl, kf_11⟩
theorem fl_X11_155 : FL RX11 155 11 1 false := ⟨RX11, TX11, 58, rfl, by decide, tt_of 1190 (by decide +kernel) (by decide +kernel), rfl, kf_11⟩
theorem fl_X11_158 : FL RX11 158 11 8 false := ⟨RX11, TX11, 58, rfl, by decide, tt_of 1197 (by decide +kernel) (by decide +kernel), rfl, kf_11⟩
theorem fl_X11_243 : FL RX11 243 11 13 false := ⟨RX11, TX11, 58, rfl, by decide, tt_of 1202 (by decide +kernel) (by decide +kernel), rfl, kf_11⟩
theorem fl_X11_246 : FL RX11 246 11 11 false := ⟨RX11, TX11, 58, rfl, by decide, tt_of 1200 (by decide +kernel) (by decide +kernel), rfl, kf_11⟩
theorem fl_X11_255 : FL RX11 255 11 15 false := ⟨RX11, TX11, 58, rfl, by decide, tt_of 1204 (by decide +kernel) (by decide +kernel), rfl, kf_11⟩
theorem fl_X11_258 : FL RX11 258 11 19 false := ⟨RX11, TX11, 58, rfl, by decide, tt_of 1208 (by decide +kernel) (by decide +kernel), rfl, kf_11⟩
theorem fl_X11_265 : FL RX11 265 11 14 false := ⟨RX11, TX11, 58, rfl, by decide, tt_of 1203 (by decide +kernel) (by decide +kernel), rfl, kf_11⟩
theorem fl_X11_268 : FL RX11 268 11 17 false := ⟨RX11, TX11, 58, rfl, by decide, tt_of 1206 (by decide +kernel) (by decide +kernel), rfl, kf_11⟩
theorem fl_X11_278 : FL RX11 278 11 16 false := ⟨RX11, TX11, 58, rfl, by decide, tt_of 1205 (by decide +kernel) (by decide +kernel), rfl, kf_11⟩
theorem fl_X11_293 : FL RX11 293 11 23 false := ⟨RX11, TX11, 58, rfl, by decide, tt_of 1212 (by decide +kernel) (by decide +kernel), rfl, kf_11⟩
theorem fl_X11_296 : FL RX11 296 11 29 false := ⟨RX11, TX11, 58, rfl, by decide, tt_of 1218 (by decide +kernel) (by decide +kernel), rfl, kf_11⟩
theorem fl_X11_316 : FL RX11 316 11 30 false := ⟨RX11, TX11, 58, rfl, by decide, tt_of 1219 (by decide +kernel) (by decide +kernel), rfl, kf_11⟩
theorem fl_X11_322 : FL RX11 322 11 26 false := ⟨RX11, TX11, 58, rfl, by decide, tt_of 1215 (by decide +kernel) (by decide +kernel), rfl, kf_11⟩
theorem fl_X11_331 : FL RX11 331 11 20 false := ⟨RX11, TX11, 58, rfl, by decide, tt_of 1209 (by decide +kernel) (by decide +kernel), rfl, kf_11⟩
theorem fl_X11_385 : FL RX11 385 11 21 false := ⟨RX11, TX11, 58, rfl, by decide, tt_of 1210 (by decide +kernel) (by decide +kernel), rfl, kf_11⟩
theorem fl_X11_405 : FL RX11 405 11 38 false := ⟨RX11, TX11, 58, rfl, by decide, tt_of 1227 (by decide +kernel) (by decide +kernel), rfl, kf_11⟩
theorem fl_X11_408 : FL RX11 408 11 34 false := ⟨RX11, TX11, 58, rfl, by decide, tt_of 1223 (by decide +kernel) (by decide +kernel), rfl, kf_11⟩
theorem fl_X11_419 : FL RX11 419 11 39 false := ⟨RX11, TX11, 58, rfl, by decide, tt_of 1228 (by decide +kernel) (by decide +kernel), rfl, kf_11⟩
theorem fl_X11_425 : FL RX11 425 11 40 false := ⟨RX11, TX11, 58, rfl, by decide, tt_of 1229 (by decide +kernel) (by decide +kernel), rfl, kf_11⟩
theorem fl_X11_472 : FL RX11 472 11 45 false := ⟨RX11, TX11, 58, rfl, by decide, tt_of 1234 (by decide +kernel) (by decide +kernel), rfl, kf_11⟩
theorem fl_X11_513 : FL RX11 513 11 53 false := ⟨RX11, TX11, 58, rfl, by decide, tt_of 1242 (by decide +kernel) (by decide +kernel), rfl, kf_11⟩
theorem fl_X11_516 : FL RX11 516 11 50 false := ⟨RX11, TX11, 58, rfl, by decide, tt_of 1239 (by decide +kernel) (by decide +kernel), rfl, kf_11⟩
theorem fl_X11_519 : FL RX11 519 11 51 false := ⟨RX11, TX11, 58, rfl, by decide, tt_of 1240 (by decide +kernel) (by decide +kernel), rfl, kf_11⟩
theorem fl_X11_538 : FL RX11 538 11 54 false := ⟨RX11, TX11, 58, rfl, by decide, tt_of 1243 (by decide +kernel) (by decide +kernel), rfl, kf_11⟩
theorem ml_X10_3 : Cond.methodLink RX10 3 objectInit ∈ TT := tt_of 134 (by decide +kernel) (by decide +kernel)
theorem ml_X10_60 : Cond.methodLink RX10 60 yX1_init ∈ TT := tt_of 353 (by decide +kernel) (by decide +kernel)
theorem ml_X10_69 : Cond.methodLink RX10 69 yX0_init ∈ TT := tt_of 381 (by decide +kernel) (by decide +kernel)
theorem ml_X10_96 : Cond.methodLink RX10 96 yX10_refuse ∈ TT := tt_of 525 (by decide +kernel) (by decide +kernel)
theorem ml_X10_103 : Cond.methodLink RX10 103 yX5_clear ∈ TT := tt_of 529 (by decide +kernel) (by decide +kernel)
theorem ml_X10_106 : Cond.methodLink RX10 106 yX6_addBird ∈ TT := tt_of 533 (by decide +kernel) (by decide +kernel)
theorem ml_X10_110 : Cond.methodLink RX10 110 yX10_accept ∈ TT := tt_of 540 (by decide +kernel) (by decide +kernel)
theorem ml_X10_113 : Cond.methodLink RX10 113 yX6_hasBird ∈ TT := tt_of 548 (by decide +kernel) (by decide +kernel)
theorem ml_X10_129 : Cond.methodLink RX10 129 yX1_whomHears ∈ TT := tt_of 556 (by decide +kernel) (by decide +kernel)
theorem ml_X10_133 : Cond.methodLink RX10 133 yX6_hasMatter ∈ TT := tt_of 567 (by decide +kernel) (by decide +kernel)
theorem ml_X10_136 : Cond.methodLink RX10 136 yX1_swayed ∈ TT := tt_of 571 (by decide +kernel) (by decide +kernel)
theorem ml_X10_140 : Cond.methodLink RX10 140 yX6_lawInForce ∈ TT := tt_of 615 (by decide +kernel) (by decide +kernel)
theorem ml_X10_144 : Cond.methodLink RX10 144 yX1_vote ∈ TT := tt_of 616 (by decide +kernel) (by decide +kernel)
theorem ml_X10_151 : Cond.methodLink RX10 151 yX6_addMatter ∈ TT := tt_of 624 (by decide +kernel) (by decide +kernel)
theorem ml_X10_163 : Cond.methodLink RX10 163 yX1_timeTaken ∈ TT := tt_of 632 (by decide +kernel) (by decide +kernel)
theorem ml_X10_166 : Cond.methodLink RX10 166 yX1_poll ∈ TT := tt_of 636 (by decide +kernel) (by decide +kernel)
theorem ml_X10_176 : Cond.methodLink RX10 176 yX7_become ∈ TT := tt_of 641 (by decide +kernel) (by decide +kernel)
theorem ml_X10_180 : Cond.methodLink RX10 180 yX1_dividing ∈ TT := tt_of 648 (by decide +kernel) (by decide +kernel)
theorem ml_X10_183 : Cond.methodLink RX10 183 yX10_largestTerm ∈ TT := tt_of 669 (by decide +kernel) (by decide +kernel)
theorem ml_X10_186 : Cond.methodLink RX10 186 yX10_term ∈ TT := tt_of 672 (by decide +kernel) (by decide +kernel)
theorem ml_X10_204 : Cond.methodLink RX10 204 yX10_feedFour ∈ TT := tt_of 680 (by decide +kernel) (by decide +kernel)
theorem ml_X10_208 : Cond.methodLink RX10 208 yX10_canBeBird ∈ TT := tt_of 692 (by decide +kernel) (by decide +kernel)
theorem ml_X10_211 : Cond.methodLink RX10 211 yX10_addBirdOfRow ∈ TT := tt_of 696 (by decide +kernel) (by decide +kernel)
theorem ml_X10_220 : Cond.methodLink RX10 220 yX3_read ∈ TT := tt_of 708 (by decide +kernel) (by decide +kernel)
theorem ml_X10_224 : Cond.methodLink RX10 224 yX3_place ∈ TT := tt_of 862 (by decide +kernel) (by decide +kernel)
theorem ml_X10_236 : Cond.methodLink RX10 236 yX8_copied ∈ TT := tt_of 866 (by decide +kernel) (by decide +kernel)
theorem ml_X10_241 : Cond.methodLink RX10 241 yX5_become ∈ TT := tt_of 878 (by decide +kernel) (by decide +kernel)
theorem ml_X10_250 : Cond.methodLink RX10 250 yX10_runClause ∈ TT := tt_of 883 (by decide +kernel) (by decide +kernel)
theorem ml_X10_254 : Cond.methodLink RX10 254 yX8_head ∈ TT := tt_of 887 (by decide +kernel) (by decide +kernel)
theorem ml_X10_257 : Cond.methodLink RX10 257 yX10_tellOrders ∈ TT := tt_of 888 (by decide +kernel) (by decide +kernel)
theorem ml_X10_263 : Cond.methodLink RX10 263 yX4_reckon ∈ TT := tt_of 897 (by decide +kernel) (by decide +kernel)
theorem ml_X10_270 : Cond.methodLink RX10 270 yX10_act ∈ TT := tt_of 898 (by decide +kernel) (by decide +kernel)
theorem ml_X10_280 : Cond.methodLink RX10 280 yX1_present ∈ TT := tt_of 892 (by decide +kernel) (by decide +kernel)
theorem ml_X10_284 : Cond.methodLink RX10 284 yJ6_bitCount_0f7a4 ∈ TT := tt_of 896 (by decide +kernel) (by decide +kernel)
theorem ml_X10_289 : Cond.methodLink RX10 289 yX6_hasLaw ∈ TT := tt_of 944 (by decide +kernel) (by decide +kernel)
theorem ml_X10_295 : Cond.methodLink RX10 295 yX5_note ∈ TT := tt_of 902 (by decide +kernel) (by decide +kernel)
theorem ml_X10_298 : Cond.methodLink RX10 298 yX1_moving ∈ TT := tt_of 910 (by decide +kernel) (by decide +kernel)
theorem ml_X10_301 : Cond.methodLink RX10 301 yX1_flying ∈ TT := tt_of 919 (by decide +kernel) (by decide +kernel)
theorem ml_X10_304 : Cond.methodLink RX10 304 yX1_passing ∈ TT := tt_of 923 (by decide +kernel) (by decide +kernel)
theorem ml_X10_307 : Cond.methodLink RX10 307 yX5_keep ∈ TT := tt_of 927 (by decide +kernel) (by decide +kernel)
theorem ml_X10_310 : Cond.methodLink RX10 310 yX10_answer ∈ TT := tt_of 949 (by decide +kernel) (by decide +kernel)
theorem ml_X10_313 : Cond.methodLink RX10 313 yX5_takeBack ∈ TT := tt_of 969 (by decide +kernel) (by decide +kernel)
theorem ml_X10_316 : Cond.methodLink RX10 316 yX1_seconder ∈ TT := tt_of 981 (by decide +kernel) (by decide +kernel)
theorem ml_X10_319 : Cond.methodLink RX10 319 yX0_begin ∈ TT := tt_of 986 (by decide +kernel) (by decide +kernel)
theorem ml_X10_322 : Cond.methodLink RX10 322 yX1_moved ∈ TT := tt_of 991 (by decide +kernel) (by decide +kernel)
theorem ml_X10_338 : Cond.methodLink RX10 338 yX1_fewest ∈ TT := tt_of 1014 (by decide +kernel) (by decide +kernel)
theorem ml_X10_342 : Cond.methodLink RX10 342 yX10_howManyOrWho ∈ TT := tt_of 1018 (by decide +kernel) (by decide +kernel)
theorem ml_X10_345 : Cond.methodLink RX10 345 yX1_hops ∈ TT := tt_of 1029 (by decide +kernel) (by decide +kernel)
theorem ml_X10_348 : Cond.methodLink RX10 348 yX1_chainBird ∈ TT := tt_of 1037 (by decide +kernel) (by decide +kernel)
theorem ml_X10_351 : Cond.methodLink RX10 351 yX1_fewestEars ∈ TT := tt_of 1045 (by decide +kernel) (by decide +kernel)
theorem ml_X10_354 : Cond.methodLink RX10 354 yX1_hearers ∈ TT := tt_of 1062 (by decide +kernel) (by decide +kernel)
theorem ml_X10_357 : Cond.methodLink RX10 357 Lib.Math.max.name ∈ TT := tt_of 1067 (by decide +kernel) (by decide +kernel)
theorem ml_X10_362 : Cond.methodLink RX10 362 Lib.Math.abs.name ∈ TT := tt_of 1068 (by decide +kernel) (by decide +kernel)
theorem ml_X10_368 : Cond.methodLink RX10 368 yX6_hear ∈ TT := tt_of 1073 (by decide +kernel) (by decide +kernel)
theorem ml_X10_371 : Cond.methodLink RX10 371 yX1_mattersAsHeard ∈ TT := tt_of 1085 (by decide +kernel) (by decide +kernel)
theorem ml_X10_374 : Cond.methodLink RX10 374 yX10_canBe ∈ TT := tt_of 1097 (by decide +kernel) (by decide +kernel)
theorem ml_X10_377 : Cond.methodLink RX10 377 yX1_mattersAyeOn ∈ TT := tt_of 1098 (by decide +kernel) (by decide +kernel)
theorem ml_X10_386 : Cond.methodLink RX10 386 yX6_lawOf ∈ TT := tt_of 1113 (by decide +kernel) (by decide +kernel)
theorem ml_X10_391 : Cond.methodLink RX10 391 yX2_begin ∈ TT := tt_of 1119 (by decide +kernel) (by decide +kernel)
theorem ml_X10_395 : Cond.methodLink RX10 395 yX2_step ∈ TT := tt_of 1124 (by decide +kernel) (by decide +kernel)
theorem ml_X10_400 : Cond.methodLink RX10 400 yX6_become ∈ TT := tt_of 1145 (by decide +kernel) (by decide +kernel)
theorem ml_X0_3 : Cond.methodLink RX0 3 objectInit ∈ TT := tt_of 384 (by decide +kernel) (by decide +kernel)
theorem ml_X0_32 : Cond.methodLink RX0 32 yX7_become ∈ TT := tt_of 990 (by decide +kernel) (by decide +kernel)
theorem ml_X0_43 : Cond.methodLink RX0 43 arraycopyName ∈ TT := tt_of 999 (by decide +kernel) (by decide +kernel)
theorem ml_X0_49 : Cond.methodLink RX0 49 yX0_divisionAt ∈ TT := tt_of 1000 (by decide +kernel) (by decide +kernel)
theorem ml_X0_64 : Cond.methodLink RX0 64 yX0_goOn ∈ TT := tt_of 1005 (by decide +kernel) (by decide +kernel)
theorem ml_X0_74 : Cond.methodLink RX0 74 yX1_dividing ∈ TT := tt_of 1004 (by decide +kernel) (by decide +kernel)
theorem ml_X1_3 : Cond.methodLink RX1 3 objectInit ∈ TT := tt_of 356 (by decide +kernel) (by decide +kernel)
theorem ml_X1_57 : Cond.methodLink RX1 57 yX1_tellLaw ∈ TT := tt_of 579 (by decide +kernel) (by decide +kernel)
theorem ml_X1_61 : Cond.methodLink RX1 61 Lib.Math.min.name ∈ TT := tt_of 613 (by decide +kernel) (by decide +kernel)
theorem ml_X1_67 : Cond.methodLink RX1 67 Lib.Math.max.name ∈ TT := tt_of 614 (by decide +kernel) (by decide +kernel)
theorem ml_X1_70 : Cond.methodLink RX1 70 yX1_tellBird ∈ TT := tt_of 575 (by decide +kernel) (by decide +kernel)
theorem ml_X1_74 : Cond.methodLink RX1 74 yX6_lawInForce ∈ TT := tt_of 583 (by decide +kernel) (by decide +kernel)
theorem ml_X1_78 : Cond.methodLink RX1 78 yX4_holds ∈ TT := tt_of 595 (by decide +kernel) (by decide +kernel)
theorem ml_X1_85 : Cond.methodLink RX1 85 yX1_within ∈ TT := tt_of 610 (by decide +kernel) (by decide +kernel)
theorem ml_X1_98 : Cond.methodLink RX1 98 yX1_vote ∈ TT := tt_of 640 (by decide +kernel) (by decide +kernel)
theorem ml_X1_108 : Cond.methodLink RX1 108 Lib.Math.abs.name ∈ TT := tt_of 564 (by decide +kernel) (by decide +kernel)
theorem ml_X1_115 : Cond.methodLink RX1 115 yX1_hears ∈ TT := tt_of 560 (by decide +kernel) (by decide +kernel)
theorem ml_X1_119 : Cond.methodLink RX1 119 yX6_hasMatter ∈ TT := tt_of 652 (by decide +kernel) (by decide +kernel)
theorem ml_X1_123 : Cond.methodLink RX1 123 yX6_hasBird ∈ TT := tt_of 914 (by decide +kernel) (by decide +kernel)
theorem ml_X1_126 : Cond.methodLink RX1 126 yX1_seconder ∈ TT := tt_of 915 (by decide +kernel) (by decide +kernel)
theorem ml_X1_130 : Cond.methodLink RX1 130 yX1_poll ∈ TT := tt_of 653 (by decide +kernel) (by decide +kernel)
theorem ml_X1_134 : Cond.methodLink RX1 134 yX1_timeTaken ∈ TT := tt_of 654 (by decide +kernel) (by decide +kernel)
theorem ml_X1_138 : Cond.methodLink RX1 138 yJ6_bitCount_0f7a4 ∈ TT := tt_of 655 (by decide +kernel) (by decide +kernel)
theorem ml_X1_146 : Cond.methodLink RX1 146 yX1_wouldCarry ∈ TT := tt_of 661 (by decide +kernel) (by decide +kernel)
theorem ml_X1_150 : Cond.methodLink RX1 150 yX1_nextInChain ∈ TT := tt_of 1033 (by decide +kernel) (by decide +kernel)
theorem ml_X1_153 : Cond.methodLink RX1 153 yX1_present ∈ TT := tt_of 1049 (by decide +kernel) (by decide +kernel)
theorem ml_X1_157 : Cond.methodLink RX1 157 yX1_hearers ∈ TT := tt_of 1050 (by decide +kernel) (by decide +kernel)
theorem ml_X1_160 : Cond.methodLink RX1 160 yX1_hearAll ∈ TT := tt_of 1054 (by decide +kernel) (by decide +kernel)
theorem ml_X1_163 : Cond.methodLink RX1 163 yX6_fitsAllHeard ∈ TT := tt_of 1089 (by decide +kernel) (by decide +kernel)
theorem ml_X2_3 : Cond.methodLink RX2 3 objectInit ∈ TT := tt_of 311 (by decide +kernel) (by decide +kernel)
theorem ml_X2_21 : Cond.methodLink RX2 21 yX7_become ∈ TT := tt_of 1123 (by decide +kernel) (by decide +kernel)
theorem ml_X2_38 : Cond.methodLink RX2 38 yX2_draw ∈ TT := tt_of 1128 (by decide +kernel) (by decide +kernel)
theorem ml_X2_42 : Cond.methodLink RX2 42 yX1_moving ∈ TT := tt_of 1133 (by decide +kernel) (by decide +kernel)
theorem ml_X2_48 : Cond.methodLink RX2 48 yX1_dividing ∈ TT := tt_of 1134 (by decide +kernel) (by decide +kernel)
theorem ml_X2_52 : Cond.methodLink RX2 52 yX1_flying ∈ TT := tt_of 1135 (by decide +kernel) (by decide +kernel)
theorem ml_X2_55 : Cond.methodLink RX2 55 yX1_passing ∈ TT := tt_of 1136 (by decide +kernel) (by decide +kernel)
theorem ml_X3_3 : Cond.methodLink RX3 3 objectInit ∈ TT := tt_of 417 (by decide +kernel) (by decide +kernel)
theorem ml_X3_20 : Cond.methodLink RX3 20 yX8_init ∈ TT := tt_of 442 (by decide +kernel) (by decide +kernel)
theorem ml_X3_27 : Cond.methodLink RX3 27 yX9_cut ∈ TT := tt_of 712 (by decide +kernel) (by decide +kernel)
theorem ml_X3_48 : Cond.methodLink RX3 48 yX3_kind ∈ TT := tt_of 786 (by decide +kernel) (by decide +kernel)
theorem ml_X3_52 : Cond.methodLink RX3 52 yX3_setHead ∈ TT := tt_of 790 (by decide +kernel) (by decide +kernel)
theorem ml_X3_55 : Cond.methodLink RX3 55 yX3_lawClause ∈ TT := tt_of 798 (by decide +kernel) (by decide +kernel)
theorem ml_X3_59 : Cond.methodLink RX3 59 yX3_orderClause ∈ TT := tt_of 838 (by decide +kernel) (by decide +kernel)
theorem ml_X3_62 : Cond.methodLink RX3 62 yX3_next ∈ TT := tt_of 802 (by decide +kernel) (by decide +kernel)
theorem ml_X3_65 : Cond.methodLink RX3 65 yX3_test ∈ TT := tt_of 846 (by decide +kernel) (by decide +kernel)
theorem ml_X3_82 : Cond.methodLink RX3 82 yX8_setHead ∈ TT := tt_of 794 (by decide +kernel) (by decide +kernel)
theorem ml_X3_88 : Cond.methodLink RX3 88 yX3_sum ∈ TT := tt_of 806 (by decide +kernel) (by decide +kernel)
theorem ml_X3_91 : Cond.methodLink RX3 91 yX3_times ∈ TT := tt_of 842 (by decide +kernel) (by decide +kernel)
theorem ml_X3_94 : Cond.methodLink RX3 94 yX3_isNumber ∈ TT := tt_of 818 (by decide +kernel) (by decide +kernel)
theorem ml_X3_98 : Cond.methodLink RX3 98 yX3_number ∈ TT := tt_of 822 (by decide +kernel) (by decide +kernel)
theorem ml_X3_101 : Cond.methodLink RX3 101 yX3_plain ∈ TT := tt_of 850 (by decide +kernel) (by decide +kernel)
theorem ml_X3_104 : Cond.methodLink RX3 104 yX3_leapHere ∈ TT := tt_of 858 (by decide +kernel) (by decide +kernel)
theorem ml_X3_108 : Cond.methodLink RX3 108 yX3_emit ∈ TT := tt_of 826 (by decide +kernel) (by decide +kernel)
theorem ml_X3_111 : Cond.methodLink RX3 111 yX3_testInBrackets ∈ TT := tt_of 854 (by decide +kernel) (by decide +kernel)
theorem ml_X3_114 : Cond.methodLink RX3 114 yX3_part ∈ TT := tt_of 810 (by decide +kernel) (by decide +kernel)
theorem ml_X3_117 : Cond.methodLink RX3 117 yX3_sumInBrackets ∈ TT := tt_of 814 (by decide +kernel) (by decide +kernel)
theorem ml_X3_120 : Cond.methodLink RX3 120 yX3_lawWord ∈ TT := tt_of 830 (by decide +kernel) (by decide +kernel)
theorem ml_X3_123 : Cond.methodLink RX3 123 yX3_orderWord ∈ TT := tt_of 834 (by decide +kernel) (by decide +kernel)
theorem ml_X4_3 : Cond.methodLink RX4 3 objectInit ∈ TT := tt_of 335 (by decide +kernel) (by decide +kernel)
theorem ml_X4_25 : Cond.methodLink RX4 25 yX8_head ∈ TT := tt_of 599 (by decide +kernel) (by decide +kernel)
theorem ml_X4_32 : Cond.methodLink RX4 32 yX4_reckon ∈ TT := tt_of 603 (by decide +kernel) (by decide +kernel)
theorem ml_X5_5 : Cond.methodLink RX5 5 objectInit ∈ TT := tt_of 289 (by decide +kernel) (by decide +kernel)
theorem ml_X5_24 : Cond.methodLink RX5 24 yX7_writeTo ∈ TT := tt_of 906 (by decide +kernel) (by decide +kernel)
theorem ml_X5_31 : Cond.methodLink RX5 31 Lib.Math.min.name ∈ TT := tt_of 931 (by decide +kernel) (by decide +kernel)
theorem ml_X5_37 : Cond.methodLink RX5 37 yX7_readFrom ∈ TT := tt_of 973 (by decide +kernel) (by decide +kernel)
theorem ml_X5_40 : Cond.methodLink RX5 40 arraycopyName ∈ TT := tt_of 882 (by decide +kernel) (by decide +kernel)
theorem ml_X6_3 : Cond.methodLink RX6 3 objectInit ∈ TT := tt_of 142 (by decide +kernel) (by decide +kernel)
theorem ml_X6_47 : Cond.methodLink RX6 47 yX8_init ∈ TT := tt_of 178 (by decide +kernel) (by decide +kernel)
theorem ml_X6_57 : Cond.methodLink RX6 57 yX7_become ∈ TT := tt_of 1149 (by decide +kernel) (by decide +kernel)
theorem ml_X6_64 : Cond.methodLink RX6 64 arraycopyName ∈ TT := tt_of 1150 (by decide +kernel) (by decide +kernel)
theorem ml_X6_82 : Cond.methodLink RX6 82 Lib.Math.min.name ∈ TT := tt_of 537 (by decide +kernel) (by decide +kernel)
theorem ml_X6_94 : Cond.methodLink RX6 94 yX6_lawOf ∈ TT := tt_of 587 (by decide +kernel) (by decide +kernel)
theorem ml_X6_98 : Cond.methodLink RX6 98 yX6_hasLaw ∈ TT := tt_of 591 (by decide +kernel) (by decide +kernel)
theorem ml_X7_3 : Cond.methodLink RX7 3 objectInit ∈ TT := tt_of 148 (by decide +kernel) (by decide +kernel)
theorem ml_X7_18 : Cond.methodLink RX7 18 arraycopyName ∈ TT := tt_of 645 (by decide +kernel) (by decide +kernel)
theorem ml_X8_3 : Cond.methodLink RX8 3 objectInit ∈ TT := tt_of 181 (by decide +kernel) (by decide +kernel)
theorem ml_X8_9 : Cond.methodLink RX8 9 Lib.Math.max.name ∈ TT := tt_of 182 (by decide +kernel) (by decide +kernel)
theorem ml_X8_31 : Cond.methodLink RX8 31 yX8_init ∈ TT := tt_of 871 (by decide +kernel) (by decide +kernel)
theorem ml_X8_34 : Cond.methodLink RX8 34 arraycopyName ∈ TT := tt_of 872 (by decide +kernel) (by decide +kernel)
theorem ml_X9_3 : Cond.methodLink RX9 3 objectInit ∈ TT := tt_of 423 (by decide +kernel) (by decide +kernel)
theorem ml_X9_25 : Cond.methodLink RX9 25 yX9_endOf ∈ TT := tt_of 716 (by decide +kernel) (by decide +kernel)
theorem ml_X9_29 : Cond.methodLink RX9 29 yX9_kindOf ∈ TT := tt_of 722 (by decide +kernel) (by decide +kernel)
theorem ml_X9_32 : Cond.methodLink RX9 32 yX9_numberOf ∈ TT := tt_of 777 (by decide +kernel) (by decide +kernel)
theorem ml_X9_35 : Cond.methodLink RX9 35 yX9_add ∈ TT := tt_of 782 (by decide +kernel) (by decide +kernel)
theorem ml_X9_39 : Cond.methodLink RX9 39 yX9_sortOf ∈ TT := tt_of 719 (by decide +kernel) (by decide +kernel)
theorem ml_X9_43 : Cond.methodLink RX9 43 yX9_wordOf ∈ TT := tt_of 725 (by decide +kernel) (by decide +kernel)
theorem ml_X9_48 : Cond.methodLink RX9 48 yJ0_length_8abf5 ∈ TT := tt_of 729 (by decide +kernel) (by decide +kernel)
theorem ml_X9_54 : Cond.methodLink RX9 54 yJ0_charAt_5068e ∈ TT := tt_of 739 (by decide +kernel) (by decide +kernel)
theorem ml_X9_58 : Cond.methodLink RX9 58 Lib.Math.max.name ∈ TT := tt_of 780 (by decide +kernel) (by decide +kernel)
theorem ml_X9_64 : Cond.methodLink RX9 64 Lib.Math.min.name ∈ TT := tt_of 781 (by decide +kernel) (by decide +kernel)
theorem ml_L_9 : Cond.methodLink RL 9 yX10_init ∈ TT := tt_of 131 (by decide +kernel) (by decide +kernel)
theorem ml_L_12 : Cond.methodLink RL 12 yX11_init ∈ TT := tt_of 1165 (by decide +kernel) (by decide +kernel)
theorem ml_L_13 : Cond.methodLink RL 13 yX10_bird ∈ TT := tt_of 521 (by decide +kernel) (by decide +kernel)
theorem ml_L_17 : Cond.methodLink RL 17 yX11_bird ∈ TT := tt_of 1392 (by decide +kernel) (by decide +kernel)
theorem ml_L_18 : Cond.methodLink RL 18 yX10_favour ∈ TT := tt_of 544 (by decide +kernel) (by decide +kernel)
theorem ml_L_22 : Cond.methodLink RL 22 yX11_favour ∈ TT := tt_of 1406 (by decide +kernel) (by decide +kernel)
theorem ml_L_23 : Cond.methodLink RL 23 yX10_of ∈ TT := tt_of 552 (by decide +kernel) (by decide +kernel)
theorem ml_L_26 : Cond.methodLink RL 26 yX11_of ∈ TT := tt_of 1419 (by decide +kernel) (by decide +kernel)
theorem ml_L_27 : Cond.methodLink RL 27 yX10_matter ∈ TT := tt_of 620 (by decide +kernel) (by decide +kernel)
theorem ml_L_30 : Cond.methodLink RL 30 yX11_matter ∈ TT := tt_of 1473 (by decide +kernel) (by decide +kernel)
theorem ml_L_31 : Cond.methodLink RL 31 yX10_at ∈ TT := tt_of 628 (by decide +kernel) (by decide +kernel)
theorem ml_L_34 : Cond.methodLink RL 34 yX11_at ∈ TT := tt_of 1477 (by decide +kernel) (by decide +kernel)
theorem ml_L_35 : Cond.methodLink RL 35 yX10_terms ∈ TT := tt_of 665 (by decide +kernel) (by decide +kernel)
theorem ml_L_38 : Cond.methodLink RL 38 yX11_terms ∈ TT := tt_of 1500 (by decide +kernel) (by decide +kernel)
theorem ml_L_39 : Cond.methodLink RL 39 yX10_feed ∈ TT := tt_of 676 (by decide +kernel) (by decide +kernel)
theorem ml_L_43 : Cond.methodLink RL 43 yX11_feed ∈ TT := tt_of 1519 (by decide +kernel) (by decide +kernel)
theorem ml_L_44 : Cond.methodLink RL 44 yX10_end ∈ TT := tt_of 684 (by decide +kernel) (by decide +kernel)
theorem ml_L_48 : Cond.methodLink RL 48 yX11_end ∈ TT := tt_of 1527 (by decide +kernel) (by decide +kernel)
theorem ml_L_49 : Cond.methodLink RL 49 yX10_row ∈ TT := tt_of 688 (by decide +kernel) (by decide +kernel)
theorem ml_L_53 : Cond.methodLink RL 53 yX11_row ∈ TT := tt_of 1507 (by decide +kernel) (by decide +kernel)
theorem ml_L_54 : Cond.methodLink RL 54 yX10_cats ∈ TT := tt_of 700 (by decide +kernel) (by decide +kernel)
theorem ml_L_57 : Cond.methodLink RL 57 yX11_cats ∈ TT := tt_of 1515 (by decide +kernel) (by decide +kernel)
theorem ml_L_58 : Cond.methodLink RL 58 yX10_law ∈ TT := tt_of 704 (by decide +kernel) (by decide +kernel)
theorem ml_L_61 : Cond.methodLink RL 61 yX11_law ∈ TT := tt_of 1535 (by decide +kernel) (by decide +kernel)
theorem ml_L_62 : Cond.methodLink RL 62 yX10_orders ∈ TT := tt_of 874 (by decide +kernel) (by decide +kernel)
theorem ml_L_65 : Cond.methodLink RL 65 yX11_orders ∈ TT := tt_of 1815 (by decide +kernel) (by decide +kernel)
theorem ml_L_66 : Cond.methodLink RL 66 yX10_fault ∈ TT := tt_of 932 (by decide +kernel) (by decide +kernel)
theorem ml_L_69 : Cond.methodLink RL 69 yX11_fault ∈ TT := tt_of 1531 (by decide +kernel) (by decide +kernel)
theorem ml_L_70 : Cond.methodLink RL 70 yX10_stopped ∈ TT := tt_of 936 (by decide +kernel) (by decide +kernel)
theorem ml_L_73 : Cond.methodLink RL 73 yX11_stopped ∈ TT := tt_of 1846 (by decide +kernel) (by decide +kernel)
theorem ml_L_74 : Cond.methodLink RL 74 yX10_force ∈ TT := tt_of 940 (by decide +kernel) (by decide +kernel)
theorem ml_L_77 : Cond.methodLink RL 77 yX11_force ∈ TT := tt_of 1653 (by decide +kernel) (by decide +kernel)
theorem ml_L_78 : Cond.methodLink RL 78 yX10_move ∈ TT := tt_of 945 (by decide +kernel) (by decide +kernel)
theorem ml_L_81 : Cond.methodLink RL 81 yX11_move ∈ TT := tt_of 1661 (by decide +kernel) (by decide +kernel)
theorem ml_L_82 : Cond.methodLink RL 82 yX10_divide ∈ TT := tt_of 953 (by decide +kernel) (by decide +kernel)
theorem ml_L_85 : Cond.methodLink RL 85 yX11_divide ∈ TT := tt_of 1685 (by decide +kernel) (by decide +kernel)
theorem ml_L_86 : Cond.methodLink RL 86 yX10_fly ∈ TT := tt_of 957 (by decide +kernel) (by decide +kernel)
theorem ml_L_89 : Cond.methodLink RL 89 yX11_fly ∈ TT := tt_of 1701 (by decide +kernel) (by decide +kernel)
theorem ml_L_90 : Cond.methodLink RL 90 yX10_pass ∈ TT := tt_of 961 (by decide +kernel) (by decide +kernel)
theorem ml_L_93 : Cond.methodLink RL 93 yX11_pass ∈ TT := tt_of 1709 (by decide +kernel) (by decide +kernel)
theorem ml_L_94 : Cond.methodLink RL 94 yX10_undo ∈ TT := tt_of 965 (by decide +kernel) (by decide +kernel)
theorem ml_L_97 : Cond.methodLink RL 97 yX11_undo ∈ TT := tt_of 1365 (by decide +kernel) (by decide +kernel)
theorem ml_L_98 : Cond.methodLink RL 98 yX10_second ∈ TT := tt_of 977 (by decide +kernel) (by decide +kernel)
theorem ml_L_101 : Cond.methodLink RL 101 yX11_second ∈ TT := tt_of 1721 (by decide +kernel) (by decide +kernel)
theorem ml_L_102 : Cond.methodLink RL 102 yX10_richest ∈ TT := tt_of 982 (by decide +kernel) (by decide +kernel)
theorem ml_L_105 : Cond.methodLink RL 105 yX11_richest ∈ TT := tt_of 1725 (by decide +kernel) (by decide +kernel)
theorem ml_L_106 : Cond.methodLink RL 106 yX10_byClock ∈ TT := tt_of 1006 (by decide +kernel) (by decide +kernel)
theorem ml_L_109 : Cond.methodLink RL 109 yX11_byClock ∈ TT := tt_of 1737 (by decide +kernel) (by decide +kernel)
theorem ml_L_110 : Cond.methodLink RL 110 yX10_spoilt ∈ TT := tt_of 1010 (by decide +kernel) (by decide +kernel)
theorem ml_L_113 : Cond.methodLink RL 113 yX11_spoilt ∈ TT := tt_of 1741 (by decide +kernel) (by decide +kernel)
theorem ml_L_114 : Cond.methodLink RL 114 yX10_come ∈ TT := tt_of 1021 (by decide +kernel) (by decide +kernel)
theorem ml_L_117 : Cond.methodLink RL 117 yX11_come ∈ TT := tt_of 1746 (by decide +kernel) (by decide +kernel)
theorem ml_L_118 : Cond.methodLink RL 118 yX10_chain ∈ TT := tt_of 1025 (by decide +kernel) (by decide +kernel)
theorem ml_L_121 : Cond.methodLink RL 121 yX11_chain ∈ TT := tt_of 1750 (by decide +kernel) (by decide +kernel)
theorem ml_L_122 : Cond.methodLink RL 122 yX10_ears ∈ TT := tt_of 1041 (by decide +kernel) (by decide +kernel)
theorem ml_L_125 : Cond.methodLink RL 125 yX11_ears ∈ TT := tt_of 1758 (by decide +kernel) (by decide +kernel)
theorem ml_L_126 : Cond.methodLink RL 126 yX10_loudest ∈ TT := tt_of 1058 (by decide +kernel) (by decide +kernel)
theorem ml_L_129 : Cond.methodLink RL 129 yX11_loudest ∈ TT := tt_of 1773 (by decide +kernel) (by decide +kernel)
theorem ml_L_130 : Cond.methodLink RL 130 yX10_nearest ∈ TT := tt_of 1063 (by decide +kernel) (by decide +kernel)
theorem ml_L_133 : Cond.methodLink RL 133 yX11_nearest ∈ TT := tt_of 1781 (by decide +kernel) (by decide +kernel)
theorem ml_L_134 : Cond.methodLink RL 134 yX10_heard ∈ TT := tt_of 1069 (by decide +kernel) (by decide +kernel)
theorem ml_L_137 : Cond.methodLink RL 137 yX11_heard ∈ TT := tt_of 1785 (by decide +kernel) (by decide +kernel)
theorem ml_L_138 : Cond.methodLink RL 138 yX10_forget ∈ TT := tt_of 1077 (by decide +kernel) (by decide +kernel)
theorem ml_L_141 : Cond.methodLink RL 141 yX11_forget ∈ TT := tt_of 1789 (by decide +kernel) (by decide +kernel)
theorem ml_L_142 : Cond.methodLink RL 142 yX10_canBe ∈ TT := tt_of 1081 (by decide +kernel) (by decide +kernel)
theorem ml_L_145 : Cond.methodLink RL 145 yX11_canBe ∈ TT := tt_of 1793 (by decide +kernel) (by decide +kernel)
theorem ml_L_146 : Cond.methodLink RL 146 yX10_listen ∈ TT := tt_of 1093 (by decide +kernel) (by decide +kernel)
theorem ml_L_149 : Cond.methodLink RL 149 yX11_listen ∈ TT := tt_of 1801 (by decide +kernel) (by decide +kernel)
theorem ml_L_150 : Cond.methodLink RL 150 yX10_few ∈ TT := tt_of 1102 (by decide +kernel) (by decide +kernel)
theorem ml_L_154 : Cond.methodLink RL 154 yX11_few ∈ TT := tt_of 1805 (by decide +kernel) (by decide +kernel)
theorem ml_L_155 : Cond.methodLink RL 155 yX10_compare ∈ TT := tt_of 1109 (by decide +kernel) (by decide +kernel)
theorem ml_L_158 : Cond.methodLink RL 158 yX11_compare ∈ TT := tt_of 1811 (by decide +kernel) (by decide +kernel)
theorem ml_L_159 : Cond.methodLink RL 159 yX10_mays ∈ TT := tt_of 1114 (by decide +kernel) (by decide +kernel)
theorem ml_L_162 : Cond.methodLink RL 162 yX11_mays ∈ TT := tt_of 1850 (by decide +kernel) (by decide +kernel)
theorem ml_L_163 : Cond.methodLink RL 163 yX10_drawn ∈ TT := tt_of 1137 (by decide +kernel) (by decide +kernel)
theorem ml_L_166 : Cond.methodLink RL 166 yX11_drawn ∈ TT := tt_of 1862 (by decide +kernel) (by decide +kernel)
theorem ml_L_167 : Cond.methodLink RL 167 yX10_image ∈ TT := tt_of 1141 (by decide +kernel) (by decide +kernel)
theorem ml_L_170 : Cond.methodLink RL 170 yX11_image ∈ TT := tt_of 1377 (by decide +kernel) (by decide +kernel)
theorem ml_L_171 : Cond.methodLink RL 171 yX10_back ∈ TT := tt_of 1151 (by decide +kernel) (by decide +kernel)
theorem ml_L_174 : Cond.methodLink RL 174 yX11_back ∈ TT := tt_of 1384 (by decide +kernel) (by decide +kernel)
theorem ml_L_175 : Cond.methodLink RL 175 yX10_count ∈ TT := tt_of 1155 (by decide +kernel) (by decide +kernel)
theorem ml_L_178 : Cond.methodLink RL 178 yX11_count ∈ TT := tt_of 1866 (by decide +kernel) (by decide +kernel)
theorem ml_L_179 : Cond.methodLink RL 179 yX10_status ∈ TT := tt_of 1159 (by decide +kernel) (by decide +kernel)
theorem ml_L_182 : Cond.methodLink RL 182 yX11_status ∈ TT := tt_of 1872 (by decide +kernel) (by decide +kernel)
theorem ml_X11_1 : Cond.methodLink RX11 1 objectInit ∈ TT := tt_of 1168 (by decide +kernel) (by decide +kernel)
theorem ml_X11_161 : Cond.methodLink RX11 161 yX11_tell ∈ TT := tt_of 1369 (by decide +kernel) (by decide +kernel)
theorem ml_X11_165 : Cond.methodLink RX11 165 yX11_keepAll ∈ TT := tt_of 1681 (by decide +kernel) (by decide +kernel)
theorem ml_X11_169 : Cond.methodLink RX11 169 yX11_putBack ∈ TT := tt_of 1373 (by decide +kernel) (by decide +kernel)
theorem ml_X11_172 : Cond.methodLink RX11 172 yX11_in ∈ TT := tt_of 1381 (by decide +kernel) (by decide +kernel)
theorem ml_X11_176 : Cond.methodLink RX11 176 yX11_lasting ∈ TT := tt_of 1388 (by decide +kernel) (by decide +kernel)
theorem ml_X11_183 : Cond.methodLink RX11 183 yX11_isAway ∈ TT := tt_of 1432 (by decide +kernel) (by decide +kernel)
theorem ml_X11_187 : Cond.methodLink RX11 187 yX11_isTree ∈ TT := tt_of 1400 (by decide +kernel) (by decide +kernel)
theorem ml_X11_192 : Cond.methodLink RX11 192 yX11_comes ∈ TT := tt_of 1396 (by decide +kernel) (by decide +kernel)
theorem ml_X11_198 : Cond.methodLink RX11 198 yX11_isBird ∈ TT := tt_of 1411 (by decide +kernel) (by decide +kernel)
theorem ml_X11_201 : Cond.methodLink RX11 201 yX11_change ∈ TT := tt_of 1415 (by decide +kernel) (by decide +kernel)
theorem ml_X11_204 : Cond.methodLink RX11 204 yX11_hears ∈ TT := tt_of 1428 (by decide +kernel) (by decide +kernel)
theorem ml_X11_210 : Cond.methodLink RX11 210 yX11_hearsAll ∈ TT := tt_of 1424 (by decide +kernel) (by decide +kernel)
theorem ml_X11_213 : Cond.methodLink RX11 213 yX11_isMatter ∈ TT := tt_of 1436 (by decide +kernel) (by decide +kernel)
theorem ml_X11_216 : Cond.methodLink RX11 216 yX11_swayOf ∈ TT := tt_of 1440 (by decide +kernel) (by decide +kernel)
theorem ml_X11_219 : Cond.methodLink RX11 219 yX11_sits ∈ TT := tt_of 1465 (by decide +kernel) (by decide +kernel)
theorem ml_X11_222 : Cond.methodLink RX11 222 yX11_isAye ∈ TT := tt_of 1469 (by decide +kernel) (by decide +kernel)
theorem ml_X11_225 : Cond.methodLink RX11 225 yX11_takesOf ∈ TT := tt_of 1481 (by decide +kernel) (by decide +kernel)
theorem ml_X11_228 : Cond.methodLink RX11 228 yX11_sitting ∈ TT := tt_of 1485 (by decide +kernel) (by decide +kernel)
theorem ml_X11_231 : Cond.methodLink RX11 231 yX11_ayes ∈ TT := tt_of 1489 (by decide +kernel) (by decide +kernel)
theorem ml_X11_234 : Cond.methodLink RX11 234 yX11_canDivide ∈ TT := tt_of 1493 (by decide +kernel) (by decide +kernel)
theorem ml_X11_249 : Cond.methodLink RX11 249 yX11_isRow ∈ TT := tt_of 1511 (by decide +kernel) (by decide +kernel)
theorem ml_X11_252 : Cond.methodLink RX11 252 yX11_four ∈ TT := tt_of 1523 (by decide +kernel) (by decide +kernel)
theorem ml_X11_262 : Cond.methodLink RX11 262 yX11_next ∈ TT := tt_of 1547 (by decide +kernel) (by decide +kernel)
theorem ml_X11_272 : Cond.methodLink RX11 272 yX11_isSmall ∈ TT := tt_of 1551 (by decide +kernel) (by decide +kernel)
theorem ml_X11_275 : Cond.methodLink RX11 275 yX11_isDigit ∈ TT := tt_of 1554 (by decide +kernel) (by decide +kernel)
theorem ml_X11_289 : Cond.methodLink RX11 289 yX11_must ∈ TT := tt_of 1569 (by decide +kernel) (by decide +kernel)
theorem ml_X11_299 : Cond.methodLink RX11 299 yX11_binds ∈ TT := tt_of 1624 (by decide +kernel) (by decide +kernel)
theorem ml_X11_302 : Cond.methodLink RX11 302 yX11_emit ∈ TT := tt_of 1611 (by decide +kernel) (by decide +kernel)
theorem ml_X11_312 : Cond.methodLink RX11 312 yX11_isWord ∈ TT := tt_of 1565 (by decide +kernel) (by decide +kernel)
theorem ml_X11_319 : Cond.methodLink RX11 319 yX11_push ∈ TT := tt_of 1582 (by decide +kernel) (by decide +kernel)
theorem ml_X11_325 : Cond.methodLink RX11 325 yX11_isSign ∈ TT := tt_of 1586 (by decide +kernel) (by decide +kernel)
theorem ml_X11_328 : Cond.methodLink RX11 328 yX11_openBracket ∈ TT := tt_of 1590 (by decide +kernel) (by decide +kernel)
theorem ml_X11_334 : Cond.methodLink RX11 334 yX11_orderPartAt ∈ TT := tt_of 1598 (by decide +kernel) (by decide +kernel)
theorem ml_X11_338 : Cond.methodLink RX11 338 yX11_partAt ∈ TT := tt_of 1602 (by decide +kernel) (by decide +kernel)
theorem ml_X11_343 : Cond.methodLink RX11 343 yX11_leaf ∈ TT := tt_of 1607 (by decide +kernel) (by decide +kernel)
theorem ml_X11_349 : Cond.methodLink RX11 349 yX11_number ∈ TT := tt_of 1616 (by decide +kernel) (by decide +kernel)
theorem ml_X11_355 : Cond.methodLink RX11 355 yX11_readPart ∈ TT := tt_of 1594 (by decide +kernel) (by decide +kernel)
theorem ml_X11_358 : Cond.methodLink RX11 358 yX11_settle ∈ TT := tt_of 1627 (by decide +kernel) (by decide +kernel)
theorem ml_X11_361 : Cond.methodLink RX11 361 yX11_inner ∈ TT := tt_of 1631 (by decide +kernel) (by decide +kernel)
theorem ml_X11_364 : Cond.methodLink RX11 364 yX11_isCompared ∈ TT := tt_of 1635 (by decide +kernel) (by decide +kernel)
theorem ml_X11_372 : Cond.methodLink RX11 372 yX11_readPlain ∈ TT := tt_of 1577 (by decide +kernel) (by decide +kernel)
theorem ml_X11_375 : Cond.methodLink RX11 375 yX11_behindSum ∈ TT := tt_of 1620 (by decide +kernel) (by decide +kernel)
theorem ml_X11_379 : Cond.methodLink RX11 379 yX11_behindTest ∈ TT := tt_of 1642 (by decide +kernel) (by decide +kernel)
theorem ml_X11_382 : Cond.methodLink RX11 382 yX11_begin ∈ TT := tt_of 1543 (by decide +kernel) (by decide +kernel)
theorem ml_X11_388 : Cond.methodLink RX11 388 yX11_readExpression ∈ TT := tt_of 1573 (by decide +kernel) (by decide +kernel)
theorem ml_X11_393 : Cond.methodLink RX11 393 yX11_beginText ∈ TT := tt_of 1539 (by decide +kernel) (by decide +kernel)
theorem ml_X11_396 : Cond.methodLink RX11 396 yX11_readLaw ∈ TT := tt_of 1561 (by decide +kernel) (by decide +kernel)
theorem ml_X11_399 : Cond.methodLink RX11 399 yX11_endText ∈ TT := tt_of 1649 (by decide +kernel) (by decide +kernel)
theorem ml_X11_402 : Cond.methodLink RX11 402 yX11_isLaw ∈ TT := tt_of 1657 (by decide +kernel) (by decide +kernel)
theorem ml_X11_411 : Cond.methodLink RX11 411 yX11_reckon ∈ TT := tt_of 1456 (by decide +kernel) (by decide +kernel)
theorem ml_X11_422 : Cond.methodLink RX11 422 yX11_reckonAll ∈ TT := tt_of 1452 (by decide +kernel) (by decide +kernel)
theorem ml_X11_428 : Cond.methodLink RX11 428 yX11_isSo ∈ TT := tt_of 1448 (by decide +kernel) (by decide +kernel)
theorem ml_X11_431 : Cond.methodLink RX11 431 yX11_tells ∈ TT := tt_of 1444 (by decide +kernel) (by decide +kernel)
theorem ml_X11_435 : Cond.methodLink RX11 435 yX11_bounded ∈ TT := tt_of 1462 (by decide +kernel) (by decide +kernel)
theorem ml_X11_439 : Cond.methodLink RX11 439 yX11_ones ∈ TT := tt_of 1497 (by decide +kernel) (by decide +kernel)
theorem ml_X11_442 : Cond.methodLink RX11 442 yX11_carries ∈ TT := tt_of 1697 (by decide +kernel) (by decide +kernel)
theorem ml_X11_445 : Cond.methodLink RX11 445 yX11_seconder ∈ TT := tt_of 1673 (by decide +kernel) (by decide +kernel)
theorem ml_X11_448 : Cond.methodLink RX11 448 yX11_canMove ∈ TT := tt_of 1669 (by decide +kernel) (by decide +kernel)
theorem ml_X11_451 : Cond.methodLink RX11 451 yX11_remember ∈ TT := tt_of 1677 (by decide +kernel) (by decide +kernel)
theorem ml_X11_454 : Cond.methodLink RX11 454 yX11_moveNow ∈ TT := tt_of 1665 (by decide +kernel) (by decide +kernel)
theorem ml_X11_457 : Cond.methodLink RX11 457 yX11_divideIt ∈ TT := tt_of 1693 (by decide +kernel) (by decide +kernel)
theorem ml_X11_460 : Cond.methodLink RX11 460 yX11_divideNow ∈ TT := tt_of 1689 (by decide +kernel) (by decide +kernel)
theorem ml_X11_463 : Cond.methodLink RX11 463 yX11_flyNow ∈ TT := tt_of 1705 (by decide +kernel) (by decide +kernel)
theorem ml_X11_466 : Cond.methodLink RX11 466 yX11_passIt ∈ TT := tt_of 1717 (by decide +kernel) (by decide +kernel)
theorem ml_X11_469 : Cond.methodLink RX11 469 yX11_passNow ∈ TT := tt_of 1713 (by decide +kernel) (by decide +kernel)
theorem ml_X11_475 : Cond.methodLink RX11 475 yX11_isNew ∈ TT := tt_of 1733 (by decide +kernel) (by decide +kernel)
theorem ml_X11_478 : Cond.methodLink RX11 478 yX11_findRichest ∈ TT := tt_of 1729 (by decide +kernel) (by decide +kernel)
theorem ml_X11_482 : Cond.methodLink RX11 482 yX11_layLeft ∈ TT := tt_of 1754 (by decide +kernel) (by decide +kernel)
theorem ml_X11_485 : Cond.methodLink RX11 485 yX11_is ∈ TT := tt_of 1770 (by decide +kernel) (by decide +kernel)
theorem ml_X11_488 : Cond.methodLink RX11 488 yX11_present ∈ TT := tt_of 1762 (by decide +kernel) (by decide +kernel)
theorem ml_X11_491 : Cond.methodLink RX11 491 yX11_hearAll ∈ TT := tt_of 1766 (by decide +kernel) (by decide +kernel)
theorem ml_X11_494 : Cond.methodLink RX11 494 yX11_heardBy ∈ TT := tt_of 1777 (by decide +kernel) (by decide +kernel)
theorem ml_X11_497 : Cond.methodLink RX11 497 yX11_thatCanBe ∈ TT := tt_of 1797 (by decide +kernel) (by decide +kernel)
theorem ml_X11_504 : Cond.methodLink RX11 504 yX11_readSum ∈ TT := tt_of 1823 (by decide +kernel) (by decide +kernel)
theorem ml_X11_522 : Cond.methodLink RX11 522 yX11_sumOf ∈ TT := tt_of 1834 (by decide +kernel) (by decide +kernel)
theorem ml_X11_525 : Cond.methodLink RX11 525 yX11_act ∈ TT := tt_of 1838 (by decide +kernel) (by decide +kernel)
theorem ml_X11_529 : Cond.methodLink RX11 529 yX11_readOrder ∈ TT := tt_of 1819 (by decide +kernel) (by decide +kernel)
theorem ml_X11_532 : Cond.methodLink RX11 532 yX11_run ∈ TT := tt_of 1830 (by decide +kernel) (by decide +kernel)
theorem ml_X11_535 : Cond.methodLink RX11 535 yX11_giveBack ∈ TT := tt_of 1842 (by decide +kernel) (by decide +kernel)
theorem ml_X11_549 : Cond.methodLink RX11 549 yX11_draw ∈ TT := tt_of 1855 (by decide +kernel) (by decide +kernel)
theorem cl_X10_13 : Cond.classLink RX10 13 RX6 ∈ TT := tt_of 137 (by decide +kernel) (by decide +kernel)
theorem cl_X6_41 : Cond.classLink RX6 41 RX8 ∈ TT := tt_of 175 (by decide +kernel) (by decide +kernel)
theorem nw_X10_13 : NW RX10 13 6 := ⟨RX6, TX6, 17, rfl, tt_of 137 (by decide +kernel) (by decide +kernel), tt_of 138 (by decide +kernel) (by decide +kernel), tt_of 111 (by decide +kernel) (by decide +kernel), kf_6, by decide⟩
theorem nw_X10_24 : NW RX10 24 5 := ⟨RX5, TX5, 4, rfl, tt_of 284 (by decide +kernel) (by decide +kernel), tt_of 285 (by decide +kernel) (by decide +kernel), tt_of 115 (by decide +kernel) (by decide +kernel), kf_5, by decide⟩
theorem nw_X10_34 : NW RX10 34 7 := ⟨RX7, TX7, 4, rfl, tt_of 304 (by decide +kernel) (by decide +kernel), tt_of 144 (by decide +kernel) (by decide +kernel), tt_of 112 (by decide +kernel) (by decide +kernel), kf_7, by decide⟩
theorem nw_X10_44 : NW RX10 44 2 := ⟨RX2, TX2, 4, rfl, tt_of 306 (by decide +kernel) (by decide +kernel), tt_of 307 (by decide +kernel) (by decide +kernel), tt_of 116 (by decide +kernel) (by decide +kernel), kf_2, by decide⟩
theorem nw_X10_51 : NW RX10 51 4 := ⟨RX4, TX4, 3, rfl, tt_of 330 (by decide +kernel) (by decide +kernel), tt_of 331 (by decide +kernel) (by decide +kernel), tt_of 117 (by decide +kernel) (by decide +kernel), kf_4, by decide⟩
theorem nw_X10_58 : NW RX10 58 1 := ⟨RX1, TX1, 6, rfl, tt_of 351 (by decide +kernel) (by decide +kernel), tt_of 352 (by decide +kernel) (by decide +kernel), tt_of 118 (by decide +kernel) (by decide +kernel), kf_1, by decide⟩
theorem nw_X10_67 : NW RX10 67 0 := ⟨RX0, TX0, 7, rfl, tt_of 379 (by decide +kernel) (by decide +kernel), tt_of 380 (by decide +kernel) (by decide +kernel), tt_of 119 (by decide +kernel) (by decide +kernel), kf_0, by decide⟩
theorem nw_X10_76 : NW RX10 76 3 := ⟨RX3, TX3, 5, rfl, tt_of 412 (by decide +kernel) (by decide +kernel), tt_of 413 (by decide +kernel) (by decide +kernel), tt_of 120 (by decide +kernel) (by decide +kernel), kf_3, by decide⟩
theorem nw_X0_9 : NW RX0 9 7 := ⟨RX7, TX7, 4, rfl, tt_of 385 (by decide +kernel) (by decide +kernel), tt_of 144 (by decide +kernel) (by decide +kernel), tt_of 112 (by decide +kernel) (by decide +kernel), kf_7, by decide⟩
theorem nw_X2_9 : NW RX2 9 7 := ⟨RX7, TX7, 4, rfl, tt_of 312 (by decide +kernel) (by decide +kernel), tt_of 144 (by decide +kernel) (by decide +kernel), tt_of 112 (by decide +kernel) (by decide +kernel), kf_7, by decide⟩
theorem nw_X3_9 : NW RX3 9 9 := ⟨RX9, TX9, 4, rfl, tt_of 418 (by decide +kernel) (by decide +kernel), tt_of 419 (by decide +kernel) (by decide +kernel), tt_of 121 (by decide +kernel) (by decide +kernel), kf_9, by decide⟩
theorem nw_X3_18 : NW RX3 18 8 := ⟨RX8, TX8, 4, rfl, tt_of 441 (by decide +kernel) (by decide +kernel), tt_of 177 (by decide +kernel) (by decide +kernel), tt_of 113 (by decide +kernel) (by decide +kernel), kf_8, by decide⟩
theorem nw_X6_9 : NW RX6 9 7 := ⟨RX7, TX7, 4, rfl, tt_of 143 (by decide +kernel) (by decide +kernel), tt_of 144 (by decide +kernel) (by decide +kernel), tt_of 112 (by decide +kernel) (by decide +kernel), kf_7, by decide⟩
theorem nw_X6_41 : NW RX6 41 8 := ⟨RX8, TX8, 4, rfl, tt_of 175 (by decide +kernel) (by decide +kernel), tt_of 177 (by decide +kernel) (by decide +kernel), tt_of 113 (by decide +kernel) (by decide +kernel), kf_8, by decide⟩
theorem nw_X8_16 : NW RX8 16 8 := ⟨RX8, TX8, 4, rfl, tt_of 870 (by decide +kernel) (by decide +kernel), tt_of 177 (by decide +kernel) (by decide +kernel), tt_of 113 (by decide +kernel) (by decide +kernel), kf_8, by decide⟩
theorem nw_L_7 : NW RL 7 10 := ⟨RX10, TX10, 20, rfl, tt_of 129 (by decide +kernel) (by decide +kernel), tt_of 130 (by decide +kernel) (by decide +kernel), tt_of 110 (by decide +kernel) (by decide +kernel), kf_10, by decide⟩
theorem nw_L_10 : NW RL 10 11 := ⟨RX11, TX11, 58, rfl, tt_of 1163 (by decide +kernel) (by decide +kernel), tt_of 1164 (by decide +kernel) (by decide +kernel), tt_of 122 (by decide +kernel) (by decide +kernel), kf_11, by decide⟩
theorem ct_X2_37 : Cond.constant RX2 37 (1000003) ∈ TT := tt_of 1132 (by decide +kernel) (by decide +kernel)
theorem ct_X4_39 : Cond.constantLong RX4 39 (-1) ∈ TT := tt_of 607 (by decide +kernel) (by decide +kernel)
theorem ct_X4_41 : Cond.constantLong RX4 41 (1000000000) ∈ TT := tt_of 608 (by decide +kernel) (by decide +kernel)
theorem ct_X4_43 : Cond.constantLong RX4 43 (-1000000000) ∈ TT := tt_of 609 (by decide +kernel) (by decide +kernel)
theorem ct_X10_380 : Cond.constantLong RX10 380 (-1) ∈ TT := tt_of 1106 (by decide +kernel) (by decide +kernel)
theorem ct_X10_382 : Cond.constantLong RX10 382 (1000000000000) ∈ TT := tt_of 1107 (by decide +kernel) (by decide +kernel)
theorem ct_X10_384 : Cond.constantLong RX10 384 (10) ∈ TT := tt_of 1108 (by decide +kernel) (by decide +kernel)
theorem ct_X10_390 : Cond.constant RX10 390 (1000000) ∈ TT := tt_of 1118 (by decide +kernel) (by decide +kernel)
theorem ct_X11_126 : Cond.constantLong RX11 126 (442053) ∈ TT := tt_of 1185 (by decide +kernel) (by decide +kernel)
theorem ct_X11_128 : Cond.constantLong RX11 128 (144385157) ∈ TT := tt_of 1186 (by decide +kernel) (by decide +kernel)
theorem ct_X11_130 : Cond.constantLong RX11 130 (6553) ∈ TT := tt_of 1187 (by decide +kernel) (by decide +kernel)
theorem ct_X11_132 : Cond.constantLong RX11 132 (525939) ∈ TT := tt_of 1188 (by decide +kernel) (by decide +kernel)
theorem ct_X11_179 : Cond.constantLong RX11 179 (-1) ∈ TT := tt_of 1403 (by decide +kernel) (by decide +kernel)
theorem ct_X11_181 : Cond.constantLong RX11 181 (19) ∈ TT := tt_of 1404 (by decide +kernel) (by decide +kernel)
theorem ct_X11_190 : Cond.constantLong RX11 190 (9) ∈ TT := tt_of 1405 (by decide +kernel) (by decide +kernel)
theorem ct_X11_196 : Cond.constantLong RX11 196 (5) ∈ TT := tt_of 1410 (by decide +kernel) (by decide +kernel)
theorem ct_X11_208 : Cond.constantLong RX11 208 (20) ∈ TT := tt_of 1423 (by decide +kernel) (by decide +kernel)
theorem ct_X11_237 : Cond.constantLong RX11 237 (999) ∈ TT := tt_of 1504 (by decide +kernel) (by decide +kernel)
theorem ct_X11_239 : Cond.constantLong RX11 239 (10) ∈ TT := tt_of 1505 (by decide +kernel) (by decide +kernel)
theorem ct_X11_241 : Cond.constantLong RX11 241 (7) ∈ TT := tt_of 1506 (by decide +kernel) (by decide +kernel)
theorem ct_X11_281 : Cond.constantLong RX11 281 (32) ∈ TT := tt_of 1557 (by decide +kernel) (by decide +kernel)
theorem ct_X11_283 : Cond.constantLong RX11 283 (96) ∈ TT := tt_of 1558 (by decide +kernel) (by decide +kernel)
theorem ct_X11_285 : Cond.constantLong RX11 285 (1000000) ∈ TT := tt_of 1559 (by decide +kernel) (by decide +kernel)
theorem ct_X11_287 : Cond.constantLong RX11 287 (48) ∈ TT := tt_of 1560 (by decide +kernel) (by decide +kernel)
theorem ct_X11_306 : Cond.constantLong RX11 306 (24) ∈ TT := tt_of 1639 (by decide +kernel) (by decide +kernel)
theorem ct_X11_308 : Cond.constantLong RX11 308 (25) ∈ TT := tt_of 1640 (by decide +kernel) (by decide +kernel)
theorem ct_X11_310 : Cond.constantLong RX11 310 (27) ∈ TT := tt_of 1641 (by decide +kernel) (by decide +kernel)
theorem ct_X11_341 : Cond.constantLong RX11 341 (1000) ∈ TT := tt_of 1606 (by decide +kernel) (by decide +kernel)
theorem ct_X11_347 : Cond.constantLong RX11 347 (6) ∈ TT := tt_of 1615 (by decide +kernel) (by decide +kernel)
theorem ct_X11_353 : Cond.constantLong RX11 353 (14836) ∈ TT := tt_of 1581 (by decide +kernel) (by decide +kernel)
theorem ct_X11_368 : Cond.constantLong RX11 368 (1476) ∈ TT := tt_of 1646 (by decide +kernel) (by decide +kernel)
theorem ct_X11_370 : Cond.constantLong RX11 370 (498) ∈ TT := tt_of 1647 (by decide +kernel) (by decide +kernel)
theorem ct_X11_391 : Cond.constantLong RX11 391 (294) ∈ TT := tt_of 1648 (by decide +kernel) (by decide +kernel)
theorem ct_X11_415 : Cond.constantLong RX11 415 (-1000000000) ∈ TT := tt_of 1460 (by decide +kernel) (by decide +kernel)
theorem ct_X11_417 : Cond.constantLong RX11 417 (1000000000) ∈ TT := tt_of 1461 (by decide +kernel) (by decide +kernel)
theorem ct_X11_481 : Cond.constant RX11 481 (100000000) ∈ TT := tt_of 1745 (by decide +kernel) (by decide +kernel)
theorem ct_X11_500 : Cond.constantLong RX11 500 (99) ∈ TT := tt_of 1809 (by decide +kernel) (by decide +kernel)
theorem ct_X11_502 : Cond.constantLong RX11 502 (1000000000000) ∈ TT := tt_of 1810 (by decide +kernel) (by decide +kernel)
theorem ct_X11_507 : Cond.constantLong RX11 507 (89) ∈ TT := tt_of 1827 (by decide +kernel) (by decide +kernel)
theorem ct_X11_509 : Cond.constantLong RX11 509 (655) ∈ TT := tt_of 1828 (by decide +kernel) (by decide +kernel)
theorem ct_X11_511 : Cond.constantLong RX11 511 (21279923) ∈ TT := tt_of 1829 (by decide +kernel) (by decide +kernel)
theorem ct_X11_541 : Cond.constantLong RX11 541 (1103) ∈ TT := tt_of 1859 (by decide +kernel) (by decide +kernel)
theorem ct_X11_543 : Cond.constantLong RX11 543 (12345) ∈ TT := tt_of 1860 (by decide +kernel) (by decide +kernel)
theorem ct_X11_545 : Cond.constantLong RX11 545 (1000003) ∈ TT := tt_of 1861 (by decide +kernel) (by decide +kernel)
theorem ct_X11_547 : Cond.constantLong RX11 547 (60) ∈ TT := tt_of 1854 (by decide +kernel) (by decide +kernel)
theorem ct_X11_552 : Cond.constantLong RX11 552 (14) ∈ TT := tt_of 1870 (by decide +kernel) (by decide +kernel)
theorem ct_X11_554 : Cond.constantLong RX11 554 (17) ∈ TT := tt_of 1871 (by decide +kernel) (by decide +kernel)
theorem ct_X11_57 : Cond.constantLong RX11 57 (75332) ∈ TT := tt_of 1169 (by decide +kernel) (by decide +kernel)
theorem ct_X11_59 : Cond.constantLong RX11 59 (673957) ∈ TT := tt_of 1170 (by decide +kernel) (by decide +kernel)
theorem ct_X11_61 : Cond.constantLong RX11 61 (203112114) ∈ TT := tt_of 1171 (by decide +kernel) (by decide +kernel)
theorem ct_X11_63 : Cond.constantLong RX11 63 (437932210) ∈ TT := tt_of 1172 (by decide +kernel) (by decide +kernel)
theorem ct_X11_65 : Cond.constantLong RX11 65 (3625634995) ∈ TT := tt_of 1173 (by decide +kernel) (by decide +kernel)
theorem ct_X11_67 : Cond.constantLong RX11 67 (599144) ∈ TT := tt_of 1174 (by decide +kernel) (by decide +kernel)
theorem ct_X11_69 : Cond.constantLong RX11 69 (3554411) ∈ TT := tt_of 1175 (by decide +kernel) (by decide +kernel)
theorem ct_X11_71 : Cond.constantLong RX11 71 (14982420) ∈ TT := tt_of 1176 (by decide +kernel) (by decide +kernel)
theorem ct_X11_73 : Cond.constantLong RX11 73 (441828) ∈ TT := tt_of 1177 (by decide +kernel) (by decide +kernel)
theorem ct_X11_79 : Cond.constantLong RX11 79 (146885) ∈ TT := tt_of 1178 (by decide +kernel) (by decide +kernel)
theorem ct_X11_81 : Cond.constantLong RX11 81 (404362868) ∈ TT := tt_of 1179 (by decide +kernel) (by decide +kernel)
theorem ct_X11_83 : Cond.constantLong RX11 83 (17789720020) ∈ TT := tt_of 1180 (by decide +kernel) (by decide +kernel)
theorem ct_X11_85 : Cond.constantLong RX11 85 (658552979) ∈ TT := tt_of 1181 (by decide +kernel) (by decide +kernel)
theorem ct_X11_90 : Cond.constantLong RX11 90 (20678451) ∈ TT := tt_of 1182 (by decide +kernel) (by decide +kernel)
theorem ct_X11_92 : Cond.constantLong RX11 92 (21015731) ∈ TT := tt_of 1183 (by decide +kernel) (by decide +kernel)
theorem ct_X11_94 : Cond.constantLong RX11 94 (67155) ∈ TT := tt_of 1184 (by decide +kernel) (by decide +kernel)
theorem ct_J6_265 : Cond.constant RJ6 265 (1431655765) ∈ TT := tt_of 658 (by decide +kernel) (by decide +kernel)
theorem ct_J6_266 : Cond.constant RJ6 266 (858993459) ∈ TT := tt_of 659 (by decide +kernel) (by decide +kernel)
theorem ct_J6_267 : Cond.constant RJ6 267 (252645135) ∈ TT := tt_of 660 (by decide +kernel) (by decide +kernel)
abbrev M_X0_init : MD := (yX0_init, cX0_init, 2, none, fun _ _ => True)
theorem mf_X0_init : MF M_X0_init 1 := ⟨tt_of 383 (by decide +kernel) (by decide +kernel), tt_of 119 (by decide +kernel) (by decide +kernel), ⟨by decide, by decide, by decide +kernel⟩, by decide⟩
theorem mi_X0_init : Cond.instanceMethod M_X0_init.1 ∈ TT := tt_of 382 (by decide +kernel) (by decide +kernel)
abbrev M_X0_begin : MD := (yX0_begin, cX0_begin, 3, none, fun _ _ => True)
theorem mf_X0_begin : MF M_X0_begin 1 := ⟨tt_of 989 (by decide +kernel) (by decide +kernel), tt_of 119 (by decide +kernel) (by decide +kernel), ⟨by decide, by decide, by decide +kernel⟩, by decide⟩
theorem mi_X0_begin : Cond.instanceMethod M_X0_begin.1 ∈ TT := tt_of 987 (by decide +kernel) (by decide +kernel)
theorem me_X0_begin : Cond.selects M_X0_begin.1.cls M_X0_begin.1 M_X0_begin.1 ∈ TT := tt_of 988 (by decide +kernel) (by decide +kernel)
abbrev M_X0_goOn : MD := (yX0_goOn, cX0_goOn, 8, none, fun _ _ => True)
theorem mf_X0_goOn : MF M_X0_goOn 4 := ⟨tt_of 998 (by decide +kernel) (by decide +kernel), tt_of 119 (by decide +kernel) (by decide +kernel), ⟨by decide, by decide, by decide +kernel⟩, by decide⟩
theorem mi_X0_goOn : Cond.instanceMethod M_X0_goOn.1 ∈ TT := tt_of 997 (by decide +kernel) (by decide +kernel)
theorem me_X0_goOn : Cond.selects M_X0_goOn.1.cls M_X0_goOn.1 M_X0_goOn.1 ∈ TT := tt_of 32 (by decide +kernel) (by decide +kernel)
abbrev M_X0_divisionAt : MD := (yX0_divisionAt, cX0_divisionAt, 6, (some .int), fun _ _ => True)
theorem mf_X0_divisionAt : MF M_X0_divisionAt 2 := ⟨tt_of 1003 (by decide +kernel) (by decide +kernel), tt_of 119 (by decide +kernel) (by decide +kernel), ⟨by decide, by decide, by decide +kernel⟩, by decide⟩
theorem mi_X0_divisionAt : Cond.instanceMethod M_X0_divisionAt.1 ∈ TT := tt_of 1002 (by decide +kernel) (by decide +kernel)
theorem me_X0_divisionAt : Cond.selects M_X0_divisionAt.1.cls M_X0_divisionAt.1 M_X0_divisionAt.1 ∈ TT := tt_of 33 (by decide +kernel) (by decide +kernel)
abbrev M_X1_init : MD := (yX1_init, cX1_init, 3, none, fun _ _ => True)
theorem mf_X1_init : MF M_X1_init 2 := ⟨tt_of 355 (by decide +kernel) (by decide +kernel), tt_of 118 (by decide +kernel) (by decide +kernel), ⟨by decide, by decide, by decide +kernel⟩, by decide⟩
theorem mi_X1_init : Cond.instanceMethod M_X1_init.1 ∈ TT := tt_of 354 (by decide +kernel) (by decide +kernel)
abbrev M_X1_tellLaw : MD := (yX1_tellLaw, cX1_tellLaw, 7, none, fun _ _ => True)
theorem mf_X1_tellLaw : MF M_X1_tellLaw 5 := ⟨tt_of 582 (by decide +kernel) (by decide +kernel), tt_of 118 (by decide +kernel) (by decide +kernel), ⟨by decide, by decide, by decide +kernel⟩, by decide⟩
theorem mi_X1_tellLaw : Cond.instanceMethod M_X1_tellLaw.1 ∈ TT := tt_of 581 (by decide +kernel) (by decide +kernel)
theorem me_X1_tellLaw : Cond.selects M_X1_tellLaw.1.cls M_X1_tellLaw.1 M_X1_tellLaw.1 ∈ TT := tt_of 3 (by decide +kernel) (by decide +kernel)
abbrev M_X1_tellBird : MD := (yX1_tellBird, cX1_tellBird, 4, none, fun _ _ => True)
theorem mf_X1_tellBird : MF M_X1_tellBird 3 := ⟨tt_of 578 (by decide +kernel) (by decide +kernel), tt_of 118 (by decide +kernel) (by decide +kernel), ⟨by decide, by decide, by decide +kernel⟩, by decide⟩
theorem mi_X1_tellBird : Cond.instanceMethod M_X1_tellBird.1 ∈ TT := tt_of 577 (by decide +kernel) (by decide +kernel)
theorem me_X1_tellBird : Cond.selects M_X1_tellBird.1.cls M_X1_tellBird.1 M_X1_tellBird.1 ∈ TT := tt_of 2 (by decide +kernel) (by decide +kernel)
abbrev M_X1_within : MD := (yX1_within, cX1_within, 3, (some .int), fun _ _ => True)
theorem mf_X1_within : MF M_X1_within 3 := ⟨tt_of 612 (by decide +kernel) (by decide +kernel), tt_of 118 (by decide +kernel) (by decide +kernel), ⟨by decide, by decide, by decide +kernel⟩, by decide⟩
theorem ms_X1_within : Cond.static M_X1_within.1 ∈ TT := tt_of 611 (by decide +kernel) (by decide +kernel)
abbrev M_X1_swayed : MD := (yX1_swayed, cX1_swayed, 5, (some .int), fun _ _ => True)
theorem mf_X1_swayed : MF M_X1_swayed 3 := ⟨tt_of 574 (by decide +kernel) (by decide +kernel), tt_of 118 (by decide +kernel) (by decide +kernel), ⟨by decide, by decide, by decide +kernel⟩, by decide⟩
theorem mi_X1_swayed : Cond.instanceMethod M_X1_swayed.1 ∈ TT := tt_of 572 (by decide +kernel) (by decide +kernel)
theorem me_X1_swayed : Cond.selects M_X1_swayed.1.cls M_X1_swayed.1 M_X1_swayed.1 ∈ TT := tt_of 573 (by decide +kernel) (by decide +kernel)
abbrev M_X1_timeTaken : MD := (yX1_timeTaken, cX1_timeTaken, 4, (some .int), fun _ _ => True)
theorem mf_X1_timeTaken : MF M_X1_timeTaken 2 := ⟨tt_of 635 (by decide +kernel) (by decide +kernel), tt_of 118 (by decide +kernel) (by decide +kernel), ⟨by decide, by decide, by decide +kernel⟩, by decide⟩
theorem mi_X1_timeTaken : Cond.instanceMethod M_X1_timeTaken.1 ∈ TT := tt_of 633 (by decide +kernel) (by decide +kernel)
theorem me_X1_timeTaken : Cond.selects M_X1_timeTaken.1.cls M_X1_timeTaken.1 M_X1_timeTaken.1 ∈ TT := tt_of 634 (by decide +kernel) (by decide +kernel)
abbrev M_X1_vote : MD := (yX1_vote, cX1_vote, 7, (some .int), fun _ _ => True)
theorem mf_X1_vote : MF M_X1_vote 4 := ⟨tt_of 619 (by decide +kernel) (by decide +kernel), tt_of 118 (by decide +kernel) (by decide +kernel), ⟨by decide, by decide, by decide +kernel⟩, by decide⟩
theorem mi_X1_vote : Cond.instanceMethod M_X1_vote.1 ∈ TT := tt_of 617 (by decide +kernel) (by decide +kernel)
theorem me_X1_vote : Cond.selects M_X1_vote.1.cls M_X1_vote.1 M_X1_vote.1 ∈ TT := tt_of 618 (by decide +kernel) (by decide +kernel)
abbrev M_X1_poll : MD := (yX1_poll, cX1_poll, 6, none, fun _ _ => True)
theorem mf_X1_poll : MF M_X1_poll 3 := ⟨tt_of 639 (by decide +kernel) (by decide +kernel), tt_of 118 (by decide +kernel) (by decide +kernel), ⟨by decide, by decide, by decide +kernel⟩, by decide⟩
theorem mi_X1_poll : Cond.instanceMethod M_X1_poll.1 ∈ TT := tt_of 637 (by decide +kernel) (by decide +kernel)
theorem me_X1_poll : Cond.selects M_X1_poll.1.cls M_X1_poll.1 M_X1_poll.1 ∈ TT := tt_of 638 (by decide +kernel) (by decide +kernel)
abbrev M_X1_present : MD := (yX1_present, cX1_present, 4, (some .int), fun _ _ => True)
theorem mf_X1_present : MF M_X1_present 1 := ⟨tt_of 895 (by decide +kernel) (by decide +kernel), tt_of 118 (by decide +kernel) (by decide +kernel), ⟨by decide, by decide, by decide +kernel⟩, by decide⟩
theorem mi_X1_present : Cond.instanceMethod M_X1_present.1 ∈ TT := tt_of 893 (by decide +kernel) (by decide +kernel)
theorem me_X1_present : Cond.selects M_X1_present.1.cls M_X1_present.1 M_X1_present.1 ∈ TT := tt_of 894 (by decide +kernel) (by decide +kernel)
abbrev M_X1_moved : MD := (yX1_moved, cX1_moved, 4, (some .int), fun _ _ => True)
theorem mf_X1_moved : MF M_X1_moved 1 := ⟨tt_of 994 (by decide +kernel) (by decide +kernel), tt_of 118 (by decide +kernel) (by decide +kernel), ⟨by decide, by decide, by decide +kernel⟩, by decide⟩
theorem mi_X1_moved : Cond.instanceMethod M_X1_moved.1 ∈ TT := tt_of 992 (by decide +kernel) (by decide +kernel)
theorem me_X1_moved : Cond.selects M_X1_moved.1.cls M_X1_moved.1 M_X1_moved.1 ∈ TT := tt_of 993 (by decide +kernel) (by decide +kernel)
abbrev M_X1_hears : MD := (yX1_hears, cX1_hears, 4, (some .boolean), fun _ _ => True)
theorem mf_X1_hears : MF M_X1_hears 3 := ⟨tt_of 563 (by decide +kernel) (by decide +kernel), tt_of 118 (by decide +kernel) (by decide +kernel), ⟨by decide, by decide, by decide +kernel⟩, by decide⟩
theorem mi_X1_hears : Cond.instanceMethod M_X1_hears.1 ∈ TT := tt_of 561 (by decide +kernel) (by decide +kernel)
theorem me_X1_hears : Cond.selects M_X1_hears.1.cls M_X1_hears.1 M_X1_hears.1 ∈ TT := tt_of 562 (by decide +kernel) (by decide +kernel)
abbrev M_X1_whomHears : MD := (yX1_whomHears, cX1_whomHears, 5, (some .int), fun _ _ => True)
theorem mf_X1_whomHears : MF M_X1_whomHears 2 := ⟨tt_of 559 (by decide +kernel) (by decide +kernel), tt_of 118 (by decide +kernel) (by decide +kernel), ⟨by decide, by decide, by decide +kernel⟩, by decide⟩
theorem mi_X1_whomHears : Cond.instanceMethod M_X1_whomHears.1 ∈ TT := tt_of 557 (by decide +kernel) (by decide +kernel)
theorem me_X1_whomHears : Cond.selects M_X1_whomHears.1.cls M_X1_whomHears.1 M_X1_whomHears.1 ∈ TT := tt_of 558 (by decide +kernel) (by decide +kernel)
abbrev M_X1_hearers : MD := (yX1_hearers, cX1_hearers, 5, (some .int), fun _ _ => True)
theorem mf_X1_hearers : MF M_X1_hearers 2 := ⟨tt_of 1053 (by decide +kernel) (by decide +kernel), tt_of 118 (by decide +kernel) (by decide +kernel), ⟨by decide, by decide, by decide +kernel⟩, by decide⟩
theorem mi_X1_hearers : Cond.instanceMethod M_X1_hearers.1 ∈ TT := tt_of 1051 (by decide +kernel) (by decide +kernel)
theorem me_X1_hearers : Cond.selects M_X1_hearers.1.cls M_X1_hearers.1 M_X1_hearers.1 ∈ TT := tt_of 1052 (by decide +kernel) (by decide +kernel)
abbrev M_X1_seconder : MD := (yX1_seconder, cX1_seconder, 5, (some .int), fun _ _ => True)
theorem mf_X1_seconder : MF M_X1_seconder 3 := ⟨tt_of 918 (by decide +kernel) (by decide +kernel), tt_of 118 (by decide +kernel) (by decide +kernel), ⟨by decide, by decide, by decide +kernel⟩, by decide⟩
theorem mi_X1_seconder : Cond.instanceMethod M_X1_seconder.1 ∈ TT := tt_of 916 (by decide +kernel) (by decide +kernel)
theorem me_X1_seconder : Cond.selects M_X1_seconder.1.cls M_X1_seconder.1 M_X1_seconder.1 ∈ TT := tt_of 917 (by decide +kernel) (by decide +kernel)
abbrev M_X1_moving : MD := (yX1_moving, cX1_moving, 5, (some .int), fun _ _ => True)
theorem mf_X1_moving : MF M_X1_moving 3 := ⟨tt_of 913 (by decide +kernel) (by decide +kernel), tt_of 118 (by decide +kernel) (by decide +kernel), ⟨by decide, by decide, by decide +kernel⟩, by decide⟩
theorem mi_X1_moving : Cond.instanceMethod M_X1_moving.1 ∈ TT := tt_of 911 (by decide +kernel) (by decide +kernel)
theorem me_X1_moving : Cond.selects M_X1_moving.1.cls M_X1_moving.1 M_X1_moving.1 ∈ TT := tt_of 912 (by decide +kernel) (by decide +kernel)
abbrev M_X1_dividing : MD := (yX1_dividing, cX1_dividing, 4, (some .int), fun _ _ => True)
theorem mf_X1_dividing : MF M_X1_dividing 2 := ⟨tt_of 651 (by decide +kernel) (by decide +kernel), tt_of 118 (by decide +kernel) (by decide +kernel), ⟨by decide, by decide, by decide +kernel⟩, by decide⟩
theorem mi_X1_dividing : Cond.instanceMethod M_X1_dividing.1 ∈ TT := tt_of 649 (by decide +kernel) (by decide +kernel)
theorem me_X1_dividing : Cond.selects M_X1_dividing.1.cls M_X1_dividing.1 M_X1_dividing.1 ∈ TT := tt_of 650 (by decide +kernel) (by decide +kernel)
abbrev M_X1_flying : MD := (yX1_flying, cX1_flying, 5, (some .int), fun _ _ => True)
theorem mf_X1_flying : MF M_X1_flying 3 := ⟨tt_of 922 (by decide +kernel) (by decide +kernel), tt_of 118 (by decide +kernel) (by decide +kernel), ⟨by decide, by decide, by decide +kernel⟩, by decide⟩
theorem mi_X1_flying : Cond.instanceMethod M_X1_flying.1 ∈ TT := tt_of 920 (by decide +kernel) (by decide +kernel)
theorem me_X1_flying : Cond.selects M_X1_flying.1.cls M_X1_flying.1 M_X1_flying.1 ∈ TT := tt_of 921 (by decide +kernel) (by decide +kernel)
abbrev M_X1_passing : MD := (yX1_passing, cX1_passing, 4, (some .int), fun _ _ => True)
theorem mf_X1_passing : MF M_X1_passing 1 := ⟨tt_of 926 (by decide +kernel) (by decide +kernel), tt_of 118 (by decide +kernel) (by decide +kernel), ⟨by decide, by decide, by decide +kernel⟩, by decide⟩
theorem mi_X1_passing : Cond.instanceMethod M_X1_passing.1 ∈ TT := tt_of 924 (by decide +kernel) (by decide +kernel)
theorem me_X1_passing : Cond.selects M_X1_passing.1.cls M_X1_passing.1 M_X1_passing.1 ∈ TT := tt_of 925 (by decide +kernel) (by decide +kernel)
abbrev M_X1_wouldCarry : MD := (yX1_wouldCarry, cX1_wouldCarry, 4, (some .boolean), fun _ _ => True)
theorem mf_X1_wouldCarry : MF M_X1_wouldCarry 2 := ⟨tt_of 664 (by decide +kernel) (by decide +kernel), tt_of 118 (by decide +kernel) (by decide +kernel), ⟨by decide, by decide, by decide +kernel⟩, by decide⟩
theorem mi_X1_wouldCarry : Cond.instanceMethod M_X1_wouldCarry.1 ∈ TT := tt_of 663 (by decide +kernel) (by decide +kernel)
theorem me_X1_wouldCarry : Cond.selects M_X1_wouldCarry.1.cls M_X1_wouldCarry.1 M_X1_wouldCarry.1 ∈ TT := tt_of 4 (by decide +kernel) (by decide +kernel)
abbrev M_X1_fewest : MD := (yX1_fewest, cX1_fewest, 7, (some .int), fun _ _ => True)
theorem mf_X1_fewest : MF M_X1_fewest 3 := ⟨tt_of 1017 (by decide +kernel) (by decide +kernel), tt_of 118 (by decide +kernel) (by decide +kernel), ⟨by decide, by decide, by decide +kernel⟩, by decide⟩
theorem mi_X1_fewest : Cond.instanceMethod M_X1_fewest.1 ∈ TT := tt_of 1015 (by decide +kernel) (by decide +kernel)
theorem me_X1_fewest : Cond.selects M_X1_fewest.1.cls M_X1_fewest.1 M_X1_fewest.1 ∈ TT := tt_of 1016 (by decide +kernel) (by decide +kernel)
abbrev M_X1_hops : MD := (yX1_hops, cX1_hops, 6, (some .int), fun _ _ => True)
theorem mf_X1_hops : MF M_X1_hops 3 := ⟨tt_of 1032 (by decide +kernel) (by decide +kernel), tt_of 118 (by decide +kernel) (by decide +kernel), ⟨by decide, by decide, by decide +kernel⟩, by decide⟩
theorem mi_X1_hops : Cond.instanceMethod M_X1_hops.1 ∈ TT := tt_of 1030 (by decide +kernel) (by decide +kernel)
theorem me_X1_hops : Cond.selects M_X1_hops.1.cls M_X1_hops.1 M_X1_hops.1 ∈ TT := tt_of 1031 (by decide +kernel) (by decide +kernel)
abbrev M_X1_nextInChain : MD := (yX1_nextInChain, cX1_nextInChain, 5, (some .int), fun _ _ => True)
theorem mf_X1_nextInChain : MF M_X1_nextInChain 3 := ⟨tt_of 1036 (by decide +kernel) (by decide +kernel), tt_of 118 (by decide +kernel) (by decide +kernel), ⟨by decide, by decide, by decide +kernel⟩, by decide⟩
theorem mi_X1_nextInChain : Cond.instanceMethod M_X1_nextInChain.1 ∈ TT := tt_of 1035 (by decide +kernel) (by decide +kernel)
theorem me_X1_nextInChain : Cond.selects M_X1_nextInChain.1.cls M_X1_nextInChain.1 M_X1_nextInChain.1 ∈ TT := tt_of 34 (by decide +kernel) (by decide +kernel)
abbrev M_X1_chainBird : MD := (yX1_chainBird, cX1_chainBird, 6, (some .int), fun _ _ => True)
theorem mf_X1_chainBird : MF M_X1_chainBird 3 := ⟨tt_of 1040 (by decide +kernel) (by decide +kernel), tt_of 118 (by decide +kernel) (by decide +kernel), ⟨by decide, by decide, by decide +kernel⟩, by decide⟩
theorem mi_X1_chainBird : Cond.instanceMethod M_X1_chainBird.1 ∈ TT := tt_of 1038 (by decide +kernel) (by decide +kernel)
theorem me_X1_chainBird : Cond.selects M_X1_chainBird.1.cls M_X1_chainBird.1 M_X1_chainBird.1 ∈ TT := tt_of 1039 (by decide +kernel) (by decide +kernel)
abbrev M_X1_fewestEars : MD := (yX1_fewestEars, cX1_fewestEars, 6, (some .int), fun _ _ => True)
theorem mf_X1_fewestEars : MF M_X1_fewestEars 1 := ⟨tt_of 1048 (by decide +kernel) (by decide +kernel), tt_of 118 (by decide +kernel) (by decide +kernel), ⟨by decide, by decide, by decide +kernel⟩, by decide⟩
theorem mi_X1_fewestEars : Cond.instanceMethod M_X1_fewestEars.1 ∈ TT := tt_of 1046 (by decide +kernel) (by decide +kernel)
theorem me_X1_fewestEars : Cond.selects M_X1_fewestEars.1.cls M_X1_fewestEars.1 M_X1_fewestEars.1 ∈ TT := tt_of 1047 (by decide +kernel) (by decide +kernel)
abbrev M_X1_hearAll : MD := (yX1_hearAll, cX1_hearAll, 5, (some .boolean), fun _ _ => True)
theorem mf_X1_hearAll : MF M_X1_hearAll 2 := ⟨tt_of 1057 (by decide +kernel) (by decide +kernel), tt_of 118 (by decide +kernel) (by decide +kernel), ⟨by decide, by decide, by decide +kernel⟩, by decide⟩
theorem mi_X1_hearAll : Cond.instanceMethod M_X1_hearAll.1 ∈ TT := tt_of 1056 (by decide +kernel) (by decide +kernel)
theorem me_X1_hearAll : Cond.selects M_X1_hearAll.1.cls M_X1_hearAll.1 M_X1_hearAll.1 ∈ TT := tt_of 35 (by decide +kernel) (by decide +kernel)
abbrev M_X1_mattersAsHeard : MD := (yX1_mattersAsHeard, cX1_mattersAsHeard, 4, (some .int), fun _ _ => True)
theorem mf_X1_mattersAsHeard : MF M_X1_mattersAsHeard 1 := ⟨tt_of 1088 (by decide +kernel) (by decide +kernel), tt_of 118 (by decide +kernel) (by decide +kernel), ⟨by decide, by decide, by decide +kernel⟩, by decide⟩
theorem mi_X1_mattersAsHeard : Cond.instanceMethod M_X1_mattersAsHeard.1 ∈ TT := tt_of 1086 (by decide +kernel) (by decide +kernel)
theorem me_X1_mattersAsHeard : Cond.selects M_X1_mattersAsHeard.1.cls M_X1_mattersAsHeard.1 M_X1_mattersAsHeard.1 ∈ TT := tt_of 1087 (by decide +kernel) (by decide +kernel)
abbrev M_X1_mattersAyeOn : MD := (yX1_mattersAyeOn, cX1_mattersAyeOn, 5, (some .int), fun _ _ => True)
theorem mf_X1_mattersAyeOn : MF M_X1_mattersAyeOn 2 := ⟨tt_of 1101 (by decide +kernel) (by decide +kernel), tt_of 118 (by decide +kernel) (by decide +kernel), ⟨by decide, by decide, by decide +kernel⟩, by decide⟩
theorem mi_X1_mattersAyeOn : Cond.instanceMethod M_X1_mattersAyeOn.1 ∈ TT := tt_of 1099 (by decide +kernel) (by decide +kernel)
theorem me_X1_mattersAyeOn : Cond.selects M_X1_mattersAyeOn.1.cls M_X1_mattersAyeOn.1 M_X1_mattersAyeOn.1 ∈ TT := tt_of 1100 (by decide +kernel) (by decide +kernel)
abbrev M_X2_init : MD := (yX2_init, cX2_init, 1, none, fun _ _ => True)
theorem mf_X2_init : MF M_X2_init 0 := ⟨tt_of 310 (by decide +kernel) (by decide +kernel), tt_of 116 (by decide +kernel) (by decide +kernel), ⟨by decide, by decide, by decide +kernel⟩, by decide⟩
theorem mi_X2_init : Cond.instanceMethod M_X2_init.1 ∈ TT := tt_of 309 (by decide +kernel) (by decide +kernel)
abbrev M_X2_begin : MD := (yX2_begin, cX2_begin, 3, none, fun _ _ => True)
theorem mf_X2_begin : MF M_X2_begin 2 := ⟨tt_of 1122 (by decide +kernel) (by decide +kernel), tt_of 116 (by decide +kernel) (by decide +kernel), ⟨by decide, by decide, by decide +kernel⟩, by decide⟩
theorem mi_X2_begin : Cond.instanceMethod M_X2_begin.1 ∈ TT := tt_of 1120 (by decide +kernel) (by decide +kernel)
theorem me_X2_begin : Cond.selects M_X2_begin.1.cls M_X2_begin.1 M_X2_begin.1 ∈ TT := tt_of 1121 (by decide +kernel) (by decide +kernel)
abbrev M_X2_draw : MD := (yX2_draw, cX2_draw, 2, (some .int), fun _ _ => True)
theorem mf_X2_draw : MF M_X2_draw 1 := ⟨tt_of 1131 (by decide +kernel) (by decide +kernel), tt_of 116 (by decide +kernel) (by decide +kernel), ⟨by decide, by decide, by decide +kernel⟩, by decide⟩
theorem mi_X2_draw : Cond.instanceMethod M_X2_draw.1 ∈ TT := tt_of 1130 (by decide +kernel) (by decide +kernel)
theorem me_X2_draw : Cond.selects M_X2_draw.1.cls M_X2_draw.1 M_X2_draw.1 ∈ TT := tt_of 36 (by decide +kernel) (by decide +kernel)
abbrev M_X2_step : MD := (yX2_step, cX2_step, 5, none, fun _ _ => True)
theorem mf_X2_step : MF M_X2_step 1 := ⟨tt_of 1127 (by decide +kernel) (by decide +kernel), tt_of 116 (by decide +kernel) (by decide +kernel), ⟨by decide, by decide, by decide +kernel⟩, by decide⟩
theorem mi_X2_step : Cond.instanceMethod M_X2_step.1 ∈ TT := tt_of 1125 (by decide +kernel) (by decide +kernel)
theorem me_X2_step : Cond.selects M_X2_step.1.cls M_X2_step.1 M_X2_step.1 ∈ TT := tt_of 1126 (by decide +kernel) (by decide +kernel)
abbrev M_X3_init : MD := (yX3_init, cX3_init, 1, none, fun _ _ => True)
theorem mf_X3_init : MF M_X3_init 0 := ⟨tt_of 416 (by decide +kernel) (by decide +kernel), tt_of 120 (by decide +kernel) (by decide +kernel), ⟨by decide, by decide, by decide +kernel⟩, by decide⟩
theorem mi_X3_init : Cond.instanceMethod M_X3_init.1 ∈ TT := tt_of 415 (by decide +kernel) (by decide +kernel)
abbrev M_X3_read : MD := (yX3_read, cX3_read, 5, (some .boolean), fun _ _ => True)
theorem mf_X3_read : MF M_X3_read 3 := ⟨tt_of 711 (by decide +kernel) (by decide +kernel), tt_of 120 (by decide +kernel) (by decide +kernel), ⟨by decide, by decide, by decide +kernel⟩, by decide⟩
theorem mi_X3_read : Cond.instanceMethod M_X3_read.1 ∈ TT := tt_of 709 (by decide +kernel) (by decide +kernel)
theorem me_X3_read : Cond.selects M_X3_read.1.cls M_X3_read.1 M_X3_read.1 ∈ TT := tt_of 710 (by decide +kernel) (by decide +kernel)
abbrev M_X3_place : MD := (yX3_place, cX3_place, 1, (some .int), fun _ _ => True)
theorem mf_X3_place : MF M_X3_place 0 := ⟨tt_of 865 (by decide +kernel) (by decide +kernel), tt_of 120 (by decide +kernel) (by decide +kernel), ⟨by decide, by decide, by decide +kernel⟩, by decide⟩
theorem mi_X3_place : Cond.instanceMethod M_X3_place.1 ∈ TT := tt_of 863 (by decide +kernel) (by decide +kernel)
theorem me_X3_place : Cond.selects M_X3_place.1.cls M_X3_place.1 M_X3_place.1 ∈ TT := tt_of 864 (by decide +kernel) (by decide +kernel)
abbrev M_X3_kind : MD := (yX3_kind, cX3_kind, 1, (some .int), fun _ _ => True)
theorem mf_X3_kind : MF M_X3_kind 0 := ⟨tt_of 789 (by decide +kernel) (by decide +kernel), tt_of 120 (by decide +kernel) (by decide +kernel), ⟨by decide, by decide, by decide +kernel⟩, by decide⟩
theorem mi_X3_kind : Cond.instanceMethod M_X3_kind.1 ∈ TT := tt_of 788 (by decide +kernel) (by decide +kernel)
theorem me_X3_kind : Cond.selects M_X3_kind.1.cls M_X3_kind.1 M_X3_kind.1 ∈ TT := tt_of 10 (by decide +kernel) (by decide +kernel)
abbrev M_X3_number : MD := (yX3_number, cX3_number, 1, (some .int), fun _ _ => True)
theorem mf_X3_number : MF M_X3_number 0 := ⟨tt_of 825 (by decide +kernel) (by decide +kernel), tt_of 120 (by decide +kernel) (by decide +kernel), ⟨by decide, by decide, by decide +kernel⟩, by decide⟩
theorem mi_X3_number : Cond.instanceMethod M_X3_number.1 ∈ TT := tt_of 824 (by decide +kernel) (by decide +kernel)
theorem me_X3_number : Cond.selects M_X3_number.1.cls M_X3_number.1 M_X3_number.1 ∈ TT := tt_of 18 (by decide +kernel) (by decide +kernel)
abbrev M_X3_next : MD := (yX3_next, cX3_next, 1, none, fun _ _ => True)
theorem mf_X3_next : MF M_X3_next 0 := ⟨tt_of 805 (by decide +kernel) (by decide +kernel), tt_of 120 (by decide +kernel) (by decide +kernel), ⟨by decide, by decide, by decide +kernel⟩, by decide⟩
theorem mi_X3_next : Cond.instanceMethod M_X3_next.1 ∈ TT := tt_of 804 (by decide +kernel) (by decide +kernel)
theorem me_X3_next : Cond.selects M_X3_next.1.cls M_X3_next.1 M_X3_next.1 ∈ TT := tt_of 13 (by decide +kernel) (by decide +kernel)
abbrev M_X3_isNumber : MD := (yX3_isNumber, cX3_isNumber, 3, (some .boolean), fun _ _ => True)
theorem mf_X3_isNumber : MF M_X3_isNumber 2 := ⟨tt_of 821 (by decide +kernel) (by decide +kernel), tt_of 120 (by decide +kernel) (by decide +kernel), ⟨by decide, by decide, by decide +kernel⟩, by decide⟩
theorem mi_X3_isNumber : Cond.instanceMethod M_X3_isNumber.1 ∈ TT := tt_of 820 (by decide +kernel) (by decide +kernel)
theorem me_X3_isNumber : Cond.selects M_X3_isNumber.1.cls M_X3_isNumber.1 M_X3_isNumber.1 ∈ TT := tt_of 17 (by decide +kernel) (by decide +kernel)
abbrev M_X3_setHead : MD := (yX3_setHead, cX3_setHead, 3, none, fun _ _ => True)
theorem mf_X3_setHead : MF M_X3_setHead 2 := ⟨tt_of 793 (by decide +kernel) (by decide +kernel), tt_of 120 (by decide +kernel) (by decide +kernel), ⟨by decide, by decide, by decide +kernel⟩, by decide⟩
theorem mi_X3_setHead : Cond.instanceMethod M_X3_setHead.1 ∈ TT := tt_of 792 (by decide +kernel) (by decide +kernel)
theorem me_X3_setHead : Cond.selects M_X3_setHead.1.cls M_X3_setHead.1 M_X3_setHead.1 ∈ TT := tt_of 11 (by decide +kernel) (by decide +kernel)
abbrev M_X3_emit : MD := (yX3_emit, cX3_emit, 3, none, fun _ _ => True)
theorem mf_X3_emit : MF M_X3_emit 2 := ⟨tt_of 829 (by decide +kernel) (by decide +kernel), tt_of 120 (by decide +kernel) (by decide +kernel), ⟨by decide, by decide, by decide +kernel⟩, by decide⟩
theorem mi_X3_emit : Cond.instanceMethod M_X3_emit.1 ∈ TT := tt_of 828 (by decide +kernel) (by decide +kernel)
theorem me_X3_emit : Cond.selects M_X3_emit.1.cls M_X3_emit.1 M_X3_emit.1 ∈ TT := tt_of 19 (by decide +kernel) (by decide +kernel)
abbrev M_X3_lawClause : MD := (yX3_lawClause, cX3_lawClause, 2, (some .boolean), fun _ _ => True)
theorem mf_X3_lawClause : MF M_X3_lawClause 0 := ⟨tt_of 801 (by decide +kernel) (by decide +kernel), tt_of 120 (by decide +kernel) (by decide +kernel), ⟨by decide, by decide, by decide +kernel⟩, by decide⟩
theorem mi_X3_lawClause : Cond.instanceMethod M_X3_lawClause.1 ∈ TT := tt_of 800 (by decide +kernel) (by decide +kernel)
theorem me_X3_lawClause : Cond.selects M_X3_lawClause.1.cls M_X3_lawClause.1 M_X3_lawClause.1 ∈ TT := tt_of 12 (by decide +kernel) (by decide +kernel)
abbrev M_X3_orderClause : MD := (yX3_orderClause, cX3_orderClause, 2, (some .boolean), fun _ _ => True)
theorem mf_X3_orderClause : MF M_X3_orderClause 0 := ⟨tt_of 841 (by decide +kernel) (by decide +kernel), tt_of 120 (by decide +kernel) (by decide +kernel), ⟨by decide, by decide, by decide +kernel⟩, by decide⟩
theorem mi_X3_orderClause : Cond.instanceMethod M_X3_orderClause.1 ∈ TT := tt_of 840 (by decide +kernel) (by decide +kernel)
theorem me_X3_orderClause : Cond.selects M_X3_orderClause.1.cls M_X3_orderClause.1 M_X3_orderClause.1 ∈ TT := tt_of 22 (by decide +kernel) (by decide +kernel)
abbrev M_X3_times : MD := (yX3_times, cX3_times, 1, (some .boolean), fun _ _ => True)
theorem mf_X3_times : MF M_X3_times 0 := ⟨tt_of 845 (by decide +kernel) (by decide +kernel), tt_of 120 (by decide +kernel) (by decide +kernel), ⟨by decide, by decide, by decide +kernel⟩, by decide⟩
theorem mi_X3_times : Cond.instanceMethod M_X3_times.1 ∈ TT := tt_of 844 (by decide +kernel) (by decide +kernel)
theorem me_X3_times : Cond.selects M_X3_times.1.cls M_X3_times.1 M_X3_times.1 ∈ TT := tt_of 23 (by decide +kernel) (by decide +kernel)
abbrev M_X3_test : MD := (yX3_test, cX3_test, 6, (some .boolean), fun _ _ => True)
theorem mf_X3_test : MF M_X3_test 1 := ⟨tt_of 849 (by decide +kernel) (by decide +kernel), tt_of 120 (by decide +kernel) (by decide +kernel), ⟨by decide, by decide, by decide +kernel⟩, by decide⟩
theorem mi_X3_test : Cond.instanceMethod M_X3_test.1 ∈ TT := tt_of 848 (by decide +kernel) (by decide +kernel)
theorem me_X3_test : Cond.selects M_X3_test.1.cls M_X3_test.1 M_X3_test.1 ∈ TT := tt_of 24 (by decide +kernel) (by decide +kernel)
abbrev M_X3_leapHere : MD := (yX3_leapHere, cX3_leapHere, 2, none, fun _ _ => True)
theorem mf_X3_leapHere : MF M_X3_leapHere 1 := ⟨tt_of 861 (by decide +kernel) (by decide +kernel), tt_of 120 (by decide +kernel) (by decide +kernel), ⟨by decide, by decide, by decide +kernel⟩, by decide⟩
theorem mi_X3_leapHere : Cond.instanceMethod M_X3_leapHere.1 ∈ TT := tt_of 860 (by decide +kernel) (by decide +kernel)
theorem me_X3_leapHere : Cond.selects M_X3_leapHere.1.cls M_X3_leapHere.1 M_X3_leapHere.1 ∈ TT := tt_of 27 (by decide +kernel) (by decide +kernel)
abbrev M_X3_plain : MD := (yX3_plain, cX3_plain, 4, (some .boolean), fun _ _ => True)
theorem mf_X3_plain : MF M_X3_plain 1 := ⟨tt_of 853 (by decide +kernel) (by decide +kernel), tt_of 120 (by decide +kernel) (by decide +kernel), ⟨by decide, by decide, by decide +kernel⟩, by decide⟩
theorem mi_X3_plain : Cond.instanceMethod M_X3_plain.1 ∈ TT := tt_of 852 (by decide +kernel) (by decide +kernel)
theorem me_X3_plain : Cond.selects M_X3_plain.1.cls M_X3_plain.1 M_X3_plain.1 ∈ TT := tt_of 25 (by decide +kernel) (by decide +kernel)
abbrev M_X3_testInBrackets : MD := (yX3_testInBrackets, cX3_testInBrackets, 2, (some .boolean), fun _ _ => True)
theorem mf_X3_testInBrackets : MF M_X3_testInBrackets 1 := ⟨tt_of 857 (by decide +kernel) (by decide +kernel), tt_of 120 (by decide +kernel) (by decide +kernel), ⟨by decide, by decide, by decide +kernel⟩, by decide⟩
theorem mi_X3_testInBrackets : Cond.instanceMethod M_X3_testInBrackets.1 ∈ TT := tt_of 856 (by decide +kernel) (by decide +kernel)
theorem me_X3_testInBrackets : Cond.selects M_X3_testInBrackets.1.cls M_X3_testInBrackets.1 M_X3_testInBrackets.1 ∈ TT := tt_of 26 (by decide +kernel) (by decide +kernel)
abbrev M_X3_sum : MD := (yX3_sum, cX3_sum, 6, (some .boolean), fun _ _ => True)
theorem mf_X3_sum : MF M_X3_sum 1 := ⟨tt_of 809 (by decide +kernel) (by decide +kernel), tt_of 120 (by decide +kernel) (by decide +kernel), ⟨by decide, by decide, by decide +kernel⟩, by decide⟩
theorem mi_X3_sum : Cond.instanceMethod M_X3_sum.1 ∈ TT := tt_of 808 (by decide +kernel) (by decide +kernel)
theorem me_X3_sum : Cond.selects M_X3_sum.1.cls M_X3_sum.1 M_X3_sum.1 ∈ TT := tt_of 14 (by decide +kernel) (by decide +kernel)
abbrev M_X3_part : MD := (yX3_part, cX3_part, 2, (some .boolean), fun _ _ => True)
theorem mf_X3_part : MF M_X3_part 1 := ⟨tt_of 813 (by decide +kernel) (by decide +kernel), tt_of 120 (by decide +kernel) (by decide +kernel), ⟨by decide, by decide, by decide +kernel⟩, by decide⟩
theorem mi_X3_part : Cond.instanceMethod M_X3_part.1 ∈ TT := tt_of 812 (by decide +kernel) (by decide +kernel)
theorem me_X3_part : Cond.selects M_X3_part.1.cls M_X3_part.1 M_X3_part.1 ∈ TT := tt_of 15 (by decide +kernel) (by decide +kernel)
abbrev M_X3_sumInBrackets : MD := (yX3_sumInBrackets, cX3_sumInBrackets, 2, (some .boolean), fun _ _ => True)
theorem mf_X3_sumInBrackets : MF M_X3_sumInBrackets 1 := ⟨tt_of 817 (by decide +kernel) (by decide +kernel), tt_of 120 (by decide +kernel) (by decide +kernel), ⟨by decide, by decide, by decide +kernel⟩, by decide⟩
theorem mi_X3_sumInBrackets : Cond.instanceMethod M_X3_sumInBrackets.1 ∈ TT := tt_of 816 (by decide +kernel) (by decide +kernel)
theorem me_X3_sumInBrackets : Cond.selects M_X3_sumInBrackets.1.cls M_X3_sumInBrackets.1 M_X3_sumInBrackets.1 ∈ TT := tt_of 16 (by decide +kernel) (by decide +kernel)
abbrev M_X3_lawWord : MD := (yX3_lawWord, cX3_lawWord, 2, (some .boolean), fun _ _ => True)
theorem mf_X3_lawWord : MF M_X3_lawWord 0 := ⟨tt_of 833 (by decide +kernel) (by decide +kernel), tt_of 120 (by decide +kernel) (by decide +kernel), ⟨by decide, by decide, by decide +kernel⟩, by decide⟩
theorem mi_X3_lawWord : Cond.instanceMethod M_X3_lawWord.1 ∈ TT := tt_of 832 (by decide +kernel) (by decide +kernel)
theorem me_X3_lawWord : Cond.selects M_X3_lawWord.1.cls M_X3_lawWord.1 M_X3_lawWord.1 ∈ TT := tt_of 20 (by decide +kernel) (by decide +kernel)
abbrev M_X3_orderWord : MD := (yX3_orderWord, cX3_orderWord, 2, (some .boolean), fun _ _ => True)
theorem mf_X3_orderWord : MF M_X3_orderWord 0 := ⟨tt_of 837 (by decide +kernel) (by decide +kernel), tt_of 120 (by decide +kernel) (by decide +kernel), ⟨by decide, by decide, by decide +kernel⟩, by decide⟩
theorem mi_X3_orderWord : Cond.instanceMethod M_X3_orderWord.1 ∈ TT := tt_of 836 (by decide +kernel) (by decide +kernel)
theorem me_X3_orderWord : Cond.selects M_X3_orderWord.1.cls M_X3_orderWord.1 M_X3_orderWord.1 ∈ TT := tt_of 21 (by decide +kernel) (by decide +kernel)
abbrev M_X4_init : MD := (yX4_init, cX4_init, 1, none, fun _ _ => True)
theorem mf_X4_init : MF M_X4_init 0 := ⟨tt_of 334 (by decide +kernel) (by decide +kernel), tt_of 117 (by decide +kernel) (by decide +kernel), ⟨by decide, by decide, by decide +kernel⟩, by decide⟩
theorem mi_X4_init : Cond.instanceMethod M_X4_init.1 ∈ TT := tt_of 333 (by decide +kernel) (by decide +kernel)
abbrev M_X4_holds : MD := (yX4_holds, cX4_holds, 7, (some .boolean), fun _ _ => True)
theorem mf_X4_holds : MF M_X4_holds 2 := ⟨tt_of 598 (by decide +kernel) (by decide +kernel), tt_of 117 (by decide +kernel) (by decide +kernel), ⟨by decide, by decide, by decide +kernel⟩, by decide⟩
theorem mi_X4_holds : Cond.instanceMethod M_X4_holds.1 ∈ TT := tt_of 596 (by decide +kernel) (by decide +kernel)
theorem me_X4_holds : Cond.selects M_X4_holds.1.cls M_X4_holds.1 M_X4_holds.1 ∈ TT := tt_of 597 (by decide +kernel) (by decide +kernel)
abbrev M_X4_reckon : MD := (yX4_reckon, cX4_reckon, 15, (some .boolean), fun _ _ => True)
theorem mf_X4_reckon : MF M_X4_reckon 3 := ⟨tt_of 606 (by decide +kernel) (by decide +kernel), tt_of 117 (by decide +kernel) (by decide +kernel), ⟨by decide, by decide, by decide +kernel⟩, by decide⟩
theorem mi_X4_reckon : Cond.instanceMethod M_X4_reckon.1 ∈ TT := tt_of 604 (by decide +kernel) (by decide +kernel)
theorem me_X4_reckon : Cond.selects M_X4_reckon.1.cls M_X4_reckon.1 M_X4_reckon.1 ∈ TT := tt_of 605 (by decide +kernel) (by decide +kernel)
abbrev M_X5_init : MD := (yX5_init, cX5_init, 1, none, fun _ _ => True)
theorem mf_X5_init : MF M_X5_init 0 := ⟨tt_of 288 (by decide +kernel) (by decide +kernel), tt_of 115 (by decide +kernel) (by decide +kernel), ⟨by decide, by decide, by decide +kernel⟩, by decide⟩
theorem mi_X5_init : Cond.instanceMethod M_X5_init.1 ∈ TT := tt_of 287 (by decide +kernel) (by decide +kernel)
abbrev M_X5_note : MD := (yX5_note, cX5_note, 2, none, fun _ _ => True)
theorem mf_X5_note : MF M_X5_note 1 := ⟨tt_of 905 (by decide +kernel) (by decide +kernel), tt_of 115 (by decide +kernel) (by decide +kernel), ⟨by decide, by decide, by decide +kernel⟩, by decide⟩
theorem mi_X5_note : Cond.instanceMethod M_X5_note.1 ∈ TT := tt_of 903 (by decide +kernel) (by decide +kernel)
theorem me_X5_note : Cond.selects M_X5_note.1.cls M_X5_note.1 M_X5_note.1 ∈ TT := tt_of 904 (by decide +kernel) (by decide +kernel)
abbrev M_X5_keep : MD := (yX5_keep, cX5_keep, 2, none, fun _ _ => True)
theorem mf_X5_keep : MF M_X5_keep 1 := ⟨tt_of 930 (by decide +kernel) (by decide +kernel), tt_of 115 (by decide +kernel) (by decide +kernel), ⟨by decide, by decide, by decide +kernel⟩, by decide⟩
theorem mi_X5_keep : Cond.instanceMethod M_X5_keep.1 ∈ TT := tt_of 928 (by decide +kernel) (by decide +kernel)
theorem me_X5_keep : Cond.selects M_X5_keep.1.cls M_X5_keep.1 M_X5_keep.1 ∈ TT := tt_of 929 (by decide +kernel) (by decide +kernel)
abbrev M_X5_takeBack : MD := (yX5_takeBack, cX5_takeBack, 2, (some .int), fun _ _ => True)
theorem mf_X5_takeBack : MF M_X5_takeBack 1 := ⟨tt_of 972 (by decide +kernel) (by decide +kernel), tt_of 115 (by decide +kernel) (by decide +kernel), ⟨by decide, by decide, by decide +kernel⟩, by decide⟩
theorem mi_X5_takeBack : Cond.instanceMethod M_X5_takeBack.1 ∈ TT := tt_of 970 (by decide +kernel) (by decide +kernel)
theorem me_X5_takeBack : Cond.selects M_X5_takeBack.1.cls M_X5_takeBack.1 M_X5_takeBack.1 ∈ TT := tt_of 971 (by decide +kernel) (by decide +kernel)
abbrev M_X5_clear : MD := (yX5_clear, cX5_clear, 1, none, fun _ _ => True)
theorem mf_X5_clear : MF M_X5_clear 0 := ⟨tt_of 532 (by decide +kernel) (by decide +kernel), tt_of 115 (by decide +kernel) (by decide +kernel), ⟨by decide, by decide, by decide +kernel⟩, by decide⟩
theorem mi_X5_clear : Cond.instanceMethod M_X5_clear.1 ∈ TT := tt_of 530 (by decide +kernel) (by decide +kernel)
theorem me_X5_clear : Cond.selects M_X5_clear.1.cls M_X5_clear.1 M_X5_clear.1 ∈ TT := tt_of 531 (by decide +kernel) (by decide +kernel)
abbrev M_X5_become : MD := (yX5_become, cX5_become, 2, none, fun _ _ => True)
theorem mf_X5_become : MF M_X5_become 1 := ⟨tt_of 881 (by decide +kernel) (by decide +kernel), tt_of 115 (by decide +kernel) (by decide +kernel), ⟨by decide, by decide, by decide +kernel⟩, by decide⟩
theorem mi_X5_become : Cond.instanceMethod M_X5_become.1 ∈ TT := tt_of 879 (by decide +kernel) (by decide +kernel)
theorem me_X5_become : Cond.selects M_X5_become.1.cls M_X5_become.1 M_X5_become.1 ∈ TT := tt_of 880 (by decide +kernel) (by decide +kernel)
abbrev M_X6_init : MD := (yX6_init, cX6_init, 1, none, fun _ _ => True)
theorem mf_X6_init : MF M_X6_init 0 := ⟨tt_of 141 (by decide +kernel) (by decide +kernel), tt_of 111 (by decide +kernel) (by decide +kernel), ⟨by decide, by decide, by decide +kernel⟩, by decide⟩
theorem mi_X6_init : Cond.instanceMethod M_X6_init.1 ∈ TT := tt_of 140 (by decide +kernel) (by decide +kernel)
abbrev M_X6_become : MD := (yX6_become, cX6_become, 2, none, fun _ _ => True)
theorem mf_X6_become : MF M_X6_become 1 := ⟨tt_of 1148 (by decide +kernel) (by decide +kernel), tt_of 111 (by decide +kernel) (by decide +kernel), ⟨by decide, by decide, by decide +kernel⟩, by decide⟩
theorem mi_X6_become : Cond.instanceMethod M_X6_become.1 ∈ TT := tt_of 1146 (by decide +kernel) (by decide +kernel)
theorem me_X6_become : Cond.selects M_X6_become.1.cls M_X6_become.1 M_X6_become.1 ∈ TT := tt_of 1147 (by decide +kernel) (by decide +kernel)
abbrev M_X6_hasBird : MD := (yX6_hasBird, cX6_hasBird, 2, (some .boolean), fun _ _ => True)
theorem mf_X6_hasBird : MF M_X6_hasBird 1 := ⟨tt_of 551 (by decide +kernel) (by decide +kernel), tt_of 111 (by decide +kernel) (by decide +kernel), ⟨by decide, by decide, by decide +kernel⟩, by decide⟩
theorem mi_X6_hasBird : Cond.instanceMethod M_X6_hasBird.1 ∈ TT := tt_of 549 (by decide +kernel) (by decide +kernel)
theorem me_X6_hasBird : Cond.selects M_X6_hasBird.1.cls M_X6_hasBird.1 M_X6_hasBird.1 ∈ TT := tt_of 550 (by decide +kernel) (by decide +kernel)
abbrev M_X6_hasMatter : MD := (yX6_hasMatter, cX6_hasMatter, 2, (some .boolean), fun _ _ => True)
theorem mf_X6_hasMatter : MF M_X6_hasMatter 1 := ⟨tt_of 570 (by decide +kernel) (by decide +kernel), tt_of 111 (by decide +kernel) (by decide +kernel), ⟨by decide, by decide, by decide +kernel⟩, by decide⟩
theorem mi_X6_hasMatter : Cond.instanceMethod M_X6_hasMatter.1 ∈ TT := tt_of 568 (by decide +kernel) (by decide +kernel)
theorem me_X6_hasMatter : Cond.selects M_X6_hasMatter.1.cls M_X6_hasMatter.1 M_X6_hasMatter.1 ∈ TT := tt_of 569 (by decide +kernel) (by decide +kernel)
abbrev M_X6_hasLaw : MD := (yX6_hasLaw, cX6_hasLaw, 2, (some .boolean), fun _ _ => True)
theorem mf_X6_hasLaw : MF M_X6_hasLaw 1 := ⟨tt_of 594 (by decide +kernel) (by decide +kernel), tt_of 111 (by decide +kernel) (by decide +kernel), ⟨by decide, by decide, by decide +kernel⟩, by decide⟩
theorem mi_X6_hasLaw : Cond.instanceMethod M_X6_hasLaw.1 ∈ TT := tt_of 592 (by decide +kernel) (by decide +kernel)
theorem me_X6_hasLaw : Cond.selects M_X6_hasLaw.1.cls M_X6_hasLaw.1 M_X6_hasLaw.1 ∈ TT := tt_of 593 (by decide +kernel) (by decide +kernel)
abbrev M_X6_addBird : MD := (yX6_addBird, cX6_addBird, 5, (some .int), fun _ _ => True)
theorem mf_X6_addBird : MF M_X6_addBird 2 := ⟨tt_of 536 (by decide +kernel) (by decide +kernel), tt_of 111 (by decide +kernel) (by decide +kernel), ⟨by decide, by decide, by decide +kernel⟩, by decide⟩
theorem mi_X6_addBird : Cond.instanceMethod M_X6_addBird.1 ∈ TT := tt_of 534 (by decide +kernel) (by decide +kernel)
theorem me_X6_addBird : Cond.selects M_X6_addBird.1.cls M_X6_addBird.1 M_X6_addBird.1 ∈ TT := tt_of 535 (by decide +kernel) (by decide +kernel)
abbrev M_X6_addMatter : MD := (yX6_addMatter, cX6_addMatter, 4, (some .int), fun _ _ => True)
theorem mf_X6_addMatter : MF M_X6_addMatter 2 := ⟨tt_of 627 (by decide +kernel) (by decide +kernel), tt_of 111 (by decide +kernel) (by decide +kernel), ⟨by decide, by decide, by decide +kernel⟩, by decide⟩
theorem mi_X6_addMatter : Cond.instanceMethod M_X6_addMatter.1 ∈ TT := tt_of 625 (by decide +kernel) (by decide +kernel)
theorem me_X6_addMatter : Cond.selects M_X6_addMatter.1.cls M_X6_addMatter.1 M_X6_addMatter.1 ∈ TT := tt_of 626 (by decide +kernel) (by decide +kernel)
abbrev M_X6_hear : MD := (yX6_hear, cX6_hear, 2, none, fun _ _ => True)
theorem mf_X6_hear : MF M_X6_hear 1 := ⟨tt_of 1076 (by decide +kernel) (by decide +kernel), tt_of 111 (by decide +kernel) (by decide +kernel), ⟨by decide, by decide, by decide +kernel⟩, by decide⟩
theorem mi_X6_hear : Cond.instanceMethod M_X6_hear.1 ∈ TT := tt_of 1074 (by decide +kernel) (by decide +kernel)
theorem me_X6_hear : Cond.selects M_X6_hear.1.cls M_X6_hear.1 M_X6_hear.1 ∈ TT := tt_of 1075 (by decide +kernel) (by decide +kernel)
abbrev M_X6_fitsAllHeard : MD := (yX6_fitsAllHeard, cX6_fitsAllHeard, 3, (some .boolean), fun _ _ => True)
theorem mf_X6_fitsAllHeard : MF M_X6_fitsAllHeard 1 := ⟨tt_of 1092 (by decide +kernel) (by decide +kernel), tt_of 111 (by decide +kernel) (by decide +kernel), ⟨by decide, by decide, by decide +kernel⟩, by decide⟩
theorem mi_X6_fitsAllHeard : Cond.instanceMethod M_X6_fitsAllHeard.1 ∈ TT := tt_of 1090 (by decide +kernel) (by decide +kernel)
theorem me_X6_fitsAllHeard : Cond.selects M_X6_fitsAllHeard.1.cls M_X6_fitsAllHeard.1 M_X6_fitsAllHeard.1 ∈ TT := tt_of 1091 (by decide +kernel) (by decide +kernel)
abbrev M_X6_lawInForce : MD := (yX6_lawInForce, cX6_lawInForce, 1, (some (.object "DarkCommittee$Text")), fun _ _ => True)
theorem mf_X6_lawInForce : MF M_X6_lawInForce 0 := ⟨tt_of 586 (by decide +kernel) (by decide +kernel), tt_of 111 (by decide +kernel) (by decide +kernel), ⟨by decide, by decide, by decide +kernel⟩, by decide⟩
theorem mi_X6_lawInForce : Cond.instanceMethod M_X6_lawInForce.1 ∈ TT := tt_of 584 (by decide +kernel) (by decide +kernel)
theorem me_X6_lawInForce : Cond.selects M_X6_lawInForce.1.cls M_X6_lawInForce.1 M_X6_lawInForce.1 ∈ TT := tt_of 585 (by decide +kernel) (by decide +kernel)
abbrev M_X6_lawOf : MD := (yX6_lawOf, cX6_lawOf, 3, (some (.object "DarkCommittee$Text")), fun _ _ => True)
theorem mf_X6_lawOf : MF M_X6_lawOf 1 := ⟨tt_of 590 (by decide +kernel) (by decide +kernel), tt_of 111 (by decide +kernel) (by decide +kernel), ⟨by decide, by decide, by decide +kernel⟩, by decide⟩
theorem mi_X6_lawOf : Cond.instanceMethod M_X6_lawOf.1 ∈ TT := tt_of 588 (by decide +kernel) (by decide +kernel)
theorem me_X6_lawOf : Cond.selects M_X6_lawOf.1.cls M_X6_lawOf.1 M_X6_lawOf.1 ∈ TT := tt_of 589 (by decide +kernel) (by decide +kernel)
abbrev M_X7_init : MD := (yX7_init, cX7_init, 1, none, fun _ _ => True)
theorem mf_X7_init : MF M_X7_init 0 := ⟨tt_of 147 (by decide +kernel) (by decide +kernel), tt_of 112 (by decide +kernel) (by decide +kernel), ⟨by decide, by decide, by decide +kernel⟩, by decide⟩
theorem mi_X7_init : Cond.instanceMethod M_X7_init.1 ∈ TT := tt_of 146 (by decide +kernel) (by decide +kernel)
abbrev M_X7_become : MD := (yX7_become, cX7_become, 2, none, fun _ _ => True)
theorem mf_X7_become : MF M_X7_become 1 := ⟨tt_of 644 (by decide +kernel) (by decide +kernel), tt_of 112 (by decide +kernel) (by decide +kernel), ⟨by decide, by decide, by decide +kernel⟩, by decide⟩
theorem mi_X7_become : Cond.instanceMethod M_X7_become.1 ∈ TT := tt_of 642 (by decide +kernel) (by decide +kernel)
theorem me_X7_become : Cond.selects M_X7_become.1.cls M_X7_become.1 M_X7_become.1 ∈ TT := tt_of 643 (by decide +kernel) (by decide +kernel)
abbrev M_X7_writeTo : MD := (yX7_writeTo, cX7_writeTo, 3, none, fun _ _ => True)
theorem mf_X7_writeTo : MF M_X7_writeTo 2 := ⟨tt_of 909 (by decide +kernel) (by decide +kernel), tt_of 112 (by decide +kernel) (by decide +kernel), ⟨by decide, by decide, by decide +kernel⟩, by decide⟩
theorem mi_X7_writeTo : Cond.instanceMethod M_X7_writeTo.1 ∈ TT := tt_of 907 (by decide +kernel) (by decide +kernel)
theorem me_X7_writeTo : Cond.selects M_X7_writeTo.1.cls M_X7_writeTo.1 M_X7_writeTo.1 ∈ TT := tt_of 908 (by decide +kernel) (by decide +kernel)
abbrev M_X7_readFrom : MD := (yX7_readFrom, cX7_readFrom, 3, none, fun _ _ => True)
theorem mf_X7_readFrom : MF M_X7_readFrom 2 := ⟨tt_of 976 (by decide +kernel) (by decide +kernel), tt_of 112 (by decide +kernel) (by decide +kernel), ⟨by decide, by decide, by decide +kernel⟩, by decide⟩
theorem mi_X7_readFrom : Cond.instanceMethod M_X7_readFrom.1 ∈ TT := tt_of 974 (by decide +kernel) (by decide +kernel)
theorem me_X7_readFrom : Cond.selects M_X7_readFrom.1.cls M_X7_readFrom.1 M_X7_readFrom.1 ∈ TT := tt_of 975 (by decide +kernel) (by decide +kernel)
abbrev M_X8_init : MD := (yX8_init, cX8_init, 3, none, fun _ _ => True)
theorem mf_X8_init : MF M_X8_init 2 := ⟨tt_of 180 (by decide +kernel) (by decide +kernel), tt_of 113 (by decide +kernel) (by decide +kernel), ⟨by decide, by decide, by decide +kernel⟩, by decide⟩
theorem mi_X8_init : Cond.instanceMethod M_X8_init.1 ∈ TT := tt_of 179 (by decide +kernel) (by decide +kernel)
abbrev M_X8_copied : MD := (yX8_copied, cX8_copied, 2, (some (.object "DarkCommittee$Text")), fun _ _ => True)
theorem mf_X8_copied : MF M_X8_copied 0 := ⟨tt_of 869 (by decide +kernel) (by decide +kernel), tt_of 113 (by decide +kernel) (by decide +kernel), ⟨by decide, by decide, by decide +kernel⟩, by decide⟩
theorem mi_X8_copied : Cond.instanceMethod M_X8_copied.1 ∈ TT := tt_of 867 (by decide +kernel) (by decide +kernel)
theorem me_X8_copied : Cond.selects M_X8_copied.1.cls M_X8_copied.1 M_X8_copied.1 ∈ TT := tt_of 868 (by decide +kernel) (by decide +kernel)
abbrev M_X8_head : MD := (yX8_head, cX8_head, 4, (some .int), fun _ _ => True)
theorem mf_X8_head : MF M_X8_head 2 := ⟨tt_of 602 (by decide +kernel) (by decide +kernel), tt_of 113 (by decide +kernel) (by decide +kernel), ⟨by decide, by decide, by decide +kernel⟩, by decide⟩
theorem mi_X8_head : Cond.instanceMethod M_X8_head.1 ∈ TT := tt_of 600 (by decide +kernel) (by decide +kernel)
theorem me_X8_head : Cond.selects M_X8_head.1.cls M_X8_head.1 M_X8_head.1 ∈ TT := tt_of 601 (by decide +kernel) (by decide +kernel)
abbrev M_X8_setHead : MD := (yX8_setHead, cX8_setHead, 5, none, fun _ _ => True)
theorem mf_X8_setHead : MF M_X8_setHead 3 := ⟨tt_of 797 (by decide +kernel) (by decide +kernel), tt_of 113 (by decide +kernel) (by decide +kernel), ⟨by decide, by decide, by decide +kernel⟩, by decide⟩
theorem mi_X8_setHead : Cond.instanceMethod M_X8_setHead.1 ∈ TT := tt_of 795 (by decide +kernel) (by decide +kernel)
theorem me_X8_setHead : Cond.selects M_X8_setHead.1.cls M_X8_setHead.1 M_X8_setHead.1 ∈ TT := tt_of 796 (by decide +kernel) (by decide +kernel)
abbrev M_X9_init : MD := (yX9_init, cX9_init, 1, none, fun _ _ => True)
theorem mf_X9_init : MF M_X9_init 0 := ⟨tt_of 422 (by decide +kernel) (by decide +kernel), tt_of 121 (by decide +kernel) (by decide +kernel), ⟨by decide, by decide, by decide +kernel⟩, by decide⟩
theorem mi_X9_init : Cond.instanceMethod M_X9_init.1 ∈ TT := tt_of 421 (by decide +kernel) (by decide +kernel)
abbrev M_X9_cut : MD := (yX9_cut, cX9_cut, 5, none, fun _ _ => True)
theorem mf_X9_cut : MF M_X9_cut 2 := ⟨tt_of 715 (by decide +kernel) (by decide +kernel), tt_of 121 (by decide +kernel) (by decide +kernel), ⟨by decide, by decide, by decide +kernel⟩, by decide⟩
theorem mi_X9_cut : Cond.instanceMethod M_X9_cut.1 ∈ TT := tt_of 713 (by decide +kernel) (by decide +kernel)
theorem me_X9_cut : Cond.selects M_X9_cut.1.cls M_X9_cut.1 M_X9_cut.1 ∈ TT := tt_of 714 (by decide +kernel) (by decide +kernel)
abbrev M_X9_add : MD := (yX9_add, cX9_add, 4, none, fun _ _ => True)
theorem mf_X9_add : MF M_X9_add 3 := ⟨tt_of 785 (by decide +kernel) (by decide +kernel), tt_of 121 (by decide +kernel) (by decide +kernel), ⟨by decide, by decide, by decide +kernel⟩, by decide⟩
theorem mi_X9_add : Cond.instanceMethod M_X9_add.1 ∈ TT := tt_of 784 (by decide +kernel) (by decide +kernel)
theorem me_X9_add : Cond.selects M_X9_add.1.cls M_X9_add.1 M_X9_add.1 ∈ TT := tt_of 9 (by decide +kernel) (by decide +kernel)
abbrev M_X9_sortOf : MD := (yX9_sortOf, cX9_sortOf, 1, (some .int), fun _ _ => True)
theorem mf_X9_sortOf : MF M_X9_sortOf 1 := ⟨tt_of 721 (by decide +kernel) (by decide +kernel), tt_of 121 (by decide +kernel) (by decide +kernel), ⟨by decide, by decide, by decide +kernel⟩, by decide⟩
theorem ms_X9_sortOf : Cond.static M_X9_sortOf.1 ∈ TT := tt_of 720 (by decide +kernel) (by decide +kernel)
abbrev M_X9_endOf : MD := (yX9_endOf, cX9_endOf, 5, (some .int), fun _ _ => True)
theorem mf_X9_endOf : MF M_X9_endOf 3 := ⟨tt_of 718 (by decide +kernel) (by decide +kernel), tt_of 121 (by decide +kernel) (by decide +kernel), ⟨by decide, by decide, by decide +kernel⟩, by decide⟩
theorem ms_X9_endOf : Cond.static M_X9_endOf.1 ∈ TT := tt_of 717 (by decide +kernel) (by decide +kernel)
abbrev M_X9_kindOf : MD := (yX9_kindOf, cX9_kindOf, 4, (some .int), fun _ _ => True)
theorem mf_X9_kindOf : MF M_X9_kindOf 3 := ⟨tt_of 724 (by decide +kernel) (by decide +kernel), tt_of 121 (by decide +kernel) (by decide +kernel), ⟨by decide, by decide, by decide +kernel⟩, by decide⟩
theorem ms_X9_kindOf : Cond.static M_X9_kindOf.1 ∈ TT := tt_of 723 (by decide +kernel) (by decide +kernel)
abbrev M_X9_wordOf : MD := (yX9_wordOf, cX9_wordOf, 8, (some .int), fun _ _ => True)
theorem mf_X9_wordOf : MF M_X9_wordOf 3 := ⟨tt_of 727 (by decide +kernel) (by decide +kernel), tt_of 121 (by decide +kernel) (by decide +kernel), ⟨by decide, by decide, by decide +kernel⟩, by decide⟩
theorem ms_X9_wordOf : Cond.static M_X9_wordOf.1 ∈ TT := tt_of 726 (by decide +kernel) (by decide +kernel)
abbrev M_X9_numberOf : MD := (yX9_numberOf, cX9_numberOf, 5, (some .int), fun _ _ => True)
theorem mf_X9_numberOf : MF M_X9_numberOf 3 := ⟨tt_of 779 (by decide +kernel) (by decide +kernel), tt_of 121 (by decide +kernel) (by decide +kernel), ⟨by decide, by decide, by decide +kernel⟩, by decide⟩
theorem ms_X9_numberOf : Cond.static M_X9_numberOf.1 ∈ TT := tt_of 778 (by decide +kernel) (by decide +kernel)
abbrev M_X10_init : MD := (yX10_init, cX10_init, 2, none, fun _ _ => True)
theorem mf_X10_init : MF M_X10_init 0 := ⟨tt_of 133 (by decide +kernel) (by decide +kernel), tt_of 110 (by decide +kernel) (by decide +kernel), ⟨by decide, by decide, by decide +kernel⟩, by decide⟩
theorem mi_X10_init : Cond.instanceMethod M_X10_init.1 ∈ TT := tt_of 132 (by decide +kernel) (by decide +kernel)
abbrev M_X10_bird : MD := (yX10_bird, cX10_bird, 3, (some .int), fun _ _ => True)
theorem mf_X10_bird : MF M_X10_bird 2 := ⟨tt_of 524 (by decide +kernel) (by decide +kernel), tt_of 110 (by decide +kernel) (by decide +kernel), ⟨by decide, by decide, by decide +kernel⟩, by decide⟩
theorem mi_X10_bird : Cond.instanceMethod M_X10_bird.1 ∈ TT := tt_of 522 (by decide +kernel) (by decide +kernel)
theorem me_X10_bird : Cond.selects M_X10_bird.1.cls M_X10_bird.1 M_X10_bird.1 ∈ TT := tt_of 523 (by decide +kernel) (by decide +kernel)
abbrev M_X10_favour : MD := (yX10_favour, cX10_favour, 5, (some .int), fun _ _ => True)
theorem mf_X10_favour : MF M_X10_favour 3 := ⟨tt_of 547 (by decide +kernel) (by decide +kernel), tt_of 110 (by decide +kernel) (by decide +kernel), ⟨by decide, by decide, by decide +kernel⟩, by decide⟩
theorem mi_X10_favour : Cond.instanceMethod M_X10_favour.1 ∈ TT := tt_of 545 (by decide +kernel) (by decide +kernel)
theorem me_X10_favour : Cond.selects M_X10_favour.1.cls M_X10_favour.1 M_X10_favour.1 ∈ TT := tt_of 546 (by decide +kernel) (by decide +kernel)
abbrev M_X10_of : MD := (yX10_of, cX10_of, 4, (some .int), fun _ _ => True)
theorem mf_X10_of : MF M_X10_of 2 := ⟨tt_of 555 (by decide +kernel) (by decide +kernel), tt_of 110 (by decide +kernel) (by decide +kernel), ⟨by decide, by decide, by decide +kernel⟩, by decide⟩
theorem mi_X10_of : Cond.instanceMethod M_X10_of.1 ∈ TT := tt_of 553 (by decide +kernel) (by decide +kernel)
theorem me_X10_of : Cond.selects M_X10_of.1.cls M_X10_of.1 M_X10_of.1 ∈ TT := tt_of 554 (by decide +kernel) (by decide +kernel)
abbrev M_X10_matter : MD := (yX10_matter, cX10_matter, 3, (some .int), fun _ _ => True)
theorem mf_X10_matter : MF M_X10_matter 2 := ⟨tt_of 623 (by decide +kernel) (by decide +kernel), tt_of 110 (by decide +kernel) (by decide +kernel), ⟨by decide, by decide, by decide +kernel⟩, by decide⟩
theorem mi_X10_matter : Cond.instanceMethod M_X10_matter.1 ∈ TT := tt_of 621 (by decide +kernel) (by decide +kernel)
theorem me_X10_matter : Cond.selects M_X10_matter.1.cls M_X10_matter.1 M_X10_matter.1 ∈ TT := tt_of 622 (by decide +kernel) (by decide +kernel)
abbrev M_X10_at : MD := (yX10_at, cX10_at, 3, (some .int), fun _ _ => True)
theorem mf_X10_at : MF M_X10_at 2 := ⟨tt_of 631 (by decide +kernel) (by decide +kernel), tt_of 110 (by decide +kernel) (by decide +kernel), ⟨by decide, by decide, by decide +kernel⟩, by decide⟩
theorem mi_X10_at : Cond.instanceMethod M_X10_at.1 ∈ TT := tt_of 629 (by decide +kernel) (by decide +kernel)
theorem me_X10_at : Cond.selects M_X10_at.1.cls M_X10_at.1 M_X10_at.1 ∈ TT := tt_of 630 (by decide +kernel) (by decide +kernel)
abbrev M_X10_terms : MD := (yX10_terms, cX10_terms, 4, (some .int), fun _ _ => True)
theorem mf_X10_terms : MF M_X10_terms 2 := ⟨tt_of 668 (by decide +kernel) (by decide +kernel), tt_of 110 (by decide +kernel) (by decide +kernel), ⟨by decide, by decide, by decide +kernel⟩, by decide⟩
theorem mi_X10_terms : Cond.instanceMethod M_X10_terms.1 ∈ TT := tt_of 666 (by decide +kernel) (by decide +kernel)
theorem me_X10_terms : Cond.selects M_X10_terms.1.cls M_X10_terms.1 M_X10_terms.1 ∈ TT := tt_of 667 (by decide +kernel) (by decide +kernel)
abbrev M_X10_largestTerm : MD := (yX10_largestTerm, cX10_largestTerm, 1, (some .int), fun _ _ => True)
theorem mf_X10_largestTerm : MF M_X10_largestTerm 1 := ⟨tt_of 671 (by decide +kernel) (by decide +kernel), tt_of 110 (by decide +kernel) (by decide +kernel), ⟨by decide, by decide, by decide +kernel⟩, by decide⟩
theorem ms_X10_largestTerm : Cond.static M_X10_largestTerm.1 ∈ TT := tt_of 670 (by decide +kernel) (by decide +kernel)
abbrev M_X10_term : MD := (yX10_term, cX10_term, 2, (some .int), fun _ _ => True)
theorem mf_X10_term : MF M_X10_term 1 := ⟨tt_of 675 (by decide +kernel) (by decide +kernel), tt_of 110 (by decide +kernel) (by decide +kernel), ⟨by decide, by decide, by decide +kernel⟩, by decide⟩
theorem mi_X10_term : Cond.instanceMethod M_X10_term.1 ∈ TT := tt_of 674 (by decide +kernel) (by decide +kernel)
theorem me_X10_term : Cond.selects M_X10_term.1.cls M_X10_term.1 M_X10_term.1 ∈ TT := tt_of 5 (by decide +kernel) (by decide +kernel)
abbrev M_X10_feed : MD := (yX10_feed, cX10_feed, 6, (some .int), fun _ _ => True)
theorem mf_X10_feed : MF M_X10_feed 5 := ⟨tt_of 679 (by decide +kernel) (by decide +kernel), tt_of 110 (by decide +kernel) (by decide +kernel), ⟨by decide, by decide, by decide +kernel⟩, by decide⟩
theorem mi_X10_feed : Cond.instanceMethod M_X10_feed.1 ∈ TT := tt_of 677 (by decide +kernel) (by decide +kernel)
theorem me_X10_feed : Cond.selects M_X10_feed.1.cls M_X10_feed.1 M_X10_feed.1 ∈ TT := tt_of 678 (by decide +kernel) (by decide +kernel)
abbrev M_X10_feedFour : MD := (yX10_feedFour, cX10_feedFour, 3, none, fun _ _ => True)
theorem mf_X10_feedFour : MF M_X10_feedFour 1 := ⟨tt_of 683 (by decide +kernel) (by decide +kernel), tt_of 110 (by decide +kernel) (by decide +kernel), ⟨by decide, by decide, by decide +kernel⟩, by decide⟩
theorem mi_X10_feedFour : Cond.instanceMethod M_X10_feedFour.1 ∈ TT := tt_of 682 (by decide +kernel) (by decide +kernel)
theorem me_X10_feedFour : Cond.selects M_X10_feedFour.1.cls M_X10_feedFour.1 M_X10_feedFour.1 ∈ TT := tt_of 6 (by decide +kernel) (by decide +kernel)
abbrev M_X10_end : MD := (yX10_end, cX10_end, 2, (some .int), fun _ _ => True)
theorem mf_X10_end : MF M_X10_end 1 := ⟨tt_of 687 (by decide +kernel) (by decide +kernel), tt_of 110 (by decide +kernel) (by decide +kernel), ⟨by decide, by decide, by decide +kernel⟩, by decide⟩
theorem mi_X10_end : Cond.instanceMethod M_X10_end.1 ∈ TT := tt_of 685 (by decide +kernel) (by decide +kernel)
theorem me_X10_end : Cond.selects M_X10_end.1.cls M_X10_end.1 M_X10_end.1 ∈ TT := tt_of 686 (by decide +kernel) (by decide +kernel)
abbrev M_X10_row : MD := (yX10_row, cX10_row, 4, (some .int), fun _ _ => True)
theorem mf_X10_row : MF M_X10_row 0 := ⟨tt_of 691 (by decide +kernel) (by decide +kernel), tt_of 110 (by decide +kernel) (by decide +kernel), ⟨by decide, by decide, by decide +kernel⟩, by decide⟩
theorem mi_X10_row : Cond.instanceMethod M_X10_row.1 ∈ TT := tt_of 689 (by decide +kernel) (by decide +kernel)
theorem me_X10_row : Cond.selects M_X10_row.1.cls M_X10_row.1 M_X10_row.1 ∈ TT := tt_of 690 (by decide +kernel) (by decide +kernel)
abbrev M_X10_canBeBird : MD := (yX10_canBeBird, cX10_canBeBird, 3, (some .boolean), fun _ _ => True)
theorem mf_X10_canBeBird : MF M_X10_canBeBird 1 := ⟨tt_of 695 (by decide +kernel) (by decide +kernel), tt_of 110 (by decide +kernel) (by decide +kernel), ⟨by decide, by decide, by decide +kernel⟩, by decide⟩
theorem mi_X10_canBeBird : Cond.instanceMethod M_X10_canBeBird.1 ∈ TT := tt_of 694 (by decide +kernel) (by decide +kernel)
theorem me_X10_canBeBird : Cond.selects M_X10_canBeBird.1.cls M_X10_canBeBird.1 M_X10_canBeBird.1 ∈ TT := tt_of 7 (by decide +kernel) (by decide +kernel)
abbrev M_X10_addBirdOfRow : MD := (yX10_addBirdOfRow, cX10_addBirdOfRow, 4, none, fun _ _ => True)
theorem mf_X10_addBirdOfRow : MF M_X10_addBirdOfRow 1 := ⟨tt_of 699 (by decide +kernel) (by decide +kernel), tt_of 110 (by decide +kernel) (by decide +kernel), ⟨by decide, by decide, by decide +kernel⟩, by decide⟩
theorem mi_X10_addBirdOfRow : Cond.instanceMethod M_X10_addBirdOfRow.1 ∈ TT := tt_of 698 (by decide +kernel) (by decide +kernel)
theorem me_X10_addBirdOfRow : Cond.selects M_X10_addBirdOfRow.1.cls M_X10_addBirdOfRow.1 M_X10_addBirdOfRow.1 ∈ TT := tt_of 8 (by decide +kernel) (by decide +kernel)
abbrev M_X10_cats : MD := (yX10_cats, cX10_cats, 1, (some .int), fun _ _ => True)
theorem mf_X10_cats : MF M_X10_cats 0 := ⟨tt_of 703 (by decide +kernel) (by decide +kernel), tt_of 110 (by decide +kernel) (by decide +kernel), ⟨by decide, by decide, by decide +kernel⟩, by decide⟩
theorem mi_X10_cats : Cond.instanceMethod M_X10_cats.1 ∈ TT := tt_of 701 (by decide +kernel) (by decide +kernel)
theorem me_X10_cats : Cond.selects M_X10_cats.1.cls M_X10_cats.1 M_X10_cats.1 ∈ TT := tt_of 702 (by decide +kernel) (by decide +kernel)
abbrev M_X10_law : MD := (yX10_law, cX10_law, 3, (some .int), fun _ _ => True)
theorem mf_X10_law : MF M_X10_law 0 := ⟨tt_of 707 (by decide +kernel) (by decide +kernel), tt_of 110 (by decide +kernel) (by decide +kernel), ⟨by decide, by decide, by decide +kernel⟩, by decide⟩
theorem mi_X10_law : Cond.instanceMethod M_X10_law.1 ∈ TT := tt_of 705 (by decide +kernel) (by decide +kernel)
theorem me_X10_law : Cond.selects M_X10_law.1.cls M_X10_law.1 M_X10_law.1 ∈ TT := tt_of 706 (by decide +kernel) (by decide +kernel)
abbrev M_X10_orders : MD := (yX10_orders, cX10_orders, 4, (some .int), fun _ _ => True)
theorem mf_X10_orders : MF M_X10_orders 0 := ⟨tt_of 877 (by decide +kernel) (by decide +kernel), tt_of 110 (by decide +kernel) (by decide +kernel), ⟨by decide, by decide, by decide +kernel⟩, by decide⟩
theorem mi_X10_orders : Cond.instanceMethod M_X10_orders.1 ∈ TT := tt_of 875 (by decide +kernel) (by decide +kernel)
theorem me_X10_orders : Cond.selects M_X10_orders.1.cls M_X10_orders.1 M_X10_orders.1 ∈ TT := tt_of 876 (by decide +kernel) (by decide +kernel)
abbrev M_X10_runClause : MD := (yX10_runClause, cX10_runClause, 11, (some .boolean), fun _ _ => True)
theorem mf_X10_runClause : MF M_X10_runClause 2 := ⟨tt_of 886 (by decide +kernel) (by decide +kernel), tt_of 110 (by decide +kernel) (by decide +kernel), ⟨by decide, by decide, by decide +kernel⟩, by decide⟩
theorem mi_X10_runClause : Cond.instanceMethod M_X10_runClause.1 ∈ TT := tt_of 885 (by decide +kernel) (by decide +kernel)
theorem me_X10_runClause : Cond.selects M_X10_runClause.1.cls M_X10_runClause.1 M_X10_runClause.1 ∈ TT := tt_of 28 (by decide +kernel) (by decide +kernel)
abbrev M_X10_tellOrders : MD := (yX10_tellOrders, cX10_tellOrders, 3, none, fun _ _ => True)
theorem mf_X10_tellOrders : MF M_X10_tellOrders 0 := ⟨tt_of 891 (by decide +kernel) (by decide +kernel), tt_of 110 (by decide +kernel) (by decide +kernel), ⟨by decide, by decide, by decide +kernel⟩, by decide⟩
theorem mi_X10_tellOrders : Cond.instanceMethod M_X10_tellOrders.1 ∈ TT := tt_of 890 (by decide +kernel) (by decide +kernel)
theorem me_X10_tellOrders : Cond.selects M_X10_tellOrders.1.cls M_X10_tellOrders.1 M_X10_tellOrders.1 ∈ TT := tt_of 29 (by decide +kernel) (by decide +kernel)
abbrev M_X10_fault : MD := (yX10_fault, cX10_fault, 1, (some .int), fun _ _ => True)
theorem mf_X10_fault : MF M_X10_fault 0 := ⟨tt_of 935 (by decide +kernel) (by decide +kernel), tt_of 110 (by decide +kernel) (by decide +kernel), ⟨by decide, by decide, by decide +kernel⟩, by decide⟩
theorem mi_X10_fault : Cond.instanceMethod M_X10_fault.1 ∈ TT := tt_of 933 (by decide +kernel) (by decide +kernel)
theorem me_X10_fault : Cond.selects M_X10_fault.1.cls M_X10_fault.1 M_X10_fault.1 ∈ TT := tt_of 934 (by decide +kernel) (by decide +kernel)
abbrev M_X10_stopped : MD := (yX10_stopped, cX10_stopped, 1, (some .int), fun _ _ => True)
theorem mf_X10_stopped : MF M_X10_stopped 0 := ⟨tt_of 939 (by decide +kernel) (by decide +kernel), tt_of 110 (by decide +kernel) (by decide +kernel), ⟨by decide, by decide, by decide +kernel⟩, by decide⟩
theorem mi_X10_stopped : Cond.instanceMethod M_X10_stopped.1 ∈ TT := tt_of 937 (by decide +kernel) (by decide +kernel)
theorem me_X10_stopped : Cond.selects M_X10_stopped.1.cls M_X10_stopped.1 M_X10_stopped.1 ∈ TT := tt_of 938 (by decide +kernel) (by decide +kernel)
abbrev M_X10_force : MD := (yX10_force, cX10_force, 3, (some .int), fun _ _ => True)
theorem mf_X10_force : MF M_X10_force 1 := ⟨tt_of 943 (by decide +kernel) (by decide +kernel), tt_of 110 (by decide +kernel) (by decide +kernel), ⟨by decide, by decide, by decide +kernel⟩, by decide⟩
theorem mi_X10_force : Cond.instanceMethod M_X10_force.1 ∈ TT := tt_of 941 (by decide +kernel) (by decide +kernel)
theorem me_X10_force : Cond.selects M_X10_force.1.cls M_X10_force.1 M_X10_force.1 ∈ TT := tt_of 942 (by decide +kernel) (by decide +kernel)
abbrev M_X10_act : MD := (yX10_act, cX10_act, 5, (some .int), fun _ _ => True)
theorem mf_X10_act : MF M_X10_act 3 := ⟨tt_of 901 (by decide +kernel) (by decide +kernel), tt_of 110 (by decide +kernel) (by decide +kernel), ⟨by decide, by decide, by decide +kernel⟩, by decide⟩
theorem mi_X10_act : Cond.instanceMethod M_X10_act.1 ∈ TT := tt_of 900 (by decide +kernel) (by decide +kernel)
theorem me_X10_act : Cond.selects M_X10_act.1.cls M_X10_act.1 M_X10_act.1 ∈ TT := tt_of 30 (by decide +kernel) (by decide +kernel)
abbrev M_X10_move : MD := (yX10_move, cX10_move, 3, (some .int), fun _ _ => True)
theorem mf_X10_move : MF M_X10_move 2 := ⟨tt_of 948 (by decide +kernel) (by decide +kernel), tt_of 110 (by decide +kernel) (by decide +kernel), ⟨by decide, by decide, by decide +kernel⟩, by decide⟩
theorem mi_X10_move : Cond.instanceMethod M_X10_move.1 ∈ TT := tt_of 946 (by decide +kernel) (by decide +kernel)
theorem me_X10_move : Cond.selects M_X10_move.1.cls M_X10_move.1 M_X10_move.1 ∈ TT := tt_of 947 (by decide +kernel) (by decide +kernel)
abbrev M_X10_divide : MD := (yX10_divide, cX10_divide, 2, (some .int), fun _ _ => True)
theorem mf_X10_divide : MF M_X10_divide 1 := ⟨tt_of 956 (by decide +kernel) (by decide +kernel), tt_of 110 (by decide +kernel) (by decide +kernel), ⟨by decide, by decide, by decide +kernel⟩, by decide⟩
theorem mi_X10_divide : Cond.instanceMethod M_X10_divide.1 ∈ TT := tt_of 954 (by decide +kernel) (by decide +kernel)
theorem me_X10_divide : Cond.selects M_X10_divide.1.cls M_X10_divide.1 M_X10_divide.1 ∈ TT := tt_of 955 (by decide +kernel) (by decide +kernel)
abbrev M_X10_fly : MD := (yX10_fly, cX10_fly, 3, (some .int), fun _ _ => True)
theorem mf_X10_fly : MF M_X10_fly 2 := ⟨tt_of 960 (by decide +kernel) (by decide +kernel), tt_of 110 (by decide +kernel) (by decide +kernel), ⟨by decide, by decide, by decide +kernel⟩, by decide⟩
theorem mi_X10_fly : Cond.instanceMethod M_X10_fly.1 ∈ TT := tt_of 958 (by decide +kernel) (by decide +kernel)
theorem me_X10_fly : Cond.selects M_X10_fly.1.cls M_X10_fly.1 M_X10_fly.1 ∈ TT := tt_of 959 (by decide +kernel) (by decide +kernel)
abbrev M_X10_pass : MD := (yX10_pass, cX10_pass, 1, (some .int), fun _ _ => True)
theorem mf_X10_pass : MF M_X10_pass 0 := ⟨tt_of 964 (by decide +kernel) (by decide +kernel), tt_of 110 (by decide +kernel) (by decide +kernel), ⟨by decide, by decide, by decide +kernel⟩, by decide⟩
theorem mi_X10_pass : Cond.instanceMethod M_X10_pass.1 ∈ TT := tt_of 962 (by decide +kernel) (by decide +kernel)
theorem me_X10_pass : Cond.selects M_X10_pass.1.cls M_X10_pass.1 M_X10_pass.1 ∈ TT := tt_of 963 (by decide +kernel) (by decide +kernel)
abbrev M_X10_undo : MD := (yX10_undo, cX10_undo, 2, (some .int), fun _ _ => True)
theorem mf_X10_undo : MF M_X10_undo 0 := ⟨tt_of 968 (by decide +kernel) (by decide +kernel), tt_of 110 (by decide +kernel) (by decide +kernel), ⟨by decide, by decide, by decide +kernel⟩, by decide⟩
theorem mi_X10_undo : Cond.instanceMethod M_X10_undo.1 ∈ TT := tt_of 966 (by decide +kernel) (by decide +kernel)
theorem me_X10_undo : Cond.selects M_X10_undo.1.cls M_X10_undo.1 M_X10_undo.1 ∈ TT := tt_of 967 (by decide +kernel) (by decide +kernel)
abbrev M_X10_second : MD := (yX10_second, cX10_second, 3, (some .int), fun _ _ => True)
theorem mf_X10_second : MF M_X10_second 2 := ⟨tt_of 980 (by decide +kernel) (by decide +kernel), tt_of 110 (by decide +kernel) (by decide +kernel), ⟨by decide, by decide, by decide +kernel⟩, by decide⟩
theorem mi_X10_second : Cond.instanceMethod M_X10_second.1 ∈ TT := tt_of 978 (by decide +kernel) (by decide +kernel)
theorem me_X10_second : Cond.selects M_X10_second.1.cls M_X10_second.1 M_X10_second.1 ∈ TT := tt_of 979 (by decide +kernel) (by decide +kernel)
abbrev M_X10_richest : MD := (yX10_richest, cX10_richest, 2, (some .int), fun _ _ => True)
theorem mf_X10_richest : MF M_X10_richest 1 := ⟨tt_of 985 (by decide +kernel) (by decide +kernel), tt_of 110 (by decide +kernel) (by decide +kernel), ⟨by decide, by decide, by decide +kernel⟩, by decide⟩
theorem mi_X10_richest : Cond.instanceMethod M_X10_richest.1 ∈ TT := tt_of 983 (by decide +kernel) (by decide +kernel)
theorem me_X10_richest : Cond.selects M_X10_richest.1.cls M_X10_richest.1 M_X10_richest.1 ∈ TT := tt_of 984 (by decide +kernel) (by decide +kernel)
abbrev M_X10_byClock : MD := (yX10_byClock, cX10_byClock, 5, (some .int), fun _ _ => True)
theorem mf_X10_byClock : MF M_X10_byClock 1 := ⟨tt_of 1009 (by decide +kernel) (by decide +kernel), tt_of 110 (by decide +kernel) (by decide +kernel), ⟨by decide, by decide, by decide +kernel⟩, by decide⟩
theorem mi_X10_byClock : Cond.instanceMethod M_X10_byClock.1 ∈ TT := tt_of 1007 (by decide +kernel) (by decide +kernel)
theorem me_X10_byClock : Cond.selects M_X10_byClock.1.cls M_X10_byClock.1 M_X10_byClock.1 ∈ TT := tt_of 1008 (by decide +kernel) (by decide +kernel)
abbrev M_X10_spoilt : MD := (yX10_spoilt, cX10_spoilt, 3, (some .int), fun _ _ => True)
theorem mf_X10_spoilt : MF M_X10_spoilt 2 := ⟨tt_of 1013 (by decide +kernel) (by decide +kernel), tt_of 110 (by decide +kernel) (by decide +kernel), ⟨by decide, by decide, by decide +kernel⟩, by decide⟩
theorem mi_X10_spoilt : Cond.instanceMethod M_X10_spoilt.1 ∈ TT := tt_of 1011 (by decide +kernel) (by decide +kernel)
theorem me_X10_spoilt : Cond.selects M_X10_spoilt.1.cls M_X10_spoilt.1 M_X10_spoilt.1 ∈ TT := tt_of 1012 (by decide +kernel) (by decide +kernel)
abbrev M_X10_come : MD := (yX10_come, cX10_come, 5, (some .int), fun _ _ => True)
theorem mf_X10_come : MF M_X10_come 2 := ⟨tt_of 1024 (by decide +kernel) (by decide +kernel), tt_of 110 (by decide +kernel) (by decide +kernel), ⟨by decide, by decide, by decide +kernel⟩, by decide⟩
theorem mi_X10_come : Cond.instanceMethod M_X10_come.1 ∈ TT := tt_of 1022 (by decide +kernel) (by decide +kernel)
theorem me_X10_come : Cond.selects M_X10_come.1.cls M_X10_come.1 M_X10_come.1 ∈ TT := tt_of 1023 (by decide +kernel) (by decide +kernel)
abbrev M_X10_howManyOrWho : MD := (yX10_howManyOrWho, cX10_howManyOrWho, 2, (some .int), fun _ _ => True)
theorem mf_X10_howManyOrWho : MF M_X10_howManyOrWho 2 := ⟨tt_of 1020 (by decide +kernel) (by decide +kernel), tt_of 110 (by decide +kernel) (by decide +kernel), ⟨by decide, by decide, by decide +kernel⟩, by decide⟩
theorem ms_X10_howManyOrWho : Cond.static M_X10_howManyOrWho.1 ∈ TT := tt_of 1019 (by decide +kernel) (by decide +kernel)
abbrev M_X10_chain : MD := (yX10_chain, cX10_chain, 5, (some .int), fun _ _ => True)
theorem mf_X10_chain : MF M_X10_chain 3 := ⟨tt_of 1028 (by decide +kernel) (by decide +kernel), tt_of 110 (by decide +kernel) (by decide +kernel), ⟨by decide, by decide, by decide +kernel⟩, by decide⟩
theorem mi_X10_chain : Cond.instanceMethod M_X10_chain.1 ∈ TT := tt_of 1026 (by decide +kernel) (by decide +kernel)
theorem me_X10_chain : Cond.selects M_X10_chain.1.cls M_X10_chain.1 M_X10_chain.1 ∈ TT := tt_of 1027 (by decide +kernel) (by decide +kernel)
abbrev M_X10_ears : MD := (yX10_ears, cX10_ears, 2, (some .int), fun _ _ => True)
theorem mf_X10_ears : MF M_X10_ears 1 := ⟨tt_of 1044 (by decide +kernel) (by decide +kernel), tt_of 110 (by decide +kernel) (by decide +kernel), ⟨by decide, by decide, by decide +kernel⟩, by decide⟩
theorem mi_X10_ears : Cond.instanceMethod M_X10_ears.1 ∈ TT := tt_of 1042 (by decide +kernel) (by decide +kernel)
theorem me_X10_ears : Cond.selects M_X10_ears.1.cls M_X10_ears.1 M_X10_ears.1 ∈ TT := tt_of 1043 (by decide +kernel) (by decide +kernel)
abbrev M_X10_loudest : MD := (yX10_loudest, cX10_loudest, 6, (some .int), fun _ _ => True)
theorem mf_X10_loudest : MF M_X10_loudest 1 := ⟨tt_of 1061 (by decide +kernel) (by decide +kernel), tt_of 110 (by decide +kernel) (by decide +kernel), ⟨by decide, by decide, by decide +kernel⟩, by decide⟩
theorem mi_X10_loudest : Cond.instanceMethod M_X10_loudest.1 ∈ TT := tt_of 1059 (by decide +kernel) (by decide +kernel)
theorem me_X10_loudest : Cond.selects M_X10_loudest.1.cls M_X10_loudest.1 M_X10_loudest.1 ∈ TT := tt_of 1060 (by decide +kernel) (by decide +kernel)
abbrev M_X10_nearest : MD := (yX10_nearest, cX10_nearest, 6, (some .int), fun _ _ => True)
theorem mf_X10_nearest : MF M_X10_nearest 2 := ⟨tt_of 1066 (by decide +kernel) (by decide +kernel), tt_of 110 (by decide +kernel) (by decide +kernel), ⟨by decide, by decide, by decide +kernel⟩, by decide⟩
theorem mi_X10_nearest : Cond.instanceMethod M_X10_nearest.1 ∈ TT := tt_of 1064 (by decide +kernel) (by decide +kernel)
theorem me_X10_nearest : Cond.selects M_X10_nearest.1.cls M_X10_nearest.1 M_X10_nearest.1 ∈ TT := tt_of 1065 (by decide +kernel) (by decide +kernel)
abbrev M_X10_heard : MD := (yX10_heard, cX10_heard, 2, (some .int), fun _ _ => True)
theorem mf_X10_heard : MF M_X10_heard 1 := ⟨tt_of 1072 (by decide +kernel) (by decide +kernel), tt_of 110 (by decide +kernel) (by decide +kernel), ⟨by decide, by decide, by decide +kernel⟩, by decide⟩
theorem mi_X10_heard : Cond.instanceMethod M_X10_heard.1 ∈ TT := tt_of 1070 (by decide +kernel) (by decide +kernel)
theorem me_X10_heard : Cond.selects M_X10_heard.1.cls M_X10_heard.1 M_X10_heard.1 ∈ TT := tt_of 1071 (by decide +kernel) (by decide +kernel)
abbrev M_X10_forget : MD := (yX10_forget, cX10_forget, 2, (some .int), fun _ _ => True)
theorem mf_X10_forget : MF M_X10_forget 0 := ⟨tt_of 1080 (by decide +kernel) (by decide +kernel), tt_of 110 (by decide +kernel) (by decide +kernel), ⟨by decide, by decide, by decide +kernel⟩, by decide⟩
theorem mi_X10_forget : Cond.instanceMethod M_X10_forget.1 ∈ TT := tt_of 1078 (by decide +kernel) (by decide +kernel)
theorem me_X10_forget : Cond.selects M_X10_forget.1.cls M_X10_forget.1 M_X10_forget.1 ∈ TT := tt_of 1079 (by decide +kernel) (by decide +kernel)
abbrev M_X10_canBe : MD := (yX10_canBe, cX10_canBe, 1, (some .int), fun _ _ => True)
theorem mf_X10_canBe : MF M_X10_canBe 0 := ⟨tt_of 1084 (by decide +kernel) (by decide +kernel), tt_of 110 (by decide +kernel) (by decide +kernel), ⟨by decide, by decide, by decide +kernel⟩, by decide⟩
theorem mi_X10_canBe : Cond.instanceMethod M_X10_canBe.1 ∈ TT := tt_of 1082 (by decide +kernel) (by decide +kernel)
theorem me_X10_canBe : Cond.selects M_X10_canBe.1.cls M_X10_canBe.1 M_X10_canBe.1 ∈ TT := tt_of 1083 (by decide +kernel) (by decide +kernel)
abbrev M_X10_listen : MD := (yX10_listen, cX10_listen, 8, (some .int), fun _ _ => True)
theorem mf_X10_listen : MF M_X10_listen 1 := ⟨tt_of 1096 (by decide +kernel) (by decide +kernel), tt_of 110 (by decide +kernel) (by decide +kernel), ⟨by decide, by decide, by decide +kernel⟩, by decide⟩
theorem mi_X10_listen : Cond.instanceMethod M_X10_listen.1 ∈ TT := tt_of 1094 (by decide +kernel) (by decide +kernel)
theorem me_X10_listen : Cond.selects M_X10_listen.1.cls M_X10_listen.1 M_X10_listen.1 ∈ TT := tt_of 1095 (by decide +kernel) (by decide +kernel)
abbrev M_X10_few : MD := (yX10_few, cX10_few, 8, (some .long), fun _ _ => True)
theorem mf_X10_few : MF M_X10_few 2 := ⟨tt_of 1105 (by decide +kernel) (by decide +kernel), tt_of 110 (by decide +kernel) (by decide +kernel), ⟨by decide, by decide, by decide +kernel⟩, by decide⟩
theorem mi_X10_few : Cond.instanceMethod M_X10_few.1 ∈ TT := tt_of 1103 (by decide +kernel) (by decide +kernel)
theorem me_X10_few : Cond.selects M_X10_few.1.cls M_X10_few.1 M_X10_few.1 ∈ TT := tt_of 1104 (by decide +kernel) (by decide +kernel)
abbrev M_X10_compare : MD := (yX10_compare, cX10_compare, 3, (some .int), fun _ _ => True)
theorem mf_X10_compare : MF M_X10_compare 2 := ⟨tt_of 1112 (by decide +kernel) (by decide +kernel), tt_of 110 (by decide +kernel) (by decide +kernel), ⟨by decide, by decide, by decide +kernel⟩, by decide⟩
theorem mi_X10_compare : Cond.instanceMethod M_X10_compare.1 ∈ TT := tt_of 1110 (by decide +kernel) (by decide +kernel)
theorem me_X10_compare : Cond.selects M_X10_compare.1.cls M_X10_compare.1 M_X10_compare.1 ∈ TT := tt_of 1111 (by decide +kernel) (by decide +kernel)
abbrev M_X10_mays : MD := (yX10_mays, cX10_mays, 5, (some .int), fun _ _ => True)
theorem mf_X10_mays : MF M_X10_mays 2 := ⟨tt_of 1117 (by decide +kernel) (by decide +kernel), tt_of 110 (by decide +kernel) (by decide +kernel), ⟨by decide, by decide, by decide +kernel⟩, by decide⟩
theorem mi_X10_mays : Cond.instanceMethod M_X10_mays.1 ∈ TT := tt_of 1115 (by decide +kernel) (by decide +kernel)
theorem me_X10_mays : Cond.selects M_X10_mays.1.cls M_X10_mays.1 M_X10_mays.1 ∈ TT := tt_of 1116 (by decide +kernel) (by decide +kernel)
abbrev M_X10_drawn : MD := (yX10_drawn, cX10_drawn, 3, (some .int), fun _ _ => True)
theorem mf_X10_drawn : MF M_X10_drawn 2 := ⟨tt_of 1140 (by decide +kernel) (by decide +kernel), tt_of 110 (by decide +kernel) (by decide +kernel), ⟨by decide, by decide, by decide +kernel⟩, by decide⟩
theorem mi_X10_drawn : Cond.instanceMethod M_X10_drawn.1 ∈ TT := tt_of 1138 (by decide +kernel) (by decide +kernel)
theorem me_X10_drawn : Cond.selects M_X10_drawn.1.cls M_X10_drawn.1 M_X10_drawn.1 ∈ TT := tt_of 1139 (by decide +kernel) (by decide +kernel)
abbrev M_X10_image : MD := (yX10_image, cX10_image, 2, (some .int), fun _ _ => True)
theorem mf_X10_image : MF M_X10_image 1 := ⟨tt_of 1144 (by decide +kernel) (by decide +kernel), tt_of 110 (by decide +kernel) (by decide +kernel), ⟨by decide, by decide, by decide +kernel⟩, by decide⟩
theorem mi_X10_image : Cond.instanceMethod M_X10_image.1 ∈ TT := tt_of 1142 (by decide +kernel) (by decide +kernel)
theorem me_X10_image : Cond.selects M_X10_image.1.cls M_X10_image.1 M_X10_image.1 ∈ TT := tt_of 1143 (by decide +kernel) (by decide +kernel)
abbrev M_X10_back : MD := (yX10_back, cX10_back, 2, (some .int), fun _ _ => True)
theorem mf_X10_back : MF M_X10_back 1 := ⟨tt_of 1154 (by decide +kernel) (by decide +kernel), tt_of 110 (by decide +kernel) (by decide +kernel), ⟨by decide, by decide, by decide +kernel⟩, by decide⟩
theorem mi_X10_back : Cond.instanceMethod M_X10_back.1 ∈ TT := tt_of 1152 (by decide +kernel) (by decide +kernel)
theorem me_X10_back : Cond.selects M_X10_back.1.cls M_X10_back.1 M_X10_back.1 ∈ TT := tt_of 1153 (by decide +kernel) (by decide +kernel)
abbrev M_X10_count : MD := (yX10_count, cX10_count, 3, (some .int), fun _ _ => True)
theorem mf_X10_count : MF M_X10_count 1 := ⟨tt_of 1158 (by decide +kernel) (by decide +kernel), tt_of 110 (by decide +kernel) (by decide +kernel), ⟨by decide, by decide, by decide +kernel⟩, by decide⟩
theorem mi_X10_count : Cond.instanceMethod M_X10_count.1 ∈ TT := tt_of 1156 (by decide +kernel) (by decide +kernel)
theorem me_X10_count : Cond.selects M_X10_count.1.cls M_X10_count.1 M_X10_count.1 ∈ TT := tt_of 1157 (by decide +kernel) (by decide +kernel)
abbrev M_X10_status : MD := (yX10_status, cX10_status, 1, (some .int), fun _ _ => True)
theorem mf_X10_status : MF M_X10_status 0 := ⟨tt_of 1162 (by decide +kernel) (by decide +kernel), tt_of 110 (by decide +kernel) (by decide +kernel), ⟨by decide, by decide, by decide +kernel⟩, by decide⟩
theorem mi_X10_status : Cond.instanceMethod M_X10_status.1 ∈ TT := tt_of 1160 (by decide +kernel) (by decide +kernel)
theorem me_X10_status : Cond.selects M_X10_status.1.cls M_X10_status.1 M_X10_status.1 ∈ TT := tt_of 1161 (by decide +kernel) (by decide +kernel)
abbrev M_X10_accept : MD := (yX10_accept, cX10_accept, 2, (some .int), fun _ _ => True)
theorem mf_X10_accept : MF M_X10_accept 1 := ⟨tt_of 543 (by decide +kernel) (by decide +kernel), tt_of 110 (by decide +kernel) (by decide +kernel), ⟨by decide, by decide, by decide +kernel⟩, by decide⟩
theorem mi_X10_accept : Cond.instanceMethod M_X10_accept.1 ∈ TT := tt_of 542 (by decide +kernel) (by decide +kernel)
theorem me_X10_accept : Cond.selects M_X10_accept.1.cls M_X10_accept.1 M_X10_accept.1 ∈ TT := tt_of 1 (by decide +kernel) (by decide +kernel)
abbrev M_X10_refuse : MD := (yX10_refuse, cX10_refuse, 2, (some .int), fun _ _ => True)
theorem mf_X10_refuse : MF M_X10_refuse 1 := ⟨tt_of 528 (by decide +kernel) (by decide +kernel), tt_of 110 (by decide +kernel) (by decide +kernel), ⟨by decide, by decide, by decide +kernel⟩, by decide⟩
theorem mi_X10_refuse : Cond.instanceMethod M_X10_refuse.1 ∈ TT := tt_of 527 (by decide +kernel) (by decide +kernel)
theorem me_X10_refuse : Cond.selects M_X10_refuse.1.cls M_X10_refuse.1 M_X10_refuse.1 ∈ TT := tt_of 0 (by decide +kernel) (by decide +kernel)
abbrev M_X10_answer : MD := (yX10_answer, cX10_answer, 2, (some .int), fun _ _ => True)
theorem mf_X10_answer : MF M_X10_answer 1 := ⟨tt_of 952 (by decide +kernel) (by decide +kernel), tt_of 110 (by decide +kernel) (by decide +kernel), ⟨by decide, by decide, by decide +kernel⟩, by decide⟩
theorem mi_X10_answer : Cond.instanceMethod M_X10_answer.1 ∈ TT := tt_of 951 (by decide +kernel) (by decide +kernel)
theorem me_X10_answer : Cond.selects M_X10_answer.1.cls M_X10_answer.1 M_X10_answer.1 ∈ TT := tt_of 31 (by decide +kernel) (by decide +kernel)
abbrev M_X11_init : MD := (yX11_init, cX11_init, 1, none, fun _ _ => True)
theorem mf_X11_init : MF M_X11_init 0 := ⟨tt_of 1167 (by decide +kernel) (by decide +kernel), tt_of 122 (by decide +kernel) (by decide +kernel), ⟨by decide, by decide, by decide +kernel⟩, by decide⟩
theorem mi_X11_init : Cond.instanceMethod M_X11_init.1 ∈ TT := tt_of 1166 (by decide +kernel) (by decide +kernel)
abbrev M_X11_in : MD := (yX11_in, cX11_in, 6, (some .boolean), fun _ _ => True)
theorem mf_X11_in : MF M_X11_in 3 := ⟨tt_of 1383 (by decide +kernel) (by decide +kernel), tt_of 122 (by decide +kernel) (by decide +kernel), ⟨by decide, by decide, by decide +kernel⟩, by decide⟩
theorem ms_X11_in : Cond.static M_X11_in.1 ∈ TT := tt_of 1382 (by decide +kernel) (by decide +kernel)
abbrev M_X11_is : MD := (yX11_is, cX11_is, 2, (some .boolean), fun _ _ => True)
theorem mf_X11_is : MF M_X11_is 2 := ⟨tt_of 1772 (by decide +kernel) (by decide +kernel), tt_of 122 (by decide +kernel) (by decide +kernel), ⟨by decide, by decide, by decide +kernel⟩, by decide⟩
theorem ms_X11_is : Cond.static M_X11_is.1 ∈ TT := tt_of 1771 (by decide +kernel) (by decide +kernel)
abbrev M_X11_ones : MD := (yX11_ones, cX11_ones, 3, (some .int), fun _ _ => True)
theorem mf_X11_ones : MF M_X11_ones 1 := ⟨tt_of 1499 (by decide +kernel) (by decide +kernel), tt_of 122 (by decide +kernel) (by decide +kernel), ⟨by decide, by decide, by decide +kernel⟩, by decide⟩
theorem ms_X11_ones : Cond.static M_X11_ones.1 ∈ TT := tt_of 1498 (by decide +kernel) (by decide +kernel)
abbrev M_X11_bounded : MD := (yX11_bounded, cX11_bounded, 4, (some .int), fun _ _ => True)
theorem mf_X11_bounded : MF M_X11_bounded 3 := ⟨tt_of 1464 (by decide +kernel) (by decide +kernel), tt_of 122 (by decide +kernel) (by decide +kernel), ⟨by decide, by decide, by decide +kernel⟩, by decide⟩
theorem ms_X11_bounded : Cond.static M_X11_bounded.1 ∈ TT := tt_of 1463 (by decide +kernel) (by decide +kernel)
abbrev M_X11_tell : MD := (yX11_tell, cX11_tell, 2, (some .int), fun _ _ => True)
theorem mf_X11_tell : MF M_X11_tell 1 := ⟨tt_of 1372 (by decide +kernel) (by decide +kernel), tt_of 122 (by decide +kernel) (by decide +kernel), ⟨by decide, by decide, by decide +kernel⟩, by decide⟩
theorem mi_X11_tell : Cond.instanceMethod M_X11_tell.1 ∈ TT := tt_of 1371 (by decide +kernel) (by decide +kernel)
theorem me_X11_tell : Cond.selects M_X11_tell.1.cls M_X11_tell.1 M_X11_tell.1 ∈ TT := tt_of 37 (by decide +kernel) (by decide +kernel)
abbrev M_X11_change : MD := (yX11_change, cX11_change, 4, (some .int), fun _ _ => True)
theorem mf_X11_change : MF M_X11_change 2 := ⟨tt_of 1418 (by decide +kernel) (by decide +kernel), tt_of 122 (by decide +kernel) (by decide +kernel), ⟨by decide, by decide, by decide +kernel⟩, by decide⟩
theorem mi_X11_change : Cond.instanceMethod M_X11_change.1 ∈ TT := tt_of 1417 (by decide +kernel) (by decide +kernel)
theorem me_X11_change : Cond.selects M_X11_change.1.cls M_X11_change.1 M_X11_change.1 ∈ TT := tt_of 42 (by decide +kernel) (by decide +kernel)
abbrev M_X11_lasting : MD := (yX11_lasting, cX11_lasting, 2, (some .int), fun _ _ => True)
theorem mf_X11_lasting : MF M_X11_lasting 1 := ⟨tt_of 1391 (by decide +kernel) (by decide +kernel), tt_of 122 (by decide +kernel) (by decide +kernel), ⟨by decide, by decide, by decide +kernel⟩, by decide⟩
theorem mi_X11_lasting : Cond.instanceMethod M_X11_lasting.1 ∈ TT := tt_of 1390 (by decide +kernel) (by decide +kernel)
theorem me_X11_lasting : Cond.selects M_X11_lasting.1.cls M_X11_lasting.1 M_X11_lasting.1 ∈ TT := tt_of 39 (by decide +kernel) (by decide +kernel)
abbrev M_X11_keepAll : MD := (yX11_keepAll, cX11_keepAll, 3, none, fun _ _ => True)
theorem mf_X11_keepAll : MF M_X11_keepAll 1 := ⟨tt_of 1684 (by decide +kernel) (by decide +kernel), tt_of 122 (by decide +kernel) (by decide +kernel), ⟨by decide, by decide, by decide +kernel⟩, by decide⟩
theorem mi_X11_keepAll : Cond.instanceMethod M_X11_keepAll.1 ∈ TT := tt_of 1683 (by decide +kernel) (by decide +kernel)
theorem me_X11_keepAll : Cond.selects M_X11_keepAll.1.cls M_X11_keepAll.1 M_X11_keepAll.1 ∈ TT := tt_of 88 (by decide +kernel) (by decide +kernel)
abbrev M_X11_putBack : MD := (yX11_putBack, cX11_putBack, 3, none, fun _ _ => True)
theorem mf_X11_putBack : MF M_X11_putBack 1 := ⟨tt_of 1376 (by decide +kernel) (by decide +kernel), tt_of 122 (by decide +kernel) (by decide +kernel), ⟨by decide, by decide, by decide +kernel⟩, by decide⟩
theorem mi_X11_putBack : Cond.instanceMethod M_X11_putBack.1 ∈ TT := tt_of 1375 (by decide +kernel) (by decide +kernel)
theorem me_X11_putBack : Cond.selects M_X11_putBack.1.cls M_X11_putBack.1 M_X11_putBack.1 ∈ TT := tt_of 38 (by decide +kernel) (by decide +kernel)
abbrev M_X11_remember : MD := (yX11_remember, cX11_remember, 3, none, fun _ _ => True)
theorem mf_X11_remember : MF M_X11_remember 1 := ⟨tt_of 1680 (by decide +kernel) (by decide +kernel), tt_of 122 (by decide +kernel) (by decide +kernel), ⟨by decide, by decide, by decide +kernel⟩, by decide⟩
theorem mi_X11_remember : Cond.instanceMethod M_X11_remember.1 ∈ TT := tt_of 1679 (by decide +kernel) (by decide +kernel)
theorem me_X11_remember : Cond.selects M_X11_remember.1.cls M_X11_remember.1 M_X11_remember.1 ∈ TT := tt_of 87 (by decide +kernel) (by decide +kernel)
abbrev M_X11_undo : MD := (yX11_undo, cX11_undo, 1, (some .int), fun _ _ => True)
theorem mf_X11_undo : MF M_X11_undo 0 := ⟨tt_of 1368 (by decide +kernel) (by decide +kernel), tt_of 122 (by decide +kernel) (by decide +kernel), ⟨by decide, by decide, by decide +kernel⟩, by decide⟩
theorem mi_X11_undo : Cond.instanceMethod M_X11_undo.1 ∈ TT := tt_of 1366 (by decide +kernel) (by decide +kernel)
theorem me_X11_undo : Cond.selects M_X11_undo.1.cls M_X11_undo.1 M_X11_undo.1 ∈ TT := tt_of 1367 (by decide +kernel) (by decide +kernel)
abbrev M_X11_image : MD := (yX11_image, cX11_image, 3, (some .int), fun _ _ => True)
theorem mf_X11_image : MF M_X11_image 1 := ⟨tt_of 1380 (by decide +kernel) (by decide +kernel), tt_of 122 (by decide +kernel) (by decide +kernel), ⟨by decide, by decide, by decide +kernel⟩, by decide⟩
theorem mi_X11_image : Cond.instanceMethod M_X11_image.1 ∈ TT := tt_of 1378 (by decide +kernel) (by decide +kernel)
theorem me_X11_image : Cond.selects M_X11_image.1.cls M_X11_image.1 M_X11_image.1 ∈ TT := tt_of 1379 (by decide +kernel) (by decide +kernel)
abbrev M_X11_back : MD := (yX11_back, cX11_back, 3, (some .int), fun _ _ => True)
theorem mf_X11_back : MF M_X11_back 1 := ⟨tt_of 1387 (by decide +kernel) (by decide +kernel), tt_of 122 (by decide +kernel) (by decide +kernel), ⟨by decide, by decide, by decide +kernel⟩, by decide⟩
theorem mi_X11_back : Cond.instanceMethod M_X11_back.1 ∈ TT := tt_of 1385 (by decide +kernel) (by decide +kernel)
theorem me_X11_back : Cond.selects M_X11_back.1.cls M_X11_back.1 M_X11_back.1 ∈ TT := tt_of 1386 (by decide +kernel) (by decide +kernel)
abbrev M_X11_isBird : MD := (yX11_isBird, cX11_isBird, 2, (some .boolean), fun _ _ => True)
theorem mf_X11_isBird : MF M_X11_isBird 1 := ⟨tt_of 1414 (by decide +kernel) (by decide +kernel), tt_of 122 (by decide +kernel) (by decide +kernel), ⟨by decide, by decide, by decide +kernel⟩, by decide⟩
theorem mi_X11_isBird : Cond.instanceMethod M_X11_isBird.1 ∈ TT := tt_of 1413 (by decide +kernel) (by decide +kernel)
theorem me_X11_isBird : Cond.selects M_X11_isBird.1.cls M_X11_isBird.1 M_X11_isBird.1 ∈ TT := tt_of 41 (by decide +kernel) (by decide +kernel)
abbrev M_X11_isMatter : MD := (yX11_isMatter, cX11_isMatter, 2, (some .boolean), fun _ _ => True)
theorem mf_X11_isMatter : MF M_X11_isMatter 1 := ⟨tt_of 1439 (by decide +kernel) (by decide +kernel), tt_of 122 (by decide +kernel) (by decide +kernel), ⟨by decide, by decide, by decide +kernel⟩, by decide⟩
theorem mi_X11_isMatter : Cond.instanceMethod M_X11_isMatter.1 ∈ TT := tt_of 1438 (by decide +kernel) (by decide +kernel)
theorem me_X11_isMatter : Cond.selects M_X11_isMatter.1.cls M_X11_isMatter.1 M_X11_isMatter.1 ∈ TT := tt_of 46 (by decide +kernel) (by decide +kernel)
abbrev M_X11_isTree : MD := (yX11_isTree, cX11_isTree, 1, (some .boolean), fun _ _ => True)
theorem mf_X11_isTree : MF M_X11_isTree 1 := ⟨tt_of 1402 (by decide +kernel) (by decide +kernel), tt_of 122 (by decide +kernel) (by decide +kernel), ⟨by decide, by decide, by decide +kernel⟩, by decide⟩
theorem ms_X11_isTree : Cond.static M_X11_isTree.1 ∈ TT := tt_of 1401 (by decide +kernel) (by decide +kernel)
abbrev M_X11_isAway : MD := (yX11_isAway, cX11_isAway, 2, (some .boolean), fun _ _ => True)
theorem mf_X11_isAway : MF M_X11_isAway 1 := ⟨tt_of 1435 (by decide +kernel) (by decide +kernel), tt_of 122 (by decide +kernel) (by decide +kernel), ⟨by decide, by decide, by decide +kernel⟩, by decide⟩
theorem mi_X11_isAway : Cond.instanceMethod M_X11_isAway.1 ∈ TT := tt_of 1434 (by decide +kernel) (by decide +kernel)
theorem me_X11_isAway : Cond.selects M_X11_isAway.1.cls M_X11_isAway.1 M_X11_isAway.1 ∈ TT := tt_of 45 (by decide +kernel) (by decide +kernel)
abbrev M_X11_present : MD := (yX11_present, cX11_present, 3, (some .int), fun _ _ => True)
theorem mf_X11_present : MF M_X11_present 0 := ⟨tt_of 1765 (by decide +kernel) (by decide +kernel), tt_of 122 (by decide +kernel) (by decide +kernel), ⟨by decide, by decide, by decide +kernel⟩, by decide⟩
theorem mi_X11_present : Cond.instanceMethod M_X11_present.1 ∈ TT := tt_of 1764 (by decide +kernel) (by decide +kernel)
theorem me_X11_present : Cond.selects M_X11_present.1.cls M_X11_present.1 M_X11_present.1 ∈ TT := tt_of 98 (by decide +kernel) (by decide +kernel)
abbrev M_X11_hears : MD := (yX11_hears, cX11_hears, 4, (some .boolean), fun _ _ => True)
theorem mf_X11_hears : MF M_X11_hears 2 := ⟨tt_of 1431 (by decide +kernel) (by decide +kernel), tt_of 122 (by decide +kernel) (by decide +kernel), ⟨by decide, by decide, by decide +kernel⟩, by decide⟩
theorem mi_X11_hears : Cond.instanceMethod M_X11_hears.1 ∈ TT := tt_of 1430 (by decide +kernel) (by decide +kernel)
theorem me_X11_hears : Cond.selects M_X11_hears.1.cls M_X11_hears.1 M_X11_hears.1 ∈ TT := tt_of 44 (by decide +kernel) (by decide +kernel)
abbrev M_X11_comes : MD := (yX11_comes, cX11_comes, 5, (some .int), fun _ _ => True)
theorem mf_X11_comes : MF M_X11_comes 2 := ⟨tt_of 1399 (by decide +kernel) (by decide +kernel), tt_of 122 (by decide +kernel) (by decide +kernel), ⟨by decide, by decide, by decide +kernel⟩, by decide⟩
theorem mi_X11_comes : Cond.instanceMethod M_X11_comes.1 ∈ TT := tt_of 1398 (by decide +kernel) (by decide +kernel)
theorem me_X11_comes : Cond.selects M_X11_comes.1.cls M_X11_comes.1 M_X11_comes.1 ∈ TT := tt_of 40 (by decide +kernel) (by decide +kernel)
abbrev M_X11_bird : MD := (yX11_bird, cX11_bird, 3, (some .int), fun _ _ => True)
theorem mf_X11_bird : MF M_X11_bird 2 := ⟨tt_of 1395 (by decide +kernel) (by decide +kernel), tt_of 122 (by decide +kernel) (by decide +kernel), ⟨by decide, by decide, by decide +kernel⟩, by decide⟩
theorem mi_X11_bird : Cond.instanceMethod M_X11_bird.1 ∈ TT := tt_of 1393 (by decide +kernel) (by decide +kernel)
theorem me_X11_bird : Cond.selects M_X11_bird.1.cls M_X11_bird.1 M_X11_bird.1 ∈ TT := tt_of 1394 (by decide +kernel) (by decide +kernel)
abbrev M_X11_favour : MD := (yX11_favour, cX11_favour, 4, (some .int), fun _ _ => True)
theorem mf_X11_favour : MF M_X11_favour 3 := ⟨tt_of 1409 (by decide +kernel) (by decide +kernel), tt_of 122 (by decide +kernel) (by decide +kernel), ⟨by decide, by decide, by decide +kernel⟩, by decide⟩
theorem mi_X11_favour : Cond.instanceMethod M_X11_favour.1 ∈ TT := tt_of 1407 (by decide +kernel) (by decide +kernel)
theorem me_X11_favour : Cond.selects M_X11_favour.1.cls M_X11_favour.1 M_X11_favour.1 ∈ TT := tt_of 1408 (by decide +kernel) (by decide +kernel)
abbrev M_X11_hearsAll : MD := (yX11_hearsAll, cX11_hearsAll, 4, (some .int), fun _ _ => True)
theorem mf_X11_hearsAll : MF M_X11_hearsAll 1 := ⟨tt_of 1427 (by decide +kernel) (by decide +kernel), tt_of 122 (by decide +kernel) (by decide +kernel), ⟨by decide, by decide, by decide +kernel⟩, by decide⟩
theorem mi_X11_hearsAll : Cond.instanceMethod M_X11_hearsAll.1 ∈ TT := tt_of 1426 (by decide +kernel) (by decide +kernel)
theorem me_X11_hearsAll : Cond.selects M_X11_hearsAll.1.cls M_X11_hearsAll.1 M_X11_hearsAll.1 ∈ TT := tt_of 43 (by decide +kernel) (by decide +kernel)
abbrev M_X11_of : MD := (yX11_of, cX11_of, 4, (some .int), fun _ _ => True)
theorem mf_X11_of : MF M_X11_of 2 := ⟨tt_of 1422 (by decide +kernel) (by decide +kernel), tt_of 122 (by decide +kernel) (by decide +kernel), ⟨by decide, by decide, by decide +kernel⟩, by decide⟩
theorem mi_X11_of : Cond.instanceMethod M_X11_of.1 ∈ TT := tt_of 1420 (by decide +kernel) (by decide +kernel)
theorem me_X11_of : Cond.selects M_X11_of.1.cls M_X11_of.1 M_X11_of.1 ∈ TT := tt_of 1421 (by decide +kernel) (by decide +kernel)
abbrev M_X11_matter : MD := (yX11_matter, cX11_matter, 4, (some .int), fun _ _ => True)
theorem mf_X11_matter : MF M_X11_matter 2 := ⟨tt_of 1476 (by decide +kernel) (by decide +kernel), tt_of 122 (by decide +kernel) (by decide +kernel), ⟨by decide, by decide, by decide +kernel⟩, by decide⟩
theorem mi_X11_matter : Cond.instanceMethod M_X11_matter.1 ∈ TT := tt_of 1474 (by decide +kernel) (by decide +kernel)
theorem me_X11_matter : Cond.selects M_X11_matter.1.cls M_X11_matter.1 M_X11_matter.1 ∈ TT := tt_of 1475 (by decide +kernel) (by decide +kernel)
abbrev M_X11_at : MD := (yX11_at, cX11_at, 3, (some .int), fun _ _ => True)
theorem mf_X11_at : MF M_X11_at 2 := ⟨tt_of 1480 (by decide +kernel) (by decide +kernel), tt_of 122 (by decide +kernel) (by decide +kernel), ⟨by decide, by decide, by decide +kernel⟩, by decide⟩
theorem mi_X11_at : Cond.instanceMethod M_X11_at.1 ∈ TT := tt_of 1478 (by decide +kernel) (by decide +kernel)
theorem me_X11_at : Cond.selects M_X11_at.1.cls M_X11_at.1 M_X11_at.1 ∈ TT := tt_of 1479 (by decide +kernel) (by decide +kernel)
abbrev M_X11_terms : MD := (yX11_terms, cX11_terms, 4, (some .int), fun _ _ => True)
theorem mf_X11_terms : MF M_X11_terms 2 := ⟨tt_of 1503 (by decide +kernel) (by decide +kernel), tt_of 122 (by decide +kernel) (by decide +kernel), ⟨by decide, by decide, by decide +kernel⟩, by decide⟩
theorem mi_X11_terms : Cond.instanceMethod M_X11_terms.1 ∈ TT := tt_of 1501 (by decide +kernel) (by decide +kernel)
theorem me_X11_terms : Cond.selects M_X11_terms.1.cls M_X11_terms.1 M_X11_terms.1 ∈ TT := tt_of 1502 (by decide +kernel) (by decide +kernel)
abbrev M_X11_isRow : MD := (yX11_isRow, cX11_isRow, 5, (some .boolean), fun _ _ => True)
theorem mf_X11_isRow : MF M_X11_isRow 2 := ⟨tt_of 1514 (by decide +kernel) (by decide +kernel), tt_of 122 (by decide +kernel) (by decide +kernel), ⟨by decide, by decide, by decide +kernel⟩, by decide⟩
theorem mi_X11_isRow : Cond.instanceMethod M_X11_isRow.1 ∈ TT := tt_of 1513 (by decide +kernel) (by decide +kernel)
theorem me_X11_isRow : Cond.selects M_X11_isRow.1.cls M_X11_isRow.1 M_X11_isRow.1 ∈ TT := tt_of 58 (by decide +kernel) (by decide +kernel)
abbrev M_X11_row : MD := (yX11_row, cX11_row, 6, (some .int), fun _ _ => True)
theorem mf_X11_row : MF M_X11_row 0 := ⟨tt_of 1510 (by decide +kernel) (by decide +kernel), tt_of 122 (by decide +kernel) (by decide +kernel), ⟨by decide, by decide, by decide +kernel⟩, by decide⟩
theorem mi_X11_row : Cond.instanceMethod M_X11_row.1 ∈ TT := tt_of 1508 (by decide +kernel) (by decide +kernel)
theorem me_X11_row : Cond.selects M_X11_row.1.cls M_X11_row.1 M_X11_row.1 ∈ TT := tt_of 1509 (by decide +kernel) (by decide +kernel)
abbrev M_X11_cats : MD := (yX11_cats, cX11_cats, 1, (some .int), fun _ _ => True)
theorem mf_X11_cats : MF M_X11_cats 0 := ⟨tt_of 1518 (by decide +kernel) (by decide +kernel), tt_of 122 (by decide +kernel) (by decide +kernel), ⟨by decide, by decide, by decide +kernel⟩, by decide⟩
theorem mi_X11_cats : Cond.instanceMethod M_X11_cats.1 ∈ TT := tt_of 1516 (by decide +kernel) (by decide +kernel)
theorem me_X11_cats : Cond.selects M_X11_cats.1.cls M_X11_cats.1 M_X11_cats.1 ∈ TT := tt_of 1517 (by decide +kernel) (by decide +kernel)
abbrev M_X11_four : MD := (yX11_four, cX11_four, 3, none, fun _ _ => True)
theorem mf_X11_four : MF M_X11_four 1 := ⟨tt_of 1526 (by decide +kernel) (by decide +kernel), tt_of 122 (by decide +kernel) (by decide +kernel), ⟨by decide, by decide, by decide +kernel⟩, by decide⟩
theorem mi_X11_four : Cond.instanceMethod M_X11_four.1 ∈ TT := tt_of 1525 (by decide +kernel) (by decide +kernel)
theorem me_X11_four : Cond.selects M_X11_four.1.cls M_X11_four.1 M_X11_four.1 ∈ TT := tt_of 59 (by decide +kernel) (by decide +kernel)
abbrev M_X11_feed : MD := (yX11_feed, cX11_feed, 6, (some .int), fun _ _ => True)
theorem mf_X11_feed : MF M_X11_feed 5 := ⟨tt_of 1522 (by decide +kernel) (by decide +kernel), tt_of 122 (by decide +kernel) (by decide +kernel), ⟨by decide, by decide, by decide +kernel⟩, by decide⟩
theorem mi_X11_feed : Cond.instanceMethod M_X11_feed.1 ∈ TT := tt_of 1520 (by decide +kernel) (by decide +kernel)
theorem me_X11_feed : Cond.selects M_X11_feed.1.cls M_X11_feed.1 M_X11_feed.1 ∈ TT := tt_of 1521 (by decide +kernel) (by decide +kernel)
abbrev M_X11_end : MD := (yX11_end, cX11_end, 2, (some .int), fun _ _ => True)
theorem mf_X11_end : MF M_X11_end 1 := ⟨tt_of 1530 (by decide +kernel) (by decide +kernel), tt_of 122 (by decide +kernel) (by decide +kernel), ⟨by decide, by decide, by decide +kernel⟩, by decide⟩
theorem mi_X11_end : Cond.instanceMethod M_X11_end.1 ∈ TT := tt_of 1528 (by decide +kernel) (by decide +kernel)
theorem me_X11_end : Cond.selects M_X11_end.1.cls M_X11_end.1 M_X11_end.1 ∈ TT := tt_of 1529 (by decide +kernel) (by decide +kernel)
abbrev M_X11_isSmall : MD := (yX11_isSmall, cX11_isSmall, 1, (some .boolean), fun _ _ => True)
theorem mf_X11_isSmall : MF M_X11_isSmall 1 := ⟨tt_of 1553 (by decide +kernel) (by decide +kernel), tt_of 122 (by decide +kernel) (by decide +kernel), ⟨by decide, by decide, by decide +kernel⟩, by decide⟩
theorem ms_X11_isSmall : Cond.static M_X11_isSmall.1 ∈ TT := tt_of 1552 (by decide +kernel) (by decide +kernel)
abbrev M_X11_isDigit : MD := (yX11_isDigit, cX11_isDigit, 1, (some .boolean), fun _ _ => True)
theorem mf_X11_isDigit : MF M_X11_isDigit 1 := ⟨tt_of 1556 (by decide +kernel) (by decide +kernel), tt_of 122 (by decide +kernel) (by decide +kernel), ⟨by decide, by decide, by decide +kernel⟩, by decide⟩
theorem ms_X11_isDigit : Cond.static M_X11_isDigit.1 ∈ TT := tt_of 1555 (by decide +kernel) (by decide +kernel)
abbrev M_X11_begin : MD := (yX11_begin, cX11_begin, 1, none, fun _ _ => True)
theorem mf_X11_begin : MF M_X11_begin 0 := ⟨tt_of 1546 (by decide +kernel) (by decide +kernel), tt_of 122 (by decide +kernel) (by decide +kernel), ⟨by decide, by decide, by decide +kernel⟩, by decide⟩
theorem mi_X11_begin : Cond.instanceMethod M_X11_begin.1 ∈ TT := tt_of 1545 (by decide +kernel) (by decide +kernel)
theorem me_X11_begin : Cond.selects M_X11_begin.1.cls M_X11_begin.1 M_X11_begin.1 ∈ TT := tt_of 61 (by decide +kernel) (by decide +kernel)
abbrev M_X11_next : MD := (yX11_next, cX11_next, 1, none, fun _ _ => True)
theorem mf_X11_next : MF M_X11_next 0 := ⟨tt_of 1550 (by decide +kernel) (by decide +kernel), tt_of 122 (by decide +kernel) (by decide +kernel), ⟨by decide, by decide, by decide +kernel⟩, by decide⟩
theorem mi_X11_next : Cond.instanceMethod M_X11_next.1 ∈ TT := tt_of 1549 (by decide +kernel) (by decide +kernel)
theorem me_X11_next : Cond.selects M_X11_next.1.cls M_X11_next.1 M_X11_next.1 ∈ TT := tt_of 62 (by decide +kernel) (by decide +kernel)
abbrev M_X11_isWord : MD := (yX11_isWord, cX11_isWord, 3, (some .boolean), fun _ _ => True)
theorem mf_X11_isWord : MF M_X11_isWord 1 := ⟨tt_of 1568 (by decide +kernel) (by decide +kernel), tt_of 122 (by decide +kernel) (by decide +kernel), ⟨by decide, by decide, by decide +kernel⟩, by decide⟩
theorem mi_X11_isWord : Cond.instanceMethod M_X11_isWord.1 ∈ TT := tt_of 1567 (by decide +kernel) (by decide +kernel)
theorem me_X11_isWord : Cond.selects M_X11_isWord.1.cls M_X11_isWord.1 M_X11_isWord.1 ∈ TT := tt_of 64 (by decide +kernel) (by decide +kernel)
abbrev M_X11_isSign : MD := (yX11_isSign, cX11_isSign, 2, (some .boolean), fun _ _ => True)
theorem mf_X11_isSign : MF M_X11_isSign 1 := ⟨tt_of 1589 (by decide +kernel) (by decide +kernel), tt_of 122 (by decide +kernel) (by decide +kernel), ⟨by decide, by decide, by decide +kernel⟩, by decide⟩
theorem mi_X11_isSign : Cond.instanceMethod M_X11_isSign.1 ∈ TT := tt_of 1588 (by decide +kernel) (by decide +kernel)
theorem me_X11_isSign : Cond.selects M_X11_isSign.1.cls M_X11_isSign.1 M_X11_isSign.1 ∈ TT := tt_of 69 (by decide +kernel) (by decide +kernel)
abbrev M_X11_must : MD := (yX11_must, cX11_must, 2, none, fun _ _ => True)
theorem mf_X11_must : MF M_X11_must 1 := ⟨tt_of 1572 (by decide +kernel) (by decide +kernel), tt_of 122 (by decide +kernel) (by decide +kernel), ⟨by decide, by decide, by decide +kernel⟩, by decide⟩
theorem mi_X11_must : Cond.instanceMethod M_X11_must.1 ∈ TT := tt_of 1571 (by decide +kernel) (by decide +kernel)
theorem me_X11_must : Cond.selects M_X11_must.1.cls M_X11_must.1 M_X11_must.1 ∈ TT := tt_of 65 (by decide +kernel) (by decide +kernel)
abbrev M_X11_number : MD := (yX11_number, cX11_number, 6, (some .int), fun _ _ => True)
theorem mf_X11_number : MF M_X11_number 2 := ⟨tt_of 1619 (by decide +kernel) (by decide +kernel), tt_of 122 (by decide +kernel) (by decide +kernel), ⟨by decide, by decide, by decide +kernel⟩, by decide⟩
theorem mi_X11_number : Cond.instanceMethod M_X11_number.1 ∈ TT := tt_of 1618 (by decide +kernel) (by decide +kernel)
theorem me_X11_number : Cond.selects M_X11_number.1.cls M_X11_number.1 M_X11_number.1 ∈ TT := tt_of 76 (by decide +kernel) (by decide +kernel)
abbrev M_X11_fault : MD := (yX11_fault, cX11_fault, 1, (some .int), fun _ _ => True)
theorem mf_X11_fault : MF M_X11_fault 0 := ⟨tt_of 1534 (by decide +kernel) (by decide +kernel), tt_of 122 (by decide +kernel) (by decide +kernel), ⟨by decide, by decide, by decide +kernel⟩, by decide⟩
theorem mi_X11_fault : Cond.instanceMethod M_X11_fault.1 ∈ TT := tt_of 1532 (by decide +kernel) (by decide +kernel)
theorem me_X11_fault : Cond.selects M_X11_fault.1.cls M_X11_fault.1 M_X11_fault.1 ∈ TT := tt_of 1533 (by decide +kernel) (by decide +kernel)
abbrev M_X11_emit : MD := (yX11_emit, cX11_emit, 3, none, fun _ _ => True)
theorem mf_X11_emit : MF M_X11_emit 2 := ⟨tt_of 1614 (by decide +kernel) (by decide +kernel), tt_of 122 (by decide +kernel) (by decide +kernel), ⟨by decide, by decide, by decide +kernel⟩, by decide⟩
theorem mi_X11_emit : Cond.instanceMethod M_X11_emit.1 ∈ TT := tt_of 1613 (by decide +kernel) (by decide +kernel)
theorem me_X11_emit : Cond.selects M_X11_emit.1.cls M_X11_emit.1 M_X11_emit.1 ∈ TT := tt_of 75 (by decide +kernel) (by decide +kernel)
abbrev M_X11_push : MD := (yX11_push, cX11_push, 3, none, fun _ _ => True)
theorem mf_X11_push : MF M_X11_push 2 := ⟨tt_of 1585 (by decide +kernel) (by decide +kernel), tt_of 122 (by decide +kernel) (by decide +kernel), ⟨by decide, by decide, by decide +kernel⟩, by decide⟩
theorem mi_X11_push : Cond.instanceMethod M_X11_push.1 ∈ TT := tt_of 1584 (by decide +kernel) (by decide +kernel)
theorem me_X11_push : Cond.selects M_X11_push.1.cls M_X11_push.1 M_X11_push.1 ∈ TT := tt_of 68 (by decide +kernel) (by decide +kernel)
abbrev M_X11_binds : MD := (yX11_binds, cX11_binds, 1, (some .int), fun _ _ => True)
theorem mf_X11_binds : MF M_X11_binds 1 := ⟨tt_of 1626 (by decide +kernel) (by decide +kernel), tt_of 122 (by decide +kernel) (by decide +kernel), ⟨by decide, by decide, by decide +kernel⟩, by decide⟩
theorem ms_X11_binds : Cond.static M_X11_binds.1 ∈ TT := tt_of 1625 (by decide +kernel) (by decide +kernel)
abbrev M_X11_settle : MD := (yX11_settle, cX11_settle, 2, none, fun _ _ => True)
theorem mf_X11_settle : MF M_X11_settle 1 := ⟨tt_of 1630 (by decide +kernel) (by decide +kernel), tt_of 122 (by decide +kernel) (by decide +kernel), ⟨by decide, by decide, by decide +kernel⟩, by decide⟩
theorem mi_X11_settle : Cond.instanceMethod M_X11_settle.1 ∈ TT := tt_of 1629 (by decide +kernel) (by decide +kernel)
theorem me_X11_settle : Cond.selects M_X11_settle.1.cls M_X11_settle.1 M_X11_settle.1 ∈ TT := tt_of 78 (by decide +kernel) (by decide +kernel)
abbrev M_X11_inner : MD := (yX11_inner, cX11_inner, 3, (some .int), fun _ _ => True)
theorem mf_X11_inner : MF M_X11_inner 0 := ⟨tt_of 1634 (by decide +kernel) (by decide +kernel), tt_of 122 (by decide +kernel) (by decide +kernel), ⟨by decide, by decide, by decide +kernel⟩, by decide⟩
theorem mi_X11_inner : Cond.instanceMethod M_X11_inner.1 ∈ TT := tt_of 1633 (by decide +kernel) (by decide +kernel)
theorem me_X11_inner : Cond.selects M_X11_inner.1.cls M_X11_inner.1 M_X11_inner.1 ∈ TT := tt_of 79 (by decide +kernel) (by decide +kernel)
abbrev M_X11_isCompared : MD := (yX11_isCompared, cX11_isCompared, 2, (some .boolean), fun _ _ => True)
theorem mf_X11_isCompared : MF M_X11_isCompared 0 := ⟨tt_of 1638 (by decide +kernel) (by decide +kernel), tt_of 122 (by decide +kernel) (by decide +kernel), ⟨by decide, by decide, by decide +kernel⟩, by decide⟩
theorem mi_X11_isCompared : Cond.instanceMethod M_X11_isCompared.1 ∈ TT := tt_of 1637 (by decide +kernel) (by decide +kernel)
theorem me_X11_isCompared : Cond.selects M_X11_isCompared.1.cls M_X11_isCompared.1 M_X11_isCompared.1 ∈ TT := tt_of 80 (by decide +kernel) (by decide +kernel)
abbrev M_X11_partAt : MD := (yX11_partAt, cX11_partAt, 3, (some .int), fun _ _ => True)
theorem mf_X11_partAt : MF M_X11_partAt 0 := ⟨tt_of 1605 (by decide +kernel) (by decide +kernel), tt_of 122 (by decide +kernel) (by decide +kernel), ⟨by decide, by decide, by decide +kernel⟩, by decide⟩
theorem mi_X11_partAt : Cond.instanceMethod M_X11_partAt.1 ∈ TT := tt_of 1604 (by decide +kernel) (by decide +kernel)
theorem me_X11_partAt : Cond.selects M_X11_partAt.1.cls M_X11_partAt.1 M_X11_partAt.1 ∈ TT := tt_of 73 (by decide +kernel) (by decide +kernel)
abbrev M_X11_orderPartAt : MD := (yX11_orderPartAt, cX11_orderPartAt, 3, (some .int), fun _ _ => True)
theorem mf_X11_orderPartAt : MF M_X11_orderPartAt 0 := ⟨tt_of 1601 (by decide +kernel) (by decide +kernel), tt_of 122 (by decide +kernel) (by decide +kernel), ⟨by decide, by decide, by decide +kernel⟩, by decide⟩
theorem mi_X11_orderPartAt : Cond.instanceMethod M_X11_orderPartAt.1 ∈ TT := tt_of 1600 (by decide +kernel) (by decide +kernel)
theorem me_X11_orderPartAt : Cond.selects M_X11_orderPartAt.1.cls M_X11_orderPartAt.1 M_X11_orderPartAt.1 ∈ TT := tt_of 72 (by decide +kernel) (by decide +kernel)
abbrev M_X11_openBracket : MD := (yX11_openBracket, cX11_openBracket, 2, none, fun _ _ => True)
theorem mf_X11_openBracket : MF M_X11_openBracket 1 := ⟨tt_of 1593 (by decide +kernel) (by decide +kernel), tt_of 122 (by decide +kernel) (by decide +kernel), ⟨by decide, by decide, by decide +kernel⟩, by decide⟩
theorem mi_X11_openBracket : Cond.instanceMethod M_X11_openBracket.1 ∈ TT := tt_of 1592 (by decide +kernel) (by decide +kernel)
theorem me_X11_openBracket : Cond.selects M_X11_openBracket.1.cls M_X11_openBracket.1 M_X11_openBracket.1 ∈ TT := tt_of 70 (by decide +kernel) (by decide +kernel)
abbrev M_X11_leaf : MD := (yX11_leaf, cX11_leaf, 4, none, fun _ _ => True)
theorem mf_X11_leaf : MF M_X11_leaf 3 := ⟨tt_of 1610 (by decide +kernel) (by decide +kernel), tt_of 122 (by decide +kernel) (by decide +kernel), ⟨by decide, by decide, by decide +kernel⟩, by decide⟩
theorem mi_X11_leaf : Cond.instanceMethod M_X11_leaf.1 ∈ TT := tt_of 1609 (by decide +kernel) (by decide +kernel)
theorem me_X11_leaf : Cond.selects M_X11_leaf.1.cls M_X11_leaf.1 M_X11_leaf.1 ∈ TT := tt_of 74 (by decide +kernel) (by decide +kernel)
abbrev M_X11_readPart : MD := (yX11_readPart, cX11_readPart, 4, (some .int), fun _ _ => True)
theorem mf_X11_readPart : MF M_X11_readPart 0 := ⟨tt_of 1597 (by decide +kernel) (by decide +kernel), tt_of 122 (by decide +kernel) (by decide +kernel), ⟨by decide, by decide, by decide +kernel⟩, by decide⟩
theorem mi_X11_readPart : Cond.instanceMethod M_X11_readPart.1 ∈ TT := tt_of 1596 (by decide +kernel) (by decide +kernel)
theorem me_X11_readPart : Cond.selects M_X11_readPart.1.cls M_X11_readPart.1 M_X11_readPart.1 ∈ TT := tt_of 71 (by decide +kernel) (by decide +kernel)
abbrev M_X11_readPlain : MD := (yX11_readPlain, cX11_readPlain, 1, (some .int), fun _ _ => True)
theorem mf_X11_readPlain : MF M_X11_readPlain 0 := ⟨tt_of 1580 (by decide +kernel) (by decide +kernel), tt_of 122 (by decide +kernel) (by decide +kernel), ⟨by decide, by decide, by decide +kernel⟩, by decide⟩
theorem mi_X11_readPlain : Cond.instanceMethod M_X11_readPlain.1 ∈ TT := tt_of 1579 (by decide +kernel) (by decide +kernel)
theorem me_X11_readPlain : Cond.selects M_X11_readPlain.1.cls M_X11_readPlain.1 M_X11_readPlain.1 ∈ TT := tt_of 67 (by decide +kernel) (by decide +kernel)
abbrev M_X11_behindSum : MD := (yX11_behindSum, cX11_behindSum, 4, (some .int), fun _ _ => True)
theorem mf_X11_behindSum : MF M_X11_behindSum 1 := ⟨tt_of 1623 (by decide +kernel) (by decide +kernel), tt_of 122 (by decide +kernel) (by decide +kernel), ⟨by decide, by decide, by decide +kernel⟩, by decide⟩
theorem mi_X11_behindSum : Cond.instanceMethod M_X11_behindSum.1 ∈ TT := tt_of 1622 (by decide +kernel) (by decide +kernel)
theorem me_X11_behindSum : Cond.selects M_X11_behindSum.1.cls M_X11_behindSum.1 M_X11_behindSum.1 ∈ TT := tt_of 77 (by decide +kernel) (by decide +kernel)
abbrev M_X11_behindTest : MD := (yX11_behindTest, cX11_behindTest, 2, (some .int), fun _ _ => True)
theorem mf_X11_behindTest : MF M_X11_behindTest 0 := ⟨tt_of 1645 (by decide +kernel) (by decide +kernel), tt_of 122 (by decide +kernel) (by decide +kernel), ⟨by decide, by decide, by decide +kernel⟩, by decide⟩
theorem mi_X11_behindTest : Cond.instanceMethod M_X11_behindTest.1 ∈ TT := tt_of 1644 (by decide +kernel) (by decide +kernel)
theorem me_X11_behindTest : Cond.selects M_X11_behindTest.1.cls M_X11_behindTest.1 M_X11_behindTest.1 ∈ TT := tt_of 81 (by decide +kernel) (by decide +kernel)
abbrev M_X11_readExpression : MD := (yX11_readExpression, cX11_readExpression, 3, none, fun _ _ => True)
theorem mf_X11_readExpression : MF M_X11_readExpression 1 := ⟨tt_of 1576 (by decide +kernel) (by decide +kernel), tt_of 122 (by decide +kernel) (by decide +kernel), ⟨by decide, by decide, by decide +kernel⟩, by decide⟩
theorem mi_X11_readExpression : Cond.instanceMethod M_X11_readExpression.1 ∈ TT := tt_of 1575 (by decide +kernel) (by decide +kernel)
theorem me_X11_readExpression : Cond.selects M_X11_readExpression.1.cls M_X11_readExpression.1 M_X11_readExpression.1 ∈ TT := tt_of 66 (by decide +kernel) (by decide +kernel)
abbrev M_X11_beginText : MD := (yX11_beginText, cX11_beginText, 2, none, fun _ _ => True)
theorem mf_X11_beginText : MF M_X11_beginText 1 := ⟨tt_of 1542 (by decide +kernel) (by decide +kernel), tt_of 122 (by decide +kernel) (by decide +kernel), ⟨by decide, by decide, by decide +kernel⟩, by decide⟩
theorem mi_X11_beginText : Cond.instanceMethod M_X11_beginText.1 ∈ TT := tt_of 1541 (by decide +kernel) (by decide +kernel)
theorem me_X11_beginText : Cond.selects M_X11_beginText.1.cls M_X11_beginText.1 M_X11_beginText.1 ∈ TT := tt_of 60 (by decide +kernel) (by decide +kernel)
abbrev M_X11_endText : MD := (yX11_endText, cX11_endText, 1, none, fun _ _ => True)
theorem mf_X11_endText : MF M_X11_endText 0 := ⟨tt_of 1652 (by decide +kernel) (by decide +kernel), tt_of 122 (by decide +kernel) (by decide +kernel), ⟨by decide, by decide, by decide +kernel⟩, by decide⟩
theorem mi_X11_endText : Cond.instanceMethod M_X11_endText.1 ∈ TT := tt_of 1651 (by decide +kernel) (by decide +kernel)
theorem me_X11_endText : Cond.selects M_X11_endText.1.cls M_X11_endText.1 M_X11_endText.1 ∈ TT := tt_of 82 (by decide +kernel) (by decide +kernel)
abbrev M_X11_readLaw : MD := (yX11_readLaw, cX11_readLaw, 4, none, fun _ _ => True)
theorem mf_X11_readLaw : MF M_X11_readLaw 0 := ⟨tt_of 1564 (by decide +kernel) (by decide +kernel), tt_of 122 (by decide +kernel) (by decide +kernel), ⟨by decide, by decide, by decide +kernel⟩, by decide⟩
theorem mi_X11_readLaw : Cond.instanceMethod M_X11_readLaw.1 ∈ TT := tt_of 1563 (by decide +kernel) (by decide +kernel)
theorem me_X11_readLaw : Cond.selects M_X11_readLaw.1.cls M_X11_readLaw.1 M_X11_readLaw.1 ∈ TT := tt_of 63 (by decide +kernel) (by decide +kernel)
abbrev M_X11_law : MD := (yX11_law, cX11_law, 3, (some .int), fun _ _ => True)
theorem mf_X11_law : MF M_X11_law 0 := ⟨tt_of 1538 (by decide +kernel) (by decide +kernel), tt_of 122 (by decide +kernel) (by decide +kernel), ⟨by decide, by decide, by decide +kernel⟩, by decide⟩
theorem mi_X11_law : Cond.instanceMethod M_X11_law.1 ∈ TT := tt_of 1536 (by decide +kernel) (by decide +kernel)
theorem me_X11_law : Cond.selects M_X11_law.1.cls M_X11_law.1 M_X11_law.1 ∈ TT := tt_of 1537 (by decide +kernel) (by decide +kernel)
abbrev M_X11_isLaw : MD := (yX11_isLaw, cX11_isLaw, 2, (some .boolean), fun _ _ => True)
theorem mf_X11_isLaw : MF M_X11_isLaw 1 := ⟨tt_of 1660 (by decide +kernel) (by decide +kernel), tt_of 122 (by decide +kernel) (by decide +kernel), ⟨by decide, by decide, by decide +kernel⟩, by decide⟩
theorem mi_X11_isLaw : Cond.instanceMethod M_X11_isLaw.1 ∈ TT := tt_of 1659 (by decide +kernel) (by decide +kernel)
theorem me_X11_isLaw : Cond.selects M_X11_isLaw.1.cls M_X11_isLaw.1 M_X11_isLaw.1 ∈ TT := tt_of 83 (by decide +kernel) (by decide +kernel)
abbrev M_X11_force : MD := (yX11_force, cX11_force, 2, (some .int), fun _ _ => True)
theorem mf_X11_force : MF M_X11_force 1 := ⟨tt_of 1656 (by decide +kernel) (by decide +kernel), tt_of 122 (by decide +kernel) (by decide +kernel), ⟨by decide, by decide, by decide +kernel⟩, by decide⟩
theorem mi_X11_force : Cond.instanceMethod M_X11_force.1 ∈ TT := tt_of 1654 (by decide +kernel) (by decide +kernel)
theorem me_X11_force : Cond.selects M_X11_force.1.cls M_X11_force.1 M_X11_force.1 ∈ TT := tt_of 1655 (by decide +kernel) (by decide +kernel)
abbrev M_X11_reckon : MD := (yX11_reckon, cX11_reckon, 6, (some .long), fun _ _ => True)
theorem mf_X11_reckon : MF M_X11_reckon 3 := ⟨tt_of 1459 (by decide +kernel) (by decide +kernel), tt_of 122 (by decide +kernel) (by decide +kernel), ⟨by decide, by decide, by decide +kernel⟩, by decide⟩
theorem mi_X11_reckon : Cond.instanceMethod M_X11_reckon.1 ∈ TT := tt_of 1458 (by decide +kernel) (by decide +kernel)
theorem me_X11_reckon : Cond.selects M_X11_reckon.1.cls M_X11_reckon.1 M_X11_reckon.1 ∈ TT := tt_of 51 (by decide +kernel) (by decide +kernel)
abbrev M_X11_reckonAll : MD := (yX11_reckonAll, cX11_reckonAll, 7, none, fun _ _ => True)
theorem mf_X11_reckonAll : MF M_X11_reckonAll 2 := ⟨tt_of 1455 (by decide +kernel) (by decide +kernel), tt_of 122 (by decide +kernel) (by decide +kernel), ⟨by decide, by decide, by decide +kernel⟩, by decide⟩
theorem mi_X11_reckonAll : Cond.instanceMethod M_X11_reckonAll.1 ∈ TT := tt_of 1454 (by decide +kernel) (by decide +kernel)
theorem me_X11_reckonAll : Cond.selects M_X11_reckonAll.1.cls M_X11_reckonAll.1 M_X11_reckonAll.1 ∈ TT := tt_of 50 (by decide +kernel) (by decide +kernel)
abbrev M_X11_isSo : MD := (yX11_isSo, cX11_isSo, 2, (some .boolean), fun _ _ => True)
theorem mf_X11_isSo : MF M_X11_isSo 1 := ⟨tt_of 1451 (by decide +kernel) (by decide +kernel), tt_of 122 (by decide +kernel) (by decide +kernel), ⟨by decide, by decide, by decide +kernel⟩, by decide⟩
theorem mi_X11_isSo : Cond.instanceMethod M_X11_isSo.1 ∈ TT := tt_of 1450 (by decide +kernel) (by decide +kernel)
theorem me_X11_isSo : Cond.selects M_X11_isSo.1.cls M_X11_isSo.1 M_X11_isSo.1 ∈ TT := tt_of 49 (by decide +kernel) (by decide +kernel)
abbrev M_X11_tells : MD := (yX11_tells, cX11_tells, 10, (some .long), fun _ _ => True)
theorem mf_X11_tells : MF M_X11_tells 4 := ⟨tt_of 1447 (by decide +kernel) (by decide +kernel), tt_of 122 (by decide +kernel) (by decide +kernel), ⟨by decide, by decide, by decide +kernel⟩, by decide⟩
theorem mi_X11_tells : Cond.instanceMethod M_X11_tells.1 ∈ TT := tt_of 1446 (by decide +kernel) (by decide +kernel)
theorem me_X11_tells : Cond.selects M_X11_tells.1.cls M_X11_tells.1 M_X11_tells.1 ∈ TT := tt_of 48 (by decide +kernel) (by decide +kernel)
abbrev M_X11_swayOf : MD := (yX11_swayOf, cX11_swayOf, 3, (some .int), fun _ _ => True)
theorem mf_X11_swayOf : MF M_X11_swayOf 2 := ⟨tt_of 1443 (by decide +kernel) (by decide +kernel), tt_of 122 (by decide +kernel) (by decide +kernel), ⟨by decide, by decide, by decide +kernel⟩, by decide⟩
theorem mi_X11_swayOf : Cond.instanceMethod M_X11_swayOf.1 ∈ TT := tt_of 1442 (by decide +kernel) (by decide +kernel)
theorem me_X11_swayOf : Cond.selects M_X11_swayOf.1.cls M_X11_swayOf.1 M_X11_swayOf.1 ∈ TT := tt_of 47 (by decide +kernel) (by decide +kernel)
abbrev M_X11_takesOf : MD := (yX11_takesOf, cX11_takesOf, 2, (some .int), fun _ _ => True)
theorem mf_X11_takesOf : MF M_X11_takesOf 1 := ⟨tt_of 1484 (by decide +kernel) (by decide +kernel), tt_of 122 (by decide +kernel) (by decide +kernel), ⟨by decide, by decide, by decide +kernel⟩, by decide⟩
theorem mi_X11_takesOf : Cond.instanceMethod M_X11_takesOf.1 ∈ TT := tt_of 1483 (by decide +kernel) (by decide +kernel)
theorem me_X11_takesOf : Cond.selects M_X11_takesOf.1.cls M_X11_takesOf.1 M_X11_takesOf.1 ∈ TT := tt_of 54 (by decide +kernel) (by decide +kernel)
abbrev M_X11_sits : MD := (yX11_sits, cX11_sits, 3, (some .boolean), fun _ _ => True)
theorem mf_X11_sits : MF M_X11_sits 2 := ⟨tt_of 1468 (by decide +kernel) (by decide +kernel), tt_of 122 (by decide +kernel) (by decide +kernel), ⟨by decide, by decide, by decide +kernel⟩, by decide⟩
theorem mi_X11_sits : Cond.instanceMethod M_X11_sits.1 ∈ TT := tt_of 1467 (by decide +kernel) (by decide +kernel)
theorem me_X11_sits : Cond.selects M_X11_sits.1.cls M_X11_sits.1 M_X11_sits.1 ∈ TT := tt_of 52 (by decide +kernel) (by decide +kernel)
abbrev M_X11_isAye : MD := (yX11_isAye, cX11_isAye, 3, (some .boolean), fun _ _ => True)
theorem mf_X11_isAye : MF M_X11_isAye 2 := ⟨tt_of 1472 (by decide +kernel) (by decide +kernel), tt_of 122 (by decide +kernel) (by decide +kernel), ⟨by decide, by decide, by decide +kernel⟩, by decide⟩
theorem mi_X11_isAye : Cond.instanceMethod M_X11_isAye.1 ∈ TT := tt_of 1471 (by decide +kernel) (by decide +kernel)
theorem me_X11_isAye : Cond.selects M_X11_isAye.1.cls M_X11_isAye.1 M_X11_isAye.1 ∈ TT := tt_of 53 (by decide +kernel) (by decide +kernel)
abbrev M_X11_sitting : MD := (yX11_sitting, cX11_sitting, 4, (some .int), fun _ _ => True)
theorem mf_X11_sitting : MF M_X11_sitting 1 := ⟨tt_of 1488 (by decide +kernel) (by decide +kernel), tt_of 122 (by decide +kernel) (by decide +kernel), ⟨by decide, by decide, by decide +kernel⟩, by decide⟩
theorem mi_X11_sitting : Cond.instanceMethod M_X11_sitting.1 ∈ TT := tt_of 1487 (by decide +kernel) (by decide +kernel)
theorem me_X11_sitting : Cond.selects M_X11_sitting.1.cls M_X11_sitting.1 M_X11_sitting.1 ∈ TT := tt_of 55 (by decide +kernel) (by decide +kernel)
abbrev M_X11_ayes : MD := (yX11_ayes, cX11_ayes, 4, (some .int), fun _ _ => True)
theorem mf_X11_ayes : MF M_X11_ayes 1 := ⟨tt_of 1492 (by decide +kernel) (by decide +kernel), tt_of 122 (by decide +kernel) (by decide +kernel), ⟨by decide, by decide, by decide +kernel⟩, by decide⟩
theorem mi_X11_ayes : Cond.instanceMethod M_X11_ayes.1 ∈ TT := tt_of 1491 (by decide +kernel) (by decide +kernel)
theorem me_X11_ayes : Cond.selects M_X11_ayes.1.cls M_X11_ayes.1 M_X11_ayes.1 ∈ TT := tt_of 56 (by decide +kernel) (by decide +kernel)
abbrev M_X11_carries : MD := (yX11_carries, cX11_carries, 3, (some .boolean), fun _ _ => True)
theorem mf_X11_carries : MF M_X11_carries 2 := ⟨tt_of 1700 (by decide +kernel) (by decide +kernel), tt_of 122 (by decide +kernel) (by decide +kernel), ⟨by decide, by decide, by decide +kernel⟩, by decide⟩
theorem mi_X11_carries : Cond.instanceMethod M_X11_carries.1 ∈ TT := tt_of 1699 (by decide +kernel) (by decide +kernel)
theorem me_X11_carries : Cond.selects M_X11_carries.1.cls M_X11_carries.1 M_X11_carries.1 ∈ TT := tt_of 91 (by decide +kernel) (by decide +kernel)
abbrev M_X11_seconder : MD := (yX11_seconder, cX11_seconder, 5, (some .int), fun _ _ => True)
theorem mf_X11_seconder : MF M_X11_seconder 2 := ⟨tt_of 1676 (by decide +kernel) (by decide +kernel), tt_of 122 (by decide +kernel) (by decide +kernel), ⟨by decide, by decide, by decide +kernel⟩, by decide⟩
theorem mi_X11_seconder : Cond.instanceMethod M_X11_seconder.1 ∈ TT := tt_of 1675 (by decide +kernel) (by decide +kernel)
theorem me_X11_seconder : Cond.selects M_X11_seconder.1.cls M_X11_seconder.1 M_X11_seconder.1 ∈ TT := tt_of 86 (by decide +kernel) (by decide +kernel)
abbrev M_X11_canDivide : MD := (yX11_canDivide, cX11_canDivide, 2, (some .boolean), fun _ _ => True)
theorem mf_X11_canDivide : MF M_X11_canDivide 1 := ⟨tt_of 1496 (by decide +kernel) (by decide +kernel), tt_of 122 (by decide +kernel) (by decide +kernel), ⟨by decide, by decide, by decide +kernel⟩, by decide⟩
theorem mi_X11_canDivide : Cond.instanceMethod M_X11_canDivide.1 ∈ TT := tt_of 1495 (by decide +kernel) (by decide +kernel)
theorem me_X11_canDivide : Cond.selects M_X11_canDivide.1.cls M_X11_canDivide.1 M_X11_canDivide.1 ∈ TT := tt_of 57 (by decide +kernel) (by decide +kernel)
abbrev M_X11_divideIt : MD := (yX11_divideIt, cX11_divideIt, 3, none, fun _ _ => True)
theorem mf_X11_divideIt : MF M_X11_divideIt 1 := ⟨tt_of 1696 (by decide +kernel) (by decide +kernel), tt_of 122 (by decide +kernel) (by decide +kernel), ⟨by decide, by decide, by decide +kernel⟩, by decide⟩
theorem mi_X11_divideIt : Cond.instanceMethod M_X11_divideIt.1 ∈ TT := tt_of 1695 (by decide +kernel) (by decide +kernel)
theorem me_X11_divideIt : Cond.selects M_X11_divideIt.1.cls M_X11_divideIt.1 M_X11_divideIt.1 ∈ TT := tt_of 90 (by decide +kernel) (by decide +kernel)
abbrev M_X11_canMove : MD := (yX11_canMove, cX11_canMove, 3, (some .boolean), fun _ _ => True)
theorem mf_X11_canMove : MF M_X11_canMove 2 := ⟨tt_of 1672 (by decide +kernel) (by decide +kernel), tt_of 122 (by decide +kernel) (by decide +kernel), ⟨by decide, by decide, by decide +kernel⟩, by decide⟩
theorem mi_X11_canMove : Cond.instanceMethod M_X11_canMove.1 ∈ TT := tt_of 1671 (by decide +kernel) (by decide +kernel)
theorem me_X11_canMove : Cond.selects M_X11_canMove.1.cls M_X11_canMove.1 M_X11_canMove.1 ∈ TT := tt_of 85 (by decide +kernel) (by decide +kernel)
abbrev M_X11_moveNow : MD := (yX11_moveNow, cX11_moveNow, 4, (some .int), fun _ _ => True)
theorem mf_X11_moveNow : MF M_X11_moveNow 2 := ⟨tt_of 1668 (by decide +kernel) (by decide +kernel), tt_of 122 (by decide +kernel) (by decide +kernel), ⟨by decide, by decide, by decide +kernel⟩, by decide⟩
theorem mi_X11_moveNow : Cond.instanceMethod M_X11_moveNow.1 ∈ TT := tt_of 1667 (by decide +kernel) (by decide +kernel)
theorem me_X11_moveNow : Cond.selects M_X11_moveNow.1.cls M_X11_moveNow.1 M_X11_moveNow.1 ∈ TT := tt_of 84 (by decide +kernel) (by decide +kernel)
abbrev M_X11_move : MD := (yX11_move, cX11_move, 3, (some .int), fun _ _ => True)
theorem mf_X11_move : MF M_X11_move 2 := ⟨tt_of 1664 (by decide +kernel) (by decide +kernel), tt_of 122 (by decide +kernel) (by decide +kernel), ⟨by decide, by decide, by decide +kernel⟩, by decide⟩
theorem mi_X11_move : Cond.instanceMethod M_X11_move.1 ∈ TT := tt_of 1662 (by decide +kernel) (by decide +kernel)
theorem me_X11_move : Cond.selects M_X11_move.1.cls M_X11_move.1 M_X11_move.1 ∈ TT := tt_of 1663 (by decide +kernel) (by decide +kernel)
abbrev M_X11_divideNow : MD := (yX11_divideNow, cX11_divideNow, 3, (some .int), fun _ _ => True)
theorem mf_X11_divideNow : MF M_X11_divideNow 1 := ⟨tt_of 1692 (by decide +kernel) (by decide +kernel), tt_of 122 (by decide +kernel) (by decide +kernel), ⟨by decide, by decide, by decide +kernel⟩, by decide⟩
theorem mi_X11_divideNow : Cond.instanceMethod M_X11_divideNow.1 ∈ TT := tt_of 1691 (by decide +kernel) (by decide +kernel)
theorem me_X11_divideNow : Cond.selects M_X11_divideNow.1.cls M_X11_divideNow.1 M_X11_divideNow.1 ∈ TT := tt_of 89 (by decide +kernel) (by decide +kernel)
abbrev M_X11_divide : MD := (yX11_divide, cX11_divide, 2, (some .int), fun _ _ => True)
theorem mf_X11_divide : MF M_X11_divide 1 := ⟨tt_of 1688 (by decide +kernel) (by decide +kernel), tt_of 122 (by decide +kernel) (by decide +kernel), ⟨by decide, by decide, by decide +kernel⟩, by decide⟩
theorem mi_X11_divide : Cond.instanceMethod M_X11_divide.1 ∈ TT := tt_of 1686 (by decide +kernel) (by decide +kernel)
theorem me_X11_divide : Cond.selects M_X11_divide.1.cls M_X11_divide.1 M_X11_divide.1 ∈ TT := tt_of 1687 (by decide +kernel) (by decide +kernel)
abbrev M_X11_flyNow : MD := (yX11_flyNow, cX11_flyNow, 4, (some .int), fun _ _ => True)
theorem mf_X11_flyNow : MF M_X11_flyNow 2 := ⟨tt_of 1708 (by decide +kernel) (by decide +kernel), tt_of 122 (by decide +kernel) (by decide +kernel), ⟨by decide, by decide, by decide +kernel⟩, by decide⟩
theorem mi_X11_flyNow : Cond.instanceMethod M_X11_flyNow.1 ∈ TT := tt_of 1707 (by decide +kernel) (by decide +kernel)
theorem me_X11_flyNow : Cond.selects M_X11_flyNow.1.cls M_X11_flyNow.1 M_X11_flyNow.1 ∈ TT := tt_of 92 (by decide +kernel) (by decide +kernel)
abbrev M_X11_fly : MD := (yX11_fly, cX11_fly, 3, (some .int), fun _ _ => True)
theorem mf_X11_fly : MF M_X11_fly 2 := ⟨tt_of 1704 (by decide +kernel) (by decide +kernel), tt_of 122 (by decide +kernel) (by decide +kernel), ⟨by decide, by decide, by decide +kernel⟩, by decide⟩
theorem mi_X11_fly : Cond.instanceMethod M_X11_fly.1 ∈ TT := tt_of 1702 (by decide +kernel) (by decide +kernel)
theorem me_X11_fly : Cond.selects M_X11_fly.1.cls M_X11_fly.1 M_X11_fly.1 ∈ TT := tt_of 1703 (by decide +kernel) (by decide +kernel)
abbrev M_X11_passIt : MD := (yX11_passIt, cX11_passIt, 3, (some .int), fun _ _ => True)
theorem mf_X11_passIt : MF M_X11_passIt 0 := ⟨tt_of 1720 (by decide +kernel) (by decide +kernel), tt_of 122 (by decide +kernel) (by decide +kernel), ⟨by decide, by decide, by decide +kernel⟩, by decide⟩
theorem mi_X11_passIt : Cond.instanceMethod M_X11_passIt.1 ∈ TT := tt_of 1719 (by decide +kernel) (by decide +kernel)
theorem me_X11_passIt : Cond.selects M_X11_passIt.1.cls M_X11_passIt.1 M_X11_passIt.1 ∈ TT := tt_of 94 (by decide +kernel) (by decide +kernel)
abbrev M_X11_passNow : MD := (yX11_passNow, cX11_passNow, 1, (some .int), fun _ _ => True)
theorem mf_X11_passNow : MF M_X11_passNow 0 := ⟨tt_of 1716 (by decide +kernel) (by decide +kernel), tt_of 122 (by decide +kernel) (by decide +kernel), ⟨by decide, by decide, by decide +kernel⟩, by decide⟩
theorem mi_X11_passNow : Cond.instanceMethod M_X11_passNow.1 ∈ TT := tt_of 1715 (by decide +kernel) (by decide +kernel)
theorem me_X11_passNow : Cond.selects M_X11_passNow.1.cls M_X11_passNow.1 M_X11_passNow.1 ∈ TT := tt_of 93 (by decide +kernel) (by decide +kernel)
abbrev M_X11_pass : MD := (yX11_pass, cX11_pass, 1, (some .int), fun _ _ => True)
theorem mf_X11_pass : MF M_X11_pass 0 := ⟨tt_of 1712 (by decide +kernel) (by decide +kernel), tt_of 122 (by decide +kernel) (by decide +kernel), ⟨by decide, by decide, by decide +kernel⟩, by decide⟩
theorem mi_X11_pass : Cond.instanceMethod M_X11_pass.1 ∈ TT := tt_of 1710 (by decide +kernel) (by decide +kernel)
theorem me_X11_pass : Cond.selects M_X11_pass.1.cls M_X11_pass.1 M_X11_pass.1 ∈ TT := tt_of 1711 (by decide +kernel) (by decide +kernel)
abbrev M_X11_second : MD := (yX11_second, cX11_second, 3, (some .int), fun _ _ => True)
theorem mf_X11_second : MF M_X11_second 2 := ⟨tt_of 1724 (by decide +kernel) (by decide +kernel), tt_of 122 (by decide +kernel) (by decide +kernel), ⟨by decide, by decide, by decide +kernel⟩, by decide⟩
theorem mi_X11_second : Cond.instanceMethod M_X11_second.1 ∈ TT := tt_of 1722 (by decide +kernel) (by decide +kernel)
theorem me_X11_second : Cond.selects M_X11_second.1.cls M_X11_second.1 M_X11_second.1 ∈ TT := tt_of 1723 (by decide +kernel) (by decide +kernel)
abbrev M_X11_isNew : MD := (yX11_isNew, cX11_isNew, 4, (some .boolean), fun _ _ => True)
theorem mf_X11_isNew : MF M_X11_isNew 1 := ⟨tt_of 1736 (by decide +kernel) (by decide +kernel), tt_of 122 (by decide +kernel) (by decide +kernel), ⟨by decide, by decide, by decide +kernel⟩, by decide⟩
theorem mi_X11_isNew : Cond.instanceMethod M_X11_isNew.1 ∈ TT := tt_of 1735 (by decide +kernel) (by decide +kernel)
theorem me_X11_isNew : Cond.selects M_X11_isNew.1.cls M_X11_isNew.1 M_X11_isNew.1 ∈ TT := tt_of 96 (by decide +kernel) (by decide +kernel)
abbrev M_X11_findRichest : MD := (yX11_findRichest, cX11_findRichest, 7, (some .int), fun _ _ => True)
theorem mf_X11_findRichest : MF M_X11_findRichest 0 := ⟨tt_of 1732 (by decide +kernel) (by decide +kernel), tt_of 122 (by decide +kernel) (by decide +kernel), ⟨by decide, by decide, by decide +kernel⟩, by decide⟩
theorem mi_X11_findRichest : Cond.instanceMethod M_X11_findRichest.1 ∈ TT := tt_of 1731 (by decide +kernel) (by decide +kernel)
theorem me_X11_findRichest : Cond.selects M_X11_findRichest.1.cls M_X11_findRichest.1 M_X11_findRichest.1 ∈ TT := tt_of 95 (by decide +kernel) (by decide +kernel)
abbrev M_X11_richest : MD := (yX11_richest, cX11_richest, 3, (some .int), fun _ _ => True)
theorem mf_X11_richest : MF M_X11_richest 1 := ⟨tt_of 1728 (by decide +kernel) (by decide +kernel), tt_of 122 (by decide +kernel) (by decide +kernel), ⟨by decide, by decide, by decide +kernel⟩, by decide⟩
theorem mi_X11_richest : Cond.instanceMethod M_X11_richest.1 ∈ TT := tt_of 1726 (by decide +kernel) (by decide +kernel)
theorem me_X11_richest : Cond.selects M_X11_richest.1.cls M_X11_richest.1 M_X11_richest.1 ∈ TT := tt_of 1727 (by decide +kernel) (by decide +kernel)
abbrev M_X11_byClock : MD := (yX11_byClock, cX11_byClock, 6, (some .int), fun _ _ => True)
theorem mf_X11_byClock : MF M_X11_byClock 1 := ⟨tt_of 1740 (by decide +kernel) (by decide +kernel), tt_of 122 (by decide +kernel) (by decide +kernel), ⟨by decide, by decide, by decide +kernel⟩, by decide⟩
theorem mi_X11_byClock : Cond.instanceMethod M_X11_byClock.1 ∈ TT := tt_of 1738 (by decide +kernel) (by decide +kernel)
theorem me_X11_byClock : Cond.selects M_X11_byClock.1.cls M_X11_byClock.1 M_X11_byClock.1 ∈ TT := tt_of 1739 (by decide +kernel) (by decide +kernel)
abbrev M_X11_spoilt : MD := (yX11_spoilt, cX11_spoilt, 8, (some .int), fun _ _ => True)
theorem mf_X11_spoilt : MF M_X11_spoilt 2 := ⟨tt_of 1744 (by decide +kernel) (by decide +kernel), tt_of 122 (by decide +kernel) (by decide +kernel), ⟨by decide, by decide, by decide +kernel⟩, by decide⟩
theorem mi_X11_spoilt : Cond.instanceMethod M_X11_spoilt.1 ∈ TT := tt_of 1742 (by decide +kernel) (by decide +kernel)
theorem me_X11_spoilt : Cond.selects M_X11_spoilt.1.cls M_X11_spoilt.1 M_X11_spoilt.1 ∈ TT := tt_of 1743 (by decide +kernel) (by decide +kernel)
abbrev M_X11_come : MD := (yX11_come, cX11_come, 11, (some .int), fun _ _ => True)
theorem mf_X11_come : MF M_X11_come 2 := ⟨tt_of 1749 (by decide +kernel) (by decide +kernel), tt_of 122 (by decide +kernel) (by decide +kernel), ⟨by decide, by decide, by decide +kernel⟩, by decide⟩
theorem mi_X11_come : Cond.instanceMethod M_X11_come.1 ∈ TT := tt_of 1747 (by decide +kernel) (by decide +kernel)
theorem me_X11_come : Cond.selects M_X11_come.1.cls M_X11_come.1 M_X11_come.1 ∈ TT := tt_of 1748 (by decide +kernel) (by decide +kernel)
abbrev M_X11_layLeft : MD := (yX11_layLeft, cX11_layLeft, 5, none, fun _ _ => True)
theorem mf_X11_layLeft : MF M_X11_layLeft 1 := ⟨tt_of 1757 (by decide +kernel) (by decide +kernel), tt_of 122 (by decide +kernel) (by decide +kernel), ⟨by decide, by decide, by decide +kernel⟩, by decide⟩
theorem mi_X11_layLeft : Cond.instanceMethod M_X11_layLeft.1 ∈ TT := tt_of 1756 (by decide +kernel) (by decide +kernel)
theorem me_X11_layLeft : Cond.selects M_X11_layLeft.1.cls M_X11_layLeft.1 M_X11_layLeft.1 ∈ TT := tt_of 97 (by decide +kernel) (by decide +kernel)
abbrev M_X11_chain : MD := (yX11_chain, cX11_chain, 7, (some .int), fun _ _ => True)
theorem mf_X11_chain : MF M_X11_chain 3 := ⟨tt_of 1753 (by decide +kernel) (by decide +kernel), tt_of 122 (by decide +kernel) (by decide +kernel), ⟨by decide, by decide, by decide +kernel⟩, by decide⟩
theorem mi_X11_chain : Cond.instanceMethod M_X11_chain.1 ∈ TT := tt_of 1751 (by decide +kernel) (by decide +kernel)
theorem me_X11_chain : Cond.selects M_X11_chain.1.cls M_X11_chain.1 M_X11_chain.1 ∈ TT := tt_of 1752 (by decide +kernel) (by decide +kernel)
abbrev M_X11_hearAll : MD := (yX11_hearAll, cX11_hearAll, 6, (some .boolean), fun _ _ => True)
theorem mf_X11_hearAll : MF M_X11_hearAll 1 := ⟨tt_of 1769 (by decide +kernel) (by decide +kernel), tt_of 122 (by decide +kernel) (by decide +kernel), ⟨by decide, by decide, by decide +kernel⟩, by decide⟩
theorem mi_X11_hearAll : Cond.instanceMethod M_X11_hearAll.1 ∈ TT := tt_of 1768 (by decide +kernel) (by decide +kernel)
theorem me_X11_hearAll : Cond.selects M_X11_hearAll.1.cls M_X11_hearAll.1 M_X11_hearAll.1 ∈ TT := tt_of 99 (by decide +kernel) (by decide +kernel)
abbrev M_X11_ears : MD := (yX11_ears, cX11_ears, 6, (some .int), fun _ _ => True)
theorem mf_X11_ears : MF M_X11_ears 1 := ⟨tt_of 1761 (by decide +kernel) (by decide +kernel), tt_of 122 (by decide +kernel) (by decide +kernel), ⟨by decide, by decide, by decide +kernel⟩, by decide⟩
theorem mi_X11_ears : Cond.instanceMethod M_X11_ears.1 ∈ TT := tt_of 1759 (by decide +kernel) (by decide +kernel)
theorem me_X11_ears : Cond.selects M_X11_ears.1.cls M_X11_ears.1 M_X11_ears.1 ∈ TT := tt_of 1760 (by decide +kernel) (by decide +kernel)
abbrev M_X11_heardBy : MD := (yX11_heardBy, cX11_heardBy, 4, (some .int), fun _ _ => True)
theorem mf_X11_heardBy : MF M_X11_heardBy 1 := ⟨tt_of 1780 (by decide +kernel) (by decide +kernel), tt_of 122 (by decide +kernel) (by decide +kernel), ⟨by decide, by decide, by decide +kernel⟩, by decide⟩
theorem mi_X11_heardBy : Cond.instanceMethod M_X11_heardBy.1 ∈ TT := tt_of 1779 (by decide +kernel) (by decide +kernel)
theorem me_X11_heardBy : Cond.selects M_X11_heardBy.1.cls M_X11_heardBy.1 M_X11_heardBy.1 ∈ TT := tt_of 100 (by decide +kernel) (by decide +kernel)
abbrev M_X11_loudest : MD := (yX11_loudest, cX11_loudest, 6, (some .int), fun _ _ => True)
theorem mf_X11_loudest : MF M_X11_loudest 1 := ⟨tt_of 1776 (by decide +kernel) (by decide +kernel), tt_of 122 (by decide +kernel) (by decide +kernel), ⟨by decide, by decide, by decide +kernel⟩, by decide⟩
theorem mi_X11_loudest : Cond.instanceMethod M_X11_loudest.1 ∈ TT := tt_of 1774 (by decide +kernel) (by decide +kernel)
theorem me_X11_loudest : Cond.selects M_X11_loudest.1.cls M_X11_loudest.1 M_X11_loudest.1 ∈ TT := tt_of 1775 (by decide +kernel) (by decide +kernel)
abbrev M_X11_nearest : MD := (yX11_nearest, cX11_nearest, 9, (some .int), fun _ _ => True)
theorem mf_X11_nearest : MF M_X11_nearest 2 := ⟨tt_of 1784 (by decide +kernel) (by decide +kernel), tt_of 122 (by decide +kernel) (by decide +kernel), ⟨by decide, by decide, by decide +kernel⟩, by decide⟩
theorem mi_X11_nearest : Cond.instanceMethod M_X11_nearest.1 ∈ TT := tt_of 1782 (by decide +kernel) (by decide +kernel)
theorem me_X11_nearest : Cond.selects M_X11_nearest.1.cls M_X11_nearest.1 M_X11_nearest.1 ∈ TT := tt_of 1783 (by decide +kernel) (by decide +kernel)
abbrev M_X11_heard : MD := (yX11_heard, cX11_heard, 3, (some .int), fun _ _ => True)
theorem mf_X11_heard : MF M_X11_heard 1 := ⟨tt_of 1788 (by decide +kernel) (by decide +kernel), tt_of 122 (by decide +kernel) (by decide +kernel), ⟨by decide, by decide, by decide +kernel⟩, by decide⟩
theorem mi_X11_heard : Cond.instanceMethod M_X11_heard.1 ∈ TT := tt_of 1786 (by decide +kernel) (by decide +kernel)
theorem me_X11_heard : Cond.selects M_X11_heard.1.cls M_X11_heard.1 M_X11_heard.1 ∈ TT := tt_of 1787 (by decide +kernel) (by decide +kernel)
abbrev M_X11_forget : MD := (yX11_forget, cX11_forget, 2, (some .int), fun _ _ => True)
theorem mf_X11_forget : MF M_X11_forget 0 := ⟨tt_of 1792 (by decide +kernel) (by decide +kernel), tt_of 122 (by decide +kernel) (by decide +kernel), ⟨by decide, by decide, by decide +kernel⟩, by decide⟩
theorem mi_X11_forget : Cond.instanceMethod M_X11_forget.1 ∈ TT := tt_of 1790 (by decide +kernel) (by decide +kernel)
theorem me_X11_forget : Cond.selects M_X11_forget.1.cls M_X11_forget.1 M_X11_forget.1 ∈ TT := tt_of 1791 (by decide +kernel) (by decide +kernel)
abbrev M_X11_thatCanBe : MD := (yX11_thatCanBe, cX11_thatCanBe, 5, (some .int), fun _ _ => True)
theorem mf_X11_thatCanBe : MF M_X11_thatCanBe 0 := ⟨tt_of 1800 (by decide +kernel) (by decide +kernel), tt_of 122 (by decide +kernel) (by decide +kernel), ⟨by decide, by decide, by decide +kernel⟩, by decide⟩
theorem mi_X11_thatCanBe : Cond.instanceMethod M_X11_thatCanBe.1 ∈ TT := tt_of 1799 (by decide +kernel) (by decide +kernel)
theorem me_X11_thatCanBe : Cond.selects M_X11_thatCanBe.1.cls M_X11_thatCanBe.1 M_X11_thatCanBe.1 ∈ TT := tt_of 101 (by decide +kernel) (by decide +kernel)
abbrev M_X11_canBe : MD := (yX11_canBe, cX11_canBe, 1, (some .int), fun _ _ => True)
theorem mf_X11_canBe : MF M_X11_canBe 0 := ⟨tt_of 1796 (by decide +kernel) (by decide +kernel), tt_of 122 (by decide +kernel) (by decide +kernel), ⟨by decide, by decide, by decide +kernel⟩, by decide⟩
theorem mi_X11_canBe : Cond.instanceMethod M_X11_canBe.1 ∈ TT := tt_of 1794 (by decide +kernel) (by decide +kernel)
theorem me_X11_canBe : Cond.selects M_X11_canBe.1.cls M_X11_canBe.1 M_X11_canBe.1 ∈ TT := tt_of 1795 (by decide +kernel) (by decide +kernel)
abbrev M_X11_listen : MD := (yX11_listen, cX11_listen, 9, (some .int), fun _ _ => True)
theorem mf_X11_listen : MF M_X11_listen 1 := ⟨tt_of 1804 (by decide +kernel) (by decide +kernel), tt_of 122 (by decide +kernel) (by decide +kernel), ⟨by decide, by decide, by decide +kernel⟩, by decide⟩
theorem mi_X11_listen : Cond.instanceMethod M_X11_listen.1 ∈ TT := tt_of 1802 (by decide +kernel) (by decide +kernel)
theorem me_X11_listen : Cond.selects M_X11_listen.1.cls M_X11_listen.1 M_X11_listen.1 ∈ TT := tt_of 1803 (by decide +kernel) (by decide +kernel)
abbrev M_X11_few : MD := (yX11_few, cX11_few, 8, (some .long), fun _ _ => True)
theorem mf_X11_few : MF M_X11_few 2 := ⟨tt_of 1808 (by decide +kernel) (by decide +kernel), tt_of 122 (by decide +kernel) (by decide +kernel), ⟨by decide, by decide, by decide +kernel⟩, by decide⟩
theorem mi_X11_few : Cond.instanceMethod M_X11_few.1 ∈ TT := tt_of 1806 (by decide +kernel) (by decide +kernel)
theorem me_X11_few : Cond.selects M_X11_few.1.cls M_X11_few.1 M_X11_few.1 ∈ TT := tt_of 1807 (by decide +kernel) (by decide +kernel)
abbrev M_X11_compare : MD := (yX11_compare, cX11_compare, 5, (some .int), fun _ _ => True)
theorem mf_X11_compare : MF M_X11_compare 2 := ⟨tt_of 1814 (by decide +kernel) (by decide +kernel), tt_of 122 (by decide +kernel) (by decide +kernel), ⟨by decide, by decide, by decide +kernel⟩, by decide⟩
theorem mi_X11_compare : Cond.instanceMethod M_X11_compare.1 ∈ TT := tt_of 1812 (by decide +kernel) (by decide +kernel)
theorem me_X11_compare : Cond.selects M_X11_compare.1.cls M_X11_compare.1 M_X11_compare.1 ∈ TT := tt_of 1813 (by decide +kernel) (by decide +kernel)
abbrev M_X11_readSum : MD := (yX11_readSum, cX11_readSum, 2, none, fun _ _ => True)
theorem mf_X11_readSum : MF M_X11_readSum 1 := ⟨tt_of 1826 (by decide +kernel) (by decide +kernel), tt_of 122 (by decide +kernel) (by decide +kernel), ⟨by decide, by decide, by decide +kernel⟩, by decide⟩
theorem mi_X11_readSum : Cond.instanceMethod M_X11_readSum.1 ∈ TT := tt_of 1825 (by decide +kernel) (by decide +kernel)
theorem me_X11_readSum : Cond.selects M_X11_readSum.1.cls M_X11_readSum.1 M_X11_readSum.1 ∈ TT := tt_of 103 (by decide +kernel) (by decide +kernel)
abbrev M_X11_readOrder : MD := (yX11_readOrder, cX11_readOrder, 4, none, fun _ _ => True)
theorem mf_X11_readOrder : MF M_X11_readOrder 0 := ⟨tt_of 1822 (by decide +kernel) (by decide +kernel), tt_of 122 (by decide +kernel) (by decide +kernel), ⟨by decide, by decide, by decide +kernel⟩, by decide⟩
theorem mi_X11_readOrder : Cond.instanceMethod M_X11_readOrder.1 ∈ TT := tt_of 1821 (by decide +kernel) (by decide +kernel)
theorem me_X11_readOrder : Cond.selects M_X11_readOrder.1.cls M_X11_readOrder.1 M_X11_readOrder.1 ∈ TT := tt_of 102 (by decide +kernel) (by decide +kernel)
abbrev M_X11_sumOf : MD := (yX11_sumOf, cX11_sumOf, 2, (some .int), fun _ _ => True)
theorem mf_X11_sumOf : MF M_X11_sumOf 1 := ⟨tt_of 1837 (by decide +kernel) (by decide +kernel), tt_of 122 (by decide +kernel) (by decide +kernel), ⟨by decide, by decide, by decide +kernel⟩, by decide⟩
theorem mi_X11_sumOf : Cond.instanceMethod M_X11_sumOf.1 ∈ TT := tt_of 1836 (by decide +kernel) (by decide +kernel)
theorem me_X11_sumOf : Cond.selects M_X11_sumOf.1.cls M_X11_sumOf.1 M_X11_sumOf.1 ∈ TT := tt_of 105 (by decide +kernel) (by decide +kernel)
abbrev M_X11_act : MD := (yX11_act, cX11_act, 4, (some .int), fun _ _ => True)
theorem mf_X11_act : MF M_X11_act 3 := ⟨tt_of 1841 (by decide +kernel) (by decide +kernel), tt_of 122 (by decide +kernel) (by decide +kernel), ⟨by decide, by decide, by decide +kernel⟩, by decide⟩
theorem mi_X11_act : Cond.instanceMethod M_X11_act.1 ∈ TT := tt_of 1840 (by decide +kernel) (by decide +kernel)
theorem me_X11_act : Cond.selects M_X11_act.1.cls M_X11_act.1 M_X11_act.1 ∈ TT := tt_of 106 (by decide +kernel) (by decide +kernel)
abbrev M_X11_run : MD := (yX11_run, cX11_run, 5, (some .int), fun _ _ => True)
theorem mf_X11_run : MF M_X11_run 1 := ⟨tt_of 1833 (by decide +kernel) (by decide +kernel), tt_of 122 (by decide +kernel) (by decide +kernel), ⟨by decide, by decide, by decide +kernel⟩, by decide⟩
theorem mi_X11_run : Cond.instanceMethod M_X11_run.1 ∈ TT := tt_of 1832 (by decide +kernel) (by decide +kernel)
theorem me_X11_run : Cond.selects M_X11_run.1.cls M_X11_run.1 M_X11_run.1 ∈ TT := tt_of 104 (by decide +kernel) (by decide +kernel)
abbrev M_X11_orders : MD := (yX11_orders, cX11_orders, 4, (some .int), fun _ _ => True)
theorem mf_X11_orders : MF M_X11_orders 0 := ⟨tt_of 1818 (by decide +kernel) (by decide +kernel), tt_of 122 (by decide +kernel) (by decide +kernel), ⟨by decide, by decide, by decide +kernel⟩, by decide⟩
theorem mi_X11_orders : Cond.instanceMethod M_X11_orders.1 ∈ TT := tt_of 1816 (by decide +kernel) (by decide +kernel)
theorem me_X11_orders : Cond.selects M_X11_orders.1.cls M_X11_orders.1 M_X11_orders.1 ∈ TT := tt_of 1817 (by decide +kernel) (by decide +kernel)
abbrev M_X11_giveBack : MD := (yX11_giveBack, cX11_giveBack, 3, none, fun _ _ => True)
theorem mf_X11_giveBack : MF M_X11_giveBack 1 := ⟨tt_of 1845 (by decide +kernel) (by decide +kernel), tt_of 122 (by decide +kernel) (by decide +kernel), ⟨by decide, by decide, by decide +kernel⟩, by decide⟩
theorem mi_X11_giveBack : Cond.instanceMethod M_X11_giveBack.1 ∈ TT := tt_of 1844 (by decide +kernel) (by decide +kernel)
theorem me_X11_giveBack : Cond.selects M_X11_giveBack.1.cls M_X11_giveBack.1 M_X11_giveBack.1 ∈ TT := tt_of 107 (by decide +kernel) (by decide +kernel)
abbrev M_X11_stopped : MD := (yX11_stopped, cX11_stopped, 1, (some .int), fun _ _ => True)
theorem mf_X11_stopped : MF M_X11_stopped 0 := ⟨tt_of 1849 (by decide +kernel) (by decide +kernel), tt_of 122 (by decide +kernel) (by decide +kernel), ⟨by decide, by decide, by decide +kernel⟩, by decide⟩
theorem mi_X11_stopped : Cond.instanceMethod M_X11_stopped.1 ∈ TT := tt_of 1847 (by decide +kernel) (by decide +kernel)
theorem me_X11_stopped : Cond.selects M_X11_stopped.1.cls M_X11_stopped.1 M_X11_stopped.1 ∈ TT := tt_of 1848 (by decide +kernel) (by decide +kernel)
abbrev M_X11_draw : MD := (yX11_draw, cX11_draw, 2, (some .int), fun _ _ => True)
theorem mf_X11_draw : MF M_X11_draw 1 := ⟨tt_of 1858 (by decide +kernel) (by decide +kernel), tt_of 122 (by decide +kernel) (by decide +kernel), ⟨by decide, by decide, by decide +kernel⟩, by decide⟩
theorem mi_X11_draw : Cond.instanceMethod M_X11_draw.1 ∈ TT := tt_of 1857 (by decide +kernel) (by decide +kernel)
theorem me_X11_draw : Cond.selects M_X11_draw.1.cls M_X11_draw.1 M_X11_draw.1 ∈ TT := tt_of 108 (by decide +kernel) (by decide +kernel)
abbrev M_X11_mays : MD := (yX11_mays, cX11_mays, 8, (some .int), fun _ _ => True)
theorem mf_X11_mays : MF M_X11_mays 2 := ⟨tt_of 1853 (by decide +kernel) (by decide +kernel), tt_of 122 (by decide +kernel) (by decide +kernel), ⟨by decide, by decide, by decide +kernel⟩, by decide⟩
theorem mi_X11_mays : Cond.instanceMethod M_X11_mays.1 ∈ TT := tt_of 1851 (by decide +kernel) (by decide +kernel)
theorem me_X11_mays : Cond.selects M_X11_mays.1.cls M_X11_mays.1 M_X11_mays.1 ∈ TT := tt_of 1852 (by decide +kernel) (by decide +kernel)
abbrev M_X11_drawn : MD := (yX11_drawn, cX11_drawn, 3, (some .int), fun _ _ => True)
theorem mf_X11_drawn : MF M_X11_drawn 2 := ⟨tt_of 1865 (by decide +kernel) (by decide +kernel), tt_of 122 (by decide +kernel) (by decide +kernel), ⟨by decide, by decide, by decide +kernel⟩, by decide⟩
theorem mi_X11_drawn : Cond.instanceMethod M_X11_drawn.1 ∈ TT := tt_of 1863 (by decide +kernel) (by decide +kernel)
theorem me_X11_drawn : Cond.selects M_X11_drawn.1.cls M_X11_drawn.1 M_X11_drawn.1 ∈ TT := tt_of 1864 (by decide +kernel) (by decide +kernel)
abbrev M_X11_count : MD := (yX11_count, cX11_count, 2, (some .int), fun _ _ => True)
theorem mf_X11_count : MF M_X11_count 1 := ⟨tt_of 1869 (by decide +kernel) (by decide +kernel), tt_of 122 (by decide +kernel) (by decide +kernel), ⟨by decide, by decide, by decide +kernel⟩, by decide⟩
theorem mi_X11_count : Cond.instanceMethod M_X11_count.1 ∈ TT := tt_of 1867 (by decide +kernel) (by decide +kernel)
theorem me_X11_count : Cond.selects M_X11_count.1.cls M_X11_count.1 M_X11_count.1 ∈ TT := tt_of 1868 (by decide +kernel) (by decide +kernel)
abbrev M_X11_status : MD := (yX11_status, cX11_status, 1, (some .int), fun _ _ => True)
theorem mf_X11_status : MF M_X11_status 0 := ⟨tt_of 1875 (by decide +kernel) (by decide +kernel), tt_of 122 (by decide +kernel) (by decide +kernel), ⟨by decide, by decide, by decide +kernel⟩, by decide⟩
theorem mi_X11_status : Cond.instanceMethod M_X11_status.1 ∈ TT := tt_of 1873 (by decide +kernel) (by decide +kernel)
theorem me_X11_status : Cond.selects M_X11_status.1.cls M_X11_status.1 M_X11_status.1 ∈ TT := tt_of 1874 (by decide +kernel) (by decide +kernel)
abbrev M_J6_bitCount_0f7a4 : MD := (yJ6_bitCount_0f7a4, cJ6_bitCount_0f7a4, 1, (some .int), fun _ _ => True)
theorem mf_J6_bitCount_0f7a4 : MF M_J6_bitCount_0f7a4 1 := ⟨tt_of 657 (by decide +kernel) (by decide +kernel), tt_of 124 (by decide +kernel) (by decide +kernel), ⟨by decide, by decide, by decide +kernel⟩, by decide⟩
theorem ms_J6_bitCount_0f7a4 : Cond.static M_J6_bitCount_0f7a4.1 ∈ TT := tt_of 656 (by decide +kernel) (by decide +kernel)
abbrev M_L_law : MD := (yL_law, cL_law, 4, (some .boolean), fun _ _ => True)
theorem mm_max : Cond.static Lib.Math.max.name ∈ TT := tt_of 183 (by decide +kernel) (by decide +kernel)
theorem mc_max : Cond.code Lib.Math.max.name Lib.Math.max.code 2 (some .int) ∈ TT := tt_of 184 (by decide +kernel) (by decide +kernel)
theorem mm_min : Cond.static Lib.Math.min.name ∈ TT := tt_of 538 (by decide +kernel) (by decide +kernel)
theorem mc_min : Cond.code Lib.Math.min.name Lib.Math.min.code 2 (some .int) ∈ TT := tt_of 539 (by decide +kernel) (by decide +kernel)
theorem mm_abs : Cond.static Lib.Math.abs.name ∈ TT := tt_of 565 (by decide +kernel) (by decide +kernel)
theorem mc_abs : Cond.code Lib.Math.abs.name Lib.Math.abs.code 1 (some .int) ∈ TT := tt_of 566 (by decide +kernel) (by decide +kernel)
theorem mini : Cond.initialized "java/lang/Math" ∈ TT := tt_of 114 (by decide +kernel) (by decide +kernel)
theorem acn : Cond.native arraycopyName ∈ TT := tt_of 647 (by decide +kernel) (by decide +kernel)
theorem acs : Cond.static arraycopyName ∈ TT := tt_of 646 (by decide +kernel) (by decide +kernel)
theorem aci : Cond.initialized "java/lang/System" ∈ TT := tt_of 123 (by decide +kernel) (by decide +kernel)
theorem oin : Cond.instanceMethod objectInit ∈ TT := tt_of 135 (by decide +kernel) (by decide +kernel)
theorem oco : Cond.code objectInit ⟨#[0xb1]⟩ 1 none ∈ TT := tt_of 136 (by decide +kernel) (by decide +kernel)
theorem ac_int : Cond.arrayClass .int ∈ TT := tt_of 174 (by decide +kernel) (by decide +kernel)
theorem ac_long : Cond.arrayClass .long ∈ TT := tt_of 350 (by decide +kernel) (by decide +kernel)
theorem ac_boolean : Cond.arrayClass .boolean ∈ TT := tt_of 1364 (by decide +kernel) (by decide +kernel)

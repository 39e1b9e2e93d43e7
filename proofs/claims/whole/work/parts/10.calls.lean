theorem wp_callV0 {S : SH} {M : MD} {d cb sb : Nat} {Q : Option Value → AH → Prop} {pc : Nat} {L rest : List Value} {h : AH} {N : MD} {index n : Nat} {b ci : Nat} (hM : MF N 0) (hi : Cond.instanceMethod N.1 ∈ TT) (hse : Cond.selects N.1.cls N.1 N.1 ∈ TT) (hlk : Cond.methodLink M.1.cls index N.1 ∈ TT) (hd : decode M.2.1 pc = .ok (.invokevirtual index, 3)) (hrv : KD S h b = some (0, ci)) (hcl : ∃ T k, vwCl[ci]? = some (N.1.cls, T, k)) (hr : (rest.map fun v => v.category).sum ≤ 8) (hcp : CP S N d 0 0 (.ref b :: []) h (fun r h' => WP S M (d + 1) cb sb Q (pc + 3) L (r.toList ++ rest) h')) : WP S M (d + 1) cb sb Q pc L (.ref b :: rest) h := wp_callV (as := []) hM hi hse hlk hd hrv hcl rfl hr ⟨rfl, rfl⟩ hcp
theorem wp_callS0 {S : SH} {M : MD} {d cb sb : Nat} {Q : Option Value → AH → Prop} {pc : Nat} {L rest : List Value} {h : AH} {N : MD} {index n : Nat} (hM : MF N 0) (hi : Cond.static N.1 ∈ TT) (hlk : Cond.methodLink M.1.cls index N.1 ∈ TT) (hd : decode M.2.1 pc = .ok (.invokestatic index, 3)) (hr : (rest.map fun v => v.category).sum ≤ 8) (hcp : CP S N d 0 0 [] h (fun r h' => WP S M (d + 1) cb sb Q (pc + 3) L (r.toList ++ rest) h')) : WP S M (d + 1) cb sb Q pc L (rest) h := wp_callS (as := []) hM hi hlk hd rfl hr ⟨rfl, rfl⟩ hcp
theorem wp_callV1 {S : SH} {M : MD} {d cb sb : Nat} {Q : Option Value → AH → Prop} {pc : Nat} {L rest : List Value} {h : AH} {N : MD} {index n : Nat} {b ci : Nat} {a0 : Value} (hM : MF N 1) (hi : Cond.instanceMethod N.1 ∈ TT) (hse : Cond.selects N.1.cls N.1 N.1 ∈ TT) (hlk : Cond.methodLink M.1.cls index N.1 ∈ TT) (hd : decode M.2.1 pc = .ok (.invokevirtual index, 3)) (hrv : KD S h b = some (0, ci)) (hcl : ∃ T k, vwCl[ci]? = some (N.1.cls, T, k)) (hr : (rest.map fun v => v.category).sum ≤ 8) (hcp : CP S N d 0 0 (.ref b :: [a0]) h (fun r h' => WP S M (d + 1) cb sb Q (pc + 3) L (r.toList ++ rest) h')) : WP S M (d + 1) cb sb Q pc L (a0 :: .ref b :: rest) h := wp_callV (as := [a0]) hM hi hse hlk hd hrv hcl rfl hr ⟨rfl, rfl⟩ hcp
theorem wp_callS1 {S : SH} {M : MD} {d cb sb : Nat} {Q : Option Value → AH → Prop} {pc : Nat} {L rest : List Value} {h : AH} {N : MD} {index n : Nat} {a0 : Value} (hM : MF N 1) (hi : Cond.static N.1 ∈ TT) (hlk : Cond.methodLink M.1.cls index N.1 ∈ TT) (hd : decode M.2.1 pc = .ok (.invokestatic index, 3)) (hr : (rest.map fun v => v.category).sum ≤ 8) (hcp : CP S N d 0 0 [a0] h (fun r h' => WP S M (d + 1) cb sb Q (pc + 3) L (r.toList ++ rest) h')) : WP S M (d + 1) cb sb Q pc L (a0 :: rest) h := wp_callS (as := [a0]) hM hi hlk hd rfl hr ⟨rfl, rfl⟩ hcp
theorem wp_callV2 {S : SH} {M : MD} {d cb sb : Nat} {Q : Option Value → AH → Prop} {pc : Nat} {L rest : List Value} {h : AH} {N : MD} {index n : Nat} {b ci : Nat} {a0 a1 : Value} (hM : MF N 2) (hi : Cond.instanceMethod N.1 ∈ TT) (hse : Cond.selects N.1.cls N.1 N.1 ∈ TT) (hlk : Cond.methodLink M.1.cls index N.1 ∈ TT) (hd : decode M.2.1 pc = .ok (.invokevirtual index, 3)) (hrv : KD S h b = some (0, ci)) (hcl : ∃ T k, vwCl[ci]? = some (N.1.cls, T, k)) (hr : (rest.map fun v => v.category).sum ≤ 8) (hcp : CP S N d 0 0 (.ref b :: [a0, a1]) h (fun r h' => WP S M (d + 1) cb sb Q (pc + 3) L (r.toList ++ rest) h')) : WP S M (d + 1) cb sb Q pc L (a1 :: a0 :: .ref b :: rest) h := wp_callV (as := [a0, a1]) hM hi hse hlk hd hrv hcl rfl hr ⟨rfl, rfl⟩ hcp
theorem wp_callS2 {S : SH} {M : MD} {d cb sb : Nat} {Q : Option Value → AH → Prop} {pc : Nat} {L rest : List Value} {h : AH} {N : MD} {index n : Nat} {a0 a1 : Value} (hM : MF N 2) (hi : Cond.static N.1 ∈ TT) (hlk : Cond.methodLink M.1.cls index N.1 ∈ TT) (hd : decode M.2.1 pc = .ok (.invokestatic index, 3)) (hr : (rest.map fun v => v.category).sum ≤ 8) (hcp : CP S N d 0 0 [a0, a1] h (fun r h' => WP S M (d + 1) cb sb Q (pc + 3) L (r.toList ++ rest) h')) : WP S M (d + 1) cb sb Q pc L (a1 :: a0 :: rest) h := wp_callS (as := [a0, a1]) hM hi hlk hd rfl hr ⟨rfl, rfl⟩ hcp
theorem wp_callV3 {S : SH} {M : MD} {d cb sb : Nat} {Q : Option Value → AH → Prop} {pc : Nat} {L rest : List Value} {h : AH} {N : MD} {index n : Nat} {b ci : Nat} {a0 a1 a2 : Value} (hM : MF N 3) (hi : Cond.instanceMethod N.1 ∈ TT) (hse : Cond.selects N.1.cls N.1 N.1 ∈ TT) (hlk : Cond.methodLink M.1.cls index N.1 ∈ TT) (hd : decode M.2.1 pc = .ok (.invokevirtual index, 3)) (hrv : KD S h b = some (0, ci)) (hcl : ∃ T k, vwCl[ci]? = some (N.1.cls, T, k)) (hr : (rest.map fun v => v.category).sum ≤ 8) (hcp : CP S N d 0 0 (.ref b :: [a0, a1, a2]) h (fun r h' => WP S M (d + 1) cb sb Q (pc + 3) L (r.toList ++ rest) h')) : WP S M (d + 1) cb sb Q pc L (a2 :: a1 :: a0 :: .ref b :: rest) h := wp_callV (as := [a0, a1, a2]) hM hi hse hlk hd hrv hcl rfl hr ⟨rfl, rfl⟩ hcp
theorem wp_callS3 {S : SH} {M : MD} {d cb sb : Nat} {Q : Option Value → AH → Prop} {pc : Nat} {L rest : List Value} {h : AH} {N : MD} {index n : Nat} {a0 a1 a2 : Value} (hM : MF N 3) (hi : Cond.static N.1 ∈ TT) (hlk : Cond.methodLink M.1.cls index N.1 ∈ TT) (hd : decode M.2.1 pc = .ok (.invokestatic index, 3)) (hr : (rest.map fun v => v.category).sum ≤ 8) (hcp : CP S N d 0 0 [a0, a1, a2] h (fun r h' => WP S M (d + 1) cb sb Q (pc + 3) L (r.toList ++ rest) h')) : WP S M (d + 1) cb sb Q pc L (a2 :: a1 :: a0 :: rest) h := wp_callS (as := [a0, a1, a2]) hM hi hlk hd rfl hr ⟨rfl, rfl⟩ hcp
theorem wp_callV4 {S : SH} {M : MD} {d cb sb : Nat} {Q : Option Value → AH → Prop} {pc : Nat} {L rest : List Value} {h : AH} {N : MD} {index n : Nat} {b ci : Nat} {a0 a1 a2 a3 : Value} (hM : MF N 4) (hi : Cond.instanceMethod N.1 ∈ TT) (hse : Cond.selects N.1.cls N.1 N.1 ∈ TT) (hlk : Cond.methodLink M.1.cls index N.1 ∈ TT) (hd : decode M.2.1 pc = .ok (.invokevirtual index, 3)) (hrv : KD S h b = some (0, ci)) (hcl : ∃ T k, vwCl[ci]? = some (N.1.cls, T, k)) (hr : (rest.map fun v => v.category).sum ≤ 8) (hcp : CP S N d 0 0 (.ref b :: [a0, a1, a2, a3]) h (fun r h' => WP S M (d + 1) cb sb Q (pc + 3) L (r.toList ++ rest) h')) : WP S M (d + 1) cb sb Q pc L (a3 :: a2 :: a1 :: a0 :: .ref b :: rest) h := wp_callV (as := [a0, a1, a2, a3]) hM hi hse hlk hd hrv hcl rfl hr ⟨rfl, rfl⟩ hcp
theorem wp_callS4 {S : SH} {M : MD} {d cb sb : Nat} {Q : Option Value → AH → Prop} {pc : Nat} {L rest : List Value} {h : AH} {N : MD} {index n : Nat} {a0 a1 a2 a3 : Value} (hM : MF N 4) (hi : Cond.static N.1 ∈ TT) (hlk : Cond.methodLink M.1.cls index N.1 ∈ TT) (hd : decode M.2.1 pc = .ok (.invokestatic index, 3)) (hr : (rest.map fun v => v.category).sum ≤ 8) (hcp : CP S N d 0 0 [a0, a1, a2, a3] h (fun r h' => WP S M (d + 1) cb sb Q (pc + 3) L (r.toList ++ rest) h')) : WP S M (d + 1) cb sb Q pc L (a3 :: a2 :: a1 :: a0 :: rest) h := wp_callS (as := [a0, a1, a2, a3]) hM hi hlk hd rfl hr ⟨rfl, rfl⟩ hcp
theorem wp_callV5 {S : SH} {M : MD} {d cb sb : Nat} {Q : Option Value → AH → Prop} {pc : Nat} {L rest : List Value} {h : AH} {N : MD} {index n : Nat} {b ci : Nat} {a0 a1 a2 a3 a4 : Value} (hM : MF N 5) (hi : Cond.instanceMethod N.1 ∈ TT) (hse : Cond.selects N.1.cls N.1 N.1 ∈ TT) (hlk : Cond.methodLink M.1.cls index N.1 ∈ TT) (hd : decode M.2.1 pc = .ok (.invokevirtual index, 3)) (hrv : KD S h b = some (0, ci)) (hcl : ∃ T k, vwCl[ci]? = some (N.1.cls, T, k)) (hr : (rest.map fun v => v.category).sum ≤ 8) (hcp : CP S N d 0 0 (.ref b :: [a0, a1, a2, a3, a4]) h (fun r h' => WP S M (d + 1) cb sb Q (pc + 3) L (r.toList ++ rest) h')) : WP S M (d + 1) cb sb Q pc L (a4 :: a3 :: a2 :: a1 :: a0 :: .ref b :: rest) h := wp_callV (as := [a0, a1, a2, a3, a4]) hM hi hse hlk hd hrv hcl rfl hr ⟨rfl, rfl⟩ hcp
theorem wp_callS5 {S : SH} {M : MD} {d cb sb : Nat} {Q : Option Value → AH → Prop} {pc : Nat} {L rest : List Value} {h : AH} {N : MD} {index n : Nat} {a0 a1 a2 a3 a4 : Value} (hM : MF N 5) (hi : Cond.static N.1 ∈ TT) (hlk : Cond.methodLink M.1.cls index N.1 ∈ TT) (hd : decode M.2.1 pc = .ok (.invokestatic index, 3)) (hr : (rest.map fun v => v.category).sum ≤ 8) (hcp : CP S N d 0 0 [a0, a1, a2, a3, a4] h (fun r h' => WP S M (d + 1) cb sb Q (pc + 3) L (r.toList ++ rest) h')) : WP S M (d + 1) cb sb Q pc L (a4 :: a3 :: a2 :: a1 :: a0 :: rest) h := wp_callS (as := [a0, a1, a2, a3, a4]) hM hi hlk hd rfl hr ⟨rfl, rfl⟩ hcp
theorem dp {L d : Nat} (h : L + 1 ≤ d) : ∃ e, d = e + 1 ∧ L ≤ e := ⟨d - 1, by omega, by omega⟩
theorem dp2 {L N d : Nat} (h : L + 1 ≤ d) (h2 : N + 1 ≤ d) : ∃ e, d = e + 1 ∧ L ≤ e ∧ N ≤ e := ⟨d - 1, by omega, by omega, by omega⟩
theorem wp_case {S : SH} {M : MD} {d cb sb : Nat} {Q : Option Value → AH → Prop} {pc : Nat} {L st : List Value} {h : AH} {x : Int32} (c : Int32) (kt : x = c → WP S M d cb sb Q pc L (.int x :: st) h) (kf : ¬ x = c → WP S M d cb sb Q pc L (.int x :: st) h) : WP S M d cb sb Q pc L (.int x :: st) h := (Decidable.em (x = c)).elim kt kf
theorem bp_m6 : (Int8.ofInt (-6)).toInt32 = (-6 : Int32) := by decide
theorem bp_m5 : (Int8.ofInt (-5)).toInt32 = (-5 : Int32) := by decide
theorem bp_m3 : (Int8.ofInt (-3)).toInt32 = (-3 : Int32) := by decide
theorem bp_m2 : (Int8.ofInt (-2)).toInt32 = (-2 : Int32) := by decide
theorem bp_6 : (Int8.ofInt (6)).toInt32 = (6 : Int32) := by decide
theorem bp_7 : (Int8.ofInt (7)).toInt32 = (7 : Int32) := by decide
theorem bp_8 : (Int8.ofInt (8)).toInt32 = (8 : Int32) := by decide
theorem bp_9 : (Int8.ofInt (9)).toInt32 = (9 : Int32) := by decide
theorem bp_10 : (Int8.ofInt (10)).toInt32 = (10 : Int32) := by decide
theorem bp_11 : (Int8.ofInt (11)).toInt32 = (11 : Int32) := by decide
theorem bp_12 : (Int8.ofInt (12)).toInt32 = (12 : Int32) := by decide
theorem bp_14 : (Int8.ofInt (14)).toInt32 = (14 : Int32) := by decide
theorem bp_15 : (Int8.ofInt (15)).toInt32 = (15 : Int32) := by decide
theorem bp_16 : (Int8.ofInt (16)).toInt32 = (16 : Int32) := by decide
theorem bp_17 : (Int8.ofInt (17)).toInt32 = (17 : Int32) := by decide
theorem bp_18 : (Int8.ofInt (18)).toInt32 = (18 : Int32) := by decide
theorem bp_20 : (Int8.ofInt (20)).toInt32 = (20 : Int32) := by decide
theorem bp_21 : (Int8.ofInt (21)).toInt32 = (21 : Int32) := by decide
theorem bp_22 : (Int8.ofInt (22)).toInt32 = (22 : Int32) := by decide
theorem bp_23 : (Int8.ofInt (23)).toInt32 = (23 : Int32) := by decide
theorem bp_24 : (Int8.ofInt (24)).toInt32 = (24 : Int32) := by decide
theorem bp_25 : (Int8.ofInt (25)).toInt32 = (25 : Int32) := by decide
theorem bp_26 : (Int8.ofInt (26)).toInt32 = (26 : Int32) := by decide
theorem bp_27 : (Int8.ofInt (27)).toInt32 = (27 : Int32) := by decide
theorem bp_28 : (Int8.ofInt (28)).toInt32 = (28 : Int32) := by decide
theorem bp_29 : (Int8.ofInt (29)).toInt32 = (29 : Int32) := by decide
theorem bp_30 : (Int8.ofInt (30)).toInt32 = (30 : Int32) := by decide
theorem bp_31 : (Int8.ofInt (31)).toInt32 = (31 : Int32) := by decide
theorem bp_32 : (Int8.ofInt (32)).toInt32 = (32 : Int32) := by decide
theorem bp_37 : (Int8.ofInt (37)).toInt32 = (37 : Int32) := by decide
theorem bp_40 : (Int8.ofInt (40)).toInt32 = (40 : Int32) := by decide
theorem bp_41 : (Int8.ofInt (41)).toInt32 = (41 : Int32) := by decide
theorem bp_42 : (Int8.ofInt (42)).toInt32 = (42 : Int32) := by decide
theorem bp_43 : (Int8.ofInt (43)).toInt32 = (43 : Int32) := by decide
theorem bp_45 : (Int8.ofInt (45)).toInt32 = (45 : Int32) := by decide
theorem bp_47 : (Int8.ofInt (47)).toInt32 = (47 : Int32) := by decide
theorem bp_48 : (Int8.ofInt (48)).toInt32 = (48 : Int32) := by decide
theorem bp_50 : (Int8.ofInt (50)).toInt32 = (50 : Int32) := by decide
theorem bp_57 : (Int8.ofInt (57)).toInt32 = (57 : Int32) := by decide
theorem bp_59 : (Int8.ofInt (59)).toInt32 = (59 : Int32) := by decide
theorem bp_60 : (Int8.ofInt (60)).toInt32 = (60 : Int32) := by decide
theorem bp_61 : (Int8.ofInt (61)).toInt32 = (61 : Int32) := by decide
theorem bp_62 : (Int8.ofInt (62)).toInt32 = (62 : Int32) := by decide
theorem bp_63 : (Int8.ofInt (63)).toInt32 = (63 : Int32) := by decide
theorem bp_72 : (Int8.ofInt (72)).toInt32 = (72 : Int32) := by decide
theorem bp_78 : (Int8.ofInt (78)).toInt32 = (78 : Int32) := by decide
theorem bp_84 : (Int8.ofInt (84)).toInt32 = (84 : Int32) := by decide
theorem bp_90 : (Int8.ofInt (90)).toInt32 = (90 : Int32) := by decide
theorem bp_91 : (Int8.ofInt (91)).toInt32 = (91 : Int32) := by decide
theorem bp_93 : (Int8.ofInt (93)).toInt32 = (93 : Int32) := by decide
theorem bp_97 : (Int8.ofInt (97)).toInt32 = (97 : Int32) := by decide
theorem bp_98 : (Int8.ofInt (98)).toInt32 = (98 : Int32) := by decide
theorem bp_122 : (Int8.ofInt (122)).toInt32 = (122 : Int32) := by decide
theorem ic_m8 : Int32.ofInt (-8) = (-8 : Int32) := by decide
theorem ic_m1 : Int32.ofInt (-1) = (-1 : Int32) := by decide
theorem ic_0 : Int32.ofInt (0) = (0 : Int32) := by decide
theorem ic_1 : Int32.ofInt (1) = (1 : Int32) := by decide
theorem ic_2 : Int32.ofInt (2) = (2 : Int32) := by decide
theorem ic_3 : Int32.ofInt (3) = (3 : Int32) := by decide
theorem ic_4 : Int32.ofInt (4) = (4 : Int32) := by decide
theorem ic_5 : Int32.ofInt (5) = (5 : Int32) := by decide
theorem ic_8 : Int32.ofInt (8) = (8 : Int32) := by decide
theorem lc_0 : Int64.ofNat ((0 : Fin 2) : Nat) = (0 : Int64) := by decide
theorem lc_1 : Int64.ofNat ((1 : Fin 2) : Nat) = (1 : Int64) := by decide
theorem sp_128 : (Int16.ofInt (128)).toInt32 = (128 : Int32) := by decide
theorem sp_255 : (Int16.ofInt (255)).toInt32 = (255 : Int32) := by decide
theorem sp_256 : (Int16.ofInt (256)).toInt32 = (256 : Int32) := by decide
theorem sp_257 : (Int16.ofInt (257)).toInt32 = (257 : Int32) := by decide
theorem sp_258 : (Int16.ofInt (258)).toInt32 = (258 : Int32) := by decide
theorem sp_260 : (Int16.ofInt (260)).toInt32 = (260 : Int32) := by decide
theorem sp_261 : (Int16.ofInt (261)).toInt32 = (261 : Int32) := by decide
theorem sp_262 : (Int16.ofInt (262)).toInt32 = (262 : Int32) := by decide
theorem sp_263 : (Int16.ofInt (263)).toInt32 = (263 : Int32) := by decide
theorem sp_264 : (Int16.ofInt (264)).toInt32 = (264 : Int32) := by decide
theorem sp_265 : (Int16.ofInt (265)).toInt32 = (265 : Int32) := by decide
theorem sp_266 : (Int16.ofInt (266)).toInt32 = (266 : Int32) := by decide
theorem sp_267 : (Int16.ofInt (267)).toInt32 = (267 : Int32) := by decide
theorem sp_268 : (Int16.ofInt (268)).toInt32 = (268 : Int32) := by decide
theorem sp_269 : (Int16.ofInt (269)).toInt32 = (269 : Int32) := by decide
theorem sp_270 : (Int16.ofInt (270)).toInt32 = (270 : Int32) := by decide
theorem sp_271 : (Int16.ofInt (271)).toInt32 = (271 : Int32) := by decide
theorem sp_276 : (Int16.ofInt (276)).toInt32 = (276 : Int32) := by decide
theorem sp_277 : (Int16.ofInt (277)).toInt32 = (277 : Int32) := by decide
theorem sp_278 : (Int16.ofInt (278)).toInt32 = (278 : Int32) := by decide
theorem sp_279 : (Int16.ofInt (279)).toInt32 = (279 : Int32) := by decide
theorem sp_280 : (Int16.ofInt (280)).toInt32 = (280 : Int32) := by decide
theorem sp_281 : (Int16.ofInt (281)).toInt32 = (281 : Int32) := by decide
theorem sp_282 : (Int16.ofInt (282)).toInt32 = (282 : Int32) := by decide
theorem sp_283 : (Int16.ofInt (283)).toInt32 = (283 : Int32) := by decide
theorem sp_284 : (Int16.ofInt (284)).toInt32 = (284 : Int32) := by decide
theorem sp_285 : (Int16.ofInt (285)).toInt32 = (285 : Int32) := by decide
theorem sp_288 : (Int16.ofInt (288)).toInt32 = (288 : Int32) := by decide
theorem sp_400 : (Int16.ofInt (400)).toInt32 = (400 : Int32) := by decide
theorem sp_900 : (Int16.ofInt (900)).toInt32 = (900 : Int32) := by decide
theorem sp_999 : (Int16.ofInt (999)).toInt32 = (999 : Int32) := by decide
theorem sp_1000 : (Int16.ofInt (1000)).toInt32 = (1000 : Int32) := by decide
theorem sp_1001 : (Int16.ofInt (1001)).toInt32 = (1001 : Int32) := by decide
theorem sp_1023 : (Int16.ofInt (1023)).toInt32 = (1023 : Int32) := by decide
theorem sp_1103 : (Int16.ofInt (1103)).toInt32 = (1103 : Int32) := by decide
theorem sp_5490 : (Int16.ofInt (5490)).toInt32 = (5490 : Int32) := by decide
theorem sp_12345 : (Int16.ofInt (12345)).toInt32 = (12345 : Int32) := by decide

theorem wp_callV0 {S : SH} {M : MD} {d cb sb : Nat} {Q : Option Value → AH → Prop} {pc : Nat} {L rest : List Value} {h : AH} {N : MD} {index : Nat} {b ci : Nat} (hM : MF N 0) (hi : Cond.instanceMethod N.1 ∈ TT) (hse : Cond.selects N.1.cls N.1 N.1 ∈ TT) (hlk : Cond.methodLink M.1.cls index N.1 ∈ TT) (hd : decode M.2.1 pc = .ok (.invokevirtual index, 3)) (hrv : KD S h b = some (0, ci)) (hcl : ∃ T k, vwCl[ci]? = some (N.1.cls, T, k)) (hr : (rest.map fun v => v.category).sum ≤ 8) (hcp : CP S N d 0 0 (.ref b :: []) h (fun r h' => WP S M (d + 1) cb sb Q (pc + 3) L (r.toList ++ rest) h')) : WP S M (d + 1) cb sb Q pc L (.ref b :: rest) h := wp_callV (as := []) hM hi hse hlk hd hrv hcl rfl hr ⟨rfl, rfl⟩ hcp
theorem wp_callS0 {S : SH} {M : MD} {d cb sb : Nat} {Q : Option Value → AH → Prop} {pc : Nat} {L rest : List Value} {h : AH} {N : MD} {index : Nat} (hM : MF N 0) (hi : Cond.static N.1 ∈ TT) (hlk : Cond.methodLink M.1.cls index N.1 ∈ TT) (hd : decode M.2.1 pc = .ok (.invokestatic index, 3)) (hr : (rest.map fun v => v.category).sum ≤ 8) (hcp : CP S N d 0 0 [] h (fun r h' => WP S M (d + 1) cb sb Q (pc + 3) L (r.toList ++ rest) h')) : WP S M (d + 1) cb sb Q pc L (rest) h := wp_callS (as := []) hM hi hlk hd rfl hr ⟨rfl, rfl⟩ hcp
theorem wp_callV1 {S : SH} {M : MD} {d cb sb : Nat} {Q : Option Value → AH → Prop} {pc : Nat} {L rest : List Value} {h : AH} {N : MD} {index : Nat} {b ci : Nat} {a0 : Value} (hM : MF N 1) (hi : Cond.instanceMethod N.1 ∈ TT) (hse : Cond.selects N.1.cls N.1 N.1 ∈ TT) (hlk : Cond.methodLink M.1.cls index N.1 ∈ TT) (hd : decode M.2.1 pc = .ok (.invokevirtual index, 3)) (hrv : KD S h b = some (0, ci)) (hcl : ∃ T k, vwCl[ci]? = some (N.1.cls, T, k)) (hr : (rest.map fun v => v.category).sum ≤ 8) (hcp : CP S N d 0 0 (.ref b :: [a0]) h (fun r h' => WP S M (d + 1) cb sb Q (pc + 3) L (r.toList ++ rest) h')) : WP S M (d + 1) cb sb Q pc L (a0 :: .ref b :: rest) h := wp_callV (as := [a0]) hM hi hse hlk hd hrv hcl rfl hr ⟨rfl, rfl⟩ hcp
theorem wp_callS1 {S : SH} {M : MD} {d cb sb : Nat} {Q : Option Value → AH → Prop} {pc : Nat} {L rest : List Value} {h : AH} {N : MD} {index : Nat} {a0 : Value} (hM : MF N 1) (hi : Cond.static N.1 ∈ TT) (hlk : Cond.methodLink M.1.cls index N.1 ∈ TT) (hd : decode M.2.1 pc = .ok (.invokestatic index, 3)) (hr : (rest.map fun v => v.category).sum ≤ 8) (hcp : CP S N d 0 0 [a0] h (fun r h' => WP S M (d + 1) cb sb Q (pc + 3) L (r.toList ++ rest) h')) : WP S M (d + 1) cb sb Q pc L (a0 :: rest) h := wp_callS (as := [a0]) hM hi hlk hd rfl hr ⟨rfl, rfl⟩ hcp
theorem wp_callV2 {S : SH} {M : MD} {d cb sb : Nat} {Q : Option Value → AH → Prop} {pc : Nat} {L rest : List Value} {h : AH} {N : MD} {index : Nat} {b ci : Nat} {a0 a1 : Value} (hM : MF N 2) (hi : Cond.instanceMethod N.1 ∈ TT) (hse : Cond.selects N.1.cls N.1 N.1 ∈ TT) (hlk : Cond.methodLink M.1.cls index N.1 ∈ TT) (hd : decode M.2.1 pc = .ok (.invokevirtual index, 3)) (hrv : KD S h b = some (0, ci)) (hcl : ∃ T k, vwCl[ci]? = some (N.1.cls, T, k)) (hr : (rest.map fun v => v.category).sum ≤ 8) (hcp : CP S N d 0 0 (.ref b :: [a0, a1]) h (fun r h' => WP S M (d + 1) cb sb Q (pc + 3) L (r.toList ++ rest) h')) : WP S M (d + 1) cb sb Q pc L (a1 :: a0 :: .ref b :: rest) h := wp_callV (as := [a0, a1]) hM hi hse hlk hd hrv hcl rfl hr ⟨rfl, rfl⟩ hcp
theorem wp_callS2 {S : SH} {M : MD} {d cb sb : Nat} {Q : Option Value → AH → Prop} {pc : Nat} {L rest : List Value} {h : AH} {N : MD} {index : Nat} {a0 a1 : Value} (hM : MF N 2) (hi : Cond.static N.1 ∈ TT) (hlk : Cond.methodLink M.1.cls index N.1 ∈ TT) (hd : decode M.2.1 pc = .ok (.invokestatic index, 3)) (hr : (rest.map fun v => v.category).sum ≤ 8) (hcp : CP S N d 0 0 [a0, a1] h (fun r h' => WP S M (d + 1) cb sb Q (pc + 3) L (r.toList ++ rest) h')) : WP S M (d + 1) cb sb Q pc L (a1 :: a0 :: rest) h := wp_callS (as := [a0, a1]) hM hi hlk hd rfl hr ⟨rfl, rfl⟩ hcp
theorem wp_callV3 {S : SH} {M : MD} {d cb sb : Nat} {Q : Option Value → AH → Prop} {pc : Nat} {L rest : List Value} {h : AH} {N : MD} {index : Nat} {b ci : Nat} {a0 a1 a2 : Value} (hM : MF N 3) (hi : Cond.instanceMethod N.1 ∈ TT) (hse : Cond.selects N.1.cls N.1 N.1 ∈ TT) (hlk : Cond.methodLink M.1.cls index N.1 ∈ TT) (hd : decode M.2.1 pc = .ok (.invokevirtual index, 3)) (hrv : KD S h b = some (0, ci)) (hcl : ∃ T k, vwCl[ci]? = some (N.1.cls, T, k)) (hr : (rest.map fun v => v.category).sum ≤ 8) (hcp : CP S N d 0 0 (.ref b :: [a0, a1, a2]) h (fun r h' => WP S M (d + 1) cb sb Q (pc + 3) L (r.toList ++ rest) h')) : WP S M (d + 1) cb sb Q pc L (a2 :: a1 :: a0 :: .ref b :: rest) h := wp_callV (as := [a0, a1, a2]) hM hi hse hlk hd hrv hcl rfl hr ⟨rfl, rfl⟩ hcp
theorem wp_callS3 {S : SH} {M : MD} {d cb sb : Nat} {Q : Option Value → AH → Prop} {pc : Nat} {L rest : List Value} {h : AH} {N : MD} {index : Nat} {a0 a1 a2 : Value} (hM : MF N 3) (hi : Cond.static N.1 ∈ TT) (hlk : Cond.methodLink M.1.cls index N.1 ∈ TT) (hd : decode M.2.1 pc = .ok (.invokestatic index, 3)) (hr : (rest.map fun v => v.category).sum ≤ 8) (hcp : CP S N d 0 0 [a0, a1, a2] h (fun r h' => WP S M (d + 1) cb sb Q (pc + 3) L (r.toList ++ rest) h')) : WP S M (d + 1) cb sb Q pc L (a2 :: a1 :: a0 :: rest) h := wp_callS (as := [a0, a1, a2]) hM hi hlk hd rfl hr ⟨rfl, rfl⟩ hcp
theorem wp_callV4 {S : SH} {M : MD} {d cb sb : Nat} {Q : Option Value → AH → Prop} {pc : Nat} {L rest : List Value} {h : AH} {N : MD} {index : Nat} {b ci : Nat} {a0 a1 a2 a3 : Value} (hM : MF N 4) (hi : Cond.instanceMethod N.1 ∈ TT) (hse : Cond.selects N.1.cls N.1 N.1 ∈ TT) (hlk : Cond.methodLink M.1.cls index N.1 ∈ TT) (hd : decode M.2.1 pc = .ok (.invokevirtual index, 3)) (hrv : KD S h b = some (0, ci)) (hcl : ∃ T k, vwCl[ci]? = some (N.1.cls, T, k)) (hr : (rest.map fun v => v.category).sum ≤ 8) (hcp : CP S N d 0 0 (.ref b :: [a0, a1, a2, a3]) h (fun r h' => WP S M (d + 1) cb sb Q (pc + 3) L (r.toList ++ rest) h')) : WP S M (d + 1) cb sb Q pc L (a3 :: a2 :: a1 :: a0 :: .ref b :: rest) h := wp_callV (as := [a0, a1, a2, a3]) hM hi hse hlk hd hrv hcl rfl hr ⟨rfl, rfl⟩ hcp
theorem wp_callS4 {S : SH} {M : MD} {d cb sb : Nat} {Q : Option Value → AH → Prop} {pc : Nat} {L rest : List Value} {h : AH} {N : MD} {index : Nat} {a0 a1 a2 a3 : Value} (hM : MF N 4) (hi : Cond.static N.1 ∈ TT) (hlk : Cond.methodLink M.1.cls index N.1 ∈ TT) (hd : decode M.2.1 pc = .ok (.invokestatic index, 3)) (hr : (rest.map fun v => v.category).sum ≤ 8) (hcp : CP S N d 0 0 [a0, a1, a2, a3] h (fun r h' => WP S M (d + 1) cb sb Q (pc + 3) L (r.toList ++ rest) h')) : WP S M (d + 1) cb sb Q pc L (a3 :: a2 :: a1 :: a0 :: rest) h := wp_callS (as := [a0, a1, a2, a3]) hM hi hlk hd rfl hr ⟨rfl, rfl⟩ hcp
theorem wp_callV5 {S : SH} {M : MD} {d cb sb : Nat} {Q : Option Value → AH → Prop} {pc : Nat} {L rest : List Value} {h : AH} {N : MD} {index : Nat} {b ci : Nat} {a0 a1 a2 a3 a4 : Value} (hM : MF N 5) (hi : Cond.instanceMethod N.1 ∈ TT) (hse : Cond.selects N.1.cls N.1 N.1 ∈ TT) (hlk : Cond.methodLink M.1.cls index N.1 ∈ TT) (hd : decode M.2.1 pc = .ok (.invokevirtual index, 3)) (hrv : KD S h b = some (0, ci)) (hcl : ∃ T k, vwCl[ci]? = some (N.1.cls, T, k)) (hr : (rest.map fun v => v.category).sum ≤ 8) (hcp : CP S N d 0 0 (.ref b :: [a0, a1, a2, a3, a4]) h (fun r h' => WP S M (d + 1) cb sb Q (pc + 3) L (r.toList ++ rest) h')) : WP S M (d + 1) cb sb Q pc L (a4 :: a3 :: a2 :: a1 :: a0 :: .ref b :: rest) h := wp_callV (as := [a0, a1, a2, a3, a4]) hM hi hse hlk hd hrv hcl rfl hr ⟨rfl, rfl⟩ hcp
theorem wp_callS5 {S : SH} {M : MD} {d cb sb : Nat} {Q : Option Value → AH → Prop} {pc : Nat} {L rest : List Value} {h : AH} {N : MD} {index : Nat} {a0 a1 a2 a3 a4 : Value} (hM : MF N 5) (hi : Cond.static N.1 ∈ TT) (hlk : Cond.methodLink M.1.cls index N.1 ∈ TT) (hd : decode M.2.1 pc = .ok (.invokestatic index, 3)) (hr : (rest.map fun v => v.category).sum ≤ 8) (hcp : CP S N d 0 0 [a0, a1, a2, a3, a4] h (fun r h' => WP S M (d + 1) cb sb Q (pc + 3) L (r.toList ++ rest) h')) : WP S M (d + 1) cb sb Q pc L (a4 :: a3 :: a2 :: a1 :: a0 :: rest) h := wp_callS (as := [a0, a1, a2, a3, a4]) hM hi hlk hd rfl hr ⟨rfl, rfl⟩ hcp
theorem wp_callVN4 {S : SH} {M : MD} {d cb sb : Nat} {Q : Option Value → AH → Prop} {pc : Nat} {L rest : List Value} {h : AH} {N : MD} {index : Nat} {b ci : Nat} {host : String} {a0 a1 a2 a3 : Value} (hM : MF N 4) (hi : Cond.instanceMethod N.1 ∈ TT) (hse : Cond.selects N.1.cls N.1 N.1 ∈ TT) (hlk : (M.1.cls, index, N.1, host) ∈ nestL) (hd : decode M.2.1 pc = .ok (.invokevirtual index, 3)) (hrv : KD S h b = some (0, ci)) (hcl : ∃ T k, vwCl[ci]? = some (N.1.cls, T, k)) (hr : (rest.map fun v => v.category).sum ≤ 8) (hcp : CP S N d 0 0 (.ref b :: [a0, a1, a2, a3]) h (fun r h' => WP S M (d + 1) cb sb Q (pc + 3) L (r.toList ++ rest) h')) : WP S M (d + 1) cb sb Q pc L (a3 :: a2 :: a1 :: a0 :: .ref b :: rest) h := wp_callVN (as := [a0, a1, a2, a3]) hM hi hse hlk hd hrv hcl rfl hr ⟨rfl, rfl⟩ hcp
theorem dp {L d : Nat} (h : L + 1 ≤ d) : ∃ e, d = e + 1 ∧ L ≤ e := ⟨d - 1, by omega, by omega⟩
theorem dp2 {L N d : Nat} (h : L + 1 ≤ d) (h2 : N + 1 ≤ d) : ∃ e, d = e + 1 ∧ L ≤ e ∧ N ≤ e := ⟨d - 1, by omega, by omega, by omega⟩
theorem wp_case {S : SH} {M : MD} {d cb sb : Nat} {Q : Option Value → AH → Prop} {pc : Nat} {L st : List Value} {h : AH} {x : Int32} (c : Int32) (kt : x = c → WP S M d cb sb Q pc L (.int x :: st) h) (kf : ¬ x = c → WP S M d cb sb Q pc L (.int x :: st) h) : WP S M d cb sb Q pc L (.int x :: st) h := (Decidable.em (x = c)).elim kt kf
theorem wp_astoreN_n {S : SH} {M : MD} {d cb sb : Nat} {Q : Option Value → AH → Prop} {pc : Nat} {L st : List Value} {h : AH} {k : Fin 4} (hd : decode M.2.1 pc = .ok (.astore_n k, 1)) (hb : (k : Nat) < M.2.2.1) {L1 : List Value} (hL : st1 L (k : Nat) .null = L1) (k : WP S M d cb sb Q (pc + 1) L1 st h) : WP S M d cb sb Q pc L (.null :: st) h := by
  intro p l e R s m args below meth c G B mc ms C ls H locs cells slots hl hw hS hn
  exact lv_astore_nN C.1 C.2.1 hd rfl hl hb rfl (fun ls1 h1 => k p l e R s m args below meth c G B mc ms C ls1 H locs cells slots (by rw [← hL]; exact LH_st1 h1) hw hS hn)
theorem wp_astoreN {S : SH} {M : MD} {d cb sb : Nat} {Q : Option Value → AH → Prop} {pc : Nat} {L st : List Value} {h : AH} {i : Nat} (hd : decode M.2.1 pc = .ok (.astore i, 2)) (hb : i < M.2.2.1) {L1 : List Value} (hL : st1 L i .null = L1) (k : WP S M d cb sb Q (pc + 2) L1 st h) : WP S M d cb sb Q pc L (.null :: st) h := by
  intro p l e R s m args below meth c G B mc ms C ls H locs cells slots hl hw hS hn
  exact lv_astoreN C.1 C.2.1 hd  hl hb rfl (fun ls1 h1 => k p l e R s m args below meth c G B mc ms C ls1 H locs cells slots (by rw [← hL]; exact LH_st1 h1) hw hS hn)
theorem wkJ {r t : List Value} {w : Value} (h : wk r t) : wk (JK :: r) (w :: t) := ⟨.inl rfl, h⟩
theorem wkE {r t : List Value} {v : Value} (h : wk r t) : wk (v :: r) (v :: t) := ⟨.inr rfl, h⟩
theorem wkN {t : List Value} : wk [] t := trivial
theorem mv_X0_init : ∃ T k, vwCl[0]? = some (M_X0_init.1.cls, T, k) := ⟨TX0, 7, rfl⟩
theorem mv_X0_begin : ∃ T k, vwCl[0]? = some (M_X0_begin.1.cls, T, k) := ⟨TX0, 7, rfl⟩
theorem mv_X0_goOn : ∃ T k, vwCl[0]? = some (M_X0_goOn.1.cls, T, k) := ⟨TX0, 7, rfl⟩
theorem mv_X0_divisionAt : ∃ T k, vwCl[0]? = some (M_X0_divisionAt.1.cls, T, k) := ⟨TX0, 7, rfl⟩
theorem mv_X1_init : ∃ T k, vwCl[1]? = some (M_X1_init.1.cls, T, k) := ⟨TX1, 6, rfl⟩
theorem mv_X1_tellLaw : ∃ T k, vwCl[1]? = some (M_X1_tellLaw.1.cls, T, k) := ⟨TX1, 6, rfl⟩
theorem mv_X1_tellBird : ∃ T k, vwCl[1]? = some (M_X1_tellBird.1.cls, T, k) := ⟨TX1, 6, rfl⟩
theorem mv_X1_swayed : ∃ T k, vwCl[1]? = some (M_X1_swayed.1.cls, T, k) := ⟨TX1, 6, rfl⟩
theorem mv_X1_timeTaken : ∃ T k, vwCl[1]? = some (M_X1_timeTaken.1.cls, T, k) := ⟨TX1, 6, rfl⟩
theorem mv_X1_vote : ∃ T k, vwCl[1]? = some (M_X1_vote.1.cls, T, k) := ⟨TX1, 6, rfl⟩
theorem mv_X1_poll : ∃ T k, vwCl[1]? = some (M_X1_poll.1.cls, T, k) := ⟨TX1, 6, rfl⟩
theorem mv_X1_present : ∃ T k, vwCl[1]? = some (M_X1_present.1.cls, T, k) := ⟨TX1, 6, rfl⟩
theorem mv_X1_moved : ∃ T k, vwCl[1]? = some (M_X1_moved.1.cls, T, k) := ⟨TX1, 6, rfl⟩
theorem mv_X1_hears : ∃ T k, vwCl[1]? = some (M_X1_hears.1.cls, T, k) := ⟨TX1, 6, rfl⟩
theorem mv_X1_whomHears : ∃ T k, vwCl[1]? = some (M_X1_whomHears.1.cls, T, k) := ⟨TX1, 6, rfl⟩
theorem mv_X1_hearers : ∃ T k, vwCl[1]? = some (M_X1_hearers.1.cls, T, k) := ⟨TX1, 6, rfl⟩
theorem mv_X1_seconder : ∃ T k, vwCl[1]? = some (M_X1_seconder.1.cls, T, k) := ⟨TX1, 6, rfl⟩
theorem mv_X1_moving : ∃ T k, vwCl[1]? = some (M_X1_moving.1.cls, T, k) := ⟨TX1, 6, rfl⟩
theorem mv_X1_dividing : ∃ T k, vwCl[1]? = some (M_X1_dividing.1.cls, T, k) := ⟨TX1, 6, rfl⟩
theorem mv_X1_flying : ∃ T k, vwCl[1]? = some (M_X1_flying.1.cls, T, k) := ⟨TX1, 6, rfl⟩
theorem mv_X1_passing : ∃ T k, vwCl[1]? = some (M_X1_passing.1.cls, T, k) := ⟨TX1, 6, rfl⟩
theorem mv_X1_wouldCarry : ∃ T k, vwCl[1]? = some (M_X1_wouldCarry.1.cls, T, k) := ⟨TX1, 6, rfl⟩
theorem mv_X1_fewest : ∃ T k, vwCl[1]? = some (M_X1_fewest.1.cls, T, k) := ⟨TX1, 6, rfl⟩
theorem mv_X1_hops : ∃ T k, vwCl[1]? = some (M_X1_hops.1.cls, T, k) := ⟨TX1, 6, rfl⟩
theorem mv_X1_nextInChain : ∃ T k, vwCl[1]? = some (M_X1_nextInChain.1.cls, T, k) := ⟨TX1, 6, rfl⟩
theorem mv_X1_chainBird : ∃ T k, vwCl[1]? = some (M_X1_chainBird.1.cls, T, k) := ⟨TX1, 6, rfl⟩
theorem mv_X1_fewestEars : ∃ T k, vwCl[1]? = some (M_X1_fewestEars.1.cls, T, k) := ⟨TX1, 6, rfl⟩
theorem mv_X1_hearAll : ∃ T k, vwCl[1]? = some (M_X1_hearAll.1.cls, T, k) := ⟨TX1, 6, rfl⟩
theorem mv_X1_mattersAsHeard : ∃ T k, vwCl[1]? = some (M_X1_mattersAsHeard.1.cls, T, k) := ⟨TX1, 6, rfl⟩
theorem mv_X1_mattersAyeOn : ∃ T k, vwCl[1]? = some (M_X1_mattersAyeOn.1.cls, T, k) := ⟨TX1, 6, rfl⟩
theorem mv_X2_init : ∃ T k, vwCl[2]? = some (M_X2_init.1.cls, T, k) := ⟨TX2, 4, rfl⟩
theorem mv_X2_begin : ∃ T k, vwCl[2]? = some (M_X2_begin.1.cls, T, k) := ⟨TX2, 4, rfl⟩
theorem mv_X2_draw : ∃ T k, vwCl[2]? = some (M_X2_draw.1.cls, T, k) := ⟨TX2, 4, rfl⟩
theorem mv_X2_step : ∃ T k, vwCl[2]? = some (M_X2_step.1.cls, T, k) := ⟨TX2, 4, rfl⟩
theorem mv_X3_init : ∃ T k, vwCl[3]? = some (M_X3_init.1.cls, T, k) := ⟨TX3, 5, rfl⟩
theorem mv_X3_read : ∃ T k, vwCl[3]? = some (M_X3_read.1.cls, T, k) := ⟨TX3, 5, rfl⟩
theorem mv_X3_place : ∃ T k, vwCl[3]? = some (M_X3_place.1.cls, T, k) := ⟨TX3, 5, rfl⟩
theorem mv_X3_kind : ∃ T k, vwCl[3]? = some (M_X3_kind.1.cls, T, k) := ⟨TX3, 5, rfl⟩
theorem mv_X3_number : ∃ T k, vwCl[3]? = some (M_X3_number.1.cls, T, k) := ⟨TX3, 5, rfl⟩
theorem mv_X3_next : ∃ T k, vwCl[3]? = some (M_X3_next.1.cls, T, k) := ⟨TX3, 5, rfl⟩
theorem mv_X3_isNumber : ∃ T k, vwCl[3]? = some (M_X3_isNumber.1.cls, T, k) := ⟨TX3, 5, rfl⟩
theorem mv_X3_setHead : ∃ T k, vwCl[3]? = some (M_X3_setHead.1.cls, T, k) := ⟨TX3, 5, rfl⟩
theorem mv_X3_emit : ∃ T k, vwCl[3]? = some (M_X3_emit.1.cls, T, k) := ⟨TX3, 5, rfl⟩
theorem mv_X3_lawClause : ∃ T k, vwCl[3]? = some (M_X3_lawClause.1.cls, T, k) := ⟨TX3, 5, rfl⟩
theorem mv_X3_orderClause : ∃ T k, vwCl[3]? = some (M_X3_orderClause.1.cls, T, k) := ⟨TX3, 5, rfl⟩
theorem mv_X3_times : ∃ T k, vwCl[3]? = some (M_X3_times.1.cls, T, k) := ⟨TX3, 5, rfl⟩
theorem mv_X3_test : ∃ T k, vwCl[3]? = some (M_X3_test.1.cls, T, k) := ⟨TX3, 5, rfl⟩
theorem mv_X3_leapHere : ∃ T k, vwCl[3]? = some (M_X3_leapHere.1.cls, T, k) := ⟨TX3, 5, rfl⟩
theorem mv_X3_plain : ∃ T k, vwCl[3]? = some (M_X3_plain.1.cls, T, k) := ⟨TX3, 5, rfl⟩
theorem mv_X3_testInBrackets : ∃ T k, vwCl[3]? = some (M_X3_testInBrackets.1.cls, T, k) := ⟨TX3, 5, rfl⟩
theorem mv_X3_sum : ∃ T k, vwCl[3]? = some (M_X3_sum.1.cls, T, k) := ⟨TX3, 5, rfl⟩
theorem mv_X3_part : ∃ T k, vwCl[3]? = some (M_X3_part.1.cls, T, k) := ⟨TX3, 5, rfl⟩
theorem mv_X3_sumInBrackets : ∃ T k, vwCl[3]? = some (M_X3_sumInBrackets.1.cls, T, k) := ⟨TX3, 5, rfl⟩
theorem mv_X3_lawWord : ∃ T k, vwCl[3]? = some (M_X3_lawWord.1.cls, T, k) := ⟨TX3, 5, rfl⟩
theorem mv_X3_orderWord : ∃ T k, vwCl[3]? = some (M_X3_orderWord.1.cls, T, k) := ⟨TX3, 5, rfl⟩
theorem mv_X4_init : ∃ T k, vwCl[4]? = some (M_X4_init.1.cls, T, k) := ⟨TX4, 3, rfl⟩
theorem mv_X4_holds : ∃ T k, vwCl[4]? = some (M_X4_holds.1.cls, T, k) := ⟨TX4, 3, rfl⟩
theorem mv_X4_reckon : ∃ T k, vwCl[4]? = some (M_X4_reckon.1.cls, T, k) := ⟨TX4, 3, rfl⟩
theorem mv_X5_init : ∃ T k, vwCl[5]? = some (M_X5_init.1.cls, T, k) := ⟨TX5, 4, rfl⟩
theorem mv_X5_note : ∃ T k, vwCl[5]? = some (M_X5_note.1.cls, T, k) := ⟨TX5, 4, rfl⟩
theorem mv_X5_keep : ∃ T k, vwCl[5]? = some (M_X5_keep.1.cls, T, k) := ⟨TX5, 4, rfl⟩
theorem mv_X5_takeBack : ∃ T k, vwCl[5]? = some (M_X5_takeBack.1.cls, T, k) := ⟨TX5, 4, rfl⟩
theorem mv_X5_clear : ∃ T k, vwCl[5]? = some (M_X5_clear.1.cls, T, k) := ⟨TX5, 4, rfl⟩
theorem mv_X5_become : ∃ T k, vwCl[5]? = some (M_X5_become.1.cls, T, k) := ⟨TX5, 4, rfl⟩
theorem mv_X6_init : ∃ T k, vwCl[6]? = some (M_X6_init.1.cls, T, k) := ⟨TX6, 17, rfl⟩
theorem mv_X6_become : ∃ T k, vwCl[6]? = some (M_X6_become.1.cls, T, k) := ⟨TX6, 17, rfl⟩
theorem mv_X6_hasBird : ∃ T k, vwCl[6]? = some (M_X6_hasBird.1.cls, T, k) := ⟨TX6, 17, rfl⟩
theorem mv_X6_hasMatter : ∃ T k, vwCl[6]? = some (M_X6_hasMatter.1.cls, T, k) := ⟨TX6, 17, rfl⟩
theorem mv_X6_hasLaw : ∃ T k, vwCl[6]? = some (M_X6_hasLaw.1.cls, T, k) := ⟨TX6, 17, rfl⟩
theorem mv_X6_addBird : ∃ T k, vwCl[6]? = some (M_X6_addBird.1.cls, T, k) := ⟨TX6, 17, rfl⟩
theorem mv_X6_addMatter : ∃ T k, vwCl[6]? = some (M_X6_addMatter.1.cls, T, k) := ⟨TX6, 17, rfl⟩
theorem mv_X6_hear : ∃ T k, vwCl[6]? = some (M_X6_hear.1.cls, T, k) := ⟨TX6, 17, rfl⟩
theorem mv_X6_fitsAllHeard : ∃ T k, vwCl[6]? = some (M_X6_fitsAllHeard.1.cls, T, k) := ⟨TX6, 17, rfl⟩
theorem mv_X6_lawInForce : ∃ T k, vwCl[6]? = some (M_X6_lawInForce.1.cls, T, k) := ⟨TX6, 17, rfl⟩
theorem mv_X6_lawOf : ∃ T k, vwCl[6]? = some (M_X6_lawOf.1.cls, T, k) := ⟨TX6, 17, rfl⟩
theorem mv_X7_init : ∃ T k, vwCl[7]? = some (M_X7_init.1.cls, T, k) := ⟨TX7, 4, rfl⟩
theorem mv_X7_become : ∃ T k, vwCl[7]? = some (M_X7_become.1.cls, T, k) := ⟨TX7, 4, rfl⟩
theorem mv_X7_writeTo : ∃ T k, vwCl[7]? = some (M_X7_writeTo.1.cls, T, k) := ⟨TX7, 4, rfl⟩
theorem mv_X7_readFrom : ∃ T k, vwCl[7]? = some (M_X7_readFrom.1.cls, T, k) := ⟨TX7, 4, rfl⟩
theorem mv_X8_init : ∃ T k, vwCl[8]? = some (M_X8_init.1.cls, T, k) := ⟨TX8, 4, rfl⟩
theorem mv_X8_copied : ∃ T k, vwCl[8]? = some (M_X8_copied.1.cls, T, k) := ⟨TX8, 4, rfl⟩
theorem mv_X8_head : ∃ T k, vwCl[8]? = some (M_X8_head.1.cls, T, k) := ⟨TX8, 4, rfl⟩
theorem mv_X8_setHead : ∃ T k, vwCl[8]? = some (M_X8_setHead.1.cls, T, k) := ⟨TX8, 4, rfl⟩
theorem mv_X9_init : ∃ T k, vwCl[9]? = some (M_X9_init.1.cls, T, k) := ⟨TX9, 4, rfl⟩
theorem mv_X9_cut : ∃ T k, vwCl[9]? = some (M_X9_cut.1.cls, T, k) := ⟨TX9, 4, rfl⟩
theorem mv_X9_add : ∃ T k, vwCl[9]? = some (M_X9_add.1.cls, T, k) := ⟨TX9, 4, rfl⟩
theorem mv_X10_init : ∃ T k, vwCl[10]? = some (M_X10_init.1.cls, T, k) := ⟨TX10, 20, rfl⟩
theorem mv_X10_bird : ∃ T k, vwCl[10]? = some (M_X10_bird.1.cls, T, k) := ⟨TX10, 20, rfl⟩
theorem mv_X10_favour : ∃ T k, vwCl[10]? = some (M_X10_favour.1.cls, T, k) := ⟨TX10, 20, rfl⟩
theorem mv_X10_of : ∃ T k, vwCl[10]? = some (M_X10_of.1.cls, T, k) := ⟨TX10, 20, rfl⟩
theorem mv_X10_matter : ∃ T k, vwCl[10]? = some (M_X10_matter.1.cls, T, k) := ⟨TX10, 20, rfl⟩
theorem mv_X10_at : ∃ T k, vwCl[10]? = some (M_X10_at.1.cls, T, k) := ⟨TX10, 20, rfl⟩
theorem mv_X10_terms : ∃ T k, vwCl[10]? = some (M_X10_terms.1.cls, T, k) := ⟨TX10, 20, rfl⟩
theorem mv_X10_term : ∃ T k, vwCl[10]? = some (M_X10_term.1.cls, T, k) := ⟨TX10, 20, rfl⟩
theorem mv_X10_feed : ∃ T k, vwCl[10]? = some (M_X10_feed.1.cls, T, k) := ⟨TX10, 20, rfl⟩
theorem mv_X10_feedFour : ∃ T k, vwCl[10]? = some (M_X10_feedFour.1.cls, T, k) := ⟨TX10, 20, rfl⟩
theorem mv_X10_end : ∃ T k, vwCl[10]? = some (M_X10_end.1.cls, T, k) := ⟨TX10, 20, rfl⟩
theorem mv_X10_row : ∃ T k, vwCl[10]? = some (M_X10_row.1.cls, T, k) := ⟨TX10, 20, rfl⟩
theorem mv_X10_canBeBird : ∃ T k, vwCl[10]? = some (M_X10_canBeBird.1.cls, T, k) := ⟨TX10, 20, rfl⟩
theorem mv_X10_addBirdOfRow : ∃ T k, vwCl[10]? = some (M_X10_addBirdOfRow.1.cls, T, k) := ⟨TX10, 20, rfl⟩
theorem mv_X10_cats : ∃ T k, vwCl[10]? = some (M_X10_cats.1.cls, T, k) := ⟨TX10, 20, rfl⟩
theorem mv_X10_law : ∃ T k, vwCl[10]? = some (M_X10_law.1.cls, T, k) := ⟨TX10, 20, rfl⟩
theorem mv_X10_orders : ∃ T k, vwCl[10]? = some (M_X10_orders.1.cls, T, k) := ⟨TX10, 20, rfl⟩
theorem mv_X10_runClause : ∃ T k, vwCl[10]? = some (M_X10_runClause.1.cls, T, k) := ⟨TX10, 20, rfl⟩
theorem mv_X10_tellOrders : ∃ T k, vwCl[10]? = some (M_X10_tellOrders.1.cls, T, k) := ⟨TX10, 20, rfl⟩
theorem mv_X10_fault : ∃ T k, vwCl[10]? = some (M_X10_fault.1.cls, T, k) := ⟨TX10, 20, rfl⟩
theorem mv_X10_stopped : ∃ T k, vwCl[10]? = some (M_X10_stopped.1.cls, T, k) := ⟨TX10, 20, rfl⟩
theorem mv_X10_force : ∃ T k, vwCl[10]? = some (M_X10_force.1.cls, T, k) := ⟨TX10, 20, rfl⟩
theorem mv_X10_act : ∃ T k, vwCl[10]? = some (M_X10_act.1.cls, T, k) := ⟨TX10, 20, rfl⟩
theorem mv_X10_move : ∃ T k, vwCl[10]? = some (M_X10_move.1.cls, T, k) := ⟨TX10, 20, rfl⟩
theorem mv_X10_divide : ∃ T k, vwCl[10]? = some (M_X10_divide.1.cls, T, k) := ⟨TX10, 20, rfl⟩
theorem mv_X10_fly : ∃ T k, vwCl[10]? = some (M_X10_fly.1.cls, T, k) := ⟨TX10, 20, rfl⟩
theorem mv_X10_pass : ∃ T k, vwCl[10]? = some (M_X10_pass.1.cls, T, k) := ⟨TX10, 20, rfl⟩
theorem mv_X10_undo : ∃ T k, vwCl[10]? = some (M_X10_undo.1.cls, T, k) := ⟨TX10, 20, rfl⟩
theorem mv_X10_second : ∃ T k, vwCl[10]? = some (M_X10_second.1.cls, T, k) := ⟨TX10, 20, rfl⟩
theorem mv_X10_richest : ∃ T k, vwCl[10]? = some (M_X10_richest.1.cls, T, k) := ⟨TX10, 20, rfl⟩
theorem mv_X10_byClock : ∃ T k, vwCl[10]? = some (M_X10_byClock.1.cls, T, k) := ⟨TX10, 20, rfl⟩
theorem mv_X10_spoilt : ∃ T k, vwCl[10]? = some (M_X10_spoilt.1.cls, T, k) := ⟨TX10, 20, rfl⟩
theorem mv_X10_come : ∃ T k, vwCl[10]? = some (M_X10_come.1.cls, T, k) := ⟨TX10, 20, rfl⟩
theorem mv_X10_chain : ∃ T k, vwCl[10]? = some (M_X10_chain.1.cls, T, k) := ⟨TX10, 20, rfl⟩
theorem mv_X10_ears : ∃ T k, vwCl[10]? = some (M_X10_ears.1.cls, T, k) := ⟨TX10, 20, rfl⟩
theorem mv_X10_loudest : ∃ T k, vwCl[10]? = some (M_X10_loudest.1.cls, T, k) := ⟨TX10, 20, rfl⟩
theorem mv_X10_nearest : ∃ T k, vwCl[10]? = some (M_X10_nearest.1.cls, T, k) := ⟨TX10, 20, rfl⟩
theorem mv_X10_heard : ∃ T k, vwCl[10]? = some (M_X10_heard.1.cls, T, k) := ⟨TX10, 20, rfl⟩
theorem mv_X10_forget : ∃ T k, vwCl[10]? = some (M_X10_forget.1.cls, T, k) := ⟨TX10, 20, rfl⟩
theorem mv_X10_canBe : ∃ T k, vwCl[10]? = some (M_X10_canBe.1.cls, T, k) := ⟨TX10, 20, rfl⟩
theorem mv_X10_listen : ∃ T k, vwCl[10]? = some (M_X10_listen.1.cls, T, k) := ⟨TX10, 20, rfl⟩
theorem mv_X10_few : ∃ T k, vwCl[10]? = some (M_X10_few.1.cls, T, k) := ⟨TX10, 20, rfl⟩
theorem mv_X10_compare : ∃ T k, vwCl[10]? = some (M_X10_compare.1.cls, T, k) := ⟨TX10, 20, rfl⟩
theorem mv_X10_mays : ∃ T k, vwCl[10]? = some (M_X10_mays.1.cls, T, k) := ⟨TX10, 20, rfl⟩
theorem mv_X10_drawn : ∃ T k, vwCl[10]? = some (M_X10_drawn.1.cls, T, k) := ⟨TX10, 20, rfl⟩
theorem mv_X10_image : ∃ T k, vwCl[10]? = some (M_X10_image.1.cls, T, k) := ⟨TX10, 20, rfl⟩
theorem mv_X10_back : ∃ T k, vwCl[10]? = some (M_X10_back.1.cls, T, k) := ⟨TX10, 20, rfl⟩
theorem mv_X10_count : ∃ T k, vwCl[10]? = some (M_X10_count.1.cls, T, k) := ⟨TX10, 20, rfl⟩
theorem mv_X10_status : ∃ T k, vwCl[10]? = some (M_X10_status.1.cls, T, k) := ⟨TX10, 20, rfl⟩
theorem mv_X10_accept : ∃ T k, vwCl[10]? = some (M_X10_accept.1.cls, T, k) := ⟨TX10, 20, rfl⟩
theorem mv_X10_refuse : ∃ T k, vwCl[10]? = some (M_X10_refuse.1.cls, T, k) := ⟨TX10, 20, rfl⟩
theorem mv_X10_answer : ∃ T k, vwCl[10]? = some (M_X10_answer.1.cls, T, k) := ⟨TX10, 20, rfl⟩
theorem mv_X11_init : ∃ T k, vwCl[11]? = some (M_X11_init.1.cls, T, k) := ⟨TX11, 58, rfl⟩
theorem mv_X11_tell : ∃ T k, vwCl[11]? = some (M_X11_tell.1.cls, T, k) := ⟨TX11, 58, rfl⟩
theorem mv_X11_change : ∃ T k, vwCl[11]? = some (M_X11_change.1.cls, T, k) := ⟨TX11, 58, rfl⟩
theorem mv_X11_lasting : ∃ T k, vwCl[11]? = some (M_X11_lasting.1.cls, T, k) := ⟨TX11, 58, rfl⟩
theorem mv_X11_keepAll : ∃ T k, vwCl[11]? = some (M_X11_keepAll.1.cls, T, k) := ⟨TX11, 58, rfl⟩
theorem mv_X11_putBack : ∃ T k, vwCl[11]? = some (M_X11_putBack.1.cls, T, k) := ⟨TX11, 58, rfl⟩
theorem mv_X11_remember : ∃ T k, vwCl[11]? = some (M_X11_remember.1.cls, T, k) := ⟨TX11, 58, rfl⟩
theorem mv_X11_undo : ∃ T k, vwCl[11]? = some (M_X11_undo.1.cls, T, k) := ⟨TX11, 58, rfl⟩
theorem mv_X11_image : ∃ T k, vwCl[11]? = some (M_X11_image.1.cls, T, k) := ⟨TX11, 58, rfl⟩
theorem mv_X11_back : ∃ T k, vwCl[11]? = some (M_X11_back.1.cls, T, k) := ⟨TX11, 58, rfl⟩
theorem mv_X11_isBird : ∃ T k, vwCl[11]? = some (M_X11_isBird.1.cls, T, k) := ⟨TX11, 58, rfl⟩
theorem mv_X11_isMatter : ∃ T k, vwCl[11]? = some (M_X11_isMatter.1.cls, T, k) := ⟨TX11, 58, rfl⟩
theorem mv_X11_isAway : ∃ T k, vwCl[11]? = some (M_X11_isAway.1.cls, T, k) := ⟨TX11, 58, rfl⟩
theorem mv_X11_present : ∃ T k, vwCl[11]? = some (M_X11_present.1.cls, T, k) := ⟨TX11, 58, rfl⟩
theorem mv_X11_hears : ∃ T k, vwCl[11]? = some (M_X11_hears.1.cls, T, k) := ⟨TX11, 58, rfl⟩
theorem mv_X11_comes : ∃ T k, vwCl[11]? = some (M_X11_comes.1.cls, T, k) := ⟨TX11, 58, rfl⟩
theorem mv_X11_bird : ∃ T k, vwCl[11]? = some (M_X11_bird.1.cls, T, k) := ⟨TX11, 58, rfl⟩
theorem mv_X11_favour : ∃ T k, vwCl[11]? = some (M_X11_favour.1.cls, T, k) := ⟨TX11, 58, rfl⟩
theorem mv_X11_hearsAll : ∃ T k, vwCl[11]? = some (M_X11_hearsAll.1.cls, T, k) := ⟨TX11, 58, rfl⟩
theorem mv_X11_of : ∃ T k, vwCl[11]? = some (M_X11_of.1.cls, T, k) := ⟨TX11, 58, rfl⟩
theorem mv_X11_matter : ∃ T k, vwCl[11]? = some (M_X11_matter.1.cls, T, k) := ⟨TX11, 58, rfl⟩
theorem mv_X11_at : ∃ T k, vwCl[11]? = some (M_X11_at.1.cls, T, k) := ⟨TX11, 58, rfl⟩
theorem mv_X11_terms : ∃ T k, vwCl[11]? = some (M_X11_terms.1.cls, T, k) := ⟨TX11, 58, rfl⟩
theorem mv_X11_isRow : ∃ T k, vwCl[11]? = some (M_X11_isRow.1.cls, T, k) := ⟨TX11, 58, rfl⟩
theorem mv_X11_row : ∃ T k, vwCl[11]? = some (M_X11_row.1.cls, T, k) := ⟨TX11, 58, rfl⟩
theorem mv_X11_cats : ∃ T k, vwCl[11]? = some (M_X11_cats.1.cls, T, k) := ⟨TX11, 58, rfl⟩
theorem mv_X11_four : ∃ T k, vwCl[11]? = some (M_X11_four.1.cls, T, k) := ⟨TX11, 58, rfl⟩
theorem mv_X11_feed : ∃ T k, vwCl[11]? = some (M_X11_feed.1.cls, T, k) := ⟨TX11, 58, rfl⟩
theorem mv_X11_end : ∃ T k, vwCl[11]? = some (M_X11_end.1.cls, T, k) := ⟨TX11, 58, rfl⟩
theorem mv_X11_begin : ∃ T k, vwCl[11]? = some (M_X11_begin.1.cls, T, k) := ⟨TX11, 58, rfl⟩
theorem mv_X11_next : ∃ T k, vwCl[11]? = some (M_X11_next.1.cls, T, k) := ⟨TX11, 58, rfl⟩
theorem mv_X11_isWord : ∃ T k, vwCl[11]? = some (M_X11_isWord.1.cls, T, k) := ⟨TX11, 58, rfl⟩
theorem mv_X11_isSign : ∃ T k, vwCl[11]? = some (M_X11_isSign.1.cls, T, k) := ⟨TX11, 58, rfl⟩
theorem mv_X11_must : ∃ T k, vwCl[11]? = some (M_X11_must.1.cls, T, k) := ⟨TX11, 58, rfl⟩
theorem mv_X11_number : ∃ T k, vwCl[11]? = some (M_X11_number.1.cls, T, k) := ⟨TX11, 58, rfl⟩
theorem mv_X11_fault : ∃ T k, vwCl[11]? = some (M_X11_fault.1.cls, T, k) := ⟨TX11, 58, rfl⟩
theorem mv_X11_emit : ∃ T k, vwCl[11]? = some (M_X11_emit.1.cls, T, k) := ⟨TX11, 58, rfl⟩
theorem mv_X11_push : ∃ T k, vwCl[11]? = some (M_X11_push.1.cls, T, k) := ⟨TX11, 58, rfl⟩
theorem mv_X11_settle : ∃ T k, vwCl[11]? = some (M_X11_settle.1.cls, T, k) := ⟨TX11, 58, rfl⟩
theorem mv_X11_inner : ∃ T k, vwCl[11]? = some (M_X11_inner.1.cls, T, k) := ⟨TX11, 58, rfl⟩
theorem mv_X11_isCompared : ∃ T k, vwCl[11]? = some (M_X11_isCompared.1.cls, T, k) := ⟨TX11, 58, rfl⟩
theorem mv_X11_partAt : ∃ T k, vwCl[11]? = some (M_X11_partAt.1.cls, T, k) := ⟨TX11, 58, rfl⟩
theorem mv_X11_orderPartAt : ∃ T k, vwCl[11]? = some (M_X11_orderPartAt.1.cls, T, k) := ⟨TX11, 58, rfl⟩
theorem mv_X11_openBracket : ∃ T k, vwCl[11]? = some (M_X11_openBracket.1.cls, T, k) := ⟨TX11, 58, rfl⟩
theorem mv_X11_leaf : ∃ T k, vwCl[11]? = some (M_X11_leaf.1.cls, T, k) := ⟨TX11, 58, rfl⟩
theorem mv_X11_readPart : ∃ T k, vwCl[11]? = some (M_X11_readPart.1.cls, T, k) := ⟨TX11, 58, rfl⟩
theorem mv_X11_readPlain : ∃ T k, vwCl[11]? = some (M_X11_readPlain.1.cls, T, k) := ⟨TX11, 58, rfl⟩
theorem mv_X11_behindSum : ∃ T k, vwCl[11]? = some (M_X11_behindSum.1.cls, T, k) := ⟨TX11, 58, rfl⟩
theorem mv_X11_behindTest : ∃ T k, vwCl[11]? = some (M_X11_behindTest.1.cls, T, k) := ⟨TX11, 58, rfl⟩
theorem mv_X11_readExpression : ∃ T k, vwCl[11]? = some (M_X11_readExpression.1.cls, T, k) := ⟨TX11, 58, rfl⟩
theorem mv_X11_beginText : ∃ T k, vwCl[11]? = some (M_X11_beginText.1.cls, T, k) := ⟨TX11, 58, rfl⟩
theorem mv_X11_endText : ∃ T k, vwCl[11]? = some (M_X11_endText.1.cls, T, k) := ⟨TX11, 58, rfl⟩
theorem mv_X11_readLaw : ∃ T k, vwCl[11]? = some (M_X11_readLaw.1.cls, T, k) := ⟨TX11, 58, rfl⟩
theorem mv_X11_law : ∃ T k, vwCl[11]? = some (M_X11_law.1.cls, T, k) := ⟨TX11, 58, rfl⟩
theorem mv_X11_isLaw : ∃ T k, vwCl[11]? = some (M_X11_isLaw.1.cls, T, k) := ⟨TX11, 58, rfl⟩
theorem mv_X11_force : ∃ T k, vwCl[11]? = some (M_X11_force.1.cls, T, k) := ⟨TX11, 58, rfl⟩
theorem mv_X11_reckon : ∃ T k, vwCl[11]? = some (M_X11_reckon.1.cls, T, k) := ⟨TX11, 58, rfl⟩
theorem mv_X11_reckonAll : ∃ T k, vwCl[11]? = some (M_X11_reckonAll.1.cls, T, k) := ⟨TX11, 58, rfl⟩
theorem mv_X11_isSo : ∃ T k, vwCl[11]? = some (M_X11_isSo.1.cls, T, k) := ⟨TX11, 58, rfl⟩
theorem mv_X11_tells : ∃ T k, vwCl[11]? = some (M_X11_tells.1.cls, T, k) := ⟨TX11, 58, rfl⟩
theorem mv_X11_swayOf : ∃ T k, vwCl[11]? = some (M_X11_swayOf.1.cls, T, k) := ⟨TX11, 58, rfl⟩
theorem mv_X11_takesOf : ∃ T k, vwCl[11]? = some (M_X11_takesOf.1.cls, T, k) := ⟨TX11, 58, rfl⟩
theorem mv_X11_sits : ∃ T k, vwCl[11]? = some (M_X11_sits.1.cls, T, k) := ⟨TX11, 58, rfl⟩
theorem mv_X11_isAye : ∃ T k, vwCl[11]? = some (M_X11_isAye.1.cls, T, k) := ⟨TX11, 58, rfl⟩
theorem mv_X11_sitting : ∃ T k, vwCl[11]? = some (M_X11_sitting.1.cls, T, k) := ⟨TX11, 58, rfl⟩
theorem mv_X11_ayes : ∃ T k, vwCl[11]? = some (M_X11_ayes.1.cls, T, k) := ⟨TX11, 58, rfl⟩
theorem mv_X11_carries : ∃ T k, vwCl[11]? = some (M_X11_carries.1.cls, T, k) := ⟨TX11, 58, rfl⟩
theorem mv_X11_seconder : ∃ T k, vwCl[11]? = some (M_X11_seconder.1.cls, T, k) := ⟨TX11, 58, rfl⟩
theorem mv_X11_canDivide : ∃ T k, vwCl[11]? = some (M_X11_canDivide.1.cls, T, k) := ⟨TX11, 58, rfl⟩
theorem mv_X11_divideIt : ∃ T k, vwCl[11]? = some (M_X11_divideIt.1.cls, T, k) := ⟨TX11, 58, rfl⟩
theorem mv_X11_canMove : ∃ T k, vwCl[11]? = some (M_X11_canMove.1.cls, T, k) := ⟨TX11, 58, rfl⟩
theorem mv_X11_moveNow : ∃ T k, vwCl[11]? = some (M_X11_moveNow.1.cls, T, k) := ⟨TX11, 58, rfl⟩
theorem mv_X11_move : ∃ T k, vwCl[11]? = some (M_X11_move.1.cls, T, k) := ⟨TX11, 58, rfl⟩
theorem mv_X11_divideNow : ∃ T k, vwCl[11]? = some (M_X11_divideNow.1.cls, T, k) := ⟨TX11, 58, rfl⟩
theorem mv_X11_divide : ∃ T k, vwCl[11]? = some (M_X11_divide.1.cls, T, k) := ⟨TX11, 58, rfl⟩
theorem mv_X11_flyNow : ∃ T k, vwCl[11]? = some (M_X11_flyNow.1.cls, T, k) := ⟨TX11, 58, rfl⟩
theorem mv_X11_fly : ∃ T k, vwCl[11]? = some (M_X11_fly.1.cls, T, k) := ⟨TX11, 58, rfl⟩
theorem mv_X11_passIt : ∃ T k, vwCl[11]? = some (M_X11_passIt.1.cls, T, k) := ⟨TX11, 58, rfl⟩
theorem mv_X11_passNow : ∃ T k, vwCl[11]? = some (M_X11_passNow.1.cls, T, k) := ⟨TX11, 58, rfl⟩
theorem mv_X11_pass : ∃ T k, vwCl[11]? = some (M_X11_pass.1.cls, T, k) := ⟨TX11, 58, rfl⟩
theorem mv_X11_second : ∃ T k, vwCl[11]? = some (M_X11_second.1.cls, T, k) := ⟨TX11, 58, rfl⟩
theorem mv_X11_isNew : ∃ T k, vwCl[11]? = some (M_X11_isNew.1.cls, T, k) := ⟨TX11, 58, rfl⟩
theorem mv_X11_findRichest : ∃ T k, vwCl[11]? = some (M_X11_findRichest.1.cls, T, k) := ⟨TX11, 58, rfl⟩
theorem mv_X11_richest : ∃ T k, vwCl[11]? = some (M_X11_richest.1.cls, T, k) := ⟨TX11, 58, rfl⟩
theorem mv_X11_byClock : ∃ T k, vwCl[11]? = some (M_X11_byClock.1.cls, T, k) := ⟨TX11, 58, rfl⟩
theorem mv_X11_spoilt : ∃ T k, vwCl[11]? = some (M_X11_spoilt.1.cls, T, k) := ⟨TX11, 58, rfl⟩
theorem mv_X11_come : ∃ T k, vwCl[11]? = some (M_X11_come.1.cls, T, k) := ⟨TX11, 58, rfl⟩
theorem mv_X11_layLeft : ∃ T k, vwCl[11]? = some (M_X11_layLeft.1.cls, T, k) := ⟨TX11, 58, rfl⟩
theorem mv_X11_chain : ∃ T k, vwCl[11]? = some (M_X11_chain.1.cls, T, k) := ⟨TX11, 58, rfl⟩
theorem mv_X11_hearAll : ∃ T k, vwCl[11]? = some (M_X11_hearAll.1.cls, T, k) := ⟨TX11, 58, rfl⟩
theorem mv_X11_ears : ∃ T k, vwCl[11]? = some (M_X11_ears.1.cls, T, k) := ⟨TX11, 58, rfl⟩
theorem mv_X11_heardBy : ∃ T k, vwCl[11]? = some (M_X11_heardBy.1.cls, T, k) := ⟨TX11, 58, rfl⟩
theorem mv_X11_loudest : ∃ T k, vwCl[11]? = some (M_X11_loudest.1.cls, T, k) := ⟨TX11, 58, rfl⟩
theorem mv_X11_nearest : ∃ T k, vwCl[11]? = some (M_X11_nearest.1.cls, T, k) := ⟨TX11, 58, rfl⟩
theorem mv_X11_heard : ∃ T k, vwCl[11]? = some (M_X11_heard.1.cls, T, k) := ⟨TX11, 58, rfl⟩
theorem mv_X11_forget : ∃ T k, vwCl[11]? = some (M_X11_forget.1.cls, T, k) := ⟨TX11, 58, rfl⟩
theorem mv_X11_thatCanBe : ∃ T k, vwCl[11]? = some (M_X11_thatCanBe.1.cls, T, k) := ⟨TX11, 58, rfl⟩
theorem mv_X11_canBe : ∃ T k, vwCl[11]? = some (M_X11_canBe.1.cls, T, k) := ⟨TX11, 58, rfl⟩
theorem mv_X11_listen : ∃ T k, vwCl[11]? = some (M_X11_listen.1.cls, T, k) := ⟨TX11, 58, rfl⟩
theorem mv_X11_few : ∃ T k, vwCl[11]? = some (M_X11_few.1.cls, T, k) := ⟨TX11, 58, rfl⟩
theorem mv_X11_compare : ∃ T k, vwCl[11]? = some (M_X11_compare.1.cls, T, k) := ⟨TX11, 58, rfl⟩
theorem mv_X11_readSum : ∃ T k, vwCl[11]? = some (M_X11_readSum.1.cls, T, k) := ⟨TX11, 58, rfl⟩
theorem mv_X11_readOrder : ∃ T k, vwCl[11]? = some (M_X11_readOrder.1.cls, T, k) := ⟨TX11, 58, rfl⟩
theorem mv_X11_sumOf : ∃ T k, vwCl[11]? = some (M_X11_sumOf.1.cls, T, k) := ⟨TX11, 58, rfl⟩
theorem mv_X11_act : ∃ T k, vwCl[11]? = some (M_X11_act.1.cls, T, k) := ⟨TX11, 58, rfl⟩
theorem mv_X11_run : ∃ T k, vwCl[11]? = some (M_X11_run.1.cls, T, k) := ⟨TX11, 58, rfl⟩
theorem mv_X11_orders : ∃ T k, vwCl[11]? = some (M_X11_orders.1.cls, T, k) := ⟨TX11, 58, rfl⟩
theorem mv_X11_giveBack : ∃ T k, vwCl[11]? = some (M_X11_giveBack.1.cls, T, k) := ⟨TX11, 58, rfl⟩
theorem mv_X11_stopped : ∃ T k, vwCl[11]? = some (M_X11_stopped.1.cls, T, k) := ⟨TX11, 58, rfl⟩
theorem mv_X11_draw : ∃ T k, vwCl[11]? = some (M_X11_draw.1.cls, T, k) := ⟨TX11, 58, rfl⟩
theorem mv_X11_mays : ∃ T k, vwCl[11]? = some (M_X11_mays.1.cls, T, k) := ⟨TX11, 58, rfl⟩
theorem mv_X11_drawn : ∃ T k, vwCl[11]? = some (M_X11_drawn.1.cls, T, k) := ⟨TX11, 58, rfl⟩
theorem mv_X11_count : ∃ T k, vwCl[11]? = some (M_X11_count.1.cls, T, k) := ⟨TX11, 58, rfl⟩
theorem mv_X11_status : ∃ T k, vwCl[11]? = some (M_X11_status.1.cls, T, k) := ⟨TX11, 58, rfl⟩
theorem bp_m6 : (Int8.ofInt (-6)).toInt32 = (-6 : Int32) := by decide
theorem bp_m5 : (Int8.ofInt (-5)).toInt32 = (-5 : Int32) := by decide
theorem bp_m3 : (Int8.ofInt (-3)).toInt32 = (-3 : Int32) := by decide
theorem bp_m2 : (Int8.ofInt (-2)).toInt32 = (-2 : Int32) := by decide
theorem bp_6 : (Int8.ofInt (6)).toInt32 = (6 : Int32) := by decide
theorem bp_7 : (Int8.ofInt (7)).toInt32 = (7 : Int32) := by decide
theorem bp_8 : (Int8.ofInt (8)).toInt32 = (8 : Int32) := by decide
theorem bp_9 : (Int8.ofInt (9)).toInt32 = (9 : Int32) := by decide
theorem bp_10 : (Int8.ofInt (10)).toInt32 = (10 : Int32) := by decide
theorem bp_11 : (Int8.ofInt (11)).toInt32 = (11 : Int32) := by decide
theorem bp_12 : (Int8.ofInt (12)).toInt32 = (12 : Int32) := by decide
theorem bp_14 : (Int8.ofInt (14)).toInt32 = (14 : Int32) := by decide
theorem bp_15 : (Int8.ofInt (15)).toInt32 = (15 : Int32) := by decide
theorem bp_16 : (Int8.ofInt (16)).toInt32 = (16 : Int32) := by decide
theorem bp_17 : (Int8.ofInt (17)).toInt32 = (17 : Int32) := by decide
theorem bp_18 : (Int8.ofInt (18)).toInt32 = (18 : Int32) := by decide
theorem bp_20 : (Int8.ofInt (20)).toInt32 = (20 : Int32) := by decide
theorem bp_21 : (Int8.ofInt (21)).toInt32 = (21 : Int32) := by decide
theorem bp_22 : (Int8.ofInt (22)).toInt32 = (22 : Int32) := by decide
theorem bp_23 : (Int8.ofInt (23)).toInt32 = (23 : Int32) := by decide
theorem bp_24 : (Int8.ofInt (24)).toInt32 = (24 : Int32) := by decide
theorem bp_25 : (Int8.ofInt (25)).toInt32 = (25 : Int32) := by decide
theorem bp_26 : (Int8.ofInt (26)).toInt32 = (26 : Int32) := by decide
theorem bp_27 : (Int8.ofInt (27)).toInt32 = (27 : Int32) := by decide
theorem bp_28 : (Int8.ofInt (28)).toInt32 = (28 : Int32) := by decide
theorem bp_29 : (Int8.ofInt (29)).toInt32 = (29 : Int32) := by decide
theorem bp_30 : (Int8.ofInt (30)).toInt32 = (30 : Int32) := by decide
theorem bp_31 : (Int8.ofInt (31)).toInt32 = (31 : Int32) := by decide
theorem bp_32 : (Int8.ofInt (32)).toInt32 = (32 : Int32) := by decide
theorem bp_37 : (Int8.ofInt (37)).toInt32 = (37 : Int32) := by decide
theorem bp_40 : (Int8.ofInt (40)).toInt32 = (40 : Int32) := by decide
theorem bp_41 : (Int8.ofInt (41)).toInt32 = (41 : Int32) := by decide
theorem bp_42 : (Int8.ofInt (42)).toInt32 = (42 : Int32) := by decide
theorem bp_43 : (Int8.ofInt (43)).toInt32 = (43 : Int32) := by decide
theorem bp_45 : (Int8.ofInt (45)).toInt32 = (45 : Int32) := by decide
theorem bp_47 : (Int8.ofInt (47)).toInt32 = (47 : Int32) := by decide
theorem bp_48 : (Int8.ofInt (48)).toInt32 = (48 : Int32) := by decide
theorem bp_50 : (Int8.ofInt (50)).toInt32 = (50 : Int32) := by decide
theorem bp_57 : (Int8.ofInt (57)).toInt32 = (57 : Int32) := by decide
theorem bp_59 : (Int8.ofInt (59)).toInt32 = (59 : Int32) := by decide
theorem bp_60 : (Int8.ofInt (60)).toInt32 = (60 : Int32) := by decide
theorem bp_61 : (Int8.ofInt (61)).toInt32 = (61 : Int32) := by decide
theorem bp_62 : (Int8.ofInt (62)).toInt32 = (62 : Int32) := by decide
theorem bp_63 : (Int8.ofInt (63)).toInt32 = (63 : Int32) := by decide
theorem bp_72 : (Int8.ofInt (72)).toInt32 = (72 : Int32) := by decide
theorem bp_78 : (Int8.ofInt (78)).toInt32 = (78 : Int32) := by decide
theorem bp_84 : (Int8.ofInt (84)).toInt32 = (84 : Int32) := by decide
theorem bp_90 : (Int8.ofInt (90)).toInt32 = (90 : Int32) := by decide
theorem bp_91 : (Int8.ofInt (91)).toInt32 = (91 : Int32) := by decide
theorem bp_93 : (Int8.ofInt (93)).toInt32 = (93 : Int32) := by decide
theorem bp_97 : (Int8.ofInt (97)).toInt32 = (97 : Int32) := by decide
theorem bp_98 : (Int8.ofInt (98)).toInt32 = (98 : Int32) := by decide
theorem bp_122 : (Int8.ofInt (122)).toInt32 = (122 : Int32) := by decide
theorem ic_m8 : Int32.ofInt (-8) = (-8 : Int32) := by decide
theorem ic_m1 : Int32.ofInt (-1) = (-1 : Int32) := by decide
theorem ic_0 : Int32.ofInt (0) = (0 : Int32) := by decide
theorem ic_1 : Int32.ofInt (1) = (1 : Int32) := by decide
theorem ic_2 : Int32.ofInt (2) = (2 : Int32) := by decide
theorem ic_3 : Int32.ofInt (3) = (3 : Int32) := by decide
theorem ic_4 : Int32.ofInt (4) = (4 : Int32) := by decide
theorem ic_5 : Int32.ofInt (5) = (5 : Int32) := by decide
theorem ic_8 : Int32.ofInt (8) = (8 : Int32) := by decide
theorem lc_0 : Int64.ofNat ((0 : Fin 2) : Nat) = (0 : Int64) := by decide
theorem lc_1 : Int64.ofNat ((1 : Fin 2) : Nat) = (1 : Int64) := by decide
theorem sp_128 : (Int16.ofInt (128)).toInt32 = (128 : Int32) := by decide
theorem sp_255 : (Int16.ofInt (255)).toInt32 = (255 : Int32) := by decide
theorem sp_256 : (Int16.ofInt (256)).toInt32 = (256 : Int32) := by decide
theorem sp_257 : (Int16.ofInt (257)).toInt32 = (257 : Int32) := by decide
theorem sp_258 : (Int16.ofInt (258)).toInt32 = (258 : Int32) := by decide
theorem sp_260 : (Int16.ofInt (260)).toInt32 = (260 : Int32) := by decide
theorem sp_261 : (Int16.ofInt (261)).toInt32 = (261 : Int32) := by decide
theorem sp_262 : (Int16.ofInt (262)).toInt32 = (262 : Int32) := by decide
theorem sp_263 : (Int16.ofInt (263)).toInt32 = (263 : Int32) := by decide
theorem sp_264 : (Int16.ofInt (264)).toInt32 = (264 : Int32) := by decide
theorem sp_265 : (Int16.ofInt (265)).toInt32 = (265 : Int32) := by decide
theorem sp_266 : (Int16.ofInt (266)).toInt32 = (266 : Int32) := by decide
theorem sp_267 : (Int16.ofInt (267)).toInt32 = (267 : Int32) := by decide
theorem sp_268 : (Int16.ofInt (268)).toInt32 = (268 : Int32) := by decide
theorem sp_269 : (Int16.ofInt (269)).toInt32 = (269 : Int32) := by decide
theorem sp_270 : (Int16.ofInt (270)).toInt32 = (270 : Int32) := by decide
theorem sp_271 : (Int16.ofInt (271)).toInt32 = (271 : Int32) := by decide
theorem sp_276 : (Int16.ofInt (276)).toInt32 = (276 : Int32) := by decide
theorem sp_277 : (Int16.ofInt (277)).toInt32 = (277 : Int32) := by decide
theorem sp_278 : (Int16.ofInt (278)).toInt32 = (278 : Int32) := by decide
theorem sp_279 : (Int16.ofInt (279)).toInt32 = (279 : Int32) := by decide
theorem sp_280 : (Int16.ofInt (280)).toInt32 = (280 : Int32) := by decide
theorem sp_281 : (Int16.ofInt (281)).toInt32 = (281 : Int32) := by decide
theorem sp_282 : (Int16.ofInt (282)).toInt32 = (282 : Int32) := by decide
theorem sp_283 : (Int16.ofInt (283)).toInt32 = (283 : Int32) := by decide
theorem sp_284 : (Int16.ofInt (284)).toInt32 = (284 : Int32) := by decide
theorem sp_285 : (Int16.ofInt (285)).toInt32 = (285 : Int32) := by decide
theorem sp_288 : (Int16.ofInt (288)).toInt32 = (288 : Int32) := by decide
theorem sp_400 : (Int16.ofInt (400)).toInt32 = (400 : Int32) := by decide
theorem sp_900 : (Int16.ofInt (900)).toInt32 = (900 : Int32) := by decide
theorem sp_999 : (Int16.ofInt (999)).toInt32 = (999 : Int32) := by decide
theorem sp_1000 : (Int16.ofInt (1000)).toInt32 = (1000 : Int32) := by decide
theorem sp_1001 : (Int16.ofInt (1001)).toInt32 = (1001 : Int32) := by decide
theorem sp_1023 : (Int16.ofInt (1023)).toInt32 = (1023 : Int32) := by decide
theorem sp_1103 : (Int16.ofInt (1103)).toInt32 = (1103 : Int32) := by decide
theorem sp_5490 : (Int16.ofInt (5490)).toInt32 = (5490 : Int32) := by decide
theorem sp_12345 : (Int16.ofInt (12345)).toInt32 = (12345 : Int32) := by decide

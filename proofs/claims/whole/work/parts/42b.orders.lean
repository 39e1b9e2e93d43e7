/-! what orders are told, on both sides -/
def eI (r : Nat → Int32) (nb nm : Nat) (d l : Int32) (k : Nat) : Int32 := if k = 6 then r 9 else if k = 7 then r 5 else if k = 9 then d else if k = 10 then l else if k = 11 then on7 (bits nb (fun b => ! awS r b)) else if k < 18 then (if k - 12 < nm then r (17 + (k - 12)) else -1) else (if k - 18 < nb then r (10 + (k - 18)) else -1)
def eOr (r : Nat → Int32) (nb nm : Nat) (d l : Int32) : Nat → Int64 := fun k => Int32.toInt64 (eI r nb nm d l k)
def usO (k : Nat) : Prop := k = 6 ∨ k = 7 ∨ 9 ≤ k ∧ k < 25
def LoT (d : DD) : Prop := ∀ e e' : Nat → Int64, (∀ k, usO k → e k = e' k) → d e = d e'
theorem LoT.bin {op : Nat} {d1 d2 : DD} (a : LoT d1) (b : LoT d2) : LoT (binD op d1 d2) := fun e e' h => by
  unfold binD
  rw [a e e' h, b e e' h]
theorem SumM.loT {c a : Nat → Int32} : ∀ {n i j : Nat} {d : DD} {L : Nat}, SumM true c a n i j d L → LoT d
  | 0, _, _, _, _, h => absurd h (by simp [SumM])
  | n + 1, i, j, d, L, h => by
    rcases h with ⟨-, -, ⟨-, rfl⟩ | ⟨k, hk, rfl⟩⟩ | ⟨m, j', d1, d2, L1, L2, op, h1, h2, -, -, -, -, rfl, -⟩
    · exact fun _ _ _ => rfl
    · have u : usO k := by
        unfold usO
        rcases hk with ⟨h, -⟩ | ⟨h, -⟩ | ⟨h, -⟩ | ⟨h, -⟩ | ⟨h, -⟩ | ⟨b, hb, h, -⟩ | ⟨b, hb, h, -⟩ <;> omega
      exact fun e e' h => congrArg some (h k u)
    · exact h1.loT.bin h2.loT
theorem TstM.loT {c a : Nat → Int32} : ∀ {n i j : Nat} {d : DD} {L : Nat}, TstM true c a n i j d L → LoT d
  | 0, _, _, _, _, h => absurd h (by simp [TstM])
  | n + 1, i, j, d, L, h => by
    rcases h with ⟨m, j', d1, d2, L1, L2, op, h1, h2, -, -, -, -, rfl, -⟩ | ⟨j', d1, h1, -, -, rfl⟩ | ⟨m, d1, d2, L1, L2, h1, h2, -, -, rfl, -⟩ | ⟨m, d1, d2, L1, L2, h1, h2, -, -, rfl, -⟩
    · exact h1.loT.bin h2.loT
    · have a := h1.loT
      exact fun e e' h => by unfold notD; rw [a e e' h]
    · have a := h1.loT
      have b := h2.loT
      exact fun e e' h => by unfold andD; rw [a e e' h, b e e' h]
    · have a := h1.loT
      have b := h2.loT
      exact fun e e' h => by unfold orD; rw [a e e' h, b e e' h]
theorem CdM.loT {c a : Nat → Int32} {i j : Nat} {d : DD} {L : Nat} (k : CdM true c a i j d L) : LoT d := by
  rcases k with ⟨N, k⟩ | ⟨N, k⟩
  · exact k.loT
  · exact k.loT
theorem q_tell75 {r : Nat → Int32} {nm : Nat} (hm : nm ≤ 6) : ∀ (d k fu : Nat) (h : AH), k + d = 6 → d < fu → h.2.1 2 4 = nI nm → (∀ j, j < 6 → h.2.1 5 j = r (17 + j)) → ∃ h', f_X10_tellOrders_l75 S_1 fu 0 33 (nI k) h = some ((0, 33), h') ∧ Eqv P33 h h' ∧ (∀ j, j < 12 + k ∨ 18 ≤ j → h'.2.1 33 j = h.2.1 33 j) ∧ ∀ j, k ≤ j → j < 6 → h'.2.1 33 (12 + j) = if j < nm then r (17 + j) else -1
  | 0, k, fu, h, hk, hf, e2, e5 => by
    obtain ⟨fu, rfl⟩ : ∃ x, fu = x + 1 := ⟨fu - 1, by omega⟩
    refine ⟨h, ?_, Eqv.refl h, fun _ _ => rfl, fun j h1 h2 => by omega⟩
    rw [f_X10_tellOrders_l75]
    unfold f_X10_tellOrders_l75b
    rw [if_pos (by rw [show (6 : Int32) = nI 6 from rfl, nn_le (by omega) (by omega)]; omega)]
  | d + 1, k, fu, h, hk, hf, e2, e5 => by
    obtain ⟨fu, rfl⟩ : ∃ x, fu = x + 1 := ⟨fu - 1, by omega⟩
    have st : ∀ v : Int32, (v = if k < nm then r (17 + k) else -1) → ∃ h', f_X10_tellOrders_l75 S_1 fu 0 33 (nI (k + 1)) (stI h 33 (12 + k) v) = some ((0, 33), h') ∧ Eqv P33 h h' ∧ (∀ j, j < 12 + k ∨ 18 ≤ j → h'.2.1 33 j = h.2.1 33 j) ∧ ∀ j, k ≤ j → j < 6 → h'.2.1 33 (12 + j) = if j < nm then r (17 + j) else -1 := fun v hv => by
      obtain ⟨h', r', e', o, q⟩ := q_tell75 hm d (k + 1) fu (stI h 33 (12 + k) v) (by omega) (by omega) ((ri_p (by decide)).trans e2) fun j hj => (ri_p (by decide)).trans (e5 j hj)
      refine ⟨h', r', ((Eqv.refl h).si (decide_eq_true rfl)).trans e', fun j hj => (o j (by omega)).trans (ri_k (by omega)), fun j h1 h2 => ?_⟩
      by_cases ej : j = k
      · rw [ej, o _ (by omega), stI_s]
        exact hv
      · exact q j (by omega) h2
    rw [f_X10_tellOrders_l75]
    unfold f_X10_tellOrders_l75b
    rw [if_neg (by rw [show (6 : Int32) = nI 6 from rfl, nn_le (by omega) (by omega)]; omega), bs_ (yr_0_2 h), bs_ (yi_2 h 4), e2, show (12 : Int32) + nI k = nI (12 + k) by rw [show (12 : Int32) = nI 12 from rfl, nI_add]]
    by_cases c : k < nm
    · obtain ⟨h', r', x⟩ := st (r (17 + k)) (by rw [if_pos c])
      refine ⟨h', ?_, x⟩
      rw [if_neg (by rw [nn_le (by omega) (by omega)]; omega), bs_ (yr_0_2 h), bs_ (yr_2_0 h), bs_ (yr_3_1 h), bs_ (ai_5 h (by omega)), e5 k (by omega), bs_ (si_33 h _ (by omega)), lt_e, nI_1]
      exact r'
    · obtain ⟨h', r', x⟩ := st (-1) (by rw [if_neg c])
      refine ⟨h', ?_, x⟩
      rw [if_pos (by rw [nn_le (by omega) (by omega)]; omega), bs_ (si_33 h _ (by omega)), lt_e, nI_1]
      exact r'
theorem q_tell122 {r : Nat → Int32} {nb : Nat} (hb : nb ≤ 7) : ∀ (d k fu : Nat) (h : AH), k + d = 7 → d < fu → h.2.1 2 1 = nI nb → (∀ j, j < 7 → h.2.1 4 j = r (10 + j)) → ∃ h', f_X10_tellOrders_l122 S_1 fu 0 33 (nI k) h = some ((), h') ∧ Eqv P33 h h' ∧ (∀ j, j < 18 + k ∨ 25 ≤ j → h'.2.1 33 j = h.2.1 33 j) ∧ ∀ j, k ≤ j → j < 7 → h'.2.1 33 (18 + j) = if j < nb then r (10 + j) else -1
  | 0, k, fu, h, hk, hf, e2, e5 => by
    obtain ⟨fu, rfl⟩ : ∃ x, fu = x + 1 := ⟨fu - 1, by omega⟩
    refine ⟨h, ?_, Eqv.refl h, fun _ _ => rfl, fun j h1 h2 => by omega⟩
    rw [f_X10_tellOrders_l122]
    unfold f_X10_tellOrders_l122b
    rw [if_pos (by rw [show (7 : Int32) = nI 7 from rfl, nn_le (by omega) (by omega)]; omega)]
  | d + 1, k, fu, h, hk, hf, e2, e5 => by
    obtain ⟨fu, rfl⟩ : ∃ x, fu = x + 1 := ⟨fu - 1, by omega⟩
    have st : ∀ v : Int32, (v = if k < nb then r (10 + k) else -1) → ∃ h', f_X10_tellOrders_l122 S_1 fu 0 33 (nI (k + 1)) (stI h 33 (18 + k) v) = some ((), h') ∧ Eqv P33 h h' ∧ (∀ j, j < 18 + k ∨ 25 ≤ j → h'.2.1 33 j = h.2.1 33 j) ∧ ∀ j, k ≤ j → j < 7 → h'.2.1 33 (18 + j) = if j < nb then r (10 + j) else -1 := fun v hv => by
      obtain ⟨h', r', e', o, q⟩ := q_tell122 hb d (k + 1) fu (stI h 33 (18 + k) v) (by omega) (by omega) ((ri_p (by decide)).trans e2) fun j hj => (ri_p (by decide)).trans (e5 j hj)
      refine ⟨h', r', ((Eqv.refl h).si (decide_eq_true rfl)).trans e', fun j hj => (o j (by omega)).trans (ri_k (by omega)), fun j h1 h2 => ?_⟩
      by_cases ej : j = k
      · rw [ej, o _ (by omega), stI_s]
        exact hv
      · exact q j (by omega) h2
    rw [f_X10_tellOrders_l122]
    unfold f_X10_tellOrders_l122b
    rw [if_neg (by rw [show (7 : Int32) = nI 7 from rfl, nn_le (by omega) (by omega)]; omega), bs_ (yr_0_2 h), bs_ (yi_2 h 1), e2, show (18 : Int32) + nI k = nI (18 + k) by rw [show (18 : Int32) = nI 18 from rfl, nI_add]]
    by_cases c : k < nb
    · obtain ⟨h', r', x⟩ := st (r (10 + k)) (by rw [if_pos c])
      refine ⟨h', ?_, x⟩
      rw [if_neg (by rw [nn_le (by omega) (by omega)]; omega), bs_ (yr_0_2 h), bs_ (yr_2_0 h), bs_ (yr_3_0 h), bs_ (ai_4 h (by omega)), e5 k (by omega), bs_ (si_33 h _ (by omega)), lt_e, nI_1]
      exact r'
    · obtain ⟨h', r', x⟩ := st (-1) (by rw [if_neg c])
      refine ⟨h', ?_, x⟩
      rw [if_pos (by rw [nn_le (by omega) (by omega)]; omega), bs_ (si_33 h _ (by omega)), lt_e, nI_1]
      exact r'
theorem StX.p33 {h h' : AH} {r : Nat → Int32} (k : StX h 3 r) (e : Eqv P33 h h') : StX h' 3 r := k.rows (e.row fun j => rfl) (e.row fun j => rfl) (e.row fun j => rfl)
theorem RoX.p33 {h h' : AH} {r : Nat → Int32} (k : RoX h 2 r) (e : Eqv P33 h h') : RoX h' 2 r := k.rows fun d hd hd2 => e.row fun j => decide_eq_false (by omega)
theorem q_tellO {h : AH} {r : Nat → Int32} {p n nb nm : Nat} {f : Nat → Cl} (ct : Ct h 3 r p n f nb nm) : ∃ h', f_X10_tellOrders S_1 0 h = some ((), h') ∧ Eqv P33 h h' ∧ ∀ k, usO k → EV h' k = eOr r nb nm (h.2.1 0 18) (h.2.1 0 19) k := by
  obtain ⟨-, sx, rx, -, -, rn, hb, rm, hm⟩ := id ct
  obtain ⟨h4, hh4⟩ : ∃ h4, h4 = stI (stI (stI (stI h 33 7 (r 5)) 33 6 (r 9)) 33 9 (h.2.1 0 18)) 33 10 (h.2.1 0 19) := ⟨_, rfl⟩
  have e4 : Eqv P33 h h4 := by
    rw [hh4]
    exact ((((Eqv.refl h).si (by rfl)).si (by rfl)).si (by rfl)).si (by rfl)
  have pr := q_present h4 (Or.inl rfl) (sx.p33 e4) (rx.p33 e4) rn hb
  obtain ⟨h5, hh5⟩ : ∃ h5, h5 = stI h4 33 11 (on7 (bits nb (fun b => ! awS r b))) := ⟨_, rfl⟩
  have e5 : Eqv P33 h h5 := by rw [hh5]; exact e4.si (by rfl)
  have s5 := sx.p33 e5
  have r5 := rx.p33 e5
  obtain ⟨h6, q6, e6, o6, v6⟩ := q_tell75 (r := r) hm 6 0 FU h5 rfl (by unfold FU; omega) (r5.1.2.1.trans rm) s5.2.1
  have e56 := e5.trans e6
  have s6 := sx.p33 e56
  have r6 := rx.p33 e56
  obtain ⟨h7, q7, e7, o7, v7⟩ := q_tell122 (r := r) hb 7 0 FU h6 rfl (by unfold FU; omega) (r6.1.1.trans rn) s6.1
  refine ⟨h7, ?_, e56.trans e7, fun k hk => ?_⟩
  · unfold f_X10_tellOrders
    rw [bs_ (yr_0_9 h), bs_ (yr_32_0 h), bs_ (yr_0_2 h), bs_ (yr_2_0 h), bs_ (yi_3 h 3), sx.2.2.2, bs_ (show sI S_1 h 33 (7 : Int32) (r 5) = some (stI h 33 7 (r 5)) from si_33 (j := 7) h _ (by decide))]
    rw [bs_ (yr_0_2 _), bs_ (yr_2_0 _), bs_ (yi_3 _ 2), ri_p (by decide), sx.2.2.1, bs_ (show sI S_1 (stI h 33 7 (r 5)) 33 (6 : Int32) (r 9) = some (stI (stI h 33 7 (r 5)) 33 6 (r 9)) from si_33 (j := 6) _ _ (by decide))]
    rw [bs_ (yi_0 _ 18), ri_p (by decide), ri_p (by decide), bs_ (show sI S_1 (stI (stI h 33 7 (r 5)) 33 6 (r 9)) 33 (9 : Int32) (h.2.1 0 18) = some (stI (stI (stI h 33 7 (r 5)) 33 6 (r 9)) 33 9 (h.2.1 0 18)) from si_33 (j := 9) _ _ (by decide))]
    rw [bs_ (yi_0 _ 19), ri_p (by decide), ri_p (by decide), ri_p (by decide), bs_ (show sI S_1 (stI (stI (stI h 33 7 (r 5)) 33 6 (r 9)) 33 9 (h.2.1 0 18)) 33 (10 : Int32) (h.2.1 0 19) = some (stI (stI (stI (stI h 33 7 (r 5)) 33 6 (r 9)) 33 9 (h.2.1 0 18)) 33 10 (h.2.1 0 19)) from si_33 (j := 10) _ _ (by decide)), ← hh4]
    rw [bs_ (yr_0_10 h4), bs_ (yr_0_2 h4), bs_ (yr_2_0 h4), bs_ (ck_35 h4), bs_ pr]
    dsimp only
    rw [bs_ (q_bits S_1 h4 hb _)]
    dsimp only
    rw [bs_ (show sI S_1 h4 33 (11 : Int32) (on7 (bits nb (fun b => ! awS r b))) = some (stI h4 33 11 (on7 (bits nb (fun b => ! awS r b)))) from si_33 (j := 11) _ _ (by decide)), ← hh5, bs_ (show f_X10_tellOrders_l75 S_1 FU 0 33 (0 : Int32) h5 = _ from q6)]
    dsimp only
    rw [bs_ (show f_X10_tellOrders_l122 S_1 FU 0 33 (0 : Int32) h6 = _ from q7)]
  · unfold EV eOr
    congr 1
    have lo : ∀ j, j < 12 → h7.2.1 33 j = h5.2.1 33 j := fun j hj => (o7 j (by omega)).trans (o6 j (by omega))
    unfold usO at hk
    unfold eI
    by_cases k6 : k = 6
    · rw [if_pos k6, k6, lo 6 (by decide), hh5, ri_k (by decide), hh4, ri_k (by decide), ri_k (by decide), stI_s]
    · rw [if_neg k6]
      by_cases k7 : k = 7
      · rw [if_pos k7, k7, lo 7 (by decide), hh5, ri_k (by decide), hh4, ri_k (by decide), ri_k (by decide), ri_k (by decide), stI_s]
      · rw [if_neg k7]
        by_cases k9 : k = 9
        · rw [if_pos k9, k9, lo 9 (by decide), hh5, ri_k (by decide), hh4, ri_k (by decide), stI_s]
        · rw [if_neg k9]
          by_cases k10 : k = 10
          · rw [if_pos k10, k10, lo 10 (by decide), hh5, ri_k (by decide), hh4, stI_s]
          · rw [if_neg k10]
            by_cases k11 : k = 11
            · rw [if_pos k11, k11, lo 11 (by decide), hh5, stI_s]
            · rw [if_neg k11]
              by_cases k18 : k < 18
              · obtain ⟨j, rfl⟩ : ∃ j, k = 12 + j := ⟨k - 12, by omega⟩
                rw [if_pos k18, o7 _ (by omega), v6 j (by omega) (by omega), show 12 + j - 12 = j by omega]
              · obtain ⟨j, rfl⟩ : ∃ j, k = 18 + j := ⟨k - 18, by omega⟩
                rw [if_neg k18, v7 j (by omega) (by omega), show 18 + j - 18 = j by omega]
/-- the head of run on the other side: what is told -/
def P99 (p j : Nat) : Bool := decide (p = 99 ∨ p = 80 ∧ j = 53)
def runH (h : AH) (G : AH → Option (Int32 × AH)) : Option (Int32 × AH) :=
  (gR S_1 h 80 11 36).bind fun p_1 =>
  (gR S_1 h 80 11 3).bind fun p_3 =>
  (aI S_1 h p_3 (5 : Int32)).bind fun v_5 =>
  (sJ S_1 h p_1 (1 : Int32) (Int32.toInt64 v_5)).bind fun h_7 =>
  (gR S_1 h_7 80 11 36).bind fun p_9 =>
  (gI S_1 h_7 80 11 50).bind fun v_11 =>
  (sJ S_1 h_7 p_9 (2 : Int32) (Int32.toInt64 v_11)).bind fun h_13 =>
  (gR S_1 h_13 80 11 36).bind fun p_15 =>
  (gI S_1 h_13 80 11 51).bind fun v_17 =>
  (sJ S_1 h_13 p_15 (3 : Int32) (Int32.toInt64 v_17)).bind fun h_19 =>
  (gR S_1 h_19 80 11 36).bind fun p_21 =>
  (gR S_1 h_19 80 11 3).bind fun p_23 =>
  (aI S_1 h_19 p_23 (9 : Int32)).bind fun v_25 =>
  (sJ S_1 h_19 p_21 (4 : Int32) (Int32.toInt64 v_25)).bind fun h_27 =>
  (gR S_1 h_27 80 11 36).bind fun p_29 =>
  (ckO S_1 h_27 80 11).bind fun _ =>
  (f_X11_present S_1 80 h_27).bind fun z => match z with
  | (z_33, h_32) =>
  (f_X11_ones S_1 z_33 h_32).bind fun z => match z with
  | (z_35, h_34) =>
  (sJ S_1 h_34 p_29 (5 : Int32) (Int32.toInt64 z_35)).bind fun h_36 =>
  (pZ S_1 h_36 80 11 53 (0 : Int32)).bind fun h_38 => G h_38
theorem m_runH {h : AH} {r : Nat → Int32} {n nb nm : Nat} {f : Nat → Cl} (cm : CM h n f nb nm) (er : h.2.1 82 = r) : ∃ h', (∀ G, runH h G = G h') ∧ Eqv P99 h h' ∧ h'.2.1 80 53 = 0 ∧ EnvM true h' (eOr r nb nm (h.2.1 80 50) (h.2.1 80 51)) := by
  obtain ⟨-, -, rn, hb, rm, hm⟩ := id cm
  have k99 : ∀ g : AH, KD S_1 g 99 = some (2, 13) := fun g => KD_99 g
  obtain ⟨h4, hh4⟩ : ∃ h4, h4 = stJ (stJ (stJ (stJ h 99 1 (Int32.toInt64 (r 5))) 99 2 (Int32.toInt64 (h.2.1 80 50))) 99 3 (Int32.toInt64 (h.2.1 80 51))) 99 4 (Int32.toInt64 (r 9)) := ⟨_, rfl⟩
  have i4 : h4.2.1 = h.2.1 := by rw [hh4]; rfl
  have pr := m_present h4 (n := nb) (by rw [i4]; exact rn) hb
  rw [i4, er] at pr
  obtain ⟨h5, hh5⟩ : ∃ h5, h5 = stI (stJ h4 99 5 (Int32.toInt64 (on7 (bits nb (fun b => ! awS r b))))) 80 53 0 := ⟨_, rfl⟩
  have o5 : ∀ p j, ¬ (p = 80 ∧ j = 53) → h5.2.1 p j = h.2.1 p j := fun p j hj => by
    rw [hh5, st_o hj]
    show h4.2.1 p j = _
    rw [i4]
  have l5 : ∀ j, h5.2.2.1 99 j = (stJ h4 99 5 (Int32.toInt64 (on7 (bits nb (fun b => ! awS r b))))).2.2.1 99 j := fun j => by rw [hh5]; rfl
  refine ⟨h5, fun G => ?_, ?_, by rw [hh5, stI_s], ?_, ?_, ?_, ?_, ?_, ⟨nb, hb, (o5 _ _ (by decide)).trans rn, fun b hb' => ?_⟩, nm, hm, (o5 _ _ (by decide)).trans rm, fun m hm' => ?_⟩
  · unfold runH
    rw [bs_ (yr_80_36 h), bs_ (yr_80_3 h), bs_ (show aI S_1 h 82 (5 : Int32) = some (h.2.1 82 5) from ai_82 (j := 5) _ (by decide)), er, bs_ (show sJ S_1 h 99 (1 : Int32) (Int32.toInt64 (r 5)) = some (stJ h 99 1 (Int32.toInt64 (r 5))) from sJ_q (j := 1) (k99 h) (by decide) (by decide))]
    rw [bs_ (yr_80_36 _), bs_ (gi80 _ 50), rj_i, bs_ (show sJ S_1 (stJ h 99 1 (Int32.toInt64 (r 5))) 99 (2 : Int32) (Int32.toInt64 (h.2.1 80 50)) = some (stJ (stJ h 99 1 (Int32.toInt64 (r 5))) 99 2 (Int32.toInt64 (h.2.1 80 50))) from sJ_q (j := 2) (k99 _) (by decide) (by decide))]
    rw [bs_ (yr_80_36 _), bs_ (gi80 _ 51), rj_i, rj_i, bs_ (show sJ S_1 (stJ (stJ h 99 1 (Int32.toInt64 (r 5))) 99 2 (Int32.toInt64 (h.2.1 80 50))) 99 (3 : Int32) (Int32.toInt64 (h.2.1 80 51)) = some (stJ (stJ (stJ h 99 1 (Int32.toInt64 (r 5))) 99 2 (Int32.toInt64 (h.2.1 80 50))) 99 3 (Int32.toInt64 (h.2.1 80 51))) from sJ_q (j := 3) (k99 _) (by decide) (by decide))]
    obtain ⟨g, hg⟩ : ∃ g, g = stJ (stJ (stJ h 99 1 (Int32.toInt64 (r 5))) 99 2 (Int32.toInt64 (h.2.1 80 50))) 99 3 (Int32.toInt64 (h.2.1 80 51)) := ⟨_, rfl⟩
    have gi : g.2.1 82 9 = r 9 := by
      rw [hg]
      show h.2.1 82 9 = r 9
      rw [er]
    rw [← hg] at hh4 ⊢
    rw [bs_ (yr_80_36 g), bs_ (yr_80_3 g), bs_ (show aI S_1 g 82 (9 : Int32) = some (g.2.1 82 9) from ai_82 (j := 9) _ (by decide)), gi, bs_ (show sJ S_1 g 99 (4 : Int32) (Int32.toInt64 (r 9)) = some (stJ g 99 4 (Int32.toInt64 (r 9))) from sJ_q (j := 4) (k99 _) (by decide) (by decide)), ← hh4, bs_ (yr_80_36 h4), bs_ (ck_80 h4), bs_ pr]
    dsimp only
    rw [bs_ (x_ones S_1 _ h4)]
    dsimp only
    rw [bs_ (show sJ S_1 h4 99 (5 : Int32) (Int32.toInt64 (on7 (bits nb (fun b => ! awS r b)))) = some (stJ h4 99 5 (Int32.toInt64 (on7 (bits nb (fun b => ! awS r b))))) from sJ_q (j := 5) (k99 _) (by decide) (by decide)), bs_ (show pZ S_1 (stJ h4 99 5 (Int32.toInt64 (on7 (bits nb (fun b => ! awS r b))))) 80 11 53 (0 : Int32) = some (stI (stJ h4 99 5 (Int32.toInt64 (on7 (bits nb (fun b => ! awS r b))))) 80 53 0) from rfl), ← hh5]
  · rw [hh5, hh4]
    exact ((((((Eqv.refl h).sj (by rfl)).sj (by rfl)).sj (by rfl)).sj (by rfl)).sj (by rfl)).si (by rfl)
  · rw [l5, rj_k (by decide), hh4, rj_k (by decide), rj_k (by decide), rj_k (by decide), stJ_s]
    rfl
  · rw [l5, rj_k (by decide), hh4, rj_k (by decide), rj_k (by decide), stJ_s]
    rfl
  · rw [l5, rj_k (by decide), hh4, rj_k (by decide), stJ_s]
    rfl
  · rw [l5, rj_k (by decide), hh4, stJ_s]
    rfl
  · rw [l5, stJ_s]
    rfl
  · show Int32.toInt64 (eI r nb nm _ _ (18 + b)) = _
    unfold eI
    rw [if_neg (by omega), if_neg (by omega), if_neg (by omega), if_neg (by omega), if_neg (by omega), if_neg (by omega), show 18 + b - 18 = b by omega]
    by_cases c : b < nb
    · rw [if_pos c, if_pos c, o5 _ _ (by omega), er]
    · rw [if_neg c, if_neg c]
      rfl
  · show Int32.toInt64 (eI r nb nm _ _ (12 + m)) = _
    unfold eI
    rw [if_neg (by omega), if_neg (by omega), if_neg (by omega), if_neg (by omega), if_neg (by omega), if_pos (by omega), show 12 + m - 12 = m by omega]
    by_cases c : m < nm
    · rw [if_pos c, if_pos c, o5 _ _ (by omega), er]
    · rw [if_neg c, if_neg c]
      rfl

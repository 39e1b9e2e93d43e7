/-! one turn of one order, on both sides -/
def PSn (p j : Nat) : Bool := decide (p = 100 ∨ p = 80 ∧ (j = 38 ∨ j = 39 ∨ j = 53))
theorem PA_n (p j : Nat) (h : PA p j = true) : PSn p j = true := by
  have h := of_decide_eq_true h
  exact decide_eq_true (by omega)
theorem P4_X (p j : Nat) (h : P4 p j = true) : PX p j = true := by
  have h := of_decide_eq_true h
  exact decide_eq_true (by omega)
/-- what is reckoned on the other side for orders, its sign off put down -/
theorem m_sumOf {h : AH} {q i j L : Nat} {d : DD} {e : Nat → Int64} (hq : q + 1 < 96) (h20 : h.2.1 80 20 = 0) (h53 : h.2.1 80 53 = 0) (v1 : h.2.1 108 q = nI i) (v2 : h.2.1 108 (q + 1) = nI j) (H : CdM true (h.2.1 91) (h.2.1 92) i j d L) (hL : L < 400) (hj : j ≤ 400) (he : EnvM true h e) : ∃ h' z, f_X11_sumOf S_1 80 (nI q) h = some (z, h') ∧ Eqv PSn h h' ∧ match d e with
    | some v => z = Int64.toInt32 v ∧ h'.2.1 80 53 = 0
    | none => h'.2.1 80 53 = 1 := by
  have lt := H.lt
  obtain ⟨h1, hh1⟩ : ∃ h1, h1 = stI h 80 20 1 := ⟨_, rfl⟩
  have o1 : ∀ p j, ¬ (p = 80 ∧ j = 20) → h1.2.1 p j = h.2.1 p j := fun p j hj => by rw [hh1]; exact st_o hj
  have c91 : h1.2.1 91 = h.2.1 91 := funext fun j => o1 91 j (by omega)
  have c92 : h1.2.1 92 = h.2.1 92 := funext fun j => o1 92 j (by omega)
  have cm : CodeM true h1 j (h.2.1 91) (h.2.1 92) := ⟨hj, by rw [hh1, stI_s], fun k _ => ⟨by rw [c91], by rw [c92]⟩⟩
  have em : EnvM true h1 e := by
    obtain ⟨a1, a2, a3, a4, a5, ⟨n, b1, b2, b3⟩, m, b4, b5, b6⟩ := he
    have l1 : h1.2.2.1 = h.2.2.1 := by rw [hh1]; rfl
    have r82 : h1.2.1 82 = h.2.1 82 := funext fun j => o1 82 j (by omega)
    refine ⟨by rw [l1]; exact a1, by rw [l1]; exact a2, by rw [l1]; exact a3, by rw [l1]; exact a4, by rw [l1]; exact a5, ⟨n, b1, by rw [r82]; exact b2, by rw [r82]; exact b3⟩, m, b4, by rw [r82]; exact b5, by rw [r82]; exact b6⟩
  obtain ⟨h2, r2, e2, w2⟩ := m_reckonAll H h1 e cm em hL
  obtain ⟨h3, hh3⟩ : ∃ h3, h3 = stI (stI h2 80 20 0) 80 53 (h2.2.1 80 38) := ⟨_, rfl⟩
  have v38 : h2.2.1 80 38 = 0 ∨ h2.2.1 80 38 = 1 := by
    revert w2
    cases d e with
    | none => exact fun w => Or.inr w
    | some v => exact fun w => Or.inl w.1
  have E : Eqv PSn h h3 := by
    have a : Eqv (fun p j => PSn p j || decide (p = 80 ∧ j = 20)) h h3 := by
      rw [hh3]
      refine Eqv.si (Eqv.si (Eqv.trans ?_ (e2.mono fun p j z => ?_)) (by rfl)) (by rfl)
      · rw [hh1]
        exact (Eqv.refl h).si (by rfl)
      · show (PSn p j || decide (p = 80 ∧ j = 20)) = true
        rw [PA_n p j z]
        rfl
    refine a.less (fun p j z => ?_) ?_ ?_
    · by_cases c : p = 80 ∧ j = 20
      · exact Or.inr c
      · refine Or.inl ?_
        show (PSn p j || decide (p = 80 ∧ j = 20)) = false
        rw [z, decide_eq_false c]
        rfl
    · rw [hh3, ri_k (by decide), stI_s, h20]
    · have b1 : J20 h h1 := by rw [hh1]; rfl
      have b2 : J20 h1 h2 := J20.of e2 rfl
      have b3 : J20 h2 h3 := by rw [hh3]; rfl
      exact (b1.trans b2).trans b3
  have ne : ¬ nI i = nI j := by rw [nn_eq (by omega) (by omega)]; omega
  refine ⟨h3, Int64.toInt32 (h2.2.2.1 80 39), ?_, E, ?_⟩
  · unfold f_X11_sumOf
    rw [bs_ (gi80 h 53), h53, if_pos rfl, bs_ (yr_80_49 h), bs_ (ai_108 h (by omega)), v1, bs_ (yr_80_49 h), nI_1, bs_ (ai_108 h hq), v2, if_neg ne, bs_ (show pZ S_1 h 80 11 20 (1 : Int32) = some (stI h 80 20 1) from rfl), ← hh1, bs_ (yr_80_49 h1), bs_ (ai_108 h1 (by omega)), o1 _ _ (by omega), v1, bs_ (yr_80_49 h1), bs_ (ai_108 h1 hq), o1 _ _ (by omega), v2, bs_ (ck_80 h1), bs_ r2]
    dsimp only
    rw [bs_ (show pZ S_1 h2 80 11 20 (0 : Int32) = some (stI h2 80 20 0) from rfl), bs_ (gi80 _ 38), ri_k (by decide), bs_ (show pZ S_1 (stI h2 80 20 0) 80 11 53 (h2.2.1 80 38) = some (stI (stI h2 80 20 0) 80 53 (h2.2.1 80 38)) from if_pos ⟨rfl, v38⟩), ← hh3, bs_ (gj80 h3 39), show h3.2.2.1 80 39 = h2.2.2.1 80 39 by rw [hh3]; rfl]
  · have s53 : h3.2.1 80 53 = h2.2.1 80 38 := by rw [hh3, stI_s]
    rw [s53]
    revert w2
    cases d e with
    | none => exact fun w => w
    | some v => exact fun w => ⟨by rw [w.2], w.1⟩
theorem m_sumOff {h : AH} {x : Int32} (h53 : h.2.1 80 53 = 1) : f_X11_sumOf S_1 80 x h = some (-1, h) := by
  unfold f_X11_sumOf
  rw [bs_ (gi80 h 53), h53, if_neg (by decide)]
theorem m_sumNo {h : AH} {q : Nat} (hq : q + 1 < 96) (h53 : h.2.1 80 53 = 0) (v1 : h.2.1 108 q = 0) (v2 : h.2.1 108 (q + 1) = 0) : f_X11_sumOf S_1 80 (nI q) h = some (-1, h) := by
  unfold f_X11_sumOf
  rw [bs_ (gi80 h 53), h53, if_pos rfl, bs_ (yr_80_49 h), bs_ (ai_108 h (by omega)), v1, bs_ (yr_80_49 h), nI_1, bs_ (ai_108 h hq), v2, if_pos rfl]
theorem EnvM.n {h h' : AH} {e : Nat → Int64} (k : EnvM true h e) (l : ∀ j, h'.2.2.1 99 j = h.2.2.1 99 j) (r82 : h'.2.1 82 = h.2.1 82) : EnvM true h' e := by
  obtain ⟨a1, a2, a3, a4, a5, ⟨n, b1, b2, b3⟩, m, b4, b5, b6⟩ := k
  exact ⟨(l _).trans a1, (l _).trans a2, (l _).trans a3, (l _).trans a4, (l _).trans a5, ⟨n, b1, by rw [r82]; exact b2, by rw [r82]; exact b3⟩, m, b4, by rw [r82]; exact b5, by rw [r82]; exact b6⟩
/-- both reckon -/
theorem cd_both {h g : AH} {i j i' j' q L L' : Nat} {d : DD} {E : Nat → Int64} (kX : CdX (h.2.1 51) i j d L) (hL : L ≤ 50) (hj : j ≤ 400) (kM : CdM true (g.2.1 91) (g.2.1 92) i' j' d L') (hL' : L' ≤ 50) (hj' : j' ≤ 400) (hq : q + 1 < 96) (v1 : g.2.1 108 q = nI i') (v2 : g.2.1 108 (q + 1) = nI j') (ev : ∀ k, usO k → EV h k = E k) (em : EnvM true g E) (g20 : g.2.1 80 20 = 0) (g53 : g.2.1 80 53 = 0) : ∃ h' g' z, Eqv P4 h h' ∧ Eqv PSn g g' ∧ f_X11_sumOf S_1 80 (nI q) g = some (z, g') ∧ (f_X4_reckon S_1 32 51 (nI i) (nI j) h = some (0, h') ∧ g'.2.1 80 53 = 1 ∨ f_X4_reckon S_1 32 51 (nI i) (nI j) h = some (1, h') ∧ g'.2.1 80 53 = 0 ∧ h'.2.1 32 2 = z) := by
  obtain ⟨h', e', q'⟩ := q_reckon kX h (q := 51) (n := 400) rfl (by decide) hj (by omega) fun t _ => rfl
  obtain ⟨g', z, r, e2, w⟩ := m_sumOf hq g20 g53 v1 v2 kM (by omega) hj' em
  rw [kM.loT (EV h) E ev] at q'
  refine ⟨h', g', z, e', e2, r, ?_⟩
  revert q' w
  cases d E with
  | none => exact fun a b => Or.inl ⟨a, b⟩
  | some v => exact fun a b => Or.inr ⟨a.1, b.2, a.2.trans b.1.symm⟩
theorem op_both {h g : AH} {i j i' j' q : Nat} {s : Option DD} {E : Nat → Int64} (kX : OpX (h.2.1 51) s i j) (hj : j ≤ 400) (kM : SecM g q s i' j') (hj' : j' ≤ 400) (hq : q + 1 < 96) (ev : ∀ k, usO k → EV h k = E k) (em : EnvM true g E) (g20 : g.2.1 80 20 = 0) (g53 : g.2.1 80 53 = 0) : ∃ h' g' z, Eqv P4 h h' ∧ Eqv PSn g g' ∧ f_X11_sumOf S_1 80 (nI q) g = some (z, g') ∧ (f_X4_reckon S_1 32 51 (nI i) (nI j) h = some (0, h') ∧ g'.2.1 80 53 = 1 ∨ f_X4_reckon S_1 32 51 (nI i) (nI j) h = some (1, h') ∧ g'.2.1 80 53 = 0 ∧ (s ≠ none → h'.2.1 32 2 = z)) := by
  rcases s with _ | d
  · have ei : i = j := kX
    subst ei
    obtain ⟨-, v1, v2⟩ := kM
    exact ⟨_, g, -1, (Eqv.refl h).si (by rfl), Eqv.refl g, m_sumNo hq g53 v1 v2, Or.inr ⟨q_reckon0 h 51, g53, fun z => absurd rfl z⟩⟩
  · obtain ⟨N, L, hL, sx⟩ := kX
    obtain ⟨v1, v2, N', L', hL', sm⟩ := kM
    obtain ⟨h', g', z, a, b, c, x⟩ := cd_both (Or.inl ⟨N, sx⟩) hL hj (Or.inl ⟨N', sm⟩) hL' hj' hq v1 v2 ev em g20 g53
    refine ⟨h', g', z, a, b, c, x.imp id fun y => ⟨y.1, y.2.1, fun _ => y.2.2⟩⟩
def PXe (p j : Nat) : Bool := PX p j || decide (p = 0 ∧ (j = 18 ∨ j = 19))
def PMe (p j : Nat) : Bool := PSn p j || decide (p = 99 ∨ p = 80 ∧ (j = 50 ∨ j = 51))
theorem PXe_no {p j : Nat} (h : ¬ (32 ≤ p ∧ p ≤ 35 ∨ p = 0 ∧ (j = 18 ∨ j = 19))) : PXe p j = false := by
  unfold PXe
  rw [PX_no (by omega), decide_eq_false (by omega)]
  rfl
theorem PMe_no {p j : Nat} (h : ¬ (99 ≤ p ∧ p ≤ 100 ∨ p = 80 ∧ (j = 38 ∨ j = 39 ∨ 50 ≤ j ∧ j ≤ 53))) : PMe p j = false := by
  unfold PMe
  rw [show PSn p j = false from decide_eq_false (by omega), decide_eq_false (by omega)]
  rfl
theorem P4_e (p j : Nat) (h : P4 p j = true) : PXe p j = true := by unfold PXe; rw [P4_X p j h]; rfl
theorem P33_e (p j : Nat) (h : P33 p j = true) : PXe p j = true := by
  have h := of_decide_eq_true h
  unfold PXe
  rw [show PX p j = true from decide_eq_true (by omega)]
  rfl
theorem PSn_e (p j : Nat) (h : PSn p j = true) : PMe p j = true := by unfold PMe; rw [h]; rfl
theorem P99_e (p j : Nat) (h : P99 p j = true) : PMe p j = true := by
  have h := of_decide_eq_true h
  unfold PMe
  by_cases c : p = 99
  · rw [decide_eq_true (show p = 99 ∨ p = 80 ∧ (j = 50 ∨ j = 51) from Or.inl c), Bool.or_true]
  · rw [show PSn p j = true from decide_eq_true (by omega)]
    rfl
theorem OS.f {p n nb nm : Nat} {f : Nat → Cl} {r : Nat → Int32} {hx hm hx' hm' : AH} (k : OS p n f nb nm r hx hm) (e : Eqv PXe hx hx') (e' : Eqv PMe hm hm') : OS p n f nb nm r hx' hm' := by
  obtain ⟨k1, k2, k3, k4, k5, k6⟩ := k
  have r82 : hm'.2.1 82 = hm.2.1 82 := e'.row fun j => PMe_no (by omega)
  refine ⟨k1.mv (Or.inl rfl) e (fun q j l => PXe_no (by unfold LawP at l; omega)) (k1.2.1.rows (e.row fun j => PXe_no (by omega)) (e.row fun j => PXe_no (by omega)) (e.row fun j => PXe_no (by omega))) (Ag.refl r), k2.z r82 (e'.i 80 20 (PMe_no (by omega))), r82.trans k3, k4, k5, ?_⟩
  rw [e.row (p := 17) fun j => PXe_no (by omega), e.row (p := 18) fun j => PXe_no (by omega), e.i 16 2 (PXe_no (by omega)), e.i 16 3 (PXe_no (by omega)), e'.row (p := 85) fun j => PMe_no (by omega), e'.row (p := 86) fun j => PMe_no (by omega), e'.i 80 8 (PMe_no (by omega))]
  exact k6
/-- what a turn may change -/
def PTc (p j : Nat) : Bool := POc p j || decide (p = 0 ∧ (j = 18 ∨ j = 19))
def PTm (p j : Nat) : Bool := PD p j || decide (p = 99 ∨ p = 80 ∧ (j = 53 ∨ j = 50 ∨ j = 51))
theorem PX_Oc (p j : Nat) (h : PX p j = true) : POc p j = true := PSt_Oc p j (by unfold PSt; rw [h]; rfl)
theorem PXe_c (p j : Nat) (h : PXe p j = true) : PTc p j = true := by
  unfold PXe at h
  rw [Bool.or_eq_true] at h
  unfold PTc
  rcases h with h | h
  · rw [PX_Oc p j h]; rfl
  · rw [h, Bool.or_true]
theorem POc_c (p j : Nat) (h : POc p j = true) : PTc p j = true := by unfold PTc; rw [h]; rfl
theorem PD_t (p j : Nat) (h : PD p j = true) : PTm p j = true := by unfold PTm; rw [h]; rfl
theorem PMe_t (p j : Nat) (h : PMe p j = true) : PTm p j = true := by
  unfold PMe at h
  rw [Bool.or_eq_true] at h
  unfold PTm
  rcases h with h | h
  · have h := of_decide_eq_true h
    by_cases c : p = 80 ∧ j = 53
    · rw [decide_eq_true (show p = 99 ∨ p = 80 ∧ (j = 53 ∨ j = 50 ∨ j = 51) by omega), Bool.or_true]
    · rw [show PD p j = true from ?_]
      · rfl
      · unfold PD
        rw [show PT p j = true from decide_eq_true (by omega)]
        rfl
  · have h := of_decide_eq_true h
    rw [decide_eq_true (show p = 99 ∨ p = 80 ∧ (j = 53 ∨ j = 50 ∨ j = 51) by omega), Bool.or_true]
theorem PTc_no {p j : Nat} (h : ¬ (32 ≤ p ∧ p ≤ 35 ∨ 3 ≤ p ∧ p ≤ 5 ∨ 16 ≤ p ∧ p ≤ 18 ∨ p = 0 ∧ (j = 18 ∨ j = 19))) : PTc p j = false := by
  unfold PTc
  rw [POc_no (by omega), decide_eq_false (by omega)]
  rfl
theorem PTm_no {p j : Nat} (h : ¬ (98 ≤ p ∧ p ≤ 100 ∨ p = 82 ∧ j < 90 ∨ p = 85 ∧ j < 288 ∨ p = 86 ∨ p = 80 ∧ (j = 8 ∨ j = 34 ∨ 38 ≤ j ∧ j ≤ 40 ∨ 50 ≤ j ∧ j ≤ 53 ∧ j ≠ 52))) : PTm p j = false := by
  unfold PTm PD
  rw [show PT p j = false from decide_eq_false (by omega), show PR p j = false from decide_eq_false (by omega), decide_eq_false (by omega), decide_eq_false (by omega)]
  rfl
/-- a turn, on both sides -/
def TuB (p n : Nat) (f : Nat → Cl) (nb nm d : Nat) (hx hm : AH) (X : Option ((Int32 ⊕ Unit) × AH)) (G : AH → Option ((Int32 ⊕ Unit) × AH)) (M : Option (Int32 × AH)) : Prop :=
  (∃ hx' hm' d', X = G hx' ∧ M = some (0, hm') ∧ Eqv PTc hx hx' ∧ Eqv PTm hm hm' ∧ Ag (hm.2.1 82) (hm'.2.1 82) ∧ OS p n f nb nm (hm'.2.1 82) hx' hm' ∧ hx'.2.1 0 18 = nI d' ∧ hm'.2.1 80 50 = nI d' ∧ d' ≤ d + 1 ∧ hx'.2.1 0 19 = hm'.2.1 80 51) ∨
  (∃ hx' hm', X = some (.inl 0, hx') ∧ M = some (-3, hm') ∧ Eqv PTc hx hx' ∧ Eqv PTm hm hm' ∧ Ag (hm.2.1 82) (hm'.2.1 82))
theorem q_hd52 {h : AH} {y k : Nat} (hy : y < 12) (hk : k < 6) : f_X8_head S_1 50 (nI y) (nI k) h = some (h.2.1 52 (6 * y + k), h) := by
  unfold f_X8_head
  rw [show nI y * (6 : Int32) + nI k = nI (6 * y + k) by rw [show (6 : Int32) = nI 6 from rfl, pk_mul, nI_add, Nat.mul_comm], lt_e, if_neg (by rw [z_lt (by omega)]; exact id), bs_ (yr_50_1' h), bs_ (ln_52 h), if_neg (by rw [nn_le (by omega) (by omega)]; omega), bs_ (yr_50_1' h), bs_ (ai_52 h (by omega))]
/-- the rest of a turn, where its test holds -/
theorem turn_go {p n nb nm d y c c' i m1 m2 i' m1' m2' w tm : Nat} {x7 : Int32} {f : Nat → Cl} {r : Nat → Int32} {h g : AH} {x : Co} {E : Nat → Int64} (rc : Nat → Nat → Int32 → Int32 → Int32 → Int32 → Int32 → Int32 → Int32 → AH → Option ((Int32 ⊕ Unit) × AH)) (os : OS p n f nb nm r h g) (hd : h.2.1 0 18 = nI d) (hd' : g.2.1 80 50 = nI d) (hl : h.2.1 0 19 = g.2.1 80 51) (ev : ∀ k, usO k → EV h k = E k) (em : EnvM true g E) (g53 : g.2.1 80 53 = 0) (hy : y < 12)
    (x0 : h.2.1 52 (6 * y) = nI x.1) (o0 : g.2.1 108 (8 * y) = nI (x.1 - 266)) (hk : 266 ≤ x.1 ∧ x.1 ≤ 269) (hs1 : x.1 ≠ 269 → x.2.1.1 ≠ none) (hs2 : x.1 = 266 ∨ x.1 = 268 → x.2.1.2.1 ≠ none)
    (a1 : OpX (h.2.1 51) x.2.1.1 i m1) (a2 : OpX (h.2.1 51) x.2.1.2.1 m1 m2) (hm2 : m2 ≤ 400) (b1 : SecM g (8 * y + 1) x.2.1.1 i' m1') (b2 : SecM g (8 * y + 3) x.2.1.2.1 m1' m2') (hm2' : m2' ≤ 400) :
    TuB p n f nb nm d h g (f_X10_runClause_l42_j90 S_1 rc 0 50 (nI y) (nI tm) (nI i) (nI m1) (nI m2) x7 (nI w) h) (fun u => rc 0 50 (nI y) (nI tm) (nI i) (nI m1) (nI m2) x7 (nI (w + 1)) u) (f_X11_run_j109 S_1 80 (nI (8 * y)) g) := by
  have l1 := a2.le
  have l2 := b2.le
  obtain ⟨ct, cm, er, -⟩ := id os
  have g20 := cm.2.1
  obtain ⟨h1, g1, z1, e1, e1', s1, q1⟩ := op_both a1 (by omega) b1 (by omega) (by omega) ev em g20 g53
  have E1 : Eqv PXe h h1 := e1.mono P4_e
  have E1' : Eqv PMe g g1 := e1'.mono PSn_e
  unfold f_X10_runClause_l42_j90 f_X11_run_j109
  rw [bs_ (yr_0_9 h), bs_ (yr_50_0' h), bs_ (ck_32 h), bs_ (ck_80 g), show nI (8 * y) + (1 : Int32) = nI (8 * y + 1) from nI_add _ 1, bs_ s1]
  dsimp only
  have w82 : ∀ u : AH, Eqv PMe g u → Ag (g.2.1 82) (u.2.1 82) := fun u e => by
    rw [e.row (p := 82) fun j => PMe_no (by omega)]
    exact Ag.refl _
  rcases q1 with ⟨q1, v1⟩ | ⟨q1, v1, k1⟩
  · rw [bs_ q1]
    dsimp only
    rw [if_pos rfl, bs_ (ck_80 g1), bs_ (m_sumOff v1)]
    dsimp only
    rw [bs_ (gi80 g1 53), v1, if_neg (by decide)]
    exact Or.inr ⟨h1, g1, rfl, rfl, E1.mono PXe_c, E1'.mono PMe_t, w82 g1 E1'⟩
  · rw [bs_ q1]
    dsimp only
    rw [if_neg (show ¬ (1 : Int32) = 0 by decide), bs_ (yr_0_9 h1), bs_ (yi_32 h1 2), bs_ (yr_0_9 h1), bs_ (yr_50_0' h1), bs_ (ck_32 h1), bs_ (ck_80 g1), show nI (8 * y) + (3 : Int32) = nI (8 * y + 3) from nI_add _ 3]
    have c51 : h1.2.1 51 = h.2.1 51 := e1.row fun j => rfl
    have c108 : ∀ j, g1.2.1 108 j = g.2.1 108 j := fun j => e1'.i 108 j (decide_eq_false (by omega))
    have ev1 : ∀ k, usO k → EV h1 k = E k := fun k hk => by
      rw [← ev k hk]
      unfold EV
      rw [e1.i 33 k rfl]
    have em1 : EnvM true g1 E := em.n (fun j => e1'.l 99 j rfl) (e1'.row fun j => rfl)
    have b2' : SecM g1 (8 * y + 3) x.2.1.2.1 m1' m2' := b2.cong (fun j _ => ⟨e1'.i 91 j rfl, e1'.i 92 j rfl⟩) (c108 _) (c108 _)
    obtain ⟨h2, g2, z2, e2, e2', s2, q2⟩ := op_both (by rw [c51]; exact a2) hm2 b2' hm2' (by omega) ev1 em1 ((e1'.i 80 20 rfl).trans g20) v1
    have E2 : Eqv PXe h h2 := E1.trans (e2.mono P4_e)
    have E2' : Eqv PMe g g2 := E1'.trans (e2'.mono PSn_e)
    rw [bs_ s2]
    dsimp only
    rcases q2 with ⟨q2, v2⟩ | ⟨q2, v2, k2⟩
    · rw [bs_ q2]
      dsimp only
      rw [if_pos rfl, bs_ (gi80 g2 53), v2, if_neg (by decide)]
      exact Or.inr ⟨h2, g2, rfl, rfl, E2.mono PXe_c, E2'.mono PMe_t, w82 g2 E2'⟩
    · rw [bs_ q2]
      dsimp only
      rw [if_neg (show ¬ (1 : Int32) = 0 by decide), bs_ (ck_50 h2), bs_ (show f_X8_head S_1 50 (nI y) (0 : Int32) h2 = _ from q_hd52 (k := 0) hy (by decide))]
      dsimp only
      have x2 : h2.2.1 52 (6 * y + 0) = nI x.1 := (E2.i 52 _ (PXe_no (by omega))).trans x0
      have o2 : g2.2.1 108 (8 * y) = nI (x.1 - 266) := (E2'.i 108 _ (PMe_no (by omega))).trans o0
      rw [x2, bs_ (yr_0_9 h2), bs_ (yi_32 h2 2), bs_ (ck_0 h2), bs_ (gi80 g2 53), v2, if_pos rfl, bs_ (yr_80_49 g2), bs_ (ai_108 g2 (by omega)), o2, bs_ (ck_80 g2)]
      have os2 := os.f E2 E2'
      obtain ⟨v, h3, g3, q3, q3', e3, e3', ag, os3⟩ := act_all os2 hk (h1.2.1 32 2) (h2.2.1 32 2) z1 z2 (fun z => k1 (hs1 z)) (fun z => k2 (hs2 z))
      rw [bs_ q3, bs_ q3']
      dsimp only
      have Ag3 : Ag (g.2.1 82) (g3.2.1 82) := by rw [er]; exact ag
      have E3 : Eqv PTc h h3 := (E2.mono PXe_c).trans (e3.mono POc_c)
      have E3' : Eqv PTm g g3 := (E2'.mono PMe_t).trans (e3'.mono PD_t)
      by_cases hv : 0 ≤ v
      · have os3 := os3 hv
        rw [if_pos hv, if_pos hv, bs_ (ck_50 h3), bs_ (show f_X8_head S_1 50 (nI y) (0 : Int32) h3 = _ from q_hd52 (k := 0) hy (by decide))]
        dsimp only
        have x3 : h3.2.1 52 (6 * y + 0) = nI x.1 := (E3.i 52 _ (PTc_no (by omega))).trans x0
        have o3 : g3.2.1 108 (8 * y) = nI (x.1 - 266) := (E3'.i 108 _ (PTm_no (by omega))).trans o0
        have d2 : h2.2.1 0 18 = nI d := by
          rw [e2.i 0 18 rfl, e1.i 0 18 rfl]
          exact hd
        have d2' : g2.2.1 80 50 = nI d := by
          rw [e2'.i 80 50 rfl, e1'.i 80 50 rfl]
          exact hd'
        have l2' : h2.2.1 0 19 = g2.2.1 80 51 := by
          rw [e2.i 0 19 rfl, e1.i 0 19 rfl, e2'.i 80 51 rfl, e1'.i 80 51 rfl]
          exact hl
        have d3 : h3.2.1 0 18 = nI d := (e3.i 0 18 rfl).trans d2
        have d3' : g3.2.1 80 50 = nI d := (e3'.i 80 50 rfl).trans d2'
        have l3' : h3.2.1 0 19 = g3.2.1 80 51 := (e3.i 0 19 rfl).trans (l2'.trans (e3'.i 80 51 rfl).symm)
        have fin : ∀ Lt : Int32, TuB p n f nb nm d h g (rc 0 50 (nI y) (nI tm) (nI i) (nI m1) (nI m2) x7 (nI (w + 1)) (stI (stI h3 0 19 Lt) 0 18 (nI (d + 1)))) (fun u => rc 0 50 (nI y) (nI tm) (nI i) (nI m1) (nI m2) x7 (nI (w + 1)) u) (some (0, stI (stI g3 80 51 Lt) 80 50 (nI (d + 1)))) := fun Lt => by
          have a1 : Eqv PXe h3 (stI (stI h3 0 19 Lt) 0 18 (nI (d + 1))) := ((Eqv.refl h3).si (by rfl)).si (by rfl)
          have a2 : Eqv PMe g3 (stI (stI g3 80 51 Lt) 80 50 (nI (d + 1))) := ((Eqv.refl g3).si (by rfl)).si (by rfl)
          have r82 : (stI (stI g3 80 51 Lt) 80 50 (nI (d + 1))).2.1 82 = g3.2.1 82 := funext fun j => by rw [ri_p (by decide), ri_p (by decide)]
          refine Or.inl ⟨_, _, d + 1, rfl, rfl, E3.trans (a1.mono PXe_c), E3'.trans (a2.mono PMe_t), by rw [r82]; exact Ag3, by rw [r82]; exact os3.f a1 a2, stI_s _ _ _ _, stI_s _ _ _ _, Nat.le_refl _, ?_⟩
          rw [ri_k (by decide), stI_s, ri_k (by decide), stI_s]
        rw [x3, bs_ (yr_80_49 g3), bs_ (ai_108 g3 (by omega)), o3]
        by_cases k7 : x.1 = 267
        · rw [if_pos (show nI x.1 = (267 : Int32) by rw [k7]; rfl), if_pos (show nI (x.1 - 266) = (1 : Int32) by rw [k7]; rfl), bs_ (xi_0 h3 19 _), bs_ (yi_0 _ 18), ri_k (by decide), d3, nI_1, bs_ (xi_0 _ 18 _), lt_e, nI_1, bs_ (pi80 g3 51 _), bs_ (gi80 _ 50), ri_k (by decide), d3', nI_1, bs_ (pi80 _ 50 _)]
          exact fin v
        · rw [if_neg (show ¬ nI x.1 = (267 : Int32) by rw [show (267 : Int32) = nI 267 from rfl, nn_eq (by omega) (by decide)]; exact k7), if_neg (show ¬ nI (x.1 - 266) = (1 : Int32) by rw [show (1 : Int32) = nI 1 from rfl, nn_eq (by omega) (by decide)]; omega), bs_ (yi_0 h3 19), bs_ (xi_0 h3 19 _), bs_ (yi_0 _ 18), ri_k (by decide), d3, nI_1, bs_ (xi_0 _ 18 _), lt_e, nI_1, bs_ (gi80 g3 51), bs_ (pi80 g3 51 _), bs_ (gi80 _ 50), ri_k (by decide), d3', nI_1, bs_ (pi80 _ 50 _), ← l3']
          exact fin _
      · rw [if_neg hv, if_neg hv]
        exact Or.inr ⟨h3, g3, rfl, rfl, E3, E3', Ag3⟩
theorem Ag.tr {r r' r'' : Nat → Int32} (a : Ag r r') (b : Ag r' r'') : Ag r r'' := fun j h1 h2 => (b j h1 h2).trans (a j h1 h2)
theorem TuB.from {p n nb nm d : Nat} {f : Nat → Cl} {h g h1 g1 : AH} {X : Option ((Int32 ⊕ Unit) × AH)} {G : AH → Option ((Int32 ⊕ Unit) × AH)} {M : Option (Int32 × AH)} (e : Eqv PTc h h1) (e' : Eqv PTm g g1) (ag : Ag (g.2.1 82) (g1.2.1 82)) (k : TuB p n f nb nm d h1 g1 X G M) : TuB p n f nb nm d h g X G M := by
  rcases k with ⟨hx', hm', d', a1, a2, a3, a4, a5, a6⟩ | ⟨hx', hm', a1, a2, a3, a4, a5⟩
  · exact Or.inl ⟨hx', hm', d', a1, a2, e.trans a3, e'.trans a4, ag.tr a5, a6⟩
  · exact Or.inr ⟨hx', hm', a1, a2, e.trans a3, e'.trans a4, ag.tr a5⟩
def runT (x1 : Int32) (h_38 : AH) : Option (Int32 × AH) :=
  (gR S_1 h_38 80 11 49).bind fun p_40 =>
  (aI S_1 h_38 p_40 (x1 + (5 : Int32))).bind fun v_42 =>
  (gR S_1 h_38 80 11 49).bind fun p_44 =>
  (aI S_1 h_38 p_44 (x1 + (6 : Int32))).bind fun v_46 =>
  if v_46 ≤ v_42 then
    f_X11_run_j109 S_1 80 x1 h_38
  else
    (ckO S_1 h_38 80 11).bind fun _ =>
    (f_X11_sumOf S_1 80 ((x1 + (5 : Int32))) h_38).bind fun z => match z with
    | (z_51, h_50) =>
    (gI S_1 h_50 80 11 53).bind fun v_52 =>
    if v_52 = (0 : Int32) then
      if z_51 = (0 : Int32) then
        some ((0 : Int32), h_50)
      else
        f_X11_run_j109 S_1 80 x1 h_50
    else
      some ((0 : Int32), h_50)
theorem run_e (x1 : Int32) (h : AH) : f_X11_run S_1 80 x1 h = runH h (runT x1) := rfl
/-- what is known of a clause while it is run -/
def ClB (h g : AH) (y c c' : Nat) (x : Co) (i m1 m2 j : Nat) : Prop := (h.2.1 52 (6 * y) = nI x.1 ∧ OpX (h.2.1 51) x.2.1.1 i m1 ∧ OpX (h.2.1 51) x.2.1.2.1 m1 m2 ∧ TpX (h.2.1 51) x.2.1.2.2 m2 j ∧ j ≤ c ∧ c ≤ 400) ∧ HdO g y x c' ∧ c' ≤ 400 ∧ (x.1 ≠ 269 → x.2.1.1 ≠ none) ∧ (x.1 = 266 ∨ x.1 = 268 → x.2.1.2.1 ≠ none)
theorem ClB.f {h g h' g' : AH} {y c c' i m1 m2 j : Nat} {x : Co} (k : ClB h g y c c' x i m1 m2 j) (e : Eqv PTc h h') (e' : Eqv PTm g g') : ClB h' g' y c c' x i m1 m2 j := by
  obtain ⟨⟨a1, a2, a3, a4, a5, a6⟩, b1, b2⟩ := k
  have c51 : h'.2.1 51 = h.2.1 51 := e.row fun j => PTc_no (by omega)
  refine ⟨⟨(e.i 52 _ (PTc_no (by omega))).trans a1, by rw [c51]; exact a2, by rw [c51]; exact a3, by rw [c51]; exact a4, a5, a6⟩, b1.cong (Nat.le_refl _) (fun j _ => ⟨e'.i 91 j (PTm_no (by omega)), e'.i 92 j (PTm_no (by omega))⟩) (fun j _ => e'.i 108 j (PTm_no (by omega))), b2⟩
def turnX (rc : Nat → Nat → Int32 → Int32 → Int32 → Int32 → Int32 → Int32 → Int32 → AH → Option ((Int32 ⊕ Unit) × AH)) (x2 x3 x4 x5 x6 x7 x8 : Int32) (h : AH) : Option ((Int32 ⊕ Unit) × AH) :=
    (ckO S_1 h 0 10).bind fun _ =>
    (f_X10_tellOrders S_1 0 h).bind fun z => match z with
    | (_, h_3) =>
    if x7 ≤ x6 then
      f_X10_runClause_l42_j90 S_1 rc 0 50 x2 x3 x4 x5 x6 x7 x8 h_3
    else
      (gR S_1 h_3 0 10 9).bind fun p_6 =>
      (gR S_1 h_3 50 8 0).bind fun p_8 =>
      (ckO S_1 h_3 p_6 4).bind fun _ =>
      (f_X4_reckon S_1 p_6 p_8 x6 x7 h_3).bind fun z => match z with
      | (z_12, h_11) =>
      if z_12 = (0 : Int32) then
        lt (x8 + (1 : Int32)) fun y_14 =>
        rc 0 50 x2 x3 x4 x5 x6 x7 y_14 h_11
      else
        (gR S_1 h_11 0 10 9).bind fun p_15 =>
        (gI S_1 h_11 p_15 4 2).bind fun v_17 =>
        if v_17 = (0 : Int32) then
          lt (x8 + (1 : Int32)) fun y_20 =>
          rc 0 50 x2 x3 x4 x5 x6 x7 y_20 h_11
        else
          f_X10_runClause_l42_j90 S_1 rc 0 50 x2 x3 x4 x5 x6 x7 x8 h_11
theorem turn_both {p n nb nm d y c c' i m1 m2 j w tm : Nat} {f : Nat → Cl} {r : Nat → Int32} {h g : AH} {x : Co} (rc : Nat → Nat → Int32 → Int32 → Int32 → Int32 → Int32 → Int32 → Int32 → AH → Option ((Int32 ⊕ Unit) × AH)) (os : OS p n f nb nm r h g) (hd : h.2.1 0 18 = nI d) (hd' : g.2.1 80 50 = nI d) (hl : h.2.1 0 19 = g.2.1 80 51) (hy : y < 12) (cb : ClB h g y c c' x i m1 m2 j) : TuB p n f nb nm d h g (turnX rc (nI y) (nI tm) (nI i) (nI m1) (nI m2) (nI j) (nI w) h) (fun u => rc 0 50 (nI y) (nI tm) (nI i) (nI m1) (nI m2) (nI j) (nI (w + 1)) u) (f_X11_run S_1 80 (nI (8 * y)) g) := by
  obtain ⟨ct, cm, er, -⟩ := id os
  obtain ⟨h1, q1, e1, ev⟩ := q_tellO ct
  obtain ⟨g1, H1, e1', v53, em⟩ := m_runH cm er
  have E1 : Eqv PXe h h1 := e1.mono P33_e
  have E1' : Eqv PMe g g1 := e1'.mono P99_e
  have os1 := os.f E1 E1'
  have cb1 := cb.f (E1.mono PXe_c) (E1'.mono PMe_t)
  have w82 : Ag (g.2.1 82) (g1.2.1 82) := by
    rw [E1'.row (p := 82) fun j => PMe_no (by omega)]
    exact Ag.refl _
  have d1 : h1.2.1 0 18 = nI d := (e1.i 0 18 rfl).trans hd
  have d1' : g1.2.1 80 50 = nI d := (e1'.i 80 50 rfl).trans hd'
  have l1' : h1.2.1 0 19 = g1.2.1 80 51 := (e1.i 0 19 rfl).trans (hl.trans (e1'.i 80 51 rfl).symm)
  rw [hd, hl] at ev
  rw [hd'] at em
  refine TuB.from (E1.mono PXe_c) (E1'.mono PMe_t) w82 ?_
  rw [run_e, H1]
  unfold turnX
  rw [bs_ (ck_0 h), bs_ q1]
  dsimp only
  -- where the test holds
  have go : ∀ u v : AH, Eqv PXe h1 u → Eqv PMe g1 v → (∀ k, u.2.1 33 k = h1.2.1 33 k) → (∀ k, v.2.2.1 99 k = g1.2.2.1 99 k) → u.2.1 0 18 = nI d → v.2.1 80 50 = nI d → u.2.1 0 19 = v.2.1 80 51 → v.2.1 80 53 = 0 → TuB p n f nb nm d h1 g1 (f_X10_runClause_l42_j90 S_1 rc 0 50 (nI y) (nI tm) (nI i) (nI m1) (nI m2) (nI j) (nI w) u) (fun u => rc 0 50 (nI y) (nI tm) (nI i) (nI m1) (nI m2) (nI j) (nI (w + 1)) u) (f_X11_run_j109 S_1 80 (nI (8 * y)) v) := fun u v eu ev' u33 v99 ud vd ul vz => by
    have a82 : v.2.1 82 = g1.2.1 82 := ev'.row fun j => PMe_no (by omega)
    obtain ⟨⟨a1, a2, a3, a4, a5, a6⟩, ⟨b1, b2, b3, i', m1', m2', j', b4, b5, b6, b7, b8, b9⟩, b10, b11, b12⟩ := cb1.f (eu.mono PXe_c) (ev'.mono PMe_t)
    have t1 := a4.le
    have t2 := b9.le
    refine TuB.from (eu.mono PXe_c) (ev'.mono PMe_t) (by rw [a82]; exact Ag.refl _) (turn_go (c := c) (c' := c') rc (os1.f eu ev') ud vd ul (fun k hk => ?_) (em.n v99 a82) vz hy a1 b1 ⟨b3.1, b3.2.1⟩ b11 b12 a2 a3 (by omega) b4 b5 (by omega))
    rw [← ev k hk]
    unfold EV
    rw [u33]
  unfold runT
  obtain ⟨⟨a1, a2, a3, a4, a5, a6⟩, ⟨b1, b2, b3, i', m1', m2', j', b4, b5, b6, b7, b8, b9⟩, b10, b11, b12⟩ := id cb1
  rw [bs_ (yr_80_49 g1), show nI (8 * y) + (5 : Int32) = nI (8 * y + 5) from nI_add _ 5, bs_ (ai_108 g1 (by omega)), b6, bs_ (yr_80_49 g1), show nI (8 * y) + (6 : Int32) = nI (8 * y + 6) from nI_add _ 6, bs_ (ai_108 g1 (by omega)), b7]
  have t2 := b9.le
  have t1 := a4.le
  cases et : x.2.1.2.2 with
  | none =>
    rw [et] at a4 b9
    have j1 : m2 = j := a4
    have j2 : m2' = j' := b9
    rw [if_pos (show nI j ≤ nI m2 by rw [nn_le (by omega) (by omega)]; omega), if_pos (show nI j' ≤ nI m2' by rw [nn_le (by omega) (by omega)]; omega)]
    exact go h1 g1 (Eqv.refl h1) (Eqv.refl g1) (fun _ => rfl) (fun _ => rfl) d1 d1' l1' v53
  | some tt =>
    rw [et] at a4 b9
    obtain ⟨N, L, hL, tx⟩ := a4
    obtain ⟨N', L', hL', tm'⟩ := b9
    have j1 := tx.lt
    have j2 := tm'.lt
    obtain ⟨u, v, z, eu, ev', sv, q⟩ := cd_both (q := 8 * y + 5) (Or.inr ⟨N, tx⟩) hL (by omega) (Or.inr ⟨N', tm'⟩) hL' (by omega) (by omega) b6 b7 ev em os1.2.1.2.1 v53
    rw [if_neg (show ¬ nI j ≤ nI m2 by rw [nn_le (by omega) (by omega)]; omega), if_neg (show ¬ nI j' ≤ nI m2' by rw [nn_le (by omega) (by omega)]; omega), bs_ (yr_0_9 h1), bs_ (yr_50_0' h1), bs_ (ck_32 h1), bs_ (ck_80 g1), bs_ sv]
    dsimp only
    have EU : Eqv PXe h1 u := eu.mono P4_e
    have EV' : Eqv PMe g1 v := ev'.mono PSn_e
    have ud : u.2.1 0 18 = nI d := (eu.i 0 18 rfl).trans d1
    have vd : v.2.1 80 50 = nI d := (ev'.i 80 50 rfl).trans d1'
    have ul : u.2.1 0 19 = v.2.1 80 51 := (eu.i 0 19 rfl).trans (l1'.trans (ev'.i 80 51 rfl).symm)
    have a82 : v.2.1 82 = g1.2.1 82 := ev'.row fun j => rfl
    have skip : TuB p n f nb nm d h1 g1 (rc 0 50 (nI y) (nI tm) (nI i) (nI m1) (nI m2) (nI j) (nI (w + 1)) u) (fun u => rc 0 50 (nI y) (nI tm) (nI i) (nI m1) (nI m2) (nI j) (nI (w + 1)) u) (some (0, v)) := by
      refine Or.inl ⟨u, v, d, rfl, rfl, EU.mono PXe_c, EV'.mono PMe_t, by rw [a82]; exact Ag.refl _, ?_, ud, vd, by omega, ul⟩
      have o := os1.f EU EV'
      rw [a82, show g1.2.1 82 = r from os1.2.2.1]
      exact o
    rcases q with ⟨qa, vb⟩ | ⟨qa, vb, qz⟩
    · rw [bs_ qa]
      dsimp only
      rw [if_pos rfl, lt_e, nI_1, bs_ (gi80 v 53), vb, if_neg (by decide)]
      exact skip
    · rw [bs_ qa]
      dsimp only
      rw [if_neg (show ¬ (1 : Int32) = 0 by decide), bs_ (yr_0_9 u), bs_ (yi_32 u 2), qz, bs_ (gi80 v 53), vb, if_pos rfl]
      by_cases z0 : z = 0
      · rw [if_pos z0, if_pos z0, lt_e, nI_1]
        exact skip
      · rw [if_neg z0, if_neg z0]
        exact go u v EU EV' (fun k => eu.i 33 k rfl) (fun k => ev'.l 99 k rfl) ud vd ul vb

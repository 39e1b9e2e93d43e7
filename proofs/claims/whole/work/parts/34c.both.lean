/-! ears: the other side -/
theorem m_hearIn {h : AH} {nb b x : Nat} (hn : h.2.1 82 0 = nI nb) (h7 : nb ≤ 7) (hb : b < 7) (x2 : Int32) : ∀ (m k fu : Nat) (s : Bool), k + m = nb → m < fu → f_X11_hearAll_l40 S_1 fu 80 (nI x) x2 (nI b) (bI s) (nI k) h = some ((80, nI x, x2, nI b, bI (s || exN (fun o => isB (nI x) o && heS (h.2.1 82) o b) k m)), h) := by
  intro m
  induction m with
  | zero =>
    intro k fu s hk hf
    obtain ⟨fu, rfl⟩ : ∃ x, fu = x + 1 := ⟨fu - 1, by omega⟩
    have c : nI nb ≤ nI k := by rw [nn_le (by omega) (by omega)]; omega
    rw [f_X11_hearAll_l40]
    unfold f_X11_hearAll_l40b
    rw [bs_ (yr_80_3 h), bs_ (show aI S_1 h 82 (0 : Int32) = some (h.2.1 82 0) from ai_82 h (j := 0) (by decide)), hn, if_pos c]
    rw [exN, Bool.or_false]
  | succ m ih =>
    intro k fu s hk hf
    obtain ⟨fu, rfl⟩ : ∃ x, fu = x + 1 := ⟨fu - 1, by omega⟩
    have c : ¬ nI nb ≤ nI k := by rw [nn_le (by omega) (by omega)]; omega
    rw [f_X11_hearAll_l40]
    unfold f_X11_hearAll_l40b
    rw [bs_ (yr_80_3 h), bs_ (show aI S_1 h 82 (0 : Int32) = some (h.2.1 82 0) from ai_82 h (j := 0) (by decide)), hn, if_neg c, exN]
    cases s with
    | true =>
      rw [if_neg (show ¬ bI true = 0 by decide), lt_e, nI_1, Bool.true_or]
      have := ih (k + 1) fu true (by omega) (by omega)
      rw [Bool.true_or] at this
      exact this
    | false =>
      rw [if_pos (show bI false = 0 from rfl), bs_ (x_is S_1 (nI x) k h), Bool.false_or]
      dsimp only
      cases e : isB (nI x) k with
      | false =>
        rw [if_pos (show bI false = 0 from rfl), lt_e, nI_1, Bool.false_and, Bool.false_or]
        have := ih (k + 1) fu false (by omega) (by omega)
        rw [Bool.false_or] at this
        exact this
      | true =>
        rw [if_neg (show ¬ bI true = 0 by decide), bs_ (ck_80 h), bs_ (m_hears h (show k < 7 by omega) hb), Bool.true_and]
        dsimp only
        cases e2 : heS (h.2.1 82) k b with
        | false =>
          rw [if_pos (show bI false = 0 from rfl), lt_e, nI_1, Bool.false_or]
          have := ih (k + 1) fu false (by omega) (by omega)
          rw [Bool.false_or] at this
          exact this
        | true =>
          rw [if_neg (show ¬ bI true = 0 by decide), lt_e, nI_1, Bool.true_or]
          have := ih (k + 1) fu true (by omega) (by omega)
          rw [Bool.true_or] at this
          exact this
theorem m_hearAll {h : AH} {nb x : Nat} (hn : h.2.1 82 0 = nI nb) (h7 : nb ≤ 7) : f_X11_hearAll S_1 80 (nI x) h = some (bI (allS (h.2.1 82) nb x), h) := by
  have e : ∀ (m k fu : Nat) (s : Bool), k + m = nb → m < fu → f_X11_hearAll_l4 S_1 fu 80 (nI x) (bI s) (nI k) h = some (bI (s && al (heardS (h.2.1 82) nb x) k m), h) := by
    intro m
    induction m with
    | zero =>
      intro k fu s hk hf
      obtain ⟨fu, rfl⟩ : ∃ x, fu = x + 1 := ⟨fu - 1, by omega⟩
      have c : nI nb ≤ nI k := by rw [nn_le (by omega) (by omega)]; omega
      rw [f_X11_hearAll_l4]
      unfold f_X11_hearAll_l4b
      rw [bs_ (yr_80_3 h), bs_ (show aI S_1 h 82 (0 : Int32) = some (h.2.1 82 0) from ai_82 h (j := 0) (by decide)), hn, if_pos c, al, Bool.and_true]
    | succ m ih =>
      intro k fu s hk hf
      obtain ⟨fu, rfl⟩ : ∃ x, fu = x + 1 := ⟨fu - 1, by omega⟩
      have c : ¬ nI nb ≤ nI k := by rw [nn_le (by omega) (by omega)]; omega
      have j : ∀ t : Bool, (t || exN (fun o => isB (nI x) o && heS (h.2.1 82) o k) 0 nb) = heardS (h.2.1 82) nb x k → f_X11_hearAll_l4_j35 S_1 (f_X11_hearAll_l4 S_1 fu) 80 (nI x) (bI s) (nI k) (bI t) h = some (bI (s && (heardS (h.2.1 82) nb x k && al (heardS (h.2.1 82) nb x) (k + 1) m)), h) := fun t ht => by
        have q := m_hearIn (x := x) hn h7 (show k < 7 by omega) (bI s) nb 0 FU t (by omega) (by unfold FU; omega)
        rw [ht] at q
        unfold f_X11_hearAll_l4_j35
        rw [bs_ (show f_X11_hearAll_l40 S_1 FU 80 (nI x) (bI s) (nI k) (bI t) (0 : Int32) h = _ from q)]
        dsimp only
        have i0 := ih (k + 1) fu false (by omega) (by omega)
        have i1 := ih (k + 1) fu true (by omega) (by omega)
        rw [Bool.false_and] at i0
        rw [Bool.true_and] at i1
        cases s with
        | false =>
          rw [if_pos (show bI false = 0 from rfl), lt_e, nI_1, Bool.false_and]
          exact i0
        | true =>
          rw [if_neg (show ¬ bI true = 0 by decide), Bool.true_and]
          cases e : heardS (h.2.1 82) nb x k with
          | false =>
            rw [if_pos (show bI false = 0 from rfl), lt_e, nI_1, Bool.false_and]
            exact i0
          | true =>
            rw [if_neg (show ¬ bI true = 0 by decide), lt_e, nI_1, Bool.true_and]
            exact i1
      rw [f_X11_hearAll_l4]
      unfold f_X11_hearAll_l4b f_X11_hearAll_l4_j30
      rw [bs_ (yr_80_3 h), bs_ (show aI S_1 h 82 (0 : Int32) = some (h.2.1 82 0) from ai_82 h (j := 0) (by decide)), hn, if_neg c, bs_ (ck_80 h), bs_ (m_away h (show k < 7 by omega)), al]
      dsimp only
      cases ea : awS (h.2.1 82) k with
      | true =>
        rw [if_neg (show ¬ bI true = 0 by decide)]
        exact j true (by unfold heardS; rw [ea]; rfl)
      | false =>
        rw [if_pos (show bI false = 0 from rfl), bs_ (x_is S_1 (nI x) k h)]
        dsimp only
        cases ei : isB (nI x) k with
        | false =>
          rw [if_pos (show bI false = 0 from rfl)]
          exact j false (by unfold heardS; rw [ea, ei]; rfl)
        | true =>
          rw [if_neg (show ¬ bI true = 0 by decide)]
          exact j true (by unfold heardS; rw [ea, ei]; rfl)
  unfold f_X11_hearAll
  rw [bs_ (show f_X11_hearAll_l4 S_1 FU 80 (nI x) (1 : Int32) (0 : Int32) h = _ from e nb 0 FU true (by omega) (by unfold FU; omega))]
  dsimp only
  rw [bs_ (bI_z _), Bool.true_and]
  rfl
theorem m_earL {h : AH} {nb W : Nat} (x2 : Int32) (hn : h.2.1 82 0 = nI nb) (h7 : nb ≤ 7) (hW : W < 128) : ∀ (m k fu : Nat) (s : Option Nat), k + m = W + 1 → m < fu → f_X11_ears_l32 S_1 fu 80 x2 (nI W) (cnS s) (whS 0 s) (nI k) h = some ((x2, cnS (fo (seS (earP (h.2.1 82) nb (nI W))) k m s), whS 0 (fo (seS (earP (h.2.1 82) nb (nI W))) k m s)), h) := by
  intro m
  induction m with
  | zero =>
    intro k fu s hk hf
    obtain ⟨fu, rfl⟩ : ∃ x, fu = x + 1 := ⟨fu - 1, by omega⟩
    have c : nI W < nI k := by rw [nn_lt (by omega) (by omega)]; omega
    rw [f_X11_ears_l32]
    unfold f_X11_ears_l32b
    rw [if_pos c]
    rfl
  | succ m ih =>
    intro k fu s hk hf
    obtain ⟨fu, rfl⟩ : ∃ x, fu = x + 1 := ⟨fu - 1, by omega⟩
    have c : ¬ nI W < nI k := by rw [nn_lt (by omega) (by omega)]; omega
    rw [f_X11_ears_l32]
    unfold f_X11_ears_l32b
    show _ = some ((x2, cnS (fo _ (k + 1) m (seS _ s k)), whS 0 (fo _ (k + 1) m (seS _ s k))), h)
    rw [if_neg c, ← ih (k + 1) fu _ (by omega) (by omega)]
    by_cases c1 : nI k &&& (nI W ^^^ -1) = 0
    · rw [if_pos c1, bs_ (x_ones S_1 (nI k) h)]
      dsimp only
      by_cases l : cnS s ≤ on7 (nI k)
      · have : seS (earP (h.2.1 82) nb (nI W)) s k = s := if_neg fun z => by
          cases s with
          | none => exact on7_small k (by omega) l
          | some b => exact absurd (z.2 b rfl) (Int32.not_lt.mpr l)
        rw [if_pos l, this, lt_e, nI_1]
      · have lb : ∀ b, s = some b → on7 (nI k) < on7 (nI b) := fun b e => by
          subst e
          exact Int32.not_le.mp l
        rw [if_neg l, bs_ (ck_80 h), bs_ (m_hearAll (x := k) hn h7)]
        dsimp only
        cases cc : allS (h.2.1 82) nb k with
        | true =>
          have : seS (earP (h.2.1 82) nb (nI W)) s k = some k := if_pos ⟨by unfold earP; rw [cc, decide_eq_true c1]; rfl, lb⟩
          rw [if_neg (show ¬ bI true = 0 by decide), bs_ (x_ones S_1 (nI k) h), this]
          dsimp only
          rw [lt_e, nI_1]
          rfl
        | false =>
          have : seS (earP (h.2.1 82) nb (nI W)) s k = s := if_neg fun z => by
            have z := z.1
            unfold earP at z
            rw [cc, decide_eq_true c1] at z
            cases z
          rw [if_pos (show bI false = 0 from rfl), this, lt_e, nI_1]
    · have : seS (earP (h.2.1 82) nb (nI W)) s k = s := if_neg fun z => by
        have z := z.1
        unfold earP at z
        rw [decide_eq_false c1] at z
        cases z
      rw [if_neg c1, this, lt_e, nI_1]
theorem m_ears {h : AH} {n nb nm W b : Nat} {f : Nat → Cl} (c2 : CM h n f nb nm) (hW : W < 128) (eW : prsS (h.2.1 82) nb = nI W) (d2 : fo (seS (earP (h.2.1 82) nb (nI W))) 0 (W + 1) none = some b) (y : Int32) : Qy PW0 h (f_X11_ears S_1 80 y h) (hmw b y) := by
  have h7 := c2.2.2.2.1
  obtain ⟨h0, hh0⟩ : ∃ h0, h0 = stI h 80 0 0 := ⟨_, rfl⟩
  have r0 : h0.2.1 82 = h.2.1 82 := by rw [hh0]; exact funext fun j => ri_p (by decide)
  have c0 : CM h0 n f nb nm := c2.z r0 (by rw [hh0]; exact ri_k (by decide))
  have E0 : Eqv PW0 h h0 := by rw [hh0]; exact (Eqv.refl h).si rfl
  unfold f_X11_ears
  rw [bs_ (show pI S_1 h 80 11 0 (0 : Int32) = some (stI h 80 0 0) from rfl), ← hh0, bs_ (xin_0_1 y h0)]
  dsimp only
  cases ey : rgb y 0 1 with
  | false =>
    have y0 : ¬ y = 0 := fun z => by
      rw [z] at ey
      exact absurd ey (by decide)
    have y1 : ¬ y = 1 := fun z => by
      rw [z] at ey
      exact absurd ey (by decide)
    have : hmw b y = -1 := by unfold hmw; rw [if_neg y0, if_neg y1]
    rw [this, if_pos (show bI false = 0 from rfl)]
    exact ⟨h0, rfl, E0⟩
  | true =>
    have pr := m_present h0 c0.2.2.1 h7
    rw [r0, show bits nb (fun b => ! awS (h.2.1 82) b) = nI W from eW] at pr
    have ql := m_earL (h := h0) y c0.2.2.1 h7 hW (W + 1) 0 FU none (by omega) (by unfold FU; omega)
    rw [r0, d2] at ql
    rw [if_neg (show ¬ bI true = 0 by decide), bs_ (ck_80 h0), bs_ pr]
    dsimp only
    rw [bs_ (show f_X11_ears_l32 S_1 FU 80 y (nI W) (100000000 : Int32) (0 : Int32) (0 : Int32) h0 = _ from ql)]
    dsimp only
    obtain ⟨j, hj, rfl⟩ := rgb_of (n := 1) (by decide) ey
    by_cases j0 : j = 0
    · subst j0
      exact ⟨h0, rfl, E0⟩
    · have : j = 1 := by omega
      subst this
      exact ⟨h0, rfl, E0⟩
theorem bo_ears {h : AH} (k : Rel h) (y : Int32) : Bo h (f_X10_ears S_1 0 y) (f_X11_ears S_1 80 y) := by
  obtain ⟨st, nb, nm, nh, nl, k0⟩ := id k
  obtain ⟨p, n, f, ct, cm⟩ := k0.law
  have h7 := cm.2.2.2.1
  obtain ⟨W, hW, eW⟩ := bits_lt h7 (fun b => ! awS (h.2.1 82) b)
  obtain ⟨b, hb, d1, d2⟩ := ear_key h7 hW (show prsS (h.2.1 82) nb = nI W from eW)
  refine both_q (v := hmw b y) k (q_ears ct hW eW hb d1 y) (fun h2 e2 => ?_)
  have r2 := e2.w82
  exact m_ears (cm.w e2) hW (by rw [r2]; exact eW) (by rw [r2]; exact d2) y

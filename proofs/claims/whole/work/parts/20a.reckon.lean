/-! reckoning as a whole -/
def CdX (c : Nat → Int32) (i j : Nat) (d : DD) (L : Nat) : Prop := (∃ N, SumX c N i j d L) ∨ ∃ N, TstX c N i j d L
def CdM (ord : Bool) (c a : Nat → Int32) (i j : Nat) (d : DD) (L : Nat) : Prop := (∃ N, SumM ord c a N i j d L) ∨ ∃ N, TstM ord c a N i j d L
def P4 (p j : Nat) : Bool := decide (p = 34 ∨ p = 32 ∧ j = 2)
theorem P34_4 (p j : Nat) (h : P34 p j = true) : P4 p j = true := by
  unfold P34 at h
  unfold P4
  exact decide_eq_true (Or.inl (of_decide_eq_true h))
theorem rX_cd {c : Nat → Int32} {i j : Nat} {d : DD} {L : Nat} (H : CdX c i j d L) (h : AH) {q n to dp g : Nat} (fu : Nat) (hq : KD S_1 h q = some (1, n)) (hn : n ≤ 400) (ht : to ≤ n) (hj : j ≤ to) (hg : g ≤ i) (hd : dp + L < 52) (hc : ∀ t, t < to → h.2.1 q t = c t) :
    ∃ h', Eqv P34 h h' ∧ match d (EV h) with
      | some v => (∃ g', g' ≤ j ∧ f_X4_reckon_l9 S_1 (fu + (j - i)) 32 q (nI to) (nI dp) (nI g) (nI i) h = f_X4_reckon_l9 S_1 fu 32 q (nI to) (nI (dp + 1)) (nI g') (nI j) h') ∧ h'.2.2.1 34 dp = v
      | none => f_X4_reckon_l9 S_1 (fu + (j - i)) 32 q (nI to) (nI dp) (nI g) (nI i) h = some (.inl 0, h') := by
  rcases H with ⟨N, H⟩ | ⟨N, H⟩
  · obtain ⟨h', e1, -, e2⟩ := rX_sum H h fu hq hn ht hj hg hd hc
    have a := H.lt
    refine ⟨h', e1, ?_⟩
    cases ed : d (EV h) with
    | none => rw [ed] at e2; exact e2
    | some v => rw [ed] at e2; exact ⟨⟨g, by omega, e2.1⟩, e2.2⟩
  · obtain ⟨h', e1, -, e2⟩ := rX_tst H h fu hq hn ht hj hg hd hc
    exact ⟨h', e1, e2⟩
theorem CdX.lt {c : Nat → Int32} {i j : Nat} {d : DD} {L : Nat} (H : CdX c i j d L) : i < j := by
  rcases H with ⟨N, H⟩ | ⟨N, H⟩
  · exact H.lt.1
  · exact H.lt.1
theorem CdM.lt {ord : Bool} {c a : Nat → Int32} {i j : Nat} {d : DD} {L : Nat} (H : CdM ord c a i j d L) : i < j := by
  rcases H with ⟨N, H⟩ | ⟨N, H⟩
  · exact H.lt.1
  · exact H.lt.1
theorem pX_end (h : AH) {fu q dp g j : Nat} : f_X4_reckon_l9 S_1 (fu + 1) 32 q (nI j) (nI dp) (nI g) (nI j) h = some (.inr (32, nI dp), h) := by
  rw [f_X4_reckon_l9]
  unfold f_X4_reckon_l9b
  rw [if_pos (Int32.le_refl _)]
theorem q_reckon {c : Nat → Int32} {i j : Nat} {d : DD} {L : Nat} (H : CdX c i j d L) (h : AH) {q n : Nat} (hq : KD S_1 h q = some (1, n)) (hn : n ≤ 400) (hj : j ≤ n) (hd : L < 52) (hc : ∀ t, t < j → h.2.1 q t = c t) :
    ∃ h', Eqv P4 h h' ∧ match d (EV h) with
      | some v => f_X4_reckon S_1 32 q (nI i) (nI j) h = some (1, h') ∧ h'.2.1 32 2 = Int64.toInt32 v
      | none => f_X4_reckon S_1 32 q (nI i) (nI j) h = some (0, h') := by
  have hl := H.lt
  obtain ⟨h', e1, e2⟩ := rX_cd H h (q := q) (n := n) (to := j) (dp := 0) (g := i) ((FU - (j - i) - 1) + 1) hq hn hj (Nat.le_refl _) (Nat.le_refl _) (by omega) hc
  rw [show (FU - (j - i) - 1) + 1 + (j - i) = FU by unfold FU; omega] at e2
  unfold f_X4_reckon
  cases ed : d (EV h) with
  | none =>
    rw [ed] at e2
    refine ⟨h', e1.mono P34_4, ?_⟩
    rw [show (0 : Int32) = nI 0 from rfl, bs_ e2]
    rfl
  | some v =>
    rw [ed] at e2
    obtain ⟨⟨g', -, e2⟩, e3⟩ := e2
    rw [pX_end] at e2
    refine ⟨stI h' 32 2 (Int64.toInt32 v), (e1.mono P34_4).si rfl, ?_, stI_s _ _ _ _⟩
    rw [show (0 : Int32) = nI 0 from rfl, bs_ e2]
    dsimp only
    rw [if_neg (by decide), bs_ (yr_32_1 h'), bs_ (ai_34 h' (by decide)), e3, bs_ (xi_32 h' 2 _)]
theorem q_reckon0 (h : AH) (q : Nat) {i : Nat} : f_X4_reckon S_1 32 q (nI i) (nI i) h = some (1, stI h 32 2 0) := by
  unfold f_X4_reckon
  rw [show (0 : Int32) = nI 0 from rfl, show FU = 999999 + 1 from rfl, bs_ (pX_end h)]
  dsimp only
  rw [if_pos (by decide), bs_ (xi_32 h 2 _)]
def PA (p j : Nat) : Bool := decide (p = 100 ∨ p = 80 ∧ (j = 38 ∨ j = 39))
theorem PM_A (p j : Nat) (h : PM p j = true) : PA p j = true := by
  unfold PM at h
  unfold PA
  apply decide_eq_true
  rcases of_decide_eq_true h with h | ⟨h, h2⟩
  · exact Or.inl h
  · exact Or.inr ⟨h, Or.inl h2⟩
theorem rM_cd {ord : Bool} {c a : Nat → Int32} {i j : Nat} {d : DD} {L : Nat} (H : CdM ord c a i j d L) (h : AH) {to dp : Nat} (F : Nat) (e : Nat → Int64) (hc : CodeM ord h to c a) (he : EnvM ord h e) (hb : h.2.1 80 38 = 0) (hj : j ≤ to) (hd : dp + L < 400) (hF : j - i + 2 ≤ F) :
    ∃ h', Eqv PM h h' ∧ (∀ t, t < dp → h'.2.2.1 100 t = h.2.2.1 100 t) ∧ match d e with
      | some v => h'.2.1 80 38 = 0 ∧ h'.2.2.1 100 dp = v ∧ ∃ F', F - (j - i) ≤ F' ∧ f_X11_reckonAll_l10 S_1 F 80 (nI to) (nI dp) (nI i) h = f_X11_reckonAll_l10 S_1 F' 80 (nI to) (nI (dp + 1)) (nI j) h'
      | none => h'.2.1 80 38 = 1 ∧ ∃ x, f_X11_reckonAll_l10 S_1 F 80 (nI to) (nI dp) (nI i) h = some ((80, x), h') := by
  rcases H with ⟨N, H⟩ | ⟨N, H⟩
  · exact rM_sum H h F e hc he hb hj hd hF
  · exact rM_tst H h F e hc he hb hj hd hF
theorem pM_end (h : AH) {fu dp j : Nat} : f_X11_reckonAll_l10 S_1 (fu + 1) 80 (nI j) (nI dp) (nI j) h = some ((80, nI dp), h) := by
  rw [f_X11_reckonAll_l10]
  unfold f_X11_reckonAll_l10b
  rw [if_pos (Int32.le_refl _)]
theorem m_reckonAll {ord : Bool} {c a : Nat → Int32} {i j : Nat} {d : DD} {L : Nat} (H : CdM ord c a i j d L) (h : AH) (e : Nat → Int64) (hc : CodeM ord h j c a) (he : EnvM ord h e) (hd : L < 400) :
    ∃ h', f_X11_reckonAll S_1 80 (nI i) (nI j) h = some ((), h') ∧ Eqv PA h h' ∧ match d e with
      | some v => h'.2.1 80 38 = 0 ∧ h'.2.2.1 80 39 = v
      | none => h'.2.1 80 38 = 1 := by
  have hl := H.lt
  have h400 := hc.1
  have E0 : Eqv PM h (stI h 80 38 0) := (Eqv.refl h).si rfl
  obtain ⟨h', e1, -, e2⟩ := rM_cd H (stI h 80 38 0) (to := j) (dp := 0) FU e (hc.e E0) (he.e E0) (stI_s _ _ _ _) (Nat.le_refl _) (by omega) (by unfold FU; omega)
  have E1 : Eqv PA h h' := (E0.trans e1).mono PM_A
  unfold f_X11_reckonAll
  rw [bs_ (xz_80 h 38 0 (Or.inl rfl)), show (0 : Int32) = nI 0 from rfl]
  cases ed : d e with
  | none =>
    rw [ed] at e2
    obtain ⟨f, x, e2⟩ := e2
    rw [show nI 0 = (0 : Int32) from rfl] at e2 ⊢
    rw [bs_ e2]
    dsimp only
    by_cases ex : x ≤ 0
    · rw [if_pos ex, bs_ (xj_80 h' 39 _)]
      exact ⟨_, rfl, E1.sj rfl, f⟩
    · rw [if_neg ex, bs_ (yr_80_37 h'), aJ_0, bs_ (ai_100 h' (by decide)), bs_ (xj_80 h' 39 _)]
      exact ⟨_, rfl, E1.sj rfl, f⟩
  | some v =>
    rw [ed] at e2
    obtain ⟨f, v1, F', g, e2⟩ := e2
    obtain ⟨F2, rfl⟩ : ∃ z, F' = z + 1 := ⟨F' - 1, by unfold FU at g; omega⟩
    rw [pM_end] at e2
    rw [show nI 0 = (0 : Int32) from rfl] at e2 ⊢
    rw [bs_ e2]
    dsimp only
    rw [if_neg (by decide), bs_ (yr_80_37 h'), aJ_0, bs_ (ai_100 h' (by decide)), bs_ (xj_80 h' 39 _), v1]
    exact ⟨_, rfl, E1.sj rfl, f, stJ_s _ _ _ _⟩

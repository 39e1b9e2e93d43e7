/-! ears: the class's side -/
theorem q_hearAll (h : AH) (W : Int32) (x : Nat) : f_X1_hearAll S_1 35 (nI x) W h = some (bI (al (gX W (h.2.1 37) x) 0 7), h) := by
  have e : ∀ (m k fu : Nat), k + m = 7 → m < fu → f_X1_hearAll_l2 S_1 fu 35 (nI x) W (nI k) h = some (if al (gX W (h.2.1 37) x) k m = true then .inr () else .inl 0, h) := by
    intro m
    induction m with
    | zero =>
      intro k fu hk hf
      obtain ⟨fu, rfl⟩ : ∃ x, fu = x + 1 := ⟨fu - 1, by omega⟩
      have : k = 7 := by omega
      subst this
      rw [f_X1_hearAll_l2]
      rfl
    | succ m ih =>
      intro k fu hk hf
      obtain ⟨fu, rfl⟩ : ∃ x, fu = x + 1 := ⟨fu - 1, by omega⟩
      have n7 : ¬ (7 : Int32) ≤ nI k := by
        rw [show (7 : Int32) = nI 7 from rfl, nn_le (by decide) (by omega)]
        omega
      rw [f_X1_hearAll_l2]
      unfold f_X1_hearAll_l2b
      rw [if_neg n7, al]
      show (if (W &&& (nI x ^^^ -1)) &&& bt k = 0 then _ else _) = _
      by_cases c : (W &&& (nI x ^^^ -1)) &&& bt k = 0
      · rw [if_pos c]
        unfold f_X1_hearAll_l2_j25
        have : gX W (h.2.1 37) x k = true := by unfold gX; rw [decide_eq_true c]; rfl
        rw [if_pos rfl, lt_e, nI_1, ih (k + 1) fu (by omega) (by omega), this, Bool.true_and]
      · rw [if_neg c]
        unfold f_X1_hearAll_l2_j25
        rw [if_neg (by decide), bs_ (yr_35_5 h), bs_ (ai_37 h (by omega))]
        by_cases d : h.2.1 37 k &&& nI x = 0
        · have : gX W (h.2.1 37) x k = false := by unfold gX; rw [decide_eq_false c, decide_eq_false (fun z => z d)]; rfl
          rw [if_pos d, this]
          rfl
        · have : gX W (h.2.1 37) x k = true := by unfold gX; rw [decide_eq_false c, decide_eq_true d]; rfl
          rw [if_neg d, lt_e, nI_1, ih (k + 1) fu (by omega) (by omega), this, Bool.true_and]
  unfold f_X1_hearAll
  rw [bs_ (show f_X1_hearAll_l2 S_1 FU 35 (nI x) W (0 : Int32) h = _ from e 7 0 FU (by omega) (by unfold FU; omega))]
  cases al (gX W (h.2.1 37) x) 0 7 <;> rfl
def P37 (p _j : Nat) : Bool := decide (p = 37)
theorem P37_W0 (p j : Nat) (h : P37 p j = true) : PW0 p j = true := by
  have h := of_decide_eq_true h
  unfold PW0
  rw [Bool.and_eq_true]
  exact ⟨decide_eq_true (by omega), decide_eq_true (by omega)⟩
theorem P37_n {p : Nat} (h : p ≠ 37) (j : Nat) : P37 p j = false := decide_eq_false h
theorem q_ears8 {h : AH} {r : Nat → Int32} {p n nb nm : Nat} {f : Nat → Cl} (ct : Ct h 3 r p n f nb nm) (W : Int32) : ∀ (m k fu : Nat) (h1 : AH), k + m = 7 → m < fu → Eqv P37 h h1 → (∀ b, b < k → b < nb → h1.2.1 37 b = hsS r nb b) → ∃ h', f_X1_fewestEars_l8 S_1 fu 35 3 W (nI k) h1 = some ((35, W), h') ∧ Eqv P37 h h' ∧ ∀ b, b < nb → h'.2.1 37 b = hsS r nb b := by
  have hb := ct.2.2.2.2.2.1
  have h7 := ct.2.2.2.2.2.2.1
  intro m
  induction m with
  | zero =>
    intro k fu h1 hk hf e1 v1
    obtain ⟨fu, rfl⟩ : ∃ x, fu = x + 1 := ⟨fu - 1, by omega⟩
    have : k = 7 := by omega
    subst this
    rw [f_X1_fewestEars_l8]
    exact ⟨h1, rfl, e1, fun b hb => v1 b (by omega) hb⟩
  | succ m ih =>
    intro k fu h1 hk hf e1 v1
    obtain ⟨fu, rfl⟩ : ∃ x, fu = x + 1 := ⟨fu - 1, by omega⟩
    have n7 : ¬ (7 : Int32) ≤ nI k := by
      rw [show (7 : Int32) = nI 7 from rfl, nn_le (by decide) (by omega)]
      omega
    have sx : StX h1 3 r := ct.2.1.rows (e1.row (P37_n (by decide))) (e1.row (P37_n (by decide))) (e1.row (P37_n (by decide)))
    have rx : RoX h1 2 r := ct.2.2.1.rows fun d a b => e1.row (P37_n (by omega))
    have g1 : h1.2.1 2 1 = nI nb := rx.1.1.trans hb
    rw [f_X1_fewestEars_l8]
    unfold f_X1_fewestEars_l8b
    rw [if_neg n7, bs_ (yr_35_5 h1), bs_ (yr_35_0 h1), bs_ (yi_2 h1 1), g1]
    by_cases c : nb ≤ k
    · rw [if_pos (by rw [nn_le (by omega) (by omega)]; exact c), bs_ (si_37 h1 _ (by omega)), lt_e, nI_1]
      refine ih (k + 1) fu _ (by omega) (by omega) (e1.si rfl) fun b h2 h3 => ?_
      rw [ri_k (by omega)]
      exact v1 b (by omega) h3
    · rw [if_neg (by rw [nn_le (by omega) (by omega)]; exact c), bs_ (ck_35 h1), bs_ (q_hearers h1 (Or.inl rfl) sx rx hb h7 (show k < 7 by omega))]
      dsimp only
      rw [bs_ (si_37 h1 _ (by omega)), lt_e, nI_1]
      refine ih (k + 1) fu _ (by omega) (by omega) (e1.si rfl) fun b h2 h3 => ?_
      by_cases d : b = k
      · rw [d, stI_s]
        rfl
      · rw [ri_k d]
        exact v1 b (by omega) h3
theorem ears_j75 {h : AH} {r : Nat → Int32} {nb W k : Nat} {rc : Nat → Int32 → Int32 → Int32 → AH → Option (Int32 × AH)} (x3 : Int32) (h7 : nb ≤ 7) (hk : k < 128) (eW : prsS r nb = nI W) (hh : ∀ b, b < nb → h.2.1 37 b = hsS r nb b) : f_X1_fewestEars_l52_j75 S_1 rc 35 (nI W) x3 (nI k) 1 h = rc 35 (nI W) (if earP r nb (nI W) k = true then nI k else x3) (nI (k + 1)) h := by
  unfold f_X1_fewestEars_l52_j75 earP
  rw [if_neg (show ¬ (1 : Int32) = 0 by decide)]
  by_cases c : nI k &&& (nI W ^^^ -1) = 0
  · rw [if_pos c, decide_eq_true c, Bool.true_and, bs_ (ck_35 h), bs_ (q_hearAll h (nI W) k), ← eW, gX_eq h7 hk hh]
    dsimp only
    cases allS r nb k with
    | false => rw [if_pos (show bI false = 0 from rfl), if_neg (show ¬ false = true by decide), lt_e, nI_1]
    | true => rw [if_neg (show ¬ bI true = 0 by decide), if_pos rfl, lt_e, nI_1]
  · rw [if_neg c, decide_eq_false c, Bool.false_and, if_neg (show ¬ false = true by decide), lt_e, nI_1]
theorem ears_j75z {h : AH} {W k : Nat} {rc : Nat → Int32 → Int32 → Int32 → AH → Option (Int32 × AH)} (x3 : Int32) : f_X1_fewestEars_l52_j75 S_1 rc 35 (nI W) x3 (nI k) 0 h = rc 35 (nI W) x3 (nI (k + 1)) h := by
  unfold f_X1_fewestEars_l52_j75
  rw [if_pos rfl, lt_e, nI_1]
theorem q_ears52 {h : AH} {r : Nat → Int32} {nb W : Nat} (h7 : nb ≤ 7) (hW : W < 128) (eW : prsS r nb = nI W) (hh : ∀ b, b < nb → h.2.1 37 b = hsS r nb b) : ∀ (m k fu b : Nat), k + m = W → m < fu → b < 128 → f_X1_fewestEars_l52 S_1 fu 35 (nI W) (nI b) (nI k) h = some (nI (fo (eaS (earP r nb (nI W))) k m b), h) := by
  intro m
  induction m with
  | zero =>
    intro k fu b hk hf hb
    obtain ⟨fu, rfl⟩ : ∃ x, fu = x + 1 := ⟨fu - 1, by omega⟩
    have : k = W := by omega
    subst this
    rw [f_X1_fewestEars_l52]
    unfold f_X1_fewestEars_l52b
    rw [if_pos (Int32.le_refl _)]
    rfl
  | succ m ih =>
    intro k fu b hk hf hb
    obtain ⟨fu, rfl⟩ : ∃ x, fu = x + 1 := ⟨fu - 1, by omega⟩
    have nW : ¬ nI W ≤ nI k := by
      rw [nn_le (by omega) (by omega)]
      omega
    have lb : eaS (earP r nb (nI W)) b k < 128 := by unfold eaS; split <;> omega
    show _ = some (nI (fo (eaS (earP r nb (nI W))) (k + 1) m (eaS (earP r nb (nI W)) b k)), h)
    rw [← ih (k + 1) fu _ (by omega) (by omega) lb, f_X1_fewestEars_l52]
    unfold f_X1_fewestEars_l52b
    rw [if_neg nW, bs_ (x_bitCount S_1 h (s := k) (by omega))]
    dsimp only
    rw [bs_ (x_bitCount S_1 h (s := b) hb)]
    dsimp only
    have pick : (if earP r nb (nI W) k = true then nI k else nI b) = nI (if earP r nb (nI W) k = true then k else b) := by split <;> rfl
    by_cases c : on7 (nI k) < on7 (nI b)
    · rw [if_neg (Int32.not_le.mpr c), ears_j75 _ h7 (by omega) eW hh, pick]
      have : eaS (earP r nb (nI W)) b k = if earP r nb (nI W) k = true then k else b := by
        unfold eaS
        by_cases d : earP r nb (nI W) k = true
        · rw [if_pos d, if_pos ⟨c, d⟩]
        · rw [if_neg d, if_neg fun z => d z.2]
      rw [this]
    · have : eaS (earP r nb (nI W)) b k = b := if_neg fun z => c z.1
      rw [if_pos (Int32.not_lt.mp c), ears_j75z, this]
theorem q_ears {h : AH} {r : Nat → Int32} {p n nb nm W b : Nat} {f : Nat → Cl} (ct : Ct h 3 r p n f nb nm) (hW : W < 128) (eW : prsS r nb = nI W) (hb : b < 128) (d1 : fo (eaS (earP r nb (nI W))) 0 W W = b) (y : Int32) : Qy PW0 h (f_X10_ears S_1 0 y h) (hmw b y) := by
  have hbn := ct.2.2.2.2.2.1
  have h7 := ct.2.2.2.2.2.2.1
  obtain ⟨h1, r1, e1, v1⟩ := q_ears8 ct (nI W) 7 0 FU h (by omega) (by unfold FU; omega) (Eqv.refl h) fun b hb => by omega
  have r2 := q_ears52 (h := h1) h7 hW eW v1 W 0 FU W (by omega) (by unfold FU; omega) hW
  rw [d1] at r2
  have r3 : f_X1_fewestEars S_1 35 3 h = some (nI b, h1) := by
    have pr := q_present h (Or.inl rfl) ct.2.1 ct.2.2.1 hbn h7
    unfold prsS at eW
    rw [eW] at pr
    unfold f_X1_fewestEars
    rw [bs_ (ck_35 h), bs_ pr]
    dsimp only
    rw [bs_ (show f_X1_fewestEars_l8 S_1 FU 35 3 (nI W) (0 : Int32) h = _ from r1)]
    dsimp only
    rw [bs_ (show f_X1_fewestEars_l52 S_1 FU 35 (nI W) (nI W) (0 : Int32) h1 = _ from r2)]
  refine ⟨h1, ?_, e1.mono P37_W0⟩
  unfold f_X10_ears
  rw [bs_ (yr_0_10 h), bs_ (yr_0_2 h), bs_ (yr_2_0 h), bs_ (ck_35 h), bs_ r3]
  dsimp only
  rw [bs_ (q_hmw hb y)]

/-! tokens: the class's row of them -/
def Pk (p j : Nat) : Bool := decide (p = 47 ∨ p = 48 ∨ p = 49 ∨ p = 46 ∧ j = 3)
theorem Pk_1 {p : Nat} (h : p = 1) (j : Nat) : Pk p j = false := decide_eq_false (by omega)
/-- the first n tokens -/
def TkX (h : AH) (b : Nat → Nat) (t n : Nat) : Prop := h.2.1 46 3 = nI n ∧ n ≤ 401 ∧ ∀ i, i < n → h.2.1 47 i = nI (kdT b t (stT b t i)) ∧ h.2.1 48 i = nI (stT b t i) ∧ h.2.1 49 i = nI (nuT b t (stT b t i))
theorem Tp.k {h h' : AH} {b : Nat → Nat} (tp : Tp h b) (e : Eqv Pk h h') : Tp h' b := fun j hj => ⟨(e.i 1 j (Pk_1 rfl j)).trans (tp j hj).1, (tp j hj).2⟩
theorem TkX.add {h : AH} {b : Nat → Nat} {t n : Nat} (k : TkX h b t n) (hn : n < 401) {kd pl nu : Int32} (e1 : kd = nI (kdT b t (stT b t n))) (e2 : pl = nI (stT b t n)) (e3 : nu = nI (nuT b t (stT b t n))) : TkX (stI (stI (stI (stI h 47 n kd) 48 n pl) 49 n nu) 46 3 (nI (n + 1))) b t (n + 1) := by
  obtain ⟨_, _, k3⟩ := k
  refine ⟨stI_s _ _ _ _, by omega, fun i hi => ?_⟩
  by_cases c : i = n
  · subst c
    refine ⟨?_, ?_, ?_⟩
    · rw [ri_p (by decide), ri_p (by decide), ri_p (by decide), stI_s, e1]
    · rw [ri_p (by decide), ri_p (by decide), stI_s, e2]
    · rw [ri_p (by decide), stI_s, e3]
  · obtain ⟨a1, a2, a3⟩ := k3 i (by omega)
    refine ⟨?_, ?_, ?_⟩
    · rw [ri_p (by decide), ri_p (by decide), ri_p (by decide), ri_k c, a1]
    · rw [ri_p (by decide), ri_p (by decide), ri_k c, ri_p (by decide), a2]
    · rw [ri_p (by decide), ri_k c, ri_p (by decide), ri_p (by decide), a3]
theorem Eqv.add4 {h h1 : AH} (e : Eqv Pk h h1) (n : Nat) (kd pl nu v : Int32) : Eqv Pk h (stI (stI (stI (stI h1 47 n kd) 48 n pl) 49 n nu) 46 3 v) := (((e.si (decide_eq_true (by omega))).si (decide_eq_true (by omega))).si (decide_eq_true (by omega))).si (decide_eq_true (by omega))
theorem q_cutL {h : AH} {b : Nat → Nat} {t : Nat} (tp : Tp h b) (ht : t ≤ 400) : ∀ (m i fu k nx : Nat) (h1 : AH), i + m = t → m < fu → Eqv Pk h h1 → TkX h1 b t k → nx ≤ t → skT b t nx = stT b t k → (i < nx ∨ i ≤ stT b t k) → (∀ j, j < k → stT b t j < i) → ∃ h' k', f_X9_cut_l10 S_1 fu 46 1 (nI t) (nI nx) (nI i) h1 = some ((46, nI t), h') ∧ Eqv Pk h h' ∧ TkX h' b t k' ∧ (∀ j, j < k' → stT b t j < t) ∧ stT b t k' = t := by
  intro m
  induction m with
  | zero =>
    intro i fu k nx h1 hi hf e1 tk hnx hs hpos hlt
    obtain ⟨fu, rfl⟩ : ∃ x, fu = x + 1 := ⟨fu - 1, by omega⟩
    rw [f_X9_cut_l10]
    unfold f_X9_cut_l10b
    rw [if_pos (by rw [nn_le (by omega) (by omega)]; omega)]
    have := stT_le b t k
    exact ⟨h1, k, rfl, e1, tk, fun j hj => by have := hlt j hj; omega, by omega⟩
  | succ m ih =>
    intro i fu k nx h1 hi hf e1 tk hnx hs hpos hlt
    obtain ⟨fu, rfl⟩ : ∃ x, fu = x + 1 := ⟨fu - 1, by omega⟩
    have tp1 := tp.k e1
    obtain ⟨s1, s2, s3, s4⟩ := skT_ok (b := b) hnx
    rw [hs] at s1 s2 s3 s4
    rw [f_X9_cut_l10]
    unfold f_X9_cut_l10b
    rw [if_neg (by rw [nn_le (by omega) (by omega)]; omega), bs_ (show lnA S_1 h1 1 = some (nI 400) from rfl), if_neg (by rw [nn_le (by decide) (by omega)]; omega)]
    by_cases c : i < nx
    · rw [if_pos (by rw [nn_lt (by omega) (by omega)]; exact c), lt_e, nI_1]
      exact ih (i + 1) fu k nx h1 (by omega) (by omega) e1 tk hnx hs (by omega) (fun j hj => by have := hlt j hj; omega)
    · rw [if_neg (by rw [nn_lt (by omega) (by omega)]; exact c), bs_ (ai_1 h1 (by omega)), (tp1 i (by omega)).1]
      have bx := (tp1 i (by omega)).2
      by_cases c2 : b i = 32
      · rw [if_pos (by rw [c2]; rfl), lt_e, nI_1]
        have ne : stT b t k ≠ i := fun z => by
          have := s4 (by omega)
          rw [z] at this
          exact this c2
        exact ih (i + 1) fu k nx h1 (by omega) (by omega) e1 tk hnx hs (by omega) (fun j hj => by have := hlt j hj; omega)
      · have ei : stT b t k = i := by
          by_cases z : i < stT b t k
          · exact absurd (s3 i (by omega) z) c2
          · omega
        obtain ⟨n1, n2, _, _⟩ := enT_ok (b := b) (t := t) (i := i) (by omega)
        have hk : k ≤ stT b t k := stT_ge fun j hj => by have := hlt j hj; omega
        rw [if_neg (by rw [show (32 : Int32) = nI 32 from rfl, nn_eq (by omega) (by decide)]; exact c2), bs_ (q_endOf tp1 ht (by omega))]
        dsimp only
        rw [bs_ (q_kindOf tp1 ht (by omega))]
        dsimp only
        rw [bs_ (q_numberOf tp1 (by omega) (by omega))]
        dsimp only
        rw [bs_ (show ckO S_1 h1 46 9 = some () from rfl), bs_ (q_add h1 (by omega) tk.1 _ _ _)]
        dsimp only
        rw [lt_e, nI_1]
        refine ih (i + 1) fu (k + 1) (enT b t i) _ (by omega) (by omega) (e1.add4 _ _ _ _ _) (tk.add (by omega) (by rw [ei]) (by rw [ei]) ?_) n2 ?_ ?_ fun j hj => ?_
        · rw [ei]
          unfold nuT
          rw [if_neg (by omega)]
        · rw [stT_s (by omega), ei]
        · have := stT_lt (b := b) (t := t) (k := k) (by omega)
          omega
        · by_cases ej : j = k
          · rw [ej, ei]; omega
          · have := hlt j (by omega)
            omega
/-- the tokens, the end behind them -/
theorem q_cut {h : AH} {b : Nat → Nat} {t : Nat} (tp : Tp h b) (ht : t ≤ 400) : ∃ h' n, f_X9_cut S_1 46 1 (nI t) h = some ((), h') ∧ Eqv Pk h h' ∧ TkX h' b t (n + 1) ∧ (∀ j, j < n → stT b t j < t) ∧ stT b t n = t ∧ n ≤ t := by
  have e0 : Eqv Pk h (stI h 46 3 0) := (Eqv.refl h).si (decide_eq_true (by omega))
  obtain ⟨h1, k, r1, e1, tk, k1, k2⟩ := q_cutL tp ht t 0 FU 0 0 (stI h 46 3 0) (by omega) (by unfold FU; omega) e0 ⟨stI_s _ _ _ _, by omega, fun i hi => by omega⟩ (Nat.zero_le t) rfl (Or.inr (Nat.zero_le _)) fun j hj => by omega
  have hk : k ≤ stT b t k := stT_ge k1
  refine ⟨_, k, ?_, e1.add4 k 285 (nI t) 0 (nI (k + 1)), tk.add (by omega) ?_ ?_ ?_, k1, k2, by omega⟩
  · unfold f_X9_cut
    rw [bs_ (show pI S_1 h 46 9 3 (0 : Int32) = some (stI h 46 3 0) from rfl), bs_ (show f_X9_cut_l10 S_1 FU 46 1 (nI t) (0 : Int32) (0 : Int32) (stI h 46 3 0) = _ from r1)]
    dsimp only
    rw [bs_ (show ckO S_1 h1 46 9 = some () from rfl), bs_ (q_add h1 (by omega) tk.1 _ _ _)]
  · rw [k2]
    unfold kdT
    rw [if_pos (Nat.le_refl t)]
    rfl
  · rw [k2]
  · rw [k2]
    unfold nuT
    rw [if_pos (Nat.le_refl t)]
    rfl

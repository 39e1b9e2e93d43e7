/-! reading: the other side's clauses -/
def PFr (p j : Nat) : Bool := decide (p = 90 ∨ p = 91 ∨ p = 92 ∨ p = 93 ∨ p = 94 ∨ p = 108 ∨ p = 80 ∧ (14 ≤ j ∧ j ≤ 19 ∨ j = 21 ∨ j = 23 ∨ j = 26 ∨ j = 29 ∨ j = 30))
theorem PF_o {p j : Nat} (h : p = 90 ∨ p = 91 ∨ p = 92 ∨ p = 93 ∨ p = 94 ∨ p = 108 ∨ p = 80 ∧ (14 ≤ j ∧ j ≤ 19 ∨ j = 21 ∨ j = 23 ∨ j = 26 ∨ j = 29 ∨ j = 30)) : PFr p j = true := decide_eq_true h
theorem PE_F (p j : Nat) (h : PE p j = true) : PFr p j = true := by
  have h := of_decide_eq_true h
  exact PF_o (by omega)
def PH (p j : Nat) : Bool := decide (p = 90 ∨ p = 108 ∨ p = 80 ∧ j = 21)
theorem PH_o {p j : Nat} (h : p = 90 ∨ p = 108 ∨ p = 80 ∧ j = 21) : PH p j = true := decide_eq_true h
theorem PH_F (p j : Nat) (h : PH p j = true) : PFr p j = true := by
  have h := of_decide_eq_true h
  exact PF_o (by omega)
theorem MB.h {h h' : AH} {b : Nat → Nat} {t n i lv c : Nat} {ord : Bool} (k : MB h b t n ord i lv c) (e : Eqv PH h h') : MB h' b t n ord i lv c := by
  obtain ⟨⟨q1, q2, q3⟩, a4, a5, ⟨a6, a7⟩, a8, b3, b5⟩ := k
  exact ⟨⟨q1.n e (fun j x1 x2 => decide_eq_false (by omega)) (fun j => decide_eq_false (by omega)), q2, q3⟩, (e.i 80 19 rfl).trans a4, (e.i 80 20 rfl).trans a5, ⟨(e.i 80 26 rfl).trans a6, a7⟩, (e.i 80 23 rfl).trans a8, b3, b5.e e fun p j hp => decide_eq_false (by omega)⟩
theorem BadE.h {h h' : AH} {b : Nat → Nat} {t j : Nat} (k : BadE h b t j) (e : Eqv PH h h') : BadE h' b t j := ⟨(e.i 80 19 rfl).trans k.1, (e.i 80 18 rfl).trans k.2⟩
theorem MB.n4 {h : AH} {b : Nat → Nat} {t n i lv c : Nat} {ord : Bool} (k : MB h b t n ord i lv c) : c ≤ i ∧ i ≤ n ∧ n ≤ 400 ∧ lv ≤ 50 ∧ tkK b t i ≤ 285 := ⟨k.2.2.2.2.2.1, k.1.2.2, k.1.2.1.1, k.2.2.2.1.2, tk_kind (fun j hj => (k.1.1.1.2.2 j hj).2) k.1.1.1.2.1⟩
theorem MB.next {h : AH} {b : Nat → Nat} {t n i lv c : Nat} {ord : Bool} (k : MB h b t n ord i lv c) (hi : tkK b t i ≠ 285) : ∃ h', f_X11_next S_1 80 h = some ((), h') ∧ Eqv PN h h' ∧ MB h' b t n ord (i + 1) lv c := by
  obtain ⟨⟨q1, q2, q3⟩, a4, a5, ⟨a6, a7⟩, a8, b3, b5⟩ := k
  obtain ⟨h', r, e, c'⟩ := q1.next hi
  have hl := q2.lt q3 hi
  exact ⟨h', r, e, ⟨c', q2, hl⟩, (e.i 80 19 rfl).trans a4, (e.i 80 20 rfl).trans a5, ⟨(e.i 80 26 rfl).trans a6, a7⟩, (e.i 80 23 rfl).trans a8, by omega, b5.e e fun p j hp => decide_eq_false (by omega)⟩
theorem MB.must1 {h : AH} {b : Nat → Nat} {t n i lv c : Nat} {ord : Bool} (k : MB h b t n ord i lv c) (hi : tkK b t i ≠ 285) : ∃ h', f_X11_must S_1 80 1 h = some ((), h') ∧ Eqv PN h h' ∧ MB h' b t n ord (i + 1) lv c := by
  obtain ⟨h', r, e, m⟩ := k.next hi
  refine ⟨h', ?_, e, m⟩
  unfold f_X11_must
  rw [bs_ (gi80 h 19), k.2.1, if_pos rfl, if_neg (by decide), bs_ (gi80 h 19), k.2.1, if_pos rfl, bs_ (ck_80 h), bs_ r]
theorem MB.must0 {h : AH} {b : Nat → Nat} {t n i lv c : Nat} {ord : Bool} (k : MB h b t n ord i lv c) : ∃ h', f_X11_must S_1 80 0 h = some ((), h') ∧ Eqv PE h h' ∧ BadE h' b t i := by
  obtain ⟨⟨a1, a2, a3⟩, a4, _⟩ := k
  refine ⟨stI (stI h 80 19 1) 80 18 (nI (stT b t i)), ?_, ((Eqv.refl h).si (PE_o (by omega))).si (PE_o (by omega)), ?_, stI_s _ _ _ _⟩
  · unfold f_X11_must
    rw [bs_ (gi80 h 19), a4, if_pos rfl, if_pos rfl, bs_ (show pZ S_1 h 80 11 19 (1 : Int32) = some (stI h 80 19 1) from rfl), bs_ (gi80 _ 14), show (stI h 80 19 1).2.1 80 14 = nI (stT b t i) from (ri_k (by decide)).trans a1.2.1, bs_ (pi80 _ 18 _), bs_ (gi80 _ 19), show (stI (stI h 80 19 1) 80 18 (nI (stT b t i))).2.1 80 19 = 1 from (ri_k (by decide)).trans (stI_s _ _ _ _), if_neg (by decide)]
  · exact (ri_k (by decide)).trans (stI_s _ _ _ _)
def OpM (h : AH) (ord : Bool) (s : Option DD) (i j : Nat) : Prop := match s with
  | none => i = j
  | some d => ∃ N L, L ≤ 50 ∧ SumM ord (h.2.1 91) (h.2.1 92) N i j d L
def TpM (h : AH) (ord : Bool) (s : Option DD) (i j : Nat) : Prop := match s with
  | none => i = j
  | some d => ∃ N L, L ≤ 50 ∧ TstM ord (h.2.1 91) (h.2.1 92) N i j d L
theorem OpM.cong {h h' : AH} {ord : Bool} {s : Option DD} {i j : Nat} (k : OpM h ord s i j) (e : Cod h h' j) : OpM h' ord s i j := by
  rcases s with _ | d
  · exact k
  · obtain ⟨N, L, k1, k2⟩ := k
    exact ⟨N, L, k1, k2.cong fun t ht => e t ht⟩
theorem TpM.cong {h h' : AH} {ord : Bool} {s : Option DD} {i j : Nat} (k : TpM h ord s i j) (e : Cod h h' j) : TpM h' ord s i j := by
  rcases s with _ | d
  · exact k
  · obtain ⟨N, L, k1, k2⟩ := k
    exact ⟨N, L, k1, k2.cong fun t ht => e t ht⟩
theorem OpM.le {h : AH} {ord : Bool} {s : Option DD} {i j : Nat} (k : OpM h ord s i j) : i ≤ j := by
  rcases s with _ | d
  · exact Nat.le_of_eq k
  · obtain ⟨N, L, k1, k2⟩ := k
    have := k2.lt
    omega
theorem TpM.le {h : AH} {ord : Bool} {s : Option DD} {i j : Nat} (k : TpM h ord s i j) : i ≤ j := by
  rcases s with _ | d
  · exact Nat.le_of_eq k
  · obtain ⟨N, L, k1, k2⟩ := k
    have := k2.lt
    omega
theorem Cod.h {h h' : AH} {c : Nat} (e : Eqv PH h h') : Cod h h' c := fun j _ => ⟨e.i 91 j (decide_eq_false (by omega)), e.i 92 j (decide_eq_false (by omega))⟩
theorem Cod.le {h h' : AH} {c c' : Nat} (k : Cod h h' c) (hc : c' ≤ c) : Cod h h' c' := fun j hj => k j (by omega)
/-- a sum, a test: read -/
theorem m_sumC {h : AH} {b : Nat → Nat} {t n i lv c : Nat} {ord : Bool} (k : MB h b t n ord i lv c) : match sumS (tkK b t) (tkU b t) ord 8 i lv with
  | .inl j => ∃ h', f_X11_readExpression S_1 80 0 h = some ((), h') ∧ Eqv PE h h' ∧ BadE h' b t j
  | .inr (i', lv', d) => ∃ h' c', f_X11_readExpression S_1 80 0 h = some ((), h') ∧ Eqv PE h h' ∧ MB h' b t n ord i' lv' c' ∧ Cod h h' c ∧ OpM h' ord (some d) c c' := by
  have q := m_exprS k
  have g := sum_go (U := tkU b t) (ord := ord) k.1.2.1 8 i lv k.1.2.2
  revert q g
  rcases sumS (tkK b t) (tkU b t) ord 8 i lv with j | ⟨i', lv', d⟩
  · exact fun q _ => q
  · rintro ⟨h', c', N, r, e, m, cd, s⟩ ⟨g1, g2, g3, g4⟩
    exact ⟨h', c', r, e, m, cd, N, lv' - lv, by omega, s⟩
/-- the if, if there is one -/
def RIf (h : AH) (b : Nat → Nat) (t n : Nat) (ord : Bool) (c : Nat) (r : Nat ⊕ (Nat × Nat × Option DD)) (res : Option (Unit × AH)) : Prop := match r with
  | .inl j => ∃ h', res = some ((), h') ∧ Eqv PE h h' ∧ BadE h' b t j
  | .inr (i', lv', s) => ∃ h' c', res = some ((), h') ∧ Eqv PE h h' ∧ MB h' b t n ord i' lv' c' ∧ Cod h h' c ∧ TpM h' ord s c c'
theorem m_if {h : AH} {b : Nat → Nat} {t n i lv c : Nat} {ord : Bool} (k : MB h b t n ord i lv c) : RIf h b t n ord c (ifS (tkK b t) (tkU b t) ord i lv) ((ckO S_1 h 80 11).bind fun _ =>
    (f_X11_isWord S_1 80 (294 : Int64) h).bind fun z => match z with
    | (z_24, h_23) =>
    if z_24 = (0 : Int32) then some ((), h_23)
    else
      (ckO S_1 h_23 80 11).bind fun _ =>
      (f_X11_next S_1 80 h_23).bind fun z => match z with
      | (_, h_33) =>
      (ckO S_1 h_33 80 11).bind fun _ =>
      (f_X11_readExpression S_1 80 (1 : Int32) h_33)) := by
  rw [bs_ (ck_80 h), bs_ (show f_X11_isWord S_1 80 (294 : Int64) h = _ from m_isWord (k := 3) k.1.1 (by decide))]
  dsimp only
  unfold ifS
  by_cases c1 : tkK b t i = 259
  · rw [if_pos c1, decide_eq_true (show tkK b t i = 256 + 3 from c1), if_neg (show ¬ bI true = 0 by decide), bs_ (ck_80 h)]
    obtain ⟨h1, r1, e1, k1⟩ := k.next (by omega)
    rw [bs_ r1]
    dsimp only
    rw [bs_ (ck_80 h1)]
    have q := m_exprT k1
    have g := test_go (U := tkU b t) (ord := ord) k1.1.2.1 8 (i + 1) lv k1.1.2.2
    unfold optS
    revert q g
    rcases testS (tkK b t) (tkU b t) ord 8 (i + 1) lv with j | ⟨i', lv', d⟩
    · rintro ⟨h', r, e, x⟩ -
      exact ⟨h', r, (e1.mono PN_E).trans e, x⟩
    · rintro ⟨h', c', N, r, e, m, cd, s⟩ ⟨g1, g2, g3, g4⟩
      exact ⟨h', c', r, (e1.mono PN_E).trans e, m, (Cod.n e1).trans cd (Nat.le_refl _), N, lv' - lv, by omega, s⟩
  · rw [if_neg c1, decide_eq_false (show ¬ tkK b t i = 256 + 3 from c1), if_pos (show bI false = 0 from rfl)]
    exact ⟨h, c, rfl, Eqv.refl h, k, Cod.refl h c, rfl⟩
/-- which head word it is -/
theorem m_heads {h : AH} {b : Nat → Nat} {t i : Nat} (c : Cur h b t i) (cn : CnS h) (kl : tkK b t i ≤ 285) : f_X11_readLaw_l4 S_1 FU 80 (-1) 0 h = some ((80, if 263 ≤ tkK b t i ∧ tkK b t i ≤ 265 then nI (tkK b t i - 263) else -1), h) := by
  have g : ∀ (m k fu : Nat) (s : Int32), k + m = 3 → m < fu → f_X11_readLaw_l4 S_1 fu 80 s (nI k) h = some ((80, fo (fun s k => if tkK b t i = 263 + k then nI k else s) k m s), h) := by
    intro m
    induction m with
    | zero =>
      intro k fu s hk hf
      obtain ⟨fu, rfl⟩ : ∃ x, fu = x + 1 := ⟨fu - 1, by omega⟩
      have : k = 3 := by omega
      subst this
      rw [f_X11_readLaw_l4]
      rfl
    | succ m ih =>
      intro k fu s hk hf
      obtain ⟨fu, rfl⟩ : ∃ x, fu = x + 1 := ⟨fu - 1, by omega⟩
      rw [f_X11_readLaw_l4]
      unfold f_X11_readLaw_l4b
      rw [if_neg (by rw [show (3 : Int32) = nI 3 from rfl, nn_le (by decide) (by omega)]; omega), bs_ (yr_80_33 h), bs_ (ai_97 h (by omega)), cn 97 (Or.inr (Or.inr (Or.inl rfl))), cn_97 k (by omega), bs_ (ck_80 h), bs_ (m_isWord c (by omega))]
      dsimp only
      show _ = some ((80, fo _ (k + 1) m (if tkK b t i = 263 + k then nI k else s)), h)
      by_cases e : tkK b t i = 263 + k
      · rw [decide_eq_true (show tkK b t i = 256 + (7 + k) by omega), if_neg (show ¬ bI true = 0 by decide), if_pos e, lt_e, nI_1]
        exact ih (k + 1) fu _ (by omega) (by omega)
      · rw [decide_eq_false (show ¬ tkK b t i = 256 + (7 + k) by omega), if_pos (show bI false = 0 from rfl), if_neg e, lt_e, nI_1]
        exact ih (k + 1) fu _ (by omega) (by omega)
  have v : ∀ K, K ≤ 285 → fo (fun (s : Int32) k => if K = 263 + k then nI k else s) 0 3 (-1) = if 263 ≤ K ∧ K ≤ 265 then nI (K - 263) else -1 := by decide +kernel
  rw [show f_X11_readLaw_l4 S_1 FU 80 (-1 : Int32) (0 : Int32) h = _ from g 3 0 FU (-1) rfl (by unfold FU; omega), v _ kl]
theorem m_zero90 {m : Nat} (hm : m < 12) (x1 : Int32) : ∀ (d k : Nat) (h : AH) (fu : Nat), k + d = 8 → d < fu → ∃ h', f_X11_readLaw_l75 S_1 fu 80 x1 (nI (8 * m)) (nI k) h = some ((80, x1, nI (8 * m)), h') ∧ Eqv PH h h' ∧ (∀ j, j < 8 * m → h'.2.1 90 j = h.2.1 90 j) ∧ h'.2.1 80 = h.2.1 80
  | 0, k, h, fu, hk, hf => by
    obtain ⟨fu, rfl⟩ : ∃ x, fu = x + 1 := ⟨fu - 1, by omega⟩
    have : k = 8 := by omega
    subst this
    refine ⟨h, ?_, Eqv.refl h, fun _ _ => rfl, rfl⟩
    rw [f_X11_readLaw_l75]
    unfold f_X11_readLaw_l75b
    rw [if_pos (by decide)]
  | d + 1, k, h, fu, hk, hf => by
    obtain ⟨fu, rfl⟩ : ∃ x, fu = x + 1 := ⟨fu - 1, by omega⟩
    obtain ⟨h', r, e, o, z⟩ := m_zero90 hm x1 d (k + 1) (stI h 90 (8 * m + k) 0) fu (by omega) (by omega)
    refine ⟨h', ?_, ((Eqv.refl h).si (PH_o (by omega))).trans e, fun j hj => (o j hj).trans (ri_k (by omega)), z.trans (funext fun j => ri_p (by decide))⟩
    rw [f_X11_readLaw_l75]
    unfold f_X11_readLaw_l75b
    rw [if_neg (by rw [show (8 : Int32) = nI 8 from rfl, nn_le (by decide) (by omega)]; omega), bs_ (yr_80_22 h), nI_add, bs_ (si_90 h _ (by omega)), lt_e, nI_1]
    exact r

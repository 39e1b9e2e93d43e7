/-! the reference reckons what its code means -/
def PM (p j : Nat) : Bool := decide (p = 100 ∨ p = 80 ∧ j = 38)
/-- which word of the class an operation of the reference is -/
def WI (ord : Bool) (op arg : Int32) (k : Nat) : Prop := match ord with
  | false => k < 9 ∧ op = nI (k + 1)
  | true => (k = 7 ∧ op = 1) ∨ (k = 9 ∧ op = 2) ∨ (k = 10 ∧ op = 3) ∨ (k = 6 ∧ op = 4) ∨ (k = 11 ∧ op = 5) ∨ (∃ b, b < 7 ∧ k = 18 + b ∧ op = 6 ∧ arg = nI b) ∨ (∃ m, m < 6 ∧ k = 12 + m ∧ op = 7 ∧ arg = nI m)
def SumM (ord : Bool) (c a : Nat → Int32) : Nat → Nat → Nat → DD → Nat → Prop
  | 0, _, _, _, _ => False
  | n + 1, i, j, d, L => (j = i + 1 ∧ L = 1 ∧ ((c i = 0 ∧ d = fun _ => some (Int32.toInt64 (a i))) ∨ (∃ k, WI ord (c i) (a i) k ∧ d = fun e => some (e k)))) ∨
    ∃ m j' d1 d2 L1 L2 op, SumM ord c a n i m d1 L1 ∧ SumM ord c a n m j' d2 L2 ∧ j = j' + 1 ∧ 20 ≤ op ∧ op < 25 ∧ c j' = nI op ∧ d = binD op d1 d2 ∧ L = L1 + L2
def TstM (ord : Bool) (c a : Nat → Int32) : Nat → Nat → Nat → DD → Nat → Prop
  | 0, _, _, _, _ => False
  | n + 1, i, j, d, L => (∃ m j' d1 d2 L1 L2 op, SumM ord c a n i m d1 L1 ∧ SumM ord c a n m j' d2 L2 ∧ j = j' + 1 ∧ 25 ≤ op ∧ op < 28 ∧ c j' = nI op ∧ d = binD op d1 d2 ∧ L = L1 + L2) ∨
    (∃ j' d1, TstM ord c a n i j' d1 L ∧ j = j' + 1 ∧ c j' = 28 ∧ d = notD d1) ∨
    (∃ m d1 d2 L1 L2, TstM ord c a n i m d1 L1 ∧ TstM ord c a n (m + 1) j d2 L2 ∧ c m = 29 ∧ a m = nI j ∧ d = andD d1 d2 ∧ L = L1 + L2) ∨
    (∃ m d1 d2 L1 L2, TstM ord c a n i m d1 L1 ∧ TstM ord c a n (m + 1) j d2 L2 ∧ c m = 30 ∧ a m = nI j ∧ d = orD d1 d2 ∧ L = L1 + L2)
/-- where the code lies -/
def CodeM (ord : Bool) (h : AH) (to : Nat) (c a : Nat → Int32) : Prop := to ≤ 400 ∧ match ord with
  | false => h.2.1 80 20 = 0 ∧ ∃ L, h.2.1 80 34 = nI L ∧ L ≤ 4590 ∧ ∀ k, k < to → h.2.1 82 (L + 98 + 2 * k) = c k ∧ h.2.1 82 (L + 98 + 2 * k + 1) = a k
  | true => h.2.1 80 20 = 1 ∧ ∀ k, k < to → h.2.1 91 k = c k ∧ h.2.1 92 k = a k
def EnvM (ord : Bool) (h : AH) (e : Nat → Int64) : Prop := match ord with
  | false => ∀ k, k < 9 → h.2.2.1 98 (k + 1) = e k
  | true => h.2.2.1 99 1 = e 7 ∧ h.2.2.1 99 2 = e 9 ∧ h.2.2.1 99 3 = e 10 ∧ h.2.2.1 99 4 = e 6 ∧ h.2.2.1 99 5 = e 11 ∧ (∃ n, n ≤ 7 ∧ h.2.1 82 0 = nI n ∧ ∀ b, b < 7 → e (18 + b) = if b < n then Int32.toInt64 (h.2.1 82 (10 + b)) else -1) ∧ (∃ n, n ≤ 6 ∧ h.2.1 82 1 = nI n ∧ ∀ m, m < 6 → e (12 + m) = if m < n then Int32.toInt64 (h.2.1 82 (17 + m)) else -1)
theorem PM_100 (j : Nat) : PM 100 j = true := by simp [PM]
theorem PM_n {p j : Nat} (h : p ≠ 100) (h2 : p ≠ 80 ∨ j ≠ 38) : PM p j = false := by
  unfold PM
  apply decide_eq_false
  rintro (e | ⟨e, e'⟩)
  · exact h e
  · rcases h2 with h2 | h2
    · exact h2 e
    · exact h2 e'
theorem CodeM.e {ord : Bool} {h h' : AH} {to : Nat} {c a : Nat → Int32} (k : CodeM ord h to c a) (e : Eqv PM h h') : CodeM ord h' to c a := by
  refine ⟨k.1, ?_⟩
  have k2 := k.2
  cases ord with
  | false =>
    obtain ⟨h1, L, h2, h3, h4⟩ := k2
    refine ⟨(e.i 80 20 (PM_n (by decide) (Or.inr (by decide)))).trans h1, L, (e.i 80 34 (PM_n (by decide) (Or.inr (by decide)))).trans h2, h3, fun k hk => ⟨(e.i _ _ (PM_n (by decide) (Or.inl (by decide)))).trans (h4 k hk).1, (e.i _ _ (PM_n (by decide) (Or.inl (by decide)))).trans (h4 k hk).2⟩⟩
  | true =>
    obtain ⟨h1, h4⟩ := k2
    exact ⟨(e.i 80 20 (PM_n (by decide) (Or.inr (by decide)))).trans h1, fun k hk => ⟨(e.i _ _ (PM_n (by decide) (Or.inl (by decide)))).trans (h4 k hk).1, (e.i _ _ (PM_n (by decide) (Or.inl (by decide)))).trans (h4 k hk).2⟩⟩
theorem EnvM.e {ord : Bool} {h h' : AH} {ev : Nat → Int64} (k : EnvM ord h ev) (e : Eqv PM h h') : EnvM ord h' ev := by
  have l : ∀ p j, p ≠ 100 → p ≠ 80 → h'.2.2.1 p j = h.2.2.1 p j := fun p j a b => e.l p j (PM_n a (Or.inl b))
  have r : ∀ j, h'.2.1 82 j = h.2.1 82 j := fun j => e.i 82 j (PM_n (by decide) (Or.inl (by decide)))
  cases ord with
  | false => exact fun j hj => (l _ _ (by decide) (by decide)).trans (k j hj)
  | true =>
    obtain ⟨a1, a2, a3, a4, a5, ⟨n, b1, b2, b3⟩, m, c1, c2, c3⟩ := k
    refine ⟨(l _ _ (by decide) (by decide)).trans a1, (l _ _ (by decide) (by decide)).trans a2, (l _ _ (by decide) (by decide)).trans a3, (l _ _ (by decide) (by decide)).trans a4, (l _ _ (by decide) (by decide)).trans a5, ⟨n, b1, (r 0).trans b2, fun b hb => ?_⟩, m, c1, (r 1).trans c2, fun b hb => ?_⟩
    · rw [r]; exact b3 b hb
    · rw [r]; exact c3 b hb
theorem pM_fetch {ord : Bool} (h : AH) {fu to dp i : Nat} {c a : Nat → Int32} (hc : CodeM ord h to c a) (hi : i < to) (hb : h.2.1 80 38 = 0) : f_X11_reckonAll_l10 S_1 (fu + 1) 80 (nI to) (nI dp) (nI i) h = f_X11_reckonAll_l10_j95 S_1 (f_X11_reckonAll_l10 S_1 fu) 80 (nI to) (nI dp) (nI i) (c i) (a i) h := by
  obtain ⟨ht, hc⟩ := hc
  rw [f_X11_reckonAll_l10]
  unfold f_X11_reckonAll_l10b
  have c1 : ¬ nI to ≤ nI i := by rw [nn_le (by omega) (by omega)]; omega
  rw [if_neg c1, bs_ (yi_80 h 38), if_pos hb, bs_ (yi_80 h 20)]
  cases ord with
  | false =>
    obtain ⟨h1, L, h2, h3, h4⟩ := hc
    obtain ⟨k1, k2⟩ := h4 i hi
    have x1 : (nI L + (98 : Int32)) + (2 : Int32) * nI i = nI (L + 98 + 2 * i) := by
      rw [nI_l2, nI_l3, nI_add]
    have x2 : (nI L + (98 : Int32)) + (2 : Int32) * nI i + (1 : Int32) = nI (L + 98 + 2 * i + 1) := by
      rw [x1, nI_1]
    rw [if_pos h1, bs_ (yr_80_3 h), bs_ (yi_80 h 34), h2, x1, bs_ (ai_82 h (by omega)), k1]
    unfold f_X11_reckonAll_l10_j57
    rw [bs_ (yi_80 h 20), if_pos h1, bs_ (yr_80_3 h), bs_ (yi_80 h 34), h2, x2, bs_ (ai_82 h (by omega)), k2]
  | true =>
    obtain ⟨h1, h4⟩ := hc
    obtain ⟨k1, k2⟩ := h4 i hi
    have n1 : ¬ h.2.1 80 20 = 0 := by rw [h1]; decide
    rw [if_neg n1, bs_ (yr_80_24 h), bs_ (ai_91 h (by omega)), k1]
    unfold f_X11_reckonAll_l10_j57
    rw [bs_ (yi_80 h 20), if_neg n1, bs_ (yr_80_25 h), bs_ (ai_92 h (by omega)), k2]
theorem pM_num (rc : Nat → Int32 → Int32 → Int32 → AH → Option ((Nat × Int32) × AH)) (h : AH) {to dp i : Nat} (x : Int32) (hd : dp < 400) : f_X11_reckonAll_l10_j95 S_1 rc 80 (nI to) (nI dp) (nI i) 0 x h = rc 80 (nI to) (nI (dp + 1)) (nI (i + 1)) (stJ h 100 dp (Int32.toInt64 x)) := by
  unfold f_X11_reckonAll_l10_j95
  rw [lt_e, if_neg (by decide), bs_ (yr_80_37 h), if_pos rfl, bs_ (si_100 h _ hd), lt_e, nI_1, nI_1]
theorem pM_word {ord : Bool} (rc : Nat → Int32 → Int32 → Int32 → AH → Option ((Nat × Int32) × AH)) (h : AH) {to dp i k : Nat} {op x : Int32} {e : Nat → Int64} (ho : h.2.1 80 20 = bI ord) (he : EnvM ord h e) (hk : WI ord op x k) (hd : dp < 400) : f_X11_reckonAll_l10_j95 S_1 rc 80 (nI to) (nI dp) (nI i) op x h = rc 80 (nI to) (nI (dp + 1)) (nI (i + 1)) (stJ h 100 dp (e k)) := by
  unfold f_X11_reckonAll_l10_j95
  rw [lt_e]
  cases ord with
  | false =>
    obtain ⟨hk, rfl⟩ := hk
    have n1 : ¬ (20 : Int32) ≤ nI (k + 1) := by rw [show (20 : Int32) = nI 20 from rfl, nn_le (by decide) (by omega)]; omega
    have n2 : ¬ nI (k + 1) = (0 : Int32) := by rw [z_eq (by omega)]; omega
    rw [if_neg n1, bs_ (yr_80_37 h), if_neg n2, bs_ (yi_80 h 20), if_pos (show h.2.1 80 20 = 0 from ho), bs_ (yr_80_35 h), bs_ (ai_98 h (by omega)), bs_ (si_100 h _ hd), lt_e, nI_1, nI_1, he k hk]
  | true =>
    have n1 : ¬ h.2.1 80 20 = 0 := by rw [ho]; decide
    obtain ⟨a1, a2, a3, a4, a5, ⟨n, b1, b2, b3⟩, m, c1, c2, c3⟩ := he
    have nw : ∀ j, 1 ≤ j → j ≤ 5 → ¬ (20 : Int32) ≤ nI j ∧ ¬ nI j = (0 : Int32) ∧ ¬ (6 : Int32) ≤ nI j := fun j h1 h2 => ⟨by rw [show (20 : Int32) = nI 20 from rfl, nn_le (by decide) (by omega)]; omega, by rw [z_eq (by omega)]; omega, by rw [show (6 : Int32) = nI 6 from rfl, nn_le (by decide) (by omega)]; omega⟩
    rcases hk with ⟨rfl, rfl⟩ | ⟨rfl, rfl⟩ | ⟨rfl, rfl⟩ | ⟨rfl, rfl⟩ | ⟨rfl, rfl⟩ | ⟨b, hb, rfl, rfl, rfl⟩ | ⟨b, hb, rfl, rfl, rfl⟩
    · rw [show (1 : Int32) = nI 1 from rfl, if_neg (nw 1 (by decide) (by decide)).1, bs_ (yr_80_37 h), if_neg (nw 1 (by decide) (by decide)).2.1, bs_ (yi_80 h 20), if_neg n1, if_neg (nw 1 (by decide) (by decide)).2.2, bs_ (yr_80_36 h), bs_ (ai_99 h (by decide)), bs_ (si_100 h _ hd), lt_e, nI_add, nI_add, a1]
    · rw [show (2 : Int32) = nI 2 from rfl, if_neg (nw 2 (by decide) (by decide)).1, bs_ (yr_80_37 h), if_neg (nw 2 (by decide) (by decide)).2.1, bs_ (yi_80 h 20), if_neg n1, if_neg (nw 2 (by decide) (by decide)).2.2, bs_ (yr_80_36 h), bs_ (ai_99 h (by decide)), bs_ (si_100 h _ hd), lt_e, nI_1, nI_1, a2]
    · rw [show (3 : Int32) = nI 3 from rfl, if_neg (nw 3 (by decide) (by decide)).1, bs_ (yr_80_37 h), if_neg (nw 3 (by decide) (by decide)).2.1, bs_ (yi_80 h 20), if_neg n1, if_neg (nw 3 (by decide) (by decide)).2.2, bs_ (yr_80_36 h), bs_ (ai_99 h (by decide)), bs_ (si_100 h _ hd), lt_e, nI_1, nI_1, a3]
    · rw [show (4 : Int32) = nI 4 from rfl, if_neg (nw 4 (by decide) (by decide)).1, bs_ (yr_80_37 h), if_neg (nw 4 (by decide) (by decide)).2.1, bs_ (yi_80 h 20), if_neg n1, if_neg (nw 4 (by decide) (by decide)).2.2, bs_ (yr_80_36 h), bs_ (ai_99 h (by decide)), bs_ (si_100 h _ hd), lt_e, nI_1, nI_1, a4]
    · rw [show (5 : Int32) = nI 5 from rfl, if_neg (nw 5 (by decide) (by decide)).1, bs_ (yr_80_37 h), if_neg (nw 5 (by decide) (by decide)).2.1, bs_ (yi_80 h 20), if_neg n1, if_neg (nw 5 (by decide) (by decide)).2.2, bs_ (yr_80_36 h), bs_ (ai_99 h (by decide)), bs_ (si_100 h _ hd), lt_e, nI_1, nI_1, a5]
    · rw [if_neg (by decide), bs_ (yr_80_37 h), if_neg (by decide), bs_ (yi_80 h 20), if_neg n1, if_pos (by decide), if_pos rfl, bs_ (ck_80 h), bs_ (m_isBird h (nI b) b2 b1), b3 b hb]
      by_cases e : b < n
      · have e2 : decide (0 ≤ nI b ∧ nI b < nI n) = true := decide_eq_true ⟨nI_pos' (by omega), by rw [nn_lt (by omega) (by omega)]; exact e⟩
        dsimp only
        rw [e2, if_neg (by decide), bs_ (yr_80_3 h), show (10 : Int32) + nI b = nI (10 + b) from nI_add 10 b, bs_ (ai_82 h (by omega)), bs_ (si_100 h _ hd), lt_e, nI_1, nI_1, if_pos e]
      · have e2 : decide (0 ≤ nI b ∧ nI b < nI n) = false := decide_eq_false fun x => e (by have := x.2; rwa [nn_lt (by omega) (by omega)] at this)
        dsimp only
        rw [e2, if_pos (show bI false = 0 from rfl), bs_ (si_100 h _ hd), lt_e, nI_1, nI_1, if_neg e]
        rfl
    · rw [if_neg (by decide), bs_ (yr_80_37 h), if_neg (by decide), bs_ (yi_80 h 20), if_neg n1, if_pos (by decide), if_neg (by decide), bs_ (ck_80 h), bs_ (m_isMatter h (nI b) c2 (by omega)), c3 b hb]
      by_cases e : b < m
      · have e2 : decide (0 ≤ nI b ∧ nI b < nI m) = true := decide_eq_true ⟨nI_pos' (by omega), by rw [nn_lt (by omega) (by omega)]; exact e⟩
        dsimp only
        rw [e2, if_neg (by decide), bs_ (yr_80_3 h), show (17 : Int32) + nI b = nI (17 + b) from nI_add 17 b, bs_ (ai_82 h (by omega)), bs_ (si_100 h _ hd), lt_e, nI_1, nI_1, if_pos e]
      · have e2 : decide (0 ≤ nI b ∧ nI b < nI m) = false := decide_eq_false fun x => e (by have := x.2; rwa [nn_lt (by omega) (by omega)] at this)
        dsimp only
        rw [e2, if_pos (show bI false = 0 from rfl), bs_ (si_100 h _ hd), lt_e, nI_1, nI_1, if_neg e]

/-! tokens: the other side's cursor -/
def oJ (n : Nat) : Int64 := Int64.ofNat n
theorem oJ_add (a c : Nat) : oJ a + oJ c = oJ (a + c) := (Int64.ofNat_add a c).symm
theorem oJ_mul (a c : Nat) : oJ a * oJ c = oJ (a * c) := (Int64.ofNat_mul a c).symm
theorem oJ_sub {a c : Nat} (h : c ≤ a) : oJ a - oJ c = oJ (a - c) := by
  have : oJ a = oJ (a - c) + oJ c := by rw [oJ_add, show a - c + c = a by omega]
  rw [this, Int64.add_sub_cancel]
theorem oJ_toInt {n : Nat} (h : n < 2 ^ 63) : (oJ n).toInt = n := Int64.toInt_ofNat_of_lt h
theorem oJ_n {n : Nat} (h : n < 2 ^ 31) : Int32.toInt64 (nI n) = oJ n := by
  apply Int64.toInt_inj.mp
  rw [Int32.toInt_toInt64, nI_toInt h, oJ_toInt (by omega)]
theorem oJ_eq {a c : Nat} (ha : a < 2 ^ 63) (hc : c < 2 ^ 63) : oJ a = oJ c ↔ a = c := by
  rw [← Int64.toInt_inj, oJ_toInt ha, oJ_toInt hc]
  omega
theorem oJ_le {a c : Nat} (ha : a < 2 ^ 63) (hc : c < 2 ^ 63) : oJ a ≤ oJ c ↔ a ≤ c := by
  rw [Int64.le_iff_toInt_le, oJ_toInt ha, oJ_toInt hc]
  omega
def hN (l : List Nat) : Nat := l.foldl (fun a x => a * 32 + (x - 96)) 0
theorem hN_s (l : List Nat) (x : Nat) : hN (l ++ [x]) = hN l * 32 + (x - 96) := by
  unfold hN
  rw [List.foldl_append]
  rfl
/-- the word's number: of its letters up to j -/
def hW (b : Nat → Nat) (s j : Nat) : Int64 := if j - s ≤ 10 then oJ (hN (letL b s j)) else -1
def rN (b : Nat → Nat) : Nat → Nat → Nat → Nat
  | 0, _, a => a
  | m + 1, i, a => rN b m (i + 1) (if 1000000 < a then a else a * 10 + (b i - 48))
theorem rN_le {b : Nat → Nat} : ∀ m i a, (∀ j, i ≤ j → j < i + m → b j < 58) → a ≤ 10000009 → rN b m i a ≤ 10000009
  | 0, _, _, _, h => h
  | m + 1, i, a, hb, h => by
    rw [rN]
    refine rN_le m (i + 1) _ (fun j h1 h2 => hb j (by omega) (by omega)) ?_
    have := hb i (Nat.le_refl i) (by omega)
    split <;> omega
def soT (b : Nat → Nat) (t s : Nat) : Int32 := if t ≤ s then 0 else if cls (b s) = 1 then 1 else if cls (b s) = 2 then 2 else 3
def edT (b : Nat → Nat) (t s : Nat) : Nat := if t ≤ s then t else enT b t s
def woT (b : Nat → Nat) (t s : Nat) : Int64 := if t ≤ s then 0 else if cls (b s) = 1 then hW b s (enT b t s) else if cls (b s) = 2 then oJ (rN b (enT b t s - s) s 0) else oJ (b s)
def RTs (h : AH) (b : Nat → Nat) (t s : Nat) : Prop := h.2.1 80 14 = nI s ∧ h.2.1 80 15 = nI (edT b t s) ∧ h.2.1 80 16 = soT b t s ∧ h.2.2.1 80 17 = woT b t s
/-- the other side's tape -/
def Tm (h : AH) (b : Nat → Nat) (t : Nat) : Prop := h.2.1 80 13 = nI t ∧ t ≤ 400 ∧ ∀ j, j < 400 → h.2.1 89 j = nI (b j) ∧ b j < 256
def PN (p j : Nat) : Bool := decide (p = 80 ∧ 14 ≤ j ∧ j ≤ 17)
theorem PN_89 (j : Nat) : PN 89 j = false := decide_eq_false (by omega)
theorem Tm.n {h h' : AH} {b : Nat → Nat} {t : Nat} (k : Tm h b t) (e : Eqv PN h h') : Tm h' b t := ⟨(e.i 80 13 rfl).trans k.1, k.2.1, fun j hj => ⟨(e.i 89 j (PN_89 j)).trans (k.2.2 j hj).1, (k.2.2 j hj).2⟩⟩
theorem gi80 (h : AH) (k : Nat) : gI S_1 h 80 11 k = some (h.2.1 80 k) := rfl
theorem gj80 (h : AH) (k : Nat) : gJ S_1 h 80 11 k = some (h.2.2.1 80 k) := rfl
theorem pi80 (h : AH) (k : Nat) (v : Int32) : pI S_1 h 80 11 k v = some (stI h 80 k v) := rfl
theorem pj80 (h : AH) (k : Nat) (v : Int64) : pJ S_1 h 80 11 k v = some (stJ h 80 k v) := rfl
theorem m_small (h : AH) {x : Nat} (hx : x < 256) : f_X11_isSmall S_1 (nI x) h = some (bI (decide (cls x = 1)), h) := by
  unfold f_X11_isSmall cls
  rw [show (97 : Int32) = nI 97 from rfl, show (122 : Int32) = nI 122 from rfl]
  simp (disch := first | omega | decide) only [nn_lt]
  by_cases c1 : x < 97
  · rw [if_pos c1, if_neg (show ¬ (97 ≤ x ∧ x ≤ 122) by omega), decide_eq_false (by split <;> omega)]; rfl
  · rw [if_neg c1]
    by_cases c2 : 122 < x
    · rw [if_pos c2, if_neg (show ¬ (97 ≤ x ∧ x ≤ 122) by omega), decide_eq_false (by split <;> omega)]; rfl
    · rw [if_neg c2, if_pos (show 97 ≤ x ∧ x ≤ 122 by omega), decide_eq_true rfl]; rfl
theorem m_digit (h : AH) {x : Nat} (hx : x < 256) : f_X11_isDigit S_1 (nI x) h = some (bI (decide (cls x = 2)), h) := by
  unfold f_X11_isDigit cls
  rw [show (48 : Int32) = nI 48 from rfl, show (57 : Int32) = nI 57 from rfl]
  simp (disch := first | omega | decide) only [nn_lt]
  by_cases c1 : x < 48
  · rw [if_pos c1, if_neg (show ¬ (97 ≤ x ∧ x ≤ 122) by omega), if_neg (show ¬ (48 ≤ x ∧ x ≤ 57) by omega), decide_eq_false (by omega)]; rfl
  · rw [if_neg c1]
    by_cases c2 : 57 < x
    · rw [if_pos c2, if_neg (show ¬ (48 ≤ x ∧ x ≤ 57) by omega), decide_eq_false (by split <;> omega)]; rfl
    · rw [if_neg c2, if_neg (show ¬ (97 ≤ x ∧ x ≤ 122) by omega), if_pos (show 48 ≤ x ∧ x ≤ 57 by omega), decide_eq_true rfl]; rfl
theorem cls_1 {x : Nat} (h : cls x = 1) : 97 ≤ x ∧ x ≤ 122 := by
  unfold cls at h
  split at h
  · assumption
  · split at h <;> omega
theorem cls_2 {x : Nat} (h : cls x = 2) : 48 ≤ x ∧ x ≤ 57 := by
  unfold cls at h
  split at h
  · omega
  · split at h
    · assumption
    · omega
theorem m_skip {h : AH} {b : Nat → Nat} {t : Nat} (tm : Tm h b t) : ∀ (m i fu : Nat) (h1 : AH), i + m = t → m < fu → Eqv PN h h1 → h1.2.1 80 14 = nI i → ∃ h', f_X11_next_l8 S_1 fu 80 h1 = some (80, h') ∧ Eqv PN h h' ∧ h'.2.1 80 14 = nI (skL b m i) := by
  have ht := tm.2.1
  intro m
  induction m with
  | zero =>
    intro i fu h1 hi hf e1 v
    obtain ⟨fu, rfl⟩ : ∃ x, fu = x + 1 := ⟨fu - 1, by omega⟩
    have t1 := tm.n e1
    rw [f_X11_next_l8]
    unfold f_X11_next_l8b
    rw [bs_ (gi80 h1 14), bs_ (gi80 h1 13), v, t1.1, if_pos (by rw [nn_le (by omega) (by omega)]; omega)]
    exact ⟨h1, rfl, e1, v⟩
  | succ m ih =>
    intro i fu h1 hi hf e1 v
    obtain ⟨fu, rfl⟩ : ∃ x, fu = x + 1 := ⟨fu - 1, by omega⟩
    have t1 := tm.n e1
    rw [f_X11_next_l8]
    unfold f_X11_next_l8b
    rw [bs_ (gi80 h1 14), bs_ (gi80 h1 13), v, t1.1, if_neg (by rw [nn_le (by omega) (by omega)]; omega), bs_ (yr_80_12 h1), bs_ (gi80 h1 14), v, bs_ (ai_89 h1 (by omega)), (t1.2.2 i (by omega)).1, skL]
    have bx := (t1.2.2 i (by omega)).2
    by_cases c : b i = 32
    · rw [if_pos (by rw [c]; rfl), bs_ (gi80 h1 14), v, nI_1, bs_ (pi80 h1 14 _), if_pos c]
      exact ih (i + 1) fu _ (by omega) (by omega) (e1.si rfl) (stI_s _ _ _ _)
    · rw [if_neg (by rw [show (32 : Int32) = nI 32 from rfl, nn_eq (by omega) (by decide)]; exact c), if_neg c]
      exact ⟨h1, rfl, e1, v⟩
theorem hW_s {b : Nat → Nat} {s j : Nat} (hs : s ≤ j) (h9 : j - s ≤ 9) (hx : 97 ≤ b j ∧ b j < 256) : hW b s j * 32 + Int32.toInt64 (nI (b j)) - 96 = hW b s (j + 1) := by
  unfold hW
  rw [if_pos (by omega), if_pos (by omega), letL_s hs, hN_s, oJ_n (by omega), show (32 : Int64) = oJ 32 from rfl, show (96 : Int64) = oJ 96 from rfl, oJ_mul, oJ_add, oJ_sub (by omega), show hN (letL b s j) * 32 + b j - 96 = hN (letL b s j) * 32 + (b j - 96) by omega]
theorem m_letters {h : AH} {b : Nat → Nat} {t s : Nat} (tm : Tm h b t) (hst : s ≤ t) : ∀ (m j fu : Nat) (h1 : AH), j + m = t → m < fu → s ≤ j → Eqv PN h h1 → h1.2.1 80 14 = nI s → h1.2.1 80 16 = 1 → h1.2.1 80 15 = nI j → h1.2.2.1 80 17 = hW b s j → ∃ h', f_X11_next_l149 S_1 fu 80 h1 = some (80, h') ∧ Eqv PN h h' ∧ h'.2.1 80 14 = nI s ∧ h'.2.1 80 16 = 1 ∧ h'.2.1 80 15 = nI (ndL b 1 m j) ∧ h'.2.2.1 80 17 = hW b s (ndL b 1 m j) := by
  have ht := tm.2.1
  intro m
  induction m with
  | zero =>
    intro j fu h1 hj hf hs e1 v14 v16 v15 v17
    obtain ⟨fu, rfl⟩ : ∃ x, fu = x + 1 := ⟨fu - 1, by omega⟩
    have t1 := tm.n e1
    rw [f_X11_next_l149]
    unfold f_X11_next_l149b
    rw [bs_ (gi80 h1 16), v16, if_pos rfl, bs_ (gi80 h1 15), bs_ (gi80 h1 13), v15, t1.1, if_pos (by rw [nn_le (by omega) (by omega)]; omega)]
    exact ⟨h1, rfl, e1, v14, v16, v15, v17⟩
  | succ m ih =>
    intro j fu h1 hj hf hs e1 v14 v16 v15 v17
    obtain ⟨fu, rfl⟩ : ∃ x, fu = x + 1 := ⟨fu - 1, by omega⟩
    have t1 := tm.n e1
    have bx := (t1.2.2 j (by omega)).2
    rw [f_X11_next_l149]
    unfold f_X11_next_l149b
    rw [bs_ (gi80 h1 16), v16, if_pos rfl, bs_ (gi80 h1 15), bs_ (gi80 h1 13), v15, t1.1, if_neg (by rw [nn_le (by omega) (by omega)]; omega), bs_ (yr_80_12 h1), bs_ (gi80 h1 15), v15, bs_ (ai_89 h1 (by omega)), (t1.2.2 j (by omega)).1, bs_ (m_small h1 bx), ndL]
    dsimp only
    by_cases c : cls (b j) = 1
    · obtain ⟨x1, x2⟩ := cls_1 c
      have sub : nI j - nI s = nI (j - s) := by
        have := nI_sub' (j - s) s
        rwa [show j - s + s = j by omega] at this
      rw [decide_eq_true c, if_neg (show ¬ bI true = 0 by decide), bs_ (gi80 h1 15), bs_ (gi80 h1 14), v15, v14, sub, if_pos c]
      by_cases c2 : 10 ≤ j - s
      · rw [if_pos (by rw [show (10 : Int32) = nI 10 from rfl, nn_le (by decide) (by omega)]; exact c2), bs_ (pj80 h1 17 _), bs_ (gi80 _ 15), show (stJ h1 80 17 (-1)).2.1 80 15 = nI j from v15, nI_1, bs_ (pi80 _ 15 _)]
        refine ih (j + 1) fu _ (by omega) (by omega) (by omega) ((e1.sj rfl).si rfl) ((ri_k (by decide)).trans v14) ((ri_k (by decide)).trans v16) (stI_s _ _ _ _) ?_
        show (stJ h1 80 17 (-1)).2.2.1 80 17 = _
        rw [stJ_s]
        unfold hW
        rw [if_neg (by omega)]
      · rw [if_neg (by rw [show (10 : Int32) = nI 10 from rfl, nn_le (by decide) (by omega)]; exact c2), bs_ (gj80 h1 17), v17, bs_ (yr_80_12 h1), bs_ (gi80 h1 15), v15, bs_ (ai_89 h1 (by omega)), (t1.2.2 j (by omega)).1, hW_s hs (by omega) ⟨by omega, bx⟩, bs_ (pj80 h1 17 _), bs_ (gi80 _ 15), show (stJ h1 80 17 (hW b s (j + 1))).2.1 80 15 = nI j from v15, nI_1, bs_ (pi80 _ 15 _)]
        refine ih (j + 1) fu _ (by omega) (by omega) (by omega) ((e1.sj rfl).si rfl) ((ri_k (by decide)).trans v14) ((ri_k (by decide)).trans v16) (stI_s _ _ _ _) ?_
        show (stJ h1 80 17 (hW b s (j + 1))).2.2.1 80 17 = _
        exact stJ_s _ _ _ _
    · rw [decide_eq_false c, if_pos (show bI false = 0 from rfl), if_neg c]
      exact ⟨h1, rfl, e1, v14, v16, v15, v17⟩
theorem m_digits {h : AH} {b : Nat → Nat} {t : Nat} (tm : Tm h b t) {s : Nat} : ∀ (m j fu a : Nat) (h1 : AH), j + m = t → m < fu → a ≤ 10000009 → Eqv PN h h1 → h1.2.1 80 14 = nI s → h1.2.1 80 16 = 2 → h1.2.1 80 15 = nI j → h1.2.2.1 80 17 = oJ a → ∃ h', f_X11_next_l243 S_1 fu 80 h1 = some ((), h') ∧ Eqv PN h h' ∧ h'.2.1 80 14 = nI s ∧ h'.2.1 80 16 = 2 ∧ h'.2.1 80 15 = nI (ndL b 2 m j) ∧ h'.2.2.1 80 17 = oJ (rN b (ndL b 2 m j - j) j a) := by
  have ht := tm.2.1
  intro m
  induction m with
  | zero =>
    intro j fu a h1 hj hf ha e1 v14 v16 v15 v17
    obtain ⟨fu, rfl⟩ : ∃ x, fu = x + 1 := ⟨fu - 1, by omega⟩
    have t1 := tm.n e1
    rw [f_X11_next_l243]
    unfold f_X11_next_l243b
    rw [bs_ (gi80 h1 16), v16, if_pos rfl, bs_ (gi80 h1 15), bs_ (gi80 h1 13), v15, t1.1, if_pos (by rw [nn_le (by omega) (by omega)]; omega)]
    refine ⟨h1, rfl, e1, v14, v16, v15, ?_⟩
    rw [ndL, Nat.sub_self, rN]
    exact v17
  | succ m ih =>
    intro j fu a h1 hj hf ha e1 v14 v16 v15 v17
    obtain ⟨fu, rfl⟩ : ∃ x, fu = x + 1 := ⟨fu - 1, by omega⟩
    have t1 := tm.n e1
    have bx := (t1.2.2 j (by omega)).2
    rw [f_X11_next_l243]
    unfold f_X11_next_l243b
    rw [bs_ (gi80 h1 16), v16, if_pos rfl, bs_ (gi80 h1 15), bs_ (gi80 h1 13), v15, t1.1, if_neg (by rw [nn_le (by omega) (by omega)]; omega), bs_ (yr_80_12 h1), bs_ (gi80 h1 15), v15, bs_ (ai_89 h1 (by omega)), (t1.2.2 j (by omega)).1, bs_ (m_digit h1 bx), ndL]
    dsimp only
    by_cases c : cls (b j) = 2
    · obtain ⟨x1, x2⟩ := cls_2 c
      have nd := ndL_ok b 2 m (j + 1)
      have rest : ∀ (h2 : AH) (a' : Nat), a' = (if 1000000 < a then a else a * 10 + (b j - 48)) → Eqv PN h h2 → h2.2.1 80 14 = nI s → h2.2.1 80 16 = 2 → h2.2.1 80 15 = nI (j + 1) → h2.2.2.1 80 17 = oJ a' → ∃ h', f_X11_next_l243 S_1 fu 80 h2 = some ((), h') ∧ Eqv PN h h' ∧ h'.2.1 80 14 = nI s ∧ h'.2.1 80 16 = 2 ∧ h'.2.1 80 15 = nI (ndL b 2 m (j + 1)) ∧ h'.2.2.1 80 17 = oJ (rN b (ndL b 2 m (j + 1) - j) j a) := fun h2 a' ea e2 u14 u16 u15 u17 => by
        obtain ⟨h', r, x⟩ := ih (j + 1) fu a' h2 (by omega) (by omega) (by rw [ea]; split <;> omega) e2 u14 u16 u15 u17
        refine ⟨h', r, ?_⟩
        rw [show ndL b 2 m (j + 1) - j = (ndL b 2 m (j + 1) - (j + 1)) + 1 by omega, rN, ← ea]
        exact x
      rw [decide_eq_true c, if_neg (show ¬ bI true = 0 by decide), bs_ (gj80 h1 17), v17, if_pos c]
      by_cases c2 : a ≤ 1000000
      · rw [if_pos (by rw [cmp_le0, show (1000000 : Int64) = oJ 1000000 from rfl, oJ_le (by omega) (by decide)]; exact c2), bs_ (gj80 h1 17), v17, bs_ (yr_80_12 h1), bs_ (gi80 h1 15), v15, bs_ (ai_89 h1 (by omega)), (t1.2.2 j (by omega)).1, oJ_n (by omega), show (10 : Int64) = oJ 10 from rfl, show (48 : Int64) = oJ 48 from rfl, oJ_mul, oJ_add, oJ_sub (by omega), bs_ (pj80 h1 17 _), bs_ (gi80 _ 15), show (stJ h1 80 17 (oJ (a * 10 + b j - 48))).2.1 80 15 = nI j from v15, nI_1, bs_ (pi80 _ 15 _)]
        refine rest _ (a * 10 + b j - 48) (by rw [if_neg (by omega)]; omega) ((e1.sj rfl).si rfl) ((ri_k (by decide)).trans v14) ((ri_k (by decide)).trans v16) (stI_s _ _ _ _) ?_
        show (stJ h1 80 17 _).2.2.1 80 17 = _
        exact stJ_s _ _ _ _
      · rw [if_neg (by rw [cmp_le0, show (1000000 : Int64) = oJ 1000000 from rfl, oJ_le (by omega) (by decide)]; exact c2), bs_ (gj80 h1 17), v17, bs_ (pj80 h1 17 _), bs_ (gi80 _ 15), show (stJ h1 80 17 (oJ a)).2.1 80 15 = nI j from v15, nI_1, bs_ (pi80 _ 15 _)]
        refine rest _ a (by rw [if_pos (by omega)]) ((e1.sj rfl).si rfl) ((ri_k (by decide)).trans v14) ((ri_k (by decide)).trans v16) (stI_s _ _ _ _) ?_
        show (stJ h1 80 17 _).2.2.1 80 17 = _
        exact stJ_s _ _ _ _
    · rw [decide_eq_false c, if_pos (show bI false = 0 from rfl), if_neg c, Nat.sub_self, rN]
      exact ⟨h1, rfl, e1, v14, v16, v15, v17⟩
theorem no_149 {h1 : AH} {fu : Nat} (h : ¬ h1.2.1 80 16 = 1) : f_X11_next_l149 S_1 (fu + 1) 80 h1 = some (80, h1) := by
  rw [f_X11_next_l149]
  unfold f_X11_next_l149b
  rw [bs_ (gi80 h1 16), if_neg h]
theorem no_243 {h1 : AH} {fu : Nat} (h : ¬ h1.2.1 80 16 = 2) : f_X11_next_l243 S_1 (fu + 1) 80 h1 = some ((), h1) := by
  rw [f_X11_next_l243]
  unfold f_X11_next_l243b
  rw [bs_ (gi80 h1 16), if_neg h]
theorem m_next {h : AH} {b : Nat → Nat} {t e : Nat} (tm : Tm h b t) (he : e ≤ t) (v15 : h.2.1 80 15 = nI e) : ∃ h', f_X11_next S_1 80 h = some ((), h') ∧ Eqv PN h h' ∧ RTs h' b t (skT b t e) := by
  have ht := tm.2.1
  obtain ⟨h1, r1, e1, u14⟩ := m_skip tm (t - e) e FU (stI h 80 14 (nI e)) (by omega) (by unfold FU; omega) ((Eqv.refl h).si rfl) (stI_s _ _ _ _)
  obtain ⟨s1, s2, s3, s4⟩ := skT_ok (b := b) he
  obtain ⟨s, hs⟩ : ∃ s, s = skT b t e := ⟨_, rfl⟩
  rw [← hs] at s1 s2 s3 s4 ⊢
  replace u14 : h1.2.1 80 14 = nI s := by rw [hs]; exact u14
  have t1 := tm.n e1
  obtain ⟨h2, hh2⟩ : ∃ h2, h2 = stJ (stI h1 80 15 (nI s)) 80 17 0 := ⟨_, rfl⟩
  have e2 : Eqv PN h h2 := by rw [hh2]; exact (e1.si rfl).sj rfl
  have t2 := tm.n e2
  have w14 : h2.2.1 80 14 = nI s := by rw [hh2, rj_i, ri_k (by decide)]; exact u14
  have w15 : h2.2.1 80 15 = nI s := by rw [hh2, rj_i, stI_s]
  have w17 : h2.2.2.1 80 17 = 0 := by rw [hh2]; exact stJ_s _ _ _ _
  unfold f_X11_next
  rw [bs_ (gi80 h 15), v15, bs_ (pi80 h 14 _), bs_ r1]
  dsimp only
  unfold f_X11_next_j46
  rw [bs_ (gi80 h1 14), u14, bs_ (pi80 h1 15 _), bs_ (pj80 _ 17 _), ← hh2, bs_ (gi80 h2 14), bs_ (gi80 h2 13), w14, t2.1]
  have go : ∀ v : Int32, ∃ h3, h3 = stI h2 80 16 v ∧ Eqv PN h h3 ∧ h3.2.1 80 14 = nI s ∧ h3.2.1 80 15 = nI s ∧ h3.2.1 80 16 = v ∧ h3.2.2.1 80 17 = 0 := fun v => ⟨_, rfl, e2.si rfl, (ri_k (by decide)).trans w14, (ri_k (by decide)).trans w15, stI_s _ _ _ _, w17⟩
  by_cases c : s = t
  · obtain ⟨h3, hh3, e3, x14, x15, x16, x17⟩ := go 0
    rw [if_pos (by rw [c])]
    unfold f_X11_next_j114
    rw [bs_ (pi80 h2 16 _), ← hh3, bs_ (gi80 h3 16), x16, if_neg (by decide), show FU = 999999 + 1 from rfl, bs_ (no_149 (by rw [x16]; decide))]
    dsimp only
    rw [bs_ (no_243 (by rw [x16]; decide))]
    refine ⟨h3, rfl, e3, x14, ?_, ?_, ?_⟩
    · rw [x15, c]; unfold edT; rw [if_pos (Nat.le_refl t)]
    · rw [x16, c]; unfold soT; rw [if_pos (Nat.le_refl t)]
    · rw [x17, c]; unfold woT; rw [if_pos (Nat.le_refl t)]
  · have bx := (t2.2.2 s (by omega)).2
    have b2 := (t2.2.2 s (by omega)).1
    have nt : ¬ t ≤ s := by omega
    rw [if_neg (by rw [nn_eq (by omega) (by omega)]; exact c), bs_ (yr_80_12 h2), bs_ (gi80 h2 14), w14, bs_ (ai_89 h2 (by omega)), b2, bs_ (m_small h2 bx)]
    dsimp only
    by_cases c1 : cls (b s) = 1
    · obtain ⟨h3, hh3, e3, x14, x15, x16, x17⟩ := go 1
      have hw0 : hW b s s = 0 := by
        unfold hW
        rw [if_pos (by omega), letL_0]
        rfl
      obtain ⟨h4, r4, e4, y14, y16, y15, y17⟩ := m_letters tm (show s ≤ t by omega) (t - s) s FU h3 (by omega) (by unfold FU; omega) (Nat.le_refl s) e3 x14 x16 x15 (by rw [x17, hw0])
      have nd : ndL b 1 (t - s) s = enT b t s := by
        unfold enT
        rw [if_neg (by rw [c1]; decide), c1, show t - s = (t - (s + 1)) + 1 by omega, ndL, if_pos c1]
      rw [nd] at y15 y17
      rw [decide_eq_true c1, if_neg (show ¬ bI true = 0 by decide)]
      unfold f_X11_next_j114
      rw [bs_ (pi80 h2 16 _), ← hh3, bs_ (gi80 h3 16), x16, if_neg (by decide), bs_ r4]
      dsimp only
      rw [show FU = 999999 + 1 from rfl, bs_ (no_243 (by rw [y16]; decide))]
      refine ⟨h4, rfl, e4, y14, ?_, ?_, ?_⟩
      · rw [y15]; unfold edT; rw [if_neg nt]
      · rw [y16]; unfold soT; rw [if_neg nt, if_pos c1]
      · rw [y17]; unfold woT; rw [if_neg nt, if_pos c1]
    · rw [decide_eq_false c1, if_pos (show bI false = 0 from rfl), bs_ (yr_80_12 h2), bs_ (gi80 h2 14), w14, bs_ (ai_89 h2 (by omega)), b2, bs_ (m_digit h2 bx)]
      dsimp only
      by_cases c2 : cls (b s) = 2
      · obtain ⟨h3, hh3, e3, x14, x15, x16, x17⟩ := go 2
        obtain ⟨h4, r4, e4, y14, y16, y15, y17⟩ := m_digits tm (s := s) (t - s) s FU 0 h3 (by omega) (by unfold FU; omega) (by omega) e3 x14 x16 x15 x17
        have nd : ndL b 2 (t - s) s = enT b t s := by
          unfold enT
          rw [if_neg (by rw [c2]; decide), c2, show t - s = (t - (s + 1)) + 1 by omega, ndL, if_pos c2]
        rw [nd] at y15 y17
        rw [decide_eq_true c2, if_neg (show ¬ bI true = 0 by decide)]
        unfold f_X11_next_j114
        rw [bs_ (pi80 h2 16 _), ← hh3, bs_ (gi80 h3 16), x16, if_neg (by decide), show FU = 999999 + 1 from rfl, bs_ (no_149 (by rw [x16]; decide))]
        dsimp only
        rw [show 999999 + 1 = FU from rfl, bs_ r4]
        refine ⟨h4, rfl, e4, y14, ?_, ?_, ?_⟩
        · rw [y15]; unfold edT; rw [if_neg nt]
        · rw [y16]; unfold soT; rw [if_neg nt, if_neg c1, if_pos c2]
        · rw [y17]; unfold woT; rw [if_neg nt, if_neg c1, if_pos c2]
      · obtain ⟨h3, hh3, e3, x14, x15, x16, x17⟩ := go 3
        have c3 : cls (b s) = 3 := by
          have := cls_cases (b s)
          omega
        have en : enT b t s = s + 1 := by unfold enT; rw [if_pos c3]
        rw [decide_eq_false c2, if_pos (show bI false = 0 from rfl)]
        unfold f_X11_next_j114
        have t3 := tm.n e3
        rw [bs_ (pi80 h2 16 _), ← hh3, bs_ (gi80 h3 16), x16, if_pos rfl, bs_ (yr_80_12 h3), bs_ (gi80 h3 14), x14, bs_ (ai_89 h3 (by omega)), (t3.2.2 s (by omega)).1, oJ_n (by omega), bs_ (pj80 h3 17 _), bs_ (gi80 _ 15), show (stJ h3 80 17 (oJ (b s))).2.1 80 15 = nI s from x15, nI_1, bs_ (pi80 _ 15 _)]
        generalize eh4 : stI (stJ h3 80 17 (oJ (b s))) 80 15 (nI (s + 1)) = h4
        have z16 : h4.2.1 80 16 = 3 := by rw [← eh4]; exact (ri_k (by decide)).trans x16
        rw [show FU = 999999 + 1 from rfl, bs_ (no_149 (by rw [z16]; decide))]
        dsimp only
        rw [bs_ (no_243 (by rw [z16]; decide))]
        refine ⟨h4, rfl, ?_, ?_, ?_, ?_, ?_⟩
        · rw [← eh4]; exact (e3.sj rfl).si rfl
        · rw [← eh4]; exact (ri_k (by decide)).trans x14
        · rw [← eh4, stI_s]; unfold edT; rw [if_neg nt, en]
        · rw [z16]; unfold soT; rw [if_neg nt, if_neg c1, if_neg c2]
        · rw [← eh4]
          show (stJ h3 80 17 (oJ (b s))).2.2.1 80 17 = _
          rw [stJ_s]; unfold woT; rw [if_neg nt, if_neg c1, if_neg c2]

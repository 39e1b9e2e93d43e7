/-! tokens: both sides see the same -/
theorem nil_or (l : List Nat) : l = [] ∨ ∃ l1 x, l = l1 ++ [x] := by
  rcases List.eq_nil_or_concat l with h | ⟨l1, x, h⟩
  · exact Or.inl h
  · exact Or.inr ⟨l1, x, h.trans (List.concat_eq_append)⟩
theorem hN_lt : ∀ (n : Nat) (l : List Nat), l.length = n → (∀ x, x ∈ l → x ≤ 122) → hN l < 32 ^ n
  | 0, l, h, _ => by
    have : l = [] := List.length_eq_zero_iff.mp h
    rw [this]
    decide
  | n + 1, l, h, hx => by
    rcases nil_or l with rfl | ⟨l1, x, rfl⟩
    · cases h
    · rw [List.length_append] at h
      have ih := hN_lt n l1 (by simpa using h) fun y hy => hx y (List.mem_append_left _ hy)
      have := hx x (List.mem_append_right _ (List.mem_singleton.mpr rfl))
      rw [hN_s, Nat.pow_succ]
      omega
theorem hN_inj : ∀ (n : Nat) (l l' : List Nat), l.length = n → (∀ x, x ∈ l → 97 ≤ x ∧ x ≤ 122) → (∀ x, x ∈ l' → 97 ≤ x ∧ x ≤ 122) → hN l = hN l' → l = l'
  | 0, l, l', h, _, h', e => by
    have : l = [] := List.length_eq_zero_iff.mp h
    subst this
    rcases nil_or l' with rfl | ⟨l1, x, rfl⟩
    · rfl
    · have := h' x (List.mem_append_right _ (List.mem_singleton.mpr rfl))
      rw [hN_s] at e
      have e : 0 = hN l1 * 32 + (x - 96) := e
      omega
  | n + 1, l, l', h, hx, h', e => by
    rcases nil_or l with rfl | ⟨l1, x, rfl⟩
    · cases h
    · have x1 := hx x (List.mem_append_right _ (List.mem_singleton.mpr rfl))
      rcases nil_or l' with rfl | ⟨l2, y, rfl⟩
      · rw [hN_s] at e
        have e : hN l1 * 32 + (x - 96) = 0 := e
        omega
      · have y1 := h' y (List.mem_append_right _ (List.mem_singleton.mpr rfl))
        rw [hN_s, hN_s] at e
        rw [List.length_append] at h
        have := hN_inj n l1 l2 (by simpa using h) (fun z hz => hx z (List.mem_append_left _ hz)) (fun z hz => h' z (List.mem_append_left _ hz)) (by omega)
        rw [this, show x = y by omega]
theorem letL_mem {b : Nat → Nat} {s e x : Nat} (h : x ∈ letL b s e) : ∃ j, s ≤ j ∧ j < e ∧ x = b j := by
  unfold letL at h
  rw [List.mem_map] at h
  obtain ⟨j, hj, e1⟩ := h
  rw [List.mem_range] at hj
  exact ⟨s + j, by omega, by omega, e1.symm⟩
theorem wl_mem : ∀ k, k < 27 → ∀ x, x ∈ WLs.getD k [] → 97 ≤ x ∧ x ≤ 122 := by decide +kernel
def HWc (k : Nat) : Int64 := oJ (hN (WLs.getD k []))
/-- the k-th token: its kind, its number -/
def tkK (b : Nat → Nat) (t i : Nat) : Nat := kdT b t (stT b t i)
def tkU (b : Nat → Nat) (t i : Nat) : Nat := nuT b t (stT b t i)
def Cur (h : AH) (b : Nat → Nat) (t i : Nat) : Prop := Tm h b t ∧ RTs h b t (stT b t i)
theorem word_iff {b : Nat → Nat} {t s k : Nat} (hs : s < t) (c1 : cls (b s) = 1) (hk : k < 27) : hW b s (enT b t s) = HWc k ↔ letL b s (enT b t s) = WLs.getD k [] := by
  obtain ⟨e1, e2, e3, _⟩ := enT_ok (b := b) hs
  obtain ⟨l7, l1⟩ := wl_len k hk
  have mem : ∀ x, x ∈ letL b s (enT b t s) → 97 ≤ x ∧ x ≤ 122 := fun x hx => by
    obtain ⟨j, h1, h2, rfl⟩ := letL_mem hx
    exact cls_1 ((e3 j h1 h2).trans c1)
  have b2 : hN (WLs.getD k []) < 32 ^ 10 := Nat.lt_of_lt_of_le (hN_lt _ _ rfl fun x hx => (wl_mem k hk x hx).2) (Nat.pow_le_pow_right (by decide) (by omega))
  have p10 : 32 ^ 10 < 2 ^ 63 := by decide
  unfold hW HWc
  by_cases c : enT b t s - s ≤ 10
  · have b1 : hN (letL b s (enT b t s)) < 32 ^ 10 := Nat.lt_of_lt_of_le (hN_lt _ _ rfl fun x hx => (mem x hx).2) (Nat.pow_le_pow_right (by decide) (by rw [letL_len]; exact c))
    rw [if_pos c, oJ_eq (by omega) (by omega)]
    constructor
    · exact fun z => hN_inj _ _ _ rfl mem (wl_mem k hk) z
    · exact fun z => by rw [z]
  · rw [if_neg c]
    constructor
    · intro z
      have := congrArg Int64.toInt z
      rw [oJ_toInt (by omega)] at this
      have m1 : (-1 : Int64).toInt = -1 := by decide
      rw [m1] at this
      omega
    · intro z
      have := letL_len b s (enT b t s)
      rw [z] at this
      omega
theorem kd_3 {b : Nat → Nat} {t s : Nat} (hs : s < t) (c : cls (b s) = 3) : kdT b t s = b s := by
  unfold kdT
  rw [if_neg (by omega), if_pos c]
theorem kd_1 {b : Nat → Nat} {t s : Nat} (hs : s < t) (c : cls (b s) = 1) : kdT b t s = 256 + wix (letL b s (enT b t s)) := by
  unfold kdT
  rw [if_neg (by omega), if_neg (by rw [c]; decide), if_pos c]
theorem kd_2 {b : Nat → Nat} {t s : Nat} (hs : s < t) (c : cls (b s) = 2) : kdT b t s = 284 := by
  unfold kdT
  rw [if_neg (by omega), if_neg (by rw [c]; decide), if_neg (by rw [c]; decide)]
theorem kd_0 {b : Nat → Nat} {t s : Nat} (hs : t ≤ s) : kdT b t s = 285 := if_pos hs
theorem m_isWord {h : AH} {b : Nat → Nat} {t i k : Nat} (c : Cur h b t i) (hk : k < 27) : f_X11_isWord S_1 80 (HWc k) h = some (bI (decide (tkK b t i = 256 + k)), h) := by
  obtain ⟨tm, v14, v15, v16, v17⟩ := c
  unfold f_X11_isWord tkK
  rw [bs_ (gi80 h 16), v16]
  unfold soT
  by_cases c0 : t ≤ stT b t i
  · rw [if_pos c0, if_neg (by decide), kd_0 c0, decide_eq_false (by omega)]; rfl
  · rw [if_neg c0]
    have hs : stT b t i < t := by omega
    have bx := (tm.2.2 (stT b t i) (by have := tm.2.1; omega)).2
    by_cases c1 : cls (b (stT b t i)) = 1
    · rw [if_pos c1, if_pos rfl, bs_ (gj80 h 17), v17, kd_1 hs c1]
      simp only [cmp_eq0]
      unfold woT
      rw [if_neg c0, if_pos c1]
      by_cases e : letL b (stT b t i) (enT b t (stT b t i)) = WLs.getD k []
      · rw [if_pos ((word_iff hs c1 hk).mpr e), (wix_iff hk).mpr e, decide_eq_true rfl]; rfl
      · rw [if_neg (fun z => e ((word_iff hs c1 hk).mp z)), decide_eq_false (fun z => e ((wix_iff hk).mp (by omega)))]; rfl
    · rw [if_neg c1]
      have cc := cls_cases (b (stT b t i))
      by_cases c2 : cls (b (stT b t i)) = 2
      · rw [if_pos c2, if_neg (by decide), kd_2 hs c2, decide_eq_false (by omega)]; rfl
      · rw [if_neg c2, if_neg (by decide), kd_3 hs (by omega), decide_eq_false (by omega)]; rfl
theorem m_isSign {h : AH} {b : Nat → Nat} {t i x : Nat} (c : Cur h b t i) (hx : x < 256) (c3 : cls x = 3) : f_X11_isSign S_1 80 (nI x) h = some (bI (decide (tkK b t i = x)), h) := by
  obtain ⟨tm, v14, v15, v16, v17⟩ := c
  unfold f_X11_isSign tkK
  rw [bs_ (gi80 h 16), v16]
  unfold soT
  by_cases c0 : t ≤ stT b t i
  · rw [if_pos c0, if_neg (by decide), kd_0 c0, decide_eq_false (by omega)]; rfl
  · rw [if_neg c0]
    have hs : stT b t i < t := by omega
    have bx := (tm.2.2 (stT b t i) (by have := tm.2.1; omega)).2
    have cc := cls_cases (b (stT b t i))
    by_cases c1 : cls (b (stT b t i)) = 1
    · rw [if_pos c1, if_neg (by decide), kd_1 hs c1, decide_eq_false (by omega)]; rfl
    · rw [if_neg c1]
      by_cases c2 : cls (b (stT b t i)) = 2
      · rw [if_pos c2, if_neg (by decide), kd_2 hs c2, decide_eq_false (by omega)]; rfl
      · rw [if_neg c2, if_pos rfl, bs_ (gj80 h 17), v17, kd_3 hs (by omega)]
        simp only [cmp_eq0]
        unfold woT
        rw [if_neg c0, if_neg c1, if_neg c2, oJ_n (by omega)]
        by_cases e : b (stT b t i) = x
        · rw [if_pos (by rw [e]), decide_eq_true e]; rfl
        · rw [if_neg (by rw [oJ_eq (by omega) (by omega)]; exact e), decide_eq_false e]; rfl
theorem nu_r {b : Nat → Nat} : ∀ m i a u, (∀ j, i ≤ j → j < i + m → b j < 58) → (a ≤ 1000 → u = a) → (a = 1001 → 1000 < u) → a ≤ 1001 → (nuL b m i a ≤ 1000 → rN b m i u = nuL b m i a) ∧ (nuL b m i a = 1001 → 1000 < rN b m i u)
  | 0, _, _, _, _, h1, h2, _ => ⟨h1, h2⟩
  | m + 1, i, a, u, hb, h1, h2, h3 => by
    rw [nuL, rN]
    have := hb i (Nat.le_refl i) (by omega)
    refine nu_r m (i + 1) _ _ (fun j h1 h2 => hb j (by omega) (by omega)) (fun z => ?_) (fun z => ?_) (Nat.min_le_right _ _)
    · by_cases c : a ≤ 1000
      · rw [h1 c, if_neg (by omega)]
        omega
      · omega
    · by_cases c : a ≤ 1000
      · rw [h1 c, if_neg (by omega)]
        omega
      · have := h2 (by omega)
        split <;> omega
/-- a row of digits: as the other side has it -/
theorem m_digitsAt {h : AH} {b : Nat → Nat} {t i : Nat} (c : Cur h b t i) : (h.2.1 80 16 = 2 ↔ tkK b t i = 284) ∧ (h.2.1 80 16 = 0 ↔ tkK b t i = 285) ∧ tkU b t i ≤ 1001 ∧ (tkK b t i = 284 → ∃ u, u ≤ 10000009 ∧ h.2.2.1 80 17 = oJ u ∧ (tkU b t i ≤ 1000 → u = tkU b t i) ∧ (1000 < tkU b t i → 1000 < u)) := by
  obtain ⟨tm, v14, v15, v16, v17⟩ := c
  rw [v16, v17]
  unfold tkK tkU
  have ule : nuT b t (stT b t i) ≤ 1001 := by
    unfold nuT
    split
    · omega
    · exact nuL_le _ _ _ _ (by omega)
  unfold soT
  by_cases c0 : t ≤ stT b t i
  · rw [if_pos c0, kd_0 c0]
    exact ⟨⟨fun z => absurd z (by decide), fun z => absurd z (by decide)⟩, ⟨fun _ => rfl, fun _ => rfl⟩, ule, fun z => absurd z (by decide)⟩
  · rw [if_neg c0]
    have hs : stT b t i < t := by omega
    have bx := (tm.2.2 (stT b t i) (by have := tm.2.1; omega)).2
    have cc := cls_cases (b (stT b t i))
    by_cases c1 : cls (b (stT b t i)) = 1
    · have := wix_le (letL b (stT b t i) (enT b t (stT b t i)))
      rw [if_pos c1, kd_1 hs c1]
      exact ⟨⟨fun z => absurd z (by decide), fun z => by omega⟩, ⟨fun z => absurd z (by decide), fun z => by omega⟩, ule, fun z => by omega⟩
    · rw [if_neg c1]
      by_cases c2 : cls (b (stT b t i)) = 2
      · rw [if_pos c2, kd_2 hs c2]
        refine ⟨⟨fun _ => rfl, fun _ => rfl⟩, ⟨fun z => absurd z (by decide), fun z => absurd z (by decide)⟩, ule, fun _ => ?_⟩
        obtain ⟨e1, e2, e3, _⟩ := enT_ok (b := b) hs
        have dg : ∀ j, stT b t i ≤ j → j < stT b t i + (enT b t (stT b t i) - stT b t i) → b j < 58 := fun j h1 h2 => by
          have := cls_2 ((e3 j h1 (by omega)).trans c2)
          omega
        have r := nu_r (enT b t (stT b t i) - stT b t i) (stT b t i) 0 0 dg (fun _ => rfl) (fun z => absurd z (by decide)) (by omega)
        refine ⟨rN b (enT b t (stT b t i) - stT b t i) (stT b t i) 0, rN_le _ _ _ dg (by omega), ?_, ?_, ?_⟩
        · unfold woT
          rw [if_neg c0, if_neg c1, if_pos c2]
        · unfold nuT
          rw [if_neg c0]
          exact r.1
        · unfold nuT at ule ⊢
          rw [if_neg c0] at ule ⊢
          exact fun z => r.2 (by omega)
      · rw [if_neg c2, kd_3 hs (by omega)]
        exact ⟨⟨fun z => absurd z (by decide), fun z => by omega⟩, ⟨fun z => absurd z (by decide), fun z => by omega⟩, ule, fun z => by omega⟩
theorem Cur.n {h h' : AH} {b : Nat → Nat} {t i : Nat} {P : Nat → Nat → Bool} (c : Cur h b t i) (e : Eqv P h h') (h1 : ∀ j, 13 ≤ j → j ≤ 17 → P 80 j = false) (h2 : ∀ j, P 89 j = false) : Cur h' b t i := by
  obtain ⟨⟨t1, t2, t3⟩, v14, v15, v16, v17⟩ := c
  exact ⟨⟨(e.i 80 13 (h1 _ (by omega) (by omega))).trans t1, t2, fun j hj => ⟨(e.i 89 j (h2 j)).trans (t3 j hj).1, (t3 j hj).2⟩⟩, (e.i 80 14 (h1 _ (by omega) (by omega))).trans v14, (e.i 80 15 (h1 _ (by omega) (by omega))).trans v15, (e.i 80 16 (h1 _ (by omega) (by omega))).trans v16, (e.l 80 17 (h1 _ (by omega) (by omega))).trans v17⟩
theorem tk_end {b : Nat → Nat} {t i : Nat} (h : tkK b t i ≠ 285) : stT b t i < t := by
  by_cases c : t ≤ stT b t i
  · exact absurd (kd_0 c) h
  · omega
theorem Cur.next {h : AH} {b : Nat → Nat} {t i : Nat} (c : Cur h b t i) (hi : tkK b t i ≠ 285) : ∃ h', f_X11_next S_1 80 h = some ((), h') ∧ Eqv PN h h' ∧ Cur h' b t (i + 1) := by
  have hs := tk_end hi
  have ed : edT b t (stT b t i) = enT b t (stT b t i) := if_neg (by omega)
  obtain ⟨h', r1, e1, v⟩ := m_next c.1 (e := enT b t (stT b t i)) (enT_ok (b := b) hs).2.1 (by rw [← ed]; exact c.2.2.1)
  exact ⟨h', r1, e1, c.1.n e1, by rw [stT_s hs]; exact v⟩
theorem tk_kind {b : Nat → Nat} {t i : Nat} (hb : ∀ j, j < 400 → b j < 256) (ht : t ≤ 400) : tkK b t i ≤ 285 := by
  unfold tkK
  by_cases c0 : t ≤ stT b t i
  · rw [kd_0 c0]; omega
  · have hs : stT b t i < t := by omega
    rcases cls_cases (b (stT b t i)) with c | c | c
    · have := wix_le (letL b (stT b t i) (enT b t (stT b t i)))
      rw [kd_1 hs c]
      omega
    · rw [kd_2 hs c]; omega
    · rw [kd_3 hs c]
      have := hb (stT b t i) (by omega)
      omega

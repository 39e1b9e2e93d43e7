/-! the class reckons what its code means -/
def P34 (p _j : Nat) : Bool := decide (p = 34)
def EV (h : AH) : Nat → Int64 := fun k => Int32.toInt64 (h.2.1 33 k)
theorem EV_e {h h' : AH} (e : Eqv P34 h h') : EV h' = EV h := by
  funext k
  unfold EV
  rw [e.i 33 k rfl]
theorem q34 {h : AH} {q n : Nat} (hq : KD S_1 h q = some (1, n)) : q ≠ 34 := by
  rintro rfl
  have : KD S_1 h 34 = some (2, 52) := rfl
  rw [this] at hq
  cases hq
theorem e34 {h h' : AH} {q n : Nat} (hq : KD S_1 h q = some (1, n)) (e : Eqv P34 h h') (t : Nat) : h'.2.1 q t = h.2.1 q t := e.i q t (by unfold P34; exact decide_eq_false (q34 hq))
theorem u2_self {α : Type} (f : Nat → Nat → α) (p k : Nat) (v : α) : u2 f p k v p k = v := by simp [u2]
theorem pX_skips (h : AH) {q to dp : Nat} (hs : to < 2 ^ 31) : ∀ (k fu i g : Nat), i + k = g → g ≤ to → f_X4_reckon_l9 S_1 (fu + k) 32 q (nI to) (nI dp) (nI g) (nI i) h = f_X4_reckon_l9 S_1 fu 32 q (nI to) (nI dp) (nI g) (nI g) h
  | 0, fu, i, g, e, _ => by
    rw [show i = g by omega]
    rfl
  | k + 1, fu, i, g, e, hg => by
    rw [show fu + (k + 1) = (fu + k) + 1 from rfl, pX_skip h hs (by omega) (by omega) (by omega)]
    exact pX_skips h hs k fu (i + 1) g (by omega) hg
theorem rX_sum {c : Nat → Int32} : ∀ {N i j : Nat} {d : DD} {L : Nat}, SumX c N i j d L → ∀ (h : AH) {q n to dp g : Nat} (fu : Nat), KD S_1 h q = some (1, n) → n ≤ 400 → to ≤ n → j ≤ to → g ≤ i → dp + L < 52 → (∀ t, t < to → h.2.1 q t = c t) →
    ∃ h', Eqv P34 h h' ∧ (∀ t, t < dp → h'.2.2.1 34 t = h.2.2.1 34 t) ∧ match d (EV h) with
      | some v => f_X4_reckon_l9 S_1 (fu + (j - i)) 32 q (nI to) (nI dp) (nI g) (nI i) h = f_X4_reckon_l9 S_1 fu 32 q (nI to) (nI (dp + 1)) (nI g) (nI j) h' ∧ h'.2.2.1 34 dp = v
      | none => f_X4_reckon_l9 S_1 (fu + (j - i)) 32 q (nI to) (nI dp) (nI g) (nI i) h = some (.inl 0, h')
  | 0, _, _, _, _, H => absurd H (by simp [SumX])
  | N + 1, i, j, d, L, H => by
    intro h q n to dp g fu hq hn ht hj hg hd hc
    rcases H with ⟨rfl, rfl, ⟨v, hv, h1, h2, rfl⟩ | ⟨k, hk, h1, h2, rfl⟩⟩ | ⟨m, j', d1, d2, L1, L2, op, h1, h2, rfl, ho, ho2, hw, rfl, rfl⟩
    · refine ⟨stJ h 34 dp (Int32.toInt64 (nI v)), (Eqv.refl h).sj rfl, fun t ht => ?_, ?_, ?_⟩
      · show u2 _ _ _ _ _ _ = _
        unfold u2
        rw [if_neg (by omega)]
      · rw [show fu + (i + 1 - i) = fu + 1 by omega]
        exact pX_num h hq hn ht (by omega) hg (by omega) hv (by rw [hc i (by omega)]; exact h1) (by rw [hc i (by omega)]; exact h2)
      · exact u2_self _ _ _ _
    · refine ⟨stJ h 34 dp (Int32.toInt64 (h.2.1 33 k)), (Eqv.refl h).sj rfl, fun t ht => ?_, ?_, ?_⟩
      · show u2 _ _ _ _ _ _ = _
        unfold u2
        rw [if_neg (by omega)]
      · rw [show fu + (i + 1 - i) = fu + 1 by omega]
        exact pX_word h hq hn ht (by omega) hg (by omega) hk (by rw [hc i (by omega)]; exact h1) (by rw [hc i (by omega)]; exact h2)
      · exact u2_self _ _ _ _
    · have a := h1.lt
      have b := h2.lt
      obtain ⟨h', e1, k1, r1⟩ := rX_sum h1 h (fu + (j' + 1 - m)) hq hn ht (show m ≤ to by omega) hg (show dp + L1 < 52 by omega) hc
      rw [show fu + (j' + 1 - m) + (m - i) = fu + (j' + 1 - i) by omega] at r1
      unfold binD
      cases ed : d1 (EV h) with
      | none =>
        rw [ed] at r1
        exact ⟨h', e1, k1, r1⟩
      | some x =>
        rw [ed] at r1
        obtain ⟨r1, v1⟩ := r1
        have hq' : KD S_1 h' q = some (1, n) := by rw [e1.kd]; exact hq
        obtain ⟨h'', e2, k2, r2⟩ := rX_sum h2 h' (fu + 1) (dp := dp + 1) (g := g) hq' hn ht (show j' ≤ to by omega) (by omega) (show dp + 1 + L2 < 52 by omega) (fun t ht' => by rw [e34 hq e1]; exact hc t ht')
        rw [show fu + 1 + (j' - m) = fu + (j' + 1 - m) by omega, EV_e e1] at r2
        show ∃ h', _ ∧ _ ∧ match ((d2 (EV h)).bind fun y => opS op x y) with
          | some v => _
          | none => _
        cases ed2 : d2 (EV h) with
        | none =>
          rw [ed2] at r2
          exact ⟨h'', e1.trans e2, fun t ht => (k2 t (by omega)).trans (k1 t ht), r1.trans r2⟩
        | some y =>
          rw [ed2] at r2
          obtain ⟨r2, v2⟩ := r2
          have hq'' : KD S_1 h'' q = some (1, n) := by rw [e2.kd]; exact hq'
          have r3 := pX_bin (op := op) h'' (fu := fu) (to := to) (dp := dp) (g := g) (i := j') hq'' hn ht (by omega) (by omega) (by omega) ho (by omega) (by rw [e34 hq' e2, e34 hq e1, hc j' (by omega)]; exact hw)
          rw [show h''.2.2.1 34 dp = x from (k2 dp (by omega)).trans v1, v2] at r3
          show ∃ h', _ ∧ _ ∧ match opS op x y with
            | some v => _
            | none => _
          cases eo : opS op x y with
          | none =>
            rw [eo] at r3
            exact ⟨h'', e1.trans e2, fun t ht => (k2 t (by omega)).trans (k1 t ht), (r1.trans r2).trans r3⟩
          | some v =>
            rw [eo] at r3
            refine ⟨stJ h'' 34 dp v, (e1.trans e2).sj rfl, fun t ht => ?_, (r1.trans r2).trans r3, u2_self _ _ _ _⟩
            show u2 _ _ _ _ _ _ = _
            unfold u2
            rw [if_neg (by omega)]
            exact (k2 t (by omega)).trans (k1 t ht)
theorem rX_tst {c : Nat → Int32} : ∀ {N i j : Nat} {d : DD} {L : Nat}, TstX c N i j d L → ∀ (h : AH) {q n to dp g : Nat} (fu : Nat), KD S_1 h q = some (1, n) → n ≤ 400 → to ≤ n → j ≤ to → g ≤ i → dp + L < 52 → (∀ t, t < to → h.2.1 q t = c t) →
    ∃ h', Eqv P34 h h' ∧ (∀ t, t < dp → h'.2.2.1 34 t = h.2.2.1 34 t) ∧ match d (EV h) with
      | some v => (∃ g', g' ≤ j ∧ f_X4_reckon_l9 S_1 (fu + (j - i)) 32 q (nI to) (nI dp) (nI g) (nI i) h = f_X4_reckon_l9 S_1 fu 32 q (nI to) (nI (dp + 1)) (nI g') (nI j) h') ∧ h'.2.2.1 34 dp = v
      | none => f_X4_reckon_l9 S_1 (fu + (j - i)) 32 q (nI to) (nI dp) (nI g) (nI i) h = some (.inl 0, h')
  | 0, _, _, _, _, H => absurd H (by simp [TstX])
  | N + 1, i, j, d, L, H => by
    intro h q n to dp g fu hq hn ht hj hg hd hc
    rcases H with ⟨m, j', d1, d2, L1, L2, op, h1, h2, rfl, ho, ho2, hw, rfl, rfl⟩ | ⟨j', d1, h1, rfl, hw, rfl⟩ | ⟨m, d1, d2, L1, L2, h1, h2, hw, hb, rfl, rfl⟩ | ⟨m, d1, d2, L1, L2, h1, h2, hw, hb, rfl, rfl⟩
    · have a := h1.lt
      have b := h2.lt
      obtain ⟨h', e1, k1, r1⟩ := rX_sum h1 h (fu + (j' + 1 - m)) hq hn ht (show m ≤ to by omega) hg (show dp + L1 < 52 by omega) hc
      rw [show fu + (j' + 1 - m) + (m - i) = fu + (j' + 1 - i) by omega] at r1
      unfold binD
      cases ed : d1 (EV h) with
      | none =>
        rw [ed] at r1
        exact ⟨h', e1, k1, r1⟩
      | some x =>
        rw [ed] at r1
        obtain ⟨r1, v1⟩ := r1
        have hq' : KD S_1 h' q = some (1, n) := by rw [e1.kd]; exact hq
        obtain ⟨h'', e2, k2, r2⟩ := rX_sum h2 h' (fu + 1) (dp := dp + 1) (g := g) hq' hn ht (show j' ≤ to by omega) (by omega) (show dp + 1 + L2 < 52 by omega) (fun t ht' => by rw [e34 hq e1]; exact hc t ht')
        rw [show fu + 1 + (j' - m) = fu + (j' + 1 - m) by omega, EV_e e1] at r2
        show ∃ h', _ ∧ _ ∧ match ((d2 (EV h)).bind fun y => opS op x y) with
          | some v => _
          | none => _
        cases ed2 : d2 (EV h) with
        | none =>
          rw [ed2] at r2
          exact ⟨h'', e1.trans e2, fun t ht => (k2 t (by omega)).trans (k1 t ht), r1.trans r2⟩
        | some y =>
          rw [ed2] at r2
          obtain ⟨r2, v2⟩ := r2
          have hq'' : KD S_1 h'' q = some (1, n) := by rw [e2.kd]; exact hq'
          have r3 := pX_bin (op := op) h'' (fu := fu) (to := to) (dp := dp) (g := g) (i := j') hq'' hn ht (by omega) (by omega) (by omega) (by omega) (by omega) (by rw [e34 hq' e2, e34 hq e1, hc j' (by omega)]; exact hw)
          rw [show h''.2.2.1 34 dp = x from (k2 dp (by omega)).trans v1, v2] at r3
          show ∃ h', _ ∧ _ ∧ match opS op x y with
            | some v => _
            | none => _
          cases eo : opS op x y with
          | none =>
            rw [eo] at r3
            exact ⟨h'', e1.trans e2, fun t ht => (k2 t (by omega)).trans (k1 t ht), (r1.trans r2).trans r3⟩
          | some v =>
            rw [eo] at r3
            refine ⟨stJ h'' 34 dp v, (e1.trans e2).sj rfl, fun t ht => ?_, ⟨g, by omega, (r1.trans r2).trans r3⟩, u2_self _ _ _ _⟩
            show u2 _ _ _ _ _ _ = _
            unfold u2
            rw [if_neg (by omega)]
            exact (k2 t (by omega)).trans (k1 t ht)
    · have a := h1.lt
      obtain ⟨h', e1, k1, r1⟩ := rX_tst h1 h (fu + 1) hq hn ht (show j' ≤ to by omega) hg hd hc
      rw [show fu + 1 + (j' - i) = fu + (j' + 1 - i) by omega] at r1
      unfold notD
      cases ed : d1 (EV h) with
      | none =>
        rw [ed] at r1
        exact ⟨h', e1, k1, r1⟩
      | some x =>
        rw [ed] at r1
        obtain ⟨⟨g', hg', r1⟩, v1⟩ := r1
        have hq' : KD S_1 h' q = some (1, n) := by rw [e1.kd]; exact hq
        have r3 := pX_not h' (fu := fu) (to := to) (dp := dp) (g := g') (i := j') hq' hn ht (by omega) hg' (by omega) (by rw [e34 hq e1, hc j' (by omega)]; exact hw)
        refine ⟨_, e1.sj rfl, fun t ht => ?_, ⟨g', by omega, r1.trans r3⟩, ?_⟩
        · show u2 _ _ _ _ _ _ = _
          unfold u2
          rw [if_neg (by omega)]
          exact k1 t ht
        · show u2 _ _ _ _ _ _ = _
          rw [u2_self, v1]
          rcases h1.d01 _ _ ed with rfl | rfl
          · rfl
          · rfl
    · have a := h1.lt
      have b := h2.lt
      obtain ⟨h', e1, k1, r1⟩ := rX_tst h1 h (fu + (j - m)) hq hn ht (show m ≤ to by omega) hg (show dp + L1 < 52 by omega) hc
      rw [show fu + (j - m) + (m - i) = fu + (j - i) by omega] at r1
      unfold andD
      cases ed : d1 (EV h) with
      | none =>
        rw [ed] at r1
        exact ⟨h', e1, k1, r1⟩
      | some x =>
        rw [ed] at r1
        obtain ⟨⟨g', hg', r1⟩, v1⟩ := r1
        have hq' : KD S_1 h' q = some (1, n) := by rw [e1.kd]; exact hq
        have r3 := pX_and h' (fu := fu + (j - (m + 1))) (to := to) (dp := dp) (g := g') (i := m) hq' hn ht (by omega) hg' (by omega) (t := j) (by rw [e34 hq e1, hc m (by omega)]; exact hb) (by rw [e34 hq e1, hc m (by omega)]; exact hw)
        rw [show fu + (j - (m + 1)) + 1 = fu + (j - m) by omega, v1] at r3
        show ∃ h', _ ∧ _ ∧ match (if x = 0 then some 0 else d2 (EV h)) with
          | some v => _
          | none => _
        by_cases ex : x = 0
        · rw [if_pos ex] at r3 ⊢
          refine ⟨h', e1, k1, ⟨j, Nat.le_refl _, (r1.trans r3).trans ?_⟩, v1.trans ex⟩
          exact pX_skips h' (by omega) (j - (m + 1)) fu (m + 1) j (by omega) hj
        · rw [if_neg ex] at r3 ⊢
          obtain ⟨h'', e2, k2, r2⟩ := rX_tst h2 h' fu (dp := dp) (g := g') hq' hn ht hj (by omega) (show dp + L2 < 52 by omega) (fun t ht' => by rw [e34 hq e1]; exact hc t ht')
          rw [EV_e e1] at r2
          refine ⟨h'', e1.trans e2, fun t ht => (k2 t ht).trans (k1 t ht), ?_⟩
          cases ed2 : d2 (EV h) with
          | none =>
            rw [ed2] at r2
            exact (r1.trans r3).trans r2
          | some y =>
            rw [ed2] at r2
            obtain ⟨⟨g'', hg'', r2⟩, v2⟩ := r2
            exact ⟨⟨g'', hg'', (r1.trans r3).trans r2⟩, v2⟩
    · have a := h1.lt
      have b := h2.lt
      obtain ⟨h', e1, k1, r1⟩ := rX_tst h1 h (fu + (j - m)) hq hn ht (show m ≤ to by omega) hg (show dp + L1 < 52 by omega) hc
      rw [show fu + (j - m) + (m - i) = fu + (j - i) by omega] at r1
      unfold orD
      cases ed : d1 (EV h) with
      | none =>
        rw [ed] at r1
        exact ⟨h', e1, k1, r1⟩
      | some x =>
        rw [ed] at r1
        obtain ⟨⟨g', hg', r1⟩, v1⟩ := r1
        have hq' : KD S_1 h' q = some (1, n) := by rw [e1.kd]; exact hq
        have r3 := pX_or h' (fu := fu + (j - (m + 1))) (to := to) (dp := dp) (g := g') (i := m) hq' hn ht (by omega) hg' (by omega) (t := j) (by rw [e34 hq e1, hc m (by omega)]; exact hb) (by rw [e34 hq e1, hc m (by omega)]; exact hw)
        rw [show fu + (j - (m + 1)) + 1 = fu + (j - m) by omega, v1] at r3
        show ∃ h', _ ∧ _ ∧ match (if x = 1 then some 1 else d2 (EV h)) with
          | some v => _
          | none => _
        rcases h1.d01 _ _ ed with rfl | rfl
        · rw [if_pos rfl] at r3
          rw [if_neg (by decide)]
          obtain ⟨h'', e2, k2, r2⟩ := rX_tst h2 h' fu (dp := dp) (g := g') hq' hn ht hj (by omega) (show dp + L2 < 52 by omega) (fun t ht' => by rw [e34 hq e1]; exact hc t ht')
          rw [EV_e e1] at r2
          refine ⟨h'', e1.trans e2, fun t ht => (k2 t ht).trans (k1 t ht), ?_⟩
          cases ed2 : d2 (EV h) with
          | none =>
            rw [ed2] at r2
            exact (r1.trans r3).trans r2
          | some y =>
            rw [ed2] at r2
            obtain ⟨⟨g'', hg'', r2⟩, v2⟩ := r2
            exact ⟨⟨g'', hg'', (r1.trans r3).trans r2⟩, v2⟩
        · rw [if_neg (by decide)] at r3
          rw [if_pos rfl]
          refine ⟨h', e1, k1, ⟨j, Nat.le_refl _, (r1.trans r3).trans ?_⟩, v1⟩
          exact pX_skips h' (by omega) (j - (m + 1)) fu (m + 1) j (by omega) hj

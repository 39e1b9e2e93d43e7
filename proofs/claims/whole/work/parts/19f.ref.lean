theorem SumM.lt {ord : Bool} {c a : Nat → Int32} : ∀ {n i j : Nat} {d : DD} {L : Nat}, SumM ord c a n i j d L → i < j ∧ 1 ≤ L
  | 0, _, _, _, _, h => absurd h (by simp [SumM])
  | n + 1, i, j, d, L, h => by
    rcases h with ⟨rfl, rfl, -⟩ | ⟨m, j', d1, d2, L1, L2, op, h1, h2, rfl, -, -, -, -, rfl⟩
    · exact ⟨by omega, by omega⟩
    · have a := h1.lt
      have b := h2.lt
      exact ⟨by omega, by omega⟩
theorem TstM.lt {ord : Bool} {c a : Nat → Int32} : ∀ {n i j : Nat} {d : DD} {L : Nat}, TstM ord c a n i j d L → i < j ∧ 1 ≤ L
  | 0, _, _, _, _, h => absurd h (by simp [TstM])
  | n + 1, i, j, d, L, h => by
    rcases h with ⟨m, j', d1, d2, L1, L2, op, h1, h2, rfl, -, -, -, -, rfl⟩ | ⟨j', d1, h1, rfl, -, -⟩ | ⟨m, d1, d2, L1, L2, h1, h2, -, -, -, rfl⟩ | ⟨m, d1, d2, L1, L2, h1, h2, -, -, -, rfl⟩
    · have a := h1.lt
      have b := h2.lt
      exact ⟨by omega, by omega⟩
    · have a := h1.lt
      exact ⟨by omega, by omega⟩
    · have a := h1.lt
      have b := h2.lt
      exact ⟨by omega, by omega⟩
    · have a := h1.lt
      have b := h2.lt
      exact ⟨by omega, by omega⟩
theorem pM_stop (h : AH) {F to dp i : Nat} (hb : h.2.1 80 38 = 1) : f_X11_reckonAll_l10 S_1 (F + 1) 80 (nI to) (nI dp) (nI i) h = some ((80, nI dp), h) := by
  rw [f_X11_reckonAll_l10]
  unfold f_X11_reckonAll_l10b
  by_cases e : nI to ≤ nI i
  · rw [if_pos e]
  · rw [if_neg e, bs_ (yi_80 h 38), if_neg (by rw [hb]; decide)]
theorem CodeM.o {ord : Bool} {h : AH} {to : Nat} {c a : Nat → Int32} (k : CodeM ord h to c a) : h.2.1 80 20 = bI ord := by
  cases ord with
  | false => exact k.2.1
  | true => exact k.2.1
theorem rM_sum {ord : Bool} {c a : Nat → Int32} : ∀ {N i j : Nat} {d : DD} {L : Nat}, SumM ord c a N i j d L → ∀ (h : AH) {to dp : Nat} (F : Nat) (e : Nat → Int64), CodeM ord h to c a → EnvM ord h e → h.2.1 80 38 = 0 → j ≤ to → dp + L < 400 → j - i + 2 ≤ F →
    ∃ h', Eqv PM h h' ∧ (∀ t, t < dp → h'.2.2.1 100 t = h.2.2.1 100 t) ∧ match d e with
      | some v => h'.2.1 80 38 = 0 ∧ h'.2.2.1 100 dp = v ∧ ∃ F', F - (j - i) ≤ F' ∧ f_X11_reckonAll_l10 S_1 F 80 (nI to) (nI dp) (nI i) h = f_X11_reckonAll_l10 S_1 F' 80 (nI to) (nI (dp + 1)) (nI j) h'
      | none => h'.2.1 80 38 = 1 ∧ ∃ x, f_X11_reckonAll_l10 S_1 F 80 (nI to) (nI dp) (nI i) h = some ((80, x), h')
  | 0, _, _, _, _, H => absurd H (by simp [SumM])
  | N + 1, i, j, d, L, H => by
    intro h to dp F e hc he hb hj hd hF
    rcases H with ⟨rfl, rfl, ⟨h1, rfl⟩ | ⟨k, hk, rfl⟩⟩ | ⟨m, j', d1, d2, L1, L2, op, h1, h2, rfl, ho, ho2, hw, rfl, rfl⟩
    · obtain ⟨F1, rfl⟩ : ∃ z, F = z + 1 := ⟨F - 1, by omega⟩
      refine ⟨stJ h 100 dp (Int32.toInt64 (a i)), (Eqv.refl h).sj (PM_100 dp), fun t ht => ?_, hb, stJ_s _ _ _ _, F1, by omega, ?_⟩
      · show u2 _ _ _ _ _ _ = _
        unfold u2
        rw [if_neg (by omega)]
      · rw [pM_fetch h hc (by omega) hb, h1]
        exact pM_num _ h _ (by omega)
    · obtain ⟨F1, rfl⟩ : ∃ z, F = z + 1 := ⟨F - 1, by omega⟩
      refine ⟨stJ h 100 dp (e k), (Eqv.refl h).sj (PM_100 dp), fun t ht => ?_, hb, stJ_s _ _ _ _, F1, by omega, ?_⟩
      · show u2 _ _ _ _ _ _ = _
        unfold u2
        rw [if_neg (by omega)]
      · rw [pM_fetch h hc (by omega) hb]
        exact pM_word _ h hc.o he hk (by omega)
    · -- two sums
      have a1 := h1.lt
      have b1 := h2.lt
      obtain ⟨h', e1, k1, r1⟩ := rM_sum h1 h F e (dp := dp) hc he hb (show m ≤ to by omega) (show dp + L1 < 400 by omega) (by omega)
      unfold binD
      cases ed : d1 e with
      | none =>
        rw [ed] at r1
        exact ⟨h', e1, k1, r1⟩
      | some x =>
        rw [ed] at r1
        obtain ⟨f1, v1, F1, g1, r1⟩ := r1
        obtain ⟨h'', e2, k2, r2⟩ := rM_sum h2 h' F1 e (dp := dp + 1) (hc.e e1) (he.e e1) f1 (show j' ≤ to by omega) (show dp + 1 + L2 < 400 by omega) (by omega)
        show ∃ h', _ ∧ _ ∧ match ((d2 e).bind fun y => opS op x y) with
          | some v => _
          | none => _
        cases ed2 : d2 e with
        | none =>
          rw [ed2] at r2
          obtain ⟨f2, z, r2⟩ := r2
          exact ⟨h'', e1.trans e2, fun t ht => (k2 t (by omega)).trans (k1 t ht), f2, z, r1.trans r2⟩
        | some y =>
          rw [ed2] at r2
          obtain ⟨f2, v2, F2, g2, r2⟩ := r2
          obtain ⟨F3, rfl⟩ : ∃ z, F2 = z + 1 := ⟨F2 - 1, by omega⟩
          have hc2 := (hc.e e1).e e2
          obtain ⟨h3, e3, k3, r3, q3⟩ := pM_bin (f_X11_reckonAll_l10 S_1 F3) h'' (to := to) (dp := dp) (i := j') (op := op) (a j') (by omega) (by omega) (by omega) f2
          have r4 := pM_fetch (fu := F3) (dp := dp + 2) h'' hc2 (show j' < to by omega) f2
          rw [hw] at r4
          rw [show h''.2.2.1 100 dp = x from (k2 dp (by omega)).trans v1, v2] at q3
          have rr := (r1.trans r2).trans (r4.trans r3)
          show ∃ h', _ ∧ _ ∧ match opS op x y with
            | some v => _
            | none => _
          cases eo : opS op x y with
          | none =>
            rw [eo] at q3
            obtain ⟨F4, rfl⟩ : ∃ z, F3 = z + 1 := ⟨F3 - 1, by omega⟩
            exact ⟨h3, (e1.trans e2).trans e3, fun t ht => (k3 t ht).trans ((k2 t (by omega)).trans (k1 t ht)), q3, _, rr.trans (pM_stop h3 q3)⟩
          | some v =>
            rw [eo] at q3
            exact ⟨h3, (e1.trans e2).trans e3, fun t ht => (k3 t ht).trans ((k2 t (by omega)).trans (k1 t ht)), q3.1, q3.2, F3, by omega, rr⟩

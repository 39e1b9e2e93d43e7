theorem rM_tst {ord : Bool} {c a : Nat → Int32} : ∀ {N i j : Nat} {d : DD} {L : Nat}, TstM ord c a N i j d L → ∀ (h : AH) {to dp : Nat} (F : Nat) (e : Nat → Int64), CodeM ord h to c a → EnvM ord h e → h.2.1 80 38 = 0 → j ≤ to → dp + L < 400 → j - i + 2 ≤ F →
    ∃ h', Eqv PM h h' ∧ (∀ t, t < dp → h'.2.2.1 100 t = h.2.2.1 100 t) ∧ match d e with
      | some v => h'.2.1 80 38 = 0 ∧ h'.2.2.1 100 dp = v ∧ ∃ F', F - (j - i) ≤ F' ∧ f_X11_reckonAll_l10 S_1 F 80 (nI to) (nI dp) (nI i) h = f_X11_reckonAll_l10 S_1 F' 80 (nI to) (nI (dp + 1)) (nI j) h'
      | none => h'.2.1 80 38 = 1 ∧ ∃ x, f_X11_reckonAll_l10 S_1 F 80 (nI to) (nI dp) (nI i) h = some ((80, x), h')
  | 0, _, _, _, _, H => absurd H (by simp [TstM])
  | N + 1, i, j, d, L, H => by
    intro h to dp F e hc he hb hj hd hF
    rcases H with ⟨m, j', d1, d2, L1, L2, op, h1, h2, rfl, ho, ho2, hw, rfl, rfl⟩ | ⟨j', d1, h1, rfl, hw, rfl⟩ | ⟨m, d1, d2, L1, L2, h1, h2, hw, ha, rfl, rfl⟩ | ⟨m, d1, d2, L1, L2, h1, h2, hw, ha, rfl, rfl⟩
    · -- two sums
      have a1 := h1.lt
      have b1 := h2.lt
      obtain ⟨h', e1, k1, r1⟩ := rM_sum h1 h F e (dp := dp) hc he hb (show m ≤ to by omega) (show dp + L1 < 400 by omega) (by omega)
      unfold binD
      cases ed : d1 e with
      | none =>
        rw [ed] at r1
        exact ⟨h', e1, k1, r1⟩
      | some x =>
        rw [ed] at r1
        obtain ⟨f1, v1, F1, g1, r1⟩ := r1
        obtain ⟨h'', e2, k2, r2⟩ := rM_sum h2 h' F1 e (dp := dp + 1) (hc.e e1) (he.e e1) f1 (show j' ≤ to by omega) (show dp + 1 + L2 < 400 by omega) (by omega)
        show ∃ h', _ ∧ _ ∧ match ((d2 e).bind fun y => opS op x y) with
          | some v => _
          | none => _
        cases ed2 : d2 e with
        | none =>
          rw [ed2] at r2
          obtain ⟨f2, z, r2⟩ := r2
          exact ⟨h'', e1.trans e2, fun t ht => (k2 t (by omega)).trans (k1 t ht), f2, z, r1.trans r2⟩
        | some y =>
          rw [ed2] at r2
          obtain ⟨f2, v2, F2, g2, r2⟩ := r2
          obtain ⟨F3, rfl⟩ : ∃ z, F2 = z + 1 := ⟨F2 - 1, by omega⟩
          have hc2 := (hc.e e1).e e2
          obtain ⟨h3, e3, k3, r3, q3⟩ := pM_bin (f_X11_reckonAll_l10 S_1 F3) h'' (to := to) (dp := dp) (i := j') (op := op) (a j') (by omega) (by omega) (by omega) f2
          have r4 := pM_fetch (fu := F3) (dp := dp + 2) h'' hc2 (show j' < to by omega) f2
          rw [hw] at r4
          rw [show h''.2.2.1 100 dp = x from (k2 dp (by omega)).trans v1, v2] at q3
          have rr := (r1.trans r2).trans (r4.trans r3)
          show ∃ h', _ ∧ _ ∧ match opS op x y with
            | some v => _
            | none => _
          cases eo : opS op x y with
          | none =>
            rw [eo] at q3
            obtain ⟨F4, rfl⟩ : ∃ z, F3 = z + 1 := ⟨F3 - 1, by omega⟩
            exact ⟨h3, (e1.trans e2).trans e3, fun t ht => (k3 t ht).trans ((k2 t (by omega)).trans (k1 t ht)), q3, _, rr.trans (pM_stop h3 q3)⟩
          | some v =>
            rw [eo] at q3
            exact ⟨h3, (e1.trans e2).trans e3, fun t ht => (k3 t ht).trans ((k2 t (by omega)).trans (k1 t ht)), q3.1, q3.2, F3, by omega, rr⟩
    · have a1 := h1.lt
      obtain ⟨h', e1, k1, r1⟩ := rM_tst h1 h F e (dp := dp) hc he hb (show j' ≤ to by omega) hd (by omega)
      unfold notD
      cases ed : d1 e with
      | none =>
        rw [ed] at r1
        exact ⟨h', e1, k1, r1⟩
      | some x =>
        rw [ed] at r1
        obtain ⟨f1, v1, F1, g1, r1⟩ := r1
        obtain ⟨F2, rfl⟩ : ∃ z, F1 = z + 1 := ⟨F1 - 1, by omega⟩
        have r4 := pM_fetch (fu := F2) (dp := dp + 1) h' (hc.e e1) (show j' < to by omega) f1
        rw [hw] at r4
        have r3 := pM_not (f_X11_reckonAll_l10 S_1 F2) h' (to := to) (dp := dp) (i := j') (a j') (by omega)
        rw [v1] at r3
        refine ⟨stJ h' 100 dp (1 - x), e1.sj (PM_100 dp), fun t ht => ?_, f1, stJ_s _ _ _ _, F2, by omega, r1.trans (r4.trans r3)⟩
        show u2 _ _ _ _ _ _ = _
        unfold u2
        rw [if_neg (by omega)]
        exact k1 t ht
    · -- and
      have a1 := h1.lt
      have b1 := h2.lt
      obtain ⟨h', e1, k1, r1⟩ := rM_tst h1 h F e (dp := dp) hc he hb (show m ≤ to by omega) (show dp + L1 < 400 by omega) (by omega)
      unfold andD
      cases ed : d1 e with
      | none =>
        rw [ed] at r1
        exact ⟨h', e1, k1, r1⟩
      | some x =>
        rw [ed] at r1
        obtain ⟨f1, v1, F1, g1, r1⟩ := r1
        obtain ⟨F2, rfl⟩ : ∃ z, F1 = z + 1 := ⟨F1 - 1, by omega⟩
        have hc1 := hc.e e1
        have r4 := pM_fetch (fu := F2) (dp := dp + 1) h' hc1 (show m < to by omega) f1
        have r3 := pM_and (f_X11_reckonAll_l10 S_1 F2) h' (to := to) (dp := dp) (i := m) (a m) (by omega)
        rw [hw] at r4
        rw [v1, ha] at r3
        rw [ha] at r4
        have rr := r1.trans (r4.trans r3)
        show ∃ h', _ ∧ _ ∧ match (if x = 0 then some 0 else d2 e) with
          | some v => _
          | none => _
        by_cases ex : x = 0
        · rw [if_pos ex] at rr ⊢
          exact ⟨h', e1, k1, f1, v1.trans ex, F2, by omega, rr⟩
        · rw [if_neg ex] at rr ⊢
          obtain ⟨h'', e2, k2, r2⟩ := rM_tst h2 h' F2 e (dp := dp) hc1 (he.e e1) f1 hj (show dp + L2 < 400 by omega) (by omega)
          refine ⟨h'', e1.trans e2, fun t ht => (k2 t ht).trans (k1 t ht), ?_⟩
          cases ed2 : d2 e with
          | none =>
            rw [ed2] at r2
            obtain ⟨f2, z, r2⟩ := r2
            exact ⟨f2, z, rr.trans r2⟩
          | some y =>
            rw [ed2] at r2
            obtain ⟨f2, v2, F3, g3, r2⟩ := r2
            exact ⟨f2, v2, F3, by omega, rr.trans r2⟩
    · -- or
      have a1 := h1.lt
      have b1 := h2.lt
      obtain ⟨h', e1, k1, r1⟩ := rM_tst h1 h F e (dp := dp) hc he hb (show m ≤ to by omega) (show dp + L1 < 400 by omega) (by omega)
      unfold orD
      cases ed : d1 e with
      | none =>
        rw [ed] at r1
        exact ⟨h', e1, k1, r1⟩
      | some x =>
        rw [ed] at r1
        obtain ⟨f1, v1, F1, g1, r1⟩ := r1
        obtain ⟨F2, rfl⟩ : ∃ z, F1 = z + 1 := ⟨F1 - 1, by omega⟩
        have hc1 := hc.e e1
        have r4 := pM_fetch (fu := F2) (dp := dp + 1) h' hc1 (show m < to by omega) f1
        have r3 := pM_or (f_X11_reckonAll_l10 S_1 F2) h' (to := to) (dp := dp) (i := m) (a m) (by omega)
        rw [hw] at r4
        rw [v1, ha] at r3
        rw [ha] at r4
        have rr := r1.trans (r4.trans r3)
        show ∃ h', _ ∧ _ ∧ match (if x = 1 then some 1 else d2 e) with
          | some v => _
          | none => _
        by_cases ex : x = 1
        · rw [if_pos ex] at rr ⊢
          exact ⟨h', e1, k1, f1, v1.trans ex, F2, by omega, rr⟩
        · rw [if_neg ex] at rr ⊢
          obtain ⟨h'', e2, k2, r2⟩ := rM_tst h2 h' F2 e (dp := dp) hc1 (he.e e1) f1 hj (show dp + L2 < 400 by omega) (by omega)
          refine ⟨h'', e1.trans e2, fun t ht => (k2 t ht).trans (k1 t ht), ?_⟩
          cases ed2 : d2 e with
          | none =>
            rw [ed2] at r2
            obtain ⟨f2, z, r2⟩ := r2
            exact ⟨f2, z, rr.trans r2⟩
          | some y =>
            rw [ed2] at r2
            obtain ⟨f2, v2, F3, g3, r2⟩ := r2
            exact ⟨f2, v2, F3, by omega, rr.trans r2⟩

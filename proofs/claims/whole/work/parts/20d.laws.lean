theorem q_holds {p n : Nat} {f : Nat → Cl} {k : Nat} (hk : k ≤ 2) (hz : ∀ c, c < n → (f c).2.1 = none → (f c).1 = 2) (h : AH) (H : LawX h p n f) :
    ∃ h', Eqv P4 h h' ∧ match toldS f k (EV h) n with
      | some v => f_X4_holds S_1 32 p (nI (263 + k)) h = some (1, h') ∧ (k ≠ 2 → h'.2.1 32 2 = Int64.toInt32 v)
      | none => f_X4_holds S_1 32 p (nI (263 + k)) h = some (0, h') := by
  have h12 := H.1
  obtain ⟨h', e1, r⟩ := q_holdsL hk hz n (FU - n - 1) h H (Nat.le_refl _)
  rw [show FU - n - 1 + n + 1 = FU by unfold FU; omega] at r
  refine ⟨h', e1, ?_⟩
  unfold f_X4_holds
  rw [bs_ (show gI S_1 h p 8 3 = some (nI n) by unfold gI; rw [if_pos H.2.1, H.2.2.1]), lt_e]
  cases et : toldS f k (EV h) n with
  | none =>
    rw [et] at r
    rw [bs_ r]
  | some v =>
    rw [et] at r
    rw [bs_ r.1]
    exact ⟨rfl, r.2⟩
/-- a law in the reference's row -/
def LawM (h : AH) (L n : Nat) (f : Nat → Cl) : Prop := n ≤ 12 ∧ L ≤ 4590 ∧ h.2.1 82 (L + 1) = nI n ∧ ∀ c, c < n → (f c).1 ≤ 2 ∧ h.2.1 82 (L + 2 + 8 * c) = nI (f c).1 ∧ ∃ i m j, h.2.1 82 (L + 2 + 8 * c + 3) = nI i ∧ h.2.1 82 (L + 2 + 8 * c + 4) = nI m ∧ h.2.1 82 (L + 2 + 8 * c + 5) = nI m ∧ h.2.1 82 (L + 2 + 8 * c + 6) = nI j ∧ m ≤ 400 ∧ j ≤ 400 ∧
    (match (f c).2.1 with
      | none => (f c).1 = 2
      | some s => (f c).1 ≠ 2 ∧ ∃ D, D < 400 ∧ CdM false (fun k => h.2.1 82 (L + 98 + 2 * k)) (fun k => h.2.1 82 (L + 98 + 2 * k + 1)) i m s D) ∧
    (match (f c).2.2 with
      | none => j ≤ m
      | some t => ∃ D N, D < 400 ∧ TstM false (fun k => h.2.1 82 (L + 98 + 2 * k)) (fun k => h.2.1 82 (L + 98 + 2 * k + 1)) N m j t D)
def PS (p j : Nat) : Bool := decide (p = 100 ∨ p = 80 ∧ (j = 38 ∨ j = 39 ∨ j = 40))
theorem PA_S (p j : Nat) (h : PA p j = true) : PS p j = true := by
  unfold PA at h
  unfold PS
  apply decide_eq_true
  rcases of_decide_eq_true h with h | ⟨h, h2 | h2⟩
  · exact Or.inl h
  · exact Or.inr ⟨h, Or.inl h2⟩
  · exact Or.inr ⟨h, Or.inr (Or.inl h2)⟩
theorem PS_82 (j : Nat) : PS 82 j = false := by simp [PS]
theorem PS_20 : PS 80 20 = false := by decide
theorem PS_34 : PS 80 34 = false := by decide
theorem EnvM.s {h h' : AH} {ev : Nat → Int64} (k : EnvM false h ev) (e : Eqv PS h h') : EnvM false h' ev := fun j hj => (e.l 98 (j + 1) (by simp [PS])).trans (k j hj)
theorem LawM.s {h h' : AH} {L n : Nat} {f : Nat → Cl} (k : LawM h L n f) (e : Eqv PS h h') : LawM h' L n f := by
  have er : h'.2.1 82 = h.2.1 82 := funext fun j => e.i 82 j (PS_82 j)
  unfold LawM
  rw [er]
  exact k
theorem m_code {h : AH} {L to : Nat} (h20 : h.2.1 80 20 = 0) (h34 : h.2.1 80 34 = nI L) (hL : L ≤ 4590) (ht : to ≤ 400) : CodeM false h to (fun k => h.2.1 82 (L + 98 + 2 * k)) (fun k => h.2.1 82 (L + 98 + 2 * k + 1)) := ⟨ht, h20, L, h34, hL, fun _ _ => ⟨rfl, rfl⟩⟩
theorem m_isSo {L n c : Nat} {f : Nat → Cl} (h : AH) (e : Nat → Int64) (H : LawM h L n f) (hc : c < n) (h20 : h.2.1 80 20 = 0) (h34 : h.2.1 80 34 = nI L) (he : EnvM false h e) :
    ∃ h', Eqv PS h h' ∧ f_X11_isSo S_1 80 (nI (L + 2 + 8 * c)) h = some (bI (clV (f c) e).isSome, h') ∧ ∀ v, clV (f c) e = some v → (f c).1 ≠ 2 → h'.2.2.1 80 40 = v := by
  obtain ⟨k1, k2, k3, k4⟩ := id H
  obtain ⟨a1, a2, i, m, j, b1, b2, b3, b4, b5, b6, b7, b8⟩ := k4 c hc
  have so : ∀ h1, Eqv PS h h1 → ((f c).2.2 = none ∨ ∃ t v, (f c).2.2 = some t ∧ t e = some v ∧ v ≠ 0) → ∃ h', Eqv PS h h' ∧ f_X11_isSo_j59 S_1 80 (nI (L + 2 + 8 * c)) h1 = some (bI (clV (f c) e).isSome, h') ∧ ∀ v, clV (f c) e = some v → (f c).1 ≠ 2 → h'.2.2.1 80 40 = v := fun h1 e1 hso => by
    have er : ∀ j, h1.2.1 82 j = h.2.1 82 j := fun j => e1.i 82 j (PS_82 j)
    rw [clV_so hso]
    unfold f_X11_isSo_j59
    rw [bs_ (yr_80_3 h1), bs_ (ai_82 h1 (by omega)), er, a2]
    cases es : (f c).2.1 with
    | none =>
      rw [es] at b7
      rw [if_pos (by rw [b7]; rfl)]
      exact ⟨h1, e1, rfl, fun v _ n2 => absurd b7 n2⟩
    | some s =>
      rw [es] at b7
      obtain ⟨n2, D, hD, hs⟩ := b7
      have n3 : ¬ nI (f c).1 = 2 := by
        rw [show (2 : Int32) = nI 2 from rfl, nn_eq (by omega) (by decide)]
        exact n2
      rw [if_neg n3, bs_ (yr_80_3 h1), show nI (L + 2 + 8 * c) + (3 : Int32) = nI (L + 2 + 8 * c + 3) from nI_add _ 3, bs_ (ai_82 h1 (by omega)), er, b1, bs_ (yr_80_3 h1), show nI (L + 2 + 8 * c) + (4 : Int32) = nI (L + 2 + 8 * c + 4) from nI_add _ 4, bs_ (ai_82 h1 (by omega)), er, b2, bs_ (ck_80 h1)]
      have hs' : CdM false (fun k => h1.2.1 82 (L + 98 + 2 * k)) (fun k => h1.2.1 82 (L + 98 + 2 * k + 1)) i m s D := by simp only [er]; exact hs
      obtain ⟨h2, r1, e2, r2⟩ := m_reckonAll hs' h1 e (m_code ((e1.i _ _ PS_20).trans h20) ((e1.i _ _ PS_34).trans h34) k2 b5) (he.s e1) hD
      have E2 := e1.trans (e2.mono PA_S)
      rw [bs_ r1]
      dsimp only
      rw [bs_ (yj_80 h2 39), bs_ (xj_80 h2 40 _), bs_ (yi_80 _ 38), show (stJ h2 80 40 (h2.2.2.1 80 39)).2.1 80 38 = h2.2.1 80 38 from rfl]
      cases ev : s e with
      | none =>
        rw [ev] at r2
        rw [if_neg (by rw [r2]; decide)]
        exact ⟨_, E2.sj rfl, rfl, fun v hv => by cases hv⟩
      | some v =>
        rw [ev] at r2
        rw [if_pos r2.1]
        refine ⟨_, E2.sj rfl, rfl, fun v' hv _ => ?_⟩
        injection hv with hv
        rw [stJ_s, r2.2, hv]
  unfold f_X11_isSo
  rw [bs_ (yr_80_3 h), show nI (L + 2 + 8 * c) + (5 : Int32) = nI (L + 2 + 8 * c + 5) from nI_add _ 5, bs_ (ai_82 h (by omega)), b3, bs_ (yr_80_3 h), show nI (L + 2 + 8 * c) + (6 : Int32) = nI (L + 2 + 8 * c + 6) from nI_add _ 6, bs_ (ai_82 h (by omega)), b4]
  cases et : (f c).2.2 with
  | none =>
    rw [et] at b8
    rw [if_pos (show nI j ≤ nI m by rw [nn_le (by omega) (by omega)]; exact b8)]
    exact so h (Eqv.refl h) (Or.inl et)
  | some t =>
    rw [et] at b8
    obtain ⟨D, N, hD, ht⟩ := b8
    have hlt := ht.lt.1
    rw [if_neg (show ¬ nI j ≤ nI m by rw [nn_le (by omega) (by omega)]; omega), bs_ (yr_80_3 h), bs_ (ai_82 h (by omega)), b3, bs_ (yr_80_3 h), bs_ (ai_82 h (by omega)), b4, bs_ (ck_80 h)]
    obtain ⟨h2, r1, e2, r2⟩ := m_reckonAll (Or.inr ⟨N, ht⟩) h e (m_code h20 h34 k2 b6) he hD
    have E2 := e2.mono PA_S
    rw [bs_ r1]
    dsimp only
    rw [bs_ (yi_80 h2 38)]
    cases ev : t e with
    | none =>
      rw [ev] at r2
      rw [if_neg (by rw [r2]; decide), clV_no ⟨t, et, Or.inl ev⟩]
      exact ⟨_, E2, rfl, fun v hv => by cases hv⟩
    | some v =>
      rw [ev] at r2
      rw [if_pos r2.1, bs_ (yj_80 h2 39), r2.2]
      by_cases e0 : v = 0
      · rw [if_pos (by rw [cmp_eq0]; exact e0), clV_no ⟨t, et, Or.inr (by rw [ev, e0])⟩]
        exact ⟨_, E2, rfl, fun v hv => by cases hv⟩
      · rw [if_neg (by rw [cmp_eq0]; exact e0)]
        exact so h2 E2 (Or.inr ⟨t, v, et, ev, e0⟩)

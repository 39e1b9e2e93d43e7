theorem m_sitting {nb n : Nat} {f : Nat → Cl} {m : Nat} (hm : m < 6) (h : AH) (H : InM h n f) (h20 : h.2.1 80 20 = 0) (hn : h.2.1 82 0 = nI nb) (h7 : nb ≤ 7) : Qy PT h (f_X11_sitting S_1 80 (nI m) h) (bits nb (fun b => siS (h.2.1 82) n f b m)) := by
  have e : ∀ (t k fu : Nat) (a : Int32) (h1 : AH), Eqv PT h h1 → k + t = nb → t < fu → Qy PT h (f_X11_sitting_l4 S_1 fu 80 (nI m) a (nI k) h1) (fo (fun s b => s ||| (if siS (h.2.1 82) n f b m then bt b else 0)) k t a) := by
    intro t
    induction t with
    | zero =>
      intro k fu a h1 e1 hk hf
      obtain ⟨fu, rfl⟩ : ∃ x, fu = x + 1 := ⟨fu - 1, by omega⟩
      rw [f_X11_sitting_l4]
      unfold f_X11_sitting_l4b
      rw [bs_ (yr_80_3 h1), aI_0, bs_ (ai_82 h1 (by decide)), row_t e1, hn, if_pos (by rw [nn_le (by omega) (by omega)]; omega)]
      exact Qy.ret e1
    | succ t ih =>
      intro k fu a h1 e1 hk hf
      obtain ⟨fu, rfl⟩ : ∃ x, fu = x + 1 := ⟨fu - 1, by omega⟩
      rw [f_X11_sitting_l4]
      unfold f_X11_sitting_l4b
      obtain ⟨h2, r2, e2⟩ := m_sits (b := k) (by omega) hm h1 (H.t e1) ((e1.i _ _ PT_20).trans h20)
      rw [row_t e1] at r2
      rw [bs_ (yr_80_3 h1), aI_0, bs_ (ai_82 h1 (by decide)), row_t e1, hn, if_neg (by rw [nn_le (by omega) (by omega)]; omega), bs_ (ck_80 h1), bs_ r2]
      dsimp only
      have nx := fun a => ih (k + 1) fu a h2 (e1.trans e2) (by omega) (by omega)
      show Qy PT h _ (fo _ (k + 1) t (a ||| (if siS (h.2.1 82) n f k m then bt k else 0)))
      cases es : siS (h.2.1 82) n f k m with
      | false =>
        rw [if_pos (show bI false = 0 from rfl), lt_e, lt_e, nI_1]
        exact nx _
      | true =>
        rw [if_neg (show ¬ bI true = 0 by decide), lt_e, lt_e, nI_1]
        exact nx _
  unfold f_X11_sitting
  obtain ⟨h2, r2, e2⟩ := e nb 0 FU 0 h (Eqv.refl h) (by omega) (by unfold FU; omega)
  rw [bs_ (show f_X11_sitting_l4 S_1 FU 80 (nI m) (0 : Int32) (0 : Int32) h = _ from r2)]
  exact Qy.ret e2
theorem m_ayes {nb n : Nat} {f : Nat → Cl} {m : Nat} (hm : m < 6) (h : AH) (H : InM h n f) (h20 : h.2.1 80 20 = 0) (hn : h.2.1 82 0 = nI nb) (h7 : nb ≤ 7) : Qy PT h (f_X11_ayes S_1 80 (nI m) h) (bits nb (fun b => ayS (h.2.1 82) n f b m)) := by
  have e : ∀ (t k fu : Nat) (a : Int32) (h1 : AH), Eqv PT h h1 → k + t = nb → t < fu → Qy PT h (f_X11_ayes_l4 S_1 fu 80 (nI m) a (nI k) h1) (fo (fun s b => s ||| (if ayS (h.2.1 82) n f b m then bt b else 0)) k t a) := by
    intro t
    induction t with
    | zero =>
      intro k fu a h1 e1 hk hf
      obtain ⟨fu, rfl⟩ : ∃ x, fu = x + 1 := ⟨fu - 1, by omega⟩
      rw [f_X11_ayes_l4]
      unfold f_X11_ayes_l4b
      rw [bs_ (yr_80_3 h1), aI_0, bs_ (ai_82 h1 (by decide)), row_t e1, hn, if_pos (by rw [nn_le (by omega) (by omega)]; omega)]
      exact Qy.ret e1
    | succ t ih =>
      intro k fu a h1 e1 hk hf
      obtain ⟨fu, rfl⟩ : ∃ x, fu = x + 1 := ⟨fu - 1, by omega⟩
      rw [f_X11_ayes_l4]
      unfold f_X11_ayes_l4b
      obtain ⟨h2, r2, e2⟩ := m_isAye (b := k) (by omega) hm h1 (H.t e1) ((e1.i _ _ PT_20).trans h20)
      rw [row_t e1] at r2
      rw [bs_ (yr_80_3 h1), aI_0, bs_ (ai_82 h1 (by decide)), row_t e1, hn, if_neg (by rw [nn_le (by omega) (by omega)]; omega), bs_ (ck_80 h1), bs_ r2]
      dsimp only
      have nx := fun a => ih (k + 1) fu a h2 (e1.trans e2) (by omega) (by omega)
      show Qy PT h _ (fo _ (k + 1) t (a ||| (if ayS (h.2.1 82) n f k m then bt k else 0)))
      cases es : ayS (h.2.1 82) n f k m with
      | false =>
        rw [if_pos (show bI false = 0 from rfl), lt_e, lt_e, nI_1]
        exact nx _
      | true =>
        rw [if_neg (show ¬ bI true = 0 by decide), lt_e, lt_e, nI_1]
        exact nx _
  unfold f_X11_ayes
  obtain ⟨h2, r2, e2⟩ := e nb 0 FU 0 h (Eqv.refl h) (by omega) (by unfold FU; omega)
  rw [bs_ (show f_X11_ayes_l4 S_1 FU 80 (nI m) (0 : Int32) (0 : Int32) h = _ from r2)]
  exact Qy.ret e2

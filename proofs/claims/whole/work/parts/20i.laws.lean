theorem PT_20 : PT 80 20 = false := by decide
theorem row_t {h h' : AH} (e : Eqv PT h h') : h'.2.1 82 = h.2.1 82 := funext fun j => e.i 82 j (PT_82 j)
theorem InM.t {h h' : AH} {n : Nat} {f : Nat → Cl} (H : InM h n f) (e : Eqv PT h h') : InM h' n f := by
  unfold InM
  rw [row_t e]
  rcases H with H | ⟨i, hi, h4, H⟩
  · exact Or.inl H
  · exact Or.inr ⟨i, hi, h4, H.t (row_t e)⟩
theorem m_isAye {n : Nat} {f : Nat → Cl} {b m : Nat} (hb : b < 7) (hm : m < 6) (h : AH) (H : InM h n f) (h20 : h.2.1 80 20 = 0) : Qy PT h (f_X11_isAye S_1 80 (nI b) (nI m) h) (bI (ayS (h.2.1 82) n f b m)) := by
  unfold f_X11_isAye ayS
  obtain ⟨h1, r1, e1⟩ := m_sits hb hm h H h20
  rw [bs_ (ck_80 h), bs_ r1]
  dsimp only
  cases es : siS (h.2.1 82) n f b m with
  | false =>
    rw [if_pos (show bI false = 0 from rfl)]
    exact Qy.ret e1
  | true =>
    obtain ⟨h2, r2, e2⟩ := m_swayOf hb hm h1 (H.t e1) ((e1.i _ _ PT_20).trans h20)
    rw [row_t e1] at r2
    rw [if_neg (show ¬ bI true = 0 by decide), bs_ (ck_80 h1), bs_ r2]
    dsimp only
    by_cases e5 : swS (h.2.1 82) n f b m < 5
    · rw [if_pos e5, show decide (5 ≤ swS (h.2.1 82) n f b m) = false from decide_eq_false (Int32.not_le.mpr e5)]
      exact Qy.ret (e1.trans e2)
    · rw [if_neg e5, show decide (5 ≤ swS (h.2.1 82) n f b m) = true from decide_eq_true (Int32.not_lt.mp e5)]
      exact Qy.ret (e1.trans e2)

def setS (r : Nat → Int32) (n : Nat) (f : Nat → Cl) (nb m : Nat) : Int32 := bits nb (fun b => siS r n f b m)
def setA (r : Nat → Int32) (n : Nat) (f : Nat → Cl) (nb m : Nat) : Int32 := bits nb (fun b => ayS r n f b m)
def cdS (r : Nat → Int32) (n : Nat) (f : Nat → Cl) (nb m : Nat) : Bool := decide (r (17 + m) = 1 ∧ r 8 ≤ on7 (setS r n f nb m) ∧ r 9 + taS r n f m ≤ 48)
theorem m_canDivide {nb n : Nat} {f : Nat → Cl} {m : Nat} (hm : m < 6) (h : AH) (H : InM h n f) (h20 : h.2.1 80 20 = 0) (hn : h.2.1 82 0 = nI nb) (h7 : nb ≤ 7) : Qy PT h (f_X11_canDivide S_1 80 (nI m) h) (bI (cdS (h.2.1 82) n f nb m)) := by
  unfold f_X11_canDivide cdS
  rw [bs_ (yr_80_3 h), show (17 : Int32) + nI m = nI (17 + m) from nI_add 17 m, bs_ (ai_82 h (by omega))]
  by_cases e0 : h.2.1 82 (17 + m) = 1
  · rw [if_pos e0, bs_ (ck_80 h)]
    obtain ⟨h1, r1, e1⟩ := m_sitting hm h H h20 hn h7
    rw [bs_ (show f_X11_sitting S_1 80 (nI m) h = some (setS (h.2.1 82) n f nb m, h1) from r1)]
    dsimp only
    rw [bs_ (x_ones _ _ _)]
    dsimp only
    rw [bs_ (yr_80_3 h1), bs_ (show aI S_1 h1 82 (8 : Int32) = some (h1.2.1 82 8) from ai_82 h1 (j := 8) (by decide)), row_t e1]
    by_cases e8 : on7 (setS (h.2.1 82) n f nb m) < h.2.1 82 8
    · rw [if_pos e8, show decide (h.2.1 82 (17 + m) = 1 ∧ h.2.1 82 8 ≤ on7 (setS (h.2.1 82) n f nb m) ∧ h.2.1 82 9 + taS (h.2.1 82) n f m ≤ 48) = false from decide_eq_false fun x => Int32.not_le.mpr e8 x.2.1]
      exact Qy.ret e1
    · obtain ⟨h2, r2, e2⟩ := m_takesOf hm h1 (H.t e1) ((e1.i _ _ PT_20).trans h20)
      rw [row_t e1] at r2
      rw [if_neg e8, bs_ (yr_80_3 h1), bs_ (show aI S_1 h1 82 (9 : Int32) = some (h1.2.1 82 9) from ai_82 h1 (j := 9) (by decide)), row_t e1, bs_ (ck_80 h1), bs_ r2]
      dsimp only
      by_cases e9 : 48 < h.2.1 82 9 + taS (h.2.1 82) n f m
      · rw [if_pos e9, show decide (h.2.1 82 (17 + m) = 1 ∧ h.2.1 82 8 ≤ on7 (setS (h.2.1 82) n f nb m) ∧ h.2.1 82 9 + taS (h.2.1 82) n f m ≤ 48) = false from decide_eq_false fun x => Int32.not_le.mpr e9 x.2.2]
        exact Qy.ret (e1.trans e2)
      · rw [if_neg e9, show decide (h.2.1 82 (17 + m) = 1 ∧ h.2.1 82 8 ≤ on7 (setS (h.2.1 82) n f nb m) ∧ h.2.1 82 9 + taS (h.2.1 82) n f m ≤ 48) = true from decide_eq_true ⟨e0, Int32.not_lt.mp e8, Int32.not_lt.mp e9⟩]
        exact Qy.ret (e1.trans e2)
  · rw [if_neg e0, show decide (h.2.1 82 (17 + m) = 1 ∧ h.2.1 82 8 ≤ on7 (setS (h.2.1 82) n f nb m) ∧ h.2.1 82 9 + taS (h.2.1 82) n f m ≤ 48) = false from decide_eq_false fun x => e0 x.1]
    exact Qy.ret (Eqv.refl h)

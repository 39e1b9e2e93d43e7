/-- what the words of a law are told -/
def evL (r : Nat → Int32) (x t v : Int32) (m : Nat) : Nat → Int64 := fun k => Int32.toInt64 (if k = 0 then x else if k = 1 then t else if k = 2 then v else if k = 3 then nI m else if k = 4 then r (72 + m) else if k = 5 then r (78 + m) else if k = 6 then r 9 else if k = 7 then r 5 else r 7)
def PT (p j : Nat) : Bool := decide (p = 100 ∨ p = 98 ∨ p = 80 ∧ (j = 34 ∨ j = 38 ∨ j = 39 ∨ j = 40))
theorem PS_T (p j : Nat) (h : PS p j = true) : PT p j = true := by
  unfold PS at h
  unfold PT
  apply decide_eq_true
  rcases of_decide_eq_true h with h | ⟨h, h2⟩
  · exact Or.inl h
  · exact Or.inr (Or.inr ⟨h, Or.inr h2⟩)
theorem PT_98 (j : Nat) : PT 98 j = true := by simp [PT]
theorem PT_82 (j : Nat) : PT 82 j = false := by simp [PT]
theorem LawM.t {h h' : AH} {L n : Nat} {f : Nat → Cl} (k : LawM h L n f) (e : h'.2.1 82 = h.2.1 82) : LawM h' L n f := by
  unfold LawM
  rw [e]
  exact k
theorem m_tells96 {L n : Nat} {f : Nat → Cl} {k m : Nat} (hk : k ≤ 2) (hm : m < 6) (h0 h : AH) (x t v : Int32) (l : Int64) (E : Eqv PT h0 h) (H : LawM h0 L n f) (h20 : h0.2.1 80 20 = 0) (h34 : h.2.1 80 34 = nI L) (hx : h.2.2.1 98 1 = Int32.toInt64 x) (ht : h.2.2.1 98 2 = Int32.toInt64 t) :
    ∃ h', Eqv PT h0 h' ∧ f_X11_tells_j96 S_1 80 (nI k) (nI m) l 98 3 (Int32.toInt64 v) h = some ((toldS f k (evL (h0.2.1 82) x t v m) n).getD l, h') := by
  have er : ∀ j, h.2.1 82 j = h0.2.1 82 j := fun j => E.i 82 j (PT_82 j)
  unfold f_X11_tells_j96
  rw [bs_ (show sJ S_1 h 98 (3 : Int32) (Int32.toInt64 v) = some (stJ h 98 3 (Int32.toInt64 v)) from si_98 h (j := 3) _ (by decide))]
  rw [bs_ (yr_80_35 _), bs_ (show sJ S_1 (stJ h 98 3 (Int32.toInt64 v)) 98 (4 : Int32) (Int32.toInt64 (nI m)) = some (stJ (stJ h 98 3 (Int32.toInt64 v)) 98 4 (Int32.toInt64 (nI m))) from si_98 _ (j := 4) _ (by decide))]
  generalize e1 : stJ (stJ h 98 3 (Int32.toInt64 v)) 98 4 (Int32.toInt64 (nI m)) = h1
  have r1 : ∀ j, h1.2.1 82 j = h0.2.1 82 j := fun j => by rw [← e1]; exact er j
  rw [bs_ (yr_80_35 _), bs_ (yr_80_3 _), show (72 : Int32) + nI m = nI (72 + m) from nI_add 72 m, bs_ (ai_82 _ (by omega)), r1, bs_ (show sJ S_1 h1 98 (5 : Int32) (Int32.toInt64 (h0.2.1 82 (72 + m))) = some (stJ h1 98 5 (Int32.toInt64 (h0.2.1 82 (72 + m)))) from si_98 _ (j := 5) _ (by decide))]
  generalize e2 : stJ h1 98 5 (Int32.toInt64 (h0.2.1 82 (72 + m))) = h2
  have r2 : ∀ j, h2.2.1 82 j = h0.2.1 82 j := fun j => by rw [← e2]; exact r1 j
  rw [bs_ (yr_80_35 _), bs_ (yr_80_3 _), show (78 : Int32) + nI m = nI (78 + m) from nI_add 78 m, bs_ (ai_82 _ (by omega)), r2, bs_ (show sJ S_1 h2 98 (6 : Int32) (Int32.toInt64 (h0.2.1 82 (78 + m))) = some (stJ h2 98 6 (Int32.toInt64 (h0.2.1 82 (78 + m)))) from si_98 _ (j := 6) _ (by decide))]
  generalize e3 : stJ h2 98 6 (Int32.toInt64 (h0.2.1 82 (78 + m))) = h3
  have r3 : ∀ j, h3.2.1 82 j = h0.2.1 82 j := fun j => by rw [← e3]; exact r2 j
  rw [bs_ (yr_80_35 _), bs_ (yr_80_3 _), bs_ (show aI S_1 h3 82 (9 : Int32) = some (h3.2.1 82 9) from ai_82 h3 (j := 9) (by decide)), r3, bs_ (show sJ S_1 h3 98 (7 : Int32) (Int32.toInt64 (h0.2.1 82 9)) = some (stJ h3 98 7 (Int32.toInt64 (h0.2.1 82 9))) from si_98 _ (j := 7) _ (by decide))]
  generalize e4 : stJ h3 98 7 (Int32.toInt64 (h0.2.1 82 9)) = h4
  have r4 : ∀ j, h4.2.1 82 j = h0.2.1 82 j := fun j => by rw [← e4]; exact r3 j
  rw [bs_ (yr_80_35 _), bs_ (yr_80_3 _), bs_ (show aI S_1 h4 82 (5 : Int32) = some (h4.2.1 82 5) from ai_82 h4 (j := 5) (by decide)), r4, bs_ (show sJ S_1 h4 98 (8 : Int32) (Int32.toInt64 (h0.2.1 82 5)) = some (stJ h4 98 8 (Int32.toInt64 (h0.2.1 82 5))) from si_98 _ (j := 8) _ (by decide))]
  generalize e5 : stJ h4 98 8 (Int32.toInt64 (h0.2.1 82 5)) = h5
  have r5 : ∀ j, h5.2.1 82 j = h0.2.1 82 j := fun j => by rw [← e5]; exact r4 j
  rw [bs_ (yr_80_35 _), bs_ (yr_80_3 _), bs_ (show aI S_1 h5 82 (7 : Int32) = some (h5.2.1 82 7) from ai_82 h5 (j := 7) (by decide)), r5, bs_ (show sJ S_1 h5 98 (9 : Int32) (Int32.toInt64 (h0.2.1 82 7)) = some (stJ h5 98 9 (Int32.toInt64 (h0.2.1 82 7))) from si_98 _ (j := 9) _ (by decide))]
  generalize e6 : stJ h5 98 9 (Int32.toInt64 (h0.2.1 82 7)) = h6
  have r6 : h6.2.1 82 = h0.2.1 82 := funext fun j => by rw [← e6]; exact r5 j
  have f6 : ∀ j, h6.2.1 80 j = h.2.1 80 j := fun j => by rw [← e6, ← e5, ← e4, ← e3, ← e2, ← e1]; rfl
  have E6 : Eqv PT h0 h6 := by
    rw [← e6, ← e5, ← e4, ← e3, ← e2, ← e1]
    exact ((((((E.sj (PT_98 _)).sj (PT_98 _)).sj (PT_98 _)).sj (PT_98 _)).sj (PT_98 _)).sj (PT_98 _)).sj (PT_98 _)
  have he : EnvM false h6 (evL (h0.2.1 82) x t v m) := by
    intro j hj
    rw [← e6, ← e5, ← e4, ← e3, ← e2, ← e1]
    have oo : j = 0 ∨ j = 1 ∨ j = 2 ∨ j = 3 ∨ j = 4 ∨ j = 5 ∨ j = 6 ∨ j = 7 ∨ j = 8 := by omega
    rcases oo with rfl | rfl | rfl | rfl | rfl | rfl | rfl | rfl | rfl <;> simp [evL, stJ, u2, hx, ht]
  have h12 := H.1
  obtain ⟨h', e7, r7⟩ := m_tellsL hk (evL (h0.2.1 82) x t v m) l n 0 (FU - n - 1) h6 (by omega) (H.t r6) ((f6 20).trans ((E.i 80 20 (by decide)).trans h20)) ((f6 34).trans h34) he
  rw [show FU - n - 1 + n + 1 = FU by unfold FU; omega] at r7
  refine ⟨h', E6.trans (e7.mono PS_T), ?_⟩
  rw [bs_ (show f_X11_tells_l189 S_1 FU 80 (nI k) l (0 : Int32) h6 = _ from r7)]

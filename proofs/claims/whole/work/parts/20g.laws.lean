/-- the law in force in the reference's row: none, or one of them -/
def InM (h : AH) (n : Nat) (f : Nat → Cl) : Prop := (h.2.1 82 4 = -1 ∧ n = 0) ∨ ∃ i, i < 6 ∧ h.2.1 82 4 = nI i ∧ LawM h (90 + 900 * i) n f
theorem m_tellsB {n : Nat} {f : Nat → Cl} {k b m : Nat} (hk : k ≤ 2) (hb : b < 7) (hm : m < 6) (h : AH) (l : Int64) (H : InM h n f) (h20 : h.2.1 80 20 = 0) :
    ∃ h', Eqv PT h h' ∧ f_X11_tells S_1 80 (nI k) (nI b) (nI m) l h = some ((toldS f k (evL (h.2.1 82) (nI b) (h.2.1 82 (10 + b)) (h.2.1 82 (30 + 6 * b + m)) m) n).getD l, h') := by
  unfold f_X11_tells
  rw [bs_ (yr_80_3 h), bs_ (show aI S_1 h 82 (4 : Int32) = some (h.2.1 82 4) from ai_82 h (j := 4) (by decide))]
  rcases H with ⟨H, rfl⟩ | ⟨i, hi, h4, H⟩
  · rw [if_pos H]
    exact ⟨h, Eqv.refl h, rfl⟩
  · rw [if_neg (show ¬ h.2.1 82 4 = -1 by rw [h4, nl_m1 (by omega)]; exact id), bs_ (yr_80_3 h), bs_ (show aI S_1 h 82 (4 : Int32) = some (h.2.1 82 4) from ai_82 h (j := 4) (by decide)), h4, show (90 : Int32) + (900 : Int32) * nI i = nI (90 + 900 * i) by rw [show (900 : Int32) = nI 900 from rfl, show (90 : Int32) = nI 90 from rfl, pk_mul, nI_add], bs_ (xi_80 h 34 _)]
    have nb : ¬ nI b = (-1 : Int32) := by rw [nl_m1 (by omega)]; exact id
    rw [bs_ (yr_80_35 _), bs_ (show sJ S_1 (stI h 80 34 (nI (90 + 900 * i))) 98 (1 : Int32) (Int32.toInt64 (nI b)) = some (stJ (stI h 80 34 (nI (90 + 900 * i))) 98 1 (Int32.toInt64 (nI b))) from si_98 _ (j := 1) _ (by decide)), bs_ (yr_80_35 _), if_neg nb, bs_ (yr_80_3 _), show (10 : Int32) + nI b = nI (10 + b) from nI_add 10 b, bs_ (ai_82 _ (by omega)), show (stJ (stI h 80 34 (nI (90 + 900 * i))) 98 1 (Int32.toInt64 (nI b))).2.1 82 (10 + b) = h.2.1 82 (10 + b) by simp [stJ, stI, u2]]
    unfold f_X11_tells_j64
    rw [bs_ (show sJ S_1 (stJ (stI h 80 34 (nI (90 + 900 * i))) 98 1 (Int32.toInt64 (nI b))) 98 (2 : Int32) (Int32.toInt64 (h.2.1 82 (10 + b))) = some (stJ (stJ (stI h 80 34 (nI (90 + 900 * i))) 98 1 (Int32.toInt64 (nI b))) 98 2 (Int32.toInt64 (h.2.1 82 (10 + b)))) from si_98 _ (j := 2) _ (by decide)), bs_ (yr_80_35 _), if_neg nb, bs_ (yr_80_3 _), show (30 : Int32) + (6 : Int32) * nI b + nI m = nI (30 + 6 * b + m) by rw [show (6 : Int32) = nI 6 from rfl, show (30 : Int32) = nI 30 from rfl, pk_mul, nI_add, nI_add], bs_ (ai_82 _ (by omega)), show (stJ (stJ (stI h 80 34 (nI (90 + 900 * i))) 98 1 (Int32.toInt64 (nI b))) 98 2 (Int32.toInt64 (h.2.1 82 (10 + b)))).2.1 82 (30 + 6 * b + m) = h.2.1 82 (30 + 6 * b + m) by simp [stJ, stI, u2]]
    exact m_tells96 hk hm h _ (nI b) (h.2.1 82 (10 + b)) (h.2.1 82 (30 + 6 * b + m)) l ((((Eqv.refl h).si (by decide)).sj (PT_98 _)).sj (PT_98 _)) H h20 (stI_s h 80 34 _) (by simp [stJ, u2]) (by simp [stJ, u2])
theorem m_tellsN {n : Nat} {f : Nat → Cl} {k m : Nat} (hk : k ≤ 2) (hm : m < 6) (h : AH) (l : Int64) (H : InM h n f) (h20 : h.2.1 80 20 = 0) :
    ∃ h', Eqv PT h h' ∧ f_X11_tells S_1 80 (nI k) (-1 : Int32) (nI m) l h = some ((toldS f k (evL (h.2.1 82) (-1) (-1) (-1) m) n).getD l, h') := by
  unfold f_X11_tells
  rw [bs_ (yr_80_3 h), bs_ (show aI S_1 h 82 (4 : Int32) = some (h.2.1 82 4) from ai_82 h (j := 4) (by decide))]
  rcases H with ⟨H, rfl⟩ | ⟨i, hi, h4, H⟩
  · rw [if_pos H]
    exact ⟨h, Eqv.refl h, rfl⟩
  · rw [if_neg (show ¬ h.2.1 82 4 = -1 by rw [h4, nl_m1 (by omega)]; exact id), bs_ (yr_80_3 h), bs_ (show aI S_1 h 82 (4 : Int32) = some (h.2.1 82 4) from ai_82 h (j := 4) (by decide)), h4, show (90 : Int32) + (900 : Int32) * nI i = nI (90 + 900 * i) by rw [show (900 : Int32) = nI 900 from rfl, show (90 : Int32) = nI 90 from rfl, pk_mul, nI_add], bs_ (xi_80 h 34 _)]
    rw [bs_ (yr_80_35 _), bs_ (show sJ S_1 (stI h 80 34 (nI (90 + 900 * i))) 98 (1 : Int32) (Int32.toInt64 (-1)) = some (stJ (stI h 80 34 (nI (90 + 900 * i))) 98 1 (Int32.toInt64 (-1))) from si_98 _ (j := 1) _ (by decide)), bs_ (yr_80_35 _), if_pos rfl]
    unfold f_X11_tells_j64
    rw [bs_ (show sJ S_1 (stJ (stI h 80 34 (nI (90 + 900 * i))) 98 1 (Int32.toInt64 (-1))) 98 (2 : Int32) (-1 : Int64) = some (stJ (stJ (stI h 80 34 (nI (90 + 900 * i))) 98 1 (Int32.toInt64 (-1))) 98 2 (Int32.toInt64 (-1))) from si_98 _ (j := 2) _ (by decide)), bs_ (yr_80_35 _), if_pos rfl]
    exact m_tells96 hk hm h _ (-1) (-1) (-1) l ((((Eqv.refl h).si (by decide)).sj (PT_98 _)).sj (PT_98 _)) H h20 (stI_s h 80 34 _) (by simp [stJ, u2]) (by simp [stJ, u2])

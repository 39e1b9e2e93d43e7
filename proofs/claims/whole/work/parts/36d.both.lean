/-! the richest order: the other side -/
def PB9 (p j : Nat) : Bool := PT p j || decide (101 ≤ p ∧ p ≤ 104 ∨ p = 80 ∧ j = 45 ∨ p = 82 ∧ j = 9)
theorem PT_B9 (p j : Nat) (h : PT p j = true) : PB9 p j = true := by
  unfold PB9
  rw [h]; rfl
theorem PB9_1 {p j : Nat} (h : 101 ≤ p ∧ p ≤ 104 ∨ p = 80 ∧ j = 45 ∨ p = 82 ∧ j = 9) : PB9 p j = true := by
  unfold PB9
  rw [decide_eq_true h, Bool.or_true]
theorem PB9_82 {j : Nat} (h : j ≠ 9) : PB9 82 j = false := by
  unfold PB9
  rw [PT_82]
  exact decide_eq_false (by omega)
def IM (h0 h : AH) (k : Nat) (tr cl : Nat → Nat) (wl : Nat → Int32) (B : BBt) : Prop := Eqv PB9 h0 h ∧ (∀ j, j < k → h.2.1 101 j = nI (tr j) ∧ tr j < 7) ∧ (∀ j, j ≤ k → h.2.1 102 j = nI (cl j)) ∧ (∀ j, j ≤ k → h.2.1 103 j = wl j) ∧ h.2.1 80 45 = nI B.2.1 ∧ B.2.1 ≤ 6 ∧ (∀ j, j < B.2.1 → h.2.1 104 j = nI (B.2.2 j)) ∧ h.2.2.1 82 = h0.2.2.1 82
def pm (m : Nat) : Int32 := nI m - 1
theorem pm_0 : pm 0 = -1 := by decide
theorem pm_s (m : Nat) : pm (m + 1) = nI m := nI_pre m
theorem pm_1 (m : Nat) : pm m + 1 = nI m := Int32.sub_add_cancel _ _
theorem s82_9 (h : AH) (v : Int32) : sI S_1 h 82 (9 : Int32) v = some (stI h 82 9 v) := si_82 h (j := 9) v (by decide)
theorem a82_1 (h : AH) : aI S_1 h 82 (1 : Int32) = some (h.2.1 82 1) := ai_82 h (j := 1) (by decide)
theorem a82_9 (h : AH) : aI S_1 h 82 (9 : Int32) = some (h.2.1 82 9) := ai_82 h (j := 9) (by decide)
theorem Eqv.b9 {h0 h : AH} (e : Eqv PB9 h0 h) : h.2.1 82 = rset (h0.2.1 82) 9 (h.2.1 82 9) := by
  funext j
  by_cases c : j = 9
  · rw [c, rset_s]
  · rw [rset_n _ _ c]
    exact e.i 82 j (PB9_82 c)
theorem CM.b9 {h g : AH} {n nb nm : Nat} {f : Nat → Cl} (k : CM h n f nb nm) (e : Eqv PB9 h g) : CM g n f nb nm := by
  obtain ⟨k1, k2, k3, k4, k5, k6⟩ := k
  have r : ∀ j, j ≠ 9 → g.2.1 82 j = h.2.1 82 j := fun j hj => e.i 82 j (PB9_82 hj)
  refine ⟨?_, (e.i 80 20 rfl).trans k2, (r 0 (by omega)).trans k3, k4, (r 1 (by omega)).trans k5, k6⟩
  rcases k1 with ⟨H1, H2⟩ | ⟨q, hq, h4, H⟩
  · exact Or.inl ⟨(r 4 (by omega)).trans H1, H2⟩
  · refine Or.inr ⟨q, hq, (r 4 (by omega)).trans h4, ?_⟩
    rw [LawR_M] at H ⊢
    exact H.cong (by omega) fun j hj => r _ (by omega)
theorem IM.t {h0 h h' : AH} {k : Nat} {tr cl : Nat → Nat} {wl : Nat → Int32} {B : BBt} (i : IM h0 h k tr cl wl B) (e : Eqv PT h h') : IM h0 h' k tr cl wl B := by
  obtain ⟨a, b, c, d, x, y, z, l⟩ := i
  have o : ∀ p j, 101 ≤ p ∧ p ≤ 104 → h'.2.1 p j = h.2.1 p j := fun p j hp => e.i p j (decide_eq_false (by omega))
  exact ⟨a.trans (e.mono PT_B9), fun j hj => ⟨(o 101 j (by omega)).trans (b j hj).1, (b j hj).2⟩, fun j hj => (o 102 j (by omega)).trans (c j hj), fun j hj => (o 103 j (by omega)).trans (d j hj), (e.i 80 45 rfl).trans x, y, fun j hj => (o 104 j (by omega)).trans (z j hj), (funext fun j => e.l 82 j (PT_82 j)).trans l⟩
theorem IM.pre {h0 h e0 : AH} {k m : Nat} {tr cl : Nat → Nat} {wl : Nat → Int32} {B : BBt} (i : IM h0 h k tr cl wl B) (hk : k < 7) (v1 : h.2.1 101 k = pm m) (e : e0 = stI (stI h 101 k (pm m + 1)) 82 9 ((stI h 101 k (pm m + 1)).2.1 102 k)) : IM h0 e0 k tr cl wl B ∧ e0.2.1 101 k = nI m ∧ e0.2.1 82 9 = nI (cl k) ∧ e0.2.1 82 = rk (h0.2.1 82) (cl k) := by
  obtain ⟨a, b, c, d, x, y, z, l⟩ := i
  have E : Eqv PB9 h0 e0 := by
    rw [e]
    exact (a.si (PB9_1 (by omega))).si (PB9_1 (by omega))
  have e9 : e0.2.1 82 9 = nI (cl k) := by
    rw [e, stI_s, ri_p (by decide)]
    exact c k (Nat.le_refl k)
  refine ⟨⟨E, fun j hj => ⟨?_, (b j hj).2⟩, fun j hj => ?_, fun j hj => ?_, ?_, y, fun j hj => ?_, by rw [e]; exact l⟩, ?_, e9, ?_⟩
  · rw [e, ri_p (by decide), ri_k (by omega)]
    exact (b j hj).1
  · rw [e, ri_p (by decide), ri_p (by decide)]
    exact c j hj
  · rw [e, ri_p (by decide), ri_p (by decide)]
    exact d j hj
  · rw [e, ri_p (by decide), ri_p (by decide)]
    exact x
  · rw [e, ri_p (by decide), ri_p (by decide)]
    exact z j hj
  · rw [e, ri_p (by decide), stI_s, pm_1]
  · rw [E.b9, e9]
    rfl
theorem m_isNew {h : AH} {k m : Nat} {tr : Nat → Nat} (v : ∀ j, j < k → h.2.1 101 j = nI (tr j) ∧ tr j < 7) (a1 : h.2.1 101 k = nI m) (hk : k < 7) (hm : m < 7) : f_X11_isNew S_1 80 (nI k) h = some (bI (! usd tr k m), h) := by
  have e : ∀ (t i fu : Nat) (s : Bool), i + t = k → t < fu → f_X11_isNew_l4 S_1 fu 80 (nI k) (bI s) (nI i) h = some (bI (s && ! exN (fun i => decide (tr i = m)) i t), h) := by
    intro t
    induction t with
    | zero =>
      intro i fu s hi hf
      obtain ⟨fu, rfl⟩ : ∃ x, fu = x + 1 := ⟨fu - 1, by omega⟩
      rw [f_X11_isNew_l4]
      unfold f_X11_isNew_l4b
      rw [if_pos (by rw [nn_le (by omega) (by omega)]; omega), exN, Bool.not_false, Bool.and_true]
    | succ t ih =>
      intro i fu s hi hf
      obtain ⟨fu, rfl⟩ : ∃ x, fu = x + 1 := ⟨fu - 1, by omega⟩
      rw [f_X11_isNew_l4]
      unfold f_X11_isNew_l4b
      rw [if_neg (by rw [nn_le (by omega) (by omega)]; omega), exN]
      have i0 := ih (i + 1) fu false (by omega) (by omega)
      have i1 := ih (i + 1) fu true (by omega) (by omega)
      rw [Bool.false_and] at i0
      rw [Bool.true_and] at i1
      cases s with
      | false =>
        rw [if_pos (show bI false = 0 from rfl), lt_e, nI_1, Bool.false_and]
        exact i0
      | true =>
        rw [if_neg (show ¬ bI true = 0 by decide), bs_ (yr_80_41 h), bs_ (ai_101 h (by omega)), bs_ (yr_80_41 h), bs_ (ai_101 h hk), (v i (by omega)).1, a1, Bool.true_and]
        have vi := (v i (by omega)).2
        by_cases c : tr i = m
        · rw [if_pos (by rw [c]), lt_e, nI_1, decide_eq_true c, Bool.true_or]
          exact i0
        · rw [if_neg (by rw [nn_eq (by omega) (by omega)]; exact c), lt_e, nI_1, decide_eq_false c, Bool.false_or]
          exact i1
  unfold f_X11_isNew
  rw [bs_ (show f_X11_isNew_l4 S_1 FU 80 (nI k) (1 : Int32) (0 : Int32) h = _ from e k 0 FU true (by omega) (by unfold FU; omega))]
  dsimp only
  rw [bs_ (bI_z _), Bool.true_and]
  rfl
/-- no more matters: back -/
theorem m_itA {h0 h : AH} {n nb nm k m : Nat} {f : Nat → Cl} {tr cl : Nat → Nat} {wl : Nat → Int32} {B : BBt} (cm : CM h0 n f nb nm) (F : Nat) (x1 x2 : Int32) (hk : k < 7) (hm : m = nm) (im : IM h0 h k tr cl wl B) (v1 : h.2.1 101 k = pm m) : ∃ h', f_X11_findRichest_l38 S_1 (F + 1) 80 x1 x2 (nI k) h = f_X11_findRichest_l38 S_1 F 80 x1 x2 (nI k + -1) h' ∧ IM h0 h' k tr cl wl B := by
  have h6 := cm.2.2.2.2.2
  rw [f_X11_findRichest_l38]
  unfold f_X11_findRichest_l38b
  rw [if_neg (by rw [z_lt (by omega)]; exact id), bs_ (yr_80_41 h), bs_ (ai_101 h hk), v1, bs_ (si_101 h _ hk), bs_ (yr_80_3 _), bs_ (yr_80_42 _), bs_ (ai_102 _ hk), bs_ (s82_9 _ _), bs_ (yr_80_41 _), bs_ (ai_101 _ hk), bs_ (yr_80_3 _), bs_ (a82_1 _)]
  generalize eh1 : stI (stI h 101 k (pm m + 1)) 82 9 ((stI h 101 k (pm m + 1)).2.1 102 k) = h1
  obtain ⟨i1, a1, e82, r1⟩ := im.pre hk v1 (e0 := h1) eh1.symm
  rw [a1, show h1.2.1 82 1 = nI nm from (congrFun r1 1).trans ((rk_o (by decide)).trans cm.2.2.2.2.1)]
  have cm1 : CM h1 n f nb nm := cm.b9 i1.1
  rw [if_neg (by rw [hm, nn_lt (by omega) (by omega)]; omega), lt_e]
  exact ⟨h1, rfl, i1⟩
/-- not this one: on -/
theorem m_itB {h0 h : AH} {n nb nm k m : Nat} {f : Nat → Cl} {tr cl : Nat → Nat} {wl : Nat → Int32} {B : BBt} (cm : CM h0 n f nb nm) (F : Nat) (x1 x2 : Int32) (hk : k < 7) (hm : m < nm) (im : IM h0 h k tr cl wl B) (v1 : h.2.1 101 k = pm m) (no : (! usd tr k m && canR (h0.2.1 82) n f nb (cl k) m) = false) : ∃ h', f_X11_findRichest_l38 S_1 (F + 1) 80 x1 x2 (nI k) h = f_X11_findRichest_l38 S_1 F 80 x1 x2 (nI k) h' ∧ IM h0 h' k tr cl wl B ∧ h'.2.1 101 k = pm (m + 1) := by
  have h6 := cm.2.2.2.2.2
  rw [f_X11_findRichest_l38]
  unfold f_X11_findRichest_l38b
  rw [if_neg (by rw [z_lt (by omega)]; exact id), bs_ (yr_80_41 h), bs_ (ai_101 h hk), v1, bs_ (si_101 h _ hk), bs_ (yr_80_3 _), bs_ (yr_80_42 _), bs_ (ai_102 _ hk), bs_ (s82_9 _ _), bs_ (yr_80_41 _), bs_ (ai_101 _ hk), bs_ (yr_80_3 _), bs_ (a82_1 _)]
  generalize eh1 : stI (stI h 101 k (pm m + 1)) 82 9 ((stI h 101 k (pm m + 1)).2.1 102 k) = h1
  obtain ⟨i1, a1, e82, r1⟩ := im.pre hk v1 (e0 := h1) eh1.symm
  rw [a1, show h1.2.1 82 1 = nI nm from (congrFun r1 1).trans ((rk_o (by decide)).trans cm.2.2.2.2.1)]
  have cm1 : CM h1 n f nb nm := cm.b9 i1.1
  rw [if_pos (by rw [nn_lt (by omega) (by omega)]; omega), bs_ (ck_80 h1), bs_ (m_isNew i1.2.1 a1 hk (by omega))]
  dsimp only
  cases eu : usd tr k m with
  | true =>
    rw [if_pos (show bI (!true) = 0 by decide)]
    exact ⟨h1, rfl, i1, by rw [a1, pm_s]⟩
  | false =>
    rw [eu, Bool.not_false, Bool.true_and] at no
    rw [if_neg (show ¬ bI (!false) = 0 by decide), bs_ (yr_80_41 h1), bs_ (ai_101 h1 hk), a1, bs_ (ck_80 h1)]
    obtain ⟨h2, q2, e2⟩ := m_canDivide (nb := nb) (show m < 6 by omega) h1 cm1.1 cm1.2.1 cm1.2.2.1 cm1.2.2.2.1
    rw [r1, show cdS (rk (h0.2.1 82) (cl k)) n f nb m = false from no] at q2
    rw [bs_ q2]
    dsimp only
    rw [if_pos (show bI false = 0 from rfl)]
    exact ⟨h2, rfl, i1.t e2, by rw [e2.i 101 k rfl, a1, pm_s]⟩
theorem m_cpy {h : AH} {k : Nat} (hk : k ≤ 6) (x1 x2 : Int32) : ∃ h', f_X11_findRichest_l214 S_1 FU 80 x1 x2 (nI k) 1 (0 : Int32) h = some ((80, x1, x2, nI k, 1), h') ∧ Cpd 104 101 0 0 k h h' := by
  obtain ⟨h', r1, c1⟩ := cp_loop (fun fu y h => f_X11_findRichest_l214 S_1 fu 80 x1 x2 (nI k) 1 y h) (80, x1, x2, nI k, (1 : Int32)) 104 101 0 0 k (Or.inl (by decide)) (fun fu h => by
    show f_X11_findRichest_l214 S_1 (fu + 1) 80 x1 x2 (nI k) 1 (nI k) h = _
    rw [f_X11_findRichest_l214]
    unfold f_X11_findRichest_l214b
    rw [if_pos (Int32.le_refl _)]) (fun fu h i hi => by
    show f_X11_findRichest_l214 S_1 (fu + 1) 80 x1 x2 (nI k) 1 (nI i) h = f_X11_findRichest_l214 S_1 fu 80 x1 x2 (nI k) 1 (nI (i + 1)) (stI h 104 (0 + i) (h.2.1 101 (0 + i)))
    rw [f_X11_findRichest_l214]
    unfold f_X11_findRichest_l214b
    rw [if_neg (by rw [nn_le (by omega) (by omega)]; omega), if_neg (by decide), bs_ (yr_80_44 h), bs_ (yr_80_41 h), bs_ (ai_101 h (by omega)), bs_ (si_104 h _ (by omega)), lt_e, nI_1, Nat.zero_add]) h
  exact ⟨h', r1 FU (by unfold FU; omega), c1⟩
/-- this one: a row that is one longer -/
theorem m_itC {h0 h : AH} {n nb nm k m : Nat} {f : Nat → Cl} {tr cl : Nat → Nat} {wl : Nat → Int32} {B : BBt} (cm : CM h0 n f nb nm) (F : Nat) (x1 : Int32) (hk5 : k < 6) (hm : m < nm) (im : IM h0 h k tr cl wl B) (v1 : h.2.1 101 k = pm m) (us : usd tr k m = false) (ca : canR (h0.2.1 82) n f nb (cl k) m = true) :
    ∃ h', f_X11_findRichest_l38 S_1 (F + 1) 80 x1 B.1 (nI k) h = f_X11_findRichest_l38 S_1 F 80 x1 (upB B (wl k + gaR (h0.2.1 82) n f nb (cl k) m) (k + 1) (updN tr k m)).1 (nI (k + 1)) h' ∧ IM h0 h' (k + 1) (updN tr k m) (updN cl (k + 1) (cl k + tkN (h0.2.1 82) n f (cl k) m)) (fun j => if j = k + 1 then wl k + gaR (h0.2.1 82) n f nb (cl k) m else wl j) (upB B (wl k + gaR (h0.2.1 82) n f nb (cl k) m) (k + 1) (updN tr k m)) ∧ h'.2.1 101 (k + 1) = pm 0 := by
  have h6 := cm.2.2.2.2.2
  have hk : k < 7 := by omega
  rw [f_X11_findRichest_l38]
  unfold f_X11_findRichest_l38b
  rw [if_neg (by rw [z_lt (by omega)]; exact id), bs_ (yr_80_41 h), bs_ (ai_101 h hk), v1, bs_ (si_101 h _ hk), bs_ (yr_80_3 _), bs_ (yr_80_42 _), bs_ (ai_102 _ hk), bs_ (s82_9 _ _), bs_ (yr_80_41 _), bs_ (ai_101 _ hk), bs_ (yr_80_3 _), bs_ (a82_1 _)]
  generalize eh1 : stI (stI h 101 k (pm m + 1)) 82 9 ((stI h 101 k (pm m + 1)).2.1 102 k) = h1
  obtain ⟨i1, a1, e82, r1⟩ := im.pre hk v1 (e0 := h1) eh1.symm
  rw [a1, show h1.2.1 82 1 = nI nm from (congrFun r1 1).trans ((rk_o (by decide)).trans cm.2.2.2.2.1)]
  have cm1 : CM h1 n f nb nm := cm.b9 i1.1
  have h7 := cm.2.2.2.1
  rw [if_pos (by rw [nn_lt (by omega) (by omega)]; omega), bs_ (ck_80 h1), bs_ (m_isNew i1.2.1 a1 hk (by omega)), us]
  dsimp only
  rw [if_neg (show ¬ bI (!false) = 0 by decide), bs_ (yr_80_41 h1), bs_ (ai_101 h1 hk), a1, bs_ (ck_80 h1)]
  obtain ⟨h2, q2, e2⟩ := m_canDivide (nb := nb) (show m < 6 by omega) h1 cm1.1 cm1.2.1 cm1.2.2.1 h7
  rw [r1, show cdS (rk (h0.2.1 82) (cl k)) n f nb m = true from ca] at q2
  have cm2 := cm1.my (e2.mono PT_Mm) (by rw [e2.row PT_82]; exact Ag.refl _)
  have r2 : h2.2.1 82 = rk (h0.2.1 82) (cl k) := (e2.row PT_82).trans r1
  obtain ⟨h3, q3, e3⟩ := m_sitting (nb := nb) (show m < 6 by omega) h2 cm2.1 cm2.2.1 cm2.2.2.1 h7
  have cm3 := cm2.my (e3.mono PT_Mm) (by rw [e3.row PT_82]; exact Ag.refl _)
  have r3 : h3.2.1 82 = rk (h0.2.1 82) (cl k) := (e3.row PT_82).trans r2
  obtain ⟨h4, q4, e4⟩ := m_ayes (nb := nb) (show m < 6 by omega) h3 cm3.1 cm3.2.1 cm3.2.2.1 h7
  have r4 : h4.2.1 82 = rk (h0.2.1 82) (cl k) := (e4.row PT_82).trans r3
  have e14 := (e2.trans e3).trans e4
  have i4 := i1.t e14
  have q5 := m_carries h4 (setS (rk (h0.2.1 82) (cl k)) n f nb m) (setA (rk (h0.2.1 82) (cl k)) n f nb m)
  rw [r4] at q5
  rw [r2] at q3
  rw [r3] at q4
  rw [bs_ q2]
  dsimp only
  rw [if_neg (show ¬ bI true = 0 by decide), bs_ (yr_80_41 h2), bs_ (ai_101 h2 hk), show h2.2.1 101 k = nI m from (e2.i 101 k rfl).trans a1, bs_ (yr_80_43 h2), bs_ (yr_80_43 h2), bs_ (ai_103 h2 hk), show h2.2.1 103 k = wl k from (i1.t e2).2.2.2.1 k (Nat.le_refl k), bs_ (ck_80 h2), bs_ q3]
  dsimp only
  rw [bs_ (ck_80 h3), bs_ q4]
  dsimp only
  rw [bs_ (ck_80 h4), bs_ (show f_X11_carries S_1 80 (bits nb fun b => siS (rk (h0.2.1 82) (cl k)) n f b m) (bits nb fun b => ayS (rk (h0.2.1 82) (cl k)) n f b m) h4 = _ from q5)]
  dsimp only
  obtain ⟨t1, t2, t9⟩ := tk_ok (h0.2.1 82) n f (cl k) m
  have go : ∀ g : Int32, g = gaR (h0.2.1 82) n f nb (cl k) m → ∃ h', f_X11_findRichest_l38_j161 S_1 (f_X11_findRichest_l38 S_1 F) 80 x1 B.1 (nI k) (nI m) 103 (nI k + (1 : Int32)) (wl k) g h4 = f_X11_findRichest_l38 S_1 F 80 x1 (upB B (wl k + gaR (h0.2.1 82) n f nb (cl k) m) (k + 1) (updN tr k m)).1 (nI (k + 1)) h' ∧ IM h0 h' (k + 1) (updN tr k m) (updN cl (k + 1) (cl k + tkN (h0.2.1 82) n f (cl k) m)) (fun j => if j = k + 1 then wl k + gaR (h0.2.1 82) n f nb (cl k) m else wl j) (upB B (wl k + gaR (h0.2.1 82) n f nb (cl k) m) (k + 1) (updN tr k m)) ∧ h'.2.1 101 (k + 1) = pm 0 := fun g hg => by
    rw [← hg]
    obtain ⟨h5, hh5⟩ : ∃ h5, h5 = stI h4 103 (k + 1) (wl k + g) := ⟨_, rfl⟩
    have E5 : Eqv PB9 h0 h5 := by rw [hh5]; exact i4.1.si (PB9_1 (by omega))
    have cm5 : CM h5 n f nb nm := cm.b9 E5
    have r5 : h5.2.1 82 = rk (h0.2.1 82) (cl k) := by
      rw [hh5]
      exact (funext fun j => ri_p (by decide)).trans r4
    obtain ⟨h6', q6, e6⟩ := m_takesOf (show m < 6 by omega) h5 cm5.1 cm5.2.1
    rw [r5, t1] at q6
    have o6 : ∀ p j, 101 ≤ p ∧ p ≤ 104 → h6'.2.1 p j = h5.2.1 p j := fun p j hp => e6.i p j (decide_eq_false (by omega))
    unfold f_X11_findRichest_l38_j161
    rw [nI_1, bs_ (si_103 h4 _ (by omega)), ← hh5, bs_ (yr_80_42 h5), bs_ (yr_80_42 h5), bs_ (ai_102 h5 hk), show h5.2.1 102 k = nI (cl k) by rw [hh5, ri_p (by decide)]; exact i4.2.2.1 k (Nat.le_refl k), bs_ (ck_80 h5), bs_ q6]
    dsimp only
    rw [nI_add, bs_ (si_102 h6' _ (by omega)), lt_e, bs_ (yr_80_41 _), bs_ (si_101 _ _ (by omega)), bs_ (yr_80_43 _), bs_ (ai_103 _ (by omega))]
    generalize eh7 : stI (stI h6' 102 (k + 1) (nI (cl k + tkN (h0.2.1 82) n f (cl k) m))) 101 (k + 1) (-1) = h7'
    have E7 : Eqv PB9 h0 h7' := by
      rw [← eh7]
      exact ((E5.trans (e6.mono PT_B9)).si (PB9_1 (by omega))).si (PB9_1 (by omega))
    have a101 : ∀ j, j < k + 1 → h7'.2.1 101 j = nI (updN tr k m j) ∧ updN tr k m j < 7 := fun j hj => by
      rw [← eh7, ri_k (by omega), ri_p (by decide), o6 101 j (by omega), hh5, ri_p (by decide)]
      by_cases c : j = k
      · rw [c, updN_s, e14.i 101 k rfl]
        exact ⟨a1, by omega⟩
      · rw [updN_o c]
        exact i4.2.1 j (by omega)
    have a101' : h7'.2.1 101 (k + 1) = pm 0 := by rw [← eh7, stI_s, pm_0]
    have a102 : ∀ j, j ≤ k + 1 → h7'.2.1 102 j = nI (updN cl (k + 1) (cl k + tkN (h0.2.1 82) n f (cl k) m) j) := fun j hj => by
      rw [← eh7, ri_p (by decide)]
      by_cases c : j = k + 1
      · rw [c, stI_s, updN_s]
      · rw [ri_k c, updN_o c, o6 102 j (by omega), hh5, ri_p (by decide)]
        exact i4.2.2.1 j (by omega)
    have a103 : ∀ j, j ≤ k + 1 → h7'.2.1 103 j = if j = k + 1 then wl k + g else wl j := fun j hj => by
      rw [← eh7, ri_p (by decide), ri_p (by decide), o6 103 j (by omega), hh5]
      by_cases c : j = k + 1
      · rw [c, stI_s, if_pos rfl]
      · rw [ri_k c, if_neg c]
        exact i4.2.2.2.1 j (by omega)
    have a45 : h7'.2.1 80 45 = nI B.2.1 := by
      rw [← eh7, ri_p (by decide), ri_p (by decide), e6.i 80 45 rfl, hh5, ri_p (by decide)]
      exact i4.2.2.2.2.1
    have a104 : ∀ j, j < B.2.1 → h7'.2.1 104 j = nI (B.2.2 j) := fun j hj => by
      rw [← eh7, ri_p (by decide), ri_p (by decide), o6 104 j (by omega), hh5, ri_p (by decide)]
      exact i4.2.2.2.2.2.2.1 j hj
    have l7 : h7'.2.2.1 82 = h0.2.2.1 82 := by
      rw [← eh7]
      refine Eq.trans (funext fun j => e6.l 82 j (PT_82 j)) ?_
      rw [hh5]
      exact i4.2.2.2.2.2.2.2
    have L6 := i4.2.2.2.2.2.1
    rw [a103 (k + 1) (Nat.le_refl _), if_pos rfl]
    unfold f_X11_findRichest_l38_j209 upB
    by_cases c : wl k + g ≤ B.1
    · rw [if_pos c, if_neg (Int32.not_lt.mpr c), show FU = 999999 + 1 from rfl, f_X11_findRichest_l214]
      unfold f_X11_findRichest_l214b
      rw [if_neg (by rw [show (0 : Int32) = nI 0 from rfl, nn_le (by omega) (by decide)]; omega), if_pos rfl, ob]
      dsimp only
      unfold f_X11_findRichest_l38_j245
      rw [if_pos rfl, bs_ (show gI S_1 h7' 80 11 45 = some (h7'.2.1 80 45) from rfl), bs_ (show pI S_1 h7' 80 11 45 (h7'.2.1 80 45) = some (stI h7' 80 45 (h7'.2.1 80 45)) from rfl), if_pos rfl]
      refine ⟨_, rfl, ⟨E7.si (PB9_1 (by omega)), fun j hj => ?_, fun j hj => (ri_p (by decide)).trans (a102 j hj), fun j hj => (ri_p (by decide)).trans (a103 j hj), (stI_s _ _ _ _).trans a45, L6, fun j hj => (ri_p (by decide)).trans (a104 j hj), l7⟩, (ri_p (by decide)).trans a101'⟩
      exact ⟨(ri_p (by decide)).trans (a101 j hj).1, (a101 j hj).2⟩
    · rw [if_neg c, if_pos (Int32.not_le.mp c)]
      obtain ⟨h8, q8, d1, d2, d3, d4⟩ := m_cpy (h := h7') (show k + 1 ≤ 6 by omega) x1 B.1
      rw [bs_ q8]
      dsimp only
      unfold f_X11_findRichest_l38_j245
      rw [if_neg (by decide), bs_ (show pI S_1 h8 80 11 45 (nI (k + 1)) = some (stI h8 80 45 (nI (k + 1))) from rfl), if_neg (by decide), bs_ (yr_80_43 _), bs_ (ai_103 _ (by omega)), ri_p (by decide), d3 103 _ (by decide), a103 (k + 1) (Nat.le_refl _), if_pos rfl]
      have E8 : Eqv PB9 h7' h8 := ⟨d1, fun p j n => d3 p j (fun z => (by rw [z, PB9_1 (by omega)] at n; cases n)), fun p j _ => (by rw [d2]), (by rw [d2])⟩
      refine ⟨_, rfl, ⟨(E7.trans E8).si (PB9_1 (by omega)), fun j hj => ⟨?_, (a101 j hj).2⟩, fun j hj => ?_, fun j hj => ?_, stI_s _ _ _ _, by show k + 1 ≤ 6; omega, fun j hj => ?_, (show h8.2.2.1 82 = _ by rw [d2]; exact l7)⟩, ?_⟩
      · rw [ri_p (by decide), d3 101 j (by decide)]; exact (a101 j hj).1
      · rw [ri_p (by decide), d3 102 j (by decide)]; exact a102 j hj
      · rw [ri_p (by decide), d3 103 j (by decide)]; exact a103 j hj
      · have hj : j < k + 1 := hj
        rw [ri_p (by decide), d4 j, if_pos (by omega), show j - 0 + 0 = j by omega]
        exact (a101 j hj).1
      · rw [ri_p (by decide), d3 101 _ (by decide)]; exact a101'
  cases ek : carR (h0.2.1 82) n f nb (cl k) m with
  | false =>
    rw [show caS (rk (h0.2.1 82) (cl k)) (setS (rk (h0.2.1 82) (cl k)) n f nb m) (setA (rk (h0.2.1 82) (cl k)) n f nb m) = false from ek, if_pos (show bI false = 0 from rfl)]
    exact go _ (by unfold gaR; rw [ek]; rfl)
  | true =>
    rw [show caS (rk (h0.2.1 82) (cl k)) (setS (rk (h0.2.1 82) (cl k)) n f nb m) (setA (rk (h0.2.1 82) (cl k)) n f nb m) = true from ek, if_neg (show ¬ bI true = 0 by decide), bs_ (yr_80_3 h4), show (78 : Int32) + nI m = nI (78 + m) from nI_add 78 m, bs_ (ai_82 h4 (by omega)), r4, rk_o (by omega)]
    exact go _ (by unfold gaR; rw [ek]; rfl)

/-! reading: the other side's orders, whole -/
theorem m_headsO {h : AH} {b : Nat → Nat} {t i : Nat} (c : Cur h b t i) (cn : CnS h) (kl : tkK b t i ≤ 285) : f_X11_readOrder_l4 S_1 FU 80 (-1) 0 h = some ((80, if 266 ≤ tkK b t i ∧ tkK b t i ≤ 269 then nI (tkK b t i - 266) else -1), h) := by
  have g : ∀ (m k fu : Nat) (s : Int32), k + m = 4 → m < fu → f_X11_readOrder_l4 S_1 fu 80 s (nI k) h = some ((80, fo (fun s k => if tkK b t i = 266 + k then nI k else s) k m s), h) := by
    intro m
    induction m with
    | zero =>
      intro k fu s hk hf
      obtain ⟨fu, rfl⟩ : ∃ x, fu = x + 1 := ⟨fu - 1, by omega⟩
      have : k = 4 := by omega
      subst this
      rw [f_X11_readOrder_l4]
      rfl
    | succ m ih =>
      intro k fu s hk hf
      obtain ⟨fu, rfl⟩ : ∃ x, fu = x + 1 := ⟨fu - 1, by omega⟩
      rw [f_X11_readOrder_l4]
      unfold f_X11_readOrder_l4b
      rw [if_neg (by rw [show (4 : Int32) = nI 4 from rfl, nn_le (by decide) (by omega)]; omega), bs_ (yr_80_48 h), bs_ (ai_107 h (by omega)), cn 107 (Or.inr (Or.inr (Or.inr rfl))), cn_107 k (by omega), bs_ (ck_80 h), bs_ (m_isWord c (by omega))]
      dsimp only
      show _ = some ((80, fo _ (k + 1) m (if tkK b t i = 266 + k then nI k else s)), h)
      by_cases e : tkK b t i = 266 + k
      · rw [decide_eq_true (show tkK b t i = 256 + (10 + k) by omega), if_neg (show ¬ bI true = 0 by decide), if_pos e, lt_e, nI_1]
        exact ih (k + 1) fu _ (by omega) (by omega)
      · rw [decide_eq_false (show ¬ tkK b t i = 256 + (10 + k) by omega), if_pos (show bI false = 0 from rfl), if_neg e, lt_e, nI_1]
        exact ih (k + 1) fu _ (by omega) (by omega)
  have v : ∀ K, K ≤ 285 → fo (fun (s : Int32) k => if K = 266 + k then nI k else s) 0 4 (-1) = if 266 ≤ K ∧ K ≤ 269 then nI (K - 266) else -1 := by decide +kernel
  rw [show f_X11_readOrder_l4 S_1 FU 80 (-1 : Int32) (0 : Int32) h = _ from g 4 0 FU (-1) rfl (by unfold FU; omega), v _ kl]
theorem m_zero108 {m : Nat} (hm : m < 12) (x1 : Int32) : ∀ (d k : Nat) (h : AH) (fu : Nat), k + d = 8 → d < fu → (∀ y, y < k → h.2.1 108 (8 * m + y) = 0) → ∃ h', f_X11_readOrder_l85 S_1 fu 80 x1 (nI (8 * m)) (nI k) h = some ((80, x1, nI (8 * m)), h') ∧ Eqv PH h h' ∧ (∀ j, j < 8 * m → h'.2.1 108 j = h.2.1 108 j) ∧ h'.2.1 80 = h.2.1 80 ∧ ∀ y, y < 8 → h'.2.1 108 (8 * m + y) = 0
  | 0, k, h, fu, hk, hf, z0 => by
    obtain ⟨fu, rfl⟩ : ∃ x, fu = x + 1 := ⟨fu - 1, by omega⟩
    have : k = 8 := by omega
    subst this
    refine ⟨h, ?_, Eqv.refl h, fun _ _ => rfl, rfl, z0⟩
    rw [f_X11_readOrder_l85]
    unfold f_X11_readOrder_l85b
    rw [if_pos (by decide)]
  | d + 1, k, h, fu, hk, hf, z0 => by
    obtain ⟨fu, rfl⟩ : ∃ x, fu = x + 1 := ⟨fu - 1, by omega⟩
    obtain ⟨h', r, e, o, z, z1⟩ := m_zero108 hm x1 d (k + 1) (stI h 108 (8 * m + k) 0) fu (by omega) (by omega) fun y hy => by
      by_cases ey : y = k
      · rw [ey, stI_s]
      · rw [ri_k (by omega)]
        exact z0 y (by omega)
    refine ⟨h', ?_, ((Eqv.refl h).si (PH_o (by omega))).trans e, fun j hj => (o j hj).trans (ri_k (by omega)), z.trans (funext fun j => ri_p (by decide)), z1⟩
    rw [f_X11_readOrder_l85]
    unfold f_X11_readOrder_l85b
    rw [if_neg (by rw [show (8 : Int32) = nI 8 from rfl, nn_le (by decide) (by omega)]; omega), bs_ (yr_80_49 h), nI_add, bs_ (si_108 h _ (by omega)), lt_e, nI_1]
    exact r
theorem fin3_e (K U : Nat → Nat) (i lv : Nat) : clauS K U true i lv = fin3 K U (K i) (ordA K U i lv) := rfl
theorem m_readOrder {h : AH} {b : Nat → Nat} {t n i lv c m : Nat} (k : MB h b t n true i lv c) (e21 : h.2.1 80 21 = nI m) (hm : m ≤ 12) : ROc h b t n m c (if m < 12 then clauS (tkK b t) (tkU b t) true i lv else .inl i) (f_X11_readOrder S_1 80 h) := by
  obtain ⟨n1, n2, n3, n4, n5⟩ := k.n4
  have bad : ∀ x1 : Int32, ROc h b t n m c (.inl i) (f_X11_readOrder_j54 S_1 80 x1 80 0 h) := fun x1 => by
    obtain ⟨h1, r1, e1, b1⟩ := k.must0
    unfold f_X11_readOrder_j54
    rw [bs_ (ck_80 h), bs_ r1]
    dsimp only
    rw [bs_ (gi80 h1 19), b1.1, if_neg (by decide)]
    exact ⟨h1, rfl, e1.mono PE_F, b1⟩
  unfold f_X11_readOrder
  rw [bs_ (m_headsO k.1.1 k.2.2.2.2.2.2 n5)]
  dsimp only
  by_cases c1 : 266 ≤ tkK b t i ∧ tkK b t i ≤ 269
  · rw [if_pos c1, if_neg (show ¬ nI (tkK b t i - 266) = (-1 : Int32) by rw [nl_m1 (by omega)]; exact id), bs_ (gi80 h 21), e21]
    by_cases c2 : m < 12
    · rw [if_pos c2, if_neg (show ¬ (12 : Int32) ≤ nI m by rw [show (12 : Int32) = nI 12 from rfl, nn_le (by decide) (by omega)]; omega)]
      obtain ⟨h1, r1, e1, k1⟩ := k.must1 (by omega)
      have m1 : h1.2.1 80 21 = nI m := (e1.i 80 21 rfl).trans e21
      unfold f_X11_readOrder_j54
      rw [bs_ (ck_80 h), bs_ r1]
      dsimp only
      rw [bs_ (gi80 h1 19), k1.2.1, if_pos rfl, bs_ (gi80 h1 21), m1, lt_e, show (8 : Int32) * nI m = nI (8 * m) from pk_mul 8 m, bs_ (gi80 h1 21), m1, nI_1, bs_ (pi80 h1 21 _)]
      obtain ⟨h1', hh1⟩ : ∃ g, g = stI h1 80 21 (nI (m + 1)) := ⟨_, rfl⟩
      have e1' : Eqv PH h1 h1' := by rw [hh1]; exact (Eqv.refl h1).si (PH_o (by omega))
      have k1' := k1.h e1'
      obtain ⟨h2, r2, e2, o2, z2, zz2⟩ := m_zero108 c2 (nI (tkK b t i - 266)) 8 0 h1' FU rfl (by unfold FU; omega) (fun y hy => by omega)
      rw [← hh1, bs_ (show f_X11_readOrder_l85 S_1 FU 80 (nI (tkK b t i - 266)) (nI (8 * m)) (0 : Int32) h1' = _ from r2)]
      dsimp only
      have k2 := k1'.h e2
      have m2 : h2.2.1 80 21 = nI (m + 1) := by rw [z2, hh1, stI_s]
      rw [bs_ (yr_80_49 h2), bs_ (si_108 h2 _ (by omega))]
      obtain ⟨h5, hh5⟩ : ∃ h5, h5 = stI h2 108 (8 * m) (nI (tkK b t i - 266)) := ⟨_, rfl⟩
      have e5 : Eqv PH h2 h5 := by rw [hh5]; exact (Eqv.refl h2).si (PH_o (by omega))
      have k5 := k2.h e5
      have m5 : h5.2.1 80 21 = nI (m + 1) := by rw [hh5, ri_p (by decide)]; exact m2
      have w0 : h5.2.1 108 (8 * m) = nI (tkK b t i - 266) := by rw [hh5, stI_s]
      have wz : ∀ y, 1 ≤ y → y < 8 → h5.2.1 108 (8 * m + y) = 0 := fun y h1 h2 => by rw [hh5, ri_k (by omega)]; exact zz2 y h2
      have o5 : ∀ j, j < 8 * m → h5.2.1 108 j = h.2.1 108 j := fun j hj => by
        rw [hh5, ri_k (by omega), o2 j hj, hh1, ri_p (by decide)]
        exact e1.i 108 j (decide_eq_false (by omega))
      have E5 : Eqv PFr h h5 := ((e1.mono PN_E).mono PE_F).trans ((e1'.trans (e2.trans e5)).mono PH_F)
      have cd5 : Cod h h5 c := (Cod.n e1).trans (Cod.h (c := c) (e1'.trans (e2.trans e5))) (Nat.le_refl _)
      rw [← hh5, fin3_e]
      unfold ordA
      rw [if_pos c1]
      by_cases c3 : tkK b t i = 269
      · rw [if_pos c3, if_pos (show nI (tkK b t i - 266) = (3 : Int32) by rw [c3]; rfl)]
        exact m_125 (s1 := none) (i0 := c) E5 k5 c2 m5 cd5 (Nat.le_refl c) o5 w0 c1 ⟨rfl, wz 1 (by omega) (by omega), wz 2 (by omega) (by omega)⟩ ⟨wz 3 (by omega) (by omega), wz 4 (by omega) (by omega)⟩
      · rw [if_neg c3, if_neg (show ¬ nI (tkK b t i - 266) = (3 : Int32) by rw [show (3 : Int32) = nI 3 from rfl, nn_eq (by omega) (by decide)]; omega), bs_ (ck_80 h5), show nI (8 * m) + (1 : Int32) = nI (8 * m + 1) from nI_add _ 1]
        have q := m_readSum (p := 8 * m + 1) k5 (by omega)
        revert q
        rcases sumS (tkK b t) (tkU b t) true 8 (i + 1) lv with j | ⟨i', lv', d⟩
        · rintro ⟨h6, r6, e6, b6⟩
          rw [bs_ r6]
          dsimp only
          obtain ⟨h7, r7, e7⟩ := bad_125 b6 c2 (nI (tkK b t i - 266))
          exact ⟨h7, r7, E5.trans (e6.trans (e7.mono PH_F)), b6.h e7⟩
        · rintro ⟨h6, c6, r6, e6, k6, cd6, sc6, u6, o6⟩
          have l6 := sc6.le
          rw [bs_ r6]
          dsimp only
          exact m_125 (s1 := some d) (E5.trans e6) k6 c2 (u6.trans m5) (cd5.trans cd6 (Nat.le_refl _)) l6 (fun j hj => (o6 j (by omega) (by omega)).trans (o5 j hj)) ((o6 _ (by omega) (by omega)).trans w0) c1 sc6 ⟨(o6 _ (by omega) (by omega)).trans (wz 3 (by omega) (by omega)), (o6 _ (by omega) (by omega)).trans (wz 4 (by omega) (by omega))⟩
    · rw [if_neg c2, if_pos (show (12 : Int32) ≤ nI m by rw [show (12 : Int32) = nI 12 from rfl, nn_le (by decide) (by omega)]; omega)]
      exact bad _
  · rw [if_neg c1, if_pos rfl]
    have : (if m < 12 then clauS (tkK b t) (tkU b t) true i lv else .inl i) = .inl i := by
      by_cases c2 : m < 12
      · rw [if_pos c2, fin3_e]
        unfold ordA
        rw [if_neg c1]
        rfl
      · rw [if_neg c2]
    rw [this]
    exact bad _
def HdOs (h : AH) (m : Nat) (f : Nat → Co) (c : Nat) : Prop := ∀ y, y < m → HdO h y (f y) c
theorem HdO.cong {h h' : AH} {y c c' : Nat} {x : Co} (k : HdO h y x c) (hc : c ≤ c') (e : Cod h h' c) (e2 : ∀ j, j < 8 * y + 8 → h'.2.1 108 j = h.2.1 108 j) : HdO h' y x c' := by
  obtain ⟨k1, k0, k2, i, m1, m, j, a1, a2, a3, a4, a5, a6⟩ := k
  have l1 := a6.le
  have l2 := a2.le
  exact ⟨(e2 _ (by omega)).trans k1, (e2 _ (by omega)).trans k0, k2, i, m1, m, j, a1.cong (e.le (by omega)) (e2 _ (by omega)) (e2 _ (by omega)), a2.cong (e.le (by omega)) (e2 _ (by omega)) (e2 _ (by omega)), (e2 _ (by omega)).trans a3, (e2 _ (by omega)).trans a4, by omega, a6.cong (e.le (by omega))⟩
def ROt (h : AH) (b : Nat → Nat) (t n : Nat) (r : Nat ⊕ (Nat × (Nat → Co))) (res : Option (Nat × AH)) : Prop := match r with
  | .inl j => ∃ h', res = some (80, h') ∧ Eqv PFr h h' ∧ (BadE h' b t j ∨ ∃ lv c, MB h' b t n true j lv c ∧ tkK b t j ≠ 59 ∧ tkK b t j ≠ 285)
  | .inr (m', f') => ∃ h' c' i' lv', res = some (80, h') ∧ Eqv PFr h h' ∧ MB h' b t n true i' lv' c' ∧ tkK b t i' = 285 ∧ h'.2.1 80 21 = nI m' ∧ m' ≤ 12 ∧ HdOs h' m' f' c'
theorem ROt.from {h h1 : AH} {b : Nat → Nat} {t n : Nat} {r : Nat ⊕ (Nat × (Nat → Co))} {res : Option (Nat × AH)} (e : Eqv PFr h h1) (k : ROt h1 b t n r res) : ROt h b t n r res := by
  rcases r with j | ⟨m', f'⟩
  · obtain ⟨h', a, b, c⟩ := k
    exact ⟨h', a, e.trans b, c⟩
  · obtain ⟨h', c', i', lv', a, b, c⟩ := k
    exact ⟨h', c', i', lv', a, e.trans b, c⟩
theorem m_ordT {b : Nat → Nat} {t n : Nat} : ∀ (r m : Nat) (f : Nat → Co) (i lv c : Nat) (h : AH) (F : Nat), r + m = 12 → r + 1 < F → MB h b t n true i lv c → h.2.1 80 21 = nI m → HdOs h m f c → ROt h b t n (textS (tkK b t) (tkU b t) true r m f i lv) ((f_X11_readOrder S_1 80 h).bind fun z => f_X11_orders_l19 S_1 F 80 z.2) := by
  intro r
  induction r with
  | zero =>
    intro m f i lv c h F hr hF k e21 hh
    obtain ⟨F, rfl⟩ : ∃ x, F = x + 1 := ⟨F - 1, by omega⟩
    have q := m_readOrder k e21 (by omega)
    rw [if_neg (show ¬ m < 12 by omega)] at q
    obtain ⟨h1, r1, e1, b1⟩ := q
    rw [bs_ r1, textS]
    refine ⟨h1, ?_, e1, Or.inl b1⟩
    rw [f_X11_orders_l19]
    unfold f_X11_orders_l19b
    rw [bs_ (gi80 h1 19), b1.1, if_neg (by decide)]
  | succ r ih =>
    intro m f i lv c h F hr hF k e21 hh
    obtain ⟨F, rfl⟩ : ∃ x, F = x + 1 := ⟨F - 1, by omega⟩
    have q := m_readOrder k e21 (by omega)
    rw [if_pos (show m < 12 by omega)] at q
    rw [textS]
    revert q
    rcases clauS (tkK b t) (tkU b t) true i lv with j | ⟨i', lv', x⟩
    · rintro ⟨h1, r1, e1, b1⟩
      rw [bs_ r1]
      refine ⟨h1, ?_, e1, Or.inl b1⟩
      rw [f_X11_orders_l19]
      unfold f_X11_orders_l19b
      rw [bs_ (gi80 h1 19), b1.1, if_neg (by decide)]
    · rintro ⟨h1, c1, le1, r1, e1, k1, m1, cd1, o1, hd1⟩
      have ss : HdOs h1 (m + 1) (fun c => if c = m then x else f c) c1 := fun y hy => by
        by_cases ey : y = m
        · subst ey
          show HdO h1 y (if y = y then x else f y) c1
          rw [if_pos rfl]
          exact hd1
        · show HdO h1 y (if y = m then x else f y) c1
          rw [if_neg ey]
          exact (hh y (by omega)).cong le1 cd1 fun j hj => o1 j (by omega)
      rw [bs_ r1, f_X11_orders_l19]
      unfold f_X11_orders_l19b
      rw [bs_ (gi80 h1 19), k1.2.1, if_pos rfl, bs_ (ck_80 h1), bs_ (show f_X11_isSign S_1 80 (59 : Int32) h1 = _ from m_isSign (x := 59) k1.1.1 (by decide) (by decide))]
      dsimp only
      by_cases c59 : tkK b t i' = 59
      · obtain ⟨h2, r2, e2, k2⟩ := k1.next (by omega)
        rw [if_pos c59, decide_eq_true c59, if_neg (show ¬ bI true = 0 by decide), bs_ (ck_80 h1), bs_ r2]
        dsimp only
        rw [bs_ (ck_80 h2)]
        exact ROt.from (e1.trans ((e2.mono PN_E).mono PE_F)) (ih (m + 1) _ (i' + 1) lv' c1 h2 F (by omega) (by omega) k2 ((e2.i 80 21 rfl).trans m1) fun y hy => (ss y hy).cong (Nat.le_refl _) (Cod.n e2) fun j _ => e2.i 108 j (decide_eq_false (by omega)))
      · rw [if_neg c59, decide_eq_false c59, if_pos (show bI false = 0 from rfl)]
        by_cases c285 : tkK b t i' = 285
        · rw [if_pos c285]
          exact ⟨h1, c1, i', lv', rfl, e1, k1, c285, m1, by omega, ss⟩
        · rw [if_neg c285]
          exact ⟨h1, rfl, e1, Or.inr ⟨lv', c1, k1, c59, c285⟩⟩

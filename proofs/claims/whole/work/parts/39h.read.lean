/-! reading: the other side's tests, to the end -/
theorem m_testL {b : Nat → Nat} {t n o lv0 c0 : Nat} {ord : Bool} {P : List (Nat × Nat)} {pl : Nat → Nat → Rs} (hP : hdL 1 P) (iP : inV P ≠ 32) (HG : ∀ i lv, i ≤ n → Go1 n i lv (pl i lv)) (HP : ∀ (h : AH) (i lv c : Nat) (Q : List (Nat × Nat)) (F : Nat), hdL 3 Q → inV Q ≠ 32 → MS h b t n ord i lv c o Q → 2 * (n - i) + 10 ≤ F → RPt h F b t n ord i lv c o Q (pl i lv)) : ∀ (f : Nat) (p q : Option (Nat × DD)) (i lv c : Nat) (h : AH) (F m1 L1 L2 : Nat), MS h b t n ord i lv c o (eJ 29 q ++ (eJ 30 p ++ P)) → P1J h ord 30 p c0 m1 L1 → P1J h ord 29 q m1 c L2 → lv - lv0 = L1 + L2 → lv0 ≤ lv → n < f + i → 2 * (n - i) + 10 ≤ F → RTt h F b t n ord i lv0 c0 o P (testL pl (tkK b t) f (p.map Prod.snd) (q.map Prod.snd) i lv) := by
  intro f
  induction f with
  | zero =>
    intro p q i lv c h F m1 L1 L2 ms _ _ _ _ hf
    have := ms.1.2.2
    omega
  | succ f ih =>
    intro p q i lv c h F m1 L1 L2 ms k1 k2 eLv hlv hf hF
    have hi := ms.1.2.2
    have tkn := ms.1.2.1
    have go := HG i lv hi
    have h3 : hdL 3 (eJ 29 q ++ (eJ 30 p ++ P)) := hdL_eJ (by decide) q (hdL_eJ (by decide) p (hdL_le (by decide) hP))
    have i3 : inV (eJ 29 q ++ (eJ 30 p ++ P)) ≠ 32 := by
      rw [inV_eJ (by decide), inV_eJ (by decide)]
      exact iP
    have hp := HP h i lv c _ F h3 i3 ms hF
    have l1 := k1.le
    have l2 := k2.le
    rw [testL]
    revert go hp
    rcases pl i lv with j | ⟨i', lv', d⟩
    · exact fun _ z => z
    · rintro ⟨g1, g2, g3, g4⟩ ⟨h1, F1, W, c1, f1, r1, e1, ms1, cd1, s1⟩
      dsimp only
      have te : TeM h1 ord W p q c0 c1 d (lv' - lv0) := ⟨m1, c, L1, L2, lv' - lv, by omega, k1.cong fun j hj => cd1 j (by omega), k2.cong fun j hj => cd1 j hj, s1⟩
      have e19 := ms1.2.1
      have cd0 : Cod h h1 c0 := fun j hj => cd1 j (by omega)
      obtain ⟨G, rfl⟩ : ∃ x, F1 = x + 1 := ⟨F1 - 1, by omega⟩
      have up : ∀ (h2 : AH) (r : Rs), Lx 1 (G + 1) 2 h1 = Lx 1 G 0 h2 → Eqv PE h1 h2 → Cod h1 h2 c0 → i' < n → RTt h2 G b t n ord (i' + 1) lv0 c0 o P r → Go1 n (i' + 1) lv' r → RTt h F b t n ord i lv0 c0 o P r := fun h2 r r2 e2 cd2 hl z gz => by
        rcases r with j | ⟨i2, lv2, d2⟩
        · exact RBd.step (r1.trans r2) (e1.trans e2) z
        · obtain ⟨h', F', W', p', q', c', d0, z1, z2, z3, z4, z5, z6, z7, z8⟩ := z
          obtain ⟨y1, y2, _⟩ := gz
          exact ⟨h', F', W', p', q', c', d0, by omega, (r1.trans r2).trans z2, (e1.trans e2).trans z3, z4, z5, z6, (cd0.trans cd2 (Nat.le_refl _)).trans z7 (Nat.le_refl _), z8⟩
      by_cases ca : tkK b t i' = 257
      · have hl := tkn.lt g2 (by omega)
        rw [if_pos ca]
        obtain ⟨h2, c2, r2, e2, ms2, cd2, m2, L3, L4, eL2, y1, y2⟩ := m_btA ms1 te hP ca
        refine up h2 _ ?_ e2 cd2 hl (ih p (some (c2, joinA (q.map Prod.snd) d)) (i' + 1) lv' (c2 + 1) h2 G m2 L3 L4 ms2 y1 y2 eL2 (by omega) (by omega) (by omega)) (testL_go tkn HG _ _ _ _ _ (by omega))
        rw [lx_2 e19, bs_ r2]
      · rw [if_neg ca]
        by_cases co : tkK b t i' = 256
        · have hl := tkn.lt g2 (by omega)
          rw [if_pos co]
          obtain ⟨h2, c2, r2, e2, ms2, cd2, y1⟩ := m_btO ms1 te hP co
          refine up h2 _ ?_ e2 cd2 hl (ih (some (c2, joinO (p.map Prod.snd) (joinA (q.map Prod.snd) d))) none (i' + 1) lv' (c2 + 1) h2 G (c2 + 1) (lv' - lv0) 0 ms2 y1 ⟨rfl, rfl⟩ (by omega) (by omega) (by omega) (by omega)) (testL_go tkn HG _ _ _ _ _ (by omega))
          rw [lx_2 e19, bs_ r2]
        · rw [if_neg co]
          exact ⟨h1, G + 1, W, p, q, c1, d, f1, r1, e1, ms1, te, rfl, cd0, ca, co⟩
theorem m_plainBr {h : AH} {b : Nat → Nat} {t i : Nat} (c : Cur h b t i) (e : tkK b t i = 40) : f_X11_readPlain S_1 80 h = (f_X11_openBracket S_1 80 (nI 31) h).bind fun z => some ((0 : Int32), z.2) := by
  unfold f_X11_readPlain
  rw [bs_ (ck_80 h), bs_ (show f_X11_isWord S_1 80 (14836 : Int64) h = _ from m_isWord (k := 2) c (by decide)), decide_eq_false (show ¬ tkK b t i = 256 + 2 by omega)]
  dsimp only
  rw [if_pos (show bI false = 0 from rfl), bs_ (ck_80 h), bs_ (show f_X11_isSign S_1 80 (40 : Int32) h = _ from m_isSign (x := 40) c (by decide) (by decide)), decide_eq_true e]
  dsimp only
  rw [if_neg (show ¬ bI true = 0 by decide), bs_ (ck_80 h)]
  rfl
theorem m_test {b : Nat → Nat} {t n : Nat} {ord : Bool} : ∀ (k o : Nat) (h : AH) (i lv c : Nat) (P : List (Nat × Nat)) (F : Nat), o + k = 8 → hdL 1 P → inV P ≠ 32 → MS h b t n ord i lv c o P → 2 * (n - i) + 10 ≤ F → RTt h F b t n ord i lv c o P (testS (tkK b t) (tkU b t) ord k i lv) := by
  intro k
  induction k with
  | zero =>
    intro o h i lv c P F ho hP iP ms hF
    have tkn := ms.1.2.1
    have n4 := tkn.1
    refine m_testL (pl := plainS (tkK b t) (sumS (tkK b t) (tkU b t) ord 0) fun i _ => .inl i) hP iP (plain_go (br := fun i _ => .inl i) tkn (sum_go tkn 0) fun i lv hi _ => ⟨Nat.le_refl _, hi⟩) (fun h i lv c Q F hQ iQ ms hF => m_plain (br := fun i _ => .inl i) ho hQ iQ (fun h i lv c P F ms hF e => ?_) (fun i lv hi _ => ⟨Nat.le_refl _, hi⟩) ms hF) 402 none none i lv c h F c 0 0 ms ⟨rfl, rfl⟩ ⟨rfl, rfl⟩ (by omega) (Nat.le_refl _) (by omega) hF
    obtain ⟨F, rfl⟩ : ∃ x, F = x + 2 := ⟨F - 2, by omega⟩
    rcases m_open ms (op := 31) (by omega) (Or.inl rfl) with ⟨z, _⟩ | ⟨_, h', r, e', bd⟩
    · omega
    · refine ⟨h', ?_, e', bd⟩
      rw [show F + 2 = F + 1 + 1 from rfl, lx_0 ms.2.1, m_plainBr ms.1.1 e, bs_ r]
      exact lx_bad bd.1
  | succ k IH =>
    intro o h i lv c P F ho hP iP ms hF
    have tkn := ms.1.2.1
    have n4 := tkn.1
    have gb : ∀ i lv, i ≤ n → tkK b t i = 40 → Go1 n i lv (brS (tkK b t) 41 (testS (tkK b t) (tkU b t) ord k (i + 1) lv)) := fun i lv hi e => by
      have := tkn.lt hi (by omega)
      exact br_go tkn (by decide) (test_go tkn k (i + 1) lv (by omega))
    refine m_testL (pl := plainS (tkK b t) (sumS (tkK b t) (tkU b t) ord (k + 1)) fun i lv => brS (tkK b t) 41 (testS (tkK b t) (tkU b t) ord k (i + 1) lv)) hP iP (plain_go (br := fun i lv => brS (tkK b t) 41 (testS (tkK b t) (tkU b t) ord k (i + 1) lv)) tkn (sum_go tkn (k + 1)) gb) (fun h i lv c Q F hQ iQ ms hF => m_plain (br := fun i lv => brS (tkK b t) 41 (testS (tkK b t) (tkU b t) ord k (i + 1) lv)) ho hQ iQ (fun h i lv c P F ms hF e => ?_) gb ms hF) 402 none none i lv c h F c 0 0 ms ⟨rfl, rfl⟩ ⟨rfl, rfl⟩ (by omega) (Nat.le_refl _) (by omega) hF
    have hl := tkn.lt ms.1.2.2 (by omega)
    obtain ⟨F, rfl⟩ : ∃ x, F = x + 1 := ⟨F - 1, by omega⟩
    rcases m_open ms (op := 31) (by omega) (Or.inl rfl) with ⟨z, h1, r1, e1, ms1, cd1⟩ | ⟨z, _⟩
    · have step : Lx 1 (F + 1) 0 h = Lx 1 F 0 h1 := by
        rw [lx_0 ms.2.1, m_plainBr ms.1.1 e, bs_ r1]
        rfl
      have q := IH (o + 1) h1 (i + 1) lv c ((31, 0) :: P) F (by omega) (show bnO 31 < 1 by decide) (show inV ((31, 0) :: P) ≠ 32 by show (31 : Int32) ≠ 32; decide) ms1 (by omega)
      have g := test_go (U := tkU b t) (ord := ord) tkn k (i + 1) lv (by omega)
      unfold brS
      revert q g
      rcases testS (tkK b t) (tkU b t) ord k (i + 1) lv with j | ⟨i', lv', d⟩
      · exact fun q _ => RBd.step step e1 q
      · rintro ⟨h2, F2, W, p, q, c2, d0, f2, r2, e2, ms2, te2, rfl, cd2, na1, na2⟩ ⟨g1, g2, g3, g4⟩
        obtain ⟨G, rfl⟩ : ∃ x, F2 = x + 2 := ⟨F2 - 2, by omega⟩
        have l2 := lx_2 (x1 := 1) (F := G + 1) ms2.2.1
        dsimp only
        rcases m_btC ms2 te2 na1 na2 with ⟨e41, h3, c3, N, r3, e3, ms3, cd3, s3⟩ | ⟨e41, h3, r3, e3, bd⟩
        · rw [if_pos e41]
          refine ⟨h3, G + 1, c3, N, by omega, ?_, e1.trans (e2.trans e3), ms3, (cd1.trans cd2 (Nat.le_refl _)).trans cd3 (Nat.le_refl _), s3⟩
          rw [step, r2, show G + 2 = G + 1 + 1 from rfl, l2, bs_ r3]
        · rw [if_neg e41]
          refine ⟨h3, ?_, e1.trans (e2.trans e3), bd⟩
          rw [step, r2, show G + 2 = G + 1 + 1 from rfl, l2, bs_ r3]
          exact lx_bad bd.1
    · omega
/-! readExpression -/
/-- where it stands between expressions -/
def MB (h : AH) (b : Nat → Nat) (t n : Nat) (ord : Bool) (i lv c : Nat) : Prop := (Cur h b t i ∧ TkN (tkK b t) n ∧ i ≤ n) ∧ h.2.1 80 19 = 0 ∧ h.2.1 80 20 = bI ord ∧ (h.2.1 80 26 = nI lv ∧ lv ≤ 50) ∧ h.2.1 80 23 = nI c ∧ c ≤ i ∧ CnS h
/-- it failed at a token -/
def BadE (h : AH) (b : Nat → Nat) (t j : Nat) : Prop := h.2.1 80 19 = 1 ∧ h.2.1 80 18 = nI (stT b t j)
def REx (Q : Bool → (Nat → Int32) → (Nat → Int32) → Nat → Nat → Nat → DD → Nat → Prop) (h : AH) (b : Nat → Nat) (t n : Nat) (ord : Bool) (lv c : Nat) (r : Rs) (res : Option (Unit × AH)) : Prop := match r with
  | .inl j => ∃ h', res = some ((), h') ∧ Eqv PE h h' ∧ BadE h' b t j
  | .inr (i', lv', d) => ∃ h' c' N, res = some ((), h') ∧ Eqv PE h h' ∧ MB h' b t n ord i' lv' c' ∧ Cod h h' c ∧ Q ord (h'.2.1 91) (h'.2.1 92) N c c' d (lv' - lv)
theorem MB.ms {h : AH} {b : Nat → Nat} {t n i lv c : Nat} {ord : Bool} (k : MB h b t n ord i lv c) : MS (stI (stI h 80 29 0) 80 30 0) b t n ord i lv c 0 [] := by
  obtain ⟨⟨q1, q2, q3⟩, a4, a5, ⟨a6, a7⟩, a8, b3, b5⟩ := k
  have oo : ∀ p j, ¬ (p = 80 ∧ (j = 29 ∨ j = 30)) → (stI (stI h 80 29 0) 80 30 0).2.1 p j = h.2.1 p j := fun p j z => by
    by_cases e : p = 80
    · subst e
      rw [ri_k (by omega), ri_k (by omega)]
    · rw [ri_p e, ri_p e]
  refine ⟨⟨?_, q2, q3⟩, (oo _ _ (by omega)).trans a4, (oo _ _ (by omega)).trans a5, ⟨(oo _ _ (by omega)).trans a6, a7⟩, (oo _ _ (by omega)).trans a8, ⟨(ri_k (by decide)).trans (stI_s _ _ _ _), trivial⟩, stI_s _ _ _ _, by rw [wtP]; omega, Nat.zero_le _, by decide, b5⟩
  obtain ⟨⟨t1, t2, t3⟩, v14, v15, v16, v17⟩ := q1
  exact ⟨⟨(oo _ _ (by omega)).trans t1, t2, fun j hj => ⟨(oo _ _ (by omega)).trans (t3 j hj).1, (t3 j hj).2⟩⟩, (oo _ _ (by omega)).trans v14, (oo _ _ (by omega)).trans v15, (oo _ _ (by omega)).trans v16, v17⟩
theorem MS.mb {h : AH} {b : Nat → Nat} {t n i lv c o : Nat} {ord : Bool} (k : MS h b t n ord i lv c o []) : MB h b t n ord i lv c := by
  obtain ⟨q, a4, a5, a6, a8, a9, b2, b3, b4, b5⟩ := k
  exact ⟨q, a4, a5, a6, a8, by rw [wtP] at b3; omega, b5.2⟩
theorem Bad.setl {h : AH} {b : Nat → Nat} {t j : Nat} (k : Bad h b t j) : ∃ h', f_X11_settle S_1 80 1 h = some ((), h') ∧ Eqv PE h h' ∧ BadE h' b t j := by
  obtain ⟨a, b', c, P, k1, k2, k3, k4, k5⟩ := k
  obtain ⟨h', r, e⟩ := set_all 1 ⟨by decide, by decide⟩ P (FU + 1) c h (by unfold FU; omega) k2 k3 k1 k4 k5
  refine ⟨h', ?_, e.mono PSe_E, (e.i 80 19 rfl).trans a, (e.i 80 18 rfl).trans b'⟩
  rw [settle_eq]
  exact r
theorem re_0 (x1 : Int32) (h : AH) : f_X11_readExpression S_1 80 x1 h = (f_X11_readExpression_l20 S_1 FU 80 x1 (if x1 = 0 then 1 else 0) (stI (stI h 80 29 0) 80 30 0)).bind fun z => match z with
    | (r0_7, h_6) =>
    (ckO S_1 h_6 r0_7 11).bind fun _ =>
    (f_X11_settle S_1 r0_7 (1 : Int32) h_6).bind fun z => match z with
    | (_, h_9) =>
    some ((), h_9) := by
  unfold f_X11_readExpression
  rw [bs_ (pi80 h 29 _), bs_ (pi80 _ 30 _)]
  by_cases c : x1 = 0
  · rw [if_pos c, if_pos c]
  · rw [if_neg c, if_neg c]
theorem m_exprT {h : AH} {b : Nat → Nat} {t n i lv c : Nat} {ord : Bool} (k : MB h b t n ord i lv c) : REx TstM h b t n ord lv c (testS (tkK b t) (tkU b t) ord 8 i lv) (f_X11_readExpression S_1 80 1 h) := by
  have ms := k.ms
  have tkn := ms.1.2.1
  have n4 := tkn.1
  have e0 : Eqv PE h (stI (stI h 80 29 0) 80 30 0) := ((Eqv.refl h).si (PE_o (by omega))).si (PE_o (by omega))
  have c0 : Cod h (stI (stI h 80 29 0) 80 30 0) c := fun j _ => ⟨by rw [ri_p (by decide), ri_p (by decide)], by rw [ri_p (by decide), ri_p (by decide)]⟩
  have g := test_go (U := tkU b t) (ord := ord) tkn 8 i lv ms.1.2.2
  rw [re_0, if_neg (show ¬ (1 : Int32) = 0 by decide)]
  generalize stI (stI h 80 29 0) 80 30 0 = h0 at ms e0 c0
  have q := m_test 8 0 h0 i lv c [] FU rfl trivial (show (-1 : Int32) ≠ 32 by decide) ms (by unfold FU; omega)
  revert q g
  rcases testS (tkK b t) (tkU b t) ord 8 i lv with j | ⟨i', lv', d⟩
  · rintro - ⟨h1, r1, e1, bd⟩
    obtain ⟨h2, r2, e2, b2⟩ := bd.setl
    rw [bs_ (show f_X11_readExpression_l20 S_1 FU 80 1 0 h0 = _ from r1)]
    dsimp only
    rw [bs_ (ck_80 h1), bs_ r2]
    exact ⟨h2, rfl, e0.trans (e1.trans e2), b2⟩
  · rintro ⟨g1, g2, g3, g4⟩ ⟨h1, F1, W, p, q, c1, d0, f1, r1, e1, ms1, te1, rfl, cd1, na1, na2⟩
    have fu : FU = 1000000 := rfl
    obtain ⟨G, rfl⟩ : ∃ x, F1 = x + 2 := ⟨F1 - 2, by omega⟩
    have bt := m_btN ms1 na1 na2
    have iv : inV (W ++ (eJ 29 q ++ (eJ 30 p ++ []))) = -1 := te1.hinV9
    rw [iv, if_pos rfl] at bt
    obtain ⟨h2, c2, r2, e2, ms2, cd2, N, s2⟩ := m_set1 ms1 te1 trivial
    have L : f_X11_readExpression_l20 S_1 FU 80 1 0 h0 = some (80, h1) := by
      refine Eq.trans r1 ?_
      rw [show G + 2 = G + 1 + 1 from rfl, lx_2 ms1.2.1, bs_ bt]
      exact lx_4 ms1.2.1
    rw [bs_ L]
    dsimp only
    rw [bs_ (ck_80 h1), bs_ (show f_X11_settle S_1 80 (1 : Int32) h1 = _ from r2)]
    exact ⟨h2, c2, N, rfl, e0.trans (e1.trans (e2.mono PSe_E)), ms2.mb, (c0.trans cd1 (Nat.le_refl _)).trans cd2 (Nat.le_refl _), s2⟩
theorem m_exprS {h : AH} {b : Nat → Nat} {t n i lv c : Nat} {ord : Bool} (k : MB h b t n ord i lv c) : REx SumM h b t n ord lv c (sumS (tkK b t) (tkU b t) ord 8 i lv) (f_X11_readExpression S_1 80 0 h) := by
  have ms := k.ms
  have tkn := ms.1.2.1
  have n4 := tkn.1
  have e0 : Eqv PE h (stI (stI h 80 29 0) 80 30 0) := ((Eqv.refl h).si (PE_o (by omega))).si (PE_o (by omega))
  have c0 : Cod h (stI (stI h 80 29 0) 80 30 0) c := fun j _ => ⟨by rw [ri_p (by decide), ri_p (by decide)], by rw [ri_p (by decide), ri_p (by decide)]⟩
  have g := sum_go (U := tkU b t) (ord := ord) tkn 8 i lv ms.1.2.2
  rw [re_0, if_pos rfl]
  generalize stI (stI h 80 29 0) 80 30 0 = h0 at ms e0 c0
  have q := m_sum (x1 := 0) 8 0 h0 i lv c [] FU 1 rfl trivial ms (Or.inl rfl) (by unfold FU; omega)
  revert q g
  rcases sumS (tkK b t) (tkU b t) ord 8 i lv with j | ⟨i', lv', d⟩
  · rintro - ⟨h1, r1, e1, bd⟩
    obtain ⟨h2, r2, e2, b2⟩ := bd.setl
    rw [bs_ (show f_X11_readExpression_l20 S_1 FU 80 0 1 h0 = _ from r1)]
    dsimp only
    rw [bs_ (ck_80 h1), bs_ r2]
    exact ⟨h2, rfl, e0.trans (e1.trans e2), b2⟩
  · rintro ⟨g1, g2, g3, g4⟩ ⟨h1, F1, p, q, c1, d0, f1, r1, e1, ms1, pd1, rfl, cd1, na⟩
    have fu : FU = 1000000 := rfl
    obtain ⟨G, rfl⟩ : ∃ x, F1 = x + 2 := ⟨F1 - 2, by omega⟩
    have b4 := ms1.2.2.2.2.2.2.2.2.1
    have n5 := ms1.n4
    have iv : inV (eL q ++ (eL p ++ [])) = -1 := pd1.hinV9 []
    have bt : f_X11_behindSum S_1 80 0 h1 = some (4, h1) := by
      rw [m_behind ms1.1.1, arI_no na]
      unfold f_X11_behindSum_j71
      rw [if_pos rfl, bs_ (ck_80 h1), bs_ (m_inner ms1.2.2.2.2.2.1.1 ms1.2.2.2.2.2.1.2 (by omega)), iv]
      dsimp only
      rw [if_neg (show ¬ (-1 : Int32) = 32 by decide), if_pos rfl, if_pos rfl]
    obtain ⟨h2, c2, r2, e2, ms2, cd2, w2, N, s2⟩ := m_set5 ms1 pd1
    have st : f_X11_settle S_1 80 (nI 1) h1 = some ((), h2) := by
      obtain ⟨F2, f2, x2⟩ := r2 (FU + 1) 1 (by omega) (by decide)
      obtain ⟨F3, rfl⟩ : ∃ x, F2 = x + 1 := ⟨F2 - 1, by omega⟩
      rw [settle_eq, x2, m_stop ms2.2.2.2.2.2.1.1 ms2.2.2.2.2.2.1.2 (Nat.zero_le _) (by decide) trivial]
    have L : f_X11_readExpression_l20 S_1 FU 80 0 1 h0 = some (80, h1) := by
      refine Eq.trans r1 ?_
      rw [show G + 2 = G + 1 + 1 from rfl, lx_3 ms1.2.1, bs_ bt]
      exact lx_4 ms1.2.1
    rw [bs_ L]
    dsimp only
    rw [bs_ (ck_80 h1), bs_ (show f_X11_settle S_1 80 (1 : Int32) h1 = _ from st)]
    exact ⟨h2, c2, N, rfl, e0.trans (e1.trans (e2.mono PSe_E)), ms2.mb, (c0.trans cd1 (Nat.le_refl _)).trans cd2 (Nat.le_refl _), s2⟩

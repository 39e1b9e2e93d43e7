/-! reading: the other side's tests -/
theorem SumM.congL {ord : Bool} {c a c' a' : Nat → Int32} : ∀ {n i j : Nat} {d : DD} {L : Nat}, (∀ k, i ≤ k → k < j → c' k = c k ∧ a' k = a k) → SumM ord c a n i j d L → SumM ord c' a' n i j d L
  | 0, _, _, _, _, _, h => h
  | n + 1, i, j, d, L, e, h => by
    rcases h with ⟨rfl, h1, h2⟩ | ⟨m, j', d1, d2, L1, L2, op, h1, h2, rfl, h4, h5, h6, h7, h8⟩
    · refine Or.inl ⟨rfl, h1, ?_⟩
      rw [(e i (Nat.le_refl i) (by omega)).1, (e i (Nat.le_refl i) (by omega)).2]
      exact h2
    · have b1 := h1.lt
      have b := h2.lt
      exact Or.inr ⟨m, j', d1, d2, L1, L2, op, h1.congL fun k a b => e k a (by omega), h2.congL fun k a b => e k (by omega) (by omega), rfl, h4, h5, by rw [(e j' (by omega) (by omega)).1]; exact h6, h7, h8⟩
theorem TstM.congL {ord : Bool} {c a c' a' : Nat → Int32} : ∀ {n i j : Nat} {d : DD} {L : Nat}, (∀ k, i ≤ k → k < j → c' k = c k ∧ a' k = a k) → TstM ord c a n i j d L → TstM ord c' a' n i j d L
  | 0, _, _, _, _, _, h => h
  | n + 1, i, j, d, L, e, h => by
    rcases h with ⟨m, j', d1, d2, L1, L2, op, h1, h2, rfl, h4, h5, h6, h7, h8⟩ | ⟨j', d1, h1, rfl, h3, h4⟩ | ⟨m, d1, d2, L1, L2, h1, h2, h3, h4, h5, h6⟩ | ⟨m, d1, d2, L1, L2, h1, h2, h3, h4, h5, h6⟩
    · have b1 := h1.lt
      have b := h2.lt
      exact Or.inl ⟨m, j', d1, d2, L1, L2, op, h1.congL fun k a b => e k a (by omega), h2.congL fun k a b => e k (by omega) (by omega), rfl, h4, h5, by rw [(e j' (by omega) (by omega)).1]; exact h6, h7, h8⟩
    · have b1 := h1.lt
      exact Or.inr (Or.inl ⟨j', d1, h1.congL fun k a b => e k a (by omega), rfl, by rw [(e j' (by omega) (by omega)).1]; exact h3, h4⟩)
    · have b1 := h1.lt
      have b := h2.lt
      have em := e m (by omega) (by omega)
      exact Or.inr (Or.inr (Or.inl ⟨m, d1, d2, L1, L2, h1.congL fun k a b => e k a (by omega), h2.congL fun k a b => e k (by omega) b, by rw [em.1]; exact h3, by rw [em.2]; exact h4, h5, h6⟩))
    · have b1 := h1.lt
      have b := h2.lt
      have em := e m (by omega) (by omega)
      exact Or.inr (Or.inr (Or.inr ⟨m, d1, d2, L1, L2, h1.congL fun k a b => e k a (by omega), h2.congL fun k a b => e k (by omega) b, by rw [em.1]; exact h3, by rw [em.2]; exact h4, h5, h6⟩))
theorem TstM.up {ord : Bool} {c a : Nat → Int32} : ∀ {n i j : Nat} {d : DD} {L : Nat}, TstM ord c a n i j d L → TstM ord c a (n + 1) i j d L
  | 0, _, _, _, _, h => absurd h (by simp [TstM])
  | n + 1, i, j, d, L, h => by
    rcases h with ⟨m, j', d1, d2, L1, L2, op, h1, h2, h3⟩ | ⟨j', d1, h1, h2⟩ | ⟨m, d1, d2, L1, L2, h1, h2, h3⟩ | ⟨m, d1, d2, L1, L2, h1, h2, h3⟩
    · exact Or.inl ⟨m, j', d1, d2, L1, L2, op, h1.up, h2.up, h3⟩
    · exact Or.inr (Or.inl ⟨j', d1, h1.up, h2⟩)
    · exact Or.inr (Or.inr (Or.inl ⟨m, d1, d2, L1, L2, h1.up, h2.up, h3⟩))
    · exact Or.inr (Or.inr (Or.inr ⟨m, d1, d2, L1, L2, h1.up, h2.up, h3⟩))
theorem TstM.le {ord : Bool} {c a : Nat → Int32} {n i j : Nat} {d : DD} {L : Nat} (h : TstM ord c a n i j d L) : ∀ {m : Nat}, n ≤ m → TstM ord c a m i j d L
  | 0, hm => by
    have : n = 0 := by omega
    rw [this] at h; exact h
  | m + 1, hm => by
    by_cases e : n = m + 1
    · rw [← e]; exact h
    · exact (h.le (m := m) (by omega)).up
theorem notD2 {d : DD} (h : ∀ e v, d e = some v → v = 0 ∨ v = 1) : notD (notD d) = d := by
  funext e
  unfold notD
  cases q : d e with
  | none => rfl
  | some v =>
    rcases h e v q with rfl | rfl <;> rfl
theorem parN_s {d : DD} (cnt : Nat) (h : ∀ e v, d e = some v → v = 0 ∨ v = 1) : parN cnt (notD d) = parN (cnt + 1) d := by
  unfold parN
  by_cases c : cnt % 2 = 0
  · rw [if_pos c, if_neg (show ¬ (cnt + 1) % 2 = 0 by omega)]
  · rw [if_neg c, if_pos (show (cnt + 1) % 2 = 0 by omega), notD2 h]
/-- so many nots wait -/
def rpNt : Nat → List (Nat × Nat)
  | 0 => []
  | m + 1 => (28, 0) :: rpNt m
theorem rpN_l : ∀ m, (rpNt m).length = m
  | 0 => rfl
  | m + 1 => by rw [rpNt, List.length_cons, rpN_l m]
theorem rpN_in : ∀ m, ∀ x, x ∈ rpNt m → x.1 = 28
  | 0, x, h => by cases h
  | m + 1, x, h => by
    rcases List.mem_cons.mp h with rfl | h
    · rfl
    · exact rpN_in m x h
theorem inV_all : ∀ (W Q : List (Nat × Nat)), (∀ x, x ∈ W → x.1 < 31) → inV (W ++ Q) = inV Q
  | [], _, _ => rfl
  | x :: W, Q, h => by
    show (if 31 ≤ x.1 then nI x.1 else inV (W ++ Q)) = inV Q
    have := h x (List.mem_cons_self ..)
    rw [if_neg (by omega)]
    exact inV_all W Q fun y hy => h y (List.mem_cons_of_mem _ hy)
/-- a plain test that waits for what stands behind -/
def TdM (h : AH) (ord : Bool) (W : List (Nat × Nat)) (c0 c : Nat) (d : DD) (L : Nat) : Prop := ∃ cnt, (∃ d0 N, W = rpNt cnt ∧ TstM ord (h.2.1 91) (h.2.1 92) N c0 c d0 L ∧ d = parN cnt d0) ∨ (∃ p q m d1 L1 N1 d0 L2 op, W = eL q ++ (eL p ++ ((op, 0) :: rpNt cnt)) ∧ 25 ≤ op ∧ op < 28 ∧ SumM ord (h.2.1 91) (h.2.1 92) N1 c0 m d1 L1 ∧ PdM h ord p q m c d0 L2 ∧ L = L1 + L2 ∧ d = parN cnt (binD op d1 (joinD p (joinD q d0))))
theorem TdM.n {h h' : AH} {ord : Bool} {W : List (Nat × Nat)} {c0 c L : Nat} {d : DD} (k : TdM h ord W c0 c d L) (e : Eqv PN h h') : TdM h' ord W c0 c d L := by
  have r1 : h'.2.1 91 = h.2.1 91 := funext fun j => e.i 91 j (decide_eq_false (by omega))
  have r2 : h'.2.1 92 = h.2.1 92 := funext fun j => e.i 92 j (decide_eq_false (by omega))
  obtain ⟨cnt, ⟨d0, N, k1, k2, k3⟩ | ⟨p, q, m, d1, L1, N1, d0, L2, op, k1, k2, k3, k4, k5, k6, k7⟩⟩ := k
  · exact ⟨cnt, Or.inl ⟨d0, N, k1, by rw [r1, r2]; exact k2, k3⟩⟩
  · exact ⟨cnt, Or.inr ⟨p, q, m, d1, L1, N1, d0, L2, op, k1, k2, k3, by rw [r1, r2]; exact k4, k5.n e, k6, k7⟩⟩
theorem TdM.lt {h : AH} {ord : Bool} {W : List (Nat × Nat)} {c0 c L : Nat} {d : DD} (k : TdM h ord W c0 c d L) : c0 < c := by
  obtain ⟨cnt, ⟨d0, N, k1, k2, k3⟩ | ⟨p, q, m, d1, L1, N1, d0, L2, op, k1, k2, k3, k4, k5, k6, k7⟩⟩ := k
  · exact k2.lt.1
  · have := k4.lt
    have := k5.lt
    omega
theorem TdM.op {h : AH} {ord : Bool} {W : List (Nat × Nat)} {c0 c L : Nat} {d : DD} (k : TdM h ord W c0 c d L) : ∀ x, x ∈ W → x.1 < 31 := by
  obtain ⟨cnt, ⟨d0, N, rfl, k2, k3⟩ | ⟨p, q, m, d1, L1, N1, d0, L2, op, rfl, k2, k3, k4, ⟨m1, m2, L3, L4, L5, N, -, z2, z3, -⟩, k6, k7⟩⟩ := k
  · intro x hx
    have := rpN_in cnt x hx
    omega
  · intro x hx
    rcases List.mem_append.mp hx with hx | hx
    · have := z3.op (by decide) (by decide) x hx
      omega
    · rcases List.mem_append.mp hx with hx | hx
      · have := z2.op (by decide) (by decide) x hx
        omega
      · rcases List.mem_cons.mp hx with rfl | hx
        · show op < 31
          omega
        · have := rpN_in cnt x hx
          omega
theorem m_setNots {b : Nat → Nat} {t n i lv o : Nat} {ord : Bool} {P : List (Nat × Nat)} {c0 L : Nat} : ∀ (cnt : Nat) (h : AH) (c N : Nat) (d : DD), MS h b t n ord i lv c o (rpNt cnt ++ P) → TstM ord (h.2.1 91) (h.2.1 92) N c0 c d L → ∃ h' c', (∀ F l, cnt < F → l ≤ 3 → ∃ F', F ≤ F' + cnt ∧ f_X11_settle_l0 S_1 F 80 (nI l) h = f_X11_settle_l0 S_1 F' 80 (nI l) h') ∧ Eqv PSe h h' ∧ MS h' b t n ord i lv c' o P ∧ Cod h h' c0 ∧ ∃ N, TstM ord (h'.2.1 91) (h'.2.1 92) N c0 c' (parN cnt d) L
  | 0, h, c, N, d, k, s => ⟨h, c, fun F l _ _ => ⟨F, by omega, rfl⟩, Eqv.refl h, k, Cod.refl h c0, N, s⟩
  | cnt + 1, h, c, N, d, k, s => by
    have sl := s.lt
    obtain ⟨h1, r1, e1, m1, cd1, v1, v2⟩ := m_setX (h := h) (op := 28) (Q := rpNt cnt ++ P) k (by decide) (by decide)
    obtain ⟨h2, c2, r2, e2, m2, cd2, N2, s2⟩ := m_setNots cnt h1 (c + 1) (N + 1) (notD d) m1 (Or.inr (Or.inl ⟨c, d, s.cong fun j hj => cd1 j hj, rfl, v1, rfl⟩))
    refine ⟨h2, c2, fun F l hF hl => ?_, e1.trans e2, m2, fun j hj => ⟨(cd2 j hj).1.trans (cd1 j (by omega)).1, (cd2 j hj).2.trans (cd1 j (by omega)).2⟩, N2, by rwa [← parN_s cnt fun e v z => s.d01 e v z]⟩
    obtain ⟨F, rfl⟩ : ∃ x, F = x + 1 := ⟨F - 1, by omega⟩
    obtain ⟨F', f1, f2⟩ := r2 F l (by omega) hl
    exact ⟨F', by omega, (r1 F l (by omega) (show l ≤ bnO 28 from hl)).trans f2⟩
theorem bn_cmp : ∀ op, op < 28 → 25 ≤ op → bnO op = 4 := by decide
/-- a plain test that waits is settled -/
theorem m_setW {h : AH} {b : Nat → Nat} {t n i lv c o c0 L : Nat} {ord : Bool} {W P : List (Nat × Nat)} {d : DD} (k : MS h b t n ord i lv c o (W ++ P)) (td : TdM h ord W c0 c d L) : ∃ h' c', (∀ F l, W.length + 4 ≤ F → l ≤ 3 → ∃ F', F ≤ F' + (W.length + 3) ∧ f_X11_settle_l0 S_1 F 80 (nI l) h = f_X11_settle_l0 S_1 F' 80 (nI l) h') ∧ Eqv PSe h h' ∧ MS h' b t n ord i lv c' o P ∧ Cod h h' c0 ∧ ∃ N, TstM ord (h'.2.1 91) (h'.2.1 92) N c0 c' d L := by
  obtain ⟨cnt, ⟨d0, N, rfl, k2, rfl⟩ | ⟨p, q, m, d1, L1, N1, d0, L2, op, rfl, k2, k3, k4, k5, rfl, rfl⟩⟩ := td
  · obtain ⟨h', c', r, x⟩ := m_setNots cnt h c N d0 k k2
    refine ⟨h', c', fun F l hF hl => ?_, x⟩
    rw [rpN_l] at hF ⊢
    obtain ⟨F', f1, f2⟩ := r F l (by omega) hl
    exact ⟨F', by omega, f2⟩
  · rw [List.append_assoc, List.append_assoc, List.cons_append] at k
    have k4l := k4.lt
    have k5l := k5.lt
    obtain ⟨h1, c1, r1, e1, ms1, cd1, w1, N2, s2⟩ := m_set5 k k5
    have s2l := s2.lt
    obtain ⟨h2, r2, e2, ms2, cd2, v1, v2⟩ := m_setX (h := h1) (op := op) (Q := rpNt cnt ++ P) ms1 (by omega) (by omega)
    have T : TstM ord (h2.2.1 91) (h2.2.1 92) (N1 + N2 + 1) c0 (c1 + 1) (binD op d1 (joinD p (joinD q d0))) (L1 + L2) := by
      refine Or.inl ⟨m, c1, d1, _, L1, L2, op, ?_, ?_, rfl, k2, k3, v1, rfl, rfl⟩
      · exact (k4.cong fun j hj => ⟨(cd2 j (by omega)).1.trans (cd1 j hj).1, (cd2 j (by omega)).2.trans (cd1 j hj).2⟩).le (by omega)
      · exact (s2.cong fun j hj => cd2 j hj).le (by omega)
    obtain ⟨h3, c3, r3, e3, ms3, cd3, N3, s3⟩ := m_setNots cnt h2 (c1 + 1) _ _ ms2 T
    refine ⟨h3, c3, fun F l hF hl => ?_, e1.trans (e2.trans e3), ms3, fun j hj => ⟨(cd3 j hj).1.trans ((cd2 j (by omega)).1.trans (cd1 j (by omega)).1), (cd3 j hj).2.trans ((cd2 j (by omega)).2.trans (cd1 j (by omega)).2)⟩, N3, s3⟩
    rw [List.length_append, List.length_append, List.length_cons, rpN_l] at hF ⊢
    obtain ⟨F1, f1, g1⟩ := r1 F l (by omega) (by omega)
    obtain ⟨F2, rfl⟩ : ∃ x, F1 = x + 1 := ⟨F1 - 1, by omega⟩
    obtain ⟨F3, f3, g3⟩ := r3 F2 l (by omega) hl
    exact ⟨F3, by omega, g1.trans ((r2 F2 l (by omega) (by rw [bn_cmp op k3 k2]; omega)).trans g3)⟩
def eJ (x : Nat) (q : Option (Nat × DD)) : List (Nat × Nat) := match q with
  | none => []
  | some (m, _) => [(x, m)]
def P1J (h : AH) (ord : Bool) (x : Nat) (q : Option (Nat × DD)) (c0 m L : Nat) : Prop := match q with
  | none => m = c0 ∧ L = 0
  | some (s, d) => m = s + 1 ∧ h.2.1 91 s = nI x ∧ ∃ N, TstM ord (h.2.1 91) (h.2.1 92) N c0 s d L
theorem P1J.cong {h h' : AH} {ord : Bool} {x c0 m L : Nat} {q : Option (Nat × DD)} (k : P1J h ord x q c0 m L) (e : ∀ j, j < m → h'.2.1 91 j = h.2.1 91 j ∧ h'.2.1 92 j = h.2.1 92 j) : P1J h' ord x q c0 m L := by
  rcases q with _ | ⟨s, d⟩
  · exact k
  · obtain ⟨rfl, k2, N, k3⟩ := k
    exact ⟨rfl, (e s (by omega)).1.trans k2, N, k3.cong fun j hj => e j (by omega)⟩
theorem P1J.le {h : AH} {ord : Bool} {x c0 m L : Nat} {q : Option (Nat × DD)} (k : P1J h ord x q c0 m L) : c0 ≤ m := by
  rcases q with _ | ⟨s, d⟩
  · have := k.1
    omega
  · obtain ⟨rfl, k2, N, k3⟩ := k
    have := k3.lt
    omega
/-- what leaps waits no more -/
theorem m_setJ {h : AH} {b : Nat → Nat} {t n i lv c o x c0 m L L2 N : Nat} {ord : Bool} {Q : List (Nat × Nat)} {q : Option (Nat × DD)} {d : DD} {J : Option DD → DD → DD} (hx : x = 29 ∧ J = joinA ∨ x = 30 ∧ J = joinO) (k : MS h b t n ord i lv c o (eJ x q ++ Q)) (k1 : P1J h ord x q c0 m L) (k2 : TstM ord (h.2.1 91) (h.2.1 92) N m c d L2) : ∃ h', (∀ F l, 1 ≤ F → l ≤ bnO x → ∃ F', F ≤ F' + 1 ∧ f_X11_settle_l0 S_1 F 80 (nI l) h = f_X11_settle_l0 S_1 F' 80 (nI l) h') ∧ Eqv PSe h h' ∧ MS h' b t n ord i lv c o Q ∧ Cod h h' c0 ∧ ∃ N, TstM ord (h'.2.1 91) (h'.2.1 92) N c0 c (J (q.map Prod.snd) d) (L + L2) := by
  rcases q with _ | ⟨s, d0⟩
  · obtain ⟨rfl, rfl⟩ := k1
    refine ⟨h, fun F l _ _ => ⟨F, by omega, rfl⟩, Eqv.refl h, k, Cod.refl h _, N, ?_⟩
    rw [Nat.zero_add]
    rcases hx with ⟨_, rfl⟩ | ⟨_, rfl⟩ <;> exact k2
  · obtain ⟨rfl, v1, N1, s1⟩ := k1
    have l1 := s1.lt
    have l2 := k2.lt
    have n4 := k.n4
    have bx : bnO x < 3 := by rcases hx with ⟨rfl, _⟩ | ⟨rfl, _⟩ <;> decide
    obtain ⟨⟨q1, q2, q3⟩, a4, a5, ⟨a6, a7⟩, a8, ⟨a9, b1⟩, b2, b3, b4, b5⟩ := k
    have a9 : h.2.1 80 29 = nI (Q.length + 1) := a9
    have b4 : Q.length + 1 ≤ i := b4
    have b3 : c + (wtP Q + (if (x, s).1 < 29 then 1 else 0)) ≤ i := b3
    rw [if_neg (show ¬ (x, s).1 < 29 by show ¬ x < 29; omega)] at b3
    obtain ⟨h', hh'⟩ : ∃ h', h' = stI (stI h 80 29 (nI Q.length)) 92 s (nI c) := ⟨_, rfl⟩
    have e' : Eqv PSe h h' := by
      rw [hh']
      exact ((Eqv.refl h).si (PSe_o (by omega))).si (PSe_o (by omega))
    have oo : ∀ p j, PSe p j = false → h'.2.1 p j = h.2.1 p j := fun p j z => e'.i p j z
    have o91 : ∀ j, h'.2.1 91 j = h.2.1 91 j := fun j => by rw [hh', ri_p (by decide), ri_p (by decide)]
    have o92 : ∀ j, j ≠ s → h'.2.1 92 j = h.2.1 92 j := fun j hj => by rw [hh', ri_k (by omega), ri_p (by decide)]
    have s92 : h'.2.1 92 s = nI c := by rw [hh', stI_s]
    refine ⟨h', fun F l hF hl => ?_, e', ⟨⟨q1.n e' (fun j x1 x2 => decide_eq_false (by omega)) (fun j => decide_eq_false (by omega)), q2, q3⟩, (oo _ _ rfl).trans a4, (oo _ _ rfl).trans a5, ⟨(oo _ _ rfl).trans a6, a7⟩, ?_, ⟨?_, b1.2.2.2.2.cong fun p j hp _ => oo p j (decide_eq_false (by omega))⟩, (oo _ _ rfl).trans b2, by omega, by omega, b5.1, b5.2.e e' fun p j hp => decide_eq_false (by omega)⟩, fun j hj => ⟨o91 j, o92 j (by omega)⟩, N1 + N + 1, ?_⟩
    · obtain ⟨F, rfl⟩ : ∃ y, F = y + 1 := ⟨F - 1, by omega⟩
      obtain ⟨h2, r, e2⟩ := set_j (F := F) (l := l) (x := (x, s)) a9 b1 (by omega) (by omega) hl (by rcases hx with ⟨rfl, _⟩ | ⟨rfl, _⟩; exact Or.inl rfl; exact Or.inr rfl) a8
      exact ⟨F, by omega, by rw [r, e2, hh']⟩
    · rw [hh', ri_p (by decide), ri_k (by decide)]; exact a8
    · rw [hh', ri_p (by decide), stI_s]
    · have t1 : TstM ord (h'.2.1 91) (h'.2.1 92) (N1 + N) c0 s d0 L := (s1.congL fun j _ hj => ⟨o91 j, o92 j (by omega)⟩).le (by omega)
      have t2 : TstM ord (h'.2.1 91) (h'.2.1 92) (N1 + N) (s + 1) c d L2 := (k2.congL fun j hj _ => ⟨o91 j, o92 j (by omega)⟩).le (by omega)
      rcases hx with ⟨rfl, rfl⟩ | ⟨rfl, rfl⟩
      · exact Or.inr (Or.inr (Or.inl ⟨s, d0, d, L, L2, t1, t2, (o91 s).trans v1, s92, rfl, rfl⟩))
      · exact Or.inr (Or.inr (Or.inr ⟨s, d0, d, L, L2, t1, t2, (o91 s).trans v1, s92, rfl, rfl⟩))
/-- a test that waits -/
def TeM (h : AH) (ord : Bool) (W : List (Nat × Nat)) (p q : Option (Nat × DD)) (c0 c : Nat) (d : DD) (L : Nat) : Prop := ∃ m1 m2 L1 L2 L3, L = L1 + L2 + L3 ∧ P1J h ord 30 p c0 m1 L1 ∧ P1J h ord 29 q m1 m2 L2 ∧ TdM h ord W m2 c d L3
theorem TeM.n {h h' : AH} {ord : Bool} {W : List (Nat × Nat)} {p q : Option (Nat × DD)} {c0 c L : Nat} {d : DD} (k : TeM h ord W p q c0 c d L) (e : Eqv PN h h') : TeM h' ord W p q c0 c d L := by
  obtain ⟨m1, m2, L1, L2, L3, k1, k2, k3, k4⟩ := k
  have r : ∀ j, h'.2.1 91 j = h.2.1 91 j ∧ h'.2.1 92 j = h.2.1 92 j := fun j => ⟨e.i 91 j (decide_eq_false (by omega)), e.i 92 j (decide_eq_false (by omega))⟩
  exact ⟨m1, m2, L1, L2, L3, k1, k2.cong fun j _ => r j, k3.cong fun j _ => r j, k4.n e⟩
theorem inV_eJ {x : Nat} (hx : x < 31) (q : Option (Nat × DD)) (Q : List (Nat × Nat)) : inV (eJ x q ++ Q) = inV Q := by
  rcases q with _ | ⟨s, d⟩
  · rfl
  · show (if 31 ≤ x then nI x else inV Q) = inV Q
    rw [if_neg (by omega)]
theorem hdL_eJ {x l : Nat} (hx : bnO x < l) (q : Option (Nat × DD)) {Q : List (Nat × Nat)} (h : hdL l Q) : hdL l (eJ x q ++ Q) := by
  rcases q with _ | ⟨s, d⟩
  · exact h
  · exact hx
theorem hdL_le {l l' : Nat} (hl : l ≤ l') {Q : List (Nat × Nat)} (h : hdL l Q) : hdL l' Q := by
  rcases Q with _ | ⟨x, Q⟩
  · trivial
  · have h : bnO x.1 < l := h
    show bnO x.1 < l'
    omega
/-- settled to the and -/
theorem m_setA {h : AH} {b : Nat → Nat} {t n i lv c o c0 L : Nat} {ord : Bool} {W P : List (Nat × Nat)} {p q : Option (Nat × DD)} {d : DD} (k : MS h b t n ord i lv c o (W ++ (eJ 29 q ++ (eJ 30 p ++ P)))) (te : TeM h ord W p q c0 c d L) (hP : hdL 1 P) : ∃ h' c', f_X11_settle S_1 80 (nI 2) h = some ((), h') ∧ Eqv PSe h h' ∧ MS h' b t n ord i lv c' o (eJ 30 p ++ P) ∧ Cod h h' c0 ∧ ∃ m1 L1 L2 N, L = L1 + L2 ∧ P1J h' ord 30 p c0 m1 L1 ∧ TstM ord (h'.2.1 91) (h'.2.1 92) N m1 c' (joinA (q.map Prod.snd) d) L2 := by
  obtain ⟨m1, m2, L1, L2, L3, k1, k2, k3, k4⟩ := te
  have l2 := k2.le
  have l3 := k3.le
  have l4 := k4.lt
  have len := k.2.2.2.2.2.2.2.2.1
  have n4 := k.n4
  rw [List.length_append] at len
  obtain ⟨h1, c1, r1, e1, ms1, cd1, N1, s1⟩ := m_setW k k4
  obtain ⟨h2, r2, e2, ms2, cd2, N2, s2⟩ := m_setJ (Or.inl ⟨rfl, rfl⟩) ms1 (k3.cong fun j hj => cd1 j hj) s1
  refine ⟨h2, c1, ?_, e1.trans e2, ms2, fun j hj => ⟨(cd2 j (by omega)).1.trans (cd1 j (by omega)).1, (cd2 j (by omega)).2.trans (cd1 j (by omega)).2⟩, m1, L1, L2 + L3, N2, by omega, k2.cong fun j hj => ⟨(cd2 j hj).1.trans (cd1 j (by omega)).1, (cd2 j hj).2.trans (cd1 j (by omega)).2⟩, s2⟩
  have fu : FU = 131072 ∨ 2000 ≤ FU := Or.inr (by unfold FU; omega)
  obtain ⟨F1, f1, g1⟩ := r1 (FU + 1) 2 (by omega) (by decide)
  obtain ⟨F2, f2, g2⟩ := r2 F1 2 (by omega) (by decide)
  obtain ⟨F3, rfl⟩ : ∃ x, F2 = x + 1 := ⟨F2 - 1, by omega⟩
  have b4 := ms2.2.2.2.2.2.2.2.2.1
  rw [settle_eq, g1, g2, m_stop ms2.2.2.2.2.2.1.1 ms2.2.2.2.2.2.1.2 (by omega) (by decide) (hdL_eJ (by decide) p (hdL_le (by decide) hP))]
/-- settled whole -/
theorem m_set1 {h : AH} {b : Nat → Nat} {t n i lv c o c0 L : Nat} {ord : Bool} {W P : List (Nat × Nat)} {p q : Option (Nat × DD)} {d : DD} (k : MS h b t n ord i lv c o (W ++ (eJ 29 q ++ (eJ 30 p ++ P)))) (te : TeM h ord W p q c0 c d L) (hP : hdL 1 P) : ∃ h' c', f_X11_settle S_1 80 (nI 1) h = some ((), h') ∧ Eqv PSe h h' ∧ MS h' b t n ord i lv c' o P ∧ Cod h h' c0 ∧ ∃ N, TstM ord (h'.2.1 91) (h'.2.1 92) N c0 c' (joinO (p.map Prod.snd) (joinA (q.map Prod.snd) d)) L := by
  obtain ⟨m1, m2, L1, L2, L3, k1, k2, k3, k4⟩ := te
  have l2 := k2.le
  have l3 := k3.le
  have l4 := k4.lt
  have len := k.2.2.2.2.2.2.2.2.1
  have n4 := k.n4
  rw [List.length_append] at len
  obtain ⟨h1, c1, r1, e1, ms1, cd1, N1, s1⟩ := m_setW k k4
  obtain ⟨h2, r2, e2, ms2, cd2, N2, s2⟩ := m_setJ (Or.inl ⟨rfl, rfl⟩) ms1 (k3.cong fun j hj => cd1 j hj) s1
  obtain ⟨h3, r3, e3, ms3, cd3, N3, s3⟩ := m_setJ (Or.inr ⟨rfl, rfl⟩) ms2 (k2.cong fun j hj => ⟨(cd2 j hj).1.trans (cd1 j (by omega)).1, (cd2 j hj).2.trans (cd1 j (by omega)).2⟩) s2
  refine ⟨h3, c1, ?_, e1.trans (e2.trans e3), ms3, fun j hj => ⟨(cd3 j hj).1.trans ((cd2 j (by omega)).1.trans (cd1 j (by omega)).1), (cd3 j hj).2.trans ((cd2 j (by omega)).2.trans (cd1 j (by omega)).2)⟩, N3, by rwa [k1, Nat.add_assoc]⟩
  have fu : FU = 131072 ∨ 2000 ≤ FU := Or.inr (by unfold FU; omega)
  obtain ⟨F1, f1, g1⟩ := r1 (FU + 1) 1 (by omega) (by decide)
  obtain ⟨F2, f2, g2⟩ := r2 F1 1 (by omega) (by decide)
  obtain ⟨F3, f3, g3⟩ := r3 F2 1 (by omega) (by decide)
  obtain ⟨F4, rfl⟩ : ∃ x, F3 = x + 1 := ⟨F3 - 1, by omega⟩
  have b4 := ms3.2.2.2.2.2.2.2.2.1
  rw [settle_eq, g1, g2, g3, m_stop ms3.2.2.2.2.2.1.1 ms3.2.2.2.2.2.1.2 (by omega) (by decide) hP]

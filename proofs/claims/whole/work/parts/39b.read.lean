/-! reading: the other side's leaves -/
theorem cn_95 : ∀ k, k < 9 → H_5.2.2.1 95 k = HWc (14 + k) := by decide +kernel
theorem cn_96 : ∀ k, k < 7 → H_5.2.2.1 96 k = HWc (if k = 0 then 21 else if k = 1 then 23 else if k = 2 then 24 else if k = 3 then 20 else if k = 4 then 25 else if k = 5 then 15 else 26) := by decide +kernel
theorem cn_97 : ∀ k, k < 3 → H_5.2.2.1 97 k = HWc (7 + k) := by decide +kernel
theorem cn_107 : ∀ k, k < 4 → H_5.2.2.1 107 k = HWc (10 + k) := by decide +kernel
theorem m_partAt {h : AH} {b : Nat → Nat} {t i : Nat} (c : Cur h b t i) (cn : CnS h) (kl : tkK b t i ≤ 285) : f_X11_partAt S_1 80 h = some (if 270 ≤ tkK b t i ∧ tkK b t i ≤ 278 then nI (tkK b t i - 269) else -1, h) := by
  have g : ∀ (m k fu : Nat) (s : Int32), k + m = 9 → m < fu → f_X11_partAt_l4 S_1 fu 80 s (nI k) h = some (fo (fun s k => if tkK b t i = 270 + k then nI (k + 1) else s) k m s, h) := by
    intro m
    induction m with
    | zero =>
      intro k fu s hk hf
      obtain ⟨fu, rfl⟩ : ∃ x, fu = x + 1 := ⟨fu - 1, by omega⟩
      have : k = 9 := by omega
      subst this
      rw [f_X11_partAt_l4]
      rfl
    | succ m ih =>
      intro k fu s hk hf
      obtain ⟨fu, rfl⟩ : ∃ x, fu = x + 1 := ⟨fu - 1, by omega⟩
      rw [f_X11_partAt_l4]
      unfold f_X11_partAt_l4b
      rw [if_neg (by rw [show (9 : Int32) = nI 9 from rfl, nn_le (by decide) (by omega)]; omega), bs_ (yr_80_31 h), bs_ (ai_95 h (by omega)), cn 95 (Or.inl rfl), cn_95 k (by omega), bs_ (ck_80 h), bs_ (m_isWord c (by omega))]
      dsimp only
      show _ = some (fo _ (k + 1) m (if tkK b t i = 270 + k then nI (k + 1) else s), h)
      by_cases e : tkK b t i = 270 + k
      · rw [decide_eq_true (show tkK b t i = 256 + (14 + k) by omega), if_neg (show ¬ bI true = 0 by decide), if_pos e, lt_e, lt_e, nI_1]
        exact ih (k + 1) fu _ (by omega) (by omega)
      · rw [decide_eq_false (show ¬ tkK b t i = 256 + (14 + k) by omega), if_pos (show bI false = 0 from rfl), if_neg e, lt_e, nI_1]
        exact ih (k + 1) fu _ (by omega) (by omega)
  have v : ∀ K, K ≤ 285 → fo (fun (s : Int32) k => if K = 270 + k then nI (k + 1) else s) 0 9 (-1) = if 270 ≤ K ∧ K ≤ 278 then nI (K - 269) else -1 := by decide +kernel
  unfold f_X11_partAt
  rw [bs_ (show f_X11_partAt_l4 S_1 FU 80 (-1 : Int32) (0 : Int32) h = _ from g 9 0 FU (-1) rfl (by unfold FU; omega)), v _ kl]
def ordK (k : Nat) : Nat := if k = 0 then 277 else if k = 1 then 279 else if k = 2 then 280 else if k = 3 then 276 else if k = 4 then 281 else if k = 5 then 271 else 282
def ordV (K : Nat) : Int32 := if K = 277 then 1 else if K = 279 then 2 else if K = 280 then 3 else if K = 276 then 4 else if K = 281 then 5 else if K = 271 then 6 else if K = 282 then 7 else -1
theorem m_orderPartAt {h : AH} {b : Nat → Nat} {t i : Nat} (c : Cur h b t i) (cn : CnS h) (kl : tkK b t i ≤ 285) : f_X11_orderPartAt S_1 80 h = some (ordV (tkK b t i), h) := by
  have ow : ∀ k, k < 7 → (if k = 0 then 21 else if k = 1 then 23 else if k = 2 then 24 else if k = 3 then 20 else if k = 4 then 25 else if k = 5 then 15 else 26) < 27 ∧ 256 + (if k = 0 then 21 else if k = 1 then 23 else if k = 2 then 24 else if k = 3 then 20 else if k = 4 then 25 else if k = 5 then 15 else 26) = ordK k := by decide
  have g : ∀ (m k fu : Nat) (s : Int32), k + m = 7 → m < fu → f_X11_orderPartAt_l4 S_1 fu 80 s (nI k) h = some (fo (fun s k => if tkK b t i = ordK k then nI (k + 1) else s) k m s, h) := by
    intro m
    induction m with
    | zero =>
      intro k fu s hk hf
      obtain ⟨fu, rfl⟩ : ∃ x, fu = x + 1 := ⟨fu - 1, by omega⟩
      have : k = 7 := by omega
      subst this
      rw [f_X11_orderPartAt_l4]
      rfl
    | succ m ih =>
      intro k fu s hk hf
      obtain ⟨fu, rfl⟩ : ∃ x, fu = x + 1 := ⟨fu - 1, by omega⟩
      obtain ⟨o1, o2⟩ := ow k (by omega)
      rw [f_X11_orderPartAt_l4]
      unfold f_X11_orderPartAt_l4b
      rw [if_neg (by rw [show (7 : Int32) = nI 7 from rfl, nn_le (by decide) (by omega)]; omega), bs_ (yr_80_32 h), bs_ (ai_96 h (by omega)), cn 96 (Or.inr (Or.inl rfl)), cn_96 k (by omega), bs_ (ck_80 h), bs_ (m_isWord c o1), o2]
      dsimp only
      show _ = some (fo _ (k + 1) m (if tkK b t i = ordK k then nI (k + 1) else s), h)
      by_cases e : tkK b t i = ordK k
      · rw [decide_eq_true e, if_neg (show ¬ bI true = 0 by decide), if_pos e, lt_e, lt_e, nI_1]
        exact ih (k + 1) fu _ (by omega) (by omega)
      · rw [decide_eq_false e, if_pos (show bI false = 0 from rfl), if_neg e, lt_e, nI_1]
        exact ih (k + 1) fu _ (by omega) (by omega)
  have v : ∀ K, K ≤ 285 → fo (fun (s : Int32) k => if K = ordK k then nI (k + 1) else s) 0 7 (-1) = ordV K := by decide +kernel
  unfold f_X11_orderPartAt
  rw [bs_ (show f_X11_orderPartAt_l4 S_1 FU 80 (-1 : Int32) (0 : Int32) h = _ from g 7 0 FU (-1) rfl (by unfold FU; omega)), v _ kl]
theorem MS.kl {h : AH} {b : Nat → Nat} {t n i lv c o : Nat} {ord : Bool} {P : List (Nat × Nat)} (k : MS h b t n ord i lv c o P) : tkK b t i ≤ 285 := tk_kind (fun j hj => (k.1.1.1.2.2 j hj).2) k.1.1.1.2.1
/-- the code below a place is as it was -/
def Cod (h h' : AH) (c : Nat) : Prop := ∀ j, j < c → h'.2.1 91 j = h.2.1 91 j ∧ h'.2.1 92 j = h.2.1 92 j
theorem Cod.refl (h : AH) (c : Nat) : Cod h h c := fun _ _ => ⟨rfl, rfl⟩
theorem Cod.trans {h h1 h2 : AH} {c c' : Nat} (a : Cod h h1 c) (b : Cod h1 h2 c') (l : c ≤ c') : Cod h h2 c := fun j hj => ⟨(b j (by omega)).1.trans (a j hj).1, (b j (by omega)).2.trans (a j hj).2⟩
theorem Cod.n {h h' : AH} {c : Nat} (e : Eqv PN h h') : Cod h h' c := fun j _ => ⟨e.i 91 j (decide_eq_false (by omega)), e.i 92 j (decide_eq_false (by omega))⟩
/-- a leaf that is taken: behind it, put down -/
theorem m_leaf1 {h : AH} {b : Nat → Nat} {t n i lv c o : Nat} {ord : Bool} {P : List (Nat × Nat)} (k : MS h b t n ord i lv c o P) (hi : tkK b t i ≠ 285) (hl : lv < 50) (x y : Int32) : ∃ h', f_X11_leaf S_1 80 1 x y h = some ((), h') ∧ Eqv PE h h' ∧ MS h' b t n ord (i + 1) (lv + 1) (c + 1) o P ∧ Cod h h' c ∧ h'.2.1 91 c = x ∧ h'.2.1 92 c = y := by
  obtain ⟨h1, r1, e1, m1⟩ := m_must1 k hi
  have n4 := m1.n4
  obtain ⟨a1, a4, a5, ⟨a6, a7⟩, a8, ⟨a9, b1⟩, b2, b3, b4, b5⟩ := m1
  have k3 := k.2.2.2.2.2.2.2.1
  obtain ⟨h2, hh2⟩ : ∃ h2, h2 = stI (stI (stI h1 91 c x) 92 c y) 80 23 (nI (c + 1)) := ⟨_, rfl⟩
  have e2 : Eqv PE h1 h2 := by rw [hh2]; exact (((Eqv.refl h1).si (PE_o (by omega))).si (PE_o (by omega))).si (PE_o (by omega))
  have v26 : h2.2.1 80 26 = nI lv := by rw [hh2, ri_k (by decide), ri_p (by decide), ri_p (by decide)]; exact a6
  refine ⟨stI h2 80 26 (nI (lv + 1)), ?_, ((e1.mono PN_E).trans e2).si (PE_o (by omega)), ⟨?_, ?_, ?_, ⟨stI_s _ _ _ _, by omega⟩, ?_, ⟨?_, ?_⟩, ?_, by omega, by omega, b5.1, ?_⟩, ?_, ?_, ?_⟩
  · unfold f_X11_leaf
    rw [if_neg (by decide), bs_ (gi80 h 26), k.2.2.2.1.1, if_neg (by rw [show (50 : Int32) = nI 50 from rfl, nn_le (by decide) (by omega)]; omega)]
    unfold f_X11_leaf_j19
    rw [bs_ (ck_80 h), bs_ r1]
    dsimp only
    rw [bs_ (gi80 h1 19), a4, if_pos rfl, bs_ (ck_80 h1), bs_ (m_emit a8 (by omega) _ _), ← hh2]
    dsimp only
    rw [bs_ (gi80 h2 26), v26, nI_1, bs_ (pi80 h2 26 _)]
  · have q : ∀ j, 13 ≤ j → j ≤ 17 → (stI h2 80 26 (nI (lv + 1))).2.1 80 j = h1.2.1 80 j := fun j x1 x2 => by rw [ri_k (by omega), hh2, ri_k (by omega), ri_p (by decide), ri_p (by decide)]
    have q89 : ∀ j, (stI h2 80 26 (nI (lv + 1))).2.1 89 j = h1.2.1 89 j := fun j => by rw [ri_p (by decide), hh2, ri_p (by decide), ri_p (by decide), ri_p (by decide)]
    obtain ⟨⟨⟨t1, t2, t3⟩, v14, v15, v16, v17⟩, q2⟩ := a1
    exact ⟨⟨⟨(q 13 (by omega) (by omega)).trans t1, t2, fun j hj => ⟨(q89 j).trans (t3 j hj).1, (t3 j hj).2⟩⟩, (q 14 (by omega) (by omega)).trans v14, (q 15 (by omega) (by omega)).trans v15, (q 16 (by omega) (by omega)).trans v16, by rw [hh2]; exact v17⟩, q2⟩
  · rw [ri_k (by decide), hh2, ri_k (by decide), ri_p (by decide), ri_p (by decide)]; exact a4
  · rw [ri_k (by decide), hh2, ri_k (by decide), ri_p (by decide), ri_p (by decide)]; exact a5
  · rw [ri_k (by decide), hh2, stI_s]
  · rw [ri_k (by decide), hh2, ri_k (by decide), ri_p (by decide), ri_p (by decide)]; exact a9
  · exact b1.cong fun p j hp _ => by rw [ri_p (by omega), hh2, ri_p (by omega), ri_p (by omega), ri_p (by omega)]
  · rw [ri_k (by decide), hh2, ri_k (by decide), ri_p (by decide), ri_p (by decide)]; exact b2
  · exact fun p hp => by rw [hh2]; exact b5.2 p hp
  · refine (Cod.n e1).trans (fun j hj => ?_) (Nat.le_refl c)
    rw [ri_p (by decide), ri_p (by decide), hh2, ri_p (by decide), ri_p (by decide), ri_k (by omega), ri_p (by decide), ri_k (by omega), ri_p (by decide)]
    exact ⟨rfl, rfl⟩
  · rw [ri_p (by decide), hh2, ri_p (by decide), ri_p (by decide), stI_s]
  · rw [ri_p (by decide), hh2, ri_p (by decide), stI_s]
theorem m_leaf0 {h : AH} {b : Nat → Nat} {t n i lv c o : Nat} {ord : Bool} {P : List (Nat × Nat)} (k : MS h b t n ord i lv c o P) (z x y : Int32) (hz : z = 0 ∨ ¬ z = 0 ∧ 50 ≤ lv) : ∃ h', f_X11_leaf S_1 80 z x y h = some ((), h') ∧ Eqv PE h h' ∧ Bad h' b t i := by
  obtain ⟨h1, r1, e1, m1⟩ := m_must0 k
  have j : f_X11_leaf_j18 S_1 80 x y 80 h = some ((), h1) := by
    unfold f_X11_leaf_j18 f_X11_leaf_j19
    rw [bs_ (ck_80 h), bs_ r1]
    dsimp only
    rw [bs_ (gi80 h1 19), m1.1, if_neg (by decide)]
  refine ⟨h1, ?_, e1, m1⟩
  unfold f_X11_leaf
  rcases hz with rfl | ⟨hz, hl⟩
  · rw [if_pos rfl, j]
  · rw [if_neg hz, bs_ (gi80 h 26), k.2.2.2.1.1, if_pos (by rw [show (50 : Int32) = nI 50 from rfl, nn_le (by decide) (by have := k.2.2.2.1.2; omega)]; exact hl), j]
/-- what readPart makes of a leaf -/
def RLf (h : AH) (b : Nat → Nat) (t n : Nat) (ord : Bool) (lv c o : Nat) (P : List (Nat × Nat)) (r : Rs) (res : Option (Int32 × AH)) : Prop := match r with
  | .inl j => ∃ h', res = some (3, h') ∧ Eqv PE h h' ∧ Bad h' b t j
  | .inr (i', lv', d) => ∃ h' c', res = some (3, h') ∧ Eqv PE h h' ∧ MS h' b t n ord i' lv' c' o P ∧ Cod h h' c ∧ ∃ N, SumM ord (h'.2.1 91) (h'.2.1 92) N c c' d (lv' - lv)
theorem MS.st92 {h : AH} {b : Nat → Nat} {t n i lv c o : Nat} {ord : Bool} {P : List (Nat × Nat)} (k : MS h b t n ord i lv c o P) (j : Nat) (v : Int32) : MS (stI h 92 j v) b t n ord i lv c o P := by
  obtain ⟨⟨⟨⟨t1, t2, t3⟩, v14, v15, v16, v17⟩, q2⟩, a4, a5, ⟨a6, a7⟩, a8, ⟨a9, b1⟩, b2, b3, b4, b5⟩ := k
  exact ⟨⟨⟨⟨(ri_p (by decide)).trans t1, t2, fun j hj => ⟨(ri_p (by decide)).trans (t3 j hj).1, (t3 j hj).2⟩⟩, (ri_p (by decide)).trans v14, (ri_p (by decide)).trans v15, (ri_p (by decide)).trans v16, v17⟩, q2⟩, (ri_p (by decide)).trans a4, (ri_p (by decide)).trans a5, ⟨(ri_p (by decide)).trans a6, a7⟩, (ri_p (by decide)).trans a8, ⟨(ri_p (by decide)).trans a9, b1.cong fun p j hp _ => ri_p (by omega)⟩, (ri_p (by decide)).trans b2, b3, b4, b5⟩
theorem Bad.st92 {h : AH} {b : Nat → Nat} {t i : Nat} (k : Bad h b t i) (j : Nat) (v : Int32) : Bad (stI h 92 j v) b t i := by
  obtain ⟨a, b', c, P, k1, k2, k3, k4⟩ := k
  exact ⟨(ri_p (by decide)).trans a, (ri_p (by decide)).trans b', c, P, (ri_p (by decide)).trans k1, (ri_p (by decide)).trans k2, k3.cong fun p j hp _ => ri_p (by omega), k4⟩
theorem in_J (S : SH) (h : AH) {u x y : Nat} (hu : u < 2 ^ 40) (hx : x < 2 ^ 40) (hy : y < 2 ^ 40) : f_X11_in S (oJ u) (oJ x) (oJ y) h = some (bI (decide (x ≤ u ∧ u ≤ y)), h) := by
  rw [x_in, decide_eq_decide.mpr (and_congr (oJ_le (by omega) (by omega)) (oJ_le (by omega) (by omega)))]
theorem oJ_32 {n : Nat} (h : n < 2 ^ 31) : Int64.toInt32 (oJ n) = nI n := by
  rw [← oJ_n h, Int32.toInt32_toInt64]
/-- number: taken, if it is one within bounds -/
theorem m_number {h : AH} {b : Nat → Nat} {t n i lv c o : Nat} {ord : Bool} {P : List (Nat × Nat)} (k : MS h b t n ord i lv c o P) {x y : Nat} (hy : y ≤ 1000) (hx : x ≤ y) : (tkK b t i = 284 ∧ x ≤ tkU b t i ∧ tkU b t i ≤ y ∧ ∃ h', f_X11_number S_1 80 (oJ x) (oJ y) h = some (nI (tkU b t i), h') ∧ Eqv PN h h' ∧ MS h' b t n ord (i + 1) lv c o P) ∨ (¬ (tkK b t i = 284 ∧ x ≤ tkU b t i ∧ tkU b t i ≤ y) ∧ ∃ h' v, f_X11_number S_1 80 (oJ x) (oJ y) h = some (v, h') ∧ Eqv PE h h' ∧ Bad h' b t i) := by
  obtain ⟨d1, d2, d3, d4⟩ := m_digitsAt k.1.1
  have bad : ∀ v : Int32, ∃ h' , ((ckO S_1 h 80 11).bind fun _ => (f_X11_must S_1 80 (0 : Int32) h).bind fun z => match z with | (_, h_16) => some (v, h_16)) = some (v, h') ∧ Eqv PE h h' ∧ Bad h' b t i := fun v => by
    obtain ⟨h1, r1, e1, m1⟩ := m_must0 k
    rw [bs_ (ck_80 h), bs_ r1]
    exact ⟨h1, rfl, e1, m1⟩
  unfold f_X11_number
  rw [bs_ (gj80 h 17), lt_e, bs_ (gi80 h 16)]
  by_cases c1 : tkK b t i = 284
  · obtain ⟨u, u1, u2, u3, u4⟩ := d4 c1
    rw [if_pos (d1.mpr c1), bs_ (gj80 h 17), u2, bs_ (in_J S_1 h (by omega) (by omega) (by omega))]
    dsimp only
    by_cases c2 : x ≤ tkU b t i ∧ tkU b t i ≤ y
    · have eu := u3 (by omega)
      obtain ⟨h1, r1, e1, m1⟩ := m_must1 k (by omega)
      refine Or.inl ⟨c1, c2.1, c2.2, h1, ?_, e1, m1⟩
      rw [decide_eq_true (show x ≤ u ∧ u ≤ y by omega), if_neg (show ¬ bI true = 0 by decide), bs_ (ck_80 h), bs_ r1, eu, oJ_32 (by omega)]
    · have : ¬ (x ≤ u ∧ u ≤ y) := by
        by_cases c3 : tkU b t i ≤ 1000
        · have := u3 c3
          omega
        · have := u4 (by omega)
          omega
      refine Or.inr ⟨fun z => c2 z.2, ?_⟩
      rw [decide_eq_false this, if_pos (show bI false = 0 from rfl)]
      obtain ⟨h', z⟩ := bad (Int64.toInt32 (oJ u))
      exact ⟨h', _, z⟩
  · refine Or.inr ⟨fun z => c1 z.1, ?_⟩
    rw [if_neg (fun z => c1 (d1.mp z))]
    obtain ⟨h', z⟩ := bad (Int64.toInt32 (h.2.2.1 80 17))
    exact ⟨h', _, z⟩
theorem m_leafS {h : AH} {b : Nat → Nat} {t n i lv c o : Nat} {ord : Bool} {P : List (Nat × Nat)} (k : MS h b t n ord i lv c o P) (h91 : tkK b t i ≠ 91) : RLf h b t n ord lv c o P (leafS (tkK b t) (tkU b t) ord i lv) (f_X11_readPart S_1 80 h) := by
  have kl := k.kl
  have hlv := k.2.2.2.1.2
  have v20 := k.2.2.1
  have cn := k.2.2.2.2.2.2.2.2.2.2
  obtain ⟨d1, d2, d3, d4⟩ := m_digitsAt k.1.1
  unfold f_X11_readPart
  rw [bs_ (ck_80 h), bs_ (show f_X11_isSign S_1 80 (91 : Int32) h = _ from m_isSign (x := 91) k.1.1 (by decide) (by decide)), decide_eq_false h91]
  dsimp only
  rw [if_pos (show bI false = 0 from rfl), bs_ (gi80 h 20), v20]
  -- a word that is told, its index; -1: none
  have J35 : ∀ its : Int32, (its = -1 ∨ ∃ q, q < 20 ∧ its = nI q ∧ 1 ≤ q ∧ tkK b t i ≠ 284) → f_X11_readPart_j35 S_1 80 its h = f_X11_readPart_j99 S_1 80 its 80 (bI (decide (its ≠ -1) || decide (tkK b t i = 284 ∧ tkU b t i ≤ 1000))) (if its = -1 then 0 else its) (if tkK b t i = 284 ∧ tkU b t i ≤ 1000 then nI (tkU b t i) else 0) h := fun its hits => by
    have dig : tkK b t i = 284 ∧ tkU b t i ≤ 1000 → f_X11_readPart_j35 S_1 80 its h = f_X11_readPart_j60 S_1 80 its 1 h ∧ h.2.2.1 80 17 = oJ (tkU b t i) := fun c1 => by
      obtain ⟨u, u1, u2, u3, u4⟩ := d4 c1.1
      have eu := u3 c1.2
      refine ⟨?_, by rw [u2, eu]⟩
      unfold f_X11_readPart_j35
      rw [bs_ (gi80 h 16), if_pos (d1.mpr c1.1), bs_ (gj80 h 17), u2]
      have : ¬ (0 : Int32) < lg_cmp (oJ u) 1000 := by
        rw [Int32.not_lt, cmp_le0, show (1000 : Int64) = oJ 1000 from rfl, oJ_le (by omega) (by decide)]
        omega
      rw [if_neg this]
    have nodig : ¬ (tkK b t i = 284 ∧ tkU b t i ≤ 1000) → f_X11_readPart_j35 S_1 80 its h = f_X11_readPart_j60 S_1 80 its 0 h := fun c1 => by
      unfold f_X11_readPart_j35 f_X11_readPart_j59
      rw [bs_ (gi80 h 16)]
      by_cases c2 : tkK b t i = 284
      · obtain ⟨u, u1, u2, u3, u4⟩ := d4 c2
        have eu := u4 (by omega)
        rw [if_pos (d1.mpr c2), bs_ (gj80 h 17), u2]
        have : (0 : Int32) < lg_cmp (oJ u) 1000 := by
          rw [← Int32.not_le, cmp_le0, show (1000 : Int64) = oJ 1000 from rfl, oJ_le (by omega) (by decide)]
          omega
        rw [if_pos this]
      · rw [if_neg (fun z => c2 (d1.mp z))]
    by_cases c1 : tkK b t i = 284 ∧ tkU b t i ≤ 1000
    · obtain ⟨r1, r2⟩ := dig c1
      rw [r1, decide_eq_true c1, Bool.or_true, if_pos c1]
      unfold f_X11_readPart_j60 f_X11_readPart_j71 f_X11_readPart_j76 f_X11_readPart_j86
      by_cases c2 : its = -1
      · rw [if_pos c2, if_neg (by decide), if_pos c2, if_pos c2, if_neg (by decide), bs_ (gj80 h 17), r2, oJ_32 (by omega)]
        rfl
      · rw [if_neg c2, if_neg c2, if_neg c2, if_neg (by decide), bs_ (gj80 h 17), r2, oJ_32 (by omega)]
        rfl
    · rw [nodig c1, decide_eq_false c1, Bool.or_false, if_neg c1]
      unfold f_X11_readPart_j60 f_X11_readPart_j71 f_X11_readPart_j76 f_X11_readPart_j86
      by_cases c2 : its = -1
      · rw [if_pos c2, if_pos rfl, if_pos c2, if_pos rfl, if_pos c2, decide_eq_false (fun z => z c2)]
        rfl
      · rw [if_neg c2, if_neg c2, if_pos rfl, if_neg c2, decide_eq_true c2]
        rfl
  -- one leaf of one token
  have one : ∀ (its : Int32) (d : DD), lv < 50 → tkK b t i ≠ 285 → (ord = false ∨ ¬ (6 : Int32) ≤ its) → ∀ x y : Int32, ((x = 0 ∧ d = fun _ => some (Int32.toInt64 y)) ∨ ∃ q, WI ord x y q ∧ d = fun e => some (e q)) → RLf h b t n ord lv c o P (.inr (i + 1, lv + 1, d)) (f_X11_readPart_j99 S_1 80 its 80 1 x y h) := fun its d hl hi ho x y hq => by
    obtain ⟨h1, r1, e1, m1, c1, v1, v2⟩ := m_leaf1 k hi hl x y
    unfold f_X11_readPart_j99
    rw [bs_ (ck_80 h), bs_ r1]
    dsimp only
    rw [bs_ (gi80 h1 20), m1.2.2.1]
    have fin : RLf h b t n ord lv c o P (.inr (i + 1, lv + 1, d)) (some (3, h1)) := ⟨h1, c + 1, rfl, e1, m1, c1, 1, Or.inl ⟨rfl, by omega, by rw [v1, v2]; exact hq⟩⟩
    rcases ho with rfl | ho
    · rw [if_pos (show bI false = 0 from rfl)]; exact fin
    · cases ord with
      | false => rw [if_pos (show bI false = 0 from rfl)]; exact fin
      | true => rw [if_neg (show ¬ bI true = 0 by decide), if_pos (Int32.not_le.mp ho)]; exact fin
  have none' : ∀ (its z x y : Int32), (z = 0 ∨ ¬ z = 0 ∧ 50 ≤ lv) → RLf h b t n ord lv c o P (.inl i) (f_X11_readPart_j99 S_1 80 its 80 z x y h) := fun its z x y hz => by
    obtain ⟨h1, r1, e1, m1⟩ := m_leaf0 k z x y hz
    have fin : RLf h b t n ord lv c o P (.inl i) (some (3, h1)) := ⟨h1, rfl, e1, m1⟩
    unfold f_X11_readPart_j99
    rw [bs_ (ck_80 h), bs_ r1]
    dsimp only
    rw [bs_ (gi80 h1 20)]
    by_cases z0 : h1.2.1 80 20 = 0
    · rw [if_pos z0]; exact fin
    · rw [if_neg z0]
      by_cases z6 : its < 6
      · rw [if_pos z6]; exact fin
      · rw [if_neg z6, bs_ (gi80 h1 19), m1.1, if_neg (by decide)]; exact fin
  unfold leafS
  cases ord with
  | false =>
    rw [if_pos (show bI false = 0 from rfl), bs_ (ck_80 h), bs_ (m_partAt k.1.1 cn kl)]
    dsimp only
    rw [J35 _ (by
      by_cases c2 : 270 ≤ tkK b t i ∧ tkK b t i ≤ 278
      · rw [if_pos c2]; exact Or.inr ⟨_, by omega, rfl, by omega, by omega⟩
      · rw [if_neg c2]; exact Or.inl rfl)]
    by_cases c0 : lv < 50
    · rw [if_pos c0]
      by_cases c1 : tkK b t i = 284 ∧ tkU b t i ≤ 1000
      · rw [if_pos c1, if_pos c1, if_neg (show ¬ (270 ≤ tkK b t i ∧ tkK b t i ≤ 278) by omega), decide_eq_true c1, Bool.or_true, if_pos rfl]
        exact one _ _ c0 (by omega) (Or.inl rfl) 0 (nI (tkU b t i)) (Or.inl ⟨rfl, rfl⟩)
      · rw [if_neg c1, if_neg c1, if_neg (show ¬ false = true by decide), decide_eq_false c1, Bool.or_false]
        by_cases c2 : 270 ≤ tkK b t i ∧ tkK b t i ≤ 278
        · have ne : ¬ nI (tkK b t i - 269) = -1 := by rw [nl_m1 (by omega)]; exact id
          rw [if_pos c2, if_pos c2, decide_eq_true ne, if_neg ne]
          exact one _ _ c0 (by omega) (Or.inl rfl) (nI (tkK b t i - 269)) 0 (Or.inr ⟨tkK b t i - 270, ⟨by omega, by rw [show tkK b t i - 269 = tkK b t i - 270 + 1 by omega]⟩, rfl⟩)
        · rw [if_neg c2, if_neg c2, decide_eq_false (fun z => z rfl)]
          exact none' _ _ _ _ (Or.inl rfl)
    · rw [if_neg c0]
      refine none' _ _ _ _ ?_
      rcases Bool.eq_false_or_eq_true (decide ((if 270 ≤ tkK b t i ∧ tkK b t i ≤ 278 then nI (tkK b t i - 269) else (-1 : Int32)) ≠ -1) || decide (tkK b t i = 284 ∧ tkU b t i ≤ 1000)) with e | e
      · rw [e]; exact Or.inr ⟨by decide, by omega⟩
      · rw [e]; exact Or.inl rfl
  | true =>
    rw [if_neg (show ¬ bI true = 0 by decide), bs_ (ck_80 h), bs_ (m_orderPartAt k.1.1 cn kl)]
    dsimp only
    have ov : ∀ K, K ≤ 285 → ordV K = -1 ∨ ∃ q, q < 20 ∧ ordV K = nI q ∧ 1 ≤ q ∧ K ≠ 284 := fun K hK => by
      unfold ordV
      by_cases x1 : K = 277
      · rw [if_pos x1]; exact Or.inr ⟨1, by decide, rfl, by decide, by omega⟩
      · rw [if_neg x1]
        by_cases x2 : K = 279
        · rw [if_pos x2]; exact Or.inr ⟨2, by decide, rfl, by decide, by omega⟩
        · rw [if_neg x2]
          by_cases x3 : K = 280
          · rw [if_pos x3]; exact Or.inr ⟨3, by decide, rfl, by decide, by omega⟩
          · rw [if_neg x3]
            by_cases x4 : K = 276
            · rw [if_pos x4]; exact Or.inr ⟨4, by decide, rfl, by decide, by omega⟩
            · rw [if_neg x4]
              by_cases x5 : K = 281
              · rw [if_pos x5]; exact Or.inr ⟨5, by decide, rfl, by decide, by omega⟩
              · rw [if_neg x5]
                by_cases x6 : K = 271
                · rw [if_pos x6]; exact Or.inr ⟨6, by decide, rfl, by decide, by omega⟩
                · rw [if_neg x6]
                  by_cases x7 : K = 282
                  · rw [if_pos x7]; exact Or.inr ⟨7, by decide, rfl, by decide, by omega⟩
                  · rw [if_neg x7]; exact Or.inl rfl
    rw [J35 _ (ov _ kl)]
    by_cases c0 : lv < 50
    · rw [if_pos c0]
      by_cases c1 : tkK b t i = 284 ∧ tkU b t i ≤ 1000
      · have e : ordV (tkK b t i) = -1 := by rw [c1.1]; decide
        rw [if_pos c1, if_pos c1, e, if_pos rfl, decide_eq_true c1, Bool.or_true]
        exact one _ _ c0 (by omega) (Or.inr (by decide)) 0 (nI (tkU b t i)) (Or.inl ⟨rfl, rfl⟩)
      · rw [if_neg c1, if_neg c1, if_pos (show true = true from rfl), decide_eq_false c1, Bool.or_false]
        -- two tokens
        have two : ∀ (lim base : Nat) (op : Int32), lim ≤ 6 → op = 6 ∧ lim = 6 ∧ base = 18 ∨ op = 7 ∧ lim = 5 ∧ base = 12 → tkK b t i ≠ 285 → RLf h b t n true lv c o P (if tkK b t (i + 1) = 284 ∧ tkU b t (i + 1) ≤ lim then .inr (i + 2, lv + 1, fun e => some (e (base + tkU b t (i + 1)))) else .inl (i + 1)) (f_X11_readPart_j99 S_1 80 op 80 1 op 0 h) := fun lim base op hlim hop hi => by
          obtain ⟨h1, r1, e1, m1, cd1, v1, v2⟩ := m_leaf1 k hi c0 op 0
          have n4 := m1.n4
          have w23 := m1.2.2.2.2.1
          have wc := m1.2.2.2.2.2.2.2.1
          have o6 : ¬ op < 6 := by rcases hop with ⟨rfl, _⟩ | ⟨rfl, _⟩ <;> decide
          unfold f_X11_readPart_j99
          rw [bs_ (ck_80 h), bs_ r1]
          dsimp only
          rw [bs_ (gi80 h1 20), m1.2.2.1, if_neg (show ¬ bI true = 0 by decide), if_neg o6, bs_ (gi80 h1 19), m1.2.1, if_pos rfl, bs_ (gi80 h1 23), w23, lt_e, nI_pre, bs_ (yr_80_25 h1)]
          have num := m_number m1 (x := 0) (y := lim) (by omega) (Nat.zero_le _)
          have c4 : c < 400 := by omega
          have body : ∀ X : Option (Int32 × AH), X = f_X11_number S_1 80 (oJ 0) (oJ lim) h1 → RLf h b t n true lv c o P (if tkK b t (i + 1) = 284 ∧ tkU b t (i + 1) ≤ lim then .inr (i + 2, lv + 1, fun e => some (e (base + tkU b t (i + 1)))) else .inl (i + 1)) (X.bind fun z => match z with
              | (z_24, h_23) => (sI S_1 h_23 92 (nI c) z_24).bind fun h_25 => some ((3 : Int32), h_25)) := fun X hX => by
            rw [hX]
            rcases num with ⟨n1, n2, n3, h2, r2, e2, m2⟩ | ⟨n1, h2, v, r2, e2, bd⟩
            · rw [if_pos ⟨n1, n3⟩, bs_ r2]
              dsimp only
              rw [bs_ (si_92 h2 _ c4)]
              refine ⟨_, c + 1, rfl, (e1.trans (e2.mono PN_E)).si (PE_o (by omega)), m2.st92 c _, fun j hj => ?_, 1, Or.inl ⟨rfl, by omega, Or.inr ⟨base + tkU b t (i + 1), ?_, rfl⟩⟩⟩
              · rw [ri_p (by decide), ri_k (by omega), e2.i 91 j rfl, e2.i 92 j rfl]
                exact cd1 j hj
              · rw [ri_p (by decide), stI_s, e2.i 91 c rfl, v1]
                rcases hop with ⟨rfl, rfl, rfl⟩ | ⟨rfl, rfl, rfl⟩
                · exact Or.inr (Or.inr (Or.inr (Or.inr (Or.inr (Or.inl ⟨tkU b t (i + 1), by omega, rfl, rfl, rfl⟩)))))
                · exact Or.inr (Or.inr (Or.inr (Or.inr (Or.inr (Or.inr ⟨tkU b t (i + 1), by omega, rfl, rfl, rfl⟩)))))
            · rw [if_neg (fun z => n1 ⟨z.1, Nat.zero_le _, z.2⟩), bs_ r2]
              dsimp only
              rw [bs_ (si_92 h2 _ c4)]
              exact ⟨_, rfl, (e1.trans e2).si (PE_o (by omega)), bd.st92 c _⟩
          rcases hop with ⟨rfl, rfl, rfl⟩ | ⟨rfl, rfl, rfl⟩
          · rw [if_pos (show (6 : Int32) = 6 from rfl), bs_ (ck_80 h1)]
            exact body _ rfl
          · rw [if_neg (show ¬ (7 : Int32) = 6 by decide), bs_ (ck_80 h1)]
            exact body _ rfl
        by_cases c2 : tkK b t i = 271
        · have e : ordV (tkK b t i) = 6 := by rw [c2]; decide
          rw [if_pos c2, e]
          exact two 6 18 6 (by decide) (Or.inl ⟨rfl, rfl, rfl⟩) (by omega)
        · rw [if_neg c2]
          by_cases c3 : tkK b t i = 282
          · have e : ordV (tkK b t i) = 7 := by rw [c3]; decide
            rw [if_pos c3, e]
            exact two 5 12 7 (by decide) (Or.inr ⟨rfl, rfl, rfl⟩) (by omega)
          · rw [if_neg c3]
            have w1 : ∀ (op q : Nat), op = 1 ∧ q = 7 ∨ op = 2 ∧ q = 9 ∨ op = 3 ∧ q = 10 ∨ op = 4 ∧ q = 6 ∨ op = 5 ∧ q = 11 → tkK b t i = 270 + q → ordV (tkK b t i) = nI op → RLf h b t n true lv c o P (.inr (i + 1, lv + 1, fun e => some (e (tkK b t i - 270)))) (f_X11_readPart_j99 S_1 80 (ordV (tkK b t i)) 80 (bI (decide (ordV (tkK b t i) ≠ -1))) (if ordV (tkK b t i) = -1 then 0 else ordV (tkK b t i)) 0 h) := fun op q ho hk hv => by
              have ne : ¬ nI op = -1 := by rw [nl_m1 (by omega)]; exact id
              rw [hv, decide_eq_true ne, if_neg ne]
              refine one _ _ c0 (by omega) (Or.inr (by rw [show (6 : Int32) = nI 6 from rfl, nn_le (by decide) (by omega)]; omega)) (nI op) 0 (Or.inr ⟨tkK b t i - 270, ?_, rfl⟩)
              rw [show tkK b t i - 270 = q by omega]
              rcases ho with ⟨rfl, rfl⟩ | ⟨rfl, rfl⟩ | ⟨rfl, rfl⟩ | ⟨rfl, rfl⟩ | ⟨rfl, rfl⟩
              · exact Or.inl ⟨rfl, rfl⟩
              · exact Or.inr (Or.inl ⟨rfl, rfl⟩)
              · exact Or.inr (Or.inr (Or.inl ⟨rfl, rfl⟩))
              · exact Or.inr (Or.inr (Or.inr (Or.inl ⟨rfl, rfl⟩)))
              · exact Or.inr (Or.inr (Or.inr (Or.inr (Or.inl ⟨rfl, rfl⟩))))
            by_cases c4 : tkK b t i = 276 ∨ tkK b t i = 277 ∨ tkK b t i = 279 ∨ tkK b t i = 280 ∨ tkK b t i = 281
            · rw [if_pos c4]
              rcases c4 with c4 | c4 | c4 | c4 | c4
              · exact w1 4 6 (by omega) c4 (by rw [c4]; decide)
              · exact w1 1 7 (by omega) c4 (by rw [c4]; decide)
              · exact w1 2 9 (by omega) c4 (by rw [c4]; decide)
              · exact w1 3 10 (by omega) c4 (by rw [c4]; decide)
              · exact w1 5 11 (by omega) c4 (by rw [c4]; decide)
            · have e : ordV (tkK b t i) = -1 := by
                unfold ordV
                rw [if_neg (by omega), if_neg (by omega), if_neg (by omega), if_neg (by omega), if_neg (by omega), if_neg c2, if_neg c3]
              rw [if_neg c4, e, decide_eq_false (fun z => z rfl)]
              exact none' _ _ _ _ (Or.inl rfl)
    · rw [if_neg c0]
      refine none' _ _ _ _ ?_
      rcases Bool.eq_false_or_eq_true (decide (ordV (tkK b t i) ≠ -1) || decide (tkK b t i = 284 ∧ tkU b t i ≤ 1000)) with e | e
      · rw [e]; exact Or.inr ⟨by decide, by omega⟩
      · rw [e]; exact Or.inl rfl

/-! reading: a text, whole, on the class's side -/
def noCo : Nat → Co := fun _ => (0, (none, none, none), 0)
def PRd (p j : Nat) : Bool := decide (46 ≤ p ∧ p ≤ 49 ∨ p = 45 ∧ 2 ≤ j ∧ j ≤ 4 ∨ p = 50 ∧ (j = 2 ∨ j = 3) ∨ p = 51 ∨ p = 52)
theorem PRd_o {p j : Nat} (h : 46 ≤ p ∧ p ≤ 49 ∨ p = 45 ∧ 2 ≤ j ∧ j ≤ 4 ∨ p = 50 ∧ (j = 2 ∨ j = 3) ∨ p = 51 ∨ p = 52) : PRd p j = true := decide_eq_true h
theorem PCh_d (p j : Nat) (h : PCh p j = true) : PRd p j = true := by
  have h := of_decide_eq_true h
  exact PRd_o (by omega)
theorem Pk_d (p j : Nat) (h : Pk p j = true) : PRd p j = true := by
  have h := of_decide_eq_true h
  exact PRd_o (by omega)
theorem tkU_le (b : Nat → Nat) (t i : Nat) : tkU b t i ≤ 1001 := by
  unfold tkU nuT
  split
  · exact Nat.zero_le _
  · exact nuL_le _ _ _ _ (Nat.zero_le _)
theorem kd_ne {b : Nat → Nat} {t s : Nat} (hb : b s < 256) (hs : s < t) : kdT b t s ≠ 285 := by
  rcases cls_cases (b s) with c | c | c
  · rw [kd_1 hs c]
    have := wix_le (letL b s (enT b t s))
    omega
  · rw [kd_2 hs c]
    decide
  · rw [kd_3 hs c]
    omega
theorem tk_n {b : Nat → Nat} {t n : Nat} (hb : ∀ j, j < 400 → b j < 256) (ht : t ≤ 400) (lt : ∀ j, j < n → stT b t j < t) (eq : stT b t n = t) (hn : n ≤ t) : TkN (tkK b t) n := by
  refine ⟨by omega, ?_, fun i hi => ?_⟩
  · unfold tkK
    rw [eq]
    exact kd_0 (Nat.le_refl t)
  · have := lt i hi
    exact kd_ne (hb _ (by omega)) this
def RRd (h' : AH) (n : Nat) (r : Nat ⊕ (Nat × (Nat → Co))) (res : Option (Int32 × AH)) : Prop := match r with
  | .inl j => res = some (0, h') ∧ h'.2.1 45 3 = nI j ∧ j ≤ n
  | .inr (m, f) => ∃ c, res = some (1, h') ∧ h'.2.1 50 2 = nI c ∧ c ≤ 400 ∧ h'.2.1 50 3 = nI m ∧ 1 ≤ m ∧ m ≤ 12 ∧ ∀ y, y < m → HdF (h'.2.1 51) (h'.2.1 52) y (f y) c
theorem q_read {h : AH} {b : Nat → Nat} {t : Nat} (tp : Tp h b) (ht : t ≤ 400) (ord : Bool) : ∃ h' n, TkN (tkK b t) n ∧ Eqv PRd h h' ∧ (h'.2.1 46 3 = nI (n + 1) ∧ ∀ i, i ≤ n → h'.2.1 48 i = nI (stT b t i)) ∧ RRd h' n (textS (tkK b t) (tkU b t) ord 12 0 noCo 0 0) (f_X3_read S_1 45 1 (nI t) (bI (!ord)) h) := by
  obtain ⟨h1, n, r1, e1, ⟨t1, t2, t3⟩, lt, eq, hn⟩ := q_cut tp ht
  have tkn := tk_n (fun j hj => (tp j hj).2) ht lt eq hn
  obtain ⟨h6, hh6⟩ : ∃ h6, h6 = stI (stI (stI (stI (stI h1 45 2 (bI (!ord))) 45 3 0) 45 4 0) 50 2 0) 50 3 0 := ⟨_, rfl⟩
  have E6 : Eqv PRd h h6 := by
    rw [hh6]
    exact (((((e1.mono Pk_d).si (PRd_o (by omega))).si (PRd_o (by omega))).si (PRd_o (by omega))).si (PRd_o (by omega))).si (PRd_o (by omega))
  have o6 : ∀ p j, 46 ≤ p → p ≤ 49 → h6.2.1 p j = h1.2.1 p j := fun p j h1 h2 => by
    rw [hh6, ri_p (by omega), ri_p (by omega), ri_p (by omega), ri_p (by omega), ri_p (by omega)]
  have cs : CS h6 (tkK b t) (tkU b t) n ord 0 0 0 := by
    refine ⟨⟨(o6 _ _ (by omega) (by omega)).trans t1, tkn.1, fun i hi => ?_⟩, tkn, ?_, ?_, Nat.zero_le n, ?_, Nat.zero_le _, ?_, Nat.le_refl _⟩
    · obtain ⟨a1, a2, a3⟩ := t3 i (by omega)
      exact ⟨(o6 _ _ (by omega) (by omega)).trans a1, (o6 _ _ (by omega) (by omega)).trans a3, tk_kind (fun j hj => (tp j hj).2) ht, tkU_le b t i⟩
    · rw [hh6, ri_p (by decide), ri_p (by decide), ri_k (by decide), ri_k (by decide), stI_s]
    · rw [hh6, ri_p (by decide), ri_p (by decide), ri_k (by decide), stI_s]; rfl
    · rw [hh6, ri_p (by decide), ri_p (by decide), stI_s]; rfl
    · rw [hh6, ri_k (by decide), stI_s]; rfl
  have e3 : h6.2.1 50 3 = nI 0 := by rw [hh6, stI_s]; rfl
  have q := q_text 12 0 noCo 0 0 0 h6 FU rfl (by unfold FU; omega) cs e3 (fun y hy => by omega)
  have R : f_X3_read S_1 45 1 (nI t) (bI (!ord)) h = (f_X3_read_l43 S_1 FU 45 (nI 0) h6).bind fun z => match z with
      | (.inl w, h') => some (w, h')
      | (.inr (), h_20) => some ((0 : Int32), h_20) := by
    unfold f_X3_read
    rw [bs_ (yr_45_0' h), bs_ (show ckO S_1 h 46 9 = some () from rfl), bs_ r1]
    dsimp only
    rw [bs_ (show pZ S_1 h1 45 3 2 (bI (!ord)) = some (stI h1 45 2 (bI (!ord))) by cases ord <;> rfl), bs_ (pi45 _ 3 _), bs_ (pi45 _ 4 _), bs_ (yr_45_1' _), bs_ (pi50 _ 2 _), bs_ (yr_45_1' _), bs_ (pi50 _ 3 _), ← hh6]
    rfl
  rw [R]
  revert q
  rcases textS (tkK b t) (tkU b t) ord 12 0 noCo 0 0 with j | ⟨m, f⟩
  · rintro ⟨h', r, e, v, hj⟩
    have e48 : ∀ i, i ≤ n → h'.2.1 48 i = nI (stT b t i) := fun i hi => (e.i 48 i (decide_eq_false (by omega))).trans ((o6 48 i (by omega) (by omega)).trans (t3 i (by omega)).2.1)
    refine ⟨h', n, tkn, E6.trans (e.mono PCh_d), ⟨(e.i 46 3 rfl).trans ((o6 _ _ (by omega) (by omega)).trans t1), e48⟩, ?_, v, hj⟩
    rcases r with r | r <;> rw [bs_ r]
  · rintro ⟨h', c, r, e, v, hc, v3, h1, h2, hh⟩
    have e48 : ∀ i, i ≤ n → h'.2.1 48 i = nI (stT b t i) := fun i hi => (e.i 48 i (decide_eq_false (by omega))).trans ((o6 48 i (by omega) (by omega)).trans (t3 i (by omega)).2.1)
    exact ⟨h', n, tkn, E6.trans (e.mono PCh_d), ⟨(e.i 46 3 rfl).trans ((o6 _ _ (by omega) (by omega)).trans t1), e48⟩, c, by rw [bs_ r], v, hc, v3, h1, h2, hh⟩
theorem q_place {g : AH} {n j v : Nat} (e3 : g.2.1 45 3 = nI j) (hj : j ≤ n) (hn : n ≤ 400) (e46 : g.2.1 46 3 = nI (n + 1)) (e48 : g.2.1 48 j = nI v) : f_X3_place S_1 45 g = some (nI v, g) := by
  unfold f_X3_place
  rw [bs_ (gi45 g 3), e3, if_neg (by rw [z_lt (by omega)]; exact id), bs_ (gi45 g 3), e3, bs_ (yr_45_0' g), bs_ (gi46 g 3), e46, if_neg (by rw [nn_le (by omega) (by omega)]; omega), bs_ (yr_45_0' g), bs_ (yr_46_1' g), bs_ (gi45 g 3), e3, bs_ (ai_48 g (by omega)), e48]
/-! a law that is kept: new cells -/
theorem OldE.out {h h1 h2 : AH} (o : OldE h h1) (e1 : h2.1 = h1.1) (ei : ∀ q j, q < (S_1.1 ++ h.1).length → h2.2.1 q j = h1.2.1 q j) (er : ∀ q j, q < (S_1.1 ++ h.1).length → RF S_1 h2 q j = RF S_1 h1 q j) : OldE h h2 := by
  have lt : ∀ q k, KD S_1 h q = some k → q < (S_1.1 ++ h.1).length := fun q k e => (List.getElem?_eq_some_iff.mp e).1
  refine ⟨fun q kk hk => ?_, fun q kk j l hk => (ei q j (lt q kk hk)).trans (o.2.1 q kk j l hk), fun q kk j l hk => (er q j (lt q kk hk)).trans (o.2.2 q kk j l hk)⟩
  have := o.1 q kk hk
  unfold KD at this ⊢
  rw [e1]
  exact this
theorem nw_len (h : AH) (kk : Nat × Nat) : (S_1.1 ++ (nwH S_1 h kk).1).length = (S_1.1 ++ h.1).length + 1 := by
  show (S_1.1 ++ (h.1 ++ [kk])).length = _
  rw [List.length_append, List.length_append, List.length_append]
  rfl
theorem RF_out {q : Nat} (hq : 110 ≤ q) (h : AH) (k : Nat) : RF S_1 h q k = h.2.2.2 q k := by
  unfold RF
  rw [S_1_out hq]
theorem RF_stR (h : AH) (p k : Nat) (v : Option Nat) {q j : Nat} (hq : q ≠ p) : RF S_1 (stR h p k v) q j = RF S_1 h q j := by
  unfold RF stR
  cases S_1.2 q with
  | some f => rfl
  | none => exact if_neg (fun z => hq z.1)
theorem RF_of_r {h h' : AH} (e : h'.2.2 = h.2.2) (q j : Nat) : RF S_1 h' q j = RF S_1 h q j := by
  unfold RF
  rw [e]
theorem KD_of_k {h h' : AH} (e : h'.1 = h.1) (q : Nat) : KD S_1 h' q = KD S_1 h q := by
  unfold KD
  rw [e]
theorem nwH_R (g : AH) (kk : Nat × Nat) (q j : Nat) : (nwH S_1 g kk).2.2.2 q j = if q = (S_1.1 ++ g.1).length then none else g.2.2.2 q j := rfl
theorem nwH_I (g : AH) (kk : Nat × Nat) (q j : Nat) : (nwH S_1 g kk).2.1 q j = if q = (S_1.1 ++ g.1).length then 0 else g.2.1 q j := rfl
theorem nwH_J (g : AH) (kk : Nat × Nat) (q j : Nat) : (nwH S_1 g kk).2.2.1 q j = if q = (S_1.1 ++ g.1).length then 0 else g.2.2.1 q j := rfl
theorem stR_R (g : AH) (p k : Nat) (v : Option Nat) (q j : Nat) : (stR g p k v).2.2.2 q j = if q = p ∧ j = k then v else g.2.2.2 q j := rfl
theorem stR_i (g : AH) (p k : Nat) (v : Option Nat) (q j : Nat) : (stR g p k v).2.1 q j = g.2.1 q j := rfl
theorem stR_l (g : AH) (p k : Nat) (v : Option Nat) (q j : Nat) : (stR g p k v).2.2.1 q j = g.2.2.1 q j := rfl
theorem nwO_new (h : AH) (kk : Nat × Nat) : nwO S_1 h kk = some ((S_1.1 ++ h.1).length, nwH S_1 h kk) := by
  unfold nwO
  rw [if_neg (by rw [S_1_out (nw_old h kk).2.2.2.1]; decide)]
theorem nwA_new (h : AH) {n mx : Nat} (hn : n ≤ mx) (hm : mx < 2 ^ 31) : nwA S_1 h 1 (nI n) mx = some ((S_1.1 ++ h.1).length, nwH S_1 h (1, n)) := by
  unfold nwA
  rw [tn_n (by omega), if_neg, nwO_new]
  rintro (z | z)
  · rw [z_lt (by omega)] at z; exact z
  · omega
theorem mx_0 {n : Nat} (hn : n < 2 ^ 31) : mxI (0 : Int32) (nI n) = nI n := by
  unfold mxI
  by_cases e : (0 : Int32) < nI n
  · rw [if_pos e]
  · rw [if_neg e]
    have : ¬ nI 0 < nI n := e
    rw [nn_lt (by decide) hn] at this
    have : n = 0 := by omega
    rw [this]
    rfl
/-- the text that is kept of one that was read -/
def Cop (h : AH) (c m p : Nat) (h' : AH) : Prop := OldE h h' ∧ (∀ q j, q < 110 → h'.2.1 q j = h.2.1 q j ∧ h'.2.2.1 q j = h.2.2.1 q j) ∧ (∀ q j, q < 110 → RF S_1 h' q j = RF S_1 h q j) ∧ 110 ≤ p ∧ KD S_1 h' p = some (0, 8) ∧ h'.2.1 p 3 = nI m ∧ ∃ qc qh, 110 ≤ qc ∧ 110 ≤ qh ∧ KD S_1 h' qc = some (1, c) ∧ KD S_1 h' qh = some (1, 6 * m) ∧ (∀ k, RF S_1 h' p k = if k = 1 then some qh else if k = 0 then some qc else none) ∧ (∀ j, j < c → h'.2.1 qc j = h.2.1 51 j) ∧ ∀ j, j < 6 * m → h'.2.1 qh j = h.2.1 52 j
theorem q_copied {h : AH} {c m : Nat} (hc : c ≤ 400) (hm : m ≤ 12) (e2 : h.2.1 50 2 = nI c) (e3 : h.2.1 50 3 = nI m) : ∃ p h', f_X8_copied S_1 50 h = some (p, h') ∧ Cop h c m p h' := by
  obtain ⟨N, hN⟩ : ∃ N, N = (S_1.1 ++ h.1).length := ⟨_, rfl⟩
  obtain ⟨oA, iA, fA, nA, kA⟩ := nw_old h (0, 8)
  obtain ⟨h1, hh1⟩ : ∃ h1, h1 = nwH S_1 h (0, 8) := ⟨_, rfl⟩
  have l1 : (S_1.1 ++ h1.1).length = N + 1 := by rw [hh1, nw_len, hN]
  obtain ⟨oB, iB, fB, nB, kB⟩ := nw_old h1 (1, c)
  obtain ⟨h2, hh2⟩ : ∃ h2, h2 = nwH S_1 h1 (1, c) := ⟨_, rfl⟩
  have l2 : (S_1.1 ++ h2.1).length = N + 2 := by rw [hh2, nw_len, l1]
  rw [← hN, ← hh1] at kA
  rw [l1, ← hh2] at kB
  rw [← hh1] at oA iA fA
  rw [← hh2] at oB iB fB
  rw [← hN] at nA
  have kA2 : KD S_1 h2 N = some (0, 8) := oB.1 _ _ kA
  obtain ⟨h3, hh3⟩ : ∃ h3, h3 = stR h2 N 0 (some (N + 1)) := ⟨_, rfl⟩
  have k3 : ∀ q, KD S_1 h3 q = KD S_1 h2 q := fun q => by rw [hh3]; rfl
  have l3 : (S_1.1 ++ h3.1).length = N + 2 := by rw [hh3]; exact l2
  obtain ⟨oC, iC, fC, nC, kC⟩ := nw_old h3 (1, 6 * m)
  obtain ⟨h4, hh4⟩ : ∃ h4, h4 = nwH S_1 h3 (1, 6 * m) := ⟨_, rfl⟩
  rw [l3, ← hh4] at kC
  rw [← hh4] at oC iC fC
  obtain ⟨h5, hh5⟩ : ∃ h5, h5 = stR h4 N 1 (some (N + 2)) := ⟨_, rfl⟩
  have k5 : ∀ q, KD S_1 h5 q = KD S_1 h4 q := fun q => by rw [hh5]; rfl
  have kA3 : KD S_1 h3 N = some (0, 8) := (k3 N).trans kA2
  have kA5 : KD S_1 h5 N = some (0, 8) := (k5 N).trans (oC.1 _ _ kA3)
  have kB5 : KD S_1 h5 (N + 1) = some (1, c) := (k5 _).trans (oC.1 _ _ ((k3 _).trans kB))
  have kC5 : KD S_1 h5 (N + 2) = some (1, 6 * m) := (k5 _).trans kC
  have R5 : ∀ k, RF S_1 h5 N k = if k = 1 then some (N + 2) else if k = 0 then some (N + 1) else none := fun k => by
    rw [RF_out nA, hh5, stR_R]
    by_cases z1 : k = 1
    · rw [if_pos ⟨rfl, z1⟩, if_pos z1]
    · rw [if_neg (fun z => z1 z.2), if_neg z1, hh4, nwH_R, l3, if_neg (show ¬ N = N + 2 by omega), hh3, stR_R]
      by_cases z0 : k = 0
      · rw [if_pos ⟨rfl, z0⟩, if_pos z0]
      · rw [if_neg (fun z => z0 z.2), if_neg z0, hh2, nwH_R, l1, if_neg (show ¬ N = N + 1 by omega), hh1, nwH_R, ← hN, if_pos rfl]
  have g0 : gR S_1 h5 N 8 0 = some (N + 1) := by
    unfold gR
    rw [if_pos kA5, R5]
    rfl
  have I5 : ∀ q j, q < N → h5.2.1 q j = h.2.1 q j ∧ h5.2.2.1 q j = h.2.2.1 q j := fun q j hq => by
    constructor
    · rw [hh5, stR_i, hh4, nwH_I, l3, if_neg (by omega), hh3, stR_i, hh2, nwH_I, l1, if_neg (by omega), hh1, nwH_I, ← hN, if_neg (by omega)]
    · rw [hh5, stR_l, hh4, nwH_J, l3, if_neg (by omega), hh3, stR_l, hh2, nwH_J, l1, if_neg (by omega), hh1, nwH_J, ← hN, if_neg (by omega)]
  have F5 : ∀ q j, q < N → RF S_1 h5 q j = RF S_1 h q j := fun q j hq => by
    have a : RF S_1 h5 q j = RF S_1 h4 q j := by rw [hh5]; exact RF_stR _ _ _ _ (by omega)
    have b : RF S_1 h3 q j = RF S_1 h2 q j := by rw [hh3]; exact RF_stR _ _ _ _ (by omega)
    have nwf : ∀ (g : AH) (kk : Nat × Nat), q < (S_1.1 ++ g.1).length → RF S_1 (nwH S_1 g kk) q j = RF S_1 g q j := fun g kk hg => by
      unfold RF
      cases S_1.2 q with
      | some f => rfl
      | none => exact if_neg (by omega)
    rw [a, hh4, nwf h3 _ (by rw [l3]; omega), b, hh2, nwf h1 _ (by rw [l1]; omega), hh1, nwf h _ (by rw [← hN]; omega)]
  have o5 : OldE h h5 := by
    refine ⟨fun q kk hk => (k5 q).trans (oC.1 _ _ ((k3 q).trans (oB.1 _ _ (oA.1 _ _ hk)))), fun q kk j l hk => (I5 q j ?_).1, fun q kk j l hk => F5 q j ?_⟩
    · rw [hN]; exact (List.getElem?_eq_some_iff.mp hk).1
    · rw [hN]; exact (List.getElem?_eq_some_iff.mp hk).1
  obtain ⟨h6, r6, c6⟩ := cpI_of (h := h5) (a := 51) (b := N + 1) (n0 := 400) (sp := 0) (dp := 0) (n := c) rfl kB5 (by omega) (by omega) ⟨by decide, by omega⟩
  have kA6 : KD S_1 h6 N = some (0, 8) := (KD_of_k c6.1 N).trans kA5
  have R6 : ∀ k, RF S_1 h6 N k = if k = 1 then some (N + 2) else if k = 0 then some (N + 1) else none := fun k => (RF_of_r c6.2.1 N k).trans (R5 k)
  have g1 : gR S_1 h6 N 8 1 = some (N + 2) := by
    unfold gR
    rw [if_pos kA6, R6]
    rfl
  have kC6 : KD S_1 h6 (N + 2) = some (1, 6 * m) := (KD_of_k c6.1 _).trans kC5
  have kB6 : KD S_1 h6 (N + 1) = some (1, c) := (KD_of_k c6.1 _).trans kB5
  obtain ⟨h7, r7, c7⟩ := cpI_of (h := h6) (a := 52) (b := N + 2) (n0 := 72) (sp := 0) (dp := 0) (n := 6 * m) rfl kC6 (by omega) (by omega) ⟨by decide, by omega⟩
  have kA7 : KD S_1 h7 N = some (0, 8) := (KD_of_k c7.1 N).trans kA6
  have v2 : h7.2.1 50 2 = nI c := by rw [c7.n (by omega), c6.n (by omega), (I5 50 2 (by omega)).1, e2]
  have v3 : h7.2.1 50 3 = nI m := by rw [c7.n (by omega), c6.n (by omega), (I5 50 3 (by omega)).1, e3]
  obtain ⟨h8, hh8⟩ : ∃ h8, h8 = stI (stI h7 N 2 (nI c)) N 3 (nI m) := ⟨_, rfl⟩
  have k8 : ∀ q, KD S_1 h8 q = KD S_1 h5 q := fun q => by rw [hh8]; exact (KD_of_k c7.1 q).trans (KD_of_k c6.1 q)
  have R8 : ∀ q j, RF S_1 h8 q j = RF S_1 h5 q j := fun q j => by rw [hh8]; exact (RF_of_r c7.2.1 q j).trans (RF_of_r c6.2.1 q j)
  have I8 : ∀ q j, q ≠ N → q ≠ N + 1 → q ≠ N + 2 → h8.2.1 q j = h5.2.1 q j := fun q j h1 h2 h3 => by rw [hh8, ri_p h1, ri_p h1, c7.n h3, c6.n h2]
  have L8 : ∀ q j, h8.2.2.1 q j = h5.2.2.1 q j := fun q j => by
    rw [hh8]
    show h7.2.2.1 q j = _
    rw [c7.2.1, c6.2.1]
  refine ⟨N, h8, ?_, o5.out (by rw [hh8]; exact c7.1.trans c6.1) (fun q j hq => I8 q j (by omega) (by omega) (by omega)) (fun q j _ => R8 q j), fun q j hq => ⟨(I8 q j (by omega) (by omega) (by omega)).trans (I5 q j (by omega)).1, (L8 q j).trans (I5 q j (by omega)).2⟩, fun q j hq => (R8 q j).trans (F5 q j (by omega)), nA, (k8 N).trans kA5, by rw [hh8, stI_s], N + 1, N + 2, by omega, by omega, (k8 _).trans kB5, (k8 _).trans kC5, fun k => (R8 N k).trans (R5 k), fun j hj => ?_, fun j hj => ?_⟩
  · have a1 : h1.2.1 50 2 = nI c := (iA 50 2 (by omega)).1.trans e2
    have a2 : h1.2.1 50 3 = nI m := (iA 50 3 (by omega)).1.trans e3
    have ini : f_X8_init S_1 N (nI c) (nI m) h1 = some ((), h5) := by
      unfold f_X8_init
      rw [mx_0 (by omega), bs_ (nwA_new h1 hc (by decide)), ← hh2, l1]
      dsimp only
      rw [bs_ (show pR S_1 h2 N 8 0 (N + 1) = some h3 by unfold pR; rw [if_pos ⟨kA2, by rw [S_1_out nA]; rfl⟩, ← hh3]), mx_0 (by omega), show nI m * (6 : Int32) = nI (6 * m) by rw [show (6 : Int32) = nI 6 from rfl, pk_mul, Nat.mul_comm], bs_ (nwA_new h3 (show 6 * m ≤ 72 by omega) (by decide)), ← hh4, l3]
      dsimp only
      rw [bs_ (show pR S_1 h4 N 8 1 (N + 2) = some h5 by unfold pR; rw [if_pos ⟨oC.1 _ _ kA3, by rw [S_1_out nA]; rfl⟩, ← hh5])]
    unfold f_X8_copied
    rw [bs_ (nwO_new h (0, 8)), ← hh1, ← hN]
    dsimp only
    rw [bs_ (gi50 h1 2), bs_ (gi50 h1 3), a1, a2, bs_ ini]
    dsimp only
    rw [bs_ (yr_50_0' h5), bs_ g0, bs_ g0, bs_ (show lnA S_1 h5 (N + 1) = some (nI c) by unfold lnA; rw [kB5]; rfl), bs_ (show cpI S_1 h5 51 (0 : Int32) (N + 1) (0 : Int32) (nI c) = some h6 from r6), bs_ (yr_50_1' h6), bs_ g1, bs_ g1, bs_ (show lnA S_1 h6 (N + 2) = some (nI (6 * m)) by unfold lnA; rw [kC6]; rfl), bs_ (show cpI S_1 h6 52 (0 : Int32) (N + 2) (0 : Int32) (nI (6 * m)) = some h7 from r7), bs_ (gi50 h7 2), v2, bs_ (show pI S_1 h7 N 8 2 (nI c) = some (stI h7 N 2 (nI c)) from if_pos kA7), bs_ (gi50 _ 3), show (stI h7 N 2 (nI c)).2.1 50 3 = nI m from (ri_p (by omega)).trans v3, bs_ (show pI S_1 (stI h7 N 2 (nI c)) N 8 3 (nI m) = some (stI (stI h7 N 2 (nI c)) N 3 (nI m)) from if_pos kA7), ← hh8]
  · rw [hh8, ri_p (by omega), ri_p (by omega), c7.n (by omega)]
    have := c6.i (j := j) hj
    rw [Nat.zero_add] at this
    rw [this, (I5 51 j (by omega)).1]
  · rw [hh8, ri_p (by omega), ri_p (by omega)]
    have := c7.i (j := j) hj
    rw [Nat.zero_add] at this
    rw [this, c6.n (by omega), (I5 52 j (by omega)).1]

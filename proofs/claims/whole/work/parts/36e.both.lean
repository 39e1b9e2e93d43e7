/-! the richest order: the other side's search as a whole, and the call -/
def cst (nm : Nat) : Nat → Nat
  | 0 => nm + 1
  | d + 1 => nm * (1 + cst nm d) + 1
def nodeB (r : Nat → Int32) (n : Nat) (f : Nat → Cl) (nb nm : Nat) : Nat → Nat → Nat → Int32 → (Nat → Nat) → BBt → BBt
  | 0, _, _, _, _, B => B
  | d + 1, c, k, w, pr, B => fo (chS r n f nb nm d c k w pr) 0 nm B
theorem dfN_n (r : Nat → Int32) (n : Nat) (f : Nat → Cl) (nb nm d c k : Nat) (w : Int32) (pr : Nat → Nat) (B : BBt) : dfN r n f nb nm d c k w pr B = nodeB r n f nb nm d c k w pr (upB B w k pr) := by
  cases d <;> rfl
theorem IM.up {h0 h : AH} {k m c1 : Nat} {tr cl : Nat → Nat} {wl wl' : Nat → Int32} {B : BBt} (i : IM h0 h (k + 1) (updN tr k m) (updN cl (k + 1) c1) wl' B) (hw : ∀ j, j ≤ k → wl' j = wl j) : IM h0 h k tr cl wl B := by
  obtain ⟨a, b, c, d, x, y, z, l⟩ := i
  refine ⟨a, fun j hj => ?_, fun j hj => ?_, fun j hj => (d j (by omega)).trans (hw j hj), x, y, z, l⟩
  · have := b j (by omega)
    rw [updN_o (by omega)] at this
    exact this
  · have := c j (by omega)
    rw [updN_o (by omega)] at this
    exact this
theorem m_fr {h0 : AH} {n nb nm : Nat} {f : Nat → Cl} (cm : CM h0 n f nb nm) (x1 : Int32) : ∀ (d k : Nat) (tr cl : Nat → Nat) (wl : Nat → Int32) (B : BBt) (h : AH) (F : Nat), k + d = nm → cst nm d ≤ F → cl k ≤ 48 → UC tr k nm → IM h0 h k tr cl wl B → h.2.1 101 k = pm 0 → ∃ h' F', F ≤ F' + cst nm d ∧ f_X11_findRichest_l38 S_1 F 80 x1 B.1 (nI k) h = f_X11_findRichest_l38 S_1 F' 80 x1 (nodeB (h0.2.1 82) n f nb nm d (cl k) k (wl k) tr B).1 (nI k + -1) h' ∧ IM h0 h' k tr cl wl (nodeB (h0.2.1 82) n f nb nm d (cl k) k (wl k) tr B) := by
  have h6 := cm.2.2.2.2.2
  intro d
  induction d with
  | zero =>
    intro k tr cl wl B h F hk hF hc uc im v1
    have ek : k = nm := by omega
    have e : ∀ (j m F : Nat) (h : AH), m + j = nm → j + 1 ≤ F → IM h0 h k tr cl wl B → h.2.1 101 k = pm m → ∃ h' F', F ≤ F' + (j + 1) ∧ f_X11_findRichest_l38 S_1 F 80 x1 B.1 (nI k) h = f_X11_findRichest_l38 S_1 F' 80 x1 B.1 (nI k + -1) h' ∧ IM h0 h' k tr cl wl B := by
      intro j
      induction j with
      | zero =>
        intro m F h hm hF im v1
        obtain ⟨F, rfl⟩ : ∃ x, F = x + 1 := ⟨F - 1, by omega⟩
        obtain ⟨h', q, i'⟩ := m_itA cm F x1 B.1 (by omega) (by omega) im v1
        exact ⟨h', F, by omega, q, i'⟩
      | succ j ih =>
        intro m F h hm hF im v1
        obtain ⟨F, rfl⟩ : ∃ x, F = x + 1 := ⟨F - 1, by omega⟩
        obtain ⟨h', q, i', v'⟩ := m_itB cm F x1 B.1 (by omega) (by omega) im v1 (by
          rw [ek] at uc ⊢
          rw [cn_full uc (by omega)]
          rfl)
        obtain ⟨h2, F2, a, b, c⟩ := ih (m + 1) F h' (by omega) (by omega) i' v'
        exact ⟨h2, F2, by omega, q.trans b, c⟩
    exact e nm 0 F h (by omega) (by unfold cst at hF; omega) im v1
  | succ d IH =>
    intro k tr cl wl B h F hk hF hc uc im v1
    generalize eX : cst nm d = X at IH
    have hF2 : nm * (1 + X) + 1 ≤ F := by
      unfold cst at hF
      rw [eX] at hF
      exact hF
    have e : ∀ (j m F : Nat) (B : BBt) (h : AH), m + j = nm → j * (1 + X) + 1 ≤ F → IM h0 h k tr cl wl B → h.2.1 101 k = pm m → ∃ h' F', F ≤ F' + (j * (1 + X) + 1) ∧ f_X11_findRichest_l38 S_1 F 80 x1 B.1 (nI k) h = f_X11_findRichest_l38 S_1 F' 80 x1 (fo (chS (h0.2.1 82) n f nb nm d (cl k) k (wl k) tr) m j B).1 (nI k + -1) h' ∧ IM h0 h' k tr cl wl (fo (chS (h0.2.1 82) n f nb nm d (cl k) k (wl k) tr) m j B) := by
      intro j
      induction j with
      | zero =>
        intro m F B h hm hF im v1
        obtain ⟨F, rfl⟩ : ∃ x, F = x + 1 := ⟨F - 1, by omega⟩
        obtain ⟨h', q, i'⟩ := m_itA cm F x1 B.1 (by omega) (by omega) im v1
        exact ⟨h', F, by omega, q, i'⟩
      | succ j ih =>
        intro m F B h hm hF im v1
        rw [Nat.succ_mul] at hF ⊢
        generalize eY : j * (1 + X) = Y at ih hF ⊢
        obtain ⟨F, rfl⟩ : ∃ x, F = x + 1 := ⟨F - 1, by omega⟩
        show ∃ h' F', _ ∧ _ = f_X11_findRichest_l38 S_1 F' 80 x1 (fo (chS (h0.2.1 82) n f nb nm d (cl k) k (wl k) tr) (m + 1) j (chS (h0.2.1 82) n f nb nm d (cl k) k (wl k) tr B m)).1 (nI k + -1) h' ∧ IM h0 h' k tr cl wl (fo (chS (h0.2.1 82) n f nb nm d (cl k) k (wl k) tr) (m + 1) j (chS (h0.2.1 82) n f nb nm d (cl k) k (wl k) tr B m))
        cases fire : (! usd tr k m && canR (h0.2.1 82) n f nb (cl k) m) with
        | false =>
          have : chS (h0.2.1 82) n f nb nm d (cl k) k (wl k) tr B m = B := if_neg (by rw [fire]; decide)
          rw [this]
          obtain ⟨h', q, i', v'⟩ := m_itB cm F x1 B.1 (by omega) (by omega) im v1 fire
          obtain ⟨h2, F2, a, b, c⟩ := ih (m + 1) F B h' (by omega) (by omega) i' v'
          exact ⟨h2, F2, by omega, q.trans b, c⟩
        | true =>
          have this : chS (h0.2.1 82) n f nb nm d (cl k) k (wl k) tr B m = dfN (h0.2.1 82) n f nb nm d (cl k + tkN (h0.2.1 82) n f (cl k) m) (k + 1) (wl k + gaR (h0.2.1 82) n f nb (cl k) m) (updN tr k m) B := if_pos fire
          rw [Bool.and_eq_true] at fire
          have us : usd tr k m = false := by
            cases e : usd tr k m with
            | false => rfl
            | true => rw [e] at fire; cases fire.1
          have c48 := (can_ok hc fire.2).2
          obtain ⟨h', q, i', v'⟩ := m_itC cm F x1 (show k < 6 by omega) (by omega) im v1 us fire.2
          obtain ⟨h2, F2, a, b, c⟩ := IH (k + 1) _ _ _ _ h' F (by omega) (by omega) (by rw [updN_s]; exact c48) (uc.add us (by omega)) i' v'
          rw [updN_s, if_pos rfl, nI_p1, ← dfN_n, ← this] at b
          rw [updN_s, if_pos rfl, ← dfN_n, ← this] at c
          have c2 : IM h0 h2 k tr cl wl _ := c.up fun j hj => if_neg (by omega)
          have v2 : h2.2.1 101 k = pm (m + 1) := by rw [(c.2.1 k (by omega)).1, updN_s, pm_s]
          obtain ⟨h3, F3, a3, b3, c3⟩ := ih (m + 1) F2 _ h2 (by omega) (by omega) c2 v2
          exact ⟨h3, F3, by omega, q.trans (b.trans b3), c3⟩
    obtain ⟨h', F', a, b, c⟩ := e nm 0 F B h (by omega) hF2 im v1
    exact ⟨h', F', by unfold cst; rw [eX]; exact a, b, c⟩
def B0 : BBt := (0, 0, fun _ => 0)
def bR (r : Nat → Int32) (n : Nat) (f : Nat → Cl) (nb nm c : Nat) : BBt := dfN r n f nb nm nm c 0 0 (fun _ => 0) B0
theorem up_0 (pr : Nat → Nat) : upB B0 0 0 pr = B0 := if_neg (by decide)
theorem cst_le : ∀ x, x < 7 → cst x x ≤ 400000 := by decide +kernel
def PF (p j : Nat) : Bool := PT p j || decide (101 ≤ p ∧ p ≤ 104 ∨ p = 80 ∧ j = 45)
theorem PF_W0 (p j : Nat) (h : PF p j = true) : PW0 p j = true := by
  unfold PF at h
  rw [Bool.or_eq_true] at h
  rcases h with h | h
  · exact PT_W0 p j h
  · have h := of_decide_eq_true h
    unfold PW0
    rw [Bool.and_eq_true]
    exact ⟨decide_eq_true (by omega), decide_eq_true (by omega)⟩
theorem m_find {h : AH} {n nb nm c : Nat} {f : Nat → Cl} (cm : CM h n f nb nm) (hc : c ≤ 48) (ec : h.2.1 82 9 = nI c) : ∃ h', f_X11_findRichest S_1 80 h = some ((bR (h.2.1 82) n f nb nm c).1, h') ∧ Eqv PW0 h h' ∧ h'.2.1 80 45 = nI (bR (h.2.1 82) n f nb nm c).2.1 ∧ (bR (h.2.1 82) n f nb nm c).2.1 ≤ 6 ∧ ∀ j, j < (bR (h.2.1 82) n f nb nm c).2.1 → h'.2.1 104 j = nI ((bR (h.2.1 82) n f nb nm c).2.2 j) := by
  have h6 := cm.2.2.2.2.2
  obtain ⟨h1, hh1⟩ : ∃ h1, h1 = stI (stI (stI (stI h 80 45 0) 101 0 (-1)) 102 0 (nI c)) 103 0 0 := ⟨_, rfl⟩
  have e1 : Eqv PB9 h h1 := by
    rw [hh1]
    exact ((((Eqv.refl h).si (PB9_1 (by omega))).si (PB9_1 (by omega))).si (PB9_1 (by omega))).si (PB9_1 (by omega))
  have im : IM h h1 0 (fun _ => 0) (fun _ => c) (fun _ => 0) B0 := by
    refine ⟨e1, fun j hj => by omega, fun j hj => ?_, fun j hj => ?_, ?_, by show 0 ≤ 6; omega, fun j hj => ?_, by rw [hh1]; rfl⟩
    · have : j = 0 := by omega
      rw [this, hh1, ri_p (by decide), stI_s]
    · have : j = 0 := by omega
      rw [this, hh1, stI_s]
    · rw [hh1, ri_p (by decide), ri_p (by decide), ri_p (by decide), stI_s]
      rfl
    · have hj : j < 0 := hj
      omega
  have v1 : h1.2.1 101 0 = pm 0 := by
    rw [hh1, ri_p (by decide), ri_p (by decide), stI_s, pm_0]
  have cl := cst_le nm (by omega)
  obtain ⟨h2, F2, a, b, i2⟩ := m_fr cm (nI c) nm 0 (fun _ => 0) (fun _ => c) (fun _ => 0) B0 h1 FU (by omega) (by unfold FU; omega) hc (UC.zero _ _) im v1
  have eB : nodeB (h.2.1 82) n f nb nm nm c 0 0 (fun _ => 0) B0 = bR (h.2.1 82) n f nb nm c := by
    unfold bR
    rw [dfN_n, up_0]
  rw [eB] at b i2
  obtain ⟨F3, rfl⟩ : ∃ x, F2 = x + 1 := ⟨F2 - 1, by unfold FU at a; omega⟩
  have b2 : f_X11_findRichest_l38 S_1 FU 80 (nI c) 0 (nI 0) h1 = some ((80, nI c, (bR (h.2.1 82) n f nb nm c).1), h2) := by
    rw [show (0 : Int32) = B0.1 from rfl, b, f_X11_findRichest_l38]
    unfold f_X11_findRichest_l38b
    rw [if_pos (by decide)]
  obtain ⟨j1, j2, j3, j4, j5, j6, j7, j8⟩ := i2
  refine ⟨stI h2 82 9 (nI c), ?_, ?_, (ri_p (by decide)).trans j5, j6, fun j hj => (ri_p (by decide)).trans (j7 j hj)⟩
  · unfold f_X11_findRichest
    rw [bs_ (yr_80_3 h), bs_ (a82_9 h), ec, bs_ (show pI S_1 h 80 11 45 (0 : Int32) = some (stI h 80 45 0) from rfl), bs_ (yr_80_41 _), bs_ (show sI S_1 _ 101 (0 : Int32) (-1 : Int32) = some (stI _ 101 0 (-1)) from si_101 _ (j := 0) _ (by decide)), bs_ (yr_80_42 _), bs_ (show sI S_1 _ 102 (0 : Int32) (nI c) = some (stI _ 102 0 (nI c)) from si_102 _ (j := 0) _ (by decide)), bs_ (yr_80_43 _), bs_ (show sI S_1 _ 103 (0 : Int32) (0 : Int32) = some (stI _ 103 0 0) from si_103 _ (j := 0) _ (by decide)), ← hh1, bs_ (show f_X11_findRichest_l38 S_1 FU 80 (nI c) (0 : Int32) (0 : Int32) h1 = _ from b2)]
    dsimp only
    rw [bs_ (yr_80_3 h2), bs_ (s82_9 h2 _)]
  · refine Eqv.mono PF_W0 ⟨j1.1, fun p j hp => ?_, fun p j hp => ?_, j1.r⟩
    · by_cases e : p = 82 ∧ j = 9
      · rw [e.1, e.2, stI_s, ec]
      · have z : PB9 p j = false := by
          unfold PF at hp
          unfold PB9
          rw [Bool.or_eq_false_iff] at hp ⊢
          exact ⟨hp.1, decide_eq_false (by have := of_decide_eq_false hp.2; omega)⟩
        refine Eq.trans ?_ (j1.i p j z)
        by_cases e2 : p = 82
        · subst e2
          exact ri_k (fun z => e ⟨rfl, z⟩)
        · exact ri_p e2
    · by_cases e : p = 82 ∧ j = 9
      · rw [e.1, e.2]
        exact congrFun j8 9
      · have z : PB9 p j = false := by
          unfold PF at hp
          unfold PB9
          rw [Bool.or_eq_false_iff] at hp ⊢
          exact ⟨hp.1, decide_eq_false (by have := of_decide_eq_false hp.2; omega)⟩
        exact j1.l p j z
def riV (B : BBt) (x : Int32) : Int32 := if x = -1 then B.1 else if x < 0 then -1 else if nI B.2.1 ≤ x then -1 else nI (B.2.2 x.toNatClampNeg)
theorem m_richest {h : AH} {n nb nm c : Nat} {f : Nat → Cl} (cm : CM h n f nb nm) (hc : c ≤ 48) (ec : h.2.1 82 9 = nI c) (x : Int32) : Qy PW0 h (f_X11_richest S_1 80 x h) (riV (bR (h.2.1 82) n f nb nm c) x) := by
  obtain ⟨h0, hh0⟩ : ∃ h0, h0 = stI h 80 0 0 := ⟨_, rfl⟩
  have r0 : h0.2.1 82 = h.2.1 82 := by rw [hh0]; exact funext fun j => ri_p (by decide)
  have c0 : CM h0 n f nb nm := cm.z r0 (by rw [hh0]; exact ri_k (by decide))
  have E0 : Eqv PW0 h h0 := by rw [hh0]; exact (Eqv.refl h).si rfl
  obtain ⟨h1, q1, e1, v45, l6, v104⟩ := m_find c0 hc (by rw [r0]; exact ec)
  rw [r0] at q1 v45 l6 v104
  have E1 := E0.trans e1
  have i1 : (-1 : Int32).toInt = -1 := by decide
  have i0 : (0 : Int32).toInt = 0 := by decide
  unfold f_X11_richest riV
  rw [bs_ (show pI S_1 h 80 11 0 (0 : Int32) = some (stI h 80 0 0) from rfl), ← hh0]
  by_cases cx : (-1 : Int32) ≤ x
  · rw [if_pos cx, bs_ (ck_80 h0), bs_ q1]
    dsimp only
    by_cases c1 : x = -1
    · rw [if_pos c1, if_pos c1]; exact Qy.ret E1
    · have cn : ¬ x < 0 := fun z => by
        have a1 := Int32.lt_iff_toInt_lt.mp z
        have a2 := Int32.le_iff_toInt_le.mp cx
        have a3 : x.toInt ≠ -1 := fun z => c1 (Int32.toInt_inj.mp (z.trans i1.symm))
        omega
      obtain ⟨j, hj, rfl⟩ := nI_of cn
      rw [if_neg c1, if_neg c1, if_neg cn, bs_ (show gI S_1 h1 80 11 45 = some (h1.2.1 80 45) from rfl), v45]
      by_cases c3 : nI (bR (h.2.1 82) n f nb nm c).2.1 ≤ nI j
      · rw [if_pos c3, if_pos c3]; exact Qy.ret E1
      · rw [if_neg c3, if_neg c3, nI_clamp hj]
        rw [nn_le (by omega) hj] at c3
        rw [bs_ (yr_80_44 h1), bs_ (ai_104 h1 (by omega)), v104 j (by omega)]
        exact Qy.ret E1
  · have c1 : ¬ x = -1 := fun z => cx (by rw [z]; exact Int32.le_refl _)
    have cn : x < 0 := by
      have a2 := mt Int32.le_iff_toInt_le.mpr cx
      rw [Int32.lt_iff_toInt_lt]
      omega
    rw [if_neg cx, if_neg c1, if_pos cn]
    exact Qy.ret E0
theorem q_bestBegin {h : AH} {r : Nat → Int32} {p n nb nm : Nat} {f : Nat → Cl} (ct : Ct h 3 r p n f nb nm) : ∃ h', f_X0_begin S_1 38 3 h = some ((), h') ∧ GI h r n f nb nm h' ∧ GB h' B0 := by
  obtain ⟨h1, q1, e1, s1⟩ := q_become (a := 39) (b := 3) ⟨rfl, rfl, rfl, fun _ => rfl, fun _ => rfl⟩ SdP_3 (by omega) h
  have s39 := s1 r ct.2.1
  have e1' : Eqv PGo h h1 := e1.mono fun p j z => by
    have z := of_decide_eq_true z
    unfold PGo PSt
    rw [show decide (p = 39 ∧ (j = 2 ∨ j = 3) ∨ p = 39 + 1 ∨ p = 39 + 2) = true from decide_eq_true (by omega), Bool.or_true, Bool.true_or]
  have e : ∀ (t i fu : Nat) (g : AH), i + t = 294 → t < fu → Eqv PGo h g → (∀ p j, 39 ≤ p → p ≤ 41 → g.2.1 p j = h1.2.1 p j) → (∀ j, j < i → g.2.1 42 j = 0) → ∃ g', f_X0_begin_l10 S_1 fu 38 (nI i) g = some (38, g') ∧ Eqv PGo h g' ∧ (∀ p j, 39 ≤ p → p ≤ 41 → g'.2.1 p j = h1.2.1 p j) ∧ ∀ j, j < 294 → g'.2.1 42 j = 0 := by
    intro t
    induction t with
    | zero =>
      intro i fu g hi hf eg kg zg
      obtain ⟨fu, rfl⟩ : ∃ x, fu = x + 1 := ⟨fu - 1, by omega⟩
      rw [f_X0_begin_l10]
      unfold f_X0_begin_l10b
      rw [bs_ (yr_38_2 g), bs_ (ln_42 g), if_pos (by rw [nn_le (by decide) (by omega)]; omega)]
      exact ⟨g, rfl, eg, kg, fun j hj => zg j (by omega)⟩
    | succ t ih =>
      intro i fu g hi hf eg kg zg
      obtain ⟨fu, rfl⟩ : ∃ x, fu = x + 1 := ⟨fu - 1, by omega⟩
      rw [f_X0_begin_l10]
      unfold f_X0_begin_l10b
      rw [bs_ (yr_38_2 g), bs_ (ln_42 g), if_neg (by rw [nn_le (by decide) (by omega)]; omega), bs_ (yr_38_2 g), bs_ (si_42 g _ (by omega)), lt_e, nI_1]
      refine ih (i + 1) fu _ (by omega) (by omega) (eg.si (PGo_1 (by omega))) (fun p j h1 h2 => (ri_p (by omega)).trans (kg p j h1 h2)) fun j hj => ?_
      by_cases c : j = i
      · rw [c, stI_s]
      · rw [ri_k c]
        exact zg j (by omega)
  obtain ⟨h2, q2, e2, k2, z2⟩ := e 294 0 FU h1 (by omega) (by unfold FU; omega) e1' (fun p j _ _ => rfl) fun j hj => by omega
  refine ⟨stI (stI h2 38 5 0) 38 6 0, ?_, ⟨(e2.si (PGo_1 (by omega))).si (PGo_1 (by omega)), ⟨r, ?_, fun j _ _ => rfl⟩, fun c m hc hm => Or.inl ?_⟩, stI_s _ _ _ _, (ri_k (by decide)).trans (stI_s _ _ _ _), by show 0 ≤ 6; omega, fun j hj => ?_⟩
  · unfold f_X0_begin
    rw [bs_ (yr_38_1 h), bs_ (show ckO S_1 h 39 7 = some () from rfl), bs_ q1]
    dsimp only
    rw [bs_ (show f_X0_begin_l10 S_1 FU 38 (0 : Int32) h1 = _ from q2)]
    dsimp only
    rw [bs_ (xi_38 h2 5 _), bs_ (xi_38 _ 6 _)]
  · exact s39.rows (funext fun j => (ri_p (by decide)).trans ((ri_p (by decide)).trans (k2 _ _ (by omega) (by omega)))) (funext fun j => (ri_p (by decide)).trans ((ri_p (by decide)).trans (k2 _ _ (by omega) (by omega)))) (funext fun j => (ri_p (by decide)).trans ((ri_p (by decide)).trans (k2 _ _ (by omega) (by omega))))
  · have h6 := ct.2.2.2.2.2.2.2.2
    rw [ri_p (by decide), ri_p (by decide)]
    exact z2 _ (by omega)
  · have hj : j < 0 := hj
    omega
theorem q_richest {h : AH} {r : Nat → Int32} {p n nb nm c : Nat} {f : Nat → Cl} (ct : Ct h 3 r p n f nb nm) (hcl : ∀ m, m < nm → 1 ≤ r (72 + m) ∧ r (72 + m) ≤ 9) (hc : c ≤ 48) (ec : r 9 = nI c) (x : Int32) : Qy PW0 h (f_X10_richest S_1 0 x h) (riV (bR r n f nb nm c) x) := by
  have h6 := ct.2.2.2.2.2.2.2.2
  obtain ⟨h1, q1, g1, b1⟩ := q_bestBegin ct
  have c1 : Ct h1 3 r p n f nb nm := by
    refine ct.mv (Or.inl rfl) g1.1 PGo_o (ct.2.1.rows ?_ ?_ ?_) (Ag.refl r)
    · exact g1.1.row fun j => by
        unfold PGo PSt
        rw [PX_no (by omega)]
        exact (Bool.or_eq_false_iff.mpr ⟨Bool.or_eq_false_iff.mpr ⟨rfl, decide_eq_false (by omega)⟩, decide_eq_false (by omega)⟩)
    · exact g1.1.row fun j => by
        unfold PGo PSt
        rw [PX_no (by omega)]
        exact (Bool.or_eq_false_iff.mpr ⟨Bool.or_eq_false_iff.mpr ⟨rfl, decide_eq_false (by omega)⟩, decide_eq_false (by omega)⟩)
    · exact g1.1.row fun j => by
        unfold PGo PSt
        rw [PX_no (by omega)]
        exact (Bool.or_eq_false_iff.mpr ⟨Bool.or_eq_false_iff.mpr ⟨rfl, decide_eq_false (by omega)⟩, decide_eq_false (by omega)⟩)
  have m1 := q_moved h1 (Or.inl rfl) c1.2.1 c1.2.2.1 c1.2.2.2.2.2.2.2.1 h6
  have lf : bits nm (fun m => decide (r (17 + m) = 1)) = lfB r nm (fun _ => 0) 0 := bits_congr fun k hk => by
    show _ = (decide (r (17 + k) = 1) && ! false)
    rw [Bool.not_false, Bool.and_true]
  rw [lf] at m1
  obtain ⟨h2, q2, g2, b2, r2⟩ := q_go ct hcl nm 10 c 0 0 (fun _ => 0) B0 h1 (by omega) hc (by omega) (UC.zero _ _) g1 b1 fun j hj => by omega
  have E2 : Eqv PW0 h h2 := g2.1.mono PGo_W0
  have i0 : (0 : Int32).toInt = 0 := by decide
  unfold f_X10_richest riV
  rw [bs_ (show gR S_1 h 0 10 11 = some 38 from rfl), bs_ (yr_0_2 h), bs_ (yr_2_0 h), bs_ (show ckO S_1 h 38 0 = some () from rfl), bs_ q1]
  dsimp only
  rw [bs_ (show gR S_1 h1 0 10 11 = some 38 from rfl), bs_ (yr_0_2 h1), bs_ (yr_2_0 h1), bs_ (show gI S_1 h1 3 7 2 = some (h1.2.1 3 2) from rfl), show h1.2.1 3 2 = nI c from c1.2.1.2.2.1.trans ec, bs_ (yr_0_10 h1), bs_ (yr_0_2 h1), bs_ (yr_2_0 h1), bs_ (ck_35 h1), bs_ m1]
  dsimp only
  rw [bs_ (show ckO S_1 h1 38 0 = some () from rfl), bs_ (show f_Go S_1 10 38 (nI c) (0 : Int32) (0 : Int32) (lfB r nm (fun _ => 0) 0) h1 = _ from q2)]
  dsimp only
  replace b2 : GB h2 (bR r n f nb nm c) := b2
  by_cases c1 : x = -1
  · rw [if_pos c1, if_pos c1, bs_ (show gR S_1 h2 0 10 11 = some 38 from rfl), bs_ (yi_38 h2 6), b2.1]
    exact Qy.ret E2
  · rw [if_neg c1, if_neg c1]
    by_cases cn : x < 0
    · rw [if_pos cn, if_pos cn]; exact Qy.ret E2
    · obtain ⟨j, hj, rfl⟩ := nI_of cn
      have l6 := b2.2.2.1
      rw [if_neg cn, if_neg cn, bs_ (show gR S_1 h2 0 10 11 = some 38 from rfl), bs_ (yi_38 h2 5), b2.2.1]
      by_cases c3 : nI (bR r n f nb nm c).2.1 ≤ nI j
      · rw [if_pos c3, if_pos c3]; exact Qy.ret E2
      · rw [if_neg c3, if_neg c3, nI_clamp hj]
        rw [nn_le (by omega) hj] at c3
        rw [if_neg (by rw [show (6 : Int32) = nI 6 from rfl, nn_le (by decide) hj]; omega), bs_ (show gR S_1 h2 0 10 11 = some 38 from rfl), bs_ (yr_38_4 h2), bs_ (ai_44 h2 (by omega)), b2.2.2.2 j (by omega)]
        exact Qy.ret E2
theorem bo_richest {h : AH} (k : Rel h) (x : Int32) : Bo h (f_X10_richest S_1 0 x) (f_X11_richest S_1 80 x) := by
  obtain ⟨st, nb, nm, nh, nl, k0⟩ := id k
  obtain ⟨p, n, f, ct, cm⟩ := k0.law
  obtain ⟨c, hc, ec⟩ := rg_nI (n := 48) (by decide) k0.2.1.2.1
  have hcl := k0.1.2.2.2.2.2.2.2.2.1
  refine both_q (v := riV (bR (h.2.1 82) n f nb nm c) x) k (q_richest ct (fun m hm => hcl m hm) hc ec x) (fun h2 e2 => ?_)
  have q := m_richest (cm.w e2) hc (by rw [e2.w82]; exact ec) x
  rw [e2.w82] at q
  exact q

/-! the reference: what is done -/
def CM (h : AH) (n : Nat) (f : Nat → Cl) (nb nm : Nat) : Prop := InM h n f ∧ h.2.1 80 20 = 0 ∧ h.2.1 82 0 = nI nb ∧ nb ≤ 7 ∧ h.2.1 82 1 = nI nm ∧ nm ≤ 6
theorem CM.t {h h' : AH} {n nb nm : Nat} {f : Nat → Cl} (k : CM h n f nb nm) (e : Eqv PT h h') : CM h' n f nb nm := by
  obtain ⟨k1, k2, k3, k4, k5, k6⟩ := k
  refine ⟨k1.t e, (e.i _ _ PT_20).trans k2, ?_, k4, ?_, k6⟩
  · rw [row_t e]; exact k3
  · rw [row_t e]; exact k5
theorem fst_snoc (g : Nat → Bool) : ∀ (m k : Nat), k + m < 2 ^ 31 → fst g k (m + 1) = if fst g k m = -1 then (if g (k + m) then nI (k + m) else -1) else fst g k m
  | 0, k, _ => by
    show (if g k then nI k else -1) = if (-1 : Int32) = -1 then (if g (k + 0) then nI (k + 0) else -1) else -1
    rw [if_pos rfl]
    rfl
  | m + 1, k, h => by
    show (if g k then nI k else fst g (k + 1) (m + 1)) = if (if g k then nI k else fst g (k + 1) m) = -1 then (if g (k + (m + 1)) then nI (k + (m + 1)) else -1) else (if g k then nI k else fst g (k + 1) m)
    cases e : g k with
    | true =>
      have nk : ¬ nI k = -1 := by rw [nl_m1 (by omega)]; exact id
      simp [nk]
    | false =>
      have := fst_snoc g m (k + 1) (by omega)
      simp only [Bool.false_eq_true, if_false]
      rw [this, show k + 1 + m = k + (m + 1) by omega]
theorem m_seconder {h : AH} {n nb nm : Nat} {f : Nat → Cl} (k : CM h n f nb nm) {m b : Nat} (hm : m < 6) (hb : b < 7) : Qy PT h (f_X11_seconder S_1 80 (nI m) (nI b) h) (secS (h.2.1 82) n f nb m b) := by
  have h7 := k.2.2.2.1
  have e : ∀ (t fu : Nat) (a : Int32) (h1 : AH), Eqv PT h h1 → t ≤ nb → t < fu → Qy PT h (f_X11_seconder_l12 S_1 fu 80 (nI m) (nI b) a (nI t - 1) h1) (if fst (fun o => heS (h.2.1 82) o b && ayS (h.2.1 82) n f o m) 0 t = -1 then a else fst (fun o => heS (h.2.1 82) o b && ayS (h.2.1 82) n f o m) 0 t) := by
    intro t
    induction t with
    | zero =>
      intro fu a h1 e1 hk hf
      obtain ⟨fu, rfl⟩ : ∃ x, fu = x + 1 := ⟨fu - 1, by omega⟩
      rw [f_X11_seconder_l12]
      unfold f_X11_seconder_l12b
      rw [if_pos (by decide)]
      exact Qy.cast (if_pos rfl).symm (Qy.ret e1)
    | succ t ih =>
      intro fu a h1 e1 hk hf
      obtain ⟨fu, rfl⟩ : ∃ x, fu = x + 1 := ⟨fu - 1, by omega⟩
      have k1 := k.t e1
      rw [f_X11_seconder_l12, nI_m1]
      unfold f_X11_seconder_l12b
      rw [if_neg (show ¬ nI t < 0 by rw [z_lt (by omega)]; exact id), bs_ (ck_80 h1), bs_ (m_hears h1 (b := t) (o := b) (by omega) hb), row_t e1]
      dsimp only
      rw [fst_snoc _ _ _ (by omega), Nat.zero_add]
      have nt : ¬ nI t = -1 := by rw [nl_m1 (by omega)]; exact id
      cases eh : heS (h.2.1 82) t b with
      | false =>
        rw [if_pos (show bI false = 0 from rfl), lt_e, ← Int32.sub_eq_add_neg]
        refine Qy.cast ?_ (ih fu a h1 e1 (by omega) (by omega))
        simp only [Bool.false_and, Bool.false_eq_true, if_false]
        split <;> simp_all
      | true =>
        obtain ⟨h2, r2, e2⟩ := m_isAye (b := t) (m := m) (by omega) hm h1 k1.1 k1.2.1
        rw [if_neg (show ¬ bI true = 0 by decide), bs_ (ck_80 h1), bs_ r2, row_t e1]
        dsimp only
        cases ea : ayS (h.2.1 82) n f t m with
        | false =>
          rw [if_pos (show bI false = 0 from rfl), lt_e, ← Int32.sub_eq_add_neg]
          refine Qy.cast ?_ (ih fu a h2 (e1.trans e2) (by omega) (by omega))
          simp only [Bool.and_false, Bool.false_eq_true, if_false]
          split <;> simp_all
        | true =>
          rw [if_neg (show ¬ bI true = 0 by decide), lt_e, ← Int32.sub_eq_add_neg]
          refine Qy.cast ?_ (ih fu (nI t) h2 (e1.trans e2) (by omega) (by omega))
          simp only [Bool.and_self, if_true]
          split <;> simp_all
  unfold f_X11_seconder
  obtain ⟨h', r1, e1⟩ := e nb FU (-1) h (Eqv.refl h) (Nat.le_refl _) (by unfold FU; omega)
  rw [bs_ (yr_80_3 h), aI_0, bs_ (ai_82 h (by decide)), k.2.2.1, lt_e, bs_ r1]
  refine Qy.cast ?_ (Qy.ret e1)
  unfold secS
  split <;> simp_all
theorem m_canMove {h : AH} {n nb nm : Nat} {f : Nat → Cl} (k : CM h n f nb nm) {m b : Nat} (hm : m < 6) (hb : b < 7) : Qy PT h (f_X11_canMove S_1 80 (nI m) (nI b) h) (bI (mvC (h.2.1 82) n f nb m b)) := by
  unfold f_X11_canMove mvC
  rw [bs_ (yr_80_3 h), show (17 : Int32) + nI m = nI (17 + m) from nI_add 17 m, bs_ (ai_82 h (by omega))]
  by_cases e0 : h.2.1 82 (17 + m) = 0
  · rw [if_pos e0, bs_ (ck_80 h)]
    obtain ⟨h1, r1, e1⟩ := m_sits hb hm h k.1 k.2.1
    rw [bs_ r1]
    dsimp only
    cases es : siS (h.2.1 82) n f b m with
    | false =>
      rw [if_pos (show bI false = 0 from rfl)]
      simp only [Bool.false_and, Bool.and_false]
      exact Qy.ret e1
    | true =>
      obtain ⟨h2, r2, e2⟩ := m_seconder (k.t e1) hm hb
      rw [row_t e1] at r2
      rw [if_neg (show ¬ bI true = 0 by decide), bs_ (ck_80 h1), bs_ r2]
      dsimp only
      by_cases en : secS (h.2.1 82) n f nb m b = -1
      · rw [if_pos en]
        simp only [en, ne_eq, not_true_eq_false, decide_false, Bool.and_false]
        exact Qy.ret (e1.trans e2)
      · rw [if_neg en]
        simp only [en, e0, ne_eq, not_false_eq_true, decide_true, Bool.and_true]
        exact Qy.ret (e1.trans e2)
  · rw [if_neg e0]
    simp only [e0, decide_false, Bool.false_and]
    exact Qy.ret (Eqv.refl h)
/-- what is remembered of what was done -/
def UPush (h h' : AH) (z s : Nat) : Prop := ∃ d, d ≤ 1 ∧ z - d ≤ 15 ∧ d ≤ z ∧ (z < 16 → d = 0) ∧ h'.2.1 80 8 = nI (z - d + 1) ∧ (∀ i j, i < z - d → j < 18 → h'.2.1 85 (18 * i + j) = h.2.1 85 (18 * (i + d) + j)) ∧ (∀ i, i < z - d → h'.2.1 86 i = h.2.1 86 (i + d)) ∧ (∀ j, j < 18 → h'.2.1 85 (18 * (z - d) + j) = h.2.1 82 (5 + j)) ∧ h'.2.1 86 (z - d) = nI s
def PD (p j : Nat) : Bool := PT p j || (PR p j || decide (p = 82 ∧ j < 90))
theorem PT_D (p j : Nat) (h : PT p j = true) : PD p j = true := by unfold PD; rw [h]; rfl
theorem PR_D (p j : Nat) (h : PR p j = true) : PD p j = true := by unfold PD; rw [h]; simp
theorem PD_82 {j : Nat} (hj : j < 90) : PD 82 j = true := by
  unfold PD
  rw [show decide (82 = 82 ∧ j < 90) = true from decide_eq_true ⟨rfl, hj⟩, Bool.or_true, Bool.or_true]
theorem PT_85 (j : Nat) : PT 85 j = false := by simp [PT]
theorem PT_86 (j : Nat) : PT 86 j = false := by simp [PT]
theorem PT_8 : PT 80 8 = false := by decide
theorem PR_82 (j : Nat) : PR 82 j = false := by simp [PR]
theorem PR_20 : PR 80 20 = false := by decide
theorem UPush.l {h0 h h' : AH} {z s : Nat} (e : Eqv PT h0 h) (k : UPush h h' z s) : UPush h0 h' z s := by
  unfold UPush at k ⊢
  rw [← e.row PT_85, ← e.row PT_86, ← row_t e]
  exact k
theorem UPush.r {h h' h2 : AH} {z s : Nat} (k : UPush h h' z s) (e : h2.2.1 85 = h'.2.1 85) (e2 : h2.2.1 86 = h'.2.1 86) (e3 : h2.2.1 80 8 = h'.2.1 80 8) : UPush h h2 z s := by
  unfold UPush at k ⊢
  rw [e, e2, e3]
  exact k
theorem CM.r {h h' : AH} {n nb nm : Nat} {f : Nat → Cl} (k : CM h n f nb nm) (e : Eqv PR h h') : CM h' n f nb nm := by
  obtain ⟨k1, k2, k3, k4, k5, k6⟩ := k
  have er := e.row PR_82
  refine ⟨?_, (e.i _ _ PR_20).trans k2, ?_, k4, ?_, k6⟩
  · unfold InM
    rw [er]
    rcases k1 with H | ⟨i, hi, h4, H⟩
    · exact Or.inl H
    · exact Or.inr ⟨i, hi, h4, H.t er⟩
  · rw [er]; exact k3
  · rw [er]; exact k5
theorem u2_rset (h : AH) (j : Nat) (v : Int32) : (stI h 82 j v).2.1 82 = rset (h.2.1 82) j v := by
  funext i
  by_cases e : i = j
  · rw [e, stI_s, rset_s]
  · rw [ri_k e, rset_n _ _ e]
def mvD (r : Nat → Int32) (n : Nat) (f : Nat → Cl) (nb nm : Nat) (x y : Int32) : Bool := inb x nm && inb y nb && mvC r n f nb x.toNatClampNeg y.toNatClampNeg
theorem m_moveNow {h : AH} {n nb nm z : Nat} {f : Nat → Cl} (k : CM h n f nb nm) (hz : z ≤ 16) (h8 : h.2.1 80 8 = nI z) (x y : Int32) : ∃ h', f_X11_moveNow S_1 80 x y h = some (mvV (h.2.1 82) n f nb nm x y, h') ∧ Eqv PD h h' ∧ h'.2.1 82 = mvN (h.2.1 82) n f nb nm x y ∧ (mvD (h.2.1 82) n f nb nm x y = true → UPush h h' z 0) ∧ (mvD (h.2.1 82) n f nb nm x y = false → Eqv PT h h') := by
  have h7 := k.2.2.2.1
  have h6 := k.2.2.2.2.2
  unfold f_X11_moveNow mvV mvN mvD
  rw [bs_ (ck_80 h), bs_ (m_isMatter h x k.2.2.2.2.1 (by omega)), show decide (0 ≤ x ∧ x < nI nm) = inb x nm from rfl]
  dsimp only
  cases ex : inb x nm with
  | false =>
    rw [if_pos (show bI false = 0 from rfl)]
    exact ⟨h, rfl, Eqv.refl h, rfl, fun e => (by cases e), fun _ => Eqv.refl h⟩
  | true =>
    rw [if_neg (show ¬ bI true = 0 by decide), bs_ (ck_80 h), bs_ (m_isBird h y k.2.2.1 h7), show decide (0 ≤ y ∧ y < nI nb) = inb y nb from rfl]
    dsimp only
    cases ey : inb y nb with
    | false =>
      rw [if_pos (show bI false = 0 from rfl)]
      exact ⟨h, rfl, Eqv.refl h, rfl, fun e => (by cases e), fun _ => Eqv.refl h⟩
    | true =>
      obtain ⟨m, hm, rfl⟩ := inb_of (by omega) ex
      obtain ⟨b, hb, rfl⟩ := inb_of h7 ey
      simp only [tn_n (show m < 2 ^ 31 by omega), tn_n (show b < 2 ^ 31 by omega), Bool.and_self, Bool.true_and, if_true]
      obtain ⟨h1, r1, e1⟩ := m_canMove k (m := m) (b := b) (by omega) (by omega)
      rw [if_neg (show ¬ bI true = 0 by decide), bs_ (ck_80 h), bs_ r1]
      dsimp only
      cases ec : mvC (h.2.1 82) n f nb m b with
      | false =>
        rw [if_pos (show bI false = 0 from rfl)]
        exact ⟨h1, rfl, e1.mono PT_D, row_t e1, fun e => (by cases e), fun _ => e1⟩
      | true =>
        obtain ⟨h2, r2, e2⟩ := m_seconder (k.t e1) (m := m) (b := b) (by omega) (by omega)
        rw [row_t e1] at r2
        rw [if_neg (show ¬ bI true = 0 by decide), bs_ (ck_80 h1), bs_ r2]
        dsimp only
        have E2 := e1.trans e2
        obtain ⟨h3, d, r3, e3, f1⟩ := m_remember (s := 0) h2 hz ((E2.i _ _ PT_8).trans h8)
        rw [bs_ (ck_80 h2), bs_ (show f_X11_remember S_1 80 (0 : Int32) h2 = some ((), h3) from r3)]
        dsimp only
        rw [bs_ (yr_80_3 h3), show (17 : Int32) + nI m = nI (17 + m) from nI_add 17 m, bs_ (si_82 h3 _ (by omega))]
        refine ⟨_, rfl, ((E2.mono PT_D).trans (e3.mono PR_D)).si (PD_82 (by omega)), ?_, fun _ => ?_, fun e => (by cases e)⟩
        · rw [u2_rset, e3.row PR_82, row_t E2]
          rfl
        · exact (UPush.l E2 ⟨d, f1⟩).r rfl rfl rfl
def dvD (r : Nat → Int32) (n : Nat) (f : Nat → Cl) (nb nm : Nat) (x : Int32) : Bool := inb x nm && cdS r n f nb x.toNatClampNeg
theorem m_divideIt {h : AH} {n nb nm : Nat} {f : Nat → Cl} (k : CM h n f nb nm) {m : Nat} (hm : m < 6) : ∃ h', f_X11_divideIt S_1 80 (nI m) h = some ((), h') ∧ h'.2.1 82 = dvR (h.2.1 82) n f nb m ∧ ∃ h1, Eqv PT h h1 ∧ Eqv (fun p j => decide (p = 82 ∧ j < 90)) h1 h' := by
  unfold f_X11_divideIt dvR
  obtain ⟨h1, r1, e1⟩ := m_takesOf hm h k.1 k.2.1
  have k1 := k.t e1
  obtain ⟨h2, r2, e2⟩ := m_sitting hm h1 k1.1 k1.2.1 k1.2.2.1 k1.2.2.2.1
  have k2 := k1.t e2
  obtain ⟨h3, r3, e3⟩ := m_ayes hm h2 k2.1 k2.2.1 k2.2.2.1 k2.2.2.2.1
  rw [row_t e1] at r2
  rw [row_t e2, row_t e1] at r3
  have E3 := (e1.trans e2).trans e3
  rw [bs_ (ck_80 h), bs_ r1]
  dsimp only
  rw [bs_ (yr_80_3 h1), bs_ (ck_80 h1), bs_ (show f_X11_sitting S_1 80 (nI m) h1 = some (setS (h.2.1 82) n f nb m, h2) from r2)]
  dsimp only
  rw [bs_ (ck_80 h2), bs_ (show f_X11_ayes S_1 80 (nI m) h2 = some (setA (h.2.1 82) n f nb m, h3) from r3)]
  dsimp only
  rw [bs_ (ck_80 h3), bs_ (m_carries h3 _ _), row_t E3]
  dsimp only
  have fin : ∀ v : Int32, v = (if caS (h.2.1 82) (setS (h.2.1 82) n f nb m) (setA (h.2.1 82) n f nb m) then 2 else 3) → ∃ h', ((sI S_1 h3 82 ((17 : Int32) + nI m) v).bind fun h_16 => (gR S_1 h_16 80 11 3).bind fun p_18 => (aI S_1 h_16 p_18 (9 : Int32)).bind fun v_20 => (sI S_1 h_16 p_18 (9 : Int32) (v_20 + taS (h.2.1 82) n f m)).bind fun h_22 => some ((), h_22)) = some ((), h') ∧ h'.2.1 82 = rset (rset (h.2.1 82) (17 + m) (if caS (h.2.1 82) (setS (h.2.1 82) n f nb m) (setA (h.2.1 82) n f nb m) then 2 else 3)) 9 (h.2.1 82 9 + taS (h.2.1 82) n f m) ∧ ∃ h1, Eqv PT h h1 ∧ Eqv (fun p j => decide (p = 82 ∧ j < 90)) h1 h' := fun v hv => by
    rw [show (17 : Int32) + nI m = nI (17 + m) from nI_add 17 m, bs_ (si_82 h3 _ (by omega)), bs_ (yr_80_3 _), bs_ (show aI S_1 (stI h3 82 (17 + m) v) 82 (9 : Int32) = some ((stI h3 82 (17 + m) v).2.1 82 9) from ai_82 _ (j := 9) (by decide)), ri_k (by omega), row_t E3, bs_ (show sI S_1 (stI h3 82 (17 + m) v) 82 (9 : Int32) (h.2.1 82 9 + taS (h.2.1 82) n f m) = some (stI (stI h3 82 (17 + m) v) 82 9 (h.2.1 82 9 + taS (h.2.1 82) n f m)) from si_82 _ (j := 9) _ (by decide))]
    refine ⟨_, rfl, ?_, h3, E3, ((Eqv.refl h3).si (decide_eq_true (by omega))).si (decide_eq_true (by omega))⟩
    rw [u2_rset, u2_rset, row_t E3, hv]
  cases ec : caS (h.2.1 82) (setS (h.2.1 82) n f nb m) (setA (h.2.1 82) n f nb m) with
  | false =>
    rw [ec] at fin
    rw [if_pos (show bI false = 0 from rfl)]
    exact fin 3 rfl
  | true =>
    rw [ec] at fin
    rw [if_neg (show ¬ bI true = 0 by decide)]
    exact fin 2 rfl
theorem m_divideNow {h : AH} {n nb nm z : Nat} {f : Nat → Cl} (k : CM h n f nb nm) (hz : z ≤ 16) (h8 : h.2.1 80 8 = nI z) (x : Int32) : ∃ h', f_X11_divideNow S_1 80 x h = some (dvV (h.2.1 82) n f nb nm x, h') ∧ Eqv PD h h' ∧ h'.2.1 82 = dvN (h.2.1 82) n f nb nm x ∧ (dvD (h.2.1 82) n f nb nm x = true → UPush h h' z 1) ∧ (dvD (h.2.1 82) n f nb nm x = false → Eqv PT h h') := by
  have h7 := k.2.2.2.1
  have h6 := k.2.2.2.2.2
  unfold f_X11_divideNow dvV dvN dvD
  rw [bs_ (ck_80 h), bs_ (m_isMatter h x k.2.2.2.2.1 (by omega)), show decide (0 ≤ x ∧ x < nI nm) = inb x nm from rfl]
  dsimp only
  cases ex : inb x nm with
  | false =>
    rw [if_pos (show bI false = 0 from rfl)]
    exact ⟨h, rfl, Eqv.refl h, rfl, fun e => (by cases e), fun _ => Eqv.refl h⟩
  | true =>
    obtain ⟨m, hm, rfl⟩ := inb_of (by omega) ex
    simp only [tn_n (show m < 2 ^ 31 by omega), Bool.true_and, if_true]
    obtain ⟨h1, r1, e1⟩ := m_canDivide (m := m) (by omega) h k.1 k.2.1 k.2.2.1 h7
    rw [if_neg (show ¬ bI true = 0 by decide), bs_ (ck_80 h), bs_ r1]
    dsimp only
    cases ec : cdS (h.2.1 82) n f nb m with
    | false =>
      rw [if_pos (show bI false = 0 from rfl)]
      exact ⟨h1, rfl, e1.mono PT_D, row_t e1, fun e => (by cases e), fun _ => e1⟩
    | true =>
      have k1 := k.t e1
      obtain ⟨h2, r2, e2⟩ := m_ayes (m := m) (by omega) h1 k1.1 k1.2.1 k1.2.2.1 h7
      rw [row_t e1] at r2
      rw [if_neg (show ¬ bI true = 0 by decide), bs_ (ck_80 h1), bs_ (show f_X11_ayes S_1 80 (nI m) h1 = some (setA (h.2.1 82) n f nb m, h2) from r2)]
      dsimp only
      rw [bs_ (x_ones _ _ _)]
      dsimp only
      have E2 := e1.trans e2
      obtain ⟨h3, d, r3, e3, f1⟩ := m_remember (s := 1) h2 hz ((E2.i _ _ PT_8).trans h8)
      rw [bs_ (ck_80 h2), bs_ (show f_X11_remember S_1 80 (1 : Int32) h2 = some ((), h3) from r3)]
      dsimp only
      have k3 := ((k.t E2).r e3)
      obtain ⟨h4, r4, w4, h5, e5, e6⟩ := m_divideIt k3 (m := m) (by omega)
      rw [bs_ (ck_80 h3), bs_ r4]
      dsimp only
      have p82 : ∀ p j, (fun p j => decide (p = 82 ∧ j < 90)) p j = true → PD p j = true := fun p j e => by
        have := of_decide_eq_true e
        rw [this.1]
        exact PD_82 this.2
      refine ⟨h4, rfl, (((E2.mono PT_D).trans (e3.mono PR_D)).trans (e5.mono PT_D)).trans (e6.mono p82), ?_, fun _ => ?_, fun e => (by cases e)⟩
      · rw [w4, e3.row PR_82, row_t E2]
        rfl
      · exact (UPush.l E2 ⟨d, f1⟩).r ((e6.row (fun _ => decide_eq_false (by omega))).trans (e5.row PT_85)) ((e6.row (fun _ => decide_eq_false (by omega))).trans (e5.row PT_86)) ((e6.i 80 8 rfl).trans (e5.i 80 8 PT_8))
def flD (r : Nat → Int32) (nb : Nat) (x t : Int32) : Bool := okT t && (inb x nb && decide (r (10 + x.toNatClampNeg) ≠ t))
theorem m_flyNow {h : AH} {n nb nm z : Nat} {f : Nat → Cl} (k : CM h n f nb nm) (hz : z ≤ 16) (h8 : h.2.1 80 8 = nI z) (x t : Int32) : ∃ h', f_X11_flyNow S_1 80 x t h = some (flV (h.2.1 82) nb x t, h') ∧ Eqv PD h h' ∧ h'.2.1 82 = flN (h.2.1 82) nb x t ∧ (flD (h.2.1 82) nb x t = true → UPush h h' z 2) ∧ (flD (h.2.1 82) nb x t = false → Eqv PT h h') := by
  have h7 := k.2.2.2.1
  unfold f_X11_flyNow flV flN flD
  rw [bs_ (m_isTree S_1 h t), show decide (-1 ≤ t ∧ t ≤ 19) = okT t from rfl]
  dsimp only
  cases et : okT t with
  | false =>
    rw [if_pos (show bI false = 0 from rfl)]
    exact ⟨h, rfl, Eqv.refl h, rfl, fun e => (by cases e), fun _ => Eqv.refl h⟩
  | true =>
    rw [if_neg (show ¬ bI true = 0 by decide), bs_ (ck_80 h), bs_ (m_isBird h x k.2.2.1 h7), show decide (0 ≤ x ∧ x < nI nb) = inb x nb from rfl]
    dsimp only
    cases ex : inb x nb with
    | false =>
      rw [if_pos (show bI false = 0 from rfl)]
      exact ⟨h, rfl, Eqv.refl h, rfl, fun e => (by cases e), fun _ => Eqv.refl h⟩
    | true =>
      obtain ⟨b, hb, rfl⟩ := inb_of h7 ex
      simp only [tn_n (show b < 2 ^ 31 by omega), Bool.true_and, if_true]
      rw [if_neg (show ¬ bI true = 0 by decide), bs_ (yr_80_3 h), show (10 : Int32) + nI b = nI (10 + b) from nI_add 10 b, bs_ (ai_82 h (by omega))]
      by_cases e3 : h.2.1 82 (10 + b) = t
      · rw [if_pos e3, if_pos e3, show decide (h.2.1 82 (10 + b) ≠ t) = false by simp [e3]]
        exact ⟨h, rfl, Eqv.refl h, rfl, fun e => (by cases e), fun _ => Eqv.refl h⟩
      · rw [if_neg e3, if_neg e3, show decide (h.2.1 82 (10 + b) ≠ t) = true by simp [e3]]
        obtain ⟨h3, d, r3, e4, f1⟩ := m_remember (s := 2) h hz h8
        rw [bs_ (ck_80 h), bs_ (show f_X11_remember S_1 80 (2 : Int32) h = some ((), h3) from r3)]
        dsimp only
        rw [bs_ (yr_80_3 h3), bs_ (si_82 h3 _ (by omega))]
        have E : Eqv PD h (stI h3 82 (10 + b) t) := (e4.mono PR_D).si (PD_82 (by omega))
        have R : (stI h3 82 (10 + b) t).2.1 82 = rset (h.2.1 82) (10 + b) t := by rw [u2_rset, e4.row PR_82]
        have U : UPush h (stI h3 82 (10 + b) t) z 2 := UPush.r ⟨d, f1⟩ rfl rfl rfl
        by_cases e5 : h.2.1 82 (10 + b) = -1
        · rw [if_pos e5, if_pos e5]
          exact ⟨_, rfl, E, R, fun _ => U, fun e => (by cases e)⟩
        · rw [if_neg e5, if_neg e5]
          exact ⟨_, rfl, E, R, fun _ => U, fun e => (by cases e)⟩
theorem m_passIt (h : AH) {nm : Nat} (hn : h.2.1 82 1 = nI nm) (h6 : nm ≤ 6) : ∃ h', f_X11_passIt S_1 80 h = some (howM nm (fun m => decide (h.2.1 82 (17 + m) ≠ 2)), h') ∧ h'.2.1 82 = psR (h.2.1 82) nm ∧ Eqv (fun p j => decide (p = 82 ∧ j < 90)) h h' := by
  have e : ∀ (t i fu : Nat) (a : Int32) (h1 : AH), h1.2.1 82 1 = nI nm → i + t = nm → t < fu → ∃ h', f_X11_passIt_l4 S_1 fu 80 a (nI i) h1 = some ((80, fo (fun a m => a + (if decide (h1.2.1 82 (17 + m) ≠ 2) then 1 else 0)) i t a), h') ∧ Eqv (fun p j => decide (p = 82 ∧ j < 90)) h1 h' ∧ (∀ j, h'.2.1 82 j = if 17 + i ≤ j ∧ j < 17 + nm ∧ h1.2.1 82 j ≠ 2 then 0 else h1.2.1 82 j) := by
    intro t
    induction t with
    | zero =>
      intro i fu a h1 hn hk hf
      obtain ⟨fu, rfl⟩ : ∃ x, fu = x + 1 := ⟨fu - 1, by omega⟩
      rw [f_X11_passIt_l4]
      unfold f_X11_passIt_l4b
      rw [bs_ (yr_80_3 h1), bs_ (show aI S_1 h1 82 (1 : Int32) = some (h1.2.1 82 1) from ai_82 _ (j := 1) (by decide)), hn, if_pos (by rw [nn_le (by omega) (by omega)]; omega)]
      refine ⟨h1, rfl, Eqv.refl h1, fun j => ?_⟩
      rw [if_neg (by omega)]
    | succ t ih =>
      intro i fu a h1 hn hk hf
      obtain ⟨fu, rfl⟩ : ∃ x, fu = x + 1 := ⟨fu - 1, by omega⟩
      rw [f_X11_passIt_l4]
      unfold f_X11_passIt_l4b
      have j40 : ∀ v : Int32, v = (if h1.2.1 82 (17 + i) = 2 then 2 else 0) → ∃ h', f_X11_passIt_l4_j40 S_1 (f_X11_passIt_l4 S_1 fu) 80 a (nI i) 82 (nI (17 + i)) v h1 = some ((80, fo (fun a m => a + (if decide (h1.2.1 82 (17 + m) ≠ 2) then 1 else 0)) i (t + 1) a), h') ∧ Eqv (fun p j => decide (p = 82 ∧ j < 90)) h1 h' ∧ (∀ j, h'.2.1 82 j = if 17 + i ≤ j ∧ j < 17 + nm ∧ h1.2.1 82 j ≠ 2 then 0 else h1.2.1 82 j) := fun v hv => by
        unfold f_X11_passIt_l4_j40
        rw [bs_ (si_82 h1 _ (by omega)), bs_ (yr_80_3 _), show (17 : Int32) + nI i = nI (17 + i) from nI_add 17 i, bs_ (ai_82 _ (by omega)), stI_s]
        show ∃ h', _ = some ((80, fo _ (i + 1) t (a + (if decide (h1.2.1 82 (17 + i) ≠ 2) then 1 else 0))), h') ∧ _
        have nx : ∀ w : Int32, w = (if decide (h1.2.1 82 (17 + i) ≠ 2) then 1 else 0) → ∃ h', (lt (a + w) fun y => lt (nI i + (1 : Int32)) fun y2 => f_X11_passIt_l4 S_1 fu 80 y y2 (stI h1 82 (17 + i) v)) = some ((80, fo (fun a m => a + (if decide (h1.2.1 82 (17 + m) ≠ 2) then 1 else 0)) (i + 1) t (a + (if decide (h1.2.1 82 (17 + i) ≠ 2) then 1 else 0))), h') ∧ Eqv (fun p j => decide (p = 82 ∧ j < 90)) h1 h' ∧ (∀ j, h'.2.1 82 j = if 17 + i ≤ j ∧ j < 17 + nm ∧ h1.2.1 82 j ≠ 2 then 0 else h1.2.1 82 j) := fun w hw => by
          rw [lt_e, lt_e, nI_1, hw]
          obtain ⟨h', r1, e1, d1⟩ := ih (i + 1) fu (a + (if decide (h1.2.1 82 (17 + i) ≠ 2) then 1 else 0)) (stI h1 82 (17 + i) v) ((ri_k (by omega)).trans hn) (by omega) (by omega)
          refine ⟨h', ?_, ((Eqv.refl h1).si (decide_eq_true (by omega))).trans e1, fun j => ?_⟩
          · rw [r1]
            congr 1
            congr 1
            congr 1
            exact fo_congr _ _ _ fun j b h2 h3 => by rw [ri_k (by omega)]
          · rw [d1]
            by_cases ej : j = 17 + i
            · rw [ej, if_neg (by omega), stI_s, hv]
              by_cases e2 : h1.2.1 82 (17 + i) = 2
              · rw [if_pos e2, if_neg (fun z => z.2.2 e2), e2]
              · rw [if_neg e2, if_pos ⟨Nat.le_refl _, by omega, e2⟩]
            · rw [ri_k ej]
              by_cases eo : 17 + i ≤ j ∧ j < 17 + nm ∧ h1.2.1 82 j ≠ 2
              · rw [if_pos eo, if_pos ⟨by omega, eo.2⟩]
              · rw [if_neg eo, if_neg (fun z => eo ⟨by omega, z.2⟩)]
        by_cases e2 : h1.2.1 82 (17 + i) = 2
        · rw [if_pos e2] at hv
          subst hv
          rw [if_neg (by decide)]
          exact nx 0 (by simp [e2])
        · rw [if_neg e2] at hv
          subst hv
          rw [if_pos rfl]
          exact nx 1 (by simp [e2])
      rw [bs_ (yr_80_3 h1), bs_ (show aI S_1 h1 82 (1 : Int32) = some (h1.2.1 82 1) from ai_82 _ (j := 1) (by decide)), hn, if_neg (by rw [nn_le (by omega) (by omega)]; omega), bs_ (yr_80_3 h1), bs_ (yr_80_3 h1), show (17 : Int32) + nI i = nI (17 + i) from nI_add 17 i, bs_ (ai_82 h1 (by omega))]
      by_cases e2 : h1.2.1 82 (17 + i) = 2
      · rw [if_pos e2]
        exact j40 2 (by rw [if_pos e2])
      · rw [if_neg e2]
        exact j40 0 (by rw [if_neg e2])
  unfold f_X11_passIt
  obtain ⟨h1, r1, e1, d1⟩ := e nm 0 FU 0 h hn (by omega) (by unfold FU; omega)
  rw [bs_ (show f_X11_passIt_l4 S_1 FU 80 (0 : Int32) (0 : Int32) h = _ from r1)]
  dsimp only
  rw [bs_ (yr_80_3 h1), bs_ (show sI S_1 h1 82 (9 : Int32) (0 : Int32) = some (stI h1 82 9 0) from si_82 _ (j := 9) _ (by decide)), bs_ (yr_80_3 _), bs_ (show aI S_1 (stI h1 82 9 0) 82 (5 : Int32) = some ((stI h1 82 9 0).2.1 82 5) from ai_82 _ (j := 5) (by decide)), ri_k (by decide), bs_ ((show ∀ v, sI S_1 (stI h1 82 9 0) 82 (5 : Int32) v = some (stI (stI h1 82 9 0) 82 5 v) from fun v => si_82 _ (j := 5) _ (by decide)) _)]
  refine ⟨_, rfl, ?_, (e1.si (decide_eq_true (by omega))).si (decide_eq_true (by omega))⟩
  rw [u2_rset, u2_rset]
  funext j
  unfold rset psR
  by_cases e5 : j = 5
  · rw [if_pos e5, if_pos e5, d1, if_neg (by omega)]
  · rw [if_neg e5, if_neg e5]
    by_cases e9 : j = 9
    · rw [if_pos e9, if_pos e9]
    · rw [if_neg e9, if_neg e9, d1]
def psD (r : Nat → Int32) : Bool := decide (r 5 < 999)
theorem m_passNow {h : AH} {n nb nm z : Nat} {f : Nat → Cl} (k : CM h n f nb nm) (hz : z ≤ 16) (h8 : h.2.1 80 8 = nI z) (h5 : h.2.1 82 5 ≤ 999) : ∃ h', f_X11_passNow S_1 80 h = some (psV (h.2.1 82) nm, h') ∧ Eqv PD h h' ∧ h'.2.1 82 = psN (h.2.1 82) nm ∧ (psD (h.2.1 82) = true → UPush h h' z 3) ∧ (psD (h.2.1 82) = false → Eqv PT h h') := by
  have h6 := k.2.2.2.2.2
  unfold f_X11_passNow psV psN psD
  rw [bs_ (yr_80_3 h), bs_ (show aI S_1 h 82 (5 : Int32) = some (h.2.1 82 5) from ai_82 _ (j := 5) (by decide))]
  by_cases e : h.2.1 82 5 = 999
  · have : ¬ h.2.1 82 5 < 999 := by rw [e]; decide
    rw [if_pos e, if_neg this, if_neg this, decide_eq_false this]
    exact ⟨h, rfl, Eqv.refl h, rfl, fun e => (by cases e), fun _ => Eqv.refl h⟩
  · have : h.2.1 82 5 < 999 := by
      have a := Int32.le_iff_toInt_le.mp h5
      rw [Int32.lt_iff_toInt_lt]
      have b : ¬ (h.2.1 82 5).toInt = (999 : Int32).toInt := fun z => e (Int32.toInt_inj.mp z)
      omega
    rw [if_neg e, if_pos this, if_pos this, decide_eq_true this]
    obtain ⟨h3, d, r3, e4, f1⟩ := m_remember (s := 3) h hz h8
    rw [bs_ (ck_80 h), bs_ (show f_X11_remember S_1 80 (3 : Int32) h = some ((), h3) from r3)]
    dsimp only
    have er := e4.row PR_82
    obtain ⟨h4, r4, w4, e5⟩ := m_passIt h3 (by rw [er]; exact k.2.2.2.2.1) h6
    rw [er] at r4 w4
    rw [bs_ (ck_80 h3), bs_ r4]
    dsimp only
    have p82 : ∀ p j, (fun p j => decide (p = 82 ∧ j < 90)) p j = true → PD p j = true := fun p j e => by
      have := of_decide_eq_true e
      rw [this.1]
      exact PD_82 this.2
    exact ⟨h4, rfl, (e4.mono PR_D).trans (e5.mono p82), w4, fun _ => UPush.r ⟨d, f1⟩ (e5.row fun _ => decide_eq_false (by omega)) (e5.row fun _ => decide_eq_false (by omega)) (e5.i 80 8 rfl), fun e => (by cases e)⟩

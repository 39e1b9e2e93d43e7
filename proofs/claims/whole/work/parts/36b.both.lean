/-! the richest order: the class's divisions -/
def Nr9 (r r' : Nat → Int32) : Prop := ∀ j, j ≠ 9 → ¬ (17 ≤ j ∧ j ≤ 22) → r' j = r j
theorem Nr9.ag {r r' : Nat → Int32} (k : Nr9 r r') : Ag r r' := fun j h1 h2 => k j (by omega) (by omega)
def PGo (p j : Nat) : Bool := PSt 39 p j || decide (p = 42 ∨ p = 43 ∨ p = 44 ∨ p = 38 ∧ (j = 5 ∨ j = 6))
theorem PGo_o (q j : Nat) (hq : q = 2 ∨ 6 ≤ q ∧ q ≤ 10 ∨ LawP q) : PGo q j = false := by
  unfold PGo PSt
  rw [PX_o q j hq]
  unfold LawP at hq
  rw [show decide (q = 39 ∧ (j = 2 ∨ j = 3) ∨ q = 39 + 1 ∨ q = 39 + 2) = false from decide_eq_false (by omega), show decide (q = 42 ∨ q = 43 ∨ q = 44 ∨ q = 38 ∧ (j = 5 ∨ j = 6)) = false from decide_eq_false (by omega)]
  rfl
theorem PSt_Go (p j : Nat) (h : PSt 39 p j = true) : PGo p j = true := by
  unfold PGo
  rw [h]; rfl
theorem PGo_1 {p j : Nat} (h : p = 42 ∨ p = 43 ∨ p = 44 ∨ p = 38 ∧ (j = 5 ∨ j = 6)) : PGo p j = true := by
  unfold PGo
  rw [decide_eq_true h, Bool.or_true]
theorem PGo_W0 (p j : Nat) (h : PGo p j = true) : PW0 p j = true := by
  unfold PGo at h
  rw [Bool.or_eq_true] at h
  rcases h with h | h
  · exact PSt_W0 (s := 39) (by omega) p j h
  · have h := of_decide_eq_true h
    unfold PW0
    rw [Bool.and_eq_true]
    exact ⟨decide_eq_true (by omega), decide_eq_true (by omega)⟩
def dvW (r : Nat → Int32) (n : Nat) (f : Nat → Cl) (nb c m : Nat) : Int32 := if canR r n f nb c m = true then nI (tkN r n f c m + if carR r n f nb c m = true then 16 else 0) else -1
theorem dvW_0 (r : Nat → Int32) (n : Nat) (f : Nat → Cl) (nb c m : Nat) : ¬ dvW r n f nb c m = 0 := by
  obtain ⟨e, t1, t9⟩ := tk_ok r n f c m
  unfold dvW
  split
  · rw [show (0 : Int32) = nI 0 from rfl, nn_eq (by split <;> omega) (by decide)]
    omega
  · decide
/-- what stands while it is searched -/
def GI (h0 : AH) (r : Nat → Int32) (n : Nat) (f : Nat → Cl) (nb nm : Nat) (h : AH) : Prop := Eqv PGo h0 h ∧ (∃ r', StX h 39 r' ∧ Nr9 r r') ∧ ∀ c m, c ≤ 48 → m < nm → h.2.1 42 (6 * c + m) = 0 ∨ r (17 + m) = 1 ∧ h.2.1 42 (6 * c + m) = dvW r n f nb c m
theorem PSt39_n {p j : Nat} (h : p = 2 ∨ p = 9 ∨ p = 38 ∨ 42 ≤ p) : PSt 39 p j = false := by
  unfold PSt
  rw [PX_no (by omega)]
  exact decide_eq_false (by omega)
theorem q_divAt {h0 h : AH} {r : Nat → Int32} {p n nb nm c m : Nat} {f : Nat → Cl} (ct : Ct h0 3 r p n f nb nm) (hcl : ∀ m, m < nm → 1 ≤ r (72 + m) ∧ r (72 + m) ≤ 9) (g : GI h0 r n f nb nm h) (hc : c ≤ 48) (hm : m < nm) (mv : r (17 + m) = 1) : ∃ h', f_X0_divisionAt S_1 38 (nI c) (nI m) h = some (dvW r n f nb c m, h') ∧ GI h0 r n f nb nm h' ∧ ∀ p j, p = 43 ∨ p = 44 ∨ p = 38 → h'.2.1 p j = h.2.1 p j := by
  have h7 := ct.2.2.2.2.2.2.1
  have h6 := ct.2.2.2.2.2.2.2.2
  obtain ⟨g1, ⟨r', g2, g3⟩, g4⟩ := g
  have ey : nI c * (6 : Int32) + nI m = nI (6 * c + m) := by rw [show (6 : Int32) = nI 6 from rfl, pk_mul, nI_add, Nat.mul_comm]
  have hy : 6 * c + m < 294 := by omega
  unfold f_X0_divisionAt
  rw [ey, lt_e, if_neg (by rw [z_lt (by omega)]; exact id), bs_ (yr_38_2 h), bs_ (ln_42 h), if_pos (by rw [nn_lt (by omega) (by decide)]; exact hy), bs_ (yr_38_2 h), bs_ (ai_42 h hy)]
  rcases g4 c m hc hm with t0 | ⟨_, t1⟩
  · rw [if_pos t0, bs_ (yr_38_1 h), bs_ (xi_39 h 2 _), bs_ (yr_38_1 _), bs_ (yr_39_1 _), bs_ (si_41 _ _ (by omega)), bs_ (yr_38_0 _), bs_ (yr_38_1 _), bs_ (ck_35 _)]
    generalize eh1 : stI (stI h 39 2 (nI c)) 41 m 1 = h1
    obtain ⟨r1, hr1⟩ : ∃ r1, r1 = rset (rset r' 9 (nI c)) (17 + m) 1 := ⟨_, rfl⟩
    have s1 : StX h1 39 r1 := by
      rw [← eh1, hr1]
      exact (StX.s0 g2).s2
    have e1 : Eqv PGo h0 h1 := by
      rw [← eh1]
      exact (g1.si (PSt_Go 39 2 (PSt_0 (Or.inl rfl)))).si (PSt_Go 41 m (PSt_2 m))
    have nr : Nr (rk r c) r1 := fun j h4 h17 => by
      rw [hr1, rset_n _ _ (by omega)]
      by_cases e : j = 9
      · rw [e, rset_s, rk_9]
      · rw [rset_n _ _ e, rk_o e]
        exact g3 j e h17
    have nr9 : Nr9 r r1 := fun j h9 h17 => by
      rw [hr1, rset_n _ _ (by omega), rset_n _ _ h9]
      exact g3 j h9 h17
    have c1 : Ct h1 39 r1 p n f nb nm := ct.mv (by omega) e1 PGo_o s1 nr9.ag
    obtain ⟨h2, q2, e2, s2⟩ := c1.dividing (nI m) (fun q hq => by rw [nr9 (72 + q) (by omega) (by omega)]; exact hcl q hq)
    have em : r1 (17 + m) = rk r c (17 + m) := by rw [hr1, rset_s, rk_o (by omega), mv]
    have cde : cdS r1 n f nb m = canR r n f nb c m := cdS_n nr n f h7 em
    obtain ⟨et, t1, t9⟩ := tk_ok r n f c m
    have e12 : Eqv PGo h0 h2 := e1.trans (e2.mono PSt_Go)
    have k42 : ∀ p j, p = 42 ∨ p = 43 ∨ p = 44 ∨ p = 38 → h2.2.1 p j = h.2.1 p j := fun p j hp => by
      rw [e2.i p j (PSt39_n (by omega)), ← eh1, ri_p (by omega), ri_p (by omega)]
    have fin : ∀ v : Int32, v = dvW r n f nb c m → ∃ h', (some (dvW r n f nb c m, stI h2 42 (6 * c + m) v) : Option (Int32 × AH)) = some (dvW r n f nb c m, h') ∧ GI h0 r n f nb nm h' ∧ ∀ p j, p = 43 ∨ p = 44 ∨ p = 38 → h'.2.1 p j = h.2.1 p j := fun v hv => by
      refine ⟨_, rfl, ⟨e12.si (PGo_1 (by omega)), ⟨dvN r1 n f nb nm (nI m), ?_, ?_⟩, fun c' m' hc' hm' => ?_⟩, fun p j hp => ?_⟩
      · exact s2.rows (funext fun j => ri_p (by omega)) (funext fun j => ri_p (by omega)) (funext fun j => ri_p (by omega))
      · intro j h9 h17
        rw [dvN_in r1 n f hm h6]
        split
        · unfold dvR
          rw [rset_n _ _ h9, rset_n _ _ (by omega)]
          exact nr9 j h9 h17
        · exact nr9 j h9 h17
      · by_cases ec : 6 * c' + m' = 6 * c + m
        · have a1 : c' = c := by omega
          have a2 : m' = m := by omega
          rw [a1, a2, stI_s, hv]
          exact Or.inr ⟨mv, rfl⟩
        · rw [ri_k ec, k42 _ _ (by omega)]
          exact g4 c' m' hc' hm'
      · rw [ri_p (by omega)]
        exact k42 p j (by omega)
    rw [bs_ q2]
    dsimp only
    have s2m : h2.2.1 41 m = dvN r1 n f nb nm (nI m) (17 + m) := s2.2.1 m (by omega)
    have s29 : h2.2.1 39 2 = dvN r1 n f nb nm (nI m) 9 := s2.2.2.1
    cases ec : canR r n f nb c m with
    | false =>
      have neg : dvV r1 n f nb nm (nI m) < 0 := (dvV_pos (r := r1) (n := n) (f := f) h7 (by omega) hm).mpr (by rw [cde, ec])
      rw [if_pos neg]
      unfold f_X0_divisionAt_j69
      have n2 : ¬ h2.2.1 41 m = 2 := by
        rw [s2m, dvN_in r1 n f hm h6, cde, ec, if_neg (by decide), hr1, rset_s]
        decide
      have dv : dvW r n f nb c m = -1 := by unfold dvW; rw [ec]; rfl
      rw [bs_ (yr_38_1 h2), bs_ (yr_39_1 h2), bs_ (ai_41 h2 (by omega)), if_neg n2]
      unfold f_X0_divisionAt_j90
      rw [bs_ (yr_38_2 h2), if_pos rfl, bs_ (si_42 h2 _ hy), bs_ (yr_38_2 _), bs_ (ai_42 _ hy), stI_s]
      have := fin (-1) dv.symm
      rwa [dv] at this ⊢
    | true =>
      have neg : ¬ dvV r1 n f nb nm (nI m) < 0 := fun z => by
        have := (dvV_pos (r := r1) (n := n) (f := f) h7 (by omega) hm).mp z
        rw [cde, ec] at this
        cases this
      rw [if_neg neg]
      have dn : dvN r1 n f nb nm (nI m) = dvR r1 n f nb m := by rw [dvN_in r1 n f hm h6, cde, ec, if_pos rfl]
      have v2 : h2.2.1 41 m = if carR r n f nb c m = true then 2 else 3 := by
        rw [s2m, dn]
        unfold dvR carR
        rw [rset_n _ _ (by omega), rset_s, caS_n nr, setS_n nr n f m h7, setA_n nr n f m h7]
      have v9 : h2.2.1 39 2 = nI c + nI (tkN r n f c m) := by
        rw [s29, dn]
        unfold dvR
        rw [rset_s, taS_n nr, et, hr1, rset_n _ _ (by omega), rset_s]
      unfold f_X0_divisionAt_j69
      rw [bs_ (yr_38_1 h2), bs_ (yr_39_1 h2), bs_ (ai_41 h2 (by omega)), v2]
      have sb : ∀ x y : Int32, x + y - x = y := fun x y => by rw [Int32.add_comm, Int32.add_sub_cancel]
      cases ek : carR r n f nb c m with
      | true =>
        have dv : dvW r n f nb c m = nI (tkN r n f c m) + 16 := by
          unfold dvW
          rw [ec, ek, if_pos rfl, if_pos rfl, show (16 : Int32) = nI 16 from rfl, nI_add]
        rw [if_pos rfl, if_pos rfl]
        unfold f_X0_divisionAt_j90
        rw [bs_ (yr_38_2 h2), if_neg (by decide), bs_ (yr_38_1 h2), bs_ (yi_39 h2 2), v9, sb, bs_ (si_42 h2 _ hy), bs_ (yr_38_2 _), bs_ (ai_42 _ hy), stI_s]
        have := fin (nI (tkN r n f c m) + 16) dv.symm
        rwa [dv] at this ⊢
      | false =>
        have dv : dvW r n f nb c m = nI (tkN r n f c m) + 0 := by
          unfold dvW
          rw [ec, ek, if_pos rfl, if_neg (by decide), Int32.add_zero, Nat.add_zero]
        rw [if_neg (show ¬ (if false = true then (2 : Int32) else 3) = 2 by decide)]
        unfold f_X0_divisionAt_j90
        rw [bs_ (yr_38_2 h2), if_neg (by decide), bs_ (yr_38_1 h2), bs_ (yi_39 h2 2), v9, sb, bs_ (si_42 h2 _ hy), bs_ (yr_38_2 _), bs_ (ai_42 _ hy), stI_s]
        have := fin (nI (tkN r n f c m) + 0) dv.symm
        rwa [dv] at this ⊢
  · rw [if_neg (by rw [t1]; exact dvW_0 r n f nb c m), bs_ (yr_38_2 h), bs_ (ai_42 h hy), t1]
    exact ⟨h, rfl, ⟨g1, ⟨r', g2, g3⟩, g4⟩, fun _ _ _ => rfl⟩

/-! come: the class's side -/
def hmO (s : Option Nat) (x : Int32) : Int32 := match s with
  | none => -1
  | some b => hmw b x
theorem PSd25_St (p j : Nat) (h : PSd 25 p j = true) : PSt 25 p j = true := by
  have h := of_decide_eq_true h
  unfold PSt
  rw [Bool.or_eq_true]
  exact Or.inr (decide_eq_true (by omega))
theorem PSt25_n {p j : Nat} (h1 : p < 25) : PSt 25 p j = false := by
  unfold PSt
  rw [PX_no (by omega)]
  exact decide_eq_false (by omega)
theorem PSt25_W0 (p j : Nat) (h : PSt 25 p j = true) : PW0 p j = true := by
  unfold PSt at h
  rw [Bool.or_eq_true] at h
  rcases h with h | h
  · exact PX_W0 p j h
  · have h := of_decide_eq_true h
    unfold PW0
    rw [Bool.and_eq_true]
    exact ⟨decide_eq_true (by omega), decide_eq_true (by omega)⟩
theorem q_come {h : AH} {r : Nat → Int32} {p n nb nm N S A S2 A2 m : Nat} {f : Nat → Cl} {D : Option Nat} (ct : Ct h 3 r p n f nb nm) (hN : N = 128) (hS : S < 128) (hA : A < 128) (eS : setS r n f nb m = nI S) (eA : setA r n f nb m = nI A) (eS2 : setS (coR r nb) n f nb m = nI S2) (eA2 : setA (coR r nb) n f nb m = nI A2) (hm : m < nm) (d1 : fo (seS (feP r (nI S2) (nI A2) (nI S) (nI A) true)) 0 N none = D) (hD : ∀ b, D = some b → b < 128) (y : Int32) : Qy PW0 h (f_X10_come S_1 0 (nI m) y h) (hmO D y) := by
  have h7 := ct.2.2.2.2.2.2.1
  have h6 := ct.2.2.2.2.2.2.2.2
  have ex := inb_n (by omega) hm
  obtain ⟨h1, q1, e1, c1⟩ := ct.paper
  rw [← coR_0 r] at c1
  obtain ⟨h2, q2, e2, c2⟩ := q_coL (nI m) y h7 nb 0 FU h1 (by omega) (by unfold FU; omega) c1
  obtain ⟨h3, e3, q3, v3, w3⟩ := c2.poll (m := m) (by omega) c2.2.2.2.1.2.1 c2.2.2.2.1.2.2 c2.2.2.2.2.1
  have E3 : Eqv (PSt 25) h h3 := ((e1.trans e2).mono PSd25_St).trans e3.st
  have c3 : Ct h3 3 r p n f nb nm := ct.mv (Or.inl rfl) E3 PSt25_o (ct.2.1.rows (E3.row fun j => PSt25_n (by omega)) (E3.row fun j => PSt25_n (by omega)) (E3.row fun j => PSt25_n (by omega))) (Ag.refl r)
  obtain ⟨h4, e4, q4, v4, w4⟩ := c3.poll (m := m) (by omega) c3.2.2.2.1.2.1 c3.2.2.2.1.2.2 c3.2.2.2.2.1
  have c4 := c3.x e4
  have qf := q_fewN (h := h4) hN (W := S2) (Y := A2) (wn := true) c4.2.2.1 hS hA (v4.trans eS) (w4.trans eA)
  rw [d1] at qf
  replace qf : f_X1_fewest S_1 35 (nI S2) (nI A2) (1 : Int32) h4 = some (opI D, h4) := qf
  refine ⟨h4, ?_, (E3.mono PSt25_W0).trans (e4.mono PX_W0)⟩
  unfold f_X10_come
  rw [bs_ (yr_0_2 h), bs_ (ck_2 h), bs_ (q_hasM ct (nI m)), ex]
  dsimp only
  rw [if_neg (show ¬ bI true = 0 by decide), bs_ (yr_0_7 h), bs_ (yr_0_2 h), bs_ (yr_2_0 h), bs_ (ck_25 h), bs_ q1]
  dsimp only
  rw [bs_ (show f_X10_come_l29 S_1 FU 0 (nI m) y (0 : Int32) h1 = _ from q2)]
  dsimp only
  rw [bs_ (yr_0_10 h2), bs_ (yr_0_7 h2), bs_ (yr_0_2 h2), bs_ (ck_2 h2), bs_ c2.lf]
  dsimp only
  rw [bs_ (ck_35 h2), bs_ q3]
  dsimp only
  rw [bs_ (yr_0_10 h3), bs_ (yi_35 h3 2), v3, eS2, bs_ (yr_0_10 h3), bs_ (yi_35 h3 3), w3, eA2, bs_ (yr_0_10 h3), bs_ (yr_0_2 h3), bs_ (yr_2_0 h3), bs_ (yr_0_2 h3), bs_ (ck_2 h3), bs_ c3.lf]
  dsimp only
  rw [bs_ (ck_35 h3), bs_ q4]
  dsimp only
  rw [bs_ (yr_0_10 h4), bs_ (ck_35 h4), bs_ qf]
  dsimp only
  cases D with
  | none => rfl
  | some b =>
    rw [bs_ (show f_X10_howManyOrWho S_1 (opI (some b)) y h4 = _ from q_hmw (hD b rfl) y)]
    rfl

/-! come: the other side -/
theorem m_come {h2 : AH} {n nb nm S A W S2 A2 m : Nat} {f : Nat → Cl} {D : Option Nat} (c2 : CM h2 n f nb nm) (hW : W < 128) (eW : bits nb (awS (h2.2.1 82)) = nI W) (eS : setS (h2.2.1 82) n f nb m = nI S) (eA : setA (h2.2.1 82) n f nb m = nI A) (eS2 : setS (coR (h2.2.1 82) nb) n f nb m = nI S2) (eA2 : setA (coR (h2.2.1 82) nb) n f nb m = nI A2) (hm : m < nm) (d2 : fo (seS (cmP (h2.2.1 82) (nI W) (nI S) (nI A) (nI S2) (nI A2))) 0 (W + 1) none = D) (hD : ∀ b, D = some b → b < 128) (y : Int32) : Qy PW0 h2 (f_X11_come S_1 80 (nI m) y h2) (if rgb y 0 1 = true then hmO D y else -1) := by
  have h7 := c2.2.2.2.1
  have h6 := c2.2.2.2.2.2
  have ex := inb_n (by omega) hm
  obtain ⟨h0, hh0⟩ : ∃ h0, h0 = stI h2 80 0 0 := ⟨_, rfl⟩
  have r0 : h0.2.1 82 = h2.2.1 82 := by rw [hh0]; exact funext fun j => ri_p (by decide)
  have c0 : CM h0 n f nb nm := c2.z r0 (by rw [hh0]; exact ri_k (by decide))
  have E0 : Eqv PW0 h2 h0 := by rw [hh0]; exact (Eqv.refl h2).si rfl
  unfold f_X11_come
  rw [bs_ (show pI S_1 h2 80 11 0 (0 : Int32) = some (stI h2 80 0 0) from rfl), ← hh0, bs_ (ck_80 h0), bs_ (mi_M c0 (nI m)), ex]
  dsimp only
  rw [if_neg (show ¬ bI true = 0 by decide), bs_ (xin_0_1 y h0)]
  dsimp only
  cases ey : rgb y 0 1 with
  | false =>
    rw [if_pos (show bI false = 0 from rfl), if_neg (by decide)]
    exact ⟨h0, rfl, E0⟩
  | true =>
    rw [if_neg (show ¬ bI true = 0 by decide), if_pos rfl]
    obtain ⟨h3, r3, e3⟩ := m_sitting (nb := nb) (show m < 6 by omega) h0 c0.1 c0.2.1 c0.2.2.1 h7
    have c3 := c0.my (e3.mono PT_Mm) (by rw [e3.row PT_82]; exact Ag.refl _)
    obtain ⟨h4, r4, e4⟩ := m_ayes (nb := nb) (show m < 6 by omega) h3 c3.1 c3.2.1 c3.2.2.1 h7
    have rr4 : h4.2.1 82 = h2.2.1 82 := (e4.row PT_82).trans ((e3.row PT_82).trans r0)
    have c4 := c3.my (e4.mono PT_Mm) (by rw [e4.row PT_82]; exact Ag.refl _)
    rw [e3.row PT_82, r0, show bits nb (fun b => ayS (h2.2.1 82) n f b m) = nI A from eA] at r4
    rw [r0, show bits nb (fun b => siS (h2.2.1 82) n f b m) = nI S from eS] at r3
    obtain ⟨h5, q5, k5⟩ := m_keepAll h4 (k := 16) (by decide)
    have rr5 : h5.2.1 82 = h2.2.1 82 := (k5.row (by decide)).trans rr4
    have c5 : CM h5 n f nb nm := c4.z (k5.row (by decide)) (k5.n (by decide))
    obtain ⟨h8, q8, e8, r8, l8⟩ := m_coL (r := h2.2.1 82) (nI m) y (nI S) (nI A) h7 c2.2.2.1 nb 0 FU h5 0 (by omega) (by unfold FU; omega) (rr5.trans (cmR_0 _).symm)
    have eM : fo (fun s k => s ||| (if awS (h2.2.1 82) k then bt k else 0)) 0 nb 0 = nI W := eW
    rw [eM] at q8
    have c8 : CM h8 n f nb nm := c5.my (e8.mono P90_Mm) (by rw [r8, rr5]; exact cmR_ag _ h7)
    obtain ⟨h9, r9, e9⟩ := m_sitting (nb := nb) (show m < 6 by omega) h8 c8.1 c8.2.1 c8.2.2.1 h7
    have c9 := c8.my (e9.mono PT_Mm) (by rw [e9.row PT_82]; exact Ag.refl _)
    obtain ⟨g1, r10, e10⟩ := m_ayes (nb := nb) (show m < 6 by omega) h9 c9.1 c9.2.1 c9.2.2.1 h7
    rw [e9.row PT_82, r8] at r10
    rw [r8] at r9
    obtain ⟨g2, q11, k11⟩ := m_putBack g1 (k := 16) (by decide)
    have s2 : bits nb (fun b => siS (cmR (h2.2.1 82) nb) n f b m) &&& nI W = nI S2 := by
      rw [← eW, bits_and7 h7, ← eS2]
      exact bits_congr fun k hk => by rw [co_si hk h7, Bool.and_comm]
    have a2 : bits nb (fun b => ayS (cmR (h2.2.1 82) nb) n f b m) &&& nI W = nI A2 := by
      rw [← eW, bits_and7 h7, ← eA2]
      exact bits_congr fun k hk => by rw [co_ay hk h7, Bool.and_comm]
    have rr : g2.2.1 82 = h2.2.1 82 := by
      funext j
      by_cases ej : 5 ≤ j ∧ j < 23
      · have a := k11.i (j := j - 5) (by omega)
        have b := k5.i (j := j - 5) (by omega)
        rw [show 5 + (j - 5) = j by omega] at a b
        rw [a, e10.i 85 _ rfl, e9.i 85 _ rfl, e8.i 85 _ rfl, b, rr4]
      · rw [k11.o (by omega), e10.row PT_82, e9.row PT_82, r8, cmR_o (by omega)]
    have ql := m_cmL (h := g2) (S := nI S) (A := nI A) (S2 := nI S2) (A2 := nI A2) y hW (W + 1) 0 FU none (by omega) (by unfold FU; omega)
    rw [rr, d2] at ql
    have L : g2.2.2 = h5.2.2 ∨ True := Or.inr trivial
    rw [bs_ (ck_80 h0), bs_ r3]
    dsimp only
    rw [bs_ (ck_80 h3), bs_ r4]
    dsimp only
    rw [bs_ (ck_80 h4), bs_ (show f_X11_keepAll S_1 80 (16 : Int32) h4 = _ from q5)]
    dsimp only
    rw [bs_ (show f_X11_come_l50 S_1 FU 80 (nI m) y (nI S) (nI A) (0 : Int32) (0 : Int32) h5 = _ from q8)]
    dsimp only
    rw [bs_ (ck_80 h8), bs_ r9]
    dsimp only
    rw [lt_e, s2, bs_ (ck_80 h9), bs_ r10]
    dsimp only
    rw [lt_e, a2, bs_ (ck_80 g1), bs_ (show f_X11_putBack S_1 80 (16 : Int32) g1 = _ from q11)]
    dsimp only
    rw [bs_ (show f_X11_come_l159 S_1 FU 80 y (nI S) (nI A) (nI W) (nI S2) (nI A2) (100000000 : Int32) (-1 : Int32) (0 : Int32) g2 = _ from ql)]
    dsimp only
    have E : Eqv PW0 h2 g2 := by
      refine ⟨?_, fun p j hp => ?_, fun p j hp => ?_, ?_⟩
      · rw [k11.1, e10.1, e9.1, e8.1, k5.1, e4.1, e3.1, E0.1]
      · by_cases e : p = 82
        · rw [e, rr]
        · have t : PT p j = false := by
            cases z : PT p j with
            | false => rfl
            | true => rw [PT_W0 p j z] at hp; cases hp
          rw [k11.n e, e10.i p j t, e9.i p j t, e8.i p j (decide_eq_false (by omega))]
          have e5 : h5.2.1 p j = h4.2.1 p j := by
            by_cases e85 : p = 85
            · rw [e85] at hp ⊢
              refine k5.o (Or.inl (Nat.lt_of_not_le fun z => ?_))
              have : PW0 85 j = true := by
                unfold PW0
                rw [Bool.and_eq_true]
                exact ⟨decide_eq_true (by omega), decide_eq_true (by omega)⟩
              rw [this] at hp
              cases hp
            · exact k5.n e85
          rw [e5, e4.i p j t, e3.i p j t, E0.i p j hp]
      · have t : PT p j = false := by
          cases z : PT p j with
          | false => rfl
          | true => rw [PT_W0 p j z] at hp; cases hp
        rw [show g2.2.2.1 p j = g1.2.2.1 p j by rw [k11.2.1], e10.l p j t, e9.l p j t, show h8.2.2.1 p j = h5.2.2.1 p j by rw [l8], show h5.2.2.1 p j = h4.2.2.1 p j by rw [k5.2.1], e4.l p j t, e3.l p j t, E0.l p j hp]
      · rw [show g2.2.2.2 = g1.2.2.2 by rw [k11.2.1], e10.r, e9.r, show h8.2.2.2 = h5.2.2.2 by rw [l8], show h5.2.2.2 = h4.2.2.2 by rw [k5.2.1], e4.r, e3.r, E0.r]
    refine ⟨g2, ?_, E⟩
    obtain ⟨j, hj, rfl⟩ := rgb_of (n := 1) (by decide) ey
    cases D with
    | none =>
      rw [if_pos (show whS (-1) none = -1 from rfl)]
      rfl
    | some b =>
      have lb := hD b rfl
      rw [if_neg (show ¬ whS (-1) (some b) = -1 from fun z => by
        have : nI b = -1 := z
        rw [nl_m1 (by omega)] at this
        exact this)]
      by_cases j0 : j = 0
      · subst j0
        rw [if_neg (show ¬ nI 0 = 1 by decide)]
        rfl
      · have : j = 1 := by omega
        subst this
        rw [if_pos (show nI 1 = 1 from rfl)]
        rfl

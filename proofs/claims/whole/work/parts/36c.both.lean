/-! the richest order: the class's search -/
def GB (h : AH) (B : BBt) : Prop := h.2.1 38 6 = B.1 ∧ h.2.1 38 5 = nI B.2.1 ∧ B.2.1 ≤ 6 ∧ ∀ j, j < B.2.1 → h.2.1 44 j = nI (B.2.2 j)
def GR (h : AH) (pr : Nat → Nat) (k : Nat) : Prop := ∀ j, j < k → h.2.1 43 j = nI (pr j)
theorem GI.go {h0 h h' : AH} {r : Nat → Int32} {n nb nm : Nat} {f : Nat → Cl} (g : GI h0 r n f nb nm h) (e : Eqv PGo h0 h') (k : ∀ p j, 39 ≤ p → p ≤ 42 → h'.2.1 p j = h.2.1 p j) : GI h0 r n f nb nm h' := by
  obtain ⟨_, ⟨r', g2, g3⟩, g4⟩ := g
  refine ⟨e, ⟨r', g2.rows (funext fun j => k _ j (by omega) (by omega)) (funext fun j => k _ j (by omega) (by omega)) (funext fun j => k _ j (by omega) (by omega)), g3⟩, fun c m hc hm => ?_⟩
  rw [k 42 _ (by omega) (by omega)]
  exact g4 c m hc hm
/-- what is done as a row is come to -/
theorem q_goE {h0 h : AH} {r : Nat → Int32} {n nb nm k : Nat} {f : Nat → Cl} {B : BBt} {pr : Nat → Nat} {x1 w x4 : Int32} {rs : Nat → Int32 → Int32 → Int32 → Int32 → AH → Option (Unit × AH)} {Q : AH → Prop} (hk : k ≤ 6) (g : GI h0 r n f nb nm h) (b : GB h B) (rr : GR h pr k) (H : ∀ h1, GI h0 r n f nb nm h1 → GB h1 (upB B w k pr) → GR h1 pr k → ∃ h', f_X0_goOn_l36 S_1 rs FU 38 x1 (nI k) w x4 (nI 0) h1 = some ((), h') ∧ Q h') : ∃ h', f_X0_goOn S_1 rs 38 x1 (nI k) w x4 h = some ((), h') ∧ Q h' := by
  unfold f_X0_goOn
  rw [bs_ (yi_38 h 6), b.1]
  unfold upB at H
  by_cases c : w ≤ B.1
  · rw [if_pos c]
    rw [if_neg (Int32.not_lt.mpr c)] at H
    obtain ⟨h', r1, q⟩ := H h g b rr
    rw [bs_ (show f_X0_goOn_l36 S_1 rs FU 38 x1 (nI k) w x4 (0 : Int32) h = _ from r1)]
    exact ⟨h', rfl, q⟩
  · rw [if_neg c]
    rw [if_pos (Int32.not_le.mp c)] at H
    rw [bs_ (xi_38 h 6 _), bs_ (xi_38 _ 5 _), bs_ (yr_38_3 _), bs_ (yr_38_4 _)]
    obtain ⟨h2, q2, d1, d2, d3, d4⟩ := cpI_of (h := stI (stI h 38 6 w) 38 5 (nI k)) (a := 43) (b := 44) (n0 := 6) (n1 := 6) (sp := 0) (dp := 0) (n := 6) rfl rfl (by decide) (by decide) (by decide)
    rw [bs_ (show cpI S_1 _ 43 (0 : Int32) 44 (0 : Int32) (6 : Int32) = _ from q2)]
    have o : ∀ p j, p ≠ 44 → p ≠ 38 → h2.2.1 p j = h.2.1 p j := fun p j h1 h3 => by
      rw [d3 p j h1, ri_p h3, ri_p h3]
    have e2 : Eqv PGo h0 h2 := by
      have e1 : Eqv PGo h0 (stI (stI h 38 6 w) 38 5 (nI k)) := (g.1.si (PGo_1 (by omega))).si (PGo_1 (by omega))
      refine e1.trans ⟨d1, fun p j n => d3 p j fun z => ?_, fun p j _ => by rw [d2], by rw [d2]⟩
      rw [z, PGo_1 (by omega)] at n
      cases n
    have b2 : GB h2 (w, k, pr) := by
      refine ⟨?_, ?_, hk, fun j hj => ?_⟩
      · rw [d3 38 6 (by decide), ri_k (by decide), stI_s]
      · rw [d3 38 5 (by decide), stI_s]
      · have hj : j < k := hj
        show h2.2.1 44 j = nI (pr j)
        rw [d4 j, if_pos (by omega), ri_p (by decide), ri_p (by decide), show j - 0 + 0 = j by omega]
        exact rr j hj
    have r2 : GR h2 pr k := fun j hj => by
      rw [o 43 j (by decide) (by decide)]
      exact rr j hj
    obtain ⟨h', r1, q⟩ := H h2 (g.go e2 fun p j h1 h3 => o p j (by omega) (by omega)) b2 r2
    rw [bs_ (show f_X0_goOn_l36 S_1 rs FU 38 x1 (nI k) w x4 (0 : Int32) h2 = _ from r1)]
    exact ⟨h', rfl, q⟩
theorem rm_t : ∀ t, t < 10 → rmI (nI t) 16 = nI t ∧ rmI (nI (t + 16)) 16 = nI t ∧ nI t < 16 ∧ ¬ nI (t + 16) < 16 := by decide
theorem q_go {h0 : AH} {r : Nat → Int32} {p n nb nm : Nat} {f : Nat → Cl} (ct : Ct h0 3 r p n f nb nm) (hcl : ∀ m, m < nm → 1 ≤ r (72 + m) ∧ r (72 + m) ≤ 9) : ∀ (d fuel c k : Nat) (w : Int32) (pr : Nat → Nat) (B : BBt) (h : AH), d < fuel → c ≤ 48 → k + d = nm → UC pr k nm → GI h0 r n f nb nm h → GB h B → GR h pr k → ∃ h', f_Go S_1 fuel 38 (nI c) (nI k) w (lfB r nm pr k) h = some ((), h') ∧ GI h0 r n f nb nm h' ∧ GB h' (dfN r n f nb nm d c k w pr B) ∧ GR h' pr k := by
  have h7 := ct.2.2.2.2.2.2.1
  have h6 := ct.2.2.2.2.2.2.2.2
  have over : ∀ (rs : Nat → Int32 → Int32 → Int32 → Int32 → AH → Option (Unit × AH)) (fu k c : Nat) (w x4 : Int32) (h : AH), f_X0_goOn_l36 S_1 rs (fu + 1) 38 (nI c) (nI k) w x4 (nI 6) h = some ((), h) := fun rs fu k c w x4 h => by
    rw [f_X0_goOn_l36]
    rfl
  have skip : ∀ (rs : Nat → Int32 → Int32 → Int32 → Int32 → AH → Option (Unit × AH)) (fu k c j : Nat) (w : Int32) (pr : Nat → Nat) (h : AH), k < 6 → j < 6 → lfB r nm pr k &&& bt j = 0 → f_X0_goOn_l36 S_1 rs (fu + 1) 38 (nI c) (nI k) w (lfB r nm pr k) (nI j) h = f_X0_goOn_l36 S_1 rs fu 38 (nI c) (nI k) w (lfB r nm pr k) (nI (j + 1)) h := fun rs fu k c j w pr h hk hj z => by
    rw [f_X0_goOn_l36]
    unfold f_X0_goOn_l36b
    rw [if_neg (by rw [show (6 : Int32) = nI 6 from rfl, nn_le (by decide) (by omega)]; omega), if_neg (by rw [show (6 : Int32) = nI 6 from rfl, nn_le (by decide) (by omega)]; omega)]
    show (if lfB r nm pr k &&& bt j = 0 then _ else _) = _
    rw [if_pos z]
    unfold f_X0_goOn_l36_j70
    rw [if_pos rfl, lt_e, nI_1]
  intro d
  induction d with
  | zero =>
    intro fuel c k w pr B h hfu hc hk uc g b rr
    obtain ⟨fuel, rfl⟩ : ∃ x, fuel = x + 1 := ⟨fuel - 1, by omega⟩
    have ek : k = nm := by omega
    refine q_goE (Q := fun h' => GI h0 r n f nb nm h' ∧ GB h' (upB B w k pr) ∧ GR h' pr k) (by omega) g b rr fun h1 g1 b1 r1 => ⟨h1, ?_, g1, b1, r1⟩
    by_cases k6 : k = 6
    · rw [show FU = 999999 + 1 from rfl, f_X0_goOn_l36]
      unfold f_X0_goOn_l36b
      rw [if_neg (by decide), if_pos (by rw [k6]; decide)]
    · have e : ∀ (t j fu : Nat), j + t = 6 → t < fu → f_X0_goOn_l36 S_1 (f_Go S_1 fuel) fu 38 (nI c) (nI k) w (lfB r nm pr k) (nI j) h1 = some ((), h1) := by
        intro t
        induction t with
        | zero =>
          intro j fu hj hf
          obtain ⟨fu, rfl⟩ : ∃ x, fu = x + 1 := ⟨fu - 1, by omega⟩
          have : j = 6 := by omega
          rw [this]
          exact over _ _ _ _ _ _ _
        | succ t ih =>
          intro j fu hj hf
          obtain ⟨fu, rfl⟩ : ∃ x, fu = x + 1 := ⟨fu - 1, by omega⟩
          rw [skip _ fu k c j w pr h1 (by omega) (by omega) ?_]
          · exact ih (j + 1) fu (by omega) (by omega)
          · rw [lf_bit h6 (by omega)]
            by_cases cj : j < nm
            · rw [ek] at uc ⊢
              rw [cn_full uc cj, Bool.not_true, Bool.and_false, Bool.and_false]
            · rw [decide_eq_false cj, Bool.false_and]
      exact e 6 0 FU (by omega) (by unfold FU; omega)
  | succ d IH =>
    intro fuel c k w pr B h hfu hc hk uc g b rr
    obtain ⟨fuel, rfl⟩ : ∃ x, fuel = x + 1 := ⟨fuel - 1, by omega⟩
    refine q_goE (Q := fun h' => GI h0 r n f nb nm h' ∧ GB h' (dfN r n f nb nm (d + 1) c k w pr B) ∧ GR h' pr k) (by omega) g b rr fun h1 g1 b1 r1 => ?_
    have e : ∀ (t j fu : Nat) (B : BBt) (h1 : AH), j + t = 6 → t < fu → GI h0 r n f nb nm h1 → GB h1 B → GR h1 pr k → ∃ h', f_X0_goOn_l36 S_1 (f_Go S_1 fuel) fu 38 (nI c) (nI k) w (lfB r nm pr k) (nI j) h1 = some ((), h') ∧ GI h0 r n f nb nm h' ∧ GB h' (fo (chS r n f nb nm d c k w pr) j (nm - j) B) ∧ GR h' pr k := by
      intro t
      induction t with
      | zero =>
        intro j fu B h1 hj hf g1 b1 r1
        obtain ⟨fu, rfl⟩ : ∃ x, fu = x + 1 := ⟨fu - 1, by omega⟩
        have : j = 6 := by omega
        subst this
        rw [show nm - 6 = 0 by omega]
        exact ⟨h1, over _ _ _ _ _ _ _, g1, b1, r1⟩
      | succ t ih =>
        intro j fu B h1 hj hf g1 b1 r1
        obtain ⟨fu, rfl⟩ : ∃ x, fu = x + 1 := ⟨fu - 1, by omega⟩
        by_cases z : lfB r nm pr k &&& bt j = 0
        · rw [skip _ fu k c j w pr h1 (by omega) (by omega) z]
          rw [lf_bit h6 (by omega)] at z
          have nx := ih (j + 1) fu B h1 (by omega) (by omega) g1 b1 r1
          by_cases cj : j < nm
          · rw [decide_eq_true cj, Bool.true_and] at z
            have : chS r n f nb nm d c k w pr B j = B := by
              unfold chS
              refine if_neg fun q => ?_
              rw [Bool.and_eq_true] at q
              rw [decide_eq_true (can_ok hc q.2).1, q.1] at z
              cases z
            rw [show nm - j = (nm - (j + 1)) + 1 by omega]
            show ∃ h', _ ∧ _ ∧ GB h' (fo (chS r n f nb nm d c k w pr) (j + 1) (nm - (j + 1)) (chS r n f nb nm d c k w pr B j)) ∧ _
            rw [this]
            exact nx
          · rw [show nm - (j + 1) = 0 by omega] at nx
            rw [show nm - j = 0 by omega]
            exact nx
        · have z2 := mt (lf_bit (r := r) (pr := pr) (k := k) h6 (show j < 7 by omega)).mpr z
          have z2 : (decide (j < nm) && (decide (r (17 + j) = 1) && ! usd pr k j)) = true := (Bool.not_eq_false _).mp z2
          rw [Bool.and_eq_true, Bool.and_eq_true] at z2
          have cj := of_decide_eq_true z2.1
          have mv := of_decide_eq_true z2.2.1
          have us : usd pr k j = false := by
            have := z2.2.2
            cases e : usd pr k j with
            | false => rfl
            | true => rw [e] at this; cases this
          have hk6 : k < 6 := by omega
          obtain ⟨h2, q2, g2, o2⟩ := q_divAt ct hcl g1 hc cj mv
          have b2 : GB h2 B := ⟨(o2 38 6 (by omega)).trans b1.1, (o2 38 5 (by omega)).trans b1.2.1, b1.2.2.1, fun i hi => (o2 44 i (by omega)).trans (b1.2.2.2 i hi)⟩
          have r2 : GR h2 pr k := fun i hi => (o2 43 i (by omega)).trans (r1 i hi)
          rw [show nm - j = (nm - (j + 1)) + 1 by omega]
          show ∃ h', _ ∧ _ ∧ GB h' (fo (chS r n f nb nm d c k w pr) (j + 1) (nm - (j + 1)) (chS r n f nb nm d c k w pr B j)) ∧ _
          rw [f_X0_goOn_l36]
          unfold f_X0_goOn_l36b
          rw [if_neg (by rw [show (6 : Int32) = nI 6 from rfl, nn_le (by decide) (by omega)]; omega), if_neg (by rw [show (6 : Int32) = nI 6 from rfl, nn_le (by decide) (by omega)]; omega), if_neg (show ¬ lfB r nm pr k &&& ((1 : Int32) <<< (nI j &&& (31 : Int32))) = 0 from z), bs_ (show ckO S_1 h1 38 0 = some () from rfl), bs_ q2]
          dsimp only
          unfold f_X0_goOn_l36_j70
          cases ec : canR r n f nb c j with
          | false =>
            have dv : dvW r n f nb c j = -1 := by unfold dvW; rw [ec]; rfl
            have : chS r n f nb nm d c k w pr B j = B := by
              unfold chS
              rw [ec, Bool.and_false]
              rfl
            rw [dv, if_pos rfl, lt_e, nI_1, this]
            exact ih (j + 1) fu B h2 (by omega) (by omega) g2 b2 r2
          | true =>
            obtain ⟨t1, t2, t9⟩ := tk_ok r n f c j
            obtain ⟨m1, m2, m3, m4⟩ := rm_t (tkN r n f c j) (by omega)
            have c48 := (can_ok hc ec).2
            have dn : ¬ dvW r n f nb c j = -1 := by
              unfold dvW
              rw [ec, if_pos rfl]
              intro q
              rw [nl_m1 (by split <;> omega)] at q
              exact q
            have stp : chS r n f nb nm d c k w pr B j = dfN r n f nb nm d (c + tkN r n f c j) (k + 1) (w + gaR r n f nb c j) (updN pr k j) B := by
              unfold chS
              rw [us, ec]
              rfl
            obtain ⟨h3, hh3⟩ : ∃ h3, h3 = stI h2 43 k (nI j) := ⟨_, rfl⟩
            have e3 : Eqv PGo h0 h3 := by rw [hh3]; exact g2.1.si (PGo_1 (by omega))
            have g3 : GI h0 r n f nb nm h3 := g2.go e3 fun p i h1 h2 => by rw [hh3]; exact ri_p (by omega)
            have b3 : GB h3 B := by
              rw [hh3]
              exact ⟨(ri_p (by decide)).trans b2.1, (ri_p (by decide)).trans b2.2.1, b2.2.2.1, fun i hi => (ri_p (by decide)).trans (b2.2.2.2 i hi)⟩
            have r3 : GR h3 (updN pr k j) (k + 1) := fun i hi => by
              rw [hh3]
              by_cases ei : i = k
              · rw [ei, stI_s, updN_s]
              · rw [ri_k ei, updN_o ei]
                exact r2 i (by omega)
            rw [if_neg dn, bs_ (yr_38_3 h2), bs_ (si_43 h2 _ hk6), ← hh3, stp]
            obtain ⟨h4, q4, g4, b4, r4⟩ := IH fuel (c + tkN r n f c j) (k + 1) (w + gaR r n f nb c j) (updN pr k j) B h3 (by omega) c48 (by omega) (uc.add us cj) g3 b3 r3
            have go : ∀ dv ga : Int32, rmI dv 16 = nI (tkN r n f c j) → ga = gaR r n f nb c j → ∃ h', f_X0_goOn_l36_j110 S_1 (f_Go S_1 fuel) (f_X0_goOn_l36 S_1 (f_Go S_1 fuel) fu) 38 (nI c) (nI k) w (lfB r nm pr k) (nI j) dv ga h3 = some ((), h') ∧ GI h0 r n f nb nm h' ∧ GB h' (fo (chS r n f nb nm d c k w pr) (j + 1) (nm - (j + 1)) (dfN r n f nb nm d (c + tkN r n f c j) (k + 1) (w + gaR r n f nb c j) (updN pr k j) B)) ∧ GR h' pr k := fun dv ga h1 h2 => by
              unfold f_X0_goOn_l36_j110
              rw [bs_ (show ckO S_1 h3 38 0 = some () from rfl), h1, h2, nI_add, nI_1, show lfB r nm pr k &&& (((1 : Int32) <<< (nI j &&& (31 : Int32))) ^^^ -1) = lfB r nm (updN pr k j) (k + 1) from lf_sub h6 (by omega), bs_ q4]
              dsimp only
              rw [lt_e, nI_1]
              refine ih (j + 1) fu _ h4 (by omega) (by omega) g4 b4 fun i hi => ?_
              rw [r4 i (by omega), updN_o (by omega)]
            cases ek : carR r n f nb c j with
            | false =>
              have dv : dvW r n f nb c j = nI (tkN r n f c j) := by
                unfold dvW
                rw [ec, ek, if_pos rfl, if_neg (by decide)]
                rfl
              rw [dv, if_pos m3]
              exact go _ _ m1 (by unfold gaR; rw [ek]; rfl)
            | true =>
              have dv : dvW r n f nb c j = nI (tkN r n f c j + 16) := by
                unfold dvW
                rw [ec, ek, if_pos rfl, if_pos rfl]
              have v9 : h3.2.1 9 j = r (78 + j) := by
                rw [e3.i 9 j (PGo_o 9 j (by omega))]
                exact ct.2.2.1.2.2.2.2.1 j (by omega)
              rw [dv, if_neg m4, bs_ (yr_38_0 h3), bs_ (yr_35_0 h3), bs_ (yr_2_6 h3), bs_ (ai_9 h3 (by omega)), v9]
              exact go _ _ m2 (by unfold gaR; rw [ek]; rfl)
    rw [dfN_s]
    exact e 6 0 FU _ h1 (by omega) (by unfold FU; omega) g1 b1 r1

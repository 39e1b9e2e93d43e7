/-! chains: the other side -/
def P105 (p _j : Nat) : Bool := decide (p = 105)
theorem P105_W0 (p j : Nat) (h : P105 p j = true) : PW0 p j = true := by
  have h := of_decide_eq_true h
  unfold PW0
  rw [Bool.and_eq_true]
  exact ⟨decide_eq_true (by omega), decide_eq_true (by omega)⟩
theorem P105_n {p : Nat} (h : p ≠ 105) (j : Nat) : P105 p j = false := decide_eq_false h
def Lf (h : AH) (u : Nat → Nat) : Prop := ∀ b, b < 7 → h.2.1 105 b = nI (u b)
def updN (u : Nat → Nat) (b w : Nat) : Nat → Nat := fun j => if j = b then w else u j
theorem updN_s (u : Nat → Nat) (b w : Nat) : updN u b w b = w := if_pos rfl
theorem updN_o {u : Nat → Nat} {b w j : Nat} (h : j ≠ b) : updN u b w j = u j := if_neg h
theorem Lf.st {h : AH} {u : Nat → Nat} (k : Lf h u) {b : Nat} (w : Nat) : Lf (stI h 105 b (nI w)) (updN u b w) := by
  intro j hj
  by_cases e : j = b
  · rw [e, stI_s, updN_s]
  · rw [ri_k e, updN_o e]
    exact k j hj
def LB (r : Nat → Int32) (nb to : Nat) (u : Nat → Nat) : Prop := ∀ b, b < nb → dN r nb to b ≤ u b ∧ (dN r nb to b = 7 → u b = 100000000) ∧ u b ≤ 100000000
def UB (r : Nat → Int32) (nb to t : Nat) (u : Nat → Nat) (b : Nat) : Prop := dN r nb to b ≤ t → dN r nb to b < 7 → u b ≤ dN r nb to b
def rlx (r : Nat → Int32) (u : Nat → Nat) (b o : Nat) : Nat := if heS r o b = true then (if u b ≤ u o + 1 then u b else u o + 1) else u b
theorem rlx_le (r : Nat → Int32) (u : Nat → Nat) (b o : Nat) : rlx r u b o ≤ u b := by
  unfold rlx
  split
  · split <;> omega
  · omega
theorem LB.step {r : Nat → Int32} {nb to b o : Nat} {u : Nat → Nat} (h7 : nb ≤ 7) (ht : to < nb) (k : LB r nb to u) (hb : b < nb) (ho : o < nb) : LB r nb to (updN u b (rlx r u b o)) := by
  intro j hj
  by_cases e : j = b
  · rw [e, updN_s]
    obtain ⟨a1, a2, a3⟩ := k b hb
    obtain ⟨b1, b2, b3⟩ := k o ho
    unfold rlx
    by_cases c : heS r o b = true
    · rw [if_pos c]
      have s := dN_step (to := to) hb ho c
      split
      · exact ⟨a1, a2, a3⟩
      · refine ⟨by omega, fun z => ?_, by omega⟩
        have := b2 (dN_far h7 ht hb ho c z)
        omega
    · rw [if_neg c]
      exact ⟨a1, a2, a3⟩
  · rw [updN_o e]
    exact k j hj
theorem UB.le {r : Nat → Int32} {nb to t b : Nat} {u u' : Nat → Nat} (k : UB r nb to t u b) (l : u' b ≤ u b) : UB r nb to t u' b := fun h1 h2 => Nat.le_trans l (k h1 h2)
theorem updN_le {r : Nat → Int32} {u : Nat → Nat} {b o : Nat} (j : Nat) : updN u b (rlx r u b o) j ≤ u j := by
  by_cases e : j = b
  · rw [e, updN_s]; exact rlx_le r u b o
  · rw [updN_o e]; exact Nat.le_refl _
theorem m_l55 {h : AH} {nb to t b : Nat} (hn : h.2.1 82 0 = nI nb) (h7 : nb ≤ 7) (ht : to < nb) (hb : b < nb) (x2 : Int32) : ∀ (m k fu : Nat) (h1 : AH) (u : Nat → Nat), k + m = nb → m < fu → Eqv P105 h h1 → Lf h1 u → LB (h.2.1 82) nb to u → (∀ j, j < nb → UB (h.2.1 82) nb to t u j) → (∀ j, j < b → UB (h.2.1 82) nb to (t + 1) u j) → (∀ o, o < k → heS (h.2.1 82) o b = true → dN (h.2.1 82) nb to o ≤ t → dN (h.2.1 82) nb to o < 7 → u b ≤ dN (h.2.1 82) nb to o + 1) →
    ∃ h' u', f_X11_layLeft_l55 S_1 fu 80 x2 (nI b) (nI k) h1 = some ((80, x2, nI b), h') ∧ Eqv P105 h h' ∧ Lf h' u' ∧ LB (h.2.1 82) nb to u' ∧ (∀ j, j < nb → UB (h.2.1 82) nb to t u' j) ∧ (∀ j, j < b → UB (h.2.1 82) nb to (t + 1) u' j) ∧ (∀ o, o < nb → heS (h.2.1 82) o b = true → dN (h.2.1 82) nb to o ≤ t → dN (h.2.1 82) nb to o < 7 → u' b ≤ dN (h.2.1 82) nb to o + 1) := by
  intro m
  induction m with
  | zero =>
    intro k fu h1 u hk hf e1 i1 i2 i3 i4 i5
    obtain ⟨fu, rfl⟩ : ∃ x, fu = x + 1 := ⟨fu - 1, by omega⟩
    have r1 : h1.2.1 82 = h.2.1 82 := e1.row (P105_n (by decide))
    rw [f_X11_layLeft_l55]
    unfold f_X11_layLeft_l55b
    rw [bs_ (yr_80_3 h1), bs_ (show aI S_1 h1 82 (0 : Int32) = some (h1.2.1 82 0) from ai_82 h1 (j := 0) (by decide)), r1, hn, if_pos (by rw [nn_le (by omega) (by omega)]; omega)]
    exact ⟨h1, u, rfl, e1, i1, i2, i3, i4, fun o ho => i5 o (by omega)⟩
  | succ m ih =>
    intro k fu h1 u hk hf e1 i1 i2 i3 i4 i5
    obtain ⟨fu, rfl⟩ : ∃ x, fu = x + 1 := ⟨fu - 1, by omega⟩
    have r1 : h1.2.1 82 = h.2.1 82 := e1.row (P105_n (by decide))
    have lb := i2 b hb
    have lk := i2 k (by omega)
    rw [f_X11_layLeft_l55]
    unfold f_X11_layLeft_l55b
    rw [bs_ (yr_80_3 h1), bs_ (show aI S_1 h1 82 (0 : Int32) = some (h1.2.1 82 0) from ai_82 h1 (j := 0) (by decide)), r1, hn, if_neg (by rw [nn_le (by omega) (by omega)]; omega), bs_ (yr_80_46 h1), bs_ (ck_80 h1), bs_ (m_hears h1 (show k < 7 by omega) (show b < 7 by omega)), r1]
    dsimp only
    have go : ∀ v : Int32, v = nI (rlx (h.2.1 82) u b k) → ∃ h' u', f_X11_layLeft_l55 S_1 fu 80 x2 (nI b) (nI (k + 1)) (stI h1 105 b v) = some ((80, x2, nI b), h') ∧ Eqv P105 h h' ∧ Lf h' u' ∧ LB (h.2.1 82) nb to u' ∧ (∀ j, j < nb → UB (h.2.1 82) nb to t u' j) ∧ (∀ j, j < b → UB (h.2.1 82) nb to (t + 1) u' j) ∧ (∀ o, o < nb → heS (h.2.1 82) o b = true → dN (h.2.1 82) nb to o ≤ t → dN (h.2.1 82) nb to o < 7 → u' b ≤ dN (h.2.1 82) nb to o + 1) := fun v hv => by
      rw [hv]
      refine ih (k + 1) fu _ (updN u b (rlx (h.2.1 82) u b k)) (by omega) (by omega) (e1.si rfl) (i1.st _) (i2.step h7 ht hb (by omega)) (fun j hj => (i3 j hj).le (updN_le j)) (fun j hj => (i4 j hj).le (updN_le j)) fun o ho he h1 h2 => ?_
      by_cases c : o = k
      · rw [c] at he h1 h2 ⊢
        rw [updN_s]
        have := i3 k (by omega) h1 h2
        unfold rlx
        rw [if_pos he]
        split <;> omega
      · exact Nat.le_trans (updN_le b) (i5 o (by omega) he h1 h2)
    cases eh : heS (h.2.1 82) k b with
    | false =>
      rw [if_pos (show bI false = 0 from rfl), bs_ (yr_80_46 h1), bs_ (ai_105 h1 (by omega)), bs_ (si_105 h1 _ (by omega)), lt_e, nI_1]
      refine go _ ?_
      unfold rlx
      rw [eh, if_neg (by decide)]
      exact i1 b (by omega)
    | true =>
      rw [if_neg (show ¬ bI true = 0 by decide), bs_ (yr_80_46 h1), bs_ (ai_105 h1 (by omega)), bs_ (yr_80_46 h1), bs_ (ai_105 h1 (by omega)), i1 k (by omega), i1 b (by omega), nI_1]
      by_cases c : u b ≤ u k + 1
      · rw [if_pos (by rw [nn_le (by omega) (by omega)]; exact c), bs_ (yr_80_46 h1), bs_ (ai_105 h1 (by omega)), bs_ (si_105 h1 _ (by omega)), lt_e, nI_1]
        refine go _ ?_
        unfold rlx
        rw [eh, if_pos rfl, if_pos c]
        exact i1 b (by omega)
      · rw [if_neg (by rw [nn_le (by omega) (by omega)]; exact c), bs_ (yr_80_46 h1), bs_ (ai_105 h1 (by omega)), i1 k (by omega), nI_1, bs_ (si_105 h1 _ (by omega)), lt_e, nI_1]
        refine go _ ?_
        unfold rlx
        rw [eh, if_pos rfl, if_neg c]
theorem m_l42 {h : AH} {nb to t : Nat} (hn : h.2.1 82 0 = nI nb) (h7 : nb ≤ 7) (ht : to < nb) (x2 : Int32) : ∀ (m b fu : Nat) (h1 : AH) (u : Nat → Nat), b + m = nb → m < fu → Eqv P105 h h1 → Lf h1 u → LB (h.2.1 82) nb to u → (∀ j, j < nb → UB (h.2.1 82) nb to t u j) → (∀ j, j < b → UB (h.2.1 82) nb to (t + 1) u j) →
    ∃ h' u', f_X11_layLeft_l42 S_1 fu 80 x2 (nI b) h1 = some ((80, x2), h') ∧ Eqv P105 h h' ∧ Lf h' u' ∧ LB (h.2.1 82) nb to u' ∧ (∀ j, j < nb → UB (h.2.1 82) nb to (t + 1) u' j) := by
  intro m
  induction m with
  | zero =>
    intro b fu h1 u hk hf e1 i1 i2 i3 i4
    obtain ⟨fu, rfl⟩ : ∃ x, fu = x + 1 := ⟨fu - 1, by omega⟩
    have r1 : h1.2.1 82 = h.2.1 82 := e1.row (P105_n (by decide))
    rw [f_X11_layLeft_l42]
    unfold f_X11_layLeft_l42b
    rw [bs_ (yr_80_3 h1), bs_ (show aI S_1 h1 82 (0 : Int32) = some (h1.2.1 82 0) from ai_82 h1 (j := 0) (by decide)), r1, hn, if_pos (by rw [nn_le (by omega) (by omega)]; omega)]
    exact ⟨h1, u, rfl, e1, i1, i2, fun j hj => i4 j (by omega)⟩
  | succ m ih =>
    intro b fu h1 u hk hf e1 i1 i2 i3 i4
    obtain ⟨fu, rfl⟩ : ∃ x, fu = x + 1 := ⟨fu - 1, by omega⟩
    have r1 : h1.2.1 82 = h.2.1 82 := e1.row (P105_n (by decide))
    obtain ⟨h2, u2, q1, q2, q3, q4, q5, q6, q7⟩ := m_l55 (t := t) hn h7 ht (show b < nb by omega) x2 nb 0 FU h1 u (by omega) (by unfold FU; omega) e1 i1 i2 i3 i4 fun o ho => by omega
    rw [f_X11_layLeft_l42]
    unfold f_X11_layLeft_l42b
    rw [bs_ (yr_80_3 h1), bs_ (show aI S_1 h1 82 (0 : Int32) = some (h1.2.1 82 0) from ai_82 h1 (j := 0) (by decide)), r1, hn, if_neg (by rw [nn_le (by omega) (by omega)]; omega), bs_ (show f_X11_layLeft_l55 S_1 FU 80 x2 (nI b) (0 : Int32) h1 = _ from q1)]
    dsimp only
    rw [lt_e, nI_1]
    refine ih (b + 1) fu h2 u2 (by omega) (by omega) q2 q3 q4 q5 fun j hj => ?_
    by_cases c : j = b
    · rw [c]
      intro h1 h2
      by_cases c2 : dN (h.2.1 82) nb to b ≤ t
      · exact q5 b (by omega) c2 h2
      · obtain ⟨_, o, ho, a1, a2⟩ := dN_prev (r := h.2.1 82) (nb := nb) (to := to) (b := b) (d := dN (h.2.1 82) nb to b - 1) (by omega) (by omega)
        have := q7 o ho a1 (by omega) (by omega)
        omega
    · exact q6 j (by omega)
theorem m_l34 {h : AH} {nb to : Nat} (hn : h.2.1 82 0 = nI nb) (h7 : nb ≤ 7) (ht : to < nb) : ∀ (m t fu : Nat) (h1 : AH) (u : Nat → Nat), t + m = 7 → m < fu → Eqv P105 h h1 → Lf h1 u → LB (h.2.1 82) nb to u → (∀ j, j < nb → UB (h.2.1 82) nb to t u j) →
    ∃ h' u', f_X11_layLeft_l34 S_1 fu 80 (nI t) h1 = some ((), h') ∧ Eqv P105 h h' ∧ Lf h' u' ∧ LB (h.2.1 82) nb to u' ∧ (∀ j, j < nb → UB (h.2.1 82) nb to 7 u' j) := by
  intro m
  induction m with
  | zero =>
    intro t fu h1 u hk hf e1 i1 i2 i3
    obtain ⟨fu, rfl⟩ : ∃ x, fu = x + 1 := ⟨fu - 1, by omega⟩
    have : t = 7 := by omega
    subst this
    rw [f_X11_layLeft_l34]
    exact ⟨h1, u, rfl, e1, i1, i2, i3⟩
  | succ m ih =>
    intro t fu h1 u hk hf e1 i1 i2 i3
    obtain ⟨fu, rfl⟩ : ∃ x, fu = x + 1 := ⟨fu - 1, by omega⟩
    have n7 : ¬ (7 : Int32) ≤ nI t := by
      rw [show (7 : Int32) = nI 7 from rfl, nn_le (by decide) (by omega)]
      omega
    obtain ⟨h2, u2, q1, q2, q3, q4, q5⟩ := m_l42 (t := t) hn h7 ht (nI t) nb 0 FU h1 u (by omega) (by unfold FU; omega) e1 i1 i2 i3 fun j hj => by omega
    rw [f_X11_layLeft_l34]
    unfold f_X11_layLeft_l34b
    rw [if_neg n7, bs_ (show f_X11_layLeft_l42 S_1 FU 80 (nI t) (0 : Int32) h1 = _ from q1)]
    dsimp only
    rw [lt_e, nI_1]
    exact ih (t + 1) fu h2 u2 (by omega) (by omega) q2 q3 q4 q5
def u0 (to b : Nat) : Nat := if b = to then 0 else 100000000
theorem m_l2 {h : AH} {to : Nat} (ht : to < 7) : ∀ (m k fu : Nat) (h1 : AH), k + m = 7 → m < fu → Eqv P105 h h1 → (∀ b, b < k → h1.2.1 105 b = nI (u0 to b)) → ∃ h', f_X11_layLeft_l2 S_1 fu 80 (nI to) (nI k) h1 = some (80, h') ∧ Eqv P105 h h' ∧ Lf h' (u0 to) := by
  intro m
  induction m with
  | zero =>
    intro k fu h1 hk hf e1 v1
    obtain ⟨fu, rfl⟩ : ∃ x, fu = x + 1 := ⟨fu - 1, by omega⟩
    have : k = 7 := by omega
    subst this
    rw [f_X11_layLeft_l2]
    exact ⟨h1, rfl, e1, v1⟩
  | succ m ih =>
    intro k fu h1 hk hf e1 v1
    obtain ⟨fu, rfl⟩ : ∃ x, fu = x + 1 := ⟨fu - 1, by omega⟩
    have n7 : ¬ (7 : Int32) ≤ nI k := by
      rw [show (7 : Int32) = nI 7 from rfl, nn_le (by decide) (by omega)]
      omega
    rw [f_X11_layLeft_l2]
    unfold f_X11_layLeft_l2b
    rw [if_neg n7, bs_ (yr_80_46 h1)]
    have go : ∀ v : Int32, v = nI (u0 to k) → ∀ b, b < k + 1 → (stI h1 105 k v).2.1 105 b = nI (u0 to b) := fun v hv b hb => by
      by_cases d : b = k
      · rw [d, stI_s, hv]
      · rw [ri_k d]
        exact v1 b (by omega)
    by_cases c : k = to
    · rw [if_pos (by rw [c]), bs_ (si_105 h1 _ (by omega)), lt_e, nI_1]
      exact ih (k + 1) fu _ (by omega) (by omega) (e1.si rfl) (go _ (by unfold u0; rw [if_pos c]; rfl))
    · rw [if_neg (by rw [nn_eq (by omega) (by omega)]; exact c), bs_ (si_105 h1 _ (by omega)), lt_e, nI_1]
      exact ih (k + 1) fu _ (by omega) (by omega) (e1.si rfl) (go _ (by unfold u0; rw [if_neg c]; rfl))
def uD (r : Nat → Int32) (nb to b : Nat) : Nat := if dN r nb to b = 7 then 100000000 else dN r nb to b
theorem m_layLeft {h : AH} {nb to : Nat} (hn : h.2.1 82 0 = nI nb) (h7 : nb ≤ 7) (ht : to < nb) : ∃ h', f_X11_layLeft S_1 80 (nI to) h = some ((), h') ∧ Eqv P105 h h' ∧ ∀ b, b < nb → h'.2.1 105 b = nI (uD (h.2.1 82) nb to b) := by
  obtain ⟨h1, r1, e1, l1⟩ := m_l2 (h := h) (show to < 7 by omega) 7 0 FU h (by omega) (by unfold FU; omega) (Eqv.refl h) fun b hb => by omega
  have i2 : LB (h.2.1 82) nb to (u0 to) := fun b hb => by
    have l := dN_le (h.2.1 82) nb to b
    unfold u0
    by_cases c : b = to
    · have := (dN_to (h.2.1 82) nb to b).mpr c
      rw [if_pos c]
      exact ⟨by omega, fun z => by omega, by omega⟩
    · rw [if_neg c]
      exact ⟨by omega, fun _ => rfl, by omega⟩
  have i3 : ∀ j, j < nb → UB (h.2.1 82) nb to 0 (u0 to) j := fun j hj a _ => by
    have := (dN_to (h.2.1 82) nb to j).mp (by omega)
    unfold u0
    rw [if_pos this]
    omega
  obtain ⟨h2, u2, r2, e2, l2, j2, j3⟩ := m_l34 hn h7 ht 7 0 FU h1 (u0 to) (by omega) (by unfold FU; omega) e1 l1 i2 i3
  refine ⟨h2, ?_, e2, fun b hb => ?_⟩
  · unfold f_X11_layLeft
    rw [bs_ (show f_X11_layLeft_l2 S_1 FU 80 (nI to) (0 : Int32) h = _ from r1)]
    dsimp only
    rw [bs_ (show f_X11_layLeft_l34 S_1 FU 80 (0 : Int32) h1 = _ from r2)]
  · rw [l2 b (by omega)]
    have l := dN_le (h.2.1 82) nb to b
    obtain ⟨a1, a2, a3⟩ := j2 b hb
    unfold uD
    by_cases c : dN (h.2.1 82) nb to b = 7
    · rw [if_pos c, a2 c]
    · have := j3 b hb (by omega) (by omega)
      rw [if_neg c, show u2 b = dN (h.2.1 82) nb to b by omega]
theorem m_l84 {h : AH} {nb to b : Nat} (h7 : nb ≤ 7) (v : ∀ b, b < nb → h.2.1 105 b = nI (uD (h.2.1 82) nb to b)) (hb : b < nb) (h0 : dN (h.2.1 82) nb to b ≠ 0) (h9 : dN (h.2.1 82) nb to b ≠ 7) (x3 x5 : Int32) : ∀ (m k fu : Nat), k + m = nb → m < fu → (∃ j, k ≤ j ∧ j < k + m ∧ nxG (h.2.1 82) nb to b j = true) → f_X11_chain_l84 S_1 fu 80 x3 (nI b) x5 (nI k) h = some ((80, x3, x5, fst (nxG (h.2.1 82) nb to b) k m), h) := by
  have l := dN_le (h.2.1 82) nb to b
  obtain ⟨d, ed⟩ : ∃ d, dN (h.2.1 82) nb to b = d + 1 := ⟨dN (h.2.1 82) nb to b - 1, by omega⟩
  have vb : h.2.1 105 b = nI (d + 1) := by
    rw [v b hb]
    unfold uD
    rw [if_neg h9, ed]
  intro m
  induction m with
  | zero => exact fun k fu _ _ ⟨j, h1, h2, _⟩ => by omega
  | succ m ih =>
    intro k fu hk hf hj
    obtain ⟨fu, rfl⟩ : ∃ x, fu = x + 1 := ⟨fu - 1, by omega⟩
    have rest : nxG (h.2.1 82) nb to b k = false → f_X11_chain_l84 S_1 fu 80 x3 (nI b) x5 (nI (k + 1)) h = some ((80, x3, x5, fst (nxG (h.2.1 82) nb to b) (k + 1) m), h) := fun e => by
      refine ih (k + 1) fu (by omega) (by omega) ?_
      obtain ⟨j, h1, h2, h3⟩ := hj
      have : j ≠ k := fun z => by rw [z, e] at h3; cases h3
      exact ⟨j, by omega, by omega, h3⟩
    have vk : (h.2.1 105 k = nI d) ↔ (dN (h.2.1 82) nb to k + 1 = dN (h.2.1 82) nb to b) := by
      have lk := dN_le (h.2.1 82) nb to k
      rw [v k (by omega), ed]
      unfold uD
      by_cases c : dN (h.2.1 82) nb to k = 7
      · rw [if_pos c, nn_eq (by omega) (by omega)]
        omega
      · rw [if_neg c, nn_eq (by omega) (by omega)]
        omega
    rw [f_X11_chain_l84]
    unfold f_X11_chain_l84b
    rw [bs_ (ck_80 h), bs_ (m_hears h (show k < 7 by omega) (show b < 7 by omega)), fst]
    dsimp only
    cases eh : heS (h.2.1 82) k b with
    | false =>
      have e : nxG (h.2.1 82) nb to b k = false := by unfold nxG; rw [eh, Bool.and_false]
      rw [if_pos (show bI false = 0 from rfl), lt_e, nI_1, rest e, e]
      rfl
    | true =>
      rw [if_neg (show ¬ bI true = 0 by decide), bs_ (yr_80_46 h), bs_ (ai_105 h (by omega)), bs_ (yr_80_46 h), bs_ (ai_105 h (by omega)), vb, nI_pre]
      by_cases c : h.2.1 105 k = nI d
      · have e : nxG (h.2.1 82) nb to b k = true := by unfold nxG; rw [eh, Bool.and_true]; exact decide_eq_true (vk.mp c)
        rw [if_pos c, e, if_pos rfl]
      · have e : nxG (h.2.1 82) nb to b k = false := by unfold nxG; rw [eh, Bool.and_true]; exact decide_eq_false fun z => c (vk.mpr z)
        rw [if_neg c, lt_e, nI_1, rest e, e]
        rfl
theorem m_l75 {h : AH} {nb to i : Nat} (h7 : nb ≤ 7) (hi : i < 7) (v : ∀ b, b < nb → h.2.1 105 b = nI (uD (h.2.1 82) nb to b)) : ∀ (m k fu b : Nat), k + m = i + 1 → m < fu → b < nb → m ≤ dN (h.2.1 82) nb to b → dN (h.2.1 82) nb to b ≠ 7 → f_X11_chain_l75 S_1 fu 80 (nI i) (nI b) (nI k) h = some (nI (chN (h.2.1 82) nb to m b), h) := by
  intro m
  induction m with
  | zero =>
    intro k fu b hk hf hb _ _
    obtain ⟨fu, rfl⟩ : ∃ x, fu = x + 1 := ⟨fu - 1, by omega⟩
    rw [f_X11_chain_l75]
    unfold f_X11_chain_l75b
    rw [if_pos (by rw [nn_lt (by omega) (by omega)]; omega)]
    rfl
  | succ m ih =>
    intro k fu b hk hf hb hm hd
    obtain ⟨fu, rfl⟩ : ∃ x, fu = x + 1 := ⟨fu - 1, by omega⟩
    have l := dN_le (h.2.1 82) nb to b
    obtain ⟨x1, x2, x3⟩ := nx_ok (r := h.2.1 82) (to := to) (b := b) h7 (by omega) hd
    have hj : ∃ j, 0 ≤ j ∧ j < 0 + nb ∧ nxG (h.2.1 82) nb to b j = true := by
      obtain ⟨_, o, ho, e1, e2⟩ := dN_prev (r := h.2.1 82) (nb := nb) (to := to) (b := b) (d := dN (h.2.1 82) nb to b - 1) (by omega) (by omega)
      refine ⟨o, Nat.zero_le o, by omega, ?_⟩
      unfold nxG
      rw [e1, e2, decide_eq_true (by omega)]
      rfl
    have q := m_l84 h7 v hb (by omega) hd (nI i) (nI k) nb 0 FU (by omega) (by unfold FU; omega) hj
    rw [f_X11_chain_l75]
    unfold f_X11_chain_l75b
    rw [if_neg (by rw [nn_lt (by omega) (by omega)]; omega), bs_ (show f_X11_chain_l84 S_1 FU 80 (nI i) (nI b) (nI k) (0 : Int32) h = _ from q)]
    dsimp only
    rw [lt_e, nI_1, x3]
    exact ih (k + 1) fu (nxN (h.2.1 82) nb to b) (by omega) (by omega) x1 (by omega) (by omega)
def chV (r : Nat → Int32) (nb to a : Nat) (x : Int32) : Int32 := if dN r nb to a = 7 then -1 else if x = -1 then nI (dN r nb to a) else if x < 0 then -1 else if nI (dN r nb to a) ≤ x then -1 else nI (chN r nb to (x.toNatClampNeg + 1) a)
theorem q_chain {h : AH} {r : Nat → Int32} {p n nb nm a c : Nat} {f : Nat → Cl} (ct : Ct h 3 r p n f nb nm) (ha : a < nb) (hc : c < nb) (x : Int32) : Qy PW0 h (f_X10_chain S_1 0 (nI a) (nI c) x h) (chV r nb c a x) := by
  have h7 := ct.2.2.2.2.2.2.1
  have l := dN_le r nb c a
  obtain ⟨h1, r1, e1, v1⟩ := q_hops ct.2.1 ct.2.2.1 ct.2.2.2.2.2.1 h7 hc ha
  have ea := inb_n h7 ha
  have ec := inb_n h7 hc
  unfold f_X10_chain chV
  rw [bs_ (yr_0_2 h), bs_ (ck_2 h), bs_ (q_hasB ct (nI a)), ea]
  dsimp only
  rw [if_neg (show ¬ bI true = 0 by decide), bs_ (yr_0_2 h), bs_ (ck_2 h), bs_ (q_hasB ct (nI c)), ec]
  dsimp only
  rw [if_neg (show ¬ bI true = 0 by decide), bs_ (yr_0_10 h), bs_ (yr_0_2 h), bs_ (yr_2_0 h), bs_ (ck_35 h), bs_ r1]
  dsimp only
  have E := e1.mono P36_W0
  by_cases c7 : dN r nb c a = 7
  · have e : hv r nb c 6 a = -1 := hv_no.mpr (by
      cases z : rch r nb c 6 a with
      | false => rfl
      | true =>
        have := (dN_iff (by decide)).mp z
        omega)
    rw [if_pos c7, e]
    by_cases c1 : x = -1
    · rw [if_pos c1]; exact Qy.ret E
    · rw [if_neg c1, if_pos rfl]; exact Qy.ret E
  · have e : hv r nb c 6 a = nI (dN r nb c a) := (hv_is (by decide) (by omega)).mpr rfl
    rw [if_neg c7, e]
    by_cases c1 : x = -1
    · rw [if_pos c1, if_pos c1]; exact Qy.ret E
    · rw [if_neg c1, if_neg c1, if_neg (show ¬ nI (dN r nb c a) = -1 by rw [nl_m1 (by omega)]; exact id)]
      by_cases c2 : x < 0
      · rw [if_pos c2, if_pos c2]; exact Qy.ret E
      · rw [if_neg c2, if_neg c2]
        by_cases c3 : nI (dN r nb c a) ≤ x
        · rw [if_pos c3, if_pos c3]; exact Qy.ret E
        · obtain ⟨j, hj, rfl⟩ := nI_of c2
          rw [if_neg c3, if_neg c3, bs_ (yr_0_10 h1), bs_ (yr_0_2 h1), bs_ (yr_2_0 h1), bs_ (ck_35 h1), nI_clamp hj]
          rw [nn_le (by omega) hj] at c3
          have q := q_chainBird (to := c) (i := j) (e1.st36 ct.2.1) (e1.ro36 ct.2.2.1) ct.2.2.2.2.2.1 h7 (by omega) v1 (j + 1) 0 FU a (by omega) (by unfold FU; omega) ha (by omega) c7
          have q2 : f_X1_chainBird S_1 35 3 (nI a) (nI j) h1 = some (nI (chN r nb c (j + 1) a), h1) := by
            unfold f_X1_chainBird
            rw [bs_ (show f_X1_chainBird_l6 S_1 FU 35 3 (nI j) (nI a) (0 : Int32) h1 = _ from q)]
          rw [bs_ q2]
          exact Qy.ret E
theorem m_chain {h : AH} {n nb nm a c : Nat} {f : Nat → Cl} (c2 : CM h n f nb nm) (ha : a < nb) (hc : c < nb) (x : Int32) : Qy PW0 h (f_X11_chain S_1 80 (nI a) (nI c) x h) (chV (h.2.1 82) nb c a x) := by
  have h7 := c2.2.2.2.1
  have l := dN_le (h.2.1 82) nb c a
  obtain ⟨h0, hh0⟩ : ∃ h0, h0 = stI h 80 0 0 := ⟨_, rfl⟩
  have r0 : h0.2.1 82 = h.2.1 82 := by rw [hh0]; exact funext fun j => ri_p (by decide)
  have c0 : CM h0 n f nb nm := c2.z r0 (by rw [hh0]; exact ri_k (by decide))
  have E0 : Eqv PW0 h h0 := by rw [hh0]; exact (Eqv.refl h).si rfl
  obtain ⟨h1, q1, e1, v1⟩ := m_layLeft (h := h0) c0.2.2.1 h7 hc
  have rr : h1.2.1 82 = h0.2.1 82 := e1.row (P105_n (by decide))
  have E1 := E0.trans (e1.mono P105_W0)
  unfold f_X11_chain
  rw [bs_ (show pI S_1 h 80 11 0 (0 : Int32) = some (stI h 80 0 0) from rfl), ← hh0, bs_ (ck_80 h0), bs_ (mi_B c0 (nI a)), inb_n h7 ha]
  dsimp only
  rw [if_neg (show ¬ bI true = 0 by decide), bs_ (ck_80 h0), bs_ (mi_B c0 (nI c)), inb_n h7 hc]
  dsimp only
  rw [if_neg (show ¬ bI true = 0 by decide)]
  have i1 : (-1 : Int32).toInt = -1 := by decide
  have i0 : (0 : Int32).toInt = 0 := by decide
  unfold chV
  by_cases cx : (-1 : Int32) ≤ x
  · rw [if_pos cx, bs_ (ck_80 h0), bs_ q1]
    dsimp only
    rw [bs_ (yr_80_46 h1), bs_ (ai_105 h1 (by omega)), v1 a ha, r0]
    by_cases c7 : dN (h.2.1 82) nb c a = 7
    · rw [if_pos c7, show uD (h.2.1 82) nb c a = 100000000 from if_pos c7, if_pos (show nI 100000000 = (100000000 : Int32) from rfl)]
      exact Qy.ret E1
    · have eu : uD (h.2.1 82) nb c a = dN (h.2.1 82) nb c a := if_neg c7
      rw [if_neg c7, eu, if_neg (show ¬ nI (dN (h.2.1 82) nb c a) = (100000000 : Int32) by rw [show (100000000 : Int32) = nI 100000000 from rfl, nn_eq (by omega) (by omega)]; omega), bs_ (yr_80_46 h1), bs_ (ai_105 h1 (by omega)), v1 a ha, r0, eu]
      by_cases c1 : x = -1
      · rw [if_pos c1, c1, if_pos (by rw [Int32.lt_iff_toInt_lt, i1, nI_toInt (by omega)]; omega), if_pos rfl, bs_ (yr_80_46 h1), bs_ (ai_105 h1 (by omega)), v1 a ha, r0, eu]
        exact Qy.ret E1
      · have cn : ¬ x < 0 := fun z => by
          have a1 := Int32.lt_iff_toInt_lt.mp z
          have a2 := Int32.le_iff_toInt_le.mp cx
          have a3 : x.toInt ≠ -1 := fun z => c1 (Int32.toInt_inj.mp (z.trans i1.symm))
          omega
        obtain ⟨j, hj, rfl⟩ := nI_of cn
        rw [if_neg c1, if_neg cn, if_neg c1, nI_clamp hj]
        by_cases c3 : nI (dN (h.2.1 82) nb c a) ≤ nI j
        · rw [if_pos c3, if_neg (Int32.not_lt.mpr c3)]
          exact Qy.ret E1
        · rw [if_neg c3, if_pos (Int32.not_le.mp c3)]
          rw [nn_le (by omega) hj] at c3
          have q := m_l75 (h := h1) (to := c) (i := j) h7 (by omega) (fun b hb => by rw [rr]; exact v1 b hb) (j + 1) 0 FU a (by omega) (by unfold FU; omega) ha (by rw [rr, r0]; omega) (by rw [rr, r0]; exact c7)
          rw [rr, r0] at q
          rw [bs_ (show f_X11_chain_l75 S_1 FU 80 (nI j) (nI a) (0 : Int32) h1 = _ from q)]
          exact Qy.ret E1
  · have c1 : ¬ x = -1 := fun z => cx (by rw [z]; exact Int32.le_refl _)
    have cn : x < 0 := by
      have a2 := mt Int32.le_iff_toInt_le.mpr cx
      rw [Int32.lt_iff_toInt_lt]
      omega
    rw [if_neg cx, if_neg c1, if_pos cn]
    have : (if dN (h.2.1 82) nb c a = 7 then (-1 : Int32) else -1) = -1 := by split <;> rfl
    rw [this]
    exact Qy.ret E0
theorem bo_chain {h : AH} (k : Rel h) (x y z : Int32) : Bo h (f_X10_chain S_1 0 x y z) (f_X11_chain S_1 80 x y z) := by
  obtain ⟨st, nb, nm, nh, nl, k0⟩ := id k
  obtain ⟨p, n, f, ct, cm⟩ := k0.law
  have h7 := cm.2.2.2.1
  cases ex : inb x nb with
  | false =>
    refine both_q2 (v := -1) (fun _ => rfl) k ?_ (fun h2 e2 => ?_)
    · unfold f_X10_chain
      simp (disch := first | rfl | decide | omega | (simp (disch := first | omega | decide) only [nI_l1, nI_l2, nI_l3, nI_l4, nI_add, nI_mul_]; exact ix_n (by omega) (by omega)) | (exact ix_n (by omega) (by omega)) | (exact ix_l (by decide) (by decide)) | assumption) only [↓bs_ (q_hasB ct x), ex, ↓zI, ↓zP, ↓zZ, ↓zC, ↓zJ, ↓zQ, ↓zE, ↓zK, ↓zF, ↓zD, ↓zr_0_0, ↓zr_0_2, ↓zr_0_3, ↓zr_0_4, ↓zr_0_5, ↓zr_0_6, ↓zr_0_7, ↓zr_0_8, ↓zr_0_9, ↓zr_0_10, ↓zr_0_11, ↓zr_0_12, ↓zr_0_13, ↓zr_2_0, ↓zr_2_2, ↓zr_2_3, ↓zr_2_5, ↓zr_2_6, ↓zr_2_11, ↓zr_2_13, ↓zr_2_14, ↓zr_3_0, ↓zr_3_1, ↓zr_12_0, ↓zr_12_1, ↓zr_16_0, ↓zr_16_1, ↓zr_19_0, ↓zr_19_1, ↓zr_22_0, ↓zr_22_1, ↓zr_25_0, ↓zr_25_1, ↓zr_28_0, ↓zr_29_0, ↓zr_29_1, ↓zr_32_0, ↓zr_32_1, ↓zr_35_0, ↓zr_35_1, ↓zr_35_4, ↓zr_35_5, ↓zr_38_0, ↓zr_38_1, ↓zr_38_2, ↓zr_38_3, ↓zr_38_4, ↓zr_39_0, ↓zr_39_1, ↓zr_45_0, ↓zr_45_1, ↓zr_46_0, ↓zr_46_1, ↓zr_46_2, ↓zr_50_0, ↓zr_50_1, ↓zr_54_0, ↓zr_54_2, ↓zr_54_3, ↓zr_54_5, ↓zr_54_6, ↓zr_54_11, ↓zr_54_13, ↓zr_54_14, ↓zr_55_0, ↓zr_55_1, ↓zr_64_0, ↓zr_64_1, ↓zr_67_0, ↓zr_67_2, ↓zr_67_3, ↓zr_67_5, ↓zr_67_6, ↓zr_67_11, ↓zr_67_13, ↓zr_67_14, ↓zr_68_0, ↓zr_68_1, ↓zr_77_0, ↓zr_77_1, ↓zr_80_2, ↓zr_80_3, ↓zr_80_4, ↓zr_80_5, ↓zr_80_6, ↓zr_80_7, ↓zr_80_9, ↓zr_80_10, ↓zr_80_12, ↓zr_80_22, ↓zr_80_24, ↓zr_80_25, ↓zr_80_27, ↓zr_80_28, ↓zr_80_31, ↓zr_80_32, ↓zr_80_33, ↓zr_80_35, ↓zr_80_36, ↓zr_80_37, ↓zr_80_41, ↓zr_80_42, ↓zr_80_43, ↓zr_80_44, ↓zr_80_46, ↓zr_80_47, ↓zr_80_48, ↓zr_80_49, ↓zr_80_55, ↓za_1, ↓zs_1, ↓zl_1, ↓za_4, ↓zs_4, ↓zl_4, ↓za_5, ↓zs_5, ↓zl_5, ↓za_6, ↓zs_6, ↓zl_6, ↓za_7, ↓zs_7, ↓zl_7, ↓za_8, ↓zs_8, ↓zl_8, ↓za_9, ↓zs_9, ↓zl_9, ↓za_10, ↓zs_10, ↓zl_10, ↓za_17, ↓zs_17, ↓zl_17, ↓za_18, ↓zs_18, ↓zl_18, ↓za_20, ↓zs_20, ↓zl_20, ↓za_21, ↓zs_21, ↓zl_21, ↓za_23, ↓zs_23, ↓zl_23, ↓za_24, ↓zs_24, ↓zl_24, ↓za_26, ↓zs_26, ↓zl_26, ↓za_27, ↓zs_27, ↓zl_27, ↓za_30, ↓zs_30, ↓zl_30, ↓za_31, ↓zs_31, ↓zl_31, ↓za_33, ↓zs_33, ↓zl_33, ↓za_34, ↓zs_34, ↓zl_34, ↓za_36, ↓zs_36, ↓zl_36, ↓za_37, ↓zs_37, ↓zl_37, ↓za_40, ↓zs_40, ↓zl_40, ↓za_41, ↓zs_41, ↓zl_41, ↓za_42, ↓zs_42, ↓zl_42, ↓za_43, ↓zs_43, ↓zl_43, ↓za_44, ↓zs_44, ↓zl_44, ↓za_47, ↓zs_47, ↓zl_47, ↓za_48, ↓zs_48, ↓zl_48, ↓za_49, ↓zs_49, ↓zl_49, ↓za_51, ↓zs_51, ↓zl_51, ↓za_52, ↓zs_52, ↓zl_52, ↓za_53, ↓zs_53, ↓zl_53, ↓za_56, ↓zs_56, ↓zl_56, ↓za_57, ↓zs_57, ↓zl_57, ↓za_58, ↓zs_58, ↓zl_58, ↓za_59, ↓zs_59, ↓zl_59, ↓za_60, ↓zs_60, ↓zl_60, ↓za_61, ↓zs_61, ↓zl_61, ↓za_62, ↓zs_62, ↓zl_62, ↓za_69, ↓zs_69, ↓zl_69, ↓za_70, ↓zs_70, ↓zl_70, ↓za_71, ↓zs_71, ↓zl_71, ↓za_72, ↓zs_72, ↓zl_72, ↓za_73, ↓zs_73, ↓zl_73, ↓za_74, ↓zs_74, ↓zl_74, ↓za_75, ↓zs_75, ↓zl_75, ↓za_81, ↓zs_81, ↓zl_81, ↓za_82, ↓zs_82, ↓zl_82, ↓za_83, ↓zs_83, ↓zl_83, ↓za_84, ↓zs_84, ↓zl_84, ↓za_85, ↓zs_85, ↓zl_85, ↓za_86, ↓zs_86, ↓zl_86, ↓za_87, ↓zs_87, ↓zl_87, ↓za_88, ↓zs_88, ↓zl_88, ↓za_89, ↓zs_89, ↓zl_89, ↓za_90, ↓zs_90, ↓zl_90, ↓za_91, ↓zs_91, ↓zl_91, ↓za_92, ↓zs_92, ↓zl_92, ↓za_93, ↓zs_93, ↓zl_93, ↓za_94, ↓zs_94, ↓zl_94, ↓za_95, ↓zs_95, ↓zl_95, ↓za_96, ↓zs_96, ↓zl_96, ↓za_97, ↓zs_97, ↓zl_97, ↓za_98, ↓zs_98, ↓zl_98, ↓za_99, ↓zs_99, ↓zl_99, ↓za_100, ↓zs_100, ↓zl_100, ↓za_101, ↓zs_101, ↓zl_101, ↓za_102, ↓zs_102, ↓zl_102, ↓za_103, ↓zs_103, ↓zl_103, ↓za_104, ↓zs_104, ↓zl_104, ↓za_105, ↓zs_105, ↓zl_105, ↓za_106, ↓zs_106, ↓zl_106, ↓za_107, ↓zs_107, ↓zl_107, ↓za_108, ↓zs_108, ↓zl_108, ↓za_109, ↓zs_109, ↓zl_109, hand_id, n01, n05, ob, Nat.zero_le, Nat.not_lt_zero, i10, i01, i12, i21, i20, i02, nl_le1, nl_le2, nl_lt1, nl_lt2, nl_eq1, nl_eq2, nn_le, nn_lt, nn_eq, nl_m1, m1_nl, z_lt, z_le, z_le2, z_lt2, z_eq, nI_l1, nI_l2, nI_l3, nI_l4, nI_add, nI_mul_, tn_n, tn_l, bI_0, bI_1, bI_z, bI_t, bI_f, Bool.false_eq_true, Bool.true_eq_false, eq_self, if_true, if_false, ↓reduceIte, reduceCtorEq, not_true_eq_false, not_false_eq_true, stI_s, stJ_s, ri_p, ri_k, ri_j, ri_1, ri_2, rj_i, rj_1, rj_2, rj_p, rj_k]
      exact Qy.ret (Eqv.refl h)
    · simp (disch := first | rfl | decide | omega | (simp (disch := first | omega | decide) only [nI_l1, nI_l2, nI_l3, nI_l4, nI_add, nI_mul_]; exact ix_n (by omega) (by omega)) | (exact ix_n (by omega) (by omega)) | (exact ix_l (by decide) (by decide)) | assumption) only [↓bs_ (mi_B (cm.w e2) x), ex, ↓zI, ↓zP, ↓zZ, ↓zC, ↓zJ, ↓zQ, ↓zE, ↓zK, ↓zF, ↓zD, ↓zr_0_0, ↓zr_0_2, ↓zr_0_3, ↓zr_0_4, ↓zr_0_5, ↓zr_0_6, ↓zr_0_7, ↓zr_0_8, ↓zr_0_9, ↓zr_0_10, ↓zr_0_11, ↓zr_0_12, ↓zr_0_13, ↓zr_2_0, ↓zr_2_2, ↓zr_2_3, ↓zr_2_5, ↓zr_2_6, ↓zr_2_11, ↓zr_2_13, ↓zr_2_14, ↓zr_3_0, ↓zr_3_1, ↓zr_12_0, ↓zr_12_1, ↓zr_16_0, ↓zr_16_1, ↓zr_19_0, ↓zr_19_1, ↓zr_22_0, ↓zr_22_1, ↓zr_25_0, ↓zr_25_1, ↓zr_28_0, ↓zr_29_0, ↓zr_29_1, ↓zr_32_0, ↓zr_32_1, ↓zr_35_0, ↓zr_35_1, ↓zr_35_4, ↓zr_35_5, ↓zr_38_0, ↓zr_38_1, ↓zr_38_2, ↓zr_38_3, ↓zr_38_4, ↓zr_39_0, ↓zr_39_1, ↓zr_45_0, ↓zr_45_1, ↓zr_46_0, ↓zr_46_1, ↓zr_46_2, ↓zr_50_0, ↓zr_50_1, ↓zr_54_0, ↓zr_54_2, ↓zr_54_3, ↓zr_54_5, ↓zr_54_6, ↓zr_54_11, ↓zr_54_13, ↓zr_54_14, ↓zr_55_0, ↓zr_55_1, ↓zr_64_0, ↓zr_64_1, ↓zr_67_0, ↓zr_67_2, ↓zr_67_3, ↓zr_67_5, ↓zr_67_6, ↓zr_67_11, ↓zr_67_13, ↓zr_67_14, ↓zr_68_0, ↓zr_68_1, ↓zr_77_0, ↓zr_77_1, ↓zr_80_2, ↓zr_80_3, ↓zr_80_4, ↓zr_80_5, ↓zr_80_6, ↓zr_80_7, ↓zr_80_9, ↓zr_80_10, ↓zr_80_12, ↓zr_80_22, ↓zr_80_24, ↓zr_80_25, ↓zr_80_27, ↓zr_80_28, ↓zr_80_31, ↓zr_80_32, ↓zr_80_33, ↓zr_80_35, ↓zr_80_36, ↓zr_80_37, ↓zr_80_41, ↓zr_80_42, ↓zr_80_43, ↓zr_80_44, ↓zr_80_46, ↓zr_80_47, ↓zr_80_48, ↓zr_80_49, ↓zr_80_55, ↓za_1, ↓zs_1, ↓zl_1, ↓za_4, ↓zs_4, ↓zl_4, ↓za_5, ↓zs_5, ↓zl_5, ↓za_6, ↓zs_6, ↓zl_6, ↓za_7, ↓zs_7, ↓zl_7, ↓za_8, ↓zs_8, ↓zl_8, ↓za_9, ↓zs_9, ↓zl_9, ↓za_10, ↓zs_10, ↓zl_10, ↓za_17, ↓zs_17, ↓zl_17, ↓za_18, ↓zs_18, ↓zl_18, ↓za_20, ↓zs_20, ↓zl_20, ↓za_21, ↓zs_21, ↓zl_21, ↓za_23, ↓zs_23, ↓zl_23, ↓za_24, ↓zs_24, ↓zl_24, ↓za_26, ↓zs_26, ↓zl_26, ↓za_27, ↓zs_27, ↓zl_27, ↓za_30, ↓zs_30, ↓zl_30, ↓za_31, ↓zs_31, ↓zl_31, ↓za_33, ↓zs_33, ↓zl_33, ↓za_34, ↓zs_34, ↓zl_34, ↓za_36, ↓zs_36, ↓zl_36, ↓za_37, ↓zs_37, ↓zl_37, ↓za_40, ↓zs_40, ↓zl_40, ↓za_41, ↓zs_41, ↓zl_41, ↓za_42, ↓zs_42, ↓zl_42, ↓za_43, ↓zs_43, ↓zl_43, ↓za_44, ↓zs_44, ↓zl_44, ↓za_47, ↓zs_47, ↓zl_47, ↓za_48, ↓zs_48, ↓zl_48, ↓za_49, ↓zs_49, ↓zl_49, ↓za_51, ↓zs_51, ↓zl_51, ↓za_52, ↓zs_52, ↓zl_52, ↓za_53, ↓zs_53, ↓zl_53, ↓za_56, ↓zs_56, ↓zl_56, ↓za_57, ↓zs_57, ↓zl_57, ↓za_58, ↓zs_58, ↓zl_58, ↓za_59, ↓zs_59, ↓zl_59, ↓za_60, ↓zs_60, ↓zl_60, ↓za_61, ↓zs_61, ↓zl_61, ↓za_62, ↓zs_62, ↓zl_62, ↓za_69, ↓zs_69, ↓zl_69, ↓za_70, ↓zs_70, ↓zl_70, ↓za_71, ↓zs_71, ↓zl_71, ↓za_72, ↓zs_72, ↓zl_72, ↓za_73, ↓zs_73, ↓zl_73, ↓za_74, ↓zs_74, ↓zl_74, ↓za_75, ↓zs_75, ↓zl_75, ↓za_81, ↓zs_81, ↓zl_81, ↓za_82, ↓zs_82, ↓zl_82, ↓za_83, ↓zs_83, ↓zl_83, ↓za_84, ↓zs_84, ↓zl_84, ↓za_85, ↓zs_85, ↓zl_85, ↓za_86, ↓zs_86, ↓zl_86, ↓za_87, ↓zs_87, ↓zl_87, ↓za_88, ↓zs_88, ↓zl_88, ↓za_89, ↓zs_89, ↓zl_89, ↓za_90, ↓zs_90, ↓zl_90, ↓za_91, ↓zs_91, ↓zl_91, ↓za_92, ↓zs_92, ↓zl_92, ↓za_93, ↓zs_93, ↓zl_93, ↓za_94, ↓zs_94, ↓zl_94, ↓za_95, ↓zs_95, ↓zl_95, ↓za_96, ↓zs_96, ↓zl_96, ↓za_97, ↓zs_97, ↓zl_97, ↓za_98, ↓zs_98, ↓zl_98, ↓za_99, ↓zs_99, ↓zl_99, ↓za_100, ↓zs_100, ↓zl_100, ↓za_101, ↓zs_101, ↓zl_101, ↓za_102, ↓zs_102, ↓zl_102, ↓za_103, ↓zs_103, ↓zl_103, ↓za_104, ↓zs_104, ↓zl_104, ↓za_105, ↓zs_105, ↓zl_105, ↓za_106, ↓zs_106, ↓zl_106, ↓za_107, ↓zs_107, ↓zl_107, ↓za_108, ↓zs_108, ↓zl_108, ↓za_109, ↓zs_109, ↓zl_109, hand_id, n01, n05, ob, Nat.zero_le, Nat.not_lt_zero, i10, i01, i12, i21, i20, i02, nl_le1, nl_le2, nl_lt1, nl_lt2, nl_eq1, nl_eq2, nn_le, nn_lt, nn_eq, nl_m1, m1_nl, z_lt, z_le, z_le2, z_lt2, z_eq, nI_l1, nI_l2, nI_l3, nI_l4, nI_add, nI_mul_, tn_n, tn_l, bI_0, bI_1, bI_z, bI_t, bI_f, Bool.false_eq_true, Bool.true_eq_false, eq_self, if_true, if_false, ↓reduceIte, reduceCtorEq, not_true_eq_false, not_false_eq_true, stI_s, stJ_s, ri_p, ri_k, ri_j, ri_1, ri_2, rj_i, rj_1, rj_2, rj_p, rj_k]
      exact Qy.ret (Eqv.refl h2)
  | true =>
    cases ey : inb y nb with
    | false =>
      refine both_q2 (v := -1) (fun _ => rfl) k ?_ (fun h2 e2 => ?_)
      · unfold f_X10_chain
        simp (disch := first | rfl | decide | omega | (simp (disch := first | omega | decide) only [nI_l1, nI_l2, nI_l3, nI_l4, nI_add, nI_mul_]; exact ix_n (by omega) (by omega)) | (exact ix_n (by omega) (by omega)) | (exact ix_l (by decide) (by decide)) | assumption) only [↓bs_ (q_hasB ct x), ex, ↓bs_ (q_hasB ct y), ey, ↓zI, ↓zP, ↓zZ, ↓zC, ↓zJ, ↓zQ, ↓zE, ↓zK, ↓zF, ↓zD, ↓zr_0_0, ↓zr_0_2, ↓zr_0_3, ↓zr_0_4, ↓zr_0_5, ↓zr_0_6, ↓zr_0_7, ↓zr_0_8, ↓zr_0_9, ↓zr_0_10, ↓zr_0_11, ↓zr_0_12, ↓zr_0_13, ↓zr_2_0, ↓zr_2_2, ↓zr_2_3, ↓zr_2_5, ↓zr_2_6, ↓zr_2_11, ↓zr_2_13, ↓zr_2_14, ↓zr_3_0, ↓zr_3_1, ↓zr_12_0, ↓zr_12_1, ↓zr_16_0, ↓zr_16_1, ↓zr_19_0, ↓zr_19_1, ↓zr_22_0, ↓zr_22_1, ↓zr_25_0, ↓zr_25_1, ↓zr_28_0, ↓zr_29_0, ↓zr_29_1, ↓zr_32_0, ↓zr_32_1, ↓zr_35_0, ↓zr_35_1, ↓zr_35_4, ↓zr_35_5, ↓zr_38_0, ↓zr_38_1, ↓zr_38_2, ↓zr_38_3, ↓zr_38_4, ↓zr_39_0, ↓zr_39_1, ↓zr_45_0, ↓zr_45_1, ↓zr_46_0, ↓zr_46_1, ↓zr_46_2, ↓zr_50_0, ↓zr_50_1, ↓zr_54_0, ↓zr_54_2, ↓zr_54_3, ↓zr_54_5, ↓zr_54_6, ↓zr_54_11, ↓zr_54_13, ↓zr_54_14, ↓zr_55_0, ↓zr_55_1, ↓zr_64_0, ↓zr_64_1, ↓zr_67_0, ↓zr_67_2, ↓zr_67_3, ↓zr_67_5, ↓zr_67_6, ↓zr_67_11, ↓zr_67_13, ↓zr_67_14, ↓zr_68_0, ↓zr_68_1, ↓zr_77_0, ↓zr_77_1, ↓zr_80_2, ↓zr_80_3, ↓zr_80_4, ↓zr_80_5, ↓zr_80_6, ↓zr_80_7, ↓zr_80_9, ↓zr_80_10, ↓zr_80_12, ↓zr_80_22, ↓zr_80_24, ↓zr_80_25, ↓zr_80_27, ↓zr_80_28, ↓zr_80_31, ↓zr_80_32, ↓zr_80_33, ↓zr_80_35, ↓zr_80_36, ↓zr_80_37, ↓zr_80_41, ↓zr_80_42, ↓zr_80_43, ↓zr_80_44, ↓zr_80_46, ↓zr_80_47, ↓zr_80_48, ↓zr_80_49, ↓zr_80_55, ↓za_1, ↓zs_1, ↓zl_1, ↓za_4, ↓zs_4, ↓zl_4, ↓za_5, ↓zs_5, ↓zl_5, ↓za_6, ↓zs_6, ↓zl_6, ↓za_7, ↓zs_7, ↓zl_7, ↓za_8, ↓zs_8, ↓zl_8, ↓za_9, ↓zs_9, ↓zl_9, ↓za_10, ↓zs_10, ↓zl_10, ↓za_17, ↓zs_17, ↓zl_17, ↓za_18, ↓zs_18, ↓zl_18, ↓za_20, ↓zs_20, ↓zl_20, ↓za_21, ↓zs_21, ↓zl_21, ↓za_23, ↓zs_23, ↓zl_23, ↓za_24, ↓zs_24, ↓zl_24, ↓za_26, ↓zs_26, ↓zl_26, ↓za_27, ↓zs_27, ↓zl_27, ↓za_30, ↓zs_30, ↓zl_30, ↓za_31, ↓zs_31, ↓zl_31, ↓za_33, ↓zs_33, ↓zl_33, ↓za_34, ↓zs_34, ↓zl_34, ↓za_36, ↓zs_36, ↓zl_36, ↓za_37, ↓zs_37, ↓zl_37, ↓za_40, ↓zs_40, ↓zl_40, ↓za_41, ↓zs_41, ↓zl_41, ↓za_42, ↓zs_42, ↓zl_42, ↓za_43, ↓zs_43, ↓zl_43, ↓za_44, ↓zs_44, ↓zl_44, ↓za_47, ↓zs_47, ↓zl_47, ↓za_48, ↓zs_48, ↓zl_48, ↓za_49, ↓zs_49, ↓zl_49, ↓za_51, ↓zs_51, ↓zl_51, ↓za_52, ↓zs_52, ↓zl_52, ↓za_53, ↓zs_53, ↓zl_53, ↓za_56, ↓zs_56, ↓zl_56, ↓za_57, ↓zs_57, ↓zl_57, ↓za_58, ↓zs_58, ↓zl_58, ↓za_59, ↓zs_59, ↓zl_59, ↓za_60, ↓zs_60, ↓zl_60, ↓za_61, ↓zs_61, ↓zl_61, ↓za_62, ↓zs_62, ↓zl_62, ↓za_69, ↓zs_69, ↓zl_69, ↓za_70, ↓zs_70, ↓zl_70, ↓za_71, ↓zs_71, ↓zl_71, ↓za_72, ↓zs_72, ↓zl_72, ↓za_73, ↓zs_73, ↓zl_73, ↓za_74, ↓zs_74, ↓zl_74, ↓za_75, ↓zs_75, ↓zl_75, ↓za_81, ↓zs_81, ↓zl_81, ↓za_82, ↓zs_82, ↓zl_82, ↓za_83, ↓zs_83, ↓zl_83, ↓za_84, ↓zs_84, ↓zl_84, ↓za_85, ↓zs_85, ↓zl_85, ↓za_86, ↓zs_86, ↓zl_86, ↓za_87, ↓zs_87, ↓zl_87, ↓za_88, ↓zs_88, ↓zl_88, ↓za_89, ↓zs_89, ↓zl_89, ↓za_90, ↓zs_90, ↓zl_90, ↓za_91, ↓zs_91, ↓zl_91, ↓za_92, ↓zs_92, ↓zl_92, ↓za_93, ↓zs_93, ↓zl_93, ↓za_94, ↓zs_94, ↓zl_94, ↓za_95, ↓zs_95, ↓zl_95, ↓za_96, ↓zs_96, ↓zl_96, ↓za_97, ↓zs_97, ↓zl_97, ↓za_98, ↓zs_98, ↓zl_98, ↓za_99, ↓zs_99, ↓zl_99, ↓za_100, ↓zs_100, ↓zl_100, ↓za_101, ↓zs_101, ↓zl_101, ↓za_102, ↓zs_102, ↓zl_102, ↓za_103, ↓zs_103, ↓zl_103, ↓za_104, ↓zs_104, ↓zl_104, ↓za_105, ↓zs_105, ↓zl_105, ↓za_106, ↓zs_106, ↓zl_106, ↓za_107, ↓zs_107, ↓zl_107, ↓za_108, ↓zs_108, ↓zl_108, ↓za_109, ↓zs_109, ↓zl_109, hand_id, n01, n05, ob, Nat.zero_le, Nat.not_lt_zero, i10, i01, i12, i21, i20, i02, nl_le1, nl_le2, nl_lt1, nl_lt2, nl_eq1, nl_eq2, nn_le, nn_lt, nn_eq, nl_m1, m1_nl, z_lt, z_le, z_le2, z_lt2, z_eq, nI_l1, nI_l2, nI_l3, nI_l4, nI_add, nI_mul_, tn_n, tn_l, bI_0, bI_1, bI_z, bI_t, bI_f, Bool.false_eq_true, Bool.true_eq_false, eq_self, if_true, if_false, ↓reduceIte, reduceCtorEq, not_true_eq_false, not_false_eq_true, stI_s, stJ_s, ri_p, ri_k, ri_j, ri_1, ri_2, rj_i, rj_1, rj_2, rj_p, rj_k]
        exact Qy.ret (Eqv.refl h)
      · simp (disch := first | rfl | decide | omega | (simp (disch := first | omega | decide) only [nI_l1, nI_l2, nI_l3, nI_l4, nI_add, nI_mul_]; exact ix_n (by omega) (by omega)) | (exact ix_n (by omega) (by omega)) | (exact ix_l (by decide) (by decide)) | assumption) only [↓bs_ (mi_B (cm.w e2) x), ex, ↓bs_ (mi_B (cm.w e2) y), ey, ↓zI, ↓zP, ↓zZ, ↓zC, ↓zJ, ↓zQ, ↓zE, ↓zK, ↓zF, ↓zD, ↓zr_0_0, ↓zr_0_2, ↓zr_0_3, ↓zr_0_4, ↓zr_0_5, ↓zr_0_6, ↓zr_0_7, ↓zr_0_8, ↓zr_0_9, ↓zr_0_10, ↓zr_0_11, ↓zr_0_12, ↓zr_0_13, ↓zr_2_0, ↓zr_2_2, ↓zr_2_3, ↓zr_2_5, ↓zr_2_6, ↓zr_2_11, ↓zr_2_13, ↓zr_2_14, ↓zr_3_0, ↓zr_3_1, ↓zr_12_0, ↓zr_12_1, ↓zr_16_0, ↓zr_16_1, ↓zr_19_0, ↓zr_19_1, ↓zr_22_0, ↓zr_22_1, ↓zr_25_0, ↓zr_25_1, ↓zr_28_0, ↓zr_29_0, ↓zr_29_1, ↓zr_32_0, ↓zr_32_1, ↓zr_35_0, ↓zr_35_1, ↓zr_35_4, ↓zr_35_5, ↓zr_38_0, ↓zr_38_1, ↓zr_38_2, ↓zr_38_3, ↓zr_38_4, ↓zr_39_0, ↓zr_39_1, ↓zr_45_0, ↓zr_45_1, ↓zr_46_0, ↓zr_46_1, ↓zr_46_2, ↓zr_50_0, ↓zr_50_1, ↓zr_54_0, ↓zr_54_2, ↓zr_54_3, ↓zr_54_5, ↓zr_54_6, ↓zr_54_11, ↓zr_54_13, ↓zr_54_14, ↓zr_55_0, ↓zr_55_1, ↓zr_64_0, ↓zr_64_1, ↓zr_67_0, ↓zr_67_2, ↓zr_67_3, ↓zr_67_5, ↓zr_67_6, ↓zr_67_11, ↓zr_67_13, ↓zr_67_14, ↓zr_68_0, ↓zr_68_1, ↓zr_77_0, ↓zr_77_1, ↓zr_80_2, ↓zr_80_3, ↓zr_80_4, ↓zr_80_5, ↓zr_80_6, ↓zr_80_7, ↓zr_80_9, ↓zr_80_10, ↓zr_80_12, ↓zr_80_22, ↓zr_80_24, ↓zr_80_25, ↓zr_80_27, ↓zr_80_28, ↓zr_80_31, ↓zr_80_32, ↓zr_80_33, ↓zr_80_35, ↓zr_80_36, ↓zr_80_37, ↓zr_80_41, ↓zr_80_42, ↓zr_80_43, ↓zr_80_44, ↓zr_80_46, ↓zr_80_47, ↓zr_80_48, ↓zr_80_49, ↓zr_80_55, ↓za_1, ↓zs_1, ↓zl_1, ↓za_4, ↓zs_4, ↓zl_4, ↓za_5, ↓zs_5, ↓zl_5, ↓za_6, ↓zs_6, ↓zl_6, ↓za_7, ↓zs_7, ↓zl_7, ↓za_8, ↓zs_8, ↓zl_8, ↓za_9, ↓zs_9, ↓zl_9, ↓za_10, ↓zs_10, ↓zl_10, ↓za_17, ↓zs_17, ↓zl_17, ↓za_18, ↓zs_18, ↓zl_18, ↓za_20, ↓zs_20, ↓zl_20, ↓za_21, ↓zs_21, ↓zl_21, ↓za_23, ↓zs_23, ↓zl_23, ↓za_24, ↓zs_24, ↓zl_24, ↓za_26, ↓zs_26, ↓zl_26, ↓za_27, ↓zs_27, ↓zl_27, ↓za_30, ↓zs_30, ↓zl_30, ↓za_31, ↓zs_31, ↓zl_31, ↓za_33, ↓zs_33, ↓zl_33, ↓za_34, ↓zs_34, ↓zl_34, ↓za_36, ↓zs_36, ↓zl_36, ↓za_37, ↓zs_37, ↓zl_37, ↓za_40, ↓zs_40, ↓zl_40, ↓za_41, ↓zs_41, ↓zl_41, ↓za_42, ↓zs_42, ↓zl_42, ↓za_43, ↓zs_43, ↓zl_43, ↓za_44, ↓zs_44, ↓zl_44, ↓za_47, ↓zs_47, ↓zl_47, ↓za_48, ↓zs_48, ↓zl_48, ↓za_49, ↓zs_49, ↓zl_49, ↓za_51, ↓zs_51, ↓zl_51, ↓za_52, ↓zs_52, ↓zl_52, ↓za_53, ↓zs_53, ↓zl_53, ↓za_56, ↓zs_56, ↓zl_56, ↓za_57, ↓zs_57, ↓zl_57, ↓za_58, ↓zs_58, ↓zl_58, ↓za_59, ↓zs_59, ↓zl_59, ↓za_60, ↓zs_60, ↓zl_60, ↓za_61, ↓zs_61, ↓zl_61, ↓za_62, ↓zs_62, ↓zl_62, ↓za_69, ↓zs_69, ↓zl_69, ↓za_70, ↓zs_70, ↓zl_70, ↓za_71, ↓zs_71, ↓zl_71, ↓za_72, ↓zs_72, ↓zl_72, ↓za_73, ↓zs_73, ↓zl_73, ↓za_74, ↓zs_74, ↓zl_74, ↓za_75, ↓zs_75, ↓zl_75, ↓za_81, ↓zs_81, ↓zl_81, ↓za_82, ↓zs_82, ↓zl_82, ↓za_83, ↓zs_83, ↓zl_83, ↓za_84, ↓zs_84, ↓zl_84, ↓za_85, ↓zs_85, ↓zl_85, ↓za_86, ↓zs_86, ↓zl_86, ↓za_87, ↓zs_87, ↓zl_87, ↓za_88, ↓zs_88, ↓zl_88, ↓za_89, ↓zs_89, ↓zl_89, ↓za_90, ↓zs_90, ↓zl_90, ↓za_91, ↓zs_91, ↓zl_91, ↓za_92, ↓zs_92, ↓zl_92, ↓za_93, ↓zs_93, ↓zl_93, ↓za_94, ↓zs_94, ↓zl_94, ↓za_95, ↓zs_95, ↓zl_95, ↓za_96, ↓zs_96, ↓zl_96, ↓za_97, ↓zs_97, ↓zl_97, ↓za_98, ↓zs_98, ↓zl_98, ↓za_99, ↓zs_99, ↓zl_99, ↓za_100, ↓zs_100, ↓zl_100, ↓za_101, ↓zs_101, ↓zl_101, ↓za_102, ↓zs_102, ↓zl_102, ↓za_103, ↓zs_103, ↓zl_103, ↓za_104, ↓zs_104, ↓zl_104, ↓za_105, ↓zs_105, ↓zl_105, ↓za_106, ↓zs_106, ↓zl_106, ↓za_107, ↓zs_107, ↓zl_107, ↓za_108, ↓zs_108, ↓zl_108, ↓za_109, ↓zs_109, ↓zl_109, hand_id, n01, n05, ob, Nat.zero_le, Nat.not_lt_zero, i10, i01, i12, i21, i20, i02, nl_le1, nl_le2, nl_lt1, nl_lt2, nl_eq1, nl_eq2, nn_le, nn_lt, nn_eq, nl_m1, m1_nl, z_lt, z_le, z_le2, z_lt2, z_eq, nI_l1, nI_l2, nI_l3, nI_l4, nI_add, nI_mul_, tn_n, tn_l, bI_0, bI_1, bI_z, bI_t, bI_f, Bool.false_eq_true, Bool.true_eq_false, eq_self, if_true, if_false, ↓reduceIte, reduceCtorEq, not_true_eq_false, not_false_eq_true, stI_s, stJ_s, ri_p, ri_k, ri_j, ri_1, ri_2, rj_i, rj_1, rj_2, rj_p, rj_k]
        exact Qy.ret (Eqv.refl h2)
    | true =>
      obtain ⟨a, ha, rfl⟩ := inb_of h7 ex
      obtain ⟨c, hc, rfl⟩ := inb_of h7 ey
      refine both_q (v := chV (h.2.1 82) nb c a z) k (q_chain ct ha hc z) (fun h2 e2 => ?_)
      have q := m_chain (cm.w e2) ha hc z
      rw [e2.w82] at q
      exact q

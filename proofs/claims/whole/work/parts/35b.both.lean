/-! chains: the class's side -/
theorem fst_congr {g g' : Nat → Bool} : ∀ (m k : Nat), (∀ j, k ≤ j → j < k + m → g j = g' j) → fst g k m = fst g' k m
  | 0, _, _ => rfl
  | m + 1, k, h => by
    rw [fst, fst, h k (Nat.le_refl k) (by omega), fst_congr m (k + 1) fun j h1 h2 => h j (by omega) (by omega)]
theorem q_nxt {h : AH} {r : Nat → Int32} {nb b : Nat} (sx : StX h 3 r) (rx : RoX h 2 r) (hn : r 0 = nI nb) (h7 : nb ≤ 7) (hb : b < 7) (y : Int32) : f_X1_nextInChain S_1 35 3 (nI b) y h = some (fst (fun o => decide (h.2.1 36 o = y) && heS r o b) 0 nb, h) := by
  have e : ∀ (m k fu : Nat), k + m = nb → m < fu → f_X1_nextInChain_l3 S_1 fu 35 3 (nI b) y (nI k) h = some (if fst (fun o => decide (h.2.1 36 o = y) && heS r o b) k m = -1 then .inr () else .inl (fst (fun o => decide (h.2.1 36 o = y) && heS r o b) k m), h) := by
    intro m
    induction m with
    | zero =>
      intro k fu hk hf
      obtain ⟨fu, rfl⟩ : ∃ x, fu = x + 1 := ⟨fu - 1, by omega⟩
      rw [f_X1_nextInChain_l3]
      unfold f_X1_nextInChain_l3b
      rw [bs_ (yr_35_0 h), bs_ (yi_2 h 1), rx.1.1.trans hn, if_pos (by rw [nn_le (by omega) (by omega)]; omega)]
      rfl
    | succ m ih =>
      intro k fu hk hf
      obtain ⟨fu, rfl⟩ : ∃ x, fu = x + 1 := ⟨fu - 1, by omega⟩
      rw [f_X1_nextInChain_l3]
      unfold f_X1_nextInChain_l3b
      rw [bs_ (yr_35_0 h), bs_ (yi_2 h 1), rx.1.1.trans hn, if_neg (by rw [nn_le (by omega) (by omega)]; omega), bs_ (yr_35_4 h), bs_ (ai_36 h (by omega)), fst]
      by_cases c : h.2.1 36 k = y
      · rw [if_pos c, bs_ (ck_35 h), bs_ (q_hears h (Or.inl rfl) sx rx (show k < 7 by omega) hb), decide_eq_true c, Bool.true_and]
        dsimp only
        cases eh : heS r k b with
        | false =>
          rw [if_pos (show bI false = 0 from rfl), lt_e, nI_1, ih (k + 1) fu (by omega) (by omega)]
          rfl
        | true =>
          rw [if_neg (show ¬ bI true = 0 by decide), if_pos rfl, if_neg (show ¬ nI k = -1 by rw [nl_m1 (by omega)]; exact id)]
      · rw [if_neg c, lt_e, nI_1, ih (k + 1) fu (by omega) (by omega), decide_eq_false c, Bool.false_and]
        rfl
  unfold f_X1_nextInChain
  rw [bs_ (show f_X1_nextInChain_l3 S_1 FU 35 3 (nI b) y (0 : Int32) h = _ from e nb 0 FU (by omega) (by unfold FU; omega))]
  by_cases ef : fst (fun o => decide (h.2.1 36 o = y) && heS r o b) 0 nb = -1
  · rw [if_pos ef, ef]
  · rw [if_neg ef]
def hv (r : Nat → Int32) (nb to k b : Nat) : Int32 := if rch r nb to k b = true then nI (dN r nb to b) else -1
theorem hv_is {r : Nat → Int32} {nb to k b d : Nat} (hk : k < 7) (hd : d ≤ k) : hv r nb to k b = nI d ↔ dN r nb to b = d := by
  have l := dN_le r nb to b
  unfold hv
  by_cases c : rch r nb to k b = true
  · rw [if_pos c, nn_eq (by omega) (by omega)]
  · rw [if_neg c]
    constructor
    · intro z
      have : (nI d = -1) = False := nl_m1 (by omega)
      rw [← z] at this
      simp at this
    · intro z
      exact absurd ((dN_iff hk).mpr (by omega)) c
theorem hv_no {r : Nat → Int32} {nb to k b : Nat} : hv r nb to k b = -1 ↔ rch r nb to k b = false := by
  have l := dN_le r nb to b
  unfold hv
  cases c : rch r nb to k b with
  | true =>
    rw [if_pos rfl, nl_m1 (by omega)]
    exact ⟨fun z => z.elim, fun z => by cases z⟩
  | false => exact ⟨fun _ => rfl, fun _ => rfl⟩
theorem hv_old {r : Nat → Int32} {nb to k b : Nat} (h : rch r nb to (k + 1) b = rch r nb to k b) : hv r nb to (k + 1) b = hv r nb to k b := by
  unfold hv
  rw [h]
def P36 (p _j : Nat) : Bool := decide (p = 36)
theorem P36_W0 (p j : Nat) (h : P36 p j = true) : PW0 p j = true := by
  have h := of_decide_eq_true h
  unfold PW0
  rw [Bool.and_eq_true]
  exact ⟨decide_eq_true (by omega), decide_eq_true (by omega)⟩
theorem P36_n {p : Nat} (h : p ≠ 36) (j : Nat) : P36 p j = false := decide_eq_false h
theorem Eqv.st36 {h h1 : AH} {r : Nat → Int32} (e : Eqv P36 h h1) (sx : StX h 3 r) : StX h1 3 r := sx.rows (e.row (P36_n (by decide))) (e.row (P36_n (by decide))) (e.row (P36_n (by decide)))
theorem Eqv.ro36 {h h1 : AH} {r : Nat → Int32} (e : Eqv P36 h h1) (rx : RoX h 2 r) : RoX h1 2 r := rx.rows fun d a b => e.row (P36_n (by omega))
theorem nI_pre (d : Nat) : nI (d + 1) - (1 : Int32) = nI d := by rw [← nI_1, Int32.add_sub_cancel]
theorem q_hops3 {h : AH} {r : Nat → Int32} {nb to : Nat} (h7 : nb ≤ 7) (ht : to < nb) (x2 : Int32) : ∀ (m k fu : Nat) (h1 : AH), k + m = 7 → m < fu → Eqv P36 h h1 → (∀ b, b < k → h1.2.1 36 b = hv r nb to 0 b) → ∃ h', f_X1_hops_l3 S_1 fu 35 3 x2 (nI to) (nI k) h1 = some ((35, 3, x2), h') ∧ Eqv P36 h h' ∧ ∀ b, b < 7 → h'.2.1 36 b = hv r nb to 0 b := by
  intro m
  induction m with
  | zero =>
    intro k fu h1 hk hf e1 v1
    obtain ⟨fu, rfl⟩ : ∃ x, fu = x + 1 := ⟨fu - 1, by omega⟩
    have : k = 7 := by omega
    subst this
    rw [f_X1_hops_l3]
    exact ⟨h1, rfl, e1, v1⟩
  | succ m ih =>
    intro k fu h1 hk hf e1 v1
    obtain ⟨fu, rfl⟩ : ∃ x, fu = x + 1 := ⟨fu - 1, by omega⟩
    have n7 : ¬ (7 : Int32) ≤ nI k := by
      rw [show (7 : Int32) = nI 7 from rfl, nn_le (by decide) (by omega)]
      omega
    rw [f_X1_hops_l3]
    unfold f_X1_hops_l3b
    rw [if_neg n7, bs_ (yr_35_4 h1)]
    have go : ∀ v : Int32, v = hv r nb to 0 k → ∀ b, b < k + 1 → (stI h1 36 k v).2.1 36 b = hv r nb to 0 b := fun v hv b hb => by
      by_cases d : b = k
      · rw [d, stI_s, hv]
      · rw [ri_k d]
        exact v1 b (by omega)
    by_cases c : k = to
    · rw [if_pos (by rw [c]), bs_ (si_36 h1 _ (by omega)), lt_e, nI_1]
      refine ih (k + 1) fu _ (by omega) (by omega) (e1.si rfl) (go _ ?_)
      exact ((hv_is (by decide) (Nat.le_refl 0)).mpr ((dN_to r nb to k).mpr c)).symm
    · rw [if_neg (by rw [nn_eq (by omega) (by omega)]; exact c), bs_ (si_36 h1 _ (by omega)), lt_e, nI_1]
      refine ih (k + 1) fu _ (by omega) (by omega) (e1.si rfl) (go _ ?_)
      exact (hv_no.mpr (show rch r nb to 0 k = false from decide_eq_false c)).symm
theorem q_hops47 {h : AH} {r : Nat → Int32} {nb to d : Nat} (sx : StX h 3 r) (rx : RoX h 2 r) (hn : r 0 = nI nb) (h7 : nb ≤ 7) (hd : d < 6) (x2 : Int32) : ∀ (m k fu : Nat) (h1 : AH), k + m = nb → m < fu → Eqv P36 h h1 → (∀ b, b < k → h1.2.1 36 b = hv r nb to (d + 1) b) → (∀ b, k ≤ b → b < 7 → h1.2.1 36 b = hv r nb to d b) → ∃ h', f_X1_hops_l47 S_1 fu 35 3 x2 (nI (d + 1)) (nI k) h1 = some ((35, 3, x2, nI (d + 1)), h') ∧ Eqv P36 h h' ∧ ∀ b, b < 7 → h'.2.1 36 b = hv r nb to (d + 1) b := by
  intro m
  induction m with
  | zero =>
    intro k fu h1 hk hf e1 v1 w1
    obtain ⟨fu, rfl⟩ : ∃ x, fu = x + 1 := ⟨fu - 1, by omega⟩
    rw [f_X1_hops_l47]
    unfold f_X1_hops_l47b
    rw [bs_ (yr_35_0 h1), bs_ (yi_2 h1 1), (e1.ro36 rx).1.1.trans hn, if_pos (by rw [nn_le (by omega) (by omega)]; omega)]
    refine ⟨h1, rfl, e1, fun b hb => ?_⟩
    by_cases c : b < k
    · exact v1 b c
    · rw [w1 b (by omega) hb]
      refine (hv_old ?_).symm
      rw [rch, decide_eq_false (show ¬ b < nb by omega), Bool.false_and, Bool.or_false]
  | succ m ih =>
    intro k fu h1 hk hf e1 v1 w1
    obtain ⟨fu, rfl⟩ : ∃ x, fu = x + 1 := ⟨fu - 1, by omega⟩
    have wk := w1 k (Nat.le_refl k) (by omega)
    rw [f_X1_hops_l47]
    unfold f_X1_hops_l47b
    rw [bs_ (yr_35_0 h1), bs_ (yi_2 h1 1), (e1.ro36 rx).1.1.trans hn, if_neg (by rw [nn_le (by omega) (by omega)]; omega), bs_ (yr_35_4 h1), bs_ (ai_36 h1 (by omega)), wk]
    have keep : rch r nb to (d + 1) k = rch r nb to d k → ∃ h', f_X1_hops_l47 S_1 fu 35 3 x2 (nI (d + 1)) (nI (k + 1)) h1 = some ((35, 3, x2, nI (d + 1)), h') ∧ Eqv P36 h h' ∧ ∀ b, b < 7 → h'.2.1 36 b = hv r nb to (d + 1) b := fun z => by
      refine ih (k + 1) fu h1 (by omega) (by omega) e1 (fun b hb => ?_) fun b h2 h3 => w1 b (by omega) h3
      by_cases c : b = k
      · rw [c, wk, hv_old z]
      · exact v1 b (by omega)
    by_cases c : rch r nb to d k = false
    · have fe : fst (fun o => decide (h1.2.1 36 o = nI d) && heS r o k) 0 nb = fst (fun o => decide (dN r nb to o = d) && heS r o k) 0 nb := by
        refine fst_congr nb 0 fun j _ hj => ?_
        have : (h1.2.1 36 j = nI d) ↔ (dN r nb to j = d) := by
          by_cases cj : j < k
          · rw [v1 j cj]; exact hv_is (by omega) (by omega)
          · rw [w1 j (by omega) (by omega)]; exact hv_is (by omega) (by omega)
        rw [decide_eq_decide.mpr this]
      rw [if_pos (hv_no.mpr c), bs_ (ck_35 h1), nI_pre, bs_ (q_nxt (e1.st36 sx) (e1.ro36 rx) hn h7 (show k < 7 by omega) (nI d)), fe]
      dsimp only
      by_cases ef : fst (fun o => decide (dN r nb to o = d) && heS r o k) 0 nb = -1
      · rw [if_pos ef, lt_e, nI_1]
        refine keep ?_
        rw [c]
        cases e : rch r nb to (d + 1) k with
        | false => rfl
        | true =>
          obtain ⟨hb, o, ho, a1, a2⟩ := rch_inv e c
          have a3 := (dN_iff (by omega)).mp a2
          have a4 := dN_step (to := to) hb ho a1
          have a5 : ¬ dN r nb to k ≤ d := fun z => by
            rw [(dN_iff (by omega)).mpr z] at c
            cases c
          obtain ⟨j, _, b2, b3, b4⟩ := fst_of (g := fun o => decide (dN r nb to o = d) && heS r o k) nb 0 ⟨o, Nat.zero_le o, by omega, by
            show (decide (dN r nb to o = d) && heS r o k) = true
            rw [a1, decide_eq_true (show dN r nb to o = d by omega)]
            rfl⟩
          rw [b4, nl_m1 (by omega)] at ef
          exact ef.elim
      · rw [if_neg ef, bs_ (yr_35_4 h1), bs_ (si_36 h1 _ (by omega)), lt_e, nI_1]
        have rk : rch r nb to (d + 1) k = true := by
          rcases fst_m1 (fun o => decide (dN r nb to o = d) && heS r o k) nb 0 with z | ⟨j, _, b2, b3, b4⟩
          · exact absurd z ef
          · have b3 : (decide (dN r nb to j = d) && heS r j k) = true := b3
            rw [Bool.and_eq_true] at b3
            have b5 := of_decide_eq_true b3.1
            exact rch_step (by omega) (by omega) b3.2 ((dN_iff (by omega)).mpr (by omega))
        have dk : dN r nb to k = d + 1 := by
          have a := (dN_iff (by omega)).mp rk
          have : ¬ dN r nb to k ≤ d := fun z => by
            rw [(dN_iff (by omega)).mpr z] at c
            cases c
          omega
        refine ih (k + 1) fu _ (by omega) (by omega) (e1.si rfl) (fun b hb => ?_) fun b h2 h3 => ?_
        · by_cases cb : b = k
          · rw [cb, stI_s]
            exact ((hv_is (by omega) (Nat.le_refl _)).mpr dk).symm
          · rw [ri_k cb]
            exact v1 b (by omega)
        · rw [ri_k (by omega)]
          exact w1 b (by omega) h3
    · rw [if_neg (fun z => c (hv_no.mp z)), lt_e, nI_1]
      have c : rch r nb to d k = true := (Bool.not_eq_false _).mp c
      exact keep (by rw [c]; exact rch_s c)
theorem q_hops37 {h : AH} {r : Nat → Int32} {nb to : Nat} (sx : StX h 3 r) (rx : RoX h 2 r) (hn : r 0 = nI nb) (h7 : nb ≤ 7) (x2 : Int32) : ∀ (m d fu : Nat) (h1 : AH), d + m = 6 → m < fu → Eqv P36 h h1 → (∀ b, b < 7 → h1.2.1 36 b = hv r nb to d b) → ∃ h', f_X1_hops_l37 S_1 fu 35 3 x2 (nI (d + 1)) h1 = some ((35, x2), h') ∧ Eqv P36 h h' ∧ ∀ b, b < 7 → h'.2.1 36 b = hv r nb to 6 b := by
  intro m
  induction m with
  | zero =>
    intro d fu h1 hk hf e1 v1
    obtain ⟨fu, rfl⟩ : ∃ x, fu = x + 1 := ⟨fu - 1, by omega⟩
    have : d = 6 := by omega
    subst this
    rw [f_X1_hops_l37]
    exact ⟨h1, rfl, e1, v1⟩
  | succ m ih =>
    intro d fu h1 hk hf e1 v1
    obtain ⟨fu, rfl⟩ : ∃ x, fu = x + 1 := ⟨fu - 1, by omega⟩
    have n7 : ¬ (7 : Int32) ≤ nI (d + 1) := by
      rw [show (7 : Int32) = nI 7 from rfl, nn_le (by decide) (by omega)]
      omega
    obtain ⟨h2, r2, e2, v2⟩ := q_hops47 (e1.st36 sx) (e1.ro36 rx) hn h7 (show d < 6 by omega) x2 nb 0 FU h1 (by omega) (by unfold FU; omega) (Eqv.refl h1) (fun b hb => by omega) fun b _ hb => v1 b hb
    rw [f_X1_hops_l37]
    unfold f_X1_hops_l37b
    rw [if_neg n7, bs_ (show f_X1_hops_l47 S_1 FU 35 3 x2 (nI (d + 1)) (0 : Int32) h1 = _ from r2)]
    dsimp only
    rw [lt_e, nI_1]
    exact ih (d + 1) fu h2 (by omega) (by omega) (e1.trans e2) v2
theorem q_hops {h : AH} {r : Nat → Int32} {nb to from' : Nat} (sx : StX h 3 r) (rx : RoX h 2 r) (hn : r 0 = nI nb) (h7 : nb ≤ 7) (ht : to < nb) (hf : from' < nb) : ∃ h', f_X1_hops S_1 35 3 (nI from') (nI to) h = some (hv r nb to 6 from', h') ∧ Eqv P36 h h' ∧ ∀ b, b < 7 → h'.2.1 36 b = hv r nb to 6 b := by
  obtain ⟨h1, r1, e1, v1⟩ := q_hops3 (h := h) (r := r) h7 ht (nI from') 7 0 FU h (by omega) (by unfold FU; omega) (Eqv.refl h) fun b hb => by omega
  obtain ⟨h2, r2, e2, v2⟩ := q_hops37 (to := to) (e1.st36 sx) (e1.ro36 rx) hn h7 (nI from') 6 0 FU h1 (by omega) (by unfold FU; omega) (Eqv.refl h1) v1
  refine ⟨h2, ?_, e1.trans e2, v2⟩
  unfold f_X1_hops
  rw [bs_ (show f_X1_hops_l3 S_1 FU 35 3 (nI from') (nI to) (0 : Int32) h = _ from r1)]
  dsimp only
  rw [bs_ (show f_X1_hops_l37 S_1 FU 35 3 (nI from') (1 : Int32) h1 = _ from r2)]
  dsimp only
  rw [bs_ (yr_35_4 h2), bs_ (ai_36 h2 (by omega)), v2 from' (by omega)]
theorem q_chainBird {h : AH} {r : Nat → Int32} {nb to i : Nat} (sx : StX h 3 r) (rx : RoX h 2 r) (hn : r 0 = nI nb) (h7 : nb ≤ 7) (hi : i < 7) (v : ∀ b, b < 7 → h.2.1 36 b = hv r nb to 6 b) : ∀ (m k fu b : Nat), k + m = i + 1 → m < fu → b < nb → m ≤ dN r nb to b → dN r nb to b ≠ 7 → f_X1_chainBird_l6 S_1 fu 35 3 (nI i) (nI b) (nI k) h = some (nI (chN r nb to m b), h) := by
  intro m
  induction m with
  | zero =>
    intro k fu b hk hf hb _ _
    obtain ⟨fu, rfl⟩ : ∃ x, fu = x + 1 := ⟨fu - 1, by omega⟩
    rw [f_X1_chainBird_l6]
    unfold f_X1_chainBird_l6b
    rw [if_pos (by rw [nn_lt (by omega) (by omega)]; omega)]
    rfl
  | succ m ih =>
    intro k fu b hk hf hb hm hd
    obtain ⟨fu, rfl⟩ : ∃ x, fu = x + 1 := ⟨fu - 1, by omega⟩
    have n7 : ¬ (7 : Int32) ≤ nI k := by
      rw [show (7 : Int32) = nI 7 from rfl, nn_le (by decide) (by omega)]
      omega
    have l := dN_le r nb to b
    obtain ⟨x1, x2, x3⟩ := nx_ok (r := r) (to := to) (b := b) h7 (by omega) hd
    obtain ⟨d, ed⟩ : ∃ d, dN r nb to b = d + 1 := ⟨dN r nb to b - 1, by omega⟩
    have hb6 : h.2.1 36 b = nI (d + 1) := by
      rw [v b (by omega)]
      exact (hv_is (by decide) (by omega)).mpr ed
    have fe : fst (fun o => decide (h.2.1 36 o = nI d) && heS r o b) 0 nb = nI (nxN r nb to b) := by
      rw [← x3]
      refine fst_congr nb 0 fun j _ hj => ?_
      unfold nxG
      rw [v j (by omega)]
      have : (hv r nb to 6 j = nI d) ↔ (dN r nb to j + 1 = dN r nb to b) := by
        rw [hv_is (by decide) (by omega), ed]
        omega
      rw [decide_eq_decide.mpr this]
    rw [f_X1_chainBird_l6]
    unfold f_X1_chainBird_l6b
    rw [if_neg (by rw [nn_lt (by omega) (by omega)]; omega), if_neg n7, bs_ (yr_35_0 h), bs_ (ck_2 h), bs_ (q_hasBird h (nI b) (rx.1.1.trans hn) h7)]
    dsimp only
    rw [show decide (0 ≤ nI b ∧ nI b < nI nb) = true from inb_n h7 hb, if_neg (show ¬ bI true = 0 by decide), bs_ (yr_35_4 h), bs_ (ai_36 h (by omega)), hb6, bs_ (ck_35 h), nI_pre, bs_ (q_nxt sx rx hn h7 (show b < 7 by omega) (nI d)), fe]
    dsimp only
    rw [lt_e, nI_1]
    exact ih (k + 1) fu (nxN r nb to b) (by omega) (by omega) x1 (by omega) (by omega)

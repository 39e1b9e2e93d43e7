/-! the class: its stands and its roll told by a row r -/
def StX (h : AH) (s : Nat) (r : Nat → Int32) : Prop := (∀ j, j < 7 → h.2.1 (s + 1) j = r (10 + j)) ∧ (∀ j, j < 6 → h.2.1 (s + 2) j = r (17 + j)) ∧ h.2.1 s 2 = r 9 ∧ h.2.1 s 3 = r 5
def RoX (h : AH) (o : Nat) (r : Nat → Int32) : Prop := (h.2.1 o 1 = r 0 ∧ h.2.1 o 4 = r 1 ∧ h.2.1 o 10 = r 2 ∧ h.2.1 o 12 = r 3 ∧ h.2.1 o 15 = r 4 ∧ h.2.1 o 7 = r 6 ∧ h.2.1 o 8 = r 7 ∧ h.2.1 o 9 = r 8) ∧ (∀ j, j < 7 → h.2.1 (o + 4) j = r (23 + j)) ∧ (∀ j, j < 42 → h.2.1 (o + 5) j = r (30 + j)) ∧ (∀ j, j < 6 → h.2.1 (o + 6) j = r (72 + j)) ∧ (∀ j, j < 6 → h.2.1 (o + 7) j = r (78 + j)) ∧ (∀ j, j < 6 → h.2.1 (o + 8) j = r (84 + j))
theorem q_hasBird (h : AH) {n : Nat} (x : Int32) (hn : h.2.1 2 1 = nI n) (h7 : n ≤ 7) : f_X6_hasBird S_1 2 x h = some (bI (decide (0 ≤ x ∧ x < nI n)), h) := by
  unfold f_X6_hasBird
  simp only [yi_2, ob, hn]
  by_cases e : x < 0
  · simp [e, bI, Int32.not_le.mpr e]
  · rw [if_neg e]
    by_cases e2 : nI n ≤ x
    · simp [e2, bI, Int32.not_lt.mpr e2]
    · obtain ⟨j, hj, rfl⟩ := nI_of e
      have e3 : j < n := (nI_ltI hj (by omega)).mp (Int32.not_le.mp e2)
      rw [if_neg e2, if_neg (by rw [show (7 : Int32) = nI 7 from rfl, nn_le (by decide) hj]; omega)]
      simp [bI, Int32.not_le.mp e2, nI_pos' hj]
theorem q_hasMatter (h : AH) {n : Nat} (x : Int32) (hn : h.2.1 2 4 = nI n) (h7 : n ≤ 6) : f_X6_hasMatter S_1 2 x h = some (bI (decide (0 ≤ x ∧ x < nI n)), h) := by
  unfold f_X6_hasMatter
  simp only [yi_2, ob, hn]
  by_cases e : x < 0
  · simp [e, bI, Int32.not_le.mpr e]
  · rw [if_neg e]
    by_cases e2 : nI n ≤ x
    · simp [e2, bI, Int32.not_lt.mpr e2]
    · obtain ⟨j, hj, rfl⟩ := nI_of e
      have e3 : j < n := (nI_ltI hj (by omega)).mp (Int32.not_le.mp e2)
      rw [if_neg e2, if_neg (by rw [show (6 : Int32) = nI 6 from rfl, nn_le (by decide) hj]; omega)]
      simp [bI, Int32.not_le.mp e2, nI_pos' hj]
theorem q_hasLaw (h : AH) {n : Nat} (x : Int32) (hn : h.2.1 2 12 = nI n) (h7 : n ≤ 6) : f_X6_hasLaw S_1 2 x h = some (bI (decide (0 ≤ x ∧ x < nI n)), h) := by
  unfold f_X6_hasLaw
  simp only [yi_2, ob, hn]
  by_cases e : x < 0
  · simp [e, bI, Int32.not_le.mpr e]
  · rw [if_neg e]
    by_cases e2 : nI n ≤ x
    · simp [e2, bI, Int32.not_lt.mpr e2]
    · obtain ⟨j, hj, rfl⟩ := nI_of e
      have e3 : j < n := (nI_ltI hj (by omega)).mp (Int32.not_le.mp e2)
      rw [if_neg e2, if_neg (by rw [show (6 : Int32) = nI 6 from rfl, nn_le (by decide) hj]; omega)]
      simp [bI, Int32.not_le.mp e2, nI_pos' hj]
theorem q_hears (h : AH) {s : Nat} {r : Nat → Int32} (hs : s = 3 ∨ s = 25 ∨ s = 29 ∨ s = 39) (hS : StX h s r) (hR : RoX h 2 r) {b o : Nat} (hb : b < 7) (ho : o < 7) : f_X1_hears S_1 35 s (nI b) (nI o) h = some (bI (heS r b o), h) := by
  obtain ⟨ht, hd, hc, hg⟩ := hS
  obtain ⟨⟨r0, r1, r2, r3, r4, r6, r7, r8⟩, hra, hfa, hcl, hri, hhe⟩ := hR
  unfold f_X1_hears heS
  have hra' := hra o ho
  simp (disch := first | omega | decide) only [ob, lt_e, nl_le1, nl_le2, nl_lt1, nl_lt2, nl_eq1, nl_eq2, nn_le, nn_lt, nn_eq, nl_m1, z_lt, z_le, z_le2, z_lt2, z_eq, aI_0, aJ_0, sI_0, sJ_0, nI_l1, nI_l2, nI_l3, nI_l4, nI_add, bI_0, bI_1, bI_z, bI_t, bI_f, if_true, if_false, Bool.false_eq_true, Bool.true_eq_false, eq_self, yi_35, yj_35, xi_35, xj_35, xz_35, ck_35, yr_35_0, yr_35_1, yr_35_4, yr_35_5, KD_35, yi_2, yj_2, xi_2, xj_2, xz_2, ck_2, yr_2_0, yr_2_2, yr_2_3, yr_2_5, yr_2_6, yr_2_11, yr_2_13, yr_2_14, KD_2, ln_6, ai_6, al_6, si_6, sl_6, KD_6, sd_t, sd_d, sd_i, sd_p, sd_c, sd_a, sd_b, sd_sa, sd_sb]
  rw [ht b hb, ht o ho, show h.2.1 6 o = r (23 + o) from hra o ho]
  by_cases e1 : b = o
  · simp [e1, bI]
  · by_cases e2 : r (10 + b) = -1
    · simp [e1, e2, bI]
    · by_cases e3 : r (10 + o) = -1
      · simp [e1, e2, e3, bI]
      · by_cases e4 : r (23 + o) < abI (r (10 + b) - r (10 + o))
        · simp [e1, e2, e3, e4, bI, Int32.not_le]
        · simp [e1, e2, e3, e4, bI, Int32.not_lt.mp e4]
theorem q_present (h : AH) {s : Nat} {r : Nat → Int32} (hs : s = 3 ∨ s = 25 ∨ s = 29 ∨ s = 39) (hS : StX h s r) (hR : RoX h 2 r) {n : Nat} (hn : r 0 = nI n) (h7 : n ≤ 7) : f_X1_present S_1 35 s h = some (bits n (fun b => ! awS r b), h) := by
  have rb : h.2.1 2 1 = nI n := hR.1.1.trans hn
  have ht := hS.1
  have e : ∀ (m k fu : Nat) (a : Int32), k + m = n → m < fu → f_X1_present_l4 S_1 fu 35 s a (nI k) h = some (fo (fun s b => s ||| (if (! awS r b) then bt b else 0)) k m a, h) := by
    intro m
    induction m with
    | zero =>
      intro k fu a hk hf
      obtain ⟨fu, rfl⟩ : ∃ x, fu = x + 1 := ⟨fu - 1, by omega⟩
      subst hk
      unfold f_X1_present_l4 f_X1_present_l4b
      simp (disch := first | omega | decide) only [rb, Nat.add_zero, ob, lt_e, nl_le1, nl_le2, nl_lt1, nl_lt2, nl_eq1, nl_eq2, nn_le, nn_lt, nn_eq, nl_m1, z_lt, z_le, z_le2, z_lt2, z_eq, aI_0, aJ_0, sI_0, sJ_0, nI_l1, nI_l2, nI_l3, nI_l4, nI_add, bI_0, bI_1, bI_z, bI_t, bI_f, if_true, if_false, Bool.false_eq_true, Bool.true_eq_false, eq_self, yi_35, yj_35, xi_35, xj_35, xz_35, ck_35, yr_35_0, yr_35_1, yr_35_4, yr_35_5, KD_35, yi_2, yj_2, xi_2, xj_2, xz_2, ck_2, yr_2_0, yr_2_2, yr_2_3, yr_2_5, yr_2_6, yr_2_11, yr_2_13, yr_2_14, KD_2]
      rw [if_pos (Nat.le_refl _)]
      rfl
    | succ m ih =>
      intro k fu a hk hf
      obtain ⟨fu, rfl⟩ : ∃ x, fu = x + 1 := ⟨fu - 1, by omega⟩
      unfold f_X1_present_l4 f_X1_present_l4b
      
      simp (disch := first | omega | decide) only [rb, ht k (by omega), ob, lt_e, nl_le1, nl_le2, nl_lt1, nl_lt2, nl_eq1, nl_eq2, nn_le, nn_lt, nn_eq, nl_m1, z_lt, z_le, z_le2, z_lt2, z_eq, aI_0, aJ_0, sI_0, sJ_0, nI_l1, nI_l2, nI_l3, nI_l4, nI_add, bI_0, bI_1, bI_z, bI_t, bI_f, if_true, if_false, Bool.false_eq_true, Bool.true_eq_false, eq_self, yi_35, yj_35, xi_35, xj_35, xz_35, ck_35, yr_35_0, yr_35_1, yr_35_4, yr_35_5, KD_35, yi_2, yj_2, xi_2, xj_2, xz_2, ck_2, yr_2_0, yr_2_2, yr_2_3, yr_2_5, yr_2_6, yr_2_11, yr_2_13, yr_2_14, KD_2, sd_t, sd_d, sd_i, sd_p, sd_c, sd_a, sd_b, sd_sa, sd_sb]
      rw [if_neg (by omega)]
      cases ea : decide (r (10 + k) = -1)
      · have eb := ea
        simp only [decide_eq_true_eq, decide_eq_false_iff_not] at eb
        simp (disch := first | omega | decide) only [eb, ob, lt_e, nl_le1, nl_le2, nl_lt1, nl_lt2, nl_eq1, nl_eq2, nn_le, nn_lt, nn_eq, nl_m1, z_lt, z_le, z_le2, z_lt2, z_eq, aI_0, aJ_0, sI_0, sJ_0, nI_l1, nI_l2, nI_l3, nI_l4, nI_add, bI_0, bI_1, bI_z, bI_t, bI_f, if_true, if_false, Bool.false_eq_true, Bool.true_eq_false, eq_self]
        rw [ih _ _ _ (by omega) (by omega)]
        simp [fo, awS, eb, bt]
      · have eb := ea
        simp only [decide_eq_true_eq, decide_eq_false_iff_not] at eb
        simp (disch := first | omega | decide) only [eb, ob, lt_e, nl_le1, nl_le2, nl_lt1, nl_lt2, nl_eq1, nl_eq2, nn_le, nn_lt, nn_eq, nl_m1, z_lt, z_le, z_le2, z_lt2, z_eq, aI_0, aJ_0, sI_0, sJ_0, nI_l1, nI_l2, nI_l3, nI_l4, nI_add, bI_0, bI_1, bI_z, bI_t, bI_f, if_true, if_false, Bool.false_eq_true, Bool.true_eq_false, eq_self]
        rw [ih _ _ _ (by omega) (by omega)]
        simp [fo, awS, eb, bt]
  unfold f_X1_present
  rw [show (0 : Int32) = nI 0 from rfl, e n 0 _ _ (by omega) (by unfold FU; omega)]
  rfl
theorem q_whomHears (h : AH) {s : Nat} {r : Nat → Int32} (hs : s = 3 ∨ s = 25 ∨ s = 29 ∨ s = 39) (hS : StX h s r) (hR : RoX h 2 r) {n : Nat} (hn : r 0 = nI n) (h7 : n ≤ 7) {b : Nat} (hb : b < 7) : f_X1_whomHears S_1 35 s (nI b) h = some (bits n (fun o => heS r b o), h) := by
  have rb : h.2.1 2 1 = nI n := hR.1.1.trans hn
  have ht := hS.1
  have e : ∀ (m k fu : Nat) (a : Int32), k + m = n → m < fu → f_X1_whomHears_l5 S_1 fu 35 s (nI b) a (nI k) h = some (fo (fun s o => s ||| (if heS r b o then bt o else 0)) k m a, h) := by
    intro m
    induction m with
    | zero =>
      intro k fu a hk hf
      obtain ⟨fu, rfl⟩ : ∃ x, fu = x + 1 := ⟨fu - 1, by omega⟩
      subst hk
      unfold f_X1_whomHears_l5 f_X1_whomHears_l5b
      simp (disch := first | omega | decide) only [rb, Nat.add_zero, ob, lt_e, nl_le1, nl_le2, nl_lt1, nl_lt2, nl_eq1, nl_eq2, nn_le, nn_lt, nn_eq, nl_m1, z_lt, z_le, z_le2, z_lt2, z_eq, aI_0, aJ_0, sI_0, sJ_0, nI_l1, nI_l2, nI_l3, nI_l4, nI_add, bI_0, bI_1, bI_z, bI_t, bI_f, if_true, if_false, Bool.false_eq_true, Bool.true_eq_false, eq_self, yi_35, yj_35, xi_35, xj_35, xz_35, ck_35, yr_35_0, yr_35_1, yr_35_4, yr_35_5, KD_35, yi_2, yj_2, xi_2, xj_2, xz_2, ck_2, yr_2_0, yr_2_2, yr_2_3, yr_2_5, yr_2_6, yr_2_11, yr_2_13, yr_2_14, KD_2]
      rw [if_pos (Nat.le_refl _)]
      rfl
    | succ m ih =>
      intro k fu a hk hf
      obtain ⟨fu, rfl⟩ : ∃ x, fu = x + 1 := ⟨fu - 1, by omega⟩
      unfold f_X1_whomHears_l5 f_X1_whomHears_l5b
      
      simp (disch := first | omega | decide) only [rb, q_hears h hs hS hR, ob, lt_e, nl_le1, nl_le2, nl_lt1, nl_lt2, nl_eq1, nl_eq2, nn_le, nn_lt, nn_eq, nl_m1, z_lt, z_le, z_le2, z_lt2, z_eq, aI_0, aJ_0, sI_0, sJ_0, nI_l1, nI_l2, nI_l3, nI_l4, nI_add, bI_0, bI_1, bI_z, bI_t, bI_f, if_true, if_false, Bool.false_eq_true, Bool.true_eq_false, eq_self, yi_35, yj_35, xi_35, xj_35, xz_35, ck_35, yr_35_0, yr_35_1, yr_35_4, yr_35_5, KD_35, yi_2, yj_2, xi_2, xj_2, xz_2, ck_2, yr_2_0, yr_2_2, yr_2_3, yr_2_5, yr_2_6, yr_2_11, yr_2_13, yr_2_14, KD_2, sd_t, sd_d, sd_i, sd_p, sd_c, sd_a, sd_b, sd_sa, sd_sb]
      rw [if_neg (by omega)]
      cases ea : heS r b k
      · simp (disch := first | omega | decide) only [ob, lt_e, nl_le1, nl_le2, nl_lt1, nl_lt2, nl_eq1, nl_eq2, nn_le, nn_lt, nn_eq, nl_m1, z_lt, z_le, z_le2, z_lt2, z_eq, aI_0, aJ_0, sI_0, sJ_0, nI_l1, nI_l2, nI_l3, nI_l4, nI_add, bI_0, bI_1, bI_z, bI_t, bI_f, if_true, if_false, Bool.false_eq_true, Bool.true_eq_false, eq_self]
        rw [ih _ _ _ (by omega) (by omega)]
        simp [fo, ea, bt]
      · simp (disch := first | omega | decide) only [ob, lt_e, nl_le1, nl_le2, nl_lt1, nl_lt2, nl_eq1, nl_eq2, nn_le, nn_lt, nn_eq, nl_m1, z_lt, z_le, z_le2, z_lt2, z_eq, aI_0, aJ_0, sI_0, sJ_0, nI_l1, nI_l2, nI_l3, nI_l4, nI_add, bI_0, bI_1, bI_z, bI_t, bI_f, if_true, if_false, Bool.false_eq_true, Bool.true_eq_false, eq_self]
        rw [ih _ _ _ (by omega) (by omega)]
        simp [fo, ea, bt]
  unfold f_X1_whomHears
  rw [show (0 : Int32) = nI 0 from rfl, e n 0 _ _ (by omega) (by unfold FU; omega)]
  rfl
theorem q_hearers (h : AH) {s : Nat} {r : Nat → Int32} (hs : s = 3 ∨ s = 25 ∨ s = 29 ∨ s = 39) (hS : StX h s r) (hR : RoX h 2 r) {n : Nat} (hn : r 0 = nI n) (h7 : n ≤ 7) {b : Nat} (hb : b < 7) : f_X1_hearers S_1 35 s (nI b) h = some (bits n (fun o => heS r o b), h) := by
  have rb : h.2.1 2 1 = nI n := hR.1.1.trans hn
  have ht := hS.1
  have e : ∀ (m k fu : Nat) (a : Int32), k + m = n → m < fu → f_X1_hearers_l5 S_1 fu 35 s (nI b) a (nI k) h = some (fo (fun s o => s ||| (if heS r o b then bt o else 0)) k m a, h) := by
    intro m
    induction m with
    | zero =>
      intro k fu a hk hf
      obtain ⟨fu, rfl⟩ : ∃ x, fu = x + 1 := ⟨fu - 1, by omega⟩
      subst hk
      unfold f_X1_hearers_l5 f_X1_hearers_l5b
      simp (disch := first | omega | decide) only [rb, Nat.add_zero, ob, lt_e, nl_le1, nl_le2, nl_lt1, nl_lt2, nl_eq1, nl_eq2, nn_le, nn_lt, nn_eq, nl_m1, z_lt, z_le, z_le2, z_lt2, z_eq, aI_0, aJ_0, sI_0, sJ_0, nI_l1, nI_l2, nI_l3, nI_l4, nI_add, bI_0, bI_1, bI_z, bI_t, bI_f, if_true, if_false, Bool.false_eq_true, Bool.true_eq_false, eq_self, yi_35, yj_35, xi_35, xj_35, xz_35, ck_35, yr_35_0, yr_35_1, yr_35_4, yr_35_5, KD_35, yi_2, yj_2, xi_2, xj_2, xz_2, ck_2, yr_2_0, yr_2_2, yr_2_3, yr_2_5, yr_2_6, yr_2_11, yr_2_13, yr_2_14, KD_2]
      rw [if_pos (Nat.le_refl _)]
      rfl
    | succ m ih =>
      intro k fu a hk hf
      obtain ⟨fu, rfl⟩ : ∃ x, fu = x + 1 := ⟨fu - 1, by omega⟩
      unfold f_X1_hearers_l5 f_X1_hearers_l5b
      
      simp (disch := first | omega | decide) only [rb, q_hears h hs hS hR, ob, lt_e, nl_le1, nl_le2, nl_lt1, nl_lt2, nl_eq1, nl_eq2, nn_le, nn_lt, nn_eq, nl_m1, z_lt, z_le, z_le2, z_lt2, z_eq, aI_0, aJ_0, sI_0, sJ_0, nI_l1, nI_l2, nI_l3, nI_l4, nI_add, bI_0, bI_1, bI_z, bI_t, bI_f, if_true, if_false, Bool.false_eq_true, Bool.true_eq_false, eq_self, yi_35, yj_35, xi_35, xj_35, xz_35, ck_35, yr_35_0, yr_35_1, yr_35_4, yr_35_5, KD_35, yi_2, yj_2, xi_2, xj_2, xz_2, ck_2, yr_2_0, yr_2_2, yr_2_3, yr_2_5, yr_2_6, yr_2_11, yr_2_13, yr_2_14, KD_2, sd_t, sd_d, sd_i, sd_p, sd_c, sd_a, sd_b, sd_sa, sd_sb]
      rw [if_neg (by omega)]
      cases ea : heS r k b
      · simp (disch := first | omega | decide) only [ob, lt_e, nl_le1, nl_le2, nl_lt1, nl_lt2, nl_eq1, nl_eq2, nn_le, nn_lt, nn_eq, nl_m1, z_lt, z_le, z_le2, z_lt2, z_eq, aI_0, aJ_0, sI_0, sJ_0, nI_l1, nI_l2, nI_l3, nI_l4, nI_add, bI_0, bI_1, bI_z, bI_t, bI_f, if_true, if_false, Bool.false_eq_true, Bool.true_eq_false, eq_self]
        rw [ih _ _ _ (by omega) (by omega)]
        simp [fo, ea, bt]
      · simp (disch := first | omega | decide) only [ob, lt_e, nl_le1, nl_le2, nl_lt1, nl_lt2, nl_eq1, nl_eq2, nn_le, nn_lt, nn_eq, nl_m1, z_lt, z_le, z_le2, z_lt2, z_eq, aI_0, aJ_0, sI_0, sJ_0, nI_l1, nI_l2, nI_l3, nI_l4, nI_add, bI_0, bI_1, bI_z, bI_t, bI_f, if_true, if_false, Bool.false_eq_true, Bool.true_eq_false, eq_self]
        rw [ih _ _ _ (by omega) (by omega)]
        simp [fo, ea, bt]
  unfold f_X1_hearers
  rw [show (0 : Int32) = nI 0 from rfl, e n 0 _ _ (by omega) (by unfold FU; omega)]
  rfl
theorem q_moved (h : AH) {s : Nat} {r : Nat → Int32} (hs : s = 3 ∨ s = 25 ∨ s = 29 ∨ s = 39) (hS : StX h s r) (hR : RoX h 2 r) {n : Nat} (hn : r 1 = nI n) (h7 : n ≤ 6) : f_X1_moved S_1 35 s h = some (bits n (fun m => decide (r (17 + m) = 1)), h) := by
  have rb : h.2.1 2 4 = nI n := hR.1.2.1.trans hn
  have hd := hS.2.1
  have e : ∀ (m k fu : Nat) (a : Int32), k + m = n → m < fu → f_X1_moved_l4 S_1 fu 35 s a (nI k) h = some (fo (fun s m => s ||| (if decide (r (17 + m) = 1) then bt m else 0)) k m a, h) := by
    intro m
    induction m with
    | zero =>
      intro k fu a hk hf
      obtain ⟨fu, rfl⟩ : ∃ x, fu = x + 1 := ⟨fu - 1, by omega⟩
      subst hk
      unfold f_X1_moved_l4 f_X1_moved_l4b
      simp (disch := first | omega | decide) only [rb, Nat.add_zero, ob, lt_e, nl_le1, nl_le2, nl_lt1, nl_lt2, nl_eq1, nl_eq2, nn_le, nn_lt, nn_eq, nl_m1, z_lt, z_le, z_le2, z_lt2, z_eq, aI_0, aJ_0, sI_0, sJ_0, nI_l1, nI_l2, nI_l3, nI_l4, nI_add, bI_0, bI_1, bI_z, bI_t, bI_f, if_true, if_false, Bool.false_eq_true, Bool.true_eq_false, eq_self, yi_35, yj_35, xi_35, xj_35, xz_35, ck_35, yr_35_0, yr_35_1, yr_35_4, yr_35_5, KD_35, yi_2, yj_2, xi_2, xj_2, xz_2, ck_2, yr_2_0, yr_2_2, yr_2_3, yr_2_5, yr_2_6, yr_2_11, yr_2_13, yr_2_14, KD_2]
      rw [if_pos (Nat.le_refl _)]
      rfl
    | succ m ih =>
      intro k fu a hk hf
      obtain ⟨fu, rfl⟩ : ∃ x, fu = x + 1 := ⟨fu - 1, by omega⟩
      unfold f_X1_moved_l4 f_X1_moved_l4b
      
      simp (disch := first | omega | decide) only [rb, hd k (by omega), ob, lt_e, nl_le1, nl_le2, nl_lt1, nl_lt2, nl_eq1, nl_eq2, nn_le, nn_lt, nn_eq, nl_m1, z_lt, z_le, z_le2, z_lt2, z_eq, aI_0, aJ_0, sI_0, sJ_0, nI_l1, nI_l2, nI_l3, nI_l4, nI_add, bI_0, bI_1, bI_z, bI_t, bI_f, if_true, if_false, Bool.false_eq_true, Bool.true_eq_false, eq_self, yi_35, yj_35, xi_35, xj_35, xz_35, ck_35, yr_35_0, yr_35_1, yr_35_4, yr_35_5, KD_35, yi_2, yj_2, xi_2, xj_2, xz_2, ck_2, yr_2_0, yr_2_2, yr_2_3, yr_2_5, yr_2_6, yr_2_11, yr_2_13, yr_2_14, KD_2, sd_t, sd_d, sd_i, sd_p, sd_c, sd_a, sd_b, sd_sa, sd_sb]
      rw [if_neg (by omega)]
      cases ea : decide (r (17 + k) = 1)
      · have eb := ea
        simp only [decide_eq_true_eq, decide_eq_false_iff_not] at eb
        simp (disch := first | omega | decide) only [eb, ob, lt_e, nl_le1, nl_le2, nl_lt1, nl_lt2, nl_eq1, nl_eq2, nn_le, nn_lt, nn_eq, nl_m1, z_lt, z_le, z_le2, z_lt2, z_eq, aI_0, aJ_0, sI_0, sJ_0, nI_l1, nI_l2, nI_l3, nI_l4, nI_add, bI_0, bI_1, bI_z, bI_t, bI_f, if_true, if_false, Bool.false_eq_true, Bool.true_eq_false, eq_self]
        rw [ih _ _ _ (by omega) (by omega)]
        simp [fo, ea, bt]
      · have eb := ea
        simp only [decide_eq_true_eq, decide_eq_false_iff_not] at eb
        simp (disch := first | omega | decide) only [eb, ob, lt_e, nl_le1, nl_le2, nl_lt1, nl_lt2, nl_eq1, nl_eq2, nn_le, nn_lt, nn_eq, nl_m1, z_lt, z_le, z_le2, z_lt2, z_eq, aI_0, aJ_0, sI_0, sJ_0, nI_l1, nI_l2, nI_l3, nI_l4, nI_add, bI_0, bI_1, bI_z, bI_t, bI_f, if_true, if_false, Bool.false_eq_true, Bool.true_eq_false, eq_self]
        rw [ih _ _ _ (by omega) (by omega)]
        simp [fo, ea, bt]
  unfold f_X1_moved
  rw [show (0 : Int32) = nI 0 from rfl, e n 0 _ _ (by omega) (by unfold FU; omega)]
  rfl
/-- a set of birds: bitCount tells what the seven bits tell -/
theorem x_bitCount (S : SH) (h : AH) {s : Nat} (hs : s < 128) : f_J6_bitCount_0f7a4 S (nI s) h = some (on7 (nI s), h) := by
  have e : ∀ k, k < 128 → (let y_1 := nI k - (shrU (nI k) 1 &&& 1431655765); let y_2 := (y_1 &&& 858993459) + (shrU y_1 2 &&& 858993459); let y_3 := (y_2 + shrU y_2 4) &&& 252645135; let y_4 := y_3 + shrU y_3 8; let y_5 := y_4 + shrU y_4 16; y_5 &&& 63) = on7 (nI k) := by decide +kernel
  have := e s hs
  unfold f_J6_bitCount_0f7a4
  simp only [lt_e]
  rw [← this]
theorem bt_or {s k : Nat} (hs : s < 128) (hk : k < 7) : ∃ t, t < 128 ∧ nI s ||| bt k = nI t := by
  have e : ∀ k, k < 7 → ∀ s, s < 128 → (nI s ||| bt k) = nI (s ||| 1 <<< k) ∧ s ||| 1 <<< k < 128 := by decide +kernel
  exact ⟨_, (e k hk s hs).2, (e k hk s hs).1⟩
theorem bits_lt {n : Nat} (h7 : n ≤ 7) (f : Nat → Bool) : ∃ t, t < 128 ∧ bits n f = nI t := by
  have e : ∀ (m k s : Nat), k + m ≤ 7 → s < 128 → ∃ t, t < 128 ∧ fo (fun s k => s ||| (if f k then bt k else 0)) k m (nI s) = nI t := by
    intro m
    induction m with
    | zero => exact fun k s _ h => ⟨s, h, rfl⟩
    | succ m ih =>
      intro k s hk hs
      show ∃ t, t < 128 ∧ fo _ (k + 1) m (nI s ||| (if f k then bt k else 0)) = nI t
      cases f k with
      | false =>
        rw [show (nI s ||| (if false = true then bt k else 0)) = nI s from by simp]
        exact ih _ _ (by omega) hs
      | true =>
        obtain ⟨t, h1, h2⟩ := bt_or hs (show k < 7 by omega)
        rw [show (nI s ||| (if true = true then bt k else 0)) = nI t from by simp [h2]]
        exact ih _ _ (by omega) h1
  exact e n 0 0 (by omega) (by omega)
theorem q_bits (S : SH) (h : AH) {n : Nat} (h7 : n ≤ 7) (f : Nat → Bool) : f_J6_bitCount_0f7a4 S (bits n f) h = some (on7 (bits n f), h) := by
  obtain ⟨t, h1, h2⟩ := bits_lt h7 f
  rw [h2]
  exact x_bitCount S h h1
theorem q_carries (h : AH) {s a : Nat} {r : Nat → Int32} (hR : RoX h 2 r) (hs : s < 128) (ha : a < 128) : f_X1_wouldCarry S_1 35 (nI s) (nI a) h = some (bI (caS r (nI s) (nI a)), h) := by
  have r8 : h.2.1 2 9 = r 8 := hR.1.2.2.2.2.2.2.2
  unfold f_X1_wouldCarry caS
  simp only [x_bitCount S_1 h hs, x_bitCount S_1 h ha, ob, yr_35_0, yi_2, r8]
  by_cases e : on7 (nI s) < r 8
  · rw [if_pos e]
    simp [bI, Int32.not_le.mpr e]
  · rw [if_neg e]
    by_cases e2 : 2 * on7 (nI a) ≤ on7 (nI s)
    · rw [if_pos e2]
      simp [bI, Int32.not_lt.mpr e2]
    · rw [if_neg e2]
      simp [bI, Int32.not_lt.mp e, Int32.not_le.mp e2]

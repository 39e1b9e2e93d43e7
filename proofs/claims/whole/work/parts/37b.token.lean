/-! tokens: the class cuts them -/
def srt (x : Nat) : Int32 := if 97 ≤ x ∧ x ≤ 122 then 283 else if 48 ≤ x ∧ x ≤ 57 then 284 else 285
theorem srt_3 (x : Nat) : srt x = 285 ↔ cls x = 3 := by
  unfold srt cls
  by_cases c1 : 97 ≤ x ∧ x ≤ 122
  · rw [if_pos c1, if_pos c1]; decide
  · rw [if_neg c1, if_neg c1]
    by_cases c2 : 48 ≤ x ∧ x ≤ 57
    · rw [if_pos c2, if_pos c2]; decide
    · rw [if_neg c2, if_neg c2]; decide
theorem srt_1 (x : Nat) : srt x = 283 ↔ cls x = 1 := by
  unfold srt cls
  by_cases c1 : 97 ≤ x ∧ x ≤ 122
  · rw [if_pos c1, if_pos c1]; decide
  · rw [if_neg c1, if_neg c1]
    by_cases c2 : 48 ≤ x ∧ x ≤ 57
    · rw [if_pos c2, if_pos c2]; decide
    · rw [if_neg c2, if_neg c2]; decide
theorem cls_cases (x : Nat) : cls x = 1 ∨ cls x = 2 ∨ cls x = 3 := by
  unfold cls
  split
  · exact Or.inl rfl
  · split
    · exact Or.inr (Or.inl rfl)
    · exact Or.inr (Or.inr rfl)
def srC (c : Nat) : Int32 := if c = 1 then 283 else if c = 2 then 284 else 285
theorem srt_c (x : Nat) : srt x = srC (cls x) := by
  unfold srt cls
  by_cases c1 : 97 ≤ x ∧ x ≤ 122
  · rw [if_pos c1, if_pos c1]; rfl
  · rw [if_neg c1, if_neg c1]
    by_cases c2 : 48 ≤ x ∧ x ≤ 57
    · rw [if_pos c2, if_pos c2]; rfl
    · rw [if_neg c2, if_neg c2]; rfl
theorem srC_inj : ∀ a, a < 4 → ∀ b, b < 4 → 1 ≤ a → 1 ≤ b → (srC a = srC b ↔ a = b) := by decide
theorem srt_eq (x y : Nat) : srt x = srt y ↔ cls x = cls y := by
  rw [srt_c, srt_c]
  have a := cls_cases x
  have b := cls_cases y
  exact srC_inj _ (by omega) _ (by omega) (by omega) (by omega)
theorem q_sortOf (S : SH) (h : AH) {x : Nat} (hx : x < 256) : f_X9_sortOf S (nI x) h = some (srt x, h) := by
  unfold f_X9_sortOf srt
  rw [show (97 : Int32) = nI 97 from rfl, show (48 : Int32) = nI 48 from rfl, show (57 : Int32) = nI 57 from rfl, show (122 : Int32) = nI 122 from rfl]
  simp (disch := first | omega | decide) only [nn_lt]
  by_cases c1 : x < 97
  · rw [if_pos c1, if_neg (show ¬ (97 ≤ x ∧ x ≤ 122) by omega)]
    by_cases c2 : x < 48
    · rw [if_pos c2, if_neg (show ¬ (48 ≤ x ∧ x ≤ 57) by omega)]
    · rw [if_neg c2]
      by_cases c3 : 57 < x
      · rw [if_pos c3, if_neg (show ¬ (48 ≤ x ∧ x ≤ 57) by omega)]
      · rw [if_neg c3, if_pos (show 48 ≤ x ∧ x ≤ 57 by omega)]
  · rw [if_neg c1]
    by_cases c2 : 122 < x
    · rw [if_pos c2, if_neg (show ¬ (97 ≤ x ∧ x ≤ 122) by omega), if_neg (show ¬ x < 48 by omega), if_pos (show 57 < x by omega), if_neg (show ¬ (48 ≤ x ∧ x ≤ 57) by omega)]
    · rw [if_neg c2, if_pos (show 97 ≤ x ∧ x ≤ 122 by omega)]
/-- the class's tape -/
def Tp (h : AH) (b : Nat → Nat) : Prop := ∀ j, j < 400 → h.2.1 1 j = nI (b j) ∧ b j < 256
theorem q_endOf {h : AH} {b : Nat → Nat} (tp : Tp h b) {t i : Nat} (ht : t ≤ 400) (hi : i < t) : f_X9_endOf S_1 1 (nI i) (nI t) h = some (nI (enT b t i), h) := by
  unfold f_X9_endOf enT
  rw [bs_ (ai_1 h (by omega)), (tp i (by omega)).1, bs_ (q_sortOf S_1 h (tp i (by omega)).2)]
  dsimp only
  rw [lt_e, nI_1]
  by_cases c : cls (b i) = 3
  · rw [if_pos c, show FU = 999999 + 1 from rfl, f_X9_endOf_l12]
    unfold f_X9_endOf_l12b
    rw [if_pos ((srt_3 _).mpr c)]
    rfl
  · have e : ∀ (m j fu : Nat), j + m = t → m < fu → f_X9_endOf_l12 S_1 fu 1 (nI t) (srt (b i)) (nI j) h = some (nI (ndL b (cls (b i)) m j), h) := by
      intro m
      induction m with
      | zero =>
        intro j fu hj hf
        obtain ⟨fu, rfl⟩ : ∃ x, fu = x + 1 := ⟨fu - 1, by omega⟩
        rw [f_X9_endOf_l12]
        unfold f_X9_endOf_l12b
        rw [if_neg (fun z => c ((srt_3 _).mp z)), if_pos (by rw [nn_le (by omega) (by omega)]; omega)]
        rfl
      | succ m ih =>
        intro j fu hj hf
        obtain ⟨fu, rfl⟩ : ∃ x, fu = x + 1 := ⟨fu - 1, by omega⟩
        rw [f_X9_endOf_l12]
        unfold f_X9_endOf_l12b
        rw [if_neg (fun z => c ((srt_3 _).mp z)), if_neg (by rw [nn_le (by omega) (by omega)]; omega), bs_ (show lnA S_1 h 1 = some (nI 400) from rfl), if_neg (by rw [nn_le (by decide) (by omega)]; omega), bs_ (ai_1 h (by omega)), (tp j (by omega)).1, bs_ (q_sortOf S_1 h (tp j (by omega)).2), ndL]
        dsimp only
        by_cases d : cls (b j) = cls (b i)
        · rw [if_pos ((srt_eq _ _).mpr d), if_pos d, lt_e, nI_1, ih (j + 1) fu (by omega) (by omega)]
        · rw [if_neg (fun z => d ((srt_eq _ _).mp z)), if_neg d]
    rw [if_neg c, bs_ (e (t - (i + 1)) (i + 1) FU (by omega) (by unfold FU; omega))]
theorem mx_48 : ∀ x, x < 256 → mxI 0 (nI x - 48) = nI (x - 48) := by decide +kernel
theorem mn_1001 {u : Nat} (hu : u < 2 ^ 31) : mnI (nI u) 1001 = nI (min u 1001) := by
  unfold mnI
  rw [show (1001 : Int32) = nI 1001 from rfl]
  simp (disch := first | omega | decide) only [nn_lt]
  by_cases c : 1001 < u
  · rw [if_pos c, Nat.min_eq_right (by omega)]
  · rw [if_neg c, Nat.min_eq_left (by omega)]
theorem q_numberOf {h : AH} {b : Nat → Nat} (tp : Tp h b) {i e : Nat} (he : e ≤ 400) (hi : i ≤ e) : f_X9_numberOf S_1 1 (nI i) (nI e) h = some (nI (nuL b (e - i) i 0), h) := by
  have g : ∀ (m i fu a : Nat), i + m = e → m < fu → a ≤ 1001 → f_X9_numberOf_l5 S_1 fu 1 (nI e) (nI a) (nI i) h = some (nI (nuL b m i a), h) := by
    intro m
    induction m with
    | zero =>
      intro i fu a hi hf ha
      obtain ⟨fu, rfl⟩ : ∃ x, fu = x + 1 := ⟨fu - 1, by omega⟩
      rw [f_X9_numberOf_l5]
      unfold f_X9_numberOf_l5b
      rw [if_pos (by rw [nn_le (by omega) (by omega)]; omega)]
      rfl
    | succ m ih =>
      intro i fu a hi hf ha
      obtain ⟨fu, rfl⟩ : ∃ x, fu = x + 1 := ⟨fu - 1, by omega⟩
      have bx := (tp i (by omega)).2
      rw [f_X9_numberOf_l5]
      unfold f_X9_numberOf_l5b
      rw [if_neg (by rw [nn_le (by omega) (by omega)]; omega), bs_ (show lnA S_1 h 1 = some (nI 400) from rfl), if_neg (by rw [nn_le (by decide) (by omega)]; omega), bs_ (ai_1 h (by omega)), (tp i (by omega)).1, mx_48 _ bx, show (10 : Int32) = nI 10 from rfl, pk_mul, nI_add, mn_1001 (by omega), lt_e, lt_e, nI_1, nuL]
      exact ih (i + 1) fu _ (by omega) (by omega) (Nat.min_le_right _ _)
  unfold f_X9_numberOf
  rw [bs_ (show f_X9_numberOf_l5 S_1 FU 1 (nI e) (0 : Int32) (nI i) h = _ from g (e - i) i FU 0 (by omega) (by unfold FU; omega) (by omega))]
theorem q_add (h : AH) {z : Nat} (hz : z < 401) (e : h.2.1 46 3 = nI z) (k p n : Int32) : f_X9_add S_1 46 k p n h = some ((), stI (stI (stI (stI h 47 z k) 48 z p) 49 z n) 46 3 (nI (z + 1))) := by
  unfold f_X9_add
  rw [bs_ (show gI S_1 h 46 9 3 = some (h.2.1 46 3) from rfl), e, if_neg (by rw [z_lt (by omega)]; exact id), bs_ (show gI S_1 h 46 9 3 = some (h.2.1 46 3) from rfl), e, bs_ (show gR S_1 h 46 9 0 = some 47 from rfl), bs_ (show lnA S_1 h 47 = some (nI 401) from rfl), if_neg (by rw [nn_le (by decide) (by omega)]; omega), bs_ (show gR S_1 h 46 9 0 = some 47 from rfl), bs_ (show gI S_1 h 46 9 3 = some (h.2.1 46 3) from rfl), e, bs_ (si_47 h _ hz)]
  generalize eh1 : stI h 47 z k = h1
  have e1 : h1.2.1 46 3 = nI z := by rw [← eh1, ri_p (by decide)]; exact e
  rw [bs_ (show gR S_1 h1 46 9 1 = some 48 from rfl), bs_ (show gI S_1 h1 46 9 3 = some (h1.2.1 46 3) from rfl), e1, bs_ (si_48 h1 _ hz)]
  generalize eh2 : stI h1 48 z p = h2
  have e2 : h2.2.1 46 3 = nI z := by rw [← eh2, ri_p (by decide)]; exact e1
  rw [bs_ (show gR S_1 h2 46 9 2 = some 49 from rfl), bs_ (show gI S_1 h2 46 9 3 = some (h2.2.1 46 3) from rfl), e2, bs_ (si_49 h2 _ hz)]
  generalize eh3 : stI h2 49 z n = h3
  have e3 : h3.2.1 46 3 = nI z := by rw [← eh3, ri_p (by decide)]; exact e2
  rw [bs_ (show gI S_1 h3 46 9 3 = some (h3.2.1 46 3) from rfl), e3, nI_1, bs_ (show pI S_1 h3 46 9 3 (nI (z + 1)) = some (stI h3 46 3 (nI (z + 1))) from rfl)]
/-! which word -/
def wpo (k : Nat) : Nat := ((WLs.take k).map fun l => l.length + 1).sum
theorem wp_27 : wpo 27 = 145 := by decide +kernel
theorem wp_s : ∀ k, k < 27 → wpo (k + 1) = wpo k + (WLs.getD k []).length + 1 ∧ wpo (k + 1) ≤ 145 := by decide +kernel
theorem tx_l : ∀ k, k < 27 → ∀ j, j < (WLs.getD k []).length → strBy.getD (wpo k + j) 0 = nI ((WLs.getD k []).getD j 0) := by rw [strBy_eq]; decide +kernel
theorem tx_b : ∀ k, k < 27 → strBy.getD (wpo k + (WLs.getD k []).length) 0 = 32 := by rw [strBy_eq]; decide +kernel
theorem wl_a : ∀ k, k < 27 → ∀ j, j < (WLs.getD k []).length → 97 ≤ (WLs.getD k []).getD j 0 ∧ (WLs.getD k []).getD j 0 ≤ 122 := by decide +kernel
theorem wl_len : ∀ k, k < 27 → (WLs.getD k []).length ≤ 7 ∧ 1 ≤ (WLs.getD k []).length := by decide +kernel
theorem st_at {p : Nat} (hp : p < 145) : strAt (nI p) = some (strBy.getD p 0) := by
  unfold strAt
  rw [nI_clamp (by omega), if_neg]
  rintro (h | h)
  · exact nI_pos (by omega) h
  · omega
def mtW (b : Nat → Nat) (s e : Nat) (l : List Nat) : Nat → Bool
  | 0 => true
  | j + 1 => mtW b s e l j && (decide (s + j < e) && decide (b (s + j) = l.getD j 0))
theorem mtW_iff {b : Nat → Nat} {s e : Nat} {l : List Nat} : ∀ n, mtW b s e l n = true ↔ ∀ j, j < n → s + j < e ∧ b (s + j) = l.getD j 0
  | 0 => ⟨fun _ j h => (by omega), fun _ => rfl⟩
  | n + 1 => by
    rw [mtW, Bool.and_eq_true, Bool.and_eq_true, decide_eq_true_iff, decide_eq_true_iff, mtW_iff n]
    constructor
    · intro h j hj
      by_cases e : j = n
      · rw [e]; exact h.2
      · exact h.1 j (by omega)
    · exact fun h => ⟨fun j hj => h j (by omega), h n (by omega)⟩
def mtV (b : Nat → Nat) (s e : Nat) (l : List Nat) (j : Nat) : Int32 := if mtW b s e l j = true then nI j else -1
theorem q_word1 {h : AH} {b : Nat → Nat} (tp : Tp h b) {s e k : Nat} (hs : s ≤ 400) (he : e ≤ 400) (hk : k < 27) (x3 : Int32) : ∀ (m j fu : Nat), j + m = (WLs.getD k []).length → f_X9_wordOf_l10 S_1 (fu + m) 1 (nI s) (nI e) x3 (mtV b s e (WLs.getD k []) j) (nI (wpo k + j)) h = f_X9_wordOf_l10 S_1 fu 1 (nI s) (nI e) x3 (mtV b s e (WLs.getD k []) (WLs.getD k []).length) (nI (wpo k + (WLs.getD k []).length)) h := by
  obtain ⟨p1, p2⟩ := wp_s k hk
  intro m
  induction m with
  | zero =>
    intro j fu hj
    have : j = (WLs.getD k []).length := by omega
    rw [this]
    rfl
  | succ m ih =>
    intro j fu hj
    obtain ⟨a1, a2⟩ := wl_a k hk j (by omega)
    obtain ⟨l7, _⟩ := wl_len k hk
    rw [← ih (j + 1) fu (by omega), show fu + (m + 1) = (fu + m) + 1 by omega, f_X9_wordOf_l10]
    unfold f_X9_wordOf_l10b
    rw [if_neg (show ¬ strLen ≤ nI (wpo k + j) by unfold strLen; rw [nn_le (by decide) (by omega)]; omega), bs_ (st_at (by omega)), tx_l k hk j (by omega), if_neg (by rw [show (32 : Int32) = nI 32 from rfl, nn_eq (by omega) (by decide)]; omega)]
    unfold mtV
    rw [mtW]
    by_cases c : mtW b s e (WLs.getD k []) j = true
    · rw [if_pos c, if_neg (by rw [nl_m1 (by omega)]; exact id), nI_add, lt_e, c, Bool.true_and]
      by_cases c2 : s + j < e
      · rw [if_neg (by rw [nn_le (by omega) (by omega)]; omega), bs_ (show lnA S_1 h 1 = some (nI 400) from rfl), if_neg (by rw [nn_le (by decide) (by omega)]; omega), bs_ (ai_1 h (by omega)), (tp (s + j) (by omega)).1, decide_eq_true c2, Bool.true_and]
        have bx := (tp (s + j) (by omega)).2
        by_cases c3 : b (s + j) = (WLs.getD k []).getD j 0
        · rw [if_pos (by rw [c3]), lt_e, lt_e, nI_1, nI_1, decide_eq_true c3, if_pos rfl, Nat.add_assoc]
        · rw [if_neg (by rw [nn_eq (by omega) (by omega)]; exact c3), lt_e, nI_1, decide_eq_false c3, if_neg (by decide), Nat.add_assoc]
      · rw [decide_eq_false c2, Bool.false_and, if_neg (show ¬ false = true by decide)]
        rw [if_pos (by rw [nn_le (by omega) (by omega)]; omega), lt_e, nI_1, Nat.add_assoc]
    · rw [if_neg c, if_pos rfl, lt_e, nI_1, (Bool.not_eq_true _).mp c, Bool.false_and, if_neg (show ¬ false = true by decide), Nat.add_assoc]
def fwL (l : List Nat) : Nat → Nat → Nat
  | 0, k => k
  | m + 1, k => if l = WLs.getD k [] then k else fwL l m (k + 1)
theorem fwL_le (l : List Nat) : ∀ m k, fwL l m k ≤ k + m
  | 0, k => Nat.le_refl _
  | m + 1, k => by
    rw [fwL]
    split
    · omega
    · have := fwL_le l m (k + 1)
      omega
theorem fwL_27 (l : List Nat) : fwL l 27 0 = wix l := by
  have g : ∀ m k, k + m = 27 → (∀ j, j < k → l ≠ WLs.getD j []) → fwL l m k = wix l := by
    intro m
    induction m with
    | zero =>
      intro k hk hj
      rw [fwL]
      have le := wix_le l
      by_cases c : wix l < 27
      · exact absurd ((wix_iff c).mp rfl) (hj _ (by omega))
      · omega
    | succ m ih =>
      intro k hk hj
      rw [fwL]
      by_cases c : l = WLs.getD k []
      · rw [if_pos c]
        exact ((wix_iff (by omega)).mpr c).symm
      · rw [if_neg c]
        refine ih (k + 1) (by omega) fun j hj' => ?_
        by_cases e : j = k
        · rw [e]; exact c
        · exact hj j (by omega)
  exact g 27 0 (by omega) fun j hj => by omega
theorem q_words {h : AH} {b : Nat → Nat} (tp : Tp h b) {s e : Nat} (he : e ≤ 400) (hse : s < e) : ∀ (m k fu : Nat), k + m = 27 → f_X9_wordOf_l10 S_1 (fu + 1 + (145 - wpo k)) 1 (nI s) (nI e) (nI (256 + k)) 0 (nI (wpo k)) h = some (if fwL (letL b s e) m k = 27 then .inr () else .inl (nI (256 + fwL (letL b s e) m k)), h) := by
  intro m
  induction m with
  | zero =>
    intro k fu hk
    have : k = 27 := by omega
    subst this
    rw [wp_27, show fu + 1 + (145 - 145) = fu + 1 by omega, f_X9_wordOf_l10]
    unfold f_X9_wordOf_l10b
    rw [if_pos (show strLen ≤ nI 145 from Int32.le_refl _), fwL, if_pos rfl]
  | succ m ih =>
    intro k fu hk
    obtain ⟨p1, p2⟩ := wp_s k (by omega)
    obtain ⟨l7, l1⟩ := wl_len k (by omega)
    have q1 := q_word1 tp (s := s) (e := e) (k := k) (by omega) he (by omega) (nI (256 + k)) (WLs.getD k []).length 0 (fu + 1 + (145 - wpo (k + 1)) + 1) (by omega)
    rw [show (fu + 1 + (145 - wpo (k + 1)) + 1) + (WLs.getD k []).length = fu + 1 + (145 - wpo k) by omega] at q1
    replace q1 : f_X9_wordOf_l10 S_1 (fu + 1 + (145 - wpo k)) 1 (nI s) (nI e) (nI (256 + k)) (mtV b s e (WLs.getD k []) 0) (nI (wpo k)) h = _ := q1
    rw [show (0 : Int32) = mtV b s e (WLs.getD k []) 0 from rfl, q1, f_X9_wordOf_l10]
    unfold f_X9_wordOf_l10b
    rw [if_neg (show ¬ strLen ≤ nI (wpo k + (WLs.getD k []).length) by unfold strLen; rw [nn_le (by decide) (by omega)]; omega), bs_ (st_at (by omega)), tx_b k (by omega), if_pos rfl, fwL]
    have sub : nI e - nI s = nI (e - s) := by
      have := nI_sub' (e - s) s
      rwa [show e - s + s = e by omega] at this
    have key : mtV b s e (WLs.getD k []) (WLs.getD k []).length = nI (e - s) ↔ letL b s e = WLs.getD k [] := by
      rw [letL_iff]
      unfold mtV
      by_cases c : mtW b s e (WLs.getD k []) (WLs.getD k []).length = true
      · rw [if_pos c, nn_eq (by omega) (by omega)]
        have c := (mtW_iff _).mp c
        exact ⟨fun z => ⟨z.symm, fun j hj => (c j hj).2⟩, fun z => z.1.symm⟩
      · rw [if_neg c]
        constructor
        · intro z
          have : (nI (e - s) = -1) = False := nl_m1 (by omega)
          rw [← z] at this
          simp at this
        · intro z
          exact absurd ((mtW_iff _).mpr fun j hj => ⟨by omega, z.2 j hj⟩) c
    rw [sub]
    by_cases c : letL b s e = WLs.getD k []
    · rw [if_pos (key.mpr c), if_pos c, if_neg (by omega)]
    · rw [if_neg (fun z => c (key.mp z)), if_neg c, lt_e, lt_e, nI_1, nI_1, Nat.add_assoc 256 k 1, Nat.add_assoc (wpo k), show (WLs.getD k []).length + 1 = wpo (k + 1) - wpo k by omega, show wpo k + (wpo (k + 1) - wpo k) = wpo (k + 1) by omega]
      exact ih (k + 1) fu (by omega)
theorem q_wordOf {h : AH} {b : Nat → Nat} (tp : Tp h b) {s e : Nat} (he : e ≤ 400) (hse : s < e) : f_X9_wordOf S_1 1 (nI s) (nI e) h = some (nI (256 + wix (letL b s e)), h) := by
  have q := q_words tp he hse 27 0 (FU - 146) (by omega)
  rw [show FU - 146 + 1 + (145 - wpo 0) = FU from rfl, fwL_27] at q
  unfold f_X9_wordOf
  rw [bs_ (show f_X9_wordOf_l10 S_1 FU 1 (nI s) (nI e) (256 : Int32) (0 : Int32) (0 : Int32) h = _ from q)]
  by_cases c : wix (letL b s e) = 27
  · rw [if_pos c, c]
    rfl
  · rw [if_neg c]
theorem q_kindOf {h : AH} {b : Nat → Nat} (tp : Tp h b) {t s : Nat} (ht : t ≤ 400) (hs : s < t) : f_X9_kindOf S_1 1 (nI s) (nI (enT b t s)) h = some (nI (kdT b t s), h) := by
  obtain ⟨e1, e2, _, _⟩ := enT_ok (b := b) hs
  unfold f_X9_kindOf kdT
  rw [bs_ (ai_1 h (by omega)), (tp s (by omega)).1, bs_ (q_sortOf S_1 h (tp s (by omega)).2)]
  dsimp only
  rw [if_neg (show ¬ t ≤ s by omega)]
  by_cases c3 : cls (b s) = 3
  · rw [if_pos ((srt_3 _).mpr c3), if_pos c3, bs_ (ai_1 h (by omega)), (tp s (by omega)).1]
  · rw [if_neg (fun z => c3 ((srt_3 _).mp z)), if_neg c3]
    by_cases c1 : cls (b s) = 1
    · rw [if_pos ((srt_1 _).mpr c1), if_pos c1, bs_ (q_wordOf tp (by omega) e1)]
    · rw [if_neg (fun z => c1 ((srt_1 _).mp z)), if_neg c1]
      rfl

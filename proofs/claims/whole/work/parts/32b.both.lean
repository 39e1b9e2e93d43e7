/-! the fewest that turn it -/
def feP (r : Nat → Int32) (W Y S A : Int32) (wn : Bool) (x : Nat) : Bool := decide (nI x &&& (W ^^^ -1) = 0) && (caS r (S ^^^ nI x) (A ^^^ (nI x &&& Y)) == wn)
theorem fe_j38 {h : AH} {r : Nat → Int32} {W Y S A k : Nat} {wn : Bool} {rc : Nat → Int32 → Int32 → Int32 → Int32 → Int32 → AH → Option (Int32 × AH)} {x4 : Int32} (hR : RoX h 2 r) (hS : S < 128) (hA : A < 128) (hk : k < 128) (s2 : h.2.1 35 2 = nI S) (s3 : h.2.1 35 3 = nI A) : f_X1_fewest_l6_j38 S_1 rc 35 (nI W) (nI Y) (bI wn) x4 (nI k) 1 h = rc 35 (nI W) (nI Y) (bI wn) (if feP r (nI W) (nI Y) (nI S) (nI A) wn k = true then nI k else x4) (nI (k + 1)) h := by
  have bb : ∀ c w : Bool, (bI c = bI w) ↔ ((c == w) = true) := by decide
  unfold f_X1_fewest_l6_j38 feP
  rw [if_neg (show ¬ (1 : Int32) = 0 by decide)]
  by_cases c : nI k &&& (nI W ^^^ -1) = 0
  · obtain ⟨t1, l1, q1⟩ := x7_xor hS hk
    obtain ⟨t2, l2, q2⟩ := x7_and (b := Y) hk
    obtain ⟨t3, l3, q3⟩ := x7_xor hA l2
    rw [if_pos c, decide_eq_true c, Bool.true_and, bs_ (yi_35 h 2), s2, bs_ (yi_35 h 3), s3, bs_ (ck_35 h), q1, q2, q3, bs_ (q_carries h hR l1 l3)]
    dsimp only
    by_cases e : (caS r (nI t1) (nI t3) == wn) = true
    · rw [if_pos ((bb _ _).mpr e), if_pos e, lt_e, nI_1]
    · rw [if_neg (fun z => e ((bb _ _).mp z)), if_neg e, lt_e, nI_1]
  · rw [if_neg c, decide_eq_false c, Bool.false_and, if_neg (show ¬ false = true by decide), lt_e, nI_1]
theorem q_few6 {h : AH} {r : Nat → Int32} {W Y S A : Nat} {wn : Bool} (hR : RoX h 2 r) (hS : S < 128) (hA : A < 128) (s2 : h.2.1 35 2 = nI S) (s3 : h.2.1 35 3 = nI A) : ∀ (m k fu : Nat) (s : Option Nat), k + m = 128 → m < fu → (∀ b, s = some b → b < 128) → f_X1_fewest_l6 S_1 fu 35 (nI W) (nI Y) (bI wn) (opI s) (nI k) h = some (opI (fo (seS (feP r (nI W) (nI Y) (nI S) (nI A) wn)) k m s), h) := by
  intro m
  induction m with
  | zero =>
    intro k fu s hk hf hb
    obtain ⟨fu, rfl⟩ : ∃ x, fu = x + 1 := ⟨fu - 1, by omega⟩
    have : k = 128 := by omega
    subst this
    rw [f_X1_fewest_l6]
    rfl
  | succ m ih =>
    intro k fu s hk hf hb
    obtain ⟨fu, rfl⟩ : ∃ x, fu = x + 1 := ⟨fu - 1, by omega⟩
    have h128 : ¬ (128 : Int32) ≤ nI k := by
      rw [show (128 : Int32) = nI 128 from rfl, nn_le (by decide) (by omega)]
      omega
    rw [f_X1_fewest_l6]
    unfold f_X1_fewest_l6b f_X1_fewest_l6_j33
    show _ = some (opI (fo _ (k + 1) m (seS _ s k)), h)
    have hb' : ∀ b, seS (feP r (nI W) (nI Y) (nI S) (nI A) wn) s k = some b → b < 128 := fun b e => se_lt 1 k s (by omega) hb b e
    rw [if_neg h128, ← ih (k + 1) fu _ (by omega) (by omega) hb']
    cases s with
    | none =>
      rw [if_pos (show opI none = -1 from rfl), fe_j38 hR hS hA (by omega) s2 s3]
      have : seS (feP r (nI W) (nI Y) (nI S) (nI A) wn) none k = if feP r (nI W) (nI Y) (nI S) (nI A) wn k = true then some k else none := by
        unfold seS
        by_cases c : feP r (nI W) (nI Y) (nI S) (nI A) wn k = true
        · rw [if_pos c, if_pos ⟨c, fun b z => by cases z⟩]
        · rw [if_neg c, if_neg (fun z => c z.1)]
      rw [this]
      by_cases c : feP r (nI W) (nI Y) (nI S) (nI A) wn k = true
      · rw [if_pos c, if_pos c]; rfl
      · rw [if_neg c, if_neg c]
    | some b =>
      have lb := hb b rfl
      rw [if_neg (show ¬ opI (some b) = -1 from fun z => by
        have : nI b = -1 := z
        rw [nl_m1 (by omega)] at this
        exact this), bs_ (x_bitCount S_1 h (s := k) (by omega))]
      dsimp only
      rw [bs_ (show f_J6_bitCount_0f7a4 S_1 (opI (some b)) h = _ from x_bitCount S_1 h lb)]
      dsimp only
      by_cases l : on7 (nI b) ≤ on7 (nI k)
      · have : seS (feP r (nI W) (nI Y) (nI S) (nI A) wn) (some b) k = some b := if_neg fun z => absurd (z.2 b rfl) (Int32.not_lt.mpr l)
        rw [if_pos l, this]
        unfold f_X1_fewest_l6_j38
        rw [if_pos rfl, lt_e, nI_1]
      · have : seS (feP r (nI W) (nI Y) (nI S) (nI A) wn) (some b) k = if feP r (nI W) (nI Y) (nI S) (nI A) wn k = true then some k else some b := by
          unfold seS
          by_cases c : feP r (nI W) (nI Y) (nI S) (nI A) wn k = true
          · rw [if_pos c, if_pos ⟨c, fun b' z => by injection z with z; rw [← z]; exact Int32.not_le.mp l⟩]
          · rw [if_neg c, if_neg (fun z => c z.1)]
        rw [if_neg l, fe_j38 hR hS hA (by omega) s2 s3, this]
        by_cases c : feP r (nI W) (nI Y) (nI S) (nI A) wn k = true
        · rw [if_pos c, if_pos c]; rfl
        · rw [if_neg c, if_neg c]
theorem q_fewest {h : AH} {r : Nat → Int32} {W Y S A : Nat} {wn : Bool} (hR : RoX h 2 r) (hS : S < 128) (hA : A < 128) (s2 : h.2.1 35 2 = nI S) (s3 : h.2.1 35 3 = nI A) : f_X1_fewest S_1 35 (nI W) (nI Y) (bI wn) h = some (opI (fo (seS (feP r (nI W) (nI Y) (nI S) (nI A) wn)) 0 128 none), h) := by
  unfold f_X1_fewest
  rw [bs_ (show f_X1_fewest_l6 S_1 FU 35 (nI W) (nI Y) (bI wn) (-1 : Int32) (0 : Int32) h = _ from q_few6 hR hS hA s2 s3 128 0 FU none (by omega) (by unfold FU; omega) (fun b z => by cases z))]
def cnS (s : Option Nat) : Int32 := match s with
  | none => 100000000
  | some b => on7 (nI b)
def whS (d : Int32) (s : Option Nat) : Int32 := match s with
  | none => d
  | some b => nI b
theorem on7_small : ∀ k, k < 128 → ¬ (100000000 : Int32) ≤ on7 (nI k) := by decide +kernel
def spP (r : Nat → Int32) (S A : Int32) (x : Nat) : Bool := decide (nI x &&& (S ^^^ -1) = 0) && ! caS r (S &&& (nI x ^^^ -1)) (A &&& (nI x ^^^ -1))
theorem m_spL {h : AH} {S A : Nat} (x2 : Int32) (hS : S < 128) : ∀ (m k fu : Nat) (s : Option Nat), k + m = S + 1 → m < fu → f_X11_spoilt_l49 S_1 fu 80 x2 (nI S) (nI A) (cnS s) (whS 0 s) (nI k) h = some ((x2, cnS (fo (seS (spP (h.2.1 82) (nI S) (nI A))) k m s), whS 0 (fo (seS (spP (h.2.1 82) (nI S) (nI A))) k m s)), h) := by
  intro m
  induction m with
  | zero =>
    intro k fu s hk hf
    obtain ⟨fu, rfl⟩ : ∃ x, fu = x + 1 := ⟨fu - 1, by omega⟩
    have c : nI S < nI k := by rw [nn_lt (by omega) (by omega)]; omega
    rw [f_X11_spoilt_l49]
    unfold f_X11_spoilt_l49b
    rw [if_pos c]
    rfl
  | succ m ih =>
    intro k fu s hk hf
    obtain ⟨fu, rfl⟩ : ∃ x, fu = x + 1 := ⟨fu - 1, by omega⟩
    have c : ¬ nI S < nI k := by rw [nn_lt (by omega) (by omega)]; omega
    rw [f_X11_spoilt_l49]
    unfold f_X11_spoilt_l49b
    show _ = some ((x2, cnS (fo _ (k + 1) m (seS _ s k)), whS 0 (fo _ (k + 1) m (seS _ s k))), h)
    rw [if_neg c, ← ih (k + 1) fu _ (by omega) (by omega)]
    by_cases c1 : nI k &&& (nI S ^^^ -1) = 0
    · rw [if_pos c1, bs_ (x_ones S_1 (nI k) h)]
      dsimp only
      by_cases l : cnS s ≤ on7 (nI k)
      · have : seS (spP (h.2.1 82) (nI S) (nI A)) s k = s := if_neg fun z => by
          cases s with
          | none => exact on7_small k (by omega) l
          | some b => exact absurd (z.2 b rfl) (Int32.not_lt.mpr l)
        rw [if_pos l, this, lt_e, nI_1]
      · have lb : ∀ b, s = some b → on7 (nI k) < on7 (nI b) := fun b e => by
          subst e
          exact Int32.not_le.mp l
        rw [if_neg l, bs_ (ck_80 h), bs_ (m_carries h _ _)]
        dsimp only
        cases cc : caS (h.2.1 82) (nI S &&& (nI k ^^^ -1)) (nI A &&& (nI k ^^^ -1)) with
        | false =>
          have : seS (spP (h.2.1 82) (nI S) (nI A)) s k = some k := if_pos ⟨by unfold spP; rw [cc, decide_eq_true c1]; rfl, lb⟩
          rw [if_pos (show bI false = 0 from rfl), bs_ (x_ones S_1 (nI k) h), this]
          dsimp only
          rw [lt_e, nI_1]
          rfl
        | true =>
          have : seS (spP (h.2.1 82) (nI S) (nI A)) s k = s := if_neg fun z => by
            have z := z.1
            unfold spP at z
            rw [cc, decide_eq_true c1] at z
            cases z
          rw [if_neg (show ¬ bI true = 0 by decide), this, lt_e, nI_1]
    · have : seS (spP (h.2.1 82) (nI S) (nI A)) s k = s := if_neg fun z => by
        have z := z.1
        unfold spP at z
        rw [decide_eq_false c1] at z
        cases z
      rw [if_neg c1, this, lt_e, nI_1]
theorem fe_sp (r : Nat → Int32) (S A : Int32) : feP r S A S A false = spP r S A := by
  funext x
  unfold feP spP
  by_cases c : nI x &&& (S ^^^ -1) = 0
  · rw [xor_sub c, xor_and]
    cases caS r (S &&& (nI x ^^^ -1)) (A &&& (nI x ^^^ -1)) <;> rfl
  · rw [decide_eq_false c, Bool.false_and, Bool.false_and]

/-! ears: who hears all, as bits -/
theorem al_iff {g : Nat → Bool} : ∀ (m k : Nat), al g k m = true ↔ ∀ j, k ≤ j → j < k + m → g j = true
  | 0, k => ⟨fun _ j h1 h2 => by omega, fun _ => rfl⟩
  | m + 1, k => by
    rw [al, Bool.and_eq_true, al_iff m (k + 1)]
    constructor
    · intro h j h1 h2
      by_cases e : j = k
      · rw [e]; exact h.1
      · exact h.2 j (by omega) (by omega)
    · exact fun h => ⟨h k (Nat.le_refl k) (by omega), fun j h1 h2 => h j (by omega) (by omega)⟩
/-- one is there below -/
def exN (g : Nat → Bool) : Nat → Nat → Bool
  | _, 0 => false
  | k, m + 1 => g k || exN g (k + 1) m
theorem exN_iff {g : Nat → Bool} : ∀ (m k : Nat), exN g k m = true ↔ ∃ j, k ≤ j ∧ j < k + m ∧ g j = true
  | 0, k => ⟨fun h => (by cases h), fun ⟨j, h1, h2, _⟩ => by omega⟩
  | m + 1, k => by
    rw [exN, Bool.or_eq_true, exN_iff m (k + 1)]
    constructor
    · rintro (h | ⟨j, h1, h2, h3⟩)
      · exact ⟨k, Nat.le_refl k, by omega, h⟩
      · exact ⟨j, by omega, by omega, h3⟩
    · rintro ⟨j, h1, h2, h3⟩
      by_cases e : j = k
      · rw [e] at h3; exact Or.inl h3
      · exact Or.inr ⟨j, by omega, by omega, h3⟩
theorem isB_lsb7 : ∀ x, x < 128 → ∀ k, k < 7 → isB (nI x) k = (nI x).toBitVec.getLsbD k := by decide +kernel
theorem z_lsb (i : Nat) : (0 : Int32).toBitVec.getLsbD i = false := BitVec.getLsbD_zero
theorem and0_iff {x y : Int32} : x &&& y = 0 ↔ ∀ i, i < 32 → (x.toBitVec.getLsbD i && y.toBitVec.getLsbD i) = false := by
  constructor
  · intro h i _
    have := congrArg (fun z : Int32 => z.toBitVec.getLsbD i) h
    simp only [Int32.toBitVec_and, BitVec.getLsbD_and] at this
    rw [this, z_lsb]
  · intro h
    refine bvI fun i hi => ?_
    rw [Int32.toBitVec_and, BitVec.getLsbD_and, h i hi, z_lsb]
theorem xor1_lsb (x : Int32) {i : Nat} (hi : i < 32) : (x ^^^ -1).toBitVec.getLsbD i = ! x.toBitVec.getLsbD i := by
  simp only [Int32.toBitVec_xor, m1_bv, BitVec.getLsbD_xor, BitVec.getLsbD_allOnes, hi, decide_true, Bool.xor_true]
theorem and_lsb (x y : Int32) (i : Nat) : (x &&& y).toBitVec.getLsbD i = (x.toBitVec.getLsbD i && y.toBitVec.getLsbD i) := by
  rw [Int32.toBitVec_and, BitVec.getLsbD_and]
def heardS (r : Nat → Int32) (nb x b : Nat) : Bool := (awS r b || isB (nI x) b) || exN (fun o => isB (nI x) o && heS r o b) 0 nb
def allS (r : Nat → Int32) (nb x : Nat) : Bool := al (heardS r nb x) 0 nb
def prsS (r : Nat → Int32) (nb : Nat) : Int32 := bits nb (fun b => ! awS r b)
def hsS (r : Nat → Int32) (nb b : Nat) : Int32 := bits nb (fun o => heS r o b)
def gX (W : Int32) (hh : Nat → Int32) (x b : Nat) : Bool := decide ((W &&& (nI x ^^^ -1)) &&& bt b = 0) || decide (¬ hh b &&& nI x = 0)
theorem gX_eq {r : Nat → Int32} {nb x : Nat} {hh : Nat → Int32} (h7 : nb ≤ 7) (hx : x < 128) (hh1 : ∀ b, b < nb → hh b = hsS r nb b) : al (gX (prsS r nb) hh x) 0 7 = allS r nb x := by
  have a : ∀ b, b < 7 → ((prsS r nb &&& (nI x ^^^ -1)) &&& bt b = 0 ↔ (decide (b < nb) && ! awS r b) = true → isB (nI x) b = true) := fun b hb => by
    rw [and0_iff, isB_lsb7 x hx b hb]
    constructor
    · intro h z
      have := h b (by omega)
      rw [and_lsb, xor1_lsb _ (by omega), bt_lsb b hb b (by omega), decide_eq_true rfl, Bool.and_true] at this
      unfold prsS at this
      rw [bits_lsb h7 _ (by omega), z, Bool.true_and] at this
      cases e : (nI x).toBitVec.getLsbD b with
      | true => rfl
      | false => rw [e] at this; cases this
    · intro h i hi
      rw [and_lsb, xor1_lsb _ hi, bt_lsb b hb i hi]
      by_cases c : b = i
      · rw [decide_eq_true c, Bool.and_true, ← c]
        unfold prsS
        rw [bits_lsb h7 _ (by omega)]
        cases e : (decide (b < nb) && ! awS r b) with
        | false => rfl
        | true => rw [h e]; rfl
      · rw [decide_eq_false c, Bool.and_false]
  have b' : ∀ b, b < nb → (¬ hh b &&& nI x = 0 ↔ exN (fun o => isB (nI x) o && heS r o b) 0 nb = true) := fun b hb => by
    rw [hh1 b hb, and0_iff, exN_iff]
    unfold hsS
    constructor
    · intro h
      apply Classical.byContradiction
      intro n
      refine h fun i hi => ?_
      rw [bits_lsb h7 _ hi]
      by_cases c : i < nb
      · rw [decide_eq_true c, Bool.true_and]
        cases e : (heS r i b && (nI x).toBitVec.getLsbD i) with
        | false => rfl
        | true =>
          rw [Bool.and_eq_true] at e
          refine absurd ⟨i, Nat.zero_le i, by omega, ?_⟩ n
          show (isB (nI x) i && heS r i b) = true
          rw [isB_lsb7 x hx i (by omega), e.1, e.2]
          rfl
      · rw [decide_eq_false c, Bool.false_and, Bool.false_and]
    · rintro ⟨o, _, h2, h3⟩ h
      have h3 : (isB (nI x) o && heS r o b) = true := h3
      have := h o (by omega)
      rw [bits_lsb h7 _ (by omega), decide_eq_true (show o < nb by omega), Bool.true_and] at this
      rw [isB_lsb7 x hx o (by omega), Bool.and_comm] at h3
      rw [h3] at this
      cases this
  rw [Bool.eq_iff_iff]
  unfold allS
  rw [al_iff, al_iff]
  constructor
  · intro h b _ hb
    have := h b (Nat.zero_le b) (by omega)
    unfold gX at this
    rw [Bool.or_eq_true, decide_eq_true_iff, decide_eq_true_iff, a b (by omega), b' b (by omega)] at this
    unfold heardS
    rw [Bool.or_eq_true]
    rcases this with h | h
    · rw [decide_eq_true (show b < nb by omega), Bool.true_and] at h
      refine Or.inl ?_
      cases e : awS r b with
      | true => rfl
      | false => rw [e] at h; rw [h rfl]; rfl
    · exact Or.inr h
  · intro h b _ hb
    unfold gX
    rw [Bool.or_eq_true, decide_eq_true_iff, decide_eq_true_iff, a b (by omega)]
    by_cases c : b < nb
    · rw [b' b c]
      have := h b (Nat.zero_le b) (by omega)
      unfold heardS at this
      rw [Bool.or_eq_true, Bool.or_eq_true] at this
      rcases this with (h | h) | h
      · refine Or.inl fun z => ?_
        rw [h, Bool.not_true, Bool.and_false] at z
        cases z
      · exact Or.inl fun _ => h
      · exact Or.inr h
    · refine Or.inl fun z => ?_
      rw [decide_eq_false c, Bool.false_and] at z
      cases z
def earP (r : Nat → Int32) (nb : Nat) (W : Int32) (x : Nat) : Bool := decide (nI x &&& (W ^^^ -1) = 0) && allS r nb x
theorem earP_W {r : Nat → Int32} {nb W : Nat} (h7 : nb ≤ 7) (hW : W < 128) (eW : prsS r nb = nI W) : earP r nb (nI W) W = true := by
  unfold earP
  rw [decide_eq_true (and_self0 _), Bool.true_and]
  unfold allS
  rw [al_iff]
  intro b _ hb
  unfold heardS
  rw [isB_lsb7 W hW b (by omega), ← eW]
  unfold prsS
  rw [bits_lsb h7 _ (by omega), decide_eq_true (show b < nb by omega)]
  cases awS r b <;> rfl
/-- the class's search: from one that does on, what is fewer -/
def eaS (P : Nat → Bool) (b x : Nat) : Nat := if on7 (nI x) < on7 (nI b) ∧ P x = true then x else b
theorem ea_min {P : Nat → Bool} {W : Nat} (hs : ∀ x, x < W → P x = true → on7 (nI x) < on7 (nI W)) : ∀ (m k b : Nat), k + m = W → b < k ∨ b = W → P b = true → (∀ x, x < k → P x = true → on7 (nI b) ≤ on7 (nI x) ∧ (on7 (nI x) ≤ on7 (nI b) → b ≤ x)) → (fo (eaS P) k m b < W ∨ fo (eaS P) k m b = W) ∧ P (fo (eaS P) k m b) = true ∧ ∀ x, x < W → P x = true → on7 (nI (fo (eaS P) k m b)) ≤ on7 (nI x) ∧ (on7 (nI x) ≤ on7 (nI (fo (eaS P) k m b)) → fo (eaS P) k m b ≤ x) := by
  intro m
  induction m with
  | zero =>
    intro k b hk h1 h2 h3
    have : k = W := by omega
    subst this
    exact ⟨h1, h2, h3⟩
  | succ m ih =>
    intro k b hk h1 h2 h3
    show (fo (eaS P) (k + 1) m (eaS P b k) < W ∨ _) ∧ _
    refine ih (k + 1) (eaS P b k) (by omega) ?_ ?_ ?_
    · unfold eaS; split
      · omega
      · omega
    · unfold eaS; split
      · rename_i z; exact z.2
      · exact h2
    · intro x hx px
      unfold eaS
      by_cases c : on7 (nI k) < on7 (nI b) ∧ P k = true
      · rw [if_pos c]
        by_cases e : x = k
        · rw [e]; exact ⟨Int32.le_refl _, fun _ => Nat.le_refl _⟩
        · have g := h3 x (by omega) px
          have l := Int32.lt_of_lt_of_le c.1 g.1
          exact ⟨Int32.le_of_lt l, fun z => absurd l (Int32.not_lt.mpr z)⟩
      · rw [if_neg c]
        by_cases e : x = k
        · rw [e] at px ⊢
          have l : ¬ on7 (nI k) < on7 (nI b) := fun z => c ⟨z, px⟩
          refine ⟨Int32.not_lt.mp l, fun _ => ?_⟩
          rcases h1 with h1 | h1
          · omega
          · rw [h1] at l
            exact absurd (hs k (by omega) px) l
        · exact h3 x (by omega) px
theorem sub_on7 {x y : Nat} (hx : x < y) (hy : y < 128) (h : nI x &&& (nI y ^^^ -1) = 0) : on7 (nI x) < on7 (nI y) := by
  have e : nI y &&& nI x = nI x := by
    rw [show nI y &&& nI x = nI x &&& nI y from bvI fun i _ => by rw [and_lsb, and_lsb, Bool.and_comm]]
    exact and_of_sub h
  rcases on7_less y hy x (by omega) with l | l
  · rw [e, nn_eq (by omega) (by omega)] at l
    omega
  · rw [e] at l
    exact l
theorem ear_key {r : Nat → Int32} {nb W : Nat} (h7 : nb ≤ 7) (hW : W < 128) (eW : prsS r nb = nI W) : ∃ b, b < 128 ∧ fo (eaS (earP r nb (nI W))) 0 W W = b ∧ fo (seS (earP r nb (nI W))) 0 (W + 1) none = some b := by
  have hs : ∀ x, x < W → earP r nb (nI W) x = true → on7 (nI x) < on7 (nI W) := fun x hx px => by
    unfold earP at px
    rw [Bool.and_eq_true] at px
    exact sub_on7 hx hW (of_decide_eq_true px.1)
  have pW := earP_W h7 hW eW
  have k := ea_min hs W 0 W (by omega) (Or.inr rfl) pW fun x hx => by omega
  obtain ⟨b, hb⟩ : ∃ b, fo (eaS (earP r nb (nI W))) 0 W W = b := ⟨_, rfl⟩
  rw [hb] at k
  have q : Min (earP r nb (nI W)) (W + 1) (some b) := by
    refine ⟨by omega, k.2.1, fun x hx px => ?_⟩
    by_cases e : x = W
    · subst e
      rcases k.1 with l | l
      · exact ⟨Int32.le_of_lt (hs b l k.2.1), fun _ => by omega⟩
      · rw [l]
        exact ⟨Int32.le_refl _, fun _ => Nat.le_refl _⟩
    · exact k.2.2 x (by omega) px
  exact ⟨b, by omega, hb, min_eq (se_min0 _ (W + 1)) q (fun x _ p => p) (fun x _ p => Or.inl p)⟩

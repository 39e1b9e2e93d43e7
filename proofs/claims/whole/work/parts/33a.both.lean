/-! who would come: sets, bit by bit -/
theorem bt_lsb : ∀ k, k < 7 → ∀ i, i < 32 → (bt k).toBitVec.getLsbD i = decide (k = i) := by decide +kernel
theorem bits_lsb {n : Nat} (h7 : n ≤ 7) (f : Nat → Bool) {i : Nat} (hi : i < 32) : (bits n f).toBitVec.getLsbD i = (decide (i < n) && f i) := by
  have z : (0 : Int32).toBitVec.getLsbD i = false := BitVec.getLsbD_zero
  have e : ∀ (m k : Nat) (a : Int32), k + m = n → (fo (fun s k => s ||| (if f k then bt k else 0)) k m a).toBitVec.getLsbD i = (a.toBitVec.getLsbD i || (decide (k ≤ i) && (decide (i < n) && f i))) := by
    intro m
    induction m with
    | zero =>
      intro k a hk
      show a.toBitVec.getLsbD i = _
      have : (decide (k ≤ i) && (decide (i < n) && f i)) = false := by
        by_cases c : k ≤ i
        · rw [decide_eq_false (show ¬ i < n by omega), Bool.false_and, Bool.and_false]
        · rw [decide_eq_false c, Bool.false_and]
      rw [this, Bool.or_false]
    | succ m ih =>
      intro k a hk
      show (fo (fun s k => s ||| (if f k then bt k else 0)) (k + 1) m (a ||| (if f k then bt k else 0))).toBitVec.getLsbD i = _
      rw [ih (k + 1) _ (by omega), Int32.toBitVec_or, BitVec.getLsbD_or]
      have e1 : (if f k = true then bt k else (0 : Int32)).toBitVec.getLsbD i = (decide (k = i) && f i) := by
        by_cases c : f k = true
        · rw [if_pos c, bt_lsb k (by omega) i hi]
          by_cases c2 : k = i
          · rw [← c2, c, Bool.and_true]
          · rw [decide_eq_false c2, Bool.false_and]
        · rw [if_neg c, z]
          by_cases c2 : k = i
          · rw [← c2, decide_eq_true rfl, Bool.true_and]
            exact (Bool.eq_false_iff.mpr c).symm
          · rw [decide_eq_false c2, Bool.false_and]
      rw [e1]
      by_cases c : k = i
      · rw [decide_eq_true c, decide_eq_false (show ¬ k + 1 ≤ i by omega), decide_eq_true (show k ≤ i by omega), decide_eq_true (show i < n by omega), Bool.false_and, Bool.or_false, Bool.true_and, Bool.true_and]
      · by_cases c2 : k ≤ i
        · rw [decide_eq_false c, decide_eq_true (show k + 1 ≤ i by omega), decide_eq_true c2, Bool.false_and, Bool.or_false]
        · rw [decide_eq_false c, decide_eq_false (show ¬ k + 1 ≤ i by omega), decide_eq_false c2, Bool.false_and, Bool.false_and, Bool.or_false]
  have := e n 0 0 (by omega)
  rw [z, Bool.false_or, decide_eq_true (Nat.zero_le i), Bool.true_and] at this
  exact this
theorem bits_and7 {n : Nat} (h7 : n ≤ 7) (f g : Nat → Bool) : bits n f &&& bits n g = bits n (fun k => f k && g k) := bvI fun i hi => by
  rw [Int32.toBitVec_and, BitVec.getLsbD_and, bits_lsb h7 f hi, bits_lsb h7 g hi, bits_lsb h7 _ hi]
  cases decide (i < n) <;> cases f i <;> cases g i <;> rfl
/-- what the smallest is -/
def Min (P : Nat → Bool) (N : Nat) (s : Option Nat) : Prop := match s with
  | none => ∀ x, x < N → P x = false
  | some b => b < N ∧ P b = true ∧ ∀ x, x < N → P x = true → on7 (nI b) ≤ on7 (nI x) ∧ (on7 (nI x) ≤ on7 (nI b) → b ≤ x)
theorem se_min (P : Nat → Bool) : ∀ (m k : Nat) (s : Option Nat), Min P k s → Min P (k + m) (fo (seS P) k m s) := by
  intro m
  induction m with
  | zero => exact fun k s h => h
  | succ m ih =>
    intro k s h
    rw [show k + (m + 1) = k + 1 + m by omega]
    refine ih (k + 1) (seS P s k) ?_
    by_cases c : P k = true ∧ (∀ b, s = some b → on7 (nI k) < on7 (nI b))
    · have e : seS P s k = some k := if_pos c
      rw [e]
      refine ⟨by omega, c.1, fun x hx px => ?_⟩
      by_cases ex : x = k
      · rw [ex]; exact ⟨Int32.le_refl _, fun _ => Nat.le_refl _⟩
      · cases s with
        | none => rw [h x (by omega)] at px; cases px
        | some b =>
          have l := c.2 b rfl
          have l2 := (h.2.2 x (by omega) px).1
          have l3 := Int32.lt_of_lt_of_le l l2
          exact ⟨Int32.le_of_lt l3, fun z => absurd l3 (Int32.not_lt.mpr z)⟩
    · have e : seS P s k = s := if_neg c
      rw [e]
      cases s with
      | none =>
        intro x hx
        by_cases ex : x = k
        · rw [ex]
          exact Bool.eq_false_iff.mpr fun z => c ⟨z, fun b z => by cases z⟩
        · exact h x (by omega)
      | some b =>
        refine ⟨by have := h.1; omega, h.2.1, fun x hx px => ?_⟩
        by_cases ex : x = k
        · subst ex
          have l : on7 (nI b) ≤ on7 (nI x) := Int32.not_lt.mp fun z => c ⟨px, fun b' e' => by injection e' with e'; rw [← e']; exact z⟩
          exact ⟨l, fun _ => by have := h.1; omega⟩
        · exact h.2.2 x (by omega) px
theorem se_min0 (P : Nat → Bool) (N : Nat) : Min P N (fo (seS P) 0 N none) := by
  have := se_min P N 0 none fun x hx => by omega
  rw [Nat.zero_add] at this
  exact this
/-- two searches that find the same -/
theorem min_eq {P Q : Nat → Bool} {N : Nat} {s t : Option Nat} (hp : Min P N s) (hq : Min Q N t) (pq : ∀ x, x < N → P x = true → Q x = true) (qp : ∀ x, x < N → Q x = true → P x = true ∨ ∃ y, y < N ∧ P y = true ∧ on7 (nI y) < on7 (nI x)) : s = t := by
  cases s with
  | none =>
    cases t with
    | none => rfl
    | some b =>
      rcases qp b hq.1 hq.2.1 with h | ⟨y, hy, h, -⟩
      · rw [hp b hq.1] at h; cases h
      · rw [hp y hy] at h; cases h
  | some a =>
    cases t with
    | none =>
      have := pq a hp.1 hp.2.1
      rw [hq a hp.1] at this
      cases this
    | some b =>
      have qa := hq.2.2 a hp.1 (pq a hp.1 hp.2.1)
      rcases qp b hq.1 hq.2.1 with h | ⟨y, hy, h, l⟩
      · have pb := hp.2.2 b hq.1 h
        have := pb.2 qa.1
        have := qa.2 pb.1
        rw [show a = b by omega]
      · have := (hq.2.2 y hy (pq y hy h)).1
        exact absurd l (Int32.not_lt.mpr this)

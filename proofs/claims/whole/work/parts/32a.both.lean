/-! searches through sets of BIRDS -/
theorem x7_xor {a b : Nat} (ha : a < 128) (hb : b < 128) : ∃ t, t < 128 ∧ nI a ^^^ nI b = nI t := ⟨a ^^^ b, Nat.xor_lt_two_pow (n := 7) ha hb, by
  apply Int32.toBitVec_inj.mp
  rw [Int32.toBitVec_xor, nI_bv, nI_bv, nI_bv, BitVec.ofNat_xor]⟩
theorem x7_and {a b : Nat} (ha : a < 128) : ∃ t, t < 128 ∧ nI a &&& nI b = nI t := ⟨a &&& b, Nat.lt_of_le_of_lt Nat.and_le_left ha, by
  apply Int32.toBitVec_inj.mp
  rw [Int32.toBitVec_and, nI_bv, nI_bv, nI_bv, BitVec.ofNat_and]⟩
theorem bvI {x y : Int32} (h : ∀ i, i < 32 → x.toBitVec.getLsbD i = y.toBitVec.getLsbD i) : x = y := by
  apply Int32.toBitVec_inj.mp
  exact BitVec.eq_of_getLsbD_eq h
theorem m1_bv : (-1 : Int32).toBitVec = BitVec.allOnes 32 := by decide
theorem bit_of {x y : Int32} (h : x &&& (y ^^^ -1) = 0) (i : Nat) (hi : i < 32) : x.toBitVec.getLsbD i = true → y.toBitVec.getLsbD i = true := fun hx => by
  have := congrArg (fun z : Int32 => z.toBitVec.getLsbD i) h
  simp only [Int32.toBitVec_and, Int32.toBitVec_xor, m1_bv, BitVec.getLsbD_and, BitVec.getLsbD_xor, BitVec.getLsbD_allOnes, hi, hx, decide_true, Bool.true_and, Bool.xor_true] at this
  have z : (0 : Int32).toBitVec.getLsbD i = false := by
    show (0#32).getLsbD i = false
    exact BitVec.getLsbD_zero
  rw [z] at this
  cases hy : y.toBitVec.getLsbD i with
  | true => rfl
  | false => rw [hy] at this; cases this
theorem sub_le {x y : Nat} (hx : x < 128) (hy : y < 128) (h : nI x &&& (nI y ^^^ -1) = 0) : x ≤ y := by
  have e : nI x &&& nI y = nI x := bvI fun i hi => by
    have := bit_of h i hi
    rw [Int32.toBitVec_and, BitVec.getLsbD_and]
    cases hx : (nI x).toBitVec.getLsbD i with
    | true => rw [this hx]; rfl
    | false => rfl
  have e2 : nI x &&& nI y = nI (x &&& y) := by
    apply Int32.toBitVec_inj.mp
    rw [Int32.toBitVec_and, nI_bv, nI_bv, nI_bv, BitVec.ofNat_and]
  have l : x &&& y ≤ y := Nat.and_le_right
  have e3 : nI (x &&& y) = nI x := e2.symm.trans e
  rw [nn_eq (by omega) (by omega)] at e3
  omega
theorem xor_sub {x y : Int32} (h : x &&& (y ^^^ -1) = 0) : y ^^^ x = y &&& (x ^^^ -1) := bvI fun i hi => by
  have := bit_of h i hi
  simp only [Int32.toBitVec_and, Int32.toBitVec_xor, m1_bv, BitVec.getLsbD_and, BitVec.getLsbD_xor, BitVec.getLsbD_allOnes, hi, decide_true, Bool.xor_true]
  revert this
  cases x.toBitVec.getLsbD i <;> cases y.toBitVec.getLsbD i <;> simp
theorem xor_and (x a : Int32) : a ^^^ (x &&& a) = a &&& (x ^^^ -1) := bvI fun i hi => by
  simp only [Int32.toBitVec_and, Int32.toBitVec_xor, m1_bv, BitVec.getLsbD_and, BitVec.getLsbD_xor, BitVec.getLsbD_allOnes, hi, decide_true, Bool.xor_true]
  cases x.toBitVec.getLsbD i <;> cases a.toBitVec.getLsbD i <;> rfl
theorem and_self0 (x : Int32) : x &&& (x ^^^ -1) = 0 := bvI fun i hi => by
  simp only [Int32.toBitVec_and, Int32.toBitVec_xor, m1_bv, BitVec.getLsbD_and, BitVec.getLsbD_xor, BitVec.getLsbD_allOnes, hi, decide_true, Bool.xor_true]
  rw [show (0 : Int32).toBitVec.getLsbD i = false from BitVec.getLsbD_zero]
  cases x.toBitVec.getLsbD i <;> rfl
/-- the smallest set, of those the first -/
def seS (P : Nat → Bool) (s : Option Nat) (x : Nat) : Option Nat := if P x = true ∧ (∀ b, s = some b → on7 (nI x) < on7 (nI b)) then some x else s
theorem se_lt {P : Nat → Bool} {N : Nat} : ∀ (m k : Nat) (s : Option Nat), k + m ≤ N → (∀ b, s = some b → b < N) → ∀ b, fo (seS P) k m s = some b → b < N := by
  intro m
  induction m with
  | zero => exact fun k s _ h b e => h b e
  | succ m ih =>
    intro k s hk h b e
    refine ih (k + 1) (seS P s k) (by omega) (fun b' e' => ?_) b e
    unfold seS at e'
    by_cases c : P k = true ∧ (∀ b, s = some b → on7 (nI k) < on7 (nI b))
    · rw [if_pos c] at e'
      injection e' with e'
      omega
    · rw [if_neg c] at e'
      exact h b' e'
theorem se_no {P : Nat → Bool} : ∀ (m k : Nat) (s : Option Nat), (∀ x, k ≤ x → x < k + m → P x = false) → fo (seS P) k m s = s := by
  intro m
  induction m with
  | zero => exact fun k s _ => rfl
  | succ m ih =>
    intro k s h
    show fo (seS P) (k + 1) m (seS P s k) = s
    have : seS P s k = s := if_neg fun z => by
      rw [h k (by omega) (by omega)] at z
      cases z.1
    rw [this]
    exact ih (k + 1) s fun x h1 h2 => h x (by omega) (by omega)
theorem se_add {P : Nat → Bool} : ∀ (m k m' : Nat) (s : Option Nat), fo (seS P) k (m + m') s = fo (seS P) (k + m) m' (fo (seS P) k m s) := by
  intro m
  induction m with
  | zero => intro k m' s; rw [Nat.zero_add]; rfl
  | succ m ih =>
    intro k m' s
    rw [show m + 1 + m' = (m + m') + 1 by omega]
    show fo (seS P) (k + 1) (m + m') (seS P s k) = fo (seS P) (k + (m + 1)) m' (fo (seS P) (k + 1) m (seS P s k))
    rw [ih, show k + 1 + m = k + (m + 1) by omega]
theorem se_some {P : Nat → Bool} : ∀ (m k : Nat) (s : Option Nat), (s ≠ none ∨ ∃ x, k ≤ x ∧ x < k + m ∧ P x = true) → fo (seS P) k m s ≠ none := by
  intro m
  induction m with
  | zero =>
    intro k s h
    rcases h with h | ⟨x, h1, h2, _⟩
    · exact h
    · omega
  | succ m ih =>
    intro k s h
    refine ih (k + 1) (seS P s k) ?_
    by_cases c : P k = true ∧ (∀ b, s = some b → on7 (nI k) < on7 (nI b))
    · refine Or.inl ?_
      unfold seS
      rw [if_pos c]
      exact fun z => by cases z
    · have e : seS P s k = s := if_neg c
      rw [e]
      rcases h with h | ⟨x, h1, h2, h3⟩
      · exact Or.inl h
      · by_cases ex : x = k
        · subst ex
          cases s with
          | none => exact absurd ⟨h3, fun b z => by cases z⟩ c
          | some b => exact Or.inl fun z => by cases z
        · exact Or.inr ⟨x, by omega, by omega, h3⟩

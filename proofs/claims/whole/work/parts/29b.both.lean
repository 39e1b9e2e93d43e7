/-! seven truth values -/
def tb (b0 b1 b2 b3 b4 b5 b6 : Bool) : Nat → Bool := fun k => match k with
  | 0 => b0
  | 1 => b1
  | 2 => b2
  | 3 => b3
  | 4 => b4
  | 5 => b5
  | 6 => b6
  | _ => false
def cutT (n : Nat) (f : Nat → Bool) : Nat → Bool := tb (decide (0 < n) && f 0) (decide (1 < n) && f 1) (decide (2 < n) && f 2) (decide (3 < n) && f 3) (decide (4 < n) && f 4) (decide (5 < n) && f 5) (decide (6 < n) && f 6)
theorem n_cases {n : Nat} (h : n ≤ 7) : n = 0 ∨ n = 1 ∨ n = 2 ∨ n = 3 ∨ n = 4 ∨ n = 5 ∨ n = 6 ∨ n = 7 := by omega
theorem bits_cut {n : Nat} (h : n ≤ 7) (f : Nat → Bool) : bits n f = bits 7 (cutT n f) := by
  rcases n_cases h with rfl | rfl | rfl | rfl | rfl | rfl | rfl | rfl <;> simp [bits, fo, cutT, tb]
theorem howM_cut {n : Nat} (h : n ≤ 7) (f : Nat → Bool) : howM n f = howM 7 (cutT n f) := by
  rcases n_cases h with rfl | rfl | rfl | rfl | rfl | rfl | rfl | rfl <;> simp [howM, fo, cutT, tb]
theorem on7_bits {n : Nat} (h : n ≤ 7) (f : Nat → Bool) : on7 (bits n f) = howM n f := by
  have e : ∀ b0 b1 b2 b3 b4 b5 b6 : Bool, on7 (bits 7 (tb b0 b1 b2 b3 b4 b5 b6)) = howM 7 (tb b0 b1 b2 b3 b4 b5 b6) := by decide +kernel
  rw [bits_cut h, howM_cut h]
  exact e _ _ _ _ _ _ _
theorem isB_bits {n k : Nat} (h : n ≤ 7) (hk : k < 7) (f : Nat → Bool) : isB (bits n f) k = (decide (k < n) && f k) := by
  have e : ∀ b0 b1 b2 b3 b4 b5 b6 : Bool, ∀ k, k < 7 → isB (bits 7 (tb b0 b1 b2 b3 b4 b5 b6)) k = tb b0 b1 b2 b3 b4 b5 b6 k := by decide +kernel
  rw [bits_cut h]
  unfold cutT
  rw [e _ _ _ _ _ _ _ k hk]
  have : k = 0 ∨ k = 1 ∨ k = 2 ∨ k = 3 ∨ k = 4 ∨ k = 5 ∨ k = 6 := by omega
  rcases this with rfl | rfl | rfl | rfl | rfl | rfl | rfl <;> rfl
theorem bits_and {n : Nat} (h : n ≤ 6) (f g : Nat → Bool) : bits n f &&& bits n g = bits n (fun k => f k && g k) := by
  have e : ∀ b0 b1 b2 b3 b4 b5 c0 c1 c2 c3 c4 c5 : Bool, bits 7 (tb b0 b1 b2 b3 b4 b5 false) &&& bits 7 (tb c0 c1 c2 c3 c4 c5 false) = bits 7 (tb (b0 && c0) (b1 && c1) (b2 && c2) (b3 && c3) (b4 && c4) (b5 && c5) false) := by decide +kernel
  have c6 : ∀ f : Nat → Bool, cutT n f = tb (decide (0 < n) && f 0) (decide (1 < n) && f 1) (decide (2 < n) && f 2) (decide (3 < n) && f 3) (decide (4 < n) && f 4) (decide (5 < n) && f 5) false := fun f => by
    unfold cutT
    rw [decide_eq_false (show ¬ 6 < n by omega), Bool.false_and]
  rw [bits_cut (by omega) f, bits_cut (by omega) g, bits_cut (by omega) (fun k => f k && g k), c6, c6, c6, e]
  have a : ∀ x y z : Bool, ((x && y) && (x && z)) = (x && (y && z)) := by decide
  simp only [a]
theorem howM_not {n : Nat} (h : n ≤ 6) (f g : Nat → Bool) : howM n f - howM n (fun k => f k && g k) = howM n (fun k => f k && ! g k) := by
  have e : ∀ b0 b1 b2 b3 b4 b5 c0 c1 c2 c3 c4 c5 : Bool, howM 7 (tb b0 b1 b2 b3 b4 b5 false) - howM 7 (tb (b0 && c0) (b1 && c1) (b2 && c2) (b3 && c3) (b4 && c4) (b5 && c5) false) = howM 7 (tb (b0 && ! c0) (b1 && ! c1) (b2 && ! c2) (b3 && ! c3) (b4 && ! c4) (b5 && ! c5) false) := by decide +kernel
  have c6 : ∀ f : Nat → Bool, cutT n f = tb (decide (0 < n) && f 0) (decide (1 < n) && f 1) (decide (2 < n) && f 2) (decide (3 < n) && f 3) (decide (4 < n) && f 4) (decide (5 < n) && f 5) false := fun f => by
    unfold cutT
    rw [decide_eq_false (show ¬ 6 < n by omega), Bool.false_and]
  have a' : ∀ x y z : Bool, (x && (y && z)) = ((x && y) && (x && z)) := by decide
  have b' : ∀ x y z : Bool, (x && (y && ! z)) = ((x && y) && ! (x && z)) := by decide
  have a : ∀ k, (decide (k < n) && (f k && g k)) = ((decide (k < n) && f k) && (decide (k < n) && g k)) := fun k => a' _ _ _
  have b : ∀ k, (decide (k < n) && (f k && ! g k)) = ((decide (k < n) && f k) && ! (decide (k < n) && g k)) := fun k => b' _ _ _
  rw [howM_cut (by omega) f, howM_cut (by omega) (fun k => f k && g k), howM_cut (by omega) (fun k => f k && ! g k), c6, c6, c6]
  simp only [b]
  simp only [a]
  exact e _ _ _ _ _ _ _ _ _ _ _ _
theorem bits_0 {n : Nat} (h : n ≤ 7) (f : Nat → Bool) : 0 ≤ bits n f := by
  obtain ⟨t, ht, e⟩ := bits_lt h f
  rw [e]
  exact nI_pos' (by omega)

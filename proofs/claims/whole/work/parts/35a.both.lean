/-! chains: how far, as numbers -/
def rch (r : Nat → Int32) (nb to : Nat) : Nat → Nat → Bool
  | 0, b => decide (b = to)
  | k + 1, b => rch r nb to k b || (decide (b < nb) && exN (fun o => heS r o b && rch r nb to k o) 0 nb)
def cnN (g : Nat → Bool) : Nat → Nat
  | 0 => 0
  | n + 1 => cnN g n + (if g n = true then 1 else 0)
theorem cn_le (g : Nat → Bool) : ∀ n, cnN g n ≤ n
  | 0 => Nat.le_refl 0
  | n + 1 => by
    have := cn_le g n
    rw [cnN]
    split <;> omega
theorem cn_lt {g g' : Nat → Bool} : ∀ n, (∀ b, b < n → g b = true → g' b = true) → cnN g n ≤ cnN g' n ∧ ((∃ b, b < n ∧ g' b = true ∧ g b = false) → cnN g n < cnN g' n)
  | 0, _ => ⟨Nat.le_refl 0, fun ⟨b, h, _⟩ => by omega⟩
  | n + 1, H => by
    obtain ⟨i1, i2⟩ := cn_lt (g := g) (g' := g') n fun b hb => H b (by omega)
    rw [cnN, cnN]
    constructor
    · by_cases c : g n = true
      · rw [if_pos c, if_pos (H n (by omega) c)]; omega
      · rw [if_neg c]; omega
    · rintro ⟨b, hb, p, q⟩
      by_cases e : b = n
      · rw [e] at p q
        rw [if_pos p, if_neg (by rw [q]; decide)]
        omega
      · have := i2 ⟨b, by omega, p, q⟩
        by_cases c : g n = true
        · rw [if_pos c, if_pos (H n (by omega) c)]; omega
        · rw [if_neg c]; omega
theorem cn_anti {g : Nat → Bool} (H : ∀ i j, i ≤ j → g j = true → g i = true) : ∀ n j, j < n → (g j = true ↔ j < cnN g n)
  | 0, j, h => by omega
  | n + 1, j, h => by
    have ih := cn_anti H n
    have le := cn_le g n
    rw [cnN]
    by_cases c : g n = true
    · rw [if_pos c]
      have e : cnN g n = n := by
        cases n with
        | zero => rfl
        | succ n =>
          have := (ih n (by omega)).mp (H n (n + 1) (by omega) c)
          omega
      rw [e]
      exact ⟨fun _ => h, fun _ => H j n (by omega) c⟩
    · rw [if_neg c, Nat.add_zero]
      by_cases e : j = n
      · rw [e]
        exact ⟨fun z => absurd z c, fun z => by omega⟩
      · exact ih j (by omega)
def dN (r : Nat → Int32) (nb to b : Nat) : Nat := cnN (fun j => ! rch r nb to j b) 7
theorem rch_s {r : Nat → Int32} {nb to k b : Nat} (h : rch r nb to k b = true) : rch r nb to (k + 1) b = true := by
  rw [rch, h]; rfl
theorem rch_mono {r : Nat → Int32} {nb to b : Nat} : ∀ {j k : Nat}, k ≤ j → rch r nb to k b = true → rch r nb to j b = true
  | 0, k, h, z => by
    have : k = 0 := by omega
    rw [← this]; exact z
  | j + 1, k, h, z => by
    by_cases e : k = j + 1
    · rw [← e]; exact z
    · exact rch_s (rch_mono (by omega) z)
theorem rch_step {r : Nat → Int32} {nb to k b o : Nat} (hb : b < nb) (ho : o < nb) (he : heS r o b = true) (h : rch r nb to k o = true) : rch r nb to (k + 1) b = true := by
  rw [rch, Bool.or_eq_true, Bool.and_eq_true]
  exact Or.inr ⟨decide_eq_true hb, (exN_iff nb 0).mpr ⟨o, Nat.zero_le o, by omega, by show (heS r o b && rch r nb to k o) = true; rw [he, h]; rfl⟩⟩
theorem rch_inv {r : Nat → Int32} {nb to k b : Nat} (h : rch r nb to (k + 1) b = true) (n : rch r nb to k b = false) : b < nb ∧ ∃ o, o < nb ∧ heS r o b = true ∧ rch r nb to k o = true := by
  rw [rch, n, Bool.false_or, Bool.and_eq_true] at h
  obtain ⟨o, _, h2, h3⟩ := (exN_iff nb 0).mp h.2
  have h3 : (heS r o b && rch r nb to k o) = true := h3
  rw [Bool.and_eq_true] at h3
  exact ⟨of_decide_eq_true h.1, o, by omega, h3.1, h3.2⟩
theorem dN_le (r : Nat → Int32) (nb to b : Nat) : dN r nb to b ≤ 7 := cn_le _ 7
theorem dN_iff {r : Nat → Int32} {nb to b j : Nat} (hj : j < 7) : rch r nb to j b = true ↔ dN r nb to b ≤ j := by
  have := cn_anti (g := fun j => ! rch r nb to j b) (fun i j hij z => by
    have z : (! rch r nb to j b) = true := z
    show (! rch r nb to i b) = true
    cases e : rch r nb to i b with
    | false => rfl
    | true => rw [rch_mono hij e] at z; cases z) 7 j hj
  have this : (! rch r nb to j b) = true ↔ j < dN r nb to b := this
  cases e : rch r nb to j b with
  | true =>
    rw [e] at this
    have n : ¬ j < dN r nb to b := fun z => by have := this.mpr z; cases this
    exact ⟨fun _ => by omega, fun _ => rfl⟩
  | false =>
    rw [e] at this
    have n := this.mp rfl
    exact ⟨fun z => (by cases z), fun z => by omega⟩
theorem rch_far {r : Nat → Int32} {nb to b : Nat} (h7 : nb ≤ 7) (ht : to < nb) (hb : b < nb) (h : rch r nb to 7 b = true) : rch r nb to 6 b = true := by
  have st : ∃ k, k ≤ 6 ∧ ∀ b, b < nb → rch r nb to (k + 1) b = true → rch r nb to k b = true := by
    apply Classical.byContradiction
    intro n
    have g : ∀ k, k ≤ 6 → ∃ b, b < nb ∧ rch r nb to (k + 1) b = true ∧ rch r nb to k b = false := fun k hk => by
      apply Classical.byContradiction
      intro m
      refine n ⟨k, hk, fun b hb z => ?_⟩
      cases e : rch r nb to k b with
      | true => rfl
      | false => exact absurd ⟨b, hb, z, e⟩ m
    have c : ∀ k, k ≤ 7 → k < cnN (rch r nb to k) nb := by
      intro k
      induction k with
      | zero =>
        intro _
        have := (cn_lt (g := fun _ => false) (g' := rch r nb to 0) nb (fun b _ z => by cases z)).2 ⟨to, ht, decide_eq_true rfl, rfl⟩
        omega
      | succ k ih =>
        intro hk
        have a := ih (by omega)
        have b := (cn_lt (g := rch r nb to k) (g' := rch r nb to (k + 1)) nb (fun b _ z => rch_s z)).2 (g k (by omega))
        omega
    have := c 7 (Nat.le_refl 7)
    have := cn_le (rch r nb to 7) nb
    omega
  obtain ⟨k, hk, H⟩ := st
  have : ∀ d b, b < nb → rch r nb to (k + d) b = true → rch r nb to k b = true := by
    intro d
    induction d with
    | zero => exact fun b _ z => z
    | succ d ih =>
      intro b hb z
      cases e : rch r nb to (k + d) b with
      | true => exact ih b hb e
      | false =>
        obtain ⟨_, o, ho, h1, h2⟩ := rch_inv (k := k + d) z e
        exact H b hb (rch_step hb ho h1 (ih o ho h2))
  have a := this (7 - k) b hb (by rw [show k + (7 - k) = 7 by omega]; exact h)
  exact rch_mono hk a
theorem dN_far {r : Nat → Int32} {nb to b o : Nat} (h7 : nb ≤ 7) (ht : to < nb) (hb : b < nb) (ho : o < nb) (he : heS r o b = true) (h : dN r nb to b = 7) : dN r nb to o = 7 := by
  have l := dN_le r nb to o
  by_cases c : dN r nb to o ≤ 6
  · have a := (dN_iff (j := 6) (by decide)).mpr c
    have b := rch_far h7 ht hb (rch_step hb ho he a)
    have := (dN_iff (j := 6) (by decide)).mp b
    omega
  · omega
theorem dN_step {r : Nat → Int32} {nb to b o : Nat} (hb : b < nb) (ho : o < nb) (he : heS r o b = true) : dN r nb to b ≤ dN r nb to o + 1 := by
  by_cases c : dN r nb to o ≤ 5
  · have a := (dN_iff (j := dN r nb to o) (by omega)).mpr (Nat.le_refl _)
    exact (dN_iff (by omega)).mp (rch_step hb ho he a)
  · have := dN_le r nb to b
    omega
theorem dN_prev {r : Nat → Int32} {nb to b d : Nat} (hd : d < 6) (h : dN r nb to b = d + 1) : b < nb ∧ ∃ o, o < nb ∧ heS r o b = true ∧ dN r nb to o = d := by
  have a := (dN_iff (j := d + 1) (by omega)).mpr (by omega : dN r nb to b ≤ d + 1)
  have n : rch r nb to d b = false := by
    cases e : rch r nb to d b with
    | false => rfl
    | true =>
      have := (dN_iff (by omega)).mp e
      omega
  obtain ⟨hb, o, ho, h1, h2⟩ := rch_inv a n
  have l := (dN_iff (by omega)).mp h2
  have := dN_step (to := to) hb ho h1
  exact ⟨hb, o, ho, h1, by omega⟩
theorem dN_to (r : Nat → Int32) (nb to b : Nat) : dN r nb to b = 0 ↔ b = to := by
  have := dN_iff (r := r) (nb := nb) (to := to) (b := b) (j := 0) (by decide)
  constructor
  · intro z
    exact of_decide_eq_true (this.mpr (by omega))
  · intro z
    have := this.mp (decide_eq_true z)
    omega
theorem dN_out {r : Nat → Int32} {nb to b : Nat} (ht : to < nb) (hb : nb ≤ b) : dN r nb to b = 7 := by
  have l := dN_le r nb to b
  by_cases c : dN r nb to b = 7
  · exact c
  · by_cases z : dN r nb to b = 0
    · have := (dN_to r nb to b).mp z
      omega
    · have := (dN_prev (d := dN r nb to b - 1) (by omega) (by omega : dN r nb to b = dN r nb to b - 1 + 1)).1
      omega
/-- the next of a chain -/
def nxG (r : Nat → Int32) (nb to b o : Nat) : Bool := decide (dN r nb to o + 1 = dN r nb to b) && heS r o b
def nxN (r : Nat → Int32) (nb to b : Nat) : Nat := (fst (nxG r nb to b) 0 nb).toNatClampNeg
theorem fst_of {g : Nat → Bool} : ∀ (m k : Nat), (∃ j, k ≤ j ∧ j < k + m ∧ g j = true) → ∃ j, k ≤ j ∧ j < k + m ∧ g j = true ∧ fst g k m = nI j
  | 0, k, ⟨j, h1, h2, _⟩ => by omega
  | m + 1, k, ⟨j, h1, h2, h3⟩ => by
    rw [fst]
    cases e : g k with
    | true => exact ⟨k, Nat.le_refl k, by omega, e, rfl⟩
    | false =>
      have : j ≠ k := fun z => by rw [z, e] at h3; cases h3
      obtain ⟨i, a, b, c, d⟩ := fst_of m (k + 1) ⟨j, by omega, by omega, h3⟩
      exact ⟨i, by omega, by omega, c, d⟩
theorem nx_ok {r : Nat → Int32} {nb to b : Nat} (h7 : nb ≤ 7) (h0 : dN r nb to b ≠ 0) (h1 : dN r nb to b ≠ 7) : nxN r nb to b < nb ∧ dN r nb to (nxN r nb to b) + 1 = dN r nb to b ∧ fst (nxG r nb to b) 0 nb = nI (nxN r nb to b) := by
  have l := dN_le r nb to b
  obtain ⟨_, o, ho, e1, e2⟩ := dN_prev (r := r) (nb := nb) (to := to) (b := b) (d := dN r nb to b - 1) (by omega) (by omega)
  obtain ⟨j, _, a2, a3, a4⟩ := fst_of (g := nxG r nb to b) nb 0 ⟨o, Nat.zero_le o, by omega, by
    unfold nxG
    rw [e1, e2, decide_eq_true (by omega)]
    rfl⟩
  have e : nxN r nb to b = j := by
    unfold nxN
    rw [a4, nI_clamp (by omega)]
  unfold nxG at a3
  rw [Bool.and_eq_true] at a3
  rw [e]
  exact ⟨by omega, of_decide_eq_true a3.1, a4⟩
def chN (r : Nat → Int32) (nb to : Nat) : Nat → Nat → Nat
  | 0, b => b
  | m + 1, b => chN r nb to m (nxN r nb to b)

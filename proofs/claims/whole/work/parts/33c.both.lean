/-! come: the search on the other side -/
def cmP (r : Nat → Int32) (W S A S2 A2 : Int32) (x : Nat) : Bool := decide (nI x &&& (W ^^^ -1) = 0) && caS r (S ||| (nI x &&& S2)) (A ||| (nI x &&& A2))
theorem m_cmL {h : AH} {W : Nat} {S A S2 A2 : Int32} (x2 : Int32) (hW : W < 128) : ∀ (m k fu : Nat) (s : Option Nat), k + m = W + 1 → m < fu → f_X11_come_l159 S_1 fu 80 x2 S A (nI W) S2 A2 (cnS s) (whS (-1) s) (nI k) h = some ((x2, cnS (fo (seS (cmP (h.2.1 82) (nI W) S A S2 A2)) k m s), whS (-1) (fo (seS (cmP (h.2.1 82) (nI W) S A S2 A2)) k m s)), h) := by
  intro m
  induction m with
  | zero =>
    intro k fu s hk hf
    obtain ⟨fu, rfl⟩ : ∃ x, fu = x + 1 := ⟨fu - 1, by omega⟩
    have c : nI W < nI k := by rw [nn_lt (by omega) (by omega)]; omega
    rw [f_X11_come_l159]
    unfold f_X11_come_l159b
    rw [if_pos c]
    rfl
  | succ m ih =>
    intro k fu s hk hf
    obtain ⟨fu, rfl⟩ : ∃ x, fu = x + 1 := ⟨fu - 1, by omega⟩
    have c : ¬ nI W < nI k := by rw [nn_lt (by omega) (by omega)]; omega
    rw [f_X11_come_l159]
    unfold f_X11_come_l159b
    show _ = some ((x2, cnS (fo _ (k + 1) m (seS _ s k)), whS (-1) (fo _ (k + 1) m (seS _ s k))), h)
    rw [if_neg c, ← ih (k + 1) fu _ (by omega) (by omega)]
    by_cases c1 : nI k &&& (nI W ^^^ -1) = 0
    · rw [if_pos c1, bs_ (x_ones S_1 (nI k) h)]
      dsimp only
      by_cases l : cnS s ≤ on7 (nI k)
      · have : seS (cmP (h.2.1 82) (nI W) S A S2 A2) s k = s := if_neg fun z => by
          cases s with
          | none => exact on7_small k (by omega) l
          | some b => exact absurd (z.2 b rfl) (Int32.not_lt.mpr l)
        rw [if_pos l, this, lt_e, nI_1]
      · have lb : ∀ b, s = some b → on7 (nI k) < on7 (nI b) := fun b e => by
          subst e
          exact Int32.not_le.mp l
        rw [if_neg l, bs_ (ck_80 h), bs_ (m_carries h _ _)]
        dsimp only
        cases cc : caS (h.2.1 82) (S ||| (nI k &&& S2)) (A ||| (nI k &&& A2)) with
        | true =>
          have : seS (cmP (h.2.1 82) (nI W) S A S2 A2) s k = some k := if_pos ⟨by unfold cmP; rw [cc, decide_eq_true c1]; rfl, lb⟩
          rw [if_neg (show ¬ bI true = 0 by decide), bs_ (x_ones S_1 (nI k) h), this]
          dsimp only
          rw [lt_e, nI_1]
          rfl
        | false =>
          have : seS (cmP (h.2.1 82) (nI W) S A S2 A2) s k = s := if_neg fun z => by
            have z := z.1
            unfold cmP at z
            rw [cc, decide_eq_true c1] at z
            cases z
          rw [if_pos (show bI false = 0 from rfl), this, lt_e, nI_1]
    · have : seS (cmP (h.2.1 82) (nI W) S A S2 A2) s k = s := if_neg fun z => by
        have z := z.1
        unfold cmP at z
        rw [decide_eq_false c1] at z
        cases z
      rw [if_neg c1, this, lt_e, nI_1]
theorem and_of_sub {x y : Int32} (h : x &&& (y ^^^ -1) = 0) : x &&& y = x := bvI fun i hi => by
  have := bit_of h i hi
  rw [Int32.toBitVec_and, BitVec.getLsbD_and]
  revert this
  cases x.toBitVec.getLsbD i <;> cases y.toBitVec.getLsbD i <;> simp
theorem sub_of_and {x y : Int32} (h : x &&& y = x) : x &&& (y ^^^ -1) = 0 := bvI fun i hi => by
  have := congrArg (fun z : Int32 => z.toBitVec.getLsbD i) h
  simp only [Int32.toBitVec_and, BitVec.getLsbD_and] at this
  simp only [Int32.toBitVec_and, Int32.toBitVec_xor, m1_bv, BitVec.getLsbD_and, BitVec.getLsbD_xor, BitVec.getLsbD_allOnes, hi, decide_true, Bool.xor_true]
  rw [show (0 : Int32).toBitVec.getLsbD i = false from BitVec.getLsbD_zero]
  revert this
  cases x.toBitVec.getLsbD i <;> cases y.toBitVec.getLsbD i <;> simp
theorem xor_or {s x t : Int32} (d : s &&& t = 0) : s ^^^ (x &&& t) = s ||| (x &&& t) := bvI fun i hi => by
  have := congrArg (fun z : Int32 => z.toBitVec.getLsbD i) d
  simp only [Int32.toBitVec_and, BitVec.getLsbD_and] at this
  rw [show (0 : Int32).toBitVec.getLsbD i = false from BitVec.getLsbD_zero] at this
  simp only [Int32.toBitVec_and, Int32.toBitVec_xor, Int32.toBitVec_or, BitVec.getLsbD_and, BitVec.getLsbD_xor, BitVec.getLsbD_or]
  revert this
  cases s.toBitVec.getLsbD i <;> cases x.toBitVec.getLsbD i <;> cases t.toBitVec.getLsbD i <;> simp
theorem on7_less : ∀ x, x < 128 → ∀ z, z < 128 → nI x &&& nI z = nI x ∨ on7 (nI x &&& nI z) < on7 (nI x) := by decide +kernel

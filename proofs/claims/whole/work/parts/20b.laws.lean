/-! laws -/
abbrev Cl : Type := Nat × Option DD × Option DD
def clV (c : Cl) (e : Nat → Int64) : Option Int64 :=
  let so : Bool := match c.2.2 with
    | none => true
    | some t => match t e with
      | none => false
      | some v => decide (v ≠ 0)
  if so then (match c.2.1 with
    | none => some 1
    | some s => s e) else none
/-- the last clause of a kind that holds -/
def toldS (f : Nat → Cl) (k : Nat) (e : Nat → Int64) : Nat → Option Int64
  | 0 => none
  | n + 1 => if (f n).1 = k then (match clV (f n) e with
      | some v => some v
      | none => toldS f k e n) else toldS f k e n
/-- a text of the class -/
def LawX (h : AH) (p n : Nat) (f : Nat → Cl) : Prop := n ≤ 12 ∧ KD S_1 h p = some (0, 8) ∧ h.2.1 p 3 = nI n ∧ ∃ qc qh len, gR S_1 h p 8 0 = some qc ∧ gR S_1 h p 8 1 = some qh ∧ KD S_1 h qc = some (1, len) ∧ len ≤ 400 ∧ KD S_1 h qh = some (1, 6 * n) ∧ ∀ c, c < n → (f c).1 ≤ 2 ∧ h.2.1 qh (6 * c) = nI (263 + (f c).1) ∧ ∃ i m j, h.2.1 qh (6 * c + 2) = nI i ∧ h.2.1 qh (6 * c + 4) = nI m ∧ h.2.1 qh (6 * c + 5) = nI j ∧ m ≤ len ∧ j ≤ len ∧
    (match (f c).2.1 with
      | none => i = m
      | some s => ∃ L, L < 52 ∧ CdX (h.2.1 qc) i m s L) ∧
    (match (f c).2.2 with
      | none => j ≤ m
      | some t => ∃ L N, L < 52 ∧ TstX (h.2.1 qc) N m j t L)
theorem q_head (h : AH) {p q n c w : Nat} (hp : KD S_1 h p = some (0, 8)) (hq : gR S_1 h p 8 1 = some q) (hk : KD S_1 h q = some (1, n)) (hn : n ≤ 100) (hc : 6 * c + w < n) : f_X8_head S_1 p (nI c) (nI w) h = some (h.2.1 q (6 * c + w), h) := by
  have hl : lnA S_1 h q = some (nI n) := by unfold lnA; rw [hk]; rfl
  have e : nI c * (6 : Int32) + nI w = nI (6 * c + w) := by
    rw [show (6 : Int32) = nI 6 from rfl, pk_mul, nI_add, Nat.mul_comm]
  unfold f_X8_head
  rw [e, lt_e, if_neg (by rw [z_lt (by omega)]; exact id), bs_ hq, bs_ hl, if_neg (by rw [nn_le (by omega) (by omega)]; omega), bs_ hq, bs_ (aI_of hk hc (by omega))]
theorem P4_q {h h' : AH} {q n : Nat} (hq : KD S_1 h q = some (1, n)) (e : Eqv P4 h h') (t : Nat) : h'.2.1 q t = h.2.1 q t := by
  refine e.i q t ?_
  unfold P4
  apply decide_eq_false
  have k34 : KD S_1 h 34 = some (2, 52) := rfl
  have k32 : KD S_1 h 32 = some (0, 4) := rfl
  rintro (rfl | ⟨rfl, -⟩)
  · rw [k34] at hq; cases hq
  · rw [k32] at hq; cases hq
theorem P4_p {h h' : AH} {p : Nat} (hp : KD S_1 h p = some (0, 8)) (e : Eqv P4 h h') (t : Nat) : h'.2.1 p t = h.2.1 p t := by
  refine e.i p t ?_
  unfold P4
  apply decide_eq_false
  have k34 : KD S_1 h 34 = some (2, 52) := rfl
  have k32 : KD S_1 h 32 = some (0, 4) := rfl
  rintro (rfl | ⟨rfl, -⟩)
  · rw [k34] at hp; cases hp
  · rw [k32] at hp; cases hp
theorem Eqv.gr {P : Nat → Nat → Bool} {h h1 : AH} (a : Eqv P h h1) (p ci k : Nat) : gR S_1 h1 p ci k = gR S_1 h p ci k := by
  unfold gR
  rw [a.kd, a.rf]
theorem LawX.e4 {h h' : AH} {p n : Nat} {f : Nat → Cl} (k : LawX h p n f) (e : Eqv P4 h h') : LawX h' p n f := by
  obtain ⟨k1, k2, k3, qc, qh, len, k4, k5, k6, k7, k8, k9⟩ := k
  have ec : h'.2.1 qc = h.2.1 qc := funext (P4_q k6 e)
  refine ⟨k1, (e.kd p).trans k2, (P4_p k2 e 3).trans k3, qc, qh, len, (e.gr _ _ _).trans k4, (e.gr _ _ _).trans k5, (e.kd _).trans k6, k7, (e.kd _).trans k8, fun c hc => ?_⟩
  obtain ⟨a1, a2, i, m, j, b1, b2, b3, b4, b5, b6, b7⟩ := k9 c hc
  rw [ec]
  exact ⟨a1, (P4_q k8 e _).trans a2, i, m, j, (P4_q k8 e _).trans b1, (P4_q k8 e _).trans b2, (P4_q k8 e _).trans b3, b4, b5, b6, b7⟩
theorem EV_4 {h h' : AH} (e : Eqv P4 h h') : EV h' = EV h := by
  funext k
  unfold EV
  rw [e.i 33 k rfl]
theorem clV_so {c : Cl} {e : Nat → Int64} (h : c.2.2 = none ∨ ∃ t v, c.2.2 = some t ∧ t e = some v ∧ v ≠ 0) : clV c e = (match c.2.1 with
    | none => some 1
    | some s => s e) := by
  unfold clV
  rcases h with h | ⟨t, v, h1, h2, h3⟩
  · rw [h]; rfl
  · rw [h1]; simp [h2, h3]
theorem clV_no {c : Cl} {e : Nat → Int64} (h : ∃ t, c.2.2 = some t ∧ (t e = none ∨ t e = some 0)) : clV c e = none := by
  unfold clV
  obtain ⟨t, h1, h2 | h2⟩ := h
  · rw [h1]; simp [h2]
  · rw [h1]; simp [h2]

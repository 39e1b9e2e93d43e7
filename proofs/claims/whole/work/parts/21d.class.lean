/-- what is told lies among the ints -/
def Fit (v : Int64) : Prop := v = Int32.toInt64 (Int64.toInt32 v)
theorem Fit.of (w : Int32) : Fit (Int32.toInt64 w) := by
  unfold Fit
  rw [Int32.toInt32_toInt64]
theorem Fit.bd {v u : Int64} (h : bd9 v = some u) : Fit u := by
  obtain ⟨rfl, h1, h2⟩ := bd9_some h
  unfold Fit
  apply Int64.toInt_inj.mp
  have a1 := Int64.le_iff_toInt_le.mp h1
  have a2 := Int64.le_iff_toInt_le.mp h2
  have e1 : (-1000000000 : Int64).toInt = -1000000000 := by decide
  have e2 : (1000000000 : Int64).toInt = 1000000000 := by decide
  rw [e1] at a1
  rw [e2] at a2
  rw [Int32.toInt_toInt64, Int64.toInt_toInt32]
  rw [Int.bmod_eq_of_le (by omega) (by omega)]
theorem Fit.op {op : Nat} {x y v : Int64} (h : opS op x y = some v) : Fit v := by
  unfold opS at h
  repeat' split at h
  all_goals first
    | exact Fit.bd h
    | (cases h; done)
    | (injection h with h; rw [← h]; first | exact Fit.of 1 | exact Fit.of 0)
theorem SumM.fit {c a : Nat → Int32} {e : Nat → Int64} (he : ∀ k, Fit (e k)) : ∀ {n i j : Nat} {d : DD} {L : Nat}, SumM false c a n i j d L → ∀ v, d e = some v → Fit v
  | 0, _, _, _, _, h => absurd h (by simp [SumM])
  | n + 1, i, j, d, L, h => by
    intro v hv
    rcases h with ⟨-, -, ⟨-, rfl⟩ | ⟨k, hk, rfl⟩⟩ | ⟨m, j', d1, d2, L1, L2, op, h1, h2, -, -, -, -, rfl, -⟩
    · injection hv with hv
      rw [← hv]
      exact Fit.of _
    · injection hv with hv
      rw [← hv]
      exact he k
    · unfold binD at hv
      cases e1 : d1 e with
      | none => rw [e1] at hv; cases hv
      | some x =>
        cases e2 : d2 e with
        | none => rw [e1, e2] at hv; cases hv
        | some y =>
          rw [e1, e2] at hv
          exact Fit.op hv
theorem bndI_of (w lo hi : Int32) : bndI (Int32.toInt64 w) lo hi = if w < lo then lo else if hi < w then hi else w := by
  unfold bndI
  have lt : ∀ x y : Int32, (Int32.toInt64 x < Int32.toInt64 y) = (x < y) := fun x y => by
    simp [Int64.lt_iff_toInt_lt, Int32.lt_iff_toInt_lt]
  simp only [lt, Int32.toInt32_toInt64]

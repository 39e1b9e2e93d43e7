/-- a law's meaning asks no more than its nine words -/
def Lo (d : DD) : Prop := ∀ e e' : Nat → Int64, (∀ k, k < 9 → e k = e' k) → d e = d e'
theorem Lo.bin {op : Nat} {d1 d2 : DD} (a : Lo d1) (b : Lo d2) : Lo (binD op d1 d2) := fun e e' h => by
  unfold binD
  rw [a e e' h, b e e' h]
theorem SumM.lo {c a : Nat → Int32} : ∀ {n i j : Nat} {d : DD} {L : Nat}, SumM false c a n i j d L → Lo d
  | 0, _, _, _, _, h => absurd h (by simp [SumM])
  | n + 1, i, j, d, L, h => by
    rcases h with ⟨-, -, ⟨-, rfl⟩ | ⟨k, hk, rfl⟩⟩ | ⟨m, j', d1, d2, L1, L2, op, h1, h2, -, -, -, -, rfl, -⟩
    · exact fun _ _ _ => rfl
    · exact fun e e' h => congrArg some (h k hk.1)
    · exact h1.lo.bin h2.lo
theorem TstM.lo {c a : Nat → Int32} : ∀ {n i j : Nat} {d : DD} {L : Nat}, TstM false c a n i j d L → Lo d
  | 0, _, _, _, _, h => absurd h (by simp [TstM])
  | n + 1, i, j, d, L, h => by
    rcases h with ⟨m, j', d1, d2, L1, L2, op, h1, h2, -, -, -, -, rfl, -⟩ | ⟨j', d1, h1, -, -, rfl⟩ | ⟨m, d1, d2, L1, L2, h1, h2, -, -, rfl, -⟩ | ⟨m, d1, d2, L1, L2, h1, h2, -, -, rfl, -⟩
    · exact h1.lo.bin h2.lo
    · have a := h1.lo
      exact fun e e' h => by unfold notD; rw [a e e' h]
    · have a := h1.lo
      have b := h2.lo
      exact fun e e' h => by unfold andD; rw [a e e' h, b e e' h]
    · have a := h1.lo
      have b := h2.lo
      exact fun e e' h => by unfold orD; rw [a e e' h, b e e' h]
theorem CdM.lo {c a : Nat → Int32} {i j : Nat} {d : DD} {L : Nat} (H : CdM false c a i j d L) : Lo d := by
  rcases H with ⟨N, H⟩ | ⟨N, H⟩
  · exact H.lo
  · exact H.lo
theorem told_lo {f : Nat → Cl} {k : Nat} {e e' : Nat → Int64} (h : ∀ k, k < 9 → e k = e' k) : ∀ {n : Nat}, (∀ c, c < n → (∀ s, (f c).2.1 = some s → Lo s) ∧ ∀ t, (f c).2.2 = some t → Lo t) → toldS f k e n = toldS f k e' n
  | 0, _ => rfl
  | n + 1, H => by
    have ih := told_lo (k := k) h (n := n) fun c hc => H c (by omega)
    obtain ⟨a, b⟩ := H n (by omega)
    have cl : clV (f n) e = clV (f n) e' := by
      unfold clV
      cases es : (f n).2.1 with
      | none =>
        cases et : (f n).2.2 with
        | none => rfl
        | some t => simp only [b t et e e' h]
      | some s =>
        cases et : (f n).2.2 with
        | none => simp only [a s es e e' h]
        | some t => simp only [b t et e e' h, a s es e e' h]
    rw [toldS, toldS, cl, ih]

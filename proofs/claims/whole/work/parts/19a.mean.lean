/-! what code means: from what the words are told to, to a number, or none where it is broken -/
abbrev DD : Type := (Nat → Int64) → Option Int64
def bd9 (v : Int64) : Option Int64 := if -1000000000 ≤ v ∧ v ≤ 1000000000 then some v else none
def opS (op : Nat) (x y : Int64) : Option Int64 :=
  if op = 20 then bd9 (x + y) else if op = 21 then bd9 (x - y) else if op = 22 then bd9 (x * y)
  else if op = 23 then (if y = 0 then none else bd9 (x / y)) else if op = 24 then (if y = 0 then none else bd9 (rmJ x y))
  else if op = 25 then some (if x < y then 1 else 0) else if op = 26 then some (if y < x then 1 else 0) else some (if x = y then 1 else 0)
def binD (op : Nat) (d1 d2 : DD) : DD := fun e => (d1 e).bind fun x => (d2 e).bind fun y => opS op x y
def notD (d : DD) : DD := fun e => (d e).bind fun x => some (1 - x)
def andD (d1 d2 : DD) : DD := fun e => (d1 e).bind fun x => if x = 0 then some 0 else d2 e
def orD (d1 d2 : DD) : DD := fun e => (d1 e).bind fun x => if x = 1 then some 1 else d2 e
/-- the class's signs -/
def sgn (op : Nat) : Int32 := if op = 20 then 43 else if op = 21 then 45 else if op = 22 then 42 else if op = 23 then 47 else if op = 24 then 37 else if op = 25 then 60 else if op = 26 then 62 else 61
def wh (x : Int32) : Int32 := x >>> ((10 : Int32) &&& (31 : Int32))
def bs (x : Int32) : Int32 := x &&& (1023 : Int32)
def SumX (c : Nat → Int32) : Nat → Nat → Nat → DD → Nat → Prop
  | 0, _, _, _, _ => False
  | n + 1, i, j, d, L => (j = i + 1 ∧ L = 1 ∧ ((∃ v, v < 1024 ∧ wh (c i) = 284 ∧ bs (c i) = nI v ∧ d = fun _ => some (Int32.toInt64 (nI v))) ∨ (∃ k, k < 25 ∧ wh (c i) = 283 ∧ bs (c i) = nI k ∧ d = fun e => some (e k)))) ∨
    ∃ m j' d1 d2 L1 L2 op, SumX c n i m d1 L1 ∧ SumX c n m j' d2 L2 ∧ j = j' + 1 ∧ 20 ≤ op ∧ op < 25 ∧ wh (c j') = sgn op ∧ d = binD op d1 d2 ∧ L = L1 + L2
def TstX (c : Nat → Int32) : Nat → Nat → Nat → DD → Nat → Prop
  | 0, _, _, _, _ => False
  | n + 1, i, j, d, L => (∃ m j' d1 d2 L1 L2 op, SumX c n i m d1 L1 ∧ SumX c n m j' d2 L2 ∧ j = j' + 1 ∧ 25 ≤ op ∧ op < 28 ∧ wh (c j') = sgn op ∧ d = binD op d1 d2 ∧ L = L1 + L2) ∨
    (∃ j' d1, TstX c n i j' d1 L ∧ j = j' + 1 ∧ wh (c j') = 258 ∧ d = notD d1) ∨
    (∃ m d1 d2 L1 L2, TstX c n i m d1 L1 ∧ TstX c n (m + 1) j d2 L2 ∧ wh (c m) = 257 ∧ bs (c m) = nI j ∧ d = andD d1 d2 ∧ L = L1 + L2) ∨
    (∃ m d1 d2 L1 L2, TstX c n i m d1 L1 ∧ TstX c n (m + 1) j d2 L2 ∧ wh (c m) = 256 ∧ bs (c m) = nI j ∧ d = orD d1 d2 ∧ L = L1 + L2)
theorem SumX.lt {c : Nat → Int32} : ∀ {n i j : Nat} {d : DD} {L : Nat}, SumX c n i j d L → i < j ∧ 1 ≤ L
  | 0, _, _, _, _, h => absurd h (by simp [SumX])
  | n + 1, i, j, d, L, h => by
    rcases h with ⟨rfl, rfl, -⟩ | ⟨m, j', d1, d2, L1, L2, op, h1, h2, rfl, -, -, -, -, rfl⟩
    · exact ⟨by omega, by omega⟩
    · have a := h1.lt
      have b := h2.lt
      exact ⟨by omega, by omega⟩
theorem TstX.lt {c : Nat → Int32} : ∀ {n i j : Nat} {d : DD} {L : Nat}, TstX c n i j d L → i < j ∧ 1 ≤ L
  | 0, _, _, _, _, h => absurd h (by simp [TstX])
  | n + 1, i, j, d, L, h => by
    rcases h with ⟨m, j', d1, d2, L1, L2, op, h1, h2, rfl, -, -, -, -, rfl⟩ | ⟨j', d1, h1, rfl, -, -⟩ | ⟨m, d1, d2, L1, L2, h1, h2, -, -, -, rfl⟩ | ⟨m, d1, d2, L1, L2, h1, h2, -, -, -, rfl⟩
    · have a := h1.lt
      have b := h2.lt
      exact ⟨by omega, by omega⟩
    · have a := h1.lt
      exact ⟨by omega, by omega⟩
    · have a := h1.lt
      have b := h2.lt
      exact ⟨by omega, by omega⟩
    · have a := h1.lt
      have b := h2.lt
      exact ⟨by omega, by omega⟩
theorem opS_01 {op : Nat} (ho : 25 ≤ op) {x y v : Int64} (h : opS op x y = some v) : v = 0 ∨ v = 1 := by
  unfold opS at h
  rw [if_neg (by omega), if_neg (by omega), if_neg (by omega), if_neg (by omega), if_neg (by omega)] at h
  split at h
  · injection h with h
    split at h <;> simp [← h]
  · split at h
    · injection h with h
      split at h <;> simp [← h]
    · injection h with h
      split at h <;> simp [← h]
theorem TstX.d01 {c : Nat → Int32} : ∀ {n i j : Nat} {d : DD} {L : Nat}, TstX c n i j d L → ∀ e v, d e = some v → v = 0 ∨ v = 1
  | 0, _, _, _, _, h => absurd h (by simp [TstX])
  | n + 1, i, j, d, L, h => by
    intro e v
    rcases h with ⟨m, j', d1, d2, L1, L2, op, h1, h2, rfl, ho, -, -, rfl, rfl⟩ | ⟨j', d1, h1, rfl, -, rfl⟩ | ⟨m, d1, d2, L1, L2, h1, h2, -, -, rfl, rfl⟩ | ⟨m, d1, d2, L1, L2, h1, h2, -, -, rfl, rfl⟩
    · unfold binD
      cases d1 e with
      | none => intro h; cases h
      | some x =>
        cases d2 e with
        | none => intro h; cases h
        | some y => exact fun h => opS_01 ho h
    · unfold notD
      cases e1 : d1 e with
      | none => intro h; cases h
      | some x =>
        intro h
        injection h with h
        rcases h1.d01 e x e1 with rfl | rfl
        · exact Or.inr h.symm
        · exact Or.inl h.symm
    · unfold andD
      cases e1 : d1 e with
      | none => intro h; cases h
      | some x =>
        intro h
        show v = 0 ∨ v = 1
        have h : (if x = 0 then some 0 else d2 e) = some v := h
        split at h
        · injection h with h
          exact Or.inl h.symm
        · exact h2.d01 e v h
    · unfold orD
      cases e1 : d1 e with
      | none => intro h; cases h
      | some x =>
        intro h
        have h : (if x = 1 then some 1 else d2 e) = some v := h
        split at h
        · injection h with h
          exact Or.inr h.symm
        · exact h2.d01 e v h

/-! reading: clauses, as the document has them -/
abbrev Co : Type := Nat × (Option DD × Option DD × Option DD) × Nat
def optS (r : Rs) : Nat ⊕ (Nat × Nat × Option DD) := match r with
  | .inl j => .inl j
  | .inr (i, lv, d) => .inr (i, lv, some d)
def ifS (K U : Nat → Nat) (ord : Bool) (i lv : Nat) : Nat ⊕ (Nat × Nat × Option DD) := if K i = 259 then optS (testS K U ord 8 (i + 1) lv) else .inr (i, lv, none)
/-- what a law's clause says ahead of its if -/
def lawA (K U : Nat → Nat) (i lv : Nat) : Nat ⊕ (Nat × Nat × Option DD × Option DD × Nat) :=
  if 263 ≤ K i ∧ K i ≤ 265 then
    if K i = 265 then .inr (i + 1, lv, none, none, 1)
    else match sumS K U false 8 (i + 1) lv with
      | .inl j => .inl j
      | .inr (i', lv', d) => .inr (i', lv', some d, none, 1)
  else .inl i
def timS (K U : Nat → Nat) (i lv : Nat) (s1 s2 : Option DD) : Nat ⊕ (Nat × Nat × Option DD × Option DD × Nat) :=
  if K i = 260 then (if K (i + 1) = 284 ∧ 1 ≤ U (i + 1) ∧ U (i + 1) ≤ 20 then .inr (i + 2, lv, s1, s2, U (i + 1)) else .inl (i + 1)) else .inr (i, lv, s1, s2, 1)
def sec2S (K U : Nat → Nat) (k i lv : Nat) (s1 : Option DD) : Nat ⊕ (Nat × Nat × Option DD × Option DD × Nat) :=
  if k = 266 ∨ k = 268 then
    if K i = (if k = 266 then 261 else 262) then (match sumS K U true 8 (i + 1) lv with
      | .inl j => .inl j
      | .inr (i', lv', d) => timS K U i' lv' s1 (some d)) else .inl i
  else timS K U i lv s1 none
/-- what an order says ahead of its if -/
def ordA (K U : Nat → Nat) (i lv : Nat) : Nat ⊕ (Nat × Nat × Option DD × Option DD × Nat) :=
  if 266 ≤ K i ∧ K i ≤ 269 then
    if K i = 269 then sec2S K U (K i) (i + 1) lv none
    else match sumS K U true 8 (i + 1) lv with
      | .inl j => .inl j
      | .inr (i', lv', d) => sec2S K U (K i) i' lv' (some d)
  else .inl i
def headA (K U : Nat → Nat) (ord : Bool) (i lv : Nat) : Nat ⊕ (Nat × Nat × Option DD × Option DD × Nat) := if ord = true then ordA K U i lv else lawA K U i lv
def clauS (K U : Nat → Nat) (ord : Bool) (i lv : Nat) : Nat ⊕ (Nat × Nat × Co) := match headA K U ord i lv with
  | .inl j => .inl j
  | .inr (i1, lv1, s1, s2, tm) => match ifS K U ord i1 lv1 with
    | .inl j => .inl j
    | .inr (i2, lv2, t) => .inr (i2, lv2, K i, (s1, s2, t), tm)
/-- a text: f tells the clauses so far, m of them -/
def textS (K U : Nat → Nat) (ord : Bool) : Nat → Nat → (Nat → Co) → Nat → Nat → Nat ⊕ (Nat × (Nat → Co))
  | 0, _, _, i, _ => .inl i
  | r + 1, m, f, i, lv => match clauS K U ord i lv with
    | .inl j => .inl j
    | .inr (i', lv', x) => if K i' = 59 then textS K U ord r (m + 1) (fun c => if c = m then x else f c) (i' + 1) lv' else if K i' = 285 then .inr (m + 1, fun c => if c = m then x else f c) else .inl i'
def Go2 (n i lv : Nat) {α : Type} (r : Nat ⊕ (Nat × Nat × α)) : Prop := match r with
  | .inl j => i ≤ j ∧ j ≤ n
  | .inr (i', lv', _) => i < i' ∧ i' ≤ n ∧ lv ≤ lv' ∧ lv' ≤ 50
def Go0 (n i lv : Nat) {α : Type} (r : Nat ⊕ (Nat × Nat × α)) : Prop := match r with
  | .inl j => i ≤ j ∧ j ≤ n
  | .inr (i', lv', _) => i ≤ i' ∧ i' ≤ n ∧ lv ≤ lv' ∧ lv' ≤ 50
theorem if_go {K U : Nat → Nat} {ord : Bool} {n i lv : Nat} (k : TkN K n) (hi : i ≤ n) (hl : lv ≤ 50) : Go0 n i lv (ifS K U ord i lv) := by
  unfold ifS
  by_cases c : K i = 259
  · have := k.lt hi (by omega)
    have g := test_go (U := U) (ord := ord) k 8 (i + 1) lv (by omega)
    rw [if_pos c]
    unfold optS
    revert g
    rcases testS K U ord 8 (i + 1) lv with j | ⟨i', lv', d⟩
    · rintro ⟨a, b⟩
      exact ⟨by omega, b⟩
    · rintro ⟨a, b, c, d⟩
      exact ⟨by omega, b, by omega, d⟩
  · rw [if_neg c]
    exact ⟨Nat.le_refl i, hi, Nat.le_refl lv, hl⟩
theorem tim_go {K U : Nat → Nat} {n i lv : Nat} (k : TkN K n) (hi : i ≤ n) (hl : lv ≤ 50) (s1 s2 : Option DD) : Go0 n i lv (timS K U i lv s1 s2) := by
  unfold timS
  by_cases c : K i = 260
  · have h1 := k.lt hi (by omega)
    rw [if_pos c]
    by_cases c2 : K (i + 1) = 284 ∧ 1 ≤ U (i + 1) ∧ U (i + 1) ≤ 20
    · have h2 := k.lt (show i + 1 ≤ n by omega) (by omega)
      rw [if_pos c2]
      exact ⟨by omega, by omega, Nat.le_refl lv, hl⟩
    · rw [if_neg c2]
      exact ⟨by omega, by omega⟩
  · rw [if_neg c]
    exact ⟨Nat.le_refl i, hi, Nat.le_refl lv, hl⟩
theorem Go0.up {n i lv i2 lv2 : Nat} {α : Type} {r : Nat ⊕ (Nat × Nat × α)} (k : Go0 n i2 lv2 r) (h : i ≤ i2) (hl : lv ≤ lv2) : Go0 n i lv r := by
  rcases r with j | ⟨i', lv', d⟩
  · exact ⟨Nat.le_trans h k.1, k.2⟩
  · obtain ⟨a, b, c, d⟩ := k
    exact ⟨Nat.le_trans h a, b, Nat.le_trans hl c, d⟩
theorem Go0.up2 {n i lv i2 lv2 : Nat} {α : Type} {r : Nat ⊕ (Nat × Nat × α)} (k : Go0 n i2 lv2 r) (h : i < i2) (hl : lv ≤ lv2) : Go2 n i lv r := by
  rcases r with j | ⟨i', lv', d⟩
  · exact ⟨Nat.le_trans (Nat.le_of_lt h) k.1, k.2⟩
  · obtain ⟨a, b, c, d⟩ := k
    exact ⟨Nat.lt_of_lt_of_le h a, b, Nat.le_trans hl c, d⟩
theorem sec_go {K U : Nat → Nat} {n k i lv : Nat} (tk : TkN K n) (hi : i ≤ n) (hl : lv ≤ 50) (s1 : Option DD) : Go0 n i lv (sec2S K U k i lv s1) := by
  unfold sec2S
  by_cases c : k = 266 ∨ k = 268
  · rw [if_pos c]
    by_cases c2 : K i = (if k = 266 then 261 else 262)
    · have h1 := tk.lt hi (by split at c2 <;> omega)
      have g := sum_go (U := U) (ord := true) tk 8 (i + 1) lv (by omega)
      rw [if_pos c2]
      revert g
      rcases sumS K U true 8 (i + 1) lv with j | ⟨i', lv', d⟩
      · rintro ⟨a, b⟩
        exact ⟨by omega, b⟩
      · rintro ⟨a, b, c, d'⟩
        exact (tim_go tk b d' s1 (some d)).up (by omega) (by omega)
    · rw [if_neg c2]
      exact ⟨Nat.le_refl i, hi⟩
  · rw [if_neg c]
    exact tim_go tk hi hl s1 none
theorem head_go {K U : Nat → Nat} {ord : Bool} {n i lv : Nat} (tk : TkN K n) (hi : i ≤ n) (hl : lv ≤ 50) : Go2 n i lv (headA K U ord i lv) := by
  cases ord with
  | false =>
    show Go2 n i lv (lawA K U i lv)
    unfold lawA
    by_cases c : 263 ≤ K i ∧ K i ≤ 265
    · have h1 := tk.lt hi (by omega)
      rw [if_pos c]
      by_cases c2 : K i = 265
      · rw [if_pos c2]
        exact ⟨by omega, by omega, Nat.le_refl lv, hl⟩
      · have g := sum_go (U := U) (ord := false) tk 8 (i + 1) lv (by omega)
        rw [if_neg c2]
        revert g
        rcases sumS K U false 8 (i + 1) lv with j | ⟨i', lv', d⟩
        · rintro ⟨a, b⟩
          exact ⟨by omega, b⟩
        · rintro ⟨a, b, c, d'⟩
          exact ⟨by omega, b, by omega, d'⟩
    · rw [if_neg c]
      exact ⟨Nat.le_refl i, hi⟩
  | true =>
    show Go2 n i lv (ordA K U i lv)
    unfold ordA
    by_cases c : 266 ≤ K i ∧ K i ≤ 269
    · have h1 := tk.lt hi (by omega)
      rw [if_pos c]
      by_cases c2 : K i = 269
      · rw [if_pos c2]
        exact (sec_go tk (by omega) hl none).up2 (by omega) (Nat.le_refl lv)
      · have g := sum_go (U := U) (ord := true) tk 8 (i + 1) lv (by omega)
        rw [if_neg c2]
        revert g
        rcases sumS K U true 8 (i + 1) lv with j | ⟨i', lv', d⟩
        · rintro ⟨a, b⟩
          exact ⟨by omega, b⟩
        · rintro ⟨a, b, c, d'⟩
          exact (sec_go tk b d' (some d)).up2 (by omega) (by omega)
    · rw [if_neg c]
      exact ⟨Nat.le_refl i, hi⟩
theorem clau_go {K U : Nat → Nat} {ord : Bool} {n i lv : Nat} (tk : TkN K n) (hi : i ≤ n) (hl : lv ≤ 50) : Go2 n i lv (clauS K U ord i lv) := by
  have g := head_go (U := U) (ord := ord) tk hi hl
  unfold clauS
  revert g
  rcases headA K U ord i lv with j | ⟨i1, lv1, s1, s2, tm⟩
  · exact fun g => g
  · rintro ⟨a, b, c, d⟩
    have g := (if_go (U := U) (ord := ord) tk b d).up2 a c
    dsimp only
    revert g
    rcases ifS K U ord i1 lv1 with j | ⟨i2, lv2, t⟩
    · exact fun g => g
    · exact fun g => g

/-! reading: what a text says, of kinds K and numbers U of its tokens -/
abbrev Rs : Type := Nat ⊕ (Nat × Nat × DD)
def opN (x : Nat) : Nat := if x = 43 then 20 else if x = 45 then 21 else if x = 42 then 22 else if x = 47 then 23 else if x = 37 then 24 else if x = 60 then 25 else if x = 62 then 26 else 27
def leafS (K U : Nat → Nat) (ord : Bool) (i lv : Nat) : Rs :=
  if lv < 50 then
    if K i = 284 ∧ U i ≤ 1000 then .inr (i + 1, lv + 1, fun _ => some (Int32.toInt64 (nI (U i))))
    else if ord = true then
      if K i = 271 then (if K (i + 1) = 284 ∧ U (i + 1) ≤ 6 then .inr (i + 2, lv + 1, fun e => some (e (18 + U (i + 1)))) else .inl (i + 1))
      else if K i = 282 then (if K (i + 1) = 284 ∧ U (i + 1) ≤ 5 then .inr (i + 2, lv + 1, fun e => some (e (12 + U (i + 1)))) else .inl (i + 1))
      else if K i = 276 ∨ K i = 277 ∨ K i = 279 ∨ K i = 280 ∨ K i = 281 then .inr (i + 1, lv + 1, fun e => some (e (K i - 270)))
      else .inl i
    else if 270 ≤ K i ∧ K i ≤ 278 then .inr (i + 1, lv + 1, fun e => some (e (K i - 270)))
    else .inl i
  else .inl i
def brS (K : Nat → Nat) (c : Nat) (r : Rs) : Rs := match r with
  | .inl j => .inl j
  | .inr (i, lv, d) => if K i = c then .inr (i + 1, lv, d) else .inl i
def partS (K U : Nat → Nat) (ord : Bool) (br : Nat → Nat → Rs) (i lv : Nat) : Rs := if K i = 91 then br i lv else leafS K U ord i lv
def joinD (q : Option (Nat × DD)) (d : DD) : DD := match q with
  | none => d
  | some (op, d0) => binD op d0 d
def sumL (pt : Nat → Nat → Rs) (K : Nat → Nat) : Nat → Option (Nat × DD) → Option (Nat × DD) → Nat → Nat → Rs
  | 0, _, _, i, _ => .inl i
  | n + 1, p, q, i, lv => match pt i lv with
    | .inl j => .inl j
    | .inr (i', lv', d) =>
      if K i' = 42 ∨ K i' = 47 ∨ K i' = 37 then sumL pt K n p (some (opN (K i'), joinD q d)) (i' + 1) lv'
      else if K i' = 43 ∨ K i' = 45 then sumL pt K n (some (opN (K i'), joinD p (joinD q d))) none (i' + 1) lv'
      else .inr (i', lv', joinD p (joinD q d))
def sumS (K U : Nat → Nat) (ord : Bool) : Nat → Nat → Nat → Rs
  | 0, i, lv => sumL (partS K U ord fun i _ => .inl i) K 402 none none i lv
  | k + 1, i, lv => sumL (partS K U ord fun i lv => brS K 93 (sumS K U ord k (i + 1) lv)) K 402 none none i lv
def notsS (K : Nat → Nat) : Nat → Nat → Nat
  | 0, _ => 0
  | n + 1, i => if K i = 258 then notsS K n (i + 1) + 1 else 0
def parN (c : Nat) (d : DD) : DD := if c % 2 = 0 then d else notD d
def parR (c : Nat) (r : Rs) : Rs := match r with
  | .inl j => .inl j
  | .inr (i, lv, d) => .inr (i, lv, parN c d)
def cmpS (K : Nat → Nat) (sm : Nat → Nat → Rs) (i lv : Nat) : Rs := match sm i lv with
  | .inl j => .inl j
  | .inr (i1, lv1, d1) => if K i1 = 60 ∨ K i1 = 62 ∨ K i1 = 61 then (match sm (i1 + 1) lv1 with
      | .inl j => .inl j
      | .inr (i2, lv2, d2) => .inr (i2, lv2, binD (opN (K i1)) d1 d2)) else .inl i1
def plainS (K : Nat → Nat) (sm br : Nat → Nat → Rs) (i lv : Nat) : Rs :=
  parR (notsS K 402 i) (if K (i + notsS K 402 i) = 40 then br (i + notsS K 402 i) lv else cmpS K sm (i + notsS K 402 i) lv)
def joinA (q : Option DD) (d : DD) : DD := match q with
  | none => d
  | some d0 => andD d0 d
def joinO (q : Option DD) (d : DD) : DD := match q with
  | none => d
  | some d0 => orD d0 d
def testL (pl : Nat → Nat → Rs) (K : Nat → Nat) : Nat → Option DD → Option DD → Nat → Nat → Rs
  | 0, _, _, i, _ => .inl i
  | n + 1, p, q, i, lv => match pl i lv with
    | .inl j => .inl j
    | .inr (i', lv', d) =>
      if K i' = 257 then testL pl K n p (some (joinA q d)) (i' + 1) lv'
      else if K i' = 256 then testL pl K n (some (joinO p (joinA q d))) none (i' + 1) lv'
      else .inr (i', lv', joinO p (joinA q d))
def testS (K U : Nat → Nat) (ord : Bool) : Nat → Nat → Nat → Rs
  | 0, i, lv => testL (plainS K (sumS K U ord 0) fun i _ => .inl i) K 402 none none i lv
  | k + 1, i, lv => testL (plainS K (sumS K U ord (k + 1)) fun i lv => brS K 41 (testS K U ord k (i + 1) lv)) K 402 none none i lv
/-- the end is at n, and nowhere before -/
def TkN (K : Nat → Nat) (n : Nat) : Prop := n ≤ 400 ∧ K n = 285 ∧ ∀ i, i < n → K i ≠ 285
theorem TkN.lt {K : Nat → Nat} {n i : Nat} (k : TkN K n) (hi : i ≤ n) (h : K i ≠ 285) : i < n := by
  by_cases e : i = n
  · rw [e] at h; exact absurd k.2.1 h
  · omega
/-- what is read goes on, and not beyond the end -/
def Go1 (n i lv : Nat) (r : Rs) : Prop := match r with
  | .inl j => i ≤ j ∧ j ≤ n
  | .inr (i', lv', _) => i < i' ∧ i' ≤ n ∧ lv < lv' ∧ lv' ≤ 50
theorem leaf_go {K U : Nat → Nat} {ord : Bool} {n i lv : Nat} (k : TkN K n) (hi : i ≤ n) : Go1 n i lv (leafS K U ord i lv) := by
  have l : ∀ x, K i = x → x ≠ 285 → i < n := fun x h1 h2 => k.lt hi (by omega)
  have l2 : ∀ x, i < n → K (i + 1) = x → x ≠ 285 → i + 1 < n := fun x h h1 h2 => k.lt (by omega) (by omega)
  unfold leafS
  by_cases c : lv < 50
  · rw [if_pos c]
    by_cases c1 : K i = 284 ∧ U i ≤ 1000
    · rw [if_pos c1]
      have := l _ c1.1 (by decide)
      exact ⟨by omega, by omega, by omega, by omega⟩
    · rw [if_neg c1]
      cases ord with
      | true =>
        rw [if_pos rfl]
        by_cases c2 : K i = 271
        · have := l _ c2 (by decide)
          rw [if_pos c2]
          by_cases c3 : K (i + 1) = 284 ∧ U (i + 1) ≤ 6
          · have := l2 _ this c3.1 (by decide)
            rw [if_pos c3]
            exact ⟨by omega, by omega, by omega, by omega⟩
          · rw [if_neg c3]
            exact ⟨by omega, by omega⟩
        · rw [if_neg c2]
          by_cases c2 : K i = 282
          · have := l _ c2 (by decide)
            rw [if_pos c2]
            by_cases c3 : K (i + 1) = 284 ∧ U (i + 1) ≤ 5
            · have := l2 _ this c3.1 (by decide)
              rw [if_pos c3]
              exact ⟨by omega, by omega, by omega, by omega⟩
            · rw [if_neg c3]
              exact ⟨by omega, by omega⟩
          · rw [if_neg c2]
            by_cases c4 : K i = 276 ∨ K i = 277 ∨ K i = 279 ∨ K i = 280 ∨ K i = 281
            · have := k.lt hi (by omega)
              rw [if_pos c4]
              exact ⟨by omega, by omega, by omega, by omega⟩
            · rw [if_neg c4]
              exact ⟨by omega, by omega⟩
      | false =>
        rw [if_neg (by decide)]
        by_cases c4 : 270 ≤ K i ∧ K i ≤ 278
        · have := k.lt hi (by omega)
          rw [if_pos c4]
          exact ⟨by omega, by omega, by omega, by omega⟩
        · rw [if_neg c4]
          exact ⟨by omega, by omega⟩
  · rw [if_neg c]
    exact ⟨by omega, by omega⟩
theorem br_go {K : Nat → Nat} {n i lv c : Nat} {r : Rs} (k : TkN K n) (hc : c ≠ 285) (h : Go1 n (i + 1) lv r) : Go1 n i lv (brS K c r) := by
  unfold brS
  rcases r with j | ⟨i', lv', d⟩
  · obtain ⟨a, b⟩ : i + 1 ≤ j ∧ j ≤ n := h
    exact ⟨by omega, b⟩
  · obtain ⟨a1, a2, a3, a4⟩ : i + 1 < i' ∧ i' ≤ n ∧ lv < lv' ∧ lv' ≤ 50 := h
    dsimp only
    by_cases e : K i' = c
    · have := k.lt a2 (by omega)
      rw [if_pos e]
      exact ⟨by omega, by omega, by omega, by omega⟩
    · rw [if_neg e]
      exact ⟨by omega, by omega⟩
theorem sumL_go {pt : Nat → Nat → Rs} {K : Nat → Nat} {n : Nat} (k : TkN K n) (hp : ∀ i lv, i ≤ n → Go1 n i lv (pt i lv)) : ∀ f p q i lv, i ≤ n → Go1 n i lv (sumL pt K f p q i lv)
  | 0, _, _, i, _, hi => ⟨Nat.le_refl _, hi⟩
  | f + 1, p, q, i, lv, hi => by
    have h := hp i lv hi
    rw [sumL]
    revert h
    rcases pt i lv with j | ⟨i', lv', d⟩
    · exact fun h => h
    · rintro ⟨a1, a2, a3, a4⟩
      dsimp only
      have up : ∀ r, Go1 n (i' + 1) lv' r → Go1 n i lv r := fun r z => by
        rcases r with j | ⟨i2, lv2, d2⟩
        · obtain ⟨z1, z2⟩ : i' + 1 ≤ j ∧ j ≤ n := z
          exact ⟨by omega, z2⟩
        · obtain ⟨z1, z2, z3, z4⟩ : i' + 1 < i2 ∧ i2 ≤ n ∧ lv' < lv2 ∧ lv2 ≤ 50 := z
          exact ⟨by omega, z2, by omega, z4⟩
      by_cases c1 : K i' = 42 ∨ K i' = 47 ∨ K i' = 37
      · have := k.lt a2 (by omega)
        rw [if_pos c1]
        exact up _ (sumL_go k hp f _ _ _ _ (by omega))
      · rw [if_neg c1]
        by_cases c2 : K i' = 43 ∨ K i' = 45
        · have := k.lt a2 (by omega)
          rw [if_pos c2]
          exact up _ (sumL_go k hp f _ _ _ _ (by omega))
        · rw [if_neg c2]
          exact ⟨a1, a2, a3, a4⟩
theorem part_go {K U : Nat → Nat} {ord : Bool} {n : Nat} {br : Nat → Nat → Rs} (k : TkN K n) (hb : ∀ i lv, i ≤ n → K i = 91 → Go1 n i lv (br i lv)) (i lv : Nat) (hi : i ≤ n) : Go1 n i lv (partS K U ord br i lv) := by
  unfold partS
  by_cases c : K i = 91
  · rw [if_pos c]; exact hb i lv hi c
  · rw [if_neg c]; exact leaf_go k hi
theorem sum_go {K U : Nat → Nat} {ord : Bool} {n : Nat} (k : TkN K n) : ∀ d i lv, i ≤ n → Go1 n i lv (sumS K U ord d i lv)
  | 0, i, lv, hi => sumL_go k (part_go (br := fun i _ => .inl i) k fun i lv hi _ => ⟨Nat.le_refl _, hi⟩) _ _ _ _ _ hi
  | d + 1, i, lv, hi => sumL_go k (part_go k fun i lv hi e => by
      have := k.lt hi (by omega)
      exact br_go k (by decide) (sum_go k d (i + 1) lv (by omega))) _ _ _ _ _ hi
theorem nots_ok {K : Nat → Nat} : ∀ m i, ∀ j, i ≤ j → j < i + notsS K m i → K j = 258
  | 0, i, j, h1, h2 => by rw [notsS] at h2; omega
  | m + 1, i, j, h1, h2 => by
    rw [notsS] at h2
    by_cases c : K i = 258
    · rw [if_pos c] at h2
      by_cases e : j = i
      · rw [e]; exact c
      · exact nots_ok m (i + 1) j (by omega) (by omega)
    · rw [if_neg c] at h2
      omega
theorem nots_end {K : Nat → Nat} : ∀ m i, notsS K m i < m → K (i + notsS K m i) ≠ 258
  | 0, i, h => by omega
  | m + 1, i, h => by
    rw [notsS] at h ⊢
    by_cases c : K i = 258
    · rw [if_pos c] at h ⊢
      have := nots_end (K := K) m (i + 1) (by omega)
      rwa [show i + (notsS K m (i + 1) + 1) = i + 1 + notsS K m (i + 1) by omega]
    · rw [if_neg c]
      exact c
theorem nots_le {K : Nat → Nat} {n i m : Nat} (k : TkN K n) (hi : i ≤ n) : i + notsS K m i ≤ n := by
  apply Classical.byContradiction
  intro h
  have := nots_ok (K := K) m i n hi (by omega)
  rw [k.2.1] at this
  cases this
theorem plain_go {K : Nat → Nat} {n : Nat} {sm br : Nat → Nat → Rs} (k : TkN K n) (hs : ∀ i lv, i ≤ n → Go1 n i lv (sm i lv)) (hb : ∀ i lv, i ≤ n → K i = 40 → Go1 n i lv (br i lv)) (i lv : Nat) (hi : i ≤ n) : Go1 n i lv (plainS K sm br i lv) := by
  unfold plainS
  have hc := nots_le (m := 402) k hi
  generalize notsS K 402 i = c at hc
  have up : ∀ r, Go1 n (i + c) lv r → Go1 n i lv (parR c r) := fun r z => by
    rcases r with j | ⟨i2, lv2, d2⟩
    · obtain ⟨z1, z2⟩ : i + c ≤ j ∧ j ≤ n := z
      exact ⟨by omega, z2⟩
    · obtain ⟨z1, z2, z3, z4⟩ : i + c < i2 ∧ i2 ≤ n ∧ lv < lv2 ∧ lv2 ≤ 50 := z
      exact ⟨by omega, z2, by omega, z4⟩
  apply up
  by_cases c1 : K (i + c) = 40
  · rw [if_pos c1]
    exact hb _ _ hc c1
  · rw [if_neg c1]
    unfold cmpS
    have h := hs (i + c) lv hc
    revert h
    rcases sm (i + c) lv with j | ⟨i1, lv1, d1⟩
    · exact fun h => h
    · rintro ⟨a1, a2, a3, a4⟩
      dsimp only
      by_cases c2 : K i1 = 60 ∨ K i1 = 62 ∨ K i1 = 61
      · have l1 := k.lt a2 (by omega)
        have h2 := hs (i1 + 1) lv1 (by omega)
        rw [if_pos c2]
        revert h2
        rcases sm (i1 + 1) lv1 with j | ⟨i2, lv2, d2⟩
        · rintro ⟨z1, z2⟩
          exact ⟨by omega, z2⟩
        · rintro ⟨z1, z2, z3, z4⟩
          exact ⟨by omega, z2, by omega, z4⟩
      · rw [if_neg c2]
        exact ⟨by omega, a2⟩
theorem testL_go {pl : Nat → Nat → Rs} {K : Nat → Nat} {n : Nat} (k : TkN K n) (hp : ∀ i lv, i ≤ n → Go1 n i lv (pl i lv)) : ∀ f p q i lv, i ≤ n → Go1 n i lv (testL pl K f p q i lv)
  | 0, _, _, i, _, hi => ⟨Nat.le_refl _, hi⟩
  | f + 1, p, q, i, lv, hi => by
    have h := hp i lv hi
    rw [testL]
    revert h
    rcases pl i lv with j | ⟨i', lv', d⟩
    · exact fun h => h
    · rintro ⟨a1, a2, a3, a4⟩
      dsimp only
      have up : ∀ r, Go1 n (i' + 1) lv' r → Go1 n i lv r := fun r z => by
        rcases r with j | ⟨i2, lv2, d2⟩
        · obtain ⟨z1, z2⟩ : i' + 1 ≤ j ∧ j ≤ n := z
          exact ⟨by omega, z2⟩
        · obtain ⟨z1, z2, z3, z4⟩ : i' + 1 < i2 ∧ i2 ≤ n ∧ lv' < lv2 ∧ lv2 ≤ 50 := z
          exact ⟨by omega, z2, by omega, z4⟩
      by_cases c1 : K i' = 257
      · have := k.lt a2 (by omega)
        rw [if_pos c1]
        exact up _ (testL_go k hp f _ _ _ _ (by omega))
      · rw [if_neg c1]
        by_cases c2 : K i' = 256
        · have := k.lt a2 (by omega)
          rw [if_pos c2]
          exact up _ (testL_go k hp f _ _ _ _ (by omega))
        · rw [if_neg c2]
          exact ⟨a1, a2, a3, a4⟩
theorem test_go {K U : Nat → Nat} {ord : Bool} {n : Nat} (k : TkN K n) : ∀ d i lv, i ≤ n → Go1 n i lv (testS K U ord d i lv)
  | 0, i, lv, hi => testL_go k (plain_go (br := fun i _ => .inl i) k (sum_go k 0) fun i lv hi _ => ⟨Nat.le_refl _, hi⟩) _ _ _ _ _ hi
  | d + 1, i, lv, hi => testL_go k (plain_go k (sum_go k (d + 1)) fun i lv hi e => by
      have := k.lt hi (by omega)
      exact br_go k (by decide) (test_go k d (i + 1) lv (by omega))) _ _ _ _ _ hi
/-! code: as it is put down -/
def emV (x y : Int32) : Int32 := (x <<< ((10 : Int32) &&& (31 : Int32))) ||| (y &&& (1023 : Int32))
theorem wh_w : ∀ x, x < 300 → wh (nI x <<< ((10 : Int32) &&& (31 : Int32))) = nI x ∧ bs (nI x <<< ((10 : Int32) &&& (31 : Int32))) = 0 := by decide +kernel
theorem wh_b : ∀ y, y < 1024 → wh (nI y &&& 1023) = 0 ∧ bs (nI y &&& 1023) = nI y ∧ nI y &&& 1023 = nI y := by decide +kernel
theorem bs_or (x y : Int32) : bs (x ||| y) = bs x ||| bs y := bvI fun i hi => by
  unfold bs
  simp only [Int32.toBitVec_and, Int32.toBitVec_or, BitVec.getLsbD_and, BitVec.getLsbD_or]
  cases x.toBitVec.getLsbD i <;> cases y.toBitVec.getLsbD i <;> simp
theorem em_ok {x y : Nat} (hx : x < 300) (hy : y < 1024) : wh (emV (nI x) (nI y)) = nI x ∧ bs (emV (nI x) (nI y)) = nI y := by
  obtain ⟨a1, a2⟩ := wh_w x hx
  obtain ⟨b1, b2, _⟩ := wh_b y hy
  unfold emV
  constructor
  · unfold wh at a1 b1 ⊢
    rw [Int32.shiftRight_or, a1, b1, Int32.or_zero]
  · rw [bs_or, a2, b2, Int32.zero_or]
theorem em_leap {x c : Nat} (hx : x < 300) (hc : c < 1024) : emV (nI x) 0 ||| (nI c &&& 1023) = emV (nI x) (nI c) := by
  unfold emV
  rw [show (0 : Int32) &&& 1023 = 0 by decide, Int32.or_zero]
theorem SumX.up {c : Nat → Int32} : ∀ {n i j : Nat} {d : DD} {L : Nat}, SumX c n i j d L → SumX c (n + 1) i j d L
  | 0, _, _, _, _, h => absurd h (by simp [SumX])
  | n + 1, i, j, d, L, h => by
    rcases h with h | ⟨m, j', d1, d2, L1, L2, op, h1, h2, h3⟩
    · exact Or.inl h
    · exact Or.inr ⟨m, j', d1, d2, L1, L2, op, h1.up, h2.up, h3⟩
theorem SumX.le {c : Nat → Int32} {n i j : Nat} {d : DD} {L : Nat} (h : SumX c n i j d L) : ∀ {m : Nat}, n ≤ m → SumX c m i j d L
  | 0, hm => by
    have : n = 0 := by omega
    rw [this] at h; exact h
  | m + 1, hm => by
    by_cases e : n = m + 1
    · rw [← e]; exact h
    · exact (h.le (m := m) (by omega)).up
theorem SumX.cong {c c' : Nat → Int32} : ∀ {n i j : Nat} {d : DD} {L : Nat}, (∀ k, i ≤ k → k < j → c' k = c k) → SumX c n i j d L → SumX c' n i j d L
  | 0, _, _, _, _, _, h => absurd h (by simp [SumX])
  | n + 1, i, j, d, L, e, h => by
    rcases h with ⟨rfl, h2, h⟩ | ⟨m, j', d1, d2, L1, L2, op, h1, h2, rfl, h3, h4, h5, h6⟩
    · refine Or.inl ⟨rfl, h2, ?_⟩
      rw [e i (Nat.le_refl i) (by omega)]
      exact h
    · have l1 := h1.lt
      have l2 := h2.lt
      refine Or.inr ⟨m, j', d1, d2, L1, L2, op, h1.cong fun k a b => e k a (by omega), h2.cong fun k a b => e k (by omega) (by omega), rfl, h3, h4, ?_, h6⟩
      rw [e j' (by omega) (by omega)]
      exact h5
theorem TstX.up {c : Nat → Int32} : ∀ {n i j : Nat} {d : DD} {L : Nat}, TstX c n i j d L → TstX c (n + 1) i j d L
  | 0, _, _, _, _, h => absurd h (by simp [TstX])
  | n + 1, i, j, d, L, h => by
    rcases h with ⟨m, j', d1, d2, L1, L2, op, h1, h2, h3⟩ | ⟨j', d1, h1, h2⟩ | ⟨m, d1, d2, L1, L2, h1, h2, h3⟩ | ⟨m, d1, d2, L1, L2, h1, h2, h3⟩
    · exact Or.inl ⟨m, j', d1, d2, L1, L2, op, h1.up, h2.up, h3⟩
    · exact Or.inr (Or.inl ⟨j', d1, h1.up, h2⟩)
    · exact Or.inr (Or.inr (Or.inl ⟨m, d1, d2, L1, L2, h1.up, h2.up, h3⟩))
    · exact Or.inr (Or.inr (Or.inr ⟨m, d1, d2, L1, L2, h1.up, h2.up, h3⟩))
theorem TstX.le {c : Nat → Int32} {n i j : Nat} {d : DD} {L : Nat} (h : TstX c n i j d L) : ∀ {m : Nat}, n ≤ m → TstX c m i j d L
  | 0, hm => by
    have : n = 0 := by omega
    rw [this] at h; exact h
  | m + 1, hm => by
    by_cases e : n = m + 1
    · rw [← e]; exact h
    · exact (h.le (m := m) (by omega)).up
theorem TstX.cong {c c' : Nat → Int32} : ∀ {n i j : Nat} {d : DD} {L : Nat}, (∀ k, i ≤ k → k < j → c' k = c k) → TstX c n i j d L → TstX c' n i j d L
  | 0, _, _, _, _, _, h => absurd h (by simp [TstX])
  | n + 1, i, j, d, L, e, h => by
    rcases h with ⟨m, j', d1, d2, L1, L2, op, h1, h2, rfl, h3, h4, h5, h6⟩ | ⟨j', d1, h1, rfl, h2, h3⟩ | ⟨m, d1, d2, L1, L2, h1, h2, h3, h4, h5⟩ | ⟨m, d1, d2, L1, L2, h1, h2, h3, h4, h5⟩
    · have l1 := h1.lt
      have l2 := h2.lt
      refine Or.inl ⟨m, j', d1, d2, L1, L2, op, h1.cong fun k a b => e k a (by omega), h2.cong fun k a b => e k (by omega) (by omega), rfl, h3, h4, ?_, h6⟩
      rw [e j' (by omega) (by omega)]
      exact h5
    · have l1 := h1.lt
      refine Or.inr (Or.inl ⟨j', d1, h1.cong fun k a b => e k a (by omega), rfl, ?_, h3⟩)
      rw [e j' (by omega) (by omega)]
      exact h2
    · have l1 := h1.lt
      have l2 := h2.lt
      refine Or.inr (Or.inr (Or.inl ⟨m, d1, d2, L1, L2, h1.cong fun k a b => e k a (by omega), h2.cong fun k a b => e k (by omega) b, ?_, ?_, h5⟩))
      · rw [e m (by omega) (by omega)]; exact h3
      · rw [e m (by omega) (by omega)]; exact h4
    · have l1 := h1.lt
      have l2 := h2.lt
      refine Or.inr (Or.inr (Or.inr ⟨m, d1, d2, L1, L2, h1.cong fun k a b => e k a (by omega), h2.cong fun k a b => e k (by omega) b, ?_, ?_, h5⟩))
      · rw [e m (by omega) (by omega)]; exact h3
      · rw [e m (by omega) (by omega)]; exact h4

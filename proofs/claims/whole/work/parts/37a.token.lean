/-! tokens: of bytes b, as numbers -/
def cls (x : Nat) : Nat := if 97 ≤ x ∧ x ≤ 122 then 1 else if 48 ≤ x ∧ x ≤ 57 then 2 else 3
def ndL (b : Nat → Nat) (c : Nat) : Nat → Nat → Nat
  | 0, i => i
  | m + 1, i => if cls (b i) = c then ndL b c m (i + 1) else i
def enT (b : Nat → Nat) (t i : Nat) : Nat := if cls (b i) = 3 then i + 1 else ndL b (cls (b i)) (t - (i + 1)) (i + 1)
def skL (b : Nat → Nat) : Nat → Nat → Nat
  | 0, i => i
  | m + 1, i => if b i = 32 then skL b m (i + 1) else i
def skT (b : Nat → Nat) (t i : Nat) : Nat := skL b (t - i) i
/-- where the k-th begins; t behind the last -/
def stT (b : Nat → Nat) (t : Nat) : Nat → Nat
  | 0 => skT b t 0
  | k + 1 => if stT b t k < t then skT b t (enT b t (stT b t k)) else t
theorem ndL_ok (b : Nat → Nat) (c : Nat) : ∀ m i, i ≤ ndL b c m i ∧ ndL b c m i ≤ i + m ∧ (∀ j, i ≤ j → j < ndL b c m i → cls (b j) = c) ∧ (ndL b c m i < i + m → cls (b (ndL b c m i)) ≠ c)
  | 0, i => ⟨Nat.le_refl _, Nat.le_refl _, fun j h1 h2 => by rw [ndL] at h2; omega, fun h => by rw [ndL] at h; omega⟩
  | m + 1, i => by
    rw [ndL]
    by_cases e : cls (b i) = c
    · rw [if_pos e]
      obtain ⟨a1, a2, a3, a4⟩ := ndL_ok b c m (i + 1)
      refine ⟨by omega, by omega, fun j h1 h2 => ?_, fun h => a4 (by omega)⟩
      by_cases ej : j = i
      · rw [ej]; exact e
      · exact a3 j (by omega) h2
    · rw [if_neg e]
      exact ⟨Nat.le_refl _, by omega, fun j h1 h2 => by omega, fun _ => e⟩
theorem skL_ok (b : Nat → Nat) : ∀ m i, i ≤ skL b m i ∧ skL b m i ≤ i + m ∧ (∀ j, i ≤ j → j < skL b m i → b j = 32) ∧ (skL b m i < i + m → b (skL b m i) ≠ 32)
  | 0, i => ⟨Nat.le_refl _, Nat.le_refl _, fun j h1 h2 => by rw [skL] at h2; omega, fun h => by rw [skL] at h; omega⟩
  | m + 1, i => by
    rw [skL]
    by_cases e : b i = 32
    · rw [if_pos e]
      obtain ⟨a1, a2, a3, a4⟩ := skL_ok b m (i + 1)
      refine ⟨by omega, by omega, fun j h1 h2 => ?_, fun h => a4 (by omega)⟩
      by_cases ej : j = i
      · rw [ej]; exact e
      · exact a3 j (by omega) h2
    · rw [if_neg e]
      exact ⟨Nat.le_refl _, by omega, fun j h1 h2 => by omega, fun _ => e⟩
theorem enT_ok {b : Nat → Nat} {t i : Nat} (hi : i < t) : i < enT b t i ∧ enT b t i ≤ t ∧ (∀ j, i ≤ j → j < enT b t i → cls (b j) = cls (b i)) ∧ (enT b t i < t → cls (b i) ≠ 3 → cls (b (enT b t i)) ≠ cls (b i)) := by
  unfold enT
  by_cases e : cls (b i) = 3
  · rw [if_pos e]
    refine ⟨by omega, by omega, fun j h1 h2 => ?_, fun _ h => absurd e h⟩
    have : j = i := by omega
    rw [this]
  · rw [if_neg e]
    obtain ⟨a1, a2, a3, a4⟩ := ndL_ok b (cls (b i)) (t - (i + 1)) (i + 1)
    refine ⟨by omega, by omega, fun j h1 h2 => ?_, fun h _ => a4 (by omega)⟩
    by_cases ej : j = i
    · rw [ej]
    · exact a3 j (by omega) h2
theorem skT_ok {b : Nat → Nat} {t i : Nat} (hi : i ≤ t) : i ≤ skT b t i ∧ skT b t i ≤ t ∧ (∀ j, i ≤ j → j < skT b t i → b j = 32) ∧ (skT b t i < t → b (skT b t i) ≠ 32) := by
  obtain ⟨a1, a2, a3, a4⟩ := skL_ok b (t - i) i
  exact ⟨a1, by unfold skT; omega, a3, fun h => a4 (by unfold skT at h; omega)⟩
theorem skT_t (b : Nat → Nat) (t : Nat) : skT b t t = t := by
  have := skT_ok (b := b) (Nat.le_refl t)
  omega
theorem stT_le (b : Nat → Nat) (t : Nat) : ∀ k, stT b t k ≤ t
  | 0 => (skT_ok (Nat.zero_le t)).2.1
  | k + 1 => by
    rw [stT]
    split
    · rename_i h
      exact (skT_ok (enT_ok h).2.1).2.1
    · exact Nat.le_refl t
theorem stT_nb {b : Nat → Nat} {t : Nat} : ∀ {k}, stT b t k < t → b (stT b t k) ≠ 32
  | 0, h => (skT_ok (Nat.zero_le t)).2.2.2 h
  | k + 1, h => by
    rw [stT] at h ⊢
    by_cases c : stT b t k < t
    · rw [if_pos c] at h ⊢
      exact (skT_ok (enT_ok c).2.1).2.2.2 h
    · rw [if_neg c] at h
      omega
theorem stT_s {b : Nat → Nat} {t k : Nat} (h : stT b t k < t) : stT b t (k + 1) = skT b t (enT b t (stT b t k)) := by
  rw [stT, if_pos h]
theorem stT_lt {b : Nat → Nat} {t k : Nat} (h : stT b t k < t) : stT b t k < stT b t (k + 1) := by
  rw [stT_s h]
  have a := enT_ok (b := b) h
  have := skT_ok (b := b) a.2.1
  omega
theorem stT_ge {b : Nat → Nat} {t : Nat} : ∀ {k}, (∀ j, j < k → stT b t j < t) → k ≤ stT b t k
  | 0, _ => Nat.zero_le _
  | k + 1, h => by
    have a := stT_ge (k := k) fun j hj => h j (by omega)
    have := stT_lt (h k (by omega))
    omega
def letL (b : Nat → Nat) (s e : Nat) : List Nat := (List.range (e - s)).map fun j => b (s + j)
theorem letL_len (b : Nat → Nat) (s e : Nat) : (letL b s e).length = e - s := by
  unfold letL
  rw [List.length_map, List.length_range]
theorem letL_get {b : Nat → Nat} {s e j : Nat} (h : j < e - s) : (letL b s e)[j]'(by rw [letL_len]; exact h) = b (s + j) := by
  unfold letL
  simp
theorem letL_iff {b : Nat → Nat} {s e : Nat} {l : List Nat} : letL b s e = l ↔ e - s = l.length ∧ ∀ j, j < l.length → b (s + j) = l.getD j 0 := by
  constructor
  · rintro rfl
    refine ⟨(letL_len b s e).symm, fun j hj => ?_⟩
    rw [letL_len] at hj
    rw [List.getD_eq_getElem?_getD, List.getElem?_eq_getElem (by rw [letL_len]; exact hj), letL_get hj]
    rfl
  · rintro ⟨h1, h2⟩
    refine List.ext_getElem (by rw [letL_len, h1]) fun j a1 a2 => ?_
    rw [letL_get (by rw [letL_len] at a1; exact a1), h2 j a2, List.getD_eq_getElem?_getD, List.getElem?_eq_getElem a2]
    rfl
theorem letL_s {b : Nat → Nat} {s e : Nat} (h : s ≤ e) : letL b s (e + 1) = letL b s e ++ [b e] := by
  unfold letL
  rw [show e + 1 - s = (e - s) + 1 by omega, List.range_succ, List.map_append, List.map_singleton, show s + (e - s) = e by omega]
theorem letL_0 (b : Nat → Nat) (s : Nat) : letL b s s = [] := by
  unfold letL
  rw [Nat.sub_self]
  rfl
def WLs : List (List Nat) := [[111, 114], [97, 110, 100], [110, 111, 116], [105, 102], [116, 105, 109, 101, 115], [98, 121], [116, 111], [115, 119, 97, 121, 115], [116, 97, 107, 101, 115], [98, 97, 114, 115], [109, 111, 118, 101], [100, 105, 118, 105, 100, 101], [102, 108, 121], [112, 97, 115, 115], [98, 105, 114, 100], [116, 114, 101, 101], [102, 97, 118, 111, 117, 114], [109, 97, 116, 116, 101, 114], [99, 108, 97, 117, 115, 101, 115], [114, 105, 99, 104], [99, 108, 111, 99, 107], [110, 105, 103, 104, 116], [109, 111, 111, 100], [100, 111, 110, 101], [108, 97, 116, 101, 115, 116], [112, 114, 101, 115, 101, 110, 116], [115, 116, 97, 110, 100, 115]]
theorem WLs_len : WLs.length = 27 := by decide
/-- which word it is: 27, none -/
def wix (l : List Nat) : Nat := WLs.idxOf l
def nuL (b : Nat → Nat) : Nat → Nat → Nat → Nat
  | 0, _, a => a
  | m + 1, i, a => nuL b m (i + 1) (min (a * 10 + (b i - 48)) 1001)
def kdT (b : Nat → Nat) (t s : Nat) : Nat := if t ≤ s then 285 else if cls (b s) = 3 then b s else if cls (b s) = 1 then 256 + wix (letL b s (enT b t s)) else 284
def nuT (b : Nat → Nat) (t s : Nat) : Nat := if t ≤ s then 0 else nuL b (enT b t s - s) s 0
theorem wix_le (l : List Nat) : wix l ≤ 27 := by
  have := List.idxOf_le_length (a := l) (l := WLs)
  rw [WLs_len] at this
  exact this
theorem WLs_nodup : ∀ i, i < 27 → wix (WLs.getD i []) = i := by decide +kernel
theorem wix_iff {l : List Nat} {k : Nat} (hk : k < 27) : wix l = k ↔ l = WLs.getD k [] := by
  constructor
  · intro h
    have hl : WLs.idxOf l < WLs.length := by
      show wix l < _
      rw [h, WLs_len]; exact hk
    have := List.getElem_idxOf hl
    rw [List.getD_eq_getElem?_getD, List.getElem?_eq_getElem (by rw [WLs_len]; exact hk)]
    show l = WLs[k]
    rw [← this]
    congr 1
  · rintro rfl
    exact WLs_nodup k hk
theorem nuL_le (b : Nat → Nat) : ∀ m i a, a ≤ 1001 → nuL b m i a ≤ 1001
  | 0, _, _, h => h
  | m + 1, i, a, _ => nuL_le b m (i + 1) _ (Nat.min_le_right _ _)

/-! reading: the fault's place is not touched but when it fails -/
def F18 (h h' : AH) : Prop := h'.2.1 80 19 = 0 → h.2.1 80 19 = 0 ∧ h'.2.1 80 18 = h.2.1 80 18
theorem F18.refl (h : AH) : F18 h h := fun e => ⟨e, rfl⟩
theorem F18.trans {h h1 h2 : AH} (a : F18 h h1) (b : F18 h1 h2) : F18 h h2 := fun e => ⟨(a (b e).1).1, (b e).2.trans (a (b e).1).2⟩
theorem F18.si {h : AH} {p k : Nat} {v : Int32} (c : p ≠ 80 ∨ k ≠ 18 ∧ k ≠ 19) : F18 h (stI h p k v) := by
  have a : ∀ j, j = 18 ∨ j = 19 → (stI h p k v).2.1 80 j = h.2.1 80 j := fun j hj => if_neg (by omega)
  intro e
  exact ⟨(a 19 (Or.inr rfl)).symm.trans e, a 18 (Or.inl rfl)⟩
def Fr18 {α : Type} (h : AH) (x : Option (α × AH)) : Prop := ∀ a h', x = some (a, h') → F18 h h'
theorem fr_ret {α : Type} (a : α) (h : AH) : Fr18 h (some (a, h)) := fun _ _ e => by
  injection e with e
  injection e with _ e
  rw [← e]
  exact F18.refl h
theorem fr_none {α : Type} {h : AH} : Fr18 h (none : Option (α × AH)) := fun _ _ e => by cases e
theorem fr_o {α β : Type} {h : AH} {x : Option β} {f : β → Option (α × AH)} (k : ∀ v, Fr18 h (f v)) : Fr18 h (x.bind f) := by
  intro a h' e
  cases x with
  | none => cases e
  | some v => exact k v a h' e
theorem fr_b {α β : Type} {h : AH} {x : Option (β × AH)} {f : β × AH → Option (α × AH)} (k : Fr18 h x) (k2 : ∀ v h1, Fr18 h1 (f (v, h1))) : Fr18 h (x.bind f) := by
  intro a h' e
  rcases x with _ | ⟨v, h1⟩
  · cases e
  · exact (k v h1 rfl).trans (k2 v h1 a h' e)
theorem fr_w {α : Type} {h : AH} {x : Option AH} {f : AH → Option (α × AH)} (k : ∀ h1, x = some h1 → F18 h h1) (k2 : ∀ h1, Fr18 h1 (f h1)) : Fr18 h (x.bind f) := by
  intro a h' e
  cases x with
  | none => cases e
  | some h1 => exact (k h1 rfl).trans (k2 h1 a h' e)
theorem fr_pI {α : Type} {h : AH} {p ci k : Nat} {v : Int32} {f : AH → Option (α × AH)} (hk : k ≠ 18 ∧ k ≠ 19) (k2 : ∀ h1, Fr18 h1 (f h1)) : Fr18 h ((pI S_1 h p ci k v).bind f) := fr_w (fun h1 e => by
  unfold pI at e
  obtain ⟨_, rfl⟩ := if_some e
  exact F18.si (Or.inr hk)) k2
theorem fr_pZ {α : Type} {h : AH} {p ci k : Nat} {v : Int32} {f : AH → Option (α × AH)} (hk : k ≠ 18 ∧ k ≠ 19) (k2 : ∀ h1, Fr18 h1 (f h1)) : Fr18 h ((pZ S_1 h p ci k v).bind f) := fr_w (fun h1 e => by
  unfold pZ at e
  obtain ⟨_, rfl⟩ := if_some e
  exact F18.si (Or.inr hk)) k2
theorem fr_pJ {α : Type} {h : AH} {p ci k : Nat} {v : Int64} {f : AH → Option (α × AH)} (k2 : ∀ h1, Fr18 h1 (f h1)) : Fr18 h ((pJ S_1 h p ci k v).bind f) := fr_w (fun h1 e => by
  unfold pJ at e
  obtain ⟨_, rfl⟩ := if_some e
  exact fun e => ⟨e, rfl⟩) k2
theorem fr_sI {α : Type} {h : AH} {p : Nat} {i v : Int32} {f : AH → Option (α × AH)} (k2 : ∀ h1, Fr18 h1 (f h1)) : Fr18 h ((sI S_1 h p i v).bind f) := fr_w (fun h1 e => by
  by_cases c : p = 80
  · subst c
    cases (show (none : Option AH) = some h1 from e)
  · unfold sI at e
    split at e
    · obtain ⟨_, rfl⟩ := if_none e
      exact F18.si (Or.inl c)
    · cases e) k2
theorem fr_ite {α : Type} {h : AH} {c : Prop} [Decidable c] {x y : Option (α × AH)} (a : Fr18 h x) (b : Fr18 h y) : Fr18 h (if c then x else y) := by
  by_cases z : c
  · rw [if_pos z]; exact a
  · rw [if_neg z]; exact b
theorem fr_lt {α β : Type} {h : AH} {e : β} {f : β → Option (α × AH)} (k : Fr18 h (f e)) : Fr18 h (lt e f) := k
theorem fr_X11_isWord : ∀ r0 l1 (h : AH), Fr18 h (f_X11_isWord S_1 r0 l1 h) := by
  intro r0 l1 h
  unfold f_X11_isWord
  repeat' first | with_reducible exact fr_ret _ _ | with_reducible exact fr_none | with_reducible refine fr_ite ?_ ?_ | (with_reducible refine fr_pI ?_ fun _ => ?_; · decide) | (with_reducible refine fr_pZ ?_ fun _ => ?_; · decide) | with_reducible refine fr_pJ fun _ => ?_ | with_reducible refine fr_sI fun _ => ?_ | with_reducible refine fr_lt ?_ | with_reducible refine fr_o fun _ => ?_
theorem fr_X11_readLaw_l4b {rc : Nat → Int32 → Int32 → AH → Option ((Nat × Int32) × AH)} (hrc : ∀ y0 y1 y2 (h : AH), Fr18 h (rc y0 y1 y2 h)) : ∀ r0 x1 x2 (h : AH), Fr18 h (f_X11_readLaw_l4b S_1 rc r0 x1 x2 h) := by
  intro r0 x1 x2 h
  unfold f_X11_readLaw_l4b
  repeat' first | with_reducible exact fr_ret _ _ | with_reducible exact fr_none | with_reducible refine fr_ite ?_ ?_ | (with_reducible refine fr_pI ?_ fun _ => ?_; · decide) | (with_reducible refine fr_pZ ?_ fun _ => ?_; · decide) | with_reducible refine fr_pJ fun _ => ?_ | with_reducible refine fr_sI fun _ => ?_ | with_reducible refine fr_lt ?_ | with_reducible exact hrc _ _ _ _ | (with_reducible refine fr_b (fr_X11_isWord _ _ _) ?_; rintro _ _; try dsimp only) | with_reducible exact fr_X11_isWord _ _ _ | (with_reducible refine fr_b (hrc _ _ _ _) ?_; rintro ⟨_, _⟩ _; try dsimp only) | with_reducible refine fr_o fun _ => ?_
theorem fr_X11_readLaw_l4 : ∀ (n : Nat) y0 y1 y2 (h : AH), Fr18 h (f_X11_readLaw_l4 S_1 n y0 y1 y2 h)
  | 0, _, _, _, _ => fr_none
  | n + 1, y0, y1, y2, h => fr_X11_readLaw_l4b (fr_X11_readLaw_l4 n) y0 y1 y2 h
theorem fr_X11_next_l8b {rc : Nat → AH → Option (Nat × AH)} (hrc : ∀ y0 (h : AH), Fr18 h (rc y0 h)) : ∀ r0 (h : AH), Fr18 h (f_X11_next_l8b S_1 rc r0 h) := by
  intro r0 h
  unfold f_X11_next_l8b
  repeat' first | with_reducible exact fr_ret _ _ | with_reducible exact fr_none | with_reducible refine fr_ite ?_ ?_ | (with_reducible refine fr_pI ?_ fun _ => ?_; · decide) | (with_reducible refine fr_pZ ?_ fun _ => ?_; · decide) | with_reducible refine fr_pJ fun _ => ?_ | with_reducible refine fr_sI fun _ => ?_ | with_reducible refine fr_lt ?_ | with_reducible exact hrc _ _ | (with_reducible refine fr_b (hrc _ _) ?_; rintro _ _; try dsimp only) | with_reducible refine fr_o fun _ => ?_
theorem fr_X11_next_l8 : ∀ (n : Nat) y0 (h : AH), Fr18 h (f_X11_next_l8 S_1 n y0 h)
  | 0, _, _ => fr_none
  | n + 1, y0, h => fr_X11_next_l8b (fr_X11_next_l8 n) y0 h
theorem fr_X11_isSmall : ∀ x0 (h : AH), Fr18 h (f_X11_isSmall S_1 x0 h) := by
  intro x0 h
  unfold f_X11_isSmall
  repeat' first | with_reducible exact fr_ret _ _ | with_reducible exact fr_none | with_reducible refine fr_ite ?_ ?_ | (with_reducible refine fr_pI ?_ fun _ => ?_; · decide) | (with_reducible refine fr_pZ ?_ fun _ => ?_; · decide) | with_reducible refine fr_pJ fun _ => ?_ | with_reducible refine fr_sI fun _ => ?_ | with_reducible refine fr_lt ?_ | with_reducible refine fr_o fun _ => ?_
theorem fr_X11_next_l149b {rc : Nat → AH → Option (Nat × AH)} (hrc : ∀ y0 (h : AH), Fr18 h (rc y0 h)) : ∀ r0 (h : AH), Fr18 h (f_X11_next_l149b S_1 rc r0 h) := by
  intro r0 h
  unfold f_X11_next_l149b
  repeat' first | with_reducible exact fr_ret _ _ | with_reducible exact fr_none | with_reducible refine fr_ite ?_ ?_ | (with_reducible refine fr_pI ?_ fun _ => ?_; · decide) | (with_reducible refine fr_pZ ?_ fun _ => ?_; · decide) | with_reducible refine fr_pJ fun _ => ?_ | with_reducible refine fr_sI fun _ => ?_ | with_reducible refine fr_lt ?_ | with_reducible exact hrc _ _ | (with_reducible refine fr_b (fr_X11_isSmall _ _) ?_; rintro _ _; try dsimp only) | with_reducible exact fr_X11_isSmall _ _ | (with_reducible refine fr_b (hrc _ _) ?_; rintro _ _; try dsimp only) | with_reducible refine fr_o fun _ => ?_
theorem fr_X11_next_l149 : ∀ (n : Nat) y0 (h : AH), Fr18 h (f_X11_next_l149 S_1 n y0 h)
  | 0, _, _ => fr_none
  | n + 1, y0, h => fr_X11_next_l149b (fr_X11_next_l149 n) y0 h
theorem fr_X11_isDigit : ∀ x0 (h : AH), Fr18 h (f_X11_isDigit S_1 x0 h) := by
  intro x0 h
  unfold f_X11_isDigit
  repeat' first | with_reducible exact fr_ret _ _ | with_reducible exact fr_none | with_reducible refine fr_ite ?_ ?_ | (with_reducible refine fr_pI ?_ fun _ => ?_; · decide) | (with_reducible refine fr_pZ ?_ fun _ => ?_; · decide) | with_reducible refine fr_pJ fun _ => ?_ | with_reducible refine fr_sI fun _ => ?_ | with_reducible refine fr_lt ?_ | with_reducible refine fr_o fun _ => ?_
theorem fr_X11_next_l243b {rc : Nat → AH → Option (Unit × AH)} (hrc : ∀ y0 (h : AH), Fr18 h (rc y0 h)) : ∀ r0 (h : AH), Fr18 h (f_X11_next_l243b S_1 rc r0 h) := by
  intro r0 h
  unfold f_X11_next_l243b
  repeat' first | with_reducible exact fr_ret _ _ | with_reducible exact fr_none | with_reducible refine fr_ite ?_ ?_ | (with_reducible refine fr_pI ?_ fun _ => ?_; · decide) | (with_reducible refine fr_pZ ?_ fun _ => ?_; · decide) | with_reducible refine fr_pJ fun _ => ?_ | with_reducible refine fr_sI fun _ => ?_ | with_reducible refine fr_lt ?_ | with_reducible exact hrc _ _ | (with_reducible refine fr_b (fr_X11_isDigit _ _) ?_; rintro _ _; try dsimp only) | with_reducible exact fr_X11_isDigit _ _ | (with_reducible refine fr_b (hrc _ _) ?_; rintro ⟨⟩ _; try dsimp only) | with_reducible refine fr_o fun _ => ?_
theorem fr_X11_next_l243 : ∀ (n : Nat) y0 (h : AH), Fr18 h (f_X11_next_l243 S_1 n y0 h)
  | 0, _, _ => fr_none
  | n + 1, y0, h => fr_X11_next_l243b (fr_X11_next_l243 n) y0 h
theorem fr_X11_next_j114 : ∀ r0 sr0 sx1 (h : AH), Fr18 h (f_X11_next_j114 S_1 r0 sr0 sx1 h) := by
  intro r0 sr0 sx1 h
  unfold f_X11_next_j114
  repeat' first | with_reducible exact fr_ret _ _ | with_reducible exact fr_none | with_reducible refine fr_ite ?_ ?_ | (with_reducible refine fr_pI ?_ fun _ => ?_; · decide) | (with_reducible refine fr_pZ ?_ fun _ => ?_; · decide) | with_reducible refine fr_pJ fun _ => ?_ | with_reducible refine fr_sI fun _ => ?_ | with_reducible refine fr_lt ?_ | (with_reducible refine fr_b (fr_X11_next_l149 _ _ _) ?_; rintro _ _; try dsimp only) | with_reducible exact fr_X11_next_l149 _ _ _ | (with_reducible refine fr_b (fr_X11_next_l243 _ _ _) ?_; rintro ⟨⟩ _; try dsimp only) | with_reducible exact fr_X11_next_l243 _ _ _ | with_reducible refine fr_o fun _ => ?_
theorem fr_X11_next_j46 : ∀ r0 (h : AH), Fr18 h (f_X11_next_j46 S_1 r0 h) := by
  intro r0 h
  unfold f_X11_next_j46
  repeat' first | with_reducible exact fr_ret _ _ | with_reducible exact fr_none | with_reducible refine fr_ite ?_ ?_ | (with_reducible refine fr_pI ?_ fun _ => ?_; · decide) | (with_reducible refine fr_pZ ?_ fun _ => ?_; · decide) | with_reducible refine fr_pJ fun _ => ?_ | with_reducible refine fr_sI fun _ => ?_ | with_reducible refine fr_lt ?_ | (with_reducible refine fr_b (fr_X11_next_j114 _ _ _ _) ?_; rintro ⟨⟩ _; try dsimp only) | with_reducible exact fr_X11_next_j114 _ _ _ _ | (with_reducible refine fr_b (fr_X11_isSmall _ _) ?_; rintro _ _; try dsimp only) | with_reducible exact fr_X11_isSmall _ _ | (with_reducible refine fr_b (fr_X11_isDigit _ _) ?_; rintro _ _; try dsimp only) | with_reducible exact fr_X11_isDigit _ _ | with_reducible refine fr_o fun _ => ?_
theorem fr_X11_next : ∀ r0 (h : AH), Fr18 h (f_X11_next S_1 r0 h) := by
  intro r0 h
  unfold f_X11_next
  repeat' first | with_reducible exact fr_ret _ _ | with_reducible exact fr_none | with_reducible refine fr_ite ?_ ?_ | (with_reducible refine fr_pI ?_ fun _ => ?_; · decide) | (with_reducible refine fr_pZ ?_ fun _ => ?_; · decide) | with_reducible refine fr_pJ fun _ => ?_ | with_reducible refine fr_sI fun _ => ?_ | with_reducible refine fr_lt ?_ | (with_reducible refine fr_b (fr_X11_next_l8 _ _ _) ?_; rintro _ _; try dsimp only) | with_reducible exact fr_X11_next_l8 _ _ _ | (with_reducible refine fr_b (fr_X11_next_j46 _ _) ?_; rintro ⟨⟩ _; try dsimp only) | with_reducible exact fr_X11_next_j46 _ _ | with_reducible refine fr_o fun _ => ?_
theorem fr_X11_must : ∀ (r0 : Nat) (x1 : Int32) (h : AH), Fr18 h (f_X11_must S_1 r0 x1 h) := by
  intro r0 x1 h
  unfold f_X11_must
  have nx : ∀ g : AH, Fr18 g ((ckO S_1 g r0 11).bind fun _ => (f_X11_next S_1 r0 g).bind fun z => match z with
      | (_, h_15) => some ((), h_15)) := fun g => fr_o fun _ => fr_b (fr_X11_next _ _) fun v h1 => fr_ret _ _
  refine fr_o fun v => ?_
  split
  · split
    · by_cases c : r0 = 80
      · subst c
        rw [bs_ (show pZ S_1 h 80 11 19 (1 : Int32) = some (stI h 80 19 1) from rfl), bs_ (gi80 _ 14), bs_ (pi80 _ 18 _), bs_ (gi80 _ 19), show ∀ x : Int32, (stI (stI h 80 19 1) 80 18 x).2.1 80 19 = 1 from fun x => (ri_k (by decide)).trans (stI_s _ _ _ _), if_neg (by decide)]
        intro a h' e
        injection e with e
        injection e with _ e
        rw [← e]
        intro z
        rw [show ∀ x : Int32, (stI (stI h 80 19 1) 80 18 x).2.1 80 19 = 1 from fun x => (ri_k (by decide)).trans (stI_s _ _ _ _)] at z
        exact absurd z (by decide)
      · refine fr_w (fun h1 e => ?_) fun h1 => fr_o fun v => fr_w (fun h2 e => ?_) fun h2 => fr_o fun v => ?_
        · unfold pZ at e
          obtain ⟨_, rfl⟩ := if_some e
          exact F18.si (Or.inl c)
        · unfold pI at e
          obtain ⟨_, rfl⟩ := if_some e
          exact F18.si (Or.inl c)
        · split
          · exact nx _
          · exact fr_ret _ _
    · refine fr_o fun v => ?_
      split
      · exact nx _
      · exact fr_ret _ _
  · refine fr_o fun v => ?_
    split
    · exact nx _
    · exact fr_ret _ _
theorem fr_X11_readLaw_l75b {rc : Nat → Int32 → Int32 → Int32 → AH → Option ((Nat × Int32 × Int32) × AH)} (hrc : ∀ y0 y1 y2 y3 (h : AH), Fr18 h (rc y0 y1 y2 y3 h)) : ∀ r0 x1 x2 x3 (h : AH), Fr18 h (f_X11_readLaw_l75b S_1 rc r0 x1 x2 x3 h) := by
  intro r0 x1 x2 x3 h
  unfold f_X11_readLaw_l75b
  repeat' first | with_reducible exact fr_ret _ _ | with_reducible exact fr_none | with_reducible refine fr_ite ?_ ?_ | (with_reducible refine fr_pI ?_ fun _ => ?_; · decide) | (with_reducible refine fr_pZ ?_ fun _ => ?_; · decide) | with_reducible refine fr_pJ fun _ => ?_ | with_reducible refine fr_sI fun _ => ?_ | with_reducible refine fr_lt ?_ | with_reducible exact hrc _ _ _ _ _ | (with_reducible refine fr_b (hrc _ _ _ _ _) ?_; rintro ⟨_, _, _⟩ _; try dsimp only) | with_reducible refine fr_o fun _ => ?_
theorem fr_X11_readLaw_l75 : ∀ (n : Nat) y0 y1 y2 y3 (h : AH), Fr18 h (f_X11_readLaw_l75 S_1 n y0 y1 y2 y3 h)
  | 0, _, _, _, _, _ => fr_none
  | n + 1, y0, y1, y2, y3, h => fr_X11_readLaw_l75b (fr_X11_readLaw_l75 n) y0 y1 y2 y3 h
theorem fr_X11_isSign : ∀ r0 x1 (h : AH), Fr18 h (f_X11_isSign S_1 r0 x1 h) := by
  intro r0 x1 h
  unfold f_X11_isSign
  repeat' first | with_reducible exact fr_ret _ _ | with_reducible exact fr_none | with_reducible refine fr_ite ?_ ?_ | (with_reducible refine fr_pI ?_ fun _ => ?_; · decide) | (with_reducible refine fr_pZ ?_ fun _ => ?_; · decide) | with_reducible refine fr_pJ fun _ => ?_ | with_reducible refine fr_sI fun _ => ?_ | with_reducible refine fr_lt ?_ | with_reducible refine fr_o fun _ => ?_
theorem fr_X11_partAt_l4b {rc : Nat → Int32 → Int32 → AH → Option (Int32 × AH)} (hrc : ∀ y0 y1 y2 (h : AH), Fr18 h (rc y0 y1 y2 h)) : ∀ r0 x1 x2 (h : AH), Fr18 h (f_X11_partAt_l4b S_1 rc r0 x1 x2 h) := by
  intro r0 x1 x2 h
  unfold f_X11_partAt_l4b
  repeat' first | with_reducible exact fr_ret _ _ | with_reducible exact fr_none | with_reducible refine fr_ite ?_ ?_ | (with_reducible refine fr_pI ?_ fun _ => ?_; · decide) | (with_reducible refine fr_pZ ?_ fun _ => ?_; · decide) | with_reducible refine fr_pJ fun _ => ?_ | with_reducible refine fr_sI fun _ => ?_ | with_reducible refine fr_lt ?_ | with_reducible exact hrc _ _ _ _ | (with_reducible refine fr_b (fr_X11_isWord _ _ _) ?_; rintro _ _; try dsimp only) | with_reducible exact fr_X11_isWord _ _ _ | (with_reducible refine fr_b (hrc _ _ _ _) ?_; rintro _ _; try dsimp only) | with_reducible refine fr_o fun _ => ?_
theorem fr_X11_partAt_l4 : ∀ (n : Nat) y0 y1 y2 (h : AH), Fr18 h (f_X11_partAt_l4 S_1 n y0 y1 y2 h)
  | 0, _, _, _, _ => fr_none
  | n + 1, y0, y1, y2, h => fr_X11_partAt_l4b (fr_X11_partAt_l4 n) y0 y1 y2 h
theorem fr_X11_partAt : ∀ r0 (h : AH), Fr18 h (f_X11_partAt S_1 r0 h) := by
  intro r0 h
  unfold f_X11_partAt
  repeat' first | with_reducible exact fr_ret _ _ | with_reducible exact fr_none | with_reducible refine fr_ite ?_ ?_ | (with_reducible refine fr_pI ?_ fun _ => ?_; · decide) | (with_reducible refine fr_pZ ?_ fun _ => ?_; · decide) | with_reducible refine fr_pJ fun _ => ?_ | with_reducible refine fr_sI fun _ => ?_ | with_reducible refine fr_lt ?_ | (with_reducible refine fr_b (fr_X11_partAt_l4 _ _ _ _ _) ?_; rintro _ _; try dsimp only) | with_reducible exact fr_X11_partAt_l4 _ _ _ _ _ | with_reducible refine fr_o fun _ => ?_
theorem fr_X11_emit : ∀ r0 x1 x2 (h : AH), Fr18 h (f_X11_emit S_1 r0 x1 x2 h) := by
  intro r0 x1 x2 h
  unfold f_X11_emit
  repeat' first | with_reducible exact fr_ret _ _ | with_reducible exact fr_none | with_reducible refine fr_ite ?_ ?_ | (with_reducible refine fr_pI ?_ fun _ => ?_; · decide) | (with_reducible refine fr_pZ ?_ fun _ => ?_; · decide) | with_reducible refine fr_pJ fun _ => ?_ | with_reducible refine fr_sI fun _ => ?_ | with_reducible refine fr_lt ?_ | with_reducible refine fr_o fun _ => ?_
theorem fr_X11_leaf_j19 : ∀ r0 x2 x3 sr0 sx1 (h : AH), Fr18 h (f_X11_leaf_j19 S_1 r0 x2 x3 sr0 sx1 h) := by
  intro r0 x2 x3 sr0 sx1 h
  unfold f_X11_leaf_j19
  repeat' first | with_reducible exact fr_ret _ _ | with_reducible exact fr_none | with_reducible refine fr_ite ?_ ?_ | (with_reducible refine fr_pI ?_ fun _ => ?_; · decide) | (with_reducible refine fr_pZ ?_ fun _ => ?_; · decide) | with_reducible refine fr_pJ fun _ => ?_ | with_reducible refine fr_sI fun _ => ?_ | with_reducible refine fr_lt ?_ | (with_reducible refine fr_b (fr_X11_must _ _ _) ?_; rintro ⟨⟩ _; try dsimp only) | with_reducible exact fr_X11_must _ _ _ | (with_reducible refine fr_b (fr_X11_emit _ _ _ _) ?_; rintro ⟨⟩ _; try dsimp only) | with_reducible exact fr_X11_emit _ _ _ _ | with_reducible refine fr_o fun _ => ?_
theorem fr_X11_leaf_j18 : ∀ r0 x2 x3 sr0 (h : AH), Fr18 h (f_X11_leaf_j18 S_1 r0 x2 x3 sr0 h) := by
  intro r0 x2 x3 sr0 h
  unfold f_X11_leaf_j18
  repeat' first | with_reducible exact fr_ret _ _ | with_reducible exact fr_none | with_reducible refine fr_ite ?_ ?_ | (with_reducible refine fr_pI ?_ fun _ => ?_; · decide) | (with_reducible refine fr_pZ ?_ fun _ => ?_; · decide) | with_reducible refine fr_pJ fun _ => ?_ | with_reducible refine fr_sI fun _ => ?_ | with_reducible refine fr_lt ?_ | (with_reducible refine fr_b (fr_X11_leaf_j19 _ _ _ _ _ _) ?_; rintro ⟨⟩ _; try dsimp only) | with_reducible exact fr_X11_leaf_j19 _ _ _ _ _ _ | with_reducible refine fr_o fun _ => ?_
theorem fr_X11_leaf : ∀ r0 x1 x2 x3 (h : AH), Fr18 h (f_X11_leaf S_1 r0 x1 x2 x3 h) := by
  intro r0 x1 x2 x3 h
  unfold f_X11_leaf
  repeat' first | with_reducible exact fr_ret _ _ | with_reducible exact fr_none | with_reducible refine fr_ite ?_ ?_ | (with_reducible refine fr_pI ?_ fun _ => ?_; · decide) | (with_reducible refine fr_pZ ?_ fun _ => ?_; · decide) | with_reducible refine fr_pJ fun _ => ?_ | with_reducible refine fr_sI fun _ => ?_ | with_reducible refine fr_lt ?_ | (with_reducible refine fr_b (fr_X11_leaf_j18 _ _ _ _ _) ?_; rintro ⟨⟩ _; try dsimp only) | with_reducible exact fr_X11_leaf_j18 _ _ _ _ _ | (with_reducible refine fr_b (fr_X11_leaf_j19 _ _ _ _ _ _) ?_; rintro ⟨⟩ _; try dsimp only) | with_reducible exact fr_X11_leaf_j19 _ _ _ _ _ _ | with_reducible refine fr_o fun _ => ?_
theorem fr_X11_in : ∀ l0 l2 l4 (h : AH), Fr18 h (f_X11_in S_1 l0 l2 l4 h) := by
  intro l0 l2 l4 h
  unfold f_X11_in
  repeat' first | with_reducible exact fr_ret _ _ | with_reducible exact fr_none | with_reducible refine fr_ite ?_ ?_ | (with_reducible refine fr_pI ?_ fun _ => ?_; · decide) | (with_reducible refine fr_pZ ?_ fun _ => ?_; · decide) | with_reducible refine fr_pJ fun _ => ?_ | with_reducible refine fr_sI fun _ => ?_ | with_reducible refine fr_lt ?_ | with_reducible refine fr_o fun _ => ?_
theorem fr_X11_number : ∀ r0 l1 l3 (h : AH), Fr18 h (f_X11_number S_1 r0 l1 l3 h) := by
  intro r0 l1 l3 h
  unfold f_X11_number
  repeat' first | with_reducible exact fr_ret _ _ | with_reducible exact fr_none | with_reducible refine fr_ite ?_ ?_ | (with_reducible refine fr_pI ?_ fun _ => ?_; · decide) | (with_reducible refine fr_pZ ?_ fun _ => ?_; · decide) | with_reducible refine fr_pJ fun _ => ?_ | with_reducible refine fr_sI fun _ => ?_ | with_reducible refine fr_lt ?_ | (with_reducible refine fr_b (fr_X11_in _ _ _ _) ?_; rintro _ _; try dsimp only) | with_reducible exact fr_X11_in _ _ _ _ | (with_reducible refine fr_b (fr_X11_must _ _ _) ?_; rintro ⟨⟩ _; try dsimp only) | with_reducible exact fr_X11_must _ _ _ | with_reducible refine fr_o fun _ => ?_
theorem fr_X11_readPart_j99 : ∀ r0 x1 sr0 sx1 sx2 sx3 (h : AH), Fr18 h (f_X11_readPart_j99 S_1 r0 x1 sr0 sx1 sx2 sx3 h) := by
  intro r0 x1 sr0 sx1 sx2 sx3 h
  unfold f_X11_readPart_j99
  repeat' first | with_reducible exact fr_ret _ _ | with_reducible exact fr_none | with_reducible refine fr_ite ?_ ?_ | (with_reducible refine fr_pI ?_ fun _ => ?_; · decide) | (with_reducible refine fr_pZ ?_ fun _ => ?_; · decide) | with_reducible refine fr_pJ fun _ => ?_ | with_reducible refine fr_sI fun _ => ?_ | with_reducible refine fr_lt ?_ | (with_reducible refine fr_b (fr_X11_leaf _ _ _ _ _) ?_; rintro ⟨⟩ _; try dsimp only) | with_reducible exact fr_X11_leaf _ _ _ _ _ | (with_reducible refine fr_b (fr_X11_number _ _ _ _) ?_; rintro _ _; try dsimp only) | with_reducible exact fr_X11_number _ _ _ _ | with_reducible refine fr_o fun _ => ?_
theorem fr_X11_readPart_j86 : ∀ r0 x1 x2 sr0 sx1 sx2 (h : AH), Fr18 h (f_X11_readPart_j86 S_1 r0 x1 x2 sr0 sx1 sx2 h) := by
  intro r0 x1 x2 sr0 sx1 sx2 h
  unfold f_X11_readPart_j86
  repeat' first | with_reducible exact fr_ret _ _ | with_reducible exact fr_none | with_reducible refine fr_ite ?_ ?_ | (with_reducible refine fr_pI ?_ fun _ => ?_; · decide) | (with_reducible refine fr_pZ ?_ fun _ => ?_; · decide) | with_reducible refine fr_pJ fun _ => ?_ | with_reducible refine fr_sI fun _ => ?_ | with_reducible refine fr_lt ?_ | (with_reducible refine fr_b (fr_X11_readPart_j99 _ _ _ _ _ _ _) ?_; rintro _ _; try dsimp only) | with_reducible exact fr_X11_readPart_j99 _ _ _ _ _ _ _ | with_reducible refine fr_o fun _ => ?_
theorem fr_X11_readPart_j76 : ∀ r0 x1 x2 sr0 sx1 (h : AH), Fr18 h (f_X11_readPart_j76 S_1 r0 x1 x2 sr0 sx1 h) := by
  intro r0 x1 x2 sr0 sx1 h
  unfold f_X11_readPart_j76
  repeat' first | with_reducible exact fr_ret _ _ | with_reducible exact fr_none | with_reducible refine fr_ite ?_ ?_ | (with_reducible refine fr_pI ?_ fun _ => ?_; · decide) | (with_reducible refine fr_pZ ?_ fun _ => ?_; · decide) | with_reducible refine fr_pJ fun _ => ?_ | with_reducible refine fr_sI fun _ => ?_ | with_reducible refine fr_lt ?_ | (with_reducible refine fr_b (fr_X11_readPart_j86 _ _ _ _ _ _ _) ?_; rintro _ _; try dsimp only) | with_reducible exact fr_X11_readPart_j86 _ _ _ _ _ _ _ | with_reducible refine fr_o fun _ => ?_
theorem fr_X11_readPart_j71 : ∀ r0 x1 x2 sr0 (h : AH), Fr18 h (f_X11_readPart_j71 S_1 r0 x1 x2 sr0 h) := by
  intro r0 x1 x2 sr0 h
  unfold f_X11_readPart_j71
  repeat' first | with_reducible exact fr_ret _ _ | with_reducible exact fr_none | with_reducible refine fr_ite ?_ ?_ | (with_reducible refine fr_pI ?_ fun _ => ?_; · decide) | (with_reducible refine fr_pZ ?_ fun _ => ?_; · decide) | with_reducible refine fr_pJ fun _ => ?_ | with_reducible refine fr_sI fun _ => ?_ | with_reducible refine fr_lt ?_ | (with_reducible refine fr_b (fr_X11_readPart_j76 _ _ _ _ _ _) ?_; rintro _ _; try dsimp only) | with_reducible exact fr_X11_readPart_j76 _ _ _ _ _ _ | with_reducible refine fr_o fun _ => ?_
theorem fr_X11_readPart_j60 : ∀ r0 x1 sx0 (h : AH), Fr18 h (f_X11_readPart_j60 S_1 r0 x1 sx0 h) := by
  intro r0 x1 sx0 h
  unfold f_X11_readPart_j60
  repeat' first | with_reducible exact fr_ret _ _ | with_reducible exact fr_none | with_reducible refine fr_ite ?_ ?_ | (with_reducible refine fr_pI ?_ fun _ => ?_; · decide) | (with_reducible refine fr_pZ ?_ fun _ => ?_; · decide) | with_reducible refine fr_pJ fun _ => ?_ | with_reducible refine fr_sI fun _ => ?_ | with_reducible refine fr_lt ?_ | (with_reducible refine fr_b (fr_X11_readPart_j76 _ _ _ _ _ _) ?_; rintro _ _; try dsimp only) | with_reducible exact fr_X11_readPart_j76 _ _ _ _ _ _ | (with_reducible refine fr_b (fr_X11_readPart_j71 _ _ _ _ _) ?_; rintro _ _; try dsimp only) | with_reducible exact fr_X11_readPart_j71 _ _ _ _ _ | with_reducible refine fr_o fun _ => ?_
theorem fr_X11_readPart_j59 : ∀ r0 x1 (h : AH), Fr18 h (f_X11_readPart_j59 S_1 r0 x1 h) := by
  intro r0 x1 h
  unfold f_X11_readPart_j59
  repeat' first | with_reducible exact fr_ret _ _ | with_reducible exact fr_none | with_reducible refine fr_ite ?_ ?_ | (with_reducible refine fr_pI ?_ fun _ => ?_; · decide) | (with_reducible refine fr_pZ ?_ fun _ => ?_; · decide) | with_reducible refine fr_pJ fun _ => ?_ | with_reducible refine fr_sI fun _ => ?_ | with_reducible refine fr_lt ?_ | (with_reducible refine fr_b (fr_X11_readPart_j60 _ _ _ _) ?_; rintro _ _; try dsimp only) | with_reducible exact fr_X11_readPart_j60 _ _ _ _ | with_reducible refine fr_o fun _ => ?_
theorem fr_X11_readPart_j35 : ∀ r0 sx0 (h : AH), Fr18 h (f_X11_readPart_j35 S_1 r0 sx0 h) := by
  intro r0 sx0 h
  unfold f_X11_readPart_j35
  repeat' first | with_reducible exact fr_ret _ _ | with_reducible exact fr_none | with_reducible refine fr_ite ?_ ?_ | (with_reducible refine fr_pI ?_ fun _ => ?_; · decide) | (with_reducible refine fr_pZ ?_ fun _ => ?_; · decide) | with_reducible refine fr_pJ fun _ => ?_ | with_reducible refine fr_sI fun _ => ?_ | with_reducible refine fr_lt ?_ | (with_reducible refine fr_b (fr_X11_readPart_j59 _ _ _) ?_; rintro _ _; try dsimp only) | with_reducible exact fr_X11_readPart_j59 _ _ _ | (with_reducible refine fr_b (fr_X11_readPart_j60 _ _ _ _) ?_; rintro _ _; try dsimp only) | with_reducible exact fr_X11_readPart_j60 _ _ _ _ | with_reducible refine fr_o fun _ => ?_
theorem fr_X11_orderPartAt_l4b {rc : Nat → Int32 → Int32 → AH → Option (Int32 × AH)} (hrc : ∀ y0 y1 y2 (h : AH), Fr18 h (rc y0 y1 y2 h)) : ∀ r0 x1 x2 (h : AH), Fr18 h (f_X11_orderPartAt_l4b S_1 rc r0 x1 x2 h) := by
  intro r0 x1 x2 h
  unfold f_X11_orderPartAt_l4b
  repeat' first | with_reducible exact fr_ret _ _ | with_reducible exact fr_none | with_reducible refine fr_ite ?_ ?_ | (with_reducible refine fr_pI ?_ fun _ => ?_; · decide) | (with_reducible refine fr_pZ ?_ fun _ => ?_; · decide) | with_reducible refine fr_pJ fun _ => ?_ | with_reducible refine fr_sI fun _ => ?_ | with_reducible refine fr_lt ?_ | with_reducible exact hrc _ _ _ _ | (with_reducible refine fr_b (fr_X11_isWord _ _ _) ?_; rintro _ _; try dsimp only) | with_reducible exact fr_X11_isWord _ _ _ | (with_reducible refine fr_b (hrc _ _ _ _) ?_; rintro _ _; try dsimp only) | with_reducible refine fr_o fun _ => ?_
theorem fr_X11_orderPartAt_l4 : ∀ (n : Nat) y0 y1 y2 (h : AH), Fr18 h (f_X11_orderPartAt_l4 S_1 n y0 y1 y2 h)
  | 0, _, _, _, _ => fr_none
  | n + 1, y0, y1, y2, h => fr_X11_orderPartAt_l4b (fr_X11_orderPartAt_l4 n) y0 y1 y2 h
theorem fr_X11_orderPartAt : ∀ r0 (h : AH), Fr18 h (f_X11_orderPartAt S_1 r0 h) := by
  intro r0 h
  unfold f_X11_orderPartAt
  repeat' first | with_reducible exact fr_ret _ _ | with_reducible exact fr_none | with_reducible refine fr_ite ?_ ?_ | (with_reducible refine fr_pI ?_ fun _ => ?_; · decide) | (with_reducible refine fr_pZ ?_ fun _ => ?_; · decide) | with_reducible refine fr_pJ fun _ => ?_ | with_reducible refine fr_sI fun _ => ?_ | with_reducible refine fr_lt ?_ | (with_reducible refine fr_b (fr_X11_orderPartAt_l4 _ _ _ _ _) ?_; rintro _ _; try dsimp only) | with_reducible exact fr_X11_orderPartAt_l4 _ _ _ _ _ | with_reducible refine fr_o fun _ => ?_
theorem fr_X11_push : ∀ r0 x1 x2 (h : AH), Fr18 h (f_X11_push S_1 r0 x1 x2 h) := by
  intro r0 x1 x2 h
  unfold f_X11_push
  repeat' first | with_reducible exact fr_ret _ _ | with_reducible exact fr_none | with_reducible refine fr_ite ?_ ?_ | (with_reducible refine fr_pI ?_ fun _ => ?_; · decide) | (with_reducible refine fr_pZ ?_ fun _ => ?_; · decide) | with_reducible refine fr_pJ fun _ => ?_ | with_reducible refine fr_sI fun _ => ?_ | with_reducible refine fr_lt ?_ | with_reducible refine fr_o fun _ => ?_
theorem fr_X11_openBracket_j15 : ∀ r0 x1 sr0 sx1 (h : AH), Fr18 h (f_X11_openBracket_j15 S_1 r0 x1 sr0 sx1 h) := by
  intro r0 x1 sr0 sx1 h
  unfold f_X11_openBracket_j15
  repeat' first | with_reducible exact fr_ret _ _ | with_reducible exact fr_none | with_reducible refine fr_ite ?_ ?_ | (with_reducible refine fr_pI ?_ fun _ => ?_; · decide) | (with_reducible refine fr_pZ ?_ fun _ => ?_; · decide) | with_reducible refine fr_pJ fun _ => ?_ | with_reducible refine fr_sI fun _ => ?_ | with_reducible refine fr_lt ?_ | (with_reducible refine fr_b (fr_X11_must _ _ _) ?_; rintro ⟨⟩ _; try dsimp only) | with_reducible exact fr_X11_must _ _ _ | (with_reducible refine fr_b (fr_X11_push _ _ _ _) ?_; rintro ⟨⟩ _; try dsimp only) | with_reducible exact fr_X11_push _ _ _ _ | with_reducible refine fr_o fun _ => ?_
theorem fr_X11_openBracket : ∀ r0 x1 (h : AH), Fr18 h (f_X11_openBracket S_1 r0 x1 h) := by
  intro r0 x1 h
  unfold f_X11_openBracket
  repeat' first | with_reducible exact fr_ret _ _ | with_reducible exact fr_none | with_reducible refine fr_ite ?_ ?_ | (with_reducible refine fr_pI ?_ fun _ => ?_; · decide) | (with_reducible refine fr_pZ ?_ fun _ => ?_; · decide) | with_reducible refine fr_pJ fun _ => ?_ | with_reducible refine fr_sI fun _ => ?_ | with_reducible refine fr_lt ?_ | (with_reducible refine fr_b (fr_X11_openBracket_j15 _ _ _ _ _) ?_; rintro ⟨⟩ _; try dsimp only) | with_reducible exact fr_X11_openBracket_j15 _ _ _ _ _ | with_reducible refine fr_o fun _ => ?_
theorem fr_X11_readPart : ∀ r0 (h : AH), Fr18 h (f_X11_readPart S_1 r0 h) := by
  intro r0 h
  unfold f_X11_readPart
  repeat' first | with_reducible exact fr_ret _ _ | with_reducible exact fr_none | with_reducible refine fr_ite ?_ ?_ | (with_reducible refine fr_pI ?_ fun _ => ?_; · decide) | (with_reducible refine fr_pZ ?_ fun _ => ?_; · decide) | with_reducible refine fr_pJ fun _ => ?_ | with_reducible refine fr_sI fun _ => ?_ | with_reducible refine fr_lt ?_ | (with_reducible refine fr_b (fr_X11_isSign _ _ _) ?_; rintro _ _; try dsimp only) | with_reducible exact fr_X11_isSign _ _ _ | (with_reducible refine fr_b (fr_X11_partAt _ _) ?_; rintro _ _; try dsimp only) | with_reducible exact fr_X11_partAt _ _ | (with_reducible refine fr_b (fr_X11_readPart_j35 _ _ _) ?_; rintro _ _; try dsimp only) | with_reducible exact fr_X11_readPart_j35 _ _ _ | (with_reducible refine fr_b (fr_X11_orderPartAt _ _) ?_; rintro _ _; try dsimp only) | with_reducible exact fr_X11_orderPartAt _ _ | (with_reducible refine fr_b (fr_X11_openBracket _ _ _) ?_; rintro ⟨⟩ _; try dsimp only) | with_reducible exact fr_X11_openBracket _ _ _ | with_reducible refine fr_o fun _ => ?_
theorem fr_X11_readPlain : ∀ r0 (h : AH), Fr18 h (f_X11_readPlain S_1 r0 h) := by
  intro r0 h
  unfold f_X11_readPlain
  repeat' first | with_reducible exact fr_ret _ _ | with_reducible exact fr_none | with_reducible refine fr_ite ?_ ?_ | (with_reducible refine fr_pI ?_ fun _ => ?_; · decide) | (with_reducible refine fr_pZ ?_ fun _ => ?_; · decide) | with_reducible refine fr_pJ fun _ => ?_ | with_reducible refine fr_sI fun _ => ?_ | with_reducible refine fr_lt ?_ | (with_reducible refine fr_b (fr_X11_isWord _ _ _) ?_; rintro _ _; try dsimp only) | with_reducible exact fr_X11_isWord _ _ _ | (with_reducible refine fr_b (fr_X11_isSign _ _ _) ?_; rintro _ _; try dsimp only) | with_reducible exact fr_X11_isSign _ _ _ | (with_reducible refine fr_b (fr_X11_readPart _ _) ?_; rintro _ _; try dsimp only) | with_reducible exact fr_X11_readPart _ _ | (with_reducible refine fr_b (fr_X11_openBracket _ _ _) ?_; rintro ⟨⟩ _; try dsimp only) | with_reducible exact fr_X11_openBracket _ _ _ | (with_reducible refine fr_b (fr_X11_push _ _ _ _) ?_; rintro ⟨⟩ _; try dsimp only) | with_reducible exact fr_X11_push _ _ _ _ | (with_reducible refine fr_b (fr_X11_next _ _) ?_; rintro ⟨⟩ _; try dsimp only) | with_reducible exact fr_X11_next _ _ | with_reducible refine fr_o fun _ => ?_
theorem fr_X11_inner_l4b {rc : Nat → Int32 → Int32 → AH → Option (Int32 × AH)} (hrc : ∀ y0 y1 y2 (h : AH), Fr18 h (rc y0 y1 y2 h)) : ∀ r0 x1 x2 (h : AH), Fr18 h (f_X11_inner_l4b S_1 rc r0 x1 x2 h) := by
  intro r0 x1 x2 h
  unfold f_X11_inner_l4b
  repeat' first | with_reducible exact fr_ret _ _ | with_reducible exact fr_none | with_reducible refine fr_ite ?_ ?_ | (with_reducible refine fr_pI ?_ fun _ => ?_; · decide) | (with_reducible refine fr_pZ ?_ fun _ => ?_; · decide) | with_reducible refine fr_pJ fun _ => ?_ | with_reducible refine fr_sI fun _ => ?_ | with_reducible refine fr_lt ?_ | with_reducible exact hrc _ _ _ _ | (with_reducible refine fr_b (hrc _ _ _ _) ?_; rintro _ _; try dsimp only) | with_reducible refine fr_o fun _ => ?_
theorem fr_X11_inner_l4 : ∀ (n : Nat) y0 y1 y2 (h : AH), Fr18 h (f_X11_inner_l4 S_1 n y0 y1 y2 h)
  | 0, _, _, _, _ => fr_none
  | n + 1, y0, y1, y2, h => fr_X11_inner_l4b (fr_X11_inner_l4 n) y0 y1 y2 h
theorem fr_X11_inner : ∀ r0 (h : AH), Fr18 h (f_X11_inner S_1 r0 h) := by
  intro r0 h
  unfold f_X11_inner
  repeat' first | with_reducible exact fr_ret _ _ | with_reducible exact fr_none | with_reducible refine fr_ite ?_ ?_ | (with_reducible refine fr_pI ?_ fun _ => ?_; · decide) | (with_reducible refine fr_pZ ?_ fun _ => ?_; · decide) | with_reducible refine fr_pJ fun _ => ?_ | with_reducible refine fr_sI fun _ => ?_ | with_reducible refine fr_lt ?_ | (with_reducible refine fr_b (fr_X11_inner_l4 _ _ _ _ _) ?_; rintro _ _; try dsimp only) | with_reducible exact fr_X11_inner_l4 _ _ _ _ _ | with_reducible refine fr_o fun _ => ?_
theorem fr_X11_binds : ∀ x0 (h : AH), Fr18 h (f_X11_binds S_1 x0 h) := by
  intro x0 h
  unfold f_X11_binds
  repeat' first | with_reducible exact fr_ret _ _ | with_reducible exact fr_none | with_reducible refine fr_ite ?_ ?_ | (with_reducible refine fr_pI ?_ fun _ => ?_; · decide) | (with_reducible refine fr_pZ ?_ fun _ => ?_; · decide) | with_reducible refine fr_pJ fun _ => ?_ | with_reducible refine fr_sI fun _ => ?_ | with_reducible refine fr_lt ?_ | with_reducible refine fr_o fun _ => ?_
theorem fr_X11_settle_l0b {rc : Nat → Int32 → AH → Option (Unit × AH)} (hrc : ∀ y0 y1 (h : AH), Fr18 h (rc y0 y1 h)) : ∀ r0 x1 (h : AH), Fr18 h (f_X11_settle_l0b S_1 rc r0 x1 h) := by
  intro r0 x1 h
  unfold f_X11_settle_l0b
  repeat' first | with_reducible exact fr_ret _ _ | with_reducible exact fr_none | with_reducible refine fr_ite ?_ ?_ | (with_reducible refine fr_pI ?_ fun _ => ?_; · decide) | (with_reducible refine fr_pZ ?_ fun _ => ?_; · decide) | with_reducible refine fr_pJ fun _ => ?_ | with_reducible refine fr_sI fun _ => ?_ | with_reducible refine fr_lt ?_ | with_reducible exact hrc _ _ _ | (with_reducible refine fr_b (fr_X11_binds _ _) ?_; rintro _ _; try dsimp only) | with_reducible exact fr_X11_binds _ _ | (with_reducible refine fr_b (fr_X11_emit _ _ _ _) ?_; rintro ⟨⟩ _; try dsimp only) | with_reducible exact fr_X11_emit _ _ _ _ | (with_reducible refine fr_b (hrc _ _ _) ?_; rintro ⟨⟩ _; try dsimp only) | with_reducible refine fr_o fun _ => ?_
theorem fr_X11_settle_l0 : ∀ (n : Nat) y0 y1 (h : AH), Fr18 h (f_X11_settle_l0 S_1 n y0 y1 h)
  | 0, _, _, _ => fr_none
  | n + 1, y0, y1, h => fr_X11_settle_l0b (fr_X11_settle_l0 n) y0 y1 h
theorem fr_X11_settle_j63 : ∀ r0 x1 (h : AH), Fr18 h (f_X11_settle_j63 S_1 r0 x1 h) := by
  intro r0 x1 h
  unfold f_X11_settle_j63
  repeat' first | with_reducible exact fr_ret _ _ | with_reducible exact fr_none | with_reducible refine fr_ite ?_ ?_ | (with_reducible refine fr_pI ?_ fun _ => ?_; · decide) | (with_reducible refine fr_pZ ?_ fun _ => ?_; · decide) | with_reducible refine fr_pJ fun _ => ?_ | with_reducible refine fr_sI fun _ => ?_ | with_reducible refine fr_lt ?_ | (with_reducible refine fr_b (fr_X11_settle_l0 _ _ _ _) ?_; rintro ⟨⟩ _; try dsimp only) | with_reducible exact fr_X11_settle_l0 _ _ _ _ | with_reducible refine fr_o fun _ => ?_
theorem fr_X11_settle : ∀ r0 x1 (h : AH), Fr18 h (f_X11_settle S_1 r0 x1 h) := by
  intro r0 x1 h
  unfold f_X11_settle
  repeat' first | with_reducible exact fr_ret _ _ | with_reducible exact fr_none | with_reducible refine fr_ite ?_ ?_ | (with_reducible refine fr_pI ?_ fun _ => ?_; · decide) | (with_reducible refine fr_pZ ?_ fun _ => ?_; · decide) | with_reducible refine fr_pJ fun _ => ?_ | with_reducible refine fr_sI fun _ => ?_ | with_reducible refine fr_lt ?_ | (with_reducible refine fr_b (fr_X11_binds _ _) ?_; rintro _ _; try dsimp only) | with_reducible exact fr_X11_binds _ _ | (with_reducible refine fr_b (fr_X11_settle_j63 _ _ _) ?_; rintro ⟨⟩ _; try dsimp only) | with_reducible exact fr_X11_settle_j63 _ _ _ | (with_reducible refine fr_b (fr_X11_emit _ _ _ _) ?_; rintro ⟨⟩ _; try dsimp only) | with_reducible exact fr_X11_emit _ _ _ _ | (with_reducible refine fr_b (fr_X11_settle_l0 _ _ _ _) ?_; rintro ⟨⟩ _; try dsimp only) | with_reducible exact fr_X11_settle_l0 _ _ _ _ | with_reducible refine fr_o fun _ => ?_
theorem fr_X11_isCompared_l7b {rc : Nat → Int32 → AH → Option ((Nat × Int32) × AH)} (hrc : ∀ y0 y1 (h : AH), Fr18 h (rc y0 y1 h)) : ∀ r0 x1 (h : AH), Fr18 h (f_X11_isCompared_l7b S_1 rc r0 x1 h) := by
  intro r0 x1 h
  unfold f_X11_isCompared_l7b
  repeat' first | with_reducible exact fr_ret _ _ | with_reducible exact fr_none | with_reducible refine fr_ite ?_ ?_ | (with_reducible refine fr_pI ?_ fun _ => ?_; · decide) | (with_reducible refine fr_pZ ?_ fun _ => ?_; · decide) | with_reducible refine fr_pJ fun _ => ?_ | with_reducible refine fr_sI fun _ => ?_ | with_reducible refine fr_lt ?_ | with_reducible exact hrc _ _ _ | (with_reducible refine fr_b (fr_X11_in _ _ _ _) ?_; rintro _ _; try dsimp only) | with_reducible exact fr_X11_in _ _ _ _ | (with_reducible refine fr_b (hrc _ _ _) ?_; rintro ⟨_, _⟩ _; try dsimp only) | with_reducible refine fr_o fun _ => ?_
theorem fr_X11_isCompared_l7 : ∀ (n : Nat) y0 y1 (h : AH), Fr18 h (f_X11_isCompared_l7 S_1 n y0 y1 h)
  | 0, _, _, _ => fr_none
  | n + 1, y0, y1, h => fr_X11_isCompared_l7b (fr_X11_isCompared_l7 n) y0 y1 h
theorem fr_X11_isCompared_j36 : ∀ r0 x1 (h : AH), Fr18 h (f_X11_isCompared_j36 S_1 r0 x1 h) := by
  intro r0 x1 h
  unfold f_X11_isCompared_j36
  repeat' first | with_reducible exact fr_ret _ _ | with_reducible exact fr_none | with_reducible refine fr_ite ?_ ?_ | (with_reducible refine fr_pI ?_ fun _ => ?_; · decide) | (with_reducible refine fr_pZ ?_ fun _ => ?_; · decide) | with_reducible refine fr_pJ fun _ => ?_ | with_reducible refine fr_sI fun _ => ?_ | with_reducible refine fr_lt ?_ | (with_reducible refine fr_b (fr_X11_in _ _ _ _) ?_; rintro _ _; try dsimp only) | with_reducible exact fr_X11_in _ _ _ _ | with_reducible refine fr_o fun _ => ?_
theorem fr_X11_isCompared : ∀ r0 (h : AH), Fr18 h (f_X11_isCompared S_1 r0 h) := by
  intro r0 h
  unfold f_X11_isCompared
  repeat' first | with_reducible exact fr_ret _ _ | with_reducible exact fr_none | with_reducible refine fr_ite ?_ ?_ | (with_reducible refine fr_pI ?_ fun _ => ?_; · decide) | (with_reducible refine fr_pZ ?_ fun _ => ?_; · decide) | with_reducible refine fr_pJ fun _ => ?_ | with_reducible refine fr_sI fun _ => ?_ | with_reducible refine fr_lt ?_ | (with_reducible refine fr_b (fr_X11_isCompared_l7 _ _ _ _) ?_; rintro ⟨_, _⟩ _; try dsimp only) | with_reducible exact fr_X11_isCompared_l7 _ _ _ _ | (with_reducible refine fr_b (fr_X11_isCompared_j36 _ _ _) ?_; rintro _ _; try dsimp only) | with_reducible exact fr_X11_isCompared_j36 _ _ _ | with_reducible refine fr_o fun _ => ?_
theorem fr_X11_behindSum_j224 : ∀ r0 x2 sr0 sx1 (h : AH), Fr18 h (f_X11_behindSum_j224 S_1 r0 x2 sr0 sx1 h) := by
  intro r0 x2 sr0 sx1 h
  unfold f_X11_behindSum_j224
  repeat' first | with_reducible exact fr_ret _ _ | with_reducible exact fr_none | with_reducible refine fr_ite ?_ ?_ | (with_reducible refine fr_pI ?_ fun _ => ?_; · decide) | (with_reducible refine fr_pZ ?_ fun _ => ?_; · decide) | with_reducible refine fr_pJ fun _ => ?_ | with_reducible refine fr_sI fun _ => ?_ | with_reducible refine fr_lt ?_ | (with_reducible refine fr_b (fr_X11_must _ _ _) ?_; rintro ⟨⟩ _; try dsimp only) | with_reducible exact fr_X11_must _ _ _ | (with_reducible refine fr_b (fr_X11_settle _ _ _) ?_; rintro ⟨⟩ _; try dsimp only) | with_reducible exact fr_X11_settle _ _ _ | (with_reducible refine fr_b (fr_X11_push _ _ _ _) ?_; rintro ⟨⟩ _; try dsimp only) | with_reducible exact fr_X11_push _ _ _ _ | with_reducible refine fr_o fun _ => ?_
theorem fr_X11_behindSum_j219 : ∀ r0 x2 sr0 (h : AH), Fr18 h (f_X11_behindSum_j219 S_1 r0 x2 sr0 h) := by
  intro r0 x2 sr0 h
  unfold f_X11_behindSum_j219
  repeat' first | with_reducible exact fr_ret _ _ | with_reducible exact fr_none | with_reducible refine fr_ite ?_ ?_ | (with_reducible refine fr_pI ?_ fun _ => ?_; · decide) | (with_reducible refine fr_pZ ?_ fun _ => ?_; · decide) | with_reducible refine fr_pJ fun _ => ?_ | with_reducible refine fr_sI fun _ => ?_ | with_reducible refine fr_lt ?_ | (with_reducible refine fr_b (fr_X11_behindSum_j224 _ _ _ _ _) ?_; rintro _ _; try dsimp only) | with_reducible exact fr_X11_behindSum_j224 _ _ _ _ _ | with_reducible refine fr_o fun _ => ?_
theorem fr_X11_behindSum_j202 : ∀ r0 sx0 (h : AH), Fr18 h (f_X11_behindSum_j202 S_1 r0 sx0 h) := by
  intro r0 sx0 h
  unfold f_X11_behindSum_j202
  repeat' first | with_reducible exact fr_ret _ _ | with_reducible exact fr_none | with_reducible refine fr_ite ?_ ?_ | (with_reducible refine fr_pI ?_ fun _ => ?_; · decide) | (with_reducible refine fr_pZ ?_ fun _ => ?_; · decide) | with_reducible refine fr_pJ fun _ => ?_ | with_reducible refine fr_sI fun _ => ?_ | with_reducible refine fr_lt ?_ | (with_reducible refine fr_b (fr_X11_isSign _ _ _) ?_; rintro _ _; try dsimp only) | with_reducible exact fr_X11_isSign _ _ _ | (with_reducible refine fr_b (fr_X11_behindSum_j224 _ _ _ _ _) ?_; rintro _ _; try dsimp only) | with_reducible exact fr_X11_behindSum_j224 _ _ _ _ _ | (with_reducible refine fr_b (fr_X11_behindSum_j219 _ _ _ _) ?_; rintro _ _; try dsimp only) | with_reducible exact fr_X11_behindSum_j219 _ _ _ _ | with_reducible refine fr_o fun _ => ?_
theorem fr_X11_behindSum_j163 : ∀ r0 (h : AH), Fr18 h (f_X11_behindSum_j163 S_1 r0 h) := by
  intro r0 h
  unfold f_X11_behindSum_j163
  repeat' first | with_reducible exact fr_ret _ _ | with_reducible exact fr_none | with_reducible refine fr_ite ?_ ?_ | (with_reducible refine fr_pI ?_ fun _ => ?_; · decide) | (with_reducible refine fr_pZ ?_ fun _ => ?_; · decide) | with_reducible refine fr_pJ fun _ => ?_ | with_reducible refine fr_sI fun _ => ?_ | with_reducible refine fr_lt ?_ | (with_reducible refine fr_b (fr_X11_isCompared _ _) ?_; rintro _ _; try dsimp only) | with_reducible exact fr_X11_isCompared _ _ | (with_reducible refine fr_b (fr_X11_isSign _ _ _) ?_; rintro _ _; try dsimp only) | with_reducible exact fr_X11_isSign _ _ _ | (with_reducible refine fr_b (fr_X11_behindSum_j202 _ _ _) ?_; rintro _ _; try dsimp only) | with_reducible exact fr_X11_behindSum_j202 _ _ _ | with_reducible refine fr_o fun _ => ?_
theorem fr_X11_behindSum_j71 : ∀ r0 x1 sx0 (h : AH), Fr18 h (f_X11_behindSum_j71 S_1 r0 x1 sx0 h) := by
  intro r0 x1 sx0 h
  unfold f_X11_behindSum_j71
  repeat' first | with_reducible exact fr_ret _ _ | with_reducible exact fr_none | with_reducible refine fr_ite ?_ ?_ | (with_reducible refine fr_pI ?_ fun _ => ?_; · decide) | (with_reducible refine fr_pZ ?_ fun _ => ?_; · decide) | with_reducible refine fr_pJ fun _ => ?_ | with_reducible refine fr_sI fun _ => ?_ | with_reducible refine fr_lt ?_ | (with_reducible refine fr_b (fr_X11_inner _ _) ?_; rintro _ _; try dsimp only) | with_reducible exact fr_X11_inner _ _ | (with_reducible refine fr_b (fr_X11_isSign _ _ _) ?_; rintro _ _; try dsimp only) | with_reducible exact fr_X11_isSign _ _ _ | (with_reducible refine fr_b (fr_X11_must _ _ _) ?_; rintro ⟨⟩ _; try dsimp only) | with_reducible exact fr_X11_must _ _ _ | (with_reducible refine fr_b (fr_X11_settle _ _ _) ?_; rintro ⟨⟩ _; try dsimp only) | with_reducible exact fr_X11_settle _ _ _ | (with_reducible refine fr_b (fr_X11_behindSum_j163 _ _) ?_; rintro _ _; try dsimp only) | with_reducible exact fr_X11_behindSum_j163 _ _ | (with_reducible refine fr_b (fr_X11_binds _ _) ?_; rintro _ _; try dsimp only) | with_reducible exact fr_X11_binds _ _ | (with_reducible refine fr_b (fr_X11_push _ _ _ _) ?_; rintro ⟨⟩ _; try dsimp only) | with_reducible exact fr_X11_push _ _ _ _ | (with_reducible refine fr_b (fr_X11_next _ _) ?_; rintro ⟨⟩ _; try dsimp only) | with_reducible exact fr_X11_next _ _ | with_reducible refine fr_o fun _ => ?_
theorem fr_X11_behindSum : ∀ r0 x1 (h : AH), Fr18 h (f_X11_behindSum S_1 r0 x1 h) := by
  intro r0 x1 h
  unfold f_X11_behindSum
  repeat' first | with_reducible exact fr_ret _ _ | with_reducible exact fr_none | with_reducible refine fr_ite ?_ ?_ | (with_reducible refine fr_pI ?_ fun _ => ?_; · decide) | (with_reducible refine fr_pZ ?_ fun _ => ?_; · decide) | with_reducible refine fr_pJ fun _ => ?_ | with_reducible refine fr_sI fun _ => ?_ | with_reducible refine fr_lt ?_ | (with_reducible refine fr_b (fr_X11_isSign _ _ _) ?_; rintro _ _; try dsimp only) | with_reducible exact fr_X11_isSign _ _ _ | (with_reducible refine fr_b (fr_X11_behindSum_j71 _ _ _ _) ?_; rintro _ _; try dsimp only) | with_reducible exact fr_X11_behindSum_j71 _ _ _ _ | with_reducible refine fr_o fun _ => ?_
theorem fr_X11_behindTest_j47 : ∀ r0 x1 sr0 sx1 (h : AH), Fr18 h (f_X11_behindTest_j47 S_1 r0 x1 sr0 sx1 h) := by
  intro r0 x1 sr0 sx1 h
  unfold f_X11_behindTest_j47
  repeat' first | with_reducible exact fr_ret _ _ | with_reducible exact fr_none | with_reducible refine fr_ite ?_ ?_ | (with_reducible refine fr_pI ?_ fun _ => ?_; · decide) | (with_reducible refine fr_pZ ?_ fun _ => ?_; · decide) | with_reducible refine fr_pJ fun _ => ?_ | with_reducible refine fr_sI fun _ => ?_ | with_reducible refine fr_lt ?_ | (with_reducible refine fr_b (fr_X11_push _ _ _ _) ?_; rintro ⟨⟩ _; try dsimp only) | with_reducible exact fr_X11_push _ _ _ _ | (with_reducible refine fr_b (fr_X11_emit _ _ _ _) ?_; rintro ⟨⟩ _; try dsimp only) | with_reducible exact fr_X11_emit _ _ _ _ | (with_reducible refine fr_b (fr_X11_next _ _) ?_; rintro ⟨⟩ _; try dsimp only) | with_reducible exact fr_X11_next _ _ | with_reducible refine fr_o fun _ => ?_
theorem fr_X11_behindTest_j32 : ∀ r0 x1 sr0 sx1 (h : AH), Fr18 h (f_X11_behindTest_j32 S_1 r0 x1 sr0 sx1 h) := by
  intro r0 x1 sr0 sx1 h
  unfold f_X11_behindTest_j32
  repeat' first | with_reducible exact fr_ret _ _ | with_reducible exact fr_none | with_reducible refine fr_ite ?_ ?_ | (with_reducible refine fr_pI ?_ fun _ => ?_; · decide) | (with_reducible refine fr_pZ ?_ fun _ => ?_; · decide) | with_reducible refine fr_pJ fun _ => ?_ | with_reducible refine fr_sI fun _ => ?_ | with_reducible refine fr_lt ?_ | (with_reducible refine fr_b (fr_X11_settle _ _ _) ?_; rintro ⟨⟩ _; try dsimp only) | with_reducible exact fr_X11_settle _ _ _ | (with_reducible refine fr_b (fr_X11_behindTest_j47 _ _ _ _ _) ?_; rintro _ _; try dsimp only) | with_reducible exact fr_X11_behindTest_j47 _ _ _ _ _ | with_reducible refine fr_o fun _ => ?_
theorem fr_X11_behindTest_j22 : ∀ r0 x1 (h : AH), Fr18 h (f_X11_behindTest_j22 S_1 r0 x1 h) := by
  intro r0 x1 h
  unfold f_X11_behindTest_j22
  repeat' first | with_reducible exact fr_ret _ _ | with_reducible exact fr_none | with_reducible refine fr_ite ?_ ?_ | (with_reducible refine fr_pI ?_ fun _ => ?_; · decide) | (with_reducible refine fr_pZ ?_ fun _ => ?_; · decide) | with_reducible refine fr_pJ fun _ => ?_ | with_reducible refine fr_sI fun _ => ?_ | with_reducible refine fr_lt ?_ | (with_reducible refine fr_b (fr_X11_behindTest_j32 _ _ _ _ _) ?_; rintro _ _; try dsimp only) | with_reducible exact fr_X11_behindTest_j32 _ _ _ _ _ | with_reducible refine fr_o fun _ => ?_
theorem fr_X11_behindTest : ∀ r0 (h : AH), Fr18 h (f_X11_behindTest S_1 r0 h) := by
  intro r0 h
  unfold f_X11_behindTest
  repeat' first | with_reducible exact fr_ret _ _ | with_reducible exact fr_none | with_reducible refine fr_ite ?_ ?_ | (with_reducible refine fr_pI ?_ fun _ => ?_; · decide) | (with_reducible refine fr_pZ ?_ fun _ => ?_; · decide) | with_reducible refine fr_pJ fun _ => ?_ | with_reducible refine fr_sI fun _ => ?_ | with_reducible refine fr_lt ?_ | (with_reducible refine fr_b (fr_X11_isWord _ _ _) ?_; rintro _ _; try dsimp only) | with_reducible exact fr_X11_isWord _ _ _ | (with_reducible refine fr_b (fr_X11_inner _ _) ?_; rintro _ _; try dsimp only) | with_reducible exact fr_X11_inner _ _ | (with_reducible refine fr_b (fr_X11_isSign _ _ _) ?_; rintro _ _; try dsimp only) | with_reducible exact fr_X11_isSign _ _ _ | (with_reducible refine fr_b (fr_X11_must _ _ _) ?_; rintro ⟨⟩ _; try dsimp only) | with_reducible exact fr_X11_must _ _ _ | (with_reducible refine fr_b (fr_X11_settle _ _ _) ?_; rintro ⟨⟩ _; try dsimp only) | with_reducible exact fr_X11_settle _ _ _ | (with_reducible refine fr_b (fr_X11_behindTest_j22 _ _ _) ?_; rintro _ _; try dsimp only) | with_reducible exact fr_X11_behindTest_j22 _ _ _ | with_reducible refine fr_o fun _ => ?_
theorem fr_X11_readExpression_l20b {rc : Nat → Int32 → Int32 → AH → Option (Nat × AH)} (hrc : ∀ y0 y1 y2 (h : AH), Fr18 h (rc y0 y1 y2 h)) : ∀ r0 x1 x2 (h : AH), Fr18 h (f_X11_readExpression_l20b S_1 rc r0 x1 x2 h) := by
  intro r0 x1 x2 h
  unfold f_X11_readExpression_l20b
  repeat' first | with_reducible exact fr_ret _ _ | with_reducible exact fr_none | with_reducible refine fr_ite ?_ ?_ | (with_reducible refine fr_pI ?_ fun _ => ?_; · decide) | (with_reducible refine fr_pZ ?_ fun _ => ?_; · decide) | with_reducible refine fr_pJ fun _ => ?_ | with_reducible refine fr_sI fun _ => ?_ | with_reducible refine fr_lt ?_ | with_reducible exact hrc _ _ _ _ | (with_reducible refine fr_b (fr_X11_readPlain _ _) ?_; rintro _ _; try dsimp only) | with_reducible exact fr_X11_readPlain _ _ | (with_reducible refine fr_b (fr_X11_readPart _ _) ?_; rintro _ _; try dsimp only) | with_reducible exact fr_X11_readPart _ _ | (with_reducible refine fr_b (fr_X11_behindSum _ _ _) ?_; rintro _ _; try dsimp only) | with_reducible exact fr_X11_behindSum _ _ _ | (with_reducible refine fr_b (fr_X11_behindTest _ _) ?_; rintro _ _; try dsimp only) | with_reducible exact fr_X11_behindTest _ _ | (with_reducible refine fr_b (hrc _ _ _ _) ?_; rintro _ _; try dsimp only) | with_reducible refine fr_o fun _ => ?_
theorem fr_X11_readExpression_l20 : ∀ (n : Nat) y0 y1 y2 (h : AH), Fr18 h (f_X11_readExpression_l20 S_1 n y0 y1 y2 h)
  | 0, _, _, _, _ => fr_none
  | n + 1, y0, y1, y2, h => fr_X11_readExpression_l20b (fr_X11_readExpression_l20 n) y0 y1 y2 h
theorem fr_X11_readExpression : ∀ r0 x1 (h : AH), Fr18 h (f_X11_readExpression S_1 r0 x1 h) := by
  intro r0 x1 h
  unfold f_X11_readExpression
  repeat' first | with_reducible exact fr_ret _ _ | with_reducible exact fr_none | with_reducible refine fr_ite ?_ ?_ | (with_reducible refine fr_pI ?_ fun _ => ?_; · decide) | (with_reducible refine fr_pZ ?_ fun _ => ?_; · decide) | with_reducible refine fr_pJ fun _ => ?_ | with_reducible refine fr_sI fun _ => ?_ | with_reducible refine fr_lt ?_ | (with_reducible refine fr_b (fr_X11_readExpression_l20 _ _ _ _ _) ?_; rintro _ _; try dsimp only) | with_reducible exact fr_X11_readExpression_l20 _ _ _ _ _ | (with_reducible refine fr_b (fr_X11_settle _ _ _) ?_; rintro ⟨⟩ _; try dsimp only) | with_reducible exact fr_X11_settle _ _ _ | with_reducible refine fr_o fun _ => ?_
theorem fr_X11_readLaw_j135 : ∀ r0 x2 (h : AH), Fr18 h (f_X11_readLaw_j135 S_1 r0 x2 h) := by
  intro r0 x2 h
  unfold f_X11_readLaw_j135
  repeat' first | with_reducible exact fr_ret _ _ | with_reducible exact fr_none | with_reducible refine fr_ite ?_ ?_ | (with_reducible refine fr_pI ?_ fun _ => ?_; · decide) | (with_reducible refine fr_pZ ?_ fun _ => ?_; · decide) | with_reducible refine fr_pJ fun _ => ?_ | with_reducible refine fr_sI fun _ => ?_ | with_reducible refine fr_lt ?_ | (with_reducible refine fr_b (fr_X11_isWord _ _ _) ?_; rintro _ _; try dsimp only) | with_reducible exact fr_X11_isWord _ _ _ | (with_reducible refine fr_b (fr_X11_next _ _) ?_; rintro ⟨⟩ _; try dsimp only) | with_reducible exact fr_X11_next _ _ | (with_reducible refine fr_b (fr_X11_readExpression _ _ _) ?_; rintro ⟨⟩ _; try dsimp only) | with_reducible exact fr_X11_readExpression _ _ _ | with_reducible refine fr_o fun _ => ?_
theorem fr_X11_readLaw_j54 : ∀ r0 x1 sr0 sx1 (h : AH), Fr18 h (f_X11_readLaw_j54 S_1 r0 x1 sr0 sx1 h) := by
  intro r0 x1 sr0 sx1 h
  unfold f_X11_readLaw_j54
  repeat' first | with_reducible exact fr_ret _ _ | with_reducible exact fr_none | with_reducible refine fr_ite ?_ ?_ | (with_reducible refine fr_pI ?_ fun _ => ?_; · decide) | (with_reducible refine fr_pZ ?_ fun _ => ?_; · decide) | with_reducible refine fr_pJ fun _ => ?_ | with_reducible refine fr_sI fun _ => ?_ | with_reducible refine fr_lt ?_ | (with_reducible refine fr_b (fr_X11_must _ _ _) ?_; rintro ⟨⟩ _; try dsimp only) | with_reducible exact fr_X11_must _ _ _ | (with_reducible refine fr_b (fr_X11_readLaw_l75 _ _ _ _ _ _) ?_; rintro ⟨_, _, _⟩ _; try dsimp only) | with_reducible exact fr_X11_readLaw_l75 _ _ _ _ _ _ | (with_reducible refine fr_b (fr_X11_readLaw_j135 _ _ _) ?_; rintro ⟨⟩ _; try dsimp only) | with_reducible exact fr_X11_readLaw_j135 _ _ _ | (with_reducible refine fr_b (fr_X11_readExpression _ _ _) ?_; rintro ⟨⟩ _; try dsimp only) | with_reducible exact fr_X11_readExpression _ _ _ | with_reducible refine fr_o fun _ => ?_
theorem fr_X11_readLaw_j53 : ∀ r0 x1 sr0 (h : AH), Fr18 h (f_X11_readLaw_j53 S_1 r0 x1 sr0 h) := by
  intro r0 x1 sr0 h
  unfold f_X11_readLaw_j53
  repeat' first | with_reducible exact fr_ret _ _ | with_reducible exact fr_none | with_reducible refine fr_ite ?_ ?_ | (with_reducible refine fr_pI ?_ fun _ => ?_; · decide) | (with_reducible refine fr_pZ ?_ fun _ => ?_; · decide) | with_reducible refine fr_pJ fun _ => ?_ | with_reducible refine fr_sI fun _ => ?_ | with_reducible refine fr_lt ?_ | (with_reducible refine fr_b (fr_X11_readLaw_j54 _ _ _ _ _) ?_; rintro ⟨⟩ _; try dsimp only) | with_reducible exact fr_X11_readLaw_j54 _ _ _ _ _ | with_reducible refine fr_o fun _ => ?_
theorem fr_X11_readLaw : ∀ r0 (h : AH), Fr18 h (f_X11_readLaw S_1 r0 h) := by
  intro r0 h
  unfold f_X11_readLaw
  repeat' first | with_reducible exact fr_ret _ _ | with_reducible exact fr_none | with_reducible refine fr_ite ?_ ?_ | (with_reducible refine fr_pI ?_ fun _ => ?_; · decide) | (with_reducible refine fr_pZ ?_ fun _ => ?_; · decide) | with_reducible refine fr_pJ fun _ => ?_ | with_reducible refine fr_sI fun _ => ?_ | with_reducible refine fr_lt ?_ | (with_reducible refine fr_b (fr_X11_readLaw_l4 _ _ _ _ _) ?_; rintro ⟨_, _⟩ _; try dsimp only) | with_reducible exact fr_X11_readLaw_l4 _ _ _ _ _ | (with_reducible refine fr_b (fr_X11_readLaw_j53 _ _ _ _) ?_; rintro ⟨⟩ _; try dsimp only) | with_reducible exact fr_X11_readLaw_j53 _ _ _ _ | (with_reducible refine fr_b (fr_X11_readLaw_j54 _ _ _ _ _) ?_; rintro ⟨⟩ _; try dsimp only) | with_reducible exact fr_X11_readLaw_j54 _ _ _ _ _ | with_reducible refine fr_o fun _ => ?_
theorem fr_X11_law_l37b {rc : Nat → AH → Option (Nat × AH)} (hrc : ∀ y0 (h : AH), Fr18 h (rc y0 h)) : ∀ r0 (h : AH), Fr18 h (f_X11_law_l37b S_1 rc r0 h) := by
  intro r0 h
  unfold f_X11_law_l37b
  repeat' first | with_reducible exact fr_ret _ _ | with_reducible exact fr_none | with_reducible refine fr_ite ?_ ?_ | (with_reducible refine fr_pI ?_ fun _ => ?_; · decide) | (with_reducible refine fr_pZ ?_ fun _ => ?_; · decide) | with_reducible refine fr_pJ fun _ => ?_ | with_reducible refine fr_sI fun _ => ?_ | with_reducible refine fr_lt ?_ | with_reducible exact hrc _ _ | (with_reducible refine fr_b (fr_X11_isSign _ _ _) ?_; rintro _ _; try dsimp only) | with_reducible exact fr_X11_isSign _ _ _ | (with_reducible refine fr_b (fr_X11_next _ _) ?_; rintro ⟨⟩ _; try dsimp only) | with_reducible exact fr_X11_next _ _ | (with_reducible refine fr_b (fr_X11_readLaw _ _) ?_; rintro ⟨⟩ _; try dsimp only) | with_reducible exact fr_X11_readLaw _ _ | (with_reducible refine fr_b (hrc _ _) ?_; rintro _ _; try dsimp only) | with_reducible refine fr_o fun _ => ?_
theorem fr_X11_law_l37 : ∀ (n : Nat) y0 (h : AH), Fr18 h (f_X11_law_l37 S_1 n y0 h)
  | 0, _, _ => fr_none
  | n + 1, y0, h => fr_X11_law_l37b (fr_X11_law_l37 n) y0 h
theorem fr_X11_readOrder_l4b {rc : Nat → Int32 → Int32 → AH → Option ((Nat × Int32) × AH)} (hrc : ∀ y0 y1 y2 (h : AH), Fr18 h (rc y0 y1 y2 h)) : ∀ r0 x1 x2 (h : AH), Fr18 h (f_X11_readOrder_l4b S_1 rc r0 x1 x2 h) := by
  intro r0 x1 x2 h
  unfold f_X11_readOrder_l4b
  repeat' first | with_reducible exact fr_ret _ _ | with_reducible exact fr_none | with_reducible refine fr_ite ?_ ?_ | (with_reducible refine fr_pI ?_ fun _ => ?_; · decide) | (with_reducible refine fr_pZ ?_ fun _ => ?_; · decide) | with_reducible refine fr_pJ fun _ => ?_ | with_reducible refine fr_sI fun _ => ?_ | with_reducible refine fr_lt ?_ | with_reducible exact hrc _ _ _ _ | (with_reducible refine fr_b (fr_X11_isWord _ _ _) ?_; rintro _ _; try dsimp only) | with_reducible exact fr_X11_isWord _ _ _ | (with_reducible refine fr_b (hrc _ _ _ _) ?_; rintro ⟨_, _⟩ _; try dsimp only) | with_reducible refine fr_o fun _ => ?_
theorem fr_X11_readOrder_l4 : ∀ (n : Nat) y0 y1 y2 (h : AH), Fr18 h (f_X11_readOrder_l4 S_1 n y0 y1 y2 h)
  | 0, _, _, _, _ => fr_none
  | n + 1, y0, y1, y2, h => fr_X11_readOrder_l4b (fr_X11_readOrder_l4 n) y0 y1 y2 h
theorem fr_X11_readOrder_l85b {rc : Nat → Int32 → Int32 → Int32 → AH → Option ((Nat × Int32 × Int32) × AH)} (hrc : ∀ y0 y1 y2 y3 (h : AH), Fr18 h (rc y0 y1 y2 y3 h)) : ∀ r0 x1 x2 x3 (h : AH), Fr18 h (f_X11_readOrder_l85b S_1 rc r0 x1 x2 x3 h) := by
  intro r0 x1 x2 x3 h
  unfold f_X11_readOrder_l85b
  repeat' first | with_reducible exact fr_ret _ _ | with_reducible exact fr_none | with_reducible refine fr_ite ?_ ?_ | (with_reducible refine fr_pI ?_ fun _ => ?_; · decide) | (with_reducible refine fr_pZ ?_ fun _ => ?_; · decide) | with_reducible refine fr_pJ fun _ => ?_ | with_reducible refine fr_sI fun _ => ?_ | with_reducible refine fr_lt ?_ | with_reducible exact hrc _ _ _ _ _ | (with_reducible refine fr_b (hrc _ _ _ _ _) ?_; rintro ⟨_, _, _⟩ _; try dsimp only) | with_reducible refine fr_o fun _ => ?_
theorem fr_X11_readOrder_l85 : ∀ (n : Nat) y0 y1 y2 y3 (h : AH), Fr18 h (f_X11_readOrder_l85 S_1 n y0 y1 y2 y3 h)
  | 0, _, _, _, _, _ => fr_none
  | n + 1, y0, y1, y2, y3, h => fr_X11_readOrder_l85b (fr_X11_readOrder_l85 n) y0 y1 y2 y3 h
theorem fr_X11_readSum : ∀ r0 x1 (h : AH), Fr18 h (f_X11_readSum S_1 r0 x1 h) := by
  intro r0 x1 h
  unfold f_X11_readSum
  repeat' first | with_reducible exact fr_ret _ _ | with_reducible exact fr_none | with_reducible refine fr_ite ?_ ?_ | (with_reducible refine fr_pI ?_ fun _ => ?_; · decide) | (with_reducible refine fr_pZ ?_ fun _ => ?_; · decide) | with_reducible refine fr_pJ fun _ => ?_ | with_reducible refine fr_sI fun _ => ?_ | with_reducible refine fr_lt ?_ | (with_reducible refine fr_b (fr_X11_readExpression _ _ _) ?_; rintro ⟨⟩ _; try dsimp only) | with_reducible exact fr_X11_readExpression _ _ _ | with_reducible refine fr_o fun _ => ?_
theorem fr_X11_readOrder_j217 : ∀ r0 x2 (h : AH), Fr18 h (f_X11_readOrder_j217 S_1 r0 x2 h) := by
  intro r0 x2 h
  unfold f_X11_readOrder_j217
  repeat' first | with_reducible exact fr_ret _ _ | with_reducible exact fr_none | with_reducible refine fr_ite ?_ ?_ | (with_reducible refine fr_pI ?_ fun _ => ?_; · decide) | (with_reducible refine fr_pZ ?_ fun _ => ?_; · decide) | with_reducible refine fr_pJ fun _ => ?_ | with_reducible refine fr_sI fun _ => ?_ | with_reducible refine fr_lt ?_ | (with_reducible refine fr_b (fr_X11_isWord _ _ _) ?_; rintro _ _; try dsimp only) | with_reducible exact fr_X11_isWord _ _ _ | (with_reducible refine fr_b (fr_X11_next _ _) ?_; rintro ⟨⟩ _; try dsimp only) | with_reducible exact fr_X11_next _ _ | (with_reducible refine fr_b (fr_X11_readExpression _ _ _) ?_; rintro ⟨⟩ _; try dsimp only) | with_reducible exact fr_X11_readExpression _ _ _ | with_reducible refine fr_o fun _ => ?_
theorem fr_X11_readOrder_j169 : ∀ r0 x2 (h : AH), Fr18 h (f_X11_readOrder_j169 S_1 r0 x2 h) := by
  intro r0 x2 h
  unfold f_X11_readOrder_j169
  repeat' first | with_reducible exact fr_ret _ _ | with_reducible exact fr_none | with_reducible refine fr_ite ?_ ?_ | (with_reducible refine fr_pI ?_ fun _ => ?_; · decide) | (with_reducible refine fr_pZ ?_ fun _ => ?_; · decide) | with_reducible refine fr_pJ fun _ => ?_ | with_reducible refine fr_sI fun _ => ?_ | with_reducible refine fr_lt ?_ | (with_reducible refine fr_b (fr_X11_isWord _ _ _) ?_; rintro _ _; try dsimp only) | with_reducible exact fr_X11_isWord _ _ _ | (with_reducible refine fr_b (fr_X11_readOrder_j217 _ _ _) ?_; rintro ⟨⟩ _; try dsimp only) | with_reducible exact fr_X11_readOrder_j217 _ _ _ | (with_reducible refine fr_b (fr_X11_next _ _) ?_; rintro ⟨⟩ _; try dsimp only) | with_reducible exact fr_X11_next _ _ | (with_reducible refine fr_b (fr_X11_number _ _ _ _) ?_; rintro _ _; try dsimp only) | with_reducible exact fr_X11_number _ _ _ _ | with_reducible refine fr_o fun _ => ?_
theorem fr_X11_readOrder_j162 : ∀ r0 x2 (h : AH), Fr18 h (f_X11_readOrder_j162 S_1 r0 x2 h) := by
  intro r0 x2 h
  unfold f_X11_readOrder_j162
  repeat' first | with_reducible exact fr_ret _ _ | with_reducible exact fr_none | with_reducible refine fr_ite ?_ ?_ | (with_reducible refine fr_pI ?_ fun _ => ?_; · decide) | (with_reducible refine fr_pZ ?_ fun _ => ?_; · decide) | with_reducible refine fr_pJ fun _ => ?_ | with_reducible refine fr_sI fun _ => ?_ | with_reducible refine fr_lt ?_ | (with_reducible refine fr_b (fr_X11_readSum _ _ _) ?_; rintro ⟨⟩ _; try dsimp only) | with_reducible exact fr_X11_readSum _ _ _ | (with_reducible refine fr_b (fr_X11_readOrder_j169 _ _ _) ?_; rintro ⟨⟩ _; try dsimp only) | with_reducible exact fr_X11_readOrder_j169 _ _ _ | with_reducible refine fr_o fun _ => ?_
theorem fr_X11_readOrder_j156 : ∀ r0 x2 sr0 sr1 sl2 (h : AH), Fr18 h (f_X11_readOrder_j156 S_1 r0 x2 sr0 sr1 sl2 h) := by
  intro r0 x2 sr0 sr1 sl2 h
  unfold f_X11_readOrder_j156
  repeat' first | with_reducible exact fr_ret _ _ | with_reducible exact fr_none | with_reducible refine fr_ite ?_ ?_ | (with_reducible refine fr_pI ?_ fun _ => ?_; · decide) | (with_reducible refine fr_pZ ?_ fun _ => ?_; · decide) | with_reducible refine fr_pJ fun _ => ?_ | with_reducible refine fr_sI fun _ => ?_ | with_reducible refine fr_lt ?_ | (with_reducible refine fr_b (fr_X11_isWord _ _ _) ?_; rintro _ _; try dsimp only) | with_reducible exact fr_X11_isWord _ _ _ | (with_reducible refine fr_b (fr_X11_must _ _ _) ?_; rintro ⟨⟩ _; try dsimp only) | with_reducible exact fr_X11_must _ _ _ | (with_reducible refine fr_b (fr_X11_readOrder_j162 _ _ _) ?_; rintro ⟨⟩ _; try dsimp only) | with_reducible exact fr_X11_readOrder_j162 _ _ _ | with_reducible refine fr_o fun _ => ?_
theorem fr_X11_readOrder_j134 : ∀ r0 x1 x2 (h : AH), Fr18 h (f_X11_readOrder_j134 S_1 r0 x1 x2 h) := by
  intro r0 x1 x2 h
  unfold f_X11_readOrder_j134
  repeat' first | with_reducible exact fr_ret _ _ | with_reducible exact fr_none | with_reducible refine fr_ite ?_ ?_ | (with_reducible refine fr_pI ?_ fun _ => ?_; · decide) | (with_reducible refine fr_pZ ?_ fun _ => ?_; · decide) | with_reducible refine fr_pJ fun _ => ?_ | with_reducible refine fr_sI fun _ => ?_ | with_reducible refine fr_lt ?_ | (with_reducible refine fr_b (fr_X11_readOrder_j156 _ _ _ _ _ _) ?_; rintro ⟨⟩ _; try dsimp only) | with_reducible exact fr_X11_readOrder_j156 _ _ _ _ _ _ | (with_reducible refine fr_b (fr_X11_readOrder_j162 _ _ _) ?_; rintro ⟨⟩ _; try dsimp only) | with_reducible exact fr_X11_readOrder_j162 _ _ _ | with_reducible refine fr_o fun _ => ?_
theorem fr_X11_readOrder_j125 : ∀ r0 x1 x2 (h : AH), Fr18 h (f_X11_readOrder_j125 S_1 r0 x1 x2 h) := by
  intro r0 x1 x2 h
  unfold f_X11_readOrder_j125
  repeat' first | with_reducible exact fr_ret _ _ | with_reducible exact fr_none | with_reducible refine fr_ite ?_ ?_ | (with_reducible refine fr_pI ?_ fun _ => ?_; · decide) | (with_reducible refine fr_pZ ?_ fun _ => ?_; · decide) | with_reducible refine fr_pJ fun _ => ?_ | with_reducible refine fr_sI fun _ => ?_ | with_reducible refine fr_lt ?_ | (with_reducible refine fr_b (fr_X11_readOrder_j134 _ _ _ _) ?_; rintro ⟨⟩ _; try dsimp only) | with_reducible exact fr_X11_readOrder_j134 _ _ _ _ | (with_reducible refine fr_b (fr_X11_readOrder_j169 _ _ _) ?_; rintro ⟨⟩ _; try dsimp only) | with_reducible exact fr_X11_readOrder_j169 _ _ _ | with_reducible refine fr_o fun _ => ?_
theorem fr_X11_readOrder_j54 : ∀ r0 x1 sr0 sx1 (h : AH), Fr18 h (f_X11_readOrder_j54 S_1 r0 x1 sr0 sx1 h) := by
  intro r0 x1 sr0 sx1 h
  unfold f_X11_readOrder_j54
  repeat' first | with_reducible exact fr_ret _ _ | with_reducible exact fr_none | with_reducible refine fr_ite ?_ ?_ | (with_reducible refine fr_pI ?_ fun _ => ?_; · decide) | (with_reducible refine fr_pZ ?_ fun _ => ?_; · decide) | with_reducible refine fr_pJ fun _ => ?_ | with_reducible refine fr_sI fun _ => ?_ | with_reducible refine fr_lt ?_ | (with_reducible refine fr_b (fr_X11_must _ _ _) ?_; rintro ⟨⟩ _; try dsimp only) | with_reducible exact fr_X11_must _ _ _ | (with_reducible refine fr_b (fr_X11_readOrder_l85 _ _ _ _ _ _) ?_; rintro ⟨_, _, _⟩ _; try dsimp only) | with_reducible exact fr_X11_readOrder_l85 _ _ _ _ _ _ | (with_reducible refine fr_b (fr_X11_readOrder_j125 _ _ _ _) ?_; rintro ⟨⟩ _; try dsimp only) | with_reducible exact fr_X11_readOrder_j125 _ _ _ _ | (with_reducible refine fr_b (fr_X11_readSum _ _ _) ?_; rintro ⟨⟩ _; try dsimp only) | with_reducible exact fr_X11_readSum _ _ _ | with_reducible refine fr_o fun _ => ?_
theorem fr_X11_readOrder_j53 : ∀ r0 x1 sr0 (h : AH), Fr18 h (f_X11_readOrder_j53 S_1 r0 x1 sr0 h) := by
  intro r0 x1 sr0 h
  unfold f_X11_readOrder_j53
  repeat' first | with_reducible exact fr_ret _ _ | with_reducible exact fr_none | with_reducible refine fr_ite ?_ ?_ | (with_reducible refine fr_pI ?_ fun _ => ?_; · decide) | (with_reducible refine fr_pZ ?_ fun _ => ?_; · decide) | with_reducible refine fr_pJ fun _ => ?_ | with_reducible refine fr_sI fun _ => ?_ | with_reducible refine fr_lt ?_ | (with_reducible refine fr_b (fr_X11_readOrder_j54 _ _ _ _ _) ?_; rintro ⟨⟩ _; try dsimp only) | with_reducible exact fr_X11_readOrder_j54 _ _ _ _ _ | with_reducible refine fr_o fun _ => ?_
theorem fr_X11_readOrder : ∀ r0 (h : AH), Fr18 h (f_X11_readOrder S_1 r0 h) := by
  intro r0 h
  unfold f_X11_readOrder
  repeat' first | with_reducible exact fr_ret _ _ | with_reducible exact fr_none | with_reducible refine fr_ite ?_ ?_ | (with_reducible refine fr_pI ?_ fun _ => ?_; · decide) | (with_reducible refine fr_pZ ?_ fun _ => ?_; · decide) | with_reducible refine fr_pJ fun _ => ?_ | with_reducible refine fr_sI fun _ => ?_ | with_reducible refine fr_lt ?_ | (with_reducible refine fr_b (fr_X11_readOrder_l4 _ _ _ _ _) ?_; rintro ⟨_, _⟩ _; try dsimp only) | with_reducible exact fr_X11_readOrder_l4 _ _ _ _ _ | (with_reducible refine fr_b (fr_X11_readOrder_j53 _ _ _ _) ?_; rintro ⟨⟩ _; try dsimp only) | with_reducible exact fr_X11_readOrder_j53 _ _ _ _ | (with_reducible refine fr_b (fr_X11_readOrder_j54 _ _ _ _ _) ?_; rintro ⟨⟩ _; try dsimp only) | with_reducible exact fr_X11_readOrder_j54 _ _ _ _ _ | with_reducible refine fr_o fun _ => ?_
theorem fr_X11_orders_l19b {rc : Nat → AH → Option (Nat × AH)} (hrc : ∀ y0 (h : AH), Fr18 h (rc y0 h)) : ∀ r0 (h : AH), Fr18 h (f_X11_orders_l19b S_1 rc r0 h) := by
  intro r0 h
  unfold f_X11_orders_l19b
  repeat' first | with_reducible exact fr_ret _ _ | with_reducible exact fr_none | with_reducible refine fr_ite ?_ ?_ | (with_reducible refine fr_pI ?_ fun _ => ?_; · decide) | (with_reducible refine fr_pZ ?_ fun _ => ?_; · decide) | with_reducible refine fr_pJ fun _ => ?_ | with_reducible refine fr_sI fun _ => ?_ | with_reducible refine fr_lt ?_ | with_reducible exact hrc _ _ | (with_reducible refine fr_b (fr_X11_isSign _ _ _) ?_; rintro _ _; try dsimp only) | with_reducible exact fr_X11_isSign _ _ _ | (with_reducible refine fr_b (fr_X11_next _ _) ?_; rintro ⟨⟩ _; try dsimp only) | with_reducible exact fr_X11_next _ _ | (with_reducible refine fr_b (fr_X11_readOrder _ _) ?_; rintro ⟨⟩ _; try dsimp only) | with_reducible exact fr_X11_readOrder _ _ | (with_reducible refine fr_b (hrc _ _) ?_; rintro _ _; try dsimp only) | with_reducible refine fr_o fun _ => ?_
theorem fr_X11_orders_l19 : ∀ (n : Nat) y0 (h : AH), Fr18 h (f_X11_orders_l19 S_1 n y0 h)
  | 0, _, _ => fr_none
  | n + 1, y0, h => fr_X11_orders_l19b (fr_X11_orders_l19 n) y0 h

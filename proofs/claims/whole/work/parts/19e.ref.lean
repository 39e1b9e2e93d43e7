theorem stI_s (h : AH) (p k : Nat) (v : Int32) : (stI h p k v).2.1 p k = v := u2_self h.2.1 p k v
theorem stJ_s (h : AH) (p k : Nat) (v : Int64) : (stJ h p k v).2.2.1 p k = v := u2_self h.2.2.1 p k v
theorem pM_not (rc : Nat → Int32 → Int32 → Int32 → AH → Option ((Nat × Int32) × AH)) (h : AH) {to dp i : Nat} (x : Int32) (hd : dp + 1 < 400) : f_X11_reckonAll_l10_j95 S_1 rc 80 (nI to) (nI (dp + 1)) (nI i) 28 x h = rc 80 (nI to) (nI (dp + 1)) (nI (i + 1)) (stJ h 100 dp (1 - h.2.2.1 100 dp)) := by
  unfold f_X11_reckonAll_l10_j95
  rw [lt_e, if_pos (by decide), if_pos (by decide), if_pos rfl, bs_ (yr_80_37 h), bs_ (yr_80_37 h), nI_m1, bs_ (ai_100 h (by omega)), bs_ (si_100 h _ (by omega)), nI_1]
theorem pM_and (rc : Nat → Int32 → Int32 → Int32 → AH → Option ((Nat × Int32) × AH)) (h : AH) {to dp i : Nat} (x : Int32) (hd : dp + 1 < 400) : f_X11_reckonAll_l10_j95 S_1 rc 80 (nI to) (nI (dp + 1)) (nI i) 29 x h = if h.2.2.1 100 dp = 0 then rc 80 (nI to) (nI (dp + 1)) x h else rc 80 (nI to) (nI dp) (nI (i + 1)) h := by
  unfold f_X11_reckonAll_l10_j95
  rw [lt_e, if_pos (by decide), if_pos (by decide), if_neg (by decide), bs_ (yr_80_37 h), nI_m1, bs_ (ai_100 h (by omega)), if_pos rfl, lt_e, nI_p1, nI_1]
  simp only [cmp_eq0]
theorem pM_or (rc : Nat → Int32 → Int32 → Int32 → AH → Option ((Nat × Int32) × AH)) (h : AH) {to dp i : Nat} (x : Int32) (hd : dp + 1 < 400) : f_X11_reckonAll_l10_j95 S_1 rc 80 (nI to) (nI (dp + 1)) (nI i) 30 x h = if h.2.2.1 100 dp = 1 then rc 80 (nI to) (nI (dp + 1)) x h else rc 80 (nI to) (nI dp) (nI (i + 1)) h := by
  unfold f_X11_reckonAll_l10_j95
  rw [lt_e, if_pos (by decide), if_pos (by decide), if_neg (by decide), bs_ (yr_80_37 h), nI_m1, bs_ (ai_100 h (by omega)), if_neg (by decide), lt_e, nI_p1, nI_1]
  simp only [cmp_eq0]
theorem bd9_some {v u : Int64} (h : bd9 v = some u) : u = v ∧ (-1000000000 ≤ v ∧ v ≤ 1000000000) := by
  unfold bd9 at h
  split at h
  · rename_i e
    injection h with h
    exact ⟨h.symm, e⟩
  · cases h
theorem bd9_none {v : Int64} (h : bd9 v = none) : ¬ (-1000000000 ≤ v ∧ v ≤ 1000000000) := by
  unfold bd9 at h
  split at h
  · cases h
  · assumption
/-- what reckon answers: a number to be looked at, or broken -/
def RkM (h h2 : AH) (v : Int64) (r : Option Int64) : Prop := Eqv PM h h2 ∧ h2.2.2.1 = h.2.2.1 ∧ match r with
  | some u => h2.2.1 80 38 = 0 ∧ v = u ∧ (-1000000000 ≤ v ∧ v ≤ 1000000000)
  | none => h2.2.1 80 38 = 1 ∨ h2.2.1 80 38 = 0 ∧ ¬ (-1000000000 ≤ v ∧ v ≤ 1000000000)
theorem RkM.plain {h : AH} {v : Int64} (hb : h.2.1 80 38 = 0) : RkM h h v (bd9 v) := by
  refine ⟨Eqv.refl h, rfl, ?_⟩
  cases e : bd9 v with
  | some u =>
    obtain ⟨rfl, e2⟩ := bd9_some e
    exact ⟨hb, rfl, e2⟩
  | none => exact Or.inr ⟨hb, bd9_none e⟩
theorem RkM.flag0 {h : AH} {v : Int64} : RkM h (stI h 80 38 0) v (bd9 v) := by
  refine ⟨(Eqv.refl h).si rfl, rfl, ?_⟩
  cases e : bd9 v with
  | some u =>
    obtain ⟨rfl, e2⟩ := bd9_some e
    exact ⟨stI_s _ _ _ _, rfl, e2⟩
  | none => exact Or.inr ⟨stI_s _ _ _ _, bd9_none e⟩
theorem RkM.one {h : AH} {v : Int64} (hb : h.2.1 80 38 = 0) (h0 : v = 0 ∨ v = 1) : RkM h h v (some v) :=
  ⟨Eqv.refl h, rfl, hb, rfl, by rcases h0 with rfl | rfl <;> decide⟩
theorem pM_reckon (h : AH) {op : Nat} (x y : Int64) (ho : 20 ≤ op) (ho2 : op < 28) (hb : h.2.1 80 38 = 0) : ∃ v h2, f_X11_reckon S_1 80 (nI op) x y h = some (v, h2) ∧ RkM h h2 v (opS op x y) := by
  unfold f_X11_reckon
  have oo : op = 20 ∨ op = 21 ∨ op = 22 ∨ op = 23 ∨ op = 24 ∨ op = 25 ∨ op = 26 ∨ op = 27 := by omega
  rcases oo with rfl | rfl | rfl | rfl | rfl | rfl | rfl | rfl
  · rw [if_pos (by decide)]
    exact ⟨_, _, rfl, RkM.plain hb⟩
  · rw [if_neg (by decide), if_pos (by decide)]
    exact ⟨_, _, rfl, RkM.plain hb⟩
  · rw [if_neg (by decide), if_neg (by decide), if_pos (by decide)]
    exact ⟨_, _, rfl, RkM.plain hb⟩
  · rw [if_neg (by decide), if_neg (by decide), if_neg (by decide), if_pos (by decide)]
    by_cases e : y = 0
    · rw [if_pos (by rw [cmp_eq0]; exact e), bs_ (xz_80 h 38 1 (Or.inr rfl)), bs_ (yi_80 _ 38), if_neg (by rw [stI_s]; decide)]
      refine ⟨_, _, rfl, (Eqv.refl h).si rfl, rfl, ?_⟩
      rw [show opS 23 x y = none from by simp [opS, e]]
      exact Or.inl (stI_s _ _ _ _)
    · rw [if_neg (by rw [cmp_eq0]; exact e), bs_ (xz_80 h 38 0 (Or.inl rfl)), bs_ (yi_80 _ 38), if_pos (stI_s _ _ _ _), bs_ (show nzJ y = some () from if_neg e)]
      refine ⟨_, _, rfl, ?_⟩
      rw [show opS 23 x y = bd9 (x / y) from by simp [opS, e]]
      exact RkM.flag0
  · rw [if_neg (by decide), if_neg (by decide), if_neg (by decide), if_neg (by decide), if_pos (by decide)]
    by_cases e : y = 0
    · rw [if_pos (by rw [cmp_eq0]; exact e), bs_ (xz_80 h 38 1 (Or.inr rfl)), bs_ (yi_80 _ 38), if_neg (by rw [stI_s]; decide)]
      refine ⟨_, _, rfl, (Eqv.refl h).si rfl, rfl, ?_⟩
      rw [show opS 24 x y = none from by simp [opS, e]]
      exact Or.inl (stI_s _ _ _ _)
    · rw [if_neg (by rw [cmp_eq0]; exact e), bs_ (xz_80 h 38 0 (Or.inl rfl)), bs_ (yi_80 _ 38), if_pos (stI_s _ _ _ _), bs_ (show nzJ y = some () from if_neg e)]
      refine ⟨_, _, rfl, ?_⟩
      rw [show opS 24 x y = bd9 (rmJ x y) from by simp [opS, e]]
      exact RkM.flag0
  · rw [if_neg (by decide), if_neg (by decide), if_neg (by decide), if_neg (by decide), if_neg (by decide), if_pos (by decide)]
    rw [show opS 25 x y = some (if x < y then 1 else 0) from rfl]
    by_cases e : y ≤ x
    · rw [if_pos (by rw [cmp_ge0]; exact e), if_neg (Int64.not_lt.mpr e)]
      exact ⟨_, _, rfl, RkM.one hb (Or.inl rfl)⟩
    · rw [if_neg (by rw [cmp_ge0]; exact e), if_pos (Int64.not_le.mp e)]
      exact ⟨_, _, rfl, RkM.one hb (Or.inr rfl)⟩
  · rw [if_neg (by decide), if_neg (by decide), if_neg (by decide), if_neg (by decide), if_neg (by decide), if_neg (by decide), if_pos (by decide)]
    rw [show opS 26 x y = some (if y < x then 1 else 0) from rfl]
    by_cases e : x ≤ y
    · rw [if_pos (by rw [cmp_le0]; exact e), if_neg (Int64.not_lt.mpr e)]
      exact ⟨_, _, rfl, RkM.one hb (Or.inl rfl)⟩
    · rw [if_neg (by rw [cmp_le0]; exact e), if_pos (Int64.not_le.mp e)]
      exact ⟨_, _, rfl, RkM.one hb (Or.inr rfl)⟩
  · rw [if_neg (by decide), if_neg (by decide), if_neg (by decide), if_neg (by decide), if_neg (by decide), if_neg (by decide), if_neg (by decide)]
    rw [show opS 27 x y = some (if x = y then 1 else 0) from rfl]
    by_cases e : x = y
    · rw [if_pos (by rw [cmp_eq0]; exact e), if_pos e]
      exact ⟨_, _, rfl, RkM.one hb (Or.inr rfl)⟩
    · rw [if_neg (by rw [cmp_eq0]; exact e), if_neg e]
      exact ⟨_, _, rfl, RkM.one hb (Or.inl rfl)⟩
theorem pM_bin (rc : Nat → Int32 → Int32 → Int32 → AH → Option ((Nat × Int32) × AH)) (h : AH) {to dp i op : Nat} (a : Int32) (hd : dp + 2 < 400) (ho : 20 ≤ op) (ho2 : op < 28) (hb : h.2.1 80 38 = 0) : ∃ h', Eqv PM h h' ∧ (∀ t, t < dp → h'.2.2.1 100 t = h.2.2.1 100 t) ∧ f_X11_reckonAll_l10_j95 S_1 rc 80 (nI to) (nI (dp + 2)) (nI i) (nI op) a h = rc 80 (nI to) (nI (dp + 1)) (nI (i + 1)) h' ∧ match opS op (h.2.2.1 100 dp) (h.2.2.1 100 (dp + 1)) with
    | some v => h'.2.1 80 38 = 0 ∧ h'.2.2.1 100 dp = v
    | none => h'.2.1 80 38 = 1 := by
  obtain ⟨v, h2, e1, e2, e3, e4⟩ := pM_reckon h (h.2.2.1 100 dp) (h.2.2.1 100 (dp + 1)) ho ho2 hb
  have n1 : (20 : Int32) ≤ nI op := by rw [show (20 : Int32) = nI 20 from rfl, nn_le (by decide) (by omega)]; exact ho
  have n2 : ¬ (28 : Int32) ≤ nI op := by rw [show (28 : Int32) = nI 28 from rfl, nn_le (by decide) (by omega)]; omega
  have p1 : nI (dp + 2) + (-1 : Int32) = nI (dp + 1) := nI_p1
  have keep : ∀ t, t < dp → (stJ h2 100 dp v).2.2.1 100 t = h.2.2.1 100 t := fun t ht => by
    show u2 _ _ _ _ _ _ = _
    unfold u2
    rw [if_neg (by omega), e3]
  have fl : (stJ h2 100 dp v).2.1 80 38 = h2.2.1 80 38 := rfl
  have va : aJ S_1 (stJ h2 100 dp v) 100 (nI dp) = some v := by
    rw [ai_100 _ (show dp < 400 by omega)]
    exact congrArg some (stJ_s _ _ _ _)
  unfold f_X11_reckonAll_l10_j95
  rw [lt_e, if_pos n1, if_neg n2, lt_e, p1, nI_m1, bs_ (yr_80_37 h), bs_ (yr_80_37 h), bs_ (ai_100 h (by omega)), bs_ (yr_80_37 h), bs_ (ai_100 h (by omega)), bs_ (ck_80 h), bs_ e1]
  dsimp only
  rw [bs_ (si_100 h2 _ (by omega)), bs_ (yi_80 _ 38), fl]
  have E1 : Eqv PM h (stJ h2 100 dp v) := e2.sj (PM_100 dp)
  by_cases eb : h2.2.1 80 38 = 0
  · rw [if_pos eb, bs_ (yr_80_37 _), bs_ va, bs_ (x_in _ _ _ _ _)]
    dsimp only
    by_cases ei : (-1000000000 : Int64) ≤ v ∧ v ≤ 1000000000
    · rw [decide_eq_true ei, if_neg (by decide), bs_ (xz_80 _ 38 0 (Or.inl rfl)), nI_1]
      refine ⟨_, E1.si rfl, keep, rfl, ?_⟩
      cases eo : opS op (h.2.2.1 100 dp) (h.2.2.1 100 (dp + 1)) with
      | some u =>
        rw [eo] at e4
        exact ⟨stI_s _ _ _ _, (stJ_s h2 100 dp v).trans e4.2.1⟩
      | none =>
        rw [eo] at e4
        rcases e4 with e4 | ⟨-, e4⟩
        · rw [eb] at e4
          cases e4
        · exact absurd ei e4
    · rw [decide_eq_false ei, if_pos (show bI false = 0 from rfl), bs_ (xz_80 _ 38 1 (Or.inr rfl)), nI_1]
      refine ⟨_, E1.si rfl, keep, rfl, ?_⟩
      cases eo : opS op (h.2.2.1 100 dp) (h.2.2.1 100 (dp + 1)) with
      | some u =>
        rw [eo] at e4
        exact absurd e4.2.2 ei
      | none => exact stI_s _ _ _ _
  · rw [if_neg eb, bs_ (xz_80 _ 38 1 (Or.inr rfl)), nI_1]
    refine ⟨_, E1.si rfl, keep, rfl, ?_⟩
    cases eo : opS op (h.2.2.1 100 dp) (h.2.2.1 100 (dp + 1)) with
    | some u =>
      rw [eo] at e4
      exact absurd e4.1 eb
    | none => exact stI_s _ _ _ _

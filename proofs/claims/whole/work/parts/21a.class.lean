def P33 (p _j : Nat) : Bool := decide (p = 33)
theorem st33 (h : AH) (k : Nat) (v : Int32) {p : Nat} (hp : p ≠ 33) (j : Nat) : (stI h 33 k v).2.1 p j = h.2.1 p j := by
  show u2 _ _ _ _ _ _ = _
  unfold u2
  rw [if_neg fun x => hp x.1]
theorem q_tellLaw (h : AH) {s : Nat} {r : Nat → Int32} (hs : s = 3 ∨ s = 25 ∨ s = 29 ∨ s = 39) (hS : StX h s r) (hR : RoX h 2 r) (x t v : Int32) {m : Nat} (hm : m < 6) :
    ∃ h', Eqv P33 h h' ∧ f_X1_tellLaw S_1 35 s x t v (nI m) h = some ((), h') ∧ ∀ k, k < 9 → EV h' k = evL r x t v m k := by
  obtain ⟨-, -, hc, hg⟩ := hS
  obtain ⟨⟨r0, r1, r2, r3, r4, r6, r7, r8⟩, hra, hfa, hcl, hri, hhe⟩ := hR
  have c8 : h.2.1 8 m = r (72 + m) := hcl m hm
  have c9 : h.2.1 9 m = r (78 + m) := hri m hm
  have s33 : s ≠ 33 := by omega
  unfold f_X1_tellLaw
  rw [bs_ (yr_35_1 h), bs_ (yr_32_0 h), bs_ (show sI S_1 h 33 (0 : Int32) x = some (stI h 33 0 x) from si_33 _ (j := 0) _ (by decide)), bs_ (show sI S_1 (stI h 33 0 x) 33 (1 : Int32) t = some (stI (stI h 33 0 x) 33 1 t) from si_33 _ (j := 1) _ (by decide)), bs_ (show sI S_1 (stI (stI h 33 0 x) 33 1 t) 33 (2 : Int32) v = some (stI (stI (stI h 33 0 x) 33 1 t) 33 2 v) from si_33 _ (j := 2) _ (by decide)), bs_ (show sI S_1 (stI (stI (stI h 33 0 x) 33 1 t) 33 2 v) 33 (3 : Int32) (nI m) = some (stI (stI (stI (stI h 33 0 x) 33 1 t) 33 2 v) 33 3 (nI m)) from si_33 _ (j := 3) _ (by decide))]
  generalize e1 : stI (stI (stI (stI h 33 0 x) 33 1 t) 33 2 v) 33 3 (nI m) = h1
  have k1 : ∀ p j, p ≠ 33 → h1.2.1 p j = h.2.1 p j := fun p j hp => by rw [← e1, st33 _ _ _ hp, st33 _ _ _ hp, st33 _ _ _ hp, st33 _ _ _ hp]
  rw [bs_ (yr_35_0 _), bs_ (yr_2_5 _), bs_ (ai_8 _ hm), k1 8 m (by decide), c8, bs_ (show sI S_1 h1 33 (4 : Int32) (r (72 + m)) = some (stI h1 33 4 (r (72 + m))) from si_33 _ (j := 4) _ (by decide))]
  generalize e2 : stI h1 33 4 (r (72 + m)) = h2
  have k2 : ∀ p j, p ≠ 33 → h2.2.1 p j = h.2.1 p j := fun p j hp => by rw [← e2, st33 _ _ _ hp, k1 p j hp]
  rw [bs_ (yr_35_0 _), bs_ (yr_2_6 _), bs_ (ai_9 _ hm), k2 9 m (by decide), c9, bs_ (show sI S_1 h2 33 (5 : Int32) (r (78 + m)) = some (stI h2 33 5 (r (78 + m))) from si_33 _ (j := 5) _ (by decide))]
  generalize e3 : stI h2 33 5 (r (78 + m)) = h3
  have k3 : ∀ p j, p ≠ 33 → h3.2.1 p j = h.2.1 p j := fun p j hp => by rw [← e3, st33 _ _ _ hp, k2 p j hp]
  rw [bs_ (sd_i h3 2 hs), k3 s 2 s33, hc, bs_ (show sI S_1 h3 33 (6 : Int32) (r 9) = some (stI h3 33 6 (r 9)) from si_33 _ (j := 6) _ (by decide))]
  generalize e4 : stI h3 33 6 (r 9) = h4
  have k4 : ∀ p j, p ≠ 33 → h4.2.1 p j = h.2.1 p j := fun p j hp => by rw [← e4, st33 _ _ _ hp, k3 p j hp]
  rw [bs_ (sd_i h4 3 hs), k4 s 3 s33, hg, bs_ (show sI S_1 h4 33 (7 : Int32) (r 5) = some (stI h4 33 7 (r 5)) from si_33 _ (j := 7) _ (by decide))]
  generalize e5 : stI h4 33 7 (r 5) = h5
  have k5 : ∀ p j, p ≠ 33 → h5.2.1 p j = h.2.1 p j := fun p j hp => by rw [← e5, st33 _ _ _ hp, k4 p j hp]
  rw [bs_ (yr_35_0 _), bs_ (yi_2 h5 8), k5 2 8 (by decide), r7, bs_ (show sI S_1 h5 33 (8 : Int32) (r 7) = some (stI h5 33 8 (r 7)) from si_33 _ (j := 8) _ (by decide))]
  refine ⟨_, ?_, rfl, fun j hj => ?_⟩
  · rw [← e5, ← e4, ← e3, ← e2, ← e1]
    exact (((((((((Eqv.refl h).si rfl).si rfl).si rfl).si rfl).si rfl).si rfl).si rfl).si rfl).si rfl
  · rw [← e5, ← e4, ← e3, ← e2, ← e1]
    have oo : j = 0 ∨ j = 1 ∨ j = 2 ∨ j = 3 ∨ j = 4 ∨ j = 5 ∨ j = 6 ∨ j = 7 ∨ j = 8 := by omega
    rcases oo with rfl | rfl | rfl | rfl | rfl | rfl | rfl | rfl | rfl <;> simp [evL, EV, stI, u2]

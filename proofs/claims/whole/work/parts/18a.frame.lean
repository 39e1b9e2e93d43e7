/-! the pure part: what a call changes -/
def Eqv (P : Nat → Nat → Bool) (h h' : AH) : Prop := h'.1 = h.1 ∧ (∀ p j, P p j = false → h'.2.1 p j = h.2.1 p j) ∧ (∀ p j, P p j = false → h'.2.2.1 p j = h.2.2.1 p j) ∧ h'.2.2.2 = h.2.2.2
theorem Eqv.k {P : Nat → Nat → Bool} {h h' : AH} (a : Eqv P h h') : h'.1 = h.1 := a.1
theorem Eqv.i {P : Nat → Nat → Bool} {h h' : AH} (a : Eqv P h h') : ∀ p j, P p j = false → h'.2.1 p j = h.2.1 p j := a.2.1
theorem Eqv.l {P : Nat → Nat → Bool} {h h' : AH} (a : Eqv P h h') : ∀ p j, P p j = false → h'.2.2.1 p j = h.2.2.1 p j := a.2.2.1
theorem Eqv.r {P : Nat → Nat → Bool} {h h' : AH} (a : Eqv P h h') : h'.2.2.2 = h.2.2.2 := a.2.2.2
theorem Eqv.refl {P : Nat → Nat → Bool} (h : AH) : Eqv P h h := ⟨rfl, fun _ _ _ => rfl, fun _ _ _ => rfl, rfl⟩
theorem Eqv.trans {P : Nat → Nat → Bool} {h h1 h2 : AH} (a : Eqv P h h1) (b : Eqv P h1 h2) : Eqv P h h2 :=
  ⟨b.k.trans a.k, fun p j n => (b.i p j n).trans (a.i p j n), fun p j n => (b.l p j n).trans (a.l p j n), b.r.trans a.r⟩
theorem Eqv.mono {P P' : Nat → Nat → Bool} {h h1 : AH} (hP : ∀ p j, P p j = true → P' p j = true) (a : Eqv P h h1) : Eqv P' h h1 :=
  ⟨a.k, fun p j n => a.i p j (by cases e : P p j with | false => rfl | true => rw [hP p j e] at n; cases n), fun p j n => a.l p j (by cases e : P p j with | false => rfl | true => rw [hP p j e] at n; cases n), a.r⟩
theorem u2_no {α : Type} {P : Nat → Nat → Bool} (f : Nat → Nat → α) {p j q i : Nat} (v : α) (hp : P p j = true) (n : P q i = false) : u2 f p j v q i = f q i := by
  unfold u2
  rw [if_neg]
  rintro ⟨rfl, rfl⟩
  rw [hp] at n
  cases n
theorem Eqv.si {P : Nat → Nat → Bool} {h h1 : AH} {p j : Nat} {v : Int32} (a : Eqv P h h1) (hp : P p j = true) : Eqv P h (stI h1 p j v) :=
  a.trans ⟨rfl, fun q i n => u2_no h1.2.1 v hp n, fun _ _ _ => rfl, rfl⟩
theorem Eqv.sj {P : Nat → Nat → Bool} {h h1 : AH} {p j : Nat} {v : Int64} (a : Eqv P h h1) (hp : P p j = true) : Eqv P h (stJ h1 p j v) :=
  a.trans ⟨rfl, fun _ _ _ => rfl, fun q i n => u2_no h1.2.2.1 v hp n, rfl⟩
theorem Eqv.rf {P : Nat → Nat → Bool} {S : SH} {h h1 : AH} (a : Eqv P h h1) (p k : Nat) : RF S h1 p k = RF S h p k := by
  unfold RF
  rw [a.r]
theorem Eqv.kd {P : Nat → Nat → Bool} {S : SH} {h h1 : AH} (a : Eqv P h h1) (p : Nat) : KD S h1 p = KD S h p := by
  unfold KD
  rw [a.k]
/-- a question: the answer v, and nothing beside P is changed -/
def Qy {α : Type} (P : Nat → Nat → Bool) (h : AH) (x : Option (α × AH)) (v : α) : Prop := ∃ h', x = some (v, h') ∧ Eqv P h h'
theorem Qy.ret {α : Type} {P : Nat → Nat → Bool} {h h1 : AH} {v : α} (a : Eqv P h h1) : Qy P h (some (v, h1)) v := ⟨h1, rfl, a⟩
theorem Qy.bind {α β : Type} {P : Nat → Nat → Bool} {h h1 : AH} {x : Option (α × AH)} {f : α × AH → Option (β × AH)} {v : α} {w : β} (a : Eqv P h h1) (q : Qy P h1 x v) (k : ∀ h2, Eqv P h h2 → Qy P h (f (v, h2)) w) : Qy P h (x.bind f) w := by
  obtain ⟨h2, rfl, e⟩ := q
  exact k h2 (a.trans e)
theorem Qy.mono {α : Type} {P P' : Nat → Nat → Bool} {h : AH} {x : Option (α × AH)} {v : α} (hP : ∀ p j, P p j = true → P' p j = true) (q : Qy P h x v) : Qy P' h x v := by
  obtain ⟨h2, rfl, e⟩ := q
  exact ⟨h2, rfl, e.mono hP⟩
theorem Qy.cast {α : Type} {P : Nat → Nat → Bool} {h : AH} {x : Option (α × AH)} {v w : α} (e : v = w) (q : Qy P h x v) : Qy P h x w := e ▸ q
/-! truth values -/
def bI (b : Bool) : Int32 := if b then 1 else 0
theorem bI_t : bI true = 1 := rfl
theorem bI_f : bI false = 0 := rfl
theorem bI_0 (b : Bool) : (bI b = 0) = (b = false) := by cases b <;> decide
theorem bI_1 (b : Bool) : (bI b = 1) = (b = true) := by cases b <;> decide
theorem bI_z (b : Bool) : isZ (bI b) = some () := by cases b <;> rfl
theorem x_in (S : SH) (a b c : Int64) (h : AH) : f_X11_in S a b c h = some (bI (decide (b ≤ a ∧ a ≤ c)), h) := by
  unfold f_X11_in
  by_cases h1 : b ≤ a
  · rw [if_neg (by rw [lg_cmp_lt]; exact Int64.not_lt.mpr h1)]
    by_cases h2 : a ≤ c
    · rw [if_neg (by rw [lg_cmp_gt]; exact Int64.not_lt.mpr h2)]
      simp [h1, h2, bI]
    · rw [if_pos (by rw [lg_cmp_gt]; exact Int64.not_le.mp h2)]
      simp [h1, h2, bI]
  · rw [if_pos (by rw [lg_cmp_lt]; exact Int64.not_le.mp h1)]
    simp [h1, bI]
theorem i64_le (x y : Int32) : (Int32.toInt64 x ≤ Int32.toInt64 y) = (x ≤ y) := by
  simp [Int64.le_iff_toInt_le, Int32.le_iff_toInt_le]
theorem x_in_I (S : SH) (a b c : Int32) (h : AH) : f_X11_in S (Int32.toInt64 a) (Int32.toInt64 b) (Int32.toInt64 c) h = some (bI (decide (b ≤ a ∧ a ≤ c)), h) := by
  rw [x_in]
  simp only [i64_le]
theorem x_bounded (S : SH) (a : Int64) (b c : Int32) (h : AH) : f_X11_bounded S a b c h = some (if a < Int32.toInt64 b then b else if Int32.toInt64 c < a then c else Int64.toInt32 a, h) := by
  unfold f_X11_bounded
  simp only [lg_cmp_ge, lg_cmp_le]
  by_cases h1 : a < Int32.toInt64 b
  · rw [if_neg (Int64.not_le.mpr h1), if_pos h1]
  · rw [if_pos (Int64.not_lt.mp h1), if_neg h1]
    by_cases h2 : Int32.toInt64 c < a
    · rw [if_neg (Int64.not_le.mpr h2), if_pos h2]
    · rw [if_pos (Int64.not_lt.mp h2), if_neg h2]
/-! bits -/
def isB (s : Int32) (k : Nat) : Bool := decide ((s >>> (nI k &&& 31)) &&& 1 = 1)
theorem x_is (S : SH) (s : Int32) (k : Nat) (h : AH) : f_X11_is S s (nI k) h = some (bI (isB s k), h) := by
  unfold f_X11_is isB bI
  by_cases e : (s >>> (nI k &&& 31)) &&& 1 = 1
  · simp [e]
  · simp [e]
/-- how many of the seven lowest bits -/
def on7 (s : Int32) : Int32 := (List.range 7).foldl (fun n k => n + ((s >>> (nI k &&& 31)) &&& 1)) 0
theorem x_ones (S : SH) (s : Int32) (h : AH) : f_X11_ones S s h = some (on7 s, h) := by
  have e : ∀ n, f_X11_ones_l4 S (n + 8) s 0 0 h = some (on7 s, h) := fun n => by
    simp only [f_X11_ones_l4, f_X11_ones_l4b, lt]
    rfl
  unfold f_X11_ones
  rw [show FU = 999992 + 8 from rfl, e]
  rfl

/-! reading: the class's small steps -/
def TkC (h : AH) (K U : Nat → Nat) (n : Nat) : Prop := h.2.1 46 3 = nI (n + 1) ∧ n ≤ 400 ∧ ∀ i, i ≤ n → h.2.1 47 i = nI (K i) ∧ h.2.1 49 i = nI (U i) ∧ K i ≤ 285 ∧ U i ≤ 1001
def PCr (p j : Nat) : Bool := decide (p = 45 ∧ (j = 3 ∨ j = 4) ∨ p = 50 ∧ j = 2 ∨ p = 51)
theorem TkC.c {h h' : AH} {K U : Nat → Nat} {n : Nat} (k : TkC h K U n) (e : Eqv PCr h h') : TkC h' K U n := by
  obtain ⟨a, b, c⟩ := k
  refine ⟨(e.i 46 3 rfl).trans a, b, fun i hi => ?_⟩
  obtain ⟨c1, c2, c3⟩ := c i hi
  exact ⟨(e.i 47 i (decide_eq_false (by omega))).trans c1, (e.i 49 i (decide_eq_false (by omega))).trans c2, c3⟩
theorem gi45 (h : AH) (k : Nat) : gI S_1 h 45 3 k = some (h.2.1 45 k) := rfl
theorem pi45 (h : AH) (k : Nat) (v : Int32) : pI S_1 h 45 3 k v = some (stI h 45 k v) := rfl
theorem gi46 (h : AH) (k : Nat) : gI S_1 h 46 9 k = some (h.2.1 46 k) := rfl
theorem gi50 (h : AH) (k : Nat) : gI S_1 h 50 8 k = some (h.2.1 50 k) := rfl
theorem pi50 (h : AH) (k : Nat) (v : Int32) : pI S_1 h 50 8 k v = some (stI h 50 k v) := rfl
theorem ck_45' (h : AH) : ckO S_1 h 45 3 = some () := rfl
theorem yr_45_0' (h : AH) : gR S_1 h 45 3 0 = some 46 := rfl
theorem yr_45_1' (h : AH) : gR S_1 h 45 3 1 = some 50 := rfl
theorem yr_46_0' (h : AH) : gR S_1 h 46 9 0 = some 47 := rfl
theorem yr_46_1' (h : AH) : gR S_1 h 46 9 1 = some 48 := rfl
theorem yr_46_2' (h : AH) : gR S_1 h 46 9 2 = some 49 := rfl
theorem yr_50_0' (h : AH) : gR S_1 h 50 8 0 = some 51 := rfl
theorem yr_50_1' (h : AH) : gR S_1 h 50 8 1 = some 52 := rfl
theorem q_kind {h : AH} {K U : Nat → Nat} {n i : Nat} (tk : TkC h K U n) (hi : i ≤ n) (e : h.2.1 45 3 = nI i) : f_X3_kind S_1 45 h = some (nI (K i), h) := by
  obtain ⟨a, b, c⟩ := tk
  unfold f_X3_kind
  rw [bs_ (gi45 h 3), e, if_neg (by rw [z_lt (by omega)]; exact id), bs_ (gi45 h 3), e, bs_ (yr_45_0' h), bs_ (gi46 h 3), a, if_neg (by rw [nn_le (by omega) (by omega)]; omega), bs_ (yr_45_0' h), bs_ (yr_46_0' h), bs_ (gi45 h 3), e, bs_ (ai_47 h (by omega)), (c i hi).1]
theorem q_num {h : AH} {K U : Nat → Nat} {n i : Nat} (tk : TkC h K U n) (hi : i ≤ n) (e : h.2.1 45 3 = nI i) : f_X3_number S_1 45 h = some (nI (U i), h) := by
  obtain ⟨a, b, c⟩ := tk
  unfold f_X3_number
  rw [bs_ (gi45 h 3), e, if_neg (by rw [z_lt (by omega)]; exact id), bs_ (gi45 h 3), e, bs_ (yr_45_0' h), bs_ (gi46 h 3), a, if_neg (by rw [nn_le (by omega) (by omega)]; omega), bs_ (yr_45_0' h), bs_ (yr_46_2' h), bs_ (gi45 h 3), e, bs_ (ai_49 h (by omega)), (c i hi).2.1]
theorem q_isNum {h : AH} {K U : Nat → Nat} {n i x y : Nat} (tk : TkC h K U n) (hi : i ≤ n) (e : h.2.1 45 3 = nI i) (hx : x < 2000) (hy : y < 2000) : f_X3_isNumber S_1 45 (nI x) (nI y) h = some (bI (decide (K i = 284 ∧ x ≤ U i ∧ U i ≤ y)), h) := by
  obtain ⟨a, b, c⟩ := tk
  obtain ⟨c1, c2, c3, c4⟩ := c i hi
  unfold f_X3_isNumber
  rw [bs_ (gi45 h 3), e, if_neg (by rw [z_lt (by omega)]; exact id), bs_ (gi45 h 3), e, bs_ (yr_45_0' h), bs_ (gi46 h 3), a, if_neg (by rw [nn_le (by omega) (by omega)]; omega), bs_ (yr_45_0' h), bs_ (yr_46_0' h), bs_ (gi45 h 3), e, bs_ (ai_47 h (by omega)), c1]
  by_cases d : K i = 284
  · rw [if_pos (by rw [d]; rfl), bs_ (yr_45_0' h), bs_ (yr_46_2' h), bs_ (gi45 h 3), e, bs_ (ai_49 h (by omega)), c2]
    by_cases d2 : U i < x
    · rw [if_pos (by rw [nn_lt (by omega) (by omega)]; exact d2), decide_eq_false (by omega)]; rfl
    · rw [if_neg (by rw [nn_lt (by omega) (by omega)]; exact d2), bs_ (yr_45_0' h), bs_ (yr_46_2' h), bs_ (gi45 h 3), e, bs_ (ai_49 h (by omega)), c2]
      by_cases d3 : y < U i
      · rw [if_pos (by rw [nn_lt (by omega) (by omega)]; exact d3), decide_eq_false (by omega)]; rfl
      · rw [if_neg (by rw [nn_lt (by omega) (by omega)]; exact d3), decide_eq_true (by omega)]; rfl
  · rw [if_neg (by rw [show (284 : Int32) = nI 284 from rfl, nn_eq (by omega) (by decide)]; exact d), decide_eq_false (by omega)]; rfl
theorem q_next3 {h : AH} {i : Nat} (e : h.2.1 45 3 = nI i) : f_X3_next S_1 45 h = some ((), stI h 45 3 (nI (i + 1))) := by
  unfold f_X3_next
  rw [bs_ (gi45 h 3), e, nI_1, bs_ (pi45 h 3 _)]
theorem q_emit {h : AH} {c : Nat} (e : h.2.1 50 2 = nI c) (hc : c < 400) (x y : Int32) : f_X3_emit S_1 45 x y h = some ((), stI (stI h 51 c (emV x y)) 50 2 (nI (c + 1))) := by
  unfold f_X3_emit
  rw [bs_ (yr_45_1' h), bs_ (gi50 h 2), e, if_neg (by rw [z_lt (by omega)]; exact id), bs_ (yr_45_1' h), bs_ (gi50 h 2), e, bs_ (yr_45_1' h), bs_ (yr_50_0' h), bs_ (show lnA S_1 h 51 = some (nI 400) from rfl), if_neg (by rw [nn_le (by decide) (by omega)]; omega), bs_ (yr_45_1' h), bs_ (yr_50_0' h), bs_ (yr_45_1' h), bs_ (gi50 h 2), e, bs_ (si_51 h _ hc)]
  generalize eh1 : stI h 51 c ((x <<< ((10 : Int32) &&& (31 : Int32))) ||| (y &&& (1023 : Int32))) = h1
  have e1 : h1.2.1 50 2 = nI c := by rw [← eh1, ri_p (by decide)]; exact e
  rw [bs_ (yr_45_1' h1), bs_ (gi50 h1 2), e1, nI_1, bs_ (pi50 h1 2 _), ← eh1]
  rfl
theorem q_leap0 (h : AH) : f_X3_leapHere S_1 45 (-1) h = some ((), h) := by
  unfold f_X3_leapHere
  rw [if_pos (by decide)]
theorem q_leap {h : AH} {a c : Nat} (e : h.2.1 50 2 = nI c) (ha : a < 400) : f_X3_leapHere S_1 45 (nI a) h = some ((), stI h 51 a (h.2.1 51 a ||| (nI c &&& 1023))) := by
  unfold f_X3_leapHere
  rw [if_neg (by rw [z_lt (by omega)]; exact id), bs_ (yr_45_1' h), bs_ (yr_50_0' h), bs_ (show lnA S_1 h 51 = some (nI 400) from rfl), if_neg (by rw [nn_le (by decide) (by omega)]; omega), bs_ (yr_45_1' h), bs_ (yr_50_0' h), bs_ (ai_51 h ha), bs_ (yr_45_1' h), bs_ (gi50 h 2), e, bs_ (si_51 h _ ha)]
/-- what the class's reader stands at -/
def CS (h : AH) (K U : Nat → Nat) (n : Nat) (ord : Bool) (i lv c : Nat) : Prop := TkC h K U n ∧ TkN K n ∧ h.2.1 45 2 = bI (!ord) ∧ h.2.1 45 3 = nI i ∧ i ≤ n ∧ h.2.1 45 4 = nI lv ∧ lv ≤ 50 ∧ h.2.1 50 2 = nI c ∧ c ≤ i
def RX (Q : (Nat → Int32) → Nat → Nat → Nat → DD → Nat → Prop) (h : AH) (i lv c : Nat) (r : Rs) (res : Option (Int32 × AH)) : Prop := match r with
  | .inl j => ∃ h', res = some (0, h') ∧ Eqv PCr h h' ∧ h'.2.1 45 3 = nI j
  | .inr (i', lv', d) => ∃ h' c', res = some (1, h') ∧ Eqv PCr h h' ∧ h'.2.1 45 3 = nI i' ∧ h'.2.1 45 4 = nI lv' ∧ h'.2.1 50 2 = nI c' ∧ c' + i ≤ c + i' ∧ (∀ j, j < c → h'.2.1 51 j = h.2.1 51 j) ∧ ∃ N, Q (h'.2.1 51) N c c' d (lv' - lv)
theorem PCr_o {p j : Nat} (h : p = 45 ∧ (j = 3 ∨ j = 4) ∨ p = 50 ∧ j = 2 ∨ p = 51) : PCr p j = true := decide_eq_true h
theorem CS.to {h h' : AH} {K U : Nat → Nat} {n i lv c i' lv' c' : Nat} {ord : Bool} (k : CS h K U n ord i lv c) (e : Eqv PCr h h') (e1 : h'.2.1 45 3 = nI i') (h1 : i' ≤ n) (e2 : h'.2.1 45 4 = nI lv') (h2 : lv' ≤ 50) (e3 : h'.2.1 50 2 = nI c') (h3 : c' ≤ i') : CS h' K U n ord i' lv' c' := by
  obtain ⟨a1, a2, a3, _⟩ := k
  exact ⟨a1.c e, a2, (e.i 45 2 rfl).trans a3, e1, h1, e2, h2, e3, h3⟩
/-- a leaf that is put down -/
theorem q_leafOk {h : AH} {K U : Nat → Nat} {n i lv c : Nat} {ord : Bool} (k : CS h K U n ord i lv c) (hi : i < n) {h1 : AH} (e1 : Eqv PCr h h1) (v3 : ∃ i1, i ≤ i1 ∧ i1 ≤ i + 1 ∧ h1.2.1 45 3 = nI i1) (v4 : h1.2.1 45 4 = nI (lv + 1)) (v2 : h1.2.1 50 2 = nI c) (o : ∀ j, j < c → h1.2.1 51 j = h.2.1 51 j) {i' x y : Nat} (hi1 : i + 1 ≤ i') (hx : x < 300) (hy : y < 1024) {d : DD} (q : (x = 284 ∧ d = fun _ => some (Int32.toInt64 (nI y))) ∨ (x = 283 ∧ y < 25 ∧ d = fun e => some (e y))) : ∀ h2 : AH, h2 = stI (stI (stI h1 51 c (emV (nI x) (nI y))) 50 2 (nI (c + 1))) 45 3 (nI i') → RX SumX h i lv c (.inr (i', lv + 1, d)) (some (1, h2)) := by
  intro h2 hh2
  have cN : c < 400 := by
    have := k.1.2.1
    have := k.2.2.2.2.2.2.2.2
    omega
  refine ⟨h2, c + 1, rfl, ?_, ?_, ?_, ?_, by omega, fun j hj => ?_, 1, ?_⟩
  · rw [hh2]
    exact ((e1.si (PCr_o (by omega))).si (PCr_o (by omega))).si (PCr_o (by omega))
  · rw [hh2, stI_s]
  · rw [hh2, ri_k (by decide), ri_p (by decide), ri_p (by decide)]; exact v4
  · rw [hh2, ri_p (by decide), stI_s]
  · rw [hh2, ri_p (by decide), ri_p (by decide), ri_k (by omega)]; exact o j hj
  · obtain ⟨w1, w2⟩ := em_ok hx hy
    have e : h2.2.1 51 c = emV (nI x) (nI y) := by rw [hh2, ri_p (by decide), ri_p (by decide), stI_s]
    refine Or.inl ⟨rfl, by omega, ?_⟩
    rw [e, w1, w2]
    rcases q with ⟨rfl, hd⟩ | ⟨rfl, hy2, hd⟩
    · exact Or.inl ⟨y, hy, rfl, rfl, hd⟩
    · exact Or.inr ⟨y, hy2, rfl, rfl, hd⟩
theorem sub_270 {x : Nat} (h : 270 ≤ x) : nI x - (270 : Int32) = nI (x - 270) := by
  have := nI_sub' (x - 270) 270
  rwa [show x - 270 + 270 = x by omega] at this
theorem q_leaf {h : AH} {K U : Nat → Nat} {n i lv c : Nat} {ord : Bool} (k : CS h K U n ord i lv c) (rs : Nat → Nat → Int32 → AH → Option (Int32 × AH)) (x1 : Int32) (h91 : K i ≠ 91) : RX SumX h i lv c (leafS K U ord i lv) (f_X3_part S_1 rs 45 x1 h) := by
  obtain ⟨tk, tn, v2, v3, hi, v4, hlv, v5, hc⟩ := id k
  have ki := (tk.2.2 i hi).2.2
  have n4 := tk.2.1
  unfold f_X3_part leafS
  rw [bs_ (ck_45' h), bs_ (q_kind tk hi v3)]
  dsimp only
  rw [if_neg (show ¬ nI (K i) = (91 : Int32) by rw [show (91 : Int32) = nI 91 from rfl, nn_eq (by omega) (by decide)]; exact h91), bs_ (gi45 h 4), v4]
  by_cases c0 : lv < 50
  · rw [if_pos (show nI lv < (50 : Int32) by rw [show (50 : Int32) = nI 50 from rfl, nn_lt (by omega) (by decide)]; exact c0), if_pos c0, bs_ (gi45 h 4), v4, nI_1, bs_ (pi45 h 4 _)]
    obtain ⟨h1, hh1⟩ : ∃ h1, h1 = stI h 45 4 (nI (lv + 1)) := ⟨_, rfl⟩
    have e1 : Eqv PCr h h1 := by rw [hh1]; exact (Eqv.refl h).si (PCr_o (by omega))
    have tk1 := tk.c e1
    have u2 : h1.2.1 45 2 = bI (!ord) := (e1.i 45 2 rfl).trans v2
    have u3 : h1.2.1 45 3 = nI i := by rw [hh1, ri_k (by decide)]; exact v3
    have u4 : h1.2.1 45 4 = nI (lv + 1) := by rw [hh1, stI_s]
    have u5 : h1.2.1 50 2 = nI c := by rw [hh1, ri_p (by decide)]; exact v5
    have o1 : ∀ j, j < c → h1.2.1 51 j = h.2.1 51 j := fun j _ => by rw [hh1, ri_p (by decide)]
    rw [← hh1, bs_ (ck_45' h1), bs_ (show f_X3_isNumber S_1 45 (0 : Int32) (1000 : Int32) h1 = _ from q_isNum (x := 0) (y := 1000) tk1 hi u3 (by decide) (by decide))]
    dsimp only
    have put : ∀ x y i1 : Nat, i < n → i ≤ i1 → i1 ≤ i + 1 → x < 300 → y < 1024 → ∀ g : AH, Eqv PCr h g → g.2.1 45 3 = nI i1 → g.2.1 45 4 = nI (lv + 1) → g.2.1 50 2 = nI c → (∀ j, j < c → g.2.1 51 j = h.2.1 51 j) → ∀ d : DD, (x = 284 ∧ d = fun _ => some (Int32.toInt64 (nI y))) ∨ (x = 283 ∧ y < 25 ∧ d = fun e => some (e y)) → RX SumX h i lv c (.inr (i1 + 1, lv + 1, d)) ((f_X3_emit S_1 45 (nI x) (nI y) g).bind fun z => match z with
          | (_, h_7) => (ckO S_1 h_7 45 3).bind fun _ => (f_X3_next S_1 45 h_7).bind fun z => match z with
            | (_, h_10) => some ((1 : Int32), h_10)) := fun x y i1 hin h1 h2 hx hy g eg g3 g4 g5 og d q => by
      have cN : c < 400 := by omega
      rw [bs_ (q_emit g5 cN _ _)]
      dsimp only
      rw [bs_ (ck_45' _), bs_ (q_next3 (i := i1) (by rw [ri_p (by decide), ri_p (by decide)]; exact g3))]
      exact q_leafOk k hin eg ⟨i1, h1, h2, g3⟩ g4 g5 og (by omega) hx hy q _ rfl
    have key : ∀ (i' : Nat) (d : DD) (X : Option (Int32 × AH)), RX SumX h i lv c (.inr (i', lv + 1, d)) X → RX SumX h i lv c (.inr (i', lv + 1, d)) (X.bind fun z => match z with | (a, b) => (isZ a).bind fun _ => some (a, b)) := fun i' d X hX => by
      obtain ⟨g, cc, r, x⟩ := hX
      rw [bs_ r]
      exact ⟨g, cc, rfl, x⟩
    have fail : ∀ g : AH, Eqv PCr h g → ∀ j, g.2.1 45 3 = nI j → RX SumX h i lv c (.inl j) (some ((0 : Int32), g)) := fun g eg j hj => ⟨g, rfl, eg, hj⟩
    by_cases c1 : K i = 284 ∧ U i ≤ 1000
    · have hin := tn.lt hi (by omega)
      rw [if_pos c1, decide_eq_true (show K i = 284 ∧ 0 ≤ U i ∧ U i ≤ 1000 from ⟨c1.1, Nat.zero_le _, c1.2⟩), if_neg (show ¬ bI true = 0 by decide), bs_ (ck_45' h1), bs_ (q_num tk1 hi u3)]
      dsimp only
      rw [bs_ (ck_45' h1)]
      exact put 284 (U i) i hin (Nat.le_refl i) (by omega) (by decide) (by omega) h1 e1 u3 u4 u5 o1 _ (Or.inl ⟨rfl, rfl⟩)
    · rw [if_neg c1, decide_eq_false (fun z => c1 ⟨z.1, z.2.2⟩), if_pos (show bI false = 0 from rfl), bs_ (gi45 h1 2), u2]
      cases ord with
      | false =>
        rw [if_neg (show ¬ bI (!false) = 0 by decide), bs_ (ck_45' h1), if_neg (show ¬ false = true by decide)]
        unfold f_X3_lawWord
        rw [bs_ (ck_45' h1), bs_ (q_kind tk1 hi u3)]
        dsimp only
        by_cases c2 : 270 ≤ K i ∧ K i ≤ 278
        · have hin := tn.lt hi (by omega)
          rw [if_pos c2, if_neg (show ¬ nI (K i) < (270 : Int32) by rw [show (270 : Int32) = nI 270 from rfl, nn_lt (by omega) (by decide)]; omega), if_pos (show nI (K i) ≤ (278 : Int32) by rw [show (278 : Int32) = nI 278 from rfl, nn_le (by omega) (by decide)]; omega), bs_ (ck_45' h1), sub_270 c2.1]
          exact key _ _ _ (put 283 (K i - 270) i hin (Nat.le_refl i) (by omega) (by decide) (by omega) h1 e1 u3 u4 u5 o1 _ (Or.inr ⟨rfl, by omega, rfl⟩))
        · rw [if_neg c2]
          by_cases c3 : K i < 270
          · rw [if_pos (show nI (K i) < (270 : Int32) by rw [show (270 : Int32) = nI 270 from rfl, nn_lt (by omega) (by decide)]; omega), ob]
            exact fail h1 e1 i u3
          · rw [if_neg (show ¬ nI (K i) < (270 : Int32) by rw [show (270 : Int32) = nI 270 from rfl, nn_lt (by omega) (by decide)]; omega), if_neg (show ¬ nI (K i) ≤ (278 : Int32) by rw [show (278 : Int32) = nI 278 from rfl, nn_le (by omega) (by decide)]; omega), ob]
            exact fail h1 e1 i u3
      | true =>
        rw [if_pos (show bI (!true) = 0 from rfl), bs_ (ck_45' h1), if_pos rfl]
        unfold f_X3_orderWord
        rw [bs_ (ck_45' h1), bs_ (q_kind tk1 hi u3)]
        dsimp only
        have nk : ∀ m : Nat, m < 300 → (nI (K i) = nI m) = (K i = m) := fun m hm => nn_eq (by omega) (by omega)
        have two : i < n → ∀ (lim base : Nat) (x1 : Int32), lim < 10 → base + lim < 25 → (x1 = 271 ∧ base = 18 ∨ x1 ≠ 271 ∧ base = 12) → RX SumX h i lv c (if K (i + 1) = 284 ∧ U (i + 1) ≤ lim then .inr (i + 2, lv + 1, fun e => some (e (base + U (i + 1)))) else .inl (i + 1)) ((f_X3_orderWord_j38 S_1 45 x1 45 (0 : Int32) (nI lim) (stI h1 45 3 (nI (i + 1)))).bind fun z => match z with
            | (z_21, h_20) => (isZ z_21).bind fun _ => some (z_21, h_20)) := fun hin lim base x1 hl hb hx => by
          obtain ⟨h3, hh3⟩ : ∃ h3, h3 = stI h1 45 3 (nI (i + 1)) := ⟨_, rfl⟩
          have e3 : Eqv PCr h h3 := by rw [hh3]; exact e1.si (PCr_o (by omega))
          have tk3 := tk.c e3
          have w3 : h3.2.1 45 3 = nI (i + 1) := by rw [hh3, stI_s]
          have w4 : h3.2.1 45 4 = nI (lv + 1) := by rw [hh3, ri_k (by decide)]; exact u4
          have w5 : h3.2.1 50 2 = nI c := by rw [hh3, ri_p (by decide)]; exact u5
          have o3 : ∀ j, j < c → h3.2.1 51 j = h.2.1 51 j := fun j hj => by rw [hh3, ri_p (by decide)]; exact o1 j hj
          have ki3 := (tk3.2.2 (i + 1) (by omega)).2.2
          rw [← hh3]
          unfold f_X3_orderWord_j38
          rw [bs_ (ck_45' h3), bs_ (show f_X3_isNumber S_1 45 (0 : Int32) (nI lim) h3 = _ from q_isNum (x := 0) (y := lim) tk3 (by omega) w3 (by decide) (by omega))]
          dsimp only
          by_cases c5 : K (i + 1) = 284 ∧ U (i + 1) ≤ lim
          · rw [if_pos c5, decide_eq_true (show K (i + 1) = 284 ∧ 0 ≤ U (i + 1) ∧ U (i + 1) ≤ lim from ⟨c5.1, Nat.zero_le _, c5.2⟩), if_neg (show ¬ bI true = 0 by decide)]
            have hin2 := tn.lt (show i + 1 ≤ n by omega) (by omega)
            have fin : ∀ x y : Nat, x = 283 → y = base + U (i + 1) → RX SumX h i lv c (.inr (i + 2, lv + 1, fun e => some (e (base + U (i + 1))))) (((f_X3_emit S_1 45 (nI x) (nI y) h3).bind fun z => match z with
                | (_, h_7) => (ckO S_1 h_7 45 3).bind fun _ => (f_X3_next S_1 45 h_7).bind fun z => match z with
                  | (_, h_10) => some ((1 : Int32), h_10)).bind fun z => match z with
              | (z_21, h_20) => (isZ z_21).bind fun _ => some (z_21, h_20)) := fun x y hx hy => by
              subst hx hy
              exact key _ _ _ (put 283 (base + U (i + 1)) (i + 1) hin (by omega) (Nat.le_refl _) (by decide) (by omega) h3 e3 w3 w4 w5 o3 (fun e => some (e (base + U (i + 1)))) (Or.inr ⟨rfl, by omega, rfl⟩))
            rcases hx with ⟨hx, hb2⟩ | ⟨hx, hb2⟩
            · rw [if_pos hx, bs_ (ck_45' h3), bs_ (q_num tk3 (by omega) w3)]
              dsimp only
              rw [bs_ (ck_45' h3), show (18 : Int32) + nI (U (i + 1)) = nI (base + U (i + 1)) by rw [hb2]; exact nI_add 18 _]
              exact fin 283 _ rfl rfl
            · rw [if_neg hx, bs_ (ck_45' h3), bs_ (q_num tk3 (by omega) w3)]
              dsimp only
              rw [bs_ (ck_45' h3), show (12 : Int32) + nI (U (i + 1)) = nI (base + U (i + 1)) by rw [hb2]; exact nI_add 12 _]
              exact fin 283 _ rfl rfl
          · rw [if_neg c5, decide_eq_false (fun z => c5 ⟨z.1, z.2.2⟩), if_pos (show bI false = 0 from rfl), ob]
            exact fail h3 e3 (i + 1) w3
        by_cases c2 : K i = 271
        · have hin := tn.lt hi (by omega)
          rw [if_pos c2, if_pos (show nI (K i) = (271 : Int32) by rw [c2]; rfl)]
          unfold f_X3_orderWord_j19
          rw [bs_ (ck_45' h1), bs_ (q_next3 u3)]
          dsimp only
          rw [if_pos (show nI (K i) = (271 : Int32) by rw [c2]; rfl)]
          exact two hin 6 18 _ (by decide) (by decide) (Or.inl ⟨by rw [c2]; rfl, rfl⟩)
        · rw [if_neg c2, if_neg (show ¬ nI (K i) = (271 : Int32) by rw [show (271 : Int32) = nI 271 from rfl, nk 271 (by decide)]; exact c2)]
          by_cases c3 : K i = 282
          · have hin := tn.lt hi (by omega)
            rw [if_pos c3, if_pos (show nI (K i) = (282 : Int32) by rw [c3]; rfl)]
            unfold f_X3_orderWord_j19
            rw [bs_ (ck_45' h1), bs_ (q_next3 u3)]
            dsimp only
            rw [if_neg (show ¬ nI (K i) = (271 : Int32) by rw [c3]; decide)]
            exact two hin 5 12 _ (by decide) (by decide) (Or.inr ⟨by rw [c3]; decide, rfl⟩)
          · rw [if_neg c3, if_neg (show ¬ nI (K i) = (282 : Int32) by rw [show (282 : Int32) = nI 282 from rfl, nk 282 (by decide)]; exact c3)]
            have one : (K i = 276 ∨ K i = 277 ∨ K i = 279 ∨ K i = 280 ∨ K i = 281) → RX SumX h i lv c (if K i = 276 ∨ K i = 277 ∨ K i = 279 ∨ K i = 280 ∨ K i = 281 then .inr (i + 1, lv + 1, fun e => some (e (K i - 270))) else .inl i) (((ckO S_1 h1 45 3).bind fun _ => (f_X3_emit S_1 45 (283 : Int32) (nI (K i) - (270 : Int32)) h1).bind fun z => match z with
                | (_, h_7) => (ckO S_1 h_7 45 3).bind fun _ => (f_X3_next S_1 45 h_7).bind fun z => match z with
                  | (_, h_10) => some ((1 : Int32), h_10)).bind fun z => match z with
              | (z_21, h_20) => (isZ z_21).bind fun _ => some (z_21, h_20)) := fun hk => by
              have hin := tn.lt hi (by omega)
              rw [if_pos hk, bs_ (ck_45' h1), sub_270 (by omega)]
              exact key _ _ _ (put 283 (K i - 270) i hin (Nat.le_refl i) (by omega) (by decide) (by omega) h1 e1 u3 u4 u5 o1 (fun e => some (e (K i - 270))) (Or.inr ⟨rfl, by omega, rfl⟩))
            by_cases d1 : K i = 276
            · rw [if_pos (show nI (K i) = (276 : Int32) by rw [d1]; rfl)]
              exact one (by omega)
            · rw [if_neg (show ¬ nI (K i) = (276 : Int32) by rw [show (276 : Int32) = nI 276 from rfl, nk 276 (by decide)]; exact d1)]
              by_cases d2 : K i = 277
              · rw [if_pos (show nI (K i) = (277 : Int32) by rw [d2]; rfl)]
                exact one (by omega)
              · rw [if_neg (show ¬ nI (K i) = (277 : Int32) by rw [show (277 : Int32) = nI 277 from rfl, nk 277 (by decide)]; exact d2)]
                by_cases d3 : K i = 279
                · rw [if_pos (show nI (K i) = (279 : Int32) by rw [d3]; rfl)]
                  exact one (by omega)
                · rw [if_neg (show ¬ nI (K i) = (279 : Int32) by rw [show (279 : Int32) = nI 279 from rfl, nk 279 (by decide)]; exact d3)]
                  by_cases d4 : K i = 280
                  · rw [if_pos (show nI (K i) = (280 : Int32) by rw [d4]; rfl)]
                    exact one (by omega)
                  · rw [if_neg (show ¬ nI (K i) = (280 : Int32) by rw [show (280 : Int32) = nI 280 from rfl, nk 280 (by decide)]; exact d4)]
                    by_cases d5 : K i = 281
                    · rw [if_pos (show nI (K i) = (281 : Int32) by rw [d5]; rfl)]
                      exact one (by omega)
                    · rw [if_neg (show ¬ nI (K i) = (281 : Int32) by rw [show (281 : Int32) = nI 281 from rfl, nk 281 (by decide)]; exact d5), if_neg (by omega), ob]
                      exact fail h1 e1 i u3
  · rw [if_neg c0, if_neg (show ¬ nI lv < (50 : Int32) by rw [show (50 : Int32) = nI 50 from rfl, nn_lt (by omega) (by decide)]; exact c0)]
    exact ⟨h, rfl, Eqv.refl h, v3⟩

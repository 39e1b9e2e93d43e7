/-! the class's council, as a whole: what a question may write -/
def PX (p j : Nat) : Bool := decide (p = 33 ∨ p = 34 ∨ p = 32 ∧ j = 2 ∨ p = 35 ∧ (j = 2 ∨ j = 3))
def PV (p j : Nat) : Bool := decide (p = 33 ∨ p = 34 ∨ p = 32 ∧ j = 2)
theorem P33_V (p j : Nat) (h : P33 p j = true) : PV p j = true := decide_eq_true (Or.inl (of_decide_eq_true h))
theorem P4_V (p j : Nat) (h : P4 p j = true) : PV p j = true := decide_eq_true (Or.inr (of_decide_eq_true h))
theorem PV_X (p j : Nat) (h : PV p j = true) : PX p j = true := by
  apply decide_eq_true
  rcases of_decide_eq_true h with h | h | h
  · exact Or.inl h
  · exact Or.inr (Or.inl h)
  · exact Or.inr (Or.inr (Or.inl h))
theorem Eqv.vx {h h' : AH} (e : Eqv PV h h') : Eqv PX h h' := e.mono PV_X
theorem PX_no {p j : Nat} (h : p < 32 ∨ 35 < p) : PX p j = false := decide_eq_false (by omega)
theorem PX_35 {j : Nat} (h : j ≠ 2 ∧ j ≠ 3) : PX 35 j = false := decide_eq_false (by omega)
theorem Eqv.row {P : Nat → Nat → Bool} {h h' : AH} (e : Eqv P h h') {p : Nat} (hp : ∀ j, P p j = false) : h'.2.1 p = h.2.1 p := funext fun j => e.i p j (hp j)
theorem StX.x {h h' : AH} {s : Nat} {r : Nat → Int32} (hs : s = 3 ∨ s = 25 ∨ s = 29 ∨ s = 39) (k : StX h s r) (e : Eqv PX h h') : StX h' s r := by
  unfold StX
  rw [e.row (p := s) (fun j => PX_no (by omega)), e.row (p := s + 1) (fun j => PX_no (by omega)), e.row (p := s + 2) (fun j => PX_no (by omega))]
  exact k
theorem RoX.x {h h' : AH} {r : Nat → Int32} (k : RoX h 2 r) (e : Eqv PX h h') : RoX h' 2 r := by
  unfold RoX
  rw [e.row (p := 2) (fun j => PX_no (by omega)), e.row (p := 2 + 4) (fun j => PX_no (by omega)), e.row (p := 2 + 5) (fun j => PX_no (by omega)), e.row (p := 2 + 6) (fun j => PX_no (by omega)), e.row (p := 2 + 7) (fun j => PX_no (by omega)), e.row (p := 2 + 8) (fun j => PX_no (by omega))]
  exact k
/-- places of laws -/
def LawP (q : Nat) : Prop := q = 12 ∨ q = 13 ∨ q = 14 ∨ 110 ≤ q
def OldE (h h' : AH) : Prop := (∀ q kk, KD S_1 h q = some kk → KD S_1 h' q = some kk) ∧ (∀ q kk j, LawP q → KD S_1 h q = some kk → h'.2.1 q j = h.2.1 q j) ∧ (∀ q kk k, LawP q → KD S_1 h q = some kk → RF S_1 h' q k = RF S_1 h q k)
def FarX (h : AH) (p : Nat) : Prop := LawP p ∧ ∀ k q, gR S_1 h p 8 k = some q → LawP q
theorem OldE.refl (h : AH) : OldE h h := ⟨fun _ _ k => k, fun _ _ _ _ _ => rfl, fun _ _ _ _ _ => rfl⟩
theorem OldE.trans {h h1 h2 : AH} (a : OldE h h1) (b : OldE h1 h2) : OldE h h2 := ⟨fun q kk k => b.1 q kk (a.1 q kk k), fun q kk j l k => (b.2.1 q kk j l (a.1 q kk k)).trans (a.2.1 q kk j l k), fun q kk j l k => (b.2.2 q kk j l (a.1 q kk k)).trans (a.2.2 q kk j l k)⟩
theorem OldE.of {P : Nat → Nat → Bool} {h h' : AH} (e : Eqv P h h') (hP : ∀ q j, LawP q → P q j = false) : OldE h h' :=
  ⟨fun q kk k => (e.kd q).trans k, fun q kk j l _ => e.i q j (hP q j l), fun q kk k _ _ => e.rf q k⟩
theorem PX_law (q j : Nat) (l : LawP q) : PX q j = false := PX_no (by unfold LawP at l; omega)
theorem OldE.x {h h' : AH} (e : Eqv PX h h') : OldE h h' := OldE.of e PX_law
theorem OldE.gr {h h' : AH} (e : OldE h h') {p : Nat} (hp : LawP p) (hk : KD S_1 h p = some (0, 8)) (k : Nat) : gR S_1 h' p 8 k = gR S_1 h p 8 k := by
  unfold gR
  rw [e.1 p _ hk, hk, e.2.2 p _ k hp hk]
theorem LawX.to {h h' : AH} {p n : Nat} {f : Nat → Cl} (k : LawX h p n f) (hf : FarX h p) (e : OldE h h') : LawX h' p n f := by
  obtain ⟨k1, k2, k3, qc, qh, len, k4, k5, k6, k7, k8, k9⟩ := k
  have lc := hf.2 0 qc k4
  have lh := hf.2 1 qh k5
  have ec : h'.2.1 qc = h.2.1 qc := funext fun j => e.2.1 qc _ j lc k6
  have eh : h'.2.1 qh = h.2.1 qh := funext fun j => e.2.1 qh _ j lh k8
  refine ⟨k1, e.1 p _ k2, (e.2.1 p _ 3 hf.1 k2).trans k3, qc, qh, len, (e.gr hf.1 k2 0).trans k4, (e.gr hf.1 k2 1).trans k5, e.1 _ _ k6, k7, e.1 _ _ k8, fun c hc => ?_⟩
  rw [ec, eh]
  exact k9 c hc
theorem FarX.to {h h' : AH} {p : Nat} (hf : FarX h p) (hk : KD S_1 h p = some (0, 8)) (e : OldE h h') : FarX h' p := ⟨hf.1, fun k q hq => hf.2 k q ((e.gr hf.1 hk k).symm.trans hq)⟩
/-- what all laws keep: bars have no sum; meanings ask nine words alone; sums tell ints -/
def LwP (n : Nat) (f : Nat → Cl) : Prop := ∀ c, c < n → ((f c).2.1 = none ↔ (f c).1 = 2) ∧ (∀ s, (f c).2.1 = some s → Lo s ∧ ∀ e : Nat → Int64, (∀ k, Fit (e k)) → ∀ v, s e = some v → Fit v) ∧ ∀ t, (f c).2.2 = some t → Lo t
theorem LwP.hz {n : Nat} {f : Nat → Cl} (H : LwP n f) : ∀ c, c < n → (f c).2.1 = none → (f c).1 = 2 := fun c hc => (H c hc).1.mp
theorem LwP.lo {n : Nat} {f : Nat → Cl} (H : LwP n f) : ∀ c, c < n → (∀ s, (f c).2.1 = some s → Lo s) ∧ ∀ t, (f c).2.2 = some t → Lo t := fun c hc => ⟨fun s hs => ((H c hc).2.1 s hs).1, (H c hc).2.2⟩
theorem LwP.fit {n : Nat} {f : Nat → Cl} (H : LwP n f) {k : Nat} (hk : k ≠ 2) {e : Nat → Int64} (he : ∀ k, Fit (e k)) : ∀ {m : Nat} {v : Int64}, m ≤ n → toldS f k e m = some v → Fit v
  | 0, v, _, h => by cases h
  | m + 1, v, hm, h => by
    rw [toldS] at h
    by_cases ek : (f m).1 = k
    · rw [if_pos ek] at h
      cases ev : clV (f m) e with
      | none =>
        rw [ev] at h
        exact H.fit hk he (by omega) h
      | some x =>
        rw [ev] at h
        injection h with h
        subst h
        have H1 := H m (by omega)
        cases es : (f m).2.1 with
        | none => exact absurd (H1.1.mp es) (by omega)
        | some s =>
          have : s e = some x := by
            cases et : (f m).2.2 with
            | none =>
              rw [clV_so (Or.inl et), es] at ev
              exact ev
            | some t =>
              cases hv : t e with
              | none =>
                rw [clV_no ⟨t, et, Or.inl hv⟩] at ev
                cases ev
              | some v =>
                by_cases v0 : v = 0
                · rw [clV_no ⟨t, et, Or.inr (by rw [hv, v0])⟩] at ev
                  cases ev
                · rw [clV_so (Or.inr ⟨t, v, et, hv, v0⟩), es] at ev
                  exact ev
          exact (H1.2.1 s es).2 e he x this
    · rw [if_neg ek] at h
      exact H.fit hk he (by omega) h
theorem TstM.d01 {ord : Bool} {c a : Nat → Int32} : ∀ {n i j : Nat} {d : DD} {L : Nat}, TstM ord c a n i j d L → ∀ e v, d e = some v → v = 0 ∨ v = 1
  | 0, _, _, _, _, h => absurd h (by simp [TstM])
  | n + 1, i, j, d, L, h => by
    intro e v
    rcases h with ⟨m, j', d1, d2, L1, L2, op, h1, h2, -, ho, -, -, rfl, -⟩ | ⟨j', d1, h1, -, -, rfl⟩ | ⟨m, d1, d2, L1, L2, h1, h2, -, -, rfl, -⟩ | ⟨m, d1, d2, L1, L2, h1, h2, -, -, rfl, -⟩
    · unfold binD
      cases d1 e with
      | none => intro h; cases h
      | some x =>
        cases d2 e with
        | none => intro h; cases h
        | some y => exact fun h => opS_01 ho h
    · unfold notD
      cases e1 : d1 e with
      | none => intro h; cases h
      | some x =>
        intro h
        injection h with h
        rcases h1.d01 e x e1 with rfl | rfl
        · exact Or.inr h.symm
        · exact Or.inl h.symm
    · unfold andD
      cases e1 : d1 e with
      | none => intro h; cases h
      | some x =>
        intro h
        by_cases x0 : x = 0
        · simp [x0] at h
          exact Or.inl h.symm
        · simp [x0] at h
          exact h2.d01 e v h
    · unfold orD
      cases e1 : d1 e with
      | none => intro h; cases h
      | some x =>
        intro h
        by_cases x0 : x = 1
        · simp [x0] at h
          exact Or.inr h.symm
        · simp [x0] at h
          exact h2.d01 e v h
theorem CdM.fit {c a : Nat → Int32} {i j : Nat} {d : DD} {L : Nat} (H : CdM false c a i j d L) (e : Nat → Int64) (he : ∀ k, Fit (e k)) (v : Int64) (hv : d e = some v) : Fit v := by
  rcases H with ⟨N, H⟩ | ⟨N, H⟩
  · exact H.fit he v hv
  · rcases H.d01 e v hv with rfl | rfl
    · exact Fit.of 0
    · exact Fit.of 1
theorem LawM.P {h : AH} {L n : Nat} {f : Nat → Cl} (H : LawM h L n f) : LwP n f := by
  intro c hc
  obtain ⟨k1, k2, k3, k4⟩ := H
  obtain ⟨a1, a2, i, m, j, b1, b2, b3, b4, b5, b6, b7, b8⟩ := k4 c hc
  refine ⟨?_, ?_, ?_⟩
  · cases es : (f c).2.1 with
    | none =>
      rw [es] at b7
      exact ⟨fun _ => b7, fun _ => rfl⟩
    | some s =>
      rw [es] at b7
      exact ⟨fun x => (by cases x), fun x => absurd x b7.1⟩
  · intro s es
    rw [es] at b7
    obtain ⟨_, D, hD, hs⟩ := b7
    exact ⟨hs.lo, fun e he v hv => hs.fit e he v hv⟩
  · intro t et
    rw [et] at b8
    obtain ⟨D, N, hD, ht⟩ := b8
    exact ht.lo
theorem evL_fit (r : Nat → Int32) (x t v : Int32) (m k : Nat) : Fit (evL r x t v m k) := Fit.of _
def voV (r : Nat → Int32) (n : Nat) (f : Nat → Cl) (b m : Nat) : Int32 := if siS r n f b m then (if 5 ≤ swS r n f b m then 2 else 1) else 0
theorem bnd5 (w : Int32) : (5 ≤ bndI (Int32.toInt64 w) 0 9) = (5 ≤ w) := by
  rw [bndI_of]
  have e0 : (0 : Int32).toInt = 0 := by decide
  have e5 : (5 : Int32).toInt = 5 := by decide
  have e9 : (9 : Int32).toInt = 9 := by decide
  apply propext
  by_cases h0 : w < 0
  · rw [if_pos h0]
    have a := Int32.lt_iff_toInt_lt.mp h0
    simp only [Int32.le_iff_toInt_le]
    omega
  · rw [if_neg h0]
    by_cases h9 : 9 < w
    · rw [if_pos h9]
      have a := Int32.lt_iff_toInt_lt.mp h9
      simp only [Int32.le_iff_toInt_le]
      omega
    · rw [if_neg h9]
theorem q_vote (h : AH) {s : Nat} {r : Nat → Int32} (hs : s = 3 ∨ s = 25 ∨ s = 29 ∨ s = 39) (hS : StX h s r) (hR : RoX h 2 r) {b m p n : Nat} {f : Nat → Cl} (hb : b < 7) (hm : m < 6) (HL : LawX h p n f) (HF : FarX h p) (HP : LwP n f) : Qy PV h (f_X1_vote S_1 35 s (nI b) (nI m) p h) (voV r n f b m) := by
  unfold f_X1_vote
  rw [bs_ (sd_t h hs), bs_ (sd_a h hs hb), hS.1 b hb]
  unfold voV siS
  by_cases ea : r (10 + b) = -1
  · rw [if_pos ea]
    simp only [awS, ea, decide_true, Bool.not_true, Bool.false_and, Bool.false_eq_true, if_false]
    exact Qy.ret (Eqv.refl h)
  · rw [if_neg ea]
    have aw : awS r b = false := decide_eq_false ea
    obtain ⟨h1, e1, r1, v1⟩ := q_tellBird h hs hS hR hb hm
    have E1 := e1.mono P33_V
    have HL1 := HL.to HF (OldE.x E1.vx)
    obtain ⟨h2, e2, r2⟩ := q_holds (k := 2) (by omega) HP.hz h1 HL1
    rw [told_lo v1 HP.lo] at r2
    have E2 := E1.trans (e2.mono P4_V)
    have HL2 := HL.to HF (OldE.x E2.vx)
    rw [bs_ (ck_35 h), bs_ r1]
    dsimp only
    rw [bs_ (yr_35_1 h1), bs_ (ck_32 h1)]
    rw [aw]
    cases t2 : toldS f 2 (evB r b m) n with
    | some v =>
      rw [t2] at r2
      rw [bs_ (show f_X4_holds S_1 32 p (265 : Int32) h1 = some (1, h2) from r2.1)]
      dsimp only
      rw [if_neg (by decide)]
      exact Qy.ret E2
    | none =>
      rw [t2] at r2
      rw [bs_ (show f_X4_holds S_1 32 p (265 : Int32) h1 = some (0, h2) from r2)]
      dsimp only
      rw [if_pos rfl, bs_ (yr_35_1 h2), bs_ (ck_32 h2)]
      obtain ⟨h3, e3, r3⟩ := q_holds (k := 0) (by omega) HP.hz h2 HL2
      rw [EV_4 e2, told_lo v1 HP.lo] at r3
      have E3 := E2.trans (e3.mono P4_V)
      show Qy PV h _ (if (!false && true) = true then (if 5 ≤ swS r n f b m then 2 else 1) else 0)
      rw [if_pos (by decide)]
      unfold swS
      have fin : ∀ w : Int32, (toldS f 0 (evB r b m) n).getD (Int32.toInt64 (r (30 + 6 * b + m))) = Int32.toInt64 w → Qy PV h (if w < 5 then some ((1 : Int32), h3) else some ((2 : Int32), h3)) (if 5 ≤ bndI ((toldS f 0 (evB r b m) n).getD (Int32.toInt64 (r (30 + 6 * b + m)))) 0 9 then 2 else 1) := fun w hw => by
        rw [hw]
        by_cases e5 : w < 5
        · rw [if_pos e5, if_neg (by rw [bnd5]; exact Int32.not_le.mpr e5)]
          exact Qy.ret E3
        · rw [if_neg e5, if_pos (by rw [bnd5]; exact Int32.not_lt.mp e5)]
          exact Qy.ret E3
      cases t0 : toldS f 0 (evB r b m) n with
      | none =>
        rw [t0] at r3 fin
        rw [bs_ (show f_X4_holds S_1 32 p (263 : Int32) h2 = some (0, h3) from r3)]
        dsimp only
        rw [if_pos rfl, bs_ (yr_35_0 h3), bs_ (yr_2_3 h3), show nI b * (6 : Int32) + nI m = nI (6 * b + m) by rw [show (6 : Int32) = nI 6 from rfl, pk_mul, nI_add, Nat.mul_comm], bs_ (ai_7 h3 (by omega)), show h3.2.1 7 (6 * b + m) = r (30 + 6 * b + m) from ((hR.x E3.vx).2.2.1 (6 * b + m) (by omega)).trans (by rw [Nat.add_assoc])]
        exact fin _ rfl
      | some v =>
        rw [t0] at r3 fin
        rw [bs_ (show f_X4_holds S_1 32 p (263 : Int32) h2 = some (1, h3) from r3.1)]
        dsimp only
        rw [if_neg (by decide), bs_ (yr_35_1 h3), bs_ (yi_32 h3 2), r3.2 (by decide)]
        exact fin _ (HP.fit (by decide) (evL_fit _ _ _ _ _) (Nat.le_refl n) t0)

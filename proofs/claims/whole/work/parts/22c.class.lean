/-! the law in force, of the class -/
def InX (h : AH) (p n : Nat) (f : Nat → Cl) : Prop := (h.2.1 2 15 = -1 ∧ p = 12 ∧ n = 0 ∨ ∃ i l, h.2.1 2 15 = nI i ∧ h.2.1 2 12 = nI l ∧ i < l ∧ l ≤ 6 ∧ RF S_1 h 11 i = some p) ∧ LawX h p n f ∧ FarX h p
def Ct (h : AH) (s : Nat) (r : Nat → Int32) (p n : Nat) (f : Nat → Cl) (nb nm : Nat) : Prop := (s = 3 ∨ s = 25 ∨ s = 29 ∨ s = 39) ∧ StX h s r ∧ RoX h 2 r ∧ InX h p n f ∧ LwP n f ∧ r 0 = nI nb ∧ nb ≤ 7 ∧ r 1 = nI nm ∧ nm ≤ 6
theorem InX.x {h h' : AH} {p n : Nat} {f : Nat → Cl} (k : InX h p n f) (e : Eqv PX h h') : InX h' p n f := by
  obtain ⟨k1, k2, k3⟩ := k
  refine ⟨?_, k2.to k3 (OldE.x e), k3.to k2.2.1 (OldE.x e)⟩
  rw [e.row (p := 2) (fun j => PX_no (by omega))]
  rcases k1 with k1 | ⟨i, l, a1, a2, a3, a4, a5⟩
  · exact Or.inl k1
  · exact Or.inr ⟨i, l, a1, a2, a3, a4, (e.rf 11 i).trans a5⟩
theorem Ct.x {h h' : AH} {s : Nat} {r : Nat → Int32} {p n nb nm : Nat} {f : Nat → Cl} (k : Ct h s r p n f nb nm) (e : Eqv PX h h') : Ct h' s r p n f nb nm := by
  obtain ⟨k1, k2, k3, k4, k5⟩ := k
  exact ⟨k1, k2.x k1 e, k3.x e, k4.x e, k5⟩
theorem aR_11 {h : AH} {i : Nat} (hi : i < 6) : aR S_1 h 11 (nI i) = some (RF S_1 h 11 i) := by
  unfold aR
  rw [KD_11]
  show (if nI i < 0 ∨ 6 ≤ (nI i).toNatClampNeg then none else some (RF S_1 h 11 (nI i).toNatClampNeg)) = _
  rw [if_neg (ix_no hi (by decide)), nI_clamp (by omega)]
theorem q_lawOf1 {h : AH} {i l p : Nat} (hl : h.2.1 2 12 = nI l) (hi : i < l) (h6 : l ≤ 6) (hp : RF S_1 h 11 i = some p) : f_X6_lawOf S_1 2 (nI i) h = some (p, h) := by
  unfold f_X6_lawOf
  rw [bs_ (ck_2 h), bs_ (q_hasLaw h (nI i) hl h6)]
  dsimp only
  rw [if_neg (by rw [bI_0]; simp [nI_pos' (show i < 2 ^ 31 by omega), (nI_ltI (show i < 2 ^ 31 by omega) (show l < 2 ^ 31 by omega)).mpr hi]), bs_ (yr_2_13 h), bs_ (aR_11 (by omega)), hp]
theorem q_lawOf0 {h : AH} {l : Nat} {x : Int32} (hl : h.2.1 2 12 = nI l) (h6 : l ≤ 6) (hx : ¬ (0 ≤ x ∧ x < nI l)) : f_X6_lawOf S_1 2 x h = some (12, h) := by
  unfold f_X6_lawOf
  rw [bs_ (ck_2 h), bs_ (q_hasLaw h x hl h6)]
  dsimp only
  rw [if_pos (by rw [bI_0]; exact decide_eq_false hx), bs_ (yr_2_14 h)]
theorem q_lawInForce {h : AH} {p n l : Nat} {f : Nat → Cl} (hl : h.2.1 2 12 = nI l) (h6 : l ≤ 6) (H : InX h p n f) : f_X6_lawInForce S_1 2 h = some (p, h) := by
  unfold f_X6_lawInForce
  rw [bs_ (yi_2 h 15), bs_ (ck_2 h)]
  rcases H.1 with ⟨h1, rfl, -⟩ | ⟨i, l', h1, h2, h3, h4, h5⟩
  · rw [h1, bs_ (q_lawOf0 hl h6 (fun x => absurd x.1 (by decide)))]
  · rw [h1, bs_ (q_lawOf1 h2 h3 h4 h5)]
theorem Ct.lf {h : AH} {s : Nat} {r : Nat → Int32} {p n nb nm : Nat} {f : Nat → Cl} (k : Ct h s r p n f nb nm) : f_X6_lawInForce S_1 2 h = some (p, h) := by
  rcases k.2.2.2.1.1 with ⟨h1, h2, h3⟩ | ⟨i, l', h1, h2, h3, h4, h5⟩
  · unfold f_X6_lawInForce
    subst h2
    rw [bs_ (yi_2 h 15), bs_ (ck_2 h), h1]
    unfold f_X6_lawOf f_X6_hasLaw
    rw [bs_ (ck_2 h), if_pos (by decide), bs_ (rfl : some ((0 : Int32), h) = some (0, h))]
    dsimp only
    rw [if_pos rfl, bs_ (yr_2_14 h)]
    rfl
  · exact q_lawInForce h2 h4 k.2.2.2.1
theorem Ct.vote {h : AH} {s : Nat} {r : Nat → Int32} {p n nb nm : Nat} {f : Nat → Cl} (k : Ct h s r p n f nb nm) {b m : Nat} (hb : b < 7) (hm : m < 6) : Qy PV h (f_X1_vote S_1 35 s (nI b) (nI m) p h) (voV r n f b m) := q_vote h k.1 k.2.1 k.2.2.1 hb hm k.2.2.2.1.2.1 k.2.2.2.1.2.2 k.2.2.2.2.1
theorem mm_bnd (lo hi : Int32) (hlh : lo ≤ hi) (w : Int32) : mxI lo (mnI w hi) = bndI (Int32.toInt64 w) lo hi := by
  rw [bndI_of]
  unfold mxI mnI
  have a := Int32.le_iff_toInt_le.mp hlh
  by_cases h1 : hi < w
  · have b := Int32.lt_iff_toInt_lt.mp h1
    rw [if_pos h1]
    by_cases h2 : lo < hi
    · rw [if_pos h2, if_neg (by rw [Int32.not_lt, Int32.le_iff_toInt_le]; have := Int32.lt_iff_toInt_lt.mp h2; omega)]
    · have : lo = hi := Int32.toInt_inj.mp (by have := mt Int32.lt_iff_toInt_lt.mpr h2; omega)
      rw [if_neg h2, if_neg (by rw [Int32.not_lt, Int32.le_iff_toInt_le]; omega)]
      exact this
  · rw [if_neg h1]
    by_cases h2 : lo < w
    · rw [if_pos h2, if_neg (by rw [Int32.not_lt, Int32.le_iff_toInt_le]; have := Int32.lt_iff_toInt_lt.mp h2; omega)]
    · rw [if_neg h2]
      by_cases h3 : w < lo
      · rw [if_pos h3]
      · have : lo = w := Int32.toInt_inj.mp (by have x1 := mt Int32.lt_iff_toInt_lt.mpr h2; have x2 := mt Int32.lt_iff_toInt_lt.mpr h3; omega)
        rw [if_neg h3]
        exact this
theorem rng_bnd {lo hi w : Int32} (h1 : lo ≤ w) (h2 : w ≤ hi) : bndI (Int32.toInt64 w) lo hi = w := by
  rw [bndI_of, if_neg (Int32.not_lt.mpr h1), if_neg (Int32.not_lt.mpr h2)]
theorem Ct.swayed {h : AH} {s : Nat} {r : Nat → Int32} {p n nb nm : Nat} {f : Nat → Cl} (k : Ct h s r p n f nb nm) {b m : Nat} (hb : b < 7) (hm : m < 6) (hf : 0 ≤ r (30 + 6 * b + m) ∧ r (30 + 6 * b + m) ≤ 9) : Qy PV h (f_X1_swayed S_1 35 s (nI b) (nI m) h) (swS r n f b m) := by
  unfold f_X1_swayed swS
  obtain ⟨h1, e1, r1, v1⟩ := q_tellBird h k.1 k.2.1 k.2.2.1 hb hm
  have E1 := e1.mono P33_V
  have k1 := k.x E1.vx
  have HP := k.2.2.2.2.1
  obtain ⟨h2, e2, r2⟩ := q_holds (k := 0) (by omega) HP.hz h1 k1.2.2.2.1.2.1
  rw [told_lo v1 HP.lo] at r2
  have E2 := E1.trans (e2.mono P4_V)
  rw [bs_ (ck_35 h), bs_ r1]
  dsimp only
  rw [bs_ (yr_35_1 h1), bs_ (yr_35_0 h1), bs_ (ck_2 h1), bs_ k1.lf]
  dsimp only
  rw [bs_ (ck_32 h1)]
  cases t0 : toldS f 0 (evB r b m) n with
  | none =>
    rw [t0] at r2
    rw [bs_ (show f_X4_holds S_1 32 p (263 : Int32) h1 = some (0, h2) from r2)]
    dsimp only
    rw [if_pos rfl, bs_ (yr_35_0 h2), bs_ (yr_2_3 h2), show nI b * (6 : Int32) + nI m = nI (6 * b + m) by rw [show (6 : Int32) = nI 6 from rfl, pk_mul, nI_add, Nat.mul_comm], bs_ (ai_7 h2 (by omega)), show h2.2.1 7 (6 * b + m) = r (30 + 6 * b + m) from ((k.x E2.vx).2.2.1.2.2.1 (6 * b + m) (by omega)).trans (by rw [Nat.add_assoc])]
    refine Qy.cast ?_ (Qy.ret E2)
    exact (rng_bnd hf.1 hf.2).symm
  | some v =>
    rw [t0] at r2
    rw [bs_ (show f_X4_holds S_1 32 p (263 : Int32) h1 = some (1, h2) from r2.1)]
    dsimp only
    rw [if_neg (by decide), bs_ (yr_35_1 h2), bs_ (yi_32 h2 2), r2.2 (by decide)]
    unfold f_X1_within
    refine Qy.cast ?_ (Qy.ret E2)
    rw [mm_bnd 0 9 (by decide), ← show v = Int32.toInt64 (Int64.toInt32 v) from HP.fit (by decide) (evL_fit _ _ _ _ _) (Nat.le_refl n) t0]
    rfl
theorem Ct.takes {h : AH} {s : Nat} {r : Nat → Int32} {p n nb nm : Nat} {f : Nat → Cl} (k : Ct h s r p n f nb nm) {m : Nat} (hm : m < 6) (hf : 1 ≤ r (72 + m) ∧ r (72 + m) ≤ 9) : Qy PV h (f_X1_timeTaken S_1 35 s (nI m) h) (taS r n f m) := by
  unfold f_X1_timeTaken taS
  obtain ⟨h1, e1, r1, v1⟩ := q_tellLaw h k.1 k.2.1 k.2.2.1 (-1) (-1) (-1) hm
  have E1 := e1.mono P33_V
  have k1 := k.x E1.vx
  have HP := k.2.2.2.2.1
  obtain ⟨h2, e2, r2⟩ := q_holds (k := 1) (by omega) HP.hz h1 k1.2.2.2.1.2.1
  rw [told_lo v1 HP.lo] at r2
  have E2 := E1.trans (e2.mono P4_V)
  rw [bs_ (ck_35 h), bs_ r1]
  dsimp only
  rw [bs_ (yr_35_1 h1), bs_ (yr_35_0 h1), bs_ (ck_2 h1), bs_ k1.lf]
  dsimp only
  rw [bs_ (ck_32 h1)]
  cases t0 : toldS f 1 (evL r (-1) (-1) (-1) m) n with
  | none =>
    rw [t0] at r2
    rw [bs_ (show f_X4_holds S_1 32 p (264 : Int32) h1 = some (0, h2) from r2)]
    dsimp only
    rw [if_pos rfl, bs_ (yr_35_0 h2), bs_ (yr_2_5 h2), bs_ (ai_8 h2 (by omega)), show h2.2.1 8 m = r (72 + m) from (k.x E2.vx).2.2.1.2.2.2.1 m (by omega)]
    refine Qy.cast ?_ (Qy.ret E2)
    exact (rng_bnd hf.1 hf.2).symm
  | some v =>
    rw [t0] at r2
    rw [bs_ (show f_X4_holds S_1 32 p (264 : Int32) h1 = some (1, h2) from r2.1)]
    dsimp only
    rw [if_neg (by decide), bs_ (yr_35_1 h2), bs_ (yi_32 h2 2), r2.2 (by decide)]
    unfold f_X1_within
    refine Qy.cast ?_ (Qy.ret E2)
    rw [mm_bnd 1 9 (by decide), ← show v = Int32.toInt64 (Int64.toInt32 v) from HP.fit (by decide) (evL_fit _ _ _ _ _) (Nat.le_refl n) t0]
    rfl
theorem vo0 (r : Nat → Int32) (n : Nat) (f : Nat → Cl) (b m : Nat) : (voV r n f b m = 0) = (siS r n f b m = false) := by
  unfold voV
  cases siS r n f b m
  · simp
  · by_cases e : 5 ≤ swS r n f b m <;> simp [e] <;> decide
theorem vo2 (r : Nat → Int32) (n : Nat) (f : Nat → Cl) (b m : Nat) : (voV r n f b m = 2) = (ayS r n f b m = true) := by
  unfold voV ayS
  cases siS r n f b m
  · simp
  · by_cases e : 5 ≤ swS r n f b m <;> simp [e]
theorem si_tf {r : Nat → Int32} {n : Nat} {f : Nat → Cl} {b m : Nat} (e : ¬ voV r n f b m = 0) : siS r n f b m = true := by
  rw [vo0] at e
  exact (Bool.not_eq_false _).mp e
theorem ay_tf {r : Nat → Int32} {n : Nat} {f : Nat → Cl} {b m : Nat} (e : ¬ voV r n f b m = 2) : ayS r n f b m = false := by
  rw [vo2] at e
  exact (Bool.not_eq_true _).mp e
theorem Ct.poll {h : AH} {s : Nat} {r : Nat → Int32} {p n nb nm : Nat} {f : Nat → Cl} (k : Ct h s r p n f nb nm) {m p' n' : Nat} {f' : Nat → Cl} (hm : m < 6) (HL : LawX h p' n' f') (HF : FarX h p') (HP : LwP n' f') : ∃ h', Eqv PX h h' ∧ f_X1_poll S_1 35 s (nI m) p' h = some ((), h') ∧ h'.2.1 35 2 = setS r n' f' nb m ∧ h'.2.1 35 3 = setA r n' f' nb m := by
  have hb := k.2.2.2.2.2.1
  have h7 := k.2.2.2.2.2.2.1
  have e : ∀ (t i fu : Nat) (a a2 : Int32) (h1 : AH), Eqv PX h h1 → h1.2.1 35 2 = a → h1.2.1 35 3 = a2 → i + t = nb → t < fu → ∃ h', Eqv PX h h' ∧ f_X1_poll_l13 S_1 fu 35 s (nI m) p' (nI i) h1 = some ((), h') ∧ h'.2.1 35 2 = fo (fun s b => s ||| (if siS r n' f' b m then bt b else 0)) i t a ∧ h'.2.1 35 3 = fo (fun s b => s ||| (if ayS r n' f' b m then bt b else 0)) i t a2 := by
    intro t
    induction t with
    | zero =>
      intro i fu a a2 h1 e1 ha ha2 hk hf
      obtain ⟨fu, rfl⟩ : ∃ x, fu = x + 1 := ⟨fu - 1, by omega⟩
      have k1 := k.x e1
      rw [f_X1_poll_l13]
      unfold f_X1_poll_l13b
      rw [bs_ (yr_35_0 h1), bs_ (yi_2 h1 1), k1.2.2.1.1.1.trans hb, if_pos (by rw [nn_le (by omega) (by omega)]; omega)]
      exact ⟨h1, e1, rfl, ha, ha2⟩
    | succ t ih =>
      intro i fu a a2 h1 e1 ha ha2 hk hf
      obtain ⟨fu, rfl⟩ : ∃ x, fu = x + 1 := ⟨fu - 1, by omega⟩
      have k1 := k.x e1
      rw [f_X1_poll_l13]
      unfold f_X1_poll_l13b
      obtain ⟨h2, r2, e2⟩ := q_vote h1 k1.1 k1.2.1 k1.2.2.1 (b := i) (by omega) hm (HL.to HF (OldE.x e1)) (HF.to HL.2.1 (OldE.x e1)) HP
      have E2 := e1.trans e2.vx
      have k2 := k.x E2
      rw [bs_ (yr_35_0 h1), bs_ (yi_2 h1 1), k1.2.2.1.1.1.trans hb, if_neg (by rw [nn_le (by omega) (by omega)]; omega), bs_ (ck_35 h1), bs_ r2]
      dsimp only
      have v2 : h2.2.1 35 2 = a := (e2.i 35 2 rfl).trans ha
      have v3 : h2.2.1 35 3 = a2 := (e2.i 35 3 rfl).trans ha2
      rw [bs_ (yi_35 h2 2), v2]
      show ∃ h', Eqv PX h h' ∧ _ ∧ h'.2.1 35 2 = fo _ (i + 1) t (a ||| (if siS r n' f' i m then bt i else 0)) ∧ h'.2.1 35 3 = fo _ (i + 1) t (a2 ||| (if ayS r n' f' i m then bt i else 0))
      have j54 : ∀ sx : Int32, sx = (if siS r n' f' i m then bt i else 0) → ∃ h', Eqv PX h h' ∧ f_X1_poll_l13_j54 S_1 (f_X1_poll_l13 S_1 fu) 35 s (nI m) p' (nI i) (voV r n' f' i m) 35 a sx h2 = some ((), h') ∧ h'.2.1 35 2 = fo (fun s b => s ||| (if siS r n' f' b m then bt b else 0)) (i + 1) t (a ||| (if siS r n' f' i m then bt i else 0)) ∧ h'.2.1 35 3 = fo (fun s b => s ||| (if ayS r n' f' b m then bt b else 0)) (i + 1) t (a2 ||| (if ayS r n' f' i m then bt i else 0)) := fun sx hsx => by
        unfold f_X1_poll_l13_j54
        rw [bs_ (xi_35 h2 2 _), bs_ (yi_35 _ 3), show (stI h2 35 2 (a ||| sx)).2.1 35 3 = a2 from (ri_k (by decide)).trans v3]
        have E3 : Eqv PX h (stI h2 35 2 (a ||| sx)) := E2.si rfl
        have fin : ∀ w : Int32, w = (if ayS r n' f' i m then bt i else 0) → ∃ h', Eqv PX h h' ∧ (lt (nI i + (1 : Int32)) fun y => f_X1_poll_l13 S_1 fu 35 s (nI m) p' y (stI (stI h2 35 2 (a ||| sx)) 35 3 (a2 ||| w))) = some ((), h') ∧ h'.2.1 35 2 = fo (fun s b => s ||| (if siS r n' f' b m then bt b else 0)) (i + 1) t (a ||| (if siS r n' f' i m then bt i else 0)) ∧ h'.2.1 35 3 = fo (fun s b => s ||| (if ayS r n' f' b m then bt b else 0)) (i + 1) t (a2 ||| (if ayS r n' f' i m then bt i else 0)) := fun w hw => by
          rw [lt_e, nI_1]
          exact ih (i + 1) fu _ _ _ (E3.si rfl) ((ri_k (by decide)).trans ((stI_s h2 35 2 _).trans (by rw [hsx]))) ((stI_s _ 35 3 _).trans (by rw [hw])) (by omega) (by omega)
        by_cases e5 : voV r n' f' i m = 2
        · rw [if_pos e5, bs_ (xi_35 _ 3 _)]
          rw [vo2] at e5
          exact fin _ (by rw [e5]; rfl)
        · rw [if_neg e5, bs_ (xi_35 _ 3 _)]
          exact fin _ (by rw [ay_tf e5]; rfl)
      by_cases e0 : voV r n' f' i m = 0
      · rw [if_pos e0]
        rw [vo0] at e0
        exact j54 _ (by rw [e0]; rfl)
      · rw [if_neg e0]
        exact j54 _ (by rw [si_tf e0]; rfl)
  unfold f_X1_poll
  rw [bs_ (xi_35 h 2 _), bs_ (xi_35 _ 3 _)]
  obtain ⟨h', e1, r1, v2, v3⟩ := e nb 0 FU 0 0 (stI (stI h 35 2 0) 35 3 0) (((Eqv.refl h).si rfl).si rfl) ((ri_k (by decide)).trans (stI_s h 35 2 _)) (stI_s _ 35 3 _) (by omega) (by unfold FU; omega)
  rw [bs_ (show f_X1_poll_l13 S_1 FU 35 s (nI m) p' (0 : Int32) _ = _ from r1)]
  exact ⟨h', e1, rfl, v2, v3⟩
/-- the first below n that g says, or -1 -/
def fst (g : Nat → Bool) : Nat → Nat → Int32
  | _, 0 => -1
  | k, m + 1 => if g k then nI k else fst g (k + 1) m
theorem fst_m1 (g : Nat → Bool) : ∀ (m k : Nat), fst g k m = -1 ∨ ∃ j, k ≤ j ∧ j < k + m ∧ g j = true ∧ fst g k m = nI j
  | 0, k => Or.inl rfl
  | m + 1, k => by
    rw [fst]
    cases e : g k with
    | true => exact Or.inr ⟨k, Nat.le_refl k, by omega, e, rfl⟩
    | false =>
      rcases fst_m1 g m (k + 1) with h | ⟨j, h1, h2, h3, h4⟩
      · exact Or.inl h
      · exact Or.inr ⟨j, by omega, by omega, h3, h4⟩
def secS (r : Nat → Int32) (n : Nat) (f : Nat → Cl) (nb m b : Nat) : Int32 := fst (fun o => heS r o b && ayS r n f o m) 0 nb
theorem Ct.seconder {h : AH} {s : Nat} {r : Nat → Int32} {p n nb nm : Nat} {f : Nat → Cl} (k : Ct h s r p n f nb nm) {m b : Nat} (hm : m < 6) (hb : b < 7) : Qy PV h (f_X1_seconder S_1 35 s (nI m) (nI b) h) (secS r n f nb m b) := by
  have hn := k.2.2.2.2.2.1
  have h7 := k.2.2.2.2.2.2.1
  have e : ∀ (t i fu : Nat) (h1 : AH), Eqv PV h h1 → i + t = nb → t < fu → ∃ h', Eqv PV h h' ∧ f_X1_seconder_l3 S_1 fu 35 s (nI m) (nI b) (nI i) h1 = some (if fst (fun o => heS r o b && ayS r n f o m) i t = -1 then .inr () else .inl (fst (fun o => heS r o b && ayS r n f o m) i t), h') := by
    intro t
    induction t with
    | zero =>
      intro i fu h1 e1 hk hf
      obtain ⟨fu, rfl⟩ : ∃ x, fu = x + 1 := ⟨fu - 1, by omega⟩
      have k1 := k.x e1.vx
      rw [f_X1_seconder_l3]
      unfold f_X1_seconder_l3b
      rw [bs_ (yr_35_0 h1), bs_ (yi_2 h1 1), k1.2.2.1.1.1.trans hn, if_pos (by rw [nn_le (by omega) (by omega)]; omega)]
      exact ⟨h1, e1, rfl⟩
    | succ t ih =>
      intro i fu h1 e1 hk hf
      obtain ⟨fu, rfl⟩ : ∃ x, fu = x + 1 := ⟨fu - 1, by omega⟩
      have k1 := k.x e1.vx
      rw [f_X1_seconder_l3]
      unfold f_X1_seconder_l3b
      rw [bs_ (yr_35_0 h1), bs_ (yi_2 h1 1), k1.2.2.1.1.1.trans hn, if_neg (by rw [nn_le (by omega) (by omega)]; omega), bs_ (ck_35 h1), bs_ (q_hears h1 k1.1 k1.2.1 k1.2.2.1 (by omega) hb)]
      dsimp only
      rw [fst]
      cases eh : heS r i b with
      | false =>
        rw [if_pos (show bI false = 0 from rfl), lt_e, nI_1]
        exact ih (i + 1) fu h1 e1 (by omega) (by omega)
      | true =>
        obtain ⟨h2, r2, e2⟩ := k1.vote (b := i) (by omega) hm
        rw [if_neg (show ¬ bI true = 0 by decide), bs_ (yr_35_0 h1), bs_ (ck_2 h1), bs_ k1.lf]
        dsimp only
        rw [bs_ (ck_35 h1), bs_ r2]
        dsimp only
        by_cases e5 : voV r n f i m = 2
        · rw [if_pos e5]
          rw [vo2] at e5
          rw [e5]
          refine ⟨h2, e1.trans e2, ?_⟩
          rw [if_pos (show (true && true) = true from rfl), if_neg (by rw [nl_m1 (by omega)]; exact id)]
        · rw [if_neg e5, lt_e, nI_1]
          rw [ay_tf e5]
          exact ih (i + 1) fu h2 (e1.trans e2) (by omega) (by omega)
  unfold f_X1_seconder
  obtain ⟨h', e1, r1⟩ := e nb 0 FU h (Eqv.refl h) (by omega) (by unfold FU; omega)
  rw [bs_ (show f_X1_seconder_l3 S_1 FU 35 s (nI m) (nI b) (0 : Int32) h = _ from r1)]
  unfold secS
  by_cases ef : fst (fun o => heS r o b && ayS r n f o m) 0 nb = -1
  · rw [if_pos ef, ef]
    exact Qy.ret e1
  · rw [if_neg ef]
    exact Qy.ret e1

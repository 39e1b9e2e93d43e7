/-! what is done: to move, to divide, to fly, a night -/
def inb (x : Int32) (n : Nat) : Bool := decide (0 ≤ x ∧ x < nI n)
theorem inb_of {x : Int32} {n : Nat} (hn : n ≤ 7) (h : inb x n = true) : ∃ j, j < n ∧ x = nI j := by
  have h := of_decide_eq_true h
  obtain ⟨j, hj, rfl⟩ := nI_of (Int32.not_lt.mpr h.1)
  exact ⟨j, (nI_ltI hj (by omega)).mp h.2, rfl⟩
theorem inb_n {j n : Nat} (hn : n ≤ 7) (hj : j < n) : inb (nI j) n = true := decide_eq_true ⟨nI_pos' (by omega), (nI_ltI (by omega) (by omega)).mpr hj⟩
def rset (r : Nat → Int32) (i : Nat) (v : Int32) : Nat → Int32 := fun j => if j = i then v else r j
theorem rset_s (r : Nat → Int32) (i : Nat) (v : Int32) : rset r i v i = v := if_pos rfl
theorem rset_n (r : Nat → Int32) {i j : Nat} (v : Int32) (h : j ≠ i) : rset r i v j = r j := if_neg h
def mvC (r : Nat → Int32) (n : Nat) (f : Nat → Cl) (nb m b : Nat) : Bool := decide (r (17 + m) = 0) && (siS r n f b m && decide (secS r n f nb m b ≠ -1))
def mvV (r : Nat → Int32) (n : Nat) (f : Nat → Cl) (nb nm : Nat) (x y : Int32) : Int32 := if inb x nm && inb y nb then (if mvC r n f nb x.toNatClampNeg y.toNatClampNeg then secS r n f nb x.toNatClampNeg y.toNatClampNeg else -3) else -2
def mvN (r : Nat → Int32) (n : Nat) (f : Nat → Cl) (nb nm : Nat) (x y : Int32) : Nat → Int32 := if inb x nm && inb y nb && mvC r n f nb x.toNatClampNeg y.toNatClampNeg then rset r (17 + x.toNatClampNeg) 1 else r
def dvV (r : Nat → Int32) (n : Nat) (f : Nat → Cl) (nb nm : Nat) (x : Int32) : Int32 := if inb x nm then (if cdS r n f nb x.toNatClampNeg then on7 (setA r n f nb x.toNatClampNeg) else -3) else -2
def dvR (r : Nat → Int32) (n : Nat) (f : Nat → Cl) (nb m : Nat) : Nat → Int32 := rset (rset r (17 + m) (if caS r (setS r n f nb m) (setA r n f nb m) then 2 else 3)) 9 (r 9 + taS r n f m)
def dvN (r : Nat → Int32) (n : Nat) (f : Nat → Cl) (nb nm : Nat) (x : Int32) : Nat → Int32 := if inb x nm && cdS r n f nb x.toNatClampNeg then dvR r n f nb x.toNatClampNeg else r
def okT (t : Int32) : Bool := decide (-1 ≤ t ∧ t ≤ 19)
def flV (r : Nat → Int32) (nb : Nat) (x t : Int32) : Int32 := if okT t then (if inb x nb then (if r (10 + x.toNatClampNeg) = t then -3 else if r (10 + x.toNatClampNeg) = -1 then 20 else r (10 + x.toNatClampNeg)) else -2) else -1
def flN (r : Nat → Int32) (nb : Nat) (x t : Int32) : Nat → Int32 := if okT t && (inb x nb && decide (r (10 + x.toNatClampNeg) ≠ t)) then rset r (10 + x.toNatClampNeg) t else r
def psV (r : Nat → Int32) (nm : Nat) : Int32 := if r 5 < 999 then howM nm (fun m => decide (r (17 + m) ≠ 2)) else -3
def psR (r : Nat → Int32) (nm : Nat) : Nat → Int32 := fun j => if j = 5 then r 5 + 1 else if j = 9 then 0 else if 17 ≤ j ∧ j < 17 + nm ∧ r j ≠ 2 then 0 else r j
def psN (r : Nat → Int32) (nm : Nat) : Nat → Int32 := if r 5 < 999 then psR r nm else r
/-- what may be written where something is done on a stand -/
def PSt (s p j : Nat) : Bool := PX p j || decide (p = s ∧ (j = 2 ∨ j = 3) ∨ p = s + 1 ∨ p = s + 2)
theorem PX_St {s : Nat} (p j : Nat) (h : PX p j = true) : PSt s p j = true := by unfold PSt; rw [h]; rfl
theorem Eqv.st {s : Nat} {h h' : AH} (e : Eqv PX h h') : Eqv (PSt s) h h' := e.mono PX_St
theorem PSt_1 {s : Nat} (j : Nat) : PSt s (s + 1) j = true := by
  unfold PSt
  rw [Bool.or_eq_true]
  exact Or.inr (decide_eq_true (Or.inr (Or.inl rfl)))
theorem PSt_2 {s : Nat} (j : Nat) : PSt s (s + 2) j = true := by
  unfold PSt
  rw [Bool.or_eq_true]
  exact Or.inr (decide_eq_true (Or.inr (Or.inr rfl)))
theorem PSt_0 {s j : Nat} (h : j = 2 ∨ j = 3) : PSt s s j = true := by
  unfold PSt
  rw [Bool.or_eq_true]
  exact Or.inr (decide_eq_true (Or.inl ⟨rfl, h⟩))
theorem q_hasM {h : AH} {s : Nat} {r : Nat → Int32} {p n nb nm : Nat} {f : Nat → Cl} (k : Ct h s r p n f nb nm) (x : Int32) : f_X6_hasMatter S_1 2 x h = some (bI (inb x nm), h) := q_hasMatter h x (k.2.2.1.1.2.1.trans k.2.2.2.2.2.2.2.1) k.2.2.2.2.2.2.2.2
theorem q_hasB {h : AH} {s : Nat} {r : Nat → Int32} {p n nb nm : Nat} {f : Nat → Cl} (k : Ct h s r p n f nb nm) (x : Int32) : f_X6_hasBird S_1 2 x h = some (bI (inb x nb), h) := q_hasBird h x (k.2.2.1.1.1.trans k.2.2.2.2.2.1) k.2.2.2.2.2.2.1
theorem StX.s2 {h : AH} {s m : Nat} {r : Nat → Int32} {v : Int32} (k : StX h s r) : StX (stI h (s + 2) m v) s (rset r (17 + m) v) := by
  obtain ⟨a, b, c, d⟩ := k
  refine ⟨fun j hj => ?_, fun j hj => ?_, ?_, ?_⟩
  · rw [ri_p (by omega), rset_n _ _ (by omega), a j hj]
  · by_cases e : j = m
    · rw [e, stI_s, rset_s]
    · rw [ri_k e, rset_n _ _ (by omega), b j hj]
  · by_cases e : m + 17 = 9
    · omega
    · rw [ri_p (by omega), rset_n _ _ (by omega), c]
  · rw [ri_p (by omega), rset_n _ _ (by omega), d]
theorem StX.s1 {h : AH} {s b : Nat} {r : Nat → Int32} {v : Int32} (hb : b < 7) (k : StX h s r) : StX (stI h (s + 1) b v) s (rset r (10 + b) v) := by
  obtain ⟨a, b', c, d⟩ := k
  refine ⟨fun j hj => ?_, fun j hj => ?_, ?_, ?_⟩
  · by_cases e : j = b
    · rw [e, stI_s, rset_s]
    · rw [ri_k e, rset_n _ _ (by omega), a j hj]
  · rw [ri_p (by omega), rset_n _ _ (by omega), b' j hj]
  · rw [ri_p (by omega), rset_n _ _ (by omega), c]
  · rw [ri_p (by omega), rset_n _ _ (by omega), d]
theorem StX.s0 {h : AH} {s : Nat} {r : Nat → Int32} {v : Int32} (k : StX h s r) : StX (stI h s 2 v) s (rset r 9 v) := by
  obtain ⟨a, b', c, d⟩ := k
  refine ⟨fun j hj => ?_, fun j hj => ?_, ?_, ?_⟩
  · rw [ri_p (by omega), rset_n _ _ (by omega), a j hj]
  · rw [ri_p (by omega), rset_n _ _ (by omega), b' j hj]
  · rw [stI_s, rset_s]
  · rw [ri_k (by omega), rset_n _ _ (by omega), d]
theorem Ct.moving {h : AH} {s : Nat} {r : Nat → Int32} {p n nb nm : Nat} {f : Nat → Cl} (k : Ct h s r p n f nb nm) (x y : Int32) : ∃ h', f_X1_moving S_1 35 s x y h = some (mvV r n f nb nm x y, h') ∧ Eqv (PSt s) h h' ∧ StX h' s (mvN r n f nb nm x y) := by
  unfold f_X1_moving mvV mvN
  rw [bs_ (yr_35_0 h), bs_ (ck_2 h), bs_ (q_hasM k x)]
  dsimp only
  cases ex : inb x nm with
  | false =>
    rw [if_pos (show bI false = 0 from rfl)]
    exact ⟨h, rfl, Eqv.refl h, k.2.1⟩
  | true =>
    rw [if_neg (show ¬ bI true = 0 by decide), bs_ (yr_35_0 h), bs_ (ck_2 h), bs_ (q_hasB k y)]
    dsimp only
    cases ey : inb y nb with
    | false =>
      rw [if_pos (show bI false = 0 from rfl)]
      exact ⟨h, rfl, Eqv.refl h, k.2.1⟩
    | true =>
      have h7 := k.2.2.2.2.2.2.1
      have h6 := k.2.2.2.2.2.2.2.2
      obtain ⟨m, hm, rfl⟩ := inb_of (by omega) ex
      obtain ⟨b, hb, rfl⟩ := inb_of h7 ey
      rw [if_neg (show ¬ bI true = 0 by decide), bs_ (sd_d h k.1), bs_ (sd_b h k.1 (by omega)), k.2.1.2.1 m (by omega)]
      simp only [tn_n (show m < 2 ^ 31 by omega), tn_n (show b < 2 ^ 31 by omega), Bool.and_self, Bool.true_and, if_true]
      unfold mvC
      by_cases e0 : r (17 + m) = 0
      · rw [if_pos e0, bs_ (yr_35_0 h), bs_ (ck_2 h), bs_ k.lf]
        dsimp only
        obtain ⟨h1, r1, e1⟩ := k.vote (b := b) (m := m) (by omega) (by omega)
        have k1 := k.x e1.vx
        rw [bs_ (ck_35 h), bs_ r1]
        dsimp only
        by_cases ev : voV r n f b m = 0
        · rw [if_pos ev]
          rw [vo0] at ev
          rw [ev]
          simp only [Bool.false_and, Bool.and_false, Bool.false_eq_true, if_false]
          exact ⟨h1, rfl, e1.vx.st, k1.2.1⟩
        · obtain ⟨h2, r2, e2⟩ := k1.seconder (m := m) (b := b) (by omega) (by omega)
          have k2 := k1.x e2.vx
          rw [if_neg ev, bs_ (ck_35 h1), bs_ r2]
          dsimp only
          rw [si_tf ev]
          by_cases es : secS r n f nb m b = -1
          · rw [if_pos es]
            simp only [es, e0, decide_true, Bool.true_and, ne_eq, not_true_eq_false, decide_false, Bool.false_eq_true, if_false]
            exact ⟨h2, rfl, (e1.trans e2).vx.st, k2.2.1⟩
          · rw [if_neg es, bs_ (sd_d h2 k.1), bs_ (sd_sb h2 _ k.1 (by omega))]
            simp only [es, e0, decide_true, Bool.true_and, ne_eq, not_false_eq_true, if_true]
            exact ⟨_, rfl, (e1.trans e2).vx.st.si (PSt_2 _), k2.2.1.s2⟩
      · rw [if_neg e0]
        simp only [e0, decide_false, Bool.false_and, Bool.false_eq_true, if_false]
        exact ⟨h, rfl, Eqv.refl h, k.2.1⟩
theorem q_bitsS (S : SH) (h : AH) (r : Nat → Int32) (n : Nat) (f : Nat → Cl) {nb : Nat} (m : Nat) (h7 : nb ≤ 7) : f_J6_bitCount_0f7a4 S (setS r n f nb m) h = some (on7 (setS r n f nb m), h) := q_bits S h h7 _
theorem q_bitsA (S : SH) (h : AH) (r : Nat → Int32) (n : Nat) (f : Nat → Cl) {nb : Nat} (m : Nat) (h7 : nb ≤ 7) : f_J6_bitCount_0f7a4 S (setA r n f nb m) h = some (on7 (setA r n f nb m), h) := q_bits S h h7 _
theorem Ct.dividing {h : AH} {s : Nat} {r : Nat → Int32} {p n nb nm : Nat} {f : Nat → Cl} (k : Ct h s r p n f nb nm) (x : Int32) (hc : ∀ m, m < nm → 1 ≤ r (72 + m) ∧ r (72 + m) ≤ 9) : ∃ h', f_X1_dividing S_1 35 s x h = some (dvV r n f nb nm x, h') ∧ Eqv (PSt s) h h' ∧ StX h' s (dvN r n f nb nm x) := by
  unfold f_X1_dividing dvV dvN
  rw [bs_ (yr_35_0 h), bs_ (ck_2 h), bs_ (q_hasM k x)]
  dsimp only
  cases ex : inb x nm with
  | false =>
    rw [if_pos (show bI false = 0 from rfl)]
    exact ⟨h, rfl, Eqv.refl h, k.2.1⟩
  | true =>
    have h7 := k.2.2.2.2.2.2.1
    have h6 := k.2.2.2.2.2.2.2.2
    obtain ⟨m, hm, rfl⟩ := inb_of (by omega) ex
    rw [if_neg (show ¬ bI true = 0 by decide), bs_ (sd_d h k.1), bs_ (sd_b h k.1 (by omega)), k.2.1.2.1 m (by omega)]
    simp only [tn_n (show m < 2 ^ 31 by omega), Bool.true_and, if_true]
    unfold cdS
    by_cases e0 : r (17 + m) = 1
    · rw [if_pos e0, bs_ (yr_35_0 h), bs_ (ck_2 h), bs_ k.lf]
      dsimp only
      obtain ⟨h1, e1, r1, v1, w1⟩ := k.poll (m := m) (by omega) k.2.2.2.1.2.1 k.2.2.2.1.2.2 k.2.2.2.2.1
      have k1 := k.x e1
      rw [bs_ (ck_35 h), bs_ r1]
      dsimp only
      obtain ⟨h2, r2, e2⟩ := k1.takes (m := m) (by omega) (hc m hm)
      have k2 := k1.x e2.vx
      have E2 := (e1.trans e2.vx).st (s := s)
      have v2 : h2.2.1 35 2 = setS r n f nb m := (e2.i 35 2 rfl).trans v1
      have w2 : h2.2.1 35 3 = setA r n f nb m := (e2.i 35 3 rfl).trans w1
      rw [bs_ (ck_35 h1), bs_ r2]
      dsimp only
      rw [bs_ (yi_35 h2 2), v2, bs_ (q_bitsS S_1 h2 r n f m h7)]
      dsimp only
      rw [bs_ (yr_35_0 h2), bs_ (yi_2 h2 9), show h2.2.1 2 9 = r 8 from k2.2.2.1.1.2.2.2.2.2.2.2]
      by_cases e8 : on7 (setS r n f nb m) < r 8
      · rw [if_pos e8]
        have : decide (r (17 + m) = 1 ∧ r 8 ≤ on7 (setS r n f nb m) ∧ r 9 + taS r n f m ≤ 48) = false := decide_eq_false fun z => Int32.not_le.mpr e8 z.2.1
        rw [this]
        exact ⟨h2, rfl, E2, k2.2.1⟩
      · rw [if_neg e8, bs_ (sd_i h2 2 k.1), show h2.2.1 s 2 = r 9 from k2.2.1.2.2.1]
        by_cases e9 : r 9 + taS r n f m ≤ 48
        · have : decide (r (17 + m) = 1 ∧ r 8 ≤ on7 (setS r n f nb m) ∧ r 9 + taS r n f m ≤ 48) = true := decide_eq_true ⟨e0, Int32.not_lt.mp e8, e9⟩
          rw [if_pos e9, this, bs_ (sd_d h2 k.1), bs_ (yi_35 h2 2), v2, bs_ (yi_35 h2 3), w2, bs_ (ck_35 h2)]
          obtain ⟨z1, hz1, ez1⟩ := bits_lt h7 (fun b => siS r n f b m)
          obtain ⟨z2, hz2, ez2⟩ := bits_lt h7 (fun b => ayS r n f b m)
          have ca := q_carries (s := z1) (a := z2) h2 k2.2.2.1 hz1 hz2
          rw [← ez1, ← ez2] at ca
          rw [bs_ (show f_X1_wouldCarry S_1 35 (setS r n f nb m) (setA r n f nb m) h2 = some (bI (caS r (setS r n f nb m) (setA r n f nb m)), h2) from ca)]
          dsimp only
          unfold dvR
          have fin : ∀ v : Int32, v = (if caS r (setS r n f nb m) (setA r n f nb m) then 2 else 3) → ∃ h', ((sI S_1 h2 (s + 2) (nI m) v).bind fun h_45 => (gI S_1 h_45 s 7 2).bind fun v_47 => (pI S_1 h_45 s 7 2 (v_47 + taS r n f m)).bind fun h_49 => (gI S_1 h_49 35 1 3).bind fun v_51 => (f_J6_bitCount_0f7a4 S_1 v_51 h_49).bind fun z => match z with | (z_54, h_53) => some (z_54, h_53)) = some (on7 (setA r n f nb m), h') ∧ Eqv (PSt s) h h' ∧ StX h' s (rset (rset r (17 + m) (if caS r (setS r n f nb m) (setA r n f nb m) then 2 else 3)) 9 (r 9 + taS r n f m)) := fun v hv => by
            rw [bs_ (sd_sb h2 _ k.1 (by omega)), bs_ (sd_i _ 2 k.1), show (stI h2 (s + 2) m v).2.1 s 2 = r 9 from (ri_p (by omega)).trans k2.2.1.2.2.1, bs_ (sd_p _ 2 _ k.1), bs_ (yi_35 _ 3)]
            have hs35 : 35 ≠ s := by have := k.1; omega
            have hs35' : 35 ≠ s + 2 := by have := k.1; omega
            rw [ri_p hs35, ri_p hs35', w2, bs_ (q_bitsA S_1 _ r n f m h7)]
            refine ⟨_, rfl, (E2.si (PSt_2 _)).si (PSt_0 (Or.inl rfl)), ?_⟩
            rw [← hv]
            exact k2.2.1.s2.s0
          cases ec : caS r (setS r n f nb m) (setA r n f nb m) with
          | false =>
            rw [ec] at fin
            rw [if_pos (show bI false = 0 from rfl)]
            exact fin 3 rfl
          | true =>
            rw [ec] at fin
            rw [if_neg (show ¬ bI true = 0 by decide)]
            exact fin 2 rfl
        · have : decide (r (17 + m) = 1 ∧ r 8 ≤ on7 (setS r n f nb m) ∧ r 9 + taS r n f m ≤ 48) = false := decide_eq_false fun z => e9 z.2.2
          rw [if_neg e9, this]
          exact ⟨h2, rfl, E2, k2.2.1⟩
    · rw [if_neg e0]
      have : decide (r (17 + m) = 1 ∧ r 8 ≤ on7 (setS r n f nb m) ∧ r 9 + taS r n f m ≤ 48) = false := decide_eq_false fun z => e0 z.1
      rw [this]
      exact ⟨h, rfl, Eqv.refl h, k.2.1⟩
theorem Ct.flying {h : AH} {s : Nat} {r : Nat → Int32} {p n nb nm : Nat} {f : Nat → Cl} (k : Ct h s r p n f nb nm) (x t : Int32) : ∃ h', f_X1_flying S_1 35 s x t h = some (flV r nb x t, h') ∧ Eqv (PSt s) h h' ∧ StX h' s (flN r nb x t) := by
  unfold f_X1_flying flV flN
  have lt20 : (t < 20) = (t ≤ 19) := by
    have e20 : (20 : Int32).toInt = 20 := by decide
    have e19 : (19 : Int32).toInt = 19 := by decide
    apply propext
    rw [Int32.lt_iff_toInt_lt, Int32.le_iff_toInt_le, e20, e19]
    omega
  by_cases e1 : t < -1
  · rw [if_pos e1, show okT t = false from decide_eq_false fun z => Int32.not_le.mpr e1 z.1]
    exact ⟨h, rfl, Eqv.refl h, k.2.1⟩
  · rw [if_neg e1]
    by_cases e2 : t < 20
    · have e2' := e2
      rw [lt20] at e2'
      rw [if_pos e2, show okT t = true from decide_eq_true ⟨Int32.not_lt.mp e1, e2'⟩, bs_ (yr_35_0 h), bs_ (ck_2 h), bs_ (q_hasB k x)]
      dsimp only
      cases ex : inb x nb with
      | false =>
        rw [if_pos (show bI false = 0 from rfl)]
        exact ⟨h, rfl, Eqv.refl h, k.2.1⟩
      | true =>
        have h7 := k.2.2.2.2.2.2.1
        obtain ⟨b, hb, rfl⟩ := inb_of h7 ex
        simp only [tn_n (show b < 2 ^ 31 by omega), Bool.true_and, if_true]
        rw [if_neg (show ¬ bI true = 0 by decide), bs_ (sd_t h k.1), bs_ (sd_a h k.1 (by omega)), k.2.1.1 b (by omega)]
        by_cases e3 : r (10 + b) = t
        · rw [if_pos e3, if_pos e3, if_neg (by simp [e3])]
          exact ⟨h, rfl, Eqv.refl h, k.2.1⟩
        · rw [show decide (r (10 + b) ≠ t) = true by simp [e3]]
          rw [if_neg e3, if_neg e3, if_pos (rfl : true = true), bs_ (sd_t h k.1), bs_ (sd_sa h _ k.1 (by omega))]
          by_cases e4 : r (10 + b) = -1
          · rw [if_pos e4, if_pos e4]
            exact ⟨_, rfl, (Eqv.refl h).si (PSt_1 _), k.2.1.s1 (by omega)⟩
          · rw [if_neg e4, if_neg e4]
            exact ⟨_, rfl, (Eqv.refl h).si (PSt_1 _), k.2.1.s1 (by omega)⟩
    · have e2' := e2
      rw [lt20] at e2'
      rw [if_neg e2, show okT t = false from decide_eq_false fun z => e2' z.2]
      exact ⟨h, rfl, Eqv.refl h, k.2.1⟩
theorem Ct.passing {h : AH} {s : Nat} {r : Nat → Int32} {p n nb nm : Nat} {f : Nat → Cl} (k : Ct h s r p n f nb nm) : ∃ h', f_X1_passing S_1 35 s h = some (psV r nm, h') ∧ Eqv (PSt s) h h' ∧ StX h' s (psN r nm) := by
  have hs := k.1
  have h6 := k.2.2.2.2.2.2.2.2
  have hn := k.2.2.2.2.2.2.2.1
  have rm : h.2.1 2 4 = nI nm := k.2.2.1.1.2.1.trans hn
  have e : ∀ (t i fu : Nat) (a : Int32) (h1 : AH), Eqv (PSt s) h h1 → (∀ j, i ≤ j → j < 6 → h1.2.1 (s + 2) j = r (17 + j)) → i + t = nm → t < fu → ∃ h', f_X1_passing_l32 S_1 fu 35 s a (nI i) h1 = some (fo (fun a m => a + (if decide (r (17 + m) ≠ 2) then 1 else 0)) i t a, h') ∧ Eqv (PSt s) h h' ∧ (∀ q j, q ≠ s + 2 → h'.2.1 q j = h1.2.1 q j) ∧ (∀ j, h'.2.1 (s + 2) j = if i ≤ j ∧ j < nm ∧ r (17 + j) ≠ 2 then 0 else h1.2.1 (s + 2) j) := by
    intro t
    induction t with
    | zero =>
      intro i fu a h1 e1 hd hk hf
      obtain ⟨fu, rfl⟩ : ∃ x, fu = x + 1 := ⟨fu - 1, by omega⟩
      rw [f_X1_passing_l32]
      unfold f_X1_passing_l32b
      rw [bs_ (yr_35_0 h1), bs_ (yi_2 h1 4), (e1.i 2 4 (by unfold PSt; rw [PX_no (by omega)]; exact decide_eq_false (by omega))).trans rm, if_pos (by rw [nn_le (by omega) (by omega)]; omega)]
      refine ⟨h1, rfl, e1, fun _ _ _ => rfl, fun j => ?_⟩
      rw [if_neg (by omega)]
    | succ t ih =>
      intro i fu a h1 e1 hd hk hf
      obtain ⟨fu, rfl⟩ : ∃ x, fu = x + 1 := ⟨fu - 1, by omega⟩
      rw [f_X1_passing_l32]
      unfold f_X1_passing_l32b
      rw [bs_ (yr_35_0 h1), bs_ (yi_2 h1 4), (e1.i 2 4 (by unfold PSt; rw [PX_no (by omega)]; exact decide_eq_false (by omega))).trans rm, if_neg (by rw [nn_le (by omega) (by omega)]; omega), bs_ (sd_d h1 hs), bs_ (sd_b h1 hs (by omega)), hd i (Nat.le_refl i) (by omega)]
      by_cases e2 : r (17 + i) = 2
      · rw [if_pos e2, lt_e, nI_1]
        obtain ⟨h', r1, E1, o1, d1⟩ := ih (i + 1) fu a h1 e1 (fun j h1 h2 => hd j (by omega) h2) (by omega) (by omega)
        refine ⟨h', ?_, E1, o1, fun j => ?_⟩
        · rw [r1]
          show _ = some (fo _ (i + 1) t (a + (if decide (r (17 + i) ≠ 2) then 1 else 0)), h')
          rw [show (decide (r (17 + i) ≠ 2)) = false by simp [e2]]
          simp
        · rw [d1]
          by_cases ej : j = i
          · subst ej
            rw [if_neg (by omega), if_neg (fun z => z.2.2 e2)]
          · by_cases eo : i ≤ j ∧ j < nm ∧ r (17 + j) ≠ 2
            · rw [if_pos eo, if_pos ⟨by omega, eo.2⟩]
            · rw [if_neg eo, if_neg (fun z => eo ⟨by omega, z.2⟩)]
      · rw [if_neg e2, bs_ (sd_d h1 hs), bs_ (sd_sb h1 _ hs (by omega)), lt_e, lt_e, nI_1]
        obtain ⟨h', r1, E1, o1, d1⟩ := ih (i + 1) fu (a + 1) (stI h1 (s + 2) i 0) (e1.si (PSt_2 _)) (fun j h1 h2 => (ri_k (by omega)).trans (hd j (by omega) h2)) (by omega) (by omega)
        refine ⟨h', ?_, E1, fun q j hq => (o1 q j hq).trans (ri_p hq), fun j => ?_⟩
        · rw [r1]
          show _ = some (fo _ (i + 1) t (a + (if decide (r (17 + i) ≠ 2) then 1 else 0)), h')
          rw [show (decide (r (17 + i) ≠ 2)) = true by simp [e2]]
          simp
        · rw [d1]
          by_cases ej : j = i
          · subst ej
            rw [if_neg (by omega), if_pos ⟨Nat.le_refl _, by omega, e2⟩, stI_s]
          · rw [ri_k ej]
            by_cases eo : i ≤ j ∧ j < nm ∧ r (17 + j) ≠ 2
            · rw [if_pos eo, if_pos ⟨by omega, eo.2⟩]
            · rw [if_neg eo, if_neg (fun z => eo ⟨by omega, z.2⟩)]
  unfold f_X1_passing psV psN
  obtain ⟨ht, hd, hc, hg⟩ := k.2.1
  rw [bs_ (sd_i h 3 hs), hg]
  by_cases e9 : r 5 < 999
  · rw [if_pos e9, if_pos e9, if_pos e9, bs_ (sd_i h 3 hs), hg, bs_ (sd_p h 3 _ hs), bs_ (sd_p _ 2 _ hs)]
    have E1 : Eqv (PSt s) h (stI (stI h s 3 (r 5 + 1)) s 2 0) := ((Eqv.refl h).si (PSt_0 (Or.inr rfl))).si (PSt_0 (Or.inl rfl))
    obtain ⟨h', r1, e1, o1, d1⟩ := e nm 0 FU 0 _ E1 (fun j _ h2 => ((ri_p (by omega)).trans (ri_p (by omega))).trans (hd j h2)) (by omega) (by unfold FU; omega)
    rw [bs_ (show f_X1_passing_l32 S_1 FU 35 s (0 : Int32) (0 : Int32) _ = _ from r1)]
    refine ⟨h', rfl, e1, fun j hj => ?_, fun j hj => ?_, ?_, ?_⟩
    · rw [o1 _ _ (by omega), ri_p (by omega), ri_p (by omega), ht j hj]
      unfold psR
      rw [if_neg (by omega), if_neg (by omega), if_neg (by omega)]
    · have pp : psR r nm (17 + j) = if 17 ≤ 17 + j ∧ 17 + j < 17 + nm ∧ r (17 + j) ≠ 2 then 0 else r (17 + j) := by
        unfold psR
        rw [if_neg (by omega), if_neg (by omega)]
      rw [d1, ri_p (by omega), ri_p (by omega), hd j hj, pp]
      by_cases eo : 0 ≤ j ∧ j < nm ∧ r (17 + j) ≠ 2
      · rw [if_pos eo, if_pos ⟨by omega, by omega, eo.2.2⟩]
      · rw [if_neg eo, if_neg (fun z => eo ⟨by omega, by omega, z.2.2⟩)]
    · rw [o1 _ _ (by omega), stI_s]
      rfl
    · rw [o1 _ _ (by omega), ri_k (by omega), stI_s]
      rfl
  · rw [if_neg e9, if_neg e9, if_neg e9]
    exact ⟨h, rfl, Eqv.refl h, ht, hd, hc, hg⟩

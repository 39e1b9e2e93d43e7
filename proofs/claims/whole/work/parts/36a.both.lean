/-! the richest order: the search on paper -/
def usd (pr : Nat → Nat) (k m : Nat) : Bool := exN (fun i => decide (pr i = m)) 0 k
theorem usd_iff {pr : Nat → Nat} {k m : Nat} : usd pr k m = true ↔ ∃ i, i < k ∧ pr i = m := by
  unfold usd
  rw [exN_iff]
  constructor
  · rintro ⟨j, _, h2, h3⟩
    exact ⟨j, by omega, of_decide_eq_true h3⟩
  · rintro ⟨j, h1, h2⟩
    exact ⟨j, Nat.zero_le j, by omega, decide_eq_true h2⟩
theorem usd_s (pr : Nat → Nat) (k m j : Nat) : usd (updN pr k m) (k + 1) j = (usd pr k j || decide (j = m)) := by
  rw [Bool.eq_iff_iff, Bool.or_eq_true, usd_iff, usd_iff, decide_eq_true_iff]
  constructor
  · rintro ⟨i, h1, h2⟩
    by_cases e : i = k
    · rw [e, updN_s] at h2
      exact Or.inr h2.symm
    · rw [updN_o e] at h2
      exact Or.inl ⟨i, by omega, h2⟩
  · rintro (⟨i, h1, h2⟩ | h)
    · exact ⟨i, by omega, by rw [updN_o (by omega)]; exact h2⟩
    · exact ⟨k, by omega, by rw [updN_s]; exact h.symm⟩
theorem cn_congr {g g' : Nat → Bool} : ∀ n, (∀ b, b < n → g b = g' b) → cnN g n = cnN g' n
  | 0, _ => rfl
  | n + 1, h => by
    rw [cnN, cnN, cn_congr n fun b hb => h b (by omega), h n (by omega)]
theorem cn_add {g : Nat → Bool} {m : Nat} (hg : g m = false) : ∀ n, m < n → cnN (fun j => g j || decide (j = m)) n = cnN g n + 1
  | 0, h => by omega
  | n + 1, h => by
    rw [cnN, cnN]
    by_cases e : m = n
    · have : cnN (fun j => g j || decide (j = m)) n = cnN g n := cn_congr n fun b hb => by
        show (g b || decide (b = m)) = g b
        rw [decide_eq_false (by omega), Bool.or_false]
      rw [this, ← e, decide_eq_true rfl, Bool.or_true, if_pos rfl, hg, if_neg (by decide)]
    · rw [cn_add hg n (by omega), decide_eq_false (by omega), Bool.or_false]
      omega
theorem cn_full {g : Nat → Bool} {n m : Nat} (h : cnN g n = n) (hm : m < n) : g m = true := by
  cases e : g m with
  | true => rfl
  | false =>
    have := cn_add e n hm
    have := cn_le (fun j => g j || decide (j = m)) n
    omega
def UC (pr : Nat → Nat) (k nm : Nat) : Prop := cnN (usd pr k) nm = k
theorem UC.add {pr : Nat → Nat} {k nm m : Nat} (h : UC pr k nm) (hu : usd pr k m = false) (hm : m < nm) : UC (updN pr k m) (k + 1) nm := by
  unfold UC at h ⊢
  rw [cn_congr nm fun b _ => usd_s pr k m b, cn_add hu nm hm, h]
theorem UC.le {pr : Nat → Nat} {k nm : Nat} (h : UC pr k nm) : k ≤ nm := by
  have := cn_le (usd pr k) nm
  unfold UC at h
  omega
theorem UC.lt {pr : Nat → Nat} {k nm m : Nat} (h : UC pr k nm) (hu : usd pr k m = false) (hm : m < nm) : k < nm := by
  have := (h.add hu hm).le
  omega
theorem UC.zero (pr : Nat → Nat) (nm : Nat) : UC pr 0 nm := by
  unfold UC
  have e : ∀ n, cnN (usd pr 0) n = 0 := by
    intro n
    induction n with
    | zero => rfl
    | succ n ih => rw [cnN, ih]; rfl
  exact e nm
def rk (r : Nat → Int32) (c : Nat) : Nat → Int32 := rset r 9 (nI c)
def canR (r : Nat → Int32) (n : Nat) (f : Nat → Cl) (nb c m : Nat) : Bool := cdS (rk r c) n f nb m
def carR (r : Nat → Int32) (n : Nat) (f : Nat → Cl) (nb c m : Nat) : Bool := caS (rk r c) (setS (rk r c) n f nb m) (setA (rk r c) n f nb m)
def tkN (r : Nat → Int32) (n : Nat) (f : Nat → Cl) (c m : Nat) : Nat := (taS (rk r c) n f m).toNatClampNeg
def gaR (r : Nat → Int32) (n : Nat) (f : Nat → Cl) (nb c m : Nat) : Int32 := if carR r n f nb c m = true then r (78 + m) else 0
abbrev BBt : Type := Int32 × Nat × (Nat → Nat)
def upB (B : BBt) (w : Int32) (k : Nat) (pr : Nat → Nat) : BBt := if B.1 < w then (w, k, pr) else B
def dfN (r : Nat → Int32) (n : Nat) (f : Nat → Cl) (nb nm : Nat) : Nat → Nat → Nat → Int32 → (Nat → Nat) → BBt → BBt
  | 0, _, k, w, pr, B => upB B w k pr
  | d + 1, c, k, w, pr, B => fo (fun B m => if (! usd pr k m && canR r n f nb c m) = true then dfN r n f nb nm d (c + tkN r n f c m) (k + 1) (w + gaR r n f nb c m) (updN pr k m) B else B) 0 nm (upB B w k pr)
/-- one child -/
def chS (r : Nat → Int32) (n : Nat) (f : Nat → Cl) (nb nm d c k : Nat) (w : Int32) (pr : Nat → Nat) (B : BBt) (m : Nat) : BBt := if (! usd pr k m && canR r n f nb c m) = true then dfN r n f nb nm d (c + tkN r n f c m) (k + 1) (w + gaR r n f nb c m) (updN pr k m) B else B
theorem dfN_s (r : Nat → Int32) (n : Nat) (f : Nat → Cl) (nb nm d c k : Nat) (w : Int32) (pr : Nat → Nat) (B : BBt) : dfN r n f nb nm (d + 1) c k w pr B = fo (chS r n f nb nm d c k w pr) 0 nm (upB B w k pr) := rfl
theorem rk_9 (r : Nat → Int32) (c : Nat) : rk r c 9 = nI c := rset_s _ _ _
theorem rk_o {r : Nat → Int32} {c j : Nat} (h : j ≠ 9) : rk r c j = r j := rset_n _ _ h
theorem tk_ok (r : Nat → Int32) (n : Nat) (f : Nat → Cl) (c m : Nat) : taS (rk r c) n f m = nI (tkN r n f c m) ∧ 1 ≤ tkN r n f c m ∧ tkN r n f c m ≤ 9 := by
  have h : rg (taS (rk r c) n f m) 1 9 := bndI_rg _ (by decide)
  obtain ⟨j, hj, e⟩ := rg_nI (n := 9) (by decide) ⟨Int32.le_trans (by decide) h.1, h.2⟩
  have e2 : tkN r n f c m = j := by
    unfold tkN
    rw [e, nI_clamp (by omega)]
  rw [e2]
  refine ⟨e, ?_, hj⟩
  have a := h.1
  rw [e, show (1 : Int32) = nI 1 from rfl, nn_le (by decide) (by omega)] at a
  exact a
theorem can_ok {r : Nat → Int32} {n : Nat} {f : Nat → Cl} {nb c m : Nat} (hc : c ≤ 48) (h : canR r n f nb c m = true) : r (17 + m) = 1 ∧ c + tkN r n f c m ≤ 48 := by
  obtain ⟨e, t1, t9⟩ := tk_ok r n f c m
  have h := of_decide_eq_true h
  refine ⟨(rk_o (by omega)).symm.trans h.1, ?_⟩
  have a := h.2.2
  rw [rk_9, e, nI_add, show (48 : Int32) = nI 48 from rfl, nn_le (by omega) (by decide)] at a
  exact a
def lfB (r : Nat → Int32) (nm : Nat) (pr : Nat → Nat) (k : Nat) : Int32 := bits nm (fun m => decide (r (17 + m) = 1) && ! usd pr k m)
theorem lf_bit {r : Nat → Int32} {nm : Nat} {pr : Nat → Nat} {k m : Nat} (h6 : nm ≤ 6) (hm : m < 7) : (lfB r nm pr k &&& bt m = 0) ↔ (decide (m < nm) && (decide (r (17 + m) = 1) && ! usd pr k m)) = false := by
  rw [and0_iff]
  unfold lfB
  constructor
  · intro h
    have := h m (by omega)
    rw [bits_lsb (by omega) _ (by omega), bt_lsb m hm m (by omega), decide_eq_true rfl, Bool.and_true] at this
    exact this
  · intro h i hi
    rw [bits_lsb (by omega) _ hi, bt_lsb m hm i hi]
    by_cases c : m = i
    · rw [← c]
      rw [h]
      rfl
    · rw [decide_eq_false c, Bool.and_false]
theorem lf_sub {r : Nat → Int32} {nm : Nat} {pr : Nat → Nat} {k m : Nat} (h6 : nm ≤ 6) (hm : m < 7) : lfB r nm pr k &&& (bt m ^^^ -1) = lfB r nm (updN pr k m) (k + 1) := bvI fun i hi => by
  unfold lfB
  rw [and_lsb, xor1_lsb _ hi, bits_lsb (by omega) _ hi, bits_lsb (by omega) _ hi, bt_lsb m hm i hi, usd_s]
  by_cases c : i = m
  · rw [decide_eq_true (show m = i from c.symm), decide_eq_true c, Bool.or_true]
    simp
  · rw [decide_eq_false (show ¬ m = i from fun z => c z.symm), decide_eq_false c, Bool.or_false]
    simp

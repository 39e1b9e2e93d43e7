theorem nl_le1 {n k : Nat} (hn : n < 2 ^ 31) (hk : k < 2 ^ 31) : ((no_index (OfNat.ofNat n) : Int32) ≤ nI k) = (n ≤ k) := propext (nI_leI hn hk)
theorem nl_le2 {n k : Nat} (hn : n < 2 ^ 31) (hk : k < 2 ^ 31) : (nI k ≤ (no_index (OfNat.ofNat n) : Int32)) = (k ≤ n) := propext (nI_leI hk hn)
theorem nl_lt1 {n k : Nat} (hn : n < 2 ^ 31) (hk : k < 2 ^ 31) : ((no_index (OfNat.ofNat n) : Int32) < nI k) = (n < k) := propext (nI_ltI hn hk)
theorem nl_lt2 {n k : Nat} (hn : n < 2 ^ 31) (hk : k < 2 ^ 31) : (nI k < (no_index (OfNat.ofNat n) : Int32)) = (k < n) := propext (nI_ltI hk hn)
theorem nl_eq1 {n k : Nat} (hn : n < 2 ^ 31) (hk : k < 2 ^ 31) : ((no_index (OfNat.ofNat n) : Int32) = nI k) = (n = k) := propext (nI_eq hn hk)
theorem nl_eq2 {n k : Nat} (hn : n < 2 ^ 31) (hk : k < 2 ^ 31) : (nI k = (no_index (OfNat.ofNat n) : Int32)) = (k = n) := propext (nI_eq hk hn)
theorem nn_le {n k : Nat} (hn : n < 2 ^ 31) (hk : k < 2 ^ 31) : (nI n ≤ nI k) = (n ≤ k) := propext (nI_leI hn hk)
theorem nn_lt {n k : Nat} (hn : n < 2 ^ 31) (hk : k < 2 ^ 31) : (nI n < nI k) = (n < k) := propext (nI_ltI hn hk)
theorem nn_eq {n k : Nat} (hn : n < 2 ^ 31) (hk : k < 2 ^ 31) : (nI n = nI k) = (n = k) := propext (nI_eq hn hk)
theorem nl_m1 {k : Nat} (hk : k < 2 ^ 31) : (nI k = (-1 : Int32)) = False := by
  refine eq_false fun e => ?_
  have h0 := nI_pos' hk
  rw [e] at h0
  exact absurd h0 (by decide)
theorem z_lt {k : Nat} (hk : k < 2 ^ 31) : (nI k < (0 : Int32)) = False := eq_false (nI_pos hk)
theorem z_le {k : Nat} (hk : k < 2 ^ 31) : ((0 : Int32) ≤ nI k) = True := eq_true (nI_pos' hk)
theorem z_le2 {k : Nat} (hk : k < 2 ^ 31) : (nI k ≤ (0 : Int32)) = (k = 0) := by
  rw [show (0 : Int32) = nI 0 from rfl, nn_le hk (by decide)]
  exact propext Nat.le_zero
theorem z_lt2 {k : Nat} (hk : k < 2 ^ 31) : ((0 : Int32) < nI k) = (0 < k) := by
  rw [show (0 : Int32) = nI 0 from rfl, nn_lt (by decide) hk]
theorem z_eq {k : Nat} (hk : k < 2 ^ 31) : (nI k = (0 : Int32)) = (k = 0) := by
  rw [show (0 : Int32) = nI 0 from rfl, nn_eq hk (by decide)]
theorem aI_0 (S : SH) (h : AH) (p : Nat) : aI S h p (0 : Int32) = aI S h p (nI 0) := rfl
theorem aJ_0 (S : SH) (h : AH) (p : Nat) : aJ S h p (0 : Int32) = aJ S h p (nI 0) := rfl
theorem sI_0 (S : SH) (h : AH) (p : Nat) (v : Int32) : sI S h p (0 : Int32) v = sI S h p (nI 0) v := rfl
theorem sJ_0 (S : SH) (h : AH) (p : Nat) (v : Int64) : sJ S h p (0 : Int32) v = sJ S h p (nI 0) v := rfl
theorem ob {α β : Type} (a : α) (f : α → Option β) : (some a).bind f = f a := rfl
theorem lt_e {α β : Type} (e : α) (f : α → β) : lt e f = f e := rfl
/-- a loop of m turns from k on -/
def fo {α : Type} (st : α → Nat → α) : Nat → Nat → α → α
  | _, 0, a => a
  | k, m + 1, a => fo st (k + 1) m (st a k)
theorem fo_congr {α : Type} {st st' : α → Nat → α} : ∀ (m k : Nat) (a : α), (∀ j b, k ≤ j → j < k + m → st b j = st' b j) → fo st k m a = fo st' k m a
  | 0, _, _, _ => rfl
  | m + 1, k, a, h => by
    show fo st (k + 1) m (st a k) = fo st' (k + 1) m (st' a k)
    rw [h k a (Nat.le_refl _) (by omega)]
    exact fo_congr m (k + 1) _ fun j b h1 h2 => h j b (by omega) (by omega)
def bt (k : Nat) : Int32 := (1 : Int32) <<< (nI k &&& (31 : Int32))
/-- the numbers below n that f says, as bits -/
def bits (n : Nat) (f : Nat → Bool) : Int32 := fo (fun s k => s ||| (if f k then bt k else 0)) 0 n 0
/-- how many below n -/
def howM (n : Nat) (f : Nat → Bool) : Int32 := fo (fun s k => s + (if f k then 1 else 0)) 0 n 0
/-! the reference: what it asks of its row -/
def nB (r : Nat → Int32) : Nat := (r 0).toNatClampNeg
def nM (r : Nat → Int32) : Nat := (r 1).toNatClampNeg
def awS (r : Nat → Int32) (b : Nat) : Bool := decide (r (10 + b) = -1)
def heS (r : Nat → Int32) (b o : Nat) : Bool := decide (b ≠ o ∧ r (10 + b) ≠ -1 ∧ r (10 + o) ≠ -1 ∧ abI (r (10 + b) - r (10 + o)) ≤ r (23 + o))
theorem m_away (h : AH) {b : Nat} (hb : b < 7) : f_X11_isAway S_1 80 (nI b) h = some (bI (awS (h.2.1 82) b), h) := by
  unfold f_X11_isAway awS
  simp (disch := first | omega | decide) only [gI, gJ, gR, pI, pJ, pZ, ckO, lnA, KD_80, KD_81, ai_81, al_81, si_81, sl_81, KD_82, ai_82, al_82, si_82, sl_82, KD_83, ai_83, al_83, si_83, sl_83, KD_84, KD_85, ai_85, al_85, si_85, sl_85, KD_86, ai_86, al_86, si_86, sl_86, KD_87, ai_87, al_87, si_87, sl_87, KD_88, ai_88, al_88, si_88, sl_88, KD_89, ai_89, al_89, si_89, sl_89, KD_90, ai_90, al_90, si_90, sl_90, KD_91, ai_91, al_91, si_91, sl_91, KD_92, ai_92, al_92, si_92, sl_92, KD_93, ai_93, al_93, si_93, sl_93, KD_94, ai_94, al_94, si_94, sl_94, KD_95, ai_95, al_95, si_95, sl_95, KD_96, ai_96, al_96, si_96, sl_96, KD_97, ai_97, al_97, si_97, sl_97, KD_98, ai_98, al_98, si_98, sl_98, KD_99, ai_99, al_99, si_99, sl_99, KD_100, ai_100, al_100, si_100, sl_100, KD_101, ai_101, al_101, si_101, sl_101, KD_102, ai_102, al_102, si_102, sl_102, KD_103, ai_103, al_103, si_103, sl_103, KD_104, ai_104, al_104, si_104, sl_104, KD_105, ai_105, al_105, si_105, sl_105, KD_106, ai_106, al_106, si_106, sl_106, KD_107, ai_107, al_107, si_107, sl_107, KD_108, ai_108, al_108, si_108, sl_108, KD_109, ai_109, al_109, si_109, sl_109, RF_80_2, RF_80_3, RF_80_4, RF_80_5, RF_80_6, RF_80_7, RF_80_9, RF_80_10, RF_80_12, RF_80_22, RF_80_24, RF_80_25, RF_80_27, RF_80_28, RF_80_31, RF_80_32, RF_80_33, RF_80_35, RF_80_36, RF_80_37, RF_80_41, RF_80_42, RF_80_43, RF_80_44, RF_80_46, RF_80_47, RF_80_48, RF_80_49, RF_80_55, ob, lt_e, nl_le1, nl_le2, nl_lt1, nl_lt2, nl_eq1, nl_eq2, nn_le, nn_lt, nn_eq, nl_m1, z_lt, z_le, z_le2, z_lt2, z_eq, aI_0, aJ_0, sI_0, sJ_0, nI_l1, nI_l2, nI_l3, nI_l4, bI_0, bI_1, bI_z, bI_t, bI_f, if_true, if_false, Bool.false_eq_true, Bool.true_eq_false, eq_self]
  by_cases e : h.2.1 82 (10 + b) = -1
  · simp [e, bI]
  · simp [e, bI]
theorem m_present (h : AH) {n : Nat} (hn : h.2.1 82 0 = nI n) (h7 : n ≤ 7) : f_X11_present S_1 80 h = some (bits n (fun b => ! awS (h.2.1 82) b), h) := by
  have e : ∀ (m k fu : Nat) (a : Int32), k + m = n → m < fu → f_X11_present_l4 S_1 fu 80 a (nI k) h = some (fo (fun s b => s ||| (if (! awS (h.2.1 82) b) then bt b else 0)) k m a, h) := by
    intro m
    induction m with
    | zero =>
      intro k fu a hk hf
      obtain ⟨fu, rfl⟩ : ∃ x, fu = x + 1 := ⟨fu - 1, by omega⟩
      subst hk
      unfold f_X11_present_l4 f_X11_present_l4b
      simp (disch := first | omega | decide) only [hn, Nat.add_zero, gI, gJ, gR, pI, pJ, pZ, ckO, lnA, KD_80, KD_81, ai_81, al_81, si_81, sl_81, KD_82, ai_82, al_82, si_82, sl_82, KD_83, ai_83, al_83, si_83, sl_83, KD_84, KD_85, ai_85, al_85, si_85, sl_85, KD_86, ai_86, al_86, si_86, sl_86, KD_87, ai_87, al_87, si_87, sl_87, KD_88, ai_88, al_88, si_88, sl_88, KD_89, ai_89, al_89, si_89, sl_89, KD_90, ai_90, al_90, si_90, sl_90, KD_91, ai_91, al_91, si_91, sl_91, KD_92, ai_92, al_92, si_92, sl_92, KD_93, ai_93, al_93, si_93, sl_93, KD_94, ai_94, al_94, si_94, sl_94, KD_95, ai_95, al_95, si_95, sl_95, KD_96, ai_96, al_96, si_96, sl_96, KD_97, ai_97, al_97, si_97, sl_97, KD_98, ai_98, al_98, si_98, sl_98, KD_99, ai_99, al_99, si_99, sl_99, KD_100, ai_100, al_100, si_100, sl_100, KD_101, ai_101, al_101, si_101, sl_101, KD_102, ai_102, al_102, si_102, sl_102, KD_103, ai_103, al_103, si_103, sl_103, KD_104, ai_104, al_104, si_104, sl_104, KD_105, ai_105, al_105, si_105, sl_105, KD_106, ai_106, al_106, si_106, sl_106, KD_107, ai_107, al_107, si_107, sl_107, KD_108, ai_108, al_108, si_108, sl_108, KD_109, ai_109, al_109, si_109, sl_109, RF_80_2, RF_80_3, RF_80_4, RF_80_5, RF_80_6, RF_80_7, RF_80_9, RF_80_10, RF_80_12, RF_80_22, RF_80_24, RF_80_25, RF_80_27, RF_80_28, RF_80_31, RF_80_32, RF_80_33, RF_80_35, RF_80_36, RF_80_37, RF_80_41, RF_80_42, RF_80_43, RF_80_44, RF_80_46, RF_80_47, RF_80_48, RF_80_49, RF_80_55, ob, lt_e, nl_le1, nl_le2, nl_lt1, nl_lt2, nl_eq1, nl_eq2, nn_le, nn_lt, nn_eq, nl_m1, z_lt, z_le, z_le2, z_lt2, z_eq, aI_0, aJ_0, sI_0, sJ_0, nI_l1, nI_l2, nI_l3, nI_l4, bI_0, bI_1, bI_z, bI_t, bI_f, if_true, if_false, Bool.false_eq_true, Bool.true_eq_false, eq_self]
      rw [if_pos (Nat.le_refl _)]
      rfl
    | succ m ih =>
      intro k fu a hk hf
      obtain ⟨fu, rfl⟩ : ∃ x, fu = x + 1 := ⟨fu - 1, by omega⟩
      unfold f_X11_present_l4 f_X11_present_l4b
      
      simp (disch := first | omega | decide) only [hn, m_away h, gI, gJ, gR, pI, pJ, pZ, ckO, lnA, KD_80, KD_81, ai_81, al_81, si_81, sl_81, KD_82, ai_82, al_82, si_82, sl_82, KD_83, ai_83, al_83, si_83, sl_83, KD_84, KD_85, ai_85, al_85, si_85, sl_85, KD_86, ai_86, al_86, si_86, sl_86, KD_87, ai_87, al_87, si_87, sl_87, KD_88, ai_88, al_88, si_88, sl_88, KD_89, ai_89, al_89, si_89, sl_89, KD_90, ai_90, al_90, si_90, sl_90, KD_91, ai_91, al_91, si_91, sl_91, KD_92, ai_92, al_92, si_92, sl_92, KD_93, ai_93, al_93, si_93, sl_93, KD_94, ai_94, al_94, si_94, sl_94, KD_95, ai_95, al_95, si_95, sl_95, KD_96, ai_96, al_96, si_96, sl_96, KD_97, ai_97, al_97, si_97, sl_97, KD_98, ai_98, al_98, si_98, sl_98, KD_99, ai_99, al_99, si_99, sl_99, KD_100, ai_100, al_100, si_100, sl_100, KD_101, ai_101, al_101, si_101, sl_101, KD_102, ai_102, al_102, si_102, sl_102, KD_103, ai_103, al_103, si_103, sl_103, KD_104, ai_104, al_104, si_104, sl_104, KD_105, ai_105, al_105, si_105, sl_105, KD_106, ai_106, al_106, si_106, sl_106, KD_107, ai_107, al_107, si_107, sl_107, KD_108, ai_108, al_108, si_108, sl_108, KD_109, ai_109, al_109, si_109, sl_109, RF_80_2, RF_80_3, RF_80_4, RF_80_5, RF_80_6, RF_80_7, RF_80_9, RF_80_10, RF_80_12, RF_80_22, RF_80_24, RF_80_25, RF_80_27, RF_80_28, RF_80_31, RF_80_32, RF_80_33, RF_80_35, RF_80_36, RF_80_37, RF_80_41, RF_80_42, RF_80_43, RF_80_44, RF_80_46, RF_80_47, RF_80_48, RF_80_49, RF_80_55, ob, lt_e, nl_le1, nl_le2, nl_lt1, nl_lt2, nl_eq1, nl_eq2, nn_le, nn_lt, nn_eq, nl_m1, z_lt, z_le, z_le2, z_lt2, z_eq, aI_0, aJ_0, sI_0, sJ_0, nI_l1, nI_l2, nI_l3, nI_l4, bI_0, bI_1, bI_z, bI_t, bI_f, if_true, if_false, Bool.false_eq_true, Bool.true_eq_false, eq_self]
      rw [if_neg (by omega)]
      cases ea : awS (h.2.1 82) k
      · simp (disch := first | omega | decide) only [gI, gJ, gR, pI, pJ, pZ, ckO, lnA, KD_80, KD_81, ai_81, al_81, si_81, sl_81, KD_82, ai_82, al_82, si_82, sl_82, KD_83, ai_83, al_83, si_83, sl_83, KD_84, KD_85, ai_85, al_85, si_85, sl_85, KD_86, ai_86, al_86, si_86, sl_86, KD_87, ai_87, al_87, si_87, sl_87, KD_88, ai_88, al_88, si_88, sl_88, KD_89, ai_89, al_89, si_89, sl_89, KD_90, ai_90, al_90, si_90, sl_90, KD_91, ai_91, al_91, si_91, sl_91, KD_92, ai_92, al_92, si_92, sl_92, KD_93, ai_93, al_93, si_93, sl_93, KD_94, ai_94, al_94, si_94, sl_94, KD_95, ai_95, al_95, si_95, sl_95, KD_96, ai_96, al_96, si_96, sl_96, KD_97, ai_97, al_97, si_97, sl_97, KD_98, ai_98, al_98, si_98, sl_98, KD_99, ai_99, al_99, si_99, sl_99, KD_100, ai_100, al_100, si_100, sl_100, KD_101, ai_101, al_101, si_101, sl_101, KD_102, ai_102, al_102, si_102, sl_102, KD_103, ai_103, al_103, si_103, sl_103, KD_104, ai_104, al_104, si_104, sl_104, KD_105, ai_105, al_105, si_105, sl_105, KD_106, ai_106, al_106, si_106, sl_106, KD_107, ai_107, al_107, si_107, sl_107, KD_108, ai_108, al_108, si_108, sl_108, KD_109, ai_109, al_109, si_109, sl_109, RF_80_2, RF_80_3, RF_80_4, RF_80_5, RF_80_6, RF_80_7, RF_80_9, RF_80_10, RF_80_12, RF_80_22, RF_80_24, RF_80_25, RF_80_27, RF_80_28, RF_80_31, RF_80_32, RF_80_33, RF_80_35, RF_80_36, RF_80_37, RF_80_41, RF_80_42, RF_80_43, RF_80_44, RF_80_46, RF_80_47, RF_80_48, RF_80_49, RF_80_55, ob, lt_e, nl_le1, nl_le2, nl_lt1, nl_lt2, nl_eq1, nl_eq2, nn_le, nn_lt, nn_eq, nl_m1, z_lt, z_le, z_le2, z_lt2, z_eq, aI_0, aJ_0, sI_0, sJ_0, nI_l1, nI_l2, nI_l3, nI_l4, bI_0, bI_1, bI_z, bI_t, bI_f, if_true, if_false, Bool.false_eq_true, Bool.true_eq_false, eq_self]
        rw [ih _ _ _ (by omega) (by omega)]
        simp [fo, ea, bt]
      · simp (disch := first | omega | decide) only [gI, gJ, gR, pI, pJ, pZ, ckO, lnA, KD_80, KD_81, ai_81, al_81, si_81, sl_81, KD_82, ai_82, al_82, si_82, sl_82, KD_83, ai_83, al_83, si_83, sl_83, KD_84, KD_85, ai_85, al_85, si_85, sl_85, KD_86, ai_86, al_86, si_86, sl_86, KD_87, ai_87, al_87, si_87, sl_87, KD_88, ai_88, al_88, si_88, sl_88, KD_89, ai_89, al_89, si_89, sl_89, KD_90, ai_90, al_90, si_90, sl_90, KD_91, ai_91, al_91, si_91, sl_91, KD_92, ai_92, al_92, si_92, sl_92, KD_93, ai_93, al_93, si_93, sl_93, KD_94, ai_94, al_94, si_94, sl_94, KD_95, ai_95, al_95, si_95, sl_95, KD_96, ai_96, al_96, si_96, sl_96, KD_97, ai_97, al_97, si_97, sl_97, KD_98, ai_98, al_98, si_98, sl_98, KD_99, ai_99, al_99, si_99, sl_99, KD_100, ai_100, al_100, si_100, sl_100, KD_101, ai_101, al_101, si_101, sl_101, KD_102, ai_102, al_102, si_102, sl_102, KD_103, ai_103, al_103, si_103, sl_103, KD_104, ai_104, al_104, si_104, sl_104, KD_105, ai_105, al_105, si_105, sl_105, KD_106, ai_106, al_106, si_106, sl_106, KD_107, ai_107, al_107, si_107, sl_107, KD_108, ai_108, al_108, si_108, sl_108, KD_109, ai_109, al_109, si_109, sl_109, RF_80_2, RF_80_3, RF_80_4, RF_80_5, RF_80_6, RF_80_7, RF_80_9, RF_80_10, RF_80_12, RF_80_22, RF_80_24, RF_80_25, RF_80_27, RF_80_28, RF_80_31, RF_80_32, RF_80_33, RF_80_35, RF_80_36, RF_80_37, RF_80_41, RF_80_42, RF_80_43, RF_80_44, RF_80_46, RF_80_47, RF_80_48, RF_80_49, RF_80_55, ob, lt_e, nl_le1, nl_le2, nl_lt1, nl_lt2, nl_eq1, nl_eq2, nn_le, nn_lt, nn_eq, nl_m1, z_lt, z_le, z_le2, z_lt2, z_eq, aI_0, aJ_0, sI_0, sJ_0, nI_l1, nI_l2, nI_l3, nI_l4, bI_0, bI_1, bI_z, bI_t, bI_f, if_true, if_false, Bool.false_eq_true, Bool.true_eq_false, eq_self]
        rw [ih _ _ _ (by omega) (by omega)]
        simp [fo, ea, bt]
  unfold f_X11_present
  rw [show (0 : Int32) = nI 0 from rfl, e n 0 _ _ (by omega) (by unfold FU; omega)]
  rfl
theorem m_hears (h : AH) {b o : Nat} (hb : b < 7) (ho : o < 7) : f_X11_hears S_1 80 (nI b) (nI o) h = some (bI (heS (h.2.1 82) b o), h) := by
  have j : f_X11_hears_j30 S_1 80 (nI b) (nI o) (abI (h.2.1 82 (10 + b) - h.2.1 82 (10 + o))) h = some (bI (heS (h.2.1 82) b o), h) := by
    unfold f_X11_hears_j30 heS
    simp (disch := first | omega | decide) only [m_away h, gI, gJ, gR, pI, pJ, pZ, ckO, lnA, KD_80, KD_81, ai_81, al_81, si_81, sl_81, KD_82, ai_82, al_82, si_82, sl_82, KD_83, ai_83, al_83, si_83, sl_83, KD_84, KD_85, ai_85, al_85, si_85, sl_85, KD_86, ai_86, al_86, si_86, sl_86, KD_87, ai_87, al_87, si_87, sl_87, KD_88, ai_88, al_88, si_88, sl_88, KD_89, ai_89, al_89, si_89, sl_89, KD_90, ai_90, al_90, si_90, sl_90, KD_91, ai_91, al_91, si_91, sl_91, KD_92, ai_92, al_92, si_92, sl_92, KD_93, ai_93, al_93, si_93, sl_93, KD_94, ai_94, al_94, si_94, sl_94, KD_95, ai_95, al_95, si_95, sl_95, KD_96, ai_96, al_96, si_96, sl_96, KD_97, ai_97, al_97, si_97, sl_97, KD_98, ai_98, al_98, si_98, sl_98, KD_99, ai_99, al_99, si_99, sl_99, KD_100, ai_100, al_100, si_100, sl_100, KD_101, ai_101, al_101, si_101, sl_101, KD_102, ai_102, al_102, si_102, sl_102, KD_103, ai_103, al_103, si_103, sl_103, KD_104, ai_104, al_104, si_104, sl_104, KD_105, ai_105, al_105, si_105, sl_105, KD_106, ai_106, al_106, si_106, sl_106, KD_107, ai_107, al_107, si_107, sl_107, KD_108, ai_108, al_108, si_108, sl_108, KD_109, ai_109, al_109, si_109, sl_109, RF_80_2, RF_80_3, RF_80_4, RF_80_5, RF_80_6, RF_80_7, RF_80_9, RF_80_10, RF_80_12, RF_80_22, RF_80_24, RF_80_25, RF_80_27, RF_80_28, RF_80_31, RF_80_32, RF_80_33, RF_80_35, RF_80_36, RF_80_37, RF_80_41, RF_80_42, RF_80_43, RF_80_44, RF_80_46, RF_80_47, RF_80_48, RF_80_49, RF_80_55, ob, lt_e, nl_le1, nl_le2, nl_lt1, nl_lt2, nl_eq1, nl_eq2, nn_le, nn_lt, nn_eq, nl_m1, z_lt, z_le, z_le2, z_lt2, z_eq, aI_0, aJ_0, sI_0, sJ_0, nI_l1, nI_l2, nI_l3, nI_l4, bI_0, bI_1, bI_z, bI_t, bI_f, if_true, if_false, Bool.false_eq_true, Bool.true_eq_false, eq_self]
    by_cases e1 : b = o
    · simp [e1, bI]
    · by_cases e2 : h.2.1 82 (10 + b) = -1
      · simp [e1, e2, bI, awS]
      · by_cases e3 : h.2.1 82 (10 + o) = -1
        · simp [e1, e2, e3, bI, awS]
        · by_cases e4 : h.2.1 82 (23 + o) < abI (h.2.1 82 (10 + b) - h.2.1 82 (10 + o))
          · simp [e1, e2, e3, e4, bI, awS, Int32.not_le]
          · simp [e1, e2, e3, e4, bI, awS, Int32.not_lt.mp e4]
  unfold f_X11_hears
  simp (disch := first | omega | decide) only [gI, gJ, gR, pI, pJ, pZ, ckO, lnA, KD_80, KD_81, ai_81, al_81, si_81, sl_81, KD_82, ai_82, al_82, si_82, sl_82, KD_83, ai_83, al_83, si_83, sl_83, KD_84, KD_85, ai_85, al_85, si_85, sl_85, KD_86, ai_86, al_86, si_86, sl_86, KD_87, ai_87, al_87, si_87, sl_87, KD_88, ai_88, al_88, si_88, sl_88, KD_89, ai_89, al_89, si_89, sl_89, KD_90, ai_90, al_90, si_90, sl_90, KD_91, ai_91, al_91, si_91, sl_91, KD_92, ai_92, al_92, si_92, sl_92, KD_93, ai_93, al_93, si_93, sl_93, KD_94, ai_94, al_94, si_94, sl_94, KD_95, ai_95, al_95, si_95, sl_95, KD_96, ai_96, al_96, si_96, sl_96, KD_97, ai_97, al_97, si_97, sl_97, KD_98, ai_98, al_98, si_98, sl_98, KD_99, ai_99, al_99, si_99, sl_99, KD_100, ai_100, al_100, si_100, sl_100, KD_101, ai_101, al_101, si_101, sl_101, KD_102, ai_102, al_102, si_102, sl_102, KD_103, ai_103, al_103, si_103, sl_103, KD_104, ai_104, al_104, si_104, sl_104, KD_105, ai_105, al_105, si_105, sl_105, KD_106, ai_106, al_106, si_106, sl_106, KD_107, ai_107, al_107, si_107, sl_107, KD_108, ai_108, al_108, si_108, sl_108, KD_109, ai_109, al_109, si_109, sl_109, RF_80_2, RF_80_3, RF_80_4, RF_80_5, RF_80_6, RF_80_7, RF_80_9, RF_80_10, RF_80_12, RF_80_22, RF_80_24, RF_80_25, RF_80_27, RF_80_28, RF_80_31, RF_80_32, RF_80_33, RF_80_35, RF_80_36, RF_80_37, RF_80_41, RF_80_42, RF_80_43, RF_80_44, RF_80_46, RF_80_47, RF_80_48, RF_80_49, RF_80_55, ob, lt_e, nl_le1, nl_le2, nl_lt1, nl_lt2, nl_eq1, nl_eq2, nn_le, nn_lt, nn_eq, nl_m1, z_lt, z_le, z_le2, z_lt2, z_eq, aI_0, aJ_0, sI_0, sJ_0, nI_l1, nI_l2, nI_l3, nI_l4, bI_0, bI_1, bI_z, bI_t, bI_f, if_true, if_false, Bool.false_eq_true, Bool.true_eq_false, eq_self]
  by_cases e : (0 : Int32) ≤ h.2.1 82 (10 + b) - h.2.1 82 (10 + o)
  · rw [if_pos e]
    unfold abI at j
    rw [if_pos e] at j
    exact j
  · rw [if_neg e]
    unfold abI at j
    rw [if_neg e, Int32.zero_sub] at j
    exact j
theorem m_hearsAll (h : AH) {n b : Nat} (hn : h.2.1 82 0 = nI n) (h7 : n ≤ 7) (hb : b < 7) : f_X11_hearsAll S_1 80 (nI b) h = some (bits n (fun o => heS (h.2.1 82) b o), h) := by
  have e : ∀ (m k fu : Nat) (a : Int32), k + m = n → m < fu → f_X11_hearsAll_l4 S_1 fu 80 (nI b) a (nI k) h = some (fo (fun s o => s ||| (if heS (h.2.1 82) b o then bt o else 0)) k m a, h) := by
    intro m
    induction m with
    | zero =>
      intro k fu a hk hf
      obtain ⟨fu, rfl⟩ : ∃ x, fu = x + 1 := ⟨fu - 1, by omega⟩
      subst hk
      unfold f_X11_hearsAll_l4 f_X11_hearsAll_l4b
      simp (disch := first | omega | decide) only [hn, Nat.add_zero, gI, gJ, gR, pI, pJ, pZ, ckO, lnA, KD_80, KD_81, ai_81, al_81, si_81, sl_81, KD_82, ai_82, al_82, si_82, sl_82, KD_83, ai_83, al_83, si_83, sl_83, KD_84, KD_85, ai_85, al_85, si_85, sl_85, KD_86, ai_86, al_86, si_86, sl_86, KD_87, ai_87, al_87, si_87, sl_87, KD_88, ai_88, al_88, si_88, sl_88, KD_89, ai_89, al_89, si_89, sl_89, KD_90, ai_90, al_90, si_90, sl_90, KD_91, ai_91, al_91, si_91, sl_91, KD_92, ai_92, al_92, si_92, sl_92, KD_93, ai_93, al_93, si_93, sl_93, KD_94, ai_94, al_94, si_94, sl_94, KD_95, ai_95, al_95, si_95, sl_95, KD_96, ai_96, al_96, si_96, sl_96, KD_97, ai_97, al_97, si_97, sl_97, KD_98, ai_98, al_98, si_98, sl_98, KD_99, ai_99, al_99, si_99, sl_99, KD_100, ai_100, al_100, si_100, sl_100, KD_101, ai_101, al_101, si_101, sl_101, KD_102, ai_102, al_102, si_102, sl_102, KD_103, ai_103, al_103, si_103, sl_103, KD_104, ai_104, al_104, si_104, sl_104, KD_105, ai_105, al_105, si_105, sl_105, KD_106, ai_106, al_106, si_106, sl_106, KD_107, ai_107, al_107, si_107, sl_107, KD_108, ai_108, al_108, si_108, sl_108, KD_109, ai_109, al_109, si_109, sl_109, RF_80_2, RF_80_3, RF_80_4, RF_80_5, RF_80_6, RF_80_7, RF_80_9, RF_80_10, RF_80_12, RF_80_22, RF_80_24, RF_80_25, RF_80_27, RF_80_28, RF_80_31, RF_80_32, RF_80_33, RF_80_35, RF_80_36, RF_80_37, RF_80_41, RF_80_42, RF_80_43, RF_80_44, RF_80_46, RF_80_47, RF_80_48, RF_80_49, RF_80_55, ob, lt_e, nl_le1, nl_le2, nl_lt1, nl_lt2, nl_eq1, nl_eq2, nn_le, nn_lt, nn_eq, nl_m1, z_lt, z_le, z_le2, z_lt2, z_eq, aI_0, aJ_0, sI_0, sJ_0, nI_l1, nI_l2, nI_l3, nI_l4, bI_0, bI_1, bI_z, bI_t, bI_f, if_true, if_false, Bool.false_eq_true, Bool.true_eq_false, eq_self]
      rw [if_pos (Nat.le_refl _)]
      rfl
    | succ m ih =>
      intro k fu a hk hf
      obtain ⟨fu, rfl⟩ : ∃ x, fu = x + 1 := ⟨fu - 1, by omega⟩
      unfold f_X11_hearsAll_l4 f_X11_hearsAll_l4b
      
      simp (disch := first | omega | decide) only [hn, m_hears h, gI, gJ, gR, pI, pJ, pZ, ckO, lnA, KD_80, KD_81, ai_81, al_81, si_81, sl_81, KD_82, ai_82, al_82, si_82, sl_82, KD_83, ai_83, al_83, si_83, sl_83, KD_84, KD_85, ai_85, al_85, si_85, sl_85, KD_86, ai_86, al_86, si_86, sl_86, KD_87, ai_87, al_87, si_87, sl_87, KD_88, ai_88, al_88, si_88, sl_88, KD_89, ai_89, al_89, si_89, sl_89, KD_90, ai_90, al_90, si_90, sl_90, KD_91, ai_91, al_91, si_91, sl_91, KD_92, ai_92, al_92, si_92, sl_92, KD_93, ai_93, al_93, si_93, sl_93, KD_94, ai_94, al_94, si_94, sl_94, KD_95, ai_95, al_95, si_95, sl_95, KD_96, ai_96, al_96, si_96, sl_96, KD_97, ai_97, al_97, si_97, sl_97, KD_98, ai_98, al_98, si_98, sl_98, KD_99, ai_99, al_99, si_99, sl_99, KD_100, ai_100, al_100, si_100, sl_100, KD_101, ai_101, al_101, si_101, sl_101, KD_102, ai_102, al_102, si_102, sl_102, KD_103, ai_103, al_103, si_103, sl_103, KD_104, ai_104, al_104, si_104, sl_104, KD_105, ai_105, al_105, si_105, sl_105, KD_106, ai_106, al_106, si_106, sl_106, KD_107, ai_107, al_107, si_107, sl_107, KD_108, ai_108, al_108, si_108, sl_108, KD_109, ai_109, al_109, si_109, sl_109, RF_80_2, RF_80_3, RF_80_4, RF_80_5, RF_80_6, RF_80_7, RF_80_9, RF_80_10, RF_80_12, RF_80_22, RF_80_24, RF_80_25, RF_80_27, RF_80_28, RF_80_31, RF_80_32, RF_80_33, RF_80_35, RF_80_36, RF_80_37, RF_80_41, RF_80_42, RF_80_43, RF_80_44, RF_80_46, RF_80_47, RF_80_48, RF_80_49, RF_80_55, ob, lt_e, nl_le1, nl_le2, nl_lt1, nl_lt2, nl_eq1, nl_eq2, nn_le, nn_lt, nn_eq, nl_m1, z_lt, z_le, z_le2, z_lt2, z_eq, aI_0, aJ_0, sI_0, sJ_0, nI_l1, nI_l2, nI_l3, nI_l4, bI_0, bI_1, bI_z, bI_t, bI_f, if_true, if_false, Bool.false_eq_true, Bool.true_eq_false, eq_self]
      rw [if_neg (by omega)]
      cases ea : heS (h.2.1 82) b k
      · simp (disch := first | omega | decide) only [gI, gJ, gR, pI, pJ, pZ, ckO, lnA, KD_80, KD_81, ai_81, al_81, si_81, sl_81, KD_82, ai_82, al_82, si_82, sl_82, KD_83, ai_83, al_83, si_83, sl_83, KD_84, KD_85, ai_85, al_85, si_85, sl_85, KD_86, ai_86, al_86, si_86, sl_86, KD_87, ai_87, al_87, si_87, sl_87, KD_88, ai_88, al_88, si_88, sl_88, KD_89, ai_89, al_89, si_89, sl_89, KD_90, ai_90, al_90, si_90, sl_90, KD_91, ai_91, al_91, si_91, sl_91, KD_92, ai_92, al_92, si_92, sl_92, KD_93, ai_93, al_93, si_93, sl_93, KD_94, ai_94, al_94, si_94, sl_94, KD_95, ai_95, al_95, si_95, sl_95, KD_96, ai_96, al_96, si_96, sl_96, KD_97, ai_97, al_97, si_97, sl_97, KD_98, ai_98, al_98, si_98, sl_98, KD_99, ai_99, al_99, si_99, sl_99, KD_100, ai_100, al_100, si_100, sl_100, KD_101, ai_101, al_101, si_101, sl_101, KD_102, ai_102, al_102, si_102, sl_102, KD_103, ai_103, al_103, si_103, sl_103, KD_104, ai_104, al_104, si_104, sl_104, KD_105, ai_105, al_105, si_105, sl_105, KD_106, ai_106, al_106, si_106, sl_106, KD_107, ai_107, al_107, si_107, sl_107, KD_108, ai_108, al_108, si_108, sl_108, KD_109, ai_109, al_109, si_109, sl_109, RF_80_2, RF_80_3, RF_80_4, RF_80_5, RF_80_6, RF_80_7, RF_80_9, RF_80_10, RF_80_12, RF_80_22, RF_80_24, RF_80_25, RF_80_27, RF_80_28, RF_80_31, RF_80_32, RF_80_33, RF_80_35, RF_80_36, RF_80_37, RF_80_41, RF_80_42, RF_80_43, RF_80_44, RF_80_46, RF_80_47, RF_80_48, RF_80_49, RF_80_55, ob, lt_e, nl_le1, nl_le2, nl_lt1, nl_lt2, nl_eq1, nl_eq2, nn_le, nn_lt, nn_eq, nl_m1, z_lt, z_le, z_le2, z_lt2, z_eq, aI_0, aJ_0, sI_0, sJ_0, nI_l1, nI_l2, nI_l3, nI_l4, bI_0, bI_1, bI_z, bI_t, bI_f, if_true, if_false, Bool.false_eq_true, Bool.true_eq_false, eq_self]
        rw [ih _ _ _ (by omega) (by omega)]
        simp [fo, ea, bt]
      · simp (disch := first | omega | decide) only [gI, gJ, gR, pI, pJ, pZ, ckO, lnA, KD_80, KD_81, ai_81, al_81, si_81, sl_81, KD_82, ai_82, al_82, si_82, sl_82, KD_83, ai_83, al_83, si_83, sl_83, KD_84, KD_85, ai_85, al_85, si_85, sl_85, KD_86, ai_86, al_86, si_86, sl_86, KD_87, ai_87, al_87, si_87, sl_87, KD_88, ai_88, al_88, si_88, sl_88, KD_89, ai_89, al_89, si_89, sl_89, KD_90, ai_90, al_90, si_90, sl_90, KD_91, ai_91, al_91, si_91, sl_91, KD_92, ai_92, al_92, si_92, sl_92, KD_93, ai_93, al_93, si_93, sl_93, KD_94, ai_94, al_94, si_94, sl_94, KD_95, ai_95, al_95, si_95, sl_95, KD_96, ai_96, al_96, si_96, sl_96, KD_97, ai_97, al_97, si_97, sl_97, KD_98, ai_98, al_98, si_98, sl_98, KD_99, ai_99, al_99, si_99, sl_99, KD_100, ai_100, al_100, si_100, sl_100, KD_101, ai_101, al_101, si_101, sl_101, KD_102, ai_102, al_102, si_102, sl_102, KD_103, ai_103, al_103, si_103, sl_103, KD_104, ai_104, al_104, si_104, sl_104, KD_105, ai_105, al_105, si_105, sl_105, KD_106, ai_106, al_106, si_106, sl_106, KD_107, ai_107, al_107, si_107, sl_107, KD_108, ai_108, al_108, si_108, sl_108, KD_109, ai_109, al_109, si_109, sl_109, RF_80_2, RF_80_3, RF_80_4, RF_80_5, RF_80_6, RF_80_7, RF_80_9, RF_80_10, RF_80_12, RF_80_22, RF_80_24, RF_80_25, RF_80_27, RF_80_28, RF_80_31, RF_80_32, RF_80_33, RF_80_35, RF_80_36, RF_80_37, RF_80_41, RF_80_42, RF_80_43, RF_80_44, RF_80_46, RF_80_47, RF_80_48, RF_80_49, RF_80_55, ob, lt_e, nl_le1, nl_le2, nl_lt1, nl_lt2, nl_eq1, nl_eq2, nn_le, nn_lt, nn_eq, nl_m1, z_lt, z_le, z_le2, z_lt2, z_eq, aI_0, aJ_0, sI_0, sJ_0, nI_l1, nI_l2, nI_l3, nI_l4, bI_0, bI_1, bI_z, bI_t, bI_f, if_true, if_false, Bool.false_eq_true, Bool.true_eq_false, eq_self]
        rw [ih _ _ _ (by omega) (by omega)]
        simp [fo, ea, bt]
  unfold f_X11_hearsAll
  rw [show (0 : Int32) = nI 0 from rfl, e n 0 _ _ (by omega) (by unfold FU; omega)]
  rfl
theorem m_heardBy (h : AH) {n b : Nat} (hn : h.2.1 82 0 = nI n) (h7 : n ≤ 7) (hb : b < 7) : f_X11_heardBy S_1 80 (nI b) h = some (howM n (fun o => heS (h.2.1 82) o b), h) := by
  have e : ∀ (m k fu : Nat) (a : Int32), k + m = n → m < fu → f_X11_heardBy_l4 S_1 fu 80 (nI b) a (nI k) h = some (fo (fun s o => s + (if heS (h.2.1 82) o b then 1 else 0)) k m a, h) := by
    intro m
    induction m with
    | zero =>
      intro k fu a hk hf
      obtain ⟨fu, rfl⟩ : ∃ x, fu = x + 1 := ⟨fu - 1, by omega⟩
      subst hk
      unfold f_X11_heardBy_l4 f_X11_heardBy_l4b
      simp (disch := first | omega | decide) only [hn, Nat.add_zero, gI, gJ, gR, pI, pJ, pZ, ckO, lnA, KD_80, KD_81, ai_81, al_81, si_81, sl_81, KD_82, ai_82, al_82, si_82, sl_82, KD_83, ai_83, al_83, si_83, sl_83, KD_84, KD_85, ai_85, al_85, si_85, sl_85, KD_86, ai_86, al_86, si_86, sl_86, KD_87, ai_87, al_87, si_87, sl_87, KD_88, ai_88, al_88, si_88, sl_88, KD_89, ai_89, al_89, si_89, sl_89, KD_90, ai_90, al_90, si_90, sl_90, KD_91, ai_91, al_91, si_91, sl_91, KD_92, ai_92, al_92, si_92, sl_92, KD_93, ai_93, al_93, si_93, sl_93, KD_94, ai_94, al_94, si_94, sl_94, KD_95, ai_95, al_95, si_95, sl_95, KD_96, ai_96, al_96, si_96, sl_96, KD_97, ai_97, al_97, si_97, sl_97, KD_98, ai_98, al_98, si_98, sl_98, KD_99, ai_99, al_99, si_99, sl_99, KD_100, ai_100, al_100, si_100, sl_100, KD_101, ai_101, al_101, si_101, sl_101, KD_102, ai_102, al_102, si_102, sl_102, KD_103, ai_103, al_103, si_103, sl_103, KD_104, ai_104, al_104, si_104, sl_104, KD_105, ai_105, al_105, si_105, sl_105, KD_106, ai_106, al_106, si_106, sl_106, KD_107, ai_107, al_107, si_107, sl_107, KD_108, ai_108, al_108, si_108, sl_108, KD_109, ai_109, al_109, si_109, sl_109, RF_80_2, RF_80_3, RF_80_4, RF_80_5, RF_80_6, RF_80_7, RF_80_9, RF_80_10, RF_80_12, RF_80_22, RF_80_24, RF_80_25, RF_80_27, RF_80_28, RF_80_31, RF_80_32, RF_80_33, RF_80_35, RF_80_36, RF_80_37, RF_80_41, RF_80_42, RF_80_43, RF_80_44, RF_80_46, RF_80_47, RF_80_48, RF_80_49, RF_80_55, ob, lt_e, nl_le1, nl_le2, nl_lt1, nl_lt2, nl_eq1, nl_eq2, nn_le, nn_lt, nn_eq, nl_m1, z_lt, z_le, z_le2, z_lt2, z_eq, aI_0, aJ_0, sI_0, sJ_0, nI_l1, nI_l2, nI_l3, nI_l4, bI_0, bI_1, bI_z, bI_t, bI_f, if_true, if_false, Bool.false_eq_true, Bool.true_eq_false, eq_self]
      rw [if_pos (Nat.le_refl _)]
      rfl
    | succ m ih =>
      intro k fu a hk hf
      obtain ⟨fu, rfl⟩ : ∃ x, fu = x + 1 := ⟨fu - 1, by omega⟩
      unfold f_X11_heardBy_l4 f_X11_heardBy_l4b
      
      simp (disch := first | omega | decide) only [hn, m_hears h, gI, gJ, gR, pI, pJ, pZ, ckO, lnA, KD_80, KD_81, ai_81, al_81, si_81, sl_81, KD_82, ai_82, al_82, si_82, sl_82, KD_83, ai_83, al_83, si_83, sl_83, KD_84, KD_85, ai_85, al_85, si_85, sl_85, KD_86, ai_86, al_86, si_86, sl_86, KD_87, ai_87, al_87, si_87, sl_87, KD_88, ai_88, al_88, si_88, sl_88, KD_89, ai_89, al_89, si_89, sl_89, KD_90, ai_90, al_90, si_90, sl_90, KD_91, ai_91, al_91, si_91, sl_91, KD_92, ai_92, al_92, si_92, sl_92, KD_93, ai_93, al_93, si_93, sl_93, KD_94, ai_94, al_94, si_94, sl_94, KD_95, ai_95, al_95, si_95, sl_95, KD_96, ai_96, al_96, si_96, sl_96, KD_97, ai_97, al_97, si_97, sl_97, KD_98, ai_98, al_98, si_98, sl_98, KD_99, ai_99, al_99, si_99, sl_99, KD_100, ai_100, al_100, si_100, sl_100, KD_101, ai_101, al_101, si_101, sl_101, KD_102, ai_102, al_102, si_102, sl_102, KD_103, ai_103, al_103, si_103, sl_103, KD_104, ai_104, al_104, si_104, sl_104, KD_105, ai_105, al_105, si_105, sl_105, KD_106, ai_106, al_106, si_106, sl_106, KD_107, ai_107, al_107, si_107, sl_107, KD_108, ai_108, al_108, si_108, sl_108, KD_109, ai_109, al_109, si_109, sl_109, RF_80_2, RF_80_3, RF_80_4, RF_80_5, RF_80_6, RF_80_7, RF_80_9, RF_80_10, RF_80_12, RF_80_22, RF_80_24, RF_80_25, RF_80_27, RF_80_28, RF_80_31, RF_80_32, RF_80_33, RF_80_35, RF_80_36, RF_80_37, RF_80_41, RF_80_42, RF_80_43, RF_80_44, RF_80_46, RF_80_47, RF_80_48, RF_80_49, RF_80_55, ob, lt_e, nl_le1, nl_le2, nl_lt1, nl_lt2, nl_eq1, nl_eq2, nn_le, nn_lt, nn_eq, nl_m1, z_lt, z_le, z_le2, z_lt2, z_eq, aI_0, aJ_0, sI_0, sJ_0, nI_l1, nI_l2, nI_l3, nI_l4, bI_0, bI_1, bI_z, bI_t, bI_f, if_true, if_false, Bool.false_eq_true, Bool.true_eq_false, eq_self]
      rw [if_neg (by omega)]
      cases ea : heS (h.2.1 82) k b
      · simp (disch := first | omega | decide) only [gI, gJ, gR, pI, pJ, pZ, ckO, lnA, KD_80, KD_81, ai_81, al_81, si_81, sl_81, KD_82, ai_82, al_82, si_82, sl_82, KD_83, ai_83, al_83, si_83, sl_83, KD_84, KD_85, ai_85, al_85, si_85, sl_85, KD_86, ai_86, al_86, si_86, sl_86, KD_87, ai_87, al_87, si_87, sl_87, KD_88, ai_88, al_88, si_88, sl_88, KD_89, ai_89, al_89, si_89, sl_89, KD_90, ai_90, al_90, si_90, sl_90, KD_91, ai_91, al_91, si_91, sl_91, KD_92, ai_92, al_92, si_92, sl_92, KD_93, ai_93, al_93, si_93, sl_93, KD_94, ai_94, al_94, si_94, sl_94, KD_95, ai_95, al_95, si_95, sl_95, KD_96, ai_96, al_96, si_96, sl_96, KD_97, ai_97, al_97, si_97, sl_97, KD_98, ai_98, al_98, si_98, sl_98, KD_99, ai_99, al_99, si_99, sl_99, KD_100, ai_100, al_100, si_100, sl_100, KD_101, ai_101, al_101, si_101, sl_101, KD_102, ai_102, al_102, si_102, sl_102, KD_103, ai_103, al_103, si_103, sl_103, KD_104, ai_104, al_104, si_104, sl_104, KD_105, ai_105, al_105, si_105, sl_105, KD_106, ai_106, al_106, si_106, sl_106, KD_107, ai_107, al_107, si_107, sl_107, KD_108, ai_108, al_108, si_108, sl_108, KD_109, ai_109, al_109, si_109, sl_109, RF_80_2, RF_80_3, RF_80_4, RF_80_5, RF_80_6, RF_80_7, RF_80_9, RF_80_10, RF_80_12, RF_80_22, RF_80_24, RF_80_25, RF_80_27, RF_80_28, RF_80_31, RF_80_32, RF_80_33, RF_80_35, RF_80_36, RF_80_37, RF_80_41, RF_80_42, RF_80_43, RF_80_44, RF_80_46, RF_80_47, RF_80_48, RF_80_49, RF_80_55, ob, lt_e, nl_le1, nl_le2, nl_lt1, nl_lt2, nl_eq1, nl_eq2, nn_le, nn_lt, nn_eq, nl_m1, z_lt, z_le, z_le2, z_lt2, z_eq, aI_0, aJ_0, sI_0, sJ_0, nI_l1, nI_l2, nI_l3, nI_l4, bI_0, bI_1, bI_z, bI_t, bI_f, if_true, if_false, Bool.false_eq_true, Bool.true_eq_false, eq_self]
        rw [ih _ _ _ (by omega) (by omega)]
        simp [fo, ea, bt]
      · simp (disch := first | omega | decide) only [gI, gJ, gR, pI, pJ, pZ, ckO, lnA, KD_80, KD_81, ai_81, al_81, si_81, sl_81, KD_82, ai_82, al_82, si_82, sl_82, KD_83, ai_83, al_83, si_83, sl_83, KD_84, KD_85, ai_85, al_85, si_85, sl_85, KD_86, ai_86, al_86, si_86, sl_86, KD_87, ai_87, al_87, si_87, sl_87, KD_88, ai_88, al_88, si_88, sl_88, KD_89, ai_89, al_89, si_89, sl_89, KD_90, ai_90, al_90, si_90, sl_90, KD_91, ai_91, al_91, si_91, sl_91, KD_92, ai_92, al_92, si_92, sl_92, KD_93, ai_93, al_93, si_93, sl_93, KD_94, ai_94, al_94, si_94, sl_94, KD_95, ai_95, al_95, si_95, sl_95, KD_96, ai_96, al_96, si_96, sl_96, KD_97, ai_97, al_97, si_97, sl_97, KD_98, ai_98, al_98, si_98, sl_98, KD_99, ai_99, al_99, si_99, sl_99, KD_100, ai_100, al_100, si_100, sl_100, KD_101, ai_101, al_101, si_101, sl_101, KD_102, ai_102, al_102, si_102, sl_102, KD_103, ai_103, al_103, si_103, sl_103, KD_104, ai_104, al_104, si_104, sl_104, KD_105, ai_105, al_105, si_105, sl_105, KD_106, ai_106, al_106, si_106, sl_106, KD_107, ai_107, al_107, si_107, sl_107, KD_108, ai_108, al_108, si_108, sl_108, KD_109, ai_109, al_109, si_109, sl_109, RF_80_2, RF_80_3, RF_80_4, RF_80_5, RF_80_6, RF_80_7, RF_80_9, RF_80_10, RF_80_12, RF_80_22, RF_80_24, RF_80_25, RF_80_27, RF_80_28, RF_80_31, RF_80_32, RF_80_33, RF_80_35, RF_80_36, RF_80_37, RF_80_41, RF_80_42, RF_80_43, RF_80_44, RF_80_46, RF_80_47, RF_80_48, RF_80_49, RF_80_55, ob, lt_e, nl_le1, nl_le2, nl_lt1, nl_lt2, nl_eq1, nl_eq2, nn_le, nn_lt, nn_eq, nl_m1, z_lt, z_le, z_le2, z_lt2, z_eq, aI_0, aJ_0, sI_0, sJ_0, nI_l1, nI_l2, nI_l3, nI_l4, bI_0, bI_1, bI_z, bI_t, bI_f, if_true, if_false, Bool.false_eq_true, Bool.true_eq_false, eq_self]
        rw [ih _ _ _ (by omega) (by omega)]
        simp [fo, ea, bt]
  unfold f_X11_heardBy
  rw [show (0 : Int32) = nI 0 from rfl, e n 0 _ _ (by omega) (by unfold FU; omega)]
  rfl
theorem in_n {x : Int32} {n : Nat} (hn : n ≤ 7) : decide ((0 : Int64) ≤ Int32.toInt64 x ∧ Int32.toInt64 x ≤ Int32.toInt64 (nI n) - 1) = decide (0 ≤ x ∧ x < nI n) := by
  have e : Int32.toInt64 (nI n) - 1 = Int64.ofInt (n - 1) := by
    have : ∀ k, k < 8 → Int32.toInt64 (nI k) - 1 = Int64.ofInt (k - 1) := by decide
    exact this n (by omega)
  have e2 : (Int64.ofInt (n - 1)).toInt = n - 1 := by
    have : ∀ k, k < 8 → (Int64.ofInt (((k : Nat) : Int) - 1)).toInt = k - 1 := by decide
    exact this n (by omega)
  have e3 : (nI n).toInt = n := by
    have : ∀ k, k < 8 → (nI k).toInt = (k : Int) := by decide
    exact this n (by omega)
  rw [e]
  apply decide_eq_decide.mpr
  simp only [Int64.le_iff_toInt_le, Int32.le_iff_toInt_le, Int32.lt_iff_toInt_lt, Int32.toInt_toInt64, e2, e3]
  show 0 ≤ x.toInt ∧ x.toInt ≤ n - 1 ↔ 0 ≤ x.toInt ∧ x.toInt < n
  omega
theorem m_isBird (h : AH) {n : Nat} (x : Int32) (hn : h.2.1 82 0 = nI n) (h7 : n ≤ 7) : f_X11_isBird S_1 80 x h = some (bI (decide (0 ≤ x ∧ x < nI n)), h) := by
  unfold f_X11_isBird
  simp (disch := first | omega | decide) only [gI, gJ, gR, pI, pJ, pZ, ckO, lnA, KD_80, KD_81, ai_81, al_81, si_81, sl_81, KD_82, ai_82, al_82, si_82, sl_82, KD_83, ai_83, al_83, si_83, sl_83, KD_84, KD_85, ai_85, al_85, si_85, sl_85, KD_86, ai_86, al_86, si_86, sl_86, KD_87, ai_87, al_87, si_87, sl_87, KD_88, ai_88, al_88, si_88, sl_88, KD_89, ai_89, al_89, si_89, sl_89, KD_90, ai_90, al_90, si_90, sl_90, KD_91, ai_91, al_91, si_91, sl_91, KD_92, ai_92, al_92, si_92, sl_92, KD_93, ai_93, al_93, si_93, sl_93, KD_94, ai_94, al_94, si_94, sl_94, KD_95, ai_95, al_95, si_95, sl_95, KD_96, ai_96, al_96, si_96, sl_96, KD_97, ai_97, al_97, si_97, sl_97, KD_98, ai_98, al_98, si_98, sl_98, KD_99, ai_99, al_99, si_99, sl_99, KD_100, ai_100, al_100, si_100, sl_100, KD_101, ai_101, al_101, si_101, sl_101, KD_102, ai_102, al_102, si_102, sl_102, KD_103, ai_103, al_103, si_103, sl_103, KD_104, ai_104, al_104, si_104, sl_104, KD_105, ai_105, al_105, si_105, sl_105, KD_106, ai_106, al_106, si_106, sl_106, KD_107, ai_107, al_107, si_107, sl_107, KD_108, ai_108, al_108, si_108, sl_108, KD_109, ai_109, al_109, si_109, sl_109, RF_80_2, RF_80_3, RF_80_4, RF_80_5, RF_80_6, RF_80_7, RF_80_9, RF_80_10, RF_80_12, RF_80_22, RF_80_24, RF_80_25, RF_80_27, RF_80_28, RF_80_31, RF_80_32, RF_80_33, RF_80_35, RF_80_36, RF_80_37, RF_80_41, RF_80_42, RF_80_43, RF_80_44, RF_80_46, RF_80_47, RF_80_48, RF_80_49, RF_80_55, ob, lt_e, nl_le1, nl_le2, nl_lt1, nl_lt2, nl_eq1, nl_eq2, nn_le, nn_lt, nn_eq, nl_m1, z_lt, z_le, z_le2, z_lt2, z_eq, aI_0, aJ_0, sI_0, sJ_0, nI_l1, nI_l2, nI_l3, nI_l4, bI_0, bI_1, bI_z, bI_t, bI_f, if_true, if_false, Bool.false_eq_true, Bool.true_eq_false, eq_self]
  simp only [hn, x_in, in_n h7, ob, bI_z]
theorem m_isMatter (h : AH) {n : Nat} (x : Int32) (hn : h.2.1 82 1 = nI n) (h7 : n ≤ 7) : f_X11_isMatter S_1 80 x h = some (bI (decide (0 ≤ x ∧ x < nI n)), h) := by
  unfold f_X11_isMatter
  simp (disch := first | omega | decide) only [gI, gJ, gR, pI, pJ, pZ, ckO, lnA, KD_80, KD_81, ai_81, al_81, si_81, sl_81, KD_82, ai_82, al_82, si_82, sl_82, KD_83, ai_83, al_83, si_83, sl_83, KD_84, KD_85, ai_85, al_85, si_85, sl_85, KD_86, ai_86, al_86, si_86, sl_86, KD_87, ai_87, al_87, si_87, sl_87, KD_88, ai_88, al_88, si_88, sl_88, KD_89, ai_89, al_89, si_89, sl_89, KD_90, ai_90, al_90, si_90, sl_90, KD_91, ai_91, al_91, si_91, sl_91, KD_92, ai_92, al_92, si_92, sl_92, KD_93, ai_93, al_93, si_93, sl_93, KD_94, ai_94, al_94, si_94, sl_94, KD_95, ai_95, al_95, si_95, sl_95, KD_96, ai_96, al_96, si_96, sl_96, KD_97, ai_97, al_97, si_97, sl_97, KD_98, ai_98, al_98, si_98, sl_98, KD_99, ai_99, al_99, si_99, sl_99, KD_100, ai_100, al_100, si_100, sl_100, KD_101, ai_101, al_101, si_101, sl_101, KD_102, ai_102, al_102, si_102, sl_102, KD_103, ai_103, al_103, si_103, sl_103, KD_104, ai_104, al_104, si_104, sl_104, KD_105, ai_105, al_105, si_105, sl_105, KD_106, ai_106, al_106, si_106, sl_106, KD_107, ai_107, al_107, si_107, sl_107, KD_108, ai_108, al_108, si_108, sl_108, KD_109, ai_109, al_109, si_109, sl_109, RF_80_2, RF_80_3, RF_80_4, RF_80_5, RF_80_6, RF_80_7, RF_80_9, RF_80_10, RF_80_12, RF_80_22, RF_80_24, RF_80_25, RF_80_27, RF_80_28, RF_80_31, RF_80_32, RF_80_33, RF_80_35, RF_80_36, RF_80_37, RF_80_41, RF_80_42, RF_80_43, RF_80_44, RF_80_46, RF_80_47, RF_80_48, RF_80_49, RF_80_55, ob, lt_e, nl_le1, nl_le2, nl_lt1, nl_lt2, nl_eq1, nl_eq2, nn_le, nn_lt, nn_eq, nl_m1, z_lt, z_le, z_le2, z_lt2, z_eq, aI_0, aJ_0, sI_0, sJ_0, nI_l1, nI_l2, nI_l3, nI_l4, bI_0, bI_1, bI_z, bI_t, bI_f, if_true, if_false, Bool.false_eq_true, Bool.true_eq_false, eq_self]
  simp only [hn, x_in, in_n h7, ob, bI_z]
theorem m_isLaw (h : AH) {n : Nat} (x : Int32) (hn : h.2.1 82 3 = nI n) (h7 : n ≤ 7) : f_X11_isLaw S_1 80 x h = some (bI (decide (x = -1 ∨ 0 ≤ x ∧ x < nI n)), h) := by
  unfold f_X11_isLaw
  by_cases e : x = -1
  · simp [e, bI]
  · simp (disch := first | omega | decide) only [gI, gJ, gR, pI, pJ, pZ, ckO, lnA, KD_80, KD_81, ai_81, al_81, si_81, sl_81, KD_82, ai_82, al_82, si_82, sl_82, KD_83, ai_83, al_83, si_83, sl_83, KD_84, KD_85, ai_85, al_85, si_85, sl_85, KD_86, ai_86, al_86, si_86, sl_86, KD_87, ai_87, al_87, si_87, sl_87, KD_88, ai_88, al_88, si_88, sl_88, KD_89, ai_89, al_89, si_89, sl_89, KD_90, ai_90, al_90, si_90, sl_90, KD_91, ai_91, al_91, si_91, sl_91, KD_92, ai_92, al_92, si_92, sl_92, KD_93, ai_93, al_93, si_93, sl_93, KD_94, ai_94, al_94, si_94, sl_94, KD_95, ai_95, al_95, si_95, sl_95, KD_96, ai_96, al_96, si_96, sl_96, KD_97, ai_97, al_97, si_97, sl_97, KD_98, ai_98, al_98, si_98, sl_98, KD_99, ai_99, al_99, si_99, sl_99, KD_100, ai_100, al_100, si_100, sl_100, KD_101, ai_101, al_101, si_101, sl_101, KD_102, ai_102, al_102, si_102, sl_102, KD_103, ai_103, al_103, si_103, sl_103, KD_104, ai_104, al_104, si_104, sl_104, KD_105, ai_105, al_105, si_105, sl_105, KD_106, ai_106, al_106, si_106, sl_106, KD_107, ai_107, al_107, si_107, sl_107, KD_108, ai_108, al_108, si_108, sl_108, KD_109, ai_109, al_109, si_109, sl_109, RF_80_2, RF_80_3, RF_80_4, RF_80_5, RF_80_6, RF_80_7, RF_80_9, RF_80_10, RF_80_12, RF_80_22, RF_80_24, RF_80_25, RF_80_27, RF_80_28, RF_80_31, RF_80_32, RF_80_33, RF_80_35, RF_80_36, RF_80_37, RF_80_41, RF_80_42, RF_80_43, RF_80_44, RF_80_46, RF_80_47, RF_80_48, RF_80_49, RF_80_55, ob, lt_e, nl_le1, nl_le2, nl_lt1, nl_lt2, nl_eq1, nl_eq2, nn_le, nn_lt, nn_eq, nl_m1, z_lt, z_le, z_le2, z_lt2, z_eq, aI_0, aJ_0, sI_0, sJ_0, nI_l1, nI_l2, nI_l3, nI_l4, bI_0, bI_1, bI_z, bI_t, bI_f, if_true, if_false, Bool.false_eq_true, Bool.true_eq_false, eq_self]
    simp only [hn, x_in, in_n h7, ob, bI_0, if_neg e]
    by_cases e2 : 0 ≤ x ∧ x < nI n
    · simp [e2, bI]
    · simp [e, e2, bI]
theorem m_isTree (S : SH) (h : AH) (x : Int32) : f_X11_isTree S x h = some (bI (decide (-1 ≤ x ∧ x ≤ 19)), h) := by
  unfold f_X11_isTree
  rw [show (-1 : Int64) = Int32.toInt64 (-1) from by decide, show (19 : Int64) = Int32.toInt64 19 from by decide, x_in_I]
  simp only [ob, bI_z]
def caS (r : Nat → Int32) (s a : Int32) : Bool := decide (r 8 ≤ on7 s ∧ on7 s < 2 * on7 a)
theorem m_carries (h : AH) (s a : Int32) : f_X11_carries S_1 80 s a h = some (bI (caS (h.2.1 82) s a), h) := by
  unfold f_X11_carries caS
  simp (disch := first | omega | decide) only [x_ones, gI, gJ, gR, pI, pJ, pZ, ckO, lnA, KD_80, KD_81, ai_81, al_81, si_81, sl_81, KD_82, ai_82, al_82, si_82, sl_82, KD_83, ai_83, al_83, si_83, sl_83, KD_84, KD_85, ai_85, al_85, si_85, sl_85, KD_86, ai_86, al_86, si_86, sl_86, KD_87, ai_87, al_87, si_87, sl_87, KD_88, ai_88, al_88, si_88, sl_88, KD_89, ai_89, al_89, si_89, sl_89, KD_90, ai_90, al_90, si_90, sl_90, KD_91, ai_91, al_91, si_91, sl_91, KD_92, ai_92, al_92, si_92, sl_92, KD_93, ai_93, al_93, si_93, sl_93, KD_94, ai_94, al_94, si_94, sl_94, KD_95, ai_95, al_95, si_95, sl_95, KD_96, ai_96, al_96, si_96, sl_96, KD_97, ai_97, al_97, si_97, sl_97, KD_98, ai_98, al_98, si_98, sl_98, KD_99, ai_99, al_99, si_99, sl_99, KD_100, ai_100, al_100, si_100, sl_100, KD_101, ai_101, al_101, si_101, sl_101, KD_102, ai_102, al_102, si_102, sl_102, KD_103, ai_103, al_103, si_103, sl_103, KD_104, ai_104, al_104, si_104, sl_104, KD_105, ai_105, al_105, si_105, sl_105, KD_106, ai_106, al_106, si_106, sl_106, KD_107, ai_107, al_107, si_107, sl_107, KD_108, ai_108, al_108, si_108, sl_108, KD_109, ai_109, al_109, si_109, sl_109, RF_80_2, RF_80_3, RF_80_4, RF_80_5, RF_80_6, RF_80_7, RF_80_9, RF_80_10, RF_80_12, RF_80_22, RF_80_24, RF_80_25, RF_80_27, RF_80_28, RF_80_31, RF_80_32, RF_80_33, RF_80_35, RF_80_36, RF_80_37, RF_80_41, RF_80_42, RF_80_43, RF_80_44, RF_80_46, RF_80_47, RF_80_48, RF_80_49, RF_80_55, ob, lt_e, nl_le1, nl_le2, nl_lt1, nl_lt2, nl_eq1, nl_eq2, nn_le, nn_lt, nn_eq, nl_m1, z_lt, z_le, z_le2, z_lt2, z_eq, aI_0, aJ_0, sI_0, sJ_0, nI_l1, nI_l2, nI_l3, nI_l4, bI_0, bI_1, bI_z, bI_t, bI_f, if_true, if_false, Bool.false_eq_true, Bool.true_eq_false, eq_self]
  by_cases e : on7 s < h.2.1 82 8
  · rw [if_pos e]
    simp [bI, Int32.not_le.mpr e]
  · rw [if_neg e]
    by_cases e2 : 2 * on7 a ≤ on7 s
    · rw [if_pos e2]
      simp [bI, Int32.not_lt.mpr e2]
    · rw [if_neg e2]
      simp [bI, Int32.not_lt.mp e, Int32.not_le.mp e2]

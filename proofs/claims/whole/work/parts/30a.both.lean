/-! what MAY be: the numbers that are drawn -/
theorem nI_ti {n : Nat} (h : n < 2 ^ 31) : (nI n).toInt = (n : Int) := Int32.toInt_ofNat_of_lt h
theorem rm_n {a b : Nat} (ha : a < 2 ^ 31) (hb : b < 2 ^ 31) (h0 : 0 < b) : rmI (nI a) (nI b) = nI (a % b) := by
  have hd : a / b < 2 ^ 31 := Nat.lt_of_le_of_lt (Nat.div_le_self a b) ha
  have hm : a % b < 2 ^ 31 := Nat.lt_of_le_of_lt (Nat.mod_le a b) ha
  have hn : nI b ≠ -1 := fun e => by
    have := congrArg Int32.toInt e
    rw [nI_ti hb, show (-1 : Int32).toInt = -1 by decide] at this
    omega
  have q : nI a / nI b = nI (a / b) := Int32.toInt_inj.mp (by
    rw [Int32.toInt_div_of_ne_right _ _ hn, nI_ti ha, nI_ti hb, nI_ti hd, Int.tdiv_eq_ediv_of_nonneg (by omega)]
    rfl)
  unfold rmI
  rw [q, nI_mul_]
  have e : a = a % b + a / b * b := by rw [Nat.mul_comm]; exact (Nat.mod_add_div a b).symm
  have : nI a = nI (a % b) + nI (a / b * b) := by rw [nI_add, ← e]
  rw [this, Int32.add_sub_cancel]
def lJ (n : Nat) : Int64 := Int32.toInt64 (nI n)
theorem lJ_ti {n : Nat} (h : n < 2 ^ 31) : (lJ n).toInt = (n : Int) := (Int32.toInt_toInt64 _).trans (nI_ti h)
theorem rm_l {a b : Nat} (ha : a < 2 ^ 31) (hb : b < 2 ^ 31) (h0 : 0 < b) : rmJ (lJ a) (lJ b) = lJ (a % b) := by
  have hd : a / b < 2 ^ 31 := Nat.lt_of_le_of_lt (Nat.div_le_self a b) ha
  have hm : a % b < 2 ^ 31 := Nat.lt_of_le_of_lt (Nat.mod_le a b) ha
  have hn : lJ b ≠ -1 := fun e => by
    have := congrArg Int64.toInt e
    rw [lJ_ti hb, show (-1 : Int64).toInt = -1 by decide] at this
    omega
  have e : a % b + a / b * b = a := by rw [Nat.mul_comm]; exact Nat.mod_add_div a b
  obtain ⟨t, ht⟩ : ∃ t, t = a / b * b := ⟨_, rfl⟩
  have ht' : t ≤ a := by omega
  have e1 : (((a / b : Nat) : Int) * (b : Int)) = (t : Int) := by rw [ht, Int.natCast_mul]
  apply Int64.toInt_inj.mp
  unfold rmJ
  rw [Int64.toInt_sub, Int64.toInt_mul, Int64.toInt_div_of_ne_right _ _ hn, lJ_ti ha, lJ_ti hb, lJ_ti hm, Int.tdiv_eq_ediv_of_nonneg (by omega), ← Int.natCast_ediv, e1, show (t : Int).bmod (2 ^ 64) = (t : Int) from Int.bmod_eq_of_le (by omega) (by omega), Int.bmod_eq_of_le (by omega) (by omega)]
  omega
theorem l_i {a : Nat} (ha : a < 2 ^ 31) : Int64.toInt32 (lJ a) = nI a := by
  apply Int32.toInt_inj.mp
  rw [Int64.toInt_toInt32, lJ_ti ha, nI_ti ha, Int.bmod_eq_of_le (by omega) (by omega)]
def nxt (a : Nat) : Nat := (a * 1103 + 12345) % 1000003
theorem nxt_lt (a : Nat) : nxt a < 1000003 := Nat.mod_lt _ (by decide)
theorem rm_nxt {a : Nat} (ha : a < 1000003) : rmI (nI a * (1103 : Int32) + (12345 : Int32)) (1000003 : Int32) = nI (nxt a) := by
  have e : nI a * (1103 : Int32) + (12345 : Int32) = nI (a * 1103 + 12345) := by
    rw [show (1103 : Int32) = nI 1103 from rfl, show (12345 : Int32) = nI 12345 from rfl, nI_mul_, nI_add]
  rw [e, show (1000003 : Int32) = nI 1000003 from rfl]
  exact rm_n (by omega) (by decide) (by decide)
theorem rl_nxt {a : Nat} (ha : a < 1000003) : rmJ (lJ a * (1103 : Int64) + (12345 : Int64)) (1000003 : Int64) = lJ (nxt a) := by
  have e : lJ a * (1103 : Int64) + (12345 : Int64) = lJ (a * 1103 + 12345) := by
    apply Int64.toInt_inj.mp
    rw [Int64.toInt_add, Int64.toInt_mul, lJ_ti (by omega), lJ_ti (by omega), show (1103 : Int64).toInt = 1103 by decide, show (12345 : Int64).toInt = 12345 by decide, show ((a : Int) * 1103).bmod (2 ^ 64) = (a : Int) * 1103 from Int.bmod_eq_of_le (by omega) (by omega), Int.bmod_eq_of_le (by omega) (by omega)]
    omega
  rw [e, show (1000003 : Int64) = lJ 1000003 by decide]
  exact rm_l (by omega) (by decide) (by decide)
theorem q_draw {h : AH} {a k : Nat} (hs : h.2.1 28 3 = nI a) (ha : a < 1000003) (hk : 0 < k ∧ k < 2 ^ 31) : f_X2_draw S_1 28 (nI k) h = some (nI (nxt a % k), stI h 28 3 (nI (nxt a))) := by
  have h0 : ¬ nI k ≤ 0 := by
    rw [show (0 : Int32) = nI 0 from rfl, nn_le hk.2 (by decide)]
    omega
  have hz : nz (nI k) = some () := if_neg fun e => by
    rw [show (0 : Int32) = nI 0 from rfl, nn_eq hk.2 (by decide)] at e
    omega
  unfold f_X2_draw
  rw [bs_ (yi_28 h 3), hs, rm_nxt ha, bs_ (show pI S_1 h 28 2 3 (nI (nxt a)) = some (stI h 28 3 (nI (nxt a))) from rfl), if_neg h0, bs_ (yi_28 _ 3), stI_s, bs_ hz, rm_n (Nat.lt_trans (nxt_lt a) (by decide)) hk.2 hk.1]
theorem m_draw {h : AH} {a k : Nat} (hs : h.2.2.1 80 54 = lJ a) (ha : a < 1000003) (hk : 0 < k ∧ k < 2 ^ 31) : f_X11_draw S_1 80 (nI k) h = some (nI (nxt a % k), stJ h 80 54 (lJ (nxt a))) := by
  have hz : nzJ (lJ k) = some () := if_neg fun e => by
    have := congrArg Int64.toInt e
    rw [lJ_ti hk.2, show (0 : Int64).toInt = 0 by decide] at this
    omega
  unfold f_X11_draw
  rw [bs_ (yj_80 h 54), hs, rl_nxt ha, bs_ (show pJ S_1 h 80 11 54 (lJ (nxt a)) = some (stJ h 80 54 (lJ (nxt a))) from rfl), bs_ (yj_80 _ 54), show (stJ h 80 54 (lJ (nxt a))).2.2.1 80 54 = lJ (nxt a) from stJ_s _ _ _ _]
  show (nzJ (lJ k)).bind _ = _
  rw [bs_ hz]
  show some (Int64.toInt32 (rmJ (lJ (nxt a)) (lJ k)), _) = _
  rw [rm_l (Nat.lt_trans (nxt_lt a) (by decide)) hk.2 hk.1, l_i (Nat.lt_of_le_of_lt (Nat.mod_le _ _) (Nat.lt_trans (nxt_lt a) (by decide)))]

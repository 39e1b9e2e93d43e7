theorem yi_0 (h : AH) (k : Nat) : gI S_1 h 0 10 k = some (h.2.1 0 k) := rfl
theorem yj_0 (h : AH) (k : Nat) : gJ S_1 h 0 10 k = some (h.2.2.1 0 k) := rfl
theorem xi_0 (h : AH) (k : Nat) (v : Int32) : pI S_1 h 0 10 k v = some (stI h 0 k v) := rfl
theorem xj_0 (h : AH) (k : Nat) (v : Int64) : pJ S_1 h 0 10 k v = some (stJ h 0 k v) := rfl
theorem xz_0 (h : AH) (k : Nat) (v : Int32) (hv : v = 0 ∨ v = 1) : pZ S_1 h 0 10 k v = some (stI h 0 k v) := if_pos ⟨rfl, hv⟩
theorem ck_0 (h : AH) : ckO S_1 h 0 10 = some () := rfl
theorem yr_0_0 (h : AH) : gR S_1 h 0 10 0 = some 1 := rfl
theorem yr_0_2 (h : AH) : gR S_1 h 0 10 2 = some 2 := rfl
theorem yr_0_3 (h : AH) : gR S_1 h 0 10 3 = some 15 := rfl
theorem yr_0_4 (h : AH) : gR S_1 h 0 10 4 = some 16 := rfl
theorem yr_0_5 (h : AH) : gR S_1 h 0 10 5 = some 19 := rfl
theorem yr_0_6 (h : AH) : gR S_1 h 0 10 6 = some 22 := rfl
theorem yr_0_7 (h : AH) : gR S_1 h 0 10 7 = some 25 := rfl
theorem yr_0_8 (h : AH) : gR S_1 h 0 10 8 = some 28 := rfl
theorem yr_0_9 (h : AH) : gR S_1 h 0 10 9 = some 32 := rfl
theorem yr_0_10 (h : AH) : gR S_1 h 0 10 10 = some 35 := rfl
theorem yr_0_11 (h : AH) : gR S_1 h 0 10 11 = some 38 := rfl
theorem yr_0_12 (h : AH) : gR S_1 h 0 10 12 = some 45 := rfl
theorem yr_0_13 (h : AH) : gR S_1 h 0 10 13 = some 53 := rfl
theorem ln_1 (h : AH) : lnA S_1 h 1 = some (nI 400) := rfl
theorem yi_2 (h : AH) (k : Nat) : gI S_1 h 2 6 k = some (h.2.1 2 k) := rfl
theorem yj_2 (h : AH) (k : Nat) : gJ S_1 h 2 6 k = some (h.2.2.1 2 k) := rfl
theorem xi_2 (h : AH) (k : Nat) (v : Int32) : pI S_1 h 2 6 k v = some (stI h 2 k v) := rfl
theorem xj_2 (h : AH) (k : Nat) (v : Int64) : pJ S_1 h 2 6 k v = some (stJ h 2 k v) := rfl
theorem xz_2 (h : AH) (k : Nat) (v : Int32) (hv : v = 0 ∨ v = 1) : pZ S_1 h 2 6 k v = some (stI h 2 k v) := if_pos ⟨rfl, hv⟩
theorem ck_2 (h : AH) : ckO S_1 h 2 6 = some () := rfl
theorem yr_2_0 (h : AH) : gR S_1 h 2 6 0 = some 3 := rfl
theorem yr_2_2 (h : AH) : gR S_1 h 2 6 2 = some 6 := rfl
theorem yr_2_3 (h : AH) : gR S_1 h 2 6 3 = some 7 := rfl
theorem yr_2_5 (h : AH) : gR S_1 h 2 6 5 = some 8 := rfl
theorem yr_2_6 (h : AH) : gR S_1 h 2 6 6 = some 9 := rfl
theorem yr_2_11 (h : AH) : gR S_1 h 2 6 11 = some 10 := rfl
theorem yr_2_13 (h : AH) : gR S_1 h 2 6 13 = some 11 := rfl
theorem yr_2_14 (h : AH) : gR S_1 h 2 6 14 = some 12 := rfl
theorem yi_3 (h : AH) (k : Nat) : gI S_1 h 3 7 k = some (h.2.1 3 k) := rfl
theorem yj_3 (h : AH) (k : Nat) : gJ S_1 h 3 7 k = some (h.2.2.1 3 k) := rfl
theorem xi_3 (h : AH) (k : Nat) (v : Int32) : pI S_1 h 3 7 k v = some (stI h 3 k v) := rfl
theorem xj_3 (h : AH) (k : Nat) (v : Int64) : pJ S_1 h 3 7 k v = some (stJ h 3 k v) := rfl
theorem xz_3 (h : AH) (k : Nat) (v : Int32) (hv : v = 0 ∨ v = 1) : pZ S_1 h 3 7 k v = some (stI h 3 k v) := if_pos ⟨rfl, hv⟩
theorem ck_3 (h : AH) : ckO S_1 h 3 7 = some () := rfl
theorem yr_3_0 (h : AH) : gR S_1 h 3 7 0 = some 4 := rfl
theorem yr_3_1 (h : AH) : gR S_1 h 3 7 1 = some 5 := rfl
theorem ln_4 (h : AH) : lnA S_1 h 4 = some (nI 7) := rfl
theorem ln_5 (h : AH) : lnA S_1 h 5 = some (nI 6) := rfl
theorem ln_6 (h : AH) : lnA S_1 h 6 = some (nI 7) := rfl
theorem ln_7 (h : AH) : lnA S_1 h 7 = some (nI 42) := rfl
theorem ln_8 (h : AH) : lnA S_1 h 8 = some (nI 6) := rfl
theorem ln_9 (h : AH) : lnA S_1 h 9 = some (nI 6) := rfl
theorem ln_10 (h : AH) : lnA S_1 h 10 = some (nI 6) := rfl
theorem ln_11 (h : AH) : lnA S_1 h 11 = some (nI 6) := rfl
theorem yi_12 (h : AH) (k : Nat) : gI S_1 h 12 8 k = some (h.2.1 12 k) := rfl
theorem yj_12 (h : AH) (k : Nat) : gJ S_1 h 12 8 k = some (h.2.2.1 12 k) := rfl
theorem xi_12 (h : AH) (k : Nat) (v : Int32) : pI S_1 h 12 8 k v = some (stI h 12 k v) := rfl
theorem xj_12 (h : AH) (k : Nat) (v : Int64) : pJ S_1 h 12 8 k v = some (stJ h 12 k v) := rfl
theorem xz_12 (h : AH) (k : Nat) (v : Int32) (hv : v = 0 ∨ v = 1) : pZ S_1 h 12 8 k v = some (stI h 12 k v) := if_pos ⟨rfl, hv⟩
theorem ck_12 (h : AH) : ckO S_1 h 12 8 = some () := rfl
theorem yr_12_0 (h : AH) : gR S_1 h 12 8 0 = some 13 := rfl
theorem yr_12_1 (h : AH) : gR S_1 h 12 8 1 = some 14 := rfl
theorem ln_15 (h : AH) : lnA S_1 h 15 = some (nI 2) := rfl
theorem yi_16 (h : AH) (k : Nat) : gI S_1 h 16 5 k = some (h.2.1 16 k) := rfl
theorem yj_16 (h : AH) (k : Nat) : gJ S_1 h 16 5 k = some (h.2.2.1 16 k) := rfl
theorem xi_16 (h : AH) (k : Nat) (v : Int32) : pI S_1 h 16 5 k v = some (stI h 16 k v) := rfl
theorem xj_16 (h : AH) (k : Nat) (v : Int64) : pJ S_1 h 16 5 k v = some (stJ h 16 k v) := rfl
theorem xz_16 (h : AH) (k : Nat) (v : Int32) (hv : v = 0 ∨ v = 1) : pZ S_1 h 16 5 k v = some (stI h 16 k v) := if_pos ⟨rfl, hv⟩
theorem ck_16 (h : AH) : ckO S_1 h 16 5 = some () := rfl
theorem yr_16_0 (h : AH) : gR S_1 h 16 5 0 = some 17 := rfl
theorem yr_16_1 (h : AH) : gR S_1 h 16 5 1 = some 18 := rfl
theorem ln_17 (h : AH) : lnA S_1 h 17 = some (nI 255) := rfl
theorem ln_18 (h : AH) : lnA S_1 h 18 = some (nI 17) := rfl
theorem yi_19 (h : AH) (k : Nat) : gI S_1 h 19 5 k = some (h.2.1 19 k) := rfl
theorem yj_19 (h : AH) (k : Nat) : gJ S_1 h 19 5 k = some (h.2.2.1 19 k) := rfl
theorem xi_19 (h : AH) (k : Nat) (v : Int32) : pI S_1 h 19 5 k v = some (stI h 19 k v) := rfl
theorem xj_19 (h : AH) (k : Nat) (v : Int64) : pJ S_1 h 19 5 k v = some (stJ h 19 k v) := rfl
theorem xz_19 (h : AH) (k : Nat) (v : Int32) (hv : v = 0 ∨ v = 1) : pZ S_1 h 19 5 k v = some (stI h 19 k v) := if_pos ⟨rfl, hv⟩
theorem ck_19 (h : AH) : ckO S_1 h 19 5 = some () := rfl
theorem yr_19_0 (h : AH) : gR S_1 h 19 5 0 = some 20 := rfl
theorem yr_19_1 (h : AH) : gR S_1 h 19 5 1 = some 21 := rfl
theorem ln_20 (h : AH) : lnA S_1 h 20 = some (nI 255) := rfl
theorem ln_21 (h : AH) : lnA S_1 h 21 = some (nI 17) := rfl
theorem yi_22 (h : AH) (k : Nat) : gI S_1 h 22 7 k = some (h.2.1 22 k) := rfl
theorem yj_22 (h : AH) (k : Nat) : gJ S_1 h 22 7 k = some (h.2.2.1 22 k) := rfl
theorem xi_22 (h : AH) (k : Nat) (v : Int32) : pI S_1 h 22 7 k v = some (stI h 22 k v) := rfl
theorem xj_22 (h : AH) (k : Nat) (v : Int64) : pJ S_1 h 22 7 k v = some (stJ h 22 k v) := rfl
theorem xz_22 (h : AH) (k : Nat) (v : Int32) (hv : v = 0 ∨ v = 1) : pZ S_1 h 22 7 k v = some (stI h 22 k v) := if_pos ⟨rfl, hv⟩
theorem ck_22 (h : AH) : ckO S_1 h 22 7 = some () := rfl
theorem yr_22_0 (h : AH) : gR S_1 h 22 7 0 = some 23 := rfl
theorem yr_22_1 (h : AH) : gR S_1 h 22 7 1 = some 24 := rfl
theorem ln_23 (h : AH) : lnA S_1 h 23 = some (nI 7) := rfl
theorem ln_24 (h : AH) : lnA S_1 h 24 = some (nI 6) := rfl
theorem yi_25 (h : AH) (k : Nat) : gI S_1 h 25 7 k = some (h.2.1 25 k) := rfl
theorem yj_25 (h : AH) (k : Nat) : gJ S_1 h 25 7 k = some (h.2.2.1 25 k) := rfl
theorem xi_25 (h : AH) (k : Nat) (v : Int32) : pI S_1 h 25 7 k v = some (stI h 25 k v) := rfl
theorem xj_25 (h : AH) (k : Nat) (v : Int64) : pJ S_1 h 25 7 k v = some (stJ h 25 k v) := rfl
theorem xz_25 (h : AH) (k : Nat) (v : Int32) (hv : v = 0 ∨ v = 1) : pZ S_1 h 25 7 k v = some (stI h 25 k v) := if_pos ⟨rfl, hv⟩
theorem ck_25 (h : AH) : ckO S_1 h 25 7 = some () := rfl
theorem yr_25_0 (h : AH) : gR S_1 h 25 7 0 = some 26 := rfl
theorem yr_25_1 (h : AH) : gR S_1 h 25 7 1 = some 27 := rfl
theorem ln_26 (h : AH) : lnA S_1 h 26 = some (nI 7) := rfl
theorem ln_27 (h : AH) : lnA S_1 h 27 = some (nI 6) := rfl
theorem yi_28 (h : AH) (k : Nat) : gI S_1 h 28 2 k = some (h.2.1 28 k) := rfl
theorem yj_28 (h : AH) (k : Nat) : gJ S_1 h 28 2 k = some (h.2.2.1 28 k) := rfl
theorem xi_28 (h : AH) (k : Nat) (v : Int32) : pI S_1 h 28 2 k v = some (stI h 28 k v) := rfl
theorem xj_28 (h : AH) (k : Nat) (v : Int64) : pJ S_1 h 28 2 k v = some (stJ h 28 k v) := rfl
theorem xz_28 (h : AH) (k : Nat) (v : Int32) (hv : v = 0 ∨ v = 1) : pZ S_1 h 28 2 k v = some (stI h 28 k v) := if_pos ⟨rfl, hv⟩
theorem ck_28 (h : AH) : ckO S_1 h 28 2 = some () := rfl
theorem yr_28_0 (h : AH) : gR S_1 h 28 2 0 = some 29 := rfl
theorem yi_29 (h : AH) (k : Nat) : gI S_1 h 29 7 k = some (h.2.1 29 k) := rfl
theorem yj_29 (h : AH) (k : Nat) : gJ S_1 h 29 7 k = some (h.2.2.1 29 k) := rfl
theorem xi_29 (h : AH) (k : Nat) (v : Int32) : pI S_1 h 29 7 k v = some (stI h 29 k v) := rfl
theorem xj_29 (h : AH) (k : Nat) (v : Int64) : pJ S_1 h 29 7 k v = some (stJ h 29 k v) := rfl
theorem xz_29 (h : AH) (k : Nat) (v : Int32) (hv : v = 0 ∨ v = 1) : pZ S_1 h 29 7 k v = some (stI h 29 k v) := if_pos ⟨rfl, hv⟩
theorem ck_29 (h : AH) : ckO S_1 h 29 7 = some () := rfl
theorem yr_29_0 (h : AH) : gR S_1 h 29 7 0 = some 30 := rfl
theorem yr_29_1 (h : AH) : gR S_1 h 29 7 1 = some 31 := rfl
theorem ln_30 (h : AH) : lnA S_1 h 30 = some (nI 7) := rfl
theorem ln_31 (h : AH) : lnA S_1 h 31 = some (nI 6) := rfl
theorem yi_32 (h : AH) (k : Nat) : gI S_1 h 32 4 k = some (h.2.1 32 k) := rfl
theorem yj_32 (h : AH) (k : Nat) : gJ S_1 h 32 4 k = some (h.2.2.1 32 k) := rfl
theorem xi_32 (h : AH) (k : Nat) (v : Int32) : pI S_1 h 32 4 k v = some (stI h 32 k v) := rfl
theorem xj_32 (h : AH) (k : Nat) (v : Int64) : pJ S_1 h 32 4 k v = some (stJ h 32 k v) := rfl
theorem xz_32 (h : AH) (k : Nat) (v : Int32) (hv : v = 0 ∨ v = 1) : pZ S_1 h 32 4 k v = some (stI h 32 k v) := if_pos ⟨rfl, hv⟩
theorem ck_32 (h : AH) : ckO S_1 h 32 4 = some () := rfl
theorem yr_32_0 (h : AH) : gR S_1 h 32 4 0 = some 33 := rfl
theorem yr_32_1 (h : AH) : gR S_1 h 32 4 1 = some 34 := rfl
theorem ln_33 (h : AH) : lnA S_1 h 33 = some (nI 25) := rfl
theorem ln_34 (h : AH) : lnA S_1 h 34 = some (nI 52) := rfl
theorem yi_35 (h : AH) (k : Nat) : gI S_1 h 35 1 k = some (h.2.1 35 k) := rfl
theorem yj_35 (h : AH) (k : Nat) : gJ S_1 h 35 1 k = some (h.2.2.1 35 k) := rfl
theorem xi_35 (h : AH) (k : Nat) (v : Int32) : pI S_1 h 35 1 k v = some (stI h 35 k v) := rfl
theorem xj_35 (h : AH) (k : Nat) (v : Int64) : pJ S_1 h 35 1 k v = some (stJ h 35 k v) := rfl
theorem xz_35 (h : AH) (k : Nat) (v : Int32) (hv : v = 0 ∨ v = 1) : pZ S_1 h 35 1 k v = some (stI h 35 k v) := if_pos ⟨rfl, hv⟩
theorem ck_35 (h : AH) : ckO S_1 h 35 1 = some () := rfl
theorem yr_35_0 (h : AH) : gR S_1 h 35 1 0 = some 2 := rfl
theorem yr_35_1 (h : AH) : gR S_1 h 35 1 1 = some 32 := rfl
theorem yr_35_4 (h : AH) : gR S_1 h 35 1 4 = some 36 := rfl
theorem yr_35_5 (h : AH) : gR S_1 h 35 1 5 = some 37 := rfl
theorem ln_36 (h : AH) : lnA S_1 h 36 = some (nI 7) := rfl
theorem ln_37 (h : AH) : lnA S_1 h 37 = some (nI 7) := rfl
theorem yi_38 (h : AH) (k : Nat) : gI S_1 h 38 0 k = some (h.2.1 38 k) := rfl
theorem yj_38 (h : AH) (k : Nat) : gJ S_1 h 38 0 k = some (h.2.2.1 38 k) := rfl
theorem xi_38 (h : AH) (k : Nat) (v : Int32) : pI S_1 h 38 0 k v = some (stI h 38 k v) := rfl
theorem xj_38 (h : AH) (k : Nat) (v : Int64) : pJ S_1 h 38 0 k v = some (stJ h 38 k v) := rfl
theorem xz_38 (h : AH) (k : Nat) (v : Int32) (hv : v = 0 ∨ v = 1) : pZ S_1 h 38 0 k v = some (stI h 38 k v) := if_pos ⟨rfl, hv⟩
theorem ck_38 (h : AH) : ckO S_1 h 38 0 = some () := rfl
theorem yr_38_0 (h : AH) : gR S_1 h 38 0 0 = some 35 := rfl
theorem yr_38_1 (h : AH) : gR S_1 h 38 0 1 = some 39 := rfl
theorem yr_38_2 (h : AH) : gR S_1 h 38 0 2 = some 42 := rfl
theorem yr_38_3 (h : AH) : gR S_1 h 38 0 3 = some 43 := rfl
theorem yr_38_4 (h : AH) : gR S_1 h 38 0 4 = some 44 := rfl
theorem yi_39 (h : AH) (k : Nat) : gI S_1 h 39 7 k = some (h.2.1 39 k) := rfl
theorem yj_39 (h : AH) (k : Nat) : gJ S_1 h 39 7 k = some (h.2.2.1 39 k) := rfl
theorem xi_39 (h : AH) (k : Nat) (v : Int32) : pI S_1 h 39 7 k v = some (stI h 39 k v) := rfl
theorem xj_39 (h : AH) (k : Nat) (v : Int64) : pJ S_1 h 39 7 k v = some (stJ h 39 k v) := rfl
theorem xz_39 (h : AH) (k : Nat) (v : Int32) (hv : v = 0 ∨ v = 1) : pZ S_1 h 39 7 k v = some (stI h 39 k v) := if_pos ⟨rfl, hv⟩
theorem ck_39 (h : AH) : ckO S_1 h 39 7 = some () := rfl
theorem yr_39_0 (h : AH) : gR S_1 h 39 7 0 = some 40 := rfl
theorem yr_39_1 (h : AH) : gR S_1 h 39 7 1 = some 41 := rfl
theorem ln_40 (h : AH) : lnA S_1 h 40 = some (nI 7) := rfl
theorem ln_41 (h : AH) : lnA S_1 h 41 = some (nI 6) := rfl
theorem ln_42 (h : AH) : lnA S_1 h 42 = some (nI 294) := rfl
theorem ln_43 (h : AH) : lnA S_1 h 43 = some (nI 6) := rfl
theorem ln_44 (h : AH) : lnA S_1 h 44 = some (nI 6) := rfl
theorem yi_45 (h : AH) (k : Nat) : gI S_1 h 45 3 k = some (h.2.1 45 k) := rfl
theorem yj_45 (h : AH) (k : Nat) : gJ S_1 h 45 3 k = some (h.2.2.1 45 k) := rfl
theorem xi_45 (h : AH) (k : Nat) (v : Int32) : pI S_1 h 45 3 k v = some (stI h 45 k v) := rfl
theorem xj_45 (h : AH) (k : Nat) (v : Int64) : pJ S_1 h 45 3 k v = some (stJ h 45 k v) := rfl
theorem xz_45 (h : AH) (k : Nat) (v : Int32) (hv : v = 0 ∨ v = 1) : pZ S_1 h 45 3 k v = some (stI h 45 k v) := if_pos ⟨rfl, hv⟩
theorem ck_45 (h : AH) : ckO S_1 h 45 3 = some () := rfl
theorem yr_45_0 (h : AH) : gR S_1 h 45 3 0 = some 46 := rfl
theorem yr_45_1 (h : AH) : gR S_1 h 45 3 1 = some 50 := rfl
theorem yi_46 (h : AH) (k : Nat) : gI S_1 h 46 9 k = some (h.2.1 46 k) := rfl
theorem yj_46 (h : AH) (k : Nat) : gJ S_1 h 46 9 k = some (h.2.2.1 46 k) := rfl
theorem xi_46 (h : AH) (k : Nat) (v : Int32) : pI S_1 h 46 9 k v = some (stI h 46 k v) := rfl
theorem xj_46 (h : AH) (k : Nat) (v : Int64) : pJ S_1 h 46 9 k v = some (stJ h 46 k v) := rfl
theorem xz_46 (h : AH) (k : Nat) (v : Int32) (hv : v = 0 ∨ v = 1) : pZ S_1 h 46 9 k v = some (stI h 46 k v) := if_pos ⟨rfl, hv⟩
theorem ck_46 (h : AH) : ckO S_1 h 46 9 = some () := rfl
theorem yr_46_0 (h : AH) : gR S_1 h 46 9 0 = some 47 := rfl
theorem yr_46_1 (h : AH) : gR S_1 h 46 9 1 = some 48 := rfl
theorem yr_46_2 (h : AH) : gR S_1 h 46 9 2 = some 49 := rfl
theorem ln_47 (h : AH) : lnA S_1 h 47 = some (nI 401) := rfl
theorem ln_48 (h : AH) : lnA S_1 h 48 = some (nI 401) := rfl
theorem ln_49 (h : AH) : lnA S_1 h 49 = some (nI 401) := rfl
theorem yi_50 (h : AH) (k : Nat) : gI S_1 h 50 8 k = some (h.2.1 50 k) := rfl
theorem yj_50 (h : AH) (k : Nat) : gJ S_1 h 50 8 k = some (h.2.2.1 50 k) := rfl
theorem xi_50 (h : AH) (k : Nat) (v : Int32) : pI S_1 h 50 8 k v = some (stI h 50 k v) := rfl
theorem xj_50 (h : AH) (k : Nat) (v : Int64) : pJ S_1 h 50 8 k v = some (stJ h 50 k v) := rfl
theorem xz_50 (h : AH) (k : Nat) (v : Int32) (hv : v = 0 ∨ v = 1) : pZ S_1 h 50 8 k v = some (stI h 50 k v) := if_pos ⟨rfl, hv⟩
theorem ck_50 (h : AH) : ckO S_1 h 50 8 = some () := rfl
theorem yr_50_0 (h : AH) : gR S_1 h 50 8 0 = some 51 := rfl
theorem yr_50_1 (h : AH) : gR S_1 h 50 8 1 = some 52 := rfl
theorem ln_51 (h : AH) : lnA S_1 h 51 = some (nI 400) := rfl
theorem ln_52 (h : AH) : lnA S_1 h 52 = some (nI 72) := rfl
theorem ln_53 (h : AH) : lnA S_1 h 53 = some (nI 7) := rfl
theorem yi_54 (h : AH) (k : Nat) : gI S_1 h 54 6 k = some (h.2.1 54 k) := rfl
theorem yj_54 (h : AH) (k : Nat) : gJ S_1 h 54 6 k = some (h.2.2.1 54 k) := rfl
theorem xi_54 (h : AH) (k : Nat) (v : Int32) : pI S_1 h 54 6 k v = some (stI h 54 k v) := rfl
theorem xj_54 (h : AH) (k : Nat) (v : Int64) : pJ S_1 h 54 6 k v = some (stJ h 54 k v) := rfl
theorem xz_54 (h : AH) (k : Nat) (v : Int32) (hv : v = 0 ∨ v = 1) : pZ S_1 h 54 6 k v = some (stI h 54 k v) := if_pos ⟨rfl, hv⟩
theorem ck_54 (h : AH) : ckO S_1 h 54 6 = some () := rfl
theorem yr_54_0 (h : AH) : gR S_1 h 54 6 0 = some 55 := rfl
theorem yr_54_2 (h : AH) : gR S_1 h 54 6 2 = some 58 := rfl
theorem yr_54_3 (h : AH) : gR S_1 h 54 6 3 = some 59 := rfl
theorem yr_54_5 (h : AH) : gR S_1 h 54 6 5 = some 60 := rfl
theorem yr_54_6 (h : AH) : gR S_1 h 54 6 6 = some 61 := rfl
theorem yr_54_11 (h : AH) : gR S_1 h 54 6 11 = some 62 := rfl
theorem yr_54_13 (h : AH) : gR S_1 h 54 6 13 = some 63 := rfl
theorem yr_54_14 (h : AH) : gR S_1 h 54 6 14 = some 64 := rfl
theorem yi_55 (h : AH) (k : Nat) : gI S_1 h 55 7 k = some (h.2.1 55 k) := rfl
theorem yj_55 (h : AH) (k : Nat) : gJ S_1 h 55 7 k = some (h.2.2.1 55 k) := rfl
theorem xi_55 (h : AH) (k : Nat) (v : Int32) : pI S_1 h 55 7 k v = some (stI h 55 k v) := rfl
theorem xj_55 (h : AH) (k : Nat) (v : Int64) : pJ S_1 h 55 7 k v = some (stJ h 55 k v) := rfl
theorem xz_55 (h : AH) (k : Nat) (v : Int32) (hv : v = 0 ∨ v = 1) : pZ S_1 h 55 7 k v = some (stI h 55 k v) := if_pos ⟨rfl, hv⟩
theorem ck_55 (h : AH) : ckO S_1 h 55 7 = some () := rfl
theorem yr_55_0 (h : AH) : gR S_1 h 55 7 0 = some 56 := rfl
theorem yr_55_1 (h : AH) : gR S_1 h 55 7 1 = some 57 := rfl
theorem ln_56 (h : AH) : lnA S_1 h 56 = some (nI 7) := rfl
theorem ln_57 (h : AH) : lnA S_1 h 57 = some (nI 6) := rfl
theorem ln_58 (h : AH) : lnA S_1 h 58 = some (nI 7) := rfl
theorem ln_59 (h : AH) : lnA S_1 h 59 = some (nI 42) := rfl
theorem ln_60 (h : AH) : lnA S_1 h 60 = some (nI 6) := rfl
theorem ln_61 (h : AH) : lnA S_1 h 61 = some (nI 6) := rfl
theorem ln_62 (h : AH) : lnA S_1 h 62 = some (nI 6) := rfl
theorem ln_63 (h : AH) : lnA S_1 h 63 = some (nI 6) := rfl
theorem yi_64 (h : AH) (k : Nat) : gI S_1 h 64 8 k = some (h.2.1 64 k) := rfl
theorem yj_64 (h : AH) (k : Nat) : gJ S_1 h 64 8 k = some (h.2.2.1 64 k) := rfl
theorem xi_64 (h : AH) (k : Nat) (v : Int32) : pI S_1 h 64 8 k v = some (stI h 64 k v) := rfl
theorem xj_64 (h : AH) (k : Nat) (v : Int64) : pJ S_1 h 64 8 k v = some (stJ h 64 k v) := rfl
theorem xz_64 (h : AH) (k : Nat) (v : Int32) (hv : v = 0 ∨ v = 1) : pZ S_1 h 64 8 k v = some (stI h 64 k v) := if_pos ⟨rfl, hv⟩
theorem ck_64 (h : AH) : ckO S_1 h 64 8 = some () := rfl
theorem yr_64_0 (h : AH) : gR S_1 h 64 8 0 = some 65 := rfl
theorem yr_64_1 (h : AH) : gR S_1 h 64 8 1 = some 66 := rfl
theorem yi_67 (h : AH) (k : Nat) : gI S_1 h 67 6 k = some (h.2.1 67 k) := rfl
theorem yj_67 (h : AH) (k : Nat) : gJ S_1 h 67 6 k = some (h.2.2.1 67 k) := rfl
theorem xi_67 (h : AH) (k : Nat) (v : Int32) : pI S_1 h 67 6 k v = some (stI h 67 k v) := rfl
theorem xj_67 (h : AH) (k : Nat) (v : Int64) : pJ S_1 h 67 6 k v = some (stJ h 67 k v) := rfl
theorem xz_67 (h : AH) (k : Nat) (v : Int32) (hv : v = 0 ∨ v = 1) : pZ S_1 h 67 6 k v = some (stI h 67 k v) := if_pos ⟨rfl, hv⟩
theorem ck_67 (h : AH) : ckO S_1 h 67 6 = some () := rfl
theorem yr_67_0 (h : AH) : gR S_1 h 67 6 0 = some 68 := rfl
theorem yr_67_2 (h : AH) : gR S_1 h 67 6 2 = some 71 := rfl
theorem yr_67_3 (h : AH) : gR S_1 h 67 6 3 = some 72 := rfl
theorem yr_67_5 (h : AH) : gR S_1 h 67 6 5 = some 73 := rfl
theorem yr_67_6 (h : AH) : gR S_1 h 67 6 6 = some 74 := rfl
theorem yr_67_11 (h : AH) : gR S_1 h 67 6 11 = some 75 := rfl
theorem yr_67_13 (h : AH) : gR S_1 h 67 6 13 = some 76 := rfl
theorem yr_67_14 (h : AH) : gR S_1 h 67 6 14 = some 77 := rfl
theorem yi_68 (h : AH) (k : Nat) : gI S_1 h 68 7 k = some (h.2.1 68 k) := rfl
theorem yj_68 (h : AH) (k : Nat) : gJ S_1 h 68 7 k = some (h.2.2.1 68 k) := rfl
theorem xi_68 (h : AH) (k : Nat) (v : Int32) : pI S_1 h 68 7 k v = some (stI h 68 k v) := rfl
theorem xj_68 (h : AH) (k : Nat) (v : Int64) : pJ S_1 h 68 7 k v = some (stJ h 68 k v) := rfl
theorem xz_68 (h : AH) (k : Nat) (v : Int32) (hv : v = 0 ∨ v = 1) : pZ S_1 h 68 7 k v = some (stI h 68 k v) := if_pos ⟨rfl, hv⟩
theorem ck_68 (h : AH) : ckO S_1 h 68 7 = some () := rfl
theorem yr_68_0 (h : AH) : gR S_1 h 68 7 0 = some 69 := rfl
theorem yr_68_1 (h : AH) : gR S_1 h 68 7 1 = some 70 := rfl
theorem ln_69 (h : AH) : lnA S_1 h 69 = some (nI 7) := rfl
theorem ln_70 (h : AH) : lnA S_1 h 70 = some (nI 6) := rfl
theorem ln_71 (h : AH) : lnA S_1 h 71 = some (nI 7) := rfl
theorem ln_72 (h : AH) : lnA S_1 h 72 = some (nI 42) := rfl
theorem ln_73 (h : AH) : lnA S_1 h 73 = some (nI 6) := rfl
theorem ln_74 (h : AH) : lnA S_1 h 74 = some (nI 6) := rfl
theorem ln_75 (h : AH) : lnA S_1 h 75 = some (nI 6) := rfl
theorem ln_76 (h : AH) : lnA S_1 h 76 = some (nI 6) := rfl
theorem yi_77 (h : AH) (k : Nat) : gI S_1 h 77 8 k = some (h.2.1 77 k) := rfl
theorem yj_77 (h : AH) (k : Nat) : gJ S_1 h 77 8 k = some (h.2.2.1 77 k) := rfl
theorem xi_77 (h : AH) (k : Nat) (v : Int32) : pI S_1 h 77 8 k v = some (stI h 77 k v) := rfl
theorem xj_77 (h : AH) (k : Nat) (v : Int64) : pJ S_1 h 77 8 k v = some (stJ h 77 k v) := rfl
theorem xz_77 (h : AH) (k : Nat) (v : Int32) (hv : v = 0 ∨ v = 1) : pZ S_1 h 77 8 k v = some (stI h 77 k v) := if_pos ⟨rfl, hv⟩
theorem ck_77 (h : AH) : ckO S_1 h 77 8 = some () := rfl
theorem yr_77_0 (h : AH) : gR S_1 h 77 8 0 = some 78 := rfl
theorem yr_77_1 (h : AH) : gR S_1 h 77 8 1 = some 79 := rfl
theorem yi_80 (h : AH) (k : Nat) : gI S_1 h 80 11 k = some (h.2.1 80 k) := rfl
theorem yj_80 (h : AH) (k : Nat) : gJ S_1 h 80 11 k = some (h.2.2.1 80 k) := rfl
theorem xi_80 (h : AH) (k : Nat) (v : Int32) : pI S_1 h 80 11 k v = some (stI h 80 k v) := rfl
theorem xj_80 (h : AH) (k : Nat) (v : Int64) : pJ S_1 h 80 11 k v = some (stJ h 80 k v) := rfl
theorem xz_80 (h : AH) (k : Nat) (v : Int32) (hv : v = 0 ∨ v = 1) : pZ S_1 h 80 11 k v = some (stI h 80 k v) := if_pos ⟨rfl, hv⟩
theorem ck_80 (h : AH) : ckO S_1 h 80 11 = some () := rfl
theorem yr_80_2 (h : AH) : gR S_1 h 80 11 2 = some 81 := rfl
theorem yr_80_3 (h : AH) : gR S_1 h 80 11 3 = some 82 := rfl
theorem yr_80_4 (h : AH) : gR S_1 h 80 11 4 = some 83 := rfl
theorem yr_80_5 (h : AH) : gR S_1 h 80 11 5 = some 84 := rfl
theorem yr_80_6 (h : AH) : gR S_1 h 80 11 6 = some 85 := rfl
theorem yr_80_7 (h : AH) : gR S_1 h 80 11 7 = some 86 := rfl
theorem yr_80_9 (h : AH) : gR S_1 h 80 11 9 = some 87 := rfl
theorem yr_80_10 (h : AH) : gR S_1 h 80 11 10 = some 88 := rfl
theorem yr_80_12 (h : AH) : gR S_1 h 80 11 12 = some 89 := rfl
theorem yr_80_22 (h : AH) : gR S_1 h 80 11 22 = some 90 := rfl
theorem yr_80_24 (h : AH) : gR S_1 h 80 11 24 = some 91 := rfl
theorem yr_80_25 (h : AH) : gR S_1 h 80 11 25 = some 92 := rfl
theorem yr_80_27 (h : AH) : gR S_1 h 80 11 27 = some 93 := rfl
theorem yr_80_28 (h : AH) : gR S_1 h 80 11 28 = some 94 := rfl
theorem yr_80_31 (h : AH) : gR S_1 h 80 11 31 = some 95 := rfl
theorem yr_80_32 (h : AH) : gR S_1 h 80 11 32 = some 96 := rfl
theorem yr_80_33 (h : AH) : gR S_1 h 80 11 33 = some 97 := rfl
theorem yr_80_35 (h : AH) : gR S_1 h 80 11 35 = some 98 := rfl
theorem yr_80_36 (h : AH) : gR S_1 h 80 11 36 = some 99 := rfl
theorem yr_80_37 (h : AH) : gR S_1 h 80 11 37 = some 100 := rfl
theorem yr_80_41 (h : AH) : gR S_1 h 80 11 41 = some 101 := rfl
theorem yr_80_42 (h : AH) : gR S_1 h 80 11 42 = some 102 := rfl
theorem yr_80_43 (h : AH) : gR S_1 h 80 11 43 = some 103 := rfl
theorem yr_80_44 (h : AH) : gR S_1 h 80 11 44 = some 104 := rfl
theorem yr_80_46 (h : AH) : gR S_1 h 80 11 46 = some 105 := rfl
theorem yr_80_47 (h : AH) : gR S_1 h 80 11 47 = some 106 := rfl
theorem yr_80_48 (h : AH) : gR S_1 h 80 11 48 = some 107 := rfl
theorem yr_80_49 (h : AH) : gR S_1 h 80 11 49 = some 108 := rfl
theorem yr_80_55 (h : AH) : gR S_1 h 80 11 55 = some 109 := rfl
theorem ln_81 (h : AH) : lnA S_1 h 81 = some (nI 7) := rfl
theorem ln_82 (h : AH) : lnA S_1 h 82 = some (nI 5490) := rfl
theorem ln_83 (h : AH) : lnA S_1 h 83 = some (nI 10980) := rfl
theorem ln_84 (h : AH) : lnA S_1 h 84 = some (nI 2) := rfl
theorem ln_85 (h : AH) : lnA S_1 h 85 = some (nI 324) := rfl
theorem ln_86 (h : AH) : lnA S_1 h 86 = some (nI 16) := rfl
theorem ln_87 (h : AH) : lnA S_1 h 87 = some (nI 288) := rfl
theorem ln_88 (h : AH) : lnA S_1 h 88 = some (nI 16) := rfl
theorem ln_89 (h : AH) : lnA S_1 h 89 = some (nI 400) := rfl
theorem ln_90 (h : AH) : lnA S_1 h 90 = some (nI 96) := rfl
theorem ln_91 (h : AH) : lnA S_1 h 91 = some (nI 400) := rfl
theorem ln_92 (h : AH) : lnA S_1 h 92 = some (nI 400) := rfl
theorem ln_93 (h : AH) : lnA S_1 h 93 = some (nI 400) := rfl
theorem ln_94 (h : AH) : lnA S_1 h 94 = some (nI 400) := rfl
theorem ln_95 (h : AH) : lnA S_1 h 95 = some (nI 9) := rfl
theorem ln_96 (h : AH) : lnA S_1 h 96 = some (nI 7) := rfl
theorem ln_97 (h : AH) : lnA S_1 h 97 = some (nI 3) := rfl
theorem ln_98 (h : AH) : lnA S_1 h 98 = some (nI 13) := rfl
theorem ln_99 (h : AH) : lnA S_1 h 99 = some (nI 13) := rfl
theorem ln_100 (h : AH) : lnA S_1 h 100 = some (nI 400) := rfl
theorem ln_101 (h : AH) : lnA S_1 h 101 = some (nI 7) := rfl
theorem ln_102 (h : AH) : lnA S_1 h 102 = some (nI 7) := rfl
theorem ln_103 (h : AH) : lnA S_1 h 103 = some (nI 7) := rfl
theorem ln_104 (h : AH) : lnA S_1 h 104 = some (nI 6) := rfl
theorem ln_105 (h : AH) : lnA S_1 h 105 = some (nI 7) := rfl
theorem ln_106 (h : AH) : lnA S_1 h 106 = some (nI 21) := rfl
theorem ln_107 (h : AH) : lnA S_1 h 107 = some (nI 4) := rfl
theorem ln_108 (h : AH) : lnA S_1 h 108 = some (nI 96) := rfl
theorem ln_109 (h : AH) : lnA S_1 h 109 = some (nI 18) := rfl
theorem sd_t (h : AH) {s : Nat} (hs : s = 3 ∨ s = 25 ∨ s = 29 ∨ s = 39) : gR S_1 h s 7 0 = some (s + 1) := by rcases hs with rfl | rfl | rfl | rfl <;> rfl
theorem sd_d (h : AH) {s : Nat} (hs : s = 3 ∨ s = 25 ∨ s = 29 ∨ s = 39) : gR S_1 h s 7 1 = some (s + 2) := by rcases hs with rfl | rfl | rfl | rfl <;> rfl
theorem sd_i (h : AH) (k : Nat) {s : Nat} (hs : s = 3 ∨ s = 25 ∨ s = 29 ∨ s = 39) : gI S_1 h s 7 k = some (h.2.1 s k) := by rcases hs with rfl | rfl | rfl | rfl <;> rfl
theorem sd_p (h : AH) (k : Nat) (v : Int32) {s : Nat} (hs : s = 3 ∨ s = 25 ∨ s = 29 ∨ s = 39) : pI S_1 h s 7 k v = some (stI h s k v) := by rcases hs with rfl | rfl | rfl | rfl <;> rfl
theorem sd_c (h : AH) {s : Nat} (hs : s = 3 ∨ s = 25 ∨ s = 29 ∨ s = 39) : ckO S_1 h s 7 = some () := by rcases hs with rfl | rfl | rfl | rfl <;> rfl
theorem sd_a (h : AH) {s j : Nat} (hs : s = 3 ∨ s = 25 ∨ s = 29 ∨ s = 39) (hj : j < 7) : aI S_1 h (s + 1) (nI j) = some (h.2.1 (s + 1) j) := by rcases hs with rfl | rfl | rfl | rfl <;> exact aI_of rfl hj (by decide)
theorem sd_b (h : AH) {s j : Nat} (hs : s = 3 ∨ s = 25 ∨ s = 29 ∨ s = 39) (hj : j < 6) : aI S_1 h (s + 2) (nI j) = some (h.2.1 (s + 2) j) := by rcases hs with rfl | rfl | rfl | rfl <;> exact aI_of rfl hj (by decide)
theorem sd_sa (h : AH) (v : Int32) {s j : Nat} (hs : s = 3 ∨ s = 25 ∨ s = 29 ∨ s = 39) (hj : j < 7) : sI S_1 h (s + 1) (nI j) v = some (stI h (s + 1) j v) := by rcases hs with rfl | rfl | rfl | rfl <;> exact sI_of rfl hj (by decide)
theorem sd_sb (h : AH) (v : Int32) {s j : Nat} (hs : s = 3 ∨ s = 25 ∨ s = 29 ∨ s = 39) (hj : j < 6) : sI S_1 h (s + 2) (nI j) v = some (stI h (s + 2) j v) := by rcases hs with rfl | rfl | rfl | rfl <;> exact sI_of rfl hj (by decide)

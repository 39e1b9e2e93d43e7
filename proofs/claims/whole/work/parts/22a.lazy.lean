/-! lazy steps -/
def KP (p : Nat) : Option (Nat × Nat) := K_0[p]?
theorem KP_kd {p : Nat} {kk : Nat × Nat} (e : KP p = some kk) (h : AH) : KD S_1 h p = some kk := by
  show (K_0 ++ h.1)[p]? = _
  unfold KP at e
  rw [List.getElem?_append_left (List.getElem?_eq_some_iff.mp e).1]
  exact e
def IX (x : Int32) (n : Nat) : Prop := ¬ x < 0 ∧ x.toNatClampNeg < n
theorem ix_n {j n : Nat} (hj : j < n) (hn : j < 2 ^ 31) : IX (nI j) n := ⟨nI_pos hn, by rw [nI_clamp hn]; exact hj⟩
theorem ix_l {x : Int32} {n : Nat} (a : ¬ x < 0) (b : x.toNatClampNeg < n) : IX x n := ⟨a, b⟩
theorem ix_of {x : Int32} {n : Nat} (h : IX x n) : ¬ (x < 0 ∨ n ≤ x.toNatClampNeg) := fun e => e.elim h.1 (fun e => absurd h.2 (Nat.not_lt.mpr e))
theorem zI {α : Type} {h : AH} {p ci k : Nat} {f : Int32 → Option α} (hk : KP p = some (0, ci)) : (gI S_1 h p ci k).bind f = f (h.2.1 p k) := bs_ (if_pos (KP_kd hk h))
theorem zJ {α : Type} {h : AH} {p ci k : Nat} {f : Int64 → Option α} (hk : KP p = some (0, ci)) : (gJ S_1 h p ci k).bind f = f (h.2.2.1 p k) := bs_ (if_pos (KP_kd hk h))
theorem zP {α : Type} {h : AH} {p ci k : Nat} {v : Int32} {f : AH → Option α} (hk : KP p = some (0, ci)) : (pI S_1 h p ci k v).bind f = f (stI h p k v) := bs_ (if_pos (KP_kd hk h))
theorem zQ {α : Type} {h : AH} {p ci k : Nat} {v : Int64} {f : AH → Option α} (hk : KP p = some (0, ci)) : (pJ S_1 h p ci k v).bind f = f (stJ h p k v) := bs_ (if_pos (KP_kd hk h))
theorem zZ {α : Type} {h : AH} {p ci k : Nat} {v : Int32} {f : AH → Option α} (hk : KP p = some (0, ci)) (hv : v = 0 ∨ v = 1) : (pZ S_1 h p ci k v).bind f = f (stI h p k v) := bs_ (if_pos ⟨KP_kd hk h, hv⟩)
theorem zC {α : Type} {h : AH} {p ci : Nat} {f : Unit → Option α} (hk : KP p = some (0, ci)) : (ckO S_1 h p ci).bind f = f () := bs_ (if_pos (KP_kd hk h))
theorem zA {α : Type} {h : AH} {p n : Nat} {x : Int32} {f : Int32 → Option α} (hk : KP p = some (1, n)) (hx : IX x n) : (aI S_1 h p x).bind f = f (h.2.1 p x.toNatClampNeg) := by
  refine bs_ ?_
  unfold aI
  rw [KP_kd hk h]
  exact if_neg (ix_of hx)
theorem zB {α : Type} {h : AH} {p n : Nat} {x : Int32} {f : Int32 → Option α} (hk : KP p = some (3, n)) (hx : IX x n) : (aZ S_1 h p x).bind f = f (h.2.1 p x.toNatClampNeg) := by
  refine bs_ ?_
  unfold aZ
  rw [KP_kd hk h]
  exact if_neg (ix_of hx)
theorem zAJ {α : Type} {h : AH} {p n : Nat} {x : Int32} {f : Int64 → Option α} (hk : KP p = some (2, n)) (hx : IX x n) : (aJ S_1 h p x).bind f = f (h.2.2.1 p x.toNatClampNeg) := by
  refine bs_ ?_
  unfold aJ
  rw [KP_kd hk h]
  exact if_neg (ix_of hx)
theorem zS {α : Type} {h : AH} {p n : Nat} {x v : Int32} {f : AH → Option α} (hk : KP p = some (1, n)) (hx : IX x n) : (sI S_1 h p x v).bind f = f (stI h p x.toNatClampNeg v) := by
  refine bs_ ?_
  unfold sI
  rw [KP_kd hk h]
  exact if_neg (ix_of hx)
theorem zT {α : Type} {h : AH} {p n : Nat} {x v : Int32} {f : AH → Option α} (hk : KP p = some (3, n)) (hx : IX x n) (hv : v = 0 ∨ v = 1) : (sZ S_1 h p x v).bind f = f (stI h p x.toNatClampNeg v) := by
  refine bs_ ?_
  unfold sZ
  rw [KP_kd hk h]
  exact if_neg fun e => e.elim (fun e => ix_of hx (Or.inl e)) (fun e => e.elim (fun e => ix_of hx (Or.inr e)) (fun e => e hv))
theorem zSJ {α : Type} {h : AH} {p n : Nat} {x : Int32} {v : Int64} {f : AH → Option α} (hk : KP p = some (2, n)) (hx : IX x n) : (sJ S_1 h p x v).bind f = f (stJ h p x.toNatClampNeg v) := by
  refine bs_ ?_
  unfold sJ
  rw [KP_kd hk h]
  exact if_neg (ix_of hx)
theorem zN {α : Type} {h : AH} {p t n : Nat} {f : Int32 → Option α} (hk : KP p = some (t, n)) (ht : 1 ≤ t ∧ t ≤ 5) : (lnA S_1 h p).bind f = f (nI n) := by
  refine bs_ ?_
  unfold lnA
  rw [KP_kd hk h]
  exact if_pos ht
theorem zE {α β : Type} {e : α} {f : α → β} : lt e f = f e := rfl
theorem zK {α : Type} {x : Int32} {f : Unit → Option α} (hx : ¬ x = 0) : (nz x).bind f = f () := bs_ (if_neg hx)
theorem zF {α : Type} {x : Int64} {f : Unit → Option α} (hx : ¬ x = 0) : (nzJ x).bind f = f () := bs_ (if_neg hx)
theorem zD {α : Type} {b : Bool} {f : Unit → Option α} : (isZ (bI b)).bind f = f () := bs_ (bI_z b)
theorem hand_id {α β : Type} {x : Option (α × β)} : (x.bind fun z => some (z.fst, z.snd)) = x := by cases x <;> rfl
theorem n01 : ((0 : Int32) ≤ -1) = False := by decide
theorem n05 : ((0 : Int32) ≤ -5) = False := by decide
theorem i10 : ((1 : Int32) = 0) = False := by decide
theorem i01 : ((0 : Int32) = 1) = False := by decide
theorem i12 : ((1 : Int32) = 2) = False := by decide
theorem i21 : ((2 : Int32) = 1) = False := by decide
theorem i20 : ((2 : Int32) = 0) = False := by decide
theorem i02 : ((0 : Int32) = 2) = False := by decide
theorem m1_nl {k : Nat} (hk : k < 2 ^ 31) : ((-1 : Int32) = nI k) = False := eq_false fun e => by have := nl_m1 hk; rw [← e] at this; simp at this
theorem nI_mul_ (n b : Nat) : nI n * nI b = nI (n * b) := pk_mul n b
theorem tn_n {j : Nat} (hj : j < 2 ^ 31) : (nI j).toNatClampNeg = j := nI_clamp hj
theorem tn_l {n : Nat} (hn : n < 2 ^ 31) : (no_index (OfNat.ofNat n) : Int32).toNatClampNeg = n := nI_clamp hn
theorem ri_p {h : AH} {p k q j : Nat} {v : Int32} (e : q ≠ p) : (stI h p k v).2.1 q j = h.2.1 q j := u2_p _ _ _ _ e
theorem ri_k {h : AH} {p k q j : Nat} {v : Int32} (e : j ≠ k) : (stI h p k v).2.1 q j = h.2.1 q j := u2_k _ _ _ _ e
theorem ri_j {h : AH} {p k q j : Nat} {v : Int32} : (stI h p k v).2.2.1 q j = h.2.2.1 q j := rfl
theorem ri_1 {h : AH} {p k : Nat} {v : Int32} : (stI h p k v).1 = h.1 := rfl
theorem ri_2 {h : AH} {p k : Nat} {v : Int32} : (stI h p k v).2.2.2 = h.2.2.2 := rfl
theorem rj_i {h : AH} {p k q j : Nat} {v : Int64} : (stJ h p k v).2.1 q j = h.2.1 q j := rfl
theorem rj_1 {h : AH} {p k : Nat} {v : Int64} : (stJ h p k v).1 = h.1 := rfl
theorem rj_2 {h : AH} {p k : Nat} {v : Int64} : (stJ h p k v).2.2.2 = h.2.2.2 := rfl
theorem rj_p {h : AH} {p k q j : Nat} {v : Int64} (e : q ≠ p) : (stJ h p k v).2.2.1 q j = h.2.2.1 q j := u2_p _ _ _ _ e
theorem rj_k {h : AH} {p k q j : Nat} {v : Int64} (e : j ≠ k) : (stJ h p k v).2.2.1 q j = h.2.2.1 q j := u2_k _ _ _ _ e
theorem zr_0_0 {α : Type} {h : AH} {f : Nat → Option α} : (gR S_1 h 0 10 0).bind f = f 1 := rfl
theorem zr_0_2 {α : Type} {h : AH} {f : Nat → Option α} : (gR S_1 h 0 10 2).bind f = f 2 := rfl
theorem zr_0_3 {α : Type} {h : AH} {f : Nat → Option α} : (gR S_1 h 0 10 3).bind f = f 15 := rfl
theorem zr_0_4 {α : Type} {h : AH} {f : Nat → Option α} : (gR S_1 h 0 10 4).bind f = f 16 := rfl
theorem zr_0_5 {α : Type} {h : AH} {f : Nat → Option α} : (gR S_1 h 0 10 5).bind f = f 19 := rfl
theorem zr_0_6 {α : Type} {h : AH} {f : Nat → Option α} : (gR S_1 h 0 10 6).bind f = f 22 := rfl
theorem zr_0_7 {α : Type} {h : AH} {f : Nat → Option α} : (gR S_1 h 0 10 7).bind f = f 25 := rfl
theorem zr_0_8 {α : Type} {h : AH} {f : Nat → Option α} : (gR S_1 h 0 10 8).bind f = f 28 := rfl
theorem zr_0_9 {α : Type} {h : AH} {f : Nat → Option α} : (gR S_1 h 0 10 9).bind f = f 32 := rfl
theorem zr_0_10 {α : Type} {h : AH} {f : Nat → Option α} : (gR S_1 h 0 10 10).bind f = f 35 := rfl
theorem zr_0_11 {α : Type} {h : AH} {f : Nat → Option α} : (gR S_1 h 0 10 11).bind f = f 38 := rfl
theorem zr_0_12 {α : Type} {h : AH} {f : Nat → Option α} : (gR S_1 h 0 10 12).bind f = f 45 := rfl
theorem zr_0_13 {α : Type} {h : AH} {f : Nat → Option α} : (gR S_1 h 0 10 13).bind f = f 53 := rfl
theorem zr_2_0 {α : Type} {h : AH} {f : Nat → Option α} : (gR S_1 h 2 6 0).bind f = f 3 := rfl
theorem zr_2_2 {α : Type} {h : AH} {f : Nat → Option α} : (gR S_1 h 2 6 2).bind f = f 6 := rfl
theorem zr_2_3 {α : Type} {h : AH} {f : Nat → Option α} : (gR S_1 h 2 6 3).bind f = f 7 := rfl
theorem zr_2_5 {α : Type} {h : AH} {f : Nat → Option α} : (gR S_1 h 2 6 5).bind f = f 8 := rfl
theorem zr_2_6 {α : Type} {h : AH} {f : Nat → Option α} : (gR S_1 h 2 6 6).bind f = f 9 := rfl
theorem zr_2_11 {α : Type} {h : AH} {f : Nat → Option α} : (gR S_1 h 2 6 11).bind f = f 10 := rfl
theorem zr_2_13 {α : Type} {h : AH} {f : Nat → Option α} : (gR S_1 h 2 6 13).bind f = f 11 := rfl
theorem zr_2_14 {α : Type} {h : AH} {f : Nat → Option α} : (gR S_1 h 2 6 14).bind f = f 12 := rfl
theorem zr_3_0 {α : Type} {h : AH} {f : Nat → Option α} : (gR S_1 h 3 7 0).bind f = f 4 := rfl
theorem zr_3_1 {α : Type} {h : AH} {f : Nat → Option α} : (gR S_1 h 3 7 1).bind f = f 5 := rfl
theorem zr_12_0 {α : Type} {h : AH} {f : Nat → Option α} : (gR S_1 h 12 8 0).bind f = f 13 := rfl
theorem zr_12_1 {α : Type} {h : AH} {f : Nat → Option α} : (gR S_1 h 12 8 1).bind f = f 14 := rfl
theorem zr_16_0 {α : Type} {h : AH} {f : Nat → Option α} : (gR S_1 h 16 5 0).bind f = f 17 := rfl
theorem zr_16_1 {α : Type} {h : AH} {f : Nat → Option α} : (gR S_1 h 16 5 1).bind f = f 18 := rfl
theorem zr_19_0 {α : Type} {h : AH} {f : Nat → Option α} : (gR S_1 h 19 5 0).bind f = f 20 := rfl
theorem zr_19_1 {α : Type} {h : AH} {f : Nat → Option α} : (gR S_1 h 19 5 1).bind f = f 21 := rfl
theorem zr_22_0 {α : Type} {h : AH} {f : Nat → Option α} : (gR S_1 h 22 7 0).bind f = f 23 := rfl
theorem zr_22_1 {α : Type} {h : AH} {f : Nat → Option α} : (gR S_1 h 22 7 1).bind f = f 24 := rfl
theorem zr_25_0 {α : Type} {h : AH} {f : Nat → Option α} : (gR S_1 h 25 7 0).bind f = f 26 := rfl
theorem zr_25_1 {α : Type} {h : AH} {f : Nat → Option α} : (gR S_1 h 25 7 1).bind f = f 27 := rfl
theorem zr_28_0 {α : Type} {h : AH} {f : Nat → Option α} : (gR S_1 h 28 2 0).bind f = f 29 := rfl
theorem zr_29_0 {α : Type} {h : AH} {f : Nat → Option α} : (gR S_1 h 29 7 0).bind f = f 30 := rfl
theorem zr_29_1 {α : Type} {h : AH} {f : Nat → Option α} : (gR S_1 h 29 7 1).bind f = f 31 := rfl
theorem zr_32_0 {α : Type} {h : AH} {f : Nat → Option α} : (gR S_1 h 32 4 0).bind f = f 33 := rfl
theorem zr_32_1 {α : Type} {h : AH} {f : Nat → Option α} : (gR S_1 h 32 4 1).bind f = f 34 := rfl
theorem zr_35_0 {α : Type} {h : AH} {f : Nat → Option α} : (gR S_1 h 35 1 0).bind f = f 2 := rfl
theorem zr_35_1 {α : Type} {h : AH} {f : Nat → Option α} : (gR S_1 h 35 1 1).bind f = f 32 := rfl
theorem zr_35_4 {α : Type} {h : AH} {f : Nat → Option α} : (gR S_1 h 35 1 4).bind f = f 36 := rfl
theorem zr_35_5 {α : Type} {h : AH} {f : Nat → Option α} : (gR S_1 h 35 1 5).bind f = f 37 := rfl
theorem zr_38_0 {α : Type} {h : AH} {f : Nat → Option α} : (gR S_1 h 38 0 0).bind f = f 35 := rfl
theorem zr_38_1 {α : Type} {h : AH} {f : Nat → Option α} : (gR S_1 h 38 0 1).bind f = f 39 := rfl
theorem zr_38_2 {α : Type} {h : AH} {f : Nat → Option α} : (gR S_1 h 38 0 2).bind f = f 42 := rfl
theorem zr_38_3 {α : Type} {h : AH} {f : Nat → Option α} : (gR S_1 h 38 0 3).bind f = f 43 := rfl
theorem zr_38_4 {α : Type} {h : AH} {f : Nat → Option α} : (gR S_1 h 38 0 4).bind f = f 44 := rfl
theorem zr_39_0 {α : Type} {h : AH} {f : Nat → Option α} : (gR S_1 h 39 7 0).bind f = f 40 := rfl
theorem zr_39_1 {α : Type} {h : AH} {f : Nat → Option α} : (gR S_1 h 39 7 1).bind f = f 41 := rfl
theorem zr_45_0 {α : Type} {h : AH} {f : Nat → Option α} : (gR S_1 h 45 3 0).bind f = f 46 := rfl
theorem zr_45_1 {α : Type} {h : AH} {f : Nat → Option α} : (gR S_1 h 45 3 1).bind f = f 50 := rfl
theorem zr_46_0 {α : Type} {h : AH} {f : Nat → Option α} : (gR S_1 h 46 9 0).bind f = f 47 := rfl
theorem zr_46_1 {α : Type} {h : AH} {f : Nat → Option α} : (gR S_1 h 46 9 1).bind f = f 48 := rfl
theorem zr_46_2 {α : Type} {h : AH} {f : Nat → Option α} : (gR S_1 h 46 9 2).bind f = f 49 := rfl
theorem zr_50_0 {α : Type} {h : AH} {f : Nat → Option α} : (gR S_1 h 50 8 0).bind f = f 51 := rfl
theorem zr_50_1 {α : Type} {h : AH} {f : Nat → Option α} : (gR S_1 h 50 8 1).bind f = f 52 := rfl
theorem zr_54_0 {α : Type} {h : AH} {f : Nat → Option α} : (gR S_1 h 54 6 0).bind f = f 55 := rfl
theorem zr_54_2 {α : Type} {h : AH} {f : Nat → Option α} : (gR S_1 h 54 6 2).bind f = f 58 := rfl
theorem zr_54_3 {α : Type} {h : AH} {f : Nat → Option α} : (gR S_1 h 54 6 3).bind f = f 59 := rfl
theorem zr_54_5 {α : Type} {h : AH} {f : Nat → Option α} : (gR S_1 h 54 6 5).bind f = f 60 := rfl
theorem zr_54_6 {α : Type} {h : AH} {f : Nat → Option α} : (gR S_1 h 54 6 6).bind f = f 61 := rfl
theorem zr_54_11 {α : Type} {h : AH} {f : Nat → Option α} : (gR S_1 h 54 6 11).bind f = f 62 := rfl
theorem zr_54_13 {α : Type} {h : AH} {f : Nat → Option α} : (gR S_1 h 54 6 13).bind f = f 63 := rfl
theorem zr_54_14 {α : Type} {h : AH} {f : Nat → Option α} : (gR S_1 h 54 6 14).bind f = f 64 := rfl
theorem zr_55_0 {α : Type} {h : AH} {f : Nat → Option α} : (gR S_1 h 55 7 0).bind f = f 56 := rfl
theorem zr_55_1 {α : Type} {h : AH} {f : Nat → Option α} : (gR S_1 h 55 7 1).bind f = f 57 := rfl
theorem zr_64_0 {α : Type} {h : AH} {f : Nat → Option α} : (gR S_1 h 64 8 0).bind f = f 65 := rfl
theorem zr_64_1 {α : Type} {h : AH} {f : Nat → Option α} : (gR S_1 h 64 8 1).bind f = f 66 := rfl
theorem zr_67_0 {α : Type} {h : AH} {f : Nat → Option α} : (gR S_1 h 67 6 0).bind f = f 68 := rfl
theorem zr_67_2 {α : Type} {h : AH} {f : Nat → Option α} : (gR S_1 h 67 6 2).bind f = f 71 := rfl
theorem zr_67_3 {α : Type} {h : AH} {f : Nat → Option α} : (gR S_1 h 67 6 3).bind f = f 72 := rfl
theorem zr_67_5 {α : Type} {h : AH} {f : Nat → Option α} : (gR S_1 h 67 6 5).bind f = f 73 := rfl
theorem zr_67_6 {α : Type} {h : AH} {f : Nat → Option α} : (gR S_1 h 67 6 6).bind f = f 74 := rfl
theorem zr_67_11 {α : Type} {h : AH} {f : Nat → Option α} : (gR S_1 h 67 6 11).bind f = f 75 := rfl
theorem zr_67_13 {α : Type} {h : AH} {f : Nat → Option α} : (gR S_1 h 67 6 13).bind f = f 76 := rfl
theorem zr_67_14 {α : Type} {h : AH} {f : Nat → Option α} : (gR S_1 h 67 6 14).bind f = f 77 := rfl
theorem zr_68_0 {α : Type} {h : AH} {f : Nat → Option α} : (gR S_1 h 68 7 0).bind f = f 69 := rfl
theorem zr_68_1 {α : Type} {h : AH} {f : Nat → Option α} : (gR S_1 h 68 7 1).bind f = f 70 := rfl
theorem zr_77_0 {α : Type} {h : AH} {f : Nat → Option α} : (gR S_1 h 77 8 0).bind f = f 78 := rfl
theorem zr_77_1 {α : Type} {h : AH} {f : Nat → Option α} : (gR S_1 h 77 8 1).bind f = f 79 := rfl
theorem zr_80_2 {α : Type} {h : AH} {f : Nat → Option α} : (gR S_1 h 80 11 2).bind f = f 81 := rfl
theorem zr_80_3 {α : Type} {h : AH} {f : Nat → Option α} : (gR S_1 h 80 11 3).bind f = f 82 := rfl
theorem zr_80_4 {α : Type} {h : AH} {f : Nat → Option α} : (gR S_1 h 80 11 4).bind f = f 83 := rfl
theorem zr_80_5 {α : Type} {h : AH} {f : Nat → Option α} : (gR S_1 h 80 11 5).bind f = f 84 := rfl
theorem zr_80_6 {α : Type} {h : AH} {f : Nat → Option α} : (gR S_1 h 80 11 6).bind f = f 85 := rfl
theorem zr_80_7 {α : Type} {h : AH} {f : Nat → Option α} : (gR S_1 h 80 11 7).bind f = f 86 := rfl
theorem zr_80_9 {α : Type} {h : AH} {f : Nat → Option α} : (gR S_1 h 80 11 9).bind f = f 87 := rfl
theorem zr_80_10 {α : Type} {h : AH} {f : Nat → Option α} : (gR S_1 h 80 11 10).bind f = f 88 := rfl
theorem zr_80_12 {α : Type} {h : AH} {f : Nat → Option α} : (gR S_1 h 80 11 12).bind f = f 89 := rfl
theorem zr_80_22 {α : Type} {h : AH} {f : Nat → Option α} : (gR S_1 h 80 11 22).bind f = f 90 := rfl
theorem zr_80_24 {α : Type} {h : AH} {f : Nat → Option α} : (gR S_1 h 80 11 24).bind f = f 91 := rfl
theorem zr_80_25 {α : Type} {h : AH} {f : Nat → Option α} : (gR S_1 h 80 11 25).bind f = f 92 := rfl
theorem zr_80_27 {α : Type} {h : AH} {f : Nat → Option α} : (gR S_1 h 80 11 27).bind f = f 93 := rfl
theorem zr_80_28 {α : Type} {h : AH} {f : Nat → Option α} : (gR S_1 h 80 11 28).bind f = f 94 := rfl
theorem zr_80_31 {α : Type} {h : AH} {f : Nat → Option α} : (gR S_1 h 80 11 31).bind f = f 95 := rfl
theorem zr_80_32 {α : Type} {h : AH} {f : Nat → Option α} : (gR S_1 h 80 11 32).bind f = f 96 := rfl
theorem zr_80_33 {α : Type} {h : AH} {f : Nat → Option α} : (gR S_1 h 80 11 33).bind f = f 97 := rfl
theorem zr_80_35 {α : Type} {h : AH} {f : Nat → Option α} : (gR S_1 h 80 11 35).bind f = f 98 := rfl
theorem zr_80_36 {α : Type} {h : AH} {f : Nat → Option α} : (gR S_1 h 80 11 36).bind f = f 99 := rfl
theorem zr_80_37 {α : Type} {h : AH} {f : Nat → Option α} : (gR S_1 h 80 11 37).bind f = f 100 := rfl
theorem zr_80_41 {α : Type} {h : AH} {f : Nat → Option α} : (gR S_1 h 80 11 41).bind f = f 101 := rfl
theorem zr_80_42 {α : Type} {h : AH} {f : Nat → Option α} : (gR S_1 h 80 11 42).bind f = f 102 := rfl
theorem zr_80_43 {α : Type} {h : AH} {f : Nat → Option α} : (gR S_1 h 80 11 43).bind f = f 103 := rfl
theorem zr_80_44 {α : Type} {h : AH} {f : Nat → Option α} : (gR S_1 h 80 11 44).bind f = f 104 := rfl
theorem zr_80_46 {α : Type} {h : AH} {f : Nat → Option α} : (gR S_1 h 80 11 46).bind f = f 105 := rfl
theorem zr_80_47 {α : Type} {h : AH} {f : Nat → Option α} : (gR S_1 h 80 11 47).bind f = f 106 := rfl
theorem zr_80_48 {α : Type} {h : AH} {f : Nat → Option α} : (gR S_1 h 80 11 48).bind f = f 107 := rfl
theorem zr_80_49 {α : Type} {h : AH} {f : Nat → Option α} : (gR S_1 h 80 11 49).bind f = f 108 := rfl
theorem zr_80_55 {α : Type} {h : AH} {f : Nat → Option α} : (gR S_1 h 80 11 55).bind f = f 109 := rfl
theorem za_1 {α : Type} {h : AH} {x : Int32} {f : Int32 → Option α} (hx : IX x 400) : (aI S_1 h 1 x).bind f = f (h.2.1 1 x.toNatClampNeg) := zA (n := 400) rfl hx
theorem zs_1 {α : Type} {h : AH} {x : Int32} {v : Int32} {f : AH → Option α} (hx : IX x 400) : (sI S_1 h 1 x v).bind f = f (stI h 1 x.toNatClampNeg v) := zS (n := 400) rfl hx
theorem zl_1 {α : Type} {h : AH} {f : Int32 → Option α} : (lnA S_1 h 1).bind f = f (nI 400) := zN (t := 1) (n := 400) rfl (by decide)
theorem za_4 {α : Type} {h : AH} {x : Int32} {f : Int32 → Option α} (hx : IX x 7) : (aI S_1 h 4 x).bind f = f (h.2.1 4 x.toNatClampNeg) := zA (n := 7) rfl hx
theorem zs_4 {α : Type} {h : AH} {x : Int32} {v : Int32} {f : AH → Option α} (hx : IX x 7) : (sI S_1 h 4 x v).bind f = f (stI h 4 x.toNatClampNeg v) := zS (n := 7) rfl hx
theorem zl_4 {α : Type} {h : AH} {f : Int32 → Option α} : (lnA S_1 h 4).bind f = f (nI 7) := zN (t := 1) (n := 7) rfl (by decide)
theorem za_5 {α : Type} {h : AH} {x : Int32} {f : Int32 → Option α} (hx : IX x 6) : (aI S_1 h 5 x).bind f = f (h.2.1 5 x.toNatClampNeg) := zA (n := 6) rfl hx
theorem zs_5 {α : Type} {h : AH} {x : Int32} {v : Int32} {f : AH → Option α} (hx : IX x 6) : (sI S_1 h 5 x v).bind f = f (stI h 5 x.toNatClampNeg v) := zS (n := 6) rfl hx
theorem zl_5 {α : Type} {h : AH} {f : Int32 → Option α} : (lnA S_1 h 5).bind f = f (nI 6) := zN (t := 1) (n := 6) rfl (by decide)
theorem za_6 {α : Type} {h : AH} {x : Int32} {f : Int32 → Option α} (hx : IX x 7) : (aI S_1 h 6 x).bind f = f (h.2.1 6 x.toNatClampNeg) := zA (n := 7) rfl hx
theorem zs_6 {α : Type} {h : AH} {x : Int32} {v : Int32} {f : AH → Option α} (hx : IX x 7) : (sI S_1 h 6 x v).bind f = f (stI h 6 x.toNatClampNeg v) := zS (n := 7) rfl hx
theorem zl_6 {α : Type} {h : AH} {f : Int32 → Option α} : (lnA S_1 h 6).bind f = f (nI 7) := zN (t := 1) (n := 7) rfl (by decide)
theorem za_7 {α : Type} {h : AH} {x : Int32} {f : Int32 → Option α} (hx : IX x 42) : (aI S_1 h 7 x).bind f = f (h.2.1 7 x.toNatClampNeg) := zA (n := 42) rfl hx
theorem zs_7 {α : Type} {h : AH} {x : Int32} {v : Int32} {f : AH → Option α} (hx : IX x 42) : (sI S_1 h 7 x v).bind f = f (stI h 7 x.toNatClampNeg v) := zS (n := 42) rfl hx
theorem zl_7 {α : Type} {h : AH} {f : Int32 → Option α} : (lnA S_1 h 7).bind f = f (nI 42) := zN (t := 1) (n := 42) rfl (by decide)
theorem za_8 {α : Type} {h : AH} {x : Int32} {f : Int32 → Option α} (hx : IX x 6) : (aI S_1 h 8 x).bind f = f (h.2.1 8 x.toNatClampNeg) := zA (n := 6) rfl hx
theorem zs_8 {α : Type} {h : AH} {x : Int32} {v : Int32} {f : AH → Option α} (hx : IX x 6) : (sI S_1 h 8 x v).bind f = f (stI h 8 x.toNatClampNeg v) := zS (n := 6) rfl hx
theorem zl_8 {α : Type} {h : AH} {f : Int32 → Option α} : (lnA S_1 h 8).bind f = f (nI 6) := zN (t := 1) (n := 6) rfl (by decide)
theorem za_9 {α : Type} {h : AH} {x : Int32} {f : Int32 → Option α} (hx : IX x 6) : (aI S_1 h 9 x).bind f = f (h.2.1 9 x.toNatClampNeg) := zA (n := 6) rfl hx
theorem zs_9 {α : Type} {h : AH} {x : Int32} {v : Int32} {f : AH → Option α} (hx : IX x 6) : (sI S_1 h 9 x v).bind f = f (stI h 9 x.toNatClampNeg v) := zS (n := 6) rfl hx
theorem zl_9 {α : Type} {h : AH} {f : Int32 → Option α} : (lnA S_1 h 9).bind f = f (nI 6) := zN (t := 1) (n := 6) rfl (by decide)
theorem za_10 {α : Type} {h : AH} {x : Int32} {f : Int32 → Option α} (hx : IX x 6) : (aI S_1 h 10 x).bind f = f (h.2.1 10 x.toNatClampNeg) := zA (n := 6) rfl hx
theorem zs_10 {α : Type} {h : AH} {x : Int32} {v : Int32} {f : AH → Option α} (hx : IX x 6) : (sI S_1 h 10 x v).bind f = f (stI h 10 x.toNatClampNeg v) := zS (n := 6) rfl hx
theorem zl_10 {α : Type} {h : AH} {f : Int32 → Option α} : (lnA S_1 h 10).bind f = f (nI 6) := zN (t := 1) (n := 6) rfl (by decide)
theorem za_17 {α : Type} {h : AH} {x : Int32} {f : Int32 → Option α} (hx : IX x 255) : (aI S_1 h 17 x).bind f = f (h.2.1 17 x.toNatClampNeg) := zA (n := 255) rfl hx
theorem zs_17 {α : Type} {h : AH} {x : Int32} {v : Int32} {f : AH → Option α} (hx : IX x 255) : (sI S_1 h 17 x v).bind f = f (stI h 17 x.toNatClampNeg v) := zS (n := 255) rfl hx
theorem zl_17 {α : Type} {h : AH} {f : Int32 → Option α} : (lnA S_1 h 17).bind f = f (nI 255) := zN (t := 1) (n := 255) rfl (by decide)
theorem za_18 {α : Type} {h : AH} {x : Int32} {f : Int32 → Option α} (hx : IX x 17) : (aI S_1 h 18 x).bind f = f (h.2.1 18 x.toNatClampNeg) := zA (n := 17) rfl hx
theorem zs_18 {α : Type} {h : AH} {x : Int32} {v : Int32} {f : AH → Option α} (hx : IX x 17) : (sI S_1 h 18 x v).bind f = f (stI h 18 x.toNatClampNeg v) := zS (n := 17) rfl hx
theorem zl_18 {α : Type} {h : AH} {f : Int32 → Option α} : (lnA S_1 h 18).bind f = f (nI 17) := zN (t := 1) (n := 17) rfl (by decide)
theorem za_20 {α : Type} {h : AH} {x : Int32} {f : Int32 → Option α} (hx : IX x 255) : (aI S_1 h 20 x).bind f = f (h.2.1 20 x.toNatClampNeg) := zA (n := 255) rfl hx
theorem zs_20 {α : Type} {h : AH} {x : Int32} {v : Int32} {f : AH → Option α} (hx : IX x 255) : (sI S_1 h 20 x v).bind f = f (stI h 20 x.toNatClampNeg v) := zS (n := 255) rfl hx
theorem zl_20 {α : Type} {h : AH} {f : Int32 → Option α} : (lnA S_1 h 20).bind f = f (nI 255) := zN (t := 1) (n := 255) rfl (by decide)
theorem za_21 {α : Type} {h : AH} {x : Int32} {f : Int32 → Option α} (hx : IX x 17) : (aI S_1 h 21 x).bind f = f (h.2.1 21 x.toNatClampNeg) := zA (n := 17) rfl hx
theorem zs_21 {α : Type} {h : AH} {x : Int32} {v : Int32} {f : AH → Option α} (hx : IX x 17) : (sI S_1 h 21 x v).bind f = f (stI h 21 x.toNatClampNeg v) := zS (n := 17) rfl hx
theorem zl_21 {α : Type} {h : AH} {f : Int32 → Option α} : (lnA S_1 h 21).bind f = f (nI 17) := zN (t := 1) (n := 17) rfl (by decide)
theorem za_23 {α : Type} {h : AH} {x : Int32} {f : Int32 → Option α} (hx : IX x 7) : (aI S_1 h 23 x).bind f = f (h.2.1 23 x.toNatClampNeg) := zA (n := 7) rfl hx
theorem zs_23 {α : Type} {h : AH} {x : Int32} {v : Int32} {f : AH → Option α} (hx : IX x 7) : (sI S_1 h 23 x v).bind f = f (stI h 23 x.toNatClampNeg v) := zS (n := 7) rfl hx
theorem zl_23 {α : Type} {h : AH} {f : Int32 → Option α} : (lnA S_1 h 23).bind f = f (nI 7) := zN (t := 1) (n := 7) rfl (by decide)
theorem za_24 {α : Type} {h : AH} {x : Int32} {f : Int32 → Option α} (hx : IX x 6) : (aI S_1 h 24 x).bind f = f (h.2.1 24 x.toNatClampNeg) := zA (n := 6) rfl hx
theorem zs_24 {α : Type} {h : AH} {x : Int32} {v : Int32} {f : AH → Option α} (hx : IX x 6) : (sI S_1 h 24 x v).bind f = f (stI h 24 x.toNatClampNeg v) := zS (n := 6) rfl hx
theorem zl_24 {α : Type} {h : AH} {f : Int32 → Option α} : (lnA S_1 h 24).bind f = f (nI 6) := zN (t := 1) (n := 6) rfl (by decide)
theorem za_26 {α : Type} {h : AH} {x : Int32} {f : Int32 → Option α} (hx : IX x 7) : (aI S_1 h 26 x).bind f = f (h.2.1 26 x.toNatClampNeg) := zA (n := 7) rfl hx
theorem zs_26 {α : Type} {h : AH} {x : Int32} {v : Int32} {f : AH → Option α} (hx : IX x 7) : (sI S_1 h 26 x v).bind f = f (stI h 26 x.toNatClampNeg v) := zS (n := 7) rfl hx
theorem zl_26 {α : Type} {h : AH} {f : Int32 → Option α} : (lnA S_1 h 26).bind f = f (nI 7) := zN (t := 1) (n := 7) rfl (by decide)
theorem za_27 {α : Type} {h : AH} {x : Int32} {f : Int32 → Option α} (hx : IX x 6) : (aI S_1 h 27 x).bind f = f (h.2.1 27 x.toNatClampNeg) := zA (n := 6) rfl hx
theorem zs_27 {α : Type} {h : AH} {x : Int32} {v : Int32} {f : AH → Option α} (hx : IX x 6) : (sI S_1 h 27 x v).bind f = f (stI h 27 x.toNatClampNeg v) := zS (n := 6) rfl hx
theorem zl_27 {α : Type} {h : AH} {f : Int32 → Option α} : (lnA S_1 h 27).bind f = f (nI 6) := zN (t := 1) (n := 6) rfl (by decide)
theorem za_30 {α : Type} {h : AH} {x : Int32} {f : Int32 → Option α} (hx : IX x 7) : (aI S_1 h 30 x).bind f = f (h.2.1 30 x.toNatClampNeg) := zA (n := 7) rfl hx
theorem zs_30 {α : Type} {h : AH} {x : Int32} {v : Int32} {f : AH → Option α} (hx : IX x 7) : (sI S_1 h 30 x v).bind f = f (stI h 30 x.toNatClampNeg v) := zS (n := 7) rfl hx
theorem zl_30 {α : Type} {h : AH} {f : Int32 → Option α} : (lnA S_1 h 30).bind f = f (nI 7) := zN (t := 1) (n := 7) rfl (by decide)
theorem za_31 {α : Type} {h : AH} {x : Int32} {f : Int32 → Option α} (hx : IX x 6) : (aI S_1 h 31 x).bind f = f (h.2.1 31 x.toNatClampNeg) := zA (n := 6) rfl hx
theorem zs_31 {α : Type} {h : AH} {x : Int32} {v : Int32} {f : AH → Option α} (hx : IX x 6) : (sI S_1 h 31 x v).bind f = f (stI h 31 x.toNatClampNeg v) := zS (n := 6) rfl hx
theorem zl_31 {α : Type} {h : AH} {f : Int32 → Option α} : (lnA S_1 h 31).bind f = f (nI 6) := zN (t := 1) (n := 6) rfl (by decide)
theorem za_33 {α : Type} {h : AH} {x : Int32} {f : Int32 → Option α} (hx : IX x 25) : (aI S_1 h 33 x).bind f = f (h.2.1 33 x.toNatClampNeg) := zA (n := 25) rfl hx
theorem zs_33 {α : Type} {h : AH} {x : Int32} {v : Int32} {f : AH → Option α} (hx : IX x 25) : (sI S_1 h 33 x v).bind f = f (stI h 33 x.toNatClampNeg v) := zS (n := 25) rfl hx
theorem zl_33 {α : Type} {h : AH} {f : Int32 → Option α} : (lnA S_1 h 33).bind f = f (nI 25) := zN (t := 1) (n := 25) rfl (by decide)
theorem za_34 {α : Type} {h : AH} {x : Int32} {f : Int64 → Option α} (hx : IX x 52) : (aJ S_1 h 34 x).bind f = f (h.2.2.1 34 x.toNatClampNeg) := zAJ (n := 52) rfl hx
theorem zs_34 {α : Type} {h : AH} {x : Int32} {v : Int64} {f : AH → Option α} (hx : IX x 52) : (sJ S_1 h 34 x v).bind f = f (stJ h 34 x.toNatClampNeg v) := zSJ (n := 52) rfl hx
theorem zl_34 {α : Type} {h : AH} {f : Int32 → Option α} : (lnA S_1 h 34).bind f = f (nI 52) := zN (t := 2) (n := 52) rfl (by decide)
theorem za_36 {α : Type} {h : AH} {x : Int32} {f : Int32 → Option α} (hx : IX x 7) : (aI S_1 h 36 x).bind f = f (h.2.1 36 x.toNatClampNeg) := zA (n := 7) rfl hx
theorem zs_36 {α : Type} {h : AH} {x : Int32} {v : Int32} {f : AH → Option α} (hx : IX x 7) : (sI S_1 h 36 x v).bind f = f (stI h 36 x.toNatClampNeg v) := zS (n := 7) rfl hx
theorem zl_36 {α : Type} {h : AH} {f : Int32 → Option α} : (lnA S_1 h 36).bind f = f (nI 7) := zN (t := 1) (n := 7) rfl (by decide)
theorem za_37 {α : Type} {h : AH} {x : Int32} {f : Int32 → Option α} (hx : IX x 7) : (aI S_1 h 37 x).bind f = f (h.2.1 37 x.toNatClampNeg) := zA (n := 7) rfl hx
theorem zs_37 {α : Type} {h : AH} {x : Int32} {v : Int32} {f : AH → Option α} (hx : IX x 7) : (sI S_1 h 37 x v).bind f = f (stI h 37 x.toNatClampNeg v) := zS (n := 7) rfl hx
theorem zl_37 {α : Type} {h : AH} {f : Int32 → Option α} : (lnA S_1 h 37).bind f = f (nI 7) := zN (t := 1) (n := 7) rfl (by decide)
theorem za_40 {α : Type} {h : AH} {x : Int32} {f : Int32 → Option α} (hx : IX x 7) : (aI S_1 h 40 x).bind f = f (h.2.1 40 x.toNatClampNeg) := zA (n := 7) rfl hx
theorem zs_40 {α : Type} {h : AH} {x : Int32} {v : Int32} {f : AH → Option α} (hx : IX x 7) : (sI S_1 h 40 x v).bind f = f (stI h 40 x.toNatClampNeg v) := zS (n := 7) rfl hx
theorem zl_40 {α : Type} {h : AH} {f : Int32 → Option α} : (lnA S_1 h 40).bind f = f (nI 7) := zN (t := 1) (n := 7) rfl (by decide)
theorem za_41 {α : Type} {h : AH} {x : Int32} {f : Int32 → Option α} (hx : IX x 6) : (aI S_1 h 41 x).bind f = f (h.2.1 41 x.toNatClampNeg) := zA (n := 6) rfl hx
theorem zs_41 {α : Type} {h : AH} {x : Int32} {v : Int32} {f : AH → Option α} (hx : IX x 6) : (sI S_1 h 41 x v).bind f = f (stI h 41 x.toNatClampNeg v) := zS (n := 6) rfl hx
theorem zl_41 {α : Type} {h : AH} {f : Int32 → Option α} : (lnA S_1 h 41).bind f = f (nI 6) := zN (t := 1) (n := 6) rfl (by decide)
theorem za_42 {α : Type} {h : AH} {x : Int32} {f : Int32 → Option α} (hx : IX x 294) : (aI S_1 h 42 x).bind f = f (h.2.1 42 x.toNatClampNeg) := zA (n := 294) rfl hx
theorem zs_42 {α : Type} {h : AH} {x : Int32} {v : Int32} {f : AH → Option α} (hx : IX x 294) : (sI S_1 h 42 x v).bind f = f (stI h 42 x.toNatClampNeg v) := zS (n := 294) rfl hx
theorem zl_42 {α : Type} {h : AH} {f : Int32 → Option α} : (lnA S_1 h 42).bind f = f (nI 294) := zN (t := 1) (n := 294) rfl (by decide)
theorem za_43 {α : Type} {h : AH} {x : Int32} {f : Int32 → Option α} (hx : IX x 6) : (aI S_1 h 43 x).bind f = f (h.2.1 43 x.toNatClampNeg) := zA (n := 6) rfl hx
theorem zs_43 {α : Type} {h : AH} {x : Int32} {v : Int32} {f : AH → Option α} (hx : IX x 6) : (sI S_1 h 43 x v).bind f = f (stI h 43 x.toNatClampNeg v) := zS (n := 6) rfl hx
theorem zl_43 {α : Type} {h : AH} {f : Int32 → Option α} : (lnA S_1 h 43).bind f = f (nI 6) := zN (t := 1) (n := 6) rfl (by decide)
theorem za_44 {α : Type} {h : AH} {x : Int32} {f : Int32 → Option α} (hx : IX x 6) : (aI S_1 h 44 x).bind f = f (h.2.1 44 x.toNatClampNeg) := zA (n := 6) rfl hx
theorem zs_44 {α : Type} {h : AH} {x : Int32} {v : Int32} {f : AH → Option α} (hx : IX x 6) : (sI S_1 h 44 x v).bind f = f (stI h 44 x.toNatClampNeg v) := zS (n := 6) rfl hx
theorem zl_44 {α : Type} {h : AH} {f : Int32 → Option α} : (lnA S_1 h 44).bind f = f (nI 6) := zN (t := 1) (n := 6) rfl (by decide)
theorem za_47 {α : Type} {h : AH} {x : Int32} {f : Int32 → Option α} (hx : IX x 401) : (aI S_1 h 47 x).bind f = f (h.2.1 47 x.toNatClampNeg) := zA (n := 401) rfl hx
theorem zs_47 {α : Type} {h : AH} {x : Int32} {v : Int32} {f : AH → Option α} (hx : IX x 401) : (sI S_1 h 47 x v).bind f = f (stI h 47 x.toNatClampNeg v) := zS (n := 401) rfl hx
theorem zl_47 {α : Type} {h : AH} {f : Int32 → Option α} : (lnA S_1 h 47).bind f = f (nI 401) := zN (t := 1) (n := 401) rfl (by decide)
theorem za_48 {α : Type} {h : AH} {x : Int32} {f : Int32 → Option α} (hx : IX x 401) : (aI S_1 h 48 x).bind f = f (h.2.1 48 x.toNatClampNeg) := zA (n := 401) rfl hx
theorem zs_48 {α : Type} {h : AH} {x : Int32} {v : Int32} {f : AH → Option α} (hx : IX x 401) : (sI S_1 h 48 x v).bind f = f (stI h 48 x.toNatClampNeg v) := zS (n := 401) rfl hx
theorem zl_48 {α : Type} {h : AH} {f : Int32 → Option α} : (lnA S_1 h 48).bind f = f (nI 401) := zN (t := 1) (n := 401) rfl (by decide)
theorem za_49 {α : Type} {h : AH} {x : Int32} {f : Int32 → Option α} (hx : IX x 401) : (aI S_1 h 49 x).bind f = f (h.2.1 49 x.toNatClampNeg) := zA (n := 401) rfl hx
theorem zs_49 {α : Type} {h : AH} {x : Int32} {v : Int32} {f : AH → Option α} (hx : IX x 401) : (sI S_1 h 49 x v).bind f = f (stI h 49 x.toNatClampNeg v) := zS (n := 401) rfl hx
theorem zl_49 {α : Type} {h : AH} {f : Int32 → Option α} : (lnA S_1 h 49).bind f = f (nI 401) := zN (t := 1) (n := 401) rfl (by decide)
theorem za_51 {α : Type} {h : AH} {x : Int32} {f : Int32 → Option α} (hx : IX x 400) : (aI S_1 h 51 x).bind f = f (h.2.1 51 x.toNatClampNeg) := zA (n := 400) rfl hx
theorem zs_51 {α : Type} {h : AH} {x : Int32} {v : Int32} {f : AH → Option α} (hx : IX x 400) : (sI S_1 h 51 x v).bind f = f (stI h 51 x.toNatClampNeg v) := zS (n := 400) rfl hx
theorem zl_51 {α : Type} {h : AH} {f : Int32 → Option α} : (lnA S_1 h 51).bind f = f (nI 400) := zN (t := 1) (n := 400) rfl (by decide)
theorem za_52 {α : Type} {h : AH} {x : Int32} {f : Int32 → Option α} (hx : IX x 72) : (aI S_1 h 52 x).bind f = f (h.2.1 52 x.toNatClampNeg) := zA (n := 72) rfl hx
theorem zs_52 {α : Type} {h : AH} {x : Int32} {v : Int32} {f : AH → Option α} (hx : IX x 72) : (sI S_1 h 52 x v).bind f = f (stI h 52 x.toNatClampNeg v) := zS (n := 72) rfl hx
theorem zl_52 {α : Type} {h : AH} {f : Int32 → Option α} : (lnA S_1 h 52).bind f = f (nI 72) := zN (t := 1) (n := 72) rfl (by decide)
theorem za_53 {α : Type} {h : AH} {x : Int32} {f : Int32 → Option α} (hx : IX x 7) : (aI S_1 h 53 x).bind f = f (h.2.1 53 x.toNatClampNeg) := zA (n := 7) rfl hx
theorem zs_53 {α : Type} {h : AH} {x : Int32} {v : Int32} {f : AH → Option α} (hx : IX x 7) : (sI S_1 h 53 x v).bind f = f (stI h 53 x.toNatClampNeg v) := zS (n := 7) rfl hx
theorem zl_53 {α : Type} {h : AH} {f : Int32 → Option α} : (lnA S_1 h 53).bind f = f (nI 7) := zN (t := 1) (n := 7) rfl (by decide)
theorem za_56 {α : Type} {h : AH} {x : Int32} {f : Int32 → Option α} (hx : IX x 7) : (aI S_1 h 56 x).bind f = f (h.2.1 56 x.toNatClampNeg) := zA (n := 7) rfl hx
theorem zs_56 {α : Type} {h : AH} {x : Int32} {v : Int32} {f : AH → Option α} (hx : IX x 7) : (sI S_1 h 56 x v).bind f = f (stI h 56 x.toNatClampNeg v) := zS (n := 7) rfl hx
theorem zl_56 {α : Type} {h : AH} {f : Int32 → Option α} : (lnA S_1 h 56).bind f = f (nI 7) := zN (t := 1) (n := 7) rfl (by decide)
theorem za_57 {α : Type} {h : AH} {x : Int32} {f : Int32 → Option α} (hx : IX x 6) : (aI S_1 h 57 x).bind f = f (h.2.1 57 x.toNatClampNeg) := zA (n := 6) rfl hx
theorem zs_57 {α : Type} {h : AH} {x : Int32} {v : Int32} {f : AH → Option α} (hx : IX x 6) : (sI S_1 h 57 x v).bind f = f (stI h 57 x.toNatClampNeg v) := zS (n := 6) rfl hx
theorem zl_57 {α : Type} {h : AH} {f : Int32 → Option α} : (lnA S_1 h 57).bind f = f (nI 6) := zN (t := 1) (n := 6) rfl (by decide)
theorem za_58 {α : Type} {h : AH} {x : Int32} {f : Int32 → Option α} (hx : IX x 7) : (aI S_1 h 58 x).bind f = f (h.2.1 58 x.toNatClampNeg) := zA (n := 7) rfl hx
theorem zs_58 {α : Type} {h : AH} {x : Int32} {v : Int32} {f : AH → Option α} (hx : IX x 7) : (sI S_1 h 58 x v).bind f = f (stI h 58 x.toNatClampNeg v) := zS (n := 7) rfl hx
theorem zl_58 {α : Type} {h : AH} {f : Int32 → Option α} : (lnA S_1 h 58).bind f = f (nI 7) := zN (t := 1) (n := 7) rfl (by decide)
theorem za_59 {α : Type} {h : AH} {x : Int32} {f : Int32 → Option α} (hx : IX x 42) : (aI S_1 h 59 x).bind f = f (h.2.1 59 x.toNatClampNeg) := zA (n := 42) rfl hx
theorem zs_59 {α : Type} {h : AH} {x : Int32} {v : Int32} {f : AH → Option α} (hx : IX x 42) : (sI S_1 h 59 x v).bind f = f (stI h 59 x.toNatClampNeg v) := zS (n := 42) rfl hx
theorem zl_59 {α : Type} {h : AH} {f : Int32 → Option α} : (lnA S_1 h 59).bind f = f (nI 42) := zN (t := 1) (n := 42) rfl (by decide)
theorem za_60 {α : Type} {h : AH} {x : Int32} {f : Int32 → Option α} (hx : IX x 6) : (aI S_1 h 60 x).bind f = f (h.2.1 60 x.toNatClampNeg) := zA (n := 6) rfl hx
theorem zs_60 {α : Type} {h : AH} {x : Int32} {v : Int32} {f : AH → Option α} (hx : IX x 6) : (sI S_1 h 60 x v).bind f = f (stI h 60 x.toNatClampNeg v) := zS (n := 6) rfl hx
theorem zl_60 {α : Type} {h : AH} {f : Int32 → Option α} : (lnA S_1 h 60).bind f = f (nI 6) := zN (t := 1) (n := 6) rfl (by decide)
theorem za_61 {α : Type} {h : AH} {x : Int32} {f : Int32 → Option α} (hx : IX x 6) : (aI S_1 h 61 x).bind f = f (h.2.1 61 x.toNatClampNeg) := zA (n := 6) rfl hx
theorem zs_61 {α : Type} {h : AH} {x : Int32} {v : Int32} {f : AH → Option α} (hx : IX x 6) : (sI S_1 h 61 x v).bind f = f (stI h 61 x.toNatClampNeg v) := zS (n := 6) rfl hx
theorem zl_61 {α : Type} {h : AH} {f : Int32 → Option α} : (lnA S_1 h 61).bind f = f (nI 6) := zN (t := 1) (n := 6) rfl (by decide)
theorem za_62 {α : Type} {h : AH} {x : Int32} {f : Int32 → Option α} (hx : IX x 6) : (aI S_1 h 62 x).bind f = f (h.2.1 62 x.toNatClampNeg) := zA (n := 6) rfl hx
theorem zs_62 {α : Type} {h : AH} {x : Int32} {v : Int32} {f : AH → Option α} (hx : IX x 6) : (sI S_1 h 62 x v).bind f = f (stI h 62 x.toNatClampNeg v) := zS (n := 6) rfl hx
theorem zl_62 {α : Type} {h : AH} {f : Int32 → Option α} : (lnA S_1 h 62).bind f = f (nI 6) := zN (t := 1) (n := 6) rfl (by decide)
theorem za_69 {α : Type} {h : AH} {x : Int32} {f : Int32 → Option α} (hx : IX x 7) : (aI S_1 h 69 x).bind f = f (h.2.1 69 x.toNatClampNeg) := zA (n := 7) rfl hx
theorem zs_69 {α : Type} {h : AH} {x : Int32} {v : Int32} {f : AH → Option α} (hx : IX x 7) : (sI S_1 h 69 x v).bind f = f (stI h 69 x.toNatClampNeg v) := zS (n := 7) rfl hx
theorem zl_69 {α : Type} {h : AH} {f : Int32 → Option α} : (lnA S_1 h 69).bind f = f (nI 7) := zN (t := 1) (n := 7) rfl (by decide)
theorem za_70 {α : Type} {h : AH} {x : Int32} {f : Int32 → Option α} (hx : IX x 6) : (aI S_1 h 70 x).bind f = f (h.2.1 70 x.toNatClampNeg) := zA (n := 6) rfl hx
theorem zs_70 {α : Type} {h : AH} {x : Int32} {v : Int32} {f : AH → Option α} (hx : IX x 6) : (sI S_1 h 70 x v).bind f = f (stI h 70 x.toNatClampNeg v) := zS (n := 6) rfl hx
theorem zl_70 {α : Type} {h : AH} {f : Int32 → Option α} : (lnA S_1 h 70).bind f = f (nI 6) := zN (t := 1) (n := 6) rfl (by decide)
theorem za_71 {α : Type} {h : AH} {x : Int32} {f : Int32 → Option α} (hx : IX x 7) : (aI S_1 h 71 x).bind f = f (h.2.1 71 x.toNatClampNeg) := zA (n := 7) rfl hx
theorem zs_71 {α : Type} {h : AH} {x : Int32} {v : Int32} {f : AH → Option α} (hx : IX x 7) : (sI S_1 h 71 x v).bind f = f (stI h 71 x.toNatClampNeg v) := zS (n := 7) rfl hx
theorem zl_71 {α : Type} {h : AH} {f : Int32 → Option α} : (lnA S_1 h 71).bind f = f (nI 7) := zN (t := 1) (n := 7) rfl (by decide)
theorem za_72 {α : Type} {h : AH} {x : Int32} {f : Int32 → Option α} (hx : IX x 42) : (aI S_1 h 72 x).bind f = f (h.2.1 72 x.toNatClampNeg) := zA (n := 42) rfl hx
theorem zs_72 {α : Type} {h : AH} {x : Int32} {v : Int32} {f : AH → Option α} (hx : IX x 42) : (sI S_1 h 72 x v).bind f = f (stI h 72 x.toNatClampNeg v) := zS (n := 42) rfl hx
theorem zl_72 {α : Type} {h : AH} {f : Int32 → Option α} : (lnA S_1 h 72).bind f = f (nI 42) := zN (t := 1) (n := 42) rfl (by decide)
theorem za_73 {α : Type} {h : AH} {x : Int32} {f : Int32 → Option α} (hx : IX x 6) : (aI S_1 h 73 x).bind f = f (h.2.1 73 x.toNatClampNeg) := zA (n := 6) rfl hx
theorem zs_73 {α : Type} {h : AH} {x : Int32} {v : Int32} {f : AH → Option α} (hx : IX x 6) : (sI S_1 h 73 x v).bind f = f (stI h 73 x.toNatClampNeg v) := zS (n := 6) rfl hx
theorem zl_73 {α : Type} {h : AH} {f : Int32 → Option α} : (lnA S_1 h 73).bind f = f (nI 6) := zN (t := 1) (n := 6) rfl (by decide)
theorem za_74 {α : Type} {h : AH} {x : Int32} {f : Int32 → Option α} (hx : IX x 6) : (aI S_1 h 74 x).bind f = f (h.2.1 74 x.toNatClampNeg) := zA (n := 6) rfl hx
theorem zs_74 {α : Type} {h : AH} {x : Int32} {v : Int32} {f : AH → Option α} (hx : IX x 6) : (sI S_1 h 74 x v).bind f = f (stI h 74 x.toNatClampNeg v) := zS (n := 6) rfl hx
theorem zl_74 {α : Type} {h : AH} {f : Int32 → Option α} : (lnA S_1 h 74).bind f = f (nI 6) := zN (t := 1) (n := 6) rfl (by decide)
theorem za_75 {α : Type} {h : AH} {x : Int32} {f : Int32 → Option α} (hx : IX x 6) : (aI S_1 h 75 x).bind f = f (h.2.1 75 x.toNatClampNeg) := zA (n := 6) rfl hx
theorem zs_75 {α : Type} {h : AH} {x : Int32} {v : Int32} {f : AH → Option α} (hx : IX x 6) : (sI S_1 h 75 x v).bind f = f (stI h 75 x.toNatClampNeg v) := zS (n := 6) rfl hx
theorem zl_75 {α : Type} {h : AH} {f : Int32 → Option α} : (lnA S_1 h 75).bind f = f (nI 6) := zN (t := 1) (n := 6) rfl (by decide)
theorem za_81 {α : Type} {h : AH} {x : Int32} {f : Int32 → Option α} (hx : IX x 7) : (aI S_1 h 81 x).bind f = f (h.2.1 81 x.toNatClampNeg) := zA (n := 7) rfl hx
theorem zs_81 {α : Type} {h : AH} {x : Int32} {v : Int32} {f : AH → Option α} (hx : IX x 7) : (sI S_1 h 81 x v).bind f = f (stI h 81 x.toNatClampNeg v) := zS (n := 7) rfl hx
theorem zl_81 {α : Type} {h : AH} {f : Int32 → Option α} : (lnA S_1 h 81).bind f = f (nI 7) := zN (t := 1) (n := 7) rfl (by decide)
theorem za_82 {α : Type} {h : AH} {x : Int32} {f : Int32 → Option α} (hx : IX x 5490) : (aI S_1 h 82 x).bind f = f (h.2.1 82 x.toNatClampNeg) := zA (n := 5490) rfl hx
theorem zs_82 {α : Type} {h : AH} {x : Int32} {v : Int32} {f : AH → Option α} (hx : IX x 5490) : (sI S_1 h 82 x v).bind f = f (stI h 82 x.toNatClampNeg v) := zS (n := 5490) rfl hx
theorem zl_82 {α : Type} {h : AH} {f : Int32 → Option α} : (lnA S_1 h 82).bind f = f (nI 5490) := zN (t := 1) (n := 5490) rfl (by decide)
theorem za_83 {α : Type} {h : AH} {x : Int32} {f : Int32 → Option α} (hx : IX x 10980) : (aI S_1 h 83 x).bind f = f (h.2.1 83 x.toNatClampNeg) := zA (n := 10980) rfl hx
theorem zs_83 {α : Type} {h : AH} {x : Int32} {v : Int32} {f : AH → Option α} (hx : IX x 10980) : (sI S_1 h 83 x v).bind f = f (stI h 83 x.toNatClampNeg v) := zS (n := 10980) rfl hx
theorem zl_83 {α : Type} {h : AH} {f : Int32 → Option α} : (lnA S_1 h 83).bind f = f (nI 10980) := zN (t := 1) (n := 10980) rfl (by decide)
theorem za_84 {α : Type} {h : AH} {x : Int32} {f : Int32 → Option α} (hx : IX x 2) : (aZ S_1 h 84 x).bind f = f (h.2.1 84 x.toNatClampNeg) := zB (n := 2) rfl hx
theorem zs_84 {α : Type} {h : AH} {x : Int32} {v : Int32} {f : AH → Option α} (hx : IX x 2) (hv : v = 0 ∨ v = 1) : (sZ S_1 h 84 x v).bind f = f (stI h 84 x.toNatClampNeg v) := zT (n := 2) rfl hx hv
theorem zl_84 {α : Type} {h : AH} {f : Int32 → Option α} : (lnA S_1 h 84).bind f = f (nI 2) := zN (t := 3) (n := 2) rfl (by decide)
theorem za_85 {α : Type} {h : AH} {x : Int32} {f : Int32 → Option α} (hx : IX x 324) : (aI S_1 h 85 x).bind f = f (h.2.1 85 x.toNatClampNeg) := zA (n := 324) rfl hx
theorem zs_85 {α : Type} {h : AH} {x : Int32} {v : Int32} {f : AH → Option α} (hx : IX x 324) : (sI S_1 h 85 x v).bind f = f (stI h 85 x.toNatClampNeg v) := zS (n := 324) rfl hx
theorem zl_85 {α : Type} {h : AH} {f : Int32 → Option α} : (lnA S_1 h 85).bind f = f (nI 324) := zN (t := 1) (n := 324) rfl (by decide)
theorem za_86 {α : Type} {h : AH} {x : Int32} {f : Int32 → Option α} (hx : IX x 16) : (aI S_1 h 86 x).bind f = f (h.2.1 86 x.toNatClampNeg) := zA (n := 16) rfl hx
theorem zs_86 {α : Type} {h : AH} {x : Int32} {v : Int32} {f : AH → Option α} (hx : IX x 16) : (sI S_1 h 86 x v).bind f = f (stI h 86 x.toNatClampNeg v) := zS (n := 16) rfl hx
theorem zl_86 {α : Type} {h : AH} {f : Int32 → Option α} : (lnA S_1 h 86).bind f = f (nI 16) := zN (t := 1) (n := 16) rfl (by decide)
theorem za_87 {α : Type} {h : AH} {x : Int32} {f : Int32 → Option α} (hx : IX x 288) : (aI S_1 h 87 x).bind f = f (h.2.1 87 x.toNatClampNeg) := zA (n := 288) rfl hx
theorem zs_87 {α : Type} {h : AH} {x : Int32} {v : Int32} {f : AH → Option α} (hx : IX x 288) : (sI S_1 h 87 x v).bind f = f (stI h 87 x.toNatClampNeg v) := zS (n := 288) rfl hx
theorem zl_87 {α : Type} {h : AH} {f : Int32 → Option α} : (lnA S_1 h 87).bind f = f (nI 288) := zN (t := 1) (n := 288) rfl (by decide)
theorem za_88 {α : Type} {h : AH} {x : Int32} {f : Int32 → Option α} (hx : IX x 16) : (aI S_1 h 88 x).bind f = f (h.2.1 88 x.toNatClampNeg) := zA (n := 16) rfl hx
theorem zs_88 {α : Type} {h : AH} {x : Int32} {v : Int32} {f : AH → Option α} (hx : IX x 16) : (sI S_1 h 88 x v).bind f = f (stI h 88 x.toNatClampNeg v) := zS (n := 16) rfl hx
theorem zl_88 {α : Type} {h : AH} {f : Int32 → Option α} : (lnA S_1 h 88).bind f = f (nI 16) := zN (t := 1) (n := 16) rfl (by decide)
theorem za_89 {α : Type} {h : AH} {x : Int32} {f : Int32 → Option α} (hx : IX x 400) : (aI S_1 h 89 x).bind f = f (h.2.1 89 x.toNatClampNeg) := zA (n := 400) rfl hx
theorem zs_89 {α : Type} {h : AH} {x : Int32} {v : Int32} {f : AH → Option α} (hx : IX x 400) : (sI S_1 h 89 x v).bind f = f (stI h 89 x.toNatClampNeg v) := zS (n := 400) rfl hx
theorem zl_89 {α : Type} {h : AH} {f : Int32 → Option α} : (lnA S_1 h 89).bind f = f (nI 400) := zN (t := 1) (n := 400) rfl (by decide)
theorem za_90 {α : Type} {h : AH} {x : Int32} {f : Int32 → Option α} (hx : IX x 96) : (aI S_1 h 90 x).bind f = f (h.2.1 90 x.toNatClampNeg) := zA (n := 96) rfl hx
theorem zs_90 {α : Type} {h : AH} {x : Int32} {v : Int32} {f : AH → Option α} (hx : IX x 96) : (sI S_1 h 90 x v).bind f = f (stI h 90 x.toNatClampNeg v) := zS (n := 96) rfl hx
theorem zl_90 {α : Type} {h : AH} {f : Int32 → Option α} : (lnA S_1 h 90).bind f = f (nI 96) := zN (t := 1) (n := 96) rfl (by decide)
theorem za_91 {α : Type} {h : AH} {x : Int32} {f : Int32 → Option α} (hx : IX x 400) : (aI S_1 h 91 x).bind f = f (h.2.1 91 x.toNatClampNeg) := zA (n := 400) rfl hx
theorem zs_91 {α : Type} {h : AH} {x : Int32} {v : Int32} {f : AH → Option α} (hx : IX x 400) : (sI S_1 h 91 x v).bind f = f (stI h 91 x.toNatClampNeg v) := zS (n := 400) rfl hx
theorem zl_91 {α : Type} {h : AH} {f : Int32 → Option α} : (lnA S_1 h 91).bind f = f (nI 400) := zN (t := 1) (n := 400) rfl (by decide)
theorem za_92 {α : Type} {h : AH} {x : Int32} {f : Int32 → Option α} (hx : IX x 400) : (aI S_1 h 92 x).bind f = f (h.2.1 92 x.toNatClampNeg) := zA (n := 400) rfl hx
theorem zs_92 {α : Type} {h : AH} {x : Int32} {v : Int32} {f : AH → Option α} (hx : IX x 400) : (sI S_1 h 92 x v).bind f = f (stI h 92 x.toNatClampNeg v) := zS (n := 400) rfl hx
theorem zl_92 {α : Type} {h : AH} {f : Int32 → Option α} : (lnA S_1 h 92).bind f = f (nI 400) := zN (t := 1) (n := 400) rfl (by decide)
theorem za_93 {α : Type} {h : AH} {x : Int32} {f : Int32 → Option α} (hx : IX x 400) : (aI S_1 h 93 x).bind f = f (h.2.1 93 x.toNatClampNeg) := zA (n := 400) rfl hx
theorem zs_93 {α : Type} {h : AH} {x : Int32} {v : Int32} {f : AH → Option α} (hx : IX x 400) : (sI S_1 h 93 x v).bind f = f (stI h 93 x.toNatClampNeg v) := zS (n := 400) rfl hx
theorem zl_93 {α : Type} {h : AH} {f : Int32 → Option α} : (lnA S_1 h 93).bind f = f (nI 400) := zN (t := 1) (n := 400) rfl (by decide)
theorem za_94 {α : Type} {h : AH} {x : Int32} {f : Int32 → Option α} (hx : IX x 400) : (aI S_1 h 94 x).bind f = f (h.2.1 94 x.toNatClampNeg) := zA (n := 400) rfl hx
theorem zs_94 {α : Type} {h : AH} {x : Int32} {v : Int32} {f : AH → Option α} (hx : IX x 400) : (sI S_1 h 94 x v).bind f = f (stI h 94 x.toNatClampNeg v) := zS (n := 400) rfl hx
theorem zl_94 {α : Type} {h : AH} {f : Int32 → Option α} : (lnA S_1 h 94).bind f = f (nI 400) := zN (t := 1) (n := 400) rfl (by decide)
theorem za_95 {α : Type} {h : AH} {x : Int32} {f : Int64 → Option α} (hx : IX x 9) : (aJ S_1 h 95 x).bind f = f (h.2.2.1 95 x.toNatClampNeg) := zAJ (n := 9) rfl hx
theorem zs_95 {α : Type} {h : AH} {x : Int32} {v : Int64} {f : AH → Option α} (hx : IX x 9) : (sJ S_1 h 95 x v).bind f = f (stJ h 95 x.toNatClampNeg v) := zSJ (n := 9) rfl hx
theorem zl_95 {α : Type} {h : AH} {f : Int32 → Option α} : (lnA S_1 h 95).bind f = f (nI 9) := zN (t := 2) (n := 9) rfl (by decide)
theorem za_96 {α : Type} {h : AH} {x : Int32} {f : Int64 → Option α} (hx : IX x 7) : (aJ S_1 h 96 x).bind f = f (h.2.2.1 96 x.toNatClampNeg) := zAJ (n := 7) rfl hx
theorem zs_96 {α : Type} {h : AH} {x : Int32} {v : Int64} {f : AH → Option α} (hx : IX x 7) : (sJ S_1 h 96 x v).bind f = f (stJ h 96 x.toNatClampNeg v) := zSJ (n := 7) rfl hx
theorem zl_96 {α : Type} {h : AH} {f : Int32 → Option α} : (lnA S_1 h 96).bind f = f (nI 7) := zN (t := 2) (n := 7) rfl (by decide)
theorem za_97 {α : Type} {h : AH} {x : Int32} {f : Int64 → Option α} (hx : IX x 3) : (aJ S_1 h 97 x).bind f = f (h.2.2.1 97 x.toNatClampNeg) := zAJ (n := 3) rfl hx
theorem zs_97 {α : Type} {h : AH} {x : Int32} {v : Int64} {f : AH → Option α} (hx : IX x 3) : (sJ S_1 h 97 x v).bind f = f (stJ h 97 x.toNatClampNeg v) := zSJ (n := 3) rfl hx
theorem zl_97 {α : Type} {h : AH} {f : Int32 → Option α} : (lnA S_1 h 97).bind f = f (nI 3) := zN (t := 2) (n := 3) rfl (by decide)
theorem za_98 {α : Type} {h : AH} {x : Int32} {f : Int64 → Option α} (hx : IX x 13) : (aJ S_1 h 98 x).bind f = f (h.2.2.1 98 x.toNatClampNeg) := zAJ (n := 13) rfl hx
theorem zs_98 {α : Type} {h : AH} {x : Int32} {v : Int64} {f : AH → Option α} (hx : IX x 13) : (sJ S_1 h 98 x v).bind f = f (stJ h 98 x.toNatClampNeg v) := zSJ (n := 13) rfl hx
theorem zl_98 {α : Type} {h : AH} {f : Int32 → Option α} : (lnA S_1 h 98).bind f = f (nI 13) := zN (t := 2) (n := 13) rfl (by decide)
theorem za_99 {α : Type} {h : AH} {x : Int32} {f : Int64 → Option α} (hx : IX x 13) : (aJ S_1 h 99 x).bind f = f (h.2.2.1 99 x.toNatClampNeg) := zAJ (n := 13) rfl hx
theorem zs_99 {α : Type} {h : AH} {x : Int32} {v : Int64} {f : AH → Option α} (hx : IX x 13) : (sJ S_1 h 99 x v).bind f = f (stJ h 99 x.toNatClampNeg v) := zSJ (n := 13) rfl hx
theorem zl_99 {α : Type} {h : AH} {f : Int32 → Option α} : (lnA S_1 h 99).bind f = f (nI 13) := zN (t := 2) (n := 13) rfl (by decide)
theorem za_100 {α : Type} {h : AH} {x : Int32} {f : Int64 → Option α} (hx : IX x 400) : (aJ S_1 h 100 x).bind f = f (h.2.2.1 100 x.toNatClampNeg) := zAJ (n := 400) rfl hx
theorem zs_100 {α : Type} {h : AH} {x : Int32} {v : Int64} {f : AH → Option α} (hx : IX x 400) : (sJ S_1 h 100 x v).bind f = f (stJ h 100 x.toNatClampNeg v) := zSJ (n := 400) rfl hx
theorem zl_100 {α : Type} {h : AH} {f : Int32 → Option α} : (lnA S_1 h 100).bind f = f (nI 400) := zN (t := 2) (n := 400) rfl (by decide)
theorem za_101 {α : Type} {h : AH} {x : Int32} {f : Int32 → Option α} (hx : IX x 7) : (aI S_1 h 101 x).bind f = f (h.2.1 101 x.toNatClampNeg) := zA (n := 7) rfl hx
theorem zs_101 {α : Type} {h : AH} {x : Int32} {v : Int32} {f : AH → Option α} (hx : IX x 7) : (sI S_1 h 101 x v).bind f = f (stI h 101 x.toNatClampNeg v) := zS (n := 7) rfl hx
theorem zl_101 {α : Type} {h : AH} {f : Int32 → Option α} : (lnA S_1 h 101).bind f = f (nI 7) := zN (t := 1) (n := 7) rfl (by decide)
theorem za_102 {α : Type} {h : AH} {x : Int32} {f : Int32 → Option α} (hx : IX x 7) : (aI S_1 h 102 x).bind f = f (h.2.1 102 x.toNatClampNeg) := zA (n := 7) rfl hx
theorem zs_102 {α : Type} {h : AH} {x : Int32} {v : Int32} {f : AH → Option α} (hx : IX x 7) : (sI S_1 h 102 x v).bind f = f (stI h 102 x.toNatClampNeg v) := zS (n := 7) rfl hx
theorem zl_102 {α : Type} {h : AH} {f : Int32 → Option α} : (lnA S_1 h 102).bind f = f (nI 7) := zN (t := 1) (n := 7) rfl (by decide)
theorem za_103 {α : Type} {h : AH} {x : Int32} {f : Int32 → Option α} (hx : IX x 7) : (aI S_1 h 103 x).bind f = f (h.2.1 103 x.toNatClampNeg) := zA (n := 7) rfl hx
theorem zs_103 {α : Type} {h : AH} {x : Int32} {v : Int32} {f : AH → Option α} (hx : IX x 7) : (sI S_1 h 103 x v).bind f = f (stI h 103 x.toNatClampNeg v) := zS (n := 7) rfl hx
theorem zl_103 {α : Type} {h : AH} {f : Int32 → Option α} : (lnA S_1 h 103).bind f = f (nI 7) := zN (t := 1) (n := 7) rfl (by decide)
theorem za_104 {α : Type} {h : AH} {x : Int32} {f : Int32 → Option α} (hx : IX x 6) : (aI S_1 h 104 x).bind f = f (h.2.1 104 x.toNatClampNeg) := zA (n := 6) rfl hx
theorem zs_104 {α : Type} {h : AH} {x : Int32} {v : Int32} {f : AH → Option α} (hx : IX x 6) : (sI S_1 h 104 x v).bind f = f (stI h 104 x.toNatClampNeg v) := zS (n := 6) rfl hx
theorem zl_104 {α : Type} {h : AH} {f : Int32 → Option α} : (lnA S_1 h 104).bind f = f (nI 6) := zN (t := 1) (n := 6) rfl (by decide)
theorem za_105 {α : Type} {h : AH} {x : Int32} {f : Int32 → Option α} (hx : IX x 7) : (aI S_1 h 105 x).bind f = f (h.2.1 105 x.toNatClampNeg) := zA (n := 7) rfl hx
theorem zs_105 {α : Type} {h : AH} {x : Int32} {v : Int32} {f : AH → Option α} (hx : IX x 7) : (sI S_1 h 105 x v).bind f = f (stI h 105 x.toNatClampNeg v) := zS (n := 7) rfl hx
theorem zl_105 {α : Type} {h : AH} {f : Int32 → Option α} : (lnA S_1 h 105).bind f = f (nI 7) := zN (t := 1) (n := 7) rfl (by decide)
theorem za_106 {α : Type} {h : AH} {x : Int32} {f : Int64 → Option α} (hx : IX x 21) : (aJ S_1 h 106 x).bind f = f (h.2.2.1 106 x.toNatClampNeg) := zAJ (n := 21) rfl hx
theorem zs_106 {α : Type} {h : AH} {x : Int32} {v : Int64} {f : AH → Option α} (hx : IX x 21) : (sJ S_1 h 106 x v).bind f = f (stJ h 106 x.toNatClampNeg v) := zSJ (n := 21) rfl hx
theorem zl_106 {α : Type} {h : AH} {f : Int32 → Option α} : (lnA S_1 h 106).bind f = f (nI 21) := zN (t := 2) (n := 21) rfl (by decide)
theorem za_107 {α : Type} {h : AH} {x : Int32} {f : Int64 → Option α} (hx : IX x 4) : (aJ S_1 h 107 x).bind f = f (h.2.2.1 107 x.toNatClampNeg) := zAJ (n := 4) rfl hx
theorem zs_107 {α : Type} {h : AH} {x : Int32} {v : Int64} {f : AH → Option α} (hx : IX x 4) : (sJ S_1 h 107 x v).bind f = f (stJ h 107 x.toNatClampNeg v) := zSJ (n := 4) rfl hx
theorem zl_107 {α : Type} {h : AH} {f : Int32 → Option α} : (lnA S_1 h 107).bind f = f (nI 4) := zN (t := 2) (n := 4) rfl (by decide)
theorem za_108 {α : Type} {h : AH} {x : Int32} {f : Int32 → Option α} (hx : IX x 96) : (aI S_1 h 108 x).bind f = f (h.2.1 108 x.toNatClampNeg) := zA (n := 96) rfl hx
theorem zs_108 {α : Type} {h : AH} {x : Int32} {v : Int32} {f : AH → Option α} (hx : IX x 96) : (sI S_1 h 108 x v).bind f = f (stI h 108 x.toNatClampNeg v) := zS (n := 96) rfl hx
theorem zl_108 {α : Type} {h : AH} {f : Int32 → Option α} : (lnA S_1 h 108).bind f = f (nI 96) := zN (t := 1) (n := 96) rfl (by decide)
theorem za_109 {α : Type} {h : AH} {x : Int32} {f : Int32 → Option α} (hx : IX x 18) : (aI S_1 h 109 x).bind f = f (h.2.1 109 x.toNatClampNeg) := zA (n := 18) rfl hx
theorem zs_109 {α : Type} {h : AH} {x : Int32} {v : Int32} {f : AH → Option α} (hx : IX x 18) : (sI S_1 h 109 x v).bind f = f (stI h 109 x.toNatClampNeg v) := zS (n := 18) rfl hx
theorem zl_109 {α : Type} {h : AH} {f : Int32 → Option α} : (lnA S_1 h 109).bind f = f (nI 18) := zN (t := 1) (n := 18) rfl (by decide)

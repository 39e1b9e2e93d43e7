/-! come: both searches find the same -/
theorem sub_tr {x y z : Int32} (h1 : x &&& (y ^^^ -1) = 0) (h2 : y &&& (z ^^^ -1) = 0) : x &&& (z ^^^ -1) = 0 := sub_of_and (bvI fun i hi => by
  have a := bit_of h1 i hi
  have b := bit_of h2 i hi
  rw [Int32.toBitVec_and, BitVec.getLsbD_and]
  revert a b
  cases x.toBitVec.getLsbD i <;> cases y.toBitVec.getLsbD i <;> cases z.toBitVec.getLsbD i <;> simp)
theorem and_and (x y : Int32) : (x &&& y) &&& y = x &&& y := bvI fun i hi => by
  rw [Int32.toBitVec_and, Int32.toBitVec_and, BitVec.getLsbD_and, BitVec.getLsbD_and]
  cases x.toBitVec.getLsbD i <;> cases y.toBitVec.getLsbD i <;> rfl
theorem and_mid {x s a : Int32} (h : a &&& (s ^^^ -1) = 0) : (x &&& s) &&& a = x &&& a := bvI fun i hi => by
  have b := bit_of h i hi
  rw [Int32.toBitVec_and, Int32.toBitVec_and, Int32.toBitVec_and, BitVec.getLsbD_and, BitVec.getLsbD_and, BitVec.getLsbD_and]
  revert b
  cases x.toBitVec.getLsbD i <;> cases s.toBitVec.getLsbD i <;> cases a.toBitVec.getLsbD i <;> simp
theorem come_eq {r : Nat → Int32} {S A W S2 A2 N : Nat} (hN : N = 128) (hW : W < 128) (hS2 : S2 < 128) (sw : nI S2 &&& (nI W ^^^ -1) = 0) (as2 : nI A2 &&& (nI S2 ^^^ -1) = 0) (ds : nI S &&& nI S2 = 0) (da : nI A &&& nI A2 = 0) : fo (seS (feP r (nI S2) (nI A2) (nI S) (nI A) true)) 0 N none = fo (seS (cmP r (nI W) (nI S) (nI A) (nI S2) (nI A2))) 0 (W + 1) none := by
  have no : fo (seS (cmP r (nI W) (nI S) (nI A) (nI S2) (nI A2))) 0 N none = fo (seS (cmP r (nI W) (nI S) (nI A) (nI S2) (nI A2))) 0 (W + 1) none := by
    obtain ⟨d, hd⟩ : ∃ d, N = (W + 1) + d := ⟨N - (W + 1), by omega⟩
    rw [hd, se_add]
    refine se_no _ _ _ fun z h1 h2 => ?_
    unfold cmP
    rw [decide_eq_false (fun c => by
      have := sub_le (show z < 128 by omega) hW c
      omega), Bool.false_and]
  have bt : ∀ c : Bool, (c == true) = c := by decide
  rw [← no]
  refine min_eq (se_min0 _ N) (se_min0 _ N) (fun x hx px => ?_) (fun x hx qx => ?_)
  · unfold feP at px
    unfold cmP
    rw [Bool.and_eq_true] at px ⊢
    have c := of_decide_eq_true px.1
    have px := px.2
    rw [bt, show nI S ^^^ nI x = nI S ||| (nI x &&& nI S2) by rw [← xor_or ds, and_of_sub c], xor_or da] at px
    exact ⟨decide_eq_true (sub_tr c sw), px⟩
  · unfold cmP at qx
    rw [Bool.and_eq_true] at qx
    have qx := qx.2
    rcases on7_less x (by omega) S2 hS2 with e | l
    · refine Or.inl ?_
      unfold feP
      rw [Bool.and_eq_true, bt, show nI S ^^^ nI x = nI S ||| (nI x &&& nI S2) by rw [← xor_or ds, e], xor_or da]
      exact ⟨decide_eq_true (sub_of_and e), qx⟩
    · obtain ⟨t, ht, et⟩ := x7_and (a := x) (b := S2) (by omega)
      refine Or.inr ⟨t, by omega, ?_, by rw [← et]; exact l⟩
      unfold feP
      rw [Bool.and_eq_true, bt, ← et, xor_or ds, and_mid as2, xor_or da]
      exact ⟨decide_eq_true (sub_of_and (and_and _ _)), qx⟩

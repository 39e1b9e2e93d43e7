theorem wp_bud {S : SH} {M : MD} {d cb sb : Nat} {Q : Option Value → AH → Prop} {pc : Nat} {L st : List Value} {h : AH} (i j : Nat) (k : WP S M d cb sb Q pc L st h) : WP S M d (cb + i) (sb + j) Q pc L st h := by
  intro p l e R s m args below meth c G B mc ms C ls H locs cells slots hl hw hS hn
  exact W.widen (k := cells + i) (n := slots + j) (by omega) (by omega) (k p l e R s m args below meth c G B mc ms C ls H locs (cells + i) (slots + j) hl hw hS (by omega))
def nwO (S : SH) (h : AH) (kk : Nat × Nat) : Option (Nat × AH) := if (S.2 (S.1 ++ h.1).length).isSome = true then none else some ((S.1 ++ h.1).length, nwH S h kk)
def nwA (S : SH) (h : AH) (t : Nat) (n : Int32) (mx : Nat) : Option (Nat × AH) := if n < 0 ∨ mx < n.toNatClampNeg then none else nwO S h (t, n.toNatClampNeg)
def pR (S : SH) (h : AH) (p ci k v : Nat) : Option AH := if KD S h p = some (0, ci) ∧ (S.2 p).isSome = false then some (stR h p k (some v)) else none
def sR (S : SH) (h : AH) (p : Nat) (i : Int32) (v : Nat) : Option AH := match KD S h p with
  | some (4, n) => if i < 0 ∨ n ≤ i.toNatClampNeg ∨ ¬ KD S h v = some (0, 6) ∨ (S.2 p).isSome = true then none else some (stR h p i.toNatClampNeg (some v))
  | some (5, n) => if i < 0 ∨ n ≤ i.toNatClampNeg ∨ ¬ KD S h v = some (0, 8) ∨ (S.2 p).isSome = true then none else some (stR h p i.toNatClampNeg (some v))
  | _ => none
theorem none_of {α : Type} {x : Option α} (h : ¬ x.isSome = true) : x = none := by cases x <;> simp at h ⊢
theorem nwO_e {S : SH} {h h1 : AH} {kk : Nat × Nat} {p : Nat} (hv : nwO S h kk = some (p, h1)) : S.2 (S.1 ++ h.1).length = none ∧ p = (S.1 ++ h.1).length ∧ h1 = nwH S h kk := by
  unfold nwO at hv
  split at hv
  · cases hv
  · cases hv
    exact ⟨none_of (by assumption), rfl, rfl⟩
theorem wq_new {S : SH} {M : MD} {d cb sb : Nat} {Q : Option Value → AH → Prop} {pc : Nat} {L st : List Value} {h : AH} {index ci n p : Nat} {h1 : AH} (hF : NW M.1.cls index ci) (hn0 : cN ci = n) (hd : decode M.2.1 pc = .ok (.new index, 3)) (hv : nwO S h (0, ci) = some (p, h1)) (kn : WP S M d cb sb Q (pc + 3) L (.ref p :: st) h1) : WP S M d (cb + 1) (sb + n) Q pc L st h := by
  obtain ⟨e1, rfl, rfl⟩ := nwO_e hv
  exact wp_new hF hn0 e1 hd kn
theorem wq_newaI {S : SH} {M : MD} {d cb sb : Nat} {Q : Option Value → AH → Prop} {pc : Nat} {L st : List Value} {h : AH} {n : Int32} {mx p : Nat} {h1 : AH} (hc : Cond.arrayClass .int ∈ TT) (hmx : mx ≤ 1000000) (hd : decode M.2.1 pc = .ok (.newarray .int, 2)) (hv : nwA S h 1 n mx = some (p, h1)) (kn : WP S M d cb sb Q (pc + 2) L (.ref p :: st) h1) : WP S M d (cb + 1) (sb + mx) Q pc L (.int n :: st) h := by
  unfold nwA at hv
  split at hv
  · cases hv
  · rename_i hz
    obtain ⟨e1, rfl, rfl⟩ := nwO_e hv
    have hle : n.toNatClampNeg ≤ mx := Nat.not_lt.mp fun q => hz (Or.inr q)
    have kk := wp_newaI hc (fun q => hz (Or.inl q)) rfl (by omega) e1 hd (wp_bud 0 (mx - n.toNatClampNeg) kn)
    rwa [show sb + (mx - n.toNatClampNeg) + n.toNatClampNeg = sb + mx by omega] at kk
theorem wq_newaJ {S : SH} {M : MD} {d cb sb : Nat} {Q : Option Value → AH → Prop} {pc : Nat} {L st : List Value} {h : AH} {n : Int32} {mx p : Nat} {h1 : AH} (hc : Cond.arrayClass .long ∈ TT) (hmx : mx ≤ 1000000) (hd : decode M.2.1 pc = .ok (.newarray .long, 2)) (hv : nwA S h 2 n mx = some (p, h1)) (kn : WP S M d cb sb Q (pc + 2) L (.ref p :: st) h1) : WP S M d (cb + 1) (sb + mx) Q pc L (.int n :: st) h := by
  unfold nwA at hv
  split at hv
  · cases hv
  · rename_i hz
    obtain ⟨e1, rfl, rfl⟩ := nwO_e hv
    have hle : n.toNatClampNeg ≤ mx := Nat.not_lt.mp fun q => hz (Or.inr q)
    have kk := wp_newaJ hc (fun q => hz (Or.inl q)) rfl (by omega) e1 hd (wp_bud 0 (mx - n.toNatClampNeg) kn)
    rwa [show sb + (mx - n.toNatClampNeg) + n.toNatClampNeg = sb + mx by omega] at kk
theorem wq_newaZ {S : SH} {M : MD} {d cb sb : Nat} {Q : Option Value → AH → Prop} {pc : Nat} {L st : List Value} {h : AH} {n : Int32} {mx p : Nat} {h1 : AH} (hc : Cond.arrayClass .boolean ∈ TT) (hmx : mx ≤ 1000000) (hd : decode M.2.1 pc = .ok (.newarray .boolean, 2)) (hv : nwA S h 3 n mx = some (p, h1)) (kn : WP S M d cb sb Q (pc + 2) L (.ref p :: st) h1) : WP S M d (cb + 1) (sb + mx) Q pc L (.int n :: st) h := by
  unfold nwA at hv
  split at hv
  · cases hv
  · rename_i hz
    obtain ⟨e1, rfl, rfl⟩ := nwO_e hv
    have hle : n.toNatClampNeg ≤ mx := Nat.not_lt.mp fun q => hz (Or.inr q)
    have kk := wp_newaZ hc (fun q => hz (Or.inl q)) rfl (by omega) e1 hd (wp_bud 0 (mx - n.toNatClampNeg) kn)
    rwa [show sb + (mx - n.toNatClampNeg) + n.toNatClampNeg = sb + mx by omega] at kk
theorem wq_newaA {S : SH} {M : MD} {d cb sb : Nat} {Q : Option Value → AH → Prop} {pc : Nat} {L st : List Value} {h : AH} {n : Int32} {mx p : Nat} {h1 : AH} {index : Nat} (hc : Cond.classLink M.1.cls index RX6 ∈ TT) (hmx : mx ≤ 1000000) (hd : decode M.2.1 pc = .ok (.anewarray index, 3)) (hv : nwA S h 4 n mx = some (p, h1)) (kn : WP S M d cb sb Q (pc + 3) L (.ref p :: st) h1) : WP S M d (cb + 1) (sb + mx) Q pc L (.int n :: st) h := by
  unfold nwA at hv
  split at hv
  · cases hv
  · rename_i hz
    obtain ⟨e1, rfl, rfl⟩ := nwO_e hv
    have hle : n.toNatClampNeg ≤ mx := Nat.not_lt.mp fun q => hz (Or.inr q)
    have kk := wp_anewA hc (fun q => hz (Or.inl q)) rfl (by omega) e1 hd (wp_bud 0 (mx - n.toNatClampNeg) kn)
    rwa [show sb + (mx - n.toNatClampNeg) + n.toNatClampNeg = sb + mx by omega] at kk
theorem wq_newaB {S : SH} {M : MD} {d cb sb : Nat} {Q : Option Value → AH → Prop} {pc : Nat} {L st : List Value} {h : AH} {n : Int32} {mx p : Nat} {h1 : AH} {index : Nat} (hc : Cond.classLink M.1.cls index RX8 ∈ TT) (hmx : mx ≤ 1000000) (hd : decode M.2.1 pc = .ok (.anewarray index, 3)) (hv : nwA S h 5 n mx = some (p, h1)) (kn : WP S M d cb sb Q (pc + 3) L (.ref p :: st) h1) : WP S M d (cb + 1) (sb + mx) Q pc L (.int n :: st) h := by
  unfold nwA at hv
  split at hv
  · cases hv
  · rename_i hz
    obtain ⟨e1, rfl, rfl⟩ := nwO_e hv
    have hle : n.toNatClampNeg ≤ mx := Nat.not_lt.mp fun q => hz (Or.inr q)
    have kk := wp_anewB hc (fun q => hz (Or.inl q)) rfl (by omega) e1 hd (wp_bud 0 (mx - n.toNatClampNeg) kn)
    rwa [show sb + (mx - n.toNatClampNeg) + n.toNatClampNeg = sb + mx by omega] at kk
theorem wq_putR {S : SH} {M : MD} {d cb sb : Nat} {Q : Option Value → AH → Prop} {pc : Nat} {L st : List Value} {h : AH} {index ci k p0 v : Nat} {fin : Bool} {h1 : AH} (hF : FL M.1.cls index ci k fin) (hfin : fin = false ∨ M.1.name = "<init>" ∧ (∀ C T N, vwCl[ci]? = some (C, T, N) → (T k).1 = M.1.cls)) (hty : (∃ C, cTy ci k = .object C) ∨ ∃ t, cTy ci k = .array t) (hd : decode M.2.1 pc = .ok (.putfield index, 3)) (hv : pR S h p0 ci k v = some h1) (kn : WP S M d cb sb Q (pc + 3) L st h1) : WP S M d cb sb Q pc L (.ref v :: .ref p0 :: st) h := by
  obtain ⟨e1, rfl⟩ := if_some hv
  exact wp_putR hF hfin e1.1 hty (none_of (by rw [e1.2]; decide)) hd rfl (x := some v) rfl kn
theorem wq_sR {S : SH} {M : MD} {d cb sb : Nat} {Q : Option Value → AH → Prop} {pc : Nat} {L st : List Value} {h : AH} {p0 v : Nat} {i : Int32} {h1 : AH} (hd : decode M.2.1 pc = .ok (.aastore, 1)) (hv : sR S h p0 i v = some h1) (kn : WP S M d cb sb Q (pc + 1) L st h1) : WP S M d cb sb Q pc L (.ref v :: .int i :: .ref p0 :: st) h := by
  unfold sR at hv
  split at hv
  · obtain ⟨e1, rfl⟩ := if_none hv
    exact wp_aastA (by assumption) (Decidable.byContradiction fun q => e1 (Or.inr (Or.inr (Or.inl q)))) (none_of fun q => e1 (Or.inr (Or.inr (Or.inr q)))) (fun q => e1 (q.elim Or.inl (fun q => Or.inr (Or.inl q)))) hd rfl kn
  · obtain ⟨e1, rfl⟩ := if_none hv
    exact wp_aastB (by assumption) (Decidable.byContradiction fun q => e1 (Or.inr (Or.inr (Or.inl q)))) (none_of fun q => e1 (Or.inr (Or.inr (Or.inr q)))) (fun q => e1 (q.elim Or.inl (fun q => Or.inr (Or.inl q)))) hd rfl kn
  · cases hv
theorem wp_callVA0 {S : SH} {M : MD} {d cb sb : Nat} {Q : Option Value → AH → Prop} {pc : Nat} {L rest : List Value} {h : AH} {N : MD} {index C Z : Nat} {b ci : Nat} (hM : MF N 0) (hi : Cond.instanceMethod N.1 ∈ TT) (hse : Cond.selects N.1.cls N.1 N.1 ∈ TT) (hlk : Cond.methodLink M.1.cls index N.1 ∈ TT) (hd : decode M.2.1 pc = .ok (.invokevirtual index, 3)) (hrv : KD S h b = some (0, ci)) (hcl : ∃ T k, vwCl[ci]? = some (N.1.cls, T, k)) (hr : (rest.map fun v => v.category).sum ≤ 8) (hcp : CP S N d C Z (.ref b :: []) h (fun r h' => WP S M (d + 1) cb sb Q (pc + 3) L (r.toList ++ rest) h')) : WP S M (d + 1) (cb + C) (sb + Z) Q pc L (.ref b :: rest) h := wp_callV (as := []) hM hi hse hlk hd hrv hcl rfl hr ⟨rfl, rfl⟩ hcp
theorem wp_callI0 {S : SH} {M : MD} {d cb sb : Nat} {Q : Option Value → AH → Prop} {pc : Nat} {L rest : List Value} {h : AH} {N : MD} {index C Z : Nat} {b : Nat} (hM : MF N 0) (hnone : N.2.2.2.1 = none) (hi : Cond.instanceMethod N.1 ∈ TT) (hy : N.1.name = "<init>") (hlk : Cond.methodLink M.1.cls index N.1 ∈ TT) (hd : decode M.2.1 pc = .ok (.invokespecial index, 3)) (hr : (rest.map fun v => v.category).sum ≤ 8) (hcp : CP S N d C Z (.ref b :: []) h (fun r h' => WP S M (d + 1) cb sb Q (pc + 3) L (r.toList ++ rest) h')) : WP S M (d + 1) (cb + C) (sb + Z) Q pc L (.ref b :: rest) h := wp_callI (as := []) hM hnone hi hy hlk hd rfl hr ⟨rfl, rfl⟩ hcp
theorem wp_callIN0 {S : SH} {M : MD} {d cb sb : Nat} {Q : Option Value → AH → Prop} {pc : Nat} {L rest : List Value} {h : AH} {N : MD} {index C Z : Nat} {b : Nat} {host : String} (hM : MF N 0) (hnone : N.2.2.2.1 = none) (hi : Cond.instanceMethod N.1 ∈ TT) (hy : N.1.name = "<init>") (hlk : (M.1.cls, index, N.1, host) ∈ nestL) (hd : decode M.2.1 pc = .ok (.invokespecial index, 3)) (hr : (rest.map fun v => v.category).sum ≤ 8) (hcp : CP S N d C Z (.ref b :: []) h (fun r h' => WP S M (d + 1) cb sb Q (pc + 3) L (r.toList ++ rest) h')) : WP S M (d + 1) (cb + C) (sb + Z) Q pc L (.ref b :: rest) h := wp_callIN (as := []) hM hnone hi hy hlk hd rfl hr ⟨rfl, rfl⟩ hcp
theorem wp_callVA1 {S : SH} {M : MD} {d cb sb : Nat} {Q : Option Value → AH → Prop} {pc : Nat} {L rest : List Value} {h : AH} {N : MD} {index C Z : Nat} {b ci : Nat} {a0 : Value} (hM : MF N 1) (hi : Cond.instanceMethod N.1 ∈ TT) (hse : Cond.selects N.1.cls N.1 N.1 ∈ TT) (hlk : Cond.methodLink M.1.cls index N.1 ∈ TT) (hd : decode M.2.1 pc = .ok (.invokevirtual index, 3)) (hrv : KD S h b = some (0, ci)) (hcl : ∃ T k, vwCl[ci]? = some (N.1.cls, T, k)) (hr : (rest.map fun v => v.category).sum ≤ 8) (hcp : CP S N d C Z (.ref b :: [a0]) h (fun r h' => WP S M (d + 1) cb sb Q (pc + 3) L (r.toList ++ rest) h')) : WP S M (d + 1) (cb + C) (sb + Z) Q pc L (a0 :: .ref b :: rest) h := wp_callV (as := [a0]) hM hi hse hlk hd hrv hcl rfl hr ⟨rfl, rfl⟩ hcp
theorem wp_callI1 {S : SH} {M : MD} {d cb sb : Nat} {Q : Option Value → AH → Prop} {pc : Nat} {L rest : List Value} {h : AH} {N : MD} {index C Z : Nat} {b : Nat} {a0 : Value} (hM : MF N 1) (hnone : N.2.2.2.1 = none) (hi : Cond.instanceMethod N.1 ∈ TT) (hy : N.1.name = "<init>") (hlk : Cond.methodLink M.1.cls index N.1 ∈ TT) (hd : decode M.2.1 pc = .ok (.invokespecial index, 3)) (hr : (rest.map fun v => v.category).sum ≤ 8) (hcp : CP S N d C Z (.ref b :: [a0]) h (fun r h' => WP S M (d + 1) cb sb Q (pc + 3) L (r.toList ++ rest) h')) : WP S M (d + 1) (cb + C) (sb + Z) Q pc L (a0 :: .ref b :: rest) h := wp_callI (as := [a0]) hM hnone hi hy hlk hd rfl hr ⟨rfl, rfl⟩ hcp
theorem wp_callIN1 {S : SH} {M : MD} {d cb sb : Nat} {Q : Option Value → AH → Prop} {pc : Nat} {L rest : List Value} {h : AH} {N : MD} {index C Z : Nat} {b : Nat} {host : String} {a0 : Value} (hM : MF N 1) (hnone : N.2.2.2.1 = none) (hi : Cond.instanceMethod N.1 ∈ TT) (hy : N.1.name = "<init>") (hlk : (M.1.cls, index, N.1, host) ∈ nestL) (hd : decode M.2.1 pc = .ok (.invokespecial index, 3)) (hr : (rest.map fun v => v.category).sum ≤ 8) (hcp : CP S N d C Z (.ref b :: [a0]) h (fun r h' => WP S M (d + 1) cb sb Q (pc + 3) L (r.toList ++ rest) h')) : WP S M (d + 1) (cb + C) (sb + Z) Q pc L (a0 :: .ref b :: rest) h := wp_callIN (as := [a0]) hM hnone hi hy hlk hd rfl hr ⟨rfl, rfl⟩ hcp
theorem wp_callVA2 {S : SH} {M : MD} {d cb sb : Nat} {Q : Option Value → AH → Prop} {pc : Nat} {L rest : List Value} {h : AH} {N : MD} {index C Z : Nat} {b ci : Nat} {a0 a1 : Value} (hM : MF N 2) (hi : Cond.instanceMethod N.1 ∈ TT) (hse : Cond.selects N.1.cls N.1 N.1 ∈ TT) (hlk : Cond.methodLink M.1.cls index N.1 ∈ TT) (hd : decode M.2.1 pc = .ok (.invokevirtual index, 3)) (hrv : KD S h b = some (0, ci)) (hcl : ∃ T k, vwCl[ci]? = some (N.1.cls, T, k)) (hr : (rest.map fun v => v.category).sum ≤ 8) (hcp : CP S N d C Z (.ref b :: [a0, a1]) h (fun r h' => WP S M (d + 1) cb sb Q (pc + 3) L (r.toList ++ rest) h')) : WP S M (d + 1) (cb + C) (sb + Z) Q pc L (a1 :: a0 :: .ref b :: rest) h := wp_callV (as := [a0, a1]) hM hi hse hlk hd hrv hcl rfl hr ⟨rfl, rfl⟩ hcp
theorem wp_callI2 {S : SH} {M : MD} {d cb sb : Nat} {Q : Option Value → AH → Prop} {pc : Nat} {L rest : List Value} {h : AH} {N : MD} {index C Z : Nat} {b : Nat} {a0 a1 : Value} (hM : MF N 2) (hnone : N.2.2.2.1 = none) (hi : Cond.instanceMethod N.1 ∈ TT) (hy : N.1.name = "<init>") (hlk : Cond.methodLink M.1.cls index N.1 ∈ TT) (hd : decode M.2.1 pc = .ok (.invokespecial index, 3)) (hr : (rest.map fun v => v.category).sum ≤ 8) (hcp : CP S N d C Z (.ref b :: [a0, a1]) h (fun r h' => WP S M (d + 1) cb sb Q (pc + 3) L (r.toList ++ rest) h')) : WP S M (d + 1) (cb + C) (sb + Z) Q pc L (a1 :: a0 :: .ref b :: rest) h := wp_callI (as := [a0, a1]) hM hnone hi hy hlk hd rfl hr ⟨rfl, rfl⟩ hcp
theorem wp_callIN2 {S : SH} {M : MD} {d cb sb : Nat} {Q : Option Value → AH → Prop} {pc : Nat} {L rest : List Value} {h : AH} {N : MD} {index C Z : Nat} {b : Nat} {host : String} {a0 a1 : Value} (hM : MF N 2) (hnone : N.2.2.2.1 = none) (hi : Cond.instanceMethod N.1 ∈ TT) (hy : N.1.name = "<init>") (hlk : (M.1.cls, index, N.1, host) ∈ nestL) (hd : decode M.2.1 pc = .ok (.invokespecial index, 3)) (hr : (rest.map fun v => v.category).sum ≤ 8) (hcp : CP S N d C Z (.ref b :: [a0, a1]) h (fun r h' => WP S M (d + 1) cb sb Q (pc + 3) L (r.toList ++ rest) h')) : WP S M (d + 1) (cb + C) (sb + Z) Q pc L (a1 :: a0 :: .ref b :: rest) h := wp_callIN (as := [a0, a1]) hM hnone hi hy hlk hd rfl hr ⟨rfl, rfl⟩ hcp

def ok {α : Type} (x : Option (α × AH)) (K : α → AH → Prop) : Prop := ∃ r h, x = some (r, h) ∧ K r h
theorem ok_t {α : Type} {c : Prop} [Decidable c] {x y : Option (α × AH)} {K : α → AH → Prop} (hc : c) (k : ok (if c then x else y) K) : ok x K := by rwa [if_pos hc] at k
theorem ok_f {α : Type} {c : Prop} [Decidable c] {x y : Option (α × AH)} {K : α → AH → Prop} (hc : ¬ c) (k : ok (if c then x else y) K) : ok y K := by rwa [if_neg hc] at k
theorem ok_bind {α β : Type} {x : Option β} {f : β → Option (α × AH)} {K : α → AH → Prop} (k : ok (x.bind f) K) : ∃ v, x = some v ∧ ok (f v) K := by
  cases x with
  | none => obtain ⟨r, h, e, -⟩ := k; cases e
  | some v => exact ⟨v, rfl, k⟩
theorem ok_bind2 {α β : Type} {x : Option (β × AH)} {f : β × AH → Option (α × AH)} {K : α → AH → Prop} (k : ok (x.bind f) K) : ok x (fun w h => ok (f (w, h)) K) := by
  obtain ⟨v, e, k⟩ := ok_bind k
  exact ⟨v.1, v.2, e, k⟩
theorem ok_some {α : Type} {r : α} {h : AH} {K : α → AH → Prop} (k : ok (some (r, h)) K) : K r h := by
  obtain ⟨r', h', e, k⟩ := k
  cases e
  exact k
theorem ok_none {α : Type} {K : α → AH → Prop} {C : Prop} (k : ok none K) : C := by
  obtain ⟨r', h', e, k⟩ := k
  cases e
theorem ok_mono {α : Type} {x : Option (α × AH)} {K K' : α → AH → Prop} (k : ok x K) (hk : ∀ r h, K r h → K' r h) : ok x K' := by
  obtain ⟨r, h, e, k⟩ := k
  exact ⟨r, h, e, hk _ _ k⟩
theorem ok_ret {α : Type} {r : α} {h : AH} {K : α → AH → Prop} (k : K r h) : ok (some (r, h)) K := ⟨r, h, rfl, k⟩
def lt {α β : Type} (e : α) (f : α → β) : β := f e
theorem ok_lt {α β : Type} {e : β} {f : β → Option (α × AH)} {K : α → AH → Prop} (k : ok (lt e f) K) : ok (f e) K := k
def FU : Nat := 1000000
/-! reads and writes, none where the machine would throw -/
def gI (S : SH) (h : AH) (p ci k : Nat) : Option Int32 := if KD S h p = some (0, ci) then some (h.2.1 p k) else none
def gJ (S : SH) (h : AH) (p ci k : Nat) : Option Int64 := if KD S h p = some (0, ci) then some (h.2.2.1 p k) else none
def gR (S : SH) (h : AH) (p ci k : Nat) : Option Nat := if KD S h p = some (0, ci) then RF S h p k else none
def pI (S : SH) (h : AH) (p ci k : Nat) (v : Int32) : Option AH := if KD S h p = some (0, ci) then some (stI h p k v) else none
def pZ (S : SH) (h : AH) (p ci k : Nat) (v : Int32) : Option AH := if KD S h p = some (0, ci) ∧ (v = 0 ∨ v = 1) then some (stI h p k v) else none
def pJ (S : SH) (h : AH) (p ci k : Nat) (v : Int64) : Option AH := if KD S h p = some (0, ci) then some (stJ h p k v) else none
def ckO (S : SH) (h : AH) (p ci : Nat) : Option Unit := if KD S h p = some (0, ci) then some () else none
def aI (S : SH) (h : AH) (p : Nat) (i : Int32) : Option Int32 := match KD S h p with
  | some (1, n) => if i < 0 ∨ n ≤ i.toNatClampNeg then none else some (h.2.1 p i.toNatClampNeg)
  | _ => none
def aJ (S : SH) (h : AH) (p : Nat) (i : Int32) : Option Int64 := match KD S h p with
  | some (2, n) => if i < 0 ∨ n ≤ i.toNatClampNeg then none else some (h.2.2.1 p i.toNatClampNeg)
  | _ => none
def aZ (S : SH) (h : AH) (p : Nat) (i : Int32) : Option Int32 := match KD S h p with
  | some (3, n) => if i < 0 ∨ n ≤ i.toNatClampNeg then none else some (h.2.1 p i.toNatClampNeg)
  | _ => none
def aR (S : SH) (h : AH) (p : Nat) (i : Int32) : Option (Option Nat) := match KD S h p with
  | some (4, n) => if i < 0 ∨ n ≤ i.toNatClampNeg then none else some (RF S h p i.toNatClampNeg)
  | some (5, n) => if i < 0 ∨ n ≤ i.toNatClampNeg then none else some (RF S h p i.toNatClampNeg)
  | _ => none
def sI (S : SH) (h : AH) (p : Nat) (i : Int32) (x : Int32) : Option AH := match KD S h p with
  | some (1, n) => if i < 0 ∨ n ≤ i.toNatClampNeg then none else some (stI h p i.toNatClampNeg x)
  | _ => none
def sJ (S : SH) (h : AH) (p : Nat) (i : Int32) (x : Int64) : Option AH := match KD S h p with
  | some (2, n) => if i < 0 ∨ n ≤ i.toNatClampNeg then none else some (stJ h p i.toNatClampNeg x)
  | _ => none
def sZ (S : SH) (h : AH) (p : Nat) (i : Int32) (x : Int32) : Option AH := match KD S h p with
  | some (3, n) => if i < 0 ∨ n ≤ i.toNatClampNeg ∨ ¬ (x = 0 ∨ x = 1) then none else some (stI h p i.toNatClampNeg x)
  | _ => none
def lnA (S : SH) (h : AH) (p : Nat) : Option Int32 := match KD S h p with
  | some (t, n) => if 1 ≤ t ∧ t ≤ 5 then some (nI n) else none
  | none => none
def rmI (x y : Int32) : Int32 := x - x / y * y
def rmJ (x y : Int64) : Int64 := x - x / y * y
def mxI (x y : Int32) : Int32 := if x < y then y else x
def mnI (x y : Int32) : Int32 := if y < x then y else x
def abI (x : Int32) : Int32 := if 0 ≤ x then x else 0 - x
def shrU (x y : Int32) : Int32 := (x.toUInt32 >>> (y.toUInt32 &&& Int32.toUInt32 31)).toInt32
def nz (x : Int32) : Option Unit := if x = 0 then none else some ()
def nzJ (x : Int64) : Option Unit := if x = 0 then none else some ()
def isZ (x : Int32) : Option Unit := if x = 0 ∨ x = 1 then some () else none
theorem nz_e {x : Int32} {u : Unit} (h : nz x = some u) : ¬ x = 0 := fun q => by simp [nz, q] at h
theorem nzJ_e {x : Int64} {u : Unit} (h : nzJ x = some u) : ¬ x = 0 := fun q => by simp [nzJ, q] at h
theorem isZ_e {x : Int32} {u : Unit} (h : isZ x = some u) : x = 0 ∨ x = 1 := by
  unfold isZ at h
  split at h
  · assumption
  · cases h
theorem isZ_n {x : Int32} {u : Unit} (h : isZ x = some u) : narrow .boolean (.int x) = .int x := by
  rcases isZ_e h with rfl | rfl <;> rfl
theorem if_some {α : Type} {c : Prop} [Decidable c] {x y : α} (h : (if c then some x else none) = some y) : c ∧ x = y := by
  split at h
  · cases h; exact ⟨by assumption, rfl⟩
  · cases h
theorem if_none {α : Type} {c : Prop} [Decidable c] {x y : α} (h : (if c then none else some x) = some y) : ¬ c ∧ x = y := by
  split at h
  · cases h
  · cases h; exact ⟨by assumption, rfl⟩
def cpyI (h : AH) (a sp b dp n : Nat) : AH := (h.1, (fun q j => if q = b then va_cpy (h.2.1 a) (h.2.1 b) sp dp n j else h.2.1 q j), h.2.2.1, h.2.2.2)
def cpyR (S : SH) (h : AH) (a sp b dp n : Nat) : AH := (h.1, h.2.1, h.2.2.1, fun q j => if q = b then va_cpy (RF S h a) (RF S h b) sp dp n j else h.2.2.2 q j)
def cpI (S : SH) (h : AH) (a : Nat) (sp : Int32) (b : Nat) (dp n : Int32) : Option AH := match KD S h a, KD S h b with
  | some (1, n0), some (1, n1) => if sp < 0 ∨ dp < 0 ∨ n < 0 ∨ n0 < sp.toNatClampNeg + n.toNatClampNeg ∨ n1 < dp.toNatClampNeg + n.toNatClampNeg then none else some (cpyI h a sp.toNatClampNeg b dp.toNatClampNeg n.toNatClampNeg)
  | _, _ => none
def cpR (S : SH) (h : AH) (a : Nat) (sp : Int32) (b : Nat) (dp n : Int32) : Option AH := match KD S h a, KD S h b with
  | some (5, n0), some (5, n1) => if (sp < 0 ∨ dp < 0 ∨ n < 0 ∨ n0 < sp.toNatClampNeg + n.toNatClampNeg ∨ n1 < dp.toNatClampNeg + n.toNatClampNeg) ∨ (S.2 b).isSome = true ∨ ¬ ((List.range n.toNatClampNeg).all (fun i => (RF S h a (sp.toNatClampNeg + i)).all fun y => decide (KD S h y = some (0, 8)))) = true then none else some (cpyR S h a sp.toNatClampNeg b dp.toNatClampNeg n.toNatClampNeg)
  | _, _ => none
theorem wq_getI {S : SH} {M : MD} {d cb sb : Nat} {Q : Option Value → AH → Prop} {pc : Nat} {L st : List Value} {h : AH} {index ci k p0 : Nat} {fin : Bool} {x : Int32} (hF : FL M.1.cls index ci k fin) (hty : cTy ci k = .int ∨ cTy ci k = .boolean) (hd : decode M.2.1 pc = .ok (.getfield index, 3)) (hv : gI S h p0 ci k = some x) (kn : WP S M d cb sb Q (pc + 3) L (.int x :: st) h) : WP S M d cb sb Q pc L (.ref p0 :: st) h := by
  obtain ⟨h1, rfl⟩ := if_some hv
  exact wp_get hF h1 (by rcases hty with hty | hty <;> simp [hty, avl]) hd kn
theorem wq_getJ {S : SH} {M : MD} {d cb sb : Nat} {Q : Option Value → AH → Prop} {pc : Nat} {L st : List Value} {h : AH} {index ci k p0 : Nat} {fin : Bool} {x : Int64} (hF : FL M.1.cls index ci k fin) (hty : cTy ci k = .long) (hd : decode M.2.1 pc = .ok (.getfield index, 3)) (hv : gJ S h p0 ci k = some x) (kn : WP S M d cb sb Q (pc + 3) L (.long x :: st) h) : WP S M d cb sb Q pc L (.ref p0 :: st) h := by
  obtain ⟨h1, rfl⟩ := if_some hv
  exact wp_get hF h1 (by simp [hty, avl]) hd kn
theorem wq_getR {S : SH} {M : MD} {d cb sb : Nat} {Q : Option Value → AH → Prop} {pc : Nat} {L st : List Value} {h : AH} {index ci k p0 : Nat} {fin : Bool} {x : Nat} (hF : FL M.1.cls index ci k fin) (hty : (∃ C, cTy ci k = .object C) ∨ ∃ t, cTy ci k = .array t) (hd : decode M.2.1 pc = .ok (.getfield index, 3)) (hv : gR S h p0 ci k = some x) (kn : WP S M d cb sb Q (pc + 3) L (.ref x :: st) h) : WP S M d cb sb Q pc L (.ref p0 :: st) h := by
  unfold gR at hv
  split at hv
  · refine wp_get hF (by assumption) ?_ hd kn
    rcases hty with ⟨_, hty⟩ | ⟨_, hty⟩ <;> simp [hty, avl, hv, rfv]
  · cases hv
theorem wq_putI {S : SH} {M : MD} {d cb sb : Nat} {Q : Option Value → AH → Prop} {pc : Nat} {L st : List Value} {h : AH} {index ci k p0 : Nat} {fin : Bool} {x : Int32} {h2 : AH} (hF : FL M.1.cls index ci k fin) (hfin : fin = false) (hty : cTy ci k = .int) (hd : decode M.2.1 pc = .ok (.putfield index, 3)) (hv : pI S h p0 ci k x = some h2) (kn : WP S M d cb sb Q (pc + 3) L st h2) : WP S M d cb sb Q pc L (.int x :: .ref p0 :: st) h := by
  obtain ⟨h1, rfl⟩ := if_some hv
  exact wp_putI hF (Or.inl hfin) h1 (Or.inl hty) hd rfl kn
theorem wq_putJ {S : SH} {M : MD} {d cb sb : Nat} {Q : Option Value → AH → Prop} {pc : Nat} {L st : List Value} {h : AH} {index ci k p0 : Nat} {fin : Bool} {x : Int64} {h2 : AH} (hF : FL M.1.cls index ci k fin) (hfin : fin = false) (hty : cTy ci k = .long) (hd : decode M.2.1 pc = .ok (.putfield index, 3)) (hv : pJ S h p0 ci k x = some h2) (kn : WP S M d cb sb Q (pc + 3) L st h2) : WP S M d cb sb Q pc L (.long x :: .ref p0 :: st) h := by
  obtain ⟨h1, rfl⟩ := if_some hv
  exact wp_putJ hF (Or.inl hfin) h1 hty hd rfl kn
theorem wq_putZ {S : SH} {M : MD} {d cb sb : Nat} {Q : Option Value → AH → Prop} {pc : Nat} {L st : List Value} {h : AH} {index ci k p0 : Nat} {fin : Bool} {x : Int32} {h2 : AH} (hF : FL M.1.cls index ci k fin) (hfin : fin = false) (hty : cTy ci k = .boolean) (hd : decode M.2.1 pc = .ok (.putfield index, 3)) (hv : pZ S h p0 ci k x = some h2) (kn : WP S M d cb sb Q (pc + 3) L st h2) : WP S M d cb sb Q pc L (.int x :: .ref p0 :: st) h := by
  obtain ⟨h1, rfl⟩ := if_some hv
  exact wp_putI hF (Or.inl hfin) h1.1 (Or.inr ⟨hty, h1.2⟩) hd rfl kn
theorem wq_aI {S : SH} {M : MD} {d cb sb : Nat} {Q : Option Value → AH → Prop} {pc : Nat} {L st : List Value} {h : AH} {p0 : Nat} {i : Int32} {x : Int32} (hd : decode M.2.1 pc = .ok (.iaload, 1)) (hv : aI S h p0 i = some x) (kn : WP S M d cb sb Q (pc + 1) L (.int x :: st) h) : WP S M d cb sb Q pc L (.int i :: .ref p0 :: st) h := by
  unfold aI at hv
  split at hv
  · obtain ⟨h1, rfl⟩ := if_none hv
    exact wp_iald (by assumption) h1 hd kn
  · cases hv
theorem wq_aJ {S : SH} {M : MD} {d cb sb : Nat} {Q : Option Value → AH → Prop} {pc : Nat} {L st : List Value} {h : AH} {p0 : Nat} {i : Int32} {x : Int64} (hd : decode M.2.1 pc = .ok (.laload, 1)) (hv : aJ S h p0 i = some x) (kn : WP S M d cb sb Q (pc + 1) L (.long x :: st) h) : WP S M d cb sb Q pc L (.int i :: .ref p0 :: st) h := by
  unfold aJ at hv
  split at hv
  · obtain ⟨h1, rfl⟩ := if_none hv
    exact wp_lald (by assumption) h1 hd kn
  · cases hv
theorem wq_aZ {S : SH} {M : MD} {d cb sb : Nat} {Q : Option Value → AH → Prop} {pc : Nat} {L st : List Value} {h : AH} {p0 : Nat} {i : Int32} {x : Int32} (hd : decode M.2.1 pc = .ok (.baload, 1)) (hv : aZ S h p0 i = some x) (kn : WP S M d cb sb Q (pc + 1) L (.int x :: st) h) : WP S M d cb sb Q pc L (.int i :: .ref p0 :: st) h := by
  unfold aZ at hv
  split at hv
  · obtain ⟨h1, rfl⟩ := if_none hv
    exact wp_zald (by assumption) h1 hd kn
  · cases hv
theorem wq_aR {S : SH} {M : MD} {d cb sb : Nat} {Q : Option Value → AH → Prop} {pc : Nat} {L st : List Value} {h : AH} {p0 : Nat} {i : Int32} {x : Option Nat} (hd : decode M.2.1 pc = .ok (.aaload, 1)) (hv : aR S h p0 i = some x) (kn : WP S M d cb sb Q (pc + 1) L (rfv x :: st) h) : WP S M d cb sb Q pc L (.int i :: .ref p0 :: st) h := by
  unfold aR at hv
  split at hv
  · obtain ⟨h1, rfl⟩ := if_none hv
    exact wp_aaldA (by assumption) h1 hd rfl kn
  · obtain ⟨h1, rfl⟩ := if_none hv
    exact wp_aaldB (by assumption) h1 hd rfl kn
  · cases hv
theorem wq_sI {S : SH} {M : MD} {d cb sb : Nat} {Q : Option Value → AH → Prop} {pc : Nat} {L st : List Value} {h : AH} {p0 : Nat} {i : Int32} {x : Int32} {h2 : AH} (hd : decode M.2.1 pc = .ok (.iastore, 1)) (hv : sI S h p0 i x = some h2) (kn : WP S M d cb sb Q (pc + 1) L st h2) : WP S M d cb sb Q pc L (.int x :: .int i :: .ref p0 :: st) h := by
  unfold sI at hv
  split at hv
  · obtain ⟨h1, rfl⟩ := if_none hv
    exact wp_iast (by assumption) h1 hd rfl kn
  · cases hv
theorem wq_sJ {S : SH} {M : MD} {d cb sb : Nat} {Q : Option Value → AH → Prop} {pc : Nat} {L st : List Value} {h : AH} {p0 : Nat} {i : Int32} {x : Int64} {h2 : AH} (hd : decode M.2.1 pc = .ok (.lastore, 1)) (hv : sJ S h p0 i x = some h2) (kn : WP S M d cb sb Q (pc + 1) L st h2) : WP S M d cb sb Q pc L (.long x :: .int i :: .ref p0 :: st) h := by
  unfold sJ at hv
  split at hv
  · obtain ⟨h1, rfl⟩ := if_none hv
    exact wp_last (by assumption) h1 hd rfl kn
  · cases hv
theorem wq_sZ {S : SH} {M : MD} {d cb sb : Nat} {Q : Option Value → AH → Prop} {pc : Nat} {L st : List Value} {h : AH} {p0 : Nat} {i : Int32} {x : Int32} {h2 : AH} (hd : decode M.2.1 pc = .ok (.bastore, 1)) (hv : sZ S h p0 i x = some h2) (kn : WP S M d cb sb Q (pc + 1) L st h2) : WP S M d cb sb Q pc L (.int x :: .int i :: .ref p0 :: st) h := by
  unfold sZ at hv
  split at hv
  · obtain ⟨h1, rfl⟩ := if_none hv
    exact wp_zast (by assumption) (fun q => h1 (q.elim Or.inl (fun q => Or.inr (Or.inl q)))) (by apply Decidable.byContradiction; intro q; exact h1 (Or.inr (Or.inr q))) hd rfl kn
  · cases hv
theorem wq_len {S : SH} {M : MD} {d cb sb : Nat} {Q : Option Value → AH → Prop} {pc : Nat} {L st : List Value} {h : AH} {p0 : Nat} {x : Int32} (hd : decode M.2.1 pc = .ok (.arraylength, 1)) (hv : lnA S h p0 = some x) (kn : WP S M d cb sb Q (pc + 1) L (.int x :: st) h) : WP S M d cb sb Q pc L (.ref p0 :: st) h := by
  unfold lnA at hv
  split at hv
  · obtain ⟨h1, rfl⟩ := if_some hv
    exact wp_alen (by assumption) h1 hd kn
  · cases hv
theorem ckO_e {S : SH} {h : AH} {p ci : Nat} {u : Unit} (hv : ckO S h p ci = some u) : KD S h p = some (0, ci) := (if_some hv).1
theorem wq_ifnn {S : SH} {M : MD} {d cb sb : Nat} {Q : Option Value → AH → Prop} {pc : Nat} {L st : List Value} {h : AH} {x : Option Nat} {off : Int} (tgt : Nat) (hd : decode M.2.1 pc = .ok (.ifnonnull off, 3)) (ht : (pc : Int) + off = (tgt : Int)) (kt : ∀ q, x = some q → WP S M d cb sb Q tgt L st h) (kf : x = none → WP S M d cb sb Q (pc + 3) L st h) : WP S M d cb sb Q pc L (rfv x :: st) h := by
  cases x with
  | none => exact wp_ifnonnullN hd (kf rfl)
  | some q => exact wp_ifnonnull tgt hd ht (kt q rfl)
theorem tab_out {x : Int32} {lo : Int} {n : Nat} (h : ∀ i : Nat, i < n → ¬ x.toInt = lo + i) : x.toInt < lo ∨ lo + (n : Int) - 1 < x.toInt := by
  by_cases h1 : x.toInt < lo
  · exact Or.inl h1
  · by_cases h2 : lo + (n : Int) - 1 < x.toInt
    · exact Or.inr h2
    · exact absurd (show x.toInt = lo + ((x.toInt - lo).toNat : Nat) by omega) (h _ (by omega))
theorem ti_ne {x c : Int32} {z : Int} (h : ¬ x = c) (hc : c.toInt = z) : ¬ x.toInt = z := fun q => h (Int32.toInt_inj.mp (q.trans hc.symm))
theorem wp_copyI {S : SH} {M : MD} {d cb sb : Nat} {Q : Option Value → AH → Prop} {pc : Nat} {L st : List Value} {h : AH} {index a b n0 n1 : Nat} {sp dp n : Int32} (hlk : Cond.methodLink M.1.cls index arraycopyName ∈ TT) (hna : Cond.native arraycopyName ∈ TT) (hst : Cond.static arraycopyName ∈ TT) (hini : Cond.initialized "java/lang/System" ∈ TT) (hr : (st.map fun v => v.category).sum ≤ 8) (hd : decode M.2.1 pc = .ok (.invokestatic index, 3)) (ha : KD S h a = some (1, n0)) (hb : KD S h b = some (1, n1)) (h1 : ¬ sp < 0) (h2 : ¬ dp < 0) (h3 : ¬ n < 0) (h4 : sp.toNatClampNeg + n.toNatClampNeg ≤ n0) (h5 : dp.toNatClampNeg + n.toNatClampNeg ≤ n1) (kn : WP S M (d + 1) cb sb Q (pc + 3) L st (cpyI h a sp.toNatClampNeg b dp.toNatClampNeg n.toNatClampNeg)) : WP S M (d + 1) cb sb Q pc L (.int n :: .int dp :: .ref b :: .int sp :: .ref a :: st) h := by
  intro p l e R s m args below meth c G B mc ms C ls H locs cells slots hl hw hS hn
  obtain ⟨Cx, Cb, Cr, Cl, Ct, Co, Ck, Cn, Cf, Cm, CK, Cs, CB, CE⟩ := C
  have C : CX M (d + 1) p R s m args meth c G B mc ms := ⟨Cx, Cb, Cr, Cl, Ct, Co, Ck, Cn, Cf, Cm, CK, Cs, CB, CE⟩
  have hr2 := catsum B st
  have nn : ∀ z : Int32, ¬ z < 0 → z.toInt = (z.toNatClampNeg : Int) := by
    intro z hz
    have h0 : (0 : Int) ≤ z.toInt := by simpa using Int32.le_iff_toInt_le.mp (Int32.not_lt.mp hz)
    show z.toInt = ((z.toInt.toNat : Nat) : Int)
    omega
  intro T hT X
  have hc0 : H[B.1 + a]? = some (vp_cell (G.2.1 0) (n0, .inl (h.2.1 a))) := hw.2 a _ ha
  have hc1 : H[B.1 + b]? = some (vp_cell (G.2.1 0) (n1, .inl (h.2.1 b))) := hw.2 b _ hb
  obtain ⟨-, k0, hk0, cm0, hkk0⟩ := (CK.2 0 _ rfl).1 n0 (fun j => .int (h.2.1 a j))
  obtain ⟨-, k1, hk1, cm1, hkk1⟩ := (CK.2 0 _ rfl).1 n1 (fun j => .int (h.2.1 b j))
  obtain ⟨vm', X', step⟩ := X.arraycopy Cx Co (Ct _ hlk) (Ct _ hna) (Ct _ hst) (Ct _ hini) (src := B.1 + a) (dst := B.1 + b) (cs := (vp_cell (G.2.1 0) (n0, .inl (h.2.1 a)))) (cd := (vp_cell (G.2.1 0) (n1, .inl (h.2.1 b)))) (srcPos := sp) (destPos := dp) (n := n) (by rw [hT]; exact hc0) (by rw [hT]; exact hc1)
    (fun _ h => by cases h) (fun _ h => by cases h) (fun h => by cases h) (fun h => by cases h) hk0 hk1 hkk0 hkk1 (by simp [refKind]) h1 h2 h3
    (by rw [nn sp h1, nn n h3]; show ¬ _ > ((arrV _ n0 (fun j => .int (h.2.1 a j))).slots.size : Int); rw [arrV_size]; omega)
    (by rw [nn dp h2, nn n h3]; show ¬ _ > ((arrV _ n1 (fun j => .int (h.2.1 b j))).slots.size : Int); rw [arrV_size]; omega)
    (fun vm₁ hal i hi => by
      have ee : ((vp_cell (G.2.1 0) (n0, .inl (h.2.1 a)))).slots.getD (sp.toNatClampNeg + i) .null = (fun j => .int (h.2.1 a j)) (sp.toNatClampNeg + i) := by
        show (arrV _ n0 (fun j => .int (h.2.1 a j))).slots.getD _ _ = _
        rw [Array.getD_eq_getD_getElem?, arrV_read _ _ (by omega)]
        rfl
      rw [ee]
      exact ⟨rfl, trivial⟩)
    (g := F0 m pc ls (.int n :: .int dp :: .ref (B.1 + b) :: .int sp :: .ref (B.1 + a) :: st.map (rn B))) rfl (by rw [Cl]; exact hl.1) (rest := st.map (rn B)) rfl (by rw [Cb]; exact hd) (by omega) (by show 2 * 0 + _ + (nativeFrameWords "java/lang/System" "arraycopy" 5 + 11) ≤ _; have h77 : nativeFrameWords "java/lang/System" "arraycopy" 5 ≤ 30 := (by decide); omega)
  have e1 : copied (vp_cell (G.2.1 0) (n0, .inl (h.2.1 a))) (vp_cell (G.2.1 0) (n1, .inl (h.2.1 b))) sp dp n = vp_cell (G.2.1 0) (n1, .inl (va_cpy (h.2.1 a) (h.2.1 b) sp.toNatClampNeg dp.toNatClampNeg n.toNatClampNeg)) := by
    exact va_copied (fun z => .int z) _ _ (h.2.1 a) (h.2.1 b) h4
  rw [e1] at X' step
  have hlt : B.1 + b < H.size := (Array.getElem?_eq_some_iff.mp hc1).1
  generalize hH1 : H.setIfInBounds (B.1 + b) (vp_cell (G.2.1 0) (n1, .inl (va_cpy (h.2.1 a) (h.2.1 b) sp.toNatClampNeg dp.toNatClampNeg n.toNatClampNeg))) = H1
  have hheap : ((T.setVm vm').setCell (B.1 + b) (vp_cell (G.2.1 0) (n1, .inl (va_cpy (h.2.1 a) (h.2.1 b) sp.toNatClampNeg dp.toNatClampNeg n.toNatClampNeg)))).heap = H1 := by rw [← hH1, ← hT]; rfl
  have oq : ∀ q : Nat, q ≠ B.1 + b → H1[q]? = H[q]? := fun q hq => by rw [← hH1]; simp [Array.getElem?_setIfInBounds, Ne.symm hq]
  have hz : H1.size = H.size := by rw [← hH1]; simp
  have hW2 : Wd S G B (cpyI h a sp.toNatClampNeg b dp.toNatClampNeg n.toNatClampNeg) H1 := by
    refine hw.upd rfl hb hz oq ?_ (fun q kk hq => vcell_congr ?_ ?_ ?_ kk)
    · show H1[B.1 + b]? = some (vp_cell _ _)
      rw [← hH1]
      simp [Array.getElem?_setIfInBounds, hlt, cpyI]
    all_goals first | rfl | (funext j; simp [cpyI, hq])
  obtain ⟨t, a1, b1⟩ := kn p l e R s m args below meth c G B mc ms C ls H1 _ cells slots hl hW2 ⟨by rw [hz]; exact hS.1, fun q g1 g2 => by
      rw [oq q (fun z => g2 (by rw [z]; exact Nat.le_add_right _ _))]
      exact hS.2.1 q g1 g2, fun q hq => by
      rcases List.mem_append.mp hq with z | z
      · exact hS.2.2 q z
      · obtain ⟨y, -, hy⟩ := List.mem_map.mp z
        rw [← hy]
        exact Nat.le_add_right _ _⟩ hn _ hheap X'
  exact ⟨t, step t a1, b1⟩
theorem wp_copyR {S : SH} {M : MD} {d cb sb : Nat} {Q : Option Value → AH → Prop} {pc : Nat} {L st : List Value} {h : AH} {index a b n0 n1 : Nat} {sp dp n : Int32} (hlk : Cond.methodLink M.1.cls index arraycopyName ∈ TT) (hna : Cond.native arraycopyName ∈ TT) (hst : Cond.static arraycopyName ∈ TT) (hini : Cond.initialized "java/lang/System" ∈ TT) (hr : (st.map fun v => v.category).sum ≤ 8) (hd : decode M.2.1 pc = .ok (.invokestatic index, 3)) (ha : KD S h a = some (5, n0)) (hb : KD S h b = some (5, n1)) (hs : S.2 b = none) (hel : ∀ i : Nat, i < n.toNatClampNeg → ∀ y : Nat, RF S h a (sp.toNatClampNeg + i) = some y → KD S h y = some (0, 8)) (h1 : ¬ sp < 0) (h2 : ¬ dp < 0) (h3 : ¬ n < 0) (h4 : sp.toNatClampNeg + n.toNatClampNeg ≤ n0) (h5 : dp.toNatClampNeg + n.toNatClampNeg ≤ n1) (kn : WP S M (d + 1) cb sb Q (pc + 3) L st (cpyR S h a sp.toNatClampNeg b dp.toNatClampNeg n.toNatClampNeg)) : WP S M (d + 1) cb sb Q pc L (.int n :: .int dp :: .ref b :: .int sp :: .ref a :: st) h := by
  intro p l e R s m args below meth c G B mc ms C ls H locs cells slots hl hw hS hn
  obtain ⟨Cx, Cb, Cr, Cl, Ct, Co, Ck, Cn, Cf, Cm, CK, Cs, CB, CE⟩ := C
  have C : CX M (d + 1) p R s m args meth c G B mc ms := ⟨Cx, Cb, Cr, Cl, Ct, Co, Ck, Cn, Cf, Cm, CK, Cs, CB, CE⟩
  have hr2 := catsum B st
  have nn : ∀ z : Int32, ¬ z < 0 → z.toInt = (z.toNatClampNeg : Int) := by
    intro z hz
    have h0 : (0 : Int) ≤ z.toInt := by simpa using Int32.le_iff_toInt_le.mp (Int32.not_lt.mp hz)
    show z.toInt = ((z.toInt.toNat : Nat) : Int)
    omega
  intro T hT X
  have hc0 : H[B.1 + a]? = some (vp_cell (G.2.1 4) (n0, .inr (.inr (.inr (.inr (fun j => (RF S h a j).map (B.1 + ·))))))) := hw.2 a _ ha
  have hc1 : H[B.1 + b]? = some (vp_cell (G.2.1 4) (n1, .inr (.inr (.inr (.inr (fun j => (RF S h b j).map (B.1 + ·))))))) := hw.2 b _ hb
  obtain ⟨-, k0, hk0, cm0, hkk0⟩ := (CK.2 4 _ rfl).1 n0 (fun j => va_rf ((RF S h a j).map (B.1 + ·)))
  obtain ⟨-, k1, hk1, cm1, hkk1⟩ := (CK.2 4 _ rfl).1 n1 (fun j => va_rf ((RF S h b j).map (B.1 + ·)))
  obtain ⟨vm', X', step⟩ := X.arraycopy Cx Co (Ct _ hlk) (Ct _ hna) (Ct _ hst) (Ct _ hini) (src := B.1 + a) (dst := B.1 + b) (cs := (vp_cell (G.2.1 4) (n0, .inr (.inr (.inr (.inr (fun j => (RF S h a j).map (B.1 + ·)))))))) (cd := (vp_cell (G.2.1 4) (n1, .inr (.inr (.inr (.inr (fun j => (RF S h b j).map (B.1 + ·)))))))) (srcPos := sp) (destPos := dp) (n := n) (by rw [hT]; exact hc0) (by rw [hT]; exact hc1)
    (fun _ h => by cases h) (fun _ h => by cases h) (fun h => by cases h) (fun h => by cases h) hk0 hk1 hkk0 hkk1 rfl h1 h2 h3
    (by rw [nn sp h1, nn n h3]; show ¬ _ > ((arrV _ n0 (fun j => va_rf ((RF S h a j).map (B.1 + ·)))).slots.size : Int); rw [arrV_size]; omega)
    (by rw [nn dp h2, nn n h3]; show ¬ _ > ((arrV _ n1 (fun j => va_rf ((RF S h b j).map (B.1 + ·)))).slots.size : Int); rw [arrV_size]; omega)
    (fun vm₁ hal i hi => by
      have ee : ((vp_cell (G.2.1 4) (n0, .inr (.inr (.inr (.inr (fun j => (RF S h a j).map (B.1 + ·)))))))).slots.getD (sp.toNatClampNeg + i) .null = (fun j => va_rf ((RF S h a j).map (B.1 + ·))) (sp.toNatClampNeg + i) := by
        show (arrV _ n0 (fun j => va_rf ((RF S h a j).map (B.1 + ·)))).slots.getD _ _ = _
        rw [Array.getD_eq_getD_getElem?, arrV_read _ _ (by omega)]
        rfl
      rw [ee]
      dsimp only
      cases hy : RF S h a (sp.toNatClampNeg + i) with
      | none => exact ⟨rfl, trivial⟩
      | some y =>
        obtain ⟨cellV, g1, g2, g3⟩ := va_recv CK (vaP1 (hw.2 y _ (hel i hi y hy))) (q := (RX8, TX8, 4)) (ci := 8) (fs := fs_ S B h y 8) rfl (q0 := 0) (a := B.1 + y) rfl
        obtain ⟨kA, comp, r1, r2, r3, -⟩ : va_RA s (G.2.1 4) (.object RX8) := (CK.2 4 _ rfl).2
        cases hk1.symm.trans r1
        cases hkk1.symm.trans r2
        obtain ⟨kC, hkC, -⟩ := Vm.findClass_spec g3
        obtain ⟨kC', hkC', -⟩ := hal.2.2 _ _ hkC
        cases r3.symm.trans g3
        refine ⟨rfl, cellV, (show T.heap[B.1 + y]? = some cellV by rw [hT]; exact g1), (fun q h => by rw [h] at g2; cases g2), ⟨kC', hkC'⟩, ⟨kC', hkC'⟩, ?_⟩
        show vm₁.assignable _ _ = true
        rw [hal.assignable]
        exact va_assign (CK.1 8 _ rfl).2 |> fun z => by rwa [Option.some.inj ((CK.1 8 _ rfl).2.1.symm.trans g3)] at z)
    (g := F0 m pc ls (.int n :: .int dp :: .ref (B.1 + b) :: .int sp :: .ref (B.1 + a) :: st.map (rn B))) rfl (by rw [Cl]; exact hl.1) (rest := st.map (rn B)) rfl (by rw [Cb]; exact hd) (by omega) (by show 2 * 0 + _ + (nativeFrameWords "java/lang/System" "arraycopy" 5 + 11) ≤ _; have h77 : nativeFrameWords "java/lang/System" "arraycopy" 5 ≤ 30 := (by decide); omega)
  have e1 : copied (vp_cell (G.2.1 4) (n0, .inr (.inr (.inr (.inr (fun j => (RF S h a j).map (B.1 + ·))))))) (vp_cell (G.2.1 4) (n1, .inr (.inr (.inr (.inr (fun j => (RF S h b j).map (B.1 + ·))))))) sp dp n = vp_cell (G.2.1 4) (n1, .inr (.inr (.inr (.inr (va_cpy (fun j => (RF S h a j).map (B.1 + ·)) (fun j => (RF S h b j).map (B.1 + ·)) sp.toNatClampNeg dp.toNatClampNeg n.toNatClampNeg))))) := by
    exact va_copied (fun z => va_rf z) _ _ (fun j => (RF S h a j).map (B.1 + ·)) (fun j => (RF S h b j).map (B.1 + ·)) h4
  rw [e1] at X' step
  have hlt : B.1 + b < H.size := (Array.getElem?_eq_some_iff.mp hc1).1
  generalize hH1 : H.setIfInBounds (B.1 + b) (vp_cell (G.2.1 4) (n1, .inr (.inr (.inr (.inr (va_cpy (fun j => (RF S h a j).map (B.1 + ·)) (fun j => (RF S h b j).map (B.1 + ·)) sp.toNatClampNeg dp.toNatClampNeg n.toNatClampNeg)))))) = H1
  have hheap : ((T.setVm vm').setCell (B.1 + b) (vp_cell (G.2.1 4) (n1, .inr (.inr (.inr (.inr (va_cpy (fun j => (RF S h a j).map (B.1 + ·)) (fun j => (RF S h b j).map (B.1 + ·)) sp.toNatClampNeg dp.toNatClampNeg n.toNatClampNeg))))))).heap = H1 := by rw [← hH1, ← hT]; rfl
  have oq : ∀ q : Nat, q ≠ B.1 + b → H1[q]? = H[q]? := fun q hq => by rw [← hH1]; simp [Array.getElem?_setIfInBounds, Ne.symm hq]
  have hz : H1.size = H.size := by rw [← hH1]; simp
  have hW2 : Wd S G B (cpyR S h a sp.toNatClampNeg b dp.toNatClampNeg n.toNatClampNeg) H1 := by
    refine hw.upd rfl hb hz oq ?_ (fun q kk hq => vcell_congr ?_ ?_ ?_ kk)
    · show H1[B.1 + b]? = some (vp_cell _ _)
      rw [← hH1]
      have hz2 : (fun j => (RF S (cpyR S h a sp.toNatClampNeg b dp.toNatClampNeg n.toNatClampNeg) b j).map (B.1 + ·)) = va_cpy (fun j => (RF S h a j).map (B.1 + ·)) (fun j => (RF S h b j).map (B.1 + ·)) sp.toNatClampNeg dp.toNatClampNeg n.toNatClampNeg := by
        funext j
        simp only [RF, hs, cpyR, va_cpy, if_true]
        split <;> rfl
      rw [hz2]
      simp [Array.getElem?_setIfInBounds, hlt]
    all_goals first | rfl | (funext j; simp [cpyR, hq])
  obtain ⟨t, a1, b1⟩ := kn p l e R s m args below meth c G B mc ms C ls H1 _ cells slots hl hW2 ⟨by rw [hz]; exact hS.1, fun q g1 g2 => by
      rw [oq q (fun z => g2 (by rw [z]; exact Nat.le_add_right _ _))]
      exact hS.2.1 q g1 g2, fun q hq => by
      rcases List.mem_append.mp hq with z | z
      · exact hS.2.2 q z
      · obtain ⟨y, -, hy⟩ := List.mem_map.mp z
        rw [← hy]
        exact Nat.le_add_right _ _⟩ hn _ hheap X'
  exact ⟨t, step t a1, b1⟩
theorem wq_cpI {S : SH} {M : MD} {d cb sb : Nat} {Q : Option Value → AH → Prop} {pc : Nat} {L st : List Value} {h : AH} {index a b : Nat} {sp dp n : Int32} {h2 : AH} (hlk : Cond.methodLink M.1.cls index arraycopyName ∈ TT) (hna : Cond.native arraycopyName ∈ TT) (hst : Cond.static arraycopyName ∈ TT) (hini : Cond.initialized "java/lang/System" ∈ TT) (hr : (st.map fun v => v.category).sum ≤ 8) (hd : decode M.2.1 pc = .ok (.invokestatic index, 3)) (hv : cpI S h a sp b dp n = some h2) (kn : WP S M (d + 1) cb sb Q (pc + 3) L st h2) : WP S M (d + 1) cb sb Q pc L (.int n :: .int dp :: .ref b :: .int sp :: .ref a :: st) h := by
  unfold cpI at hv
  split at hv
  · obtain ⟨h1, rfl⟩ := if_none hv
    simp only [not_or] at h1
    exact wp_copyI hlk hna hst hini hr hd (by assumption) (by assumption) h1.1 h1.2.1 h1.2.2.1 (Nat.not_lt.mp h1.2.2.2.1) (Nat.not_lt.mp h1.2.2.2.2) kn
  · cases hv
theorem wq_cpR {S : SH} {M : MD} {d cb sb : Nat} {Q : Option Value → AH → Prop} {pc : Nat} {L st : List Value} {h : AH} {index a b : Nat} {sp dp n : Int32} {h2 : AH} (hlk : Cond.methodLink M.1.cls index arraycopyName ∈ TT) (hna : Cond.native arraycopyName ∈ TT) (hst : Cond.static arraycopyName ∈ TT) (hini : Cond.initialized "java/lang/System" ∈ TT) (hr : (st.map fun v => v.category).sum ≤ 8) (hd : decode M.2.1 pc = .ok (.invokestatic index, 3)) (hv : cpR S h a sp b dp n = some h2) (kn : WP S M (d + 1) cb sb Q (pc + 3) L st h2) : WP S M (d + 1) cb sb Q pc L (.int n :: .int dp :: .ref b :: .int sp :: .ref a :: st) h := by
  unfold cpR at hv
  split at hv
  · obtain ⟨h0, rfl⟩ := if_none hv
    have h1 : ¬ (sp < 0 ∨ dp < 0 ∨ n < 0 ∨ _ ∨ _) := fun q => h0 (Or.inl q)
    simp only [not_or] at h1
    have hs : S.2 b = none := by
      cases hz : S.2 b with
      | none => rfl
      | some f => exact absurd (Or.inr (Or.inl (by rw [hz]; rfl))) h0
    have hel := Decidable.byContradiction fun q => h0 (Or.inr (Or.inr q))
    refine wp_copyR hlk hna hst hini hr hd (by assumption) (by assumption) hs (fun i hi y hy => ?_) h1.1 h1.2.1 h1.2.2.1 (Nat.not_lt.mp h1.2.2.2.1) (Nat.not_lt.mp h1.2.2.2.2) kn
    have := List.all_eq_true.mp hel i (List.mem_range.mpr hi)
    rw [hy] at this
    simpa using this
  · cases hv

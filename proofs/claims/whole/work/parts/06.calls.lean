theorem cat_rn (B : BB) (v : Value) : (rn B v).category ≤ v.category := by cases v <;> simp [rn, Value.category]
theorem catsum (B : BB) (st : List Value) : ((st.map (rn B)).map fun v => v.category).sum ≤ (st.map fun v => v.category).sum := by
  induction st with
  | nil => exact Nat.le_refl _
  | cons v r ih => simp only [List.map_cons, List.sum_cons]; have := cat_rn B v; omega
def nwH (S : SH) (h : AH) (kk : Nat × Nat) : AH := (h.1 ++ [kk], (fun q j => if q = (S.1 ++ h.1).length then 0 else h.2.1 q j), (fun q j => if q = (S.1 ++ h.1).length then 0 else h.2.2.1 q j), fun q j => if q = (S.1 ++ h.1).length then none else h.2.2.2 q j)
theorem KD_nw {S : SH} {h : AH} {kk : Nat × Nat} {q : Nat} {z : Nat × Nat} (hz : KD S (nwH S h kk) q = some z) : (q < (S.1 ++ h.1).length ∧ KD S h q = some z) ∨ (q = (S.1 ++ h.1).length ∧ z = kk) := by
  unfold KD nwH at hz
  rw [← List.append_assoc] at hz
  by_cases hq : q < (S.1 ++ h.1).length
  · rw [List.getElem?_append_left hq] at hz
    exact Or.inl ⟨hq, hz⟩
  · rw [List.getElem?_append_right (by omega)] at hz
    have h1 : q - (S.1 ++ h.1).length < 1 := (List.getElem?_eq_some_iff.mp hz).1
    have h2 : q = (S.1 ++ h.1).length := by omega
    rw [h2, Nat.sub_self] at hz
    cases hz
    exact Or.inr ⟨h2, rfl⟩
theorem Wd.nw {S : SH} {G : GG} {B : BB} {h : AH} {H H1 : Heap} {kk : Nat × Nat} (hw : Wd S G B h H) (hz : H1.size = H.size + 1) (hq : ∀ q, q < H.size → H1[q]? = H[q]?) (hc : va_at G.1 vwCl (H.size, vcell S G B (nwH S h kk) (S.1 ++ h.1).length kk) H1) : Wd S G B (nwH S h kk) H1 := by
  refine ⟨by rw [hz, hw.1]; simp [nwH]; omega, fun q z hk => ?_⟩
  rcases KD_nw hk with ⟨h1, h2⟩ | ⟨h1, rfl⟩
  · have hne : q ≠ (S.1 ++ h.1).length := by omega
    rw [vcell_congr (h := h) (by funext j; simp only [nwH, if_neg hne]) (by funext j; simp only [nwH, if_neg hne]) (by funext j; simp only [nwH, if_neg hne])]
    exact (hw.2 q z h2).kept (hq _ (by show B.1 + q < H.size; rw [hw.1]; omega))
  · subst h1
    rw [← hw.1]
    exact hc
def okTy : FieldType → Bool
  | .int => true
  | .long => true
  | .boolean => true
  | .object _ => true
  | .array _ => true
  | _ => false
/-- a class as another's pool names it, for new -/
def NW (own : String) (index ci : Nat) : Prop := ∃ (C : String) (T : u_T) (N : Nat), vwCl[ci]? = some (C, T, N) ∧ Cond.classLink own index C ∈ TT ∧ Cond.instantiable C N ∈ TT ∧ Cond.initialized C ∈ TT ∧ KF ci ∧ ∀ k, k < N → okTy (cTy ci k) = true
theorem wp_new {S : SH} {M : MD} {d cb sb : Nat} {Q : Option Value → AH → Prop} {pc : Nat} {L st : List Value} {h : AH} {index ci n : Nat} (hF : NW M.1.cls index ci) (hn0 : cN ci = n) (hs : S.2 (S.1 ++ h.1).length = none) (hd : decode M.2.1 pc = .ok (.new index, 3)) (kn : WP S M d cb sb Q (pc + 3) L (.ref (S.1 ++ h.1).length :: st) (nwH S h (0, ci))) : WP S M d (cb + 1) (sb + n) Q pc L st h := by
  intro p l e R s m args below meth c G B mc ms C ls H locs cells slots hl hw hS hn
  obtain ⟨Cx, Cb, Cr, Cl, Ct, Co, Ck, Cn, Cf, Cm, CK, Cs, CB, CE⟩ := C
  have C : CX M d p R s m args meth c G B mc ms := ⟨Cx, Cb, Cr, Cl, Ct, Co, Ck, Cn, Cf, Cm, CK, Cs, CB, CE⟩
  subst hn0
  obtain ⟨C', T, N, h1, h2, h3, h4, ⟨C'', T'', N'', g1, g2, g3, g4, g5⟩, h6⟩ := hF
  cases g1.symm.trans h1
  have hKn := CK.1 ci _ h1
  have hs' := hs
  rw [List.length_append] at hs'
  rw [g2] at hn
  refine W.newcK Cx Cb Co (Ct _ h2) (Ct _ h3) (Ct _ h4) rfl hd (by omega) (by omega) hKn.2.1 rfl fun H1 kC hkC e1 z1 o1 => ?_
  have hb := u_born (cTy ci) Ct g3 hKn hkC e1 g4
  have hc : va_at G.1 vwCl (H.size, vcell S G B (nwH S h (0, ci)) (S.1 ++ h.1).length (0, ci)) H1 := by
    refine ⟨_, h1, hb.to (fun k hk => ?_)⟩
    show _ = vp_V (fs_ S B (nwH S h (0, ci)) (S.1 ++ h.1).length ci) k
    unfold vp_V
    rw [List.getD_eq_getElem?_getD, fs_at (by rw [g2]; exact hk)]
    have h7 := h6 k hk
    cases hty : cTy ci k <;> rw [hty] at h7 <;> first | (cases h7; done) | skip
    all_goals simp [defaultValue, avl, nwH, rn, RF, hs', rfv]
  have kk := kn p l e R s m args below meth c G B mc ms C ls H1 locs (cells + 1) (slots + N) hl (hw.nw z1 o1 hc) ⟨Nat.le_trans hS.1 (by omega), fun x q1 q2 => (o1 x (Nat.lt_of_lt_of_le q1 hS.1)).trans (hS.2.1 x q1 q2), hS.2.2⟩ (by omega)
  have e0 : rn B (.ref (S.1 ++ h.1).length) = .ref H.size := by show Value.ref _ = _; rw [hw.1]
  rw [List.map_cons, e0] at kk
  exact kk
theorem wp_newaI {S : SH} {M : MD} {d cb sb : Nat} {Q : Option Value → AH → Prop} {pc : Nat} {L st : List Value} {h : AH} {n : Int32} {N : Nat} (hc : Cond.arrayClass .int ∈ TT) (hn0 : ¬ n < 0) (hN : n.toNatClampNeg = N) (hN2 : N ≤ 1000000) (hs : S.2 (S.1 ++ h.1).length = none) (hd : decode M.2.1 pc = .ok (.newarray .int, 2)) (kn : WP S M d cb sb Q (pc + 2) L (.ref (S.1 ++ h.1).length :: st) (nwH S h (1, N))) : WP S M d (cb + 1) (sb + N) Q pc L (.int n :: st) h := by
  intro p l e R s m args below meth c G B mc ms C ls H locs cells slots hl hw hS hn
  obtain ⟨Cx, Cb, Cr, Cl, Ct, Co, Ck, Cn, Cf, Cm, CK, Cs, CB, CE⟩ := C
  have C : CX M d p R s m args meth c G B mc ms := ⟨Cx, Cb, Cr, Cl, Ct, Co, Ck, Cn, Cf, Cm, CK, Cs, CB, CE⟩
  refine va_newaK (atype := .int) Cx Cb (Ct _ hc) rfl hd rfl hn0 hN (by show N * _ ≤ _; simp [newarray.typeOf, componentBytes]; omega) (by omega) (by omega) rfl fun H1 cA e1 z1 o1 hAr hNm => ?_
  have hA : cA = G.2.1 0 := Option.some.inj (hNm.symm.trans (CK.2 0 _ rfl).2)
  subst hA
  have hcl : va_at G.1 vwCl (H.size, vcell S G B (nwH S h (1, N)) (S.1 ++ h.1).length (1, N)) H1 := by
    show H1[H.size]? = some (vp_cell _ _)
    rw [e1]
    unfold vp_cell
    simp [nwH, newarray.typeOf, defaultValue]
  have kk := kn p l e R s m args below meth c G B mc ms C ls H1 locs (cells + 1) (slots + N) hl (hw.nw z1 o1 hcl) ⟨Nat.le_trans hS.1 (by omega), fun x q1 q2 => (o1 x (Nat.lt_of_lt_of_le q1 hS.1)).trans (hS.2.1 x q1 q2), hS.2.2⟩ (by omega)
  have e0 : rn B (.ref (S.1 ++ h.1).length) = .ref H.size := by show Value.ref _ = _; rw [hw.1]
  rw [List.map_cons, e0] at kk
  exact kk
theorem wp_newaJ {S : SH} {M : MD} {d cb sb : Nat} {Q : Option Value → AH → Prop} {pc : Nat} {L st : List Value} {h : AH} {n : Int32} {N : Nat} (hc : Cond.arrayClass .long ∈ TT) (hn0 : ¬ n < 0) (hN : n.toNatClampNeg = N) (hN2 : N ≤ 1000000) (hs : S.2 (S.1 ++ h.1).length = none) (hd : decode M.2.1 pc = .ok (.newarray .long, 2)) (kn : WP S M d cb sb Q (pc + 2) L (.ref (S.1 ++ h.1).length :: st) (nwH S h (2, N))) : WP S M d (cb + 1) (sb + N) Q pc L (.int n :: st) h := by
  intro p l e R s m args below meth c G B mc ms C ls H locs cells slots hl hw hS hn
  obtain ⟨Cx, Cb, Cr, Cl, Ct, Co, Ck, Cn, Cf, Cm, CK, Cs, CB, CE⟩ := C
  have C : CX M d p R s m args meth c G B mc ms := ⟨Cx, Cb, Cr, Cl, Ct, Co, Ck, Cn, Cf, Cm, CK, Cs, CB, CE⟩
  refine va_newaK (atype := .long) Cx Cb (Ct _ hc) rfl hd rfl hn0 hN (by show N * _ ≤ _; simp [newarray.typeOf, componentBytes]; omega) (by omega) (by omega) rfl fun H1 cA e1 z1 o1 hAr hNm => ?_
  have hA : cA = G.2.1 1 := Option.some.inj (hNm.symm.trans (CK.2 1 _ rfl).2)
  subst hA
  have hcl : va_at G.1 vwCl (H.size, vcell S G B (nwH S h (2, N)) (S.1 ++ h.1).length (2, N)) H1 := by
    show H1[H.size]? = some (vp_cell _ _)
    rw [e1]
    unfold vp_cell
    simp [nwH, newarray.typeOf, defaultValue]
  have kk := kn p l e R s m args below meth c G B mc ms C ls H1 locs (cells + 1) (slots + N) hl (hw.nw z1 o1 hcl) ⟨Nat.le_trans hS.1 (by omega), fun x q1 q2 => (o1 x (Nat.lt_of_lt_of_le q1 hS.1)).trans (hS.2.1 x q1 q2), hS.2.2⟩ (by omega)
  have e0 : rn B (.ref (S.1 ++ h.1).length) = .ref H.size := by show Value.ref _ = _; rw [hw.1]
  rw [List.map_cons, e0] at kk
  exact kk
theorem wp_newaZ {S : SH} {M : MD} {d cb sb : Nat} {Q : Option Value → AH → Prop} {pc : Nat} {L st : List Value} {h : AH} {n : Int32} {N : Nat} (hc : Cond.arrayClass .boolean ∈ TT) (hn0 : ¬ n < 0) (hN : n.toNatClampNeg = N) (hN2 : N ≤ 1000000) (hs : S.2 (S.1 ++ h.1).length = none) (hd : decode M.2.1 pc = .ok (.newarray .boolean, 2)) (kn : WP S M d cb sb Q (pc + 2) L (.ref (S.1 ++ h.1).length :: st) (nwH S h (3, N))) : WP S M d (cb + 1) (sb + N) Q pc L (.int n :: st) h := by
  intro p l e R s m args below meth c G B mc ms C ls H locs cells slots hl hw hS hn
  obtain ⟨Cx, Cb, Cr, Cl, Ct, Co, Ck, Cn, Cf, Cm, CK, Cs, CB, CE⟩ := C
  have C : CX M d p R s m args meth c G B mc ms := ⟨Cx, Cb, Cr, Cl, Ct, Co, Ck, Cn, Cf, Cm, CK, Cs, CB, CE⟩
  refine va_newaK (atype := .boolean) Cx Cb (Ct _ hc) rfl hd rfl hn0 hN (by show N * _ ≤ _; simp [newarray.typeOf, componentBytes]; omega) (by omega) (by omega) rfl fun H1 cA e1 z1 o1 hAr hNm => ?_
  have hA : cA = G.2.1 2 := Option.some.inj (hNm.symm.trans (CK.2 2 _ rfl).2)
  subst hA
  have hcl : va_at G.1 vwCl (H.size, vcell S G B (nwH S h (3, N)) (S.1 ++ h.1).length (3, N)) H1 := by
    show H1[H.size]? = some (vp_cell _ _)
    rw [e1]
    unfold vp_cell
    simp [nwH, newarray.typeOf, defaultValue]
  have kk := kn p l e R s m args below meth c G B mc ms C ls H1 locs (cells + 1) (slots + N) hl (hw.nw z1 o1 hcl) ⟨Nat.le_trans hS.1 (by omega), fun x q1 q2 => (o1 x (Nat.lt_of_lt_of_le q1 hS.1)).trans (hS.2.1 x q1 q2), hS.2.2⟩ (by omega)
  have e0 : rn B (.ref (S.1 ++ h.1).length) = .ref H.size := by show Value.ref _ = _; rw [hw.1]
  rw [List.map_cons, e0] at kk
  exact kk
theorem wp_anewA {S : SH} {M : MD} {d cb sb : Nat} {Q : Option Value → AH → Prop} {pc : Nat} {L st : List Value} {h : AH} {n : Int32} {N index : Nat} (hc : Cond.classLink M.1.cls index RX6 ∈ TT) (hn0 : ¬ n < 0) (hN : n.toNatClampNeg = N) (hN2 : N ≤ 1000000) (hs : S.2 (S.1 ++ h.1).length = none) (hd : decode M.2.1 pc = .ok (.anewarray index, 3)) (kn : WP S M d cb sb Q (pc + 3) L (.ref (S.1 ++ h.1).length :: st) (nwH S h (4, N))) : WP S M d (cb + 1) (sb + N) Q pc L (.int n :: st) h := by
  intro p l e R s m args below meth c G B mc ms C ls H locs cells slots hl hw hS hn
  obtain ⟨Cx, Cb, Cr, Cl, Ct, Co, Ck, Cn, Cf, Cm, CK, Cs, CB, CE⟩ := C
  have C : CX M d p R s m args meth c G B mc ms := ⟨Cx, Cb, Cr, Cl, Ct, Co, Ck, Cn, Cf, Cm, CK, Cs, CB, CE⟩
  subst hN
  refine W.anew Cx Cb Co (Ct _ hc) (va_AO.use Cs.2.2.2.2.1) rfl hd rfl hn0 (by omega) (by omega) (by omega) fun cA kA comp f1 f2 f3 f4 => ?_
  have hA : cA = G.2.1 3 := by
    obtain ⟨kA', comp', r1, r2, r3, r4⟩ : va_RA s (G.2.1 3) (.object RX6) := (CK.2 3 _ rfl).2
    exact Option.some.inj (f1.symm.trans r4)
  subst hA
  have z1 : (H.push ({ cls := G.2.1 3, slots := Array.replicate n.toNatClampNeg .null, vm := .none } : Cell)).size = H.size + 1 := Array.size_push _
  have o1 : ∀ q : Nat, q < H.size → (H.push ({ cls := G.2.1 3, slots := Array.replicate n.toNatClampNeg .null, vm := .none } : Cell))[q]? = H[q]? := fun q hq => by rw [Array.getElem?_push, if_neg (Nat.ne_of_lt hq)]
  have hcl : va_at G.1 vwCl (H.size, vcell S G B (nwH S h (4, n.toNatClampNeg)) (S.1 ++ h.1).length (4, n.toNatClampNeg)) (H.push ({ cls := G.2.1 3, slots := Array.replicate n.toNatClampNeg .null, vm := .none } : Cell)) := by
    show (H.push _)[H.size]? = some (vp_cell _ _)
    rw [Array.getElem?_push_size, arrV_new, vp_cell_q]
    congr 2
    funext j
    have hs' := hs
    rw [List.length_append] at hs'
    simp [RF, nwH, hs', va_rf]
  have kk := kn p l e R s m args below meth c G B mc ms C ls _ locs (cells + 1) (slots + n.toNatClampNeg) hl (hw.nw z1 o1 hcl) ⟨Nat.le_trans hS.1 (by omega), fun x q1 q2 => (o1 x (Nat.lt_of_lt_of_le q1 hS.1)).trans (hS.2.1 x q1 q2), hS.2.2⟩ (by omega)
  have e0 : rn B (.ref (S.1 ++ h.1).length) = .ref H.size := by show Value.ref _ = _; rw [hw.1]
  rw [List.map_cons, e0] at kk
  exact kk
theorem wp_aastA {S : SH} {M : MD} {d cb sb : Nat} {Q : Option Value → AH → Prop} {pc : Nat} {L st : List Value} {h : AH} {p0 n v : Nat} {i : Int32} (hk : KD S h p0 = some (4, n)) (hv : KD S h v = some (0, 6)) (hs : S.2 p0 = none) (hin : vp_in i n) (hd : decode M.2.1 pc = .ok (.aastore, 1)) {h1 : AH} (hh : stR h p0 i.toNatClampNeg (some v) = h1) (kn : WP S M d cb sb Q (pc + 1) L st h1) : WP S M d cb sb Q pc L (.ref v :: .int i :: .ref p0 :: st) h := by
  intro p l e R s m args below meth c G B mc ms C ls H locs cells slots hl hw hS hn
  obtain ⟨Cx, Cb, Cr, Cl, Ct, Co, Ck, Cn, Cf, Cm, CK, Cs, CB, CE⟩ := C
  have C : CX M d p R s m args meth c G B mc ms := ⟨Cx, Cb, Cr, Cl, Ct, Co, Ck, Cn, Cf, Cm, CK, Cs, CB, CE⟩
  subst hh
  have hlt : i.toNatClampNeg < n := Nat.not_le.mp fun q => hin (Or.inr q)
  have h0 : ¬ i < 0 := fun q => hin (Or.inl q)
  have hrow : va_at G.1 vwCl (B.1 + p0, .inl (G.2.1 3, n, .inr (.inr (.inr (.inr (fun j => (RF S h p0 j).map (B.1 + ·))))))) H := hw.2 p0 _ hk
  obtain ⟨r', hr', cellV, g1, g2, g3, -⟩ : va_at G.1 vwCl (B.1 + v, .inr (6, fs_ S B h v 6)) H := hw.2 v _ hv
  have hcls := (CK.1 6 _ rfl).2
  obtain ⟨kA, comp, k1, k2, k3, -⟩ : va_RA s (G.2.1 3) (.object RX6) := (CK.2 3 _ rfl).2
  have hcomp : comp = G.1.1 6 := Option.some.inj (k3.symm.trans hcls.1)
  subst hcomp
  obtain ⟨kC, hkC, -⟩ := hcls.2
  refine W.aast Cx Cb (show H[B.1 + p0]? = some (vp_cell _ _) from hrow) (fun q h => by cases h) (fun h => by cases h) k1 k2 rfl hkC ⟨h0, by show _ < (arrV _ _ _).slots.size; rw [arrV_size]; exact hlt⟩ g1 (fun q h => by rw [g3] at h; cases h) (by rw [g2]; exact hkC) (by rw [g2]; exact va_assign hcls) rfl rfl hd fun H1 ez z oq => ?_
  refine kn p l e R s m args below meth c G B mc ms C ls H1 _ cells slots hl (hw.upd (h2 := stR h p0 i.toNatClampNeg (some v)) rfl hk z oq ?_ (fun q kk hq => vcell_congr ?_ ?_ ?_ kk)) (hS.put z oq (Nat.le_add_right _ _)) hn
  · show H1[B.1 + p0]? = some (vp_cell _ _)
    rw [ez]
    rw [vp_cell_q, vp_cell_q, arrV_store]
    congr 2
    funext q
    by_cases hq : q = i.toNatClampNeg
    · subst hq
      simp [updV, stR, u2, RF, hs, va_rf]
    · simp [updV, stR, u2, hq, RF, hs]
  all_goals first | rfl | exact u2_row _ _ _ hq
theorem wp_anewB {S : SH} {M : MD} {d cb sb : Nat} {Q : Option Value → AH → Prop} {pc : Nat} {L st : List Value} {h : AH} {n : Int32} {N index : Nat} (hc : Cond.classLink M.1.cls index RX8 ∈ TT) (hn0 : ¬ n < 0) (hN : n.toNatClampNeg = N) (hN2 : N ≤ 1000000) (hs : S.2 (S.1 ++ h.1).length = none) (hd : decode M.2.1 pc = .ok (.anewarray index, 3)) (kn : WP S M d cb sb Q (pc + 3) L (.ref (S.1 ++ h.1).length :: st) (nwH S h (5, N))) : WP S M d (cb + 1) (sb + N) Q pc L (.int n :: st) h := by
  intro p l e R s m args below meth c G B mc ms C ls H locs cells slots hl hw hS hn
  obtain ⟨Cx, Cb, Cr, Cl, Ct, Co, Ck, Cn, Cf, Cm, CK, Cs, CB, CE⟩ := C
  have C : CX M d p R s m args meth c G B mc ms := ⟨Cx, Cb, Cr, Cl, Ct, Co, Ck, Cn, Cf, Cm, CK, Cs, CB, CE⟩
  subst hN
  refine W.anew Cx Cb Co (Ct _ hc) (va_AO.use Cs.2.2.2.2.2.1) rfl hd rfl hn0 (by omega) (by omega) (by omega) fun cA kA comp f1 f2 f3 f4 => ?_
  have hA : cA = G.2.1 4 := by
    obtain ⟨kA', comp', r1, r2, r3, r4⟩ : va_RA s (G.2.1 4) (.object RX8) := (CK.2 4 _ rfl).2
    exact Option.some.inj (f1.symm.trans r4)
  subst hA
  have z1 : (H.push ({ cls := G.2.1 4, slots := Array.replicate n.toNatClampNeg .null, vm := .none } : Cell)).size = H.size + 1 := Array.size_push _
  have o1 : ∀ q : Nat, q < H.size → (H.push ({ cls := G.2.1 4, slots := Array.replicate n.toNatClampNeg .null, vm := .none } : Cell))[q]? = H[q]? := fun q hq => by rw [Array.getElem?_push, if_neg (Nat.ne_of_lt hq)]
  have hcl : va_at G.1 vwCl (H.size, vcell S G B (nwH S h (5, n.toNatClampNeg)) (S.1 ++ h.1).length (5, n.toNatClampNeg)) (H.push ({ cls := G.2.1 4, slots := Array.replicate n.toNatClampNeg .null, vm := .none } : Cell)) := by
    show (H.push _)[H.size]? = some (vp_cell _ _)
    rw [Array.getElem?_push_size, arrV_new, vp_cell_q]
    congr 2
    funext j
    have hs' := hs
    rw [List.length_append] at hs'
    simp [RF, nwH, hs', va_rf]
  have kk := kn p l e R s m args below meth c G B mc ms C ls _ locs (cells + 1) (slots + n.toNatClampNeg) hl (hw.nw z1 o1 hcl) ⟨Nat.le_trans hS.1 (by omega), fun x q1 q2 => (o1 x (Nat.lt_of_lt_of_le q1 hS.1)).trans (hS.2.1 x q1 q2), hS.2.2⟩ (by omega)
  have e0 : rn B (.ref (S.1 ++ h.1).length) = .ref H.size := by show Value.ref _ = _; rw [hw.1]
  rw [List.map_cons, e0] at kk
  exact kk
theorem wp_aastB {S : SH} {M : MD} {d cb sb : Nat} {Q : Option Value → AH → Prop} {pc : Nat} {L st : List Value} {h : AH} {p0 n v : Nat} {i : Int32} (hk : KD S h p0 = some (5, n)) (hv : KD S h v = some (0, 8)) (hs : S.2 p0 = none) (hin : vp_in i n) (hd : decode M.2.1 pc = .ok (.aastore, 1)) {h1 : AH} (hh : stR h p0 i.toNatClampNeg (some v) = h1) (kn : WP S M d cb sb Q (pc + 1) L st h1) : WP S M d cb sb Q pc L (.ref v :: .int i :: .ref p0 :: st) h := by
  intro p l e R s m args below meth c G B mc ms C ls H locs cells slots hl hw hS hn
  obtain ⟨Cx, Cb, Cr, Cl, Ct, Co, Ck, Cn, Cf, Cm, CK, Cs, CB, CE⟩ := C
  have C : CX M d p R s m args meth c G B mc ms := ⟨Cx, Cb, Cr, Cl, Ct, Co, Ck, Cn, Cf, Cm, CK, Cs, CB, CE⟩
  subst hh
  have hlt : i.toNatClampNeg < n := Nat.not_le.mp fun q => hin (Or.inr q)
  have h0 : ¬ i < 0 := fun q => hin (Or.inl q)
  have hrow : va_at G.1 vwCl (B.1 + p0, .inl (G.2.1 4, n, .inr (.inr (.inr (.inr (fun j => (RF S h p0 j).map (B.1 + ·))))))) H := hw.2 p0 _ hk
  obtain ⟨r', hr', cellV, g1, g2, g3, -⟩ : va_at G.1 vwCl (B.1 + v, .inr (8, fs_ S B h v 8)) H := hw.2 v _ hv
  have hcls := (CK.1 8 _ rfl).2
  obtain ⟨kA, comp, k1, k2, k3, -⟩ : va_RA s (G.2.1 4) (.object RX8) := (CK.2 4 _ rfl).2
  have hcomp : comp = G.1.1 8 := Option.some.inj (k3.symm.trans hcls.1)
  subst hcomp
  obtain ⟨kC, hkC, -⟩ := hcls.2
  refine W.aast Cx Cb (show H[B.1 + p0]? = some (vp_cell _ _) from hrow) (fun q h => by cases h) (fun h => by cases h) k1 k2 rfl hkC ⟨h0, by show _ < (arrV _ _ _).slots.size; rw [arrV_size]; exact hlt⟩ g1 (fun q h => by rw [g3] at h; cases h) (by rw [g2]; exact hkC) (by rw [g2]; exact va_assign hcls) rfl rfl hd fun H1 ez z oq => ?_
  refine kn p l e R s m args below meth c G B mc ms C ls H1 _ cells slots hl (hw.upd (h2 := stR h p0 i.toNatClampNeg (some v)) rfl hk z oq ?_ (fun q kk hq => vcell_congr ?_ ?_ ?_ kk)) (hS.put z oq (Nat.le_add_right _ _)) hn
  · show H1[B.1 + p0]? = some (vp_cell _ _)
    rw [ez]
    rw [vp_cell_q, vp_cell_q, arrV_store]
    congr 2
    funext q
    by_cases hq : q = i.toNatClampNeg
    · subst hq
      simp [updV, stR, u2, RF, hs, va_rf]
    · simp [updV, stR, u2, hq, RF, hs]
  all_goals first | rfl | exact u2_row _ _ _ hq
theorem wp_mmax {S : SH} {M : MD} {d cb sb : Nat} {Q : Option Value → AH → Prop} {pc : Nat} {L st : List Value} {h : AH} {index : Nat} {x y : Int32} (hlk : Cond.methodLink M.1.cls index Lib.Math.max.name ∈ TT) (hst : Cond.static Lib.Math.max.name ∈ TT) (hini : Cond.initialized "java/lang/Math" ∈ TT) (hco : Cond.code Lib.Math.max.name Lib.Math.max.code 2 (some .int) ∈ TT) (hr : (st.map fun v => v.category).sum ≤ 8) (hd : decode M.2.1 pc = .ok (.invokestatic index, 3)) (kn : WP S M (d + 1) cb sb Q (pc + 3) L (.int (if x < y then y else x) :: st) h) : WP S M (d + 1) cb sb Q pc L (.int y :: .int x :: st) h := by
  intro p l e R s m args below meth c G B mc ms C ls H locs cells slots hl hw hS hn
  obtain ⟨Cx, Cb, Cr, Cl, Ct, Co, Ck, Cn, Cf, Cm, CK, Cs, CB, CE⟩ := C
  have C : CX M (d + 1) p R s m args meth c G B mc ms := ⟨Cx, Cb, Cr, Cl, Ct, Co, Ck, Cn, Cf, Cm, CK, Cs, CB, CE⟩
  have hr2 := catsum B st
  exact va_mmax Cx Cb (Cl.trans hl.1.symm) Co (Ct _ hlk) (Ct _ hst) (Ct _ hini) (Ct _ hco) (by omega) (by omega) (by omega) (by omega) hd (kn p l e R s m args below meth c G B mc ms C ls H locs cells slots hl hw hS hn)
theorem wp_mmin {S : SH} {M : MD} {d cb sb : Nat} {Q : Option Value → AH → Prop} {pc : Nat} {L st : List Value} {h : AH} {index : Nat} {x y : Int32} (hlk : Cond.methodLink M.1.cls index Lib.Math.min.name ∈ TT) (hst : Cond.static Lib.Math.min.name ∈ TT) (hini : Cond.initialized "java/lang/Math" ∈ TT) (hco : Cond.code Lib.Math.min.name Lib.Math.min.code 2 (some .int) ∈ TT) (hr : (st.map fun v => v.category).sum ≤ 8) (hd : decode M.2.1 pc = .ok (.invokestatic index, 3)) (kn : WP S M (d + 1) cb sb Q (pc + 3) L (.int (if y < x then y else x) :: st) h) : WP S M (d + 1) cb sb Q pc L (.int y :: .int x :: st) h := by
  intro p l e R s m args below meth c G B mc ms C ls H locs cells slots hl hw hS hn
  obtain ⟨Cx, Cb, Cr, Cl, Ct, Co, Ck, Cn, Cf, Cm, CK, Cs, CB, CE⟩ := C
  have C : CX M (d + 1) p R s m args meth c G B mc ms := ⟨Cx, Cb, Cr, Cl, Ct, Co, Ck, Cn, Cf, Cm, CK, Cs, CB, CE⟩
  have hr2 := catsum B st
  exact va_mmin Cx Cb (Cl.trans hl.1.symm) Co (Ct _ hlk) (Ct _ hst) (Ct _ hini) (Ct _ hco) (by omega) (by omega) (by omega) (by omega) hd (kn p l e R s m args below meth c G B mc ms C ls H locs cells slots hl hw hS hn)
theorem wp_mabs {S : SH} {M : MD} {d cb sb : Nat} {Q : Option Value → AH → Prop} {pc : Nat} {L st : List Value} {h : AH} {index : Nat} {x : Int32} (hlk : Cond.methodLink M.1.cls index Lib.Math.abs.name ∈ TT) (hst : Cond.static Lib.Math.abs.name ∈ TT) (hini : Cond.initialized "java/lang/Math" ∈ TT) (hco : Cond.code Lib.Math.abs.name Lib.Math.abs.code 1 (some .int) ∈ TT) (hr : (st.map fun v => v.category).sum ≤ 8) (hd : decode M.2.1 pc = .ok (.invokestatic index, 3)) (kn : WP S M (d + 1) cb sb Q (pc + 3) L (.int (if 0 ≤ x then x else 0 - x) :: st) h) : WP S M (d + 1) cb sb Q pc L (.int x :: st) h := by
  intro p l e R s m args below meth c G B mc ms C ls H locs cells slots hl hw hS hn
  obtain ⟨Cx, Cb, Cr, Cl, Ct, Co, Ck, Cn, Cf, Cm, CK, Cs, CB, CE⟩ := C
  have C : CX M (d + 1) p R s m args meth c G B mc ms := ⟨Cx, Cb, Cr, Cl, Ct, Co, Ck, Cn, Cf, Cm, CK, Cs, CB, CE⟩
  have hr2 := catsum B st
  exact va_mabs Cx Cb (Cl.trans hl.1.symm) Co (Ct _ hlk) (Ct _ hst) (Ct _ hini) (Ct _ hco) (by omega) (by omega) (by omega) (by omega) hd (kn p l e R s m args below meth c G B mc ms C ls H locs cells slots hl hw hS hn)
theorem wp_objInit {S : SH} {M : MD} {d cb sb : Nat} {Q : Option Value → AH → Prop} {pc : Nat} {L st : List Value} {h : AH} {index p0 : Nat} (hlk : Cond.methodLink M.1.cls index objectInit ∈ TT) (hi : Cond.instanceMethod objectInit ∈ TT) (hco : Cond.code objectInit ⟨#[0xb1]⟩ 1 none ∈ TT) (hr : (st.map fun v => v.category).sum ≤ 8) (hd : decode M.2.1 pc = .ok (.invokespecial index, 3)) (kn : WP S M (d + 1) cb sb Q (pc + 3) L st h) : WP S M (d + 1) cb sb Q pc L (.ref p0 :: st) h := by
  intro p l e R s m args below meth c G B mc ms C ls H locs cells slots hl hw hS hn
  obtain ⟨Cx, Cb, Cr, Cl, Ct, Co, Ck, Cn, Cf, Cm, CK, Cs, CB, CE⟩ := C
  have C : CX M (d + 1) p R s m args meth c G B mc ms := ⟨Cx, Cb, Cr, Cl, Ct, Co, Ck, Cn, Cf, Cm, CK, Cs, CB, CE⟩
  have hr2 := catsum B st
  exact W.objInit Cx Cb Co (Ct _ hlk) (Ct _ hi) (Ct _ hco) rfl (hl.1.trans Cl.symm) rfl hd (by omega) (by show 2 * 0 + _ + 12 ≤ _; omega) (kn p l e R s m args below meth c G B mc ms C ls H locs cells slots hl hw hS hn)
theorem wp_iret {S : SH} {M : MD} {d cb sb : Nat} {Q : Option Value → AH → Prop} {pc : Nat} {L : List Value} {h : AH} {x : Int32} {ty : FieldType} (hr : M.2.2.2.1 = some ty) (hna : narrow ty (.int x) = .int x) (hd : decode M.2.1 pc = .ok (.ireturn, 1)) (kn : Q (some (.int x)) h) : WP S M d cb sb Q pc L [.int x] h := by
  intro p l e R s m args below meth c G B mc ms C ls H locs cells slots hl hw hS hn
  obtain ⟨Cx, Cb, Cr, Cl, Ct, Co, Ck, Cn, Cf, Cm, CK, Cs, CB, CE⟩ := C
  have C : CX M d p R s m args meth c G B mc ms := ⟨Cx, Cb, Cr, Cl, Ct, Co, Ck, Cn, Cf, Cm, CK, Cs, CB, CE⟩
  refine W.widen (k := mc) (n := ms) (by omega) (by omega) ?_
  exact W.zret Cx Cb (Cr.trans hr) hna (fun t ht hW => ⟨some (.int x), h, rfl, kn, by rw [ht]; exact hw, hS.F ht⟩) hS.2.2 hd
theorem wp_lret {S : SH} {M : MD} {d cb sb : Nat} {Q : Option Value → AH → Prop} {pc : Nat} {L : List Value} {h : AH} {x : Int64} (hr : M.2.2.2.1 = some .long) (hd : decode M.2.1 pc = .ok (.lreturn, 1)) (kn : Q (some (.long x)) h) : WP S M d cb sb Q pc L [.long x] h := by
  intro p l e R s m args below meth c G B mc ms C ls H locs cells slots hl hw hS hn
  obtain ⟨Cx, Cb, Cr, Cl, Ct, Co, Ck, Cn, Cf, Cm, CK, Cs, CB, CE⟩ := C
  have C : CX M d p R s m args meth c G B mc ms := ⟨Cx, Cb, Cr, Cl, Ct, Co, Ck, Cn, Cf, Cm, CK, Cs, CB, CE⟩
  refine W.widen (k := mc) (n := ms) (by omega) (by omega) ?_
  exact W.lret Cx Cb (Cr.trans hr) (fun t ht hW => ⟨some (.long x), h, rfl, kn, by rw [ht]; exact hw, hS.F ht⟩) hS.2.2 hd
theorem wp_vret {S : SH} {M : MD} {d cb sb : Nat} {Q : Option Value → AH → Prop} {pc : Nat} {L : List Value} {h : AH} (hr : M.2.2.2.1 = none) (hd : decode M.2.1 pc = .ok (.return_, 1)) (kn : Q none h) : WP S M d cb sb Q pc L [] h := by
  intro p l e R s m args below meth c G B mc ms C ls H locs cells slots hl hw hS hn
  obtain ⟨Cx, Cb, Cr, Cl, Ct, Co, Ck, Cn, Cf, Cm, CK, Cs, CB, CE⟩ := C
  have C : CX M d p R s m args meth c G B mc ms := ⟨Cx, Cb, Cr, Cl, Ct, Co, Ck, Cn, Cf, Cm, CK, Cs, CB, CE⟩
  refine W.widen (k := mc) (n := ms) (by omega) (by omega) ?_
  exact W.vret Cx Cb (Cr.trans hr) (fun t ht hW => ⟨none, h, rfl, kn, by rw [ht]; exact hw, hS.F ht⟩) hS.2.2 hd
theorem wp_aret {S : SH} {M : MD} {d cb sb : Nat} {Q : Option Value → AH → Prop} {pc : Nat} {L : List Value} {h : AH} {x : Nat} {ty : FieldType} (hr : M.2.2.2.1 = some ty) (hty : (∃ n, ty = .object n) ∨ ∃ t, ty = .array t) (hd : decode M.2.1 pc = .ok (.areturn, 1)) (kn : Q (some (.ref x)) h) : WP S M d cb sb Q pc L [.ref x] h := by
  intro p l e R s m args below meth c G B mc ms C ls H locs cells slots hl hw hS hn
  obtain ⟨Cx, Cb, Cr, Cl, Ct, Co, Ck, Cn, Cf, Cm, CK, Cs, CB, CE⟩ := C
  have C : CX M d p R s m args meth c G B mc ms := ⟨Cx, Cb, Cr, Cl, Ct, Co, Ck, Cn, Cf, Cm, CK, Cs, CB, CE⟩
  refine W.widen (k := mc) (n := ms) (by omega) (by omega) ?_
  exact W.aret Cx Cb (Cr.trans hr) hty (Or.inr ⟨_, rfl⟩) (fun t ht hW => ⟨some (.ref x), h, rfl, kn, by rw [ht]; exact hw, hS.F ht⟩) hS.2.2 hd
theorem goodTT : GoodIn TT TT := fun w h => ⟨h, good_of_word (tt_good w h)⟩
/-- a method that the tables know: its code, how many arguments its text has -/
def MF (N : MD) (n : Nat) : Prop := Cond.code N.1 N.2.1 N.2.2.1 N.2.2.2.1 ∈ TT ∧ Cond.initialized N.1.cls ∈ TT ∧ (N.1.cls ≠ "java/lang/invoke/MethodHandle" ∧ N.1.cls ≠ "java/lang/invoke/VarHandle" ∧ (parseMethodDescriptor N.1.desc).map (fun d => d.parameters.length) = some n) ∧ N.2.2.1 ≤ 45
theorem goodWS {N : MD} {n : Nat} (h : MF N n) : GoodIn TT (WS N) := fun w hw => by
  rcases List.mem_cons.mp hw with rfl | hw
  · exact ⟨h.1, good_of_word (tt_good _ h.1)⟩
  · exact goodTT w hw
theorem blindPC {S : SH} {G : GG} {B : BB} {as : List Value} {h : AH} : FrameBlind (PC S G B as h) := fun a U g mk q => by
  obtain ⟨q0, q1, q2, q3⟩ := q
  exact ⟨q0, q1, va_K.moved (u := U) (U := U.calling g mk a) (Vm.Alike.refl U.vm) q2, q3.same rfl rfl⟩
/-- behind a call -/
theorem back_to {S : SH} {M : MD} {d : Nat} {p : Program} {l : Launch} {e : Env} {R : Room} {s : State} {m : MethodId} {args : Array Value} {below : List Frame} {meth : Method} {c : Code} {G : GG} {B : BB} {mc ms : Nat} {H : Heap} {locs : List Loc} {cells slots : Nat} {pc : Nat} {ls : Array Slot} {L st0 rest : List Value} {Q : Option Value → AH → Prop} {cb sb mcN msN : Nat} {a : Array Value}
    (C : CX M d p R s m args meth c G B mc ms) (hl : LH ls M.2.2.1 B L) (hS : va_S (fun q => B.1 ≤ q) s.heap H locs) (hn : cells + (cb + mcN) = mc ∧ slots + (sb + msN) = ms)
    (hr : va_Run p l e R s m args below meth c H locs cells slots mcN msN (F0 m pc ls st0) (rest.map (rn B)) (PQ S G B (fun r h' => WP S M d cb sb Q (pc + 3) L (r.toList ++ rest) h') a) (fun q => B.1 ≤ q)) : W p l e R s m args below meth c H locs cells slots (MQ below (PQ S G B Q) args s mc ms (fun q => B.1 ≤ q)) (F0 m pc ls st0) := by
  intro T hT X
  obtain ⟨v, st₀, t, T', L', h0, X', hL, e1, e2, ⟨r, h', hv, hk, hb, hF⟩, stp⟩ := hr T hT X
  have hv' : v = r.map (rn B) := Outcome.returned.inj hv
  subst hv'
  have hz : H.size ≤ t.heap.size := by have := hF.1; rw [h0] at this; exact this
  obtain ⟨t2, a1, b1⟩ := hk p l e R s m args below meth c G B mc ms C ls t.heap (locs ++ L') (cells + mcN) (slots + msN) hl hb
    ⟨Nat.le_trans hS.1 hz, fun q h1 h2 => by rw [hF.2 q (by rw [h0]; exact Nat.lt_of_lt_of_le h1 hS.1) h2, h0]; exact hS.2.1 q h1 h2, fun q hq => by
      rcases List.mem_append.mp hq with z | z
      · exact hS.2.2 q z
      · exact hL q z⟩ (by omega) T' e1 X'
  refine ⟨t2, stp t2 ?_, b1⟩
  rw [List.map_append] at a1
  have e3 : (r.map (rn B)).toList = r.toList.map (rn B) := by cases r <;> rfl
  rw [e3]
  exact a1
theorem wp_callV {S : SH} {M : MD} {d cb sb : Nat} {Q : Option Value → AH → Prop} {pc : Nat} {L rest as : List Value} {h : AH} {N : MD} {index n cb1 sb1 mcN msN : Nat} {b ci : Nat} (hM : MF N n) (hi : Cond.instanceMethod N.1 ∈ TT) (hse : Cond.selects N.1.cls N.1 N.1 ∈ TT) (hlk : Cond.methodLink M.1.cls index N.1 ∈ TT) (hd : decode M.2.1 pc = .ok (.invokevirtual index, 3)) (hrv : KD S h b = some (0, ci)) (hcl : ∃ T k, vwCl[ci]? = some (N.1.cls, T, k)) (has : as.length = n) (hr : (rest.map fun v => v.category).sum ≤ 8) (hc : cb = cb1 + mcN ∧ sb = sb1 + msN) (hcp : CP S N d mcN msN (.ref b :: as) h (fun r h' => WP S M (d + 1) cb1 sb1 Q (pc + 3) L (r.toList ++ rest) h')) : WP S M (d + 1) cb sb Q pc L (as.reverse ++ .ref b :: rest) h := by
  intro p l e R s m args below meth c G B mc ms C ls H locs cells slots hl hw hS hn
  obtain ⟨Cx, Cb, Cr, Cl, Ct, Co, Ck, Cn, Cf, Cm, CK, Cs, CB, CE⟩ := C
  have C : CX M (d + 1) p R s m args meth c G B mc ms := ⟨Cx, Cb, Cr, Cl, Ct, Co, Ck, Cn, Cf, Cm, CK, Cs, CB, CE⟩
  obtain ⟨rfl, rfl⟩ := hc
  obtain ⟨T, k, hcl⟩ := hcl
  have hr2 := catsum B rest
  have PK : ∀ U : State, U.heap = H → s.WarmedH U.vm → PC S G B (.ref b :: as) h (Value.ref (B.1 + b) :: as.map (rn B)).toArray U := fun U hU hW => ⟨rfl, by rw [hU]; exact hw, CK.moved hW.alike, Cs.to hW (fun a q1 q2 => by rw [hU]; exact hS.2.1 a q1 q2)⟩
  have hv := va_recv CK (vaP1 (hw.2 b _ hrv)) hcl (q0 := 0) (a := B.1 + b) (ci := ci) (fs := fs_ S B h b ci) rfl
  refine back_to C hl hS hn (va_runV (As := as.map (rn B)) (b := B.1 + b) ⟨Cx, Cb, Cl, Co, Ct⟩ (hcp l G B) ⟨callB_of n Ct (goodWS hM) rfl rfl rfl (Ct _ hM.2.1) (Ct _ hlk) hM.2.2.1 ⟨by have := hM.2.2.2; show d + 1 ≤ R.frames; omega, by have := hM.2.2.2; show 8 + (N.2.2.1 + 11) + 64 * d ≤ R.locals; omega⟩, Ct _ hi, Ct _ hse⟩ ⟨blindPC, hv, PK⟩ rfl (by rw [List.length_map]; exact has) hl.1 (by simp [rn]) (lv_room (Nat.le_trans hr2 hr)) hd ⟨by omega, by omega⟩)
theorem wp_callS {S : SH} {M : MD} {d cb sb : Nat} {Q : Option Value → AH → Prop} {pc : Nat} {L rest as : List Value} {h : AH} {N : MD} {index n cb1 sb1 mcN msN : Nat} (hM : MF N n) (hi : Cond.static N.1 ∈ TT) (hlk : Cond.methodLink M.1.cls index N.1 ∈ TT) (hd : decode M.2.1 pc = .ok (.invokestatic index, 3)) (has : as.length = n) (hr : (rest.map fun v => v.category).sum ≤ 8) (hc : cb = cb1 + mcN ∧ sb = sb1 + msN) (hcp : CP S N d mcN msN as h (fun r h' => WP S M (d + 1) cb1 sb1 Q (pc + 3) L (r.toList ++ rest) h')) : WP S M (d + 1) cb sb Q pc L (as.reverse ++ rest) h := by
  intro p l e R s m args below meth c G B mc ms C ls H locs cells slots hl hw hS hn
  obtain ⟨Cx, Cb, Cr, Cl, Ct, Co, Ck, Cn, Cf, Cm, CK, Cs, CB, CE⟩ := C
  have C : CX M (d + 1) p R s m args meth c G B mc ms := ⟨Cx, Cb, Cr, Cl, Ct, Co, Ck, Cn, Cf, Cm, CK, Cs, CB, CE⟩
  obtain ⟨rfl, rfl⟩ := hc
  have hr2 := catsum B rest
  have PK : ∀ U : State, U.heap = H → s.WarmedH U.vm → PC S G B as h (as.map (rn B)).toArray U := fun U hU hW => ⟨rfl, by rw [hU]; exact hw, CK.moved hW.alike, Cs.to hW (fun a q1 q2 => by rw [hU]; exact hS.2.1 a q1 q2)⟩
  refine back_to C hl hS hn (va_runS (As := as.map (rn B)) ⟨Cx, Cb, Cl, Co, Ct⟩ (hcp l G B) ⟨callB_of n Ct (goodWS hM) rfl rfl rfl (Ct _ hM.2.1) (Ct _ hlk) hM.2.2.1 ⟨by have := hM.2.2.2; show d + 1 ≤ R.frames; omega, by have := hM.2.2.2; show 8 + (N.2.2.1 + 11) + 64 * d ≤ R.locals; omega⟩, Ct _ hi⟩ ⟨blindPC, PK⟩ rfl (by rw [List.length_map]; exact has) hl.1 (by simp) (lv_room (Nat.le_trans hr2 hr)) hd ⟨by omega, by omega⟩)
theorem wp_callI {S : SH} {M : MD} {d cb sb : Nat} {Q : Option Value → AH → Prop} {pc : Nat} {L rest as : List Value} {h : AH} {N : MD} {index n cb1 sb1 mcN msN : Nat} {b : Nat} (hM : MF N n) (hnone : N.2.2.2.1 = none) (hi : Cond.instanceMethod N.1 ∈ TT) (hy : N.1.name = "<init>") (hlk : Cond.methodLink M.1.cls index N.1 ∈ TT) (hd : decode M.2.1 pc = .ok (.invokespecial index, 3)) (has : as.length = n) (hr : (rest.map fun v => v.category).sum ≤ 8) (hc : cb = cb1 + mcN ∧ sb = sb1 + msN) (hcp : CP S N d mcN msN (.ref b :: as) h (fun r h' => WP S M (d + 1) cb1 sb1 Q (pc + 3) L (r.toList ++ rest) h')) : WP S M (d + 1) cb sb Q pc L (as.reverse ++ .ref b :: rest) h := by
  intro p l e R s m args below meth c G B mc ms C ls H locs cells slots hl hw hS hn
  obtain ⟨Cx, Cb, Cr, Cl, Ct, Co, Ck, Cn, Cf, Cm, CK, Cs, CB, CE⟩ := C
  have C : CX M (d + 1) p R s m args meth c G B mc ms := ⟨Cx, Cb, Cr, Cl, Ct, Co, Ck, Cn, Cf, Cm, CK, Cs, CB, CE⟩
  obtain ⟨rfl, rfl⟩ := hc
  have hr2 := catsum B rest
  have PK : ∀ U : State, U.heap = H → s.WarmedH U.vm → PC S G B (.ref b :: as) h (Value.ref (B.1 + b) :: as.map (rn B)).toArray U := fun U hU hW => ⟨rfl, by rw [hU]; exact hw, CK.moved hW.alike, Cs.to hW (fun a q1 q2 => by rw [hU]; exact hS.2.1 a q1 q2)⟩
  have cw := callB_of (rm := RM d mcN msN) (R := R) (own := M.1.cls) (index := index) (s := s) (args := args) n Ct (goodWS hM) rfl rfl rfl (Ct _ hM.2.1) (Ct _ hlk) hM.2.2.1 ⟨by have := hM.2.2.2; show d + 1 ≤ R.frames; omega, by have := hM.2.2.2; show 8 + (N.2.2.1 + 11) + 64 * d ≤ R.locals; omega⟩
  rw [hnone] at cw
  refine back_to C hl hS hn (va_runI (As := as.map (rn B)) (b := B.1 + b) ⟨Cx, Cb, Cl, Co, Ct⟩ (hcp l G B) ⟨cw, hy, Ct _ hi⟩ ⟨blindPC, PK⟩ rfl (by rw [List.length_map]; exact has) hl.1 (by simp [rn]) (lv_room (Nat.le_trans hr2 hr)) hd ⟨by omega, by omega⟩)
theorem wp_callIN {S : SH} {M : MD} {d cb sb : Nat} {Q : Option Value → AH → Prop} {pc : Nat} {L rest as : List Value} {h : AH} {N : MD} {index n cb1 sb1 mcN msN : Nat} {b : Nat} {host : String} (hM : MF N n) (hnone : N.2.2.2.1 = none) (hi : Cond.instanceMethod N.1 ∈ TT) (hy : N.1.name = "<init>") (hlk : (M.1.cls, index, N.1, host) ∈ nestL) (hd : decode M.2.1 pc = .ok (.invokespecial index, 3)) (has : as.length = n) (hr : (rest.map fun v => v.category).sum ≤ 8) (hc : cb = cb1 + mcN ∧ sb = sb1 + msN) (hcp : CP S N d mcN msN (.ref b :: as) h (fun r h' => WP S M (d + 1) cb1 sb1 Q (pc + 3) L (r.toList ++ rest) h')) : WP S M (d + 1) cb sb Q pc L (as.reverse ++ .ref b :: rest) h := by
  intro p l e R s m args below meth c G B mc ms C ls H locs cells slots hl hw hS hn
  obtain ⟨Cx, Cb, Cr, Cl, Ct, Co, Ck, Cn, Cf, Cm, CK, Cs, CB, CE⟩ := C
  have C : CX M (d + 1) p R s m args meth c G B mc ms := ⟨Cx, Cb, Cr, Cl, Ct, Co, Ck, Cn, Cf, Cm, CK, Cs, CB, CE⟩
  obtain ⟨rfl, rfl⟩ := hc
  have hr2 := catsum B rest
  have PK : ∀ U : State, U.heap = H → s.WarmedH U.vm → PC S G B (.ref b :: as) h (Value.ref (B.1 + b) :: as.map (rn B)).toArray U := fun U hU hW => ⟨rfl, by rw [hU]; exact hw, CK.moved hW.alike, Cs.to hW (fun a q1 q2 => by rw [hU]; exact hS.2.1 a q1 q2)⟩
  have cw := va_cnB (own := M.1.cls) (host := host) (index := index) (R := R) (s := s) (args := args) n Ct (goodWS hM) rfl (rm := RM d mcN msN) rfl rfl (Cs.2.2.2.1 _ hlk) (Ct _ hM.2.1) hM.2.2.1 ⟨by have := hM.2.2.2; show d + 1 ≤ R.frames; omega, by have := hM.2.2.2; show 8 + (N.2.2.1 + 11) + 64 * d ≤ R.locals; omega⟩
  rw [hnone] at cw
  refine back_to C hl hS hn (va_runIN (As := as.map (rn B)) (b := B.1 + b) ⟨Cx, Cb, Cl, Co, Ct⟩ (hcp l G B) ⟨cw, hy, Ct _ hi⟩ ⟨blindPC, PK⟩ rfl (by rw [List.length_map]; exact has) hl.1 (by simp [rn]) (lv_room (Nat.le_trans hr2 hr)) hd ⟨by omega, by omega⟩)
theorem wp_callVN {S : SH} {M : MD} {d cb sb : Nat} {Q : Option Value → AH → Prop} {pc : Nat} {L rest as : List Value} {h : AH} {N : MD} {index n cb1 sb1 mcN msN : Nat} {b ci : Nat} {host : String} (hM : MF N n) (hi : Cond.instanceMethod N.1 ∈ TT) (hse : Cond.selects N.1.cls N.1 N.1 ∈ TT) (hlk : (M.1.cls, index, N.1, host) ∈ nestL) (hd : decode M.2.1 pc = .ok (.invokevirtual index, 3)) (hrv : KD S h b = some (0, ci)) (hcl : ∃ T k, vwCl[ci]? = some (N.1.cls, T, k)) (has : as.length = n) (hr : (rest.map fun v => v.category).sum ≤ 8) (hc : cb = cb1 + mcN ∧ sb = sb1 + msN) (hcp : CP S N d mcN msN (.ref b :: as) h (fun r h' => WP S M (d + 1) cb1 sb1 Q (pc + 3) L (r.toList ++ rest) h')) : WP S M (d + 1) cb sb Q pc L (as.reverse ++ .ref b :: rest) h := by
  intro p l e R s m args below meth c G B mc ms C ls H locs cells slots hl hw hS hn
  obtain ⟨Cx, Cb, Cr, Cl, Ct, Co, Ck, Cn, Cf, Cm, CK, Cs, CB, CE⟩ := C
  have C : CX M (d + 1) p R s m args meth c G B mc ms := ⟨Cx, Cb, Cr, Cl, Ct, Co, Ck, Cn, Cf, Cm, CK, Cs, CB, CE⟩
  obtain ⟨rfl, rfl⟩ := hc
  obtain ⟨T, k, hcl⟩ := hcl
  have hr2 := catsum B rest
  have PK : ∀ U : State, U.heap = H → s.WarmedH U.vm → PC S G B (.ref b :: as) h (Value.ref (B.1 + b) :: as.map (rn B)).toArray U := fun U hU hW => ⟨rfl, by rw [hU]; exact hw, CK.moved hW.alike, Cs.to hW (fun a q1 q2 => by rw [hU]; exact hS.2.1 a q1 q2)⟩
  have hv := va_recv CK (vaP1 (hw.2 b _ hrv)) hcl (q0 := 0) (a := B.1 + b) (ci := ci) (fs := fs_ S B h b ci) rfl
  refine back_to C hl hS hn (va_runVN (As := as.map (rn B)) (b := B.1 + b) ⟨Cx, Cb, Cl, Co, Ct⟩ (hcp l G B) ⟨va_cnB (own := M.1.cls) (host := host) (index := index) n Ct (goodWS hM) rfl (rm := RM d mcN msN) rfl rfl (Cs.2.2.2.1 _ hlk) (Ct _ hM.2.1) hM.2.2.1 ⟨by have := hM.2.2.2; show d + 1 ≤ R.frames; omega, by have := hM.2.2.2; show 8 + (N.2.2.1 + 11) + 64 * d ≤ R.locals; omega⟩, Ct _ hi, Ct _ hse⟩ ⟨blindPC, hv, PK⟩ rfl (by rw [List.length_map]; exact has) hl.1 (by simp [rn]) (lv_room (Nat.le_trans hr2 hr)) hd ⟨by omega, by omega⟩)

theorem vaP1 {D : va_G} {cl : List vw_C} {x : Nat × va_E} {H : Heap} (h : va_at D cl x H) : va_P D cl [x] H := fun k q hk => by
  cases k with
  | zero => cases hk; exact h
  | succ k => simp at hk
theorem vcell_congr {S : SH} {G : GG} {B : BB} {h h2 : AH} {q : Nat} (e1 : h2.2.1 q = h.2.1 q) (e2 : h2.2.2.1 q = h.2.2.1 q) (e3 : h2.2.2.2 q = h.2.2.2 q) (kk : Nat × Nat) : vcell S G B h2 q kk = vcell S G B h q kk := by
  have hr : RF S h2 q = RF S h q := by funext j; unfold RF; rw [e3]
  have ha : ∀ k ty, avl S h2 q k ty = avl S h q k ty := fun k ty => by unfold avl; rw [e1, e2, hr]
  unfold vcell
  rw [e1, e2, hr]
  simp only [ha]
theorem KD_eq {S : SH} {h h2 : AH} (e : h2.1 = h.1) (p : Nat) : KD S h2 p = KD S h p := by unfold KD; rw [e]
/-- a cell that was written -/
theorem Wd.upd {S : SH} {G : GG} {B : BB} {h h2 : AH} {H H1 : Heap} {p : Nat} {k0 : Nat × Nat} (hw : Wd S G B h H) (e : h2.1 = h.1) (hp : KD S h p = some k0) (hz : H1.size = H.size) (hq : ∀ q, q ≠ B.1 + p → H1[q]? = H[q]?) (hc : va_at G.1 vwCl (B.1 + p, vcell S G B h2 p k0) H1) (ho : ∀ q kk, q ≠ p → vcell S G B h2 q kk = vcell S G B h q kk) : Wd S G B h2 H1 := by
  refine ⟨by rw [hz, e]; exact hw.1, fun q kk hk => ?_⟩
  rw [KD_eq e] at hk
  by_cases hqp : q = p
  · subst hqp
    rw [hp] at hk
    cases hk
    exact hc
  · rw [ho q kk hqp]
    exact (hw.2 q kk hk).kept (hq _ (by show B.1 + q ≠ B.1 + p; omega))
/-- facts of a class by its number -/
def KF (ci : Nat) : Prop := ∃ (C : String) (T : u_T) (N : Nat), vwCl[ci]? = some (C, T, N) ∧ cN ci = N ∧ (∀ w ∈ u_ws C T N, w ∈ TT) ∧ (∀ j, j < N → parseFieldDescriptor (T j).2.2.1 = some (cTy ci j)) ∧ ∀ a, a < N → ∀ b, b < N → a ≠ b → (T a).2.1 ≠ (T b).2.1
/-- a field as a class's pool names it: class ci's field k -/
def FL (own : String) (index ci k : Nat) (fin : Bool) : Prop := ∃ (C : String) (T : u_T) (N : Nat), vwCl[ci]? = some (C, T, N) ∧ k < N ∧ Cond.fieldLink own index (T k).1 (T k).2.1 (T k).2.2.1 ∈ TT ∧ (T k).2.2.2 = fin ∧ KF ci
def fs_ (S : SH) (B : BB) (h : AH) (p ci : Nat) : List Value := (List.range (cN ci)).map (fun k => rn B (avl S h p k (cTy ci k)))
theorem fs_at {S : SH} {B : BB} {h : AH} {p ci k : Nat} (hk : k < cN ci) : (fs_ S B h p ci)[k]? = some (rn B (avl S h p k (cTy ci k))) := by
  unfold fs_
  simp [hk]
theorem FL.kf {own : String} {index ci k : Nat} {fin : Bool} (h : FL own index ci k fin) : ∃ (C : String) (T : u_T) (N : Nat), vwCl[ci]? = some (C, T, N) ∧ k < N ∧ Cond.fieldLink own index (T k).1 (T k).2.1 (T k).2.2.1 ∈ TT ∧ (T k).2.2.2 = fin ∧ cN ci = N ∧ (∀ w ∈ u_ws C T N, w ∈ TT) ∧ (∀ j, j < N → parseFieldDescriptor (T j).2.2.1 = some (cTy ci j)) ∧ ∀ a, a < N → ∀ b, b < N → a ≠ b → (T a).2.1 ≠ (T b).2.1 := by
  obtain ⟨C, T, N, h1, h2, h3, h4, C', T', N', g1, g2, g3, g4, g5⟩ := h
  have e := g1.symm.trans h1
  cases e
  exact ⟨C, T, N, h1, h2, h3, h4, g2, g3, g4, g5⟩
theorem wp_get {S : SH} {M : MD} {d cb sb : Nat} {Q : Option Value → AH → Prop} {pc : Nat} {L st : List Value} {h : AH} {index ci k p0 : Nat} {fin : Bool} {v : Value} (hF : FL M.1.cls index ci k fin) (hk : KD S h p0 = some (0, ci)) (hv : avl S h p0 k (cTy ci k) = v) (hd : decode M.2.1 pc = .ok (.getfield index, 3)) (kn : WP S M d cb sb Q (pc + 3) L (v :: st) h) : WP S M d cb sb Q pc L (.ref p0 :: st) h := by
  intro p l e R s m args below meth c G B mc ms C ls H locs cells slots hl hw hS hn
  obtain ⟨Cx, Cb, Cr, Cl, Ct, Co, Ck, Cn, Cf, Cm, CK, Cs, CB, CE⟩ := C
  have C : CX M d p R s m args meth c G B mc ms := ⟨Cx, Cb, Cr, Cl, Ct, Co, Ck, Cn, Cf, Cm, CK, Cs, CB, CE⟩
  obtain ⟨C', T, N, h1, h2, h3, h4, h5, h6, h7, h8⟩ := hF.kf
  have hP : va_at G.1 vwCl (B.1 + p0, .inr (ci, fs_ S B h p0 ci)) H := hw.2 p0 _ hk
  refine va_get (v := rn B v) Cx Cb Ct h6 Co CK (vaP1 hP) 0 rfl h1 k h2 (Ct _ h3) (fun _ z => z) ?_ hd (kn p l e R s m args below meth c G B mc ms C ls H locs cells slots hl hw hS hn)
  rw [fs_at (by rw [h5]; exact h2), hv]
/-- a field that is written: the machine's part -/
theorem xr_put {S : SH} {M : MD} {d : Nat} {p : Program} {l : Launch} {e : Env} {R : Room} {s : State} {m : MethodId} {args : Array Value} {below : List Frame} {meth : Method} {c : Code} {G : GG} {B : BB} {mc ms : Nat} {H : Heap} {locs : List Loc} {cells slots : Nat} {Z : State → Prop} {pc : Nat} {ls : Array Slot} {rest : List Value} {h : AH} (C : CX M d p R s m args meth c G B mc ms) (hS : va_S (fun q => B.1 ≤ q) s.heap H locs) (hw : Wd S G B h H)
    {index ci k p0 : Nat} {fin : Bool} {v : Value} (hF : FL M.1.cls index ci k fin) (hfin : fin = false ∨ M.1.name = "<init>" ∧ (∀ C T N, vwCl[ci]? = some (C, T, N) → (T k).1 = M.1.cls)) (hk : KD S h p0 = some (0, ci)) (hn : narrow (cTy ci k) v = v) (hfit : fits (cTy ci k) v = true) (hd : decode M.2.1 pc = .ok (.putfield index, 3))
    (kk : ∀ (H1 : Heap) (locs1 : List Loc), H1.size = H.size → (∀ q, q ≠ B.1 + p0 → H1[q]? = H[q]?) → va_at G.1 vwCl (B.1 + p0, .inr (ci, (fs_ S B h p0 ci).set k v)) H1 → va_S (fun q => B.1 ≤ q) s.heap H1 locs1 → W p l e R s m args below meth c H1 locs1 cells slots Z (F0 m (pc + 3) ls rest)) : W p l e R s m args below meth c H locs cells slots Z (F0 m pc ls (v :: .ref (B.1 + p0) :: rest)) := by
  obtain ⟨Cx, Cb, Cr, Cl, Ct, Co, Ck, Cn, Cf, Cm, CK, Cs, CB, CE⟩ := C
  obtain ⟨C', T, N, h1, h2, h3, h4, h5, h6, h7, h8⟩ := hF.kf
  have hl : k < (fs_ S B h p0 ci).length := by unfold fs_; simp; rw [h5]; exact h2
  obtain ⟨r, g1, cell, q1, q2, q3, q4⟩ : va_at G.1 vwCl (B.1 + p0, .inr (ci, fs_ S B h p0 ci)) H := hw.2 p0 _ hk
  cases g1.symm.trans h1
  have hap := va_apart (own := M.1.cls) Ct h6 (cTy ci) h7 h8 CK h1
  obtain ⟨f1, f2, kC, f3, f4⟩ := CK.1 ci _ h1
  obtain ⟨cf, kf, fi, fd, hi, hsl⟩ := f1 k h2
  have hst := (u_facts f2 f3 (u_lays Ct h6 h2) hi).1
  have fin1 : ∀ (H1 : Heap), H1[B.1 + p0]? = some (cell.setSlot (G.1.2 ci k) v) → va_at G.1 vwCl (B.1 + p0, .inr (ci, (fs_ S B h p0 ci).set k v)) H1 := fun H1 z => ⟨_, h1, t_OB.to (V := updV (vp_V (fs_ S B h p0 ci)) k v) ⟨_, z, q2, q3, t_set q4 hap h2 v⟩ (fun j _ => vp_updV_set hl v j)⟩
  have hlay := Ct _ (h6 _ (u_in_lay h2))
  unfold u_lay at hlay
  rw [h4] at hlay
  cases fin with
  | false =>
    rw [if_neg (by decide)] at hlay
    refine W.putK Cx Cb (f := fd) ⟨Co, Ct _ h3, ⟨_, _, _, hi⟩, hst⟩ (by rw [q2]; exact u_store f2 f3 f4 hlay hi (h7 k h2) hn hfit) q1 q3 (by rw [hsl]; exact k2_hasslot (q4 k h2)) rfl rfl hd fun H1 e1 e2 e3 => ?_
    rw [hsl] at e1 ⊢
    exact kk H1 _ e2 e3 (fin1 H1 e1) (hS.put e2 e3 (Nat.le_add_right _ _))
  | true =>
    rw [if_pos rfl] at hlay
    obtain ⟨hin, hdecl⟩ := hfin.resolve_left (by decide)
    have hcf : m.cls = cf := by
      obtain ⟨_, _, c', _, _, _, -, -, hf', -, -, -, hown2, -⟩ := Cond.laysFinal_spec hlay
      have e1 : c' = cf := by have := hi.symm.trans hf'; simp at this; exact this.1.symm
      rw [hdecl _ _ _ h1] at hown2
      rw [← e1]
      exact Option.some.inj (Co.symm.trans hown2)
    refine W.putFinK Cx Cb Co (Ct _ h3) hi hst hcf (Cn.trans hin) (by rw [q2]; exact u_fits f2 f3 f4 (Or.inr hlay) hi (h7 k h2) hn hfit) q1 q3 (by rw [hsl]; exact k2_hasslot (q4 k h2)) rfl rfl hd fun H1 e1 e2 e3 => ?_
    rw [hsl] at e1 ⊢
    exact kk H1 _ e2 e3 (fin1 H1 e1) (hS.put e2 e3 (Nat.le_add_right _ _))
theorem fs_set {S : SH} {B : BB} {h h2 : AH} {p ci k : Nat} {v : Value} (hk : k < cN ci) (e0 : rn B (avl S h2 p k (cTy ci k)) = v) (e1 : ∀ j, j ≠ k → avl S h2 p j (cTy ci j) = avl S h p j (cTy ci j)) : fs_ S B h2 p ci = (fs_ S B h p ci).set k v := by
  apply List.ext_getElem?
  intro j
  rw [List.getElem?_set]
  by_cases hj : k = j
  · subst hj
    rw [if_pos rfl, fs_at hk, e0, if_pos (by unfold fs_; simpa using hk)]
  · rw [if_neg hj]
    by_cases hl : j < cN ci
    · rw [fs_at hl, fs_at hl, e1 j (Ne.symm hj)]
    · unfold fs_
      simp [hl]
theorem wp_putI {S : SH} {M : MD} {d cb sb : Nat} {Q : Option Value → AH → Prop} {pc : Nat} {L st : List Value} {h : AH} {index ci k p0 : Nat} {fin : Bool} {x : Int32} (hF : FL M.1.cls index ci k fin) (hfin : fin = false ∨ M.1.name = "<init>" ∧ (∀ C T N, vwCl[ci]? = some (C, T, N) → (T k).1 = M.1.cls)) (hk : KD S h p0 = some (0, ci)) (hty : cTy ci k = .int ∨ cTy ci k = .boolean ∧ (x = 0 ∨ x = 1)) (hd : decode M.2.1 pc = .ok (.putfield index, 3)) {h1 : AH} (hh : stI h p0 k x = h1) (kn : WP S M d cb sb Q (pc + 3) L st h1) : WP S M d cb sb Q pc L (.int x :: .ref p0 :: st) h := by
  intro p l e R s m args below meth c G B mc ms C ls H locs cells slots hl hw hS hn
  obtain ⟨Cx, Cb, Cr, Cl, Ct, Co, Ck, Cn, Cf, Cm, CK, Cs, CB, CE⟩ := C
  have C : CX M d p R s m args meth c G B mc ms := ⟨Cx, Cb, Cr, Cl, Ct, Co, Ck, Cn, Cf, Cm, CK, Cs, CB, CE⟩
  subst hh
  have hkl : k < cN ci := by obtain ⟨C', T, N, h1, h2, h3, h4, h5, -⟩ := hF.kf; rw [h5]; exact h2
  have a0 : ∀ q, avl S (stI h p0 k x) p0 k (cTy ci k) = q → narrow (cTy ci k) q = q ∧ fits (cTy ci k) q = true ∧ q = .int x := by
    intro q hq
    subst hq
    rcases hty with hty | ⟨hty, rfl | rfl⟩ <;> simp [hty, avl, stI, u2, narrow, fits]
  have a1 : ∀ j, j ≠ k → avl S (stI h p0 k x) p0 j (cTy ci j) = avl S h p0 j (cTy ci j) := by
    intro j hj
    unfold avl stI RF
    cases cTy ci j <;> simp [u2, hj]
  have a2 := a0 _ rfl
  rw [a2.2.2] at a2
  refine xr_put C hS hw hF hfin hk (v := .int x) a2.1 a2.2.1 hd fun H1 locs1 e1 e2 e3 e4 => ?_
  refine kn p l e R s m args below meth c G B mc ms C ls H1 locs1 cells slots hl (hw.upd (h2 := stI h p0 k x) rfl hk e1 e2 ?_ (fun q kk hq => vcell_congr ?_ ?_ ?_ kk)) e4 hn
  · show va_at G.1 vwCl (B.1 + p0, .inr (ci, fs_ S B (stI h p0 k x) p0 ci)) H1
    rw [fs_set (h := h) (v := .int x) hkl (by rw [(a0 _ rfl).2.2]; rfl) a1]
    exact e3
  all_goals first | rfl | exact u2_row _ _ _ hq
theorem wp_putJ {S : SH} {M : MD} {d cb sb : Nat} {Q : Option Value → AH → Prop} {pc : Nat} {L st : List Value} {h : AH} {index ci k p0 : Nat} {fin : Bool} {x : Int64} (hF : FL M.1.cls index ci k fin) (hfin : fin = false ∨ M.1.name = "<init>" ∧ (∀ C T N, vwCl[ci]? = some (C, T, N) → (T k).1 = M.1.cls)) (hk : KD S h p0 = some (0, ci)) (hty : cTy ci k = .long) (hd : decode M.2.1 pc = .ok (.putfield index, 3)) {h1 : AH} (hh : stJ h p0 k x = h1) (kn : WP S M d cb sb Q (pc + 3) L st h1) : WP S M d cb sb Q pc L (.long x :: .ref p0 :: st) h := by
  intro p l e R s m args below meth c G B mc ms C ls H locs cells slots hl hw hS hn
  obtain ⟨Cx, Cb, Cr, Cl, Ct, Co, Ck, Cn, Cf, Cm, CK, Cs, CB, CE⟩ := C
  have C : CX M d p R s m args meth c G B mc ms := ⟨Cx, Cb, Cr, Cl, Ct, Co, Ck, Cn, Cf, Cm, CK, Cs, CB, CE⟩
  subst hh
  have hkl : k < cN ci := by obtain ⟨C', T, N, h1, h2, h3, h4, h5, -⟩ := hF.kf; rw [h5]; exact h2
  have a0 : ∀ q, avl S (stJ h p0 k x) p0 k (cTy ci k) = q → narrow (cTy ci k) q = q ∧ fits (cTy ci k) q = true ∧ q = .long x := by
    intro q hq
    subst hq
    have hty := hty <;> simp [hty, avl, stJ, u2, narrow, fits]
  have a1 : ∀ j, j ≠ k → avl S (stJ h p0 k x) p0 j (cTy ci j) = avl S h p0 j (cTy ci j) := by
    intro j hj
    unfold avl stJ RF
    cases cTy ci j <;> simp [u2, hj]
  have a2 := a0 _ rfl
  rw [a2.2.2] at a2
  refine xr_put C hS hw hF hfin hk (v := .long x) a2.1 a2.2.1 hd fun H1 locs1 e1 e2 e3 e4 => ?_
  refine kn p l e R s m args below meth c G B mc ms C ls H1 locs1 cells slots hl (hw.upd (h2 := stJ h p0 k x) rfl hk e1 e2 ?_ (fun q kk hq => vcell_congr ?_ ?_ ?_ kk)) e4 hn
  · show va_at G.1 vwCl (B.1 + p0, .inr (ci, fs_ S B (stJ h p0 k x) p0 ci)) H1
    rw [fs_set (h := h) (v := .long x) hkl (by rw [(a0 _ rfl).2.2]; rfl) a1]
    exact e3
  all_goals first | rfl | exact u2_row _ _ _ hq
theorem wp_putR {S : SH} {M : MD} {d cb sb : Nat} {Q : Option Value → AH → Prop} {pc : Nat} {L st : List Value} {h : AH} {index ci k p0 : Nat} {fin : Bool} {x : Option Nat} (hF : FL M.1.cls index ci k fin) (hfin : fin = false ∨ M.1.name = "<init>" ∧ (∀ C T N, vwCl[ci]? = some (C, T, N) → (T k).1 = M.1.cls)) (hk : KD S h p0 = some (0, ci)) (hty : (∃ C, cTy ci k = .object C) ∨ ∃ t, cTy ci k = .array t) (hs : S.2 p0 = none) (hd : decode M.2.1 pc = .ok (.putfield index, 3)) {h1 : AH} (hh : stR h p0 k x = h1) {v : Value} (hv : rfv x = v) (kn : WP S M d cb sb Q (pc + 3) L st h1) : WP S M d cb sb Q pc L (v :: .ref p0 :: st) h := by
  intro p l e R s m args below meth c G B mc ms C ls H locs cells slots hl hw hS hn
  obtain ⟨Cx, Cb, Cr, Cl, Ct, Co, Ck, Cn, Cf, Cm, CK, Cs, CB, CE⟩ := C
  have C : CX M d p R s m args meth c G B mc ms := ⟨Cx, Cb, Cr, Cl, Ct, Co, Ck, Cn, Cf, Cm, CK, Cs, CB, CE⟩
  subst hh
  subst hv
  have hkl : k < cN ci := by obtain ⟨C', T, N, h1, h2, h3, h4, h5, -⟩ := hF.kf; rw [h5]; exact h2
  have a0 : avl S (stR h p0 k x) p0 k (cTy ci k) = rfv x := by
    rcases hty with ⟨_, hty⟩ | ⟨_, hty⟩ <;> simp [hty, avl, RF, hs, stR, u2]
  have a2 : narrow (cTy ci k) (rn B (rfv x)) = rn B (rfv x) ∧ fits (cTy ci k) (rn B (rfv x)) = true := by
    rcases hty with ⟨_, hty⟩ | ⟨_, hty⟩ <;> rw [hty] <;> cases x <;> exact ⟨rfl, rfl⟩
  have a1 : ∀ j, j ≠ k → avl S (stR h p0 k x) p0 j (cTy ci j) = avl S h p0 j (cTy ci j) := by
    intro j hj
    unfold avl stR RF
    rw [hs]
    cases cTy ci j <;> simp [u2, hj]
  refine xr_put C hS hw hF hfin hk (v := rn B (rfv x)) a2.1 a2.2 hd fun H1 locs1 e1 e2 e3 e4 => ?_
  refine kn p l e R s m args below meth c G B mc ms C ls H1 locs1 cells slots hl (hw.upd (h2 := stR h p0 k x) rfl hk e1 e2 ?_ (fun q kk hq => vcell_congr ?_ ?_ ?_ kk)) e4 hn
  · show va_at G.1 vwCl (B.1 + p0, .inr (ci, fs_ S B (stR h p0 k x) p0 ci)) H1
    rw [fs_set (h := h) (v := rn B (rfv x)) hkl (by rw [a0]) a1]
    exact e3
  all_goals first | rfl | exact u2_row _ _ _ hq
theorem wp_iald {S : SH} {M : MD} {d cb sb : Nat} {Q : Option Value → AH → Prop} {pc : Nat} {L st : List Value} {h : AH} {p0 n : Nat} {i : Int32} (hk : KD S h p0 = some (1, n)) (hin : vp_in i n) (hd : decode M.2.1 pc = .ok (.iaload, 1)) (kn : WP S M d cb sb Q (pc + 1) L (.int (h.2.1 p0 i.toNatClampNeg) :: st) h) : WP S M d cb sb Q pc L (.int i :: .ref p0 :: st) h := by
  intro p l e R s m args below meth c G B mc ms C ls H locs cells slots hl hw hS hn
  obtain ⟨Cx, Cb, Cr, Cl, Ct, Co, Ck, Cn, Cf, Cm, CK, Cs, CB, CE⟩ := C
  have C : CX M d p R s m args meth c G B mc ms := ⟨Cx, Cb, Cr, Cl, Ct, Co, Ck, Cn, Cf, Cm, CK, Cs, CB, CE⟩
  exact va_iald Cx Cb CK (vaP1 (hw.2 p0 _ hk)) 0 0 rfl rfl hin hd (kn p l e R s m args below meth c G B mc ms C ls H locs cells slots hl hw hS hn)
theorem wp_lald {S : SH} {M : MD} {d cb sb : Nat} {Q : Option Value → AH → Prop} {pc : Nat} {L st : List Value} {h : AH} {p0 n : Nat} {i : Int32} (hk : KD S h p0 = some (2, n)) (hin : vp_in i n) (hd : decode M.2.1 pc = .ok (.laload, 1)) (kn : WP S M d cb sb Q (pc + 1) L (.long (h.2.2.1 p0 i.toNatClampNeg) :: st) h) : WP S M d cb sb Q pc L (.int i :: .ref p0 :: st) h := by
  intro p l e R s m args below meth c G B mc ms C ls H locs cells slots hl hw hS hn
  obtain ⟨Cx, Cb, Cr, Cl, Ct, Co, Ck, Cn, Cf, Cm, CK, Cs, CB, CE⟩ := C
  have C : CX M d p R s m args meth c G B mc ms := ⟨Cx, Cb, Cr, Cl, Ct, Co, Ck, Cn, Cf, Cm, CK, Cs, CB, CE⟩
  exact va_lald Cx Cb CK (vaP1 (hw.2 p0 _ hk)) 0 1 rfl rfl hin hd (kn p l e R s m args below meth c G B mc ms C ls H locs cells slots hl hw hS hn)
theorem wp_zald {S : SH} {M : MD} {d cb sb : Nat} {Q : Option Value → AH → Prop} {pc : Nat} {L st : List Value} {h : AH} {p0 n : Nat} {i : Int32} (hk : KD S h p0 = some (3, n)) (hin : vp_in i n) (hd : decode M.2.1 pc = .ok (.baload, 1)) (kn : WP S M d cb sb Q (pc + 1) L (.int (h.2.1 p0 i.toNatClampNeg) :: st) h) : WP S M d cb sb Q pc L (.int i :: .ref p0 :: st) h := by
  intro p l e R s m args below meth c G B mc ms C ls H locs cells slots hl hw hS hn
  obtain ⟨Cx, Cb, Cr, Cl, Ct, Co, Ck, Cn, Cf, Cm, CK, Cs, CB, CE⟩ := C
  have C : CX M d p R s m args meth c G B mc ms := ⟨Cx, Cb, Cr, Cl, Ct, Co, Ck, Cn, Cf, Cm, CK, Cs, CB, CE⟩
  exact va_zald Cx Cb CK (vaP1 (hw.2 p0 _ hk)) 0 2 rfl rfl hin hd (kn p l e R s m args below meth c G B mc ms C ls H locs cells slots hl hw hS hn)
theorem wp_aaldA {S : SH} {M : MD} {d cb sb : Nat} {Q : Option Value → AH → Prop} {pc : Nat} {L st : List Value} {h : AH} {p0 n : Nat} {i : Int32} (hk : KD S h p0 = some (4, n)) (hin : vp_in i n) (hd : decode M.2.1 pc = .ok (.aaload, 1)) {v : Value} (hv : rfv (RF S h p0 i.toNatClampNeg) = v) (kn : WP S M d cb sb Q (pc + 1) L (v :: st) h) : WP S M d cb sb Q pc L (.int i :: .ref p0 :: st) h := by
  intro p l e R s m args below meth c G B mc ms C ls H locs cells slots hl hw hS hn
  obtain ⟨Cx, Cb, Cr, Cl, Ct, Co, Ck, Cn, Cf, Cm, CK, Cs, CB, CE⟩ := C
  have C : CX M d p R s m args meth c G B mc ms := ⟨Cx, Cb, Cr, Cl, Ct, Co, Ck, Cn, Cf, Cm, CK, Cs, CB, CE⟩
  subst hv
  refine va_aldq Cx Cb CK (vaP1 (hw.2 p0 _ hk)) 0 3 rfl rfl hin hd ?_
  rw [← rn_rfv]
  exact kn p l e R s m args below meth c G B mc ms C ls H locs cells slots hl hw hS hn
theorem wp_aaldB {S : SH} {M : MD} {d cb sb : Nat} {Q : Option Value → AH → Prop} {pc : Nat} {L st : List Value} {h : AH} {p0 n : Nat} {i : Int32} (hk : KD S h p0 = some (5, n)) (hin : vp_in i n) (hd : decode M.2.1 pc = .ok (.aaload, 1)) {v : Value} (hv : rfv (RF S h p0 i.toNatClampNeg) = v) (kn : WP S M d cb sb Q (pc + 1) L (v :: st) h) : WP S M d cb sb Q pc L (.int i :: .ref p0 :: st) h := by
  intro p l e R s m args below meth c G B mc ms C ls H locs cells slots hl hw hS hn
  obtain ⟨Cx, Cb, Cr, Cl, Ct, Co, Ck, Cn, Cf, Cm, CK, Cs, CB, CE⟩ := C
  have C : CX M d p R s m args meth c G B mc ms := ⟨Cx, Cb, Cr, Cl, Ct, Co, Ck, Cn, Cf, Cm, CK, Cs, CB, CE⟩
  subst hv
  refine va_aldq Cx Cb CK (vaP1 (hw.2 p0 _ hk)) 0 4 rfl rfl hin hd ?_
  rw [← rn_rfv]
  exact kn p l e R s m args below meth c G B mc ms C ls H locs cells slots hl hw hS hn
theorem wp_alen {S : SH} {M : MD} {d cb sb : Nat} {Q : Option Value → AH → Prop} {pc : Nat} {L st : List Value} {h : AH} {p0 n t : Nat} (hk : KD S h p0 = some (t, n)) (ht : 1 ≤ t ∧ t ≤ 5) (hd : decode M.2.1 pc = .ok (.arraylength, 1)) (kn : WP S M d cb sb Q (pc + 1) L (.int (nI n) :: st) h) : WP S M d cb sb Q pc L (.ref p0 :: st) h := by
  intro p l e R s m args below meth c G B mc ms C ls H locs cells slots hl hw hS hn
  obtain ⟨Cx, Cb, Cr, Cl, Ct, Co, Ck, Cn, Cf, Cm, CK, Cs, CB, CE⟩ := C
  have C : CX M d p R s m args meth c G B mc ms := ⟨Cx, Cb, Cr, Cl, Ct, Co, Ck, Cn, Cf, Cm, CK, Cs, CB, CE⟩
  have hP := vaP1 (hw.2 p0 _ hk)
  have kn := kn p l e R s m args below meth c G B mc ms C ls H locs cells slots hl hw hS hn
  match t, ht, hP with
  | 1, _, hP => exact va_alen Cx Cb CK hP 0 0 rfl (ty := .int) rfl rfl hd kn
  | 2, _, hP => exact va_alen Cx Cb CK hP 0 1 rfl (ty := .long) rfl rfl hd kn
  | 3, _, hP => exact va_alen Cx Cb CK hP 0 2 rfl (ty := .boolean) rfl rfl hd kn
  | 4, _, hP => exact va_alen Cx Cb CK hP 0 3 rfl (ty := .object RX6) rfl rfl hd kn
  | 5, _, hP => exact va_alen Cx Cb CK hP 0 4 rfl (ty := .object RX8) rfl rfl hd kn
theorem wp_iast {S : SH} {M : MD} {d cb sb : Nat} {Q : Option Value → AH → Prop} {pc : Nat} {L st : List Value} {h : AH} {p0 n : Nat} {i : Int32} {x : Int32} (hk : KD S h p0 = some (1, n)) (hin : vp_in i n) (hd : decode M.2.1 pc = .ok (.iastore, 1)) {h1 : AH} (hh : stI h p0 i.toNatClampNeg x = h1) (kn : WP S M d cb sb Q (pc + 1) L st h1) : WP S M d cb sb Q pc L (.int x :: .int i :: .ref p0 :: st) h := by
  intro p l e R s m args below meth c G B mc ms C ls H locs cells slots hl hw hS hn
  obtain ⟨Cx, Cb, Cr, Cl, Ct, Co, Ck, Cn, Cf, Cm, CK, Cs, CB, CE⟩ := C
  have C : CX M d p R s m args meth c G B mc ms := ⟨Cx, Cb, Cr, Cl, Ct, Co, Ck, Cn, Cf, Cm, CK, Cs, CB, CE⟩
  subst hh
  refine W.iast Cx Cb (hw.2 p0 _ hk) ((CK.2 0 _ rfl).1 n (fun j => .int (h.2.1 p0 j))) (fun q => by cases q) (by show ¬ (i < 0 ∨ (arrV _ _ _).slots.size ≤ _); rw [arrV_size]; exact hin) rfl rfl hd fun H1 ez z oq => ?_
  refine kn p l e R s m args below meth c G B mc ms C ls H1 _ cells slots hl (hw.upd (h2 := stI h p0 i.toNatClampNeg x) rfl hk z oq ?_ (fun q kk hq => vcell_congr ?_ ?_ ?_ kk)) (hS.put z oq (Nat.le_add_right _ _)) hn
  · show H1[B.1 + p0]? = some (vp_cell _ _)
    rw [ez]
    show some ((vp_cell (G.2.1 0) (n, .inl (h.2.1 p0))).setSlot _ _) = _
    rw [vp_cell_i, vp_cell_i, arrV_store]
    congr 2
    funext q
    by_cases hq : q = i.toNatClampNeg
    · subst hq
      simp [updV, u2, stI]
    · simp [updV, u2, hq, stI]
  all_goals first | rfl | exact u2_row _ _ _ hq
theorem wp_last {S : SH} {M : MD} {d cb sb : Nat} {Q : Option Value → AH → Prop} {pc : Nat} {L st : List Value} {h : AH} {p0 n : Nat} {i : Int32} {x : Int64} (hk : KD S h p0 = some (2, n)) (hin : vp_in i n) (hd : decode M.2.1 pc = .ok (.lastore, 1)) {h1 : AH} (hh : stJ h p0 i.toNatClampNeg x = h1) (kn : WP S M d cb sb Q (pc + 1) L st h1) : WP S M d cb sb Q pc L (.long x :: .int i :: .ref p0 :: st) h := by
  intro p l e R s m args below meth c G B mc ms C ls H locs cells slots hl hw hS hn
  obtain ⟨Cx, Cb, Cr, Cl, Ct, Co, Ck, Cn, Cf, Cm, CK, Cs, CB, CE⟩ := C
  have C : CX M d p R s m args meth c G B mc ms := ⟨Cx, Cb, Cr, Cl, Ct, Co, Ck, Cn, Cf, Cm, CK, Cs, CB, CE⟩
  subst hh
  refine W.last Cx Cb (hw.2 p0 _ hk) ((CK.2 1 _ rfl).1 n (fun j => .long (h.2.2.1 p0 j))) (fun q => by cases q) (by show ¬ (i < 0 ∨ (arrV _ _ _).slots.size ≤ _); rw [arrV_size]; exact hin) rfl rfl hd fun H1 ez z oq => ?_
  refine kn p l e R s m args below meth c G B mc ms C ls H1 _ cells slots hl (hw.upd (h2 := stJ h p0 i.toNatClampNeg x) rfl hk z oq ?_ (fun q kk hq => vcell_congr ?_ ?_ ?_ kk)) (hS.put z oq (Nat.le_add_right _ _)) hn
  · show H1[B.1 + p0]? = some (vp_cell _ _)
    rw [ez]
    show some ((vp_cell (G.2.1 1) (n, .inr (.inl (h.2.2.1 p0)))).setSlot _ _) = _
    rw [vp_cell_l, vp_cell_l, arrV_store]
    congr 2
    funext q
    by_cases hq : q = i.toNatClampNeg
    · subst hq
      simp [updV, u2, stJ]
    · simp [updV, u2, hq, stJ]
  all_goals first | rfl | exact u2_row _ _ _ hq
theorem wp_zast {S : SH} {M : MD} {d cb sb : Nat} {Q : Option Value → AH → Prop} {pc : Nat} {L st : List Value} {h : AH} {p0 n : Nat} {i : Int32} {x : Int32} (hk : KD S h p0 = some (3, n)) (hin : vp_in i n) (hx : x = 0 ∨ x = 1) (hd : decode M.2.1 pc = .ok (.bastore, 1)) {h1 : AH} (hh : stI h p0 i.toNatClampNeg x = h1) (kn : WP S M d cb sb Q (pc + 1) L st h1) : WP S M d cb sb Q pc L (.int x :: .int i :: .ref p0 :: st) h := by
  intro p l e R s m args below meth c G B mc ms C ls H locs cells slots hl hw hS hn
  obtain ⟨Cx, Cb, Cr, Cl, Ct, Co, Ck, Cn, Cf, Cm, CK, Cs, CB, CE⟩ := C
  have C : CX M d p R s m args meth c G B mc ms := ⟨Cx, Cb, Cr, Cl, Ct, Co, Ck, Cn, Cf, Cm, CK, Cs, CB, CE⟩
  subst hh
  refine W.zast Cx Cb (hw.2 p0 _ hk) ((CK.2 2 _ rfl).1 n (fun j => .int (h.2.1 p0 j))) (fun q => by cases q) (by show ¬ (i < 0 ∨ (arrV _ _ _).slots.size ≤ _); rw [arrV_size]; exact hin) rfl rfl hd fun H1 ez z oq => ?_
  refine kn p l e R s m args below meth c G B mc ms C ls H1 _ cells slots hl (hw.upd (h2 := stI h p0 i.toNatClampNeg x) rfl hk z oq ?_ (fun q kk hq => vcell_congr ?_ ?_ ?_ kk)) (hS.put z oq (Nat.le_add_right _ _)) hn
  · show H1[B.1 + p0]? = some (vp_cell _ _)
    rw [ez]
    show some ((vp_cell (G.2.1 2) (n, .inl (h.2.1 p0))).setSlot _ _) = _
    rw [vp_cell_i, vp_cell_i, arrV_store]
    congr 2
    funext q
    by_cases hq : q = i.toNatClampNeg
    · subst hq
      rcases hx with rfl | rfl <;> simp [updV, u2, narrow, stI]
    · simp [updV, u2, hq, stI]
  all_goals first | rfl | exact u2_row _ _ _ hq

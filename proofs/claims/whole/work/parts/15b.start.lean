theorem kn_of {s : State} {args : Array Value} {ci : Nat} {C : String} {T : u_T} {N : Nat} (ht : ∀ w ∈ TT, w.before args s = true) (hk : KF ci) (hc : vwCl[ci]? = some (C, T, N)) (hi : Cond.instantiable C N ∈ TT) : ∃ q : ClassId × (Nat → Nat), ∀ r, vwCl[ci]? = some r → u_Kn s r.1 r.2.1 r.2.2 q.1 q.2 := by
  obtain ⟨C', T', N', g1, g2, g3, g4, g5⟩ := hk
  cases g1.symm.trans hc
  obtain ⟨cC, iS, h⟩ := u_known ht g3 (ht _ hi)
  exact ⟨(cC, iS), fun r hr => by cases hr.symm.trans hc; exact h⟩
theorem arr_int {s : State} {args : Array Value} (h : (Cond.arrayClass .int).before args s = true) : ∃ cA, ArrOfT s cA .int ∧ va_RA s cA .int := by
  obtain ⟨cA, kA, comp, h1, h2, h3⟩ := Cond.arrayClass_spec h
  exact ⟨cA, fun n z => ⟨fun k h => (by cases h), kA, h2, comp, h3⟩, h1⟩
theorem arr_long {s : State} {args : Array Value} (h : (Cond.arrayClass .long).before args s = true) : ∃ cA, ArrOfT s cA .long ∧ va_RA s cA .long := by
  obtain ⟨cA, kA, comp, h1, h2, h3⟩ := Cond.arrayClass_spec h
  exact ⟨cA, fun n z => ⟨fun k h => (by cases h), kA, h2, comp, h3⟩, h1⟩
theorem arr_bool {s : State} {args : Array Value} (h : (Cond.arrayClass .boolean).before args s = true) : ∃ cA, ArrOfT s cA .boolean ∧ va_RA s cA .boolean := by
  obtain ⟨cA, kA, comp, h1, h2, h3⟩ := Cond.arrayClass_spec h
  exact ⟨cA, fun n z => ⟨fun k h => (by cases h), kA, h2, comp, h3⟩, h1⟩
theorem arr_obj {s : State} {C : String} (h : va_AO C s) : ∃ cA, ArrOfT s cA (.object C) ∧ va_RA s cA (.object C) := by
  obtain ⟨comp, c, k, h1, h2, h3, h4, h5⟩ := Cond.arrayOver_spec h
  exact ⟨c, fun n z => ⟨fun k h => (by cases h), k, h3, comp, h4⟩, k, comp, h3, h4, h1, h5⟩
theorem mem_tbl {w : Cond} (i : Nat) (h : lw_tbl[i]? = some w) : w ∈ lw_tbl := List.mem_of_getElem? h
theorem nest_known {s : State} {b : Nat} (hts : ∀ w ∈ lw_tbl, w.before #[Value.ref b] s = true) : ∀ q ∈ nestL, va_Nw (.methodLinkNest q.1 q.2.1 q.2.2.1 q.2.2.2) s := by
  have f : ∀ {q : String × Nat × MethodName × String} (i : Nat), lw_tbl[i]? = some (Cond.methodLinkNest q.1 q.2.1 q.2.2.1 q.2.2.2) → va_Nw (.methodLinkNest q.1 q.2.1 q.2.2.1 q.2.2.2) s := fun i h => va_Nw.of rfl (hts _ (mem_tbl i h))
  intro q hq
  obtain ⟨k, hk⟩ := List.getElem?_of_mem hq
  match k, hk with
  | 0, hk => cases hk; exact f _ nl_0
  | 1, hk => cases hk; exact f _ nl_1
  | 2, hk => cases hk; exact f _ nl_2
  | 3, hk => cases hk; exact f _ nl_3
  | 4, hk => cases hk; exact f _ nl_4
  | 5, hk => cases hk; exact f _ nl_5
  | 6, hk => cases hk; exact f _ nl_6
  | 7, hk => cases hk; exact f _ nl_7
  | 8, hk => cases hk; exact f _ nl_8
  | 9, hk => cases hk; exact f _ nl_9
  | 10, hk => cases hk; exact f _ nl_10
  | k + 11, hk => simp [nestL] at hk
set_option maxRecDepth 100000 in
theorem known {p : Program} {s : State} {m : MethodId} {meth : Method} {c : Code} {b L : Nat} {xs : Nat → Int32} (C0 : lw_At p s m meth c b L xs) : ∃ (G : GG) (B : BB), B.1 = s.heap.size ∧ B.2.1 = b ∧ va_K G.1 vwCl (tysOf G) s ∧ SX G B s := by
  obtain ⟨hx, hb, hr, hml, hown, hts, hX, hbl, hlocks, hgv, hname⟩ := C0
  have ht : ∀ w ∈ TT, w.before #[Value.ref b] s = true := fun w h => hts w (tt_in w h)
  have hfl := flat_of_before _ hgv
  have hA : ∀ a : Nat, a < s.heap.size → ¬ s.heap.size ≤ a := fun a h => Nat.not_le.mpr h
  have hc : ∀ ci : Nat, ∃ q : ClassId × (Nat → Nat), ∀ r, vwCl[ci]? = some r → u_Kn s r.1 r.2.1 r.2.2 q.1 q.2 := by
    intro ci
    match ci with
    | 0 => exact kn_of ht kf_0 rfl in_0
    | 1 => exact kn_of ht kf_1 rfl in_1
    | 2 => exact kn_of ht kf_2 rfl in_2
    | 3 => exact kn_of ht kf_3 rfl in_3
    | 4 => exact kn_of ht kf_4 rfl in_4
    | 5 => exact kn_of ht kf_5 rfl in_5
    | 6 => exact kn_of ht kf_6 rfl in_6
    | 7 => exact kn_of ht kf_7 rfl in_7
    | 8 => exact kn_of ht kf_8 rfl in_8
    | 9 => exact kn_of ht kf_9 rfl in_9
    | 10 => exact kn_of ht kf_10 rfl in_10
    | 11 => exact kn_of ht kf_11 rfl in_11
    | k + 12 => exact ⟨(0, fun _ => 0), fun r hr => by have h77 := (List.getElem?_eq_some_iff.mp hr).1; exact absurd (show k + 12 < 12 from h77) (by omega)⟩
  obtain ⟨f, hf⟩ := Classical.axiomOfChoice hc
  have hAO6 : va_AO RX6 s := va_AO.of (hts _ (mem_tbl _ ao_A))
  have hAO8 : va_AO RX8 s := va_AO.of (hts _ (mem_tbl _ ao_B))
  obtain ⟨cI, aI1, aI2⟩ := arr_int (ht _ ac_int)
  obtain ⟨cJ, aJ1, aJ2⟩ := arr_long (ht _ ac_long)
  obtain ⟨cZ, aZ1, aZ2⟩ := arr_bool (ht _ ac_boolean)
  obtain ⟨cA, aA1, aA2⟩ := arr_obj hAO6
  obtain ⟨cB, aB1, aB2⟩ := arr_obj hAO8
  have hlen : ([strBy.length] : List Nat).getD 0 0 = 145 := by simp only [List.getD_cons_zero]; exact strBy_len
  obtain ⟨adK, adV, hS, hE⟩ := vk_Sof (args := #[Value.ref b]) (s := s) (N := 1) (tm := fun _ => tmS) (len := [strBy.length]) (byt := [strBy]) (A := fun q => s.heap.size ≤ q)
    (fun i hi => by rw [show i = 0 by omega, hlen]; decide) (fun i hi => hfl _ nw_hex) (fun i hi => hfl _ nw_hco) (fun i hi => hfl _ nw_har) (fun i hi => by rw [show i = 0 by omega, hlen]; exact hfl _ nw_hle)
    (fun i hi j hj => by
      rw [show i = 0 by omega, hlen] at hj
      rw [show i = 0 by omega]
      simp only [List.getD_cons_zero]
      exact hfl _ (nw_hel j hj))
    (fun i j hi hj h => absurd (show i = j by omega) h) hA
  have hR : vk_R RX9 46 strTx (adK 0) s := vk_R.of (hts _ (mem_tbl _ sr_46)) (hE 0 (by decide))
  have hC := va_Zof (A := fun q => s.heap.size ≤ q) (hts _ (mem_tbl _ st_cs)) (hts _ (mem_tbl _ si_cs)) (va_eqi (hfl _ nw_cs)) hA
  have hF := va_Zqof (A := fun q => s.heap.size ≤ q) (hts _ (mem_tbl _ st_sf)) (hts _ (mem_tbl _ si_sf)) (hfl _ nw_sf) hA
  have hK : ∀ (z : (Nat → Nat) × (Nat → Nat)), va_K (fun c => (f c).1, fun c => (f c).2) vwCl (tysOf ((fun c => (f c).1, fun c => (f c).2), (fun i => match i with | 0 => cI | 1 => cJ | 2 => cZ | 3 => cA | _ => cB), z)) s := by
    intro z
    refine ⟨fun c q hq => hf c q hq, fun k q hk => ?_⟩
    match k, hk with
    | 0, hk => cases hk; exact ⟨aI1, aI2⟩
    | 1, hk => cases hk; exact ⟨aJ1, aJ2⟩
    | 2, hk => cases hk; exact ⟨aZ1, aZ2⟩
    | 3, hk => cases hk; exact ⟨aA1, aA2⟩
    | 4, hk => cases hk; exact ⟨aB1, aB2⟩
    | k + 5, hk => simp [tysOf] at hk
  rcases hF with hF | ⟨t, hF⟩
  · exact ⟨((fun c => (f c).1, fun c => (f c).2), (fun i => match i with | 0 => cI | 1 => cJ | 2 => cZ | 3 => cA | _ => cB), adK, adV), (s.heap.size, b, fun i => match i with | 0 => adK 0 | 1 => adV 0 | _ => 0), rfl, rfl, hK _, hS, hR, hC, nest_known hts, hAO6, hAO8, rfl, rfl, Or.inr hF⟩
  · exact ⟨((fun c => (f c).1, fun c => (f c).2), (fun i => match i with | 0 => cI | 1 => cJ | 2 => cZ | 3 => cA | _ => cB), adK, adV), (s.heap.size, b, fun i => match i with | 0 => adK 0 | 1 => adV 0 | _ => t), rfl, rfl, hK _, hS, hR, hC, nest_known hts, hAO6, hAO8, rfl, rfl, Or.inl hF⟩
theorem new_locs {s t : State} {L : List Loc} {k n : Nat} (h : s.sameButNew t L k n) (hL : ∀ q ∈ L, s.heap.size ≤ q.base) : s.sameButNew t [] k n := by
  obtain ⟨h1, h2, h3, h4, h5, h6⟩ := h
  refine ⟨h1, h2, h3, h4, h5, fun a c hc => ?_⟩
  obtain ⟨c', e1, e2, e3, e4⟩ := h6 a c hc
  refine ⟨c', e1, e2, e3, fun i _ => e4 i (fun hq => ?_)⟩
  have h8 : s.heap.size ≤ a := hL _ hq
  have h7 := (Array.getElem?_eq_some_iff.mp hc).1
  omega
/-- no places yet -/
def S_0 : SH := ([], fun _ => none)
def h_0 : AH := ([], fun _ _ => 0, fun _ _ => 0, fun _ _ => none)

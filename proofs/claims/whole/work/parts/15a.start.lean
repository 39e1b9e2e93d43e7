/-! THE CLAIM OUT OF ONE WALK OF THE LAW'S BODY. Your part is whole_start (and what it stands on); all else here is the same for every law, but numbers. -/
def R_law : String := "DarkCommitteeLaw"
def lw_P (b : Addr) (xs : List Int32) (args : Array Value) (s : State) : Prop := args = #[.ref b] ∧ s.IntsAt b xs ∧ xs.length ≤ 3072 ∧ (Jvm.Cond.and given_1 narrow_1).before args s = true
def lw_Q (_ : Array Value) (s : State) (o : Outcome) (t : State) : Prop := o = .returned (some (.int 1)) ∧ Framed s o t [] 600000 7302249
def lw_Z (below : List Frame) (a : Array Value) (s : State) : State → Prop := fun t => ∃ o, t.status = .running ∧ Ended t below o ∧ lw_Q a s o t
/-- the law's own end, with 1 on the stack, nothing written that was there before, its room as the claim has it -/
theorem lw_ret {p : Program} {l : Launch} {e : Env} {s : State} {m : MethodId} {below : List Frame} {meth : Method} {c : Code} {b : Nat} (hx : p.tables.exec = Jvm.exec) (hb : c.code = code) (hr : meth.sig.returnType = ret) (hlocks : meth.locks = false) {pc : Nat} {H : Heap} {ls : Array Slot} (hdg : decode code pc = .ok (.ireturn, 1)) : W p l e room_1 s m #[Value.ref b] below meth c H [] 600000 7302249 (lw_Z below #[Value.ref b] s) (F0 m pc ls [.int 1]) := by
  intro T hT X
  obtain ⟨fs, hret, hrun, hended, hW, hframe⟩ := X.leave (v := some (.int 1)) (hlocks := hlocks) (fun h => by rw [hr] at h; cases h)
  have hmeth' : T.vm.method? m = some meth := X.method'
  refine ⟨T.setFrames fs, ?_, .returned (some (.int 1)), hrun, hended, rfl, ⟨_, rfl⟩, hW, hframe⟩
  jvm_step X.here [X.here.top, hx, hb, hdg, hmeth', hr, ret, narrow_b1]
  (try refine ⟨rfl, ?_⟩); (try refine ⟨rfl, ?_⟩)
  first | (intro acts; rw [hret _ acts rfl rfl rfl]) | rw [hret _ _ rfl rfl rfl]
  exact Steps.refl _
/-- what holds at the law's entry: the machine, the code, the tables' words (any of lw_tbl by 'hts w (by decide +kernel)'), the script of L ints xs at the cell b, what the Statement gives of the start (any of its parts by flat_of_before) -/
def lw_At (p : Program) (s : State) (m : MethodId) (meth : Method) (c : Code) (b L : Nat) (xs : Nat → Int32) : Prop :=
  p.tables.exec = Jvm.exec ∧ c.code = code ∧ meth.sig.returnType = ret ∧ c.maxLocals = 4 ∧ s.vm.findClass R_law = some m.cls ∧ (∀ w ∈ lw_tbl, w.before #[Value.ref b] s = true) ∧ va_X b L xs s s.heap ∧ b < s.heap.size ∧ meth.locks = false ∧ (Jvm.Cond.and given_1 narrow_1).before #[Value.ref b] s = true ∧ meth.name = "law"
theorem in_0 : Cond.instantiable RX0 7 ∈ TT := tt_of 380 (by decide +kernel) (by decide +kernel)
theorem in_1 : Cond.instantiable RX1 6 ∈ TT := tt_of 352 (by decide +kernel) (by decide +kernel)
theorem in_2 : Cond.instantiable RX2 4 ∈ TT := tt_of 307 (by decide +kernel) (by decide +kernel)
theorem in_3 : Cond.instantiable RX3 5 ∈ TT := tt_of 413 (by decide +kernel) (by decide +kernel)
theorem in_4 : Cond.instantiable RX4 3 ∈ TT := tt_of 331 (by decide +kernel) (by decide +kernel)
theorem in_5 : Cond.instantiable RX5 4 ∈ TT := tt_of 285 (by decide +kernel) (by decide +kernel)
theorem in_6 : Cond.instantiable RX6 17 ∈ TT := tt_of 138 (by decide +kernel) (by decide +kernel)
theorem in_7 : Cond.instantiable RX7 4 ∈ TT := tt_of 144 (by decide +kernel) (by decide +kernel)
theorem in_8 : Cond.instantiable RX8 4 ∈ TT := tt_of 177 (by decide +kernel) (by decide +kernel)
theorem in_9 : Cond.instantiable RX9 4 ∈ TT := tt_of 419 (by decide +kernel) (by decide +kernel)
theorem in_10 : Cond.instantiable RX10 20 ∈ TT := tt_of 130 (by decide +kernel) (by decide +kernel)
theorem in_11 : Cond.instantiable RX11 58 ∈ TT := tt_of 1164 (by decide +kernel) (by decide +kernel)
theorem ac_int2 : Cond.arrayClass .int ∈ TT := ac_int
theorem st_cs : lw_tbl[738]? = some (Cond.laysStatic "java/lang/String" "COMPACT_STRINGS" "Z") := by decide +kernel
theorem si_cs : lw_tbl[125]? = some (Cond.initialized "java/lang/String") := by decide +kernel
theorem st_sf : lw_tbl[754]? = some (Cond.laysStatic "jdk/internal/util/Preconditions" "SIOOBE_FORMATTER" "Ljava/util/function/BiFunction;") := by decide +kernel
theorem si_sf : lw_tbl[127]? = some (Cond.initialized "jdk/internal/util/Preconditions") := by decide +kernel
theorem nl_0 : lw_tbl[139]? = some (Cond.methodLinkNest RX10 15 yX6_init RX10) := by decide +kernel
theorem nl_1 : lw_tbl[145]? = some (Cond.methodLinkNest RX6 11 yX7_init RX10) := by decide +kernel
theorem nl_2 : lw_tbl[286]? = some (Cond.methodLinkNest RX10 26 yX5_init RX10) := by decide +kernel
theorem nl_3 : lw_tbl[305]? = some (Cond.methodLinkNest RX10 36 yX7_init RX10) := by decide +kernel
theorem nl_4 : lw_tbl[308]? = some (Cond.methodLinkNest RX10 46 yX2_init RX10) := by decide +kernel
theorem nl_5 : lw_tbl[313]? = some (Cond.methodLinkNest RX2 11 yX7_init RX10) := by decide +kernel
theorem nl_6 : lw_tbl[332]? = some (Cond.methodLinkNest RX10 53 yX4_init RX10) := by decide +kernel
theorem nl_7 : lw_tbl[386]? = some (Cond.methodLinkNest RX0 11 yX7_init RX10) := by decide +kernel
theorem nl_8 : lw_tbl[414]? = some (Cond.methodLinkNest RX10 78 yX3_init RX10) := by decide +kernel
theorem nl_9 : lw_tbl[420]? = some (Cond.methodLinkNest RX3 11 yX9_init RX10) := by decide +kernel
theorem nl_10 : lw_tbl[995]? = some (Cond.methodLinkNest RX10 325 yX0_goOn RX10) := by decide +kernel
theorem ao_A : lw_tbl[283]? = some (Cond.arrayOver (.object RX6)) := by decide +kernel
theorem ao_B : lw_tbl[176]? = some (Cond.arrayOver (.object RX8)) := by decide +kernel
theorem sr_46 : lw_tbl[728]? = some (Cond.stringRef RX9 46 strTx) := by decide +kernel
def tmS : Term := .string RX9 46
theorem nw_hex : Cond.exactly tmS "java/lang/String" ∈ flatC (Cond.and given_1 narrow_1) := by decide +kernel
theorem nw_hco : Cond.eq (.field tmS "java/lang/String" "coder" "B") (.int 0) ∈ flatC (Cond.and given_1 narrow_1) := by decide +kernel
theorem nw_har : Cond.arrayOf (.field tmS "java/lang/String" "value" "[B") .byte ∈ flatC (Cond.and given_1 narrow_1) := by decide +kernel
theorem nw_hle : Cond.eq (.length (.field tmS "java/lang/String" "value" "[B")) (.int (Int32.ofNat 145)) ∈ flatC (Cond.and given_1 narrow_1) := by decide +kernel
theorem nw_hel : ∀ j, j < 145 → Cond.eq (.elem (.field tmS "java/lang/String" "value" "[B") (.int (Int32.ofNat j))) (.int (strBy.getD j 0)) ∈ flatC (Cond.and given_1 narrow_1) := by
  rw [strBy_eq]
  decide +kernel
theorem nw_cs : Cond.eq (.static "java/lang/String" "COMPACT_STRINGS" "Z") (.int 1) ∈ flatC (Cond.and given_1 narrow_1) := by decide +kernel
theorem nw_sf : Cond.isRef (.static "jdk/internal/util/Preconditions" "SIOOBE_FORMATTER" "Ljava/util/function/BiFunction;") ∈ flatC (Cond.and given_1 narrow_1) := by decide +kernel

/-! THE ABSTRACT MACHINE: places instead of addresses. A heap: the kinds of its places (0: an object of a class; 1: ints; 2: longs; 3: booleans; 4, 5: references), what they hold of ints, longs, references -/
def TT : List Cond := lw_tbl.filter goodWord
theorem tt_of {w : Cond} (i : Nat) (h : lw_tbl[i]? = some w) (g : goodWord w = true) : w ∈ TT := List.mem_filter.mpr ⟨List.mem_of_getElem? h, g⟩
theorem tt_good : ∀ w ∈ TT, goodWord w = true := fun _ h => (List.mem_filter.mp h).2
theorem tt_in : ∀ w ∈ TT, w ∈ lw_tbl := fun _ h => (List.mem_filter.mp h).1
abbrev AH : Type := List (Nat × Nat) × (Nat → Nat → Int32) × (Nat → Nat → Int64) × (Nat → Nat → Option Nat)
abbrev SH : Type := List (Nat × Nat) × (Nat → Option (Nat → Option Nat))
abbrev BB : Type := Nat × Nat × (Nat → Nat)
abbrev GG : Type := va_G × (Nat → ClassId) × (Nat → Nat) × (Nat → Nat)
abbrev MD : Type := MethodName × ByteArray × Nat × Option FieldType × (State → BB → Prop)
def KD (S : SH) (h : AH) (p : Nat) : Option (Nat × Nat) := (S.1 ++ h.1)[p]?
def RF (S : SH) (h : AH) (p k : Nat) : Option Nat := match S.2 p with
  | some f => f k
  | none => h.2.2.2 p k
def rfv (r : Option Nat) : Value := match r with
  | some p => .ref p
  | none => .null
def rn (B : BB) (v : Value) : Value := match v with
  | .ref p => .ref (B.1 + p)
  | .double _ => .ref B.2.1
  | .retAddr n => .ref (B.2.2 n)
  | v => v
def avl (S : SH) (h : AH) (p k : Nat) (ty : FieldType) : Value := match ty with
  | .long => .long (h.2.2.1 p k)
  | .object _ => rfv (RF S h p k)
  | .array _ => rfv (RF S h p k)
  | _ => .int (h.2.1 p k)
def u2 {α : Type} (f : Nat → Nat → α) (p k : Nat) (v : α) : Nat → Nat → α := fun q j => if q = p ∧ j = k then v else f q j
def stI (h : AH) (p k : Nat) (v : Int32) : AH := (h.1, u2 h.2.1 p k v, h.2.2.1, h.2.2.2)
def stJ (h : AH) (p k : Nat) (v : Int64) : AH := (h.1, h.2.1, u2 h.2.2.1 p k v, h.2.2.2)
def stR (h : AH) (p k : Nat) (v : Option Nat) : AH := (h.1, h.2.1, h.2.2.1, u2 h.2.2.2 p k v)
theorem u2_s {α : Type} (f : Nat → Nat → α) (p k : Nat) (v : α) : u2 f p k v p k = v := by simp [u2]
theorem u2_p {α : Type} (f : Nat → Nat → α) {p q : Nat} (k j : Nat) (v : α) (h : q ≠ p) : u2 f p k v q j = f q j := by simp [u2, h]
theorem u2_k {α : Type} (f : Nat → Nat → α) (p q : Nat) {k j : Nat} (v : α) (h : j ≠ k) : u2 f p k v q j = f q j := by simp [u2, h]
theorem u2_row {α : Type} (f : Nat → Nat → α) {p q : Nat} (k : Nat) (v : α) (h : q ≠ p) : u2 f p k v q = f q := by funext j; simp [u2, h]
theorem rn_rfv (B : BB) (r : Option Nat) : rn B (rfv r) = va_rf (r.map (B.1 + ·)) := by cases r <;> rfl
def vcell (S : SH) (G : GG) (B : BB) (h : AH) (p : Nat) (kk : Nat × Nat) : va_E := match kk.1 with
  | 0 => .inr (kk.2, (List.range (cN kk.2)).map (fun k => rn B (avl S h p k (cTy kk.2 k))))
  | 1 => .inl (G.2.1 0, kk.2, .inl (h.2.1 p))
  | 2 => .inl (G.2.1 1, kk.2, .inr (.inl (h.2.2.1 p)))
  | 3 => .inl (G.2.1 2, kk.2, .inl (h.2.1 p))
  | 4 => .inl (G.2.1 3, kk.2, .inr (.inr (.inr (.inr (fun j => (RF S h p j).map (B.1 + ·))))))
  | _ => .inl (G.2.1 4, kk.2, .inr (.inr (.inr (.inr (fun j => (RF S h p j).map (B.1 + ·))))))
def tysOf (G : GG) : List (ClassId × FieldType) := [(G.2.1 0, .int), (G.2.1 1, .long), (G.2.1 2, .boolean), (G.2.1 3, .object RX6), (G.2.1 4, .object RX8)]
def Wd (S : SH) (G : GG) (B : BB) (h : AH) (H : Heap) : Prop := H.size = B.1 + (S.1 ++ h.1).length ∧ ∀ (p : Nat) (kk : Nat × Nat), KD S h p = some kk → va_at G.1 vwCl (B.1 + p, vcell S G B h p kk) H
def strTx : String := "or and not if times by to sways takes bars move divide fly pass bird tree favour matter clauses rich clock night mood done latest present stands "
def strBy : List Int32 := strTx.toList.map fun ch => (Int32.ofNat ch.toNat)
/-- the private constructors and methods that another class of the nest calls -/
def nestL : List (String × Nat × MethodName × String) := [(RX10, 15, yX6_init, RX10), (RX6, 11, yX7_init, RX10), (RX10, 26, yX5_init, RX10), (RX10, 36, yX7_init, RX10), (RX10, 46, yX2_init, RX10), (RX2, 11, yX7_init, RX10), (RX10, 53, yX4_init, RX10), (RX0, 11, yX7_init, RX10), (RX10, 78, yX3_init, RX10), (RX3, 11, yX9_init, RX10), (RX10, 325, yX0_goOn, RX10)]
/-- what stands of the JDK's own cells: the text constant, String's and Preconditions' statics; links of the nest; classes of reference arrays -/
def SX (G : GG) (B : BB) (U : State) : Prop := vk_S 1 [strBy.length] [strBy] G.2.2.1 G.2.2.2 (fun q => B.1 ≤ q) U U.heap ∧ vk_R RX9 46 strTx (G.2.2.1 0) U ∧ va_Z "java/lang/String" "COMPACT_STRINGS" "Z" (.int 1) (fun q => B.1 ≤ q) U U.heap ∧ (∀ q ∈ nestL, va_Nw (.methodLinkNest q.1 q.2.1 q.2.2.1 q.2.2.2) U) ∧ va_AO RX6 U ∧ va_AO RX8 U ∧ G.2.2.1 0 = B.2.2 0 ∧ G.2.2.2 0 = B.2.2 1 ∧ (va_Z "jdk/internal/util/Preconditions" "SIOOBE_FORMATTER" "Ljava/util/function/BiFunction;" (.ref (B.2.2 2)) (fun q => B.1 ≤ q) U U.heap ∨ va_Z "jdk/internal/util/Preconditions" "SIOOBE_FORMATTER" "Ljava/util/function/BiFunction;" .null (fun q => B.1 ≤ q) U U.heap)
theorem SX.to {G : GG} {B : BB} {s U : State} (h : SX G B s) (hW : s.WarmedH U.vm) (hq : ∀ a : Nat, a < s.heap.size → ¬ B.1 ≤ a → U.heap[a]? = s.heap[a]?) : SX G B U :=
  ⟨(h.1.kept hq).moved hW.alike, h.2.1.warm hW, (h.2.2.1.kept hq).moved hW.alike, fun q z => va_Nw.warmM hW (h.2.2.2.1 q z), h.2.2.2.2.1.moved hW.alike, h.2.2.2.2.2.1.moved hW.alike, h.2.2.2.2.2.2.1, h.2.2.2.2.2.2.2.1, h.2.2.2.2.2.2.2.2.elim (fun z => Or.inl ((z.kept hq).moved hW.alike)) (fun z => Or.inr ((z.kept hq).moved hW.alike))⟩
theorem SX.same {G : GG} {B : BB} {s U : State} (h : SX G B s) (hv : U.vm = s.vm) (hh : U.heap = s.heap) : SX G B U :=
  h.to (by rw [hv]; exact State.WarmedH.refl s) (fun a _ _ => by rw [hh])
/-! locals: a list by slot, .float 0 where nothing is known -/
def JK : Value := .float 0
def nj (v : Value) : Bool := match v with
  | .float _ => false
  | _ => true
def isL (o : Option Value) : Bool := match o with
  | some (.long _) => true
  | _ => false
def kl (L : List Value) (i : Nat) : List Value := match i with
  | 0 => L
  | j + 1 => if isL (L[j]?) = true then L.set j JK else L
def st1 (L : List Value) (i : Nat) (v : Value) : List Value := (kl L i).set i v
def st2 (L : List Value) (i : Nat) (v : Value) : List Value := ((kl L i).set i v).set (i + 1) JK
def asc (B : BB) (L : List Value) : List (Nat × Value) := (List.range L.length).filterMap fun i => (L[i]?).bind fun v => if nj v = true then some (i, rn B v) else none
theorem asc_mem {B : BB} {L : List Value} {q : Nat × Value} : q ∈ asc B L ↔ ∃ v, L[q.1]? = some v ∧ nj v = true ∧ rn B v = q.2 := by
  obtain ⟨i, w⟩ := q
  simp only [asc, List.mem_filterMap, List.mem_range]
  constructor
  · rintro ⟨a, ha, h⟩
    cases hv : L[a]? with
    | none => rw [hv] at h; cases h
    | some v =>
      rw [hv] at h
      simp only [Option.bind_some] at h
      by_cases hn : nj v = true
      · rw [if_pos hn] at h
        cases h
        exact ⟨v, hv, hn, rfl⟩
      · rw [if_neg hn] at h
        cases h
  · rintro ⟨v, hv, hn, rfl⟩
    refine ⟨i, (List.getElem?_eq_some_iff.mp hv).1, ?_⟩
    rw [show L[i]? = some v from hv]
    simp [hn]
def LH (ls : Array Slot) (nL : Nat) (B : BB) (L : List Value) : Prop := lv_has ls nL (asc B L)
theorem LH.get {ls : Array Slot} {nL : Nat} {B : BB} {L : List Value} (h : LH ls nL B L) {i : Nat} {v : Value} (hv : L[i]? = some v) (hn : nj v = true) : ls[i]? = some (.val (rn B v)) := h.2.2 (i, rn B v) (asc_mem.mpr ⟨v, hv, hn, rfl⟩)
theorem LH.weak {ls : Array Slot} {nL : Nat} {B : BB} {L L' : List Value} (h : LH ls nL B L) (hw : ∀ (i : Nat) (v : Value), L'[i]? = some v → nj v = true → L[i]? = some v) : LH ls nL B L' :=
  ⟨h.1, h.2.1, fun q hq => by
    obtain ⟨v, h1, h2, h3⟩ := asc_mem.mp hq
    exact h.2.2 q (asc_mem.mpr ⟨v, hw _ _ h1 h2, h2, h3⟩)⟩
theorem rn_cat2 {B : BB} {v : Value} (h : (rn B v).category = 2) : isL (some v) = true := by
  cases v <;> simp [rn, Value.category, isL] at h ⊢
theorem kl_get {L : List Value} {i j : Nat} {v : Value} (h : (kl L i)[j]? = some v) (hn : nj v = true) : L[j]? = some v ∧ ¬ (j + 1 = i ∧ isL (some v) = true) := by
  cases i with
  | zero => exact ⟨h, fun q => by omega⟩
  | succ k =>
    have h : (if isL (L[k]?) = true then L.set k JK else L)[j]? = some v := h
    by_cases hk : isL (L[k]?) = true
    · rw [if_pos hk] at h
      rw [List.getElem?_set] at h
      by_cases hj : k = j
      · subst hj
        simp only [if_true] at h
        split at h
        · cases h; cases hn
        · cases h
      · rw [if_neg hj] at h
        exact ⟨h, fun q => hj (by omega)⟩
    · rw [if_neg hk] at h
      refine ⟨h, fun q => ?_⟩
      obtain ⟨q1, q2⟩ := q
      have : j = k := by omega
      subst this
      exact hk (by rw [show L[j]? = some v by assumption]; exact q2)
theorem LH_st1 {ls' : Array Slot} {nL : Nat} {B : BB} {L : List Value} {i : Nat} {v : Value} (h : lv_has ls' nL ((i, rn B v) :: (asc B L).filter (fun q => !(q.1 == i) && !(q.1 + 1 == i && q.2.category == 2)))) : LH ls' nL B (st1 L i v) := by
  refine ⟨h.1, h.2.1, fun q hq => h.2.2 q ?_⟩
  obtain ⟨u, h1, h2, h3⟩ := asc_mem.mp hq
  unfold st1 at h1
  rw [List.getElem?_set] at h1
  by_cases hj : i = q.1
  · rw [if_pos hj] at h1
    split at h1
    · cases h1
      exact List.mem_cons.mpr (Or.inl (Prod.ext hj.symm h3.symm))
    · cases h1
  · rw [if_neg hj] at h1
    obtain ⟨h4, h5⟩ := kl_get h1 h2
    refine List.mem_cons_of_mem _ (List.mem_filter.mpr ⟨asc_mem.mpr ⟨u, h4, h2, h3⟩, ?_⟩)
    have a1 : (q.1 == i) = false := by simp; omega
    have a2 : (q.1 + 1 == i && q.2.category == 2) = false := by
      rw [Bool.and_eq_false_iff]
      by_cases hz : q.1 + 1 = i
      · right
        simp only [beq_eq_false_iff_ne]
        intro hc
        rw [← h3] at hc
        exact h5 ⟨hz, rn_cat2 hc⟩
      · left
        simp [hz]
    rw [a1, a2]
    rfl
theorem LH_st2 {ls' : Array Slot} {nL : Nat} {B : BB} {L : List Value} {i : Nat} {v : Value} (h : lv_has ls' nL ((i, rn B v) :: (asc B L).filter (fun q => !(q.1 == i) && (!(q.1 == i + 1) && !(q.1 + 1 == i && q.2.category == 2))))) : LH ls' nL B (st2 L i v) := by
  refine ⟨h.1, h.2.1, fun q hq => h.2.2 q ?_⟩
  obtain ⟨u, h1, h2, h3⟩ := asc_mem.mp hq
  unfold st2 at h1
  rw [List.getElem?_set] at h1
  by_cases hj0 : i + 1 = q.1
  · rw [if_pos hj0] at h1
    split at h1
    · cases h1; cases h2
    · cases h1
  rw [if_neg hj0, List.getElem?_set] at h1
  by_cases hj : i = q.1
  · rw [if_pos hj] at h1
    split at h1
    · cases h1
      exact List.mem_cons.mpr (Or.inl (Prod.ext hj.symm h3.symm))
    · cases h1
  · rw [if_neg hj] at h1
    obtain ⟨h4, h5⟩ := kl_get h1 h2
    refine List.mem_cons_of_mem _ (List.mem_filter.mpr ⟨asc_mem.mpr ⟨u, h4, h2, h3⟩, ?_⟩)
    have a1 : (q.1 == i) = false := by simp; omega
    have a0 : (q.1 == i + 1) = false := by simp; omega
    have a2 : (q.1 + 1 == i && q.2.category == 2) = false := by
      rw [Bool.and_eq_false_iff]
      by_cases hz : q.1 + 1 = i
      · right
        simp only [beq_eq_false_iff_ne]
        intro hc
        rw [← h3] at hc
        exact h5 ⟨hz, rn_cat2 hc⟩
      · left
        simp [hz]
    rw [a1, a0, a2]
    rfl
def enA : List Value → List Value
  | [] => []
  | v :: r => if isL (some v) = true then v :: JK :: enA r else v :: enA r
def enL (n : Nat) (a : List Value) : List Value := enA a ++ List.replicate (n - (enA a).length) JK
theorem rn_cat1 {B : BB} {v : Value} (h : isL (some v) = false) : ¬ (rn B v).category = 2 := fun q => by rw [rn_cat2 q] at h; cases h
theorem rn_catL {B : BB} {v : Value} (h : isL (some v) = true) : (rn B v).category = 2 := by
  cases v <;> simp [rn, Value.category, isL] at h ⊢
theorem enA_args {B : BB} (a : List Value) : ∀ (k j : Nat) (v : Value), (enA a)[j]? = some v → nj v = true → (k + j, rn B v) ∈ lv_args k (a.map (rn B)) := by
  induction a with
  | nil => intro k j v h; simp [enA] at h
  | cons x r ih =>
    intro k j v h hn
    by_cases hx : isL (some x) = true
    · simp only [enA, hx, if_true] at h
      simp only [List.map_cons, lv_args, rn_catL hx, if_true]
      match j, h with
      | 0, h => cases h; exact List.mem_cons_self
      | 1, h => cases h; cases hn
      | j + 2, h =>
        refine List.mem_cons_of_mem _ ?_
        have := ih (k + 2) j v (by simpa using h) hn
        rwa [show k + 2 + j = k + (j + 2) by omega] at this
    · have hx' : isL (some x) = false := by simpa using hx
      simp only [enA, hx] at h
      simp only [List.map_cons, lv_args, rn_cat1 hx', if_false]
      match j, h with
      | 0, h => cases h; exact List.mem_cons_self
      | j + 1, h =>
        refine List.mem_cons_of_mem _ ?_
        have := ih (k + 1) j v (by simpa using h) hn
        rwa [show k + 1 + j = k + (j + 1) by omega] at this
theorem LH.entry {ls : Array Slot} {nL : Nat} {B : BB} {a : List Value} (h : lv_has ls nL (lv_args 0 (a.map (rn B)))) : LH ls nL B (enL nL a) := by
  refine ⟨h.1, h.2.1, fun q hq => h.2.2 q ?_⟩
  obtain ⟨v, h1, h2, h3⟩ := asc_mem.mp hq
  unfold enL at h1
  by_cases hl : q.1 < (enA a).length
  · rw [List.getElem?_append_left hl] at h1
    have := enA_args (B := B) a 0 q.1 v h1 h2
    rw [Nat.zero_add, h3] at this
    exact this
  · rw [List.getElem?_append_right (by omega)] at h1
    have := List.eq_of_mem_replicate (List.mem_of_getElem? h1)
    subst this
    cases h2
/-! the judgements -/
def WS (M : MD) : List Cond := .code M.1 M.2.1 M.2.2.1 M.2.2.2.1 :: TT
def PQ (S : SH) (G : GG) (B : BB) (Q : Option Value → AH → Prop) : Array Value → State → Outcome → State → Prop := fun _ st oc t => ∃ (r : Option Value) (h : AH), oc = .returned (r.map (rn B)) ∧ Q r h ∧ Wd S G B h t.heap ∧ va_F (fun q => B.1 ≤ q) st t
def PC (S : SH) (G : GG) (B : BB) (as : List Value) (h : AH) : Array Value → State → Prop := va_Pc (as.map (rn B)) (fun U => Wd S G B h U.heap ∧ va_K G.1 vwCl (tysOf G) U ∧ SX G B U)
def RM (d mc ms : Nat) : Room := { frames := d, cells := mc, slots := ms, locals := 64 * d }
def CX (M : MD) (d : Nat) (p : Program) (R : Room) (s : State) (m : MethodId) (args : Array Value) (meth : Method) (c : Code) (G : GG) (B : BB) (mc ms : Nat) : Prop :=
  p.tables.exec = Jvm.exec ∧ c.code = M.2.1 ∧ meth.sig.returnType = M.2.2.2.1 ∧ c.maxLocals = M.2.2.1 ∧ (∀ w ∈ TT, w.before args s = true) ∧ s.vm.findClass M.1.cls = some m.cls ∧ meth.locks = false ∧ meth.name = M.1.name ∧ (d ≤ R.frames ∧ 64 * d ≤ R.locals) ∧ (mc ≤ R.cells ∧ ms ≤ R.slots) ∧ va_K G.1 vwCl (tysOf G) s ∧ SX G B s ∧ B.1 ≤ s.heap.size ∧ M.2.2.2.2 s B
/-- from here (the method M at pc, locals L, stack st, heap h), within cb new cells of sb slots, M returns, with Q -/
def WP (S : SH) (M : MD) (d cb sb : Nat) (Q : Option Value → AH → Prop) (pc : Nat) (L st : List Value) (h : AH) : Prop :=
  ∀ (p : Program) (l : Launch) (e : Env) (R : Room) (s : State) (m : MethodId) (args : Array Value) (below : List Frame) (meth : Method) (c : Code) (G : GG) (B : BB) (mc ms : Nat), CX M d p R s m args meth c G B mc ms →
    ∀ (ls : Array Slot) (H : Heap) (locs : List Loc) (cells slots : Nat), LH ls M.2.2.1 B L → Wd S G B h H → va_S (fun q => B.1 ≤ q) s.heap H locs → cells + cb = mc ∧ slots + sb = ms →
      W p l e R s m args below meth c H locs cells slots (MQ below (PQ S G B Q) args s mc ms (fun q => B.1 ≤ q)) (F0 m pc ls (st.map (rn B)))
/-- M, called with these in this heap, makes at most mc cells of ms slots, returns, with K -/
def CP (S : SH) (M : MD) (d mc ms : Nat) (as : List Value) (h : AH) (K : Option Value → AH → Prop) : Prop :=
  ∀ (l : Launch) (G : GG) (B : BB), Met l M.1 (WS M) (RM d mc ms) (PC S G B as h) (PQ S G B K) mc ms (fun q => B.1 ≤ q)
def wk : List Value → List Value → Prop
  | [], _ => True
  | v :: r, w :: t => (v = JK ∨ v = w) ∧ wk r t
  | _ :: _, [] => False
theorem wk_spec : ∀ (L' L : List Value), wk L' L → ∀ (i : Nat) (v : Value), L'[i]? = some v → nj v = true → L[i]? = some v
  | [], _, _, i, v, h, _ => by simp at h
  | a :: r, w :: t, hk, 0, v, h, hn => by
    cases h
    rcases hk.1 with rfl | rfl
    · cases hn
    · rfl
  | a :: r, w :: t, hk, i + 1, v, h, hn => by
    have := wk_spec r t hk.2 i v (by simpa using h) hn
    simpa using this
  | _ :: _, [], hk, _, _, _, _ => hk.elim
theorem wp_weak {S : SH} {M : MD} {d cb sb : Nat} {Q : Option Value → AH → Prop} {pc : Nat} {L L' st : List Value} {h : AH} (hw : ∀ (i : Nat) (v : Value), L'[i]? = some v → nj v = true → L[i]? = some v) (k : WP S M d cb sb Q pc L' st h) : WP S M d cb sb Q pc L st h :=
  fun p l e R s m args below meth c G B mc ms C ls H locs cells slots hl => k p l e R s m args below meth c G B mc ms C ls H locs cells slots (hl.weak hw)
theorem wp_wk {S : SH} {M : MD} {d cb sb : Nat} {Q : Option Value → AH → Prop} {pc : Nat} {L L' st : List Value} {h : AH} (hw : wk L' L) (k : WP S M d cb sb Q pc L' st h) : WP S M d cb sb Q pc L st h := wp_weak (wk_spec _ _ hw) k
theorem wp_mono {S : SH} {M : MD} {d cb sb : Nat} {Q Q' : Option Value → AH → Prop} {pc : Nat} {L st : List Value} {h : AH} (hq : ∀ r h', Q r h' → Q' r h') (k : WP S M d cb sb Q pc L st h) : WP S M d cb sb Q' pc L st h := by
  intro p l e R s m args below meth c G B mc ms C ls H locs cells slots hl hw hS hn T hT X
  obtain ⟨t, h1, o, h2, h3, ⟨r, h', e1, e2, e3⟩, h4⟩ := k p l e R s m args below meth c G B mc ms C ls H locs cells slots hl hw hS hn T hT X
  exact ⟨t, h1, o, h2, h3, ⟨r, h', e1, hq _ _ e2, e3⟩, h4⟩
set_option maxHeartbeats 1000000 in
/-- a method out of the walk of its body -/
theorem cp_of {S : SH} {M : MD} {d mc ms : Nat} {as : List Value} {h : AH} {K : Option Value → AH → Prop} (hp : plainName M.1.cls = true) (hE : ∀ s B, M.2.2.2.2 s B) (hlen : ∀ B : BB, (lg_sl (as.map (rn B))).length ≤ M.2.2.1) (k : WP S M d mc ms K 0 (enL M.2.2.1 as) [] h) : CP S M d mc ms as h K := by
  intro l G B
  refine Met.ofW (cc := M.2.1) (maxL := M.2.2.1) (ret := M.2.2.2.1) (ws' := TT) hp rfl ?_
  intro p e s m args below meth c s₁ X hml hv
  obtain ⟨rfl, hW, hK, hX⟩ := hv
  have hts : ∀ w ∈ TT, w.before (as.map (rn B)).toArray s = true := fun w h => atoms_spec (ws := WS M) X.pre w (List.mem_cons_of_mem _ h)
  rw [lg_entry_eq]
  refine k p l e _ s m _ below meth c G B mc ms ⟨X.exec, X.bytes, X.returns, hml, hts, findClass_of_methodNamed X.named, X.notSynchronized, (name_of_methodNamed X.named X.method).1, ⟨Nat.le_refl _, Nat.le_refl _⟩, ⟨Nat.le_refl _, Nat.le_refl _⟩, hK, hX, ?_, hE s B⟩ _ s.heap [] 0 0 (LH.entry (lv_entry _ (hlen B))) hW va_S.rf ⟨Nat.zero_add _, Nat.zero_add _⟩
  rw [hW.1]
  exact Nat.le_add_right _ _
theorem cp_mono {S : SH} {M : MD} {d mc ms : Nat} {as : List Value} {h : AH} {K K' : Option Value → AH → Prop} (hk : ∀ r h', K r h' → K' r h') (q : CP S M d mc ms as h K) : CP S M d mc ms as h K' := by
  intro l G B
  refine MetFree.mono (q l G B) (fun a s h => h) (fun _ _ _ _ _ h => h) (fun a st o t _ z => ?_)
  obtain ⟨⟨r, h', e1, e2, e3⟩, z2⟩ := z
  exact ⟨⟨r, h', e1, hk _ _ e2, e3⟩, z2⟩

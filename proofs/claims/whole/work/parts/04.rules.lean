theorem wp_iconst {S : SH} {M : MD} {d cb sb : Nat} {Q : Option Value → AH → Prop} {pc : Nat} {L st : List Value} {h : AH} {n : Int} {v : Int32} (hd : decode M.2.1 pc = .ok (.iconst n, 1)) (hv : Int32.ofInt n = v) (k : WP S M d cb sb Q (pc + 1) L (.int v :: st) h) : WP S M d cb sb Q pc L (st) h := by
  intro p l e R s m args below meth c G B mc ms C ls H locs cells slots hl hw hS hn
  exact lv_iconst C.1 C.2.1 hd hv (k p l e R s m args below meth c G B mc ms C ls H locs cells slots hl hw hS hn)
theorem wp_bipush {S : SH} {M : MD} {d cb sb : Nat} {Q : Option Value → AH → Prop} {pc : Nat} {L st : List Value} {h : AH} {n : Int} {v : Int32} (hd : decode M.2.1 pc = .ok (.bipush n, 2)) (hv : (Int8.ofInt n).toInt32 = v) (k : WP S M d cb sb Q (pc + 2) L (.int v :: st) h) : WP S M d cb sb Q pc L (st) h := by
  intro p l e R s m args below meth c G B mc ms C ls H locs cells slots hl hw hS hn
  exact lv_bipush C.1 C.2.1 hd hv (k p l e R s m args below meth c G B mc ms C ls H locs cells slots hl hw hS hn)
theorem wp_sipush {S : SH} {M : MD} {d cb sb : Nat} {Q : Option Value → AH → Prop} {pc : Nat} {L st : List Value} {h : AH} {n : Int} {v : Int32} (hd : decode M.2.1 pc = .ok (.sipush n, 3)) (hv : (Int16.ofInt n).toInt32 = v) (k : WP S M d cb sb Q (pc + 3) L (.int v :: st) h) : WP S M d cb sb Q pc L (st) h := by
  intro p l e R s m args below meth c G B mc ms C ls H locs cells slots hl hw hS hn
  exact lv_sipush C.1 C.2.1 hd hv (k p l e R s m args below meth c G B mc ms C ls H locs cells slots hl hw hS hn)
theorem wp_lconst {S : SH} {M : MD} {d cb sb : Nat} {Q : Option Value → AH → Prop} {pc : Nat} {L st : List Value} {h : AH} {n : Fin 2} {v : Int64} (hd : decode M.2.1 pc = .ok (.lconst n, 1)) (hv : Int64.ofNat (n : Nat) = v) (k : WP S M d cb sb Q (pc + 1) L (.long v :: st) h) : WP S M d cb sb Q pc L (st) h := by
  intro p l e R s m args below meth c G B mc ms C ls H locs cells slots hl hw hS hn
  exact lv_lconst C.1 C.2.1 hd hv (k p l e R s m args below meth c G B mc ms C ls H locs cells slots hl hw hS hn)
theorem wp_null {S : SH} {M : MD} {d cb sb : Nat} {Q : Option Value → AH → Prop} {pc : Nat} {L st : List Value} {h : AH}  (hd : decode M.2.1 pc = .ok (.aconst_null, 1))  (k : WP S M d cb sb Q (pc + 1) L (.null :: st) h) : WP S M d cb sb Q pc L (st) h := by
  intro p l e R s m args below meth c G B mc ms C ls H locs cells slots hl hw hS hn
  exact lv_null C.1 C.2.1 hd (k p l e R s m args below meth c G B mc ms C ls H locs cells slots hl hw hS hn)
theorem wp_iload_n {S : SH} {M : MD} {d cb sb : Nat} {Q : Option Value → AH → Prop} {pc : Nat} {L st : List Value} {h : AH} {k : Fin 4} {x : Int32} (hd : decode M.2.1 pc = .ok (.iload_n k, 1)) (hv : L[(k : Nat)]? = some (.int x)) (k : WP S M d cb sb Q (pc + 1) L (.int x :: st) h) : WP S M d cb sb Q pc L (st) h := by
  intro p l e R s m args below meth c G B mc ms C ls H locs cells slots hl hw hS hn
  exact lv_iload_n C.1 C.2.1 hd rfl (hl.get hv rfl) (k p l e R s m args below meth c G B mc ms C ls H locs cells slots hl hw hS hn)
theorem wp_iload {S : SH} {M : MD} {d cb sb : Nat} {Q : Option Value → AH → Prop} {pc : Nat} {L st : List Value} {h : AH} {i : Nat} {x : Int32} (hd : decode M.2.1 pc = .ok (.iload i, 2)) (hv : L[i]? = some (.int x)) (k : WP S M d cb sb Q (pc + 2) L (.int x :: st) h) : WP S M d cb sb Q pc L (st) h := by
  intro p l e R s m args below meth c G B mc ms C ls H locs cells slots hl hw hS hn
  exact lv_iload C.1 C.2.1 hd (hl.get hv rfl) (k p l e R s m args below meth c G B mc ms C ls H locs cells slots hl hw hS hn)
theorem wp_lload_n {S : SH} {M : MD} {d cb sb : Nat} {Q : Option Value → AH → Prop} {pc : Nat} {L st : List Value} {h : AH} {k : Fin 4} {x : Int64} (hd : decode M.2.1 pc = .ok (.lload_n k, 1)) (hv : L[(k : Nat)]? = some (.long x)) (k : WP S M d cb sb Q (pc + 1) L (.long x :: st) h) : WP S M d cb sb Q pc L (st) h := by
  intro p l e R s m args below meth c G B mc ms C ls H locs cells slots hl hw hS hn
  exact lv_lload_n C.1 C.2.1 hd rfl (hl.get hv rfl) (k p l e R s m args below meth c G B mc ms C ls H locs cells slots hl hw hS hn)
theorem wp_lload {S : SH} {M : MD} {d cb sb : Nat} {Q : Option Value → AH → Prop} {pc : Nat} {L st : List Value} {h : AH} {i : Nat} {x : Int64} (hd : decode M.2.1 pc = .ok (.lload i, 2)) (hv : L[i]? = some (.long x)) (k : WP S M d cb sb Q (pc + 2) L (.long x :: st) h) : WP S M d cb sb Q pc L (st) h := by
  intro p l e R s m args below meth c G B mc ms C ls H locs cells slots hl hw hS hn
  exact lv_lload C.1 C.2.1 hd (hl.get hv rfl) (k p l e R s m args below meth c G B mc ms C ls H locs cells slots hl hw hS hn)
theorem wp_aload_n {S : SH} {M : MD} {d cb sb : Nat} {Q : Option Value → AH → Prop} {pc : Nat} {L st : List Value} {h : AH} {k : Fin 4} {x : Nat} (hd : decode M.2.1 pc = .ok (.aload_n k, 1)) (hv : L[(k : Nat)]? = some (.ref x)) (k : WP S M d cb sb Q (pc + 1) L (.ref x :: st) h) : WP S M d cb sb Q pc L (st) h := by
  intro p l e R s m args below meth c G B mc ms C ls H locs cells slots hl hw hS hn
  exact lv_aload_n C.1 C.2.1 hd rfl (hl.get hv rfl) (k p l e R s m args below meth c G B mc ms C ls H locs cells slots hl hw hS hn)
theorem wp_aload {S : SH} {M : MD} {d cb sb : Nat} {Q : Option Value → AH → Prop} {pc : Nat} {L st : List Value} {h : AH} {i x : Nat} (hd : decode M.2.1 pc = .ok (.aload i, 2)) (hv : L[i]? = some (.ref x)) (k : WP S M d cb sb Q (pc + 2) L (.ref x :: st) h) : WP S M d cb sb Q pc L (st) h := by
  intro p l e R s m args below meth c G B mc ms C ls H locs cells slots hl hw hS hn
  exact lv_aload C.1 C.2.1 hd (hl.get hv rfl) (k p l e R s m args below meth c G B mc ms C ls H locs cells slots hl hw hS hn)
theorem wp_aloadN_n {S : SH} {M : MD} {d cb sb : Nat} {Q : Option Value → AH → Prop} {pc : Nat} {L st : List Value} {h : AH} {k : Fin 4} (hd : decode M.2.1 pc = .ok (.aload_n k, 1)) (hv : L[(k : Nat)]? = some .null) (k : WP S M d cb sb Q (pc + 1) L (.null :: st) h) : WP S M d cb sb Q pc L (st) h := by
  intro p l e R s m args below meth c G B mc ms C ls H locs cells slots hl hw hS hn
  exact lv_aload_nN C.1 C.2.1 hd rfl (hl.get hv rfl) (k p l e R s m args below meth c G B mc ms C ls H locs cells slots hl hw hS hn)
theorem wp_aloadN {S : SH} {M : MD} {d cb sb : Nat} {Q : Option Value → AH → Prop} {pc : Nat} {L st : List Value} {h : AH} {i : Nat} (hd : decode M.2.1 pc = .ok (.aload i, 2)) (hv : L[i]? = some .null) (k : WP S M d cb sb Q (pc + 2) L (.null :: st) h) : WP S M d cb sb Q pc L (st) h := by
  intro p l e R s m args below meth c G B mc ms C ls H locs cells slots hl hw hS hn
  exact lv_aloadN C.1 C.2.1 hd (hl.get hv rfl) (k p l e R s m args below meth c G B mc ms C ls H locs cells slots hl hw hS hn)
theorem wp_aloadS_n {S : SH} {M : MD} {d cb sb : Nat} {Q : Option Value → AH → Prop} {pc : Nat} {L st : List Value} {h : AH} {k : Fin 4} {z : UInt64} (hd : decode M.2.1 pc = .ok (.aload_n k, 1)) (hv : L[(k : Nat)]? = some (.double z)) (k : WP S M d cb sb Q (pc + 1) L (.double z :: st) h) : WP S M d cb sb Q pc L (st) h := by
  intro p l e R s m args below meth c G B mc ms C ls H locs cells slots hl hw hS hn
  exact lv_aload_n C.1 C.2.1 hd rfl (hl.get hv rfl) (k p l e R s m args below meth c G B mc ms C ls H locs cells slots hl hw hS hn)
theorem wp_iadd {S : SH} {M : MD} {d cb sb : Nat} {Q : Option Value → AH → Prop} {pc : Nat} {L st : List Value} {h : AH} {x y : Int32} (hd : decode M.2.1 pc = .ok (.iadd, 1))  (k : WP S M d cb sb Q (pc + 1) L (.int (x + y) :: st) h) : WP S M d cb sb Q pc L (.int y :: .int x :: st) h := by
  intro p l e R s m args below meth c G B mc ms C ls H locs cells slots hl hw hS hn
  exact lv_iadd C.1 C.2.1 hd (k p l e R s m args below meth c G B mc ms C ls H locs cells slots hl hw hS hn)
theorem wp_isub {S : SH} {M : MD} {d cb sb : Nat} {Q : Option Value → AH → Prop} {pc : Nat} {L st : List Value} {h : AH} {x y : Int32} (hd : decode M.2.1 pc = .ok (.isub, 1))  (k : WP S M d cb sb Q (pc + 1) L (.int (x - y) :: st) h) : WP S M d cb sb Q pc L (.int y :: .int x :: st) h := by
  intro p l e R s m args below meth c G B mc ms C ls H locs cells slots hl hw hS hn
  exact lv_isub C.1 C.2.1 hd (k p l e R s m args below meth c G B mc ms C ls H locs cells slots hl hw hS hn)
theorem wp_imul {S : SH} {M : MD} {d cb sb : Nat} {Q : Option Value → AH → Prop} {pc : Nat} {L st : List Value} {h : AH} {x y : Int32} (hd : decode M.2.1 pc = .ok (.imul, 1))  (k : WP S M d cb sb Q (pc + 1) L (.int (x * y) :: st) h) : WP S M d cb sb Q pc L (.int y :: .int x :: st) h := by
  intro p l e R s m args below meth c G B mc ms C ls H locs cells slots hl hw hS hn
  exact lv_imul C.1 C.2.1 hd (k p l e R s m args below meth c G B mc ms C ls H locs cells slots hl hw hS hn)
theorem wp_iand {S : SH} {M : MD} {d cb sb : Nat} {Q : Option Value → AH → Prop} {pc : Nat} {L st : List Value} {h : AH} {x y : Int32} (hd : decode M.2.1 pc = .ok (.iand, 1))  (k : WP S M d cb sb Q (pc + 1) L (.int (x &&& y) :: st) h) : WP S M d cb sb Q pc L (.int y :: .int x :: st) h := by
  intro p l e R s m args below meth c G B mc ms C ls H locs cells slots hl hw hS hn
  exact lv_iand C.1 C.2.1 hd (k p l e R s m args below meth c G B mc ms C ls H locs cells slots hl hw hS hn)
theorem wp_ior {S : SH} {M : MD} {d cb sb : Nat} {Q : Option Value → AH → Prop} {pc : Nat} {L st : List Value} {h : AH} {x y : Int32} (hd : decode M.2.1 pc = .ok (.ior, 1))  (k : WP S M d cb sb Q (pc + 1) L (.int (x ||| y) :: st) h) : WP S M d cb sb Q pc L (.int y :: .int x :: st) h := by
  intro p l e R s m args below meth c G B mc ms C ls H locs cells slots hl hw hS hn
  exact lv_ior C.1 C.2.1 hd (k p l e R s m args below meth c G B mc ms C ls H locs cells slots hl hw hS hn)
theorem wp_ixor {S : SH} {M : MD} {d cb sb : Nat} {Q : Option Value → AH → Prop} {pc : Nat} {L st : List Value} {h : AH} {x y : Int32} (hd : decode M.2.1 pc = .ok (.ixor, 1))  (k : WP S M d cb sb Q (pc + 1) L (.int (x ^^^ y) :: st) h) : WP S M d cb sb Q pc L (.int y :: .int x :: st) h := by
  intro p l e R s m args below meth c G B mc ms C ls H locs cells slots hl hw hS hn
  exact lv_ixor C.1 C.2.1 hd (k p l e R s m args below meth c G B mc ms C ls H locs cells slots hl hw hS hn)
theorem wp_ishl {S : SH} {M : MD} {d cb sb : Nat} {Q : Option Value → AH → Prop} {pc : Nat} {L st : List Value} {h : AH} {x y : Int32} (hd : decode M.2.1 pc = .ok (.ishl, 1))  (k : WP S M d cb sb Q (pc + 1) L (.int (x <<< (y &&& 31)) :: st) h) : WP S M d cb sb Q pc L (.int y :: .int x :: st) h := by
  intro p l e R s m args below meth c G B mc ms C ls H locs cells slots hl hw hS hn
  exact lv_ishl C.1 C.2.1 hd (k p l e R s m args below meth c G B mc ms C ls H locs cells slots hl hw hS hn)
theorem wp_ishr {S : SH} {M : MD} {d cb sb : Nat} {Q : Option Value → AH → Prop} {pc : Nat} {L st : List Value} {h : AH} {x y : Int32} (hd : decode M.2.1 pc = .ok (.ishr, 1))  (k : WP S M d cb sb Q (pc + 1) L (.int (x >>> (y &&& 31)) :: st) h) : WP S M d cb sb Q pc L (.int y :: .int x :: st) h := by
  intro p l e R s m args below meth c G B mc ms C ls H locs cells slots hl hw hS hn
  exact lv_ishr C.1 C.2.1 hd (k p l e R s m args below meth c G B mc ms C ls H locs cells slots hl hw hS hn)
theorem wp_irem {S : SH} {M : MD} {d cb sb : Nat} {Q : Option Value → AH → Prop} {pc : Nat} {L st : List Value} {h : AH} {x y : Int32} (hd : decode M.2.1 pc = .ok (.irem, 1)) (hne : ¬ y = 0) (k : WP S M d cb sb Q (pc + 1) L (.int (x - x / y * y) :: st) h) : WP S M d cb sb Q pc L (.int y :: .int x :: st) h := by
  intro p l e R s m args below meth c G B mc ms C ls H locs cells slots hl hw hS hn
  exact lv_irem C.1 C.2.1 hd hne (k p l e R s m args below meth c G B mc ms C ls H locs cells slots hl hw hS hn)
theorem wp_iushr {S : SH} {M : MD} {d cb sb : Nat} {Q : Option Value → AH → Prop} {pc : Nat} {L st : List Value} {h : AH} {x y : Int32} (hd : decode M.2.1 pc = .ok (.iushr, 1))  (k : WP S M d cb sb Q (pc + 1) L (.int ((x.toUInt32 >>> (y.toUInt32 &&& Int32.toUInt32 31)).toInt32) :: st) h) : WP S M d cb sb Q pc L (.int y :: .int x :: st) h := by
  intro p l e R s m args below meth c G B mc ms C ls H locs cells slots hl hw hS hn
  exact lv_iushr C.1 C.2.1 hd rfl (k p l e R s m args below meth c G B mc ms C ls H locs cells slots hl hw hS hn)
theorem wp_ineg {S : SH} {M : MD} {d cb sb : Nat} {Q : Option Value → AH → Prop} {pc : Nat} {L st : List Value} {h : AH} {x : Int32} (hd : decode M.2.1 pc = .ok (.ineg, 1))  (k : WP S M d cb sb Q (pc + 1) L (.int (-x) :: st) h) : WP S M d cb sb Q pc L (.int x :: st) h := by
  intro p l e R s m args below meth c G B mc ms C ls H locs cells slots hl hw hS hn
  exact lv_ineg C.1 C.2.1 hd (k p l e R s m args below meth c G B mc ms C ls H locs cells slots hl hw hS hn)
theorem wp_i2l {S : SH} {M : MD} {d cb sb : Nat} {Q : Option Value → AH → Prop} {pc : Nat} {L st : List Value} {h : AH} {x : Int32} (hd : decode M.2.1 pc = .ok (.i2l, 1))  (k : WP S M d cb sb Q (pc + 1) L (.long x.toInt64 :: st) h) : WP S M d cb sb Q pc L (.int x :: st) h := by
  intro p l e R s m args below meth c G B mc ms C ls H locs cells slots hl hw hS hn
  exact lv_i2l C.1 C.2.1 hd rfl (k p l e R s m args below meth c G B mc ms C ls H locs cells slots hl hw hS hn)
theorem wp_l2i {S : SH} {M : MD} {d cb sb : Nat} {Q : Option Value → AH → Prop} {pc : Nat} {L st : List Value} {h : AH} {x : Int64} (hd : decode M.2.1 pc = .ok (.l2i, 1))  (k : WP S M d cb sb Q (pc + 1) L (.int x.toInt32 :: st) h) : WP S M d cb sb Q pc L (.long x :: st) h := by
  intro p l e R s m args below meth c G B mc ms C ls H locs cells slots hl hw hS hn
  exact lv_l2i C.1 C.2.1 hd rfl (k p l e R s m args below meth c G B mc ms C ls H locs cells slots hl hw hS hn)
theorem wp_ladd {S : SH} {M : MD} {d cb sb : Nat} {Q : Option Value → AH → Prop} {pc : Nat} {L st : List Value} {h : AH} {x y : Int64} (hd : decode M.2.1 pc = .ok (.ladd, 1))  (k : WP S M d cb sb Q (pc + 1) L (.long (x + y) :: st) h) : WP S M d cb sb Q pc L (.long y :: .long x :: st) h := by
  intro p l e R s m args below meth c G B mc ms C ls H locs cells slots hl hw hS hn
  exact lv_ladd C.1 C.2.1 hd (k p l e R s m args below meth c G B mc ms C ls H locs cells slots hl hw hS hn)
theorem wp_lsub {S : SH} {M : MD} {d cb sb : Nat} {Q : Option Value → AH → Prop} {pc : Nat} {L st : List Value} {h : AH} {x y : Int64} (hd : decode M.2.1 pc = .ok (.lsub, 1))  (k : WP S M d cb sb Q (pc + 1) L (.long (x - y) :: st) h) : WP S M d cb sb Q pc L (.long y :: .long x :: st) h := by
  intro p l e R s m args below meth c G B mc ms C ls H locs cells slots hl hw hS hn
  exact lv_lsub C.1 C.2.1 hd (k p l e R s m args below meth c G B mc ms C ls H locs cells slots hl hw hS hn)
theorem wp_lmul {S : SH} {M : MD} {d cb sb : Nat} {Q : Option Value → AH → Prop} {pc : Nat} {L st : List Value} {h : AH} {x y : Int64} (hd : decode M.2.1 pc = .ok (.lmul, 1))  (k : WP S M d cb sb Q (pc + 1) L (.long (x * y) :: st) h) : WP S M d cb sb Q pc L (.long y :: .long x :: st) h := by
  intro p l e R s m args below meth c G B mc ms C ls H locs cells slots hl hw hS hn
  exact lv_lmul C.1 C.2.1 hd (k p l e R s m args below meth c G B mc ms C ls H locs cells slots hl hw hS hn)
theorem wp_ldiv {S : SH} {M : MD} {d cb sb : Nat} {Q : Option Value → AH → Prop} {pc : Nat} {L st : List Value} {h : AH} {x y : Int64} (hd : decode M.2.1 pc = .ok (.ldiv, 1)) (hne : ¬ y = 0) (k : WP S M d cb sb Q (pc + 1) L (.long (x / y) :: st) h) : WP S M d cb sb Q pc L (.long y :: .long x :: st) h := by
  intro p l e R s m args below meth c G B mc ms C ls H locs cells slots hl hw hS hn
  exact lv_ldiv C.1 C.2.1 hd hne (k p l e R s m args below meth c G B mc ms C ls H locs cells slots hl hw hS hn)
theorem wp_lrem {S : SH} {M : MD} {d cb sb : Nat} {Q : Option Value → AH → Prop} {pc : Nat} {L st : List Value} {h : AH} {x y : Int64} (hd : decode M.2.1 pc = .ok (.lrem, 1)) (hne : ¬ y = 0) (k : WP S M d cb sb Q (pc + 1) L (.long (x - x / y * y) :: st) h) : WP S M d cb sb Q pc L (.long y :: .long x :: st) h := by
  intro p l e R s m args below meth c G B mc ms C ls H locs cells slots hl hw hS hn
  exact lv_lrem C.1 C.2.1 hd hne (k p l e R s m args below meth c G B mc ms C ls H locs cells slots hl hw hS hn)
theorem wp_lcmp {S : SH} {M : MD} {d cb sb : Nat} {Q : Option Value → AH → Prop} {pc : Nat} {L st : List Value} {h : AH} {x y : Int64} (hd : decode M.2.1 pc = .ok (.lcmp, 1))  (k : WP S M d cb sb Q (pc + 1) L (.int (lg_cmp x y) :: st) h) : WP S M d cb sb Q pc L (.long y :: .long x :: st) h := by
  intro p l e R s m args below meth c G B mc ms C ls H locs cells slots hl hw hS hn
  exact W.lcmp C.1 C.2.1 hd (k p l e R s m args below meth c G B mc ms C ls H locs cells slots hl hw hS hn)
theorem wp_dupI {S : SH} {M : MD} {d cb sb : Nat} {Q : Option Value → AH → Prop} {pc : Nat} {L st : List Value} {h : AH} {x : Int32} (hd : decode M.2.1 pc = .ok (.dup, 1))  (k : WP S M d cb sb Q (pc + 1) L (.int x :: .int x :: st) h) : WP S M d cb sb Q pc L (.int x :: st) h := by
  intro p l e R s m args below meth c G B mc ms C ls H locs cells slots hl hw hS hn
  exact lv_dup C.1 C.2.1 hd rfl (k p l e R s m args below meth c G B mc ms C ls H locs cells slots hl hw hS hn)
theorem wp_dupR {S : SH} {M : MD} {d cb sb : Nat} {Q : Option Value → AH → Prop} {pc : Nat} {L st : List Value} {h : AH} {x : Nat} (hd : decode M.2.1 pc = .ok (.dup, 1))  (k : WP S M d cb sb Q (pc + 1) L (.ref x :: .ref x :: st) h) : WP S M d cb sb Q pc L (.ref x :: st) h := by
  intro p l e R s m args below meth c G B mc ms C ls H locs cells slots hl hw hS hn
  exact lv_dup C.1 C.2.1 hd rfl (k p l e R s m args below meth c G B mc ms C ls H locs cells slots hl hw hS hn)
theorem wp_dup2 {S : SH} {M : MD} {d cb sb : Nat} {Q : Option Value → AH → Prop} {pc : Nat} {L st : List Value} {h : AH} {x : Int32} {y : Nat} (hd : decode M.2.1 pc = .ok (.dup2, 1))  (k : WP S M d cb sb Q (pc + 1) L (.int x :: .ref y :: .int x :: .ref y :: st) h) : WP S M d cb sb Q pc L (.int x :: .ref y :: st) h := by
  intro p l e R s m args below meth c G B mc ms C ls H locs cells slots hl hw hS hn
  exact lv_dup2_11 C.1 C.2.1 hd rfl rfl (k p l e R s m args below meth c G B mc ms C ls H locs cells slots hl hw hS hn)
theorem wp_popI {S : SH} {M : MD} {d cb sb : Nat} {Q : Option Value → AH → Prop} {pc : Nat} {L st : List Value} {h : AH} {x : Int32} (hd : decode M.2.1 pc = .ok (.pop, 1))  (k : WP S M d cb sb Q (pc + 1) L (st) h) : WP S M d cb sb Q pc L (.int x :: st) h := by
  intro p l e R s m args below meth c G B mc ms C ls H locs cells slots hl hw hS hn
  exact lv_pop C.1 C.2.1 hd rfl (k p l e R s m args below meth c G B mc ms C ls H locs cells slots hl hw hS hn)
theorem wp_istore_n {S : SH} {M : MD} {d cb sb : Nat} {Q : Option Value → AH → Prop} {pc : Nat} {L st : List Value} {h : AH} {k : Fin 4} {x : Int32} (hd : decode M.2.1 pc = .ok (.istore_n k, 1)) (hb : (k : Nat) < M.2.2.1) {L1 : List Value} (hL : st1 L (k : Nat) (.int x) = L1) (k : WP S M d cb sb Q (pc + 1) L1 st h) : WP S M d cb sb Q pc L (.int x :: st) h := by
  intro p l e R s m args below meth c G B mc ms C ls H locs cells slots hl hw hS hn
  exact lv_istore_n C.1 C.2.1 hd rfl hl hb rfl (fun ls1 h1 => k p l e R s m args below meth c G B mc ms C ls1 H locs cells slots (by rw [← hL]; exact LH_st1 h1) hw hS hn)
theorem wp_istore {S : SH} {M : MD} {d cb sb : Nat} {Q : Option Value → AH → Prop} {pc : Nat} {L st : List Value} {h : AH} {i : Nat} {x : Int32} (hd : decode M.2.1 pc = .ok (.istore i, 2)) (hb : i < M.2.2.1) {L1 : List Value} (hL : st1 L i (.int x) = L1) (k : WP S M d cb sb Q (pc + 2) L1 st h) : WP S M d cb sb Q pc L (.int x :: st) h := by
  intro p l e R s m args below meth c G B mc ms C ls H locs cells slots hl hw hS hn
  exact lv_istore C.1 C.2.1 hd  hl hb rfl (fun ls1 h1 => k p l e R s m args below meth c G B mc ms C ls1 H locs cells slots (by rw [← hL]; exact LH_st1 h1) hw hS hn)
theorem wp_lstore_n {S : SH} {M : MD} {d cb sb : Nat} {Q : Option Value → AH → Prop} {pc : Nat} {L st : List Value} {h : AH} {k : Fin 4} {x : Int64} (hd : decode M.2.1 pc = .ok (.lstore_n k, 1)) (hb : (k : Nat) + 1 < M.2.2.1) {L1 : List Value} (hL : st2 L (k : Nat) (.long x) = L1) (k : WP S M d cb sb Q (pc + 1) L1 st h) : WP S M d cb sb Q pc L (.long x :: st) h := by
  intro p l e R s m args below meth c G B mc ms C ls H locs cells slots hl hw hS hn
  exact lv_lstore_n C.1 C.2.1 hd rfl hl hb rfl (fun ls1 h1 => k p l e R s m args below meth c G B mc ms C ls1 H locs cells slots (by rw [← hL]; exact LH_st2 h1) hw hS hn)
theorem wp_lstore {S : SH} {M : MD} {d cb sb : Nat} {Q : Option Value → AH → Prop} {pc : Nat} {L st : List Value} {h : AH} {i : Nat} {x : Int64} (hd : decode M.2.1 pc = .ok (.lstore i, 2)) (hb : i + 1 < M.2.2.1) {L1 : List Value} (hL : st2 L i (.long x) = L1) (k : WP S M d cb sb Q (pc + 2) L1 st h) : WP S M d cb sb Q pc L (.long x :: st) h := by
  intro p l e R s m args below meth c G B mc ms C ls H locs cells slots hl hw hS hn
  exact lv_lstore C.1 C.2.1 hd  hl hb rfl (fun ls1 h1 => k p l e R s m args below meth c G B mc ms C ls1 H locs cells slots (by rw [← hL]; exact LH_st2 h1) hw hS hn)
theorem wp_astore_n {S : SH} {M : MD} {d cb sb : Nat} {Q : Option Value → AH → Prop} {pc : Nat} {L st : List Value} {h : AH} {k : Fin 4} {x : Nat} (hd : decode M.2.1 pc = .ok (.astore_n k, 1)) (hb : (k : Nat) < M.2.2.1) {L1 : List Value} (hL : st1 L (k : Nat) (.ref x) = L1) (k : WP S M d cb sb Q (pc + 1) L1 st h) : WP S M d cb sb Q pc L (.ref x :: st) h := by
  intro p l e R s m args below meth c G B mc ms C ls H locs cells slots hl hw hS hn
  exact lv_astore_n C.1 C.2.1 hd rfl hl hb rfl (fun ls1 h1 => k p l e R s m args below meth c G B mc ms C ls1 H locs cells slots (by rw [← hL]; exact LH_st1 h1) hw hS hn)
theorem wp_astore {S : SH} {M : MD} {d cb sb : Nat} {Q : Option Value → AH → Prop} {pc : Nat} {L st : List Value} {h : AH} {i : Nat} {x : Nat} (hd : decode M.2.1 pc = .ok (.astore i, 2)) (hb : i < M.2.2.1) {L1 : List Value} (hL : st1 L i (.ref x) = L1) (k : WP S M d cb sb Q (pc + 2) L1 st h) : WP S M d cb sb Q pc L (.ref x :: st) h := by
  intro p l e R s m args below meth c G B mc ms C ls H locs cells slots hl hw hS hn
  exact lv_astore C.1 C.2.1 hd  hl hb rfl (fun ls1 h1 => k p l e R s m args below meth c G B mc ms C ls1 H locs cells slots (by rw [← hL]; exact LH_st1 h1) hw hS hn)
theorem wp_iinc {S : SH} {M : MD} {d cb sb : Nat} {Q : Option Value → AH → Prop} {pc : Nat} {L st : List Value} {h : AH} {i : Nat} {n : Int} {x v : Int32} (hd : decode M.2.1 pc = .ok (.iinc i n, 3)) (hv : L[i]? = some (.int x)) (hx : Int32.ofInt n = v) (hb : i < M.2.2.1) {L1 : List Value} (hL : st1 L i (.int (x + v)) = L1) (k : WP S M d cb sb Q (pc + 3) L1 st h) : WP S M d cb sb Q pc L st h := by
  intro p l e R s m args below meth c G B mc ms C ls H locs cells slots hl hw hS hn
  obtain ⟨j, hj⟩ := List.getElem?_of_mem (asc_mem (B := B) (q := (i, .int x)).mpr ⟨_, hv, rfl, rfl⟩)
  exact lv_iinc C.1 C.2.1 hd hl hj (by rw [hx]) hb rfl (fun ls1 h1 => k p l e R s m args below meth c G B mc ms C ls1 H locs cells slots (by rw [← hL]; exact LH_st1 h1) hw hS hn)
theorem wp_if_eq {S : SH} {M : MD} {d cb sb : Nat} {Q : Option Value → AH → Prop} {pc : Nat} {L st : List Value} {h : AH} {x : Int32} {off : Int} (tgt : Nat) (hd : decode M.2.1 pc = .ok (.ifCond .eq off, 3)) (ht : (pc : Int) + off = (tgt : Int)) (kt : x = 0 → WP S M d cb sb Q tgt L st h) (kf : ¬ x = 0 → WP S M d cb sb Q (pc + 3) L st h) : WP S M d cb sb Q pc L (.int x :: st) h := by
  intro p l e R s m args below meth c G B mc ms C ls H locs cells slots hl hw hS hn
  exact lv_if_eq C.1 C.2.1 hd ht (fun q => kt q p l e R s m args below meth c G B mc ms C ls H locs cells slots hl hw hS hn) (fun q => kf q p l e R s m args below meth c G B mc ms C ls H locs cells slots hl hw hS hn)
theorem wp_icmp_eq {S : SH} {M : MD} {d cb sb : Nat} {Q : Option Value → AH → Prop} {pc : Nat} {L st : List Value} {h : AH} {x y : Int32} {off : Int} (tgt : Nat) (hd : decode M.2.1 pc = .ok (.if_icmp .eq off, 3)) (ht : (pc : Int) + off = (tgt : Int)) (kt : x = y → WP S M d cb sb Q tgt L st h) (kf : ¬ x = y → WP S M d cb sb Q (pc + 3) L st h) : WP S M d cb sb Q pc L (.int y :: .int x :: st) h := by
  intro p l e R s m args below meth c G B mc ms C ls H locs cells slots hl hw hS hn
  exact lv_icmp_eq C.1 C.2.1 hd ht (fun q => kt q p l e R s m args below meth c G B mc ms C ls H locs cells slots hl hw hS hn) (fun q => kf q p l e R s m args below meth c G B mc ms C ls H locs cells slots hl hw hS hn)
theorem wp_if_ne {S : SH} {M : MD} {d cb sb : Nat} {Q : Option Value → AH → Prop} {pc : Nat} {L st : List Value} {h : AH} {x : Int32} {off : Int} (tgt : Nat) (hd : decode M.2.1 pc = .ok (.ifCond .ne off, 3)) (ht : (pc : Int) + off = (tgt : Int)) (kt : ¬ x = 0 → WP S M d cb sb Q tgt L st h) (kf : x = 0 → WP S M d cb sb Q (pc + 3) L st h) : WP S M d cb sb Q pc L (.int x :: st) h := by
  intro p l e R s m args below meth c G B mc ms C ls H locs cells slots hl hw hS hn
  exact lv_if_ne C.1 C.2.1 hd ht (fun q => kt q p l e R s m args below meth c G B mc ms C ls H locs cells slots hl hw hS hn) (fun q => kf q p l e R s m args below meth c G B mc ms C ls H locs cells slots hl hw hS hn)
theorem wp_icmp_ne {S : SH} {M : MD} {d cb sb : Nat} {Q : Option Value → AH → Prop} {pc : Nat} {L st : List Value} {h : AH} {x y : Int32} {off : Int} (tgt : Nat) (hd : decode M.2.1 pc = .ok (.if_icmp .ne off, 3)) (ht : (pc : Int) + off = (tgt : Int)) (kt : ¬ x = y → WP S M d cb sb Q tgt L st h) (kf : x = y → WP S M d cb sb Q (pc + 3) L st h) : WP S M d cb sb Q pc L (.int y :: .int x :: st) h := by
  intro p l e R s m args below meth c G B mc ms C ls H locs cells slots hl hw hS hn
  exact lv_icmp_ne C.1 C.2.1 hd ht (fun q => kt q p l e R s m args below meth c G B mc ms C ls H locs cells slots hl hw hS hn) (fun q => kf q p l e R s m args below meth c G B mc ms C ls H locs cells slots hl hw hS hn)
theorem wp_if_lt {S : SH} {M : MD} {d cb sb : Nat} {Q : Option Value → AH → Prop} {pc : Nat} {L st : List Value} {h : AH} {x : Int32} {off : Int} (tgt : Nat) (hd : decode M.2.1 pc = .ok (.ifCond .lt off, 3)) (ht : (pc : Int) + off = (tgt : Int)) (kt : x < 0 → WP S M d cb sb Q tgt L st h) (kf : ¬ x < 0 → WP S M d cb sb Q (pc + 3) L st h) : WP S M d cb sb Q pc L (.int x :: st) h := by
  intro p l e R s m args below meth c G B mc ms C ls H locs cells slots hl hw hS hn
  exact lv_if_lt C.1 C.2.1 hd ht (fun q => kt q p l e R s m args below meth c G B mc ms C ls H locs cells slots hl hw hS hn) (fun q => kf q p l e R s m args below meth c G B mc ms C ls H locs cells slots hl hw hS hn)
theorem wp_icmp_lt {S : SH} {M : MD} {d cb sb : Nat} {Q : Option Value → AH → Prop} {pc : Nat} {L st : List Value} {h : AH} {x y : Int32} {off : Int} (tgt : Nat) (hd : decode M.2.1 pc = .ok (.if_icmp .lt off, 3)) (ht : (pc : Int) + off = (tgt : Int)) (kt : x < y → WP S M d cb sb Q tgt L st h) (kf : ¬ x < y → WP S M d cb sb Q (pc + 3) L st h) : WP S M d cb sb Q pc L (.int y :: .int x :: st) h := by
  intro p l e R s m args below meth c G B mc ms C ls H locs cells slots hl hw hS hn
  exact lv_icmp_lt C.1 C.2.1 hd ht (fun q => kt q p l e R s m args below meth c G B mc ms C ls H locs cells slots hl hw hS hn) (fun q => kf q p l e R s m args below meth c G B mc ms C ls H locs cells slots hl hw hS hn)
theorem wp_if_ge {S : SH} {M : MD} {d cb sb : Nat} {Q : Option Value → AH → Prop} {pc : Nat} {L st : List Value} {h : AH} {x : Int32} {off : Int} (tgt : Nat) (hd : decode M.2.1 pc = .ok (.ifCond .ge off, 3)) (ht : (pc : Int) + off = (tgt : Int)) (kt : 0 ≤ x → WP S M d cb sb Q tgt L st h) (kf : ¬ 0 ≤ x → WP S M d cb sb Q (pc + 3) L st h) : WP S M d cb sb Q pc L (.int x :: st) h := by
  intro p l e R s m args below meth c G B mc ms C ls H locs cells slots hl hw hS hn
  exact lv_if_ge C.1 C.2.1 hd ht (fun q => kt q p l e R s m args below meth c G B mc ms C ls H locs cells slots hl hw hS hn) (fun q => kf q p l e R s m args below meth c G B mc ms C ls H locs cells slots hl hw hS hn)
theorem wp_icmp_ge {S : SH} {M : MD} {d cb sb : Nat} {Q : Option Value → AH → Prop} {pc : Nat} {L st : List Value} {h : AH} {x y : Int32} {off : Int} (tgt : Nat) (hd : decode M.2.1 pc = .ok (.if_icmp .ge off, 3)) (ht : (pc : Int) + off = (tgt : Int)) (kt : y ≤ x → WP S M d cb sb Q tgt L st h) (kf : ¬ y ≤ x → WP S M d cb sb Q (pc + 3) L st h) : WP S M d cb sb Q pc L (.int y :: .int x :: st) h := by
  intro p l e R s m args below meth c G B mc ms C ls H locs cells slots hl hw hS hn
  exact lv_icmp_ge C.1 C.2.1 hd ht (fun q => kt q p l e R s m args below meth c G B mc ms C ls H locs cells slots hl hw hS hn) (fun q => kf q p l e R s m args below meth c G B mc ms C ls H locs cells slots hl hw hS hn)
theorem wp_if_gt {S : SH} {M : MD} {d cb sb : Nat} {Q : Option Value → AH → Prop} {pc : Nat} {L st : List Value} {h : AH} {x : Int32} {off : Int} (tgt : Nat) (hd : decode M.2.1 pc = .ok (.ifCond .gt off, 3)) (ht : (pc : Int) + off = (tgt : Int)) (kt : 0 < x → WP S M d cb sb Q tgt L st h) (kf : ¬ 0 < x → WP S M d cb sb Q (pc + 3) L st h) : WP S M d cb sb Q pc L (.int x :: st) h := by
  intro p l e R s m args below meth c G B mc ms C ls H locs cells slots hl hw hS hn
  exact lv_if_gt C.1 C.2.1 hd ht (fun q => kt q p l e R s m args below meth c G B mc ms C ls H locs cells slots hl hw hS hn) (fun q => kf q p l e R s m args below meth c G B mc ms C ls H locs cells slots hl hw hS hn)
theorem wp_icmp_gt {S : SH} {M : MD} {d cb sb : Nat} {Q : Option Value → AH → Prop} {pc : Nat} {L st : List Value} {h : AH} {x y : Int32} {off : Int} (tgt : Nat) (hd : decode M.2.1 pc = .ok (.if_icmp .gt off, 3)) (ht : (pc : Int) + off = (tgt : Int)) (kt : y < x → WP S M d cb sb Q tgt L st h) (kf : ¬ y < x → WP S M d cb sb Q (pc + 3) L st h) : WP S M d cb sb Q pc L (.int y :: .int x :: st) h := by
  intro p l e R s m args below meth c G B mc ms C ls H locs cells slots hl hw hS hn
  exact lv_icmp_gt C.1 C.2.1 hd ht (fun q => kt q p l e R s m args below meth c G B mc ms C ls H locs cells slots hl hw hS hn) (fun q => kf q p l e R s m args below meth c G B mc ms C ls H locs cells slots hl hw hS hn)
theorem wp_if_le {S : SH} {M : MD} {d cb sb : Nat} {Q : Option Value → AH → Prop} {pc : Nat} {L st : List Value} {h : AH} {x : Int32} {off : Int} (tgt : Nat) (hd : decode M.2.1 pc = .ok (.ifCond .le off, 3)) (ht : (pc : Int) + off = (tgt : Int)) (kt : x ≤ 0 → WP S M d cb sb Q tgt L st h) (kf : ¬ x ≤ 0 → WP S M d cb sb Q (pc + 3) L st h) : WP S M d cb sb Q pc L (.int x :: st) h := by
  intro p l e R s m args below meth c G B mc ms C ls H locs cells slots hl hw hS hn
  exact lv_if_le C.1 C.2.1 hd ht (fun q => kt q p l e R s m args below meth c G B mc ms C ls H locs cells slots hl hw hS hn) (fun q => kf q p l e R s m args below meth c G B mc ms C ls H locs cells slots hl hw hS hn)
theorem wp_icmp_le {S : SH} {M : MD} {d cb sb : Nat} {Q : Option Value → AH → Prop} {pc : Nat} {L st : List Value} {h : AH} {x y : Int32} {off : Int} (tgt : Nat) (hd : decode M.2.1 pc = .ok (.if_icmp .le off, 3)) (ht : (pc : Int) + off = (tgt : Int)) (kt : x ≤ y → WP S M d cb sb Q tgt L st h) (kf : ¬ x ≤ y → WP S M d cb sb Q (pc + 3) L st h) : WP S M d cb sb Q pc L (.int y :: .int x :: st) h := by
  intro p l e R s m args below meth c G B mc ms C ls H locs cells slots hl hw hS hn
  exact lv_icmp_le C.1 C.2.1 hd ht (fun q => kt q p l e R s m args below meth c G B mc ms C ls H locs cells slots hl hw hS hn) (fun q => kf q p l e R s m args below meth c G B mc ms C ls H locs cells slots hl hw hS hn)
theorem wp_goto {S : SH} {M : MD} {d cb sb : Nat} {Q : Option Value → AH → Prop} {pc : Nat} {L st : List Value} {h : AH} {off : Int} (tgt : Nat) (hd : decode M.2.1 pc = .ok (.goto off, 3)) (ht : (pc : Int) + off = (tgt : Int)) (k : WP S M d cb sb Q tgt L st h) : WP S M d cb sb Q pc L st h := by
  intro p l e R s m args below meth c G B mc ms C ls H locs cells slots hl hw hS hn
  exact lv_goto C.1 C.2.1 hd ht (k p l e R s m args below meth c G B mc ms C ls H locs cells slots hl hw hS hn)
theorem wp_ifnonnull {S : SH} {M : MD} {d cb sb : Nat} {Q : Option Value → AH → Prop} {pc : Nat} {L st : List Value} {h : AH} {x : Nat} {off : Int} (tgt : Nat) (hd : decode M.2.1 pc = .ok (.ifnonnull off, 3)) (ht : (pc : Int) + off = (tgt : Int)) (k : WP S M d cb sb Q tgt L st h) : WP S M d cb sb Q pc L (.ref x :: st) h := by
  intro p l e R s m args below meth c G B mc ms C ls H locs cells slots hl hw hS hn
  exact lv_ifnonnull C.1 C.2.1 hd ht (k p l e R s m args below meth c G B mc ms C ls H locs cells slots hl hw hS hn)
theorem wp_ifnonnullN {S : SH} {M : MD} {d cb sb : Nat} {Q : Option Value → AH → Prop} {pc : Nat} {L st : List Value} {h : AH} {off : Int} (hd : decode M.2.1 pc = .ok (.ifnonnull off, 3)) (k : WP S M d cb sb Q (pc + 3) L st h) : WP S M d cb sb Q pc L (.null :: st) h := by
  intro p l e R s m args below meth c G B mc ms C ls H locs cells slots hl hw hS hn
  exact lv_ifnonnullN C.1 C.2.1 hd (k p l e R s m args below meth c G B mc ms C ls H locs cells slots hl hw hS hn)
theorem wp_tabIn {S : SH} {M : MD} {d cb sb : Nat} {Q : Option Value → AH → Prop} {pc : Nat} {L st : List Value} {h : AH} {dflt lo hi : Int} {offs : Array Int} {len : Nat} {x : Int32} {off : Int} (tgt : Nat) (hd : decode M.2.1 pc = .ok (.tableswitch dflt lo hi offs, len)) (h1 : ¬ x.toInt < lo) (h2 : ¬ hi < x.toInt) (ho : offs[(x.toInt - lo).toNat]? = some off) (ht : (pc : Int) + off = (tgt : Int)) (k : WP S M d cb sb Q tgt L st h) : WP S M d cb sb Q pc L (.int x :: st) h := by
  intro p l e R s m args below meth c G B mc ms C ls H locs cells slots hl hw hS hn
  exact lv_tableIn C.1 C.2.1 hd h1 h2 ho ht (k p l e R s m args below meth c G B mc ms C ls H locs cells slots hl hw hS hn)
theorem wp_tabOut {S : SH} {M : MD} {d cb sb : Nat} {Q : Option Value → AH → Prop} {pc : Nat} {L st : List Value} {h : AH} {dflt lo hi : Int} {offs : Array Int} {len : Nat} {x : Int32} (tgt : Nat) (hd : decode M.2.1 pc = .ok (.tableswitch dflt lo hi offs, len)) (h1 : x.toInt < lo ∨ hi < x.toInt) (ht : (pc : Int) + dflt = (tgt : Int)) (k : WP S M d cb sb Q tgt L st h) : WP S M d cb sb Q pc L (.int x :: st) h := by
  intro p l e R s m args below meth c G B mc ms C ls H locs cells slots hl hw hS hn
  exact lv_tableOut C.1 C.2.1 hd h1 ht (k p l e R s m args below meth c G B mc ms C ls H locs cells slots hl hw hS hn)
theorem wp_ldc {S : SH} {M : MD} {d cb sb : Nat} {Q : Option Value → AH → Prop} {pc : Nat} {L st : List Value} {h : AH} {index : Nat} {v : Int32} (hc : Cond.constant M.1.cls index v ∈ TT) (hd : decode M.2.1 pc = .ok (.ldc index, 2)) (k : WP S M d cb sb Q (pc + 2) L (.int v :: st) h) : WP S M d cb sb Q pc L st h := by
  intro p l e R s m args below meth c G B mc ms C ls H locs cells slots hl hw hS hn
  exact lv_ldc C.1 C.2.1 C.2.2.2.2.2.1 (C.2.2.2.2.1 _ hc) hd (k p l e R s m args below meth c G B mc ms C ls H locs cells slots hl hw hS hn)
theorem wp_ldcw {S : SH} {M : MD} {d cb sb : Nat} {Q : Option Value → AH → Prop} {pc : Nat} {L st : List Value} {h : AH} {index : Nat} {v : Int32} (hc : Cond.constant M.1.cls index v ∈ TT) (hd : decode M.2.1 pc = .ok (.ldc_w index, 3)) (k : WP S M d cb sb Q (pc + 3) L (.int v :: st) h) : WP S M d cb sb Q pc L st h := by
  intro p l e R s m args below meth c G B mc ms C ls H locs cells slots hl hw hS hn
  exact lv_ldcw C.1 C.2.1 C.2.2.2.2.2.1 (C.2.2.2.2.1 _ hc) hd (k p l e R s m args below meth c G B mc ms C ls H locs cells slots hl hw hS hn)
theorem wp_ldc2 {S : SH} {M : MD} {d cb sb : Nat} {Q : Option Value → AH → Prop} {pc : Nat} {L st : List Value} {h : AH} {index : Nat} {v : Int64} (hc : Cond.constantLong M.1.cls index v ∈ TT) (hd : decode M.2.1 pc = .ok (.ldc2_w index, 3)) (k : WP S M d cb sb Q (pc + 3) L (.long v :: st) h) : WP S M d cb sb Q pc L st h := by
  intro p l e R s m args below meth c G B mc ms C ls H locs cells slots hl hw hS hn
  exact lv_ldc2 C.1 C.2.1 C.2.2.2.2.2.1 (C.2.2.2.2.1 _ hc) hd (k p l e R s m args below meth c G B mc ms C ls H locs cells slots hl hw hS hn)

def f_X0_divisionAt_j90 (S : SH) (r0 : Nat) (x1 : Int32) (x3 : Int32) (x4 : Int32) (sx0 : Int32) (h : AH) : Option (Int32 × AH) :=
  (gR S h r0 0 2).bind fun p_1 =>
  if x4 = (0 : Int32) then
    (sI S h p_1 x3 (-1 : Int32)).bind fun h_4 =>
    (gR S h_4 r0 0 2).bind fun p_6 =>
    (aI S h_4 p_6 x3).bind fun v_8 =>
    some (v_8, h_4)
  else
    (gR S h r0 0 1).bind fun p_10 =>
    (gI S h p_10 7 2).bind fun v_12 =>
    (sI S h p_1 x3 ((v_12 - x1) + sx0)).bind fun h_14 =>
    (gR S h_14 r0 0 2).bind fun p_16 =>
    (aI S h_14 p_16 x3).bind fun v_18 =>
    some (v_18, h_14)
set_option maxHeartbeats 8000000 in
set_option maxRecDepth 20000 in
theorem s_X0_divisionAt_j90 {S : SH} {d cb sb : Nat} {Q : Option Value → AH → Prop} (hd : 5 ≤ d)  {r0 : Nat} {x1 : Int32} {x3 : Int32} {x4 : Int32} {sx0 : Int32} {h : AH} (k : ok (f_X0_divisionAt_j90 S r0 x1 x3 x4 sx0 h) (fun w h' => Q (some (.int w)) h')) : WP S M_X0_divisionAt d cb sb Q 90 [.ref r0, .int x1, JK, .int x3, .int x4, JK] [.int sx0] h := by
  obtain ⟨d, rfl, he⟩ := dp (L := 4) hd
  unfold f_X0_divisionAt_j90 at k
  refine wp_istore dX0_divisionAt_90 (by decide) (L1 := [_, _, _, _, _, _]) rfl ?_
  refine wp_aload_n dX0_divisionAt_92 rfl ?_
  replace k := ok_bind k
  obtain ⟨p_1, e_2, k⟩ := k
  refine wq_getR fl_X0_18 (Or.inr ⟨_, rfl⟩) dX0_divisionAt_93 e_2 ?_
  refine wp_iload_n dX0_divisionAt_96 rfl ?_
  refine wp_iload dX0_divisionAt_97 rfl ?_
  refine wp_if_eq 117 dX0_divisionAt_99 (by decide) (fun c_3 => ?_) (fun c_3 => ?_)
  · replace k := ok_t c_3 k
    refine wp_iconst dX0_divisionAt_117 ic_m1 ?_
    replace k := ok_bind k
    obtain ⟨h_4, e_5, k⟩ := k
    refine wq_sI dX0_divisionAt_118 e_5 ?_
    refine wp_aload_n dX0_divisionAt_119 rfl ?_
    replace k := ok_bind k
    obtain ⟨p_6, e_7, k⟩ := k
    refine wq_getR fl_X0_18 (Or.inr ⟨_, rfl⟩) dX0_divisionAt_120 e_7 ?_
    refine wp_iload_n dX0_divisionAt_123 rfl ?_
    replace k := ok_bind k
    obtain ⟨v_8, e_9, k⟩ := k
    refine wq_aI dX0_divisionAt_124 e_9 ?_
    refine wp_iret rfl rfl dX0_divisionAt_125 ?_
    exact (ok_some k :)
  · replace k := ok_f c_3 k
    refine wp_aload_n dX0_divisionAt_102 rfl ?_
    replace k := ok_bind k
    obtain ⟨p_10, e_11, k⟩ := k
    refine wq_getR fl_X0_12 (Or.inl ⟨_, rfl⟩) dX0_divisionAt_103 e_11 ?_
    replace k := ok_bind k
    obtain ⟨v_12, e_13, k⟩ := k
    refine wq_getI fl_X0_68 (Or.inl rfl) dX0_divisionAt_106 e_13 ?_
    refine wp_iload_n dX0_divisionAt_109 rfl ?_
    refine wp_isub dX0_divisionAt_110 ?_
    refine wp_iload dX0_divisionAt_111 rfl ?_
    refine wp_iadd dX0_divisionAt_113 ?_
    refine wp_goto 118 dX0_divisionAt_114 (by decide) ?_
    replace k := ok_bind k
    obtain ⟨h_14, e_15, k⟩ := k
    refine wq_sI dX0_divisionAt_118 e_15 ?_
    refine wp_aload_n dX0_divisionAt_119 rfl ?_
    replace k := ok_bind k
    obtain ⟨p_16, e_17, k⟩ := k
    refine wq_getR fl_X0_18 (Or.inr ⟨_, rfl⟩) dX0_divisionAt_120 e_17 ?_
    refine wp_iload_n dX0_divisionAt_123 rfl ?_
    replace k := ok_bind k
    obtain ⟨v_18, e_19, k⟩ := k
    refine wq_aI dX0_divisionAt_124 e_19 ?_
    refine wp_iret rfl rfl dX0_divisionAt_125 ?_
    exact (ok_some k :)
def f_X0_divisionAt_j69 (S : SH) (r0 : Nat) (x1 : Int32) (x2 : Int32) (x3 : Int32) (sx0 : Int32) (h : AH) : Option (Int32 × AH) :=
  (gR S h r0 0 1).bind fun p_1 =>
  (gR S h p_1 7 1).bind fun p_3 =>
  (aI S h p_3 x2).bind fun v_5 =>
  if v_5 = (2 : Int32) then
    f_X0_divisionAt_j90 S r0 x1 x3 sx0 (16 : Int32) h
  else
    f_X0_divisionAt_j90 S r0 x1 x3 sx0 (0 : Int32) h
set_option maxHeartbeats 8000000 in
set_option maxRecDepth 20000 in
theorem s_X0_divisionAt_j69 {S : SH} {d cb sb : Nat} {Q : Option Value → AH → Prop} (hd : 5 ≤ d)  {r0 : Nat} {x1 : Int32} {x2 : Int32} {x3 : Int32} {sx0 : Int32} {h : AH} (k : ok (f_X0_divisionAt_j69 S r0 x1 x2 x3 sx0 h) (fun w h' => Q (some (.int w)) h')) : WP S M_X0_divisionAt d cb sb Q 69 [.ref r0, .int x1, .int x2, .int x3, JK, JK] [.int sx0] h := by
  obtain ⟨d, rfl, he⟩ := dp (L := 4) hd
  unfold f_X0_divisionAt_j69 at k
  refine wp_istore dX0_divisionAt_69 (by decide) (L1 := [_, _, _, _, _, _]) rfl ?_
  refine wp_aload_n dX0_divisionAt_71 rfl ?_
  replace k := ok_bind k
  obtain ⟨p_1, e_2, k⟩ := k
  refine wq_getR fl_X0_12 (Or.inl ⟨_, rfl⟩) dX0_divisionAt_72 e_2 ?_
  replace k := ok_bind k
  obtain ⟨p_3, e_4, k⟩ := k
  refine wq_getR fl_X0_71 (Or.inr ⟨_, rfl⟩) dX0_divisionAt_75 e_4 ?_
  refine wp_iload_n dX0_divisionAt_78 rfl ?_
  replace k := ok_bind k
  obtain ⟨v_5, e_6, k⟩ := k
  refine wq_aI dX0_divisionAt_79 e_6 ?_
  refine wp_iconst dX0_divisionAt_80 ic_2 ?_
  refine wp_icmp_ne 89 dX0_divisionAt_81 (by decide) (fun c_7 => ?_) (fun c_7 => ?_)
  · replace k := ok_f c_7 k
    refine wp_iconst dX0_divisionAt_89 ic_0 ?_
    exact wp_wk (wkE <| wkE <| wkJ <| wkE <| wkE <| wkJ <| wkN) (s_X0_divisionAt_j90 (Nat.succ_le_succ he)  k)
  · replace k := ok_t c_7 k
    refine wp_bipush dX0_divisionAt_84 bp_16 ?_
    refine wp_goto 90 dX0_divisionAt_86 (by decide) ?_
    exact wp_wk (wkE <| wkE <| wkJ <| wkE <| wkE <| wkJ <| wkN) (s_X0_divisionAt_j90 (Nat.succ_le_succ he)  k)
def f_X0_divisionAt (S : SH) (r0 : Nat) (x1 : Int32) (x2 : Int32) (h : AH) : Option (Int32 × AH) :=
  lt (((x1 * (6 : Int32)) + x2)) fun y_1 =>
  if y_1 < (0 : Int32) then
    some ((-1 : Int32), h)
  else
    (gR S h r0 0 2).bind fun p_3 =>
    (lnA S h p_3).bind fun v_5 =>
    if y_1 < v_5 then
      (gR S h r0 0 2).bind fun p_8 =>
      (aI S h p_8 y_1).bind fun v_10 =>
      if v_10 = (0 : Int32) then
        (gR S h r0 0 1).bind fun p_17 =>
        (pI S h p_17 7 2 x1).bind fun h_19 =>
        (gR S h_19 r0 0 1).bind fun p_21 =>
        (gR S h_19 p_21 7 1).bind fun p_23 =>
        (sI S h_19 p_23 x2 (1 : Int32)).bind fun h_25 =>
        (gR S h_25 r0 0 0).bind fun p_27 =>
        (gR S h_25 r0 0 1).bind fun p_29 =>
        (ckO S h_25 p_27 1).bind fun _ =>
        (f_X1_dividing S p_27 p_29 x2 h_25).bind fun z => match z with
        | (z_33, h_32) =>
        if z_33 < (0 : Int32) then
          f_X0_divisionAt_j69 S r0 x1 x2 y_1 (0 : Int32) h_32
        else
          f_X0_divisionAt_j69 S r0 x1 x2 y_1 (1 : Int32) h_32
      else
        (gR S h r0 0 2).bind fun p_13 =>
        (aI S h p_13 y_1).bind fun v_15 =>
        some (v_15, h)
    else
      some ((-1 : Int32), h)
set_option maxHeartbeats 8000000 in
set_option maxRecDepth 20000 in
theorem s_X0_divisionAt {S : SH} {d cb sb : Nat} {Q : Option Value → AH → Prop} (hd : 5 ≤ d)  {r0 : Nat} {x1 : Int32} {x2 : Int32} {h : AH} (k : ok (f_X0_divisionAt S r0 x1 x2 h) (fun w h' => Q (some (.int w)) h')) : WP S M_X0_divisionAt d cb sb Q 0 [.ref r0, .int x1, .int x2, JK, JK, JK] [] h := by
  obtain ⟨d, rfl, he⟩ := dp (L := 4) hd
  unfold f_X0_divisionAt at k
  refine wp_iload_n dX0_divisionAt_0 rfl ?_
  refine wp_bipush dX0_divisionAt_1 bp_6 ?_
  refine wp_imul dX0_divisionAt_3 ?_
  refine wp_iload_n dX0_divisionAt_4 rfl ?_
  refine wp_iadd dX0_divisionAt_5 ?_
  replace k := ok_lt k
  refine wp_istore_n dX0_divisionAt_6 (by decide) (L1 := [_, _, _, _, _, _]) rfl ?_
  refine wp_iload_n dX0_divisionAt_7 rfl ?_
  refine wp_if_lt 20 dX0_divisionAt_8 (by decide) (fun c_2 => ?_) (fun c_2 => ?_)
  · replace k := ok_t c_2 k
    refine wp_iconst dX0_divisionAt_20 ic_m1 ?_
    refine wp_iret rfl rfl dX0_divisionAt_21 ?_
    exact (ok_some k :)
  · replace k := ok_f c_2 k
    refine wp_iload_n dX0_divisionAt_11 rfl ?_
    refine wp_aload_n dX0_divisionAt_12 rfl ?_
    replace k := ok_bind k
    obtain ⟨p_3, e_4, k⟩ := k
    refine wq_getR fl_X0_18 (Or.inr ⟨_, rfl⟩) dX0_divisionAt_13 e_4 ?_
    replace k := ok_bind k
    obtain ⟨v_5, e_6, k⟩ := k
    refine wq_len dX0_divisionAt_16 e_6 ?_
    refine wp_icmp_lt 22 dX0_divisionAt_17 (by decide) (fun c_7 => ?_) (fun c_7 => ?_)
    · replace k := ok_t c_7 k
      refine wp_aload_n dX0_divisionAt_22 rfl ?_
      replace k := ok_bind k
      obtain ⟨p_8, e_9, k⟩ := k
      refine wq_getR fl_X0_18 (Or.inr ⟨_, rfl⟩) dX0_divisionAt_23 e_9 ?_
      refine wp_iload_n dX0_divisionAt_26 rfl ?_
      replace k := ok_bind k
      obtain ⟨v_10, e_11, k⟩ := k
      refine wq_aI dX0_divisionAt_27 e_11 ?_
      refine wp_if_ne 119 dX0_divisionAt_28 (by decide) (fun c_12 => ?_) (fun c_12 => ?_)
      · replace k := ok_f c_12 k
        refine wp_aload_n dX0_divisionAt_119 rfl ?_
        replace k := ok_bind k
        obtain ⟨p_13, e_14, k⟩ := k
        refine wq_getR fl_X0_18 (Or.inr ⟨_, rfl⟩) dX0_divisionAt_120 e_14 ?_
        refine wp_iload_n dX0_divisionAt_123 rfl ?_
        replace k := ok_bind k
        obtain ⟨v_15, e_16, k⟩ := k
        refine wq_aI dX0_divisionAt_124 e_16 ?_
        refine wp_iret rfl rfl dX0_divisionAt_125 ?_
        exact (ok_some k :)
      · replace k := ok_t c_12 k
        refine wp_aload_n dX0_divisionAt_31 rfl ?_
        replace k := ok_bind k
        obtain ⟨p_17, e_18, k⟩ := k
        refine wq_getR fl_X0_12 (Or.inl ⟨_, rfl⟩) dX0_divisionAt_32 e_18 ?_
        refine wp_iload_n dX0_divisionAt_35 rfl ?_
        replace k := ok_bind k
        obtain ⟨h_19, e_20, k⟩ := k
        refine wq_putI fl_X0_68 rfl rfl dX0_divisionAt_36 e_20 ?_
        refine wp_aload_n dX0_divisionAt_39 rfl ?_
        replace k := ok_bind k
        obtain ⟨p_21, e_22, k⟩ := k
        refine wq_getR fl_X0_12 (Or.inl ⟨_, rfl⟩) dX0_divisionAt_40 e_22 ?_
        replace k := ok_bind k
        obtain ⟨p_23, e_24, k⟩ := k
        refine wq_getR fl_X0_71 (Or.inr ⟨_, rfl⟩) dX0_divisionAt_43 e_24 ?_
        refine wp_iload_n dX0_divisionAt_46 rfl ?_
        refine wp_iconst dX0_divisionAt_47 ic_1 ?_
        replace k := ok_bind k
        obtain ⟨h_25, e_26, k⟩ := k
        refine wq_sI dX0_divisionAt_48 e_26 ?_
        refine wp_aload_n dX0_divisionAt_49 rfl ?_
        replace k := ok_bind k
        obtain ⟨p_27, e_28, k⟩ := k
        refine wq_getR fl_X0_28 (Or.inl ⟨_, rfl⟩) dX0_divisionAt_50 e_28 ?_
        refine wp_aload_n dX0_divisionAt_53 rfl ?_
        replace k := ok_bind k
        obtain ⟨p_29, e_30, k⟩ := k
        refine wq_getR fl_X0_12 (Or.inl ⟨_, rfl⟩) dX0_divisionAt_54 e_30 ?_
        refine wp_iload_n dX0_divisionAt_57 rfl ?_
        replace k := ok_bind k
        obtain ⟨u, e_31, k⟩ := k
        refine wp_callV2 (N := M_X1_dividing) (ci := 1) mf_X1_dividing mi_X1_dividing me_X1_dividing ml_X0_74 dX0_divisionAt_58 (ckO_e e_31) mv_X1_dividing (by exact Nat.le_of_ble_eq_true rfl) (c_X1_dividing (Nat.le_trans (by decide) he) (ok_mono (ok_bind2 k) fun z_33 h_32 k => ?_))
        try dsimp only at k
        refine wp_if_lt 68 dX0_divisionAt_61 (by decide) (fun c_34 => ?_) (fun c_34 => ?_)
        · replace k := ok_t c_34 k
          refine wp_iconst dX0_divisionAt_68 ic_0 ?_
          exact wp_wk (wkE <| wkE <| wkE <| wkE <| wkJ <| wkJ <| wkN) (s_X0_divisionAt_j69 (Nat.succ_le_succ he)  k)
        · replace k := ok_f c_34 k
          refine wp_iconst dX0_divisionAt_64 ic_1 ?_
          refine wp_goto 69 dX0_divisionAt_65 (by decide) ?_
          exact wp_wk (wkE <| wkE <| wkE <| wkE <| wkJ <| wkJ <| wkN) (s_X0_divisionAt_j69 (Nat.succ_le_succ he)  k)
    · replace k := ok_f c_7 k
      refine wp_iconst dX0_divisionAt_20 ic_m1 ?_
      refine wp_iret rfl rfl dX0_divisionAt_21 ?_
      exact (ok_some k :)
theorem c_X0_divisionAt {S : SH} {d : Nat} {K : Option Value → AH → Prop} (hd : 5 ≤ d)  {r0 : Nat} {x1 : Int32} {x2 : Int32} {h : AH} (k : ok (f_X0_divisionAt S r0 x1 x2 h) (fun w h' => K (some (.int w)) h')) : CP S M_X0_divisionAt d 0 0 [.ref r0, .int x1, .int x2] h K := cp_of (by decide) (fun _ _ => trivial) (fun _ => Nat.le_of_ble_eq_true rfl) (s_X0_divisionAt hd  k)
def f_X0_goOn_l36_j110 (S : SH) (rs : Nat → Int32 → Int32 → Int32 → Int32 → AH → Option (Unit × AH)) (rc : Nat → Int32 → Int32 → Int32 → Int32 → Int32 → AH → Option (Unit × AH)) (r0 : Nat) (x1 : Int32) (x2 : Int32) (x3 : Int32) (x4 : Int32) (x5 : Int32) (x6 : Int32) (sx0 : Int32) (h : AH) : Option (Unit × AH) :=
  (ckO S h r0 0).bind fun _ =>
  (rs r0 ((x1 + (rmI x6 (16 : Int32)))) ((x2 + (1 : Int32))) (x3 + sx0) ((x4 &&& (((1 : Int32) <<< (x5 &&& (31 : Int32))) ^^^ (-1 : Int32)))) h).bind fun z => match z with
  | (_, h_2) =>
  lt (x5 + (1 : Int32)) fun y_4 =>
  rc r0 x1 x2 x3 x4 y_4 h_2
set_option maxHeartbeats 8000000 in
set_option maxRecDepth 20000 in
theorem s_X0_goOn_l36_j110 {S : SH} {d cb sb : Nat} {Q : Option Value → AH → Prop} (hd : 6 ≤ d) {N0 : Nat} (hN : N0 + 1 ≤ d) {rs : Nat → Int32 → Int32 → Int32 → Int32 → AH → Option (Unit × AH)} (hrs : ∀ (e : Nat), N0 ≤ e → ∀ (r : Nat) (x1 x2 x3 x4 : Int32) (h : AH) (K : Option Value → AH → Prop), ok (rs r x1 x2 x3 x4 h) (fun _ h' => K none h') → CP S M_X0_goOn e 0 0 [.ref r, .int x1, .int x2, .int x3, .int x4] h K) {K : Unit → AH → Prop} (hex : ∀  (h' : AH), K () h' → WP S M_X0_goOn d cb sb Q 145 [JK, JK, JK, JK, JK, JK, JK, JK] [] h') {rc : Nat → Int32 → Int32 → Int32 → Int32 → Int32 → AH → Option (Unit × AH)} (hrec : ∀ (r0 : Nat) (x1 : Int32) (x2 : Int32) (x3 : Int32) (x4 : Int32) (x5 : Int32) (h' : AH), ok (rc r0 x1 x2 x3 x4 x5 h') K → WP S M_X0_goOn d cb sb Q 36 [.ref r0, .int x1, .int x2, .int x3, .int x4, .int x5, JK, JK] [] h') {r0 : Nat} {x1 : Int32} {x2 : Int32} {x3 : Int32} {x4 : Int32} {x5 : Int32} {x6 : Int32} {sx0 : Int32} {h : AH} (k : ok (f_X0_goOn_l36_j110 S rs rc r0 x1 x2 x3 x4 x5 x6 sx0 h) K) : WP S M_X0_goOn d cb sb Q 110 [.ref r0, .int x1, .int x2, .int x3, .int x4, .int x5, .int x6, JK] [.int sx0] h := by
  obtain ⟨d, rfl, he, hM⟩ := dp2 (L := 5) (N := N0) hd hN
  unfold f_X0_goOn_l36_j110 at k
  refine wp_istore dX0_goOn_110 (by decide) (L1 := [_, _, _, _, _, _, _, _]) rfl ?_
  refine wp_aload_n dX0_goOn_112 rfl ?_
  refine wp_iload_n dX0_goOn_113 rfl ?_
  refine wp_iload dX0_goOn_114 rfl ?_
  refine wp_bipush dX0_goOn_116 bp_16 ?_
  refine wp_irem dX0_goOn_118 (by decide) ?_
  refine wp_iadd dX0_goOn_119 ?_
  refine wp_iload_n dX0_goOn_120 rfl ?_
  refine wp_iconst dX0_goOn_121 ic_1 ?_
  refine wp_iadd dX0_goOn_122 ?_
  refine wp_iload_n dX0_goOn_123 rfl ?_
  refine wp_iload dX0_goOn_124 rfl ?_
  refine wp_iadd dX0_goOn_126 ?_
  refine wp_iload dX0_goOn_127 rfl ?_
  refine wp_iconst dX0_goOn_129 ic_1 ?_
  refine wp_iload dX0_goOn_130 rfl ?_
  refine wp_ishl dX0_goOn_132 ?_
  refine wp_iconst dX0_goOn_133 ic_m1 ?_
  refine wp_ixor dX0_goOn_134 ?_
  refine wp_iand dX0_goOn_135 ?_
  replace k := ok_bind k
  obtain ⟨u, e_1, k⟩ := k
  refine wp_callV4 (N := M_X0_goOn) (ci := 0) mf_X0_goOn mi_X0_goOn me_X0_goOn ml_X0_64 dX0_goOn_136 (ckO_e e_1) mv_X0_goOn (by exact Nat.le_of_ble_eq_true rfl) (hrs d (by omega) _ _ _ _ _ _ _ (ok_mono (ok_bind2 k) fun _ h_2 k => ?_))
  try dsimp only at k
  replace k := ok_lt k
  refine wp_iinc dX0_goOn_139 rfl ic_1 (by decide) (L1 := [_, _, _, _, _, _, _, _]) rfl ?_
  refine wp_goto 36 dX0_goOn_142 (by decide) ?_
  exact wp_wk (wkE <| wkE <| wkE <| wkE <| wkE <| wkE <| wkJ <| wkJ <| wkN) (hrec _ _ _ _ _ _ _ k)
def f_X0_goOn_l36_j70 (S : SH) (rs : Nat → Int32 → Int32 → Int32 → Int32 → AH → Option (Unit × AH)) (rc : Nat → Int32 → Int32 → Int32 → Int32 → Int32 → AH → Option (Unit × AH)) (r0 : Nat) (x1 : Int32) (x2 : Int32) (x3 : Int32) (x4 : Int32) (x5 : Int32) (sx0 : Int32) (h : AH) : Option (Unit × AH) :=
  if sx0 = (-1 : Int32) then
    lt (x5 + (1 : Int32)) fun y_2 =>
    rc r0 x1 x2 x3 x4 y_2 h
  else
    (gR S h r0 0 3).bind fun p_3 =>
    (sI S h p_3 x2 x5).bind fun h_5 =>
    if sx0 < (16 : Int32) then
      f_X0_goOn_l36_j110 S rs rc r0 x1 x2 x3 x4 x5 sx0 (0 : Int32) h_5
    else
      (gR S h_5 r0 0 0).bind fun p_8 =>
      (gR S h_5 p_8 1 0).bind fun p_10 =>
      (gR S h_5 p_10 6 6).bind fun p_12 =>
      (aI S h_5 p_12 x5).bind fun v_14 =>
      f_X0_goOn_l36_j110 S rs rc r0 x1 x2 x3 x4 x5 sx0 v_14 h_5
set_option maxHeartbeats 8000000 in
set_option maxRecDepth 20000 in
theorem s_X0_goOn_l36_j70 {S : SH} {d cb sb : Nat} {Q : Option Value → AH → Prop} (hd : 6 ≤ d) {N0 : Nat} (hN : N0 + 1 ≤ d) {rs : Nat → Int32 → Int32 → Int32 → Int32 → AH → Option (Unit × AH)} (hrs : ∀ (e : Nat), N0 ≤ e → ∀ (r : Nat) (x1 x2 x3 x4 : Int32) (h : AH) (K : Option Value → AH → Prop), ok (rs r x1 x2 x3 x4 h) (fun _ h' => K none h') → CP S M_X0_goOn e 0 0 [.ref r, .int x1, .int x2, .int x3, .int x4] h K) {K : Unit → AH → Prop} (hex : ∀  (h' : AH), K () h' → WP S M_X0_goOn d cb sb Q 145 [JK, JK, JK, JK, JK, JK, JK, JK] [] h') {rc : Nat → Int32 → Int32 → Int32 → Int32 → Int32 → AH → Option (Unit × AH)} (hrec : ∀ (r0 : Nat) (x1 : Int32) (x2 : Int32) (x3 : Int32) (x4 : Int32) (x5 : Int32) (h' : AH), ok (rc r0 x1 x2 x3 x4 x5 h') K → WP S M_X0_goOn d cb sb Q 36 [.ref r0, .int x1, .int x2, .int x3, .int x4, .int x5, JK, JK] [] h') {r0 : Nat} {x1 : Int32} {x2 : Int32} {x3 : Int32} {x4 : Int32} {x5 : Int32} {sx0 : Int32} {h : AH} (k : ok (f_X0_goOn_l36_j70 S rs rc r0 x1 x2 x3 x4 x5 sx0 h) K) : WP S M_X0_goOn d cb sb Q 70 [.ref r0, .int x1, .int x2, .int x3, .int x4, .int x5, JK, JK] [.int sx0] h := by
  obtain ⟨d, rfl, he, hM⟩ := dp2 (L := 5) (N := N0) hd hN
  unfold f_X0_goOn_l36_j70 at k
  refine wp_istore dX0_goOn_70 (by decide) (L1 := [_, _, _, _, _, _, _, _]) rfl ?_
  refine wp_iload dX0_goOn_72 rfl ?_
  refine wp_iconst dX0_goOn_74 ic_m1 ?_
  refine wp_icmp_eq 139 dX0_goOn_75 (by decide) (fun c_1 => ?_) (fun c_1 => ?_)
  · replace k := ok_t c_1 k
    replace k := ok_lt k
    refine wp_iinc dX0_goOn_139 rfl ic_1 (by decide) (L1 := [_, _, _, _, _, _, _, _]) rfl ?_
    refine wp_goto 36 dX0_goOn_142 (by decide) ?_
    exact wp_wk (wkE <| wkE <| wkE <| wkE <| wkE <| wkE <| wkJ <| wkJ <| wkN) (hrec _ _ _ _ _ _ _ k)
  · replace k := ok_f c_1 k
    refine wp_aload_n dX0_goOn_78 rfl ?_
    replace k := ok_bind k
    obtain ⟨p_3, e_4, k⟩ := k
    refine wq_getR fl_X0_22 (Or.inr ⟨_, rfl⟩) dX0_goOn_79 e_4 ?_
    refine wp_iload_n dX0_goOn_82 rfl ?_
    refine wp_iload dX0_goOn_83 rfl ?_
    replace k := ok_bind k
    obtain ⟨h_5, e_6, k⟩ := k
    refine wq_sI dX0_goOn_85 e_6 ?_
    refine wp_iload dX0_goOn_86 rfl ?_
    refine wp_bipush dX0_goOn_88 bp_16 ?_
    refine wp_icmp_lt 109 dX0_goOn_90 (by decide) (fun c_7 => ?_) (fun c_7 => ?_)
    · replace k := ok_t c_7 k
      refine wp_iconst dX0_goOn_109 ic_0 ?_
      exact wp_wk (wkE <| wkE <| wkE <| wkE <| wkE <| wkE <| wkE <| wkJ <| wkN) (s_X0_goOn_l36_j110 (Nat.succ_le_succ he) (Nat.succ_le_succ hM) hrs hex hrec k)
    · replace k := ok_f c_7 k
      refine wp_aload_n dX0_goOn_93 rfl ?_
      replace k := ok_bind k
      obtain ⟨p_8, e_9, k⟩ := k
      refine wq_getR fl_X0_28 (Or.inl ⟨_, rfl⟩) dX0_goOn_94 e_9 ?_
      replace k := ok_bind k
      obtain ⟨p_10, e_11, k⟩ := k
      refine wq_getR fl_X0_53 (Or.inl ⟨_, rfl⟩) dX0_goOn_97 e_11 ?_
      replace k := ok_bind k
      obtain ⟨p_12, e_13, k⟩ := k
      refine wq_getR fl_X0_59 (Or.inr ⟨_, rfl⟩) dX0_goOn_100 e_13 ?_
      refine wp_iload dX0_goOn_103 rfl ?_
      replace k := ok_bind k
      obtain ⟨v_14, e_15, k⟩ := k
      refine wq_aI dX0_goOn_105 e_15 ?_
      refine wp_goto 110 dX0_goOn_106 (by decide) ?_
      exact wp_wk (wkE <| wkE <| wkE <| wkE <| wkE <| wkE <| wkE <| wkJ <| wkN) (s_X0_goOn_l36_j110 (Nat.succ_le_succ he) (Nat.succ_le_succ hM) hrs hex hrec k)
def f_X0_goOn_l36b (S : SH) (rs : Nat → Int32 → Int32 → Int32 → Int32 → AH → Option (Unit × AH)) (rc : Nat → Int32 → Int32 → Int32 → Int32 → Int32 → AH → Option (Unit × AH)) (r0 : Nat) (x1 : Int32) (x2 : Int32) (x3 : Int32) (x4 : Int32) (x5 : Int32) (h : AH) : Option (Unit × AH) :=
  if (6 : Int32) ≤ x5 then
    some ((), h)
  else
    if (6 : Int32) ≤ x2 then
      some ((), h)
    else
      if (x4 &&& ((1 : Int32) <<< (x5 &&& (31 : Int32)))) = (0 : Int32) then
        f_X0_goOn_l36_j70 S rs rc r0 x1 x2 x3 x4 x5 (-1 : Int32) h
      else
        (ckO S h r0 0).bind fun _ =>
        (f_X0_divisionAt S r0 x1 x5 h).bind fun z => match z with
        | (z_6, h_5) =>
        f_X0_goOn_l36_j70 S rs rc r0 x1 x2 x3 x4 x5 z_6 h_5
set_option maxHeartbeats 8000000 in
set_option maxRecDepth 20000 in
theorem s_X0_goOn_l36b {S : SH} {d cb sb : Nat} {Q : Option Value → AH → Prop} (hd : 6 ≤ d) {N0 : Nat} (hN : N0 + 1 ≤ d) {rs : Nat → Int32 → Int32 → Int32 → Int32 → AH → Option (Unit × AH)} (hrs : ∀ (e : Nat), N0 ≤ e → ∀ (r : Nat) (x1 x2 x3 x4 : Int32) (h : AH) (K : Option Value → AH → Prop), ok (rs r x1 x2 x3 x4 h) (fun _ h' => K none h') → CP S M_X0_goOn e 0 0 [.ref r, .int x1, .int x2, .int x3, .int x4] h K) {K : Unit → AH → Prop} (hex : ∀  (h' : AH), K () h' → WP S M_X0_goOn d cb sb Q 145 [JK, JK, JK, JK, JK, JK, JK, JK] [] h') {rc : Nat → Int32 → Int32 → Int32 → Int32 → Int32 → AH → Option (Unit × AH)} (hrec : ∀ (r0 : Nat) (x1 : Int32) (x2 : Int32) (x3 : Int32) (x4 : Int32) (x5 : Int32) (h' : AH), ok (rc r0 x1 x2 x3 x4 x5 h') K → WP S M_X0_goOn d cb sb Q 36 [.ref r0, .int x1, .int x2, .int x3, .int x4, .int x5, JK, JK] [] h') {r0 : Nat} {x1 : Int32} {x2 : Int32} {x3 : Int32} {x4 : Int32} {x5 : Int32} {h : AH} (k : ok (f_X0_goOn_l36b S rs rc r0 x1 x2 x3 x4 x5 h) K) : WP S M_X0_goOn d cb sb Q 36 [.ref r0, .int x1, .int x2, .int x3, .int x4, .int x5, JK, JK] [] h := by
  obtain ⟨d, rfl, he, hM⟩ := dp2 (L := 5) (N := N0) hd hN
  unfold f_X0_goOn_l36b at k
  refine wp_iload dX0_goOn_36 rfl ?_
  refine wp_bipush dX0_goOn_38 bp_6 ?_
  refine wp_icmp_ge 145 dX0_goOn_40 (by decide) (fun c_1 => ?_) (fun c_1 => ?_)
  · replace k := ok_t c_1 k
    exact wp_wk (wkJ <| wkJ <| wkJ <| wkJ <| wkJ <| wkJ <| wkJ <| wkJ <| wkN) (hex  _ (ok_some k))
  · replace k := ok_f c_1 k
    refine wp_iload_n dX0_goOn_43 rfl ?_
    refine wp_bipush dX0_goOn_44 bp_6 ?_
    refine wp_icmp_ge 145 dX0_goOn_46 (by decide) (fun c_2 => ?_) (fun c_2 => ?_)
    · replace k := ok_t c_2 k
      exact wp_wk (wkJ <| wkJ <| wkJ <| wkJ <| wkJ <| wkJ <| wkJ <| wkJ <| wkN) (hex  _ (ok_some k))
    · replace k := ok_f c_2 k
      refine wp_iload dX0_goOn_49 rfl ?_
      refine wp_iconst dX0_goOn_51 ic_1 ?_
      refine wp_iload dX0_goOn_52 rfl ?_
      refine wp_ishl dX0_goOn_54 ?_
      refine wp_iand dX0_goOn_55 ?_
      refine wp_if_eq 69 dX0_goOn_56 (by decide) (fun c_3 => ?_) (fun c_3 => ?_)
      · replace k := ok_t c_3 k
        refine wp_iconst dX0_goOn_69 ic_m1 ?_
        exact wp_wk (wkE <| wkE <| wkE <| wkE <| wkE <| wkE <| wkJ <| wkJ <| wkN) (s_X0_goOn_l36_j70 (Nat.succ_le_succ he) (Nat.succ_le_succ hM) hrs hex hrec k)
      · replace k := ok_f c_3 k
        refine wp_aload_n dX0_goOn_59 rfl ?_
        refine wp_iload_n dX0_goOn_60 rfl ?_
        refine wp_iload dX0_goOn_61 rfl ?_
        replace k := ok_bind k
        obtain ⟨u, e_4, k⟩ := k
        refine wp_callV2 (N := M_X0_divisionAt) (ci := 0) mf_X0_divisionAt mi_X0_divisionAt me_X0_divisionAt ml_X0_49 dX0_goOn_63 (ckO_e e_4) mv_X0_divisionAt (by exact Nat.le_of_ble_eq_true rfl) (c_X0_divisionAt (Nat.le_trans (by decide) he) (ok_mono (ok_bind2 k) fun z_6 h_5 k => ?_))
        try dsimp only at k
        refine wp_goto 70 dX0_goOn_66 (by decide) ?_
        exact wp_wk (wkE <| wkE <| wkE <| wkE <| wkE <| wkE <| wkJ <| wkJ <| wkN) (s_X0_goOn_l36_j70 (Nat.succ_le_succ he) (Nat.succ_le_succ hM) hrs hex hrec k)
def f_X0_goOn_l36 (S : SH) (rs : Nat → Int32 → Int32 → Int32 → Int32 → AH → Option (Unit × AH)) : Nat → Nat → Int32 → Int32 → Int32 → Int32 → Int32 → AH → Option (Unit × AH)
  | 0, _, _, _, _, _, _, _ => none
  | n + 1, r0, x1, x2, x3, x4, x5, h => f_X0_goOn_l36b S rs (f_X0_goOn_l36 S rs n) r0 x1 x2 x3 x4 x5 h
theorem s_X0_goOn_l36 {S : SH} {d cb sb : Nat} {Q : Option Value → AH → Prop} (hd : 6 ≤ d) {N0 : Nat} (hN : N0 + 1 ≤ d) {rs : Nat → Int32 → Int32 → Int32 → Int32 → AH → Option (Unit × AH)} (hrs : ∀ (e : Nat), N0 ≤ e → ∀ (r : Nat) (x1 x2 x3 x4 : Int32) (h : AH) (K : Option Value → AH → Prop), ok (rs r x1 x2 x3 x4 h) (fun _ h' => K none h') → CP S M_X0_goOn e 0 0 [.ref r, .int x1, .int x2, .int x3, .int x4] h K) {K : Unit → AH → Prop} (hex : ∀  (h' : AH), K () h' → WP S M_X0_goOn d cb sb Q 145 [JK, JK, JK, JK, JK, JK, JK, JK] [] h') : ∀ (n : Nat) (r0 : Nat) (x1 : Int32) (x2 : Int32) (x3 : Int32) (x4 : Int32) (x5 : Int32) (h : AH), ok (f_X0_goOn_l36 S rs n r0 x1 x2 x3 x4 x5 h) K → WP S M_X0_goOn d cb sb Q 36 [.ref r0, .int x1, .int x2, .int x3, .int x4, .int x5, JK, JK] [] h := by
  intro n
  induction n with
  | zero => intro r0 x1 x2 x3 x4 x5 h k; exact ok_none k
  | succ n ih => intro r0 x1 x2 x3 x4 x5 h k; exact s_X0_goOn_l36b hd hN hrs hex (fun r0 x1 x2 x3 x4 x5 h k => ih r0 x1 x2 x3 x4 x5 h k) k
def f_X0_goOn (S : SH) (rs : Nat → Int32 → Int32 → Int32 → Int32 → AH → Option (Unit × AH)) (r0 : Nat) (x1 : Int32) (x2 : Int32) (x3 : Int32) (x4 : Int32) (h : AH) : Option (Unit × AH) :=
  (gI S h r0 0 6).bind fun v_1 =>
  if x3 ≤ v_1 then
    (f_X0_goOn_l36 S rs FU r0 x1 x2 x3 x4 (0 : Int32) h).bind fun z => match z with
    | ((), h_4) =>
    some ((), h_4)
  else
    (pI S h r0 0 6 x3).bind fun h_5 =>
    (pI S h_5 r0 0 5 x2).bind fun h_7 =>
    (gR S h_7 r0 0 3).bind fun p_9 =>
    (gR S h_7 r0 0 4).bind fun p_11 =>
    (cpI S h_7 p_9 (0 : Int32) p_11 (0 : Int32) (6 : Int32)).bind fun h_13 =>
    (f_X0_goOn_l36 S rs FU r0 x1 x2 x3 x4 (0 : Int32) h_13).bind fun z => match z with
    | ((), h_15) =>
    some ((), h_15)
set_option maxHeartbeats 8000000 in
set_option maxRecDepth 20000 in
theorem s_X0_goOn {S : SH} {d cb sb : Nat} {Q : Option Value → AH → Prop} (hd : 6 ≤ d) {N0 : Nat} (hN : N0 + 1 ≤ d) {rs : Nat → Int32 → Int32 → Int32 → Int32 → AH → Option (Unit × AH)} (hrs : ∀ (e : Nat), N0 ≤ e → ∀ (r : Nat) (x1 x2 x3 x4 : Int32) (h : AH) (K : Option Value → AH → Prop), ok (rs r x1 x2 x3 x4 h) (fun _ h' => K none h') → CP S M_X0_goOn e 0 0 [.ref r, .int x1, .int x2, .int x3, .int x4] h K) {r0 : Nat} {x1 : Int32} {x2 : Int32} {x3 : Int32} {x4 : Int32} {h : AH} (k : ok (f_X0_goOn S rs r0 x1 x2 x3 x4 h) (fun _ h' => Q none h')) : WP S M_X0_goOn d cb sb Q 0 [.ref r0, .int x1, .int x2, .int x3, .int x4, JK, JK, JK] [] h := by
  obtain ⟨d, rfl, he, hM⟩ := dp2 (L := 5) (N := N0) hd hN
  unfold f_X0_goOn at k
  refine wp_iload_n dX0_goOn_0 rfl ?_
  refine wp_aload_n dX0_goOn_1 rfl ?_
  replace k := ok_bind k
  obtain ⟨v_1, e_2, k⟩ := k
  refine wq_getI fl_X0_40 (Or.inl rfl) dX0_goOn_2 e_2 ?_
  refine wp_icmp_le 33 dX0_goOn_5 (by decide) (fun c_3 => ?_) (fun c_3 => ?_)
  · replace k := ok_t c_3 k
    refine wp_iconst dX0_goOn_33 ic_0 ?_
    refine wp_istore dX0_goOn_34 (by decide) (L1 := [_, _, _, _, _, _, _, _]) rfl ?_
    refine wp_wk (wkE <| wkE <| wkE <| wkE <| wkE <| wkE <| wkJ <| wkJ <| wkN) ?_
    refine s_X0_goOn_l36 (Nat.succ_le_succ he) (Nat.succ_le_succ hM) hrs (fun  h_4 k => ?_) FU _ _ _ _ _ _ _ (ok_bind2 k)
    try dsimp only at k
    refine wp_vret rfl dX0_goOn_145 ?_
    exact (ok_some k :)
  · replace k := ok_f c_3 k
    refine wp_aload_n dX0_goOn_8 rfl ?_
    refine wp_iload_n dX0_goOn_9 rfl ?_
    replace k := ok_bind k
    obtain ⟨h_5, e_6, k⟩ := k
    refine wq_putI fl_X0_40 rfl rfl dX0_goOn_10 e_6 ?_
    refine wp_aload_n dX0_goOn_13 rfl ?_
    refine wp_iload_n dX0_goOn_14 rfl ?_
    replace k := ok_bind k
    obtain ⟨h_7, e_8, k⟩ := k
    refine wq_putI fl_X0_36 rfl rfl dX0_goOn_15 e_8 ?_
    refine wp_aload_n dX0_goOn_18 rfl ?_
    replace k := ok_bind k
    obtain ⟨p_9, e_10, k⟩ := k
    refine wq_getR fl_X0_22 (Or.inr ⟨_, rfl⟩) dX0_goOn_19 e_10 ?_
    refine wp_iconst dX0_goOn_22 ic_0 ?_
    refine wp_aload_n dX0_goOn_23 rfl ?_
    replace k := ok_bind k
    obtain ⟨p_11, e_12, k⟩ := k
    refine wq_getR fl_X0_25 (Or.inr ⟨_, rfl⟩) dX0_goOn_24 e_12 ?_
    refine wp_iconst dX0_goOn_27 ic_0 ?_
    refine wp_bipush dX0_goOn_28 bp_6 ?_
    replace k := ok_bind k
    obtain ⟨h_13, e_14, k⟩ := k
    refine wq_cpI ml_X0_43 acn acs aci (by exact Nat.le_of_ble_eq_true rfl) dX0_goOn_30 e_14 ?_
    refine wp_iconst dX0_goOn_33 ic_0 ?_
    refine wp_istore dX0_goOn_34 (by decide) (L1 := [_, _, _, _, _, _, _, _]) rfl ?_
    refine wp_wk (wkE <| wkE <| wkE <| wkE <| wkE <| wkE <| wkJ <| wkJ <| wkN) ?_
    refine s_X0_goOn_l36 (Nat.succ_le_succ he) (Nat.succ_le_succ hM) hrs (fun  h_15 k => ?_) FU _ _ _ _ _ _ _ (ok_bind2 k)
    try dsimp only at k
    refine wp_vret rfl dX0_goOn_145 ?_
    exact (ok_some k :)
theorem c_X0_goOn_b {S : SH} {d : Nat} {K : Option Value → AH → Prop} (hd : 6 ≤ d) {N0 : Nat} (hN : N0 + 1 ≤ d) {rs : Nat → Int32 → Int32 → Int32 → Int32 → AH → Option (Unit × AH)} (hrs : ∀ (e : Nat), N0 ≤ e → ∀ (r : Nat) (x1 x2 x3 x4 : Int32) (h : AH) (K : Option Value → AH → Prop), ok (rs r x1 x2 x3 x4 h) (fun _ h' => K none h') → CP S M_X0_goOn e 0 0 [.ref r, .int x1, .int x2, .int x3, .int x4] h K) {r0 : Nat} {x1 : Int32} {x2 : Int32} {x3 : Int32} {x4 : Int32} {h : AH} (k : ok (f_X0_goOn S rs r0 x1 x2 x3 x4 h) (fun _ h' => K none h')) : CP S M_X0_goOn d 0 0 [.ref r0, .int x1, .int x2, .int x3, .int x4] h K := cp_of (by decide) (fun _ _ => trivial) (fun _ => Nat.le_of_ble_eq_true rfl) (s_X0_goOn hd hN hrs k)
def f_Go (S : SH) : Nat → Nat → Int32 → Int32 → Int32 → Int32 → AH → Option (Unit × AH)
  | 0, _, _, _, _, _, _ => none
  | n + 1, r, x1, x2, x3, x4, h => f_X0_goOn S (f_Go S n) r x1 x2 x3 x4 h
theorem c_Go_all {S : SH} : ∀ (n e : Nat), 6 + n ≤ e → ∀ (r : Nat) (x1 x2 x3 x4 : Int32) (h : AH) (K : Option Value → AH → Prop), ok (f_Go S n r x1 x2 x3 x4 h) (fun _ h' => K none h') → CP S M_X0_goOn e 0 0 [.ref r, .int x1, .int x2, .int x3, .int x4] h K := by
  intro n
  induction n with
  | zero => intro e he r x1 x2 x3 x4 h K k; exact ok_none k
  | succ n ih =>
    intro e he r x1 x2 x3 x4 h K k
    exact c_X0_goOn_b (N0 := 6 + n) (by omega) (by omega) (fun e he r x1 x2 x3 x4 h K k => ih e he r x1 x2 x3 x4 h K k) k
theorem c_X0_goOn {S : SH} {d : Nat} {K : Option Value → AH → Prop} (hd : 16 ≤ d) {r : Nat} {x1 x2 x3 x4 : Int32} {h : AH} (k : ok (f_Go S 10 r x1 x2 x3 x4 h) (fun _ h' => K none h')) : CP S M_X0_goOn d 0 0 [.ref r, .int x1, .int x2, .int x3, .int x4] h K := c_Go_all 10 d hd r x1 x2 x3 x4 h K k
def f_X1_swayed (S : SH) (r0 : Nat) (r1 : Nat) (x2 : Int32) (x3 : Int32) (h : AH) : Option (Int32 × AH) :=
  (ckO S h r0 1).bind fun _ =>
  (f_X1_tellBird S r0 r1 x2 x3 h).bind fun z => match z with
  | (_, h_2) =>
  (gR S h_2 r0 1 1).bind fun p_4 =>
  (gR S h_2 r0 1 0).bind fun p_6 =>
  (ckO S h_2 p_6 6).bind fun _ =>
  (f_X6_lawInForce S p_6 h_2).bind fun z => match z with
  | (z_10, h_9) =>
  (ckO S h_9 p_4 4).bind fun _ =>
  (f_X4_holds S p_4 z_10 (263 : Int32) h_9).bind fun z => match z with
  | (z_13, h_12) =>
  if z_13 = (0 : Int32) then
    (gR S h_12 r0 1 0).bind fun p_15 =>
    (gR S h_12 p_15 6 3).bind fun p_17 =>
    (aI S h_12 p_17 ((x2 * (6 : Int32)) + x3)).bind fun v_19 =>
    some (v_19, h_12)
  else
    (gR S h_12 r0 1 1).bind fun p_21 =>
    (gI S h_12 p_21 4 2).bind fun v_23 =>
    (f_X1_within S (0 : Int32) v_23 (9 : Int32) h_12).bind fun z => match z with
    | (z_26, h_25) =>
    some (z_26, h_25)
set_option maxHeartbeats 8000000 in
set_option maxRecDepth 20000 in
theorem s_X1_swayed {S : SH} {d cb sb : Nat} {Q : Option Value → AH → Prop} (hd : 3 ≤ d)  {r0 : Nat} {r1 : Nat} {x2 : Int32} {x3 : Int32} {h : AH} (k : ok (f_X1_swayed S r0 r1 x2 x3 h) (fun w h' => Q (some (.int w)) h')) : WP S M_X1_swayed d cb sb Q 0 [.ref r0, .ref r1, .int x2, .int x3, JK] [] h := by
  obtain ⟨d, rfl, he⟩ := dp (L := 2) hd
  unfold f_X1_swayed at k
  refine wp_aload_n dX1_swayed_0 rfl ?_
  refine wp_aload_n dX1_swayed_1 rfl ?_
  refine wp_iload_n dX1_swayed_2 rfl ?_
  refine wp_iload_n dX1_swayed_3 rfl ?_
  replace k := ok_bind k
  obtain ⟨u, e_1, k⟩ := k
  refine wp_callV3 (N := M_X1_tellBird) (ci := 1) mf_X1_tellBird mi_X1_tellBird me_X1_tellBird ml_X1_70 dX1_swayed_4 (ckO_e e_1) mv_X1_tellBird (by exact Nat.le_of_ble_eq_true rfl) (c_X1_tellBird (Nat.le_trans (by decide) he) (ok_mono (ok_bind2 k) fun _ h_2 k => ?_))
  try dsimp only at k
  refine wp_aload_n dX1_swayed_7 rfl ?_
  replace k := ok_bind k
  obtain ⟨p_4, e_5, k⟩ := k
  refine wq_getR fl_X1_22 (Or.inl ⟨_, rfl⟩) dX1_swayed_8 e_5 ?_
  refine wp_aload_n dX1_swayed_11 rfl ?_
  replace k := ok_bind k
  obtain ⟨p_6, e_7, k⟩ := k
  refine wq_getR fl_X1_18 (Or.inl ⟨_, rfl⟩) dX1_swayed_12 e_7 ?_
  replace k := ok_bind k
  obtain ⟨u, e_8, k⟩ := k
  refine wp_callV0 (N := M_X6_lawInForce) (ci := 6) mf_X6_lawInForce mi_X6_lawInForce me_X6_lawInForce ml_X1_74 dX1_swayed_15 (ckO_e e_8) mv_X6_lawInForce (by exact Nat.le_of_ble_eq_true rfl) (c_X6_lawInForce (Nat.le_trans (by decide) he) (ok_mono (ok_bind2 k) fun z_10 h_9 k => ?_))
  try dsimp only at k
  refine wp_sipush dX1_swayed_18 sp_263 ?_
  replace k := ok_bind k
  obtain ⟨u, e_11, k⟩ := k
  refine wp_callV2 (N := M_X4_holds) (ci := 4) mf_X4_holds mi_X4_holds me_X4_holds ml_X1_78 dX1_swayed_21 (ckO_e e_11) mv_X4_holds (by exact Nat.le_of_ble_eq_true rfl) (c_X4_holds (Nat.le_trans (by decide) he) (ok_mono (ok_bind2 k) fun z_13 h_12 k => ?_))
  try dsimp only at k
  refine wp_istore dX1_swayed_24 (by decide) (L1 := [_, _, _, _, _]) rfl ?_
  refine wp_iload dX1_swayed_26 rfl ?_
  refine wp_if_eq 47 dX1_swayed_28 (by decide) (fun c_14 => ?_) (fun c_14 => ?_)
  · replace k := ok_t c_14 k
    refine wp_aload_n dX1_swayed_47 rfl ?_
    replace k := ok_bind k
    obtain ⟨p_15, e_16, k⟩ := k
    refine wq_getR fl_X1_18 (Or.inl ⟨_, rfl⟩) dX1_swayed_48 e_16 ?_
    replace k := ok_bind k
    obtain ⟨p_17, e_18, k⟩ := k
    refine wq_getR fl_X1_54 (Or.inr ⟨_, rfl⟩) dX1_swayed_51 e_18 ?_
    refine wp_iload_n dX1_swayed_54 rfl ?_
    refine wp_bipush dX1_swayed_55 bp_6 ?_
    refine wp_imul dX1_swayed_57 ?_
    refine wp_iload_n dX1_swayed_58 rfl ?_
    refine wp_iadd dX1_swayed_59 ?_
    replace k := ok_bind k
    obtain ⟨v_19, e_20, k⟩ := k
    refine wq_aI dX1_swayed_60 e_20 ?_
    refine wp_iret rfl rfl dX1_swayed_61 ?_
    exact (ok_some k :)
  · replace k := ok_f c_14 k
    refine wp_iconst dX1_swayed_31 ic_0 ?_
    refine wp_aload_n dX1_swayed_32 rfl ?_
    replace k := ok_bind k
    obtain ⟨p_21, e_22, k⟩ := k
    refine wq_getR fl_X1_22 (Or.inl ⟨_, rfl⟩) dX1_swayed_33 e_22 ?_
    replace k := ok_bind k
    obtain ⟨v_23, e_24, k⟩ := k
    refine wq_getI fl_X1_82 (Or.inl rfl) dX1_swayed_36 e_24 ?_
    refine wp_bipush dX1_swayed_39 bp_9 ?_
    refine wp_callS3 (N := M_X1_within) mf_X1_within ms_X1_within ml_X1_85 dX1_swayed_41 (by exact Nat.le_of_ble_eq_true rfl) (c_X1_within (Nat.le_trans (by decide) he) (ok_mono (ok_bind2 k) fun z_26 h_25 k => ?_))
    try dsimp only at k
    refine wp_goto 61 dX1_swayed_44 (by decide) ?_
    refine wp_iret rfl rfl dX1_swayed_61 ?_
    exact (ok_some k :)
theorem c_X1_swayed {S : SH} {d : Nat} {K : Option Value → AH → Prop} (hd : 3 ≤ d)  {r0 : Nat} {r1 : Nat} {x2 : Int32} {x3 : Int32} {h : AH} (k : ok (f_X1_swayed S r0 r1 x2 x3 h) (fun w h' => K (some (.int w)) h')) : CP S M_X1_swayed d 0 0 [.ref r0, .ref r1, .int x2, .int x3] h K := cp_of (by decide) (fun _ _ => trivial) (fun _ => Nat.le_of_ble_eq_true rfl) (s_X1_swayed hd  k)
def f_X1_present_l4b (S : SH) (rc : Nat → Nat → Int32 → Int32 → AH → Option (Int32 × AH)) (r0 : Nat) (r1 : Nat) (x2 : Int32) (x3 : Int32) (h : AH) : Option (Int32 × AH) :=
  (gR S h r0 1 0).bind fun p_1 =>
  (gI S h p_1 6 1).bind fun v_3 =>
  if v_3 ≤ x3 then
    some (x2, h)
  else
    (gR S h r1 7 0).bind fun p_6 =>
    (aI S h p_6 x3).bind fun v_8 =>
    if v_8 = (-1 : Int32) then
      lt ((x2 ||| (0 : Int32))) fun y_13 =>
      lt (x3 + (1 : Int32)) fun y_14 =>
      rc r0 r1 y_13 y_14 h
    else
      lt ((x2 ||| ((1 : Int32) <<< (x3 &&& (31 : Int32))))) fun y_11 =>
      lt (x3 + (1 : Int32)) fun y_12 =>
      rc r0 r1 y_11 y_12 h
set_option maxHeartbeats 8000000 in
set_option maxRecDepth 20000 in
theorem s_X1_present_l4b {S : SH} {d cb sb : Nat} {Q : Option Value → AH → Prop} (hd : 0 ≤ d) {K : Int32 → AH → Prop} (hex : ∀ (x2 : Int32) (h' : AH), K x2 h' → WP S M_X1_present d cb sb Q 41 [JK, JK, .int x2, JK] [] h') {rc : Nat → Nat → Int32 → Int32 → AH → Option (Int32 × AH)} (hrec : ∀ (r0 : Nat) (r1 : Nat) (x2 : Int32) (x3 : Int32) (h' : AH), ok (rc r0 r1 x2 x3 h') K → WP S M_X1_present d cb sb Q 4 [.ref r0, .ref r1, .int x2, .int x3] [] h') {r0 : Nat} {r1 : Nat} {x2 : Int32} {x3 : Int32} {h : AH} (k : ok (f_X1_present_l4b S rc r0 r1 x2 x3 h) K) : WP S M_X1_present d cb sb Q 4 [.ref r0, .ref r1, .int x2, .int x3] [] h := by
  unfold f_X1_present_l4b at k
  refine wp_iload_n dX1_present_4 rfl ?_
  refine wp_aload_n dX1_present_5 rfl ?_
  replace k := ok_bind k
  obtain ⟨p_1, e_2, k⟩ := k
  refine wq_getR fl_X1_18 (Or.inl ⟨_, rfl⟩) dX1_present_6 e_2 ?_
  replace k := ok_bind k
  obtain ⟨v_3, e_4, k⟩ := k
  refine wq_getI fl_X1_95 (Or.inl rfl) dX1_present_9 e_4 ?_
  refine wp_icmp_ge 41 dX1_present_12 (by decide) (fun c_5 => ?_) (fun c_5 => ?_)
  · replace k := ok_t c_5 k
    exact wp_wk (wkJ <| wkJ <| wkE <| wkJ <| wkN) (hex _ _ (ok_some k))
  · replace k := ok_f c_5 k
    refine wp_iload_n dX1_present_15 rfl ?_
    refine wp_aload_n dX1_present_16 rfl ?_
    replace k := ok_bind k
    obtain ⟨p_6, e_7, k⟩ := k
    refine wq_getR fl_X1_51 (Or.inr ⟨_, rfl⟩) dX1_present_17 e_7 ?_
    refine wp_iload_n dX1_present_20 rfl ?_
    replace k := ok_bind k
    obtain ⟨v_8, e_9, k⟩ := k
    refine wq_aI dX1_present_21 e_9 ?_
    refine wp_iconst dX1_present_22 ic_m1 ?_
    refine wp_icmp_ne 30 dX1_present_23 (by decide) (fun c_10 => ?_) (fun c_10 => ?_)
    · replace k := ok_f c_10 k
      refine wp_iconst dX1_present_30 ic_1 ?_
      refine wp_iload_n dX1_present_31 rfl ?_
      refine wp_ishl dX1_present_32 ?_
      refine wp_ior dX1_present_33 ?_
      replace k := ok_lt k
      refine wp_istore_n dX1_present_34 (by decide) (L1 := [_, _, _, _]) rfl ?_
      replace k := ok_lt k
      refine wp_iinc dX1_present_35 rfl ic_1 (by decide) (L1 := [_, _, _, _]) rfl ?_
      refine wp_goto 4 dX1_present_38 (by decide) ?_
      exact wp_wk (wkE <| wkE <| wkE <| wkE <| wkN) (hrec _ _ _ _ _ k)
    · replace k := ok_t c_10 k
      refine wp_iconst dX1_present_26 ic_0 ?_
      refine wp_goto 33 dX1_present_27 (by decide) ?_
      refine wp_ior dX1_present_33 ?_
      replace k := ok_lt k
      refine wp_istore_n dX1_present_34 (by decide) (L1 := [_, _, _, _]) rfl ?_
      replace k := ok_lt k
      refine wp_iinc dX1_present_35 rfl ic_1 (by decide) (L1 := [_, _, _, _]) rfl ?_
      refine wp_goto 4 dX1_present_38 (by decide) ?_
      exact wp_wk (wkE <| wkE <| wkE <| wkE <| wkN) (hrec _ _ _ _ _ k)
def f_X1_present_l4 (S : SH) : Nat → Nat → Nat → Int32 → Int32 → AH → Option (Int32 × AH)
  | 0, _, _, _, _, _ => none
  | n + 1, r0, r1, x2, x3, h => f_X1_present_l4b S (f_X1_present_l4 S n) r0 r1 x2 x3 h
theorem s_X1_present_l4 {S : SH} {d cb sb : Nat} {Q : Option Value → AH → Prop} (hd : 0 ≤ d) {K : Int32 → AH → Prop} (hex : ∀ (x2 : Int32) (h' : AH), K x2 h' → WP S M_X1_present d cb sb Q 41 [JK, JK, .int x2, JK] [] h') : ∀ (n : Nat) (r0 : Nat) (r1 : Nat) (x2 : Int32) (x3 : Int32) (h : AH), ok (f_X1_present_l4 S n r0 r1 x2 x3 h) K → WP S M_X1_present d cb sb Q 4 [.ref r0, .ref r1, .int x2, .int x3] [] h := by
  intro n
  induction n with
  | zero => intro r0 r1 x2 x3 h k; exact ok_none k
  | succ n ih => intro r0 r1 x2 x3 h k; exact s_X1_present_l4b hd hex (fun r0 r1 x2 x3 h k => ih r0 r1 x2 x3 h k) k
def f_X1_present (S : SH) (r0 : Nat) (r1 : Nat) (h : AH) : Option (Int32 × AH) :=
  (f_X1_present_l4 S FU r0 r1 (0 : Int32) (0 : Int32) h).bind fun z => match z with
  | (x2_2, h_1) =>
  some (x2_2, h_1)
set_option maxHeartbeats 8000000 in
set_option maxRecDepth 20000 in
theorem s_X1_present {S : SH} {d cb sb : Nat} {Q : Option Value → AH → Prop} (hd : 0 ≤ d)  {r0 : Nat} {r1 : Nat} {h : AH} (k : ok (f_X1_present S r0 r1 h) (fun w h' => Q (some (.int w)) h')) : WP S M_X1_present d cb sb Q 0 [.ref r0, .ref r1, JK, JK] [] h := by
  unfold f_X1_present at k
  refine wp_iconst dX1_present_0 ic_0 ?_
  refine wp_istore_n dX1_present_1 (by decide) (L1 := [_, _, _, _]) rfl ?_
  refine wp_iconst dX1_present_2 ic_0 ?_
  refine wp_istore_n dX1_present_3 (by decide) (L1 := [_, _, _, _]) rfl ?_
  refine wp_wk (wkE <| wkE <| wkE <| wkE <| wkN) ?_
  refine s_X1_present_l4 hd (fun x2_2 h_1 k => ?_) FU _ _ _ _ _ (ok_bind2 k)
  try dsimp only at k
  refine wp_iload_n dX1_present_41 rfl ?_
  refine wp_iret rfl rfl dX1_present_42 ?_
  exact (ok_some k :)
theorem c_X1_present {S : SH} {d : Nat} {K : Option Value → AH → Prop} (hd : 0 ≤ d)  {r0 : Nat} {r1 : Nat} {h : AH} (k : ok (f_X1_present S r0 r1 h) (fun w h' => K (some (.int w)) h')) : CP S M_X1_present d 0 0 [.ref r0, .ref r1] h K := cp_of (by decide) (fun _ _ => trivial) (fun _ => Nat.le_of_ble_eq_true rfl) (s_X1_present hd  k)
def f_X1_moved_l4b (S : SH) (rc : Nat → Nat → Int32 → Int32 → AH → Option (Int32 × AH)) (r0 : Nat) (r1 : Nat) (x2 : Int32) (x3 : Int32) (h : AH) : Option (Int32 × AH) :=
  (gR S h r0 1 0).bind fun p_1 =>
  (gI S h p_1 6 4).bind fun v_3 =>
  if v_3 ≤ x3 then
    some (x2, h)
  else
    (gR S h r1 7 1).bind fun p_6 =>
    (aI S h p_6 x3).bind fun v_8 =>
    if v_8 = (1 : Int32) then
      lt ((x2 ||| ((1 : Int32) <<< (x3 &&& (31 : Int32))))) fun y_13 =>
      lt (x3 + (1 : Int32)) fun y_14 =>
      rc r0 r1 y_13 y_14 h
    else
      lt ((x2 ||| (0 : Int32))) fun y_11 =>
      lt (x3 + (1 : Int32)) fun y_12 =>
      rc r0 r1 y_11 y_12 h
set_option maxHeartbeats 8000000 in
set_option maxRecDepth 20000 in
theorem s_X1_moved_l4b {S : SH} {d cb sb : Nat} {Q : Option Value → AH → Prop} (hd : 0 ≤ d) {K : Int32 → AH → Prop} (hex : ∀ (x2 : Int32) (h' : AH), K x2 h' → WP S M_X1_moved d cb sb Q 41 [JK, JK, .int x2, JK] [] h') {rc : Nat → Nat → Int32 → Int32 → AH → Option (Int32 × AH)} (hrec : ∀ (r0 : Nat) (r1 : Nat) (x2 : Int32) (x3 : Int32) (h' : AH), ok (rc r0 r1 x2 x3 h') K → WP S M_X1_moved d cb sb Q 4 [.ref r0, .ref r1, .int x2, .int x3] [] h') {r0 : Nat} {r1 : Nat} {x2 : Int32} {x3 : Int32} {h : AH} (k : ok (f_X1_moved_l4b S rc r0 r1 x2 x3 h) K) : WP S M_X1_moved d cb sb Q 4 [.ref r0, .ref r1, .int x2, .int x3] [] h := by
  unfold f_X1_moved_l4b at k
  refine wp_iload_n dX1_moved_4 rfl ?_
  refine wp_aload_n dX1_moved_5 rfl ?_
  replace k := ok_bind k
  obtain ⟨p_1, e_2, k⟩ := k
  refine wq_getR fl_X1_18 (Or.inl ⟨_, rfl⟩) dX1_moved_6 e_2 ?_
  replace k := ok_bind k
  obtain ⟨v_3, e_4, k⟩ := k
  refine wq_getI fl_X1_102 (Or.inl rfl) dX1_moved_9 e_4 ?_
  refine wp_icmp_ge 41 dX1_moved_12 (by decide) (fun c_5 => ?_) (fun c_5 => ?_)
  · replace k := ok_t c_5 k
    exact wp_wk (wkJ <| wkJ <| wkE <| wkJ <| wkN) (hex _ _ (ok_some k))
  · replace k := ok_f c_5 k
    refine wp_iload_n dX1_moved_15 rfl ?_
    refine wp_aload_n dX1_moved_16 rfl ?_
    replace k := ok_bind k
    obtain ⟨p_6, e_7, k⟩ := k
    refine wq_getR fl_X1_105 (Or.inr ⟨_, rfl⟩) dX1_moved_17 e_7 ?_
    refine wp_iload_n dX1_moved_20 rfl ?_
    replace k := ok_bind k
    obtain ⟨v_8, e_9, k⟩ := k
    refine wq_aI dX1_moved_21 e_9 ?_
    refine wp_iconst dX1_moved_22 ic_1 ?_
    refine wp_icmp_ne 32 dX1_moved_23 (by decide) (fun c_10 => ?_) (fun c_10 => ?_)
    · replace k := ok_f c_10 k
      refine wp_iconst dX1_moved_32 ic_0 ?_
      refine wp_ior dX1_moved_33 ?_
      replace k := ok_lt k
      refine wp_istore_n dX1_moved_34 (by decide) (L1 := [_, _, _, _]) rfl ?_
      replace k := ok_lt k
      refine wp_iinc dX1_moved_35 rfl ic_1 (by decide) (L1 := [_, _, _, _]) rfl ?_
      refine wp_goto 4 dX1_moved_38 (by decide) ?_
      exact wp_wk (wkE <| wkE <| wkE <| wkE <| wkN) (hrec _ _ _ _ _ k)
    · replace k := ok_t c_10 k
      refine wp_iconst dX1_moved_26 ic_1 ?_
      refine wp_iload_n dX1_moved_27 rfl ?_
      refine wp_ishl dX1_moved_28 ?_
      refine wp_goto 33 dX1_moved_29 (by decide) ?_
      refine wp_ior dX1_moved_33 ?_
      replace k := ok_lt k
      refine wp_istore_n dX1_moved_34 (by decide) (L1 := [_, _, _, _]) rfl ?_
      replace k := ok_lt k
      refine wp_iinc dX1_moved_35 rfl ic_1 (by decide) (L1 := [_, _, _, _]) rfl ?_
      refine wp_goto 4 dX1_moved_38 (by decide) ?_
      exact wp_wk (wkE <| wkE <| wkE <| wkE <| wkN) (hrec _ _ _ _ _ k)
def f_X1_moved_l4 (S : SH) : Nat → Nat → Nat → Int32 → Int32 → AH → Option (Int32 × AH)
  | 0, _, _, _, _, _ => none
  | n + 1, r0, r1, x2, x3, h => f_X1_moved_l4b S (f_X1_moved_l4 S n) r0 r1 x2 x3 h
theorem s_X1_moved_l4 {S : SH} {d cb sb : Nat} {Q : Option Value → AH → Prop} (hd : 0 ≤ d) {K : Int32 → AH → Prop} (hex : ∀ (x2 : Int32) (h' : AH), K x2 h' → WP S M_X1_moved d cb sb Q 41 [JK, JK, .int x2, JK] [] h') : ∀ (n : Nat) (r0 : Nat) (r1 : Nat) (x2 : Int32) (x3 : Int32) (h : AH), ok (f_X1_moved_l4 S n r0 r1 x2 x3 h) K → WP S M_X1_moved d cb sb Q 4 [.ref r0, .ref r1, .int x2, .int x3] [] h := by
  intro n
  induction n with
  | zero => intro r0 r1 x2 x3 h k; exact ok_none k
  | succ n ih => intro r0 r1 x2 x3 h k; exact s_X1_moved_l4b hd hex (fun r0 r1 x2 x3 h k => ih r0 r1 x2 x3 h k) k
def f_X1_moved (S : SH) (r0 : Nat) (r1 : Nat) (h : AH) : Option (Int32 × AH) :=
  (f_X1_moved_l4 S FU r0 r1 (0 : Int32) (0 : Int32) h).bind fun z => match z with
  | (x2_2, h_1) =>
  some (x2_2, h_1)
set_option maxHeartbeats 8000000 in
set_option maxRecDepth 20000 in
theorem s_X1_moved {S : SH} {d cb sb : Nat} {Q : Option Value → AH → Prop} (hd : 0 ≤ d)  {r0 : Nat} {r1 : Nat} {h : AH} (k : ok (f_X1_moved S r0 r1 h) (fun w h' => Q (some (.int w)) h')) : WP S M_X1_moved d cb sb Q 0 [.ref r0, .ref r1, JK, JK] [] h := by
  unfold f_X1_moved at k
  refine wp_iconst dX1_moved_0 ic_0 ?_
  refine wp_istore_n dX1_moved_1 (by decide) (L1 := [_, _, _, _]) rfl ?_
  refine wp_iconst dX1_moved_2 ic_0 ?_
  refine wp_istore_n dX1_moved_3 (by decide) (L1 := [_, _, _, _]) rfl ?_
  refine wp_wk (wkE <| wkE <| wkE <| wkE <| wkN) ?_
  refine s_X1_moved_l4 hd (fun x2_2 h_1 k => ?_) FU _ _ _ _ _ (ok_bind2 k)
  try dsimp only at k
  refine wp_iload_n dX1_moved_41 rfl ?_
  refine wp_iret rfl rfl dX1_moved_42 ?_
  exact (ok_some k :)
theorem c_X1_moved {S : SH} {d : Nat} {K : Option Value → AH → Prop} (hd : 0 ≤ d)  {r0 : Nat} {r1 : Nat} {h : AH} (k : ok (f_X1_moved S r0 r1 h) (fun w h' => K (some (.int w)) h')) : CP S M_X1_moved d 0 0 [.ref r0, .ref r1] h K := cp_of (by decide) (fun _ _ => trivial) (fun _ => Nat.le_of_ble_eq_true rfl) (s_X1_moved hd  k)
def f_X1_hears (S : SH) (r0 : Nat) (r1 : Nat) (x2 : Int32) (x3 : Int32) (h : AH) : Option (Int32 × AH) :=
  if x2 = x3 then
    some ((0 : Int32), h)
  else
    (gR S h r1 7 0).bind fun p_2 =>
    (aI S h p_2 x2).bind fun v_4 =>
    if v_4 = (-1 : Int32) then
      some ((0 : Int32), h)
    else
      (gR S h r1 7 0).bind fun p_7 =>
      (aI S h p_7 x3).bind fun v_9 =>
      if v_9 = (-1 : Int32) then
        some ((0 : Int32), h)
      else
        (gR S h r1 7 0).bind fun p_12 =>
        (aI S h p_12 x2).bind fun v_14 =>
        (gR S h r1 7 0).bind fun p_16 =>
        (aI S h p_16 x3).bind fun v_18 =>
        (gR S h r0 1 0).bind fun p_20 =>
        (gR S h p_20 6 2).bind fun p_22 =>
        (aI S h p_22 x3).bind fun v_24 =>
        if v_24 < (abI (v_14 - v_18)) then
          some ((0 : Int32), h)
        else
          some ((1 : Int32), h)
set_option maxHeartbeats 8000000 in
set_option maxRecDepth 20000 in
theorem s_X1_hears {S : SH} {d cb sb : Nat} {Q : Option Value → AH → Prop} (hd : 1 ≤ d)  {r0 : Nat} {r1 : Nat} {x2 : Int32} {x3 : Int32} {h : AH} (k : ok (f_X1_hears S r0 r1 x2 x3 h) (fun w h' => Q (some (.int w)) h')) : WP S M_X1_hears d cb sb Q 0 [.ref r0, .ref r1, .int x2, .int x3] [] h := by
  obtain ⟨d, rfl, he⟩ := dp (L := 0) hd
  unfold f_X1_hears at k
  refine wp_iload_n dX1_hears_0 rfl ?_
  refine wp_iload_n dX1_hears_1 rfl ?_
  refine wp_icmp_eq 57 dX1_hears_2 (by decide) (fun c_1 => ?_) (fun c_1 => ?_)
  · replace k := ok_t c_1 k
    refine wp_iconst dX1_hears_57 ic_0 ?_
    refine wp_iret rfl rfl dX1_hears_58 ?_
    exact (ok_some k :)
  · replace k := ok_f c_1 k
    refine wp_aload_n dX1_hears_5 rfl ?_
    replace k := ok_bind k
    obtain ⟨p_2, e_3, k⟩ := k
    refine wq_getR fl_X1_51 (Or.inr ⟨_, rfl⟩) dX1_hears_6 e_3 ?_
    refine wp_iload_n dX1_hears_9 rfl ?_
    replace k := ok_bind k
    obtain ⟨v_4, e_5, k⟩ := k
    refine wq_aI dX1_hears_10 e_5 ?_
    refine wp_iconst dX1_hears_11 ic_m1 ?_
    refine wp_icmp_eq 57 dX1_hears_12 (by decide) (fun c_6 => ?_) (fun c_6 => ?_)
    · replace k := ok_t c_6 k
      refine wp_iconst dX1_hears_57 ic_0 ?_
      refine wp_iret rfl rfl dX1_hears_58 ?_
      exact (ok_some k :)
    · replace k := ok_f c_6 k
      refine wp_aload_n dX1_hears_15 rfl ?_
      replace k := ok_bind k
      obtain ⟨p_7, e_8, k⟩ := k
      refine wq_getR fl_X1_51 (Or.inr ⟨_, rfl⟩) dX1_hears_16 e_8 ?_
      refine wp_iload_n dX1_hears_19 rfl ?_
      replace k := ok_bind k
      obtain ⟨v_9, e_10, k⟩ := k
      refine wq_aI dX1_hears_20 e_10 ?_
      refine wp_iconst dX1_hears_21 ic_m1 ?_
      refine wp_icmp_eq 57 dX1_hears_22 (by decide) (fun c_11 => ?_) (fun c_11 => ?_)
      · replace k := ok_t c_11 k
        refine wp_iconst dX1_hears_57 ic_0 ?_
        refine wp_iret rfl rfl dX1_hears_58 ?_
        exact (ok_some k :)
      · replace k := ok_f c_11 k
        refine wp_aload_n dX1_hears_25 rfl ?_
        replace k := ok_bind k
        obtain ⟨p_12, e_13, k⟩ := k
        refine wq_getR fl_X1_51 (Or.inr ⟨_, rfl⟩) dX1_hears_26 e_13 ?_
        refine wp_iload_n dX1_hears_29 rfl ?_
        replace k := ok_bind k
        obtain ⟨v_14, e_15, k⟩ := k
        refine wq_aI dX1_hears_30 e_15 ?_
        refine wp_aload_n dX1_hears_31 rfl ?_
        replace k := ok_bind k
        obtain ⟨p_16, e_17, k⟩ := k
        refine wq_getR fl_X1_51 (Or.inr ⟨_, rfl⟩) dX1_hears_32 e_17 ?_
        refine wp_iload_n dX1_hears_35 rfl ?_
        replace k := ok_bind k
        obtain ⟨v_18, e_19, k⟩ := k
        refine wq_aI dX1_hears_36 e_19 ?_
        refine wp_isub dX1_hears_37 ?_
        refine wp_mabs ml_X1_108 mm_abs mini mc_abs (by exact Nat.le_of_ble_eq_true rfl) dX1_hears_38 ?_
        refine wp_aload_n dX1_hears_41 rfl ?_
        replace k := ok_bind k
        obtain ⟨p_20, e_21, k⟩ := k
        refine wq_getR fl_X1_18 (Or.inl ⟨_, rfl⟩) dX1_hears_42 e_21 ?_
        replace k := ok_bind k
        obtain ⟨p_22, e_23, k⟩ := k
        refine wq_getR fl_X1_112 (Or.inr ⟨_, rfl⟩) dX1_hears_45 e_23 ?_
        refine wp_iload_n dX1_hears_48 rfl ?_
        replace k := ok_bind k
        obtain ⟨v_24, e_25, k⟩ := k
        refine wq_aI dX1_hears_49 e_25 ?_
        refine wp_icmp_gt 57 dX1_hears_50 (by decide) (fun c_26 => ?_) (fun c_26 => ?_)
        · replace k := ok_t c_26 k
          refine wp_iconst dX1_hears_57 ic_0 ?_
          refine wp_iret rfl rfl dX1_hears_58 ?_
          exact (ok_some k :)
        · replace k := ok_f c_26 k
          refine wp_iconst dX1_hears_53 ic_1 ?_
          refine wp_goto 58 dX1_hears_54 (by decide) ?_
          refine wp_iret rfl rfl dX1_hears_58 ?_
          exact (ok_some k :)
theorem c_X1_hears {S : SH} {d : Nat} {K : Option Value → AH → Prop} (hd : 1 ≤ d)  {r0 : Nat} {r1 : Nat} {x2 : Int32} {x3 : Int32} {h : AH} (k : ok (f_X1_hears S r0 r1 x2 x3 h) (fun w h' => K (some (.int w)) h')) : CP S M_X1_hears d 0 0 [.ref r0, .ref r1, .int x2, .int x3] h K := cp_of (by decide) (fun _ _ => trivial) (fun _ => Nat.le_of_ble_eq_true rfl) (s_X1_hears hd  k)
def f_X1_whomHears_l5b (S : SH) (rc : Nat → Nat → Int32 → Int32 → Int32 → AH → Option (Int32 × AH)) (r0 : Nat) (r1 : Nat) (x2 : Int32) (x3 : Int32) (x4 : Int32) (h : AH) : Option (Int32 × AH) :=
  (gR S h r0 1 0).bind fun p_1 =>
  (gI S h p_1 6 1).bind fun v_3 =>
  if v_3 ≤ x4 then
    some (x3, h)
  else
    (ckO S h r0 1).bind fun _ =>
    (f_X1_hears S r0 r1 x2 x4 h).bind fun z => match z with
    | (z_8, h_7) =>
    if z_8 = (0 : Int32) then
      lt ((x3 ||| (0 : Int32))) fun y_10 =>
      lt (x4 + (1 : Int32)) fun y_11 =>
      rc r0 r1 x2 y_10 y_11 h_7
    else
      lt ((x3 ||| ((1 : Int32) <<< (x4 &&& (31 : Int32))))) fun y_12 =>
      lt (x4 + (1 : Int32)) fun y_13 =>
      rc r0 r1 x2 y_12 y_13 h_7
set_option maxHeartbeats 8000000 in
set_option maxRecDepth 20000 in
theorem s_X1_whomHears_l5b {S : SH} {d cb sb : Nat} {Q : Option Value → AH → Prop} (hd : 2 ≤ d) {K : Int32 → AH → Prop} (hex : ∀ (x3 : Int32) (h' : AH), K x3 h' → WP S M_X1_whomHears d cb sb Q 45 [JK, JK, JK, .int x3, JK] [] h') {rc : Nat → Nat → Int32 → Int32 → Int32 → AH → Option (Int32 × AH)} (hrec : ∀ (r0 : Nat) (r1 : Nat) (x2 : Int32) (x3 : Int32) (x4 : Int32) (h' : AH), ok (rc r0 r1 x2 x3 x4 h') K → WP S M_X1_whomHears d cb sb Q 5 [.ref r0, .ref r1, .int x2, .int x3, .int x4] [] h') {r0 : Nat} {r1 : Nat} {x2 : Int32} {x3 : Int32} {x4 : Int32} {h : AH} (k : ok (f_X1_whomHears_l5b S rc r0 r1 x2 x3 x4 h) K) : WP S M_X1_whomHears d cb sb Q 5 [.ref r0, .ref r1, .int x2, .int x3, .int x4] [] h := by
  obtain ⟨d, rfl, he⟩ := dp (L := 1) hd
  unfold f_X1_whomHears_l5b at k
  refine wp_iload dX1_whomHears_5 rfl ?_
  refine wp_aload_n dX1_whomHears_7 rfl ?_
  replace k := ok_bind k
  obtain ⟨p_1, e_2, k⟩ := k
  refine wq_getR fl_X1_18 (Or.inl ⟨_, rfl⟩) dX1_whomHears_8 e_2 ?_
  replace k := ok_bind k
  obtain ⟨v_3, e_4, k⟩ := k
  refine wq_getI fl_X1_95 (Or.inl rfl) dX1_whomHears_11 e_4 ?_
  refine wp_icmp_ge 45 dX1_whomHears_14 (by decide) (fun c_5 => ?_) (fun c_5 => ?_)
  · replace k := ok_t c_5 k
    exact wp_wk (wkJ <| wkJ <| wkJ <| wkE <| wkJ <| wkN) (hex _ _ (ok_some k))
  · replace k := ok_f c_5 k
    refine wp_iload_n dX1_whomHears_17 rfl ?_
    refine wp_aload_n dX1_whomHears_18 rfl ?_
    refine wp_aload_n dX1_whomHears_19 rfl ?_
    refine wp_iload_n dX1_whomHears_20 rfl ?_
    refine wp_iload dX1_whomHears_21 rfl ?_
    replace k := ok_bind k
    obtain ⟨u, e_6, k⟩ := k
    refine wp_callV3 (N := M_X1_hears) (ci := 1) mf_X1_hears mi_X1_hears me_X1_hears ml_X1_115 dX1_whomHears_23 (ckO_e e_6) mv_X1_hears (by exact Nat.le_of_ble_eq_true rfl) (c_X1_hears (Nat.le_trans (by decide) he) (ok_mono (ok_bind2 k) fun z_8 h_7 k => ?_))
    try dsimp only at k
    refine wp_if_eq 36 dX1_whomHears_26 (by decide) (fun c_9 => ?_) (fun c_9 => ?_)
    · replace k := ok_t c_9 k
      refine wp_iconst dX1_whomHears_36 ic_0 ?_
      refine wp_ior dX1_whomHears_37 ?_
      replace k := ok_lt k
      refine wp_istore_n dX1_whomHears_38 (by decide) (L1 := [_, _, _, _, _]) rfl ?_
      replace k := ok_lt k
      refine wp_iinc dX1_whomHears_39 rfl ic_1 (by decide) (L1 := [_, _, _, _, _]) rfl ?_
      refine wp_goto 5 dX1_whomHears_42 (by decide) ?_
      exact wp_wk (wkE <| wkE <| wkE <| wkE <| wkE <| wkN) (hrec _ _ _ _ _ _ k)
    · replace k := ok_f c_9 k
      refine wp_iconst dX1_whomHears_29 ic_1 ?_
      refine wp_iload dX1_whomHears_30 rfl ?_
      refine wp_ishl dX1_whomHears_32 ?_
      refine wp_goto 37 dX1_whomHears_33 (by decide) ?_
      refine wp_ior dX1_whomHears_37 ?_
      replace k := ok_lt k
      refine wp_istore_n dX1_whomHears_38 (by decide) (L1 := [_, _, _, _, _]) rfl ?_
      replace k := ok_lt k
      refine wp_iinc dX1_whomHears_39 rfl ic_1 (by decide) (L1 := [_, _, _, _, _]) rfl ?_
      refine wp_goto 5 dX1_whomHears_42 (by decide) ?_
      exact wp_wk (wkE <| wkE <| wkE <| wkE <| wkE <| wkN) (hrec _ _ _ _ _ _ k)
def f_X1_whomHears_l5 (S : SH) : Nat → Nat → Nat → Int32 → Int32 → Int32 → AH → Option (Int32 × AH)
  | 0, _, _, _, _, _, _ => none
  | n + 1, r0, r1, x2, x3, x4, h => f_X1_whomHears_l5b S (f_X1_whomHears_l5 S n) r0 r1 x2 x3 x4 h
theorem s_X1_whomHears_l5 {S : SH} {d cb sb : Nat} {Q : Option Value → AH → Prop} (hd : 2 ≤ d) {K : Int32 → AH → Prop} (hex : ∀ (x3 : Int32) (h' : AH), K x3 h' → WP S M_X1_whomHears d cb sb Q 45 [JK, JK, JK, .int x3, JK] [] h') : ∀ (n : Nat) (r0 : Nat) (r1 : Nat) (x2 : Int32) (x3 : Int32) (x4 : Int32) (h : AH), ok (f_X1_whomHears_l5 S n r0 r1 x2 x3 x4 h) K → WP S M_X1_whomHears d cb sb Q 5 [.ref r0, .ref r1, .int x2, .int x3, .int x4] [] h := by
  intro n
  induction n with
  | zero => intro r0 r1 x2 x3 x4 h k; exact ok_none k
  | succ n ih => intro r0 r1 x2 x3 x4 h k; exact s_X1_whomHears_l5b hd hex (fun r0 r1 x2 x3 x4 h k => ih r0 r1 x2 x3 x4 h k) k
def f_X1_whomHears (S : SH) (r0 : Nat) (r1 : Nat) (x2 : Int32) (h : AH) : Option (Int32 × AH) :=
  (f_X1_whomHears_l5 S FU r0 r1 x2 (0 : Int32) (0 : Int32) h).bind fun z => match z with
  | (x3_2, h_1) =>
  some (x3_2, h_1)
set_option maxHeartbeats 8000000 in
set_option maxRecDepth 20000 in
theorem s_X1_whomHears {S : SH} {d cb sb : Nat} {Q : Option Value → AH → Prop} (hd : 2 ≤ d)  {r0 : Nat} {r1 : Nat} {x2 : Int32} {h : AH} (k : ok (f_X1_whomHears S r0 r1 x2 h) (fun w h' => Q (some (.int w)) h')) : WP S M_X1_whomHears d cb sb Q 0 [.ref r0, .ref r1, .int x2, JK, JK] [] h := by
  obtain ⟨d, rfl, he⟩ := dp (L := 1) hd
  unfold f_X1_whomHears at k
  refine wp_iconst dX1_whomHears_0 ic_0 ?_
  refine wp_istore_n dX1_whomHears_1 (by decide) (L1 := [_, _, _, _, _]) rfl ?_
  refine wp_iconst dX1_whomHears_2 ic_0 ?_
  refine wp_istore dX1_whomHears_3 (by decide) (L1 := [_, _, _, _, _]) rfl ?_
  refine wp_wk (wkE <| wkE <| wkE <| wkE <| wkE <| wkN) ?_
  refine s_X1_whomHears_l5 (Nat.succ_le_succ he) (fun x3_2 h_1 k => ?_) FU _ _ _ _ _ _ (ok_bind2 k)
  try dsimp only at k
  refine wp_iload_n dX1_whomHears_45 rfl ?_
  refine wp_iret rfl rfl dX1_whomHears_46 ?_
  exact (ok_some k :)
theorem c_X1_whomHears {S : SH} {d : Nat} {K : Option Value → AH → Prop} (hd : 2 ≤ d)  {r0 : Nat} {r1 : Nat} {x2 : Int32} {h : AH} (k : ok (f_X1_whomHears S r0 r1 x2 h) (fun w h' => K (some (.int w)) h')) : CP S M_X1_whomHears d 0 0 [.ref r0, .ref r1, .int x2] h K := cp_of (by decide) (fun _ _ => trivial) (fun _ => Nat.le_of_ble_eq_true rfl) (s_X1_whomHears hd  k)
def f_X1_hearers_l5b (S : SH) (rc : Nat → Nat → Int32 → Int32 → Int32 → AH → Option (Int32 × AH)) (r0 : Nat) (r1 : Nat) (x2 : Int32) (x3 : Int32) (x4 : Int32) (h : AH) : Option (Int32 × AH) :=
  (gR S h r0 1 0).bind fun p_1 =>
  (gI S h p_1 6 1).bind fun v_3 =>
  if v_3 ≤ x4 then
    some (x3, h)
  else
    (ckO S h r0 1).bind fun _ =>
    (f_X1_hears S r0 r1 x4 x2 h).bind fun z => match z with
    | (z_8, h_7) =>
    if z_8 = (0 : Int32) then
      lt ((x3 ||| (0 : Int32))) fun y_10 =>
      lt (x4 + (1 : Int32)) fun y_11 =>
      rc r0 r1 x2 y_10 y_11 h_7
    else
      lt ((x3 ||| ((1 : Int32) <<< (x4 &&& (31 : Int32))))) fun y_12 =>
      lt (x4 + (1 : Int32)) fun y_13 =>
      rc r0 r1 x2 y_12 y_13 h_7
set_option maxHeartbeats 8000000 in
set_option maxRecDepth 20000 in
theorem s_X1_hearers_l5b {S : SH} {d cb sb : Nat} {Q : Option Value → AH → Prop} (hd : 2 ≤ d) {K : Int32 → AH → Prop} (hex : ∀ (x3 : Int32) (h' : AH), K x3 h' → WP S M_X1_hearers d cb sb Q 45 [JK, JK, JK, .int x3, JK] [] h') {rc : Nat → Nat → Int32 → Int32 → Int32 → AH → Option (Int32 × AH)} (hrec : ∀ (r0 : Nat) (r1 : Nat) (x2 : Int32) (x3 : Int32) (x4 : Int32) (h' : AH), ok (rc r0 r1 x2 x3 x4 h') K → WP S M_X1_hearers d cb sb Q 5 [.ref r0, .ref r1, .int x2, .int x3, .int x4] [] h') {r0 : Nat} {r1 : Nat} {x2 : Int32} {x3 : Int32} {x4 : Int32} {h : AH} (k : ok (f_X1_hearers_l5b S rc r0 r1 x2 x3 x4 h) K) : WP S M_X1_hearers d cb sb Q 5 [.ref r0, .ref r1, .int x2, .int x3, .int x4] [] h := by
  obtain ⟨d, rfl, he⟩ := dp (L := 1) hd
  unfold f_X1_hearers_l5b at k
  refine wp_iload dX1_hearers_5 rfl ?_
  refine wp_aload_n dX1_hearers_7 rfl ?_
  replace k := ok_bind k
  obtain ⟨p_1, e_2, k⟩ := k
  refine wq_getR fl_X1_18 (Or.inl ⟨_, rfl⟩) dX1_hearers_8 e_2 ?_
  replace k := ok_bind k
  obtain ⟨v_3, e_4, k⟩ := k
  refine wq_getI fl_X1_95 (Or.inl rfl) dX1_hearers_11 e_4 ?_
  refine wp_icmp_ge 45 dX1_hearers_14 (by decide) (fun c_5 => ?_) (fun c_5 => ?_)
  · replace k := ok_t c_5 k
    exact wp_wk (wkJ <| wkJ <| wkJ <| wkE <| wkJ <| wkN) (hex _ _ (ok_some k))
  · replace k := ok_f c_5 k
    refine wp_iload_n dX1_hearers_17 rfl ?_
    refine wp_aload_n dX1_hearers_18 rfl ?_
    refine wp_aload_n dX1_hearers_19 rfl ?_
    refine wp_iload dX1_hearers_20 rfl ?_
    refine wp_iload_n dX1_hearers_22 rfl ?_
    replace k := ok_bind k
    obtain ⟨u, e_6, k⟩ := k
    refine wp_callV3 (N := M_X1_hears) (ci := 1) mf_X1_hears mi_X1_hears me_X1_hears ml_X1_115 dX1_hearers_23 (ckO_e e_6) mv_X1_hears (by exact Nat.le_of_ble_eq_true rfl) (c_X1_hears (Nat.le_trans (by decide) he) (ok_mono (ok_bind2 k) fun z_8 h_7 k => ?_))
    try dsimp only at k
    refine wp_if_eq 36 dX1_hearers_26 (by decide) (fun c_9 => ?_) (fun c_9 => ?_)
    · replace k := ok_t c_9 k
      refine wp_iconst dX1_hearers_36 ic_0 ?_
      refine wp_ior dX1_hearers_37 ?_
      replace k := ok_lt k
      refine wp_istore_n dX1_hearers_38 (by decide) (L1 := [_, _, _, _, _]) rfl ?_
      replace k := ok_lt k
      refine wp_iinc dX1_hearers_39 rfl ic_1 (by decide) (L1 := [_, _, _, _, _]) rfl ?_
      refine wp_goto 5 dX1_hearers_42 (by decide) ?_
      exact wp_wk (wkE <| wkE <| wkE <| wkE <| wkE <| wkN) (hrec _ _ _ _ _ _ k)
    · replace k := ok_f c_9 k
      refine wp_iconst dX1_hearers_29 ic_1 ?_
      refine wp_iload dX1_hearers_30 rfl ?_
      refine wp_ishl dX1_hearers_32 ?_
      refine wp_goto 37 dX1_hearers_33 (by decide) ?_
      refine wp_ior dX1_hearers_37 ?_
      replace k := ok_lt k
      refine wp_istore_n dX1_hearers_38 (by decide) (L1 := [_, _, _, _, _]) rfl ?_
      replace k := ok_lt k
      refine wp_iinc dX1_hearers_39 rfl ic_1 (by decide) (L1 := [_, _, _, _, _]) rfl ?_
      refine wp_goto 5 dX1_hearers_42 (by decide) ?_
      exact wp_wk (wkE <| wkE <| wkE <| wkE <| wkE <| wkN) (hrec _ _ _ _ _ _ k)
def f_X1_hearers_l5 (S : SH) : Nat → Nat → Nat → Int32 → Int32 → Int32 → AH → Option (Int32 × AH)
  | 0, _, _, _, _, _, _ => none
  | n + 1, r0, r1, x2, x3, x4, h => f_X1_hearers_l5b S (f_X1_hearers_l5 S n) r0 r1 x2 x3 x4 h
theorem s_X1_hearers_l5 {S : SH} {d cb sb : Nat} {Q : Option Value → AH → Prop} (hd : 2 ≤ d) {K : Int32 → AH → Prop} (hex : ∀ (x3 : Int32) (h' : AH), K x3 h' → WP S M_X1_hearers d cb sb Q 45 [JK, JK, JK, .int x3, JK] [] h') : ∀ (n : Nat) (r0 : Nat) (r1 : Nat) (x2 : Int32) (x3 : Int32) (x4 : Int32) (h : AH), ok (f_X1_hearers_l5 S n r0 r1 x2 x3 x4 h) K → WP S M_X1_hearers d cb sb Q 5 [.ref r0, .ref r1, .int x2, .int x3, .int x4] [] h := by
  intro n
  induction n with
  | zero => intro r0 r1 x2 x3 x4 h k; exact ok_none k
  | succ n ih => intro r0 r1 x2 x3 x4 h k; exact s_X1_hearers_l5b hd hex (fun r0 r1 x2 x3 x4 h k => ih r0 r1 x2 x3 x4 h k) k
def f_X1_hearers (S : SH) (r0 : Nat) (r1 : Nat) (x2 : Int32) (h : AH) : Option (Int32 × AH) :=
  (f_X1_hearers_l5 S FU r0 r1 x2 (0 : Int32) (0 : Int32) h).bind fun z => match z with
  | (x3_2, h_1) =>
  some (x3_2, h_1)
set_option maxHeartbeats 8000000 in
set_option maxRecDepth 20000 in
theorem s_X1_hearers {S : SH} {d cb sb : Nat} {Q : Option Value → AH → Prop} (hd : 2 ≤ d)  {r0 : Nat} {r1 : Nat} {x2 : Int32} {h : AH} (k : ok (f_X1_hearers S r0 r1 x2 h) (fun w h' => Q (some (.int w)) h')) : WP S M_X1_hearers d cb sb Q 0 [.ref r0, .ref r1, .int x2, JK, JK] [] h := by
  obtain ⟨d, rfl, he⟩ := dp (L := 1) hd
  unfold f_X1_hearers at k
  refine wp_iconst dX1_hearers_0 ic_0 ?_
  refine wp_istore_n dX1_hearers_1 (by decide) (L1 := [_, _, _, _, _]) rfl ?_
  refine wp_iconst dX1_hearers_2 ic_0 ?_
  refine wp_istore dX1_hearers_3 (by decide) (L1 := [_, _, _, _, _]) rfl ?_
  refine wp_wk (wkE <| wkE <| wkE <| wkE <| wkE <| wkN) ?_
  refine s_X1_hearers_l5 (Nat.succ_le_succ he) (fun x3_2 h_1 k => ?_) FU _ _ _ _ _ _ (ok_bind2 k)
  try dsimp only at k
  refine wp_iload_n dX1_hearers_45 rfl ?_
  refine wp_iret rfl rfl dX1_hearers_46 ?_
  exact (ok_some k :)
theorem c_X1_hearers {S : SH} {d : Nat} {K : Option Value → AH → Prop} (hd : 2 ≤ d)  {r0 : Nat} {r1 : Nat} {x2 : Int32} {h : AH} (k : ok (f_X1_hearers S r0 r1 x2 h) (fun w h' => K (some (.int w)) h')) : CP S M_X1_hearers d 0 0 [.ref r0, .ref r1, .int x2] h K := cp_of (by decide) (fun _ _ => trivial) (fun _ => Nat.le_of_ble_eq_true rfl) (s_X1_hearers hd  k)
def f_X1_seconder_l3b (S : SH) (rc : Nat → Nat → Int32 → Int32 → Int32 → AH → Option ((Int32 ⊕ Unit) × AH)) (r0 : Nat) (r1 : Nat) (x2 : Int32) (x3 : Int32) (x4 : Int32) (h : AH) : Option ((Int32 ⊕ Unit) × AH) :=
  (gR S h r0 1 0).bind fun p_1 =>
  (gI S h p_1 6 1).bind fun v_3 =>
  if v_3 ≤ x4 then
    some (.inr (), h)
  else
    (ckO S h r0 1).bind fun _ =>
    (f_X1_hears S r0 r1 x4 x3 h).bind fun z => match z with
    | (z_8, h_7) =>
    if z_8 = (0 : Int32) then
      lt (x4 + (1 : Int32)) fun y_10 =>
      rc r0 r1 x2 x3 y_10 h_7
    else
      (gR S h_7 r0 1 0).bind fun p_11 =>
      (ckO S h_7 p_11 6).bind fun _ =>
      (f_X6_lawInForce S p_11 h_7).bind fun z => match z with
      | (z_15, h_14) =>
      (ckO S h_14 r0 1).bind fun _ =>
      (f_X1_vote S r0 r1 x4 x2 z_15 h_14).bind fun z => match z with
      | (z_18, h_17) =>
      if z_18 = (2 : Int32) then
        some (.inl x4, h_17)
      else
        lt (x4 + (1 : Int32)) fun y_20 =>
        rc r0 r1 x2 x3 y_20 h_17
set_option maxHeartbeats 8000000 in
set_option maxRecDepth 20000 in
theorem s_X1_seconder_l3b {S : SH} {d cb sb : Nat} {Q : Option Value → AH → Prop} (hd : 3 ≤ d) {K : (Int32 ⊕ Unit) → AH → Prop} (hret : ∀ (w : Int32) (h' : AH), K (.inl w) h' → Q (some (.int w)) h') (hex : ∀  (h' : AH), K (.inr ()) h' → WP S M_X1_seconder d cb sb Q 54 [JK, JK, JK, JK, JK] [] h') {rc : Nat → Nat → Int32 → Int32 → Int32 → AH → Option ((Int32 ⊕ Unit) × AH)} (hrec : ∀ (r0 : Nat) (r1 : Nat) (x2 : Int32) (x3 : Int32) (x4 : Int32) (h' : AH), ok (rc r0 r1 x2 x3 x4 h') K → WP S M_X1_seconder d cb sb Q 3 [.ref r0, .ref r1, .int x2, .int x3, .int x4] [] h') {r0 : Nat} {r1 : Nat} {x2 : Int32} {x3 : Int32} {x4 : Int32} {h : AH} (k : ok (f_X1_seconder_l3b S rc r0 r1 x2 x3 x4 h) K) : WP S M_X1_seconder d cb sb Q 3 [.ref r0, .ref r1, .int x2, .int x3, .int x4] [] h := by
  obtain ⟨d, rfl, he⟩ := dp (L := 2) hd
  unfold f_X1_seconder_l3b at k
  refine wp_iload dX1_seconder_3 rfl ?_
  refine wp_aload_n dX1_seconder_5 rfl ?_
  replace k := ok_bind k
  obtain ⟨p_1, e_2, k⟩ := k
  refine wq_getR fl_X1_18 (Or.inl ⟨_, rfl⟩) dX1_seconder_6 e_2 ?_
  replace k := ok_bind k
  obtain ⟨v_3, e_4, k⟩ := k
  refine wq_getI fl_X1_95 (Or.inl rfl) dX1_seconder_9 e_4 ?_
  refine wp_icmp_ge 54 dX1_seconder_12 (by decide) (fun c_5 => ?_) (fun c_5 => ?_)
  · replace k := ok_t c_5 k
    exact wp_wk (wkJ <| wkJ <| wkJ <| wkJ <| wkJ <| wkN) (hex  _ (ok_some k))
  · replace k := ok_f c_5 k
    refine wp_aload_n dX1_seconder_15 rfl ?_
    refine wp_aload_n dX1_seconder_16 rfl ?_
    refine wp_iload dX1_seconder_17 rfl ?_
    refine wp_iload_n dX1_seconder_19 rfl ?_
    replace k := ok_bind k
    obtain ⟨u, e_6, k⟩ := k
    refine wp_callV3 (N := M_X1_hears) (ci := 1) mf_X1_hears mi_X1_hears me_X1_hears ml_X1_115 dX1_seconder_20 (ckO_e e_6) mv_X1_hears (by exact Nat.le_of_ble_eq_true rfl) (c_X1_hears (Nat.le_trans (by decide) he) (ok_mono (ok_bind2 k) fun z_8 h_7 k => ?_))
    try dsimp only at k
    refine wp_if_eq 48 dX1_seconder_23 (by decide) (fun c_9 => ?_) (fun c_9 => ?_)
    · replace k := ok_t c_9 k
      replace k := ok_lt k
      refine wp_iinc dX1_seconder_48 rfl ic_1 (by decide) (L1 := [_, _, _, _, _]) rfl ?_
      refine wp_goto 3 dX1_seconder_51 (by decide) ?_
      exact wp_wk (wkE <| wkE <| wkE <| wkE <| wkE <| wkN) (hrec _ _ _ _ _ _ k)
    · replace k := ok_f c_9 k
      refine wp_aload_n dX1_seconder_26 rfl ?_
      refine wp_aload_n dX1_seconder_27 rfl ?_
      refine wp_iload dX1_seconder_28 rfl ?_
      refine wp_iload_n dX1_seconder_30 rfl ?_
      refine wp_aload_n dX1_seconder_31 rfl ?_
      replace k := ok_bind k
      obtain ⟨p_11, e_12, k⟩ := k
      refine wq_getR fl_X1_18 (Or.inl ⟨_, rfl⟩) dX1_seconder_32 e_12 ?_
      replace k := ok_bind k
      obtain ⟨u, e_13, k⟩ := k
      refine wp_callV0 (N := M_X6_lawInForce) (ci := 6) mf_X6_lawInForce mi_X6_lawInForce me_X6_lawInForce ml_X1_74 dX1_seconder_35 (ckO_e e_13) mv_X6_lawInForce (by exact Nat.le_of_ble_eq_true rfl) (c_X6_lawInForce (Nat.le_trans (by decide) he) (ok_mono (ok_bind2 k) fun z_15 h_14 k => ?_))
      try dsimp only at k
      replace k := ok_bind k
      obtain ⟨u, e_16, k⟩ := k
      refine wp_callV4 (N := M_X1_vote) (ci := 1) mf_X1_vote mi_X1_vote me_X1_vote ml_X1_98 dX1_seconder_38 (ckO_e e_16) mv_X1_vote (by exact Nat.le_of_ble_eq_true rfl) (c_X1_vote (Nat.le_trans (by decide) he) (ok_mono (ok_bind2 k) fun z_18 h_17 k => ?_))
      try dsimp only at k
      refine wp_iconst dX1_seconder_41 ic_2 ?_
      refine wp_icmp_ne 48 dX1_seconder_42 (by decide) (fun c_19 => ?_) (fun c_19 => ?_)
      · replace k := ok_f c_19 k
        replace k := ok_lt k
        refine wp_iinc dX1_seconder_48 rfl ic_1 (by decide) (L1 := [_, _, _, _, _]) rfl ?_
        refine wp_goto 3 dX1_seconder_51 (by decide) ?_
        exact wp_wk (wkE <| wkE <| wkE <| wkE <| wkE <| wkN) (hrec _ _ _ _ _ _ k)
      · replace k := ok_t c_19 k
        refine wp_iload dX1_seconder_45 rfl ?_
        refine wp_iret rfl rfl dX1_seconder_47 ?_
        exact hret _ _ (ok_some k)
def f_X1_seconder_l3 (S : SH) : Nat → Nat → Nat → Int32 → Int32 → Int32 → AH → Option ((Int32 ⊕ Unit) × AH)
  | 0, _, _, _, _, _, _ => none
  | n + 1, r0, r1, x2, x3, x4, h => f_X1_seconder_l3b S (f_X1_seconder_l3 S n) r0 r1 x2 x3 x4 h
theorem s_X1_seconder_l3 {S : SH} {d cb sb : Nat} {Q : Option Value → AH → Prop} (hd : 3 ≤ d) {K : (Int32 ⊕ Unit) → AH → Prop} (hret : ∀ (w : Int32) (h' : AH), K (.inl w) h' → Q (some (.int w)) h') (hex : ∀  (h' : AH), K (.inr ()) h' → WP S M_X1_seconder d cb sb Q 54 [JK, JK, JK, JK, JK] [] h') : ∀ (n : Nat) (r0 : Nat) (r1 : Nat) (x2 : Int32) (x3 : Int32) (x4 : Int32) (h : AH), ok (f_X1_seconder_l3 S n r0 r1 x2 x3 x4 h) K → WP S M_X1_seconder d cb sb Q 3 [.ref r0, .ref r1, .int x2, .int x3, .int x4] [] h := by
  intro n
  induction n with
  | zero => intro r0 r1 x2 x3 x4 h k; exact ok_none k
  | succ n ih => intro r0 r1 x2 x3 x4 h k; exact s_X1_seconder_l3b hd hret hex (fun r0 r1 x2 x3 x4 h k => ih r0 r1 x2 x3 x4 h k) k
def f_X1_seconder (S : SH) (r0 : Nat) (r1 : Nat) (x2 : Int32) (x3 : Int32) (h : AH) : Option (Int32 × AH) :=
  (f_X1_seconder_l3 S FU r0 r1 x2 x3 (0 : Int32) h).bind fun z => match z with
  | (.inl w, h') => some (w, h')
  | (.inr (), h_1) =>
    some ((-1 : Int32), h_1)
set_option maxHeartbeats 8000000 in
set_option maxRecDepth 20000 in
theorem s_X1_seconder {S : SH} {d cb sb : Nat} {Q : Option Value → AH → Prop} (hd : 3 ≤ d)  {r0 : Nat} {r1 : Nat} {x2 : Int32} {x3 : Int32} {h : AH} (k : ok (f_X1_seconder S r0 r1 x2 x3 h) (fun w h' => Q (some (.int w)) h')) : WP S M_X1_seconder d cb sb Q 0 [.ref r0, .ref r1, .int x2, .int x3, JK] [] h := by
  obtain ⟨d, rfl, he⟩ := dp (L := 2) hd
  unfold f_X1_seconder at k
  refine wp_iconst dX1_seconder_0 ic_0 ?_
  refine wp_istore dX1_seconder_1 (by decide) (L1 := [_, _, _, _, _]) rfl ?_
  refine wp_wk (wkE <| wkE <| wkE <| wkE <| wkE <| wkN) ?_
  refine s_X1_seconder_l3 (Nat.succ_le_succ he) (fun w h' k => ?_) (fun  h_1 k => ?_) FU _ _ _ _ _ _ (ok_bind2 k)
  · try dsimp only at k
    exact (ok_some k :)
  · try dsimp only at k
    refine wp_iconst dX1_seconder_54 ic_m1 ?_
    refine wp_iret rfl rfl dX1_seconder_55 ?_
    exact (ok_some k :)
theorem c_X1_seconder {S : SH} {d : Nat} {K : Option Value → AH → Prop} (hd : 3 ≤ d)  {r0 : Nat} {r1 : Nat} {x2 : Int32} {x3 : Int32} {h : AH} (k : ok (f_X1_seconder S r0 r1 x2 x3 h) (fun w h' => K (some (.int w)) h')) : CP S M_X1_seconder d 0 0 [.ref r0, .ref r1, .int x2, .int x3] h K := cp_of (by decide) (fun _ _ => trivial) (fun _ => Nat.le_of_ble_eq_true rfl) (s_X1_seconder hd  k)
def f_X6_hasBird (S : SH) (r0 : Nat) (x1 : Int32) (h : AH) : Option (Int32 × AH) :=
  if x1 < (0 : Int32) then
    some ((0 : Int32), h)
  else
    (gI S h r0 6 1).bind fun v_2 =>
    if v_2 ≤ x1 then
      some ((0 : Int32), h)
    else
      if (7 : Int32) ≤ x1 then
        some ((0 : Int32), h)
      else
        some ((1 : Int32), h)
set_option maxHeartbeats 8000000 in
set_option maxRecDepth 20000 in
theorem s_X6_hasBird {S : SH} {d cb sb : Nat} {Q : Option Value → AH → Prop} (hd : 0 ≤ d)  {r0 : Nat} {x1 : Int32} {h : AH} (k : ok (f_X6_hasBird S r0 x1 h) (fun w h' => Q (some (.int w)) h')) : WP S M_X6_hasBird d cb sb Q 0 [.ref r0, .int x1] [] h := by
  unfold f_X6_hasBird at k
  refine wp_iload_n dX6_hasBird_0 rfl ?_
  refine wp_if_lt 22 dX6_hasBird_1 (by decide) (fun c_1 => ?_) (fun c_1 => ?_)
  · replace k := ok_t c_1 k
    refine wp_iconst dX6_hasBird_22 ic_0 ?_
    refine wp_iret rfl rfl dX6_hasBird_23 ?_
    exact (ok_some k :)
  · replace k := ok_f c_1 k
    refine wp_iload_n dX6_hasBird_4 rfl ?_
    refine wp_aload_n dX6_hasBird_5 rfl ?_
    replace k := ok_bind k
    obtain ⟨v_2, e_3, k⟩ := k
    refine wq_getI fl_X6_61 (Or.inl rfl) dX6_hasBird_6 e_3 ?_
    refine wp_icmp_ge 22 dX6_hasBird_9 (by decide) (fun c_4 => ?_) (fun c_4 => ?_)
    · replace k := ok_t c_4 k
      refine wp_iconst dX6_hasBird_22 ic_0 ?_
      refine wp_iret rfl rfl dX6_hasBird_23 ?_
      exact (ok_some k :)
    · replace k := ok_f c_4 k
      refine wp_iload_n dX6_hasBird_12 rfl ?_
      refine wp_bipush dX6_hasBird_13 bp_7 ?_
      refine wp_icmp_ge 22 dX6_hasBird_15 (by decide) (fun c_5 => ?_) (fun c_5 => ?_)
      · replace k := ok_t c_5 k
        refine wp_iconst dX6_hasBird_22 ic_0 ?_
        refine wp_iret rfl rfl dX6_hasBird_23 ?_
        exact (ok_some k :)
      · replace k := ok_f c_5 k
        refine wp_iconst dX6_hasBird_18 ic_1 ?_
        refine wp_goto 23 dX6_hasBird_19 (by decide) ?_
        refine wp_iret rfl rfl dX6_hasBird_23 ?_
        exact (ok_some k :)
theorem c_X6_hasBird {S : SH} {d : Nat} {K : Option Value → AH → Prop} (hd : 0 ≤ d)  {r0 : Nat} {x1 : Int32} {h : AH} (k : ok (f_X6_hasBird S r0 x1 h) (fun w h' => K (some (.int w)) h')) : CP S M_X6_hasBird d 0 0 [.ref r0, .int x1] h K := cp_of (by decide) (fun _ _ => trivial) (fun _ => Nat.le_of_ble_eq_true rfl) (s_X6_hasBird hd  k)
def f_X1_moving (S : SH) (r0 : Nat) (r1 : Nat) (x2 : Int32) (x3 : Int32) (h : AH) : Option (Int32 × AH) :=
  (gR S h r0 1 0).bind fun p_1 =>
  (ckO S h p_1 6).bind fun _ =>
  (f_X6_hasMatter S p_1 x2 h).bind fun z => match z with
  | (z_5, h_4) =>
  if z_5 = (0 : Int32) then
    some ((-2 : Int32), h_4)
  else
    (gR S h_4 r0 1 0).bind fun p_7 =>
    (ckO S h_4 p_7 6).bind fun _ =>
    (f_X6_hasBird S p_7 x3 h_4).bind fun z => match z with
    | (z_11, h_10) =>
    if z_11 = (0 : Int32) then
      some ((-2 : Int32), h_10)
    else
      (gR S h_10 r1 7 1).bind fun p_13 =>
      (aI S h_10 p_13 x2).bind fun v_15 =>
      if v_15 = (0 : Int32) then
        (gR S h_10 r0 1 0).bind fun p_18 =>
        (ckO S h_10 p_18 6).bind fun _ =>
        (f_X6_lawInForce S p_18 h_10).bind fun z => match z with
        | (z_22, h_21) =>
        (ckO S h_21 r0 1).bind fun _ =>
        (f_X1_vote S r0 r1 x3 x2 z_22 h_21).bind fun z => match z with
        | (z_25, h_24) =>
        if z_25 = (0 : Int32) then
          some ((-3 : Int32), h_24)
        else
          (ckO S h_24 r0 1).bind fun _ =>
          (f_X1_seconder S r0 r1 x2 x3 h_24).bind fun z => match z with
          | (z_29, h_28) =>
          if z_29 = (-1 : Int32) then
            some ((-3 : Int32), h_28)
          else
            (gR S h_28 r1 7 1).bind fun p_31 =>
            (sI S h_28 p_31 x2 (1 : Int32)).bind fun h_33 =>
            some (z_29, h_33)
      else
        some ((-3 : Int32), h_10)
set_option maxHeartbeats 8000000 in
set_option maxRecDepth 20000 in
theorem s_X1_moving {S : SH} {d cb sb : Nat} {Q : Option Value → AH → Prop} (hd : 4 ≤ d)  {r0 : Nat} {r1 : Nat} {x2 : Int32} {x3 : Int32} {h : AH} (k : ok (f_X1_moving S r0 r1 x2 x3 h) (fun w h' => Q (some (.int w)) h')) : WP S M_X1_moving d cb sb Q 0 [.ref r0, .ref r1, .int x2, .int x3, JK] [] h := by
  obtain ⟨d, rfl, he⟩ := dp (L := 3) hd
  unfold f_X1_moving at k
  refine wp_aload_n dX1_moving_0 rfl ?_
  replace k := ok_bind k
  obtain ⟨p_1, e_2, k⟩ := k
  refine wq_getR fl_X1_18 (Or.inl ⟨_, rfl⟩) dX1_moving_1 e_2 ?_
  refine wp_iload_n dX1_moving_4 rfl ?_
  replace k := ok_bind k
  obtain ⟨u, e_3, k⟩ := k
  refine wp_callV1 (N := M_X6_hasMatter) (ci := 6) mf_X6_hasMatter mi_X6_hasMatter me_X6_hasMatter ml_X1_119 dX1_moving_5 (ckO_e e_3) mv_X6_hasMatter (by exact Nat.le_of_ble_eq_true rfl) (c_X6_hasMatter (Nat.le_trans (by decide) he) (ok_mono (ok_bind2 k) fun z_5 h_4 k => ?_))
  try dsimp only at k
  refine wp_if_eq 22 dX1_moving_8 (by decide) (fun c_6 => ?_) (fun c_6 => ?_)
  · replace k := ok_t c_6 k
    refine wp_bipush dX1_moving_22 bp_m2 ?_
    refine wp_iret rfl rfl dX1_moving_24 ?_
    exact (ok_some k :)
  · replace k := ok_f c_6 k
    refine wp_aload_n dX1_moving_11 rfl ?_
    replace k := ok_bind k
    obtain ⟨p_7, e_8, k⟩ := k
    refine wq_getR fl_X1_18 (Or.inl ⟨_, rfl⟩) dX1_moving_12 e_8 ?_
    refine wp_iload_n dX1_moving_15 rfl ?_
    replace k := ok_bind k
    obtain ⟨u, e_9, k⟩ := k
    refine wp_callV1 (N := M_X6_hasBird) (ci := 6) mf_X6_hasBird mi_X6_hasBird me_X6_hasBird ml_X1_123 dX1_moving_16 (ckO_e e_9) mv_X6_hasBird (by exact Nat.le_of_ble_eq_true rfl) (c_X6_hasBird (Nat.le_trans (by decide) he) (ok_mono (ok_bind2 k) fun z_11 h_10 k => ?_))
    try dsimp only at k
    refine wp_if_ne 25 dX1_moving_19 (by decide) (fun c_12 => ?_) (fun c_12 => ?_)
    · replace k := ok_f c_12 k
      refine wp_aload_n dX1_moving_25 rfl ?_
      replace k := ok_bind k
      obtain ⟨p_13, e_14, k⟩ := k
      refine wq_getR fl_X1_105 (Or.inr ⟨_, rfl⟩) dX1_moving_26 e_14 ?_
      refine wp_iload_n dX1_moving_29 rfl ?_
      replace k := ok_bind k
      obtain ⟨v_15, e_16, k⟩ := k
      refine wq_aI dX1_moving_30 e_16 ?_
      refine wp_if_ne 51 dX1_moving_31 (by decide) (fun c_17 => ?_) (fun c_17 => ?_)
      · replace k := ok_f c_17 k
        refine wp_bipush dX1_moving_51 bp_m3 ?_
        refine wp_iret rfl rfl dX1_moving_53 ?_
        exact (ok_some k :)
      · replace k := ok_t c_17 k
        refine wp_aload_n dX1_moving_34 rfl ?_
        refine wp_aload_n dX1_moving_35 rfl ?_
        refine wp_iload_n dX1_moving_36 rfl ?_
        refine wp_iload_n dX1_moving_37 rfl ?_
        refine wp_aload_n dX1_moving_38 rfl ?_
        replace k := ok_bind k
        obtain ⟨p_18, e_19, k⟩ := k
        refine wq_getR fl_X1_18 (Or.inl ⟨_, rfl⟩) dX1_moving_39 e_19 ?_
        replace k := ok_bind k
        obtain ⟨u, e_20, k⟩ := k
        refine wp_callV0 (N := M_X6_lawInForce) (ci := 6) mf_X6_lawInForce mi_X6_lawInForce me_X6_lawInForce ml_X1_74 dX1_moving_42 (ckO_e e_20) mv_X6_lawInForce (by exact Nat.le_of_ble_eq_true rfl) (c_X6_lawInForce (Nat.le_trans (by decide) he) (ok_mono (ok_bind2 k) fun z_22 h_21 k => ?_))
        try dsimp only at k
        replace k := ok_bind k
        obtain ⟨u, e_23, k⟩ := k
        refine wp_callV4 (N := M_X1_vote) (ci := 1) mf_X1_vote mi_X1_vote me_X1_vote ml_X1_98 dX1_moving_45 (ckO_e e_23) mv_X1_vote (by exact Nat.le_of_ble_eq_true rfl) (c_X1_vote (Nat.le_trans (by decide) he) (ok_mono (ok_bind2 k) fun z_25 h_24 k => ?_))
        try dsimp only at k
        refine wp_if_ne 54 dX1_moving_48 (by decide) (fun c_26 => ?_) (fun c_26 => ?_)
        · replace k := ok_f c_26 k
          refine wp_aload_n dX1_moving_54 rfl ?_
          refine wp_aload_n dX1_moving_55 rfl ?_
          refine wp_iload_n dX1_moving_56 rfl ?_
          refine wp_iload_n dX1_moving_57 rfl ?_
          replace k := ok_bind k
          obtain ⟨u, e_27, k⟩ := k
          refine wp_callV3 (N := M_X1_seconder) (ci := 1) mf_X1_seconder mi_X1_seconder me_X1_seconder ml_X1_126 dX1_moving_58 (ckO_e e_27) mv_X1_seconder (by exact Nat.le_of_ble_eq_true rfl) (c_X1_seconder (Nat.le_trans (by decide) he) (ok_mono (ok_bind2 k) fun z_29 h_28 k => ?_))
          try dsimp only at k
          refine wp_istore dX1_moving_61 (by decide) (L1 := [_, _, _, _, _]) rfl ?_
          refine wp_iload dX1_moving_63 rfl ?_
          refine wp_iconst dX1_moving_65 ic_m1 ?_
          refine wp_icmp_ne 72 dX1_moving_66 (by decide) (fun c_30 => ?_) (fun c_30 => ?_)
          · replace k := ok_f c_30 k
            refine wp_aload_n dX1_moving_72 rfl ?_
            replace k := ok_bind k
            obtain ⟨p_31, e_32, k⟩ := k
            refine wq_getR fl_X1_105 (Or.inr ⟨_, rfl⟩) dX1_moving_73 e_32 ?_
            refine wp_iload_n dX1_moving_76 rfl ?_
            refine wp_iconst dX1_moving_77 ic_1 ?_
            replace k := ok_bind k
            obtain ⟨h_33, e_34, k⟩ := k
            refine wq_sI dX1_moving_78 e_34 ?_
            refine wp_iload dX1_moving_79 rfl ?_
            refine wp_iret rfl rfl dX1_moving_81 ?_
            exact (ok_some k :)
          · replace k := ok_t c_30 k
            refine wp_bipush dX1_moving_69 bp_m3 ?_
            refine wp_iret rfl rfl dX1_moving_71 ?_
            exact (ok_some k :)
        · replace k := ok_t c_26 k
          refine wp_bipush dX1_moving_51 bp_m3 ?_
          refine wp_iret rfl rfl dX1_moving_53 ?_
          exact (ok_some k :)
    · replace k := ok_t c_12 k
      refine wp_bipush dX1_moving_22 bp_m2 ?_
      refine wp_iret rfl rfl dX1_moving_24 ?_
      exact (ok_some k :)
theorem c_X1_moving {S : SH} {d : Nat} {K : Option Value → AH → Prop} (hd : 4 ≤ d)  {r0 : Nat} {r1 : Nat} {x2 : Int32} {x3 : Int32} {h : AH} (k : ok (f_X1_moving S r0 r1 x2 x3 h) (fun w h' => K (some (.int w)) h')) : CP S M_X1_moving d 0 0 [.ref r0, .ref r1, .int x2, .int x3] h K := cp_of (by decide) (fun _ _ => trivial) (fun _ => Nat.le_of_ble_eq_true rfl) (s_X1_moving hd  k)
def f_X1_flying (S : SH) (r0 : Nat) (r1 : Nat) (x2 : Int32) (x3 : Int32) (h : AH) : Option (Int32 × AH) :=
  if x3 < (-1 : Int32) then
    some ((-1 : Int32), h)
  else
    if x3 < (20 : Int32) then
      (gR S h r0 1 0).bind fun p_3 =>
      (ckO S h p_3 6).bind fun _ =>
      (f_X6_hasBird S p_3 x2 h).bind fun z => match z with
      | (z_7, h_6) =>
      if z_7 = (0 : Int32) then
        some ((-2 : Int32), h_6)
      else
        (gR S h_6 r1 7 0).bind fun p_9 =>
        (aI S h_6 p_9 x2).bind fun v_11 =>
        if v_11 = x3 then
          some ((-3 : Int32), h_6)
        else
          (gR S h_6 r1 7 0).bind fun p_14 =>
          (sI S h_6 p_14 x2 x3).bind fun h_16 =>
          if v_11 = (-1 : Int32) then
            some ((20 : Int32), h_16)
          else
            some (v_11, h_16)
    else
      some ((-1 : Int32), h)
set_option maxHeartbeats 8000000 in
set_option maxRecDepth 20000 in
theorem s_X1_flying {S : SH} {d cb sb : Nat} {Q : Option Value → AH → Prop} (hd : 1 ≤ d)  {r0 : Nat} {r1 : Nat} {x2 : Int32} {x3 : Int32} {h : AH} (k : ok (f_X1_flying S r0 r1 x2 x3 h) (fun w h' => Q (some (.int w)) h')) : WP S M_X1_flying d cb sb Q 0 [.ref r0, .ref r1, .int x2, .int x3, JK] [] h := by
  obtain ⟨d, rfl, he⟩ := dp (L := 0) hd
  unfold f_X1_flying at k
  refine wp_iload_n dX1_flying_0 rfl ?_
  refine wp_iconst dX1_flying_1 ic_m1 ?_
  refine wp_icmp_lt 11 dX1_flying_2 (by decide) (fun c_1 => ?_) (fun c_1 => ?_)
  · replace k := ok_t c_1 k
    refine wp_iconst dX1_flying_11 ic_m1 ?_
    refine wp_iret rfl rfl dX1_flying_12 ?_
    exact (ok_some k :)
  · replace k := ok_f c_1 k
    refine wp_iload_n dX1_flying_5 rfl ?_
    refine wp_bipush dX1_flying_6 bp_20 ?_
    refine wp_icmp_lt 13 dX1_flying_8 (by decide) (fun c_2 => ?_) (fun c_2 => ?_)
    · replace k := ok_t c_2 k
      refine wp_aload_n dX1_flying_13 rfl ?_
      replace k := ok_bind k
      obtain ⟨p_3, e_4, k⟩ := k
      refine wq_getR fl_X1_18 (Or.inl ⟨_, rfl⟩) dX1_flying_14 e_4 ?_
      refine wp_iload_n dX1_flying_17 rfl ?_
      replace k := ok_bind k
      obtain ⟨u, e_5, k⟩ := k
      refine wp_callV1 (N := M_X6_hasBird) (ci := 6) mf_X6_hasBird mi_X6_hasBird me_X6_hasBird ml_X1_123 dX1_flying_18 (ckO_e e_5) mv_X6_hasBird (by exact Nat.le_of_ble_eq_true rfl) (c_X6_hasBird (Nat.le_trans (by decide) he) (ok_mono (ok_bind2 k) fun z_7 h_6 k => ?_))
      try dsimp only at k
      refine wp_if_ne 27 dX1_flying_21 (by decide) (fun c_8 => ?_) (fun c_8 => ?_)
      · replace k := ok_f c_8 k
        refine wp_aload_n dX1_flying_27 rfl ?_
        replace k := ok_bind k
        obtain ⟨p_9, e_10, k⟩ := k
        refine wq_getR fl_X1_51 (Or.inr ⟨_, rfl⟩) dX1_flying_28 e_10 ?_
        refine wp_iload_n dX1_flying_31 rfl ?_
        replace k := ok_bind k
        obtain ⟨v_11, e_12, k⟩ := k
        refine wq_aI dX1_flying_32 e_12 ?_
        refine wp_istore dX1_flying_33 (by decide) (L1 := [_, _, _, _, _]) rfl ?_
        refine wp_iload dX1_flying_35 rfl ?_
        refine wp_iload_n dX1_flying_37 rfl ?_
        refine wp_icmp_ne 44 dX1_flying_38 (by decide) (fun c_13 => ?_) (fun c_13 => ?_)
        · replace k := ok_f c_13 k
          refine wp_aload_n dX1_flying_44 rfl ?_
          replace k := ok_bind k
          obtain ⟨p_14, e_15, k⟩ := k
          refine wq_getR fl_X1_51 (Or.inr ⟨_, rfl⟩) dX1_flying_45 e_15 ?_
          refine wp_iload_n dX1_flying_48 rfl ?_
          refine wp_iload_n dX1_flying_49 rfl ?_
          replace k := ok_bind k
          obtain ⟨h_16, e_17, k⟩ := k
          refine wq_sI dX1_flying_50 e_17 ?_
          refine wp_iload dX1_flying_51 rfl ?_
          refine wp_iconst dX1_flying_53 ic_m1 ?_
          refine wp_icmp_ne 62 dX1_flying_54 (by decide) (fun c_18 => ?_) (fun c_18 => ?_)
          · replace k := ok_f c_18 k
            refine wp_iload dX1_flying_62 rfl ?_
            refine wp_iret rfl rfl dX1_flying_64 ?_
            exact (ok_some k :)
          · replace k := ok_t c_18 k
            refine wp_bipush dX1_flying_57 bp_20 ?_
            refine wp_goto 64 dX1_flying_59 (by decide) ?_
            refine wp_iret rfl rfl dX1_flying_64 ?_
            exact (ok_some k :)
        · replace k := ok_t c_13 k
          refine wp_bipush dX1_flying_41 bp_m3 ?_
          refine wp_iret rfl rfl dX1_flying_43 ?_
          exact (ok_some k :)
      · replace k := ok_t c_8 k
        refine wp_bipush dX1_flying_24 bp_m2 ?_
        refine wp_iret rfl rfl dX1_flying_26 ?_
        exact (ok_some k :)
    · replace k := ok_f c_2 k
      refine wp_iconst dX1_flying_11 ic_m1 ?_
      refine wp_iret rfl rfl dX1_flying_12 ?_
      exact (ok_some k :)
theorem c_X1_flying {S : SH} {d : Nat} {K : Option Value → AH → Prop} (hd : 1 ≤ d)  {r0 : Nat} {r1 : Nat} {x2 : Int32} {x3 : Int32} {h : AH} (k : ok (f_X1_flying S r0 r1 x2 x3 h) (fun w h' => K (some (.int w)) h')) : CP S M_X1_flying d 0 0 [.ref r0, .ref r1, .int x2, .int x3] h K := cp_of (by decide) (fun _ _ => trivial) (fun _ => Nat.le_of_ble_eq_true rfl) (s_X1_flying hd  k)
def f_X1_passing_l32b (S : SH) (rc : Nat → Nat → Int32 → Int32 → AH → Option (Int32 × AH)) (r0 : Nat) (r1 : Nat) (x2 : Int32) (x3 : Int32) (h : AH) : Option (Int32 × AH) :=
  (gR S h r0 1 0).bind fun p_1 =>
  (gI S h p_1 6 4).bind fun v_3 =>
  if v_3 ≤ x3 then
    some (x2, h)
  else
    (gR S h r1 7 1).bind fun p_6 =>
    (aI S h p_6 x3).bind fun v_8 =>
    if v_8 = (2 : Int32) then
      lt (x3 + (1 : Int32)) fun y_11 =>
      rc r0 r1 x2 y_11 h
    else
      (gR S h r1 7 1).bind fun p_12 =>
      (sI S h p_12 x3 (0 : Int32)).bind fun h_14 =>
      lt (x2 + (1 : Int32)) fun y_16 =>
      lt (x3 + (1 : Int32)) fun y_17 =>
      rc r0 r1 y_16 y_17 h_14
set_option maxHeartbeats 8000000 in
set_option maxRecDepth 20000 in
theorem s_X1_passing_l32b {S : SH} {d cb sb : Nat} {Q : Option Value → AH → Prop} (hd : 0 ≤ d) {K : Int32 → AH → Prop} (hex : ∀ (x2 : Int32) (h' : AH), K x2 h' → WP S M_X1_passing d cb sb Q 69 [JK, JK, .int x2, JK] [] h') {rc : Nat → Nat → Int32 → Int32 → AH → Option (Int32 × AH)} (hrec : ∀ (r0 : Nat) (r1 : Nat) (x2 : Int32) (x3 : Int32) (h' : AH), ok (rc r0 r1 x2 x3 h') K → WP S M_X1_passing d cb sb Q 32 [.ref r0, .ref r1, .int x2, .int x3] [] h') {r0 : Nat} {r1 : Nat} {x2 : Int32} {x3 : Int32} {h : AH} (k : ok (f_X1_passing_l32b S rc r0 r1 x2 x3 h) K) : WP S M_X1_passing d cb sb Q 32 [.ref r0, .ref r1, .int x2, .int x3] [] h := by
  unfold f_X1_passing_l32b at k
  refine wp_iload_n dX1_passing_32 rfl ?_
  refine wp_aload_n dX1_passing_33 rfl ?_
  replace k := ok_bind k
  obtain ⟨p_1, e_2, k⟩ := k
  refine wq_getR fl_X1_18 (Or.inl ⟨_, rfl⟩) dX1_passing_34 e_2 ?_
  replace k := ok_bind k
  obtain ⟨v_3, e_4, k⟩ := k
  refine wq_getI fl_X1_102 (Or.inl rfl) dX1_passing_37 e_4 ?_
  refine wp_icmp_ge 69 dX1_passing_40 (by decide) (fun c_5 => ?_) (fun c_5 => ?_)
  · replace k := ok_t c_5 k
    exact wp_wk (wkJ <| wkJ <| wkE <| wkJ <| wkN) (hex _ _ (ok_some k))
  · replace k := ok_f c_5 k
    refine wp_aload_n dX1_passing_43 rfl ?_
    replace k := ok_bind k
    obtain ⟨p_6, e_7, k⟩ := k
    refine wq_getR fl_X1_105 (Or.inr ⟨_, rfl⟩) dX1_passing_44 e_7 ?_
    refine wp_iload_n dX1_passing_47 rfl ?_
    replace k := ok_bind k
    obtain ⟨v_8, e_9, k⟩ := k
    refine wq_aI dX1_passing_48 e_9 ?_
    refine wp_iconst dX1_passing_49 ic_2 ?_
    refine wp_icmp_eq 63 dX1_passing_50 (by decide) (fun c_10 => ?_) (fun c_10 => ?_)
    · replace k := ok_t c_10 k
      replace k := ok_lt k
      refine wp_iinc dX1_passing_63 rfl ic_1 (by decide) (L1 := [_, _, _, _]) rfl ?_
      refine wp_goto 32 dX1_passing_66 (by decide) ?_
      exact wp_wk (wkE <| wkE <| wkE <| wkE <| wkN) (hrec _ _ _ _ _ k)
    · replace k := ok_f c_10 k
      refine wp_aload_n dX1_passing_53 rfl ?_
      replace k := ok_bind k
      obtain ⟨p_12, e_13, k⟩ := k
      refine wq_getR fl_X1_105 (Or.inr ⟨_, rfl⟩) dX1_passing_54 e_13 ?_
      refine wp_iload_n dX1_passing_57 rfl ?_
      refine wp_iconst dX1_passing_58 ic_0 ?_
      replace k := ok_bind k
      obtain ⟨h_14, e_15, k⟩ := k
      refine wq_sI dX1_passing_59 e_15 ?_
      replace k := ok_lt k
      refine wp_iinc dX1_passing_60 rfl ic_1 (by decide) (L1 := [_, _, _, _]) rfl ?_
      replace k := ok_lt k
      refine wp_iinc dX1_passing_63 rfl ic_1 (by decide) (L1 := [_, _, _, _]) rfl ?_
      refine wp_goto 32 dX1_passing_66 (by decide) ?_
      exact wp_wk (wkE <| wkE <| wkE <| wkE <| wkN) (hrec _ _ _ _ _ k)
def f_X1_passing_l32 (S : SH) : Nat → Nat → Nat → Int32 → Int32 → AH → Option (Int32 × AH)
  | 0, _, _, _, _, _ => none
  | n + 1, r0, r1, x2, x3, h => f_X1_passing_l32b S (f_X1_passing_l32 S n) r0 r1 x2 x3 h
theorem s_X1_passing_l32 {S : SH} {d cb sb : Nat} {Q : Option Value → AH → Prop} (hd : 0 ≤ d) {K : Int32 → AH → Prop} (hex : ∀ (x2 : Int32) (h' : AH), K x2 h' → WP S M_X1_passing d cb sb Q 69 [JK, JK, .int x2, JK] [] h') : ∀ (n : Nat) (r0 : Nat) (r1 : Nat) (x2 : Int32) (x3 : Int32) (h : AH), ok (f_X1_passing_l32 S n r0 r1 x2 x3 h) K → WP S M_X1_passing d cb sb Q 32 [.ref r0, .ref r1, .int x2, .int x3] [] h := by
  intro n
  induction n with
  | zero => intro r0 r1 x2 x3 h k; exact ok_none k
  | succ n ih => intro r0 r1 x2 x3 h k; exact s_X1_passing_l32b hd hex (fun r0 r1 x2 x3 h k => ih r0 r1 x2 x3 h k) k
def f_X1_passing (S : SH) (r0 : Nat) (r1 : Nat) (h : AH) : Option (Int32 × AH) :=
  (gI S h r1 7 3).bind fun v_1 =>
  if v_1 < (999 : Int32) then
    (gI S h r1 7 3).bind fun v_4 =>
    (pI S h r1 7 3 (v_4 + (1 : Int32))).bind fun h_6 =>
    (pI S h_6 r1 7 2 (0 : Int32)).bind fun h_8 =>
    (f_X1_passing_l32 S FU r0 r1 (0 : Int32) (0 : Int32) h_8).bind fun z => match z with
    | (x2_11, h_10) =>
    some (x2_11, h_10)
  else
    some ((-3 : Int32), h)
set_option maxHeartbeats 8000000 in
set_option maxRecDepth 20000 in
theorem s_X1_passing {S : SH} {d cb sb : Nat} {Q : Option Value → AH → Prop} (hd : 0 ≤ d)  {r0 : Nat} {r1 : Nat} {h : AH} (k : ok (f_X1_passing S r0 r1 h) (fun w h' => Q (some (.int w)) h')) : WP S M_X1_passing d cb sb Q 0 [.ref r0, .ref r1, JK, JK] [] h := by
  unfold f_X1_passing at k
  refine wp_aload_n dX1_passing_0 rfl ?_
  replace k := ok_bind k
  obtain ⟨v_1, e_2, k⟩ := k
  refine wq_getI fl_X1_45 (Or.inl rfl) dX1_passing_1 e_2 ?_
  refine wp_sipush dX1_passing_4 sp_999 ?_
  refine wp_icmp_lt 13 dX1_passing_7 (by decide) (fun c_3 => ?_) (fun c_3 => ?_)
  · replace k := ok_t c_3 k
    refine wp_aload_n dX1_passing_13 rfl ?_
    refine wp_dupR dX1_passing_14 ?_
    replace k := ok_bind k
    obtain ⟨v_4, e_5, k⟩ := k
    refine wq_getI fl_X1_45 (Or.inl rfl) dX1_passing_15 e_5 ?_
    refine wp_iconst dX1_passing_18 ic_1 ?_
    refine wp_iadd dX1_passing_19 ?_
    replace k := ok_bind k
    obtain ⟨h_6, e_7, k⟩ := k
    refine wq_putI fl_X1_45 rfl rfl dX1_passing_20 e_7 ?_
    refine wp_aload_n dX1_passing_23 rfl ?_
    refine wp_iconst dX1_passing_24 ic_0 ?_
    replace k := ok_bind k
    obtain ⟨h_8, e_9, k⟩ := k
    refine wq_putI fl_X1_39 rfl rfl dX1_passing_25 e_9 ?_
    refine wp_iconst dX1_passing_28 ic_0 ?_
    refine wp_istore_n dX1_passing_29 (by decide) (L1 := [_, _, _, _]) rfl ?_
    refine wp_iconst dX1_passing_30 ic_0 ?_
    refine wp_istore_n dX1_passing_31 (by decide) (L1 := [_, _, _, _]) rfl ?_
    refine wp_wk (wkE <| wkE <| wkE <| wkE <| wkN) ?_
    refine s_X1_passing_l32 hd (fun x2_11 h_10 k => ?_) FU _ _ _ _ _ (ok_bind2 k)
    try dsimp only at k
    refine wp_iload_n dX1_passing_69 rfl ?_
    refine wp_iret rfl rfl dX1_passing_70 ?_
    exact (ok_some k :)
  · replace k := ok_f c_3 k
    refine wp_bipush dX1_passing_10 bp_m3 ?_
    refine wp_iret rfl rfl dX1_passing_12 ?_
    exact (ok_some k :)
theorem c_X1_passing {S : SH} {d : Nat} {K : Option Value → AH → Prop} (hd : 0 ≤ d)  {r0 : Nat} {r1 : Nat} {h : AH} (k : ok (f_X1_passing S r0 r1 h) (fun w h' => K (some (.int w)) h')) : CP S M_X1_passing d 0 0 [.ref r0, .ref r1] h K := cp_of (by decide) (fun _ _ => trivial) (fun _ => Nat.le_of_ble_eq_true rfl) (s_X1_passing hd  k)
def f_X1_fewest_l6_j38 (S : SH) (rc : Nat → Int32 → Int32 → Int32 → Int32 → Int32 → AH → Option (Int32 × AH)) (r0 : Nat) (x1 : Int32) (x2 : Int32) (x3 : Int32) (x4 : Int32) (x5 : Int32) (sx0 : Int32) (h : AH) : Option (Int32 × AH) :=
  if sx0 = (0 : Int32) then
    lt (x5 + (1 : Int32)) fun y_2 =>
    rc r0 x1 x2 x3 x4 y_2 h
  else
    if (x5 &&& (x1 ^^^ (-1 : Int32))) = (0 : Int32) then
      (gI S h r0 1 2).bind fun v_5 =>
      (gI S h r0 1 3).bind fun v_7 =>
      (ckO S h r0 1).bind fun _ =>
      (f_X1_wouldCarry S r0 (v_5 ^^^ x5) ((v_7 ^^^ (x5 &&& x2))) h).bind fun z => match z with
      | (z_11, h_10) =>
      if z_11 = x3 then
        lt (x5 + (1 : Int32)) fun y_14 =>
        rc r0 x1 x2 x3 x5 y_14 h_10
      else
        lt (x5 + (1 : Int32)) fun y_13 =>
        rc r0 x1 x2 x3 x4 y_13 h_10
    else
      lt (x5 + (1 : Int32)) fun y_4 =>
      rc r0 x1 x2 x3 x4 y_4 h
set_option maxHeartbeats 8000000 in
set_option maxRecDepth 20000 in
theorem s_X1_fewest_l6_j38 {S : SH} {d cb sb : Nat} {Q : Option Value → AH → Prop} (hd : 2 ≤ d) {K : Int32 → AH → Prop} (hex : ∀ (x4 : Int32) (h' : AH), K x4 h' → WP S M_X1_fewest d cb sb Q 88 [JK, JK, JK, JK, .int x4, JK, JK] [] h') {rc : Nat → Int32 → Int32 → Int32 → Int32 → Int32 → AH → Option (Int32 × AH)} (hrec : ∀ (r0 : Nat) (x1 : Int32) (x2 : Int32) (x3 : Int32) (x4 : Int32) (x5 : Int32) (h' : AH), ok (rc r0 x1 x2 x3 x4 x5 h') K → WP S M_X1_fewest d cb sb Q 6 [.ref r0, .int x1, .int x2, .int x3, .int x4, .int x5, JK] [] h') {r0 : Nat} {x1 : Int32} {x2 : Int32} {x3 : Int32} {x4 : Int32} {x5 : Int32} {sx0 : Int32} {h : AH} (k : ok (f_X1_fewest_l6_j38 S rc r0 x1 x2 x3 x4 x5 sx0 h) K) : WP S M_X1_fewest d cb sb Q 38 [.ref r0, .int x1, .int x2, .int x3, .int x4, .int x5, JK] [.int sx0] h := by
  obtain ⟨d, rfl, he⟩ := dp (L := 1) hd
  unfold f_X1_fewest_l6_j38 at k
  refine wp_istore dX1_fewest_38 (by decide) (L1 := [_, _, _, _, _, _, _]) rfl ?_
  refine wp_iload dX1_fewest_40 rfl ?_
  refine wp_if_eq 82 dX1_fewest_42 (by decide) (fun c_1 => ?_) (fun c_1 => ?_)
  · replace k := ok_t c_1 k
    replace k := ok_lt k
    refine wp_iinc dX1_fewest_82 rfl ic_1 (by decide) (L1 := [_, _, _, _, _, _, _]) rfl ?_
    refine wp_goto 6 dX1_fewest_85 (by decide) ?_
    exact wp_wk (wkE <| wkE <| wkE <| wkE <| wkE <| wkE <| wkJ <| wkN) (hrec _ _ _ _ _ _ _ k)
  · replace k := ok_f c_1 k
    refine wp_iload dX1_fewest_45 rfl ?_
    refine wp_iload_n dX1_fewest_47 rfl ?_
    refine wp_iconst dX1_fewest_48 ic_m1 ?_
    refine wp_ixor dX1_fewest_49 ?_
    refine wp_iand dX1_fewest_50 ?_
    refine wp_if_ne 82 dX1_fewest_51 (by decide) (fun c_3 => ?_) (fun c_3 => ?_)
    · replace k := ok_f c_3 k
      replace k := ok_lt k
      refine wp_iinc dX1_fewest_82 rfl ic_1 (by decide) (L1 := [_, _, _, _, _, _, _]) rfl ?_
      refine wp_goto 6 dX1_fewest_85 (by decide) ?_
      exact wp_wk (wkE <| wkE <| wkE <| wkE <| wkE <| wkE <| wkJ <| wkN) (hrec _ _ _ _ _ _ _ k)
    · replace k := ok_t c_3 k
      refine wp_aload_n dX1_fewest_54 rfl ?_
      refine wp_aload_n dX1_fewest_55 rfl ?_
      replace k := ok_bind k
      obtain ⟨v_5, e_6, k⟩ := k
      refine wq_getI fl_X1_89 (Or.inl rfl) dX1_fewest_56 e_6 ?_
      refine wp_iload dX1_fewest_59 rfl ?_
      refine wp_ixor dX1_fewest_61 ?_
      refine wp_aload_n dX1_fewest_62 rfl ?_
      replace k := ok_bind k
      obtain ⟨v_7, e_8, k⟩ := k
      refine wq_getI fl_X1_92 (Or.inl rfl) dX1_fewest_63 e_8 ?_
      refine wp_iload dX1_fewest_66 rfl ?_
      refine wp_iload_n dX1_fewest_68 rfl ?_
      refine wp_iand dX1_fewest_69 ?_
      refine wp_ixor dX1_fewest_70 ?_
      replace k := ok_bind k
      obtain ⟨u, e_9, k⟩ := k
      refine wp_callV2 (N := M_X1_wouldCarry) (ci := 1) mf_X1_wouldCarry mi_X1_wouldCarry me_X1_wouldCarry ml_X1_146 dX1_fewest_71 (ckO_e e_9) mv_X1_wouldCarry (by exact Nat.le_of_ble_eq_true rfl) (c_X1_wouldCarry (Nat.le_trans (by decide) he) (ok_mono (ok_bind2 k) fun z_11 h_10 k => ?_))
      try dsimp only at k
      refine wp_iload_n dX1_fewest_74 rfl ?_
      refine wp_icmp_ne 82 dX1_fewest_75 (by decide) (fun c_12 => ?_) (fun c_12 => ?_)
      · replace k := ok_f c_12 k
        replace k := ok_lt k
        refine wp_iinc dX1_fewest_82 rfl ic_1 (by decide) (L1 := [_, _, _, _, _, _, _]) rfl ?_
        refine wp_goto 6 dX1_fewest_85 (by decide) ?_
        exact wp_wk (wkE <| wkE <| wkE <| wkE <| wkE <| wkE <| wkJ <| wkN) (hrec _ _ _ _ _ _ _ k)
      · replace k := ok_t c_12 k
        refine wp_iload dX1_fewest_78 rfl ?_
        refine wp_istore dX1_fewest_80 (by decide) (L1 := [_, _, _, _, _, _, _]) rfl ?_
        replace k := ok_lt k
        refine wp_iinc dX1_fewest_82 rfl ic_1 (by decide) (L1 := [_, _, _, _, _, _, _]) rfl ?_
        refine wp_goto 6 dX1_fewest_85 (by decide) ?_
        exact wp_wk (wkE <| wkE <| wkE <| wkE <| wkE <| wkE <| wkJ <| wkN) (hrec _ _ _ _ _ _ _ k)
def f_X1_fewest_l6_j33 (S : SH) (rc : Nat → Int32 → Int32 → Int32 → Int32 → Int32 → AH → Option (Int32 × AH)) (r0 : Nat) (x1 : Int32) (x2 : Int32) (x3 : Int32) (x4 : Int32) (x5 : Int32) (h : AH) : Option (Int32 × AH) :=
  f_X1_fewest_l6_j38 S rc r0 x1 x2 x3 x4 x5 (1 : Int32) h
set_option maxHeartbeats 8000000 in
set_option maxRecDepth 20000 in
theorem s_X1_fewest_l6_j33 {S : SH} {d cb sb : Nat} {Q : Option Value → AH → Prop} (hd : 2 ≤ d) {K : Int32 → AH → Prop} (hex : ∀ (x4 : Int32) (h' : AH), K x4 h' → WP S M_X1_fewest d cb sb Q 88 [JK, JK, JK, JK, .int x4, JK, JK] [] h') {rc : Nat → Int32 → Int32 → Int32 → Int32 → Int32 → AH → Option (Int32 × AH)} (hrec : ∀ (r0 : Nat) (x1 : Int32) (x2 : Int32) (x3 : Int32) (x4 : Int32) (x5 : Int32) (h' : AH), ok (rc r0 x1 x2 x3 x4 x5 h') K → WP S M_X1_fewest d cb sb Q 6 [.ref r0, .int x1, .int x2, .int x3, .int x4, .int x5, JK] [] h') {r0 : Nat} {x1 : Int32} {x2 : Int32} {x3 : Int32} {x4 : Int32} {x5 : Int32} {h : AH} (k : ok (f_X1_fewest_l6_j33 S rc r0 x1 x2 x3 x4 x5 h) K) : WP S M_X1_fewest d cb sb Q 33 [.ref r0, .int x1, .int x2, .int x3, .int x4, .int x5, JK] [] h := by
  obtain ⟨d, rfl, he⟩ := dp (L := 1) hd
  unfold f_X1_fewest_l6_j33 at k
  refine wp_iconst dX1_fewest_33 ic_1 ?_
  refine wp_goto 38 dX1_fewest_34 (by decide) ?_
  exact wp_wk (wkE <| wkE <| wkE <| wkE <| wkE <| wkE <| wkJ <| wkN) (s_X1_fewest_l6_j38 (Nat.succ_le_succ he) hex hrec k)
def f_X1_fewest_l6b (S : SH) (rc : Nat → Int32 → Int32 → Int32 → Int32 → Int32 → AH → Option (Int32 × AH)) (r0 : Nat) (x1 : Int32) (x2 : Int32) (x3 : Int32) (x4 : Int32) (x5 : Int32) (h : AH) : Option (Int32 × AH) :=
  if (128 : Int32) ≤ x5 then
    some (x4, h)
  else
    if x4 = (-1 : Int32) then
      f_X1_fewest_l6_j33 S rc r0 x1 x2 x3 x4 x5 h
    else
      (f_J6_bitCount_0f7a4 S x5 h).bind fun z => match z with
      | (z_4, h_3) =>
      (f_J6_bitCount_0f7a4 S x4 h_3).bind fun z => match z with
      | (z_6, h_5) =>
      if z_6 ≤ z_4 then
        f_X1_fewest_l6_j38 S rc r0 x1 x2 x3 x4 x5 (0 : Int32) h_5
      else
        f_X1_fewest_l6_j33 S rc r0 x1 x2 x3 x4 x5 h_5
set_option maxHeartbeats 8000000 in
set_option maxRecDepth 20000 in
theorem s_X1_fewest_l6b {S : SH} {d cb sb : Nat} {Q : Option Value → AH → Prop} (hd : 2 ≤ d) {K : Int32 → AH → Prop} (hex : ∀ (x4 : Int32) (h' : AH), K x4 h' → WP S M_X1_fewest d cb sb Q 88 [JK, JK, JK, JK, .int x4, JK, JK] [] h') {rc : Nat → Int32 → Int32 → Int32 → Int32 → Int32 → AH → Option (Int32 × AH)} (hrec : ∀ (r0 : Nat) (x1 : Int32) (x2 : Int32) (x3 : Int32) (x4 : Int32) (x5 : Int32) (h' : AH), ok (rc r0 x1 x2 x3 x4 x5 h') K → WP S M_X1_fewest d cb sb Q 6 [.ref r0, .int x1, .int x2, .int x3, .int x4, .int x5, JK] [] h') {r0 : Nat} {x1 : Int32} {x2 : Int32} {x3 : Int32} {x4 : Int32} {x5 : Int32} {h : AH} (k : ok (f_X1_fewest_l6b S rc r0 x1 x2 x3 x4 x5 h) K) : WP S M_X1_fewest d cb sb Q 6 [.ref r0, .int x1, .int x2, .int x3, .int x4, .int x5, JK] [] h := by
  obtain ⟨d, rfl, he⟩ := dp (L := 1) hd
  unfold f_X1_fewest_l6b at k
  refine wp_iload dX1_fewest_6 rfl ?_
  refine wp_sipush dX1_fewest_8 sp_128 ?_
  refine wp_icmp_ge 88 dX1_fewest_11 (by decide) (fun c_1 => ?_) (fun c_1 => ?_)
  · replace k := ok_t c_1 k
    exact wp_wk (wkJ <| wkJ <| wkJ <| wkJ <| wkE <| wkJ <| wkJ <| wkN) (hex _ _ (ok_some k))
  · replace k := ok_f c_1 k
    refine wp_iload dX1_fewest_14 rfl ?_
    refine wp_iconst dX1_fewest_16 ic_m1 ?_
    refine wp_icmp_eq 33 dX1_fewest_17 (by decide) (fun c_2 => ?_) (fun c_2 => ?_)
    · replace k := ok_t c_2 k
      exact wp_wk (wkE <| wkE <| wkE <| wkE <| wkE <| wkE <| wkJ <| wkN) (s_X1_fewest_l6_j33 (Nat.succ_le_succ he) hex hrec k)
    · replace k := ok_f c_2 k
      refine wp_iload dX1_fewest_20 rfl ?_
      refine wp_callS1 (N := M_J6_bitCount_0f7a4) mf_J6_bitCount_0f7a4 ms_J6_bitCount_0f7a4 ml_X1_138 dX1_fewest_22 (by exact Nat.le_of_ble_eq_true rfl) (c_J6_bitCount_0f7a4 (Nat.le_trans (by decide) he) (ok_mono (ok_bind2 k) fun z_4 h_3 k => ?_))
      try dsimp only at k
      refine wp_iload dX1_fewest_25 rfl ?_
      refine wp_callS1 (N := M_J6_bitCount_0f7a4) mf_J6_bitCount_0f7a4 ms_J6_bitCount_0f7a4 ml_X1_138 dX1_fewest_27 (by exact Nat.le_of_ble_eq_true rfl) (c_J6_bitCount_0f7a4 (Nat.le_trans (by decide) he) (ok_mono (ok_bind2 k) fun z_6 h_5 k => ?_))
      try dsimp only at k
      refine wp_icmp_ge 37 dX1_fewest_30 (by decide) (fun c_7 => ?_) (fun c_7 => ?_)
      · replace k := ok_t c_7 k
        refine wp_iconst dX1_fewest_37 ic_0 ?_
        exact wp_wk (wkE <| wkE <| wkE <| wkE <| wkE <| wkE <| wkJ <| wkN) (s_X1_fewest_l6_j38 (Nat.succ_le_succ he) hex hrec k)
      · replace k := ok_f c_7 k
        exact wp_wk (wkE <| wkE <| wkE <| wkE <| wkE <| wkE <| wkJ <| wkN) (s_X1_fewest_l6_j33 (Nat.succ_le_succ he) hex hrec k)
def f_X1_fewest_l6 (S : SH) : Nat → Nat → Int32 → Int32 → Int32 → Int32 → Int32 → AH → Option (Int32 × AH)
  | 0, _, _, _, _, _, _, _ => none
  | n + 1, r0, x1, x2, x3, x4, x5, h => f_X1_fewest_l6b S (f_X1_fewest_l6 S n) r0 x1 x2 x3 x4 x5 h
theorem s_X1_fewest_l6 {S : SH} {d cb sb : Nat} {Q : Option Value → AH → Prop} (hd : 2 ≤ d) {K : Int32 → AH → Prop} (hex : ∀ (x4 : Int32) (h' : AH), K x4 h' → WP S M_X1_fewest d cb sb Q 88 [JK, JK, JK, JK, .int x4, JK, JK] [] h') : ∀ (n : Nat) (r0 : Nat) (x1 : Int32) (x2 : Int32) (x3 : Int32) (x4 : Int32) (x5 : Int32) (h : AH), ok (f_X1_fewest_l6 S n r0 x1 x2 x3 x4 x5 h) K → WP S M_X1_fewest d cb sb Q 6 [.ref r0, .int x1, .int x2, .int x3, .int x4, .int x5, JK] [] h := by
  intro n
  induction n with
  | zero => intro r0 x1 x2 x3 x4 x5 h k; exact ok_none k
  | succ n ih => intro r0 x1 x2 x3 x4 x5 h k; exact s_X1_fewest_l6b hd hex (fun r0 x1 x2 x3 x4 x5 h k => ih r0 x1 x2 x3 x4 x5 h k) k
def f_X1_fewest (S : SH) (r0 : Nat) (x1 : Int32) (x2 : Int32) (x3 : Int32) (h : AH) : Option (Int32 × AH) :=
  (f_X1_fewest_l6 S FU r0 x1 x2 x3 (-1 : Int32) (0 : Int32) h).bind fun z => match z with
  | (x4_2, h_1) =>
  some (x4_2, h_1)
set_option maxHeartbeats 8000000 in
set_option maxRecDepth 20000 in
theorem s_X1_fewest {S : SH} {d cb sb : Nat} {Q : Option Value → AH → Prop} (hd : 2 ≤ d)  {r0 : Nat} {x1 : Int32} {x2 : Int32} {x3 : Int32} {h : AH} (k : ok (f_X1_fewest S r0 x1 x2 x3 h) (fun w h' => Q (some (.int w)) h')) : WP S M_X1_fewest d cb sb Q 0 [.ref r0, .int x1, .int x2, .int x3, JK, JK, JK] [] h := by
  obtain ⟨d, rfl, he⟩ := dp (L := 1) hd
  unfold f_X1_fewest at k
  refine wp_iconst dX1_fewest_0 ic_m1 ?_
  refine wp_istore dX1_fewest_1 (by decide) (L1 := [_, _, _, _, _, _, _]) rfl ?_
  refine wp_iconst dX1_fewest_3 ic_0 ?_
  refine wp_istore dX1_fewest_4 (by decide) (L1 := [_, _, _, _, _, _, _]) rfl ?_
  refine wp_wk (wkE <| wkE <| wkE <| wkE <| wkE <| wkE <| wkJ <| wkN) ?_
  refine s_X1_fewest_l6 (Nat.succ_le_succ he) (fun x4_2 h_1 k => ?_) FU _ _ _ _ _ _ _ (ok_bind2 k)
  try dsimp only at k
  refine wp_iload dX1_fewest_88 rfl ?_
  refine wp_iret rfl rfl dX1_fewest_90 ?_
  exact (ok_some k :)
theorem c_X1_fewest {S : SH} {d : Nat} {K : Option Value → AH → Prop} (hd : 2 ≤ d)  {r0 : Nat} {x1 : Int32} {x2 : Int32} {x3 : Int32} {h : AH} (k : ok (f_X1_fewest S r0 x1 x2 x3 h) (fun w h' => K (some (.int w)) h')) : CP S M_X1_fewest d 0 0 [.ref r0, .int x1, .int x2, .int x3] h K := cp_of (by decide) (fun _ _ => trivial) (fun _ => Nat.le_of_ble_eq_true rfl) (s_X1_fewest hd  k)
def f_X1_nextInChain_l3b (S : SH) (rc : Nat → Nat → Int32 → Int32 → Int32 → AH → Option ((Int32 ⊕ Unit) × AH)) (r0 : Nat) (r1 : Nat) (x2 : Int32) (x3 : Int32) (x4 : Int32) (h : AH) : Option ((Int32 ⊕ Unit) × AH) :=
  (gR S h r0 1 0).bind fun p_1 =>
  (gI S h p_1 6 1).bind fun v_3 =>
  if v_3 ≤ x4 then
    some (.inr (), h)
  else
    (gR S h r0 1 4).bind fun p_6 =>
    (aI S h p_6 x4).bind fun v_8 =>
    if v_8 = x3 then
      (ckO S h r0 1).bind fun _ =>
      (f_X1_hears S r0 r1 x4 x2 h).bind fun z => match z with
      | (z_14, h_13) =>
      if z_14 = (0 : Int32) then
        lt (x4 + (1 : Int32)) fun y_16 =>
        rc r0 r1 x2 x3 y_16 h_13
      else
        some (.inl x4, h_13)
    else
      lt (x4 + (1 : Int32)) fun y_11 =>
      rc r0 r1 x2 x3 y_11 h
set_option maxHeartbeats 8000000 in
set_option maxRecDepth 20000 in
theorem s_X1_nextInChain_l3b {S : SH} {d cb sb : Nat} {Q : Option Value → AH → Prop} (hd : 2 ≤ d) {K : (Int32 ⊕ Unit) → AH → Prop} (hret : ∀ (w : Int32) (h' : AH), K (.inl w) h' → Q (some (.int w)) h') (hex : ∀  (h' : AH), K (.inr ()) h' → WP S M_X1_nextInChain d cb sb Q 46 [JK, JK, JK, JK, JK] [] h') {rc : Nat → Nat → Int32 → Int32 → Int32 → AH → Option ((Int32 ⊕ Unit) × AH)} (hrec : ∀ (r0 : Nat) (r1 : Nat) (x2 : Int32) (x3 : Int32) (x4 : Int32) (h' : AH), ok (rc r0 r1 x2 x3 x4 h') K → WP S M_X1_nextInChain d cb sb Q 3 [.ref r0, .ref r1, .int x2, .int x3, .int x4] [] h') {r0 : Nat} {r1 : Nat} {x2 : Int32} {x3 : Int32} {x4 : Int32} {h : AH} (k : ok (f_X1_nextInChain_l3b S rc r0 r1 x2 x3 x4 h) K) : WP S M_X1_nextInChain d cb sb Q 3 [.ref r0, .ref r1, .int x2, .int x3, .int x4] [] h := by
  obtain ⟨d, rfl, he⟩ := dp (L := 1) hd
  unfold f_X1_nextInChain_l3b at k
  refine wp_iload dX1_nextInChain_3 rfl ?_
  refine wp_aload_n dX1_nextInChain_5 rfl ?_
  replace k := ok_bind k
  obtain ⟨p_1, e_2, k⟩ := k
  refine wq_getR fl_X1_18 (Or.inl ⟨_, rfl⟩) dX1_nextInChain_6 e_2 ?_
  replace k := ok_bind k
  obtain ⟨v_3, e_4, k⟩ := k
  refine wq_getI fl_X1_95 (Or.inl rfl) dX1_nextInChain_9 e_4 ?_
  refine wp_icmp_ge 46 dX1_nextInChain_12 (by decide) (fun c_5 => ?_) (fun c_5 => ?_)
  · replace k := ok_t c_5 k
    exact wp_wk (wkJ <| wkJ <| wkJ <| wkJ <| wkJ <| wkN) (hex  _ (ok_some k))
  · replace k := ok_f c_5 k
    refine wp_aload_n dX1_nextInChain_15 rfl ?_
    replace k := ok_bind k
    obtain ⟨p_6, e_7, k⟩ := k
    refine wq_getR fl_X1_9 (Or.inr ⟨_, rfl⟩) dX1_nextInChain_16 e_7 ?_
    refine wp_iload dX1_nextInChain_19 rfl ?_
    replace k := ok_bind k
    obtain ⟨v_8, e_9, k⟩ := k
    refine wq_aI dX1_nextInChain_21 e_9 ?_
    refine wp_iload_n dX1_nextInChain_22 rfl ?_
    refine wp_icmp_ne 40 dX1_nextInChain_23 (by decide) (fun c_10 => ?_) (fun c_10 => ?_)
    · replace k := ok_f c_10 k
      replace k := ok_lt k
      refine wp_iinc dX1_nextInChain_40 rfl ic_1 (by decide) (L1 := [_, _, _, _, _]) rfl ?_
      refine wp_goto 3 dX1_nextInChain_43 (by decide) ?_
      exact wp_wk (wkE <| wkE <| wkE <| wkE <| wkE <| wkN) (hrec _ _ _ _ _ _ k)
    · replace k := ok_t c_10 k
      refine wp_aload_n dX1_nextInChain_26 rfl ?_
      refine wp_aload_n dX1_nextInChain_27 rfl ?_
      refine wp_iload dX1_nextInChain_28 rfl ?_
      refine wp_iload_n dX1_nextInChain_30 rfl ?_
      replace k := ok_bind k
      obtain ⟨u, e_12, k⟩ := k
      refine wp_callV3 (N := M_X1_hears) (ci := 1) mf_X1_hears mi_X1_hears me_X1_hears ml_X1_115 dX1_nextInChain_31 (ckO_e e_12) mv_X1_hears (by exact Nat.le_of_ble_eq_true rfl) (c_X1_hears (Nat.le_trans (by decide) he) (ok_mono (ok_bind2 k) fun z_14 h_13 k => ?_))
      try dsimp only at k
      refine wp_if_eq 40 dX1_nextInChain_34 (by decide) (fun c_15 => ?_) (fun c_15 => ?_)
      · replace k := ok_t c_15 k
        replace k := ok_lt k
        refine wp_iinc dX1_nextInChain_40 rfl ic_1 (by decide) (L1 := [_, _, _, _, _]) rfl ?_
        refine wp_goto 3 dX1_nextInChain_43 (by decide) ?_
        exact wp_wk (wkE <| wkE <| wkE <| wkE <| wkE <| wkN) (hrec _ _ _ _ _ _ k)
      · replace k := ok_f c_15 k
        refine wp_iload dX1_nextInChain_37 rfl ?_
        refine wp_iret rfl rfl dX1_nextInChain_39 ?_
        exact hret _ _ (ok_some k)
def f_X1_nextInChain_l3 (S : SH) : Nat → Nat → Nat → Int32 → Int32 → Int32 → AH → Option ((Int32 ⊕ Unit) × AH)
  | 0, _, _, _, _, _, _ => none
  | n + 1, r0, r1, x2, x3, x4, h => f_X1_nextInChain_l3b S (f_X1_nextInChain_l3 S n) r0 r1 x2 x3 x4 h
theorem s_X1_nextInChain_l3 {S : SH} {d cb sb : Nat} {Q : Option Value → AH → Prop} (hd : 2 ≤ d) {K : (Int32 ⊕ Unit) → AH → Prop} (hret : ∀ (w : Int32) (h' : AH), K (.inl w) h' → Q (some (.int w)) h') (hex : ∀  (h' : AH), K (.inr ()) h' → WP S M_X1_nextInChain d cb sb Q 46 [JK, JK, JK, JK, JK] [] h') : ∀ (n : Nat) (r0 : Nat) (r1 : Nat) (x2 : Int32) (x3 : Int32) (x4 : Int32) (h : AH), ok (f_X1_nextInChain_l3 S n r0 r1 x2 x3 x4 h) K → WP S M_X1_nextInChain d cb sb Q 3 [.ref r0, .ref r1, .int x2, .int x3, .int x4] [] h := by
  intro n
  induction n with
  | zero => intro r0 r1 x2 x3 x4 h k; exact ok_none k
  | succ n ih => intro r0 r1 x2 x3 x4 h k; exact s_X1_nextInChain_l3b hd hret hex (fun r0 r1 x2 x3 x4 h k => ih r0 r1 x2 x3 x4 h k) k
def f_X1_nextInChain (S : SH) (r0 : Nat) (r1 : Nat) (x2 : Int32) (x3 : Int32) (h : AH) : Option (Int32 × AH) :=
  (f_X1_nextInChain_l3 S FU r0 r1 x2 x3 (0 : Int32) h).bind fun z => match z with
  | (.inl w, h') => some (w, h')
  | (.inr (), h_1) =>
    some ((-1 : Int32), h_1)
set_option maxHeartbeats 8000000 in
set_option maxRecDepth 20000 in
theorem s_X1_nextInChain {S : SH} {d cb sb : Nat} {Q : Option Value → AH → Prop} (hd : 2 ≤ d)  {r0 : Nat} {r1 : Nat} {x2 : Int32} {x3 : Int32} {h : AH} (k : ok (f_X1_nextInChain S r0 r1 x2 x3 h) (fun w h' => Q (some (.int w)) h')) : WP S M_X1_nextInChain d cb sb Q 0 [.ref r0, .ref r1, .int x2, .int x3, JK] [] h := by
  obtain ⟨d, rfl, he⟩ := dp (L := 1) hd
  unfold f_X1_nextInChain at k
  refine wp_iconst dX1_nextInChain_0 ic_0 ?_
  refine wp_istore dX1_nextInChain_1 (by decide) (L1 := [_, _, _, _, _]) rfl ?_
  refine wp_wk (wkE <| wkE <| wkE <| wkE <| wkE <| wkN) ?_
  refine s_X1_nextInChain_l3 (Nat.succ_le_succ he) (fun w h' k => ?_) (fun  h_1 k => ?_) FU _ _ _ _ _ _ (ok_bind2 k)
  · try dsimp only at k
    exact (ok_some k :)
  · try dsimp only at k
    refine wp_iconst dX1_nextInChain_46 ic_m1 ?_
    refine wp_iret rfl rfl dX1_nextInChain_47 ?_
    exact (ok_some k :)
theorem c_X1_nextInChain {S : SH} {d : Nat} {K : Option Value → AH → Prop} (hd : 2 ≤ d)  {r0 : Nat} {r1 : Nat} {x2 : Int32} {x3 : Int32} {h : AH} (k : ok (f_X1_nextInChain S r0 r1 x2 x3 h) (fun w h' => K (some (.int w)) h')) : CP S M_X1_nextInChain d 0 0 [.ref r0, .ref r1, .int x2, .int x3] h K := cp_of (by decide) (fun _ _ => trivial) (fun _ => Nat.le_of_ble_eq_true rfl) (s_X1_nextInChain hd  k)
def f_X1_hops_l3b (S : SH) (rc : Nat → Nat → Int32 → Int32 → Int32 → AH → Option ((Nat × Nat × Int32) × AH)) (r0 : Nat) (r1 : Nat) (x2 : Int32) (x3 : Int32) (x4 : Int32) (h : AH) : Option ((Nat × Nat × Int32) × AH) :=
  if (7 : Int32) ≤ x4 then
    some ((r0, r1, x2), h)
  else
    (gR S h r0 1 4).bind fun p_2 =>
    if x4 = x3 then
      (sI S h p_2 x4 (0 : Int32)).bind fun h_8 =>
      lt (x4 + (1 : Int32)) fun y_10 =>
      rc r0 r1 x2 x3 y_10 h_8
    else
      (sI S h p_2 x4 (-1 : Int32)).bind fun h_5 =>
      lt (x4 + (1 : Int32)) fun y_7 =>
      rc r0 r1 x2 x3 y_7 h_5
set_option maxHeartbeats 8000000 in
set_option maxRecDepth 20000 in
theorem s_X1_hops_l3b {S : SH} {d cb sb : Nat} {Q : Option Value → AH → Prop} (hd : 3 ≤ d) {K : (Nat × Nat × Int32) → AH → Prop} (hex : ∀ (r0 : Nat) (r1 : Nat) (x2 : Int32) (h' : AH), K (r0, r1, x2) h' → WP S M_X1_hops d cb sb Q 34 [.ref r0, .ref r1, .int x2, JK, JK, JK] [] h') {rc : Nat → Nat → Int32 → Int32 → Int32 → AH → Option ((Nat × Nat × Int32) × AH)} (hrec : ∀ (r0 : Nat) (r1 : Nat) (x2 : Int32) (x3 : Int32) (x4 : Int32) (h' : AH), ok (rc r0 r1 x2 x3 x4 h') K → WP S M_X1_hops d cb sb Q 3 [.ref r0, .ref r1, .int x2, .int x3, .int x4, JK] [] h') {r0 : Nat} {r1 : Nat} {x2 : Int32} {x3 : Int32} {x4 : Int32} {h : AH} (k : ok (f_X1_hops_l3b S rc r0 r1 x2 x3 x4 h) K) : WP S M_X1_hops d cb sb Q 3 [.ref r0, .ref r1, .int x2, .int x3, .int x4, JK] [] h := by
  obtain ⟨d, rfl, he⟩ := dp (L := 2) hd
  unfold f_X1_hops_l3b at k
  refine wp_iload dX1_hops_3 rfl ?_
  refine wp_bipush dX1_hops_5 bp_7 ?_
  refine wp_icmp_ge 34 dX1_hops_7 (by decide) (fun c_1 => ?_) (fun c_1 => ?_)
  · replace k := ok_t c_1 k
    exact wp_wk (wkE <| wkE <| wkE <| wkJ <| wkJ <| wkJ <| wkN) (hex _ _ _ _ (ok_some k))
  · replace k := ok_f c_1 k
    refine wp_aload_n dX1_hops_10 rfl ?_
    replace k := ok_bind k
    obtain ⟨p_2, e_3, k⟩ := k
    refine wq_getR fl_X1_9 (Or.inr ⟨_, rfl⟩) dX1_hops_11 e_3 ?_
    refine wp_iload dX1_hops_14 rfl ?_
    refine wp_iload dX1_hops_16 rfl ?_
    refine wp_iload_n dX1_hops_18 rfl ?_
    refine wp_icmp_ne 26 dX1_hops_19 (by decide) (fun c_4 => ?_) (fun c_4 => ?_)
    · replace k := ok_f c_4 k
      refine wp_iconst dX1_hops_26 ic_m1 ?_
      replace k := ok_bind k
      obtain ⟨h_5, e_6, k⟩ := k
      refine wq_sI dX1_hops_27 e_6 ?_
      replace k := ok_lt k
      refine wp_iinc dX1_hops_28 rfl ic_1 (by decide) (L1 := [_, _, _, _, _, _]) rfl ?_
      refine wp_goto 3 dX1_hops_31 (by decide) ?_
      exact wp_wk (wkE <| wkE <| wkE <| wkE <| wkE <| wkJ <| wkN) (hrec _ _ _ _ _ _ k)
    · replace k := ok_t c_4 k
      refine wp_iconst dX1_hops_22 ic_0 ?_
      refine wp_goto 27 dX1_hops_23 (by decide) ?_
      replace k := ok_bind k
      obtain ⟨h_8, e_9, k⟩ := k
      refine wq_sI dX1_hops_27 e_9 ?_
      replace k := ok_lt k
      refine wp_iinc dX1_hops_28 rfl ic_1 (by decide) (L1 := [_, _, _, _, _, _]) rfl ?_
      refine wp_goto 3 dX1_hops_31 (by decide) ?_
      exact wp_wk (wkE <| wkE <| wkE <| wkE <| wkE <| wkJ <| wkN) (hrec _ _ _ _ _ _ k)
def f_X1_hops_l3 (S : SH) : Nat → Nat → Nat → Int32 → Int32 → Int32 → AH → Option ((Nat × Nat × Int32) × AH)
  | 0, _, _, _, _, _, _ => none
  | n + 1, r0, r1, x2, x3, x4, h => f_X1_hops_l3b S (f_X1_hops_l3 S n) r0 r1 x2 x3 x4 h
theorem s_X1_hops_l3 {S : SH} {d cb sb : Nat} {Q : Option Value → AH → Prop} (hd : 3 ≤ d) {K : (Nat × Nat × Int32) → AH → Prop} (hex : ∀ (r0 : Nat) (r1 : Nat) (x2 : Int32) (h' : AH), K (r0, r1, x2) h' → WP S M_X1_hops d cb sb Q 34 [.ref r0, .ref r1, .int x2, JK, JK, JK] [] h') : ∀ (n : Nat) (r0 : Nat) (r1 : Nat) (x2 : Int32) (x3 : Int32) (x4 : Int32) (h : AH), ok (f_X1_hops_l3 S n r0 r1 x2 x3 x4 h) K → WP S M_X1_hops d cb sb Q 3 [.ref r0, .ref r1, .int x2, .int x3, .int x4, JK] [] h := by
  intro n
  induction n with
  | zero => intro r0 r1 x2 x3 x4 h k; exact ok_none k
  | succ n ih => intro r0 r1 x2 x3 x4 h k; exact s_X1_hops_l3b hd hex (fun r0 r1 x2 x3 x4 h k => ih r0 r1 x2 x3 x4 h k) k
def f_X1_hops_l47b (S : SH) (rc : Nat → Nat → Int32 → Int32 → Int32 → AH → Option ((Nat × Nat × Int32 × Int32) × AH)) (r0 : Nat) (r1 : Nat) (x2 : Int32) (x4 : Int32) (x5 : Int32) (h : AH) : Option ((Nat × Nat × Int32 × Int32) × AH) :=
  (gR S h r0 1 0).bind fun p_1 =>
  (gI S h p_1 6 1).bind fun v_3 =>
  if v_3 ≤ x5 then
    some ((r0, r1, x2, x4), h)
  else
    (gR S h r0 1 4).bind fun p_6 =>
    (aI S h p_6 x5).bind fun v_8 =>
    if v_8 = (-1 : Int32) then
      (ckO S h r0 1).bind fun _ =>
      (f_X1_nextInChain S r0 r1 x5 ((x4 - (1 : Int32))) h).bind fun z => match z with
      | (z_14, h_13) =>
      if z_14 = (-1 : Int32) then
        lt (x5 + (1 : Int32)) fun y_16 =>
        rc r0 r1 x2 x4 y_16 h_13
      else
        (gR S h_13 r0 1 4).bind fun p_17 =>
        (sI S h_13 p_17 x5 x4).bind fun h_19 =>
        lt (x5 + (1 : Int32)) fun y_21 =>
        rc r0 r1 x2 x4 y_21 h_19
    else
      lt (x5 + (1 : Int32)) fun y_11 =>
      rc r0 r1 x2 x4 y_11 h
set_option maxHeartbeats 8000000 in
set_option maxRecDepth 20000 in
theorem s_X1_hops_l47b {S : SH} {d cb sb : Nat} {Q : Option Value → AH → Prop} (hd : 3 ≤ d) {K : (Nat × Nat × Int32 × Int32) → AH → Prop} (hex : ∀ (r0 : Nat) (r1 : Nat) (x2 : Int32) (x4 : Int32) (h' : AH), K (r0, r1, x2, x4) h' → WP S M_X1_hops d cb sb Q 100 [.ref r0, .ref r1, .int x2, JK, .int x4, JK] [] h') {rc : Nat → Nat → Int32 → Int32 → Int32 → AH → Option ((Nat × Nat × Int32 × Int32) × AH)} (hrec : ∀ (r0 : Nat) (r1 : Nat) (x2 : Int32) (x4 : Int32) (x5 : Int32) (h' : AH), ok (rc r0 r1 x2 x4 x5 h') K → WP S M_X1_hops d cb sb Q 47 [.ref r0, .ref r1, .int x2, JK, .int x4, .int x5] [] h') {r0 : Nat} {r1 : Nat} {x2 : Int32} {x4 : Int32} {x5 : Int32} {h : AH} (k : ok (f_X1_hops_l47b S rc r0 r1 x2 x4 x5 h) K) : WP S M_X1_hops d cb sb Q 47 [.ref r0, .ref r1, .int x2, JK, .int x4, .int x5] [] h := by
  obtain ⟨d, rfl, he⟩ := dp (L := 2) hd
  unfold f_X1_hops_l47b at k
  refine wp_iload dX1_hops_47 rfl ?_
  refine wp_aload_n dX1_hops_49 rfl ?_
  replace k := ok_bind k
  obtain ⟨p_1, e_2, k⟩ := k
  refine wq_getR fl_X1_18 (Or.inl ⟨_, rfl⟩) dX1_hops_50 e_2 ?_
  replace k := ok_bind k
  obtain ⟨v_3, e_4, k⟩ := k
  refine wq_getI fl_X1_95 (Or.inl rfl) dX1_hops_53 e_4 ?_
  refine wp_icmp_ge 100 dX1_hops_56 (by decide) (fun c_5 => ?_) (fun c_5 => ?_)
  · replace k := ok_t c_5 k
    exact wp_wk (wkE <| wkE <| wkE <| wkJ <| wkE <| wkJ <| wkN) (hex _ _ _ _ _ (ok_some k))
  · replace k := ok_f c_5 k
    refine wp_aload_n dX1_hops_59 rfl ?_
    replace k := ok_bind k
    obtain ⟨p_6, e_7, k⟩ := k
    refine wq_getR fl_X1_9 (Or.inr ⟨_, rfl⟩) dX1_hops_60 e_7 ?_
    refine wp_iload dX1_hops_63 rfl ?_
    replace k := ok_bind k
    obtain ⟨v_8, e_9, k⟩ := k
    refine wq_aI dX1_hops_65 e_9 ?_
    refine wp_iconst dX1_hops_66 ic_m1 ?_
    refine wp_icmp_ne 94 dX1_hops_67 (by decide) (fun c_10 => ?_) (fun c_10 => ?_)
    · replace k := ok_f c_10 k
      replace k := ok_lt k
      refine wp_iinc dX1_hops_94 rfl ic_1 (by decide) (L1 := [_, _, _, _, _, _]) rfl ?_
      refine wp_goto 47 dX1_hops_97 (by decide) ?_
      exact wp_wk (wkE <| wkE <| wkE <| wkJ <| wkE <| wkE <| wkN) (hrec _ _ _ _ _ _ k)
    · replace k := ok_t c_10 k
      refine wp_aload_n dX1_hops_70 rfl ?_
      refine wp_aload_n dX1_hops_71 rfl ?_
      refine wp_iload dX1_hops_72 rfl ?_
      refine wp_iload dX1_hops_74 rfl ?_
      refine wp_iconst dX1_hops_76 ic_1 ?_
      refine wp_isub dX1_hops_77 ?_
      replace k := ok_bind k
      obtain ⟨u, e_12, k⟩ := k
      refine wp_callV3 (N := M_X1_nextInChain) (ci := 1) mf_X1_nextInChain mi_X1_nextInChain me_X1_nextInChain ml_X1_150 dX1_hops_78 (ckO_e e_12) mv_X1_nextInChain (by exact Nat.le_of_ble_eq_true rfl) (c_X1_nextInChain (Nat.le_trans (by decide) he) (ok_mono (ok_bind2 k) fun z_14 h_13 k => ?_))
      try dsimp only at k
      refine wp_iconst dX1_hops_81 ic_m1 ?_
      refine wp_icmp_eq 94 dX1_hops_82 (by decide) (fun c_15 => ?_) (fun c_15 => ?_)
      · replace k := ok_t c_15 k
        replace k := ok_lt k
        refine wp_iinc dX1_hops_94 rfl ic_1 (by decide) (L1 := [_, _, _, _, _, _]) rfl ?_
        refine wp_goto 47 dX1_hops_97 (by decide) ?_
        exact wp_wk (wkE <| wkE <| wkE <| wkJ <| wkE <| wkE <| wkN) (hrec _ _ _ _ _ _ k)
      · replace k := ok_f c_15 k
        refine wp_aload_n dX1_hops_85 rfl ?_
        replace k := ok_bind k
        obtain ⟨p_17, e_18, k⟩ := k
        refine wq_getR fl_X1_9 (Or.inr ⟨_, rfl⟩) dX1_hops_86 e_18 ?_
        refine wp_iload dX1_hops_89 rfl ?_
        refine wp_iload dX1_hops_91 rfl ?_
        replace k := ok_bind k
        obtain ⟨h_19, e_20, k⟩ := k
        refine wq_sI dX1_hops_93 e_20 ?_
        replace k := ok_lt k
        refine wp_iinc dX1_hops_94 rfl ic_1 (by decide) (L1 := [_, _, _, _, _, _]) rfl ?_
        refine wp_goto 47 dX1_hops_97 (by decide) ?_
        exact wp_wk (wkE <| wkE <| wkE <| wkJ <| wkE <| wkE <| wkN) (hrec _ _ _ _ _ _ k)
def f_X1_hops_l47 (S : SH) : Nat → Nat → Nat → Int32 → Int32 → Int32 → AH → Option ((Nat × Nat × Int32 × Int32) × AH)
  | 0, _, _, _, _, _, _ => none
  | n + 1, r0, r1, x2, x4, x5, h => f_X1_hops_l47b S (f_X1_hops_l47 S n) r0 r1 x2 x4 x5 h
theorem s_X1_hops_l47 {S : SH} {d cb sb : Nat} {Q : Option Value → AH → Prop} (hd : 3 ≤ d) {K : (Nat × Nat × Int32 × Int32) → AH → Prop} (hex : ∀ (r0 : Nat) (r1 : Nat) (x2 : Int32) (x4 : Int32) (h' : AH), K (r0, r1, x2, x4) h' → WP S M_X1_hops d cb sb Q 100 [.ref r0, .ref r1, .int x2, JK, .int x4, JK] [] h') : ∀ (n : Nat) (r0 : Nat) (r1 : Nat) (x2 : Int32) (x4 : Int32) (x5 : Int32) (h : AH), ok (f_X1_hops_l47 S n r0 r1 x2 x4 x5 h) K → WP S M_X1_hops d cb sb Q 47 [.ref r0, .ref r1, .int x2, JK, .int x4, .int x5] [] h := by
  intro n
  induction n with
  | zero => intro r0 r1 x2 x4 x5 h k; exact ok_none k
  | succ n ih => intro r0 r1 x2 x4 x5 h k; exact s_X1_hops_l47b hd hex (fun r0 r1 x2 x4 x5 h k => ih r0 r1 x2 x4 x5 h k) k
def f_X1_hops_l37b (S : SH) (rc : Nat → Nat → Int32 → Int32 → AH → Option ((Nat × Int32) × AH)) (r0 : Nat) (r1 : Nat) (x2 : Int32) (x4 : Int32) (h : AH) : Option ((Nat × Int32) × AH) :=
  if (7 : Int32) ≤ x4 then
    some ((r0, x2), h)
  else
    (f_X1_hops_l47 S FU r0 r1 x2 x4 (0 : Int32) h).bind fun z => match z with
    | ((r0_3, r1_4, x2_5, x4_6), h_2) =>
    lt (x4_6 + (1 : Int32)) fun y_7 =>
    rc r0_3 r1_4 x2_5 y_7 h_2
set_option maxHeartbeats 8000000 in
set_option maxRecDepth 20000 in
theorem s_X1_hops_l37b {S : SH} {d cb sb : Nat} {Q : Option Value → AH → Prop} (hd : 3 ≤ d) {K : (Nat × Int32) → AH → Prop} (hex : ∀ (r0 : Nat) (x2 : Int32) (h' : AH), K (r0, x2) h' → WP S M_X1_hops d cb sb Q 106 [.ref r0, JK, .int x2, JK, JK, JK] [] h') {rc : Nat → Nat → Int32 → Int32 → AH → Option ((Nat × Int32) × AH)} (hrec : ∀ (r0 : Nat) (r1 : Nat) (x2 : Int32) (x4 : Int32) (h' : AH), ok (rc r0 r1 x2 x4 h') K → WP S M_X1_hops d cb sb Q 37 [.ref r0, .ref r1, .int x2, JK, .int x4, JK] [] h') {r0 : Nat} {r1 : Nat} {x2 : Int32} {x4 : Int32} {h : AH} (k : ok (f_X1_hops_l37b S rc r0 r1 x2 x4 h) K) : WP S M_X1_hops d cb sb Q 37 [.ref r0, .ref r1, .int x2, JK, .int x4, JK] [] h := by
  obtain ⟨d, rfl, he⟩ := dp (L := 2) hd
  unfold f_X1_hops_l37b at k
  refine wp_iload dX1_hops_37 rfl ?_
  refine wp_bipush dX1_hops_39 bp_7 ?_
  refine wp_icmp_ge 106 dX1_hops_41 (by decide) (fun c_1 => ?_) (fun c_1 => ?_)
  · replace k := ok_t c_1 k
    exact wp_wk (wkE <| wkJ <| wkE <| wkJ <| wkJ <| wkJ <| wkN) (hex _ _ _ (ok_some k))
  · replace k := ok_f c_1 k
    refine wp_iconst dX1_hops_44 ic_0 ?_
    refine wp_istore dX1_hops_45 (by decide) (L1 := [_, _, _, _, _, _]) rfl ?_
    refine wp_wk (wkE <| wkE <| wkE <| wkJ <| wkE <| wkE <| wkN) ?_
    refine s_X1_hops_l47 (Nat.succ_le_succ he) (fun r0_3 r1_4 x2_5 x4_6 h_2 k => ?_) FU _ _ _ _ _ _ (ok_bind2 k)
    try dsimp only at k
    replace k := ok_lt k
    refine wp_iinc dX1_hops_100 rfl ic_1 (by decide) (L1 := [_, _, _, _, _, _]) rfl ?_
    refine wp_goto 37 dX1_hops_103 (by decide) ?_
    exact wp_wk (wkE <| wkE <| wkE <| wkJ <| wkE <| wkJ <| wkN) (hrec _ _ _ _ _ k)
def f_X1_hops_l37 (S : SH) : Nat → Nat → Nat → Int32 → Int32 → AH → Option ((Nat × Int32) × AH)
  | 0, _, _, _, _, _ => none
  | n + 1, r0, r1, x2, x4, h => f_X1_hops_l37b S (f_X1_hops_l37 S n) r0 r1 x2 x4 h
theorem s_X1_hops_l37 {S : SH} {d cb sb : Nat} {Q : Option Value → AH → Prop} (hd : 3 ≤ d) {K : (Nat × Int32) → AH → Prop} (hex : ∀ (r0 : Nat) (x2 : Int32) (h' : AH), K (r0, x2) h' → WP S M_X1_hops d cb sb Q 106 [.ref r0, JK, .int x2, JK, JK, JK] [] h') : ∀ (n : Nat) (r0 : Nat) (r1 : Nat) (x2 : Int32) (x4 : Int32) (h : AH), ok (f_X1_hops_l37 S n r0 r1 x2 x4 h) K → WP S M_X1_hops d cb sb Q 37 [.ref r0, .ref r1, .int x2, JK, .int x4, JK] [] h := by
  intro n
  induction n with
  | zero => intro r0 r1 x2 x4 h k; exact ok_none k
  | succ n ih => intro r0 r1 x2 x4 h k; exact s_X1_hops_l37b hd hex (fun r0 r1 x2 x4 h k => ih r0 r1 x2 x4 h k) k
def f_X1_hops (S : SH) (r0 : Nat) (r1 : Nat) (x2 : Int32) (x3 : Int32) (h : AH) : Option (Int32 × AH) :=
  (f_X1_hops_l3 S FU r0 r1 x2 x3 (0 : Int32) h).bind fun z => match z with
  | ((r0_2, r1_3, x2_4), h_1) =>
  (f_X1_hops_l37 S FU r0_2 r1_3 x2_4 (1 : Int32) h_1).bind fun z => match z with
  | ((r0_6, x2_7), h_5) =>
  (gR S h_5 r0_6 1 4).bind fun p_8 =>
  (aI S h_5 p_8 x2_7).bind fun v_10 =>
  some (v_10, h_5)
set_option maxHeartbeats 8000000 in
set_option maxRecDepth 20000 in
theorem s_X1_hops {S : SH} {d cb sb : Nat} {Q : Option Value → AH → Prop} (hd : 3 ≤ d)  {r0 : Nat} {r1 : Nat} {x2 : Int32} {x3 : Int32} {h : AH} (k : ok (f_X1_hops S r0 r1 x2 x3 h) (fun w h' => Q (some (.int w)) h')) : WP S M_X1_hops d cb sb Q 0 [.ref r0, .ref r1, .int x2, .int x3, JK, JK] [] h := by
  obtain ⟨d, rfl, he⟩ := dp (L := 2) hd
  unfold f_X1_hops at k
  refine wp_iconst dX1_hops_0 ic_0 ?_
  refine wp_istore dX1_hops_1 (by decide) (L1 := [_, _, _, _, _, _]) rfl ?_
  refine wp_wk (wkE <| wkE <| wkE <| wkE <| wkE <| wkJ <| wkN) ?_
  refine s_X1_hops_l3 (Nat.succ_le_succ he) (fun r0_2 r1_3 x2_4 h_1 k => ?_) FU _ _ _ _ _ _ (ok_bind2 k)
  try dsimp only at k
  refine wp_iconst dX1_hops_34 ic_1 ?_
  refine wp_istore dX1_hops_35 (by decide) (L1 := [_, _, _, _, _, _]) rfl ?_
  refine wp_wk (wkE <| wkE <| wkE <| wkJ <| wkE <| wkJ <| wkN) ?_
  refine s_X1_hops_l37 (Nat.succ_le_succ he) (fun r0_6 x2_7 h_5 k => ?_) FU _ _ _ _ _ (ok_bind2 k)
  try dsimp only at k
  refine wp_aload_n dX1_hops_106 rfl ?_
  replace k := ok_bind k
  obtain ⟨p_8, e_9, k⟩ := k
  refine wq_getR fl_X1_9 (Or.inr ⟨_, rfl⟩) dX1_hops_107 e_9 ?_
  refine wp_iload_n dX1_hops_110 rfl ?_
  replace k := ok_bind k
  obtain ⟨v_10, e_11, k⟩ := k
  refine wq_aI dX1_hops_111 e_11 ?_
  refine wp_iret rfl rfl dX1_hops_112 ?_
  exact (ok_some k :)
theorem c_X1_hops {S : SH} {d : Nat} {K : Option Value → AH → Prop} (hd : 3 ≤ d)  {r0 : Nat} {r1 : Nat} {x2 : Int32} {x3 : Int32} {h : AH} (k : ok (f_X1_hops S r0 r1 x2 x3 h) (fun w h' => K (some (.int w)) h')) : CP S M_X1_hops d 0 0 [.ref r0, .ref r1, .int x2, .int x3] h K := cp_of (by decide) (fun _ _ => trivial) (fun _ => Nat.le_of_ble_eq_true rfl) (s_X1_hops hd  k)
def f_X1_chainBird_l6b (S : SH) (rc : Nat → Nat → Int32 → Int32 → Int32 → AH → Option (Int32 × AH)) (r0 : Nat) (r1 : Nat) (x3 : Int32) (x4 : Int32) (x5 : Int32) (h : AH) : Option (Int32 × AH) :=
  if x3 < x5 then
    some (x4, h)
  else
    if (7 : Int32) ≤ x5 then
      some (x4, h)
    else
      (gR S h r0 1 0).bind fun p_3 =>
      (ckO S h p_3 6).bind fun _ =>
      (f_X6_hasBird S p_3 x4 h).bind fun z => match z with
      | (z_7, h_6) =>
      if z_7 = (0 : Int32) then
        some (x4, h_6)
      else
        (gR S h_6 r0 1 4).bind fun p_9 =>
        (aI S h_6 p_9 x4).bind fun v_11 =>
        (ckO S h_6 r0 1).bind fun _ =>
        (f_X1_nextInChain S r0 r1 x4 ((v_11 - (1 : Int32))) h_6).bind fun z => match z with
        | (z_15, h_14) =>
        lt (x5 + (1 : Int32)) fun y_16 =>
        rc r0 r1 x3 z_15 y_16 h_14
set_option maxHeartbeats 8000000 in
set_option maxRecDepth 20000 in
theorem s_X1_chainBird_l6b {S : SH} {d cb sb : Nat} {Q : Option Value → AH → Prop} (hd : 3 ≤ d) {K : Int32 → AH → Prop} (hex : ∀ (x4 : Int32) (h' : AH), K x4 h' → WP S M_X1_chainBird d cb sb Q 55 [JK, JK, JK, JK, .int x4, JK] [] h') {rc : Nat → Nat → Int32 → Int32 → Int32 → AH → Option (Int32 × AH)} (hrec : ∀ (r0 : Nat) (r1 : Nat) (x3 : Int32) (x4 : Int32) (x5 : Int32) (h' : AH), ok (rc r0 r1 x3 x4 x5 h') K → WP S M_X1_chainBird d cb sb Q 6 [.ref r0, .ref r1, JK, .int x3, .int x4, .int x5] [] h') {r0 : Nat} {r1 : Nat} {x3 : Int32} {x4 : Int32} {x5 : Int32} {h : AH} (k : ok (f_X1_chainBird_l6b S rc r0 r1 x3 x4 x5 h) K) : WP S M_X1_chainBird d cb sb Q 6 [.ref r0, .ref r1, JK, .int x3, .int x4, .int x5] [] h := by
  obtain ⟨d, rfl, he⟩ := dp (L := 2) hd
  unfold f_X1_chainBird_l6b at k
  refine wp_iload dX1_chainBird_6 rfl ?_
  refine wp_iload_n dX1_chainBird_8 rfl ?_
  refine wp_icmp_gt 55 dX1_chainBird_9 (by decide) (fun c_1 => ?_) (fun c_1 => ?_)
  · replace k := ok_t c_1 k
    exact wp_wk (wkJ <| wkJ <| wkJ <| wkJ <| wkE <| wkJ <| wkN) (hex _ _ (ok_some k))
  · replace k := ok_f c_1 k
    refine wp_iload dX1_chainBird_12 rfl ?_
    refine wp_bipush dX1_chainBird_14 bp_7 ?_
    refine wp_icmp_ge 55 dX1_chainBird_16 (by decide) (fun c_2 => ?_) (fun c_2 => ?_)
    · replace k := ok_t c_2 k
      exact wp_wk (wkJ <| wkJ <| wkJ <| wkJ <| wkE <| wkJ <| wkN) (hex _ _ (ok_some k))
    · replace k := ok_f c_2 k
      refine wp_aload_n dX1_chainBird_19 rfl ?_
      replace k := ok_bind k
      obtain ⟨p_3, e_4, k⟩ := k
      refine wq_getR fl_X1_18 (Or.inl ⟨_, rfl⟩) dX1_chainBird_20 e_4 ?_
      refine wp_iload dX1_chainBird_23 rfl ?_
      replace k := ok_bind k
      obtain ⟨u, e_5, k⟩ := k
      refine wp_callV1 (N := M_X6_hasBird) (ci := 6) mf_X6_hasBird mi_X6_hasBird me_X6_hasBird ml_X1_123 dX1_chainBird_25 (ckO_e e_5) mv_X6_hasBird (by exact Nat.le_of_ble_eq_true rfl) (c_X6_hasBird (Nat.le_trans (by decide) he) (ok_mono (ok_bind2 k) fun z_7 h_6 k => ?_))
      try dsimp only at k
      refine wp_if_eq 55 dX1_chainBird_28 (by decide) (fun c_8 => ?_) (fun c_8 => ?_)
      · replace k := ok_t c_8 k
        exact wp_wk (wkJ <| wkJ <| wkJ <| wkJ <| wkE <| wkJ <| wkN) (hex _ _ (ok_some k))
      · replace k := ok_f c_8 k
        refine wp_aload_n dX1_chainBird_31 rfl ?_
        refine wp_aload_n dX1_chainBird_32 rfl ?_
        refine wp_iload dX1_chainBird_33 rfl ?_
        refine wp_aload_n dX1_chainBird_35 rfl ?_
        replace k := ok_bind k
        obtain ⟨p_9, e_10, k⟩ := k
        refine wq_getR fl_X1_9 (Or.inr ⟨_, rfl⟩) dX1_chainBird_36 e_10 ?_
        refine wp_iload dX1_chainBird_39 rfl ?_
        replace k := ok_bind k
        obtain ⟨v_11, e_12, k⟩ := k
        refine wq_aI dX1_chainBird_41 e_12 ?_
        refine wp_iconst dX1_chainBird_42 ic_1 ?_
        refine wp_isub dX1_chainBird_43 ?_
        replace k := ok_bind k
        obtain ⟨u, e_13, k⟩ := k
        refine wp_callV3 (N := M_X1_nextInChain) (ci := 1) mf_X1_nextInChain mi_X1_nextInChain me_X1_nextInChain ml_X1_150 dX1_chainBird_44 (ckO_e e_13) mv_X1_nextInChain (by exact Nat.le_of_ble_eq_true rfl) (c_X1_nextInChain (Nat.le_trans (by decide) he) (ok_mono (ok_bind2 k) fun z_15 h_14 k => ?_))
        try dsimp only at k
        refine wp_istore dX1_chainBird_47 (by decide) (L1 := [_, _, _, _, _, _]) rfl ?_
        replace k := ok_lt k
        refine wp_iinc dX1_chainBird_49 rfl ic_1 (by decide) (L1 := [_, _, _, _, _, _]) rfl ?_
        refine wp_goto 6 dX1_chainBird_52 (by decide) ?_
        exact wp_wk (wkE <| wkE <| wkJ <| wkE <| wkE <| wkE <| wkN) (hrec _ _ _ _ _ _ k)
def f_X1_chainBird_l6 (S : SH) : Nat → Nat → Nat → Int32 → Int32 → Int32 → AH → Option (Int32 × AH)
  | 0, _, _, _, _, _, _ => none
  | n + 1, r0, r1, x3, x4, x5, h => f_X1_chainBird_l6b S (f_X1_chainBird_l6 S n) r0 r1 x3 x4 x5 h
theorem s_X1_chainBird_l6 {S : SH} {d cb sb : Nat} {Q : Option Value → AH → Prop} (hd : 3 ≤ d) {K : Int32 → AH → Prop} (hex : ∀ (x4 : Int32) (h' : AH), K x4 h' → WP S M_X1_chainBird d cb sb Q 55 [JK, JK, JK, JK, .int x4, JK] [] h') : ∀ (n : Nat) (r0 : Nat) (r1 : Nat) (x3 : Int32) (x4 : Int32) (x5 : Int32) (h : AH), ok (f_X1_chainBird_l6 S n r0 r1 x3 x4 x5 h) K → WP S M_X1_chainBird d cb sb Q 6 [.ref r0, .ref r1, JK, .int x3, .int x4, .int x5] [] h := by
  intro n
  induction n with
  | zero => intro r0 r1 x3 x4 x5 h k; exact ok_none k
  | succ n ih => intro r0 r1 x3 x4 x5 h k; exact s_X1_chainBird_l6b hd hex (fun r0 r1 x3 x4 x5 h k => ih r0 r1 x3 x4 x5 h k) k
def f_X1_chainBird (S : SH) (r0 : Nat) (r1 : Nat) (x2 : Int32) (x3 : Int32) (h : AH) : Option (Int32 × AH) :=
  (f_X1_chainBird_l6 S FU r0 r1 x3 x2 (0 : Int32) h).bind fun z => match z with
  | (x4_2, h_1) =>
  some (x4_2, h_1)
set_option maxHeartbeats 8000000 in
set_option maxRecDepth 20000 in
theorem s_X1_chainBird {S : SH} {d cb sb : Nat} {Q : Option Value → AH → Prop} (hd : 3 ≤ d)  {r0 : Nat} {r1 : Nat} {x2 : Int32} {x3 : Int32} {h : AH} (k : ok (f_X1_chainBird S r0 r1 x2 x3 h) (fun w h' => Q (some (.int w)) h')) : WP S M_X1_chainBird d cb sb Q 0 [.ref r0, .ref r1, .int x2, .int x3, JK, JK] [] h := by
  obtain ⟨d, rfl, he⟩ := dp (L := 2) hd
  unfold f_X1_chainBird at k
  refine wp_iload_n dX1_chainBird_0 rfl ?_
  refine wp_istore dX1_chainBird_1 (by decide) (L1 := [_, _, _, _, _, _]) rfl ?_
  refine wp_iconst dX1_chainBird_3 ic_0 ?_
  refine wp_istore dX1_chainBird_4 (by decide) (L1 := [_, _, _, _, _, _]) rfl ?_
  refine wp_wk (wkE <| wkE <| wkJ <| wkE <| wkE <| wkE <| wkN) ?_
  refine s_X1_chainBird_l6 (Nat.succ_le_succ he) (fun x4_2 h_1 k => ?_) FU _ _ _ _ _ _ (ok_bind2 k)
  try dsimp only at k
  refine wp_iload dX1_chainBird_55 rfl ?_
  refine wp_iret rfl rfl dX1_chainBird_57 ?_
  exact (ok_some k :)
theorem c_X1_chainBird {S : SH} {d : Nat} {K : Option Value → AH → Prop} (hd : 3 ≤ d)  {r0 : Nat} {r1 : Nat} {x2 : Int32} {x3 : Int32} {h : AH} (k : ok (f_X1_chainBird S r0 r1 x2 x3 h) (fun w h' => K (some (.int w)) h')) : CP S M_X1_chainBird d 0 0 [.ref r0, .ref r1, .int x2, .int x3] h K := cp_of (by decide) (fun _ _ => trivial) (fun _ => Nat.le_of_ble_eq_true rfl) (s_X1_chainBird hd  k)
def f_X1_hearAll_l2_j25 (S : SH) (rc : Nat → Int32 → Int32 → Int32 → AH → Option ((Int32 ⊕ Unit) × AH)) (r0 : Nat) (x1 : Int32) (x2 : Int32) (x3 : Int32) (sx0 : Int32) (h : AH) : Option ((Int32 ⊕ Unit) × AH) :=
  if sx0 = (0 : Int32) then
    lt (x3 + (1 : Int32)) fun y_2 =>
    rc r0 x1 x2 y_2 h
  else
    (gR S h r0 1 5).bind fun p_3 =>
    (aI S h p_3 x3).bind fun v_5 =>
    if (v_5 &&& x1) = (0 : Int32) then
      some (.inl (0 : Int32), h)
    else
      lt (x3 + (1 : Int32)) fun y_8 =>
      rc r0 x1 x2 y_8 h
set_option maxHeartbeats 8000000 in
set_option maxRecDepth 20000 in
theorem s_X1_hearAll_l2_j25 {S : SH} {d cb sb : Nat} {Q : Option Value → AH → Prop} (hd : 0 ≤ d) {K : (Int32 ⊕ Unit) → AH → Prop} (hret : ∀ (w : Int32) (h' : AH), K (.inl w) h' → Q (some (.int w)) h') (hex : ∀  (h' : AH), K (.inr ()) h' → WP S M_X1_hearAll d cb sb Q 51 [JK, JK, JK, JK, JK] [] h') {rc : Nat → Int32 → Int32 → Int32 → AH → Option ((Int32 ⊕ Unit) × AH)} (hrec : ∀ (r0 : Nat) (x1 : Int32) (x2 : Int32) (x3 : Int32) (h' : AH), ok (rc r0 x1 x2 x3 h') K → WP S M_X1_hearAll d cb sb Q 2 [.ref r0, .int x1, .int x2, .int x3, JK] [] h') {r0 : Nat} {x1 : Int32} {x2 : Int32} {x3 : Int32} {sx0 : Int32} {h : AH} (k : ok (f_X1_hearAll_l2_j25 S rc r0 x1 x2 x3 sx0 h) K) : WP S M_X1_hearAll d cb sb Q 25 [.ref r0, .int x1, .int x2, .int x3, JK] [.int sx0] h := by
  unfold f_X1_hearAll_l2_j25 at k
  refine wp_istore dX1_hearAll_25 (by decide) (L1 := [_, _, _, _, _]) rfl ?_
  refine wp_iload dX1_hearAll_27 rfl ?_
  refine wp_if_eq 45 dX1_hearAll_29 (by decide) (fun c_1 => ?_) (fun c_1 => ?_)
  · replace k := ok_t c_1 k
    replace k := ok_lt k
    refine wp_iinc dX1_hearAll_45 rfl ic_1 (by decide) (L1 := [_, _, _, _, _]) rfl ?_
    refine wp_goto 2 dX1_hearAll_48 (by decide) ?_
    exact wp_wk (wkE <| wkE <| wkE <| wkE <| wkJ <| wkN) (hrec _ _ _ _ _ k)
  · replace k := ok_f c_1 k
    refine wp_aload_n dX1_hearAll_32 rfl ?_
    replace k := ok_bind k
    obtain ⟨p_3, e_4, k⟩ := k
    refine wq_getR fl_X1_15 (Or.inr ⟨_, rfl⟩) dX1_hearAll_33 e_4 ?_
    refine wp_iload_n dX1_hearAll_36 rfl ?_
    replace k := ok_bind k
    obtain ⟨v_5, e_6, k⟩ := k
    refine wq_aI dX1_hearAll_37 e_6 ?_
    refine wp_iload_n dX1_hearAll_38 rfl ?_
    refine wp_iand dX1_hearAll_39 ?_
    refine wp_if_ne 45 dX1_hearAll_40 (by decide) (fun c_7 => ?_) (fun c_7 => ?_)
    · replace k := ok_f c_7 k
      replace k := ok_lt k
      refine wp_iinc dX1_hearAll_45 rfl ic_1 (by decide) (L1 := [_, _, _, _, _]) rfl ?_
      refine wp_goto 2 dX1_hearAll_48 (by decide) ?_
      exact wp_wk (wkE <| wkE <| wkE <| wkE <| wkJ <| wkN) (hrec _ _ _ _ _ k)
    · replace k := ok_t c_7 k
      refine wp_iconst dX1_hearAll_43 ic_0 ?_
      refine wp_iret rfl rfl dX1_hearAll_44 ?_
      exact hret _ _ (ok_some k)
def f_X1_hearAll_l2b (S : SH) (rc : Nat → Int32 → Int32 → Int32 → AH → Option ((Int32 ⊕ Unit) × AH)) (r0 : Nat) (x1 : Int32) (x2 : Int32) (x3 : Int32) (h : AH) : Option ((Int32 ⊕ Unit) × AH) :=
  if (7 : Int32) ≤ x3 then
    some (.inr (), h)
  else
    if ((x2 &&& (x1 ^^^ (-1 : Int32))) &&& ((1 : Int32) <<< (x3 &&& (31 : Int32)))) = (0 : Int32) then
      f_X1_hearAll_l2_j25 S rc r0 x1 x2 x3 (0 : Int32) h
    else
      f_X1_hearAll_l2_j25 S rc r0 x1 x2 x3 (1 : Int32) h
set_option maxHeartbeats 8000000 in
set_option maxRecDepth 20000 in
theorem s_X1_hearAll_l2b {S : SH} {d cb sb : Nat} {Q : Option Value → AH → Prop} (hd : 0 ≤ d) {K : (Int32 ⊕ Unit) → AH → Prop} (hret : ∀ (w : Int32) (h' : AH), K (.inl w) h' → Q (some (.int w)) h') (hex : ∀  (h' : AH), K (.inr ()) h' → WP S M_X1_hearAll d cb sb Q 51 [JK, JK, JK, JK, JK] [] h') {rc : Nat → Int32 → Int32 → Int32 → AH → Option ((Int32 ⊕ Unit) × AH)} (hrec : ∀ (r0 : Nat) (x1 : Int32) (x2 : Int32) (x3 : Int32) (h' : AH), ok (rc r0 x1 x2 x3 h') K → WP S M_X1_hearAll d cb sb Q 2 [.ref r0, .int x1, .int x2, .int x3, JK] [] h') {r0 : Nat} {x1 : Int32} {x2 : Int32} {x3 : Int32} {h : AH} (k : ok (f_X1_hearAll_l2b S rc r0 x1 x2 x3 h) K) : WP S M_X1_hearAll d cb sb Q 2 [.ref r0, .int x1, .int x2, .int x3, JK] [] h := by
  unfold f_X1_hearAll_l2b at k
  refine wp_iload_n dX1_hearAll_2 rfl ?_
  refine wp_bipush dX1_hearAll_3 bp_7 ?_
  refine wp_icmp_ge 51 dX1_hearAll_5 (by decide) (fun c_1 => ?_) (fun c_1 => ?_)
  · replace k := ok_t c_1 k
    exact wp_wk (wkJ <| wkJ <| wkJ <| wkJ <| wkJ <| wkN) (hex  _ (ok_some k))
  · replace k := ok_f c_1 k
    refine wp_iload_n dX1_hearAll_8 rfl ?_
    refine wp_iload_n dX1_hearAll_9 rfl ?_
    refine wp_iconst dX1_hearAll_10 ic_m1 ?_
    refine wp_ixor dX1_hearAll_11 ?_
    refine wp_iand dX1_hearAll_12 ?_
    refine wp_iconst dX1_hearAll_13 ic_1 ?_
    refine wp_iload_n dX1_hearAll_14 rfl ?_
    refine wp_ishl dX1_hearAll_15 ?_
    refine wp_iand dX1_hearAll_16 ?_
    refine wp_if_eq 24 dX1_hearAll_17 (by decide) (fun c_2 => ?_) (fun c_2 => ?_)
    · replace k := ok_t c_2 k
      refine wp_iconst dX1_hearAll_24 ic_0 ?_
      exact wp_wk (wkE <| wkE <| wkE <| wkE <| wkJ <| wkN) (s_X1_hearAll_l2_j25 hd hret hex hrec k)
    · replace k := ok_f c_2 k
      refine wp_iconst dX1_hearAll_20 ic_1 ?_
      refine wp_goto 25 dX1_hearAll_21 (by decide) ?_
      exact wp_wk (wkE <| wkE <| wkE <| wkE <| wkJ <| wkN) (s_X1_hearAll_l2_j25 hd hret hex hrec k)
def f_X1_hearAll_l2 (S : SH) : Nat → Nat → Int32 → Int32 → Int32 → AH → Option ((Int32 ⊕ Unit) × AH)
  | 0, _, _, _, _, _ => none
  | n + 1, r0, x1, x2, x3, h => f_X1_hearAll_l2b S (f_X1_hearAll_l2 S n) r0 x1 x2 x3 h
theorem s_X1_hearAll_l2 {S : SH} {d cb sb : Nat} {Q : Option Value → AH → Prop} (hd : 0 ≤ d) {K : (Int32 ⊕ Unit) → AH → Prop} (hret : ∀ (w : Int32) (h' : AH), K (.inl w) h' → Q (some (.int w)) h') (hex : ∀  (h' : AH), K (.inr ()) h' → WP S M_X1_hearAll d cb sb Q 51 [JK, JK, JK, JK, JK] [] h') : ∀ (n : Nat) (r0 : Nat) (x1 : Int32) (x2 : Int32) (x3 : Int32) (h : AH), ok (f_X1_hearAll_l2 S n r0 x1 x2 x3 h) K → WP S M_X1_hearAll d cb sb Q 2 [.ref r0, .int x1, .int x2, .int x3, JK] [] h := by
  intro n
  induction n with
  | zero => intro r0 x1 x2 x3 h k; exact ok_none k
  | succ n ih => intro r0 x1 x2 x3 h k; exact s_X1_hearAll_l2b hd hret hex (fun r0 x1 x2 x3 h k => ih r0 x1 x2 x3 h k) k
def f_X1_hearAll (S : SH) (r0 : Nat) (x1 : Int32) (x2 : Int32) (h : AH) : Option (Int32 × AH) :=
  (f_X1_hearAll_l2 S FU r0 x1 x2 (0 : Int32) h).bind fun z => match z with
  | (.inl w, h') => some (w, h')
  | (.inr (), h_1) =>
    some ((1 : Int32), h_1)
set_option maxHeartbeats 8000000 in
set_option maxRecDepth 20000 in
theorem s_X1_hearAll {S : SH} {d cb sb : Nat} {Q : Option Value → AH → Prop} (hd : 0 ≤ d)  {r0 : Nat} {x1 : Int32} {x2 : Int32} {h : AH} (k : ok (f_X1_hearAll S r0 x1 x2 h) (fun w h' => Q (some (.int w)) h')) : WP S M_X1_hearAll d cb sb Q 0 [.ref r0, .int x1, .int x2, JK, JK] [] h := by
  unfold f_X1_hearAll at k
  refine wp_iconst dX1_hearAll_0 ic_0 ?_
  refine wp_istore_n dX1_hearAll_1 (by decide) (L1 := [_, _, _, _, _]) rfl ?_
  refine wp_wk (wkE <| wkE <| wkE <| wkE <| wkJ <| wkN) ?_
  refine s_X1_hearAll_l2 hd (fun w h' k => ?_) (fun  h_1 k => ?_) FU _ _ _ _ _ (ok_bind2 k)
  · try dsimp only at k
    exact (ok_some k :)
  · try dsimp only at k
    refine wp_iconst dX1_hearAll_51 ic_1 ?_
    refine wp_iret rfl rfl dX1_hearAll_52 ?_
    exact (ok_some k :)
theorem c_X1_hearAll {S : SH} {d : Nat} {K : Option Value → AH → Prop} (hd : 0 ≤ d)  {r0 : Nat} {x1 : Int32} {x2 : Int32} {h : AH} (k : ok (f_X1_hearAll S r0 x1 x2 h) (fun w h' => K (some (.int w)) h')) : CP S M_X1_hearAll d 0 0 [.ref r0, .int x1, .int x2] h K := cp_of (by decide) (fun _ _ => trivial) (fun _ => Nat.le_of_ble_eq_true rfl) (s_X1_hearAll hd  k)
def f_X1_fewestEars_l8b (S : SH) (rc : Nat → Nat → Int32 → Int32 → AH → Option ((Nat × Int32) × AH)) (r0 : Nat) (r1 : Nat) (x2 : Int32) (x3 : Int32) (h : AH) : Option ((Nat × Int32) × AH) :=
  if (7 : Int32) ≤ x3 then
    some ((r0, x2), h)
  else
    (gR S h r0 1 5).bind fun p_2 =>
    (gR S h r0 1 0).bind fun p_4 =>
    (gI S h p_4 6 1).bind fun v_6 =>
    if v_6 ≤ x3 then
      (sI S h p_2 x3 (0 : Int32)).bind fun h_9 =>
      lt (x3 + (1 : Int32)) fun y_11 =>
      rc r0 r1 x2 y_11 h_9
    else
      (ckO S h r0 1).bind fun _ =>
      (f_X1_hearers S r0 r1 x3 h).bind fun z => match z with
      | (z_14, h_13) =>
      (sI S h_13 p_2 x3 z_14).bind fun h_15 =>
      lt (x3 + (1 : Int32)) fun y_17 =>
      rc r0 r1 x2 y_17 h_15
set_option maxHeartbeats 8000000 in
set_option maxRecDepth 20000 in
theorem s_X1_fewestEars_l8b {S : SH} {d cb sb : Nat} {Q : Option Value → AH → Prop} (hd : 3 ≤ d) {K : (Nat × Int32) → AH → Prop} (hex : ∀ (r0 : Nat) (x2 : Int32) (h' : AH), K (r0, x2) h' → WP S M_X1_fewestEars d cb sb Q 47 [.ref r0, JK, .int x2, JK, JK, JK] [] h') {rc : Nat → Nat → Int32 → Int32 → AH → Option ((Nat × Int32) × AH)} (hrec : ∀ (r0 : Nat) (r1 : Nat) (x2 : Int32) (x3 : Int32) (h' : AH), ok (rc r0 r1 x2 x3 h') K → WP S M_X1_fewestEars d cb sb Q 8 [.ref r0, .ref r1, .int x2, .int x3, JK, JK] [] h') {r0 : Nat} {r1 : Nat} {x2 : Int32} {x3 : Int32} {h : AH} (k : ok (f_X1_fewestEars_l8b S rc r0 r1 x2 x3 h) K) : WP S M_X1_fewestEars d cb sb Q 8 [.ref r0, .ref r1, .int x2, .int x3, JK, JK] [] h := by
  obtain ⟨d, rfl, he⟩ := dp (L := 2) hd
  unfold f_X1_fewestEars_l8b at k
  refine wp_iload_n dX1_fewestEars_8 rfl ?_
  refine wp_bipush dX1_fewestEars_9 bp_7 ?_
  refine wp_icmp_ge 47 dX1_fewestEars_11 (by decide) (fun c_1 => ?_) (fun c_1 => ?_)
  · replace k := ok_t c_1 k
    exact wp_wk (wkE <| wkJ <| wkE <| wkJ <| wkJ <| wkJ <| wkN) (hex _ _ _ (ok_some k))
  · replace k := ok_f c_1 k
    refine wp_aload_n dX1_fewestEars_14 rfl ?_
    replace k := ok_bind k
    obtain ⟨p_2, e_3, k⟩ := k
    refine wq_getR fl_X1_15 (Or.inr ⟨_, rfl⟩) dX1_fewestEars_15 e_3 ?_
    refine wp_iload_n dX1_fewestEars_18 rfl ?_
    refine wp_iload_n dX1_fewestEars_19 rfl ?_
    refine wp_aload_n dX1_fewestEars_20 rfl ?_
    replace k := ok_bind k
    obtain ⟨p_4, e_5, k⟩ := k
    refine wq_getR fl_X1_18 (Or.inl ⟨_, rfl⟩) dX1_fewestEars_21 e_5 ?_
    replace k := ok_bind k
    obtain ⟨v_6, e_7, k⟩ := k
    refine wq_getI fl_X1_95 (Or.inl rfl) dX1_fewestEars_24 e_7 ?_
    refine wp_icmp_ge 39 dX1_fewestEars_27 (by decide) (fun c_8 => ?_) (fun c_8 => ?_)
    · replace k := ok_t c_8 k
      refine wp_iconst dX1_fewestEars_39 ic_0 ?_
      replace k := ok_bind k
      obtain ⟨h_9, e_10, k⟩ := k
      refine wq_sI dX1_fewestEars_40 e_10 ?_
      replace k := ok_lt k
      refine wp_iinc dX1_fewestEars_41 rfl ic_1 (by decide) (L1 := [_, _, _, _, _, _]) rfl ?_
      refine wp_goto 8 dX1_fewestEars_44 (by decide) ?_
      exact wp_wk (wkE <| wkE <| wkE <| wkE <| wkJ <| wkJ <| wkN) (hrec _ _ _ _ _ k)
    · replace k := ok_f c_8 k
      refine wp_aload_n dX1_fewestEars_30 rfl ?_
      refine wp_aload_n dX1_fewestEars_31 rfl ?_
      refine wp_iload_n dX1_fewestEars_32 rfl ?_
      replace k := ok_bind k
      obtain ⟨u, e_12, k⟩ := k
      refine wp_callV2 (N := M_X1_hearers) (ci := 1) mf_X1_hearers mi_X1_hearers me_X1_hearers ml_X1_157 dX1_fewestEars_33 (ckO_e e_12) mv_X1_hearers (by exact Nat.le_of_ble_eq_true rfl) (c_X1_hearers (Nat.le_trans (by decide) he) (ok_mono (ok_bind2 k) fun z_14 h_13 k => ?_))
      try dsimp only at k
      refine wp_goto 40 dX1_fewestEars_36 (by decide) ?_
      replace k := ok_bind k
      obtain ⟨h_15, e_16, k⟩ := k
      refine wq_sI dX1_fewestEars_40 e_16 ?_
      replace k := ok_lt k
      refine wp_iinc dX1_fewestEars_41 rfl ic_1 (by decide) (L1 := [_, _, _, _, _, _]) rfl ?_
      refine wp_goto 8 dX1_fewestEars_44 (by decide) ?_
      exact wp_wk (wkE <| wkE <| wkE <| wkE <| wkJ <| wkJ <| wkN) (hrec _ _ _ _ _ k)
def f_X1_fewestEars_l8 (S : SH) : Nat → Nat → Nat → Int32 → Int32 → AH → Option ((Nat × Int32) × AH)
  | 0, _, _, _, _, _ => none
  | n + 1, r0, r1, x2, x3, h => f_X1_fewestEars_l8b S (f_X1_fewestEars_l8 S n) r0 r1 x2 x3 h
theorem s_X1_fewestEars_l8 {S : SH} {d cb sb : Nat} {Q : Option Value → AH → Prop} (hd : 3 ≤ d) {K : (Nat × Int32) → AH → Prop} (hex : ∀ (r0 : Nat) (x2 : Int32) (h' : AH), K (r0, x2) h' → WP S M_X1_fewestEars d cb sb Q 47 [.ref r0, JK, .int x2, JK, JK, JK] [] h') : ∀ (n : Nat) (r0 : Nat) (r1 : Nat) (x2 : Int32) (x3 : Int32) (h : AH), ok (f_X1_fewestEars_l8 S n r0 r1 x2 x3 h) K → WP S M_X1_fewestEars d cb sb Q 8 [.ref r0, .ref r1, .int x2, .int x3, JK, JK] [] h := by
  intro n
  induction n with
  | zero => intro r0 r1 x2 x3 h k; exact ok_none k
  | succ n ih => intro r0 r1 x2 x3 h k; exact s_X1_fewestEars_l8b hd hex (fun r0 r1 x2 x3 h k => ih r0 r1 x2 x3 h k) k
def f_X1_fewestEars_l52_j75 (S : SH) (rc : Nat → Int32 → Int32 → Int32 → AH → Option (Int32 × AH)) (r0 : Nat) (x2 : Int32) (x3 : Int32) (x4 : Int32) (sx0 : Int32) (h : AH) : Option (Int32 × AH) :=
  if sx0 = (0 : Int32) then
    lt (x4 + (1 : Int32)) fun y_2 =>
    rc r0 x2 x3 y_2 h
  else
    if (x4 &&& (x2 ^^^ (-1 : Int32))) = (0 : Int32) then
      (ckO S h r0 1).bind fun _ =>
      (f_X1_hearAll S r0 x4 x2 h).bind fun z => match z with
      | (z_7, h_6) =>
      if z_7 = (0 : Int32) then
        lt (x4 + (1 : Int32)) fun y_9 =>
        rc r0 x2 x3 y_9 h_6
      else
        lt (x4 + (1 : Int32)) fun y_10 =>
        rc r0 x2 x4 y_10 h_6
    else
      lt (x4 + (1 : Int32)) fun y_4 =>
      rc r0 x2 x3 y_4 h
set_option maxHeartbeats 8000000 in
set_option maxRecDepth 20000 in
theorem s_X1_fewestEars_l52_j75 {S : SH} {d cb sb : Nat} {Q : Option Value → AH → Prop} (hd : 3 ≤ d) {K : Int32 → AH → Prop} (hex : ∀ (x3 : Int32) (h' : AH), K x3 h' → WP S M_X1_fewestEars d cb sb Q 110 [JK, JK, JK, .int x3, JK, JK] [] h') {rc : Nat → Int32 → Int32 → Int32 → AH → Option (Int32 × AH)} (hrec : ∀ (r0 : Nat) (x2 : Int32) (x3 : Int32) (x4 : Int32) (h' : AH), ok (rc r0 x2 x3 x4 h') K → WP S M_X1_fewestEars d cb sb Q 52 [.ref r0, JK, .int x2, .int x3, .int x4, JK] [] h') {r0 : Nat} {x2 : Int32} {x3 : Int32} {x4 : Int32} {sx0 : Int32} {h : AH} (k : ok (f_X1_fewestEars_l52_j75 S rc r0 x2 x3 x4 sx0 h) K) : WP S M_X1_fewestEars d cb sb Q 75 [.ref r0, JK, .int x2, .int x3, .int x4, JK] [.int sx0] h := by
  obtain ⟨d, rfl, he⟩ := dp (L := 2) hd
  unfold f_X1_fewestEars_l52_j75 at k
  refine wp_istore dX1_fewestEars_75 (by decide) (L1 := [_, _, _, _, _, _]) rfl ?_
  refine wp_iload dX1_fewestEars_77 rfl ?_
  refine wp_if_eq 104 dX1_fewestEars_79 (by decide) (fun c_1 => ?_) (fun c_1 => ?_)
  · replace k := ok_t c_1 k
    replace k := ok_lt k
    refine wp_iinc dX1_fewestEars_104 rfl ic_1 (by decide) (L1 := [_, _, _, _, _, _]) rfl ?_
    refine wp_goto 52 dX1_fewestEars_107 (by decide) ?_
    exact wp_wk (wkE <| wkJ <| wkE <| wkE <| wkE <| wkJ <| wkN) (hrec _ _ _ _ _ k)
  · replace k := ok_f c_1 k
    refine wp_iload dX1_fewestEars_82 rfl ?_
    refine wp_iload_n dX1_fewestEars_84 rfl ?_
    refine wp_iconst dX1_fewestEars_85 ic_m1 ?_
    refine wp_ixor dX1_fewestEars_86 ?_
    refine wp_iand dX1_fewestEars_87 ?_
    refine wp_if_ne 104 dX1_fewestEars_88 (by decide) (fun c_3 => ?_) (fun c_3 => ?_)
    · replace k := ok_f c_3 k
      replace k := ok_lt k
      refine wp_iinc dX1_fewestEars_104 rfl ic_1 (by decide) (L1 := [_, _, _, _, _, _]) rfl ?_
      refine wp_goto 52 dX1_fewestEars_107 (by decide) ?_
      exact wp_wk (wkE <| wkJ <| wkE <| wkE <| wkE <| wkJ <| wkN) (hrec _ _ _ _ _ k)
    · replace k := ok_t c_3 k
      refine wp_aload_n dX1_fewestEars_91 rfl ?_
      refine wp_iload dX1_fewestEars_92 rfl ?_
      refine wp_iload_n dX1_fewestEars_94 rfl ?_
      replace k := ok_bind k
      obtain ⟨u, e_5, k⟩ := k
      refine wp_callV2 (N := M_X1_hearAll) (ci := 1) mf_X1_hearAll mi_X1_hearAll me_X1_hearAll ml_X1_160 dX1_fewestEars_95 (ckO_e e_5) mv_X1_hearAll (by exact Nat.le_of_ble_eq_true rfl) (c_X1_hearAll (Nat.le_trans (by decide) he) (ok_mono (ok_bind2 k) fun z_7 h_6 k => ?_))
      try dsimp only at k
      refine wp_if_eq 104 dX1_fewestEars_98 (by decide) (fun c_8 => ?_) (fun c_8 => ?_)
      · replace k := ok_t c_8 k
        replace k := ok_lt k
        refine wp_iinc dX1_fewestEars_104 rfl ic_1 (by decide) (L1 := [_, _, _, _, _, _]) rfl ?_
        refine wp_goto 52 dX1_fewestEars_107 (by decide) ?_
        exact wp_wk (wkE <| wkJ <| wkE <| wkE <| wkE <| wkJ <| wkN) (hrec _ _ _ _ _ k)
      · replace k := ok_f c_8 k
        refine wp_iload dX1_fewestEars_101 rfl ?_
        refine wp_istore_n dX1_fewestEars_103 (by decide) (L1 := [_, _, _, _, _, _]) rfl ?_
        replace k := ok_lt k
        refine wp_iinc dX1_fewestEars_104 rfl ic_1 (by decide) (L1 := [_, _, _, _, _, _]) rfl ?_
        refine wp_goto 52 dX1_fewestEars_107 (by decide) ?_
        exact wp_wk (wkE <| wkJ <| wkE <| wkE <| wkE <| wkJ <| wkN) (hrec _ _ _ _ _ k)
def f_X1_fewestEars_l52b (S : SH) (rc : Nat → Int32 → Int32 → Int32 → AH → Option (Int32 × AH)) (r0 : Nat) (x2 : Int32) (x3 : Int32) (x4 : Int32) (h : AH) : Option (Int32 × AH) :=
  if x2 ≤ x4 then
    some (x3, h)
  else
    (f_J6_bitCount_0f7a4 S x4 h).bind fun z => match z with
    | (z_3, h_2) =>
    (f_J6_bitCount_0f7a4 S x3 h_2).bind fun z => match z with
    | (z_5, h_4) =>
    if z_5 ≤ z_3 then
      f_X1_fewestEars_l52_j75 S rc r0 x2 x3 x4 (0 : Int32) h_4
    else
      f_X1_fewestEars_l52_j75 S rc r0 x2 x3 x4 (1 : Int32) h_4
set_option maxHeartbeats 8000000 in
set_option maxRecDepth 20000 in
theorem s_X1_fewestEars_l52b {S : SH} {d cb sb : Nat} {Q : Option Value → AH → Prop} (hd : 3 ≤ d) {K : Int32 → AH → Prop} (hex : ∀ (x3 : Int32) (h' : AH), K x3 h' → WP S M_X1_fewestEars d cb sb Q 110 [JK, JK, JK, .int x3, JK, JK] [] h') {rc : Nat → Int32 → Int32 → Int32 → AH → Option (Int32 × AH)} (hrec : ∀ (r0 : Nat) (x2 : Int32) (x3 : Int32) (x4 : Int32) (h' : AH), ok (rc r0 x2 x3 x4 h') K → WP S M_X1_fewestEars d cb sb Q 52 [.ref r0, JK, .int x2, .int x3, .int x4, JK] [] h') {r0 : Nat} {x2 : Int32} {x3 : Int32} {x4 : Int32} {h : AH} (k : ok (f_X1_fewestEars_l52b S rc r0 x2 x3 x4 h) K) : WP S M_X1_fewestEars d cb sb Q 52 [.ref r0, JK, .int x2, .int x3, .int x4, JK] [] h := by
  obtain ⟨d, rfl, he⟩ := dp (L := 2) hd
  unfold f_X1_fewestEars_l52b at k
  refine wp_iload dX1_fewestEars_52 rfl ?_
  refine wp_iload_n dX1_fewestEars_54 rfl ?_
  refine wp_icmp_ge 110 dX1_fewestEars_55 (by decide) (fun c_1 => ?_) (fun c_1 => ?_)
  · replace k := ok_t c_1 k
    exact wp_wk (wkJ <| wkJ <| wkJ <| wkE <| wkJ <| wkJ <| wkN) (hex _ _ (ok_some k))
  · replace k := ok_f c_1 k
    refine wp_iload dX1_fewestEars_58 rfl ?_
    refine wp_callS1 (N := M_J6_bitCount_0f7a4) mf_J6_bitCount_0f7a4 ms_J6_bitCount_0f7a4 ml_X1_138 dX1_fewestEars_60 (by exact Nat.le_of_ble_eq_true rfl) (c_J6_bitCount_0f7a4 (Nat.le_trans (by decide) he) (ok_mono (ok_bind2 k) fun z_3 h_2 k => ?_))
    try dsimp only at k
    refine wp_iload_n dX1_fewestEars_63 rfl ?_
    refine wp_callS1 (N := M_J6_bitCount_0f7a4) mf_J6_bitCount_0f7a4 ms_J6_bitCount_0f7a4 ml_X1_138 dX1_fewestEars_64 (by exact Nat.le_of_ble_eq_true rfl) (c_J6_bitCount_0f7a4 (Nat.le_trans (by decide) he) (ok_mono (ok_bind2 k) fun z_5 h_4 k => ?_))
    try dsimp only at k
    refine wp_icmp_ge 74 dX1_fewestEars_67 (by decide) (fun c_6 => ?_) (fun c_6 => ?_)
    · replace k := ok_t c_6 k
      refine wp_iconst dX1_fewestEars_74 ic_0 ?_
      exact wp_wk (wkE <| wkJ <| wkE <| wkE <| wkE <| wkJ <| wkN) (s_X1_fewestEars_l52_j75 (Nat.succ_le_succ he) hex hrec k)
    · replace k := ok_f c_6 k
      refine wp_iconst dX1_fewestEars_70 ic_1 ?_
      refine wp_goto 75 dX1_fewestEars_71 (by decide) ?_
      exact wp_wk (wkE <| wkJ <| wkE <| wkE <| wkE <| wkJ <| wkN) (s_X1_fewestEars_l52_j75 (Nat.succ_le_succ he) hex hrec k)
def f_X1_fewestEars_l52 (S : SH) : Nat → Nat → Int32 → Int32 → Int32 → AH → Option (Int32 × AH)
  | 0, _, _, _, _, _ => none
  | n + 1, r0, x2, x3, x4, h => f_X1_fewestEars_l52b S (f_X1_fewestEars_l52 S n) r0 x2 x3 x4 h
theorem s_X1_fewestEars_l52 {S : SH} {d cb sb : Nat} {Q : Option Value → AH → Prop} (hd : 3 ≤ d) {K : Int32 → AH → Prop} (hex : ∀ (x3 : Int32) (h' : AH), K x3 h' → WP S M_X1_fewestEars d cb sb Q 110 [JK, JK, JK, .int x3, JK, JK] [] h') : ∀ (n : Nat) (r0 : Nat) (x2 : Int32) (x3 : Int32) (x4 : Int32) (h : AH), ok (f_X1_fewestEars_l52 S n r0 x2 x3 x4 h) K → WP S M_X1_fewestEars d cb sb Q 52 [.ref r0, JK, .int x2, .int x3, .int x4, JK] [] h := by
  intro n
  induction n with
  | zero => intro r0 x2 x3 x4 h k; exact ok_none k
  | succ n ih => intro r0 x2 x3 x4 h k; exact s_X1_fewestEars_l52b hd hex (fun r0 x2 x3 x4 h k => ih r0 x2 x3 x4 h k) k
def f_X1_fewestEars (S : SH) (r0 : Nat) (r1 : Nat) (h : AH) : Option (Int32 × AH) :=
  (ckO S h r0 1).bind fun _ =>
  (f_X1_present S r0 r1 h).bind fun z => match z with
  | (z_3, h_2) =>
  (f_X1_fewestEars_l8 S FU r0 r1 z_3 (0 : Int32) h_2).bind fun z => match z with
  | ((r0_5, x2_6), h_4) =>
  (f_X1_fewestEars_l52 S FU r0_5 x2_6 x2_6 (0 : Int32) h_4).bind fun z => match z with
  | (x3_8, h_7) =>
  some (x3_8, h_7)
set_option maxHeartbeats 8000000 in
set_option maxRecDepth 20000 in
theorem s_X1_fewestEars {S : SH} {d cb sb : Nat} {Q : Option Value → AH → Prop} (hd : 3 ≤ d)  {r0 : Nat} {r1 : Nat} {h : AH} (k : ok (f_X1_fewestEars S r0 r1 h) (fun w h' => Q (some (.int w)) h')) : WP S M_X1_fewestEars d cb sb Q 0 [.ref r0, .ref r1, JK, JK, JK, JK] [] h := by
  obtain ⟨d, rfl, he⟩ := dp (L := 2) hd
  unfold f_X1_fewestEars at k
  refine wp_aload_n dX1_fewestEars_0 rfl ?_
  refine wp_aload_n dX1_fewestEars_1 rfl ?_
  replace k := ok_bind k
  obtain ⟨u, e_1, k⟩ := k
  refine wp_callV1 (N := M_X1_present) (ci := 1) mf_X1_present mi_X1_present me_X1_present ml_X1_153 dX1_fewestEars_2 (ckO_e e_1) mv_X1_present (by exact Nat.le_of_ble_eq_true rfl) (c_X1_present (Nat.le_trans (by decide) he) (ok_mono (ok_bind2 k) fun z_3 h_2 k => ?_))
  try dsimp only at k
  refine wp_istore_n dX1_fewestEars_5 (by decide) (L1 := [_, _, _, _, _, _]) rfl ?_
  refine wp_iconst dX1_fewestEars_6 ic_0 ?_
  refine wp_istore_n dX1_fewestEars_7 (by decide) (L1 := [_, _, _, _, _, _]) rfl ?_
  refine wp_wk (wkE <| wkE <| wkE <| wkE <| wkJ <| wkJ <| wkN) ?_
  refine s_X1_fewestEars_l8 (Nat.succ_le_succ he) (fun r0_5 x2_6 h_4 k => ?_) FU _ _ _ _ _ (ok_bind2 k)
  try dsimp only at k
  refine wp_iload_n dX1_fewestEars_47 rfl ?_
  refine wp_istore_n dX1_fewestEars_48 (by decide) (L1 := [_, _, _, _, _, _]) rfl ?_
  refine wp_iconst dX1_fewestEars_49 ic_0 ?_
  refine wp_istore dX1_fewestEars_50 (by decide) (L1 := [_, _, _, _, _, _]) rfl ?_
  refine wp_wk (wkE <| wkJ <| wkE <| wkE <| wkE <| wkJ <| wkN) ?_
  refine s_X1_fewestEars_l52 (Nat.succ_le_succ he) (fun x3_8 h_7 k => ?_) FU _ _ _ _ _ (ok_bind2 k)
  try dsimp only at k
  refine wp_iload_n dX1_fewestEars_110 rfl ?_
  refine wp_iret rfl rfl dX1_fewestEars_111 ?_
  exact (ok_some k :)
theorem c_X1_fewestEars {S : SH} {d : Nat} {K : Option Value → AH → Prop} (hd : 3 ≤ d)  {r0 : Nat} {r1 : Nat} {h : AH} (k : ok (f_X1_fewestEars S r0 r1 h) (fun w h' => K (some (.int w)) h')) : CP S M_X1_fewestEars d 0 0 [.ref r0, .ref r1] h K := cp_of (by decide) (fun _ _ => trivial) (fun _ => Nat.le_of_ble_eq_true rfl) (s_X1_fewestEars hd  k)

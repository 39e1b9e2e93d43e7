def f_X10_howManyOrWho (S : SH) (x0 : Int32) (x1 : Int32) (h : AH) : Option (Int32 × AH) :=
  if x0 = (-1 : Int32) then
    some ((-1 : Int32), h)
  else
    if x1 = (0 : Int32) then
      (f_J6_bitCount_0f7a4 S x0 h).bind fun z => match z with
      | (z_5, h_4) =>
      some (z_5, h_4)
    else
      if x1 = (1 : Int32) then
        some (x0, h)
      else
        some ((-1 : Int32), h)
set_option maxHeartbeats 8000000 in
set_option maxRecDepth 20000 in
theorem s_X10_howManyOrWho {S : SH} {d cb sb : Nat} {Q : Option Value → AH → Prop} (hd : 1 ≤ d)  {x0 : Int32} {x1 : Int32} {h : AH} (k : ok (f_X10_howManyOrWho S x0 x1 h) (fun w h' => Q (some (.int w)) h')) : WP S M_X10_howManyOrWho d cb sb Q 0 [.int x0, .int x1] [] h := by
  obtain ⟨d, rfl, he⟩ := dp (L := 0) hd
  unfold f_X10_howManyOrWho at k
  refine wp_iload_n dX10_howManyOrWho_0 rfl ?_
  refine wp_iconst dX10_howManyOrWho_1 ic_m1 ?_
  refine wp_icmp_ne 7 dX10_howManyOrWho_2 (by decide) (fun c_1 => ?_) (fun c_1 => ?_)
  · replace k := ok_f c_1 k
    refine wp_iload_n dX10_howManyOrWho_7 rfl ?_
    refine wp_if_ne 18 dX10_howManyOrWho_8 (by decide) (fun c_2 => ?_) (fun c_2 => ?_)
    · replace k := ok_f c_2 k
      refine wp_iload_n dX10_howManyOrWho_18 rfl ?_
      refine wp_iconst dX10_howManyOrWho_19 ic_1 ?_
      refine wp_icmp_ne 27 dX10_howManyOrWho_20 (by decide) (fun c_3 => ?_) (fun c_3 => ?_)
      · replace k := ok_f c_3 k
        refine wp_iconst dX10_howManyOrWho_27 ic_m1 ?_
        refine wp_iret rfl rfl dX10_howManyOrWho_28 ?_
        exact (ok_some k :)
      · replace k := ok_t c_3 k
        refine wp_iload_n dX10_howManyOrWho_23 rfl ?_
        refine wp_goto 28 dX10_howManyOrWho_24 (by decide) ?_
        refine wp_iret rfl rfl dX10_howManyOrWho_28 ?_
        exact (ok_some k :)
    · replace k := ok_t c_2 k
      refine wp_iload_n dX10_howManyOrWho_11 rfl ?_
      refine wp_callS1 (N := M_J6_bitCount_0f7a4) mf_J6_bitCount_0f7a4 ms_J6_bitCount_0f7a4 ml_X10_284 dX10_howManyOrWho_12 (by exact Nat.le_of_ble_eq_true rfl) (c_J6_bitCount_0f7a4 (Nat.le_trans (by decide) he) (ok_mono (ok_bind2 k) fun z_5 h_4 k => ?_))
      try dsimp only at k
      refine wp_goto 28 dX10_howManyOrWho_15 (by decide) ?_
      refine wp_iret rfl rfl dX10_howManyOrWho_28 ?_
      exact (ok_some k :)
  · replace k := ok_t c_1 k
    refine wp_iconst dX10_howManyOrWho_5 ic_m1 ?_
    refine wp_iret rfl rfl dX10_howManyOrWho_6 ?_
    exact (ok_some k :)
theorem c_X10_howManyOrWho {S : SH} {d : Nat} {K : Option Value → AH → Prop} (hd : 1 ≤ d)  {x0 : Int32} {x1 : Int32} {h : AH} (k : ok (f_X10_howManyOrWho S x0 x1 h) (fun w h' => K (some (.int w)) h')) : CP S M_X10_howManyOrWho d 0 0 [.int x0, .int x1] h K := cp_of (by decide) (fun _ _ => trivial) (fun _ => Nat.le_of_ble_eq_true rfl) (s_X10_howManyOrWho hd  k)
def f_X10_spoilt (S : SH) (r0 : Nat) (x1 : Int32) (x2 : Int32) (h : AH) : Option (Int32 × AH) :=
  (gR S h r0 10 2).bind fun p_1 =>
  (ckO S h p_1 6).bind fun _ =>
  (f_X6_hasMatter S p_1 x1 h).bind fun z => match z with
  | (z_5, h_4) =>
  if z_5 = (0 : Int32) then
    some ((-1 : Int32), h_4)
  else
    (gR S h_4 r0 10 10).bind fun p_7 =>
    (gR S h_4 r0 10 2).bind fun p_9 =>
    (gR S h_4 p_9 6 0).bind fun p_11 =>
    (gR S h_4 r0 10 2).bind fun p_13 =>
    (ckO S h_4 p_13 6).bind fun _ =>
    (f_X6_lawInForce S p_13 h_4).bind fun z => match z with
    | (z_17, h_16) =>
    (ckO S h_16 p_7 1).bind fun _ =>
    (f_X1_poll S p_7 p_11 x1 z_17 h_16).bind fun z => match z with
    | (_, h_19) =>
    (gR S h_19 r0 10 10).bind fun p_21 =>
    (gR S h_19 r0 10 10).bind fun p_23 =>
    (gI S h_19 p_23 1 2).bind fun v_25 =>
    (gR S h_19 r0 10 10).bind fun p_27 =>
    (gI S h_19 p_27 1 3).bind fun v_29 =>
    (ckO S h_19 p_21 1).bind fun _ =>
    (f_X1_fewest S p_21 v_25 v_29 (0 : Int32) h_19).bind fun z => match z with
    | (z_33, h_32) =>
    (f_X10_howManyOrWho S z_33 x2 h_32).bind fun z => match z with
    | (z_35, h_34) =>
    some (z_35, h_34)
set_option maxHeartbeats 8000000 in
set_option maxRecDepth 20000 in
theorem s_X10_spoilt {S : SH} {d cb sb : Nat} {Q : Option Value → AH → Prop} (hd : 4 ≤ d)  {r0 : Nat} {x1 : Int32} {x2 : Int32} {h : AH} (k : ok (f_X10_spoilt S r0 x1 x2 h) (fun w h' => Q (some (.int w)) h')) : WP S M_X10_spoilt d cb sb Q 0 [.ref r0, .int x1, .int x2] [] h := by
  obtain ⟨d, rfl, he⟩ := dp (L := 3) hd
  unfold f_X10_spoilt at k
  refine wp_aload_n dX10_spoilt_0 rfl ?_
  replace k := ok_bind k
  obtain ⟨p_1, e_2, k⟩ := k
  refine wq_getR fl_X10_16 (Or.inl ⟨_, rfl⟩) dX10_spoilt_1 e_2 ?_
  refine wp_iload_n dX10_spoilt_4 rfl ?_
  replace k := ok_bind k
  obtain ⟨u, e_3, k⟩ := k
  refine wp_callV1 (N := M_X6_hasMatter) (ci := 6) mf_X6_hasMatter mi_X6_hasMatter me_X6_hasMatter ml_X10_133 dX10_spoilt_5 (ckO_e e_3) mv_X6_hasMatter (by exact Nat.le_of_ble_eq_true rfl) (c_X6_hasMatter (Nat.le_trans (by decide) he) (ok_mono (ok_bind2 k) fun z_5 h_4 k => ?_))
  try dsimp only at k
  refine wp_if_ne 13 dX10_spoilt_8 (by decide) (fun c_6 => ?_) (fun c_6 => ?_)
  · replace k := ok_f c_6 k
    refine wp_aload_n dX10_spoilt_13 rfl ?_
    replace k := ok_bind k
    obtain ⟨p_7, e_8, k⟩ := k
    refine wq_getR fl_X10_63 (Or.inl ⟨_, rfl⟩) dX10_spoilt_14 e_8 ?_
    refine wp_aload_n dX10_spoilt_17 rfl ?_
    replace k := ok_bind k
    obtain ⟨p_9, e_10, k⟩ := k
    refine wq_getR fl_X10_16 (Or.inl ⟨_, rfl⟩) dX10_spoilt_18 e_10 ?_
    replace k := ok_bind k
    obtain ⟨p_11, e_12, k⟩ := k
    refine wq_getR fl_X10_120 (Or.inl ⟨_, rfl⟩) dX10_spoilt_21 e_12 ?_
    refine wp_iload_n dX10_spoilt_24 rfl ?_
    refine wp_aload_n dX10_spoilt_25 rfl ?_
    replace k := ok_bind k
    obtain ⟨p_13, e_14, k⟩ := k
    refine wq_getR fl_X10_16 (Or.inl ⟨_, rfl⟩) dX10_spoilt_26 e_14 ?_
    replace k := ok_bind k
    obtain ⟨u, e_15, k⟩ := k
    refine wp_callV0 (N := M_X6_lawInForce) (ci := 6) mf_X6_lawInForce mi_X6_lawInForce me_X6_lawInForce ml_X10_140 dX10_spoilt_29 (ckO_e e_15) mv_X6_lawInForce (by exact Nat.le_of_ble_eq_true rfl) (c_X6_lawInForce (Nat.le_trans (by decide) he) (ok_mono (ok_bind2 k) fun z_17 h_16 k => ?_))
    try dsimp only at k
    replace k := ok_bind k
    obtain ⟨u, e_18, k⟩ := k
    refine wp_callV3 (N := M_X1_poll) (ci := 1) mf_X1_poll mi_X1_poll me_X1_poll ml_X10_166 dX10_spoilt_32 (ckO_e e_18) mv_X1_poll (by exact Nat.le_of_ble_eq_true rfl) (c_X1_poll (Nat.le_trans (by decide) he) (ok_mono (ok_bind2 k) fun _ h_19 k => ?_))
    try dsimp only at k
    refine wp_aload_n dX10_spoilt_35 rfl ?_
    replace k := ok_bind k
    obtain ⟨p_21, e_22, k⟩ := k
    refine wq_getR fl_X10_63 (Or.inl ⟨_, rfl⟩) dX10_spoilt_36 e_22 ?_
    refine wp_aload_n dX10_spoilt_39 rfl ?_
    replace k := ok_bind k
    obtain ⟨p_23, e_24, k⟩ := k
    refine wq_getR fl_X10_63 (Or.inl ⟨_, rfl⟩) dX10_spoilt_40 e_24 ?_
    replace k := ok_bind k
    obtain ⟨v_25, e_26, k⟩ := k
    refine wq_getI fl_X10_170 (Or.inl rfl) dX10_spoilt_43 e_26 ?_
    refine wp_aload_n dX10_spoilt_46 rfl ?_
    replace k := ok_bind k
    obtain ⟨p_27, e_28, k⟩ := k
    refine wq_getR fl_X10_63 (Or.inl ⟨_, rfl⟩) dX10_spoilt_47 e_28 ?_
    replace k := ok_bind k
    obtain ⟨v_29, e_30, k⟩ := k
    refine wq_getI fl_X10_173 (Or.inl rfl) dX10_spoilt_50 e_30 ?_
    refine wp_iconst dX10_spoilt_53 ic_0 ?_
    replace k := ok_bind k
    obtain ⟨u, e_31, k⟩ := k
    refine wp_callV3 (N := M_X1_fewest) (ci := 1) mf_X1_fewest mi_X1_fewest me_X1_fewest ml_X10_338 dX10_spoilt_54 (ckO_e e_31) mv_X1_fewest (by exact Nat.le_of_ble_eq_true rfl) (c_X1_fewest (Nat.le_trans (by decide) he) (ok_mono (ok_bind2 k) fun z_33 h_32 k => ?_))
    try dsimp only at k
    refine wp_iload_n dX10_spoilt_57 rfl ?_
    refine wp_callS2 (N := M_X10_howManyOrWho) mf_X10_howManyOrWho ms_X10_howManyOrWho ml_X10_342 dX10_spoilt_58 (by exact Nat.le_of_ble_eq_true rfl) (c_X10_howManyOrWho (Nat.le_trans (by decide) he) (ok_mono (ok_bind2 k) fun z_35 h_34 k => ?_))
    try dsimp only at k
    refine wp_iret rfl rfl dX10_spoilt_61 ?_
    exact (ok_some k :)
  · replace k := ok_t c_6 k
    refine wp_iconst dX10_spoilt_11 ic_m1 ?_
    refine wp_iret rfl rfl dX10_spoilt_12 ?_
    exact (ok_some k :)
theorem c_X10_spoilt {S : SH} {d : Nat} {K : Option Value → AH → Prop} (hd : 4 ≤ d)  {r0 : Nat} {x1 : Int32} {x2 : Int32} {h : AH} (k : ok (f_X10_spoilt S r0 x1 x2 h) (fun w h' => K (some (.int w)) h')) : CP S M_X10_spoilt d 0 0 [.ref r0, .int x1, .int x2] h K := cp_of (by decide) (fun _ _ => trivial) (fun _ => Nat.le_of_ble_eq_true rfl) (s_X10_spoilt hd  k)
def f_X10_come_l29b (S : SH) (rc : Nat → Int32 → Int32 → Int32 → AH → Option ((Nat × Int32 × Int32) × AH)) (r0 : Nat) (x1 : Int32) (x2 : Int32) (x3 : Int32) (h : AH) : Option ((Nat × Int32 × Int32) × AH) :=
  (gR S h r0 10 2).bind fun p_1 =>
  (gI S h p_1 6 1).bind fun v_3 =>
  if v_3 ≤ x3 then
    some ((r0, x1, x2), h)
  else
    (gR S h r0 10 7).bind fun p_6 =>
    (gR S h p_6 7 0).bind fun p_8 =>
    (gR S h r0 10 7).bind fun p_10 =>
    (gR S h p_10 7 0).bind fun p_12 =>
    (aI S h p_12 x3).bind fun v_14 =>
    if v_14 = (-1 : Int32) then
      (sI S h p_8 x3 (0 : Int32)).bind fun h_20 =>
      lt (x3 + (1 : Int32)) fun y_22 =>
      rc r0 x1 x2 y_22 h_20
    else
      (sI S h p_8 x3 (-1 : Int32)).bind fun h_17 =>
      lt (x3 + (1 : Int32)) fun y_19 =>
      rc r0 x1 x2 y_19 h_17
set_option maxHeartbeats 8000000 in
set_option maxRecDepth 20000 in
theorem s_X10_come_l29b {S : SH} {d cb sb : Nat} {Q : Option Value → AH → Prop} (hd : 4 ≤ d) {K : (Nat × Int32 × Int32) → AH → Prop} (hex : ∀ (r0 : Nat) (x1 : Int32) (x2 : Int32) (h' : AH), K (r0, x1, x2) h' → WP S M_X10_come d cb sb Q 73 [.ref r0, .int x1, .int x2, JK, JK] [] h') {rc : Nat → Int32 → Int32 → Int32 → AH → Option ((Nat × Int32 × Int32) × AH)} (hrec : ∀ (r0 : Nat) (x1 : Int32) (x2 : Int32) (x3 : Int32) (h' : AH), ok (rc r0 x1 x2 x3 h') K → WP S M_X10_come d cb sb Q 29 [.ref r0, .int x1, .int x2, .int x3, JK] [] h') {r0 : Nat} {x1 : Int32} {x2 : Int32} {x3 : Int32} {h : AH} (k : ok (f_X10_come_l29b S rc r0 x1 x2 x3 h) K) : WP S M_X10_come d cb sb Q 29 [.ref r0, .int x1, .int x2, .int x3, JK] [] h := by
  obtain ⟨d, rfl, he⟩ := dp (L := 3) hd
  unfold f_X10_come_l29b at k
  refine wp_iload_n dX10_come_29 rfl ?_
  refine wp_aload_n dX10_come_30 rfl ?_
  replace k := ok_bind k
  obtain ⟨p_1, e_2, k⟩ := k
  refine wq_getR fl_X10_16 (Or.inl ⟨_, rfl⟩) dX10_come_31 e_2 ?_
  replace k := ok_bind k
  obtain ⟨v_3, e_4, k⟩ := k
  refine wq_getI fl_X10_100 (Or.inl rfl) dX10_come_34 e_4 ?_
  refine wp_icmp_ge 73 dX10_come_37 (by decide) (fun c_5 => ?_) (fun c_5 => ?_)
  · replace k := ok_t c_5 k
    exact wp_wk (wkE <| wkE <| wkE <| wkJ <| wkJ <| wkN) (hex _ _ _ _ (ok_some k))
  · replace k := ok_f c_5 k
    refine wp_aload_n dX10_come_40 rfl ?_
    replace k := ok_bind k
    obtain ⟨p_6, e_7, k⟩ := k
    refine wq_getR fl_X10_41 (Or.inl ⟨_, rfl⟩) dX10_come_41 e_7 ?_
    replace k := ok_bind k
    obtain ⟨p_8, e_9, k⟩ := k
    refine wq_getR fl_X10_123 (Or.inr ⟨_, rfl⟩) dX10_come_44 e_9 ?_
    refine wp_iload_n dX10_come_47 rfl ?_
    refine wp_aload_n dX10_come_48 rfl ?_
    replace k := ok_bind k
    obtain ⟨p_10, e_11, k⟩ := k
    refine wq_getR fl_X10_41 (Or.inl ⟨_, rfl⟩) dX10_come_49 e_11 ?_
    replace k := ok_bind k
    obtain ⟨p_12, e_13, k⟩ := k
    refine wq_getR fl_X10_123 (Or.inr ⟨_, rfl⟩) dX10_come_52 e_13 ?_
    refine wp_iload_n dX10_come_55 rfl ?_
    replace k := ok_bind k
    obtain ⟨v_14, e_15, k⟩ := k
    refine wq_aI dX10_come_56 e_15 ?_
    refine wp_iconst dX10_come_57 ic_m1 ?_
    refine wp_icmp_ne 65 dX10_come_58 (by decide) (fun c_16 => ?_) (fun c_16 => ?_)
    · replace k := ok_f c_16 k
      refine wp_iconst dX10_come_65 ic_m1 ?_
      replace k := ok_bind k
      obtain ⟨h_17, e_18, k⟩ := k
      refine wq_sI dX10_come_66 e_18 ?_
      replace k := ok_lt k
      refine wp_iinc dX10_come_67 rfl ic_1 (by decide) (L1 := [_, _, _, _, _]) rfl ?_
      refine wp_goto 29 dX10_come_70 (by decide) ?_
      exact wp_wk (wkE <| wkE <| wkE <| wkE <| wkJ <| wkN) (hrec _ _ _ _ _ k)
    · replace k := ok_t c_16 k
      refine wp_iconst dX10_come_61 ic_0 ?_
      refine wp_goto 66 dX10_come_62 (by decide) ?_
      replace k := ok_bind k
      obtain ⟨h_20, e_21, k⟩ := k
      refine wq_sI dX10_come_66 e_21 ?_
      replace k := ok_lt k
      refine wp_iinc dX10_come_67 rfl ic_1 (by decide) (L1 := [_, _, _, _, _]) rfl ?_
      refine wp_goto 29 dX10_come_70 (by decide) ?_
      exact wp_wk (wkE <| wkE <| wkE <| wkE <| wkJ <| wkN) (hrec _ _ _ _ _ k)
def f_X10_come_l29 (S : SH) : Nat → Nat → Int32 → Int32 → Int32 → AH → Option ((Nat × Int32 × Int32) × AH)
  | 0, _, _, _, _, _ => none
  | n + 1, r0, x1, x2, x3, h => f_X10_come_l29b S (f_X10_come_l29 S n) r0 x1 x2 x3 h
theorem s_X10_come_l29 {S : SH} {d cb sb : Nat} {Q : Option Value → AH → Prop} (hd : 4 ≤ d) {K : (Nat × Int32 × Int32) → AH → Prop} (hex : ∀ (r0 : Nat) (x1 : Int32) (x2 : Int32) (h' : AH), K (r0, x1, x2) h' → WP S M_X10_come d cb sb Q 73 [.ref r0, .int x1, .int x2, JK, JK] [] h') : ∀ (n : Nat) (r0 : Nat) (x1 : Int32) (x2 : Int32) (x3 : Int32) (h : AH), ok (f_X10_come_l29 S n r0 x1 x2 x3 h) K → WP S M_X10_come d cb sb Q 29 [.ref r0, .int x1, .int x2, .int x3, JK] [] h := by
  intro n
  induction n with
  | zero => intro r0 x1 x2 x3 h k; exact ok_none k
  | succ n ih => intro r0 x1 x2 x3 h k; exact s_X10_come_l29b hd hex (fun r0 x1 x2 x3 h k => ih r0 x1 x2 x3 h k) k
def f_X10_come (S : SH) (r0 : Nat) (x1 : Int32) (x2 : Int32) (h : AH) : Option (Int32 × AH) :=
  (gR S h r0 10 2).bind fun p_1 =>
  (ckO S h p_1 6).bind fun _ =>
  (f_X6_hasMatter S p_1 x1 h).bind fun z => match z with
  | (z_5, h_4) =>
  if z_5 = (0 : Int32) then
    some ((-1 : Int32), h_4)
  else
    (gR S h_4 r0 10 7).bind fun p_7 =>
    (gR S h_4 r0 10 2).bind fun p_9 =>
    (gR S h_4 p_9 6 0).bind fun p_11 =>
    (ckO S h_4 p_7 7).bind fun _ =>
    (f_X7_become S p_7 p_11 h_4).bind fun z => match z with
    | (_, h_14) =>
    (f_X10_come_l29 S FU r0 x1 x2 (0 : Int32) h_14).bind fun z => match z with
    | ((r0_17, x1_18, x2_19), h_16) =>
    (gR S h_16 r0_17 10 10).bind fun p_20 =>
    (gR S h_16 r0_17 10 7).bind fun p_22 =>
    (gR S h_16 r0_17 10 2).bind fun p_24 =>
    (ckO S h_16 p_24 6).bind fun _ =>
    (f_X6_lawInForce S p_24 h_16).bind fun z => match z with
    | (z_28, h_27) =>
    (ckO S h_27 p_20 1).bind fun _ =>
    (f_X1_poll S p_20 p_22 x1_18 z_28 h_27).bind fun z => match z with
    | (_, h_30) =>
    (gR S h_30 r0_17 10 10).bind fun p_32 =>
    (gI S h_30 p_32 1 2).bind fun v_34 =>
    (gR S h_30 r0_17 10 10).bind fun p_36 =>
    (gI S h_30 p_36 1 3).bind fun v_38 =>
    (gR S h_30 r0_17 10 10).bind fun p_40 =>
    (gR S h_30 r0_17 10 2).bind fun p_42 =>
    (gR S h_30 p_42 6 0).bind fun p_44 =>
    (gR S h_30 r0_17 10 2).bind fun p_46 =>
    (ckO S h_30 p_46 6).bind fun _ =>
    (f_X6_lawInForce S p_46 h_30).bind fun z => match z with
    | (z_50, h_49) =>
    (ckO S h_49 p_40 1).bind fun _ =>
    (f_X1_poll S p_40 p_44 x1_18 z_50 h_49).bind fun z => match z with
    | (_, h_52) =>
    (gR S h_52 r0_17 10 10).bind fun p_54 =>
    (ckO S h_52 p_54 1).bind fun _ =>
    (f_X1_fewest S p_54 v_34 v_38 (1 : Int32) h_52).bind fun z => match z with
    | (z_58, h_57) =>
    (f_X10_howManyOrWho S z_58 x2_19 h_57).bind fun z => match z with
    | (z_60, h_59) =>
    some (z_60, h_59)
set_option maxHeartbeats 8000000 in
set_option maxRecDepth 20000 in
theorem s_X10_come {S : SH} {d cb sb : Nat} {Q : Option Value → AH → Prop} (hd : 4 ≤ d)  {r0 : Nat} {x1 : Int32} {x2 : Int32} {h : AH} (k : ok (f_X10_come S r0 x1 x2 h) (fun w h' => Q (some (.int w)) h')) : WP S M_X10_come d cb sb Q 0 [.ref r0, .int x1, .int x2, JK, JK] [] h := by
  obtain ⟨d, rfl, he⟩ := dp (L := 3) hd
  unfold f_X10_come at k
  refine wp_aload_n dX10_come_0 rfl ?_
  replace k := ok_bind k
  obtain ⟨p_1, e_2, k⟩ := k
  refine wq_getR fl_X10_16 (Or.inl ⟨_, rfl⟩) dX10_come_1 e_2 ?_
  refine wp_iload_n dX10_come_4 rfl ?_
  replace k := ok_bind k
  obtain ⟨u, e_3, k⟩ := k
  refine wp_callV1 (N := M_X6_hasMatter) (ci := 6) mf_X6_hasMatter mi_X6_hasMatter me_X6_hasMatter ml_X10_133 dX10_come_5 (ckO_e e_3) mv_X6_hasMatter (by exact Nat.le_of_ble_eq_true rfl) (c_X6_hasMatter (Nat.le_trans (by decide) he) (ok_mono (ok_bind2 k) fun z_5 h_4 k => ?_))
  try dsimp only at k
  refine wp_if_ne 13 dX10_come_8 (by decide) (fun c_6 => ?_) (fun c_6 => ?_)
  · replace k := ok_f c_6 k
    refine wp_aload_n dX10_come_13 rfl ?_
    replace k := ok_bind k
    obtain ⟨p_7, e_8, k⟩ := k
    refine wq_getR fl_X10_41 (Or.inl ⟨_, rfl⟩) dX10_come_14 e_8 ?_
    refine wp_aload_n dX10_come_17 rfl ?_
    replace k := ok_bind k
    obtain ⟨p_9, e_10, k⟩ := k
    refine wq_getR fl_X10_16 (Or.inl ⟨_, rfl⟩) dX10_come_18 e_10 ?_
    replace k := ok_bind k
    obtain ⟨p_11, e_12, k⟩ := k
    refine wq_getR fl_X10_120 (Or.inl ⟨_, rfl⟩) dX10_come_21 e_12 ?_
    replace k := ok_bind k
    obtain ⟨u, e_13, k⟩ := k
    refine wp_callV1 (N := M_X7_become) (ci := 7) mf_X7_become mi_X7_become me_X7_become ml_X10_176 dX10_come_24 (ckO_e e_13) mv_X7_become (by exact Nat.le_of_ble_eq_true rfl) (c_X7_become (Nat.le_trans (by decide) he) (ok_mono (ok_bind2 k) fun _ h_14 k => ?_))
    try dsimp only at k
    refine wp_iconst dX10_come_27 ic_0 ?_
    refine wp_istore_n dX10_come_28 (by decide) (L1 := [_, _, _, _, _]) rfl ?_
    refine wp_wk (wkE <| wkE <| wkE <| wkE <| wkJ <| wkN) ?_
    refine s_X10_come_l29 (Nat.succ_le_succ he) (fun r0_17 x1_18 x2_19 h_16 k => ?_) FU _ _ _ _ _ (ok_bind2 k)
    try dsimp only at k
    refine wp_aload_n dX10_come_73 rfl ?_
    replace k := ok_bind k
    obtain ⟨p_20, e_21, k⟩ := k
    refine wq_getR fl_X10_63 (Or.inl ⟨_, rfl⟩) dX10_come_74 e_21 ?_
    refine wp_aload_n dX10_come_77 rfl ?_
    replace k := ok_bind k
    obtain ⟨p_22, e_23, k⟩ := k
    refine wq_getR fl_X10_41 (Or.inl ⟨_, rfl⟩) dX10_come_78 e_23 ?_
    refine wp_iload_n dX10_come_81 rfl ?_
    refine wp_aload_n dX10_come_82 rfl ?_
    replace k := ok_bind k
    obtain ⟨p_24, e_25, k⟩ := k
    refine wq_getR fl_X10_16 (Or.inl ⟨_, rfl⟩) dX10_come_83 e_25 ?_
    replace k := ok_bind k
    obtain ⟨u, e_26, k⟩ := k
    refine wp_callV0 (N := M_X6_lawInForce) (ci := 6) mf_X6_lawInForce mi_X6_lawInForce me_X6_lawInForce ml_X10_140 dX10_come_86 (ckO_e e_26) mv_X6_lawInForce (by exact Nat.le_of_ble_eq_true rfl) (c_X6_lawInForce (Nat.le_trans (by decide) he) (ok_mono (ok_bind2 k) fun z_28 h_27 k => ?_))
    try dsimp only at k
    replace k := ok_bind k
    obtain ⟨u, e_29, k⟩ := k
    refine wp_callV3 (N := M_X1_poll) (ci := 1) mf_X1_poll mi_X1_poll me_X1_poll ml_X10_166 dX10_come_89 (ckO_e e_29) mv_X1_poll (by exact Nat.le_of_ble_eq_true rfl) (c_X1_poll (Nat.le_trans (by decide) he) (ok_mono (ok_bind2 k) fun _ h_30 k => ?_))
    try dsimp only at k
    refine wp_aload_n dX10_come_92 rfl ?_
    replace k := ok_bind k
    obtain ⟨p_32, e_33, k⟩ := k
    refine wq_getR fl_X10_63 (Or.inl ⟨_, rfl⟩) dX10_come_93 e_33 ?_
    replace k := ok_bind k
    obtain ⟨v_34, e_35, k⟩ := k
    refine wq_getI fl_X10_170 (Or.inl rfl) dX10_come_96 e_35 ?_
    refine wp_istore_n dX10_come_99 (by decide) (L1 := [_, _, _, _, _]) rfl ?_
    refine wp_aload_n dX10_come_100 rfl ?_
    replace k := ok_bind k
    obtain ⟨p_36, e_37, k⟩ := k
    refine wq_getR fl_X10_63 (Or.inl ⟨_, rfl⟩) dX10_come_101 e_37 ?_
    replace k := ok_bind k
    obtain ⟨v_38, e_39, k⟩ := k
    refine wq_getI fl_X10_173 (Or.inl rfl) dX10_come_104 e_39 ?_
    refine wp_istore dX10_come_107 (by decide) (L1 := [_, _, _, _, _]) rfl ?_
    refine wp_aload_n dX10_come_109 rfl ?_
    replace k := ok_bind k
    obtain ⟨p_40, e_41, k⟩ := k
    refine wq_getR fl_X10_63 (Or.inl ⟨_, rfl⟩) dX10_come_110 e_41 ?_
    refine wp_aload_n dX10_come_113 rfl ?_
    replace k := ok_bind k
    obtain ⟨p_42, e_43, k⟩ := k
    refine wq_getR fl_X10_16 (Or.inl ⟨_, rfl⟩) dX10_come_114 e_43 ?_
    replace k := ok_bind k
    obtain ⟨p_44, e_45, k⟩ := k
    refine wq_getR fl_X10_120 (Or.inl ⟨_, rfl⟩) dX10_come_117 e_45 ?_
    refine wp_iload_n dX10_come_120 rfl ?_
    refine wp_aload_n dX10_come_121 rfl ?_
    replace k := ok_bind k
    obtain ⟨p_46, e_47, k⟩ := k
    refine wq_getR fl_X10_16 (Or.inl ⟨_, rfl⟩) dX10_come_122 e_47 ?_
    replace k := ok_bind k
    obtain ⟨u, e_48, k⟩ := k
    refine wp_callV0 (N := M_X6_lawInForce) (ci := 6) mf_X6_lawInForce mi_X6_lawInForce me_X6_lawInForce ml_X10_140 dX10_come_125 (ckO_e e_48) mv_X6_lawInForce (by exact Nat.le_of_ble_eq_true rfl) (c_X6_lawInForce (Nat.le_trans (by decide) he) (ok_mono (ok_bind2 k) fun z_50 h_49 k => ?_))
    try dsimp only at k
    replace k := ok_bind k
    obtain ⟨u, e_51, k⟩ := k
    refine wp_callV3 (N := M_X1_poll) (ci := 1) mf_X1_poll mi_X1_poll me_X1_poll ml_X10_166 dX10_come_128 (ckO_e e_51) mv_X1_poll (by exact Nat.le_of_ble_eq_true rfl) (c_X1_poll (Nat.le_trans (by decide) he) (ok_mono (ok_bind2 k) fun _ h_52 k => ?_))
    try dsimp only at k
    refine wp_aload_n dX10_come_131 rfl ?_
    replace k := ok_bind k
    obtain ⟨p_54, e_55, k⟩ := k
    refine wq_getR fl_X10_63 (Or.inl ⟨_, rfl⟩) dX10_come_132 e_55 ?_
    refine wp_iload_n dX10_come_135 rfl ?_
    refine wp_iload dX10_come_136 rfl ?_
    refine wp_iconst dX10_come_138 ic_1 ?_
    replace k := ok_bind k
    obtain ⟨u, e_56, k⟩ := k
    refine wp_callV3 (N := M_X1_fewest) (ci := 1) mf_X1_fewest mi_X1_fewest me_X1_fewest ml_X10_338 dX10_come_139 (ckO_e e_56) mv_X1_fewest (by exact Nat.le_of_ble_eq_true rfl) (c_X1_fewest (Nat.le_trans (by decide) he) (ok_mono (ok_bind2 k) fun z_58 h_57 k => ?_))
    try dsimp only at k
    refine wp_iload_n dX10_come_142 rfl ?_
    refine wp_callS2 (N := M_X10_howManyOrWho) mf_X10_howManyOrWho ms_X10_howManyOrWho ml_X10_342 dX10_come_143 (by exact Nat.le_of_ble_eq_true rfl) (c_X10_howManyOrWho (Nat.le_trans (by decide) he) (ok_mono (ok_bind2 k) fun z_60 h_59 k => ?_))
    try dsimp only at k
    refine wp_iret rfl rfl dX10_come_146 ?_
    exact (ok_some k :)
  · replace k := ok_t c_6 k
    refine wp_iconst dX10_come_11 ic_m1 ?_
    refine wp_iret rfl rfl dX10_come_12 ?_
    exact (ok_some k :)
theorem c_X10_come {S : SH} {d : Nat} {K : Option Value → AH → Prop} (hd : 4 ≤ d)  {r0 : Nat} {x1 : Int32} {x2 : Int32} {h : AH} (k : ok (f_X10_come S r0 x1 x2 h) (fun w h' => K (some (.int w)) h')) : CP S M_X10_come d 0 0 [.ref r0, .int x1, .int x2] h K := cp_of (by decide) (fun _ _ => trivial) (fun _ => Nat.le_of_ble_eq_true rfl) (s_X10_come hd  k)
def f_X10_chain (S : SH) (r0 : Nat) (x1 : Int32) (x2 : Int32) (x3 : Int32) (h : AH) : Option (Int32 × AH) :=
  (gR S h r0 10 2).bind fun p_1 =>
  (ckO S h p_1 6).bind fun _ =>
  (f_X6_hasBird S p_1 x1 h).bind fun z => match z with
  | (z_5, h_4) =>
  if z_5 = (0 : Int32) then
    some ((-1 : Int32), h_4)
  else
    (gR S h_4 r0 10 2).bind fun p_7 =>
    (ckO S h_4 p_7 6).bind fun _ =>
    (f_X6_hasBird S p_7 x2 h_4).bind fun z => match z with
    | (z_11, h_10) =>
    if z_11 = (0 : Int32) then
      some ((-1 : Int32), h_10)
    else
      (gR S h_10 r0 10 10).bind fun p_13 =>
      (gR S h_10 r0 10 2).bind fun p_15 =>
      (gR S h_10 p_15 6 0).bind fun p_17 =>
      (ckO S h_10 p_13 1).bind fun _ =>
      (f_X1_hops S p_13 p_17 x1 x2 h_10).bind fun z => match z with
      | (z_21, h_20) =>
      if x3 = (-1 : Int32) then
        some (z_21, h_20)
      else
        if z_21 = (-1 : Int32) then
          some (z_21, h_20)
        else
          if x3 < (0 : Int32) then
            some ((-1 : Int32), h_20)
          else
            if z_21 ≤ x3 then
              some ((-1 : Int32), h_20)
            else
              (gR S h_20 r0 10 10).bind fun p_26 =>
              (gR S h_20 r0 10 2).bind fun p_28 =>
              (gR S h_20 p_28 6 0).bind fun p_30 =>
              (ckO S h_20 p_26 1).bind fun _ =>
              (f_X1_chainBird S p_26 p_30 x1 x3 h_20).bind fun z => match z with
              | (z_34, h_33) =>
              some (z_34, h_33)
set_option maxHeartbeats 8000000 in
set_option maxRecDepth 20000 in
theorem s_X10_chain {S : SH} {d cb sb : Nat} {Q : Option Value → AH → Prop} (hd : 4 ≤ d)  {r0 : Nat} {x1 : Int32} {x2 : Int32} {x3 : Int32} {h : AH} (k : ok (f_X10_chain S r0 x1 x2 x3 h) (fun w h' => Q (some (.int w)) h')) : WP S M_X10_chain d cb sb Q 0 [.ref r0, .int x1, .int x2, .int x3, JK] [] h := by
  obtain ⟨d, rfl, he⟩ := dp (L := 3) hd
  unfold f_X10_chain at k
  refine wp_aload_n dX10_chain_0 rfl ?_
  replace k := ok_bind k
  obtain ⟨p_1, e_2, k⟩ := k
  refine wq_getR fl_X10_16 (Or.inl ⟨_, rfl⟩) dX10_chain_1 e_2 ?_
  refine wp_iload_n dX10_chain_4 rfl ?_
  replace k := ok_bind k
  obtain ⟨u, e_3, k⟩ := k
  refine wp_callV1 (N := M_X6_hasBird) (ci := 6) mf_X6_hasBird mi_X6_hasBird me_X6_hasBird ml_X10_113 dX10_chain_5 (ckO_e e_3) mv_X6_hasBird (by exact Nat.le_of_ble_eq_true rfl) (c_X6_hasBird (Nat.le_trans (by decide) he) (ok_mono (ok_bind2 k) fun z_5 h_4 k => ?_))
  try dsimp only at k
  refine wp_if_eq 22 dX10_chain_8 (by decide) (fun c_6 => ?_) (fun c_6 => ?_)
  · replace k := ok_t c_6 k
    refine wp_iconst dX10_chain_22 ic_m1 ?_
    refine wp_iret rfl rfl dX10_chain_23 ?_
    exact (ok_some k :)
  · replace k := ok_f c_6 k
    refine wp_aload_n dX10_chain_11 rfl ?_
    replace k := ok_bind k
    obtain ⟨p_7, e_8, k⟩ := k
    refine wq_getR fl_X10_16 (Or.inl ⟨_, rfl⟩) dX10_chain_12 e_8 ?_
    refine wp_iload_n dX10_chain_15 rfl ?_
    replace k := ok_bind k
    obtain ⟨u, e_9, k⟩ := k
    refine wp_callV1 (N := M_X6_hasBird) (ci := 6) mf_X6_hasBird mi_X6_hasBird me_X6_hasBird ml_X10_113 dX10_chain_16 (ckO_e e_9) mv_X6_hasBird (by exact Nat.le_of_ble_eq_true rfl) (c_X6_hasBird (Nat.le_trans (by decide) he) (ok_mono (ok_bind2 k) fun z_11 h_10 k => ?_))
    try dsimp only at k
    refine wp_if_ne 24 dX10_chain_19 (by decide) (fun c_12 => ?_) (fun c_12 => ?_)
    · replace k := ok_f c_12 k
      refine wp_aload_n dX10_chain_24 rfl ?_
      replace k := ok_bind k
      obtain ⟨p_13, e_14, k⟩ := k
      refine wq_getR fl_X10_63 (Or.inl ⟨_, rfl⟩) dX10_chain_25 e_14 ?_
      refine wp_aload_n dX10_chain_28 rfl ?_
      replace k := ok_bind k
      obtain ⟨p_15, e_16, k⟩ := k
      refine wq_getR fl_X10_16 (Or.inl ⟨_, rfl⟩) dX10_chain_29 e_16 ?_
      replace k := ok_bind k
      obtain ⟨p_17, e_18, k⟩ := k
      refine wq_getR fl_X10_120 (Or.inl ⟨_, rfl⟩) dX10_chain_32 e_18 ?_
      refine wp_iload_n dX10_chain_35 rfl ?_
      refine wp_iload_n dX10_chain_36 rfl ?_
      replace k := ok_bind k
      obtain ⟨u, e_19, k⟩ := k
      refine wp_callV3 (N := M_X1_hops) (ci := 1) mf_X1_hops mi_X1_hops me_X1_hops ml_X10_345 dX10_chain_37 (ckO_e e_19) mv_X1_hops (by exact Nat.le_of_ble_eq_true rfl) (c_X1_hops (Nat.le_trans (by decide) he) (ok_mono (ok_bind2 k) fun z_21 h_20 k => ?_))
      try dsimp only at k
      refine wp_istore dX10_chain_40 (by decide) (L1 := [_, _, _, _, _]) rfl ?_
      refine wp_iload_n dX10_chain_42 rfl ?_
      refine wp_iconst dX10_chain_43 ic_m1 ?_
      refine wp_icmp_eq 53 dX10_chain_44 (by decide) (fun c_22 => ?_) (fun c_22 => ?_)
      · replace k := ok_t c_22 k
        refine wp_iload dX10_chain_53 rfl ?_
        refine wp_iret rfl rfl dX10_chain_55 ?_
        exact (ok_some k :)
      · replace k := ok_f c_22 k
        refine wp_iload dX10_chain_47 rfl ?_
        refine wp_iconst dX10_chain_49 ic_m1 ?_
        refine wp_icmp_ne 56 dX10_chain_50 (by decide) (fun c_23 => ?_) (fun c_23 => ?_)
        · replace k := ok_f c_23 k
          refine wp_iload_n dX10_chain_56 rfl ?_
          refine wp_if_lt 85 dX10_chain_57 (by decide) (fun c_24 => ?_) (fun c_24 => ?_)
          · replace k := ok_t c_24 k
            refine wp_iconst dX10_chain_85 ic_m1 ?_
            refine wp_iret rfl rfl dX10_chain_86 ?_
            exact (ok_some k :)
          · replace k := ok_f c_24 k
            refine wp_iload_n dX10_chain_60 rfl ?_
            refine wp_iload dX10_chain_61 rfl ?_
            refine wp_icmp_ge 85 dX10_chain_63 (by decide) (fun c_25 => ?_) (fun c_25 => ?_)
            · replace k := ok_t c_25 k
              refine wp_iconst dX10_chain_85 ic_m1 ?_
              refine wp_iret rfl rfl dX10_chain_86 ?_
              exact (ok_some k :)
            · replace k := ok_f c_25 k
              refine wp_aload_n dX10_chain_66 rfl ?_
              replace k := ok_bind k
              obtain ⟨p_26, e_27, k⟩ := k
              refine wq_getR fl_X10_63 (Or.inl ⟨_, rfl⟩) dX10_chain_67 e_27 ?_
              refine wp_aload_n dX10_chain_70 rfl ?_
              replace k := ok_bind k
              obtain ⟨p_28, e_29, k⟩ := k
              refine wq_getR fl_X10_16 (Or.inl ⟨_, rfl⟩) dX10_chain_71 e_29 ?_
              replace k := ok_bind k
              obtain ⟨p_30, e_31, k⟩ := k
              refine wq_getR fl_X10_120 (Or.inl ⟨_, rfl⟩) dX10_chain_74 e_31 ?_
              refine wp_iload_n dX10_chain_77 rfl ?_
              refine wp_iload_n dX10_chain_78 rfl ?_
              replace k := ok_bind k
              obtain ⟨u, e_32, k⟩ := k
              refine wp_callV3 (N := M_X1_chainBird) (ci := 1) mf_X1_chainBird mi_X1_chainBird me_X1_chainBird ml_X10_348 dX10_chain_79 (ckO_e e_32) mv_X1_chainBird (by exact Nat.le_of_ble_eq_true rfl) (c_X1_chainBird (Nat.le_trans (by decide) he) (ok_mono (ok_bind2 k) fun z_34 h_33 k => ?_))
              try dsimp only at k
              refine wp_goto 86 dX10_chain_82 (by decide) ?_
              refine wp_iret rfl rfl dX10_chain_86 ?_
              exact (ok_some k :)
        · replace k := ok_t c_23 k
          refine wp_iload dX10_chain_53 rfl ?_
          refine wp_iret rfl rfl dX10_chain_55 ?_
          exact (ok_some k :)
    · replace k := ok_t c_12 k
      refine wp_iconst dX10_chain_22 ic_m1 ?_
      refine wp_iret rfl rfl dX10_chain_23 ?_
      exact (ok_some k :)
theorem c_X10_chain {S : SH} {d : Nat} {K : Option Value → AH → Prop} (hd : 4 ≤ d)  {r0 : Nat} {x1 : Int32} {x2 : Int32} {x3 : Int32} {h : AH} (k : ok (f_X10_chain S r0 x1 x2 x3 h) (fun w h' => K (some (.int w)) h')) : CP S M_X10_chain d 0 0 [.ref r0, .int x1, .int x2, .int x3] h K := cp_of (by decide) (fun _ _ => trivial) (fun _ => Nat.le_of_ble_eq_true rfl) (s_X10_chain hd  k)
def f_X10_ears (S : SH) (r0 : Nat) (x1 : Int32) (h : AH) : Option (Int32 × AH) :=
  (gR S h r0 10 10).bind fun p_1 =>
  (gR S h r0 10 2).bind fun p_3 =>
  (gR S h p_3 6 0).bind fun p_5 =>
  (ckO S h p_1 1).bind fun _ =>
  (f_X1_fewestEars S p_1 p_5 h).bind fun z => match z with
  | (z_9, h_8) =>
  (f_X10_howManyOrWho S z_9 x1 h_8).bind fun z => match z with
  | (z_11, h_10) =>
  some (z_11, h_10)
set_option maxHeartbeats 8000000 in
set_option maxRecDepth 20000 in
theorem s_X10_ears {S : SH} {d cb sb : Nat} {Q : Option Value → AH → Prop} (hd : 4 ≤ d)  {r0 : Nat} {x1 : Int32} {h : AH} (k : ok (f_X10_ears S r0 x1 h) (fun w h' => Q (some (.int w)) h')) : WP S M_X10_ears d cb sb Q 0 [.ref r0, .int x1] [] h := by
  obtain ⟨d, rfl, he⟩ := dp (L := 3) hd
  unfold f_X10_ears at k
  refine wp_aload_n dX10_ears_0 rfl ?_
  replace k := ok_bind k
  obtain ⟨p_1, e_2, k⟩ := k
  refine wq_getR fl_X10_63 (Or.inl ⟨_, rfl⟩) dX10_ears_1 e_2 ?_
  refine wp_aload_n dX10_ears_4 rfl ?_
  replace k := ok_bind k
  obtain ⟨p_3, e_4, k⟩ := k
  refine wq_getR fl_X10_16 (Or.inl ⟨_, rfl⟩) dX10_ears_5 e_4 ?_
  replace k := ok_bind k
  obtain ⟨p_5, e_6, k⟩ := k
  refine wq_getR fl_X10_120 (Or.inl ⟨_, rfl⟩) dX10_ears_8 e_6 ?_
  replace k := ok_bind k
  obtain ⟨u, e_7, k⟩ := k
  refine wp_callV1 (N := M_X1_fewestEars) (ci := 1) mf_X1_fewestEars mi_X1_fewestEars me_X1_fewestEars ml_X10_351 dX10_ears_11 (ckO_e e_7) mv_X1_fewestEars (by exact Nat.le_of_ble_eq_true rfl) (c_X1_fewestEars (Nat.le_trans (by decide) he) (ok_mono (ok_bind2 k) fun z_9 h_8 k => ?_))
  try dsimp only at k
  refine wp_iload_n dX10_ears_14 rfl ?_
  refine wp_callS2 (N := M_X10_howManyOrWho) mf_X10_howManyOrWho ms_X10_howManyOrWho ml_X10_342 dX10_ears_15 (by exact Nat.le_of_ble_eq_true rfl) (c_X10_howManyOrWho (Nat.le_trans (by decide) he) (ok_mono (ok_bind2 k) fun z_11 h_10 k => ?_))
  try dsimp only at k
  refine wp_iret rfl rfl dX10_ears_18 ?_
  exact (ok_some k :)
theorem c_X10_ears {S : SH} {d : Nat} {K : Option Value → AH → Prop} (hd : 4 ≤ d)  {r0 : Nat} {x1 : Int32} {h : AH} (k : ok (f_X10_ears S r0 x1 h) (fun w h' => K (some (.int w)) h')) : CP S M_X10_ears d 0 0 [.ref r0, .int x1] h K := cp_of (by decide) (fun _ _ => trivial) (fun _ => Nat.le_of_ble_eq_true rfl) (s_X10_ears hd  k)
def f_X10_loudest_l7b (S : SH) (rc : Nat → Int32 → Int32 → Int32 → Int32 → AH → Option ((Int32 × Int32 × Int32) × AH)) (r0 : Nat) (x1 : Int32) (x2 : Int32) (x3 : Int32) (x4 : Int32) (h : AH) : Option ((Int32 × Int32 × Int32) × AH) :=
  (gR S h r0 10 2).bind fun p_1 =>
  (gI S h p_1 6 1).bind fun v_3 =>
  if v_3 ≤ x4 then
    some ((x1, x2, x3), h)
  else
    (gR S h r0 10 10).bind fun p_6 =>
    (gR S h r0 10 2).bind fun p_8 =>
    (gR S h p_8 6 0).bind fun p_10 =>
    (ckO S h p_6 1).bind fun _ =>
    (f_X1_hearers S p_6 p_10 x4 h).bind fun z => match z with
    | (z_14, h_13) =>
    (f_J6_bitCount_0f7a4 S z_14 h_13).bind fun z => match z with
    | (z_16, h_15) =>
    if z_16 ≤ x3 then
      lt (x4 + (1 : Int32)) fun y_18 =>
      rc r0 x1 x2 x3 y_18 h_15
    else
      lt (x4 + (1 : Int32)) fun y_19 =>
      rc r0 x1 x4 z_16 y_19 h_15
set_option maxHeartbeats 8000000 in
set_option maxRecDepth 20000 in
theorem s_X10_loudest_l7b {S : SH} {d cb sb : Nat} {Q : Option Value → AH → Prop} (hd : 3 ≤ d) {K : (Int32 × Int32 × Int32) → AH → Prop} (hex : ∀ (x1 : Int32) (x2 : Int32) (x3 : Int32) (h' : AH), K (x1, x2, x3) h' → WP S M_X10_loudest d cb sb Q 58 [JK, .int x1, .int x2, .int x3, JK, JK] [] h') {rc : Nat → Int32 → Int32 → Int32 → Int32 → AH → Option ((Int32 × Int32 × Int32) × AH)} (hrec : ∀ (r0 : Nat) (x1 : Int32) (x2 : Int32) (x3 : Int32) (x4 : Int32) (h' : AH), ok (rc r0 x1 x2 x3 x4 h') K → WP S M_X10_loudest d cb sb Q 7 [.ref r0, .int x1, .int x2, .int x3, .int x4, JK] [] h') {r0 : Nat} {x1 : Int32} {x2 : Int32} {x3 : Int32} {x4 : Int32} {h : AH} (k : ok (f_X10_loudest_l7b S rc r0 x1 x2 x3 x4 h) K) : WP S M_X10_loudest d cb sb Q 7 [.ref r0, .int x1, .int x2, .int x3, .int x4, JK] [] h := by
  obtain ⟨d, rfl, he⟩ := dp (L := 2) hd
  unfold f_X10_loudest_l7b at k
  refine wp_iload dX10_loudest_7 rfl ?_
  refine wp_aload_n dX10_loudest_9 rfl ?_
  replace k := ok_bind k
  obtain ⟨p_1, e_2, k⟩ := k
  refine wq_getR fl_X10_16 (Or.inl ⟨_, rfl⟩) dX10_loudest_10 e_2 ?_
  replace k := ok_bind k
  obtain ⟨v_3, e_4, k⟩ := k
  refine wq_getI fl_X10_100 (Or.inl rfl) dX10_loudest_13 e_4 ?_
  refine wp_icmp_ge 58 dX10_loudest_16 (by decide) (fun c_5 => ?_) (fun c_5 => ?_)
  · replace k := ok_t c_5 k
    exact wp_wk (wkJ <| wkE <| wkE <| wkE <| wkJ <| wkJ <| wkN) (hex _ _ _ _ (ok_some k))
  · replace k := ok_f c_5 k
    refine wp_aload_n dX10_loudest_19 rfl ?_
    replace k := ok_bind k
    obtain ⟨p_6, e_7, k⟩ := k
    refine wq_getR fl_X10_63 (Or.inl ⟨_, rfl⟩) dX10_loudest_20 e_7 ?_
    refine wp_aload_n dX10_loudest_23 rfl ?_
    replace k := ok_bind k
    obtain ⟨p_8, e_9, k⟩ := k
    refine wq_getR fl_X10_16 (Or.inl ⟨_, rfl⟩) dX10_loudest_24 e_9 ?_
    replace k := ok_bind k
    obtain ⟨p_10, e_11, k⟩ := k
    refine wq_getR fl_X10_120 (Or.inl ⟨_, rfl⟩) dX10_loudest_27 e_11 ?_
    refine wp_iload dX10_loudest_30 rfl ?_
    replace k := ok_bind k
    obtain ⟨u, e_12, k⟩ := k
    refine wp_callV2 (N := M_X1_hearers) (ci := 1) mf_X1_hearers mi_X1_hearers me_X1_hearers ml_X10_354 dX10_loudest_32 (ckO_e e_12) mv_X1_hearers (by exact Nat.le_of_ble_eq_true rfl) (c_X1_hearers (Nat.le_trans (by decide) he) (ok_mono (ok_bind2 k) fun z_14 h_13 k => ?_))
    try dsimp only at k
    refine wp_callS1 (N := M_J6_bitCount_0f7a4) mf_J6_bitCount_0f7a4 ms_J6_bitCount_0f7a4 ml_X10_284 dX10_loudest_35 (by exact Nat.le_of_ble_eq_true rfl) (c_J6_bitCount_0f7a4 (Nat.le_trans (by decide) he) (ok_mono (ok_bind2 k) fun z_16 h_15 k => ?_))
    try dsimp only at k
    refine wp_istore dX10_loudest_38 (by decide) (L1 := [_, _, _, _, _, _]) rfl ?_
    refine wp_iload dX10_loudest_40 rfl ?_
    refine wp_iload_n dX10_loudest_42 rfl ?_
    refine wp_icmp_le 52 dX10_loudest_43 (by decide) (fun c_17 => ?_) (fun c_17 => ?_)
    · replace k := ok_t c_17 k
      replace k := ok_lt k
      refine wp_iinc dX10_loudest_52 rfl ic_1 (by decide) (L1 := [_, _, _, _, _, _]) rfl ?_
      refine wp_goto 7 dX10_loudest_55 (by decide) ?_
      exact wp_wk (wkE <| wkE <| wkE <| wkE <| wkE <| wkJ <| wkN) (hrec _ _ _ _ _ _ k)
    · replace k := ok_f c_17 k
      refine wp_iload dX10_loudest_46 rfl ?_
      refine wp_istore_n dX10_loudest_48 (by decide) (L1 := [_, _, _, _, _, _]) rfl ?_
      refine wp_iload dX10_loudest_49 rfl ?_
      refine wp_istore_n dX10_loudest_51 (by decide) (L1 := [_, _, _, _, _, _]) rfl ?_
      replace k := ok_lt k
      refine wp_iinc dX10_loudest_52 rfl ic_1 (by decide) (L1 := [_, _, _, _, _, _]) rfl ?_
      refine wp_goto 7 dX10_loudest_55 (by decide) ?_
      exact wp_wk (wkE <| wkE <| wkE <| wkE <| wkE <| wkJ <| wkN) (hrec _ _ _ _ _ _ k)
def f_X10_loudest_l7 (S : SH) : Nat → Nat → Int32 → Int32 → Int32 → Int32 → AH → Option ((Int32 × Int32 × Int32) × AH)
  | 0, _, _, _, _, _, _ => none
  | n + 1, r0, x1, x2, x3, x4, h => f_X10_loudest_l7b S (f_X10_loudest_l7 S n) r0 x1 x2 x3 x4 h
theorem s_X10_loudest_l7 {S : SH} {d cb sb : Nat} {Q : Option Value → AH → Prop} (hd : 3 ≤ d) {K : (Int32 × Int32 × Int32) → AH → Prop} (hex : ∀ (x1 : Int32) (x2 : Int32) (x3 : Int32) (h' : AH), K (x1, x2, x3) h' → WP S M_X10_loudest d cb sb Q 58 [JK, .int x1, .int x2, .int x3, JK, JK] [] h') : ∀ (n : Nat) (r0 : Nat) (x1 : Int32) (x2 : Int32) (x3 : Int32) (x4 : Int32) (h : AH), ok (f_X10_loudest_l7 S n r0 x1 x2 x3 x4 h) K → WP S M_X10_loudest d cb sb Q 7 [.ref r0, .int x1, .int x2, .int x3, .int x4, JK] [] h := by
  intro n
  induction n with
  | zero => intro r0 x1 x2 x3 x4 h k; exact ok_none k
  | succ n ih => intro r0 x1 x2 x3 x4 h k; exact s_X10_loudest_l7b hd hex (fun r0 x1 x2 x3 x4 h k => ih r0 x1 x2 x3 x4 h k) k
def f_X10_loudest (S : SH) (r0 : Nat) (x1 : Int32) (h : AH) : Option (Int32 × AH) :=
  (f_X10_loudest_l7 S FU r0 x1 (-1 : Int32) (-1 : Int32) (0 : Int32) h).bind fun z => match z with
  | ((x1_2, x2_3, x3_4), h_1) =>
  if x1_2 = (0 : Int32) then
    some (x2_3, h_1)
  else
    if x1_2 = (1 : Int32) then
      some (x3_4, h_1)
    else
      some ((-1 : Int32), h_1)
set_option maxHeartbeats 8000000 in
set_option maxRecDepth 20000 in
theorem s_X10_loudest {S : SH} {d cb sb : Nat} {Q : Option Value → AH → Prop} (hd : 3 ≤ d)  {r0 : Nat} {x1 : Int32} {h : AH} (k : ok (f_X10_loudest S r0 x1 h) (fun w h' => Q (some (.int w)) h')) : WP S M_X10_loudest d cb sb Q 0 [.ref r0, .int x1, JK, JK, JK, JK] [] h := by
  obtain ⟨d, rfl, he⟩ := dp (L := 2) hd
  unfold f_X10_loudest at k
  refine wp_iconst dX10_loudest_0 ic_m1 ?_
  refine wp_istore_n dX10_loudest_1 (by decide) (L1 := [_, _, _, _, _, _]) rfl ?_
  refine wp_iconst dX10_loudest_2 ic_m1 ?_
  refine wp_istore_n dX10_loudest_3 (by decide) (L1 := [_, _, _, _, _, _]) rfl ?_
  refine wp_iconst dX10_loudest_4 ic_0 ?_
  refine wp_istore dX10_loudest_5 (by decide) (L1 := [_, _, _, _, _, _]) rfl ?_
  refine wp_wk (wkE <| wkE <| wkE <| wkE <| wkE <| wkJ <| wkN) ?_
  refine s_X10_loudest_l7 (Nat.succ_le_succ he) (fun x1_2 x2_3 x3_4 h_1 k => ?_) FU _ _ _ _ _ _ (ok_bind2 k)
  try dsimp only at k
  refine wp_iload_n dX10_loudest_58 rfl ?_
  refine wp_if_ne 66 dX10_loudest_59 (by decide) (fun c_5 => ?_) (fun c_5 => ?_)
  · replace k := ok_f c_5 k
    refine wp_iload_n dX10_loudest_66 rfl ?_
    refine wp_iconst dX10_loudest_67 ic_1 ?_
    refine wp_icmp_ne 75 dX10_loudest_68 (by decide) (fun c_6 => ?_) (fun c_6 => ?_)
    · replace k := ok_f c_6 k
      refine wp_iconst dX10_loudest_75 ic_m1 ?_
      refine wp_iret rfl rfl dX10_loudest_76 ?_
      exact (ok_some k :)
    · replace k := ok_t c_6 k
      refine wp_iload_n dX10_loudest_71 rfl ?_
      refine wp_goto 76 dX10_loudest_72 (by decide) ?_
      refine wp_iret rfl rfl dX10_loudest_76 ?_
      exact (ok_some k :)
  · replace k := ok_t c_5 k
    refine wp_iload_n dX10_loudest_62 rfl ?_
    refine wp_goto 76 dX10_loudest_63 (by decide) ?_
    refine wp_iret rfl rfl dX10_loudest_76 ?_
    exact (ok_some k :)
theorem c_X10_loudest {S : SH} {d : Nat} {K : Option Value → AH → Prop} (hd : 3 ≤ d)  {r0 : Nat} {x1 : Int32} {h : AH} (k : ok (f_X10_loudest S r0 x1 h) (fun w h' => K (some (.int w)) h')) : CP S M_X10_loudest d 0 0 [.ref r0, .int x1] h K := cp_of (by decide) (fun _ _ => trivial) (fun _ => Nat.le_of_ble_eq_true rfl) (s_X10_loudest hd  k)
def f_X10_nearest_l61_j94 (S : SH) (rc : Nat → Int32 → Int32 → Int32 → Int32 → Int32 → AH → Option (Int32 × AH)) (r0 : Nat) (x1 : Int32) (x2 : Int32) (x3 : Int32) (x4 : Int32) (x5 : Int32) (h : AH) : Option (Int32 × AH) :=
  (gR S h r0 10 7).bind fun p_1 =>
  (gR S h p_1 7 0).bind fun p_3 =>
  (sI S h p_3 x1 x5).bind fun h_5 =>
  (gR S h_5 r0 10 10).bind fun p_7 =>
  (gR S h_5 r0 10 7).bind fun p_9 =>
  (gR S h_5 r0 10 2).bind fun p_11 =>
  (ckO S h_5 p_11 6).bind fun _ =>
  (f_X6_lawInForce S p_11 h_5).bind fun z => match z with
  | (z_15, h_14) =>
  (ckO S h_14 p_7 1).bind fun _ =>
  (f_X1_vote S p_7 p_9 x1 x2 z_15 h_14).bind fun z => match z with
  | (z_18, h_17) =>
  if z_18 = (0 : Int32) then
    lt (x5 + (1 : Int32)) fun y_20 =>
    rc r0 x1 x2 x3 x4 y_20 h_17
  else
    (gR S h_17 r0 10 10).bind fun p_21 =>
    (gR S h_17 r0 10 7).bind fun p_23 =>
    (ckO S h_17 p_21 1).bind fun _ =>
    (f_X1_seconder S p_21 p_23 x2 x1 h_17).bind fun z => match z with
    | (z_27, h_26) =>
    if z_27 = (-1 : Int32) then
      lt (x5 + (1 : Int32)) fun y_29 =>
      rc r0 x1 x2 x3 x4 y_29 h_26
    else
      lt (x5 + (1 : Int32)) fun y_30 =>
      rc r0 x1 x2 x3 x5 y_30 h_26
set_option maxHeartbeats 8000000 in
set_option maxRecDepth 20000 in
theorem s_X10_nearest_l61_j94 {S : SH} {d cb sb : Nat} {Q : Option Value → AH → Prop} (hd : 4 ≤ d) {K : Int32 → AH → Prop} (hex : ∀ (x4 : Int32) (h' : AH), K x4 h' → WP S M_X10_nearest d cb sb Q 155 [JK, JK, JK, JK, .int x4, JK] [] h') {rc : Nat → Int32 → Int32 → Int32 → Int32 → Int32 → AH → Option (Int32 × AH)} (hrec : ∀ (r0 : Nat) (x1 : Int32) (x2 : Int32) (x3 : Int32) (x4 : Int32) (x5 : Int32) (h' : AH), ok (rc r0 x1 x2 x3 x4 x5 h') K → WP S M_X10_nearest d cb sb Q 61 [.ref r0, .int x1, .int x2, .int x3, .int x4, .int x5] [] h') {r0 : Nat} {x1 : Int32} {x2 : Int32} {x3 : Int32} {x4 : Int32} {x5 : Int32} {h : AH} (k : ok (f_X10_nearest_l61_j94 S rc r0 x1 x2 x3 x4 x5 h) K) : WP S M_X10_nearest d cb sb Q 94 [.ref r0, .int x1, .int x2, .int x3, .int x4, .int x5] [] h := by
  obtain ⟨d, rfl, he⟩ := dp (L := 3) hd
  unfold f_X10_nearest_l61_j94 at k
  refine wp_aload_n dX10_nearest_94 rfl ?_
  replace k := ok_bind k
  obtain ⟨p_1, e_2, k⟩ := k
  refine wq_getR fl_X10_41 (Or.inl ⟨_, rfl⟩) dX10_nearest_95 e_2 ?_
  replace k := ok_bind k
  obtain ⟨p_3, e_4, k⟩ := k
  refine wq_getR fl_X10_123 (Or.inr ⟨_, rfl⟩) dX10_nearest_98 e_4 ?_
  refine wp_iload_n dX10_nearest_101 rfl ?_
  refine wp_iload dX10_nearest_102 rfl ?_
  replace k := ok_bind k
  obtain ⟨h_5, e_6, k⟩ := k
  refine wq_sI dX10_nearest_104 e_6 ?_
  refine wp_aload_n dX10_nearest_105 rfl ?_
  replace k := ok_bind k
  obtain ⟨p_7, e_8, k⟩ := k
  refine wq_getR fl_X10_63 (Or.inl ⟨_, rfl⟩) dX10_nearest_106 e_8 ?_
  refine wp_aload_n dX10_nearest_109 rfl ?_
  replace k := ok_bind k
  obtain ⟨p_9, e_10, k⟩ := k
  refine wq_getR fl_X10_41 (Or.inl ⟨_, rfl⟩) dX10_nearest_110 e_10 ?_
  refine wp_iload_n dX10_nearest_113 rfl ?_
  refine wp_iload_n dX10_nearest_114 rfl ?_
  refine wp_aload_n dX10_nearest_115 rfl ?_
  replace k := ok_bind k
  obtain ⟨p_11, e_12, k⟩ := k
  refine wq_getR fl_X10_16 (Or.inl ⟨_, rfl⟩) dX10_nearest_116 e_12 ?_
  replace k := ok_bind k
  obtain ⟨u, e_13, k⟩ := k
  refine wp_callV0 (N := M_X6_lawInForce) (ci := 6) mf_X6_lawInForce mi_X6_lawInForce me_X6_lawInForce ml_X10_140 dX10_nearest_119 (ckO_e e_13) mv_X6_lawInForce (by exact Nat.le_of_ble_eq_true rfl) (c_X6_lawInForce (Nat.le_trans (by decide) he) (ok_mono (ok_bind2 k) fun z_15 h_14 k => ?_))
  try dsimp only at k
  replace k := ok_bind k
  obtain ⟨u, e_16, k⟩ := k
  refine wp_callV4 (N := M_X1_vote) (ci := 1) mf_X1_vote mi_X1_vote me_X1_vote ml_X10_144 dX10_nearest_122 (ckO_e e_16) mv_X1_vote (by exact Nat.le_of_ble_eq_true rfl) (c_X1_vote (Nat.le_trans (by decide) he) (ok_mono (ok_bind2 k) fun z_18 h_17 k => ?_))
  try dsimp only at k
  refine wp_if_eq 149 dX10_nearest_125 (by decide) (fun c_19 => ?_) (fun c_19 => ?_)
  · replace k := ok_t c_19 k
    replace k := ok_lt k
    refine wp_iinc dX10_nearest_149 rfl ic_1 (by decide) (L1 := [_, _, _, _, _, _]) rfl ?_
    refine wp_goto 61 dX10_nearest_152 (by decide) ?_
    exact wp_wk (wkE <| wkE <| wkE <| wkE <| wkE <| wkE <| wkN) (hrec _ _ _ _ _ _ _ k)
  · replace k := ok_f c_19 k
    refine wp_aload_n dX10_nearest_128 rfl ?_
    replace k := ok_bind k
    obtain ⟨p_21, e_22, k⟩ := k
    refine wq_getR fl_X10_63 (Or.inl ⟨_, rfl⟩) dX10_nearest_129 e_22 ?_
    refine wp_aload_n dX10_nearest_132 rfl ?_
    replace k := ok_bind k
    obtain ⟨p_23, e_24, k⟩ := k
    refine wq_getR fl_X10_41 (Or.inl ⟨_, rfl⟩) dX10_nearest_133 e_24 ?_
    refine wp_iload_n dX10_nearest_136 rfl ?_
    refine wp_iload_n dX10_nearest_137 rfl ?_
    replace k := ok_bind k
    obtain ⟨u, e_25, k⟩ := k
    refine wp_callV3 (N := M_X1_seconder) (ci := 1) mf_X1_seconder mi_X1_seconder me_X1_seconder ml_X10_316 dX10_nearest_138 (ckO_e e_25) mv_X1_seconder (by exact Nat.le_of_ble_eq_true rfl) (c_X1_seconder (Nat.le_trans (by decide) he) (ok_mono (ok_bind2 k) fun z_27 h_26 k => ?_))
    try dsimp only at k
    refine wp_iconst dX10_nearest_141 ic_m1 ?_
    refine wp_icmp_eq 149 dX10_nearest_142 (by decide) (fun c_28 => ?_) (fun c_28 => ?_)
    · replace k := ok_t c_28 k
      replace k := ok_lt k
      refine wp_iinc dX10_nearest_149 rfl ic_1 (by decide) (L1 := [_, _, _, _, _, _]) rfl ?_
      refine wp_goto 61 dX10_nearest_152 (by decide) ?_
      exact wp_wk (wkE <| wkE <| wkE <| wkE <| wkE <| wkE <| wkN) (hrec _ _ _ _ _ _ _ k)
    · replace k := ok_f c_28 k
      refine wp_iload dX10_nearest_145 rfl ?_
      refine wp_istore dX10_nearest_147 (by decide) (L1 := [_, _, _, _, _, _]) rfl ?_
      replace k := ok_lt k
      refine wp_iinc dX10_nearest_149 rfl ic_1 (by decide) (L1 := [_, _, _, _, _, _]) rfl ?_
      refine wp_goto 61 dX10_nearest_152 (by decide) ?_
      exact wp_wk (wkE <| wkE <| wkE <| wkE <| wkE <| wkE <| wkN) (hrec _ _ _ _ _ _ _ k)
def f_X10_nearest_l61b (S : SH) (rc : Nat → Int32 → Int32 → Int32 → Int32 → Int32 → AH → Option (Int32 × AH)) (r0 : Nat) (x1 : Int32) (x2 : Int32) (x3 : Int32) (x4 : Int32) (x5 : Int32) (h : AH) : Option (Int32 × AH) :=
  if (20 : Int32) ≤ x5 then
    some (x4, h)
  else
    if x4 = (-1 : Int32) then
      f_X10_nearest_l61_j94 S rc r0 x1 x2 x3 x4 x5 h
    else
      if (abI (x5 - x3)) < (abI (x4 - x3)) then
        f_X10_nearest_l61_j94 S rc r0 x1 x2 x3 x4 x5 h
      else
        lt (x5 + (1 : Int32)) fun y_4 =>
        rc r0 x1 x2 x3 x4 y_4 h
set_option maxHeartbeats 8000000 in
set_option maxRecDepth 20000 in
theorem s_X10_nearest_l61b {S : SH} {d cb sb : Nat} {Q : Option Value → AH → Prop} (hd : 4 ≤ d) {K : Int32 → AH → Prop} (hex : ∀ (x4 : Int32) (h' : AH), K x4 h' → WP S M_X10_nearest d cb sb Q 155 [JK, JK, JK, JK, .int x4, JK] [] h') {rc : Nat → Int32 → Int32 → Int32 → Int32 → Int32 → AH → Option (Int32 × AH)} (hrec : ∀ (r0 : Nat) (x1 : Int32) (x2 : Int32) (x3 : Int32) (x4 : Int32) (x5 : Int32) (h' : AH), ok (rc r0 x1 x2 x3 x4 x5 h') K → WP S M_X10_nearest d cb sb Q 61 [.ref r0, .int x1, .int x2, .int x3, .int x4, .int x5] [] h') {r0 : Nat} {x1 : Int32} {x2 : Int32} {x3 : Int32} {x4 : Int32} {x5 : Int32} {h : AH} (k : ok (f_X10_nearest_l61b S rc r0 x1 x2 x3 x4 x5 h) K) : WP S M_X10_nearest d cb sb Q 61 [.ref r0, .int x1, .int x2, .int x3, .int x4, .int x5] [] h := by
  obtain ⟨d, rfl, he⟩ := dp (L := 3) hd
  unfold f_X10_nearest_l61b at k
  refine wp_iload dX10_nearest_61 rfl ?_
  refine wp_bipush dX10_nearest_63 bp_20 ?_
  refine wp_icmp_ge 155 dX10_nearest_65 (by decide) (fun c_1 => ?_) (fun c_1 => ?_)
  · replace k := ok_t c_1 k
    exact wp_wk (wkJ <| wkJ <| wkJ <| wkJ <| wkE <| wkJ <| wkN) (hex _ _ (ok_some k))
  · replace k := ok_f c_1 k
    refine wp_iload dX10_nearest_68 rfl ?_
    refine wp_iconst dX10_nearest_70 ic_m1 ?_
    refine wp_icmp_eq 94 dX10_nearest_71 (by decide) (fun c_2 => ?_) (fun c_2 => ?_)
    · replace k := ok_t c_2 k
      exact wp_wk (wkE <| wkE <| wkE <| wkE <| wkE <| wkE <| wkN) (s_X10_nearest_l61_j94 (Nat.succ_le_succ he) hex hrec k)
    · replace k := ok_f c_2 k
      refine wp_iload dX10_nearest_74 rfl ?_
      refine wp_iload_n dX10_nearest_76 rfl ?_
      refine wp_isub dX10_nearest_77 ?_
      refine wp_mabs ml_X10_362 mm_abs mini mc_abs (by exact Nat.le_of_ble_eq_true rfl) dX10_nearest_78 ?_
      refine wp_iload dX10_nearest_81 rfl ?_
      refine wp_iload_n dX10_nearest_83 rfl ?_
      refine wp_isub dX10_nearest_84 ?_
      refine wp_mabs ml_X10_362 mm_abs mini mc_abs (by exact Nat.le_of_ble_eq_true rfl) dX10_nearest_85 ?_
      refine wp_icmp_lt 94 dX10_nearest_88 (by decide) (fun c_3 => ?_) (fun c_3 => ?_)
      · replace k := ok_t c_3 k
        exact wp_wk (wkE <| wkE <| wkE <| wkE <| wkE <| wkE <| wkN) (s_X10_nearest_l61_j94 (Nat.succ_le_succ he) hex hrec k)
      · replace k := ok_f c_3 k
        refine wp_goto 149 dX10_nearest_91 (by decide) ?_
        replace k := ok_lt k
        refine wp_iinc dX10_nearest_149 rfl ic_1 (by decide) (L1 := [_, _, _, _, _, _]) rfl ?_
        refine wp_goto 61 dX10_nearest_152 (by decide) ?_
        exact wp_wk (wkE <| wkE <| wkE <| wkE <| wkE <| wkE <| wkN) (hrec _ _ _ _ _ _ _ k)
def f_X10_nearest_l61 (S : SH) : Nat → Nat → Int32 → Int32 → Int32 → Int32 → Int32 → AH → Option (Int32 × AH)
  | 0, _, _, _, _, _, _, _ => none
  | n + 1, r0, x1, x2, x3, x4, x5, h => f_X10_nearest_l61b S (f_X10_nearest_l61 S n) r0 x1 x2 x3 x4 x5 h
theorem s_X10_nearest_l61 {S : SH} {d cb sb : Nat} {Q : Option Value → AH → Prop} (hd : 4 ≤ d) {K : Int32 → AH → Prop} (hex : ∀ (x4 : Int32) (h' : AH), K x4 h' → WP S M_X10_nearest d cb sb Q 155 [JK, JK, JK, JK, .int x4, JK] [] h') : ∀ (n : Nat) (r0 : Nat) (x1 : Int32) (x2 : Int32) (x3 : Int32) (x4 : Int32) (x5 : Int32) (h : AH), ok (f_X10_nearest_l61 S n r0 x1 x2 x3 x4 x5 h) K → WP S M_X10_nearest d cb sb Q 61 [.ref r0, .int x1, .int x2, .int x3, .int x4, .int x5] [] h := by
  intro n
  induction n with
  | zero => intro r0 x1 x2 x3 x4 x5 h k; exact ok_none k
  | succ n ih => intro r0 x1 x2 x3 x4 x5 h k; exact s_X10_nearest_l61b hd hex (fun r0 x1 x2 x3 x4 x5 h k => ih r0 x1 x2 x3 x4 x5 h k) k
def f_X10_nearest (S : SH) (r0 : Nat) (x1 : Int32) (x2 : Int32) (h : AH) : Option (Int32 × AH) :=
  (gR S h r0 10 2).bind fun p_1 =>
  (ckO S h p_1 6).bind fun _ =>
  (f_X6_hasBird S p_1 x1 h).bind fun z => match z with
  | (z_5, h_4) =>
  if z_5 = (0 : Int32) then
    some ((-1 : Int32), h_4)
  else
    (gR S h_4 r0 10 2).bind fun p_7 =>
    (ckO S h_4 p_7 6).bind fun _ =>
    (f_X6_hasMatter S p_7 x2 h_4).bind fun z => match z with
    | (z_11, h_10) =>
    if z_11 = (0 : Int32) then
      some ((-1 : Int32), h_10)
    else
      (gR S h_10 r0 10 2).bind fun p_13 =>
      (gR S h_10 p_13 6 0).bind fun p_15 =>
      (gR S h_10 p_15 7 0).bind fun p_17 =>
      (aI S h_10 p_17 x1).bind fun v_19 =>
      lt ((mxI (0 : Int32) v_19)) fun y_21 =>
      (gR S h_10 r0 10 7).bind fun p_22 =>
      (gR S h_10 r0 10 2).bind fun p_24 =>
      (gR S h_10 p_24 6 0).bind fun p_26 =>
      (ckO S h_10 p_22 7).bind fun _ =>
      (f_X7_become S p_22 p_26 h_10).bind fun z => match z with
      | (_, h_29) =>
      (f_X10_nearest_l61 S FU r0 x1 x2 y_21 (-1 : Int32) (0 : Int32) h_29).bind fun z => match z with
      | (x4_32, h_31) =>
      some (x4_32, h_31)
set_option maxHeartbeats 8000000 in
set_option maxRecDepth 20000 in
theorem s_X10_nearest {S : SH} {d cb sb : Nat} {Q : Option Value → AH → Prop} (hd : 4 ≤ d)  {r0 : Nat} {x1 : Int32} {x2 : Int32} {h : AH} (k : ok (f_X10_nearest S r0 x1 x2 h) (fun w h' => Q (some (.int w)) h')) : WP S M_X10_nearest d cb sb Q 0 [.ref r0, .int x1, .int x2, JK, JK, JK] [] h := by
  obtain ⟨d, rfl, he⟩ := dp (L := 3) hd
  unfold f_X10_nearest at k
  refine wp_aload_n dX10_nearest_0 rfl ?_
  replace k := ok_bind k
  obtain ⟨p_1, e_2, k⟩ := k
  refine wq_getR fl_X10_16 (Or.inl ⟨_, rfl⟩) dX10_nearest_1 e_2 ?_
  refine wp_iload_n dX10_nearest_4 rfl ?_
  replace k := ok_bind k
  obtain ⟨u, e_3, k⟩ := k
  refine wp_callV1 (N := M_X6_hasBird) (ci := 6) mf_X6_hasBird mi_X6_hasBird me_X6_hasBird ml_X10_113 dX10_nearest_5 (ckO_e e_3) mv_X6_hasBird (by exact Nat.le_of_ble_eq_true rfl) (c_X6_hasBird (Nat.le_trans (by decide) he) (ok_mono (ok_bind2 k) fun z_5 h_4 k => ?_))
  try dsimp only at k
  refine wp_if_eq 22 dX10_nearest_8 (by decide) (fun c_6 => ?_) (fun c_6 => ?_)
  · replace k := ok_t c_6 k
    refine wp_iconst dX10_nearest_22 ic_m1 ?_
    refine wp_iret rfl rfl dX10_nearest_23 ?_
    exact (ok_some k :)
  · replace k := ok_f c_6 k
    refine wp_aload_n dX10_nearest_11 rfl ?_
    replace k := ok_bind k
    obtain ⟨p_7, e_8, k⟩ := k
    refine wq_getR fl_X10_16 (Or.inl ⟨_, rfl⟩) dX10_nearest_12 e_8 ?_
    refine wp_iload_n dX10_nearest_15 rfl ?_
    replace k := ok_bind k
    obtain ⟨u, e_9, k⟩ := k
    refine wp_callV1 (N := M_X6_hasMatter) (ci := 6) mf_X6_hasMatter mi_X6_hasMatter me_X6_hasMatter ml_X10_133 dX10_nearest_16 (ckO_e e_9) mv_X6_hasMatter (by exact Nat.le_of_ble_eq_true rfl) (c_X6_hasMatter (Nat.le_trans (by decide) he) (ok_mono (ok_bind2 k) fun z_11 h_10 k => ?_))
    try dsimp only at k
    refine wp_if_ne 24 dX10_nearest_19 (by decide) (fun c_12 => ?_) (fun c_12 => ?_)
    · replace k := ok_f c_12 k
      refine wp_iconst dX10_nearest_24 ic_0 ?_
      refine wp_aload_n dX10_nearest_25 rfl ?_
      replace k := ok_bind k
      obtain ⟨p_13, e_14, k⟩ := k
      refine wq_getR fl_X10_16 (Or.inl ⟨_, rfl⟩) dX10_nearest_26 e_14 ?_
      replace k := ok_bind k
      obtain ⟨p_15, e_16, k⟩ := k
      refine wq_getR fl_X10_120 (Or.inl ⟨_, rfl⟩) dX10_nearest_29 e_16 ?_
      replace k := ok_bind k
      obtain ⟨p_17, e_18, k⟩ := k
      refine wq_getR fl_X10_123 (Or.inr ⟨_, rfl⟩) dX10_nearest_32 e_18 ?_
      refine wp_iload_n dX10_nearest_35 rfl ?_
      replace k := ok_bind k
      obtain ⟨v_19, e_20, k⟩ := k
      refine wq_aI dX10_nearest_36 e_20 ?_
      refine wp_mmax ml_X10_357 mm_max mini mc_max (by exact Nat.le_of_ble_eq_true rfl) dX10_nearest_37 ?_
      replace k := ok_lt k
      refine wp_istore_n dX10_nearest_40 (by decide) (L1 := [_, _, _, _, _, _]) rfl ?_
      refine wp_iconst dX10_nearest_41 ic_m1 ?_
      refine wp_istore dX10_nearest_42 (by decide) (L1 := [_, _, _, _, _, _]) rfl ?_
      refine wp_aload_n dX10_nearest_44 rfl ?_
      replace k := ok_bind k
      obtain ⟨p_22, e_23, k⟩ := k
      refine wq_getR fl_X10_41 (Or.inl ⟨_, rfl⟩) dX10_nearest_45 e_23 ?_
      refine wp_aload_n dX10_nearest_48 rfl ?_
      replace k := ok_bind k
      obtain ⟨p_24, e_25, k⟩ := k
      refine wq_getR fl_X10_16 (Or.inl ⟨_, rfl⟩) dX10_nearest_49 e_25 ?_
      replace k := ok_bind k
      obtain ⟨p_26, e_27, k⟩ := k
      refine wq_getR fl_X10_120 (Or.inl ⟨_, rfl⟩) dX10_nearest_52 e_27 ?_
      replace k := ok_bind k
      obtain ⟨u, e_28, k⟩ := k
      refine wp_callV1 (N := M_X7_become) (ci := 7) mf_X7_become mi_X7_become me_X7_become ml_X10_176 dX10_nearest_55 (ckO_e e_28) mv_X7_become (by exact Nat.le_of_ble_eq_true rfl) (c_X7_become (Nat.le_trans (by decide) he) (ok_mono (ok_bind2 k) fun _ h_29 k => ?_))
      try dsimp only at k
      refine wp_iconst dX10_nearest_58 ic_0 ?_
      refine wp_istore dX10_nearest_59 (by decide) (L1 := [_, _, _, _, _, _]) rfl ?_
      refine wp_wk (wkE <| wkE <| wkE <| wkE <| wkE <| wkE <| wkN) ?_
      refine s_X10_nearest_l61 (Nat.succ_le_succ he) (fun x4_32 h_31 k => ?_) FU _ _ _ _ _ _ _ (ok_bind2 k)
      try dsimp only at k
      refine wp_iload dX10_nearest_155 rfl ?_
      refine wp_iret rfl rfl dX10_nearest_157 ?_
      exact (ok_some k :)
    · replace k := ok_t c_12 k
      refine wp_iconst dX10_nearest_22 ic_m1 ?_
      refine wp_iret rfl rfl dX10_nearest_23 ?_
      exact (ok_some k :)
theorem c_X10_nearest {S : SH} {d : Nat} {K : Option Value → AH → Prop} (hd : 4 ≤ d)  {r0 : Nat} {x1 : Int32} {x2 : Int32} {h : AH} (k : ok (f_X10_nearest S r0 x1 x2 h) (fun w h' => K (some (.int w)) h')) : CP S M_X10_nearest d 0 0 [.ref r0, .int x1, .int x2] h K := cp_of (by decide) (fun _ _ => trivial) (fun _ => Nat.le_of_ble_eq_true rfl) (s_X10_nearest hd  k)
def f_X10_heard (S : SH) (r0 : Nat) (x1 : Int32) (h : AH) : Option (Int32 × AH) :=
  if x1 < (0 : Int32) then
    (ckO S h r0 10).bind fun _ =>
    (f_X10_refuse S r0 (-1 : Int32) h).bind fun z => match z with
    | (z_4, h_3) =>
    some (z_4, h_3)
  else
    if x1 ≤ (7 : Int32) then
      (gR S h r0 10 2).bind fun p_6 =>
      (gI S h p_6 6 10).bind fun v_8 =>
      if v_8 < (6 : Int32) then
        (gR S h r0 10 2).bind fun p_11 =>
        (ckO S h p_11 6).bind fun _ =>
        (f_X6_hear S p_11 x1 h).bind fun z => match z with
        | (_, h_14) =>
        (gR S h_14 r0 10 2).bind fun p_16 =>
        (gI S h_14 p_16 6 10).bind fun v_18 =>
        (ckO S h_14 r0 10).bind fun _ =>
        (f_X10_accept S r0 v_18 h_14).bind fun z => match z with
        | (z_22, h_21) =>
        some (z_22, h_21)
      else
        (ckO S h r0 10).bind fun _ =>
        (f_X10_refuse S r0 (-5 : Int32) h).bind fun z => match z with
        | (z_25, h_24) =>
        some (z_25, h_24)
    else
      (ckO S h r0 10).bind fun _ =>
      (f_X10_refuse S r0 (-1 : Int32) h).bind fun z => match z with
      | (z_28, h_27) =>
      some (z_28, h_27)
set_option maxHeartbeats 8000000 in
set_option maxRecDepth 20000 in
theorem s_X10_heard {S : SH} {d cb sb : Nat} {Q : Option Value → AH → Prop} (hd : 1 ≤ d)  {r0 : Nat} {x1 : Int32} {h : AH} (k : ok (f_X10_heard S r0 x1 h) (fun w h' => Q (some (.int w)) h')) : WP S M_X10_heard d cb sb Q 0 [.ref r0, .int x1] [] h := by
  obtain ⟨d, rfl, he⟩ := dp (L := 0) hd
  unfold f_X10_heard at k
  refine wp_iload_n dX10_heard_0 rfl ?_
  refine wp_if_lt 10 dX10_heard_1 (by decide) (fun c_1 => ?_) (fun c_1 => ?_)
  · replace k := ok_t c_1 k
    refine wp_aload_n dX10_heard_10 rfl ?_
    refine wp_iconst dX10_heard_11 ic_m1 ?_
    replace k := ok_bind k
    obtain ⟨u, e_2, k⟩ := k
    refine wp_callV1 (N := M_X10_refuse) (ci := 10) mf_X10_refuse mi_X10_refuse me_X10_refuse ml_X10_96 dX10_heard_12 (ckO_e e_2) mv_X10_refuse (by exact Nat.le_of_ble_eq_true rfl) (c_X10_refuse (Nat.le_trans (by decide) he) (ok_mono (ok_bind2 k) fun z_4 h_3 k => ?_))
    try dsimp only at k
    refine wp_iret rfl rfl dX10_heard_15 ?_
    exact (ok_some k :)
  · replace k := ok_f c_1 k
    refine wp_iload_n dX10_heard_4 rfl ?_
    refine wp_bipush dX10_heard_5 bp_7 ?_
    refine wp_icmp_le 16 dX10_heard_7 (by decide) (fun c_5 => ?_) (fun c_5 => ?_)
    · replace k := ok_t c_5 k
      refine wp_aload_n dX10_heard_16 rfl ?_
      replace k := ok_bind k
      obtain ⟨p_6, e_7, k⟩ := k
      refine wq_getR fl_X10_16 (Or.inl ⟨_, rfl⟩) dX10_heard_17 e_7 ?_
      replace k := ok_bind k
      obtain ⟨v_8, e_9, k⟩ := k
      refine wq_getI fl_X10_365 (Or.inl rfl) dX10_heard_20 e_9 ?_
      refine wp_bipush dX10_heard_23 bp_6 ?_
      refine wp_icmp_lt 35 dX10_heard_25 (by decide) (fun c_10 => ?_) (fun c_10 => ?_)
      · replace k := ok_t c_10 k
        refine wp_aload_n dX10_heard_35 rfl ?_
        replace k := ok_bind k
        obtain ⟨p_11, e_12, k⟩ := k
        refine wq_getR fl_X10_16 (Or.inl ⟨_, rfl⟩) dX10_heard_36 e_12 ?_
        refine wp_iload_n dX10_heard_39 rfl ?_
        replace k := ok_bind k
        obtain ⟨u, e_13, k⟩ := k
        refine wp_callV1 (N := M_X6_hear) (ci := 6) mf_X6_hear mi_X6_hear me_X6_hear ml_X10_368 dX10_heard_40 (ckO_e e_13) mv_X6_hear (by exact Nat.le_of_ble_eq_true rfl) (c_X6_hear (Nat.le_trans (by decide) he) (ok_mono (ok_bind2 k) fun _ h_14 k => ?_))
        try dsimp only at k
        refine wp_aload_n dX10_heard_43 rfl ?_
        refine wp_aload_n dX10_heard_44 rfl ?_
        replace k := ok_bind k
        obtain ⟨p_16, e_17, k⟩ := k
        refine wq_getR fl_X10_16 (Or.inl ⟨_, rfl⟩) dX10_heard_45 e_17 ?_
        replace k := ok_bind k
        obtain ⟨v_18, e_19, k⟩ := k
        refine wq_getI fl_X10_365 (Or.inl rfl) dX10_heard_48 e_19 ?_
        replace k := ok_bind k
        obtain ⟨u, e_20, k⟩ := k
        refine wp_callV1 (N := M_X10_accept) (ci := 10) mf_X10_accept mi_X10_accept me_X10_accept ml_X10_110 dX10_heard_51 (ckO_e e_20) mv_X10_accept (by exact Nat.le_of_ble_eq_true rfl) (c_X10_accept (Nat.le_trans (by decide) he) (ok_mono (ok_bind2 k) fun z_22 h_21 k => ?_))
        try dsimp only at k
        refine wp_iret rfl rfl dX10_heard_54 ?_
        exact (ok_some k :)
      · replace k := ok_f c_10 k
        refine wp_aload_n dX10_heard_28 rfl ?_
        refine wp_bipush dX10_heard_29 bp_m5 ?_
        replace k := ok_bind k
        obtain ⟨u, e_23, k⟩ := k
        refine wp_callV1 (N := M_X10_refuse) (ci := 10) mf_X10_refuse mi_X10_refuse me_X10_refuse ml_X10_96 dX10_heard_31 (ckO_e e_23) mv_X10_refuse (by exact Nat.le_of_ble_eq_true rfl) (c_X10_refuse (Nat.le_trans (by decide) he) (ok_mono (ok_bind2 k) fun z_25 h_24 k => ?_))
        try dsimp only at k
        refine wp_iret rfl rfl dX10_heard_34 ?_
        exact (ok_some k :)
    · replace k := ok_f c_5 k
      refine wp_aload_n dX10_heard_10 rfl ?_
      refine wp_iconst dX10_heard_11 ic_m1 ?_
      replace k := ok_bind k
      obtain ⟨u, e_26, k⟩ := k
      refine wp_callV1 (N := M_X10_refuse) (ci := 10) mf_X10_refuse mi_X10_refuse me_X10_refuse ml_X10_96 dX10_heard_12 (ckO_e e_26) mv_X10_refuse (by exact Nat.le_of_ble_eq_true rfl) (c_X10_refuse (Nat.le_trans (by decide) he) (ok_mono (ok_bind2 k) fun z_28 h_27 k => ?_))
      try dsimp only at k
      refine wp_iret rfl rfl dX10_heard_15 ?_
      exact (ok_some k :)
theorem c_X10_heard {S : SH} {d : Nat} {K : Option Value → AH → Prop} (hd : 1 ≤ d)  {r0 : Nat} {x1 : Int32} {h : AH} (k : ok (f_X10_heard S r0 x1 h) (fun w h' => K (some (.int w)) h')) : CP S M_X10_heard d 0 0 [.ref r0, .int x1] h K := cp_of (by decide) (fun _ _ => trivial) (fun _ => Nat.le_of_ble_eq_true rfl) (s_X10_heard hd  k)
def f_X10_forget (S : SH) (r0 : Nat) (h : AH) : Option (Int32 × AH) :=
  (gR S h r0 10 2).bind fun p_1 =>
  (gI S h p_1 6 10).bind fun v_3 =>
  (gR S h r0 10 2).bind fun p_5 =>
  (pI S h p_5 6 10 (0 : Int32)).bind fun h_7 =>
  some (v_3, h_7)
set_option maxHeartbeats 8000000 in
set_option maxRecDepth 20000 in
theorem s_X10_forget {S : SH} {d cb sb : Nat} {Q : Option Value → AH → Prop} (hd : 0 ≤ d)  {r0 : Nat} {h : AH} (k : ok (f_X10_forget S r0 h) (fun w h' => Q (some (.int w)) h')) : WP S M_X10_forget d cb sb Q 0 [.ref r0, JK] [] h := by
  unfold f_X10_forget at k
  refine wp_aload_n dX10_forget_0 rfl ?_
  replace k := ok_bind k
  obtain ⟨p_1, e_2, k⟩ := k
  refine wq_getR fl_X10_16 (Or.inl ⟨_, rfl⟩) dX10_forget_1 e_2 ?_
  replace k := ok_bind k
  obtain ⟨v_3, e_4, k⟩ := k
  refine wq_getI fl_X10_365 (Or.inl rfl) dX10_forget_4 e_4 ?_
  refine wp_istore_n dX10_forget_7 (by decide) (L1 := [_, _]) rfl ?_
  refine wp_aload_n dX10_forget_8 rfl ?_
  replace k := ok_bind k
  obtain ⟨p_5, e_6, k⟩ := k
  refine wq_getR fl_X10_16 (Or.inl ⟨_, rfl⟩) dX10_forget_9 e_6 ?_
  refine wp_iconst dX10_forget_12 ic_0 ?_
  replace k := ok_bind k
  obtain ⟨h_7, e_8, k⟩ := k
  refine wq_putI fl_X10_365 rfl rfl dX10_forget_13 e_8 ?_
  refine wp_iload_n dX10_forget_16 rfl ?_
  refine wp_iret rfl rfl dX10_forget_17 ?_
  exact (ok_some k :)
theorem c_X10_forget {S : SH} {d : Nat} {K : Option Value → AH → Prop} (hd : 0 ≤ d)  {r0 : Nat} {h : AH} (k : ok (f_X10_forget S r0 h) (fun w h' => K (some (.int w)) h')) : CP S M_X10_forget d 0 0 [.ref r0] h K := cp_of (by decide) (fun _ _ => trivial) (fun _ => Nat.le_of_ble_eq_true rfl) (s_X10_forget hd  k)
def f_X10_canBe (S : SH) (r0 : Nat) (h : AH) : Option (Int32 × AH) :=
  (gR S h r0 10 10).bind fun p_1 =>
  (gR S h r0 10 2).bind fun p_3 =>
  (gR S h p_3 6 0).bind fun p_5 =>
  (ckO S h p_1 1).bind fun _ =>
  (f_X1_mattersAsHeard S p_1 p_5 h).bind fun z => match z with
  | (z_9, h_8) =>
  some (z_9, h_8)
set_option maxHeartbeats 8000000 in
set_option maxRecDepth 20000 in
theorem s_X10_canBe {S : SH} {d cb sb : Nat} {Q : Option Value → AH → Prop} (hd : 5 ≤ d)  {r0 : Nat} {h : AH} (k : ok (f_X10_canBe S r0 h) (fun w h' => Q (some (.int w)) h')) : WP S M_X10_canBe d cb sb Q 0 [.ref r0] [] h := by
  obtain ⟨d, rfl, he⟩ := dp (L := 4) hd
  unfold f_X10_canBe at k
  refine wp_aload_n dX10_canBe_0 rfl ?_
  replace k := ok_bind k
  obtain ⟨p_1, e_2, k⟩ := k
  refine wq_getR fl_X10_63 (Or.inl ⟨_, rfl⟩) dX10_canBe_1 e_2 ?_
  refine wp_aload_n dX10_canBe_4 rfl ?_
  replace k := ok_bind k
  obtain ⟨p_3, e_4, k⟩ := k
  refine wq_getR fl_X10_16 (Or.inl ⟨_, rfl⟩) dX10_canBe_5 e_4 ?_
  replace k := ok_bind k
  obtain ⟨p_5, e_6, k⟩ := k
  refine wq_getR fl_X10_120 (Or.inl ⟨_, rfl⟩) dX10_canBe_8 e_6 ?_
  replace k := ok_bind k
  obtain ⟨u, e_7, k⟩ := k
  refine wp_callV1 (N := M_X1_mattersAsHeard) (ci := 1) mf_X1_mattersAsHeard mi_X1_mattersAsHeard me_X1_mattersAsHeard ml_X10_371 dX10_canBe_11 (ckO_e e_7) mv_X1_mattersAsHeard (by exact Nat.le_of_ble_eq_true rfl) (c_X1_mattersAsHeard (Nat.le_trans (by decide) he) (ok_mono (ok_bind2 k) fun z_9 h_8 k => ?_))
  try dsimp only at k
  refine wp_iret rfl rfl dX10_canBe_14 ?_
  exact (ok_some k :)
theorem c_X10_canBe {S : SH} {d : Nat} {K : Option Value → AH → Prop} (hd : 5 ≤ d)  {r0 : Nat} {h : AH} (k : ok (f_X10_canBe S r0 h) (fun w h' => K (some (.int w)) h')) : CP S M_X10_canBe d 0 0 [.ref r0] h K := cp_of (by decide) (fun _ _ => trivial) (fun _ => Nat.le_of_ble_eq_true rfl) (s_X10_canBe hd  k)
def f_X10_listen_l20b (S : SH) (rc : Nat → Int32 → Int32 → Int32 → Int32 → Int32 → AH → Option ((Int32 × Int32 × Int32) × AH)) (r0 : Nat) (x1 : Int32) (x2 : Int32) (x3 : Int32) (x4 : Int32) (x5 : Int32) (h : AH) : Option ((Int32 × Int32 × Int32) × AH) :=
  (gR S h r0 10 2).bind fun p_1 =>
  (gI S h p_1 6 1).bind fun v_3 =>
  if v_3 ≤ x5 then
    some ((x1, x3, x4), h)
  else
    (gR S h r0 10 10).bind fun p_6 =>
    (gR S h r0 10 2).bind fun p_8 =>
    (gR S h p_8 6 0).bind fun p_10 =>
    (ckO S h p_6 1).bind fun _ =>
    (f_X1_mattersAyeOn S p_6 p_10 x5 h).bind fun z => match z with
    | (z_14, h_13) =>
    (f_J6_bitCount_0f7a4 S (x2 &&& z_14) h_13).bind fun z => match z with
    | (z_16, h_15) =>
    (f_J6_bitCount_0f7a4 S x2 h_15).bind fun z => match z with
    | (z_18, h_17) =>
    lt ((mxI z_16 (z_18 - z_16))) fun y_19 =>
    if x4 ≤ y_19 then
      lt (x5 + (1 : Int32)) fun y_21 =>
      rc r0 x1 x2 x3 x4 y_21 h_17
    else
      lt (x5 + (1 : Int32)) fun y_22 =>
      rc r0 x1 x2 x5 y_19 y_22 h_17
set_option maxHeartbeats 8000000 in
set_option maxRecDepth 20000 in
theorem s_X10_listen_l20b {S : SH} {d cb sb : Nat} {Q : Option Value → AH → Prop} (hd : 6 ≤ d) {K : (Int32 × Int32 × Int32) → AH → Prop} (hex : ∀ (x1 : Int32) (x3 : Int32) (x4 : Int32) (h' : AH), K (x1, x3, x4) h' → WP S M_X10_listen d cb sb Q 89 [JK, .int x1, JK, .int x3, .int x4, JK, JK, JK] [] h') {rc : Nat → Int32 → Int32 → Int32 → Int32 → Int32 → AH → Option ((Int32 × Int32 × Int32) × AH)} (hrec : ∀ (r0 : Nat) (x1 : Int32) (x2 : Int32) (x3 : Int32) (x4 : Int32) (x5 : Int32) (h' : AH), ok (rc r0 x1 x2 x3 x4 x5 h') K → WP S M_X10_listen d cb sb Q 20 [.ref r0, .int x1, .int x2, .int x3, .int x4, .int x5, JK, JK] [] h') {r0 : Nat} {x1 : Int32} {x2 : Int32} {x3 : Int32} {x4 : Int32} {x5 : Int32} {h : AH} (k : ok (f_X10_listen_l20b S rc r0 x1 x2 x3 x4 x5 h) K) : WP S M_X10_listen d cb sb Q 20 [.ref r0, .int x1, .int x2, .int x3, .int x4, .int x5, JK, JK] [] h := by
  obtain ⟨d, rfl, he⟩ := dp (L := 5) hd
  unfold f_X10_listen_l20b at k
  refine wp_iload dX10_listen_20 rfl ?_
  refine wp_aload_n dX10_listen_22 rfl ?_
  replace k := ok_bind k
  obtain ⟨p_1, e_2, k⟩ := k
  refine wq_getR fl_X10_16 (Or.inl ⟨_, rfl⟩) dX10_listen_23 e_2 ?_
  replace k := ok_bind k
  obtain ⟨v_3, e_4, k⟩ := k
  refine wq_getI fl_X10_100 (Or.inl rfl) dX10_listen_26 e_4 ?_
  refine wp_icmp_ge 89 dX10_listen_29 (by decide) (fun c_5 => ?_) (fun c_5 => ?_)
  · replace k := ok_t c_5 k
    exact wp_wk (wkJ <| wkE <| wkJ <| wkE <| wkE <| wkJ <| wkJ <| wkJ <| wkN) (hex _ _ _ _ (ok_some k))
  · replace k := ok_f c_5 k
    refine wp_iload_n dX10_listen_32 rfl ?_
    refine wp_aload_n dX10_listen_33 rfl ?_
    replace k := ok_bind k
    obtain ⟨p_6, e_7, k⟩ := k
    refine wq_getR fl_X10_63 (Or.inl ⟨_, rfl⟩) dX10_listen_34 e_7 ?_
    refine wp_aload_n dX10_listen_37 rfl ?_
    replace k := ok_bind k
    obtain ⟨p_8, e_9, k⟩ := k
    refine wq_getR fl_X10_16 (Or.inl ⟨_, rfl⟩) dX10_listen_38 e_9 ?_
    replace k := ok_bind k
    obtain ⟨p_10, e_11, k⟩ := k
    refine wq_getR fl_X10_120 (Or.inl ⟨_, rfl⟩) dX10_listen_41 e_11 ?_
    refine wp_iload dX10_listen_44 rfl ?_
    replace k := ok_bind k
    obtain ⟨u, e_12, k⟩ := k
    refine wp_callV2 (N := M_X1_mattersAyeOn) (ci := 1) mf_X1_mattersAyeOn mi_X1_mattersAyeOn me_X1_mattersAyeOn ml_X10_377 dX10_listen_46 (ckO_e e_12) mv_X1_mattersAyeOn (by exact Nat.le_of_ble_eq_true rfl) (c_X1_mattersAyeOn (Nat.le_trans (by decide) he) (ok_mono (ok_bind2 k) fun z_14 h_13 k => ?_))
    try dsimp only at k
    refine wp_iand dX10_listen_49 ?_
    refine wp_callS1 (N := M_J6_bitCount_0f7a4) mf_J6_bitCount_0f7a4 ms_J6_bitCount_0f7a4 ml_X10_284 dX10_listen_50 (by exact Nat.le_of_ble_eq_true rfl) (c_J6_bitCount_0f7a4 (Nat.le_trans (by decide) he) (ok_mono (ok_bind2 k) fun z_16 h_15 k => ?_))
    try dsimp only at k
    refine wp_istore dX10_listen_53 (by decide) (L1 := [_, _, _, _, _, _, _, _]) rfl ?_
    refine wp_iload dX10_listen_55 rfl ?_
    refine wp_iload_n dX10_listen_57 rfl ?_
    refine wp_callS1 (N := M_J6_bitCount_0f7a4) mf_J6_bitCount_0f7a4 ms_J6_bitCount_0f7a4 ml_X10_284 dX10_listen_58 (by exact Nat.le_of_ble_eq_true rfl) (c_J6_bitCount_0f7a4 (Nat.le_trans (by decide) he) (ok_mono (ok_bind2 k) fun z_18 h_17 k => ?_))
    try dsimp only at k
    refine wp_iload dX10_listen_61 rfl ?_
    refine wp_isub dX10_listen_63 ?_
    refine wp_mmax ml_X10_357 mm_max mini mc_max (by exact Nat.le_of_ble_eq_true rfl) dX10_listen_64 ?_
    replace k := ok_lt k
    refine wp_istore dX10_listen_67 (by decide) (L1 := [_, _, _, _, _, _, _, _]) rfl ?_
    refine wp_iload dX10_listen_69 rfl ?_
    refine wp_iload dX10_listen_71 rfl ?_
    refine wp_icmp_ge 83 dX10_listen_73 (by decide) (fun c_20 => ?_) (fun c_20 => ?_)
    · replace k := ok_t c_20 k
      replace k := ok_lt k
      refine wp_iinc dX10_listen_83 rfl ic_1 (by decide) (L1 := [_, _, _, _, _, _, _, _]) rfl ?_
      refine wp_goto 20 dX10_listen_86 (by decide) ?_
      exact wp_wk (wkE <| wkE <| wkE <| wkE <| wkE <| wkE <| wkJ <| wkJ <| wkN) (hrec _ _ _ _ _ _ _ k)
    · replace k := ok_f c_20 k
      refine wp_iload dX10_listen_76 rfl ?_
      refine wp_istore dX10_listen_78 (by decide) (L1 := [_, _, _, _, _, _, _, _]) rfl ?_
      refine wp_iload dX10_listen_80 rfl ?_
      refine wp_istore_n dX10_listen_82 (by decide) (L1 := [_, _, _, _, _, _, _, _]) rfl ?_
      replace k := ok_lt k
      refine wp_iinc dX10_listen_83 rfl ic_1 (by decide) (L1 := [_, _, _, _, _, _, _, _]) rfl ?_
      refine wp_goto 20 dX10_listen_86 (by decide) ?_
      exact wp_wk (wkE <| wkE <| wkE <| wkE <| wkE <| wkE <| wkJ <| wkJ <| wkN) (hrec _ _ _ _ _ _ _ k)
def f_X10_listen_l20 (S : SH) : Nat → Nat → Int32 → Int32 → Int32 → Int32 → Int32 → AH → Option ((Int32 × Int32 × Int32) × AH)
  | 0, _, _, _, _, _, _, _ => none
  | n + 1, r0, x1, x2, x3, x4, x5, h => f_X10_listen_l20b S (f_X10_listen_l20 S n) r0 x1 x2 x3 x4 x5 h
theorem s_X10_listen_l20 {S : SH} {d cb sb : Nat} {Q : Option Value → AH → Prop} (hd : 6 ≤ d) {K : (Int32 × Int32 × Int32) → AH → Prop} (hex : ∀ (x1 : Int32) (x3 : Int32) (x4 : Int32) (h' : AH), K (x1, x3, x4) h' → WP S M_X10_listen d cb sb Q 89 [JK, .int x1, JK, .int x3, .int x4, JK, JK, JK] [] h') : ∀ (n : Nat) (r0 : Nat) (x1 : Int32) (x2 : Int32) (x3 : Int32) (x4 : Int32) (x5 : Int32) (h : AH), ok (f_X10_listen_l20 S n r0 x1 x2 x3 x4 x5 h) K → WP S M_X10_listen d cb sb Q 20 [.ref r0, .int x1, .int x2, .int x3, .int x4, .int x5, JK, JK] [] h := by
  intro n
  induction n with
  | zero => intro r0 x1 x2 x3 x4 x5 h k; exact ok_none k
  | succ n ih => intro r0 x1 x2 x3 x4 x5 h k; exact s_X10_listen_l20b hd hex (fun r0 x1 x2 x3 x4 x5 h k => ih r0 x1 x2 x3 x4 x5 h k) k
def f_X10_listen (S : SH) (r0 : Nat) (x1 : Int32) (h : AH) : Option (Int32 × AH) :=
  (ckO S h r0 10).bind fun _ =>
  (f_X10_canBe S r0 h).bind fun z => match z with
  | (z_3, h_2) =>
  if z_3 = (0 : Int32) then
    some ((-1 : Int32), h_2)
  else
    (f_X10_listen_l20 S FU r0 x1 z_3 (-1 : Int32) (7 : Int32) (0 : Int32) h_2).bind fun z => match z with
    | ((x1_6, x3_7, x4_8), h_5) =>
    if x3_7 = (-1 : Int32) then
      some ((-1 : Int32), h_5)
    else
      if x1_6 = (0 : Int32) then
        some (x3_7, h_5)
      else
        if x1_6 = (1 : Int32) then
          some (x4_8, h_5)
        else
          some ((-1 : Int32), h_5)
set_option maxHeartbeats 8000000 in
set_option maxRecDepth 20000 in
theorem s_X10_listen {S : SH} {d cb sb : Nat} {Q : Option Value → AH → Prop} (hd : 6 ≤ d)  {r0 : Nat} {x1 : Int32} {h : AH} (k : ok (f_X10_listen S r0 x1 h) (fun w h' => Q (some (.int w)) h')) : WP S M_X10_listen d cb sb Q 0 [.ref r0, .int x1, JK, JK, JK, JK, JK, JK] [] h := by
  obtain ⟨d, rfl, he⟩ := dp (L := 5) hd
  unfold f_X10_listen at k
  refine wp_aload_n dX10_listen_0 rfl ?_
  replace k := ok_bind k
  obtain ⟨u, e_1, k⟩ := k
  refine wp_callV0 (N := M_X10_canBe) (ci := 10) mf_X10_canBe mi_X10_canBe me_X10_canBe ml_X10_374 dX10_listen_1 (ckO_e e_1) mv_X10_canBe (by exact Nat.le_of_ble_eq_true rfl) (c_X10_canBe (Nat.le_trans (by decide) he) (ok_mono (ok_bind2 k) fun z_3 h_2 k => ?_))
  try dsimp only at k
  refine wp_istore_n dX10_listen_4 (by decide) (L1 := [_, _, _, _, _, _, _, _]) rfl ?_
  refine wp_iload_n dX10_listen_5 rfl ?_
  refine wp_if_ne 11 dX10_listen_6 (by decide) (fun c_4 => ?_) (fun c_4 => ?_)
  · replace k := ok_f c_4 k
    refine wp_iconst dX10_listen_11 ic_m1 ?_
    refine wp_istore_n dX10_listen_12 (by decide) (L1 := [_, _, _, _, _, _, _, _]) rfl ?_
    refine wp_bipush dX10_listen_13 bp_7 ?_
    refine wp_istore dX10_listen_15 (by decide) (L1 := [_, _, _, _, _, _, _, _]) rfl ?_
    refine wp_iconst dX10_listen_17 ic_0 ?_
    refine wp_istore dX10_listen_18 (by decide) (L1 := [_, _, _, _, _, _, _, _]) rfl ?_
    refine wp_wk (wkE <| wkE <| wkE <| wkE <| wkE <| wkE <| wkJ <| wkJ <| wkN) ?_
    refine s_X10_listen_l20 (Nat.succ_le_succ he) (fun x1_6 x3_7 x4_8 h_5 k => ?_) FU _ _ _ _ _ _ _ (ok_bind2 k)
    try dsimp only at k
    refine wp_iload_n dX10_listen_89 rfl ?_
    refine wp_iconst dX10_listen_90 ic_m1 ?_
    refine wp_icmp_ne 96 dX10_listen_91 (by decide) (fun c_9 => ?_) (fun c_9 => ?_)
    · replace k := ok_f c_9 k
      refine wp_iload_n dX10_listen_96 rfl ?_
      refine wp_if_ne 104 dX10_listen_97 (by decide) (fun c_10 => ?_) (fun c_10 => ?_)
      · replace k := ok_f c_10 k
        refine wp_iload_n dX10_listen_104 rfl ?_
        refine wp_iconst dX10_listen_105 ic_1 ?_
        refine wp_icmp_ne 114 dX10_listen_106 (by decide) (fun c_11 => ?_) (fun c_11 => ?_)
        · replace k := ok_f c_11 k
          refine wp_iconst dX10_listen_114 ic_m1 ?_
          refine wp_iret rfl rfl dX10_listen_115 ?_
          exact (ok_some k :)
        · replace k := ok_t c_11 k
          refine wp_iload dX10_listen_109 rfl ?_
          refine wp_goto 115 dX10_listen_111 (by decide) ?_
          refine wp_iret rfl rfl dX10_listen_115 ?_
          exact (ok_some k :)
      · replace k := ok_t c_10 k
        refine wp_iload_n dX10_listen_100 rfl ?_
        refine wp_goto 115 dX10_listen_101 (by decide) ?_
        refine wp_iret rfl rfl dX10_listen_115 ?_
        exact (ok_some k :)
    · replace k := ok_t c_9 k
      refine wp_iconst dX10_listen_94 ic_m1 ?_
      refine wp_iret rfl rfl dX10_listen_95 ?_
      exact (ok_some k :)
  · replace k := ok_t c_4 k
    refine wp_iconst dX10_listen_9 ic_m1 ?_
    refine wp_iret rfl rfl dX10_listen_10 ?_
    exact (ok_some k :)
theorem c_X10_listen {S : SH} {d : Nat} {K : Option Value → AH → Prop} (hd : 6 ≤ d)  {r0 : Nat} {x1 : Int32} {h : AH} (k : ok (f_X10_listen S r0 x1 h) (fun w h' => K (some (.int w)) h')) : CP S M_X10_listen d 0 0 [.ref r0, .int x1] h K := cp_of (by decide) (fun _ _ => trivial) (fun _ => Nat.le_of_ble_eq_true rfl) (s_X10_listen hd  k)
def f_X10_compare_j16 (S : SH) (r0 : Nat) (x1 : Int32) (x2 : Int32) (h : AH) : Option (Int32 × AH) :=
  (gR S h r0 10 2).bind fun p_1 =>
  (ckO S h p_1 6).bind fun _ =>
  (f_X6_hasMatter S p_1 x2 h).bind fun z => match z with
  | (z_5, h_4) =>
  if z_5 = (0 : Int32) then
    some ((-1 : Int32), h_4)
  else
    (gR S h_4 r0 10 10).bind fun p_7 =>
    (gR S h_4 r0 10 2).bind fun p_9 =>
    (gR S h_4 p_9 6 0).bind fun p_11 =>
    (gR S h_4 r0 10 2).bind fun p_13 =>
    (ckO S h_4 p_13 6).bind fun _ =>
    (f_X6_lawOf S p_13 x1 h_4).bind fun z => match z with
    | (z_17, h_16) =>
    (ckO S h_16 p_7 1).bind fun _ =>
    (f_X1_poll S p_7 p_11 x2 z_17 h_16).bind fun z => match z with
    | (_, h_19) =>
    (gR S h_19 r0 10 10).bind fun p_21 =>
    (gI S h_19 p_21 1 3).bind fun v_23 =>
    (f_J6_bitCount_0f7a4 S v_23 h_19).bind fun z => match z with
    | (z_26, h_25) =>
    some (z_26, h_25)
set_option maxHeartbeats 8000000 in
set_option maxRecDepth 20000 in
theorem s_X10_compare_j16 {S : SH} {d cb sb : Nat} {Q : Option Value → AH → Prop} (hd : 4 ≤ d)  {r0 : Nat} {x1 : Int32} {x2 : Int32} {h : AH} (k : ok (f_X10_compare_j16 S r0 x1 x2 h) (fun w h' => Q (some (.int w)) h')) : WP S M_X10_compare d cb sb Q 16 [.ref r0, .int x1, .int x2] [] h := by
  obtain ⟨d, rfl, he⟩ := dp (L := 3) hd
  unfold f_X10_compare_j16 at k
  refine wp_aload_n dX10_compare_16 rfl ?_
  replace k := ok_bind k
  obtain ⟨p_1, e_2, k⟩ := k
  refine wq_getR fl_X10_16 (Or.inl ⟨_, rfl⟩) dX10_compare_17 e_2 ?_
  refine wp_iload_n dX10_compare_20 rfl ?_
  replace k := ok_bind k
  obtain ⟨u, e_3, k⟩ := k
  refine wp_callV1 (N := M_X6_hasMatter) (ci := 6) mf_X6_hasMatter mi_X6_hasMatter me_X6_hasMatter ml_X10_133 dX10_compare_21 (ckO_e e_3) mv_X6_hasMatter (by exact Nat.le_of_ble_eq_true rfl) (c_X6_hasMatter (Nat.le_trans (by decide) he) (ok_mono (ok_bind2 k) fun z_5 h_4 k => ?_))
  try dsimp only at k
  refine wp_if_ne 29 dX10_compare_24 (by decide) (fun c_6 => ?_) (fun c_6 => ?_)
  · replace k := ok_f c_6 k
    refine wp_aload_n dX10_compare_29 rfl ?_
    replace k := ok_bind k
    obtain ⟨p_7, e_8, k⟩ := k
    refine wq_getR fl_X10_63 (Or.inl ⟨_, rfl⟩) dX10_compare_30 e_8 ?_
    refine wp_aload_n dX10_compare_33 rfl ?_
    replace k := ok_bind k
    obtain ⟨p_9, e_10, k⟩ := k
    refine wq_getR fl_X10_16 (Or.inl ⟨_, rfl⟩) dX10_compare_34 e_10 ?_
    replace k := ok_bind k
    obtain ⟨p_11, e_12, k⟩ := k
    refine wq_getR fl_X10_120 (Or.inl ⟨_, rfl⟩) dX10_compare_37 e_12 ?_
    refine wp_iload_n dX10_compare_40 rfl ?_
    refine wp_aload_n dX10_compare_41 rfl ?_
    replace k := ok_bind k
    obtain ⟨p_13, e_14, k⟩ := k
    refine wq_getR fl_X10_16 (Or.inl ⟨_, rfl⟩) dX10_compare_42 e_14 ?_
    refine wp_iload_n dX10_compare_45 rfl ?_
    replace k := ok_bind k
    obtain ⟨u, e_15, k⟩ := k
    refine wp_callV1 (N := M_X6_lawOf) (ci := 6) mf_X6_lawOf mi_X6_lawOf me_X6_lawOf ml_X10_386 dX10_compare_46 (ckO_e e_15) mv_X6_lawOf (by exact Nat.le_of_ble_eq_true rfl) (c_X6_lawOf (Nat.le_trans (by decide) he) (ok_mono (ok_bind2 k) fun z_17 h_16 k => ?_))
    try dsimp only at k
    replace k := ok_bind k
    obtain ⟨u, e_18, k⟩ := k
    refine wp_callV3 (N := M_X1_poll) (ci := 1) mf_X1_poll mi_X1_poll me_X1_poll ml_X10_166 dX10_compare_49 (ckO_e e_18) mv_X1_poll (by exact Nat.le_of_ble_eq_true rfl) (c_X1_poll (Nat.le_trans (by decide) he) (ok_mono (ok_bind2 k) fun _ h_19 k => ?_))
    try dsimp only at k
    refine wp_aload_n dX10_compare_52 rfl ?_
    replace k := ok_bind k
    obtain ⟨p_21, e_22, k⟩ := k
    refine wq_getR fl_X10_63 (Or.inl ⟨_, rfl⟩) dX10_compare_53 e_22 ?_
    replace k := ok_bind k
    obtain ⟨v_23, e_24, k⟩ := k
    refine wq_getI fl_X10_173 (Or.inl rfl) dX10_compare_56 e_24 ?_
    refine wp_callS1 (N := M_J6_bitCount_0f7a4) mf_J6_bitCount_0f7a4 ms_J6_bitCount_0f7a4 ml_X10_284 dX10_compare_59 (by exact Nat.le_of_ble_eq_true rfl) (c_J6_bitCount_0f7a4 (Nat.le_trans (by decide) he) (ok_mono (ok_bind2 k) fun z_26 h_25 k => ?_))
    try dsimp only at k
    refine wp_iret rfl rfl dX10_compare_62 ?_
    exact (ok_some k :)
  · replace k := ok_t c_6 k
    refine wp_iconst dX10_compare_27 ic_m1 ?_
    refine wp_iret rfl rfl dX10_compare_28 ?_
    exact (ok_some k :)
def f_X10_compare (S : SH) (r0 : Nat) (x1 : Int32) (x2 : Int32) (h : AH) : Option (Int32 × AH) :=
  if x1 = (-1 : Int32) then
    f_X10_compare_j16 S r0 x1 x2 h
  else
    (gR S h r0 10 2).bind fun p_2 =>
    (ckO S h p_2 6).bind fun _ =>
    (f_X6_hasLaw S p_2 x1 h).bind fun z => match z with
    | (z_6, h_5) =>
    if z_6 = (0 : Int32) then
      some ((-1 : Int32), h_5)
    else
      f_X10_compare_j16 S r0 x1 x2 h_5
set_option maxHeartbeats 8000000 in
set_option maxRecDepth 20000 in
theorem s_X10_compare {S : SH} {d cb sb : Nat} {Q : Option Value → AH → Prop} (hd : 4 ≤ d)  {r0 : Nat} {x1 : Int32} {x2 : Int32} {h : AH} (k : ok (f_X10_compare S r0 x1 x2 h) (fun w h' => Q (some (.int w)) h')) : WP S M_X10_compare d cb sb Q 0 [.ref r0, .int x1, .int x2] [] h := by
  obtain ⟨d, rfl, he⟩ := dp (L := 3) hd
  unfold f_X10_compare at k
  refine wp_iload_n dX10_compare_0 rfl ?_
  refine wp_iconst dX10_compare_1 ic_m1 ?_
  refine wp_icmp_eq 16 dX10_compare_2 (by decide) (fun c_1 => ?_) (fun c_1 => ?_)
  · replace k := ok_t c_1 k
    exact wp_wk (wkE <| wkE <| wkE <| wkN) (s_X10_compare_j16 (Nat.succ_le_succ he)  k)
  · replace k := ok_f c_1 k
    refine wp_aload_n dX10_compare_5 rfl ?_
    replace k := ok_bind k
    obtain ⟨p_2, e_3, k⟩ := k
    refine wq_getR fl_X10_16 (Or.inl ⟨_, rfl⟩) dX10_compare_6 e_3 ?_
    refine wp_iload_n dX10_compare_9 rfl ?_
    replace k := ok_bind k
    obtain ⟨u, e_4, k⟩ := k
    refine wp_callV1 (N := M_X6_hasLaw) (ci := 6) mf_X6_hasLaw mi_X6_hasLaw me_X6_hasLaw ml_X10_289 dX10_compare_10 (ckO_e e_4) mv_X6_hasLaw (by exact Nat.le_of_ble_eq_true rfl) (c_X6_hasLaw (Nat.le_trans (by decide) he) (ok_mono (ok_bind2 k) fun z_6 h_5 k => ?_))
    try dsimp only at k
    refine wp_if_eq 27 dX10_compare_13 (by decide) (fun c_7 => ?_) (fun c_7 => ?_)
    · replace k := ok_t c_7 k
      refine wp_iconst dX10_compare_27 ic_m1 ?_
      refine wp_iret rfl rfl dX10_compare_28 ?_
      exact (ok_some k :)
    · replace k := ok_f c_7 k
      exact wp_wk (wkE <| wkE <| wkE <| wkN) (s_X10_compare_j16 (Nat.succ_le_succ he)  k)
theorem c_X10_compare {S : SH} {d : Nat} {K : Option Value → AH → Prop} (hd : 4 ≤ d)  {r0 : Nat} {x1 : Int32} {x2 : Int32} {h : AH} (k : ok (f_X10_compare S r0 x1 x2 h) (fun w h' => K (some (.int w)) h')) : CP S M_X10_compare d 0 0 [.ref r0, .int x1, .int x2] h K := cp_of (by decide) (fun _ _ => trivial) (fun _ => Nat.le_of_ble_eq_true rfl) (s_X10_compare hd  k)
def f_X10_mays_l71b (S : SH) (rc : Nat → Int32 → Int32 → AH → Option (Nat × AH)) (r0 : Nat) (x2 : Int32) (x3 : Int32) (h : AH) : Option (Nat × AH) :=
  if x2 ≤ x3 then
    some (r0, h)
  else
    (gR S h r0 10 8).bind fun p_2 =>
    (gR S h p_2 2 0).bind fun p_4 =>
    (gI S h p_4 7 3).bind fun v_6 =>
    if (999 : Int32) ≤ v_6 then
      some (r0, h)
    else
      (gR S h r0 10 8).bind fun p_9 =>
      (gR S h r0 10 10).bind fun p_11 =>
      (ckO S h p_9 2).bind fun _ =>
      (f_X2_step S p_9 p_11 h).bind fun z => match z with
      | (_, h_14) =>
      lt (x3 + (1 : Int32)) fun y_16 =>
      rc r0 x2 y_16 h_14
set_option maxHeartbeats 8000000 in
set_option maxRecDepth 20000 in
theorem s_X10_mays_l71b {S : SH} {d cb sb : Nat} {Q : Option Value → AH → Prop} (hd : 6 ≤ d) {K : Nat → AH → Prop} (hex : ∀ (r0 : Nat) (h' : AH), K r0 h' → WP S M_X10_mays d cb sb Q 109 [.ref r0, JK, JK, JK, JK] [] h') {rc : Nat → Int32 → Int32 → AH → Option (Nat × AH)} (hrec : ∀ (r0 : Nat) (x2 : Int32) (x3 : Int32) (h' : AH), ok (rc r0 x2 x3 h') K → WP S M_X10_mays d cb sb Q 71 [.ref r0, JK, .int x2, .int x3, JK] [] h') {r0 : Nat} {x2 : Int32} {x3 : Int32} {h : AH} (k : ok (f_X10_mays_l71b S rc r0 x2 x3 h) K) : WP S M_X10_mays d cb sb Q 71 [.ref r0, JK, .int x2, .int x3, JK] [] h := by
  obtain ⟨d, rfl, he⟩ := dp (L := 5) hd
  unfold f_X10_mays_l71b at k
  refine wp_iload_n dX10_mays_71 rfl ?_
  refine wp_iload_n dX10_mays_72 rfl ?_
  refine wp_icmp_ge 109 dX10_mays_73 (by decide) (fun c_1 => ?_) (fun c_1 => ?_)
  · replace k := ok_t c_1 k
    exact wp_wk (wkE <| wkJ <| wkJ <| wkJ <| wkJ <| wkN) (hex _ _ (ok_some k))
  · replace k := ok_f c_1 k
    refine wp_aload_n dX10_mays_76 rfl ?_
    replace k := ok_bind k
    obtain ⟨p_2, e_3, k⟩ := k
    refine wq_getR fl_X10_47 (Or.inl ⟨_, rfl⟩) dX10_mays_77 e_3 ?_
    replace k := ok_bind k
    obtain ⟨p_4, e_5, k⟩ := k
    refine wq_getR fl_X10_394 (Or.inl ⟨_, rfl⟩) dX10_mays_80 e_5 ?_
    replace k := ok_bind k
    obtain ⟨v_6, e_7, k⟩ := k
    refine wq_getI fl_X10_189 (Or.inl rfl) dX10_mays_83 e_7 ?_
    refine wp_sipush dX10_mays_86 sp_999 ?_
    refine wp_icmp_ge 109 dX10_mays_89 (by decide) (fun c_8 => ?_) (fun c_8 => ?_)
    · replace k := ok_t c_8 k
      exact wp_wk (wkE <| wkJ <| wkJ <| wkJ <| wkJ <| wkN) (hex _ _ (ok_some k))
    · replace k := ok_f c_8 k
      refine wp_aload_n dX10_mays_92 rfl ?_
      replace k := ok_bind k
      obtain ⟨p_9, e_10, k⟩ := k
      refine wq_getR fl_X10_47 (Or.inl ⟨_, rfl⟩) dX10_mays_93 e_10 ?_
      refine wp_aload_n dX10_mays_96 rfl ?_
      replace k := ok_bind k
      obtain ⟨p_11, e_12, k⟩ := k
      refine wq_getR fl_X10_63 (Or.inl ⟨_, rfl⟩) dX10_mays_97 e_12 ?_
      replace k := ok_bind k
      obtain ⟨u, e_13, k⟩ := k
      refine wp_callV1 (N := M_X2_step) (ci := 2) mf_X2_step mi_X2_step me_X2_step ml_X10_395 dX10_mays_100 (ckO_e e_13) mv_X2_step (by exact Nat.le_of_ble_eq_true rfl) (c_X2_step (Nat.le_trans (by decide) he) (ok_mono (ok_bind2 k) fun _ h_14 k => ?_))
      try dsimp only at k
      replace k := ok_lt k
      refine wp_iinc dX10_mays_103 rfl ic_1 (by decide) (L1 := [_, _, _, _, _]) rfl ?_
      refine wp_goto 71 dX10_mays_106 (by decide) ?_
      exact wp_wk (wkE <| wkJ <| wkE <| wkE <| wkJ <| wkN) (hrec _ _ _ _ k)
def f_X10_mays_l71 (S : SH) : Nat → Nat → Int32 → Int32 → AH → Option (Nat × AH)
  | 0, _, _, _, _ => none
  | n + 1, r0, x2, x3, h => f_X10_mays_l71b S (f_X10_mays_l71 S n) r0 x2 x3 h
theorem s_X10_mays_l71 {S : SH} {d cb sb : Nat} {Q : Option Value → AH → Prop} (hd : 6 ≤ d) {K : Nat → AH → Prop} (hex : ∀ (r0 : Nat) (h' : AH), K r0 h' → WP S M_X10_mays d cb sb Q 109 [.ref r0, JK, JK, JK, JK] [] h') : ∀ (n : Nat) (r0 : Nat) (x2 : Int32) (x3 : Int32) (h : AH), ok (f_X10_mays_l71 S n r0 x2 x3 h) K → WP S M_X10_mays d cb sb Q 71 [.ref r0, JK, .int x2, .int x3, JK] [] h := by
  intro n
  induction n with
  | zero => intro r0 x2 x3 h k; exact ok_none k
  | succ n ih => intro r0 x2 x3 h k; exact s_X10_mays_l71b hd hex (fun r0 x2 x3 h k => ih r0 x2 x3 h k) k
def f_X10_mays_l114b (S : SH) (rc : Nat → Int32 → Int32 → AH → Option ((Nat × Int32) × AH)) (r0 : Nat) (x3 : Int32) (x4 : Int32) (h : AH) : Option ((Nat × Int32) × AH) :=
  (gR S h r0 10 2).bind fun p_1 =>
  (gI S h p_1 6 4).bind fun v_3 =>
  if v_3 ≤ x4 then
    some ((r0, x3), h)
  else
    (gR S h r0 10 8).bind fun p_6 =>
    (gR S h p_6 2 0).bind fun p_8 =>
    (gR S h p_8 7 1).bind fun p_10 =>
    (aI S h p_10 x4).bind fun v_12 =>
    if v_12 = (2 : Int32) then
      (gR S h r0 10 2).bind fun p_17 =>
      (gR S h p_17 6 6).bind fun p_19 =>
      (aI S h p_19 x4).bind fun v_21 =>
      lt ((x3 + v_21)) fun y_23 =>
      lt (x4 + (1 : Int32)) fun y_24 =>
      rc r0 y_23 y_24 h
    else
      lt ((x3 + (0 : Int32))) fun y_15 =>
      lt (x4 + (1 : Int32)) fun y_16 =>
      rc r0 y_15 y_16 h
set_option maxHeartbeats 8000000 in
set_option maxRecDepth 20000 in
theorem s_X10_mays_l114b {S : SH} {d cb sb : Nat} {Q : Option Value → AH → Prop} (hd : 6 ≤ d) {K : (Nat × Int32) → AH → Prop} (hex : ∀ (r0 : Nat) (x3 : Int32) (h' : AH), K (r0, x3) h' → WP S M_X10_mays d cb sb Q 166 [.ref r0, JK, JK, .int x3, JK] [] h') {rc : Nat → Int32 → Int32 → AH → Option ((Nat × Int32) × AH)} (hrec : ∀ (r0 : Nat) (x3 : Int32) (x4 : Int32) (h' : AH), ok (rc r0 x3 x4 h') K → WP S M_X10_mays d cb sb Q 114 [.ref r0, JK, JK, .int x3, .int x4] [] h') {r0 : Nat} {x3 : Int32} {x4 : Int32} {h : AH} (k : ok (f_X10_mays_l114b S rc r0 x3 x4 h) K) : WP S M_X10_mays d cb sb Q 114 [.ref r0, JK, JK, .int x3, .int x4] [] h := by
  obtain ⟨d, rfl, he⟩ := dp (L := 5) hd
  unfold f_X10_mays_l114b at k
  refine wp_iload dX10_mays_114 rfl ?_
  refine wp_aload_n dX10_mays_116 rfl ?_
  replace k := ok_bind k
  obtain ⟨p_1, e_2, k⟩ := k
  refine wq_getR fl_X10_16 (Or.inl ⟨_, rfl⟩) dX10_mays_117 e_2 ?_
  replace k := ok_bind k
  obtain ⟨v_3, e_4, k⟩ := k
  refine wq_getI fl_X10_148 (Or.inl rfl) dX10_mays_120 e_4 ?_
  refine wp_icmp_ge 166 dX10_mays_123 (by decide) (fun c_5 => ?_) (fun c_5 => ?_)
  · replace k := ok_t c_5 k
    exact wp_wk (wkE <| wkJ <| wkJ <| wkE <| wkJ <| wkN) (hex _ _ _ (ok_some k))
  · replace k := ok_f c_5 k
    refine wp_iload_n dX10_mays_126 rfl ?_
    refine wp_aload_n dX10_mays_127 rfl ?_
    replace k := ok_bind k
    obtain ⟨p_6, e_7, k⟩ := k
    refine wq_getR fl_X10_47 (Or.inl ⟨_, rfl⟩) dX10_mays_128 e_7 ?_
    replace k := ok_bind k
    obtain ⟨p_8, e_9, k⟩ := k
    refine wq_getR fl_X10_394 (Or.inl ⟨_, rfl⟩) dX10_mays_131 e_9 ?_
    replace k := ok_bind k
    obtain ⟨p_10, e_11, k⟩ := k
    refine wq_getR fl_X10_160 (Or.inr ⟨_, rfl⟩) dX10_mays_134 e_11 ?_
    refine wp_iload dX10_mays_137 rfl ?_
    replace k := ok_bind k
    obtain ⟨v_12, e_13, k⟩ := k
    refine wq_aI dX10_mays_139 e_13 ?_
    refine wp_iconst dX10_mays_140 ic_2 ?_
    refine wp_icmp_ne 157 dX10_mays_141 (by decide) (fun c_14 => ?_) (fun c_14 => ?_)
    · replace k := ok_f c_14 k
      refine wp_iconst dX10_mays_157 ic_0 ?_
      refine wp_iadd dX10_mays_158 ?_
      replace k := ok_lt k
      refine wp_istore_n dX10_mays_159 (by decide) (L1 := [_, _, _, _, _]) rfl ?_
      replace k := ok_lt k
      refine wp_iinc dX10_mays_160 rfl ic_1 (by decide) (L1 := [_, _, _, _, _]) rfl ?_
      refine wp_goto 114 dX10_mays_163 (by decide) ?_
      exact wp_wk (wkE <| wkJ <| wkJ <| wkE <| wkE <| wkN) (hrec _ _ _ _ k)
    · replace k := ok_t c_14 k
      refine wp_aload_n dX10_mays_144 rfl ?_
      replace k := ok_bind k
      obtain ⟨p_17, e_18, k⟩ := k
      refine wq_getR fl_X10_16 (Or.inl ⟨_, rfl⟩) dX10_mays_145 e_18 ?_
      replace k := ok_bind k
      obtain ⟨p_19, e_20, k⟩ := k
      refine wq_getR fl_X10_157 (Or.inr ⟨_, rfl⟩) dX10_mays_148 e_20 ?_
      refine wp_iload dX10_mays_151 rfl ?_
      replace k := ok_bind k
      obtain ⟨v_21, e_22, k⟩ := k
      refine wq_aI dX10_mays_153 e_22 ?_
      refine wp_goto 158 dX10_mays_154 (by decide) ?_
      refine wp_iadd dX10_mays_158 ?_
      replace k := ok_lt k
      refine wp_istore_n dX10_mays_159 (by decide) (L1 := [_, _, _, _, _]) rfl ?_
      replace k := ok_lt k
      refine wp_iinc dX10_mays_160 rfl ic_1 (by decide) (L1 := [_, _, _, _, _]) rfl ?_
      refine wp_goto 114 dX10_mays_163 (by decide) ?_
      exact wp_wk (wkE <| wkJ <| wkJ <| wkE <| wkE <| wkN) (hrec _ _ _ _ k)
def f_X10_mays_l114 (S : SH) : Nat → Nat → Int32 → Int32 → AH → Option ((Nat × Int32) × AH)
  | 0, _, _, _, _ => none
  | n + 1, r0, x3, x4, h => f_X10_mays_l114b S (f_X10_mays_l114 S n) r0 x3 x4 h
theorem s_X10_mays_l114 {S : SH} {d cb sb : Nat} {Q : Option Value → AH → Prop} (hd : 6 ≤ d) {K : (Nat × Int32) → AH → Prop} (hex : ∀ (r0 : Nat) (x3 : Int32) (h' : AH), K (r0, x3) h' → WP S M_X10_mays d cb sb Q 166 [.ref r0, JK, JK, .int x3, JK] [] h') : ∀ (n : Nat) (r0 : Nat) (x3 : Int32) (x4 : Int32) (h : AH), ok (f_X10_mays_l114 S n r0 x3 x4 h) K → WP S M_X10_mays d cb sb Q 114 [.ref r0, JK, JK, .int x3, .int x4] [] h := by
  intro n
  induction n with
  | zero => intro r0 x3 x4 h k; exact ok_none k
  | succ n ih => intro r0 x3 x4 h k; exact s_X10_mays_l114b hd hex (fun r0 x3 x4 h k => ih r0 x3 x4 h k) k
def f_X10_mays (S : SH) (r0 : Nat) (x1 : Int32) (x2 : Int32) (h : AH) : Option (Int32 × AH) :=
  if x1 < (0 : Int32) then
    (ckO S h r0 10).bind fun _ =>
    (f_X10_refuse S r0 (-1 : Int32) h).bind fun z => match z with
    | (z_4, h_3) =>
    some (z_4, h_3)
  else
    if (1000000 : Int32) < x1 then
      (ckO S h r0 10).bind fun _ =>
      (f_X10_refuse S r0 (-1 : Int32) h).bind fun z => match z with
      | (z_8, h_7) =>
      some (z_8, h_7)
    else
      if x2 < (1 : Int32) then
        (ckO S h r0 10).bind fun _ =>
        (f_X10_refuse S r0 (-1 : Int32) h).bind fun z => match z with
        | (z_12, h_11) =>
        some (z_12, h_11)
      else
        if x2 ≤ (60 : Int32) then
          (gR S h r0 10 2).bind fun p_14 =>
          (gI S h p_14 6 1).bind fun v_16 =>
          if v_16 < (1 : Int32) then
            (ckO S h r0 10).bind fun _ =>
            (f_X10_refuse S r0 (-3 : Int32) h).bind fun z => match z with
            | (z_21, h_20) =>
            some (z_21, h_20)
          else
            (gR S h r0 10 2).bind fun p_22 =>
            (gI S h p_22 6 4).bind fun v_24 =>
            if (1 : Int32) ≤ v_24 then
              (gR S h r0 10 8).bind fun p_27 =>
              (gR S h r0 10 2).bind fun p_29 =>
              (ckO S h p_27 2).bind fun _ =>
              (f_X2_begin S p_27 p_29 x1 h).bind fun z => match z with
              | (_, h_32) =>
              (f_X10_mays_l71 S FU r0 x2 (0 : Int32) h_32).bind fun z => match z with
              | (r0_35, h_34) =>
              (f_X10_mays_l114 S FU r0_35 (0 : Int32) (0 : Int32) h_34).bind fun z => match z with
              | ((r0_37, x3_38), h_36) =>
              (ckO S h_36 r0_37 10).bind fun _ =>
              (f_X10_accept S r0_37 x3_38 h_36).bind fun z => match z with
              | (z_41, h_40) =>
              some (z_41, h_40)
            else
              (ckO S h r0 10).bind fun _ =>
              (f_X10_refuse S r0 (-3 : Int32) h).bind fun z => match z with
              | (z_44, h_43) =>
              some (z_44, h_43)
        else
          (ckO S h r0 10).bind fun _ =>
          (f_X10_refuse S r0 (-1 : Int32) h).bind fun z => match z with
          | (z_47, h_46) =>
          some (z_47, h_46)
set_option maxHeartbeats 8000000 in
set_option maxRecDepth 20000 in
theorem s_X10_mays {S : SH} {d cb sb : Nat} {Q : Option Value → AH → Prop} (hd : 6 ≤ d)  {r0 : Nat} {x1 : Int32} {x2 : Int32} {h : AH} (k : ok (f_X10_mays S r0 x1 x2 h) (fun w h' => Q (some (.int w)) h')) : WP S M_X10_mays d cb sb Q 0 [.ref r0, .int x1, .int x2, JK, JK] [] h := by
  obtain ⟨d, rfl, he⟩ := dp (L := 5) hd
  unfold f_X10_mays at k
  refine wp_iload_n dX10_mays_0 rfl ?_
  refine wp_if_lt 22 dX10_mays_1 (by decide) (fun c_1 => ?_) (fun c_1 => ?_)
  · replace k := ok_t c_1 k
    refine wp_aload_n dX10_mays_22 rfl ?_
    refine wp_iconst dX10_mays_23 ic_m1 ?_
    replace k := ok_bind k
    obtain ⟨u, e_2, k⟩ := k
    refine wp_callV1 (N := M_X10_refuse) (ci := 10) mf_X10_refuse mi_X10_refuse me_X10_refuse ml_X10_96 dX10_mays_24 (ckO_e e_2) mv_X10_refuse (by exact Nat.le_of_ble_eq_true rfl) (c_X10_refuse (Nat.le_trans (by decide) he) (ok_mono (ok_bind2 k) fun z_4 h_3 k => ?_))
    try dsimp only at k
    refine wp_iret rfl rfl dX10_mays_27 ?_
    exact (ok_some k :)
  · replace k := ok_f c_1 k
    refine wp_iload_n dX10_mays_4 rfl ?_
    refine wp_ldcw ct_X10_390 dX10_mays_5 ?_
    refine wp_icmp_gt 22 dX10_mays_8 (by decide) (fun c_5 => ?_) (fun c_5 => ?_)
    · replace k := ok_t c_5 k
      refine wp_aload_n dX10_mays_22 rfl ?_
      refine wp_iconst dX10_mays_23 ic_m1 ?_
      replace k := ok_bind k
      obtain ⟨u, e_6, k⟩ := k
      refine wp_callV1 (N := M_X10_refuse) (ci := 10) mf_X10_refuse mi_X10_refuse me_X10_refuse ml_X10_96 dX10_mays_24 (ckO_e e_6) mv_X10_refuse (by exact Nat.le_of_ble_eq_true rfl) (c_X10_refuse (Nat.le_trans (by decide) he) (ok_mono (ok_bind2 k) fun z_8 h_7 k => ?_))
      try dsimp only at k
      refine wp_iret rfl rfl dX10_mays_27 ?_
      exact (ok_some k :)
    · replace k := ok_f c_5 k
      refine wp_iload_n dX10_mays_11 rfl ?_
      refine wp_iconst dX10_mays_12 ic_1 ?_
      refine wp_icmp_lt 22 dX10_mays_13 (by decide) (fun c_9 => ?_) (fun c_9 => ?_)
      · replace k := ok_t c_9 k
        refine wp_aload_n dX10_mays_22 rfl ?_
        refine wp_iconst dX10_mays_23 ic_m1 ?_
        replace k := ok_bind k
        obtain ⟨u, e_10, k⟩ := k
        refine wp_callV1 (N := M_X10_refuse) (ci := 10) mf_X10_refuse mi_X10_refuse me_X10_refuse ml_X10_96 dX10_mays_24 (ckO_e e_10) mv_X10_refuse (by exact Nat.le_of_ble_eq_true rfl) (c_X10_refuse (Nat.le_trans (by decide) he) (ok_mono (ok_bind2 k) fun z_12 h_11 k => ?_))
        try dsimp only at k
        refine wp_iret rfl rfl dX10_mays_27 ?_
        exact (ok_some k :)
      · replace k := ok_f c_9 k
        refine wp_iload_n dX10_mays_16 rfl ?_
        refine wp_bipush dX10_mays_17 bp_60 ?_
        refine wp_icmp_le 28 dX10_mays_19 (by decide) (fun c_13 => ?_) (fun c_13 => ?_)
        · replace k := ok_t c_13 k
          refine wp_aload_n dX10_mays_28 rfl ?_
          replace k := ok_bind k
          obtain ⟨p_14, e_15, k⟩ := k
          refine wq_getR fl_X10_16 (Or.inl ⟨_, rfl⟩) dX10_mays_29 e_15 ?_
          replace k := ok_bind k
          obtain ⟨v_16, e_17, k⟩ := k
          refine wq_getI fl_X10_100 (Or.inl rfl) dX10_mays_32 e_17 ?_
          refine wp_iconst dX10_mays_35 ic_1 ?_
          refine wp_icmp_lt 50 dX10_mays_36 (by decide) (fun c_18 => ?_) (fun c_18 => ?_)
          · replace k := ok_t c_18 k
            refine wp_aload_n dX10_mays_50 rfl ?_
            refine wp_bipush dX10_mays_51 bp_m3 ?_
            replace k := ok_bind k
            obtain ⟨u, e_19, k⟩ := k
            refine wp_callV1 (N := M_X10_refuse) (ci := 10) mf_X10_refuse mi_X10_refuse me_X10_refuse ml_X10_96 dX10_mays_53 (ckO_e e_19) mv_X10_refuse (by exact Nat.le_of_ble_eq_true rfl) (c_X10_refuse (Nat.le_trans (by decide) he) (ok_mono (ok_bind2 k) fun z_21 h_20 k => ?_))
            try dsimp only at k
            refine wp_iret rfl rfl dX10_mays_56 ?_
            exact (ok_some k :)
          · replace k := ok_f c_18 k
            refine wp_aload_n dX10_mays_39 rfl ?_
            replace k := ok_bind k
            obtain ⟨p_22, e_23, k⟩ := k
            refine wq_getR fl_X10_16 (Or.inl ⟨_, rfl⟩) dX10_mays_40 e_23 ?_
            replace k := ok_bind k
            obtain ⟨v_24, e_25, k⟩ := k
            refine wq_getI fl_X10_148 (Or.inl rfl) dX10_mays_43 e_25 ?_
            refine wp_iconst dX10_mays_46 ic_1 ?_
            refine wp_icmp_ge 57 dX10_mays_47 (by decide) (fun c_26 => ?_) (fun c_26 => ?_)
            · replace k := ok_t c_26 k
              refine wp_aload_n dX10_mays_57 rfl ?_
              replace k := ok_bind k
              obtain ⟨p_27, e_28, k⟩ := k
              refine wq_getR fl_X10_47 (Or.inl ⟨_, rfl⟩) dX10_mays_58 e_28 ?_
              refine wp_aload_n dX10_mays_61 rfl ?_
              replace k := ok_bind k
              obtain ⟨p_29, e_30, k⟩ := k
              refine wq_getR fl_X10_16 (Or.inl ⟨_, rfl⟩) dX10_mays_62 e_30 ?_
              refine wp_iload_n dX10_mays_65 rfl ?_
              replace k := ok_bind k
              obtain ⟨u, e_31, k⟩ := k
              refine wp_callV2 (N := M_X2_begin) (ci := 2) mf_X2_begin mi_X2_begin me_X2_begin ml_X10_391 dX10_mays_66 (ckO_e e_31) mv_X2_begin (by exact Nat.le_of_ble_eq_true rfl) (c_X2_begin (Nat.le_trans (by decide) he) (ok_mono (ok_bind2 k) fun _ h_32 k => ?_))
              try dsimp only at k
              refine wp_iconst dX10_mays_69 ic_0 ?_
              refine wp_istore_n dX10_mays_70 (by decide) (L1 := [_, _, _, _, _]) rfl ?_
              refine wp_wk (wkE <| wkJ <| wkE <| wkE <| wkJ <| wkN) ?_
              refine s_X10_mays_l71 (Nat.succ_le_succ he) (fun r0_35 h_34 k => ?_) FU _ _ _ _ (ok_bind2 k)
              try dsimp only at k
              refine wp_iconst dX10_mays_109 ic_0 ?_
              refine wp_istore_n dX10_mays_110 (by decide) (L1 := [_, _, _, _, _]) rfl ?_
              refine wp_iconst dX10_mays_111 ic_0 ?_
              refine wp_istore dX10_mays_112 (by decide) (L1 := [_, _, _, _, _]) rfl ?_
              refine wp_wk (wkE <| wkJ <| wkJ <| wkE <| wkE <| wkN) ?_
              refine s_X10_mays_l114 (Nat.succ_le_succ he) (fun r0_37 x3_38 h_36 k => ?_) FU _ _ _ _ (ok_bind2 k)
              try dsimp only at k
              refine wp_aload_n dX10_mays_166 rfl ?_
              refine wp_iload_n dX10_mays_167 rfl ?_
              replace k := ok_bind k
              obtain ⟨u, e_39, k⟩ := k
              refine wp_callV1 (N := M_X10_accept) (ci := 10) mf_X10_accept mi_X10_accept me_X10_accept ml_X10_110 dX10_mays_168 (ckO_e e_39) mv_X10_accept (by exact Nat.le_of_ble_eq_true rfl) (c_X10_accept (Nat.le_trans (by decide) he) (ok_mono (ok_bind2 k) fun z_41 h_40 k => ?_))
              try dsimp only at k
              refine wp_iret rfl rfl dX10_mays_171 ?_
              exact (ok_some k :)
            · replace k := ok_f c_26 k
              refine wp_aload_n dX10_mays_50 rfl ?_
              refine wp_bipush dX10_mays_51 bp_m3 ?_
              replace k := ok_bind k
              obtain ⟨u, e_42, k⟩ := k
              refine wp_callV1 (N := M_X10_refuse) (ci := 10) mf_X10_refuse mi_X10_refuse me_X10_refuse ml_X10_96 dX10_mays_53 (ckO_e e_42) mv_X10_refuse (by exact Nat.le_of_ble_eq_true rfl) (c_X10_refuse (Nat.le_trans (by decide) he) (ok_mono (ok_bind2 k) fun z_44 h_43 k => ?_))
              try dsimp only at k
              refine wp_iret rfl rfl dX10_mays_56 ?_
              exact (ok_some k :)
        · replace k := ok_f c_13 k
          refine wp_aload_n dX10_mays_22 rfl ?_
          refine wp_iconst dX10_mays_23 ic_m1 ?_
          replace k := ok_bind k
          obtain ⟨u, e_45, k⟩ := k
          refine wp_callV1 (N := M_X10_refuse) (ci := 10) mf_X10_refuse mi_X10_refuse me_X10_refuse ml_X10_96 dX10_mays_24 (ckO_e e_45) mv_X10_refuse (by exact Nat.le_of_ble_eq_true rfl) (c_X10_refuse (Nat.le_trans (by decide) he) (ok_mono (ok_bind2 k) fun z_47 h_46 k => ?_))
          try dsimp only at k
          refine wp_iret rfl rfl dX10_mays_27 ?_
          exact (ok_some k :)
theorem c_X10_mays {S : SH} {d : Nat} {K : Option Value → AH → Prop} (hd : 6 ≤ d)  {r0 : Nat} {x1 : Int32} {x2 : Int32} {h : AH} (k : ok (f_X10_mays S r0 x1 x2 h) (fun w h' => K (some (.int w)) h')) : CP S M_X10_mays d 0 0 [.ref r0, .int x1, .int x2] h K := cp_of (by decide) (fun _ _ => trivial) (fun _ => Nat.le_of_ble_eq_true rfl) (s_X10_mays hd  k)
def f_X10_drawn (S : SH) (r0 : Nat) (x1 : Int32) (x2 : Int32) (h : AH) : Option (Int32 × AH) :=
  if x1 < (0 : Int32) then
    some ((-1 : Int32), h)
  else
    (gR S h r0 10 8).bind fun p_2 =>
    (gI S h p_2 2 2).bind fun v_4 =>
    if v_4 = (0 : Int32) then
      some ((-1 : Int32), h)
    else
      if x2 = (0 : Int32) then
        (gR S h r0 10 8).bind fun p_8 =>
        (gI S h p_8 2 2).bind fun v_10 =>
        if v_10 ≤ x1 then
          some ((-1 : Int32), h)
        else
          if (6 : Int32) ≤ x1 then
            some ((-1 : Int32), h)
          else
            (gR S h r0 10 8).bind fun p_14 =>
            (gR S h p_14 2 0).bind fun p_16 =>
            (gR S h p_16 7 1).bind fun p_18 =>
            (aI S h p_18 x1).bind fun v_20 =>
            some (v_20, h)
      else
      if x2 = (1 : Int32) then
        (gR S h r0 10 8).bind fun p_23 =>
        (gI S h p_23 2 1).bind fun v_25 =>
        if v_25 ≤ x1 then
          some ((-1 : Int32), h)
        else
          if (7 : Int32) ≤ x1 then
            some ((-1 : Int32), h)
          else
            (gR S h r0 10 8).bind fun p_29 =>
            (gR S h p_29 2 0).bind fun p_31 =>
            (gR S h p_31 7 0).bind fun p_33 =>
            (aI S h p_33 x1).bind fun v_35 =>
            some (v_35, h)
      else
      if x2 = (2 : Int32) then
        if x1 = (0 : Int32) then
          (gR S h r0 10 8).bind fun p_39 =>
          (gR S h p_39 2 0).bind fun p_41 =>
          (gI S h p_41 7 2).bind fun v_43 =>
          some (v_43, h)
        else
          some ((-1 : Int32), h)
      else
      if x2 = (3 : Int32) then
        if x1 = (0 : Int32) then
          (gR S h r0 10 8).bind fun p_47 =>
          (gR S h p_47 2 0).bind fun p_49 =>
          (gI S h p_49 7 3).bind fun v_51 =>
          some (v_51, h)
        else
          some ((-1 : Int32), h)
      else
      some ((-1 : Int32), h)
set_option maxHeartbeats 8000000 in
set_option maxRecDepth 20000 in
theorem s_X10_drawn {S : SH} {d cb sb : Nat} {Q : Option Value → AH → Prop} (hd : 0 ≤ d)  {r0 : Nat} {x1 : Int32} {x2 : Int32} {h : AH} (k : ok (f_X10_drawn S r0 x1 x2 h) (fun w h' => Q (some (.int w)) h')) : WP S M_X10_drawn d cb sb Q 0 [.ref r0, .int x1, .int x2] [] h := by
  unfold f_X10_drawn at k
  refine wp_iload_n dX10_drawn_0 rfl ?_
  refine wp_if_lt 14 dX10_drawn_1 (by decide) (fun c_1 => ?_) (fun c_1 => ?_)
  · replace k := ok_t c_1 k
    refine wp_iconst dX10_drawn_14 ic_m1 ?_
    refine wp_iret rfl rfl dX10_drawn_15 ?_
    exact (ok_some k :)
  · replace k := ok_f c_1 k
    refine wp_aload_n dX10_drawn_4 rfl ?_
    replace k := ok_bind k
    obtain ⟨p_2, e_3, k⟩ := k
    refine wq_getR fl_X10_47 (Or.inl ⟨_, rfl⟩) dX10_drawn_5 e_3 ?_
    replace k := ok_bind k
    obtain ⟨v_4, e_5, k⟩ := k
    refine wq_getI fl_X10_398 (Or.inl rfl) dX10_drawn_8 e_5 ?_
    refine wp_if_ne 16 dX10_drawn_11 (by decide) (fun c_6 => ?_) (fun c_6 => ?_)
    · replace k := ok_f c_6 k
      refine wp_iload_n dX10_drawn_16 rfl ?_
      refine wp_case (0 : Int32) (fun c_7 => ?_) (fun c_7 => ?_)
      · refine wp_tabIn 48 dX10_drawn_17 (by rw [c_7]; decide) (by rw [c_7]; decide) (by rw [c_7]; rfl) (by decide) ?_
        replace k := ok_t c_7 k
        refine wp_iload_n dX10_drawn_48 rfl ?_
        refine wp_aload_n dX10_drawn_49 rfl ?_
        replace k := ok_bind k
        obtain ⟨p_8, e_9, k⟩ := k
        refine wq_getR fl_X10_47 (Or.inl ⟨_, rfl⟩) dX10_drawn_50 e_9 ?_
        replace k := ok_bind k
        obtain ⟨v_10, e_11, k⟩ := k
        refine wq_getI fl_X10_398 (Or.inl rfl) dX10_drawn_53 e_11 ?_
        refine wp_icmp_ge 80 dX10_drawn_56 (by decide) (fun c_12 => ?_) (fun c_12 => ?_)
        · replace k := ok_t c_12 k
          refine wp_iconst dX10_drawn_80 ic_m1 ?_
          refine wp_iret rfl rfl dX10_drawn_81 ?_
          exact (ok_some k :)
        · replace k := ok_f c_12 k
          refine wp_iload_n dX10_drawn_59 rfl ?_
          refine wp_bipush dX10_drawn_60 bp_6 ?_
          refine wp_icmp_ge 80 dX10_drawn_62 (by decide) (fun c_13 => ?_) (fun c_13 => ?_)
          · replace k := ok_t c_13 k
            refine wp_iconst dX10_drawn_80 ic_m1 ?_
            refine wp_iret rfl rfl dX10_drawn_81 ?_
            exact (ok_some k :)
          · replace k := ok_f c_13 k
            refine wp_aload_n dX10_drawn_65 rfl ?_
            replace k := ok_bind k
            obtain ⟨p_14, e_15, k⟩ := k
            refine wq_getR fl_X10_47 (Or.inl ⟨_, rfl⟩) dX10_drawn_66 e_15 ?_
            replace k := ok_bind k
            obtain ⟨p_16, e_17, k⟩ := k
            refine wq_getR fl_X10_394 (Or.inl ⟨_, rfl⟩) dX10_drawn_69 e_17 ?_
            replace k := ok_bind k
            obtain ⟨p_18, e_19, k⟩ := k
            refine wq_getR fl_X10_160 (Or.inr ⟨_, rfl⟩) dX10_drawn_72 e_19 ?_
            refine wp_iload_n dX10_drawn_75 rfl ?_
            replace k := ok_bind k
            obtain ⟨v_20, e_21, k⟩ := k
            refine wq_aI dX10_drawn_76 e_21 ?_
            refine wp_goto 81 dX10_drawn_77 (by decide) ?_
            refine wp_iret rfl rfl dX10_drawn_81 ?_
            exact (ok_some k :)
      replace k := ok_f c_7 k
      refine wp_case (1 : Int32) (fun c_22 => ?_) (fun c_22 => ?_)
      · refine wp_tabIn 82 dX10_drawn_17 (by rw [c_22]; decide) (by rw [c_22]; decide) (by rw [c_22]; rfl) (by decide) ?_
        replace k := ok_t c_22 k
        refine wp_iload_n dX10_drawn_82 rfl ?_
        refine wp_aload_n dX10_drawn_83 rfl ?_
        replace k := ok_bind k
        obtain ⟨p_23, e_24, k⟩ := k
        refine wq_getR fl_X10_47 (Or.inl ⟨_, rfl⟩) dX10_drawn_84 e_24 ?_
        replace k := ok_bind k
        obtain ⟨v_25, e_26, k⟩ := k
        refine wq_getI fl_X10_399 (Or.inl rfl) dX10_drawn_87 e_26 ?_
        refine wp_icmp_ge 114 dX10_drawn_90 (by decide) (fun c_27 => ?_) (fun c_27 => ?_)
        · replace k := ok_t c_27 k
          refine wp_iconst dX10_drawn_114 ic_m1 ?_
          refine wp_iret rfl rfl dX10_drawn_115 ?_
          exact (ok_some k :)
        · replace k := ok_f c_27 k
          refine wp_iload_n dX10_drawn_93 rfl ?_
          refine wp_bipush dX10_drawn_94 bp_7 ?_
          refine wp_icmp_ge 114 dX10_drawn_96 (by decide) (fun c_28 => ?_) (fun c_28 => ?_)
          · replace k := ok_t c_28 k
            refine wp_iconst dX10_drawn_114 ic_m1 ?_
            refine wp_iret rfl rfl dX10_drawn_115 ?_
            exact (ok_some k :)
          · replace k := ok_f c_28 k
            refine wp_aload_n dX10_drawn_99 rfl ?_
            replace k := ok_bind k
            obtain ⟨p_29, e_30, k⟩ := k
            refine wq_getR fl_X10_47 (Or.inl ⟨_, rfl⟩) dX10_drawn_100 e_30 ?_
            replace k := ok_bind k
            obtain ⟨p_31, e_32, k⟩ := k
            refine wq_getR fl_X10_394 (Or.inl ⟨_, rfl⟩) dX10_drawn_103 e_32 ?_
            replace k := ok_bind k
            obtain ⟨p_33, e_34, k⟩ := k
            refine wq_getR fl_X10_123 (Or.inr ⟨_, rfl⟩) dX10_drawn_106 e_34 ?_
            refine wp_iload_n dX10_drawn_109 rfl ?_
            replace k := ok_bind k
            obtain ⟨v_35, e_36, k⟩ := k
            refine wq_aI dX10_drawn_110 e_36 ?_
            refine wp_goto 115 dX10_drawn_111 (by decide) ?_
            refine wp_iret rfl rfl dX10_drawn_115 ?_
            exact (ok_some k :)
      replace k := ok_f c_22 k
      refine wp_case (2 : Int32) (fun c_37 => ?_) (fun c_37 => ?_)
      · refine wp_tabIn 116 dX10_drawn_17 (by rw [c_37]; decide) (by rw [c_37]; decide) (by rw [c_37]; rfl) (by decide) ?_
        replace k := ok_t c_37 k
        refine wp_iload_n dX10_drawn_116 rfl ?_
        refine wp_if_ne 133 dX10_drawn_117 (by decide) (fun c_38 => ?_) (fun c_38 => ?_)
        · replace k := ok_f c_38 k
          refine wp_iconst dX10_drawn_133 ic_m1 ?_
          refine wp_iret rfl rfl dX10_drawn_134 ?_
          exact (ok_some k :)
        · replace k := ok_t c_38 k
          refine wp_aload_n dX10_drawn_120 rfl ?_
          replace k := ok_bind k
          obtain ⟨p_39, e_40, k⟩ := k
          refine wq_getR fl_X10_47 (Or.inl ⟨_, rfl⟩) dX10_drawn_121 e_40 ?_
          replace k := ok_bind k
          obtain ⟨p_41, e_42, k⟩ := k
          refine wq_getR fl_X10_394 (Or.inl ⟨_, rfl⟩) dX10_drawn_124 e_42 ?_
          replace k := ok_bind k
          obtain ⟨v_43, e_44, k⟩ := k
          refine wq_getI fl_X10_277 (Or.inl rfl) dX10_drawn_127 e_44 ?_
          refine wp_goto 134 dX10_drawn_130 (by decide) ?_
          refine wp_iret rfl rfl dX10_drawn_134 ?_
          exact (ok_some k :)
      replace k := ok_f c_37 k
      refine wp_case (3 : Int32) (fun c_45 => ?_) (fun c_45 => ?_)
      · refine wp_tabIn 135 dX10_drawn_17 (by rw [c_45]; decide) (by rw [c_45]; decide) (by rw [c_45]; rfl) (by decide) ?_
        replace k := ok_t c_45 k
        refine wp_iload_n dX10_drawn_135 rfl ?_
        refine wp_if_ne 152 dX10_drawn_136 (by decide) (fun c_46 => ?_) (fun c_46 => ?_)
        · replace k := ok_f c_46 k
          refine wp_iconst dX10_drawn_152 ic_m1 ?_
          refine wp_iret rfl rfl dX10_drawn_153 ?_
          exact (ok_some k :)
        · replace k := ok_t c_46 k
          refine wp_aload_n dX10_drawn_139 rfl ?_
          replace k := ok_bind k
          obtain ⟨p_47, e_48, k⟩ := k
          refine wq_getR fl_X10_47 (Or.inl ⟨_, rfl⟩) dX10_drawn_140 e_48 ?_
          replace k := ok_bind k
          obtain ⟨p_49, e_50, k⟩ := k
          refine wq_getR fl_X10_394 (Or.inl ⟨_, rfl⟩) dX10_drawn_143 e_50 ?_
          replace k := ok_bind k
          obtain ⟨v_51, e_52, k⟩ := k
          refine wq_getI fl_X10_189 (Or.inl rfl) dX10_drawn_146 e_52 ?_
          refine wp_goto 153 dX10_drawn_149 (by decide) ?_
          refine wp_iret rfl rfl dX10_drawn_153 ?_
          exact (ok_some k :)
      replace k := ok_f c_45 k
      refine wp_tabOut 154 dX10_drawn_17 (tab_out (n := 4) (fun i hi => ?_)) (by decide) ?_
      · match i, hi with
        | 0, _ => exact ti_ne c_7 (by decide)
        | 1, _ => exact ti_ne c_22 (by decide)
        | 2, _ => exact ti_ne c_37 (by decide)
        | 3, _ => exact ti_ne c_45 (by decide)
        | i + 4, hi => exact absurd hi (by omega)
      refine wp_iconst dX10_drawn_154 ic_m1 ?_
      refine wp_iret rfl rfl dX10_drawn_155 ?_
      exact (ok_some k :)
    · replace k := ok_t c_6 k
      refine wp_iconst dX10_drawn_14 ic_m1 ?_
      refine wp_iret rfl rfl dX10_drawn_15 ?_
      exact (ok_some k :)
theorem c_X10_drawn {S : SH} {d : Nat} {K : Option Value → AH → Prop} (hd : 0 ≤ d)  {r0 : Nat} {x1 : Int32} {x2 : Int32} {h : AH} (k : ok (f_X10_drawn S r0 x1 x2 h) (fun w h' => K (some (.int w)) h')) : CP S M_X10_drawn d 0 0 [.ref r0, .int x1, .int x2] h K := cp_of (by decide) (fun _ _ => trivial) (fun _ => Nat.le_of_ble_eq_true rfl) (s_X10_drawn hd  k)
def f_X10_image (S : SH) (r0 : Nat) (x1 : Int32) (h : AH) : Option (Int32 × AH) :=
  if x1 < (0 : Int32) then
    (ckO S h r0 10).bind fun _ =>
    (f_X10_refuse S r0 (-1 : Int32) h).bind fun z => match z with
    | (z_4, h_3) =>
    some (z_4, h_3)
  else
    if (2 : Int32) ≤ x1 then
      (ckO S h r0 10).bind fun _ =>
      (f_X10_refuse S r0 (-1 : Int32) h).bind fun z => match z with
      | (z_8, h_7) =>
      some (z_8, h_7)
    else
      (gR S h r0 10 3).bind fun p_9 =>
      (aR S h p_9 x1).bind fun o_11 =>
      match o_11 with
      | none => (
        (ckO S h r0 10).bind fun _ =>
        (f_X10_refuse S r0 (-1 : Int32) h).bind fun z => match z with
        | (z_16, h_15) =>
        some (z_16, h_15))
      | some p_13 => (
        (gR S h r0 10 3).bind fun p_17 =>
        (aR S h p_17 x1).bind fun o_19 =>
        match o_19 with
        | none => (
          (gR S h r0 10 2).bind fun p_22 =>
          none)
        | some p_21 => (
          (gR S h r0 10 2).bind fun p_24 =>
          (ckO S h p_21 6).bind fun _ =>
          (f_X6_become S p_21 p_24 h).bind fun z => match z with
          | (_, h_27) =>
          (gR S h_27 r0 10 3).bind fun p_29 =>
          (aR S h_27 p_29 x1).bind fun o_31 =>
          match o_31 with
          | none => (
            none)
          | some p_33 => (
            (pZ S h_27 p_33 6 16 (1 : Int32)).bind fun h_34 =>
            (ckO S h_34 r0 10).bind fun _ =>
            (f_X10_accept S r0 (0 : Int32) h_34).bind fun z => match z with
            | (z_38, h_37) =>
            some (z_38, h_37))))
set_option maxHeartbeats 8000000 in
set_option maxRecDepth 20000 in
theorem s_X10_image {S : SH} {d cb sb : Nat} {Q : Option Value → AH → Prop} (hd : 3 ≤ d)  {r0 : Nat} {x1 : Int32} {h : AH} (k : ok (f_X10_image S r0 x1 h) (fun w h' => Q (some (.int w)) h')) : WP S M_X10_image d cb sb Q 0 [.ref r0, .int x1] [] h := by
  obtain ⟨d, rfl, he⟩ := dp (L := 2) hd
  unfold f_X10_image at k
  refine wp_iload_n dX10_image_0 rfl ?_
  refine wp_if_lt 18 dX10_image_1 (by decide) (fun c_1 => ?_) (fun c_1 => ?_)
  · replace k := ok_t c_1 k
    refine wp_aload_n dX10_image_18 rfl ?_
    refine wp_iconst dX10_image_19 ic_m1 ?_
    replace k := ok_bind k
    obtain ⟨u, e_2, k⟩ := k
    refine wp_callV1 (N := M_X10_refuse) (ci := 10) mf_X10_refuse mi_X10_refuse me_X10_refuse ml_X10_96 dX10_image_20 (ckO_e e_2) mv_X10_refuse (by exact Nat.le_of_ble_eq_true rfl) (c_X10_refuse (Nat.le_trans (by decide) he) (ok_mono (ok_bind2 k) fun z_4 h_3 k => ?_))
    try dsimp only at k
    refine wp_iret rfl rfl dX10_image_23 ?_
    exact (ok_some k :)
  · replace k := ok_f c_1 k
    refine wp_iload_n dX10_image_4 rfl ?_
    refine wp_iconst dX10_image_5 ic_2 ?_
    refine wp_icmp_ge 18 dX10_image_6 (by decide) (fun c_5 => ?_) (fun c_5 => ?_)
    · replace k := ok_t c_5 k
      refine wp_aload_n dX10_image_18 rfl ?_
      refine wp_iconst dX10_image_19 ic_m1 ?_
      replace k := ok_bind k
      obtain ⟨u, e_6, k⟩ := k
      refine wp_callV1 (N := M_X10_refuse) (ci := 10) mf_X10_refuse mi_X10_refuse me_X10_refuse ml_X10_96 dX10_image_20 (ckO_e e_6) mv_X10_refuse (by exact Nat.le_of_ble_eq_true rfl) (c_X10_refuse (Nat.le_trans (by decide) he) (ok_mono (ok_bind2 k) fun z_8 h_7 k => ?_))
      try dsimp only at k
      refine wp_iret rfl rfl dX10_image_23 ?_
      exact (ok_some k :)
    · replace k := ok_f c_5 k
      refine wp_aload_n dX10_image_9 rfl ?_
      replace k := ok_bind k
      obtain ⟨p_9, e_10, k⟩ := k
      refine wq_getR fl_X10_20 (Or.inr ⟨_, rfl⟩) dX10_image_10 e_10 ?_
      refine wp_iload_n dX10_image_13 rfl ?_
      replace k := ok_bind k
      obtain ⟨o_11, e_12, k⟩ := k
      refine wq_aR dX10_image_14 e_12 ?_
      rcases o_11 with _ | p_13
      · try dsimp only at k
        refine wp_ifnonnullN dX10_image_15 ?_
        refine wp_aload_n dX10_image_18 rfl ?_
        refine wp_iconst dX10_image_19 ic_m1 ?_
        replace k := ok_bind k
        obtain ⟨u, e_14, k⟩ := k
        refine wp_callV1 (N := M_X10_refuse) (ci := 10) mf_X10_refuse mi_X10_refuse me_X10_refuse ml_X10_96 dX10_image_20 (ckO_e e_14) mv_X10_refuse (by exact Nat.le_of_ble_eq_true rfl) (c_X10_refuse (Nat.le_trans (by decide) he) (ok_mono (ok_bind2 k) fun z_16 h_15 k => ?_))
        try dsimp only at k
        refine wp_iret rfl rfl dX10_image_23 ?_
        exact (ok_some k :)
      · try dsimp only at k
        refine wp_ifnonnull 24 dX10_image_15 (by decide) ?_
        refine wp_aload_n dX10_image_24 rfl ?_
        replace k := ok_bind k
        obtain ⟨p_17, e_18, k⟩ := k
        refine wq_getR fl_X10_20 (Or.inr ⟨_, rfl⟩) dX10_image_25 e_18 ?_
        refine wp_iload_n dX10_image_28 rfl ?_
        replace k := ok_bind k
        obtain ⟨o_19, e_20, k⟩ := k
        refine wq_aR dX10_image_29 e_20 ?_
        rcases o_19 with _ | p_21
        · try dsimp only at k
          refine wp_aload_n dX10_image_30 rfl ?_
          replace k := ok_bind k
          obtain ⟨p_22, e_23, k⟩ := k
          refine wq_getR fl_X10_16 (Or.inl ⟨_, rfl⟩) dX10_image_31 e_23 ?_
          exact ok_none k
        · try dsimp only at k
          refine wp_aload_n dX10_image_30 rfl ?_
          replace k := ok_bind k
          obtain ⟨p_24, e_25, k⟩ := k
          refine wq_getR fl_X10_16 (Or.inl ⟨_, rfl⟩) dX10_image_31 e_25 ?_
          replace k := ok_bind k
          obtain ⟨u, e_26, k⟩ := k
          refine wp_callV1 (N := M_X6_become) (ci := 6) mf_X6_become mi_X6_become me_X6_become ml_X10_400 dX10_image_34 (ckO_e e_26) mv_X6_become (by exact Nat.le_of_ble_eq_true rfl) (c_X6_become (Nat.le_trans (by decide) he) (ok_mono (ok_bind2 k) fun _ h_27 k => ?_))
          try dsimp only at k
          refine wp_aload_n dX10_image_37 rfl ?_
          replace k := ok_bind k
          obtain ⟨p_29, e_30, k⟩ := k
          refine wq_getR fl_X10_20 (Or.inr ⟨_, rfl⟩) dX10_image_38 e_30 ?_
          refine wp_iload_n dX10_image_41 rfl ?_
          replace k := ok_bind k
          obtain ⟨o_31, e_32, k⟩ := k
          refine wq_aR dX10_image_42 e_32 ?_
          rcases o_31 with _ | p_33
          · try dsimp only at k
            refine wp_iconst dX10_image_43 ic_1 ?_
            exact ok_none k
          · try dsimp only at k
            refine wp_iconst dX10_image_43 ic_1 ?_
            replace k := ok_bind k
            obtain ⟨h_34, e_35, k⟩ := k
            refine wq_putZ fl_X10_403 rfl rfl dX10_image_44 e_35 ?_
            refine wp_aload_n dX10_image_47 rfl ?_
            refine wp_iconst dX10_image_48 ic_0 ?_
            replace k := ok_bind k
            obtain ⟨u, e_36, k⟩ := k
            refine wp_callV1 (N := M_X10_accept) (ci := 10) mf_X10_accept mi_X10_accept me_X10_accept ml_X10_110 dX10_image_49 (ckO_e e_36) mv_X10_accept (by exact Nat.le_of_ble_eq_true rfl) (c_X10_accept (Nat.le_trans (by decide) he) (ok_mono (ok_bind2 k) fun z_38 h_37 k => ?_))
            try dsimp only at k
            refine wp_iret rfl rfl dX10_image_52 ?_
            exact (ok_some k :)
theorem c_X10_image {S : SH} {d : Nat} {K : Option Value → AH → Prop} (hd : 3 ≤ d)  {r0 : Nat} {x1 : Int32} {h : AH} (k : ok (f_X10_image S r0 x1 h) (fun w h' => K (some (.int w)) h')) : CP S M_X10_image d 0 0 [.ref r0, .int x1] h K := cp_of (by decide) (fun _ _ => trivial) (fun _ => Nat.le_of_ble_eq_true rfl) (s_X10_image hd  k)
def f_X10_back (S : SH) (r0 : Nat) (x1 : Int32) (h : AH) : Option (Int32 × AH) :=
  if x1 < (0 : Int32) then
    (ckO S h r0 10).bind fun _ =>
    (f_X10_refuse S r0 (-1 : Int32) h).bind fun z => match z with
    | (z_4, h_3) =>
    some (z_4, h_3)
  else
    if (2 : Int32) ≤ x1 then
      (ckO S h r0 10).bind fun _ =>
      (f_X10_refuse S r0 (-1 : Int32) h).bind fun z => match z with
      | (z_8, h_7) =>
      some (z_8, h_7)
    else
      (gR S h r0 10 3).bind fun p_9 =>
      (aR S h p_9 x1).bind fun o_11 =>
      match o_11 with
      | none => (
        (ckO S h r0 10).bind fun _ =>
        (f_X10_refuse S r0 (-1 : Int32) h).bind fun z => match z with
        | (z_16, h_15) =>
        some (z_16, h_15))
      | some p_13 => (
        (gR S h r0 10 3).bind fun p_17 =>
        (aR S h p_17 x1).bind fun o_19 =>
        match o_19 with
        | none => (
          none)
        | some p_21 => (
          (gI S h p_21 6 16).bind fun v_22 =>
          if v_22 = (0 : Int32) then
            (ckO S h r0 10).bind fun _ =>
            (f_X10_refuse S r0 (-2 : Int32) h).bind fun z => match z with
            | (z_45, h_44) =>
            some (z_45, h_44)
          else
            (gR S h r0 10 2).bind fun p_25 =>
            (gR S h r0 10 3).bind fun p_27 =>
            (aR S h p_27 x1).bind fun o_29 =>
            match o_29 with
            | none => (
              none)
            | some p_31 => (
              (ckO S h p_25 6).bind fun _ =>
              (f_X6_become S p_25 p_31 h).bind fun z => match z with
              | (_, h_33) =>
              (gR S h_33 r0 10 4).bind fun p_35 =>
              (ckO S h_33 p_35 5).bind fun _ =>
              (f_X5_clear S p_35 h_33).bind fun z => match z with
              | (_, h_38) =>
              (ckO S h_38 r0 10).bind fun _ =>
              (f_X10_accept S r0 (0 : Int32) h_38).bind fun z => match z with
              | (z_42, h_41) =>
              some (z_42, h_41))))
set_option maxHeartbeats 8000000 in
set_option maxRecDepth 20000 in
theorem s_X10_back {S : SH} {d cb sb : Nat} {Q : Option Value → AH → Prop} (hd : 3 ≤ d)  {r0 : Nat} {x1 : Int32} {h : AH} (k : ok (f_X10_back S r0 x1 h) (fun w h' => Q (some (.int w)) h')) : WP S M_X10_back d cb sb Q 0 [.ref r0, .int x1] [] h := by
  obtain ⟨d, rfl, he⟩ := dp (L := 2) hd
  unfold f_X10_back at k
  refine wp_iload_n dX10_back_0 rfl ?_
  refine wp_if_lt 18 dX10_back_1 (by decide) (fun c_1 => ?_) (fun c_1 => ?_)
  · replace k := ok_t c_1 k
    refine wp_aload_n dX10_back_18 rfl ?_
    refine wp_iconst dX10_back_19 ic_m1 ?_
    replace k := ok_bind k
    obtain ⟨u, e_2, k⟩ := k
    refine wp_callV1 (N := M_X10_refuse) (ci := 10) mf_X10_refuse mi_X10_refuse me_X10_refuse ml_X10_96 dX10_back_20 (ckO_e e_2) mv_X10_refuse (by exact Nat.le_of_ble_eq_true rfl) (c_X10_refuse (Nat.le_trans (by decide) he) (ok_mono (ok_bind2 k) fun z_4 h_3 k => ?_))
    try dsimp only at k
    refine wp_iret rfl rfl dX10_back_23 ?_
    exact (ok_some k :)
  · replace k := ok_f c_1 k
    refine wp_iload_n dX10_back_4 rfl ?_
    refine wp_iconst dX10_back_5 ic_2 ?_
    refine wp_icmp_ge 18 dX10_back_6 (by decide) (fun c_5 => ?_) (fun c_5 => ?_)
    · replace k := ok_t c_5 k
      refine wp_aload_n dX10_back_18 rfl ?_
      refine wp_iconst dX10_back_19 ic_m1 ?_
      replace k := ok_bind k
      obtain ⟨u, e_6, k⟩ := k
      refine wp_callV1 (N := M_X10_refuse) (ci := 10) mf_X10_refuse mi_X10_refuse me_X10_refuse ml_X10_96 dX10_back_20 (ckO_e e_6) mv_X10_refuse (by exact Nat.le_of_ble_eq_true rfl) (c_X10_refuse (Nat.le_trans (by decide) he) (ok_mono (ok_bind2 k) fun z_8 h_7 k => ?_))
      try dsimp only at k
      refine wp_iret rfl rfl dX10_back_23 ?_
      exact (ok_some k :)
    · replace k := ok_f c_5 k
      refine wp_aload_n dX10_back_9 rfl ?_
      replace k := ok_bind k
      obtain ⟨p_9, e_10, k⟩ := k
      refine wq_getR fl_X10_20 (Or.inr ⟨_, rfl⟩) dX10_back_10 e_10 ?_
      refine wp_iload_n dX10_back_13 rfl ?_
      replace k := ok_bind k
      obtain ⟨o_11, e_12, k⟩ := k
      refine wq_aR dX10_back_14 e_12 ?_
      rcases o_11 with _ | p_13
      · try dsimp only at k
        refine wp_ifnonnullN dX10_back_15 ?_
        refine wp_aload_n dX10_back_18 rfl ?_
        refine wp_iconst dX10_back_19 ic_m1 ?_
        replace k := ok_bind k
        obtain ⟨u, e_14, k⟩ := k
        refine wp_callV1 (N := M_X10_refuse) (ci := 10) mf_X10_refuse mi_X10_refuse me_X10_refuse ml_X10_96 dX10_back_20 (ckO_e e_14) mv_X10_refuse (by exact Nat.le_of_ble_eq_true rfl) (c_X10_refuse (Nat.le_trans (by decide) he) (ok_mono (ok_bind2 k) fun z_16 h_15 k => ?_))
        try dsimp only at k
        refine wp_iret rfl rfl dX10_back_23 ?_
        exact (ok_some k :)
      · try dsimp only at k
        refine wp_ifnonnull 24 dX10_back_15 (by decide) ?_
        refine wp_aload_n dX10_back_24 rfl ?_
        replace k := ok_bind k
        obtain ⟨p_17, e_18, k⟩ := k
        refine wq_getR fl_X10_20 (Or.inr ⟨_, rfl⟩) dX10_back_25 e_18 ?_
        refine wp_iload_n dX10_back_28 rfl ?_
        replace k := ok_bind k
        obtain ⟨o_19, e_20, k⟩ := k
        refine wq_aR dX10_back_29 e_20 ?_
        rcases o_19 with _ | p_21
        · try dsimp only at k
          exact ok_none k
        · try dsimp only at k
          replace k := ok_bind k
          obtain ⟨v_22, e_23, k⟩ := k
          refine wq_getI fl_X10_403 (Or.inr rfl) dX10_back_30 e_23 ?_
          refine wp_if_ne 43 dX10_back_33 (by decide) (fun c_24 => ?_) (fun c_24 => ?_)
          · replace k := ok_f c_24 k
            refine wp_aload_n dX10_back_43 rfl ?_
            replace k := ok_bind k
            obtain ⟨p_25, e_26, k⟩ := k
            refine wq_getR fl_X10_16 (Or.inl ⟨_, rfl⟩) dX10_back_44 e_26 ?_
            refine wp_aload_n dX10_back_47 rfl ?_
            replace k := ok_bind k
            obtain ⟨p_27, e_28, k⟩ := k
            refine wq_getR fl_X10_20 (Or.inr ⟨_, rfl⟩) dX10_back_48 e_28 ?_
            refine wp_iload_n dX10_back_51 rfl ?_
            replace k := ok_bind k
            obtain ⟨o_29, e_30, k⟩ := k
            refine wq_aR dX10_back_52 e_30 ?_
            rcases o_29 with _ | p_31
            · try dsimp only at k
              exact ok_none k
            · try dsimp only at k
              replace k := ok_bind k
              obtain ⟨u, e_32, k⟩ := k
              refine wp_callV1 (N := M_X6_become) (ci := 6) mf_X6_become mi_X6_become me_X6_become ml_X10_400 dX10_back_53 (ckO_e e_32) mv_X6_become (by exact Nat.le_of_ble_eq_true rfl) (c_X6_become (Nat.le_trans (by decide) he) (ok_mono (ok_bind2 k) fun _ h_33 k => ?_))
              try dsimp only at k
              refine wp_aload_n dX10_back_56 rfl ?_
              replace k := ok_bind k
              obtain ⟨p_35, e_36, k⟩ := k
              refine wq_getR fl_X10_27 (Or.inl ⟨_, rfl⟩) dX10_back_57 e_36 ?_
              replace k := ok_bind k
              obtain ⟨u, e_37, k⟩ := k
              refine wp_callV0 (N := M_X5_clear) (ci := 5) mf_X5_clear mi_X5_clear me_X5_clear ml_X10_103 dX10_back_60 (ckO_e e_37) mv_X5_clear (by exact Nat.le_of_ble_eq_true rfl) (c_X5_clear (Nat.le_trans (by decide) he) (ok_mono (ok_bind2 k) fun _ h_38 k => ?_))
              try dsimp only at k
              refine wp_aload_n dX10_back_63 rfl ?_
              refine wp_iconst dX10_back_64 ic_0 ?_
              replace k := ok_bind k
              obtain ⟨u, e_40, k⟩ := k
              refine wp_callV1 (N := M_X10_accept) (ci := 10) mf_X10_accept mi_X10_accept me_X10_accept ml_X10_110 dX10_back_65 (ckO_e e_40) mv_X10_accept (by exact Nat.le_of_ble_eq_true rfl) (c_X10_accept (Nat.le_trans (by decide) he) (ok_mono (ok_bind2 k) fun z_42 h_41 k => ?_))
              try dsimp only at k
              refine wp_iret rfl rfl dX10_back_68 ?_
              exact (ok_some k :)
          · replace k := ok_t c_24 k
            refine wp_aload_n dX10_back_36 rfl ?_
            refine wp_bipush dX10_back_37 bp_m2 ?_
            replace k := ok_bind k
            obtain ⟨u, e_43, k⟩ := k
            refine wp_callV1 (N := M_X10_refuse) (ci := 10) mf_X10_refuse mi_X10_refuse me_X10_refuse ml_X10_96 dX10_back_39 (ckO_e e_43) mv_X10_refuse (by exact Nat.le_of_ble_eq_true rfl) (c_X10_refuse (Nat.le_trans (by decide) he) (ok_mono (ok_bind2 k) fun z_45 h_44 k => ?_))
            try dsimp only at k
            refine wp_iret rfl rfl dX10_back_42 ?_
            exact (ok_some k :)
theorem c_X10_back {S : SH} {d : Nat} {K : Option Value → AH → Prop} (hd : 3 ≤ d)  {r0 : Nat} {x1 : Int32} {h : AH} (k : ok (f_X10_back S r0 x1 h) (fun w h' => K (some (.int w)) h')) : CP S M_X10_back d 0 0 [.ref r0, .int x1] h K := cp_of (by decide) (fun _ _ => trivial) (fun _ => Nat.le_of_ble_eq_true rfl) (s_X10_back hd  k)
def f_X10_count_j58 (S : SH) (r0 : Nat) (x1 : Int32) (h : AH) : Option (Int32 × AH) :=
  if x1 = (0 : Int32) then
    (gR S h r0 10 2).bind fun p_2 =>
    (gI S h p_2 6 1).bind fun v_4 =>
    some (v_4, h)
  else
  if x1 = (1 : Int32) then
    (gR S h r0 10 10).bind fun p_7 =>
    (gR S h r0 10 2).bind fun p_9 =>
    (gR S h p_9 6 0).bind fun p_11 =>
    (ckO S h p_7 1).bind fun _ =>
    (f_X1_present S p_7 p_11 h).bind fun z => match z with
    | (z_15, h_14) =>
    (f_J6_bitCount_0f7a4 S z_15 h_14).bind fun z => match z with
    | (z_17, h_16) =>
    some (z_17, h_16)
  else
  if x1 = (2 : Int32) then
    (gR S h r0 10 2).bind fun p_19 =>
    (gI S h p_19 6 4).bind fun v_21 =>
    some (v_21, h)
  else
  if x1 = (3 : Int32) then
    (gR S h r0 10 2).bind fun p_24 =>
    (gR S h p_24 6 0).bind fun p_26 =>
    (gI S h p_26 7 2).bind fun v_28 =>
    some (v_28, h)
  else
  if x1 = (4 : Int32) then
    (gR S h r0 10 2).bind fun p_31 =>
    (gI S h p_31 6 10).bind fun v_33 =>
    some (v_33, h)
  else
  if x1 = (5 : Int32) then
    (gR S h r0 10 2).bind fun p_36 =>
    (gI S h p_36 6 12).bind fun v_38 =>
    some (v_38, h)
  else
  if x1 = (6 : Int32) then
    (gR S h r0 10 4).bind fun p_41 =>
    (gI S h p_41 5 3).bind fun v_43 =>
    some (v_43, h)
  else
  if x1 = (7 : Int32) then
    (gI S h r0 10 1).bind fun v_46 =>
    some (v_46, h)
  else
  if x1 = (8 : Int32) then
    some ((-1 : Int32), h)
  else
  if x1 = (9 : Int32) then
    some ((-1 : Int32), h)
  else
  if x1 = (10 : Int32) then
    some ((-1 : Int32), h)
  else
  if x1 = (11 : Int32) then
    some ((-1 : Int32), h)
  else
  if x1 = (12 : Int32) then
    some ((-1 : Int32), h)
  else
  if x1 = (13 : Int32) then
    (gR S h r0 10 2).bind fun p_54 =>
    (gI S h p_54 6 15).bind fun v_56 =>
    some (v_56, h)
  else
  some ((-1 : Int32), h)
set_option maxHeartbeats 8000000 in
set_option maxRecDepth 20000 in
theorem s_X10_count_j58 {S : SH} {d cb sb : Nat} {Q : Option Value → AH → Prop} (hd : 1 ≤ d)  {r0 : Nat} {x1 : Int32} {h : AH} (k : ok (f_X10_count_j58 S r0 x1 h) (fun w h' => Q (some (.int w)) h')) : WP S M_X10_count d cb sb Q 58 [.ref r0, .int x1, JK] [] h := by
  obtain ⟨d, rfl, he⟩ := dp (L := 0) hd
  unfold f_X10_count_j58 at k
  refine wp_iload_n dX10_count_58 rfl ?_
  refine wp_case (0 : Int32) (fun c_1 => ?_) (fun c_1 => ?_)
  · refine wp_tabIn 128 dX10_count_59 (by rw [c_1]; decide) (by rw [c_1]; decide) (by rw [c_1]; rfl) (by decide) ?_
    replace k := ok_t c_1 k
    refine wp_aload_n dX10_count_128 rfl ?_
    replace k := ok_bind k
    obtain ⟨p_2, e_3, k⟩ := k
    refine wq_getR fl_X10_16 (Or.inl ⟨_, rfl⟩) dX10_count_129 e_3 ?_
    replace k := ok_bind k
    obtain ⟨v_4, e_5, k⟩ := k
    refine wq_getI fl_X10_100 (Or.inl rfl) dX10_count_132 e_5 ?_
    refine wp_iret rfl rfl dX10_count_135 ?_
    exact (ok_some k :)
  replace k := ok_f c_1 k
  refine wp_case (1 : Int32) (fun c_6 => ?_) (fun c_6 => ?_)
  · refine wp_tabIn 136 dX10_count_59 (by rw [c_6]; decide) (by rw [c_6]; decide) (by rw [c_6]; rfl) (by decide) ?_
    replace k := ok_t c_6 k
    refine wp_aload_n dX10_count_136 rfl ?_
    replace k := ok_bind k
    obtain ⟨p_7, e_8, k⟩ := k
    refine wq_getR fl_X10_63 (Or.inl ⟨_, rfl⟩) dX10_count_137 e_8 ?_
    refine wp_aload_n dX10_count_140 rfl ?_
    replace k := ok_bind k
    obtain ⟨p_9, e_10, k⟩ := k
    refine wq_getR fl_X10_16 (Or.inl ⟨_, rfl⟩) dX10_count_141 e_10 ?_
    replace k := ok_bind k
    obtain ⟨p_11, e_12, k⟩ := k
    refine wq_getR fl_X10_120 (Or.inl ⟨_, rfl⟩) dX10_count_144 e_12 ?_
    replace k := ok_bind k
    obtain ⟨u, e_13, k⟩ := k
    refine wp_callV1 (N := M_X1_present) (ci := 1) mf_X1_present mi_X1_present me_X1_present ml_X10_280 dX10_count_147 (ckO_e e_13) mv_X1_present (by exact Nat.le_of_ble_eq_true rfl) (c_X1_present (Nat.le_trans (by decide) he) (ok_mono (ok_bind2 k) fun z_15 h_14 k => ?_))
    try dsimp only at k
    refine wp_callS1 (N := M_J6_bitCount_0f7a4) mf_J6_bitCount_0f7a4 ms_J6_bitCount_0f7a4 ml_X10_284 dX10_count_150 (by exact Nat.le_of_ble_eq_true rfl) (c_J6_bitCount_0f7a4 (Nat.le_trans (by decide) he) (ok_mono (ok_bind2 k) fun z_17 h_16 k => ?_))
    try dsimp only at k
    refine wp_iret rfl rfl dX10_count_153 ?_
    exact (ok_some k :)
  replace k := ok_f c_6 k
  refine wp_case (2 : Int32) (fun c_18 => ?_) (fun c_18 => ?_)
  · refine wp_tabIn 154 dX10_count_59 (by rw [c_18]; decide) (by rw [c_18]; decide) (by rw [c_18]; rfl) (by decide) ?_
    replace k := ok_t c_18 k
    refine wp_aload_n dX10_count_154 rfl ?_
    replace k := ok_bind k
    obtain ⟨p_19, e_20, k⟩ := k
    refine wq_getR fl_X10_16 (Or.inl ⟨_, rfl⟩) dX10_count_155 e_20 ?_
    replace k := ok_bind k
    obtain ⟨v_21, e_22, k⟩ := k
    refine wq_getI fl_X10_148 (Or.inl rfl) dX10_count_158 e_22 ?_
    refine wp_iret rfl rfl dX10_count_161 ?_
    exact (ok_some k :)
  replace k := ok_f c_18 k
  refine wp_case (3 : Int32) (fun c_23 => ?_) (fun c_23 => ?_)
  · refine wp_tabIn 162 dX10_count_59 (by rw [c_23]; decide) (by rw [c_23]; decide) (by rw [c_23]; rfl) (by decide) ?_
    replace k := ok_t c_23 k
    refine wp_aload_n dX10_count_162 rfl ?_
    replace k := ok_bind k
    obtain ⟨p_24, e_25, k⟩ := k
    refine wq_getR fl_X10_16 (Or.inl ⟨_, rfl⟩) dX10_count_163 e_25 ?_
    replace k := ok_bind k
    obtain ⟨p_26, e_27, k⟩ := k
    refine wq_getR fl_X10_120 (Or.inl ⟨_, rfl⟩) dX10_count_166 e_27 ?_
    replace k := ok_bind k
    obtain ⟨v_28, e_29, k⟩ := k
    refine wq_getI fl_X10_277 (Or.inl rfl) dX10_count_169 e_29 ?_
    refine wp_iret rfl rfl dX10_count_172 ?_
    exact (ok_some k :)
  replace k := ok_f c_23 k
  refine wp_case (4 : Int32) (fun c_30 => ?_) (fun c_30 => ?_)
  · refine wp_tabIn 173 dX10_count_59 (by rw [c_30]; decide) (by rw [c_30]; decide) (by rw [c_30]; rfl) (by decide) ?_
    replace k := ok_t c_30 k
    refine wp_aload_n dX10_count_173 rfl ?_
    replace k := ok_bind k
    obtain ⟨p_31, e_32, k⟩ := k
    refine wq_getR fl_X10_16 (Or.inl ⟨_, rfl⟩) dX10_count_174 e_32 ?_
    replace k := ok_bind k
    obtain ⟨v_33, e_34, k⟩ := k
    refine wq_getI fl_X10_365 (Or.inl rfl) dX10_count_177 e_34 ?_
    refine wp_iret rfl rfl dX10_count_180 ?_
    exact (ok_some k :)
  replace k := ok_f c_30 k
  refine wp_case (5 : Int32) (fun c_35 => ?_) (fun c_35 => ?_)
  · refine wp_tabIn 181 dX10_count_59 (by rw [c_35]; decide) (by rw [c_35]; decide) (by rw [c_35]; rfl) (by decide) ?_
    replace k := ok_t c_35 k
    refine wp_aload_n dX10_count_181 rfl ?_
    replace k := ok_bind k
    obtain ⟨p_36, e_37, k⟩ := k
    refine wq_getR fl_X10_16 (Or.inl ⟨_, rfl⟩) dX10_count_182 e_37 ?_
    replace k := ok_bind k
    obtain ⟨v_38, e_39, k⟩ := k
    refine wq_getI fl_X10_217 (Or.inl rfl) dX10_count_185 e_39 ?_
    refine wp_iret rfl rfl dX10_count_188 ?_
    exact (ok_some k :)
  replace k := ok_f c_35 k
  refine wp_case (6 : Int32) (fun c_40 => ?_) (fun c_40 => ?_)
  · refine wp_tabIn 189 dX10_count_59 (by rw [c_40]; decide) (by rw [c_40]; decide) (by rw [c_40]; rfl) (by decide) ?_
    replace k := ok_t c_40 k
    refine wp_aload_n dX10_count_189 rfl ?_
    replace k := ok_bind k
    obtain ⟨p_41, e_42, k⟩ := k
    refine wq_getR fl_X10_27 (Or.inl ⟨_, rfl⟩) dX10_count_190 e_42 ?_
    replace k := ok_bind k
    obtain ⟨v_43, e_44, k⟩ := k
    refine wq_getI fl_X10_407 (Or.inl rfl) dX10_count_193 e_44 ?_
    refine wp_iret rfl rfl dX10_count_196 ?_
    exact (ok_some k :)
  replace k := ok_f c_40 k
  refine wp_case (7 : Int32) (fun c_45 => ?_) (fun c_45 => ?_)
  · refine wp_tabIn 197 dX10_count_59 (by rw [c_45]; decide) (by rw [c_45]; decide) (by rw [c_45]; rfl) (by decide) ?_
    replace k := ok_t c_45 k
    refine wp_aload_n dX10_count_197 rfl ?_
    replace k := ok_bind k
    obtain ⟨v_46, e_47, k⟩ := k
    refine wq_getI fl_X10_201 (Or.inl rfl) dX10_count_198 e_47 ?_
    refine wp_iret rfl rfl dX10_count_201 ?_
    exact (ok_some k :)
  replace k := ok_f c_45 k
  refine wp_case (8 : Int32) (fun c_48 => ?_) (fun c_48 => ?_)
  · refine wp_tabIn 210 dX10_count_59 (by rw [c_48]; decide) (by rw [c_48]; decide) (by rw [c_48]; rfl) (by decide) ?_
    replace k := ok_t c_48 k
    refine wp_iconst dX10_count_210 ic_m1 ?_
    refine wp_iret rfl rfl dX10_count_211 ?_
    exact (ok_some k :)
  replace k := ok_f c_48 k
  refine wp_case (9 : Int32) (fun c_49 => ?_) (fun c_49 => ?_)
  · refine wp_tabIn 210 dX10_count_59 (by rw [c_49]; decide) (by rw [c_49]; decide) (by rw [c_49]; rfl) (by decide) ?_
    replace k := ok_t c_49 k
    refine wp_iconst dX10_count_210 ic_m1 ?_
    refine wp_iret rfl rfl dX10_count_211 ?_
    exact (ok_some k :)
  replace k := ok_f c_49 k
  refine wp_case (10 : Int32) (fun c_50 => ?_) (fun c_50 => ?_)
  · refine wp_tabIn 210 dX10_count_59 (by rw [c_50]; decide) (by rw [c_50]; decide) (by rw [c_50]; rfl) (by decide) ?_
    replace k := ok_t c_50 k
    refine wp_iconst dX10_count_210 ic_m1 ?_
    refine wp_iret rfl rfl dX10_count_211 ?_
    exact (ok_some k :)
  replace k := ok_f c_50 k
  refine wp_case (11 : Int32) (fun c_51 => ?_) (fun c_51 => ?_)
  · refine wp_tabIn 210 dX10_count_59 (by rw [c_51]; decide) (by rw [c_51]; decide) (by rw [c_51]; rfl) (by decide) ?_
    replace k := ok_t c_51 k
    refine wp_iconst dX10_count_210 ic_m1 ?_
    refine wp_iret rfl rfl dX10_count_211 ?_
    exact (ok_some k :)
  replace k := ok_f c_51 k
  refine wp_case (12 : Int32) (fun c_52 => ?_) (fun c_52 => ?_)
  · refine wp_tabIn 210 dX10_count_59 (by rw [c_52]; decide) (by rw [c_52]; decide) (by rw [c_52]; rfl) (by decide) ?_
    replace k := ok_t c_52 k
    refine wp_iconst dX10_count_210 ic_m1 ?_
    refine wp_iret rfl rfl dX10_count_211 ?_
    exact (ok_some k :)
  replace k := ok_f c_52 k
  refine wp_case (13 : Int32) (fun c_53 => ?_) (fun c_53 => ?_)
  · refine wp_tabIn 202 dX10_count_59 (by rw [c_53]; decide) (by rw [c_53]; decide) (by rw [c_53]; rfl) (by decide) ?_
    replace k := ok_t c_53 k
    refine wp_aload_n dX10_count_202 rfl ?_
    replace k := ok_bind k
    obtain ⟨p_54, e_55, k⟩ := k
    refine wq_getR fl_X10_16 (Or.inl ⟨_, rfl⟩) dX10_count_203 e_55 ?_
    replace k := ok_bind k
    obtain ⟨v_56, e_57, k⟩ := k
    refine wq_getI fl_X10_292 (Or.inl rfl) dX10_count_206 e_57 ?_
    refine wp_iret rfl rfl dX10_count_209 ?_
    exact (ok_some k :)
  replace k := ok_f c_53 k
  refine wp_tabOut 210 dX10_count_59 (tab_out (n := 14) (fun i hi => ?_)) (by decide) ?_
  · match i, hi with
    | 0, _ => exact ti_ne c_1 (by decide)
    | 1, _ => exact ti_ne c_6 (by decide)
    | 2, _ => exact ti_ne c_18 (by decide)
    | 3, _ => exact ti_ne c_23 (by decide)
    | 4, _ => exact ti_ne c_30 (by decide)
    | 5, _ => exact ti_ne c_35 (by decide)
    | 6, _ => exact ti_ne c_40 (by decide)
    | 7, _ => exact ti_ne c_45 (by decide)
    | 8, _ => exact ti_ne c_48 (by decide)
    | 9, _ => exact ti_ne c_49 (by decide)
    | 10, _ => exact ti_ne c_50 (by decide)
    | 11, _ => exact ti_ne c_51 (by decide)
    | 12, _ => exact ti_ne c_52 (by decide)
    | 13, _ => exact ti_ne c_53 (by decide)
    | i + 14, hi => exact absurd hi (by omega)
  refine wp_iconst dX10_count_210 ic_m1 ?_
  refine wp_iret rfl rfl dX10_count_211 ?_
  exact (ok_some k :)
def f_X10_count_j37 (S : SH) (r0 : Nat) (x1 : Int32) (h : AH) : Option (Int32 × AH) :=
  if x1 < (14 : Int32) then
    f_X10_count_j58 S r0 x1 h
  else
    if (17 : Int32) < x1 then
      f_X10_count_j58 S r0 x1 h
    else
      (ckO S h r0 10).bind fun _ =>
      (f_X10_term S r0 ((x1 - (14 : Int32))) h).bind fun z => match z with
      | (z_5, h_4) =>
      some (z_5, h_4)
set_option maxHeartbeats 8000000 in
set_option maxRecDepth 20000 in
theorem s_X10_count_j37 {S : SH} {d cb sb : Nat} {Q : Option Value → AH → Prop} (hd : 1 ≤ d)  {r0 : Nat} {x1 : Int32} {h : AH} (k : ok (f_X10_count_j37 S r0 x1 h) (fun w h' => Q (some (.int w)) h')) : WP S M_X10_count d cb sb Q 37 [.ref r0, .int x1, JK] [] h := by
  obtain ⟨d, rfl, he⟩ := dp (L := 0) hd
  unfold f_X10_count_j37 at k
  refine wp_iload_n dX10_count_37 rfl ?_
  refine wp_bipush dX10_count_38 bp_14 ?_
  refine wp_icmp_lt 58 dX10_count_40 (by decide) (fun c_1 => ?_) (fun c_1 => ?_)
  · replace k := ok_t c_1 k
    exact wp_wk (wkE <| wkE <| wkJ <| wkN) (s_X10_count_j58 (Nat.succ_le_succ he)  k)
  · replace k := ok_f c_1 k
    refine wp_iload_n dX10_count_43 rfl ?_
    refine wp_bipush dX10_count_44 bp_17 ?_
    refine wp_icmp_gt 58 dX10_count_46 (by decide) (fun c_2 => ?_) (fun c_2 => ?_)
    · replace k := ok_t c_2 k
      exact wp_wk (wkE <| wkE <| wkJ <| wkN) (s_X10_count_j58 (Nat.succ_le_succ he)  k)
    · replace k := ok_f c_2 k
      refine wp_aload_n dX10_count_49 rfl ?_
      refine wp_iload_n dX10_count_50 rfl ?_
      refine wp_bipush dX10_count_51 bp_14 ?_
      refine wp_isub dX10_count_53 ?_
      replace k := ok_bind k
      obtain ⟨u, e_3, k⟩ := k
      refine wp_callV1 (N := M_X10_term) (ci := 10) mf_X10_term mi_X10_term me_X10_term ml_X10_186 dX10_count_54 (ckO_e e_3) mv_X10_term (by exact Nat.le_of_ble_eq_true rfl) (c_X10_term (Nat.le_trans (by decide) he) (ok_mono (ok_bind2 k) fun z_5 h_4 k => ?_))
      try dsimp only at k
      refine wp_iret rfl rfl dX10_count_57 ?_
      exact (ok_some k :)
def f_X10_count (S : SH) (r0 : Nat) (x1 : Int32) (h : AH) : Option (Int32 × AH) :=
  if x1 < (8 : Int32) then
    f_X10_count_j37 S r0 x1 h
  else
    if (12 : Int32) < x1 then
      f_X10_count_j37 S r0 x1 h
    else
      if (11 : Int32) ≤ x1 then
        lt ((x1 - (6 : Int32))) fun y_4 =>
        (gR S h r0 10 13).bind fun p_5 =>
        (aI S h p_5 y_4).bind fun v_7 =>
        some (v_7, h)
      else
        lt ((x1 - (7 : Int32))) fun y_9 =>
        (gR S h r0 10 13).bind fun p_10 =>
        (aI S h p_10 y_9).bind fun v_12 =>
        some (v_12, h)
set_option maxHeartbeats 8000000 in
set_option maxRecDepth 20000 in
theorem s_X10_count {S : SH} {d cb sb : Nat} {Q : Option Value → AH → Prop} (hd : 1 ≤ d)  {r0 : Nat} {x1 : Int32} {h : AH} (k : ok (f_X10_count S r0 x1 h) (fun w h' => Q (some (.int w)) h')) : WP S M_X10_count d cb sb Q 0 [.ref r0, .int x1, JK] [] h := by
  obtain ⟨d, rfl, he⟩ := dp (L := 0) hd
  unfold f_X10_count at k
  refine wp_iload_n dX10_count_0 rfl ?_
  refine wp_bipush dX10_count_1 bp_8 ?_
  refine wp_icmp_lt 37 dX10_count_3 (by decide) (fun c_1 => ?_) (fun c_1 => ?_)
  · replace k := ok_t c_1 k
    exact wp_wk (wkE <| wkE <| wkJ <| wkN) (s_X10_count_j37 (Nat.succ_le_succ he)  k)
  · replace k := ok_f c_1 k
    refine wp_iload_n dX10_count_6 rfl ?_
    refine wp_bipush dX10_count_7 bp_12 ?_
    refine wp_icmp_gt 37 dX10_count_9 (by decide) (fun c_2 => ?_) (fun c_2 => ?_)
    · replace k := ok_t c_2 k
      exact wp_wk (wkE <| wkE <| wkJ <| wkN) (s_X10_count_j37 (Nat.succ_le_succ he)  k)
    · replace k := ok_f c_2 k
      refine wp_iload_n dX10_count_12 rfl ?_
      refine wp_bipush dX10_count_13 bp_11 ?_
      refine wp_icmp_ge 25 dX10_count_15 (by decide) (fun c_3 => ?_) (fun c_3 => ?_)
      · replace k := ok_t c_3 k
        refine wp_iload_n dX10_count_25 rfl ?_
        refine wp_bipush dX10_count_26 bp_6 ?_
        refine wp_isub dX10_count_28 ?_
        replace k := ok_lt k
        refine wp_istore_n dX10_count_29 (by decide) (L1 := [_, _, _]) rfl ?_
        refine wp_aload_n dX10_count_30 rfl ?_
        replace k := ok_bind k
        obtain ⟨p_5, e_6, k⟩ := k
        refine wq_getR fl_X10_83 (Or.inr ⟨_, rfl⟩) dX10_count_31 e_6 ?_
        refine wp_iload_n dX10_count_34 rfl ?_
        replace k := ok_bind k
        obtain ⟨v_7, e_8, k⟩ := k
        refine wq_aI dX10_count_35 e_8 ?_
        refine wp_iret rfl rfl dX10_count_36 ?_
        exact (ok_some k :)
      · replace k := ok_f c_3 k
        refine wp_iload_n dX10_count_18 rfl ?_
        refine wp_bipush dX10_count_19 bp_7 ?_
        refine wp_isub dX10_count_21 ?_
        refine wp_goto 29 dX10_count_22 (by decide) ?_
        replace k := ok_lt k
        refine wp_istore_n dX10_count_29 (by decide) (L1 := [_, _, _]) rfl ?_
        refine wp_aload_n dX10_count_30 rfl ?_
        replace k := ok_bind k
        obtain ⟨p_10, e_11, k⟩ := k
        refine wq_getR fl_X10_83 (Or.inr ⟨_, rfl⟩) dX10_count_31 e_11 ?_
        refine wp_iload_n dX10_count_34 rfl ?_
        replace k := ok_bind k
        obtain ⟨v_12, e_13, k⟩ := k
        refine wq_aI dX10_count_35 e_13 ?_
        refine wp_iret rfl rfl dX10_count_36 ?_
        exact (ok_some k :)
theorem c_X10_count {S : SH} {d : Nat} {K : Option Value → AH → Prop} (hd : 1 ≤ d)  {r0 : Nat} {x1 : Int32} {h : AH} (k : ok (f_X10_count S r0 x1 h) (fun w h' => K (some (.int w)) h')) : CP S M_X10_count d 0 0 [.ref r0, .int x1] h K := cp_of (by decide) (fun _ _ => trivial) (fun _ => Nat.le_of_ble_eq_true rfl) (s_X10_count hd  k)

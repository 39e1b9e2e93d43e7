def f_X3_place (S : SH) (r0 : Nat) (h : AH) : Option (Int32 × AH) :=
  (gI S h r0 3 3).bind fun v_1 =>
  if v_1 < (0 : Int32) then
    some ((0 : Int32), h)
  else
    (gI S h r0 3 3).bind fun v_4 =>
    (gR S h r0 3 0).bind fun p_6 =>
    (gI S h p_6 9 3).bind fun v_8 =>
    if v_8 ≤ v_4 then
      some ((0 : Int32), h)
    else
      (gR S h r0 3 0).bind fun p_11 =>
      (gR S h p_11 9 1).bind fun p_13 =>
      (gI S h r0 3 3).bind fun v_15 =>
      (aI S h p_13 v_15).bind fun v_17 =>
      some (v_17, h)
set_option maxHeartbeats 8000000 in
set_option maxRecDepth 20000 in
theorem s_X3_place {S : SH} {d cb sb : Nat} {Q : Option Value → AH → Prop} (hd : 0 ≤ d)  {r0 : Nat} {h : AH} (k : ok (f_X3_place S r0 h) (fun w h' => Q (some (.int w)) h')) : WP S M_X3_place d cb sb Q 0 [.ref r0] [] h := by
  unfold f_X3_place at k
  refine wp_aload_n dX3_place_0 rfl ?_
  replace k := ok_bind k
  obtain ⟨v_1, e_2, k⟩ := k
  refine wq_getI fl_X3_35 (Or.inl rfl) dX3_place_1 e_2 ?_
  refine wp_if_lt 36 dX3_place_4 (by decide) (fun c_3 => ?_) (fun c_3 => ?_)
  · replace k := ok_t c_3 k
    refine wp_iconst dX3_place_36 ic_0 ?_
    refine wp_iret rfl rfl dX3_place_37 ?_
    exact (ok_some k :)
  · replace k := ok_f c_3 k
    refine wp_aload_n dX3_place_7 rfl ?_
    replace k := ok_bind k
    obtain ⟨v_4, e_5, k⟩ := k
    refine wq_getI fl_X3_35 (Or.inl rfl) dX3_place_8 e_5 ?_
    refine wp_aload_n dX3_place_11 rfl ?_
    replace k := ok_bind k
    obtain ⟨p_6, e_7, k⟩ := k
    refine wq_getR fl_X3_12 (Or.inl ⟨_, rfl⟩) dX3_place_12 e_7 ?_
    replace k := ok_bind k
    obtain ⟨v_8, e_9, k⟩ := k
    refine wq_getI fl_X3_69 (Or.inl rfl) dX3_place_15 e_9 ?_
    refine wp_icmp_ge 36 dX3_place_18 (by decide) (fun c_10 => ?_) (fun c_10 => ?_)
    · replace k := ok_t c_10 k
      refine wp_iconst dX3_place_36 ic_0 ?_
      refine wp_iret rfl rfl dX3_place_37 ?_
      exact (ok_some k :)
    · replace k := ok_f c_10 k
      refine wp_aload_n dX3_place_21 rfl ?_
      replace k := ok_bind k
      obtain ⟨p_11, e_12, k⟩ := k
      refine wq_getR fl_X3_12 (Or.inl ⟨_, rfl⟩) dX3_place_22 e_12 ?_
      replace k := ok_bind k
      obtain ⟨p_13, e_14, k⟩ := k
      refine wq_getR fl_X3_72 (Or.inr ⟨_, rfl⟩) dX3_place_25 e_14 ?_
      refine wp_aload_n dX3_place_28 rfl ?_
      replace k := ok_bind k
      obtain ⟨v_15, e_16, k⟩ := k
      refine wq_getI fl_X3_35 (Or.inl rfl) dX3_place_29 e_16 ?_
      replace k := ok_bind k
      obtain ⟨v_17, e_18, k⟩ := k
      refine wq_aI dX3_place_32 e_18 ?_
      refine wp_goto 37 dX3_place_33 (by decide) ?_
      refine wp_iret rfl rfl dX3_place_37 ?_
      exact (ok_some k :)
theorem c_X3_place {S : SH} {d : Nat} {K : Option Value → AH → Prop} (hd : 0 ≤ d)  {r0 : Nat} {h : AH} (k : ok (f_X3_place S r0 h) (fun w h' => K (some (.int w)) h')) : CP S M_X3_place d 0 0 [.ref r0] h K := cp_of (by decide) (fun _ _ => trivial) (fun _ => Nat.le_of_ble_eq_true rfl) (s_X3_place hd  k)
def f_X7_writeTo (S : SH) (r0 : Nat) (r1 : Nat) (x2 : Int32) (h : AH) : Option (Unit × AH) :=
  if x2 < (0 : Int32) then
    some ((), h)
  else
    (lnA S h r1).bind fun v_2 =>
    if (x2 + (15 : Int32)) ≤ v_2 then
      (gR S h r0 7 0).bind fun p_5 =>
      (cpI S h p_5 (0 : Int32) r1 x2 (7 : Int32)).bind fun h_7 =>
      (gR S h_7 r0 7 1).bind fun p_9 =>
      (cpI S h_7 p_9 (0 : Int32) r1 ((x2 + (7 : Int32))) (6 : Int32)).bind fun h_11 =>
      (gI S h_11 r0 7 2).bind fun v_13 =>
      (sI S h_11 r1 ((x2 + (7 : Int32)) + (6 : Int32)) v_13).bind fun h_15 =>
      (gI S h_15 r0 7 3).bind fun v_17 =>
      (sI S h_15 r1 (((x2 + (7 : Int32)) + (6 : Int32)) + (1 : Int32)) v_17).bind fun h_19 =>
      some ((), h_19)
    else
      some ((), h)
set_option maxHeartbeats 8000000 in
set_option maxRecDepth 20000 in
theorem s_X7_writeTo {S : SH} {d cb sb : Nat} {Q : Option Value → AH → Prop} (hd : 1 ≤ d)  {r0 : Nat} {r1 : Nat} {x2 : Int32} {h : AH} (k : ok (f_X7_writeTo S r0 r1 x2 h) (fun _ h' => Q none h')) : WP S M_X7_writeTo d cb sb Q 0 [.ref r0, .ref r1, .int x2] [] h := by
  obtain ⟨d, rfl, he⟩ := dp (L := 0) hd
  unfold f_X7_writeTo at k
  refine wp_iload_n dX7_writeTo_0 rfl ?_
  refine wp_if_lt 13 dX7_writeTo_1 (by decide) (fun c_1 => ?_) (fun c_1 => ?_)
  · replace k := ok_t c_1 k
    refine wp_vret rfl dX7_writeTo_13 ?_
    exact (ok_some k :)
  · replace k := ok_f c_1 k
    refine wp_iload_n dX7_writeTo_4 rfl ?_
    refine wp_bipush dX7_writeTo_5 bp_15 ?_
    refine wp_iadd dX7_writeTo_7 ?_
    refine wp_aload_n dX7_writeTo_8 rfl ?_
    replace k := ok_bind k
    obtain ⟨v_2, e_3, k⟩ := k
    refine wq_len dX7_writeTo_9 e_3 ?_
    refine wp_icmp_le 14 dX7_writeTo_10 (by decide) (fun c_4 => ?_) (fun c_4 => ?_)
    · replace k := ok_t c_4 k
      refine wp_aload_n dX7_writeTo_14 rfl ?_
      replace k := ok_bind k
      obtain ⟨p_5, e_6, k⟩ := k
      refine wq_getR fl_X7_9 (Or.inr ⟨_, rfl⟩) dX7_writeTo_15 e_6 ?_
      refine wp_iconst dX7_writeTo_18 ic_0 ?_
      refine wp_aload_n dX7_writeTo_19 rfl ?_
      refine wp_iload_n dX7_writeTo_20 rfl ?_
      refine wp_bipush dX7_writeTo_21 bp_7 ?_
      replace k := ok_bind k
      obtain ⟨h_7, e_8, k⟩ := k
      refine wq_cpI ml_X7_18 acn acs aci (by exact Nat.le_of_ble_eq_true rfl) dX7_writeTo_23 e_8 ?_
      refine wp_aload_n dX7_writeTo_26 rfl ?_
      replace k := ok_bind k
      obtain ⟨p_9, e_10, k⟩ := k
      refine wq_getR fl_X7_15 (Or.inr ⟨_, rfl⟩) dX7_writeTo_27 e_10 ?_
      refine wp_iconst dX7_writeTo_30 ic_0 ?_
      refine wp_aload_n dX7_writeTo_31 rfl ?_
      refine wp_iload_n dX7_writeTo_32 rfl ?_
      refine wp_bipush dX7_writeTo_33 bp_7 ?_
      refine wp_iadd dX7_writeTo_35 ?_
      refine wp_bipush dX7_writeTo_36 bp_6 ?_
      replace k := ok_bind k
      obtain ⟨h_11, e_12, k⟩ := k
      refine wq_cpI ml_X7_18 acn acs aci (by exact Nat.le_of_ble_eq_true rfl) dX7_writeTo_38 e_12 ?_
      refine wp_aload_n dX7_writeTo_41 rfl ?_
      refine wp_iload_n dX7_writeTo_42 rfl ?_
      refine wp_bipush dX7_writeTo_43 bp_7 ?_
      refine wp_iadd dX7_writeTo_45 ?_
      refine wp_bipush dX7_writeTo_46 bp_6 ?_
      refine wp_iadd dX7_writeTo_48 ?_
      refine wp_aload_n dX7_writeTo_49 rfl ?_
      replace k := ok_bind k
      obtain ⟨v_13, e_14, k⟩ := k
      refine wq_getI fl_X7_24 (Or.inl rfl) dX7_writeTo_50 e_14 ?_
      replace k := ok_bind k
      obtain ⟨h_15, e_16, k⟩ := k
      refine wq_sI dX7_writeTo_53 e_16 ?_
      refine wp_aload_n dX7_writeTo_54 rfl ?_
      refine wp_iload_n dX7_writeTo_55 rfl ?_
      refine wp_bipush dX7_writeTo_56 bp_7 ?_
      refine wp_iadd dX7_writeTo_58 ?_
      refine wp_bipush dX7_writeTo_59 bp_6 ?_
      refine wp_iadd dX7_writeTo_61 ?_
      refine wp_iconst dX7_writeTo_62 ic_1 ?_
      refine wp_iadd dX7_writeTo_63 ?_
      refine wp_aload_n dX7_writeTo_64 rfl ?_
      replace k := ok_bind k
      obtain ⟨v_17, e_18, k⟩ := k
      refine wq_getI fl_X7_28 (Or.inl rfl) dX7_writeTo_65 e_18 ?_
      replace k := ok_bind k
      obtain ⟨h_19, e_20, k⟩ := k
      refine wq_sI dX7_writeTo_68 e_20 ?_
      refine wp_vret rfl dX7_writeTo_69 ?_
      exact (ok_some k :)
    · replace k := ok_f c_4 k
      refine wp_vret rfl dX7_writeTo_13 ?_
      exact (ok_some k :)
theorem c_X7_writeTo {S : SH} {d : Nat} {K : Option Value → AH → Prop} (hd : 1 ≤ d)  {r0 : Nat} {r1 : Nat} {x2 : Int32} {h : AH} (k : ok (f_X7_writeTo S r0 r1 x2 h) (fun _ h' => K none h')) : CP S M_X7_writeTo d 0 0 [.ref r0, .ref r1, .int x2] h K := cp_of (by decide) (fun _ _ => trivial) (fun _ => Nat.le_of_ble_eq_true rfl) (s_X7_writeTo hd  k)
def f_X5_note (S : SH) (r0 : Nat) (r1 : Nat) (h : AH) : Option (Unit × AH) :=
  (gR S h r0 5 0).bind fun p_1 =>
  (gI S h r0 5 2).bind fun v_3 =>
  (ckO S h r1 7).bind fun _ =>
  (f_X7_writeTo S r1 p_1 ((v_3 * (15 : Int32))) h).bind fun z => match z with
  | (_, h_6) =>
  some ((), h_6)
set_option maxHeartbeats 8000000 in
set_option maxRecDepth 20000 in
theorem s_X5_note {S : SH} {d cb sb : Nat} {Q : Option Value → AH → Prop} (hd : 2 ≤ d)  {r0 : Nat} {r1 : Nat} {h : AH} (k : ok (f_X5_note S r0 r1 h) (fun _ h' => Q none h')) : WP S M_X5_note d cb sb Q 0 [.ref r0, .ref r1] [] h := by
  obtain ⟨d, rfl, he⟩ := dp (L := 1) hd
  unfold f_X5_note at k
  refine wp_aload_n dX5_note_0 rfl ?_
  refine wp_aload_n dX5_note_1 rfl ?_
  replace k := ok_bind k
  obtain ⟨p_1, e_2, k⟩ := k
  refine wq_getR fl_X5_13 (Or.inr ⟨_, rfl⟩) dX5_note_2 e_2 ?_
  refine wp_aload_n dX5_note_5 rfl ?_
  replace k := ok_bind k
  obtain ⟨v_3, e_4, k⟩ := k
  refine wq_getI fl_X5_20 (Or.inl rfl) dX5_note_6 e_4 ?_
  refine wp_bipush dX5_note_9 bp_15 ?_
  refine wp_imul dX5_note_11 ?_
  replace k := ok_bind k
  obtain ⟨u, e_5, k⟩ := k
  refine wp_callV2 (N := M_X7_writeTo) (ci := 7) mf_X7_writeTo mi_X7_writeTo me_X7_writeTo ml_X5_24 dX5_note_12 (ckO_e e_5) mv_X7_writeTo (by exact Nat.le_of_ble_eq_true rfl) (c_X7_writeTo (Nat.le_trans (by decide) he) (ok_mono (ok_bind2 k) fun _ h_6 k => ?_))
  try dsimp only at k
  refine wp_vret rfl dX5_note_15 ?_
  exact (ok_some k :)
theorem c_X5_note {S : SH} {d : Nat} {K : Option Value → AH → Prop} (hd : 2 ≤ d)  {r0 : Nat} {r1 : Nat} {h : AH} (k : ok (f_X5_note S r0 r1 h) (fun _ h' => K none h')) : CP S M_X5_note d 0 0 [.ref r0, .ref r1] h K := cp_of (by decide) (fun _ _ => trivial) (fun _ => Nat.le_of_ble_eq_true rfl) (s_X5_note hd  k)
def f_X5_keep_j26 (S : SH) (r0 : Nat) (h : AH) : Option (Unit × AH) :=
  (gI S h r0 5 2).bind fun v_1 =>
  (pI S h r0 5 2 (rmI (v_1 + (1 : Int32)) (17 : Int32))).bind fun h_3 =>
  (gI S h_3 r0 5 3).bind fun v_5 =>
  (pI S h_3 r0 5 3 (mnI ((v_5 + (1 : Int32))) (16 : Int32))).bind fun h_7 =>
  some ((), h_7)
set_option maxHeartbeats 8000000 in
set_option maxRecDepth 20000 in
theorem s_X5_keep_j26 {S : SH} {d cb sb : Nat} {Q : Option Value → AH → Prop} (hd : 1 ≤ d)  {r0 : Nat} {h : AH} (k : ok (f_X5_keep_j26 S r0 h) (fun _ h' => Q none h')) : WP S M_X5_keep d cb sb Q 26 [.ref r0, JK] [] h := by
  obtain ⟨d, rfl, he⟩ := dp (L := 0) hd
  unfold f_X5_keep_j26 at k
  refine wp_aload_n dX5_keep_26 rfl ?_
  refine wp_aload_n dX5_keep_27 rfl ?_
  replace k := ok_bind k
  obtain ⟨v_1, e_2, k⟩ := k
  refine wq_getI fl_X5_20 (Or.inl rfl) dX5_keep_28 e_2 ?_
  refine wp_iconst dX5_keep_31 ic_1 ?_
  refine wp_iadd dX5_keep_32 ?_
  refine wp_bipush dX5_keep_33 bp_17 ?_
  refine wp_irem dX5_keep_35 (by decide) ?_
  replace k := ok_bind k
  obtain ⟨h_3, e_4, k⟩ := k
  refine wq_putI fl_X5_20 rfl rfl dX5_keep_36 e_4 ?_
  refine wp_aload_n dX5_keep_39 rfl ?_
  refine wp_aload_n dX5_keep_40 rfl ?_
  replace k := ok_bind k
  obtain ⟨v_5, e_6, k⟩ := k
  refine wq_getI fl_X5_28 (Or.inl rfl) dX5_keep_41 e_6 ?_
  refine wp_iconst dX5_keep_44 ic_1 ?_
  refine wp_iadd dX5_keep_45 ?_
  refine wp_bipush dX5_keep_46 bp_16 ?_
  refine wp_mmin ml_X5_31 mm_min mini mc_min (by exact Nat.le_of_ble_eq_true rfl) dX5_keep_48 ?_
  replace k := ok_bind k
  obtain ⟨h_7, e_8, k⟩ := k
  refine wq_putI fl_X5_28 rfl rfl dX5_keep_51 e_8 ?_
  refine wp_vret rfl dX5_keep_54 ?_
  exact (ok_some k :)
def f_X5_keep (S : SH) (r0 : Nat) (x1 : Int32) (h : AH) : Option (Unit × AH) :=
  (gI S h r0 5 2).bind fun v_1 =>
  if v_1 < (0 : Int32) then
    f_X5_keep_j26 S r0 h
  else
    (gI S h r0 5 2).bind fun v_4 =>
    if (17 : Int32) ≤ v_4 then
      f_X5_keep_j26 S r0 h
    else
      (gR S h r0 5 1).bind fun p_7 =>
      (gI S h r0 5 2).bind fun v_9 =>
      (sI S h p_7 v_9 x1).bind fun h_11 =>
      f_X5_keep_j26 S r0 h_11
set_option maxHeartbeats 8000000 in
set_option maxRecDepth 20000 in
theorem s_X5_keep {S : SH} {d cb sb : Nat} {Q : Option Value → AH → Prop} (hd : 1 ≤ d)  {r0 : Nat} {x1 : Int32} {h : AH} (k : ok (f_X5_keep S r0 x1 h) (fun _ h' => Q none h')) : WP S M_X5_keep d cb sb Q 0 [.ref r0, .int x1] [] h := by
  obtain ⟨d, rfl, he⟩ := dp (L := 0) hd
  unfold f_X5_keep at k
  refine wp_aload_n dX5_keep_0 rfl ?_
  replace k := ok_bind k
  obtain ⟨v_1, e_2, k⟩ := k
  refine wq_getI fl_X5_20 (Or.inl rfl) dX5_keep_1 e_2 ?_
  refine wp_if_lt 26 dX5_keep_4 (by decide) (fun c_3 => ?_) (fun c_3 => ?_)
  · replace k := ok_t c_3 k
    exact wp_wk (wkE <| wkJ <| wkN) (s_X5_keep_j26 (Nat.succ_le_succ he)  k)
  · replace k := ok_f c_3 k
    refine wp_aload_n dX5_keep_7 rfl ?_
    replace k := ok_bind k
    obtain ⟨v_4, e_5, k⟩ := k
    refine wq_getI fl_X5_20 (Or.inl rfl) dX5_keep_8 e_5 ?_
    refine wp_bipush dX5_keep_11 bp_17 ?_
    refine wp_icmp_ge 26 dX5_keep_13 (by decide) (fun c_6 => ?_) (fun c_6 => ?_)
    · replace k := ok_t c_6 k
      exact wp_wk (wkE <| wkJ <| wkN) (s_X5_keep_j26 (Nat.succ_le_succ he)  k)
    · replace k := ok_f c_6 k
      refine wp_aload_n dX5_keep_16 rfl ?_
      replace k := ok_bind k
      obtain ⟨p_7, e_8, k⟩ := k
      refine wq_getR fl_X5_17 (Or.inr ⟨_, rfl⟩) dX5_keep_17 e_8 ?_
      refine wp_aload_n dX5_keep_20 rfl ?_
      replace k := ok_bind k
      obtain ⟨v_9, e_10, k⟩ := k
      refine wq_getI fl_X5_20 (Or.inl rfl) dX5_keep_21 e_10 ?_
      refine wp_iload_n dX5_keep_24 rfl ?_
      replace k := ok_bind k
      obtain ⟨h_11, e_12, k⟩ := k
      refine wq_sI dX5_keep_25 e_12 ?_
      exact wp_wk (wkE <| wkJ <| wkN) (s_X5_keep_j26 (Nat.succ_le_succ he)  k)
theorem c_X5_keep {S : SH} {d : Nat} {K : Option Value → AH → Prop} (hd : 1 ≤ d)  {r0 : Nat} {x1 : Int32} {h : AH} (k : ok (f_X5_keep S r0 x1 h) (fun _ h' => K none h')) : CP S M_X5_keep d 0 0 [.ref r0, .int x1] h K := cp_of (by decide) (fun _ _ => trivial) (fun _ => Nat.le_of_ble_eq_true rfl) (s_X5_keep hd  k)
def f_X7_readFrom (S : SH) (r0 : Nat) (r1 : Nat) (x2 : Int32) (h : AH) : Option (Unit × AH) :=
  if x2 < (0 : Int32) then
    some ((), h)
  else
    (lnA S h r1).bind fun v_2 =>
    if (x2 + (15 : Int32)) ≤ v_2 then
      (gR S h r0 7 0).bind fun p_5 =>
      (cpI S h r1 x2 p_5 (0 : Int32) (7 : Int32)).bind fun h_7 =>
      (gR S h_7 r0 7 1).bind fun p_9 =>
      (cpI S h_7 r1 ((x2 + (7 : Int32))) p_9 (0 : Int32) (6 : Int32)).bind fun h_11 =>
      (aI S h_11 r1 ((x2 + (7 : Int32)) + (6 : Int32))).bind fun v_13 =>
      (pI S h_11 r0 7 2 v_13).bind fun h_15 =>
      (aI S h_15 r1 (((x2 + (7 : Int32)) + (6 : Int32)) + (1 : Int32))).bind fun v_17 =>
      (pI S h_15 r0 7 3 v_17).bind fun h_19 =>
      some ((), h_19)
    else
      some ((), h)
set_option maxHeartbeats 8000000 in
set_option maxRecDepth 20000 in
theorem s_X7_readFrom {S : SH} {d cb sb : Nat} {Q : Option Value → AH → Prop} (hd : 1 ≤ d)  {r0 : Nat} {r1 : Nat} {x2 : Int32} {h : AH} (k : ok (f_X7_readFrom S r0 r1 x2 h) (fun _ h' => Q none h')) : WP S M_X7_readFrom d cb sb Q 0 [.ref r0, .ref r1, .int x2] [] h := by
  obtain ⟨d, rfl, he⟩ := dp (L := 0) hd
  unfold f_X7_readFrom at k
  refine wp_iload_n dX7_readFrom_0 rfl ?_
  refine wp_if_lt 13 dX7_readFrom_1 (by decide) (fun c_1 => ?_) (fun c_1 => ?_)
  · replace k := ok_t c_1 k
    refine wp_vret rfl dX7_readFrom_13 ?_
    exact (ok_some k :)
  · replace k := ok_f c_1 k
    refine wp_iload_n dX7_readFrom_4 rfl ?_
    refine wp_bipush dX7_readFrom_5 bp_15 ?_
    refine wp_iadd dX7_readFrom_7 ?_
    refine wp_aload_n dX7_readFrom_8 rfl ?_
    replace k := ok_bind k
    obtain ⟨v_2, e_3, k⟩ := k
    refine wq_len dX7_readFrom_9 e_3 ?_
    refine wp_icmp_le 14 dX7_readFrom_10 (by decide) (fun c_4 => ?_) (fun c_4 => ?_)
    · replace k := ok_t c_4 k
      refine wp_aload_n dX7_readFrom_14 rfl ?_
      refine wp_iload_n dX7_readFrom_15 rfl ?_
      refine wp_aload_n dX7_readFrom_16 rfl ?_
      replace k := ok_bind k
      obtain ⟨p_5, e_6, k⟩ := k
      refine wq_getR fl_X7_9 (Or.inr ⟨_, rfl⟩) dX7_readFrom_17 e_6 ?_
      refine wp_iconst dX7_readFrom_20 ic_0 ?_
      refine wp_bipush dX7_readFrom_21 bp_7 ?_
      replace k := ok_bind k
      obtain ⟨h_7, e_8, k⟩ := k
      refine wq_cpI ml_X7_18 acn acs aci (by exact Nat.le_of_ble_eq_true rfl) dX7_readFrom_23 e_8 ?_
      refine wp_aload_n dX7_readFrom_26 rfl ?_
      refine wp_iload_n dX7_readFrom_27 rfl ?_
      refine wp_bipush dX7_readFrom_28 bp_7 ?_
      refine wp_iadd dX7_readFrom_30 ?_
      refine wp_aload_n dX7_readFrom_31 rfl ?_
      replace k := ok_bind k
      obtain ⟨p_9, e_10, k⟩ := k
      refine wq_getR fl_X7_15 (Or.inr ⟨_, rfl⟩) dX7_readFrom_32 e_10 ?_
      refine wp_iconst dX7_readFrom_35 ic_0 ?_
      refine wp_bipush dX7_readFrom_36 bp_6 ?_
      replace k := ok_bind k
      obtain ⟨h_11, e_12, k⟩ := k
      refine wq_cpI ml_X7_18 acn acs aci (by exact Nat.le_of_ble_eq_true rfl) dX7_readFrom_38 e_12 ?_
      refine wp_aload_n dX7_readFrom_41 rfl ?_
      refine wp_aload_n dX7_readFrom_42 rfl ?_
      refine wp_iload_n dX7_readFrom_43 rfl ?_
      refine wp_bipush dX7_readFrom_44 bp_7 ?_
      refine wp_iadd dX7_readFrom_46 ?_
      refine wp_bipush dX7_readFrom_47 bp_6 ?_
      refine wp_iadd dX7_readFrom_49 ?_
      replace k := ok_bind k
      obtain ⟨v_13, e_14, k⟩ := k
      refine wq_aI dX7_readFrom_50 e_14 ?_
      replace k := ok_bind k
      obtain ⟨h_15, e_16, k⟩ := k
      refine wq_putI fl_X7_24 rfl rfl dX7_readFrom_51 e_16 ?_
      refine wp_aload_n dX7_readFrom_54 rfl ?_
      refine wp_aload_n dX7_readFrom_55 rfl ?_
      refine wp_iload_n dX7_readFrom_56 rfl ?_
      refine wp_bipush dX7_readFrom_57 bp_7 ?_
      refine wp_iadd dX7_readFrom_59 ?_
      refine wp_bipush dX7_readFrom_60 bp_6 ?_
      refine wp_iadd dX7_readFrom_62 ?_
      refine wp_iconst dX7_readFrom_63 ic_1 ?_
      refine wp_iadd dX7_readFrom_64 ?_
      replace k := ok_bind k
      obtain ⟨v_17, e_18, k⟩ := k
      refine wq_aI dX7_readFrom_65 e_18 ?_
      replace k := ok_bind k
      obtain ⟨h_19, e_20, k⟩ := k
      refine wq_putI fl_X7_28 rfl rfl dX7_readFrom_66 e_20 ?_
      refine wp_vret rfl dX7_readFrom_69 ?_
      exact (ok_some k :)
    · replace k := ok_f c_4 k
      refine wp_vret rfl dX7_readFrom_13 ?_
      exact (ok_some k :)
theorem c_X7_readFrom {S : SH} {d : Nat} {K : Option Value → AH → Prop} (hd : 1 ≤ d)  {r0 : Nat} {r1 : Nat} {x2 : Int32} {h : AH} (k : ok (f_X7_readFrom S r0 r1 x2 h) (fun _ h' => K none h')) : CP S M_X7_readFrom d 0 0 [.ref r0, .ref r1, .int x2] h K := cp_of (by decide) (fun _ _ => trivial) (fun _ => Nat.le_of_ble_eq_true rfl) (s_X7_readFrom hd  k)
def f_X5_takeBack (S : SH) (r0 : Nat) (r1 : Nat) (h : AH) : Option (Int32 × AH) :=
  (gI S h r0 5 3).bind fun v_1 =>
  if (0 : Int32) < v_1 then
    (gI S h r0 5 3).bind fun v_4 =>
    (pI S h r0 5 3 (v_4 - (1 : Int32))).bind fun h_6 =>
    (gI S h_6 r0 5 2).bind fun v_8 =>
    (pI S h_6 r0 5 2 (rmI (v_8 + (16 : Int32)) (17 : Int32))).bind fun h_10 =>
    (gR S h_10 r0 5 0).bind fun p_12 =>
    (gI S h_10 r0 5 2).bind fun v_14 =>
    (ckO S h_10 r1 7).bind fun _ =>
    (f_X7_readFrom S r1 p_12 ((v_14 * (15 : Int32))) h_10).bind fun z => match z with
    | (_, h_17) =>
    (gI S h_17 r0 5 2).bind fun v_19 =>
    if v_19 < (0 : Int32) then
      some ((-1 : Int32), h_17)
    else
      (gI S h_17 r0 5 2).bind fun v_22 =>
      if (17 : Int32) ≤ v_22 then
        some ((-1 : Int32), h_17)
      else
        (gR S h_17 r0 5 1).bind fun p_25 =>
        (gI S h_17 r0 5 2).bind fun v_27 =>
        (aI S h_17 p_25 v_27).bind fun v_29 =>
        some (v_29, h_17)
  else
    some ((-1 : Int32), h)
set_option maxHeartbeats 8000000 in
set_option maxRecDepth 20000 in
theorem s_X5_takeBack {S : SH} {d cb sb : Nat} {Q : Option Value → AH → Prop} (hd : 2 ≤ d)  {r0 : Nat} {r1 : Nat} {h : AH} (k : ok (f_X5_takeBack S r0 r1 h) (fun w h' => Q (some (.int w)) h')) : WP S M_X5_takeBack d cb sb Q 0 [.ref r0, .ref r1] [] h := by
  obtain ⟨d, rfl, he⟩ := dp (L := 1) hd
  unfold f_X5_takeBack at k
  refine wp_aload_n dX5_takeBack_0 rfl ?_
  replace k := ok_bind k
  obtain ⟨v_1, e_2, k⟩ := k
  refine wq_getI fl_X5_28 (Or.inl rfl) dX5_takeBack_1 e_2 ?_
  refine wp_if_gt 9 dX5_takeBack_4 (by decide) (fun c_3 => ?_) (fun c_3 => ?_)
  · replace k := ok_t c_3 k
    refine wp_aload_n dX5_takeBack_9 rfl ?_
    refine wp_dupR dX5_takeBack_10 ?_
    replace k := ok_bind k
    obtain ⟨v_4, e_5, k⟩ := k
    refine wq_getI fl_X5_28 (Or.inl rfl) dX5_takeBack_11 e_5 ?_
    refine wp_iconst dX5_takeBack_14 ic_1 ?_
    refine wp_isub dX5_takeBack_15 ?_
    replace k := ok_bind k
    obtain ⟨h_6, e_7, k⟩ := k
    refine wq_putI fl_X5_28 rfl rfl dX5_takeBack_16 e_7 ?_
    refine wp_aload_n dX5_takeBack_19 rfl ?_
    refine wp_aload_n dX5_takeBack_20 rfl ?_
    replace k := ok_bind k
    obtain ⟨v_8, e_9, k⟩ := k
    refine wq_getI fl_X5_20 (Or.inl rfl) dX5_takeBack_21 e_9 ?_
    refine wp_bipush dX5_takeBack_24 bp_16 ?_
    refine wp_iadd dX5_takeBack_26 ?_
    refine wp_bipush dX5_takeBack_27 bp_17 ?_
    refine wp_irem dX5_takeBack_29 (by decide) ?_
    replace k := ok_bind k
    obtain ⟨h_10, e_11, k⟩ := k
    refine wq_putI fl_X5_20 rfl rfl dX5_takeBack_30 e_11 ?_
    refine wp_aload_n dX5_takeBack_33 rfl ?_
    refine wp_aload_n dX5_takeBack_34 rfl ?_
    replace k := ok_bind k
    obtain ⟨p_12, e_13, k⟩ := k
    refine wq_getR fl_X5_13 (Or.inr ⟨_, rfl⟩) dX5_takeBack_35 e_13 ?_
    refine wp_aload_n dX5_takeBack_38 rfl ?_
    replace k := ok_bind k
    obtain ⟨v_14, e_15, k⟩ := k
    refine wq_getI fl_X5_20 (Or.inl rfl) dX5_takeBack_39 e_15 ?_
    refine wp_bipush dX5_takeBack_42 bp_15 ?_
    refine wp_imul dX5_takeBack_44 ?_
    replace k := ok_bind k
    obtain ⟨u, e_16, k⟩ := k
    refine wp_callV2 (N := M_X7_readFrom) (ci := 7) mf_X7_readFrom mi_X7_readFrom me_X7_readFrom ml_X5_37 dX5_takeBack_45 (ckO_e e_16) mv_X7_readFrom (by exact Nat.le_of_ble_eq_true rfl) (c_X7_readFrom (Nat.le_trans (by decide) he) (ok_mono (ok_bind2 k) fun _ h_17 k => ?_))
    try dsimp only at k
    refine wp_aload_n dX5_takeBack_48 rfl ?_
    replace k := ok_bind k
    obtain ⟨v_19, e_20, k⟩ := k
    refine wq_getI fl_X5_20 (Or.inl rfl) dX5_takeBack_49 e_20 ?_
    refine wp_if_lt 76 dX5_takeBack_52 (by decide) (fun c_21 => ?_) (fun c_21 => ?_)
    · replace k := ok_t c_21 k
      refine wp_iconst dX5_takeBack_76 ic_m1 ?_
      refine wp_iret rfl rfl dX5_takeBack_77 ?_
      exact (ok_some k :)
    · replace k := ok_f c_21 k
      refine wp_aload_n dX5_takeBack_55 rfl ?_
      replace k := ok_bind k
      obtain ⟨v_22, e_23, k⟩ := k
      refine wq_getI fl_X5_20 (Or.inl rfl) dX5_takeBack_56 e_23 ?_
      refine wp_bipush dX5_takeBack_59 bp_17 ?_
      refine wp_icmp_ge 76 dX5_takeBack_61 (by decide) (fun c_24 => ?_) (fun c_24 => ?_)
      · replace k := ok_t c_24 k
        refine wp_iconst dX5_takeBack_76 ic_m1 ?_
        refine wp_iret rfl rfl dX5_takeBack_77 ?_
        exact (ok_some k :)
      · replace k := ok_f c_24 k
        refine wp_aload_n dX5_takeBack_64 rfl ?_
        replace k := ok_bind k
        obtain ⟨p_25, e_26, k⟩ := k
        refine wq_getR fl_X5_17 (Or.inr ⟨_, rfl⟩) dX5_takeBack_65 e_26 ?_
        refine wp_aload_n dX5_takeBack_68 rfl ?_
        replace k := ok_bind k
        obtain ⟨v_27, e_28, k⟩ := k
        refine wq_getI fl_X5_20 (Or.inl rfl) dX5_takeBack_69 e_28 ?_
        replace k := ok_bind k
        obtain ⟨v_29, e_30, k⟩ := k
        refine wq_aI dX5_takeBack_72 e_30 ?_
        refine wp_goto 77 dX5_takeBack_73 (by decide) ?_
        refine wp_iret rfl rfl dX5_takeBack_77 ?_
        exact (ok_some k :)
  · replace k := ok_f c_3 k
    refine wp_iconst dX5_takeBack_7 ic_m1 ?_
    refine wp_iret rfl rfl dX5_takeBack_8 ?_
    exact (ok_some k :)
theorem c_X5_takeBack {S : SH} {d : Nat} {K : Option Value → AH → Prop} (hd : 2 ≤ d)  {r0 : Nat} {r1 : Nat} {h : AH} (k : ok (f_X5_takeBack S r0 r1 h) (fun w h' => K (some (.int w)) h')) : CP S M_X5_takeBack d 0 0 [.ref r0, .ref r1] h K := cp_of (by decide) (fun _ _ => trivial) (fun _ => Nat.le_of_ble_eq_true rfl) (s_X5_takeBack hd  k)
def f_X5_clear (S : SH) (r0 : Nat) (h : AH) : Option (Unit × AH) :=
  (pI S h r0 5 3 (0 : Int32)).bind fun h_1 =>
  some ((), h_1)
set_option maxHeartbeats 8000000 in
set_option maxRecDepth 20000 in
theorem s_X5_clear {S : SH} {d cb sb : Nat} {Q : Option Value → AH → Prop} (hd : 0 ≤ d)  {r0 : Nat} {h : AH} (k : ok (f_X5_clear S r0 h) (fun _ h' => Q none h')) : WP S M_X5_clear d cb sb Q 0 [.ref r0] [] h := by
  unfold f_X5_clear at k
  refine wp_aload_n dX5_clear_0 rfl ?_
  refine wp_iconst dX5_clear_1 ic_0 ?_
  replace k := ok_bind k
  obtain ⟨h_1, e_2, k⟩ := k
  refine wq_putI fl_X5_28 rfl rfl dX5_clear_2 e_2 ?_
  refine wp_vret rfl dX5_clear_5 ?_
  exact (ok_some k :)
theorem c_X5_clear {S : SH} {d : Nat} {K : Option Value → AH → Prop} (hd : 0 ≤ d)  {r0 : Nat} {h : AH} (k : ok (f_X5_clear S r0 h) (fun _ h' => K none h')) : CP S M_X5_clear d 0 0 [.ref r0] h K := cp_of (by decide) (fun _ _ => trivial) (fun _ => Nat.le_of_ble_eq_true rfl) (s_X5_clear hd  k)
def f_X5_become (S : SH) (r0 : Nat) (r1 : Nat) (h : AH) : Option (Unit × AH) :=
  (gR S h r1 5 0).bind fun p_1 =>
  (gR S h r0 5 0).bind fun p_3 =>
  (cpI S h p_1 (0 : Int32) p_3 (0 : Int32) (255 : Int32)).bind fun h_5 =>
  (gR S h_5 r1 5 1).bind fun p_7 =>
  (gR S h_5 r0 5 1).bind fun p_9 =>
  (cpI S h_5 p_7 (0 : Int32) p_9 (0 : Int32) (17 : Int32)).bind fun h_11 =>
  (gI S h_11 r1 5 2).bind fun v_13 =>
  (pI S h_11 r0 5 2 v_13).bind fun h_15 =>
  (gI S h_15 r1 5 3).bind fun v_17 =>
  (pI S h_15 r0 5 3 v_17).bind fun h_19 =>
  some ((), h_19)
set_option maxHeartbeats 8000000 in
set_option maxRecDepth 20000 in
theorem s_X5_become {S : SH} {d cb sb : Nat} {Q : Option Value → AH → Prop} (hd : 1 ≤ d)  {r0 : Nat} {r1 : Nat} {h : AH} (k : ok (f_X5_become S r0 r1 h) (fun _ h' => Q none h')) : WP S M_X5_become d cb sb Q 0 [.ref r0, .ref r1] [] h := by
  obtain ⟨d, rfl, he⟩ := dp (L := 0) hd
  unfold f_X5_become at k
  refine wp_aload_n dX5_become_0 rfl ?_
  replace k := ok_bind k
  obtain ⟨p_1, e_2, k⟩ := k
  refine wq_getR fl_X5_13 (Or.inr ⟨_, rfl⟩) dX5_become_1 e_2 ?_
  refine wp_iconst dX5_become_4 ic_0 ?_
  refine wp_aload_n dX5_become_5 rfl ?_
  replace k := ok_bind k
  obtain ⟨p_3, e_4, k⟩ := k
  refine wq_getR fl_X5_13 (Or.inr ⟨_, rfl⟩) dX5_become_6 e_4 ?_
  refine wp_iconst dX5_become_9 ic_0 ?_
  refine wp_sipush dX5_become_10 sp_255 ?_
  replace k := ok_bind k
  obtain ⟨h_5, e_6, k⟩ := k
  refine wq_cpI ml_X5_40 acn acs aci (by exact Nat.le_of_ble_eq_true rfl) dX5_become_13 e_6 ?_
  refine wp_aload_n dX5_become_16 rfl ?_
  replace k := ok_bind k
  obtain ⟨p_7, e_8, k⟩ := k
  refine wq_getR fl_X5_17 (Or.inr ⟨_, rfl⟩) dX5_become_17 e_8 ?_
  refine wp_iconst dX5_become_20 ic_0 ?_
  refine wp_aload_n dX5_become_21 rfl ?_
  replace k := ok_bind k
  obtain ⟨p_9, e_10, k⟩ := k
  refine wq_getR fl_X5_17 (Or.inr ⟨_, rfl⟩) dX5_become_22 e_10 ?_
  refine wp_iconst dX5_become_25 ic_0 ?_
  refine wp_bipush dX5_become_26 bp_17 ?_
  replace k := ok_bind k
  obtain ⟨h_11, e_12, k⟩ := k
  refine wq_cpI ml_X5_40 acn acs aci (by exact Nat.le_of_ble_eq_true rfl) dX5_become_28 e_12 ?_
  refine wp_aload_n dX5_become_31 rfl ?_
  refine wp_aload_n dX5_become_32 rfl ?_
  replace k := ok_bind k
  obtain ⟨v_13, e_14, k⟩ := k
  refine wq_getI fl_X5_20 (Or.inl rfl) dX5_become_33 e_14 ?_
  replace k := ok_bind k
  obtain ⟨h_15, e_16, k⟩ := k
  refine wq_putI fl_X5_20 rfl rfl dX5_become_36 e_16 ?_
  refine wp_aload_n dX5_become_39 rfl ?_
  refine wp_aload_n dX5_become_40 rfl ?_
  replace k := ok_bind k
  obtain ⟨v_17, e_18, k⟩ := k
  refine wq_getI fl_X5_28 (Or.inl rfl) dX5_become_41 e_18 ?_
  replace k := ok_bind k
  obtain ⟨h_19, e_20, k⟩ := k
  refine wq_putI fl_X5_28 rfl rfl dX5_become_44 e_20 ?_
  refine wp_vret rfl dX5_become_47 ?_
  exact (ok_some k :)
theorem c_X5_become {S : SH} {d : Nat} {K : Option Value → AH → Prop} (hd : 1 ≤ d)  {r0 : Nat} {r1 : Nat} {h : AH} (k : ok (f_X5_become S r0 r1 h) (fun _ h' => K none h')) : CP S M_X5_become d 0 0 [.ref r0, .ref r1] h K := cp_of (by decide) (fun _ _ => trivial) (fun _ => Nat.le_of_ble_eq_true rfl) (s_X5_become hd  k)
def f_X6_become (S : SH) (r0 : Nat) (r1 : Nat) (h : AH) : Option (Unit × AH) :=
  (gR S h r0 6 0).bind fun p_1 =>
  (gR S h r1 6 0).bind fun p_3 =>
  (ckO S h p_1 7).bind fun _ =>
  (f_X7_become S p_1 p_3 h).bind fun z => match z with
  | (_, h_6) =>
  (gI S h_6 r1 6 1).bind fun v_8 =>
  (pI S h_6 r0 6 1 v_8).bind fun h_10 =>
  (gR S h_10 r1 6 2).bind fun p_12 =>
  (gR S h_10 r0 6 2).bind fun p_14 =>
  (cpI S h_10 p_12 (0 : Int32) p_14 (0 : Int32) (7 : Int32)).bind fun h_16 =>
  (gR S h_16 r1 6 3).bind fun p_18 =>
  (gR S h_16 r0 6 3).bind fun p_20 =>
  (cpI S h_16 p_18 (0 : Int32) p_20 (0 : Int32) (42 : Int32)).bind fun h_22 =>
  (gI S h_22 r1 6 4).bind fun v_24 =>
  (pI S h_22 r0 6 4 v_24).bind fun h_26 =>
  (gR S h_26 r1 6 5).bind fun p_28 =>
  (gR S h_26 r0 6 5).bind fun p_30 =>
  (cpI S h_26 p_28 (0 : Int32) p_30 (0 : Int32) (6 : Int32)).bind fun h_32 =>
  (gR S h_32 r1 6 6).bind fun p_34 =>
  (gR S h_32 r0 6 6).bind fun p_36 =>
  (cpI S h_32 p_34 (0 : Int32) p_36 (0 : Int32) (6 : Int32)).bind fun h_38 =>
  (gI S h_38 r1 6 7).bind fun v_40 =>
  (pI S h_38 r0 6 7 v_40).bind fun h_42 =>
  (gI S h_42 r1 6 8).bind fun v_44 =>
  (pI S h_42 r0 6 8 v_44).bind fun h_46 =>
  (gI S h_46 r1 6 9).bind fun v_48 =>
  (pI S h_46 r0 6 9 v_48).bind fun h_50 =>
  (gI S h_50 r1 6 10).bind fun v_52 =>
  (pI S h_50 r0 6 10 v_52).bind fun h_54 =>
  (gR S h_54 r1 6 11).bind fun p_56 =>
  (gR S h_54 r0 6 11).bind fun p_58 =>
  (cpI S h_54 p_56 (0 : Int32) p_58 (0 : Int32) (6 : Int32)).bind fun h_60 =>
  (gI S h_60 r1 6 12).bind fun v_62 =>
  (pI S h_60 r0 6 12 v_62).bind fun h_64 =>
  (gR S h_64 r1 6 13).bind fun p_66 =>
  (gR S h_64 r0 6 13).bind fun p_68 =>
  (cpR S h_64 p_66 (0 : Int32) p_68 (0 : Int32) (6 : Int32)).bind fun h_70 =>
  (gI S h_70 r1 6 15).bind fun v_72 =>
  (pI S h_70 r0 6 15 v_72).bind fun h_74 =>
  some ((), h_74)
set_option maxHeartbeats 8000000 in
set_option maxRecDepth 20000 in
theorem s_X6_become {S : SH} {d cb sb : Nat} {Q : Option Value → AH → Prop} (hd : 2 ≤ d)  {r0 : Nat} {r1 : Nat} {h : AH} (k : ok (f_X6_become S r0 r1 h) (fun _ h' => Q none h')) : WP S M_X6_become d cb sb Q 0 [.ref r0, .ref r1] [] h := by
  obtain ⟨d, rfl, he⟩ := dp (L := 1) hd
  unfold f_X6_become at k
  refine wp_aload_n dX6_become_0 rfl ?_
  replace k := ok_bind k
  obtain ⟨p_1, e_2, k⟩ := k
  refine wq_getR fl_X6_12 (Or.inl ⟨_, rfl⟩) dX6_become_1 e_2 ?_
  refine wp_aload_n dX6_become_4 rfl ?_
  replace k := ok_bind k
  obtain ⟨p_3, e_4, k⟩ := k
  refine wq_getR fl_X6_12 (Or.inl ⟨_, rfl⟩) dX6_become_5 e_4 ?_
  replace k := ok_bind k
  obtain ⟨u, e_5, k⟩ := k
  refine wp_callV1 (N := M_X7_become) (ci := 7) mf_X7_become mi_X7_become me_X7_become ml_X6_57 dX6_become_8 (ckO_e e_5) mv_X7_become (by exact Nat.le_of_ble_eq_true rfl) (c_X7_become (Nat.le_trans (by decide) he) (ok_mono (ok_bind2 k) fun _ h_6 k => ?_))
  try dsimp only at k
  refine wp_aload_n dX6_become_11 rfl ?_
  refine wp_aload_n dX6_become_12 rfl ?_
  replace k := ok_bind k
  obtain ⟨v_8, e_9, k⟩ := k
  refine wq_getI fl_X6_61 (Or.inl rfl) dX6_become_13 e_9 ?_
  replace k := ok_bind k
  obtain ⟨h_10, e_11, k⟩ := k
  refine wq_putI fl_X6_61 rfl rfl dX6_become_16 e_11 ?_
  refine wp_aload_n dX6_become_19 rfl ?_
  replace k := ok_bind k
  obtain ⟨p_12, e_13, k⟩ := k
  refine wq_getR fl_X6_18 (Or.inr ⟨_, rfl⟩) dX6_become_20 e_13 ?_
  refine wp_iconst dX6_become_23 ic_0 ?_
  refine wp_aload_n dX6_become_24 rfl ?_
  replace k := ok_bind k
  obtain ⟨p_14, e_15, k⟩ := k
  refine wq_getR fl_X6_18 (Or.inr ⟨_, rfl⟩) dX6_become_25 e_15 ?_
  refine wp_iconst dX6_become_28 ic_0 ?_
  refine wp_bipush dX6_become_29 bp_7 ?_
  replace k := ok_bind k
  obtain ⟨h_16, e_17, k⟩ := k
  refine wq_cpI ml_X6_64 acn acs aci (by exact Nat.le_of_ble_eq_true rfl) dX6_become_31 e_17 ?_
  refine wp_aload_n dX6_become_34 rfl ?_
  replace k := ok_bind k
  obtain ⟨p_18, e_19, k⟩ := k
  refine wq_getR fl_X6_22 (Or.inr ⟨_, rfl⟩) dX6_become_35 e_19 ?_
  refine wp_iconst dX6_become_38 ic_0 ?_
  refine wp_aload_n dX6_become_39 rfl ?_
  replace k := ok_bind k
  obtain ⟨p_20, e_21, k⟩ := k
  refine wq_getR fl_X6_22 (Or.inr ⟨_, rfl⟩) dX6_become_40 e_21 ?_
  refine wp_iconst dX6_become_43 ic_0 ?_
  refine wp_bipush dX6_become_44 bp_42 ?_
  replace k := ok_bind k
  obtain ⟨h_22, e_23, k⟩ := k
  refine wq_cpI ml_X6_64 acn acs aci (by exact Nat.le_of_ble_eq_true rfl) dX6_become_46 e_23 ?_
  refine wp_aload_n dX6_become_49 rfl ?_
  refine wp_aload_n dX6_become_50 rfl ?_
  replace k := ok_bind k
  obtain ⟨v_24, e_25, k⟩ := k
  refine wq_getI fl_X6_70 (Or.inl rfl) dX6_become_51 e_25 ?_
  replace k := ok_bind k
  obtain ⟨h_26, e_27, k⟩ := k
  refine wq_putI fl_X6_70 rfl rfl dX6_become_54 e_27 ?_
  refine wp_aload_n dX6_become_57 rfl ?_
  replace k := ok_bind k
  obtain ⟨p_28, e_29, k⟩ := k
  refine wq_getR fl_X6_25 (Or.inr ⟨_, rfl⟩) dX6_become_58 e_29 ?_
  refine wp_iconst dX6_become_61 ic_0 ?_
  refine wp_aload_n dX6_become_62 rfl ?_
  replace k := ok_bind k
  obtain ⟨p_30, e_31, k⟩ := k
  refine wq_getR fl_X6_25 (Or.inr ⟨_, rfl⟩) dX6_become_63 e_31 ?_
  refine wp_iconst dX6_become_66 ic_0 ?_
  refine wp_bipush dX6_become_67 bp_6 ?_
  replace k := ok_bind k
  obtain ⟨h_32, e_33, k⟩ := k
  refine wq_cpI ml_X6_64 acn acs aci (by exact Nat.le_of_ble_eq_true rfl) dX6_become_69 e_33 ?_
  refine wp_aload_n dX6_become_72 rfl ?_
  replace k := ok_bind k
  obtain ⟨p_34, e_35, k⟩ := k
  refine wq_getR fl_X6_28 (Or.inr ⟨_, rfl⟩) dX6_become_73 e_35 ?_
  refine wp_iconst dX6_become_76 ic_0 ?_
  refine wp_aload_n dX6_become_77 rfl ?_
  replace k := ok_bind k
  obtain ⟨p_36, e_37, k⟩ := k
  refine wq_getR fl_X6_28 (Or.inr ⟨_, rfl⟩) dX6_become_78 e_37 ?_
  refine wp_iconst dX6_become_81 ic_0 ?_
  refine wp_bipush dX6_become_82 bp_6 ?_
  replace k := ok_bind k
  obtain ⟨h_38, e_39, k⟩ := k
  refine wq_cpI ml_X6_64 acn acs aci (by exact Nat.le_of_ble_eq_true rfl) dX6_become_84 e_39 ?_
  refine wp_aload_n dX6_become_87 rfl ?_
  refine wp_aload_n dX6_become_88 rfl ?_
  replace k := ok_bind k
  obtain ⟨v_40, e_41, k⟩ := k
  refine wq_getI fl_X6_31 (Or.inl rfl) dX6_become_89 e_41 ?_
  replace k := ok_bind k
  obtain ⟨h_42, e_43, k⟩ := k
  refine wq_putI fl_X6_31 rfl rfl dX6_become_92 e_43 ?_
  refine wp_aload_n dX6_become_95 rfl ?_
  refine wp_aload_n dX6_become_96 rfl ?_
  replace k := ok_bind k
  obtain ⟨v_44, e_45, k⟩ := k
  refine wq_getI fl_X6_73 (Or.inl rfl) dX6_become_97 e_45 ?_
  replace k := ok_bind k
  obtain ⟨h_46, e_47, k⟩ := k
  refine wq_putI fl_X6_73 rfl rfl dX6_become_100 e_47 ?_
  refine wp_aload_n dX6_become_103 rfl ?_
  refine wp_aload_n dX6_become_104 rfl ?_
  replace k := ok_bind k
  obtain ⟨v_48, e_49, k⟩ := k
  refine wq_getI fl_X6_35 (Or.inl rfl) dX6_become_105 e_49 ?_
  replace k := ok_bind k
  obtain ⟨h_50, e_51, k⟩ := k
  refine wq_putI fl_X6_35 rfl rfl dX6_become_108 e_51 ?_
  refine wp_aload_n dX6_become_111 rfl ?_
  refine wp_aload_n dX6_become_112 rfl ?_
  replace k := ok_bind k
  obtain ⟨v_52, e_53, k⟩ := k
  refine wq_getI fl_X6_76 (Or.inl rfl) dX6_become_113 e_53 ?_
  replace k := ok_bind k
  obtain ⟨h_54, e_55, k⟩ := k
  refine wq_putI fl_X6_76 rfl rfl dX6_become_116 e_55 ?_
  refine wp_aload_n dX6_become_119 rfl ?_
  replace k := ok_bind k
  obtain ⟨p_56, e_57, k⟩ := k
  refine wq_getR fl_X6_38 (Or.inr ⟨_, rfl⟩) dX6_become_120 e_57 ?_
  refine wp_iconst dX6_become_123 ic_0 ?_
  refine wp_aload_n dX6_become_124 rfl ?_
  replace k := ok_bind k
  obtain ⟨p_58, e_59, k⟩ := k
  refine wq_getR fl_X6_38 (Or.inr ⟨_, rfl⟩) dX6_become_125 e_59 ?_
  refine wp_iconst dX6_become_128 ic_0 ?_
  refine wp_bipush dX6_become_129 bp_6 ?_
  replace k := ok_bind k
  obtain ⟨h_60, e_61, k⟩ := k
  refine wq_cpI ml_X6_64 acn acs aci (by exact Nat.le_of_ble_eq_true rfl) dX6_become_131 e_61 ?_
  refine wp_aload_n dX6_become_134 rfl ?_
  refine wp_aload_n dX6_become_135 rfl ?_
  replace k := ok_bind k
  obtain ⟨v_62, e_63, k⟩ := k
  refine wq_getI fl_X6_79 (Or.inl rfl) dX6_become_136 e_63 ?_
  replace k := ok_bind k
  obtain ⟨h_64, e_65, k⟩ := k
  refine wq_putI fl_X6_79 rfl rfl dX6_become_139 e_65 ?_
  refine wp_aload_n dX6_become_142 rfl ?_
  replace k := ok_bind k
  obtain ⟨p_66, e_67, k⟩ := k
  refine wq_getR fl_X6_43 (Or.inr ⟨_, rfl⟩) dX6_become_143 e_67 ?_
  refine wp_iconst dX6_become_146 ic_0 ?_
  refine wp_aload_n dX6_become_147 rfl ?_
  replace k := ok_bind k
  obtain ⟨p_68, e_69, k⟩ := k
  refine wq_getR fl_X6_43 (Or.inr ⟨_, rfl⟩) dX6_become_148 e_69 ?_
  refine wp_iconst dX6_become_151 ic_0 ?_
  refine wp_bipush dX6_become_152 bp_6 ?_
  replace k := ok_bind k
  obtain ⟨h_70, e_71, k⟩ := k
  refine wq_cpR ml_X6_64 acn acs aci (by exact Nat.le_of_ble_eq_true rfl) dX6_become_154 e_71 ?_
  refine wp_aload_n dX6_become_157 rfl ?_
  refine wp_aload_n dX6_become_158 rfl ?_
  replace k := ok_bind k
  obtain ⟨v_72, e_73, k⟩ := k
  refine wq_getI fl_X6_54 (Or.inl rfl) dX6_become_159 e_73 ?_
  replace k := ok_bind k
  obtain ⟨h_74, e_75, k⟩ := k
  refine wq_putI fl_X6_54 rfl rfl dX6_become_162 e_75 ?_
  refine wp_vret rfl dX6_become_165 ?_
  exact (ok_some k :)
theorem c_X6_become {S : SH} {d : Nat} {K : Option Value → AH → Prop} (hd : 2 ≤ d)  {r0 : Nat} {r1 : Nat} {h : AH} (k : ok (f_X6_become S r0 r1 h) (fun _ h' => K none h')) : CP S M_X6_become d 0 0 [.ref r0, .ref r1] h K := cp_of (by decide) (fun _ _ => trivial) (fun _ => Nat.le_of_ble_eq_true rfl) (s_X6_become hd  k)
def f_X6_addBird_l30b (S : SH) (rc : Nat → Int32 → Int32 → AH → Option ((Nat × Int32) × AH)) (r0 : Nat) (x3 : Int32) (x4 : Int32) (h : AH) : Option ((Nat × Int32) × AH) :=
  if (6 : Int32) ≤ x4 then
    some ((r0, x3), h)
  else
    (gR S h r0 6 3).bind fun p_2 =>
    (sI S h p_2 ((x3 * (6 : Int32)) + x4) (0 : Int32)).bind fun h_4 =>
    lt (x4 + (1 : Int32)) fun y_6 =>
    rc r0 x3 y_6 h_4
set_option maxHeartbeats 8000000 in
set_option maxRecDepth 20000 in
theorem s_X6_addBird_l30b {S : SH} {d cb sb : Nat} {Q : Option Value → AH → Prop} (hd : 1 ≤ d) {K : (Nat × Int32) → AH → Prop} (hex : ∀ (r0 : Nat) (x3 : Int32) (h' : AH), K (r0, x3) h' → WP S M_X6_addBird d cb sb Q 56 [.ref r0, JK, JK, .int x3, JK] [] h') {rc : Nat → Int32 → Int32 → AH → Option ((Nat × Int32) × AH)} (hrec : ∀ (r0 : Nat) (x3 : Int32) (x4 : Int32) (h' : AH), ok (rc r0 x3 x4 h') K → WP S M_X6_addBird d cb sb Q 30 [.ref r0, JK, JK, .int x3, .int x4] [] h') {r0 : Nat} {x3 : Int32} {x4 : Int32} {h : AH} (k : ok (f_X6_addBird_l30b S rc r0 x3 x4 h) K) : WP S M_X6_addBird d cb sb Q 30 [.ref r0, JK, JK, .int x3, .int x4] [] h := by
  obtain ⟨d, rfl, he⟩ := dp (L := 0) hd
  unfold f_X6_addBird_l30b at k
  refine wp_iload dX6_addBird_30 rfl ?_
  refine wp_bipush dX6_addBird_32 bp_6 ?_
  refine wp_icmp_ge 56 dX6_addBird_34 (by decide) (fun c_1 => ?_) (fun c_1 => ?_)
  · replace k := ok_t c_1 k
    exact wp_wk (wkE <| wkJ <| wkJ <| wkE <| wkJ <| wkN) (hex _ _ _ (ok_some k))
  · replace k := ok_f c_1 k
    refine wp_aload_n dX6_addBird_37 rfl ?_
    replace k := ok_bind k
    obtain ⟨p_2, e_3, k⟩ := k
    refine wq_getR fl_X6_22 (Or.inr ⟨_, rfl⟩) dX6_addBird_38 e_3 ?_
    refine wp_iload_n dX6_addBird_41 rfl ?_
    refine wp_bipush dX6_addBird_42 bp_6 ?_
    refine wp_imul dX6_addBird_44 ?_
    refine wp_iload dX6_addBird_45 rfl ?_
    refine wp_iadd dX6_addBird_47 ?_
    refine wp_iconst dX6_addBird_48 ic_0 ?_
    replace k := ok_bind k
    obtain ⟨h_4, e_5, k⟩ := k
    refine wq_sI dX6_addBird_49 e_5 ?_
    replace k := ok_lt k
    refine wp_iinc dX6_addBird_50 rfl ic_1 (by decide) (L1 := [_, _, _, _, _]) rfl ?_
    refine wp_goto 30 dX6_addBird_53 (by decide) ?_
    exact wp_wk (wkE <| wkJ <| wkJ <| wkE <| wkE <| wkN) (hrec _ _ _ _ k)
def f_X6_addBird_l30 (S : SH) : Nat → Nat → Int32 → Int32 → AH → Option ((Nat × Int32) × AH)
  | 0, _, _, _, _ => none
  | n + 1, r0, x3, x4, h => f_X6_addBird_l30b S (f_X6_addBird_l30 S n) r0 x3 x4 h
theorem s_X6_addBird_l30 {S : SH} {d cb sb : Nat} {Q : Option Value → AH → Prop} (hd : 1 ≤ d) {K : (Nat × Int32) → AH → Prop} (hex : ∀ (r0 : Nat) (x3 : Int32) (h' : AH), K (r0, x3) h' → WP S M_X6_addBird d cb sb Q 56 [.ref r0, JK, JK, .int x3, JK] [] h') : ∀ (n : Nat) (r0 : Nat) (x3 : Int32) (x4 : Int32) (h : AH), ok (f_X6_addBird_l30 S n r0 x3 x4 h) K → WP S M_X6_addBird d cb sb Q 30 [.ref r0, JK, JK, .int x3, .int x4] [] h := by
  intro n
  induction n with
  | zero => intro r0 x3 x4 h k; exact ok_none k
  | succ n ih => intro r0 x3 x4 h k; exact s_X6_addBird_l30b hd hex (fun r0 x3 x4 h k => ih r0 x3 x4 h k) k
def f_X6_addBird (S : SH) (r0 : Nat) (x1 : Int32) (x2 : Int32) (h : AH) : Option (Int32 × AH) :=
  (gI S h r0 6 1).bind fun v_1 =>
  lt ((mnI v_1 (6 : Int32))) fun y_3 =>
  (gR S h r0 6 0).bind fun p_4 =>
  (gR S h p_4 7 0).bind fun p_6 =>
  (sI S h p_6 y_3 x1).bind fun h_8 =>
  (gR S h_8 r0 6 2).bind fun p_10 =>
  (sI S h_8 p_10 y_3 x2).bind fun h_12 =>
  (f_X6_addBird_l30 S FU r0 y_3 (0 : Int32) h_12).bind fun z => match z with
  | ((r0_15, x3_16), h_14) =>
  (pI S h_14 r0_15 6 1 (x3_16 + (1 : Int32))).bind fun h_17 =>
  some (x3_16, h_17)
set_option maxHeartbeats 8000000 in
set_option maxRecDepth 20000 in
theorem s_X6_addBird {S : SH} {d cb sb : Nat} {Q : Option Value → AH → Prop} (hd : 1 ≤ d)  {r0 : Nat} {x1 : Int32} {x2 : Int32} {h : AH} (k : ok (f_X6_addBird S r0 x1 x2 h) (fun w h' => Q (some (.int w)) h')) : WP S M_X6_addBird d cb sb Q 0 [.ref r0, .int x1, .int x2, JK, JK] [] h := by
  obtain ⟨d, rfl, he⟩ := dp (L := 0) hd
  unfold f_X6_addBird at k
  refine wp_aload_n dX6_addBird_0 rfl ?_
  replace k := ok_bind k
  obtain ⟨v_1, e_2, k⟩ := k
  refine wq_getI fl_X6_61 (Or.inl rfl) dX6_addBird_1 e_2 ?_
  refine wp_bipush dX6_addBird_4 bp_6 ?_
  refine wp_mmin ml_X6_82 mm_min mini mc_min (by exact Nat.le_of_ble_eq_true rfl) dX6_addBird_6 ?_
  replace k := ok_lt k
  refine wp_istore_n dX6_addBird_9 (by decide) (L1 := [_, _, _, _, _]) rfl ?_
  refine wp_aload_n dX6_addBird_10 rfl ?_
  replace k := ok_bind k
  obtain ⟨p_4, e_5, k⟩ := k
  refine wq_getR fl_X6_12 (Or.inl ⟨_, rfl⟩) dX6_addBird_11 e_5 ?_
  replace k := ok_bind k
  obtain ⟨p_6, e_7, k⟩ := k
  refine wq_getR fl_X6_88 (Or.inr ⟨_, rfl⟩) dX6_addBird_14 e_7 ?_
  refine wp_iload_n dX6_addBird_17 rfl ?_
  refine wp_iload_n dX6_addBird_18 rfl ?_
  replace k := ok_bind k
  obtain ⟨h_8, e_9, k⟩ := k
  refine wq_sI dX6_addBird_19 e_9 ?_
  refine wp_aload_n dX6_addBird_20 rfl ?_
  replace k := ok_bind k
  obtain ⟨p_10, e_11, k⟩ := k
  refine wq_getR fl_X6_18 (Or.inr ⟨_, rfl⟩) dX6_addBird_21 e_11 ?_
  refine wp_iload_n dX6_addBird_24 rfl ?_
  refine wp_iload_n dX6_addBird_25 rfl ?_
  replace k := ok_bind k
  obtain ⟨h_12, e_13, k⟩ := k
  refine wq_sI dX6_addBird_26 e_13 ?_
  refine wp_iconst dX6_addBird_27 ic_0 ?_
  refine wp_istore dX6_addBird_28 (by decide) (L1 := [_, _, _, _, _]) rfl ?_
  refine wp_wk (wkE <| wkJ <| wkJ <| wkE <| wkE <| wkN) ?_
  refine s_X6_addBird_l30 (Nat.succ_le_succ he) (fun r0_15 x3_16 h_14 k => ?_) FU _ _ _ _ (ok_bind2 k)
  try dsimp only at k
  refine wp_aload_n dX6_addBird_56 rfl ?_
  refine wp_iload_n dX6_addBird_57 rfl ?_
  refine wp_iconst dX6_addBird_58 ic_1 ?_
  refine wp_iadd dX6_addBird_59 ?_
  replace k := ok_bind k
  obtain ⟨h_17, e_18, k⟩ := k
  refine wq_putI fl_X6_61 rfl rfl dX6_addBird_60 e_18 ?_
  refine wp_iload_n dX6_addBird_63 rfl ?_
  refine wp_iret rfl rfl dX6_addBird_64 ?_
  exact (ok_some k :)
theorem c_X6_addBird {S : SH} {d : Nat} {K : Option Value → AH → Prop} (hd : 1 ≤ d)  {r0 : Nat} {x1 : Int32} {x2 : Int32} {h : AH} (k : ok (f_X6_addBird S r0 x1 x2 h) (fun w h' => K (some (.int w)) h')) : CP S M_X6_addBird d 0 0 [.ref r0, .int x1, .int x2] h K := cp_of (by decide) (fun _ _ => trivial) (fun _ => Nat.le_of_ble_eq_true rfl) (s_X6_addBird hd  k)
def f_X6_addMatter (S : SH) (r0 : Nat) (x1 : Int32) (x2 : Int32) (h : AH) : Option (Int32 × AH) :=
  (gI S h r0 6 4).bind fun v_1 =>
  lt ((mnI v_1 (5 : Int32))) fun y_3 =>
  (gR S h r0 6 0).bind fun p_4 =>
  (gR S h p_4 7 1).bind fun p_6 =>
  (sI S h p_6 y_3 (0 : Int32)).bind fun h_8 =>
  (gR S h_8 r0 6 5).bind fun p_10 =>
  (sI S h_8 p_10 y_3 x1).bind fun h_12 =>
  (gR S h_12 r0 6 6).bind fun p_14 =>
  (sI S h_12 p_14 y_3 x2).bind fun h_16 =>
  (pI S h_16 r0 6 4 (y_3 + (1 : Int32))).bind fun h_18 =>
  some (y_3, h_18)
set_option maxHeartbeats 8000000 in
set_option maxRecDepth 20000 in
theorem s_X6_addMatter {S : SH} {d cb sb : Nat} {Q : Option Value → AH → Prop} (hd : 1 ≤ d)  {r0 : Nat} {x1 : Int32} {x2 : Int32} {h : AH} (k : ok (f_X6_addMatter S r0 x1 x2 h) (fun w h' => Q (some (.int w)) h')) : WP S M_X6_addMatter d cb sb Q 0 [.ref r0, .int x1, .int x2, JK] [] h := by
  obtain ⟨d, rfl, he⟩ := dp (L := 0) hd
  unfold f_X6_addMatter at k
  refine wp_aload_n dX6_addMatter_0 rfl ?_
  replace k := ok_bind k
  obtain ⟨v_1, e_2, k⟩ := k
  refine wq_getI fl_X6_70 (Or.inl rfl) dX6_addMatter_1 e_2 ?_
  refine wp_iconst dX6_addMatter_4 ic_5 ?_
  refine wp_mmin ml_X6_82 mm_min mini mc_min (by exact Nat.le_of_ble_eq_true rfl) dX6_addMatter_5 ?_
  replace k := ok_lt k
  refine wp_istore_n dX6_addMatter_8 (by decide) (L1 := [_, _, _, _]) rfl ?_
  refine wp_aload_n dX6_addMatter_9 rfl ?_
  replace k := ok_bind k
  obtain ⟨p_4, e_5, k⟩ := k
  refine wq_getR fl_X6_12 (Or.inl ⟨_, rfl⟩) dX6_addMatter_10 e_5 ?_
  replace k := ok_bind k
  obtain ⟨p_6, e_7, k⟩ := k
  refine wq_getR fl_X6_91 (Or.inr ⟨_, rfl⟩) dX6_addMatter_13 e_7 ?_
  refine wp_iload_n dX6_addMatter_16 rfl ?_
  refine wp_iconst dX6_addMatter_17 ic_0 ?_
  replace k := ok_bind k
  obtain ⟨h_8, e_9, k⟩ := k
  refine wq_sI dX6_addMatter_18 e_9 ?_
  refine wp_aload_n dX6_addMatter_19 rfl ?_
  replace k := ok_bind k
  obtain ⟨p_10, e_11, k⟩ := k
  refine wq_getR fl_X6_25 (Or.inr ⟨_, rfl⟩) dX6_addMatter_20 e_11 ?_
  refine wp_iload_n dX6_addMatter_23 rfl ?_
  refine wp_iload_n dX6_addMatter_24 rfl ?_
  replace k := ok_bind k
  obtain ⟨h_12, e_13, k⟩ := k
  refine wq_sI dX6_addMatter_25 e_13 ?_
  refine wp_aload_n dX6_addMatter_26 rfl ?_
  replace k := ok_bind k
  obtain ⟨p_14, e_15, k⟩ := k
  refine wq_getR fl_X6_28 (Or.inr ⟨_, rfl⟩) dX6_addMatter_27 e_15 ?_
  refine wp_iload_n dX6_addMatter_30 rfl ?_
  refine wp_iload_n dX6_addMatter_31 rfl ?_
  replace k := ok_bind k
  obtain ⟨h_16, e_17, k⟩ := k
  refine wq_sI dX6_addMatter_32 e_17 ?_
  refine wp_aload_n dX6_addMatter_33 rfl ?_
  refine wp_iload_n dX6_addMatter_34 rfl ?_
  refine wp_iconst dX6_addMatter_35 ic_1 ?_
  refine wp_iadd dX6_addMatter_36 ?_
  replace k := ok_bind k
  obtain ⟨h_18, e_19, k⟩ := k
  refine wq_putI fl_X6_70 rfl rfl dX6_addMatter_37 e_19 ?_
  refine wp_iload_n dX6_addMatter_40 rfl ?_
  refine wp_iret rfl rfl dX6_addMatter_41 ?_
  exact (ok_some k :)
theorem c_X6_addMatter {S : SH} {d : Nat} {K : Option Value → AH → Prop} (hd : 1 ≤ d)  {r0 : Nat} {x1 : Int32} {x2 : Int32} {h : AH} (k : ok (f_X6_addMatter S r0 x1 x2 h) (fun w h' => K (some (.int w)) h')) : CP S M_X6_addMatter d 0 0 [.ref r0, .int x1, .int x2] h K := cp_of (by decide) (fun _ _ => trivial) (fun _ => Nat.le_of_ble_eq_true rfl) (s_X6_addMatter hd  k)
def f_X6_hear (S : SH) (r0 : Nat) (x1 : Int32) (h : AH) : Option (Unit × AH) :=
  (gI S h r0 6 10).bind fun v_1 =>
  if v_1 < (0 : Int32) then
    some ((), h)
  else
    (gI S h r0 6 10).bind fun v_4 =>
    if (6 : Int32) ≤ v_4 then
      some ((), h)
    else
      (gR S h r0 6 11).bind fun p_7 =>
      (gI S h r0 6 10).bind fun v_9 =>
      (sI S h p_7 v_9 x1).bind fun h_11 =>
      (gI S h_11 r0 6 10).bind fun v_13 =>
      (pI S h_11 r0 6 10 (v_13 + (1 : Int32))).bind fun h_15 =>
      some ((), h_15)
set_option maxHeartbeats 8000000 in
set_option maxRecDepth 20000 in
theorem s_X6_hear {S : SH} {d cb sb : Nat} {Q : Option Value → AH → Prop} (hd : 0 ≤ d)  {r0 : Nat} {x1 : Int32} {h : AH} (k : ok (f_X6_hear S r0 x1 h) (fun _ h' => Q none h')) : WP S M_X6_hear d cb sb Q 0 [.ref r0, .int x1] [] h := by
  unfold f_X6_hear at k
  refine wp_aload_n dX6_hear_0 rfl ?_
  replace k := ok_bind k
  obtain ⟨v_1, e_2, k⟩ := k
  refine wq_getI fl_X6_76 (Or.inl rfl) dX6_hear_1 e_2 ?_
  refine wp_if_lt 36 dX6_hear_4 (by decide) (fun c_3 => ?_) (fun c_3 => ?_)
  · replace k := ok_t c_3 k
    refine wp_vret rfl dX6_hear_36 ?_
    exact (ok_some k :)
  · replace k := ok_f c_3 k
    refine wp_aload_n dX6_hear_7 rfl ?_
    replace k := ok_bind k
    obtain ⟨v_4, e_5, k⟩ := k
    refine wq_getI fl_X6_76 (Or.inl rfl) dX6_hear_8 e_5 ?_
    refine wp_bipush dX6_hear_11 bp_6 ?_
    refine wp_icmp_ge 36 dX6_hear_13 (by decide) (fun c_6 => ?_) (fun c_6 => ?_)
    · replace k := ok_t c_6 k
      refine wp_vret rfl dX6_hear_36 ?_
      exact (ok_some k :)
    · replace k := ok_f c_6 k
      refine wp_aload_n dX6_hear_16 rfl ?_
      replace k := ok_bind k
      obtain ⟨p_7, e_8, k⟩ := k
      refine wq_getR fl_X6_38 (Or.inr ⟨_, rfl⟩) dX6_hear_17 e_8 ?_
      refine wp_aload_n dX6_hear_20 rfl ?_
      replace k := ok_bind k
      obtain ⟨v_9, e_10, k⟩ := k
      refine wq_getI fl_X6_76 (Or.inl rfl) dX6_hear_21 e_10 ?_
      refine wp_iload_n dX6_hear_24 rfl ?_
      replace k := ok_bind k
      obtain ⟨h_11, e_12, k⟩ := k
      refine wq_sI dX6_hear_25 e_12 ?_
      refine wp_aload_n dX6_hear_26 rfl ?_
      refine wp_dupR dX6_hear_27 ?_
      replace k := ok_bind k
      obtain ⟨v_13, e_14, k⟩ := k
      refine wq_getI fl_X6_76 (Or.inl rfl) dX6_hear_28 e_14 ?_
      refine wp_iconst dX6_hear_31 ic_1 ?_
      refine wp_iadd dX6_hear_32 ?_
      replace k := ok_bind k
      obtain ⟨h_15, e_16, k⟩ := k
      refine wq_putI fl_X6_76 rfl rfl dX6_hear_33 e_16 ?_
      refine wp_vret rfl dX6_hear_36 ?_
      exact (ok_some k :)
theorem c_X6_hear {S : SH} {d : Nat} {K : Option Value → AH → Prop} (hd : 0 ≤ d)  {r0 : Nat} {x1 : Int32} {h : AH} (k : ok (f_X6_hear S r0 x1 h) (fun _ h' => K none h')) : CP S M_X6_hear d 0 0 [.ref r0, .int x1] h K := cp_of (by decide) (fun _ _ => trivial) (fun _ => Nat.le_of_ble_eq_true rfl) (s_X6_hear hd  k)
def f_X10_refuse (S : SH) (r0 : Nat) (x1 : Int32) (h : AH) : Option (Int32 × AH) :=
  (pI S h r0 10 14 x1).bind fun h_1 =>
  if (0 : Int32) ≤ x1 then
    some (x1, h_1)
  else
    (gR S h_1 r0 10 13).bind fun p_4 =>
    (lnA S h_1 p_4).bind fun v_6 =>
    if v_6 ≤ (-x1) then
      some (x1, h_1)
    else
      (gR S h_1 r0 10 13).bind fun p_9 =>
      (aI S h_1 p_9 (-x1)).bind fun v_11 =>
      (sI S h_1 p_9 (-x1) (v_11 + (1 : Int32))).bind fun h_13 =>
      some (x1, h_13)
set_option maxHeartbeats 8000000 in
set_option maxRecDepth 20000 in
theorem s_X10_refuse {S : SH} {d cb sb : Nat} {Q : Option Value → AH → Prop} (hd : 0 ≤ d)  {r0 : Nat} {x1 : Int32} {h : AH} (k : ok (f_X10_refuse S r0 x1 h) (fun w h' => Q (some (.int w)) h')) : WP S M_X10_refuse d cb sb Q 0 [.ref r0, .int x1] [] h := by
  unfold f_X10_refuse at k
  refine wp_aload_n dX10_refuse_0 rfl ?_
  refine wp_iload_n dX10_refuse_1 rfl ?_
  replace k := ok_bind k
  obtain ⟨h_1, e_2, k⟩ := k
  refine wq_putI fl_X10_410 rfl rfl dX10_refuse_2 e_2 ?_
  refine wp_iload_n dX10_refuse_5 rfl ?_
  refine wp_if_ge 30 dX10_refuse_6 (by decide) (fun c_3 => ?_) (fun c_3 => ?_)
  · replace k := ok_t c_3 k
    refine wp_iload_n dX10_refuse_30 rfl ?_
    refine wp_iret rfl rfl dX10_refuse_31 ?_
    exact (ok_some k :)
  · replace k := ok_f c_3 k
    refine wp_iload_n dX10_refuse_9 rfl ?_
    refine wp_ineg dX10_refuse_10 ?_
    refine wp_aload_n dX10_refuse_11 rfl ?_
    replace k := ok_bind k
    obtain ⟨p_4, e_5, k⟩ := k
    refine wq_getR fl_X10_83 (Or.inr ⟨_, rfl⟩) dX10_refuse_12 e_5 ?_
    replace k := ok_bind k
    obtain ⟨v_6, e_7, k⟩ := k
    refine wq_len dX10_refuse_15 e_7 ?_
    refine wp_icmp_ge 30 dX10_refuse_16 (by decide) (fun c_8 => ?_) (fun c_8 => ?_)
    · replace k := ok_t c_8 k
      refine wp_iload_n dX10_refuse_30 rfl ?_
      refine wp_iret rfl rfl dX10_refuse_31 ?_
      exact (ok_some k :)
    · replace k := ok_f c_8 k
      refine wp_aload_n dX10_refuse_19 rfl ?_
      replace k := ok_bind k
      obtain ⟨p_9, e_10, k⟩ := k
      refine wq_getR fl_X10_83 (Or.inr ⟨_, rfl⟩) dX10_refuse_20 e_10 ?_
      refine wp_iload_n dX10_refuse_23 rfl ?_
      refine wp_ineg dX10_refuse_24 ?_
      refine wp_dup2 dX10_refuse_25 ?_
      replace k := ok_bind k
      obtain ⟨v_11, e_12, k⟩ := k
      refine wq_aI dX10_refuse_26 e_12 ?_
      refine wp_iconst dX10_refuse_27 ic_1 ?_
      refine wp_iadd dX10_refuse_28 ?_
      replace k := ok_bind k
      obtain ⟨h_13, e_14, k⟩ := k
      refine wq_sI dX10_refuse_29 e_14 ?_
      refine wp_iload_n dX10_refuse_30 rfl ?_
      refine wp_iret rfl rfl dX10_refuse_31 ?_
      exact (ok_some k :)
theorem c_X10_refuse {S : SH} {d : Nat} {K : Option Value → AH → Prop} (hd : 0 ≤ d)  {r0 : Nat} {x1 : Int32} {h : AH} (k : ok (f_X10_refuse S r0 x1 h) (fun w h' => K (some (.int w)) h')) : CP S M_X10_refuse d 0 0 [.ref r0, .int x1] h K := cp_of (by decide) (fun _ _ => trivial) (fun _ => Nat.le_of_ble_eq_true rfl) (s_X10_refuse hd  k)
def f_X10_accept (S : SH) (r0 : Nat) (x1 : Int32) (h : AH) : Option (Int32 × AH) :=
  (pI S h r0 10 14 (0 : Int32)).bind fun h_1 =>
  some (x1, h_1)
set_option maxHeartbeats 8000000 in
set_option maxRecDepth 20000 in
theorem s_X10_accept {S : SH} {d cb sb : Nat} {Q : Option Value → AH → Prop} (hd : 0 ≤ d)  {r0 : Nat} {x1 : Int32} {h : AH} (k : ok (f_X10_accept S r0 x1 h) (fun w h' => Q (some (.int w)) h')) : WP S M_X10_accept d cb sb Q 0 [.ref r0, .int x1] [] h := by
  unfold f_X10_accept at k
  refine wp_aload_n dX10_accept_0 rfl ?_
  refine wp_iconst dX10_accept_1 ic_0 ?_
  replace k := ok_bind k
  obtain ⟨h_1, e_2, k⟩ := k
  refine wq_putI fl_X10_410 rfl rfl dX10_accept_2 e_2 ?_
  refine wp_iload_n dX10_accept_5 rfl ?_
  refine wp_iret rfl rfl dX10_accept_6 ?_
  exact (ok_some k :)
theorem c_X10_accept {S : SH} {d : Nat} {K : Option Value → AH → Prop} (hd : 0 ≤ d)  {r0 : Nat} {x1 : Int32} {h : AH} (k : ok (f_X10_accept S r0 x1 h) (fun w h' => K (some (.int w)) h')) : CP S M_X10_accept d 0 0 [.ref r0, .int x1] h K := cp_of (by decide) (fun _ _ => trivial) (fun _ => Nat.le_of_ble_eq_true rfl) (s_X10_accept hd  k)
def f_X10_bird (S : SH) (r0 : Nat) (x1 : Int32) (x2 : Int32) (h : AH) : Option (Int32 × AH) :=
  if x1 < (-1 : Int32) then
    (ckO S h r0 10).bind fun _ =>
    (f_X10_refuse S r0 (-1 : Int32) h).bind fun z => match z with
    | (z_4, h_3) =>
    some (z_4, h_3)
  else
    if (20 : Int32) ≤ x1 then
      (ckO S h r0 10).bind fun _ =>
      (f_X10_refuse S r0 (-1 : Int32) h).bind fun z => match z with
      | (z_8, h_7) =>
      some (z_8, h_7)
    else
      if x2 < (0 : Int32) then
        (ckO S h r0 10).bind fun _ =>
        (f_X10_refuse S r0 (-1 : Int32) h).bind fun z => match z with
        | (z_12, h_11) =>
        some (z_12, h_11)
      else
        if x2 ≤ (9 : Int32) then
          (gR S h r0 10 2).bind fun p_14 =>
          (gI S h p_14 6 1).bind fun v_16 =>
          if v_16 < (7 : Int32) then
            (gR S h r0 10 4).bind fun p_19 =>
            (ckO S h p_19 5).bind fun _ =>
            (f_X5_clear S p_19 h).bind fun z => match z with
            | (_, h_22) =>
            (gR S h_22 r0 10 2).bind fun p_24 =>
            (ckO S h_22 p_24 6).bind fun _ =>
            (f_X6_addBird S p_24 x1 x2 h_22).bind fun z => match z with
            | (z_28, h_27) =>
            (ckO S h_27 r0 10).bind fun _ =>
            (f_X10_accept S r0 z_28 h_27).bind fun z => match z with
            | (z_31, h_30) =>
            some (z_31, h_30)
          else
            (ckO S h r0 10).bind fun _ =>
            (f_X10_refuse S r0 (-5 : Int32) h).bind fun z => match z with
            | (z_34, h_33) =>
            some (z_34, h_33)
        else
          (ckO S h r0 10).bind fun _ =>
          (f_X10_refuse S r0 (-1 : Int32) h).bind fun z => match z with
          | (z_37, h_36) =>
          some (z_37, h_36)
set_option maxHeartbeats 8000000 in
set_option maxRecDepth 20000 in
theorem s_X10_bird {S : SH} {d cb sb : Nat} {Q : Option Value → AH → Prop} (hd : 2 ≤ d)  {r0 : Nat} {x1 : Int32} {x2 : Int32} {h : AH} (k : ok (f_X10_bird S r0 x1 x2 h) (fun w h' => Q (some (.int w)) h')) : WP S M_X10_bird d cb sb Q 0 [.ref r0, .int x1, .int x2] [] h := by
  obtain ⟨d, rfl, he⟩ := dp (L := 1) hd
  unfold f_X10_bird at k
  refine wp_iload_n dX10_bird_0 rfl ?_
  refine wp_iconst dX10_bird_1 ic_m1 ?_
  refine wp_icmp_lt 21 dX10_bird_2 (by decide) (fun c_1 => ?_) (fun c_1 => ?_)
  · replace k := ok_t c_1 k
    refine wp_aload_n dX10_bird_21 rfl ?_
    refine wp_iconst dX10_bird_22 ic_m1 ?_
    replace k := ok_bind k
    obtain ⟨u, e_2, k⟩ := k
    refine wp_callV1 (N := M_X10_refuse) (ci := 10) mf_X10_refuse mi_X10_refuse me_X10_refuse ml_X10_96 dX10_bird_23 (ckO_e e_2) mv_X10_refuse (by exact Nat.le_of_ble_eq_true rfl) (c_X10_refuse (Nat.le_trans (by decide) he) (ok_mono (ok_bind2 k) fun z_4 h_3 k => ?_))
    try dsimp only at k
    refine wp_iret rfl rfl dX10_bird_26 ?_
    exact (ok_some k :)
  · replace k := ok_f c_1 k
    refine wp_iload_n dX10_bird_5 rfl ?_
    refine wp_bipush dX10_bird_6 bp_20 ?_
    refine wp_icmp_ge 21 dX10_bird_8 (by decide) (fun c_5 => ?_) (fun c_5 => ?_)
    · replace k := ok_t c_5 k
      refine wp_aload_n dX10_bird_21 rfl ?_
      refine wp_iconst dX10_bird_22 ic_m1 ?_
      replace k := ok_bind k
      obtain ⟨u, e_6, k⟩ := k
      refine wp_callV1 (N := M_X10_refuse) (ci := 10) mf_X10_refuse mi_X10_refuse me_X10_refuse ml_X10_96 dX10_bird_23 (ckO_e e_6) mv_X10_refuse (by exact Nat.le_of_ble_eq_true rfl) (c_X10_refuse (Nat.le_trans (by decide) he) (ok_mono (ok_bind2 k) fun z_8 h_7 k => ?_))
      try dsimp only at k
      refine wp_iret rfl rfl dX10_bird_26 ?_
      exact (ok_some k :)
    · replace k := ok_f c_5 k
      refine wp_iload_n dX10_bird_11 rfl ?_
      refine wp_if_lt 21 dX10_bird_12 (by decide) (fun c_9 => ?_) (fun c_9 => ?_)
      · replace k := ok_t c_9 k
        refine wp_aload_n dX10_bird_21 rfl ?_
        refine wp_iconst dX10_bird_22 ic_m1 ?_
        replace k := ok_bind k
        obtain ⟨u, e_10, k⟩ := k
        refine wp_callV1 (N := M_X10_refuse) (ci := 10) mf_X10_refuse mi_X10_refuse me_X10_refuse ml_X10_96 dX10_bird_23 (ckO_e e_10) mv_X10_refuse (by exact Nat.le_of_ble_eq_true rfl) (c_X10_refuse (Nat.le_trans (by decide) he) (ok_mono (ok_bind2 k) fun z_12 h_11 k => ?_))
        try dsimp only at k
        refine wp_iret rfl rfl dX10_bird_26 ?_
        exact (ok_some k :)
      · replace k := ok_f c_9 k
        refine wp_iload_n dX10_bird_15 rfl ?_
        refine wp_bipush dX10_bird_16 bp_9 ?_
        refine wp_icmp_le 27 dX10_bird_18 (by decide) (fun c_13 => ?_) (fun c_13 => ?_)
        · replace k := ok_t c_13 k
          refine wp_aload_n dX10_bird_27 rfl ?_
          replace k := ok_bind k
          obtain ⟨p_14, e_15, k⟩ := k
          refine wq_getR fl_X10_16 (Or.inl ⟨_, rfl⟩) dX10_bird_28 e_15 ?_
          replace k := ok_bind k
          obtain ⟨v_16, e_17, k⟩ := k
          refine wq_getI fl_X10_100 (Or.inl rfl) dX10_bird_31 e_17 ?_
          refine wp_bipush dX10_bird_34 bp_7 ?_
          refine wp_icmp_lt 46 dX10_bird_36 (by decide) (fun c_18 => ?_) (fun c_18 => ?_)
          · replace k := ok_t c_18 k
            refine wp_aload_n dX10_bird_46 rfl ?_
            replace k := ok_bind k
            obtain ⟨p_19, e_20, k⟩ := k
            refine wq_getR fl_X10_27 (Or.inl ⟨_, rfl⟩) dX10_bird_47 e_20 ?_
            replace k := ok_bind k
            obtain ⟨u, e_21, k⟩ := k
            refine wp_callV0 (N := M_X5_clear) (ci := 5) mf_X5_clear mi_X5_clear me_X5_clear ml_X10_103 dX10_bird_50 (ckO_e e_21) mv_X5_clear (by exact Nat.le_of_ble_eq_true rfl) (c_X5_clear (Nat.le_trans (by decide) he) (ok_mono (ok_bind2 k) fun _ h_22 k => ?_))
            try dsimp only at k
            refine wp_aload_n dX10_bird_53 rfl ?_
            refine wp_aload_n dX10_bird_54 rfl ?_
            replace k := ok_bind k
            obtain ⟨p_24, e_25, k⟩ := k
            refine wq_getR fl_X10_16 (Or.inl ⟨_, rfl⟩) dX10_bird_55 e_25 ?_
            refine wp_iload_n dX10_bird_58 rfl ?_
            refine wp_iload_n dX10_bird_59 rfl ?_
            replace k := ok_bind k
            obtain ⟨u, e_26, k⟩ := k
            refine wp_callV2 (N := M_X6_addBird) (ci := 6) mf_X6_addBird mi_X6_addBird me_X6_addBird ml_X10_106 dX10_bird_60 (ckO_e e_26) mv_X6_addBird (by exact Nat.le_of_ble_eq_true rfl) (c_X6_addBird (Nat.le_trans (by decide) he) (ok_mono (ok_bind2 k) fun z_28 h_27 k => ?_))
            try dsimp only at k
            replace k := ok_bind k
            obtain ⟨u, e_29, k⟩ := k
            refine wp_callV1 (N := M_X10_accept) (ci := 10) mf_X10_accept mi_X10_accept me_X10_accept ml_X10_110 dX10_bird_63 (ckO_e e_29) mv_X10_accept (by exact Nat.le_of_ble_eq_true rfl) (c_X10_accept (Nat.le_trans (by decide) he) (ok_mono (ok_bind2 k) fun z_31 h_30 k => ?_))
            try dsimp only at k
            refine wp_iret rfl rfl dX10_bird_66 ?_
            exact (ok_some k :)
          · replace k := ok_f c_18 k
            refine wp_aload_n dX10_bird_39 rfl ?_
            refine wp_bipush dX10_bird_40 bp_m5 ?_
            replace k := ok_bind k
            obtain ⟨u, e_32, k⟩ := k
            refine wp_callV1 (N := M_X10_refuse) (ci := 10) mf_X10_refuse mi_X10_refuse me_X10_refuse ml_X10_96 dX10_bird_42 (ckO_e e_32) mv_X10_refuse (by exact Nat.le_of_ble_eq_true rfl) (c_X10_refuse (Nat.le_trans (by decide) he) (ok_mono (ok_bind2 k) fun z_34 h_33 k => ?_))
            try dsimp only at k
            refine wp_iret rfl rfl dX10_bird_45 ?_
            exact (ok_some k :)
        · replace k := ok_f c_13 k
          refine wp_aload_n dX10_bird_21 rfl ?_
          refine wp_iconst dX10_bird_22 ic_m1 ?_
          replace k := ok_bind k
          obtain ⟨u, e_35, k⟩ := k
          refine wp_callV1 (N := M_X10_refuse) (ci := 10) mf_X10_refuse mi_X10_refuse me_X10_refuse ml_X10_96 dX10_bird_23 (ckO_e e_35) mv_X10_refuse (by exact Nat.le_of_ble_eq_true rfl) (c_X10_refuse (Nat.le_trans (by decide) he) (ok_mono (ok_bind2 k) fun z_37 h_36 k => ?_))
          try dsimp only at k
          refine wp_iret rfl rfl dX10_bird_26 ?_
          exact (ok_some k :)
theorem c_X10_bird {S : SH} {d : Nat} {K : Option Value → AH → Prop} (hd : 2 ≤ d)  {r0 : Nat} {x1 : Int32} {x2 : Int32} {h : AH} (k : ok (f_X10_bird S r0 x1 x2 h) (fun w h' => K (some (.int w)) h')) : CP S M_X10_bird d 0 0 [.ref r0, .int x1, .int x2] h K := cp_of (by decide) (fun _ _ => trivial) (fun _ => Nat.le_of_ble_eq_true rfl) (s_X10_bird hd  k)
def f_X10_favour (S : SH) (r0 : Nat) (x1 : Int32) (x2 : Int32) (x3 : Int32) (h : AH) : Option (Int32 × AH) :=
  if x2 < (0 : Int32) then
    (ckO S h r0 10).bind fun _ =>
    (f_X10_refuse S r0 (-1 : Int32) h).bind fun z => match z with
    | (z_4, h_3) =>
    some (z_4, h_3)
  else
    if (6 : Int32) ≤ x2 then
      (ckO S h r0 10).bind fun _ =>
      (f_X10_refuse S r0 (-1 : Int32) h).bind fun z => match z with
      | (z_8, h_7) =>
      some (z_8, h_7)
    else
      if x3 < (0 : Int32) then
        (ckO S h r0 10).bind fun _ =>
        (f_X10_refuse S r0 (-1 : Int32) h).bind fun z => match z with
        | (z_12, h_11) =>
        some (z_12, h_11)
      else
        if x3 ≤ (9 : Int32) then
          (gR S h r0 10 2).bind fun p_14 =>
          (ckO S h p_14 6).bind fun _ =>
          (f_X6_hasBird S p_14 x1 h).bind fun z => match z with
          | (z_18, h_17) =>
          if z_18 = (0 : Int32) then
            (ckO S h_17 r0 10).bind fun _ =>
            (f_X10_refuse S r0 (-2 : Int32) h_17).bind fun z => match z with
            | (z_37, h_36) =>
            some (z_37, h_36)
          else
            (gR S h_17 r0 10 2).bind fun p_20 =>
            (gR S h_17 p_20 6 3).bind fun p_22 =>
            (aI S h_17 p_22 ((x1 * (6 : Int32)) + x2)).bind fun v_24 =>
            (gR S h_17 r0 10 2).bind fun p_26 =>
            (gR S h_17 p_26 6 3).bind fun p_28 =>
            (sI S h_17 p_28 ((x1 * (6 : Int32)) + x2) x3).bind fun h_30 =>
            (ckO S h_30 r0 10).bind fun _ =>
            (f_X10_accept S r0 v_24 h_30).bind fun z => match z with
            | (z_34, h_33) =>
            some (z_34, h_33)
        else
          (ckO S h r0 10).bind fun _ =>
          (f_X10_refuse S r0 (-1 : Int32) h).bind fun z => match z with
          | (z_40, h_39) =>
          some (z_40, h_39)
set_option maxHeartbeats 8000000 in
set_option maxRecDepth 20000 in
theorem s_X10_favour {S : SH} {d cb sb : Nat} {Q : Option Value → AH → Prop} (hd : 1 ≤ d)  {r0 : Nat} {x1 : Int32} {x2 : Int32} {x3 : Int32} {h : AH} (k : ok (f_X10_favour S r0 x1 x2 x3 h) (fun w h' => Q (some (.int w)) h')) : WP S M_X10_favour d cb sb Q 0 [.ref r0, .int x1, .int x2, .int x3, JK] [] h := by
  obtain ⟨d, rfl, he⟩ := dp (L := 0) hd
  unfold f_X10_favour at k
  refine wp_iload_n dX10_favour_0 rfl ?_
  refine wp_if_lt 20 dX10_favour_1 (by decide) (fun c_1 => ?_) (fun c_1 => ?_)
  · replace k := ok_t c_1 k
    refine wp_aload_n dX10_favour_20 rfl ?_
    refine wp_iconst dX10_favour_21 ic_m1 ?_
    replace k := ok_bind k
    obtain ⟨u, e_2, k⟩ := k
    refine wp_callV1 (N := M_X10_refuse) (ci := 10) mf_X10_refuse mi_X10_refuse me_X10_refuse ml_X10_96 dX10_favour_22 (ckO_e e_2) mv_X10_refuse (by exact Nat.le_of_ble_eq_true rfl) (c_X10_refuse (Nat.le_trans (by decide) he) (ok_mono (ok_bind2 k) fun z_4 h_3 k => ?_))
    try dsimp only at k
    refine wp_iret rfl rfl dX10_favour_25 ?_
    exact (ok_some k :)
  · replace k := ok_f c_1 k
    refine wp_iload_n dX10_favour_4 rfl ?_
    refine wp_bipush dX10_favour_5 bp_6 ?_
    refine wp_icmp_ge 20 dX10_favour_7 (by decide) (fun c_5 => ?_) (fun c_5 => ?_)
    · replace k := ok_t c_5 k
      refine wp_aload_n dX10_favour_20 rfl ?_
      refine wp_iconst dX10_favour_21 ic_m1 ?_
      replace k := ok_bind k
      obtain ⟨u, e_6, k⟩ := k
      refine wp_callV1 (N := M_X10_refuse) (ci := 10) mf_X10_refuse mi_X10_refuse me_X10_refuse ml_X10_96 dX10_favour_22 (ckO_e e_6) mv_X10_refuse (by exact Nat.le_of_ble_eq_true rfl) (c_X10_refuse (Nat.le_trans (by decide) he) (ok_mono (ok_bind2 k) fun z_8 h_7 k => ?_))
      try dsimp only at k
      refine wp_iret rfl rfl dX10_favour_25 ?_
      exact (ok_some k :)
    · replace k := ok_f c_5 k
      refine wp_iload_n dX10_favour_10 rfl ?_
      refine wp_if_lt 20 dX10_favour_11 (by decide) (fun c_9 => ?_) (fun c_9 => ?_)
      · replace k := ok_t c_9 k
        refine wp_aload_n dX10_favour_20 rfl ?_
        refine wp_iconst dX10_favour_21 ic_m1 ?_
        replace k := ok_bind k
        obtain ⟨u, e_10, k⟩ := k
        refine wp_callV1 (N := M_X10_refuse) (ci := 10) mf_X10_refuse mi_X10_refuse me_X10_refuse ml_X10_96 dX10_favour_22 (ckO_e e_10) mv_X10_refuse (by exact Nat.le_of_ble_eq_true rfl) (c_X10_refuse (Nat.le_trans (by decide) he) (ok_mono (ok_bind2 k) fun z_12 h_11 k => ?_))
        try dsimp only at k
        refine wp_iret rfl rfl dX10_favour_25 ?_
        exact (ok_some k :)
      · replace k := ok_f c_9 k
        refine wp_iload_n dX10_favour_14 rfl ?_
        refine wp_bipush dX10_favour_15 bp_9 ?_
        refine wp_icmp_le 26 dX10_favour_17 (by decide) (fun c_13 => ?_) (fun c_13 => ?_)
        · replace k := ok_t c_13 k
          refine wp_aload_n dX10_favour_26 rfl ?_
          replace k := ok_bind k
          obtain ⟨p_14, e_15, k⟩ := k
          refine wq_getR fl_X10_16 (Or.inl ⟨_, rfl⟩) dX10_favour_27 e_15 ?_
          refine wp_iload_n dX10_favour_30 rfl ?_
          replace k := ok_bind k
          obtain ⟨u, e_16, k⟩ := k
          refine wp_callV1 (N := M_X6_hasBird) (ci := 6) mf_X6_hasBird mi_X6_hasBird me_X6_hasBird ml_X10_113 dX10_favour_31 (ckO_e e_16) mv_X6_hasBird (by exact Nat.le_of_ble_eq_true rfl) (c_X6_hasBird (Nat.le_trans (by decide) he) (ok_mono (ok_bind2 k) fun z_18 h_17 k => ?_))
          try dsimp only at k
          refine wp_if_ne 44 dX10_favour_34 (by decide) (fun c_19 => ?_) (fun c_19 => ?_)
          · replace k := ok_f c_19 k
            refine wp_aload_n dX10_favour_44 rfl ?_
            replace k := ok_bind k
            obtain ⟨p_20, e_21, k⟩ := k
            refine wq_getR fl_X10_16 (Or.inl ⟨_, rfl⟩) dX10_favour_45 e_21 ?_
            replace k := ok_bind k
            obtain ⟨p_22, e_23, k⟩ := k
            refine wq_getR fl_X10_117 (Or.inr ⟨_, rfl⟩) dX10_favour_48 e_23 ?_
            refine wp_iload_n dX10_favour_51 rfl ?_
            refine wp_bipush dX10_favour_52 bp_6 ?_
            refine wp_imul dX10_favour_54 ?_
            refine wp_iload_n dX10_favour_55 rfl ?_
            refine wp_iadd dX10_favour_56 ?_
            replace k := ok_bind k
            obtain ⟨v_24, e_25, k⟩ := k
            refine wq_aI dX10_favour_57 e_25 ?_
            refine wp_istore dX10_favour_58 (by decide) (L1 := [_, _, _, _, _]) rfl ?_
            refine wp_aload_n dX10_favour_60 rfl ?_
            replace k := ok_bind k
            obtain ⟨p_26, e_27, k⟩ := k
            refine wq_getR fl_X10_16 (Or.inl ⟨_, rfl⟩) dX10_favour_61 e_27 ?_
            replace k := ok_bind k
            obtain ⟨p_28, e_29, k⟩ := k
            refine wq_getR fl_X10_117 (Or.inr ⟨_, rfl⟩) dX10_favour_64 e_29 ?_
            refine wp_iload_n dX10_favour_67 rfl ?_
            refine wp_bipush dX10_favour_68 bp_6 ?_
            refine wp_imul dX10_favour_70 ?_
            refine wp_iload_n dX10_favour_71 rfl ?_
            refine wp_iadd dX10_favour_72 ?_
            refine wp_iload_n dX10_favour_73 rfl ?_
            replace k := ok_bind k
            obtain ⟨h_30, e_31, k⟩ := k
            refine wq_sI dX10_favour_74 e_31 ?_
            refine wp_aload_n dX10_favour_75 rfl ?_
            refine wp_iload dX10_favour_76 rfl ?_
            replace k := ok_bind k
            obtain ⟨u, e_32, k⟩ := k
            refine wp_callV1 (N := M_X10_accept) (ci := 10) mf_X10_accept mi_X10_accept me_X10_accept ml_X10_110 dX10_favour_78 (ckO_e e_32) mv_X10_accept (by exact Nat.le_of_ble_eq_true rfl) (c_X10_accept (Nat.le_trans (by decide) he) (ok_mono (ok_bind2 k) fun z_34 h_33 k => ?_))
            try dsimp only at k
            refine wp_iret rfl rfl dX10_favour_81 ?_
            exact (ok_some k :)
          · replace k := ok_t c_19 k
            refine wp_aload_n dX10_favour_37 rfl ?_
            refine wp_bipush dX10_favour_38 bp_m2 ?_
            replace k := ok_bind k
            obtain ⟨u, e_35, k⟩ := k
            refine wp_callV1 (N := M_X10_refuse) (ci := 10) mf_X10_refuse mi_X10_refuse me_X10_refuse ml_X10_96 dX10_favour_40 (ckO_e e_35) mv_X10_refuse (by exact Nat.le_of_ble_eq_true rfl) (c_X10_refuse (Nat.le_trans (by decide) he) (ok_mono (ok_bind2 k) fun z_37 h_36 k => ?_))
            try dsimp only at k
            refine wp_iret rfl rfl dX10_favour_43 ?_
            exact (ok_some k :)
        · replace k := ok_f c_13 k
          refine wp_aload_n dX10_favour_20 rfl ?_
          refine wp_iconst dX10_favour_21 ic_m1 ?_
          replace k := ok_bind k
          obtain ⟨u, e_38, k⟩ := k
          refine wp_callV1 (N := M_X10_refuse) (ci := 10) mf_X10_refuse mi_X10_refuse me_X10_refuse ml_X10_96 dX10_favour_22 (ckO_e e_38) mv_X10_refuse (by exact Nat.le_of_ble_eq_true rfl) (c_X10_refuse (Nat.le_trans (by decide) he) (ok_mono (ok_bind2 k) fun z_40 h_39 k => ?_))
          try dsimp only at k
          refine wp_iret rfl rfl dX10_favour_25 ?_
          exact (ok_some k :)
theorem c_X10_favour {S : SH} {d : Nat} {K : Option Value → AH → Prop} (hd : 1 ≤ d)  {r0 : Nat} {x1 : Int32} {x2 : Int32} {x3 : Int32} {h : AH} (k : ok (f_X10_favour S r0 x1 x2 x3 h) (fun w h' => K (some (.int w)) h')) : CP S M_X10_favour d 0 0 [.ref r0, .int x1, .int x2, .int x3] h K := cp_of (by decide) (fun _ _ => trivial) (fun _ => Nat.le_of_ble_eq_true rfl) (s_X10_favour hd  k)
def f_X10_of (S : SH) (r0 : Nat) (x1 : Int32) (x2 : Int32) (h : AH) : Option (Int32 × AH) :=
  (gR S h r0 10 2).bind fun p_1 =>
  (ckO S h p_1 6).bind fun _ =>
  (f_X6_hasBird S p_1 x1 h).bind fun z => match z with
  | (z_5, h_4) =>
  if z_5 = (0 : Int32) then
    some ((-1 : Int32), h_4)
  else
    if x2 < (0 : Int32) then
      some ((-1 : Int32), h_4)
    else
      if x2 < (21 : Int32) then
        if x2 = (0 : Int32) then
          (gR S h_4 r0 10 2).bind fun p_65 =>
          (gR S h_4 p_65 6 0).bind fun p_67 =>
          (gR S h_4 p_67 7 0).bind fun p_69 =>
          (aI S h_4 p_69 x1).bind fun v_71 =>
          some (v_71, h_4)
        else
          if x2 = (1 : Int32) then
            (gR S h_4 r0 10 2).bind fun p_59 =>
            (gR S h_4 p_59 6 2).bind fun p_61 =>
            (aI S h_4 p_61 x1).bind fun v_63 =>
            some (v_63, h_4)
          else
            if x2 = (2 : Int32) then
              (gR S h_4 r0 10 10).bind fun p_50 =>
              (gR S h_4 r0 10 2).bind fun p_52 =>
              (gR S h_4 p_52 6 0).bind fun p_54 =>
              (ckO S h_4 p_50 1).bind fun _ =>
              (f_X1_whomHears S p_50 p_54 x1 h_4).bind fun z => match z with
              | (z_58, h_57) =>
              some (z_58, h_57)
            else
              lt ((rmI (x2 - (3 : Int32)) (6 : Int32))) fun y_12 =>
              if (9 : Int32) ≤ x2 then
                (gR S h_4 r0 10 2).bind fun p_14 =>
                (ckO S h_4 p_14 6).bind fun _ =>
                (f_X6_hasMatter S p_14 y_12 h_4).bind fun z => match z with
                | (z_18, h_17) =>
                if z_18 = (0 : Int32) then
                  some ((-1 : Int32), h_17)
                else
                  if (15 : Int32) ≤ x2 then
                    (gR S h_17 r0 10 10).bind fun p_21 =>
                    (gR S h_17 r0 10 2).bind fun p_23 =>
                    (gR S h_17 p_23 6 0).bind fun p_25 =>
                    (gR S h_17 r0 10 2).bind fun p_27 =>
                    (ckO S h_17 p_27 6).bind fun _ =>
                    (f_X6_lawInForce S p_27 h_17).bind fun z => match z with
                    | (z_31, h_30) =>
                    (ckO S h_30 p_21 1).bind fun _ =>
                    (f_X1_vote S p_21 p_25 x1 y_12 z_31 h_30).bind fun z => match z with
                    | (z_34, h_33) =>
                    some (z_34, h_33)
                  else
                    (gR S h_17 r0 10 10).bind fun p_35 =>
                    (gR S h_17 r0 10 2).bind fun p_37 =>
                    (gR S h_17 p_37 6 0).bind fun p_39 =>
                    (ckO S h_17 p_35 1).bind fun _ =>
                    (f_X1_swayed S p_35 p_39 x1 y_12 h_17).bind fun z => match z with
                    | (z_43, h_42) =>
                    some (z_43, h_42)
              else
                (gR S h_4 r0 10 2).bind fun p_44 =>
                (gR S h_4 p_44 6 3).bind fun p_46 =>
                (aI S h_4 p_46 ((x1 * (6 : Int32)) + y_12)).bind fun v_48 =>
                some (v_48, h_4)
      else
        some ((-1 : Int32), h_4)
set_option maxHeartbeats 8000000 in
set_option maxRecDepth 20000 in
theorem s_X10_of {S : SH} {d cb sb : Nat} {Q : Option Value → AH → Prop} (hd : 4 ≤ d)  {r0 : Nat} {x1 : Int32} {x2 : Int32} {h : AH} (k : ok (f_X10_of S r0 x1 x2 h) (fun w h' => Q (some (.int w)) h')) : WP S M_X10_of d cb sb Q 0 [.ref r0, .int x1, .int x2, JK] [] h := by
  obtain ⟨d, rfl, he⟩ := dp (L := 3) hd
  unfold f_X10_of at k
  refine wp_aload_n dX10_of_0 rfl ?_
  replace k := ok_bind k
  obtain ⟨p_1, e_2, k⟩ := k
  refine wq_getR fl_X10_16 (Or.inl ⟨_, rfl⟩) dX10_of_1 e_2 ?_
  refine wp_iload_n dX10_of_4 rfl ?_
  replace k := ok_bind k
  obtain ⟨u, e_3, k⟩ := k
  refine wp_callV1 (N := M_X6_hasBird) (ci := 6) mf_X6_hasBird mi_X6_hasBird me_X6_hasBird ml_X10_113 dX10_of_5 (ckO_e e_3) mv_X6_hasBird (by exact Nat.le_of_ble_eq_true rfl) (c_X6_hasBird (Nat.le_trans (by decide) he) (ok_mono (ok_bind2 k) fun z_5 h_4 k => ?_))
  try dsimp only at k
  refine wp_if_eq 21 dX10_of_8 (by decide) (fun c_6 => ?_) (fun c_6 => ?_)
  · replace k := ok_t c_6 k
    refine wp_iconst dX10_of_21 ic_m1 ?_
    refine wp_iret rfl rfl dX10_of_22 ?_
    exact (ok_some k :)
  · replace k := ok_f c_6 k
    refine wp_iload_n dX10_of_11 rfl ?_
    refine wp_if_lt 21 dX10_of_12 (by decide) (fun c_7 => ?_) (fun c_7 => ?_)
    · replace k := ok_t c_7 k
      refine wp_iconst dX10_of_21 ic_m1 ?_
      refine wp_iret rfl rfl dX10_of_22 ?_
      exact (ok_some k :)
    · replace k := ok_f c_7 k
      refine wp_iload_n dX10_of_15 rfl ?_
      refine wp_bipush dX10_of_16 bp_21 ?_
      refine wp_icmp_lt 23 dX10_of_18 (by decide) (fun c_8 => ?_) (fun c_8 => ?_)
      · replace k := ok_t c_8 k
        refine wp_iload_n dX10_of_23 rfl ?_
        refine wp_if_ne 40 dX10_of_24 (by decide) (fun c_9 => ?_) (fun c_9 => ?_)
        · replace k := ok_f c_9 k
          refine wp_iload_n dX10_of_40 rfl ?_
          refine wp_iconst dX10_of_41 ic_1 ?_
          refine wp_icmp_ne 55 dX10_of_42 (by decide) (fun c_10 => ?_) (fun c_10 => ?_)
          · replace k := ok_f c_10 k
            refine wp_iload_n dX10_of_55 rfl ?_
            refine wp_iconst dX10_of_56 ic_2 ?_
            refine wp_icmp_ne 76 dX10_of_57 (by decide) (fun c_11 => ?_) (fun c_11 => ?_)
            · replace k := ok_f c_11 k
              refine wp_iload_n dX10_of_76 rfl ?_
              refine wp_iconst dX10_of_77 ic_3 ?_
              refine wp_isub dX10_of_78 ?_
              refine wp_bipush dX10_of_79 bp_6 ?_
              refine wp_irem dX10_of_81 (by decide) ?_
              replace k := ok_lt k
              refine wp_istore_n dX10_of_82 (by decide) (L1 := [_, _, _, _]) rfl ?_
              refine wp_iload_n dX10_of_83 rfl ?_
              refine wp_bipush dX10_of_84 bp_9 ?_
              refine wp_icmp_ge 104 dX10_of_86 (by decide) (fun c_13 => ?_) (fun c_13 => ?_)
              · replace k := ok_t c_13 k
                refine wp_aload_n dX10_of_104 rfl ?_
                replace k := ok_bind k
                obtain ⟨p_14, e_15, k⟩ := k
                refine wq_getR fl_X10_16 (Or.inl ⟨_, rfl⟩) dX10_of_105 e_15 ?_
                refine wp_iload_n dX10_of_108 rfl ?_
                replace k := ok_bind k
                obtain ⟨u, e_16, k⟩ := k
                refine wp_callV1 (N := M_X6_hasMatter) (ci := 6) mf_X6_hasMatter mi_X6_hasMatter me_X6_hasMatter ml_X10_133 dX10_of_109 (ckO_e e_16) mv_X6_hasMatter (by exact Nat.le_of_ble_eq_true rfl) (c_X6_hasMatter (Nat.le_trans (by decide) he) (ok_mono (ok_bind2 k) fun z_18 h_17 k => ?_))
                try dsimp only at k
                refine wp_if_ne 117 dX10_of_112 (by decide) (fun c_19 => ?_) (fun c_19 => ?_)
                · replace k := ok_f c_19 k
                  refine wp_iload_n dX10_of_117 rfl ?_
                  refine wp_bipush dX10_of_118 bp_15 ?_
                  refine wp_icmp_ge 140 dX10_of_120 (by decide) (fun c_20 => ?_) (fun c_20 => ?_)
                  · replace k := ok_t c_20 k
                    refine wp_aload_n dX10_of_140 rfl ?_
                    replace k := ok_bind k
                    obtain ⟨p_21, e_22, k⟩ := k
                    refine wq_getR fl_X10_63 (Or.inl ⟨_, rfl⟩) dX10_of_141 e_22 ?_
                    refine wp_aload_n dX10_of_144 rfl ?_
                    replace k := ok_bind k
                    obtain ⟨p_23, e_24, k⟩ := k
                    refine wq_getR fl_X10_16 (Or.inl ⟨_, rfl⟩) dX10_of_145 e_24 ?_
                    replace k := ok_bind k
                    obtain ⟨p_25, e_26, k⟩ := k
                    refine wq_getR fl_X10_120 (Or.inl ⟨_, rfl⟩) dX10_of_148 e_26 ?_
                    refine wp_iload_n dX10_of_151 rfl ?_
                    refine wp_iload_n dX10_of_152 rfl ?_
                    refine wp_aload_n dX10_of_153 rfl ?_
                    replace k := ok_bind k
                    obtain ⟨p_27, e_28, k⟩ := k
                    refine wq_getR fl_X10_16 (Or.inl ⟨_, rfl⟩) dX10_of_154 e_28 ?_
                    replace k := ok_bind k
                    obtain ⟨u, e_29, k⟩ := k
                    refine wp_callV0 (N := M_X6_lawInForce) (ci := 6) mf_X6_lawInForce mi_X6_lawInForce me_X6_lawInForce ml_X10_140 dX10_of_157 (ckO_e e_29) mv_X6_lawInForce (by exact Nat.le_of_ble_eq_true rfl) (c_X6_lawInForce (Nat.le_trans (by decide) he) (ok_mono (ok_bind2 k) fun z_31 h_30 k => ?_))
                    try dsimp only at k
                    replace k := ok_bind k
                    obtain ⟨u, e_32, k⟩ := k
                    refine wp_callV4 (N := M_X1_vote) (ci := 1) mf_X1_vote mi_X1_vote me_X1_vote ml_X10_144 dX10_of_160 (ckO_e e_32) mv_X1_vote (by exact Nat.le_of_ble_eq_true rfl) (c_X1_vote (Nat.le_trans (by decide) he) (ok_mono (ok_bind2 k) fun z_34 h_33 k => ?_))
                    try dsimp only at k
                    refine wp_iret rfl rfl dX10_of_163 ?_
                    exact (ok_some k :)
                  · replace k := ok_f c_20 k
                    refine wp_aload_n dX10_of_123 rfl ?_
                    replace k := ok_bind k
                    obtain ⟨p_35, e_36, k⟩ := k
                    refine wq_getR fl_X10_63 (Or.inl ⟨_, rfl⟩) dX10_of_124 e_36 ?_
                    refine wp_aload_n dX10_of_127 rfl ?_
                    replace k := ok_bind k
                    obtain ⟨p_37, e_38, k⟩ := k
                    refine wq_getR fl_X10_16 (Or.inl ⟨_, rfl⟩) dX10_of_128 e_38 ?_
                    replace k := ok_bind k
                    obtain ⟨p_39, e_40, k⟩ := k
                    refine wq_getR fl_X10_120 (Or.inl ⟨_, rfl⟩) dX10_of_131 e_40 ?_
                    refine wp_iload_n dX10_of_134 rfl ?_
                    refine wp_iload_n dX10_of_135 rfl ?_
                    replace k := ok_bind k
                    obtain ⟨u, e_41, k⟩ := k
                    refine wp_callV3 (N := M_X1_swayed) (ci := 1) mf_X1_swayed mi_X1_swayed me_X1_swayed ml_X10_136 dX10_of_136 (ckO_e e_41) mv_X1_swayed (by exact Nat.le_of_ble_eq_true rfl) (c_X1_swayed (Nat.le_trans (by decide) he) (ok_mono (ok_bind2 k) fun z_43 h_42 k => ?_))
                    try dsimp only at k
                    refine wp_iret rfl rfl dX10_of_139 ?_
                    exact (ok_some k :)
                · replace k := ok_t c_19 k
                  refine wp_iconst dX10_of_115 ic_m1 ?_
                  refine wp_iret rfl rfl dX10_of_116 ?_
                  exact (ok_some k :)
              · replace k := ok_f c_13 k
                refine wp_aload_n dX10_of_89 rfl ?_
                replace k := ok_bind k
                obtain ⟨p_44, e_45, k⟩ := k
                refine wq_getR fl_X10_16 (Or.inl ⟨_, rfl⟩) dX10_of_90 e_45 ?_
                replace k := ok_bind k
                obtain ⟨p_46, e_47, k⟩ := k
                refine wq_getR fl_X10_117 (Or.inr ⟨_, rfl⟩) dX10_of_93 e_47 ?_
                refine wp_iload_n dX10_of_96 rfl ?_
                refine wp_bipush dX10_of_97 bp_6 ?_
                refine wp_imul dX10_of_99 ?_
                refine wp_iload_n dX10_of_100 rfl ?_
                refine wp_iadd dX10_of_101 ?_
                replace k := ok_bind k
                obtain ⟨v_48, e_49, k⟩ := k
                refine wq_aI dX10_of_102 e_49 ?_
                refine wp_iret rfl rfl dX10_of_103 ?_
                exact (ok_some k :)
            · replace k := ok_t c_11 k
              refine wp_aload_n dX10_of_60 rfl ?_
              replace k := ok_bind k
              obtain ⟨p_50, e_51, k⟩ := k
              refine wq_getR fl_X10_63 (Or.inl ⟨_, rfl⟩) dX10_of_61 e_51 ?_
              refine wp_aload_n dX10_of_64 rfl ?_
              replace k := ok_bind k
              obtain ⟨p_52, e_53, k⟩ := k
              refine wq_getR fl_X10_16 (Or.inl ⟨_, rfl⟩) dX10_of_65 e_53 ?_
              replace k := ok_bind k
              obtain ⟨p_54, e_55, k⟩ := k
              refine wq_getR fl_X10_120 (Or.inl ⟨_, rfl⟩) dX10_of_68 e_55 ?_
              refine wp_iload_n dX10_of_71 rfl ?_
              replace k := ok_bind k
              obtain ⟨u, e_56, k⟩ := k
              refine wp_callV2 (N := M_X1_whomHears) (ci := 1) mf_X1_whomHears mi_X1_whomHears me_X1_whomHears ml_X10_129 dX10_of_72 (ckO_e e_56) mv_X1_whomHears (by exact Nat.le_of_ble_eq_true rfl) (c_X1_whomHears (Nat.le_trans (by decide) he) (ok_mono (ok_bind2 k) fun z_58 h_57 k => ?_))
              try dsimp only at k
              refine wp_iret rfl rfl dX10_of_75 ?_
              exact (ok_some k :)
          · replace k := ok_t c_10 k
            refine wp_aload_n dX10_of_45 rfl ?_
            replace k := ok_bind k
            obtain ⟨p_59, e_60, k⟩ := k
            refine wq_getR fl_X10_16 (Or.inl ⟨_, rfl⟩) dX10_of_46 e_60 ?_
            replace k := ok_bind k
            obtain ⟨p_61, e_62, k⟩ := k
            refine wq_getR fl_X10_126 (Or.inr ⟨_, rfl⟩) dX10_of_49 e_62 ?_
            refine wp_iload_n dX10_of_52 rfl ?_
            replace k := ok_bind k
            obtain ⟨v_63, e_64, k⟩ := k
            refine wq_aI dX10_of_53 e_64 ?_
            refine wp_iret rfl rfl dX10_of_54 ?_
            exact (ok_some k :)
        · replace k := ok_t c_9 k
          refine wp_aload_n dX10_of_27 rfl ?_
          replace k := ok_bind k
          obtain ⟨p_65, e_66, k⟩ := k
          refine wq_getR fl_X10_16 (Or.inl ⟨_, rfl⟩) dX10_of_28 e_66 ?_
          replace k := ok_bind k
          obtain ⟨p_67, e_68, k⟩ := k
          refine wq_getR fl_X10_120 (Or.inl ⟨_, rfl⟩) dX10_of_31 e_68 ?_
          replace k := ok_bind k
          obtain ⟨p_69, e_70, k⟩ := k
          refine wq_getR fl_X10_123 (Or.inr ⟨_, rfl⟩) dX10_of_34 e_70 ?_
          refine wp_iload_n dX10_of_37 rfl ?_
          replace k := ok_bind k
          obtain ⟨v_71, e_72, k⟩ := k
          refine wq_aI dX10_of_38 e_72 ?_
          refine wp_iret rfl rfl dX10_of_39 ?_
          exact (ok_some k :)
      · replace k := ok_f c_8 k
        refine wp_iconst dX10_of_21 ic_m1 ?_
        refine wp_iret rfl rfl dX10_of_22 ?_
        exact (ok_some k :)
theorem c_X10_of {S : SH} {d : Nat} {K : Option Value → AH → Prop} (hd : 4 ≤ d)  {r0 : Nat} {x1 : Int32} {x2 : Int32} {h : AH} (k : ok (f_X10_of S r0 x1 x2 h) (fun w h' => K (some (.int w)) h')) : CP S M_X10_of d 0 0 [.ref r0, .int x1, .int x2] h K := cp_of (by decide) (fun _ _ => trivial) (fun _ => Nat.le_of_ble_eq_true rfl) (s_X10_of hd  k)
def f_X10_matter (S : SH) (r0 : Nat) (x1 : Int32) (x2 : Int32) (h : AH) : Option (Int32 × AH) :=
  if x1 < (1 : Int32) then
    (ckO S h r0 10).bind fun _ =>
    (f_X10_refuse S r0 (-1 : Int32) h).bind fun z => match z with
    | (z_4, h_3) =>
    some (z_4, h_3)
  else
    if (9 : Int32) < x1 then
      (ckO S h r0 10).bind fun _ =>
      (f_X10_refuse S r0 (-1 : Int32) h).bind fun z => match z with
      | (z_8, h_7) =>
      some (z_8, h_7)
    else
      if x2 < (0 : Int32) then
        (ckO S h r0 10).bind fun _ =>
        (f_X10_refuse S r0 (-1 : Int32) h).bind fun z => match z with
        | (z_12, h_11) =>
        some (z_12, h_11)
      else
        if x2 ≤ (9 : Int32) then
          (gR S h r0 10 2).bind fun p_14 =>
          (gI S h p_14 6 4).bind fun v_16 =>
          if v_16 < (6 : Int32) then
            (gR S h r0 10 4).bind fun p_19 =>
            (ckO S h p_19 5).bind fun _ =>
            (f_X5_clear S p_19 h).bind fun z => match z with
            | (_, h_22) =>
            (gR S h_22 r0 10 2).bind fun p_24 =>
            (ckO S h_22 p_24 6).bind fun _ =>
            (f_X6_addMatter S p_24 x1 x2 h_22).bind fun z => match z with
            | (z_28, h_27) =>
            (ckO S h_27 r0 10).bind fun _ =>
            (f_X10_accept S r0 z_28 h_27).bind fun z => match z with
            | (z_31, h_30) =>
            some (z_31, h_30)
          else
            (ckO S h r0 10).bind fun _ =>
            (f_X10_refuse S r0 (-5 : Int32) h).bind fun z => match z with
            | (z_34, h_33) =>
            some (z_34, h_33)
        else
          (ckO S h r0 10).bind fun _ =>
          (f_X10_refuse S r0 (-1 : Int32) h).bind fun z => match z with
          | (z_37, h_36) =>
          some (z_37, h_36)
set_option maxHeartbeats 8000000 in
set_option maxRecDepth 20000 in
theorem s_X10_matter {S : SH} {d cb sb : Nat} {Q : Option Value → AH → Prop} (hd : 2 ≤ d)  {r0 : Nat} {x1 : Int32} {x2 : Int32} {h : AH} (k : ok (f_X10_matter S r0 x1 x2 h) (fun w h' => Q (some (.int w)) h')) : WP S M_X10_matter d cb sb Q 0 [.ref r0, .int x1, .int x2] [] h := by
  obtain ⟨d, rfl, he⟩ := dp (L := 1) hd
  unfold f_X10_matter at k
  refine wp_iload_n dX10_matter_0 rfl ?_
  refine wp_iconst dX10_matter_1 ic_1 ?_
  refine wp_icmp_lt 21 dX10_matter_2 (by decide) (fun c_1 => ?_) (fun c_1 => ?_)
  · replace k := ok_t c_1 k
    refine wp_aload_n dX10_matter_21 rfl ?_
    refine wp_iconst dX10_matter_22 ic_m1 ?_
    replace k := ok_bind k
    obtain ⟨u, e_2, k⟩ := k
    refine wp_callV1 (N := M_X10_refuse) (ci := 10) mf_X10_refuse mi_X10_refuse me_X10_refuse ml_X10_96 dX10_matter_23 (ckO_e e_2) mv_X10_refuse (by exact Nat.le_of_ble_eq_true rfl) (c_X10_refuse (Nat.le_trans (by decide) he) (ok_mono (ok_bind2 k) fun z_4 h_3 k => ?_))
    try dsimp only at k
    refine wp_iret rfl rfl dX10_matter_26 ?_
    exact (ok_some k :)
  · replace k := ok_f c_1 k
    refine wp_iload_n dX10_matter_5 rfl ?_
    refine wp_bipush dX10_matter_6 bp_9 ?_
    refine wp_icmp_gt 21 dX10_matter_8 (by decide) (fun c_5 => ?_) (fun c_5 => ?_)
    · replace k := ok_t c_5 k
      refine wp_aload_n dX10_matter_21 rfl ?_
      refine wp_iconst dX10_matter_22 ic_m1 ?_
      replace k := ok_bind k
      obtain ⟨u, e_6, k⟩ := k
      refine wp_callV1 (N := M_X10_refuse) (ci := 10) mf_X10_refuse mi_X10_refuse me_X10_refuse ml_X10_96 dX10_matter_23 (ckO_e e_6) mv_X10_refuse (by exact Nat.le_of_ble_eq_true rfl) (c_X10_refuse (Nat.le_trans (by decide) he) (ok_mono (ok_bind2 k) fun z_8 h_7 k => ?_))
      try dsimp only at k
      refine wp_iret rfl rfl dX10_matter_26 ?_
      exact (ok_some k :)
    · replace k := ok_f c_5 k
      refine wp_iload_n dX10_matter_11 rfl ?_
      refine wp_if_lt 21 dX10_matter_12 (by decide) (fun c_9 => ?_) (fun c_9 => ?_)
      · replace k := ok_t c_9 k
        refine wp_aload_n dX10_matter_21 rfl ?_
        refine wp_iconst dX10_matter_22 ic_m1 ?_
        replace k := ok_bind k
        obtain ⟨u, e_10, k⟩ := k
        refine wp_callV1 (N := M_X10_refuse) (ci := 10) mf_X10_refuse mi_X10_refuse me_X10_refuse ml_X10_96 dX10_matter_23 (ckO_e e_10) mv_X10_refuse (by exact Nat.le_of_ble_eq_true rfl) (c_X10_refuse (Nat.le_trans (by decide) he) (ok_mono (ok_bind2 k) fun z_12 h_11 k => ?_))
        try dsimp only at k
        refine wp_iret rfl rfl dX10_matter_26 ?_
        exact (ok_some k :)
      · replace k := ok_f c_9 k
        refine wp_iload_n dX10_matter_15 rfl ?_
        refine wp_bipush dX10_matter_16 bp_9 ?_
        refine wp_icmp_le 27 dX10_matter_18 (by decide) (fun c_13 => ?_) (fun c_13 => ?_)
        · replace k := ok_t c_13 k
          refine wp_aload_n dX10_matter_27 rfl ?_
          replace k := ok_bind k
          obtain ⟨p_14, e_15, k⟩ := k
          refine wq_getR fl_X10_16 (Or.inl ⟨_, rfl⟩) dX10_matter_28 e_15 ?_
          replace k := ok_bind k
          obtain ⟨v_16, e_17, k⟩ := k
          refine wq_getI fl_X10_148 (Or.inl rfl) dX10_matter_31 e_17 ?_
          refine wp_bipush dX10_matter_34 bp_6 ?_
          refine wp_icmp_lt 46 dX10_matter_36 (by decide) (fun c_18 => ?_) (fun c_18 => ?_)
          · replace k := ok_t c_18 k
            refine wp_aload_n dX10_matter_46 rfl ?_
            replace k := ok_bind k
            obtain ⟨p_19, e_20, k⟩ := k
            refine wq_getR fl_X10_27 (Or.inl ⟨_, rfl⟩) dX10_matter_47 e_20 ?_
            replace k := ok_bind k
            obtain ⟨u, e_21, k⟩ := k
            refine wp_callV0 (N := M_X5_clear) (ci := 5) mf_X5_clear mi_X5_clear me_X5_clear ml_X10_103 dX10_matter_50 (ckO_e e_21) mv_X5_clear (by exact Nat.le_of_ble_eq_true rfl) (c_X5_clear (Nat.le_trans (by decide) he) (ok_mono (ok_bind2 k) fun _ h_22 k => ?_))
            try dsimp only at k
            refine wp_aload_n dX10_matter_53 rfl ?_
            refine wp_aload_n dX10_matter_54 rfl ?_
            replace k := ok_bind k
            obtain ⟨p_24, e_25, k⟩ := k
            refine wq_getR fl_X10_16 (Or.inl ⟨_, rfl⟩) dX10_matter_55 e_25 ?_
            refine wp_iload_n dX10_matter_58 rfl ?_
            refine wp_iload_n dX10_matter_59 rfl ?_
            replace k := ok_bind k
            obtain ⟨u, e_26, k⟩ := k
            refine wp_callV2 (N := M_X6_addMatter) (ci := 6) mf_X6_addMatter mi_X6_addMatter me_X6_addMatter ml_X10_151 dX10_matter_60 (ckO_e e_26) mv_X6_addMatter (by exact Nat.le_of_ble_eq_true rfl) (c_X6_addMatter (Nat.le_trans (by decide) he) (ok_mono (ok_bind2 k) fun z_28 h_27 k => ?_))
            try dsimp only at k
            replace k := ok_bind k
            obtain ⟨u, e_29, k⟩ := k
            refine wp_callV1 (N := M_X10_accept) (ci := 10) mf_X10_accept mi_X10_accept me_X10_accept ml_X10_110 dX10_matter_63 (ckO_e e_29) mv_X10_accept (by exact Nat.le_of_ble_eq_true rfl) (c_X10_accept (Nat.le_trans (by decide) he) (ok_mono (ok_bind2 k) fun z_31 h_30 k => ?_))
            try dsimp only at k
            refine wp_iret rfl rfl dX10_matter_66 ?_
            exact (ok_some k :)
          · replace k := ok_f c_18 k
            refine wp_aload_n dX10_matter_39 rfl ?_
            refine wp_bipush dX10_matter_40 bp_m5 ?_
            replace k := ok_bind k
            obtain ⟨u, e_32, k⟩ := k
            refine wp_callV1 (N := M_X10_refuse) (ci := 10) mf_X10_refuse mi_X10_refuse me_X10_refuse ml_X10_96 dX10_matter_42 (ckO_e e_32) mv_X10_refuse (by exact Nat.le_of_ble_eq_true rfl) (c_X10_refuse (Nat.le_trans (by decide) he) (ok_mono (ok_bind2 k) fun z_34 h_33 k => ?_))
            try dsimp only at k
            refine wp_iret rfl rfl dX10_matter_45 ?_
            exact (ok_some k :)
        · replace k := ok_f c_13 k
          refine wp_aload_n dX10_matter_21 rfl ?_
          refine wp_iconst dX10_matter_22 ic_m1 ?_
          replace k := ok_bind k
          obtain ⟨u, e_35, k⟩ := k
          refine wp_callV1 (N := M_X10_refuse) (ci := 10) mf_X10_refuse mi_X10_refuse me_X10_refuse ml_X10_96 dX10_matter_23 (ckO_e e_35) mv_X10_refuse (by exact Nat.le_of_ble_eq_true rfl) (c_X10_refuse (Nat.le_trans (by decide) he) (ok_mono (ok_bind2 k) fun z_37 h_36 k => ?_))
          try dsimp only at k
          refine wp_iret rfl rfl dX10_matter_26 ?_
          exact (ok_some k :)
theorem c_X10_matter {S : SH} {d : Nat} {K : Option Value → AH → Prop} (hd : 2 ≤ d)  {r0 : Nat} {x1 : Int32} {x2 : Int32} {h : AH} (k : ok (f_X10_matter S r0 x1 x2 h) (fun w h' => K (some (.int w)) h')) : CP S M_X10_matter d 0 0 [.ref r0, .int x1, .int x2] h K := cp_of (by decide) (fun _ _ => trivial) (fun _ => Nat.le_of_ble_eq_true rfl) (s_X10_matter hd  k)
def f_X10_at (S : SH) (r0 : Nat) (x1 : Int32) (x2 : Int32) (h : AH) : Option (Int32 × AH) :=
  (gR S h r0 10 2).bind fun p_1 =>
  (ckO S h p_1 6).bind fun _ =>
  (f_X6_hasMatter S p_1 x1 h).bind fun z => match z with
  | (z_5, h_4) =>
  if z_5 = (0 : Int32) then
    some ((-1 : Int32), h_4)
  else
    if x2 = (0 : Int32) then
      (gR S h_4 r0 10 2).bind fun p_8 =>
      (gR S h_4 p_8 6 5).bind fun p_10 =>
      (aI S h_4 p_10 x1).bind fun v_12 =>
      some (v_12, h_4)
    else
    if x2 = (1 : Int32) then
      (gR S h_4 r0 10 2).bind fun p_15 =>
      (gR S h_4 p_15 6 6).bind fun p_17 =>
      (aI S h_4 p_17 x1).bind fun v_19 =>
      some (v_19, h_4)
    else
    if x2 = (2 : Int32) then
      (gR S h_4 r0 10 2).bind fun p_22 =>
      (gR S h_4 p_22 6 0).bind fun p_24 =>
      (gR S h_4 p_24 7 1).bind fun p_26 =>
      (aI S h_4 p_26 x1).bind fun v_28 =>
      some (v_28, h_4)
    else
    if x2 = (3 : Int32) then
      (gR S h_4 r0 10 10).bind fun p_31 =>
      (gR S h_4 r0 10 2).bind fun p_33 =>
      (gR S h_4 p_33 6 0).bind fun p_35 =>
      (ckO S h_4 p_31 1).bind fun _ =>
      (f_X1_timeTaken S p_31 p_35 x1 h_4).bind fun z => match z with
      | (z_39, h_38) =>
      some (z_39, h_38)
    else
    if x2 = (4 : Int32) then
      (gR S h_4 r0 10 10).bind fun p_41 =>
      (gR S h_4 r0 10 2).bind fun p_43 =>
      (gR S h_4 p_43 6 0).bind fun p_45 =>
      (gR S h_4 r0 10 2).bind fun p_47 =>
      (ckO S h_4 p_47 6).bind fun _ =>
      (f_X6_lawInForce S p_47 h_4).bind fun z => match z with
      | (z_51, h_50) =>
      (ckO S h_50 p_41 1).bind fun _ =>
      (f_X1_poll S p_41 p_45 x1 z_51 h_50).bind fun z => match z with
      | (_, h_53) =>
      (gR S h_53 r0 10 10).bind fun p_55 =>
      (gI S h_53 p_55 1 2).bind fun v_57 =>
      some (v_57, h_53)
    else
    if x2 = (5 : Int32) then
      (gR S h_4 r0 10 10).bind fun p_60 =>
      (gR S h_4 r0 10 2).bind fun p_62 =>
      (gR S h_4 p_62 6 0).bind fun p_64 =>
      (gR S h_4 r0 10 2).bind fun p_66 =>
      (ckO S h_4 p_66 6).bind fun _ =>
      (f_X6_lawInForce S p_66 h_4).bind fun z => match z with
      | (z_70, h_69) =>
      (ckO S h_69 p_60 1).bind fun _ =>
      (f_X1_poll S p_60 p_64 x1 z_70 h_69).bind fun z => match z with
      | (_, h_72) =>
      (gR S h_72 r0 10 10).bind fun p_74 =>
      (gI S h_72 p_74 1 3).bind fun v_76 =>
      some (v_76, h_72)
    else
    if x2 = (6 : Int32) then
      (gR S h_4 r0 10 7).bind fun p_79 =>
      (gR S h_4 r0 10 2).bind fun p_81 =>
      (gR S h_4 p_81 6 0).bind fun p_83 =>
      (ckO S h_4 p_79 7).bind fun _ =>
      (f_X7_become S p_79 p_83 h_4).bind fun z => match z with
      | (_, h_86) =>
      (gR S h_86 r0 10 10).bind fun p_88 =>
      (gR S h_86 r0 10 7).bind fun p_90 =>
      (ckO S h_86 p_88 1).bind fun _ =>
      (f_X1_dividing S p_88 p_90 x1 h_86).bind fun z => match z with
      | (z_94, h_93) =>
      if z_94 < (0 : Int32) then
        some ((0 : Int32), h_93)
      else
        some ((1 : Int32), h_93)
    else
    some ((-1 : Int32), h_4)
set_option maxHeartbeats 8000000 in
set_option maxRecDepth 20000 in
theorem s_X10_at {S : SH} {d cb sb : Nat} {Q : Option Value → AH → Prop} (hd : 5 ≤ d)  {r0 : Nat} {x1 : Int32} {x2 : Int32} {h : AH} (k : ok (f_X10_at S r0 x1 x2 h) (fun w h' => Q (some (.int w)) h')) : WP S M_X10_at d cb sb Q 0 [.ref r0, .int x1, .int x2] [] h := by
  obtain ⟨d, rfl, he⟩ := dp (L := 4) hd
  unfold f_X10_at at k
  refine wp_aload_n dX10_at_0 rfl ?_
  replace k := ok_bind k
  obtain ⟨p_1, e_2, k⟩ := k
  refine wq_getR fl_X10_16 (Or.inl ⟨_, rfl⟩) dX10_at_1 e_2 ?_
  refine wp_iload_n dX10_at_4 rfl ?_
  replace k := ok_bind k
  obtain ⟨u, e_3, k⟩ := k
  refine wp_callV1 (N := M_X6_hasMatter) (ci := 6) mf_X6_hasMatter mi_X6_hasMatter me_X6_hasMatter ml_X10_133 dX10_at_5 (ckO_e e_3) mv_X6_hasMatter (by exact Nat.le_of_ble_eq_true rfl) (c_X6_hasMatter (Nat.le_trans (by decide) he) (ok_mono (ok_bind2 k) fun z_5 h_4 k => ?_))
  try dsimp only at k
  refine wp_if_ne 13 dX10_at_8 (by decide) (fun c_6 => ?_) (fun c_6 => ?_)
  · replace k := ok_f c_6 k
    refine wp_iload_n dX10_at_13 rfl ?_
    refine wp_case (0 : Int32) (fun c_7 => ?_) (fun c_7 => ?_)
    · refine wp_tabIn 56 dX10_at_14 (by rw [c_7]; decide) (by rw [c_7]; decide) (by rw [c_7]; rfl) (by decide) ?_
      replace k := ok_t c_7 k
      refine wp_aload_n dX10_at_56 rfl ?_
      replace k := ok_bind k
      obtain ⟨p_8, e_9, k⟩ := k
      refine wq_getR fl_X10_16 (Or.inl ⟨_, rfl⟩) dX10_at_57 e_9 ?_
      replace k := ok_bind k
      obtain ⟨p_10, e_11, k⟩ := k
      refine wq_getR fl_X10_154 (Or.inr ⟨_, rfl⟩) dX10_at_60 e_11 ?_
      refine wp_iload_n dX10_at_63 rfl ?_
      replace k := ok_bind k
      obtain ⟨v_12, e_13, k⟩ := k
      refine wq_aI dX10_at_64 e_13 ?_
      refine wp_iret rfl rfl dX10_at_65 ?_
      exact (ok_some k :)
    replace k := ok_f c_7 k
    refine wp_case (1 : Int32) (fun c_14 => ?_) (fun c_14 => ?_)
    · refine wp_tabIn 66 dX10_at_14 (by rw [c_14]; decide) (by rw [c_14]; decide) (by rw [c_14]; rfl) (by decide) ?_
      replace k := ok_t c_14 k
      refine wp_aload_n dX10_at_66 rfl ?_
      replace k := ok_bind k
      obtain ⟨p_15, e_16, k⟩ := k
      refine wq_getR fl_X10_16 (Or.inl ⟨_, rfl⟩) dX10_at_67 e_16 ?_
      replace k := ok_bind k
      obtain ⟨p_17, e_18, k⟩ := k
      refine wq_getR fl_X10_157 (Or.inr ⟨_, rfl⟩) dX10_at_70 e_18 ?_
      refine wp_iload_n dX10_at_73 rfl ?_
      replace k := ok_bind k
      obtain ⟨v_19, e_20, k⟩ := k
      refine wq_aI dX10_at_74 e_20 ?_
      refine wp_iret rfl rfl dX10_at_75 ?_
      exact (ok_some k :)
    replace k := ok_f c_14 k
    refine wp_case (2 : Int32) (fun c_21 => ?_) (fun c_21 => ?_)
    · refine wp_tabIn 76 dX10_at_14 (by rw [c_21]; decide) (by rw [c_21]; decide) (by rw [c_21]; rfl) (by decide) ?_
      replace k := ok_t c_21 k
      refine wp_aload_n dX10_at_76 rfl ?_
      replace k := ok_bind k
      obtain ⟨p_22, e_23, k⟩ := k
      refine wq_getR fl_X10_16 (Or.inl ⟨_, rfl⟩) dX10_at_77 e_23 ?_
      replace k := ok_bind k
      obtain ⟨p_24, e_25, k⟩ := k
      refine wq_getR fl_X10_120 (Or.inl ⟨_, rfl⟩) dX10_at_80 e_25 ?_
      replace k := ok_bind k
      obtain ⟨p_26, e_27, k⟩ := k
      refine wq_getR fl_X10_160 (Or.inr ⟨_, rfl⟩) dX10_at_83 e_27 ?_
      refine wp_iload_n dX10_at_86 rfl ?_
      replace k := ok_bind k
      obtain ⟨v_28, e_29, k⟩ := k
      refine wq_aI dX10_at_87 e_29 ?_
      refine wp_iret rfl rfl dX10_at_88 ?_
      exact (ok_some k :)
    replace k := ok_f c_21 k
    refine wp_case (3 : Int32) (fun c_30 => ?_) (fun c_30 => ?_)
    · refine wp_tabIn 89 dX10_at_14 (by rw [c_30]; decide) (by rw [c_30]; decide) (by rw [c_30]; rfl) (by decide) ?_
      replace k := ok_t c_30 k
      refine wp_aload_n dX10_at_89 rfl ?_
      replace k := ok_bind k
      obtain ⟨p_31, e_32, k⟩ := k
      refine wq_getR fl_X10_63 (Or.inl ⟨_, rfl⟩) dX10_at_90 e_32 ?_
      refine wp_aload_n dX10_at_93 rfl ?_
      replace k := ok_bind k
      obtain ⟨p_33, e_34, k⟩ := k
      refine wq_getR fl_X10_16 (Or.inl ⟨_, rfl⟩) dX10_at_94 e_34 ?_
      replace k := ok_bind k
      obtain ⟨p_35, e_36, k⟩ := k
      refine wq_getR fl_X10_120 (Or.inl ⟨_, rfl⟩) dX10_at_97 e_36 ?_
      refine wp_iload_n dX10_at_100 rfl ?_
      replace k := ok_bind k
      obtain ⟨u, e_37, k⟩ := k
      refine wp_callV2 (N := M_X1_timeTaken) (ci := 1) mf_X1_timeTaken mi_X1_timeTaken me_X1_timeTaken ml_X10_163 dX10_at_101 (ckO_e e_37) mv_X1_timeTaken (by exact Nat.le_of_ble_eq_true rfl) (c_X1_timeTaken (Nat.le_trans (by decide) he) (ok_mono (ok_bind2 k) fun z_39 h_38 k => ?_))
      try dsimp only at k
      refine wp_iret rfl rfl dX10_at_104 ?_
      exact (ok_some k :)
    replace k := ok_f c_30 k
    refine wp_case (4 : Int32) (fun c_40 => ?_) (fun c_40 => ?_)
    · refine wp_tabIn 105 dX10_at_14 (by rw [c_40]; decide) (by rw [c_40]; decide) (by rw [c_40]; rfl) (by decide) ?_
      replace k := ok_t c_40 k
      refine wp_aload_n dX10_at_105 rfl ?_
      replace k := ok_bind k
      obtain ⟨p_41, e_42, k⟩ := k
      refine wq_getR fl_X10_63 (Or.inl ⟨_, rfl⟩) dX10_at_106 e_42 ?_
      refine wp_aload_n dX10_at_109 rfl ?_
      replace k := ok_bind k
      obtain ⟨p_43, e_44, k⟩ := k
      refine wq_getR fl_X10_16 (Or.inl ⟨_, rfl⟩) dX10_at_110 e_44 ?_
      replace k := ok_bind k
      obtain ⟨p_45, e_46, k⟩ := k
      refine wq_getR fl_X10_120 (Or.inl ⟨_, rfl⟩) dX10_at_113 e_46 ?_
      refine wp_iload_n dX10_at_116 rfl ?_
      refine wp_aload_n dX10_at_117 rfl ?_
      replace k := ok_bind k
      obtain ⟨p_47, e_48, k⟩ := k
      refine wq_getR fl_X10_16 (Or.inl ⟨_, rfl⟩) dX10_at_118 e_48 ?_
      replace k := ok_bind k
      obtain ⟨u, e_49, k⟩ := k
      refine wp_callV0 (N := M_X6_lawInForce) (ci := 6) mf_X6_lawInForce mi_X6_lawInForce me_X6_lawInForce ml_X10_140 dX10_at_121 (ckO_e e_49) mv_X6_lawInForce (by exact Nat.le_of_ble_eq_true rfl) (c_X6_lawInForce (Nat.le_trans (by decide) he) (ok_mono (ok_bind2 k) fun z_51 h_50 k => ?_))
      try dsimp only at k
      replace k := ok_bind k
      obtain ⟨u, e_52, k⟩ := k
      refine wp_callV3 (N := M_X1_poll) (ci := 1) mf_X1_poll mi_X1_poll me_X1_poll ml_X10_166 dX10_at_124 (ckO_e e_52) mv_X1_poll (by exact Nat.le_of_ble_eq_true rfl) (c_X1_poll (Nat.le_trans (by decide) he) (ok_mono (ok_bind2 k) fun _ h_53 k => ?_))
      try dsimp only at k
      refine wp_aload_n dX10_at_127 rfl ?_
      replace k := ok_bind k
      obtain ⟨p_55, e_56, k⟩ := k
      refine wq_getR fl_X10_63 (Or.inl ⟨_, rfl⟩) dX10_at_128 e_56 ?_
      replace k := ok_bind k
      obtain ⟨v_57, e_58, k⟩ := k
      refine wq_getI fl_X10_170 (Or.inl rfl) dX10_at_131 e_58 ?_
      refine wp_iret rfl rfl dX10_at_134 ?_
      exact (ok_some k :)
    replace k := ok_f c_40 k
    refine wp_case (5 : Int32) (fun c_59 => ?_) (fun c_59 => ?_)
    · refine wp_tabIn 135 dX10_at_14 (by rw [c_59]; decide) (by rw [c_59]; decide) (by rw [c_59]; rfl) (by decide) ?_
      replace k := ok_t c_59 k
      refine wp_aload_n dX10_at_135 rfl ?_
      replace k := ok_bind k
      obtain ⟨p_60, e_61, k⟩ := k
      refine wq_getR fl_X10_63 (Or.inl ⟨_, rfl⟩) dX10_at_136 e_61 ?_
      refine wp_aload_n dX10_at_139 rfl ?_
      replace k := ok_bind k
      obtain ⟨p_62, e_63, k⟩ := k
      refine wq_getR fl_X10_16 (Or.inl ⟨_, rfl⟩) dX10_at_140 e_63 ?_
      replace k := ok_bind k
      obtain ⟨p_64, e_65, k⟩ := k
      refine wq_getR fl_X10_120 (Or.inl ⟨_, rfl⟩) dX10_at_143 e_65 ?_
      refine wp_iload_n dX10_at_146 rfl ?_
      refine wp_aload_n dX10_at_147 rfl ?_
      replace k := ok_bind k
      obtain ⟨p_66, e_67, k⟩ := k
      refine wq_getR fl_X10_16 (Or.inl ⟨_, rfl⟩) dX10_at_148 e_67 ?_
      replace k := ok_bind k
      obtain ⟨u, e_68, k⟩ := k
      refine wp_callV0 (N := M_X6_lawInForce) (ci := 6) mf_X6_lawInForce mi_X6_lawInForce me_X6_lawInForce ml_X10_140 dX10_at_151 (ckO_e e_68) mv_X6_lawInForce (by exact Nat.le_of_ble_eq_true rfl) (c_X6_lawInForce (Nat.le_trans (by decide) he) (ok_mono (ok_bind2 k) fun z_70 h_69 k => ?_))
      try dsimp only at k
      replace k := ok_bind k
      obtain ⟨u, e_71, k⟩ := k
      refine wp_callV3 (N := M_X1_poll) (ci := 1) mf_X1_poll mi_X1_poll me_X1_poll ml_X10_166 dX10_at_154 (ckO_e e_71) mv_X1_poll (by exact Nat.le_of_ble_eq_true rfl) (c_X1_poll (Nat.le_trans (by decide) he) (ok_mono (ok_bind2 k) fun _ h_72 k => ?_))
      try dsimp only at k
      refine wp_aload_n dX10_at_157 rfl ?_
      replace k := ok_bind k
      obtain ⟨p_74, e_75, k⟩ := k
      refine wq_getR fl_X10_63 (Or.inl ⟨_, rfl⟩) dX10_at_158 e_75 ?_
      replace k := ok_bind k
      obtain ⟨v_76, e_77, k⟩ := k
      refine wq_getI fl_X10_173 (Or.inl rfl) dX10_at_161 e_77 ?_
      refine wp_iret rfl rfl dX10_at_164 ?_
      exact (ok_some k :)
    replace k := ok_f c_59 k
    refine wp_case (6 : Int32) (fun c_78 => ?_) (fun c_78 => ?_)
    · refine wp_tabIn 165 dX10_at_14 (by rw [c_78]; decide) (by rw [c_78]; decide) (by rw [c_78]; rfl) (by decide) ?_
      replace k := ok_t c_78 k
      refine wp_aload_n dX10_at_165 rfl ?_
      replace k := ok_bind k
      obtain ⟨p_79, e_80, k⟩ := k
      refine wq_getR fl_X10_41 (Or.inl ⟨_, rfl⟩) dX10_at_166 e_80 ?_
      refine wp_aload_n dX10_at_169 rfl ?_
      replace k := ok_bind k
      obtain ⟨p_81, e_82, k⟩ := k
      refine wq_getR fl_X10_16 (Or.inl ⟨_, rfl⟩) dX10_at_170 e_82 ?_
      replace k := ok_bind k
      obtain ⟨p_83, e_84, k⟩ := k
      refine wq_getR fl_X10_120 (Or.inl ⟨_, rfl⟩) dX10_at_173 e_84 ?_
      replace k := ok_bind k
      obtain ⟨u, e_85, k⟩ := k
      refine wp_callV1 (N := M_X7_become) (ci := 7) mf_X7_become mi_X7_become me_X7_become ml_X10_176 dX10_at_176 (ckO_e e_85) mv_X7_become (by exact Nat.le_of_ble_eq_true rfl) (c_X7_become (Nat.le_trans (by decide) he) (ok_mono (ok_bind2 k) fun _ h_86 k => ?_))
      try dsimp only at k
      refine wp_aload_n dX10_at_179 rfl ?_
      replace k := ok_bind k
      obtain ⟨p_88, e_89, k⟩ := k
      refine wq_getR fl_X10_63 (Or.inl ⟨_, rfl⟩) dX10_at_180 e_89 ?_
      refine wp_aload_n dX10_at_183 rfl ?_
      replace k := ok_bind k
      obtain ⟨p_90, e_91, k⟩ := k
      refine wq_getR fl_X10_41 (Or.inl ⟨_, rfl⟩) dX10_at_184 e_91 ?_
      refine wp_iload_n dX10_at_187 rfl ?_
      replace k := ok_bind k
      obtain ⟨u, e_92, k⟩ := k
      refine wp_callV2 (N := M_X1_dividing) (ci := 1) mf_X1_dividing mi_X1_dividing me_X1_dividing ml_X10_180 dX10_at_188 (ckO_e e_92) mv_X1_dividing (by exact Nat.le_of_ble_eq_true rfl) (c_X1_dividing (Nat.le_trans (by decide) he) (ok_mono (ok_bind2 k) fun z_94 h_93 k => ?_))
      try dsimp only at k
      refine wp_if_lt 198 dX10_at_191 (by decide) (fun c_95 => ?_) (fun c_95 => ?_)
      · replace k := ok_t c_95 k
        refine wp_iconst dX10_at_198 ic_0 ?_
        refine wp_iret rfl rfl dX10_at_199 ?_
        exact (ok_some k :)
      · replace k := ok_f c_95 k
        refine wp_iconst dX10_at_194 ic_1 ?_
        refine wp_goto 199 dX10_at_195 (by decide) ?_
        refine wp_iret rfl rfl dX10_at_199 ?_
        exact (ok_some k :)
    replace k := ok_f c_78 k
    refine wp_tabOut 200 dX10_at_14 (tab_out (n := 7) (fun i hi => ?_)) (by decide) ?_
    · match i, hi with
      | 0, _ => exact ti_ne c_7 (by decide)
      | 1, _ => exact ti_ne c_14 (by decide)
      | 2, _ => exact ti_ne c_21 (by decide)
      | 3, _ => exact ti_ne c_30 (by decide)
      | 4, _ => exact ti_ne c_40 (by decide)
      | 5, _ => exact ti_ne c_59 (by decide)
      | 6, _ => exact ti_ne c_78 (by decide)
      | i + 7, hi => exact absurd hi (by omega)
    refine wp_iconst dX10_at_200 ic_m1 ?_
    refine wp_iret rfl rfl dX10_at_201 ?_
    exact (ok_some k :)
  · replace k := ok_t c_6 k
    refine wp_iconst dX10_at_11 ic_m1 ?_
    refine wp_iret rfl rfl dX10_at_12 ?_
    exact (ok_some k :)
theorem c_X10_at {S : SH} {d : Nat} {K : Option Value → AH → Prop} (hd : 5 ≤ d)  {r0 : Nat} {x1 : Int32} {x2 : Int32} {h : AH} (k : ok (f_X10_at S r0 x1 x2 h) (fun w h' => K (some (.int w)) h')) : CP S M_X10_at d 0 0 [.ref r0, .int x1, .int x2] h K := cp_of (by decide) (fun _ _ => trivial) (fun _ => Nat.le_of_ble_eq_true rfl) (s_X10_at hd  k)

def f_X11_move (S : SH) (r0 : Nat) (x1 : Int32) (x2 : Int32) (h : AH) : Option (Int32 × AH) :=
  (pI S h r0 11 0 (0 : Int32)).bind fun h_1 =>
  (ckO S h_1 r0 11).bind fun _ =>
  (f_X11_moveNow S r0 x1 x2 h_1).bind fun z => match z with
  | (z_5, h_4) =>
  (ckO S h_4 r0 11).bind fun _ =>
  (f_X11_tell S r0 z_5 h_4).bind fun z => match z with
  | (z_8, h_7) =>
  some (z_8, h_7)
set_option maxHeartbeats 8000000 in
set_option maxRecDepth 20000 in
theorem s_X11_move {S : SH} {d cb sb : Nat} {Q : Option Value → AH → Prop} (hd : 10 ≤ d)  {r0 : Nat} {x1 : Int32} {x2 : Int32} {h : AH} (k : ok (f_X11_move S r0 x1 x2 h) (fun w h' => Q (some (.int w)) h')) : WP S M_X11_move d cb sb Q 0 [.ref r0, .int x1, .int x2] [] h := by
  obtain ⟨d, rfl, he⟩ := dp (L := 9) hd
  unfold f_X11_move at k
  refine wp_aload_n dX11_move_0 rfl ?_
  refine wp_iconst dX11_move_1 ic_0 ?_
  replace k := ok_bind k
  obtain ⟨h_1, e_2, k⟩ := k
  refine wq_putI fl_X11_152 rfl rfl dX11_move_2 e_2 ?_
  refine wp_aload_n dX11_move_5 rfl ?_
  refine wp_aload_n dX11_move_6 rfl ?_
  refine wp_iload_n dX11_move_7 rfl ?_
  refine wp_iload_n dX11_move_8 rfl ?_
  replace k := ok_bind k
  obtain ⟨u, e_3, k⟩ := k
  refine wp_callV2 (N := M_X11_moveNow) (ci := 11) mf_X11_moveNow mi_X11_moveNow me_X11_moveNow ml_X11_454 dX11_move_9 (ckO_e e_3) mv_X11_moveNow (by exact Nat.le_of_ble_eq_true rfl) (c_X11_moveNow (Nat.le_trans (by decide) he) (ok_mono (ok_bind2 k) fun z_5 h_4 k => ?_))
  try dsimp only at k
  replace k := ok_bind k
  obtain ⟨u, e_6, k⟩ := k
  refine wp_callV1 (N := M_X11_tell) (ci := 11) mf_X11_tell mi_X11_tell me_X11_tell ml_X11_161 dX11_move_12 (ckO_e e_6) mv_X11_tell (by exact Nat.le_of_ble_eq_true rfl) (c_X11_tell (Nat.le_trans (by decide) he) (ok_mono (ok_bind2 k) fun z_8 h_7 k => ?_))
  try dsimp only at k
  refine wp_iret rfl rfl dX11_move_15 ?_
  exact (ok_some k :)
theorem c_X11_move {S : SH} {d : Nat} {K : Option Value → AH → Prop} (hd : 10 ≤ d)  {r0 : Nat} {x1 : Int32} {x2 : Int32} {h : AH} (k : ok (f_X11_move S r0 x1 x2 h) (fun w h' => K (some (.int w)) h')) : CP S M_X11_move d 0 0 [.ref r0, .int x1, .int x2] h K := cp_of (by decide) (fun _ _ => trivial) (fun _ => Nat.le_of_ble_eq_true rfl) (s_X11_move hd  k)
def f_X11_divideNow (S : SH) (r0 : Nat) (x1 : Int32) (h : AH) : Option (Int32 × AH) :=
  (ckO S h r0 11).bind fun _ =>
  (f_X11_isMatter S r0 x1 h).bind fun z => match z with
  | (z_3, h_2) =>
  if z_3 = (0 : Int32) then
    some ((-2 : Int32), h_2)
  else
    (ckO S h_2 r0 11).bind fun _ =>
    (f_X11_canDivide S r0 x1 h_2).bind fun z => match z with
    | (z_7, h_6) =>
    if z_7 = (0 : Int32) then
      some ((-3 : Int32), h_6)
    else
      (ckO S h_6 r0 11).bind fun _ =>
      (f_X11_ayes S r0 x1 h_6).bind fun z => match z with
      | (z_11, h_10) =>
      (f_X11_ones S z_11 h_10).bind fun z => match z with
      | (z_13, h_12) =>
      (ckO S h_12 r0 11).bind fun _ =>
      (f_X11_remember S r0 (1 : Int32) h_12).bind fun z => match z with
      | (_, h_15) =>
      (ckO S h_15 r0 11).bind fun _ =>
      (f_X11_divideIt S r0 x1 h_15).bind fun z => match z with
      | (_, h_18) =>
      some (z_13, h_18)
set_option maxHeartbeats 8000000 in
set_option maxRecDepth 20000 in
theorem s_X11_divideNow {S : SH} {d cb sb : Nat} {Q : Option Value → AH → Prop} (hd : 9 ≤ d)  {r0 : Nat} {x1 : Int32} {h : AH} (k : ok (f_X11_divideNow S r0 x1 h) (fun w h' => Q (some (.int w)) h')) : WP S M_X11_divideNow d cb sb Q 0 [.ref r0, .int x1, JK] [] h := by
  obtain ⟨d, rfl, he⟩ := dp (L := 8) hd
  unfold f_X11_divideNow at k
  refine wp_aload_n dX11_divideNow_0 rfl ?_
  refine wp_iload_n dX11_divideNow_1 rfl ?_
  replace k := ok_bind k
  obtain ⟨u, e_1, k⟩ := k
  refine wp_callV1 (N := M_X11_isMatter) (ci := 11) mf_X11_isMatter mi_X11_isMatter me_X11_isMatter ml_X11_213 dX11_divideNow_2 (ckO_e e_1) mv_X11_isMatter (by exact Nat.le_of_ble_eq_true rfl) (c_X11_isMatter (Nat.le_trans (by decide) he) (ok_mono (ok_bind2 k) fun z_3 h_2 k => ?_))
  try dsimp only at k
  refine wp_if_ne 11 dX11_divideNow_5 (by decide) (fun c_4 => ?_) (fun c_4 => ?_)
  · replace k := ok_f c_4 k
    refine wp_aload_n dX11_divideNow_11 rfl ?_
    refine wp_iload_n dX11_divideNow_12 rfl ?_
    replace k := ok_bind k
    obtain ⟨u, e_5, k⟩ := k
    refine wp_callV1 (N := M_X11_canDivide) (ci := 11) mf_X11_canDivide mi_X11_canDivide me_X11_canDivide ml_X11_234 dX11_divideNow_13 (ckO_e e_5) mv_X11_canDivide (by exact Nat.le_of_ble_eq_true rfl) (c_X11_canDivide (Nat.le_trans (by decide) he) (ok_mono (ok_bind2 k) fun z_7 h_6 k => ?_))
    try dsimp only at k
    refine wp_if_ne 22 dX11_divideNow_16 (by decide) (fun c_8 => ?_) (fun c_8 => ?_)
    · replace k := ok_f c_8 k
      refine wp_aload_n dX11_divideNow_22 rfl ?_
      refine wp_iload_n dX11_divideNow_23 rfl ?_
      replace k := ok_bind k
      obtain ⟨u, e_9, k⟩ := k
      refine wp_callV1 (N := M_X11_ayes) (ci := 11) mf_X11_ayes mi_X11_ayes me_X11_ayes ml_X11_231 dX11_divideNow_24 (ckO_e e_9) mv_X11_ayes (by exact Nat.le_of_ble_eq_true rfl) (c_X11_ayes (Nat.le_trans (by decide) he) (ok_mono (ok_bind2 k) fun z_11 h_10 k => ?_))
      try dsimp only at k
      refine wp_callS1 (N := M_X11_ones) mf_X11_ones ms_X11_ones ml_X11_439 dX11_divideNow_27 (by exact Nat.le_of_ble_eq_true rfl) (c_X11_ones (Nat.le_trans (by decide) he) (ok_mono (ok_bind2 k) fun z_13 h_12 k => ?_))
      try dsimp only at k
      refine wp_istore_n dX11_divideNow_30 (by decide) (L1 := [_, _, _]) rfl ?_
      refine wp_aload_n dX11_divideNow_31 rfl ?_
      refine wp_iconst dX11_divideNow_32 ic_1 ?_
      replace k := ok_bind k
      obtain ⟨u, e_14, k⟩ := k
      refine wp_callV1 (N := M_X11_remember) (ci := 11) mf_X11_remember mi_X11_remember me_X11_remember ml_X11_451 dX11_divideNow_33 (ckO_e e_14) mv_X11_remember (by exact Nat.le_of_ble_eq_true rfl) (c_X11_remember (Nat.le_trans (by decide) he) (ok_mono (ok_bind2 k) fun _ h_15 k => ?_))
      try dsimp only at k
      refine wp_aload_n dX11_divideNow_36 rfl ?_
      refine wp_iload_n dX11_divideNow_37 rfl ?_
      replace k := ok_bind k
      obtain ⟨u, e_17, k⟩ := k
      refine wp_callV1 (N := M_X11_divideIt) (ci := 11) mf_X11_divideIt mi_X11_divideIt me_X11_divideIt ml_X11_457 dX11_divideNow_38 (ckO_e e_17) mv_X11_divideIt (by exact Nat.le_of_ble_eq_true rfl) (c_X11_divideIt (Nat.le_trans (by decide) he) (ok_mono (ok_bind2 k) fun _ h_18 k => ?_))
      try dsimp only at k
      refine wp_iload_n dX11_divideNow_41 rfl ?_
      refine wp_iret rfl rfl dX11_divideNow_42 ?_
      exact (ok_some k :)
    · replace k := ok_t c_8 k
      refine wp_bipush dX11_divideNow_19 bp_m3 ?_
      refine wp_iret rfl rfl dX11_divideNow_21 ?_
      exact (ok_some k :)
  · replace k := ok_t c_4 k
    refine wp_bipush dX11_divideNow_8 bp_m2 ?_
    refine wp_iret rfl rfl dX11_divideNow_10 ?_
    exact (ok_some k :)
theorem c_X11_divideNow {S : SH} {d : Nat} {K : Option Value → AH → Prop} (hd : 9 ≤ d)  {r0 : Nat} {x1 : Int32} {h : AH} (k : ok (f_X11_divideNow S r0 x1 h) (fun w h' => K (some (.int w)) h')) : CP S M_X11_divideNow d 0 0 [.ref r0, .int x1] h K := cp_of (by decide) (fun _ _ => trivial) (fun _ => Nat.le_of_ble_eq_true rfl) (s_X11_divideNow hd  k)
def f_X11_divide (S : SH) (r0 : Nat) (x1 : Int32) (h : AH) : Option (Int32 × AH) :=
  (pI S h r0 11 0 (0 : Int32)).bind fun h_1 =>
  (ckO S h_1 r0 11).bind fun _ =>
  (f_X11_divideNow S r0 x1 h_1).bind fun z => match z with
  | (z_5, h_4) =>
  (ckO S h_4 r0 11).bind fun _ =>
  (f_X11_tell S r0 z_5 h_4).bind fun z => match z with
  | (z_8, h_7) =>
  some (z_8, h_7)
set_option maxHeartbeats 8000000 in
set_option maxRecDepth 20000 in
theorem s_X11_divide {S : SH} {d cb sb : Nat} {Q : Option Value → AH → Prop} (hd : 10 ≤ d)  {r0 : Nat} {x1 : Int32} {h : AH} (k : ok (f_X11_divide S r0 x1 h) (fun w h' => Q (some (.int w)) h')) : WP S M_X11_divide d cb sb Q 0 [.ref r0, .int x1] [] h := by
  obtain ⟨d, rfl, he⟩ := dp (L := 9) hd
  unfold f_X11_divide at k
  refine wp_aload_n dX11_divide_0 rfl ?_
  refine wp_iconst dX11_divide_1 ic_0 ?_
  replace k := ok_bind k
  obtain ⟨h_1, e_2, k⟩ := k
  refine wq_putI fl_X11_152 rfl rfl dX11_divide_2 e_2 ?_
  refine wp_aload_n dX11_divide_5 rfl ?_
  refine wp_aload_n dX11_divide_6 rfl ?_
  refine wp_iload_n dX11_divide_7 rfl ?_
  replace k := ok_bind k
  obtain ⟨u, e_3, k⟩ := k
  refine wp_callV1 (N := M_X11_divideNow) (ci := 11) mf_X11_divideNow mi_X11_divideNow me_X11_divideNow ml_X11_460 dX11_divide_8 (ckO_e e_3) mv_X11_divideNow (by exact Nat.le_of_ble_eq_true rfl) (c_X11_divideNow (Nat.le_trans (by decide) he) (ok_mono (ok_bind2 k) fun z_5 h_4 k => ?_))
  try dsimp only at k
  replace k := ok_bind k
  obtain ⟨u, e_6, k⟩ := k
  refine wp_callV1 (N := M_X11_tell) (ci := 11) mf_X11_tell mi_X11_tell me_X11_tell ml_X11_161 dX11_divide_11 (ckO_e e_6) mv_X11_tell (by exact Nat.le_of_ble_eq_true rfl) (c_X11_tell (Nat.le_trans (by decide) he) (ok_mono (ok_bind2 k) fun z_8 h_7 k => ?_))
  try dsimp only at k
  refine wp_iret rfl rfl dX11_divide_14 ?_
  exact (ok_some k :)
theorem c_X11_divide {S : SH} {d : Nat} {K : Option Value → AH → Prop} (hd : 10 ≤ d)  {r0 : Nat} {x1 : Int32} {h : AH} (k : ok (f_X11_divide S r0 x1 h) (fun w h' => K (some (.int w)) h')) : CP S M_X11_divide d 0 0 [.ref r0, .int x1] h K := cp_of (by decide) (fun _ _ => trivial) (fun _ => Nat.le_of_ble_eq_true rfl) (s_X11_divide hd  k)
def f_X11_flyNow (S : SH) (r0 : Nat) (x1 : Int32) (x2 : Int32) (h : AH) : Option (Int32 × AH) :=
  (f_X11_isTree S x2 h).bind fun z => match z with
  | (z_2, h_1) =>
  if z_2 = (0 : Int32) then
    some ((-1 : Int32), h_1)
  else
    (ckO S h_1 r0 11).bind fun _ =>
    (f_X11_isBird S r0 x1 h_1).bind fun z => match z with
    | (z_6, h_5) =>
    if z_6 = (0 : Int32) then
      some ((-2 : Int32), h_5)
    else
      (gR S h_5 r0 11 3).bind fun p_8 =>
      (aI S h_5 p_8 ((10 : Int32) + x1)).bind fun v_10 =>
      if v_10 = x2 then
        some ((-3 : Int32), h_5)
      else
        (ckO S h_5 r0 11).bind fun _ =>
        (f_X11_remember S r0 (2 : Int32) h_5).bind fun z => match z with
        | (_, h_14) =>
        (gR S h_14 r0 11 3).bind fun p_16 =>
        (sI S h_14 p_16 ((10 : Int32) + x1) x2).bind fun h_18 =>
        if v_10 = (-1 : Int32) then
          some ((20 : Int32), h_18)
        else
          some (v_10, h_18)
set_option maxHeartbeats 8000000 in
set_option maxRecDepth 20000 in
theorem s_X11_flyNow {S : SH} {d cb sb : Nat} {Q : Option Value → AH → Prop} (hd : 2 ≤ d)  {r0 : Nat} {x1 : Int32} {x2 : Int32} {h : AH} (k : ok (f_X11_flyNow S r0 x1 x2 h) (fun w h' => Q (some (.int w)) h')) : WP S M_X11_flyNow d cb sb Q 0 [.ref r0, .int x1, .int x2, JK] [] h := by
  obtain ⟨d, rfl, he⟩ := dp (L := 1) hd
  unfold f_X11_flyNow at k
  refine wp_iload_n dX11_flyNow_0 rfl ?_
  refine wp_callS1 (N := M_X11_isTree) mf_X11_isTree ms_X11_isTree ml_X11_187 dX11_flyNow_1 (by exact Nat.le_of_ble_eq_true rfl) (c_X11_isTree (Nat.le_trans (by decide) he) (ok_mono (ok_bind2 k) fun z_2 h_1 k => ?_))
  try dsimp only at k
  refine wp_if_ne 9 dX11_flyNow_4 (by decide) (fun c_3 => ?_) (fun c_3 => ?_)
  · replace k := ok_f c_3 k
    refine wp_aload_n dX11_flyNow_9 rfl ?_
    refine wp_iload_n dX11_flyNow_10 rfl ?_
    replace k := ok_bind k
    obtain ⟨u, e_4, k⟩ := k
    refine wp_callV1 (N := M_X11_isBird) (ci := 11) mf_X11_isBird mi_X11_isBird me_X11_isBird ml_X11_198 dX11_flyNow_11 (ckO_e e_4) mv_X11_isBird (by exact Nat.le_of_ble_eq_true rfl) (c_X11_isBird (Nat.le_trans (by decide) he) (ok_mono (ok_bind2 k) fun z_6 h_5 k => ?_))
    try dsimp only at k
    refine wp_if_ne 20 dX11_flyNow_14 (by decide) (fun c_7 => ?_) (fun c_7 => ?_)
    · replace k := ok_f c_7 k
      refine wp_aload_n dX11_flyNow_20 rfl ?_
      replace k := ok_bind k
      obtain ⟨p_8, e_9, k⟩ := k
      refine wq_getR fl_X11_13 (Or.inr ⟨_, rfl⟩) dX11_flyNow_21 e_9 ?_
      refine wp_bipush dX11_flyNow_24 bp_10 ?_
      refine wp_iload_n dX11_flyNow_26 rfl ?_
      refine wp_iadd dX11_flyNow_27 ?_
      replace k := ok_bind k
      obtain ⟨v_10, e_11, k⟩ := k
      refine wq_aI dX11_flyNow_28 e_11 ?_
      refine wp_istore_n dX11_flyNow_29 (by decide) (L1 := [_, _, _, _]) rfl ?_
      refine wp_iload_n dX11_flyNow_30 rfl ?_
      refine wp_iload_n dX11_flyNow_31 rfl ?_
      refine wp_icmp_ne 38 dX11_flyNow_32 (by decide) (fun c_12 => ?_) (fun c_12 => ?_)
      · replace k := ok_f c_12 k
        refine wp_aload_n dX11_flyNow_38 rfl ?_
        refine wp_iconst dX11_flyNow_39 ic_2 ?_
        replace k := ok_bind k
        obtain ⟨u, e_13, k⟩ := k
        refine wp_callV1 (N := M_X11_remember) (ci := 11) mf_X11_remember mi_X11_remember me_X11_remember ml_X11_451 dX11_flyNow_40 (ckO_e e_13) mv_X11_remember (by exact Nat.le_of_ble_eq_true rfl) (c_X11_remember (Nat.le_trans (by decide) he) (ok_mono (ok_bind2 k) fun _ h_14 k => ?_))
        try dsimp only at k
        refine wp_aload_n dX11_flyNow_43 rfl ?_
        replace k := ok_bind k
        obtain ⟨p_16, e_17, k⟩ := k
        refine wq_getR fl_X11_13 (Or.inr ⟨_, rfl⟩) dX11_flyNow_44 e_17 ?_
        refine wp_bipush dX11_flyNow_47 bp_10 ?_
        refine wp_iload_n dX11_flyNow_49 rfl ?_
        refine wp_iadd dX11_flyNow_50 ?_
        refine wp_iload_n dX11_flyNow_51 rfl ?_
        replace k := ok_bind k
        obtain ⟨h_18, e_19, k⟩ := k
        refine wq_sI dX11_flyNow_52 e_19 ?_
        refine wp_iload_n dX11_flyNow_53 rfl ?_
        refine wp_iconst dX11_flyNow_54 ic_m1 ?_
        refine wp_icmp_ne 63 dX11_flyNow_55 (by decide) (fun c_20 => ?_) (fun c_20 => ?_)
        · replace k := ok_f c_20 k
          refine wp_iload_n dX11_flyNow_63 rfl ?_
          refine wp_iret rfl rfl dX11_flyNow_64 ?_
          exact (ok_some k :)
        · replace k := ok_t c_20 k
          refine wp_bipush dX11_flyNow_58 bp_20 ?_
          refine wp_goto 64 dX11_flyNow_60 (by decide) ?_
          refine wp_iret rfl rfl dX11_flyNow_64 ?_
          exact (ok_some k :)
      · replace k := ok_t c_12 k
        refine wp_bipush dX11_flyNow_35 bp_m3 ?_
        refine wp_iret rfl rfl dX11_flyNow_37 ?_
        exact (ok_some k :)
    · replace k := ok_t c_7 k
      refine wp_bipush dX11_flyNow_17 bp_m2 ?_
      refine wp_iret rfl rfl dX11_flyNow_19 ?_
      exact (ok_some k :)
  · replace k := ok_t c_3 k
    refine wp_iconst dX11_flyNow_7 ic_m1 ?_
    refine wp_iret rfl rfl dX11_flyNow_8 ?_
    exact (ok_some k :)
theorem c_X11_flyNow {S : SH} {d : Nat} {K : Option Value → AH → Prop} (hd : 2 ≤ d)  {r0 : Nat} {x1 : Int32} {x2 : Int32} {h : AH} (k : ok (f_X11_flyNow S r0 x1 x2 h) (fun w h' => K (some (.int w)) h')) : CP S M_X11_flyNow d 0 0 [.ref r0, .int x1, .int x2] h K := cp_of (by decide) (fun _ _ => trivial) (fun _ => Nat.le_of_ble_eq_true rfl) (s_X11_flyNow hd  k)
def f_X11_fly (S : SH) (r0 : Nat) (x1 : Int32) (x2 : Int32) (h : AH) : Option (Int32 × AH) :=
  (pI S h r0 11 0 (0 : Int32)).bind fun h_1 =>
  (ckO S h_1 r0 11).bind fun _ =>
  (f_X11_flyNow S r0 x1 x2 h_1).bind fun z => match z with
  | (z_5, h_4) =>
  (ckO S h_4 r0 11).bind fun _ =>
  (f_X11_tell S r0 z_5 h_4).bind fun z => match z with
  | (z_8, h_7) =>
  some (z_8, h_7)
set_option maxHeartbeats 8000000 in
set_option maxRecDepth 20000 in
theorem s_X11_fly {S : SH} {d cb sb : Nat} {Q : Option Value → AH → Prop} (hd : 3 ≤ d)  {r0 : Nat} {x1 : Int32} {x2 : Int32} {h : AH} (k : ok (f_X11_fly S r0 x1 x2 h) (fun w h' => Q (some (.int w)) h')) : WP S M_X11_fly d cb sb Q 0 [.ref r0, .int x1, .int x2] [] h := by
  obtain ⟨d, rfl, he⟩ := dp (L := 2) hd
  unfold f_X11_fly at k
  refine wp_aload_n dX11_fly_0 rfl ?_
  refine wp_iconst dX11_fly_1 ic_0 ?_
  replace k := ok_bind k
  obtain ⟨h_1, e_2, k⟩ := k
  refine wq_putI fl_X11_152 rfl rfl dX11_fly_2 e_2 ?_
  refine wp_aload_n dX11_fly_5 rfl ?_
  refine wp_aload_n dX11_fly_6 rfl ?_
  refine wp_iload_n dX11_fly_7 rfl ?_
  refine wp_iload_n dX11_fly_8 rfl ?_
  replace k := ok_bind k
  obtain ⟨u, e_3, k⟩ := k
  refine wp_callV2 (N := M_X11_flyNow) (ci := 11) mf_X11_flyNow mi_X11_flyNow me_X11_flyNow ml_X11_463 dX11_fly_9 (ckO_e e_3) mv_X11_flyNow (by exact Nat.le_of_ble_eq_true rfl) (c_X11_flyNow (Nat.le_trans (by decide) he) (ok_mono (ok_bind2 k) fun z_5 h_4 k => ?_))
  try dsimp only at k
  replace k := ok_bind k
  obtain ⟨u, e_6, k⟩ := k
  refine wp_callV1 (N := M_X11_tell) (ci := 11) mf_X11_tell mi_X11_tell me_X11_tell ml_X11_161 dX11_fly_12 (ckO_e e_6) mv_X11_tell (by exact Nat.le_of_ble_eq_true rfl) (c_X11_tell (Nat.le_trans (by decide) he) (ok_mono (ok_bind2 k) fun z_8 h_7 k => ?_))
  try dsimp only at k
  refine wp_iret rfl rfl dX11_fly_15 ?_
  exact (ok_some k :)
theorem c_X11_fly {S : SH} {d : Nat} {K : Option Value → AH → Prop} (hd : 3 ≤ d)  {r0 : Nat} {x1 : Int32} {x2 : Int32} {h : AH} (k : ok (f_X11_fly S r0 x1 x2 h) (fun w h' => K (some (.int w)) h')) : CP S M_X11_fly d 0 0 [.ref r0, .int x1, .int x2] h K := cp_of (by decide) (fun _ _ => trivial) (fun _ => Nat.le_of_ble_eq_true rfl) (s_X11_fly hd  k)
def f_X11_passIt_l4_j40 (S : SH) (rc : Nat → Int32 → Int32 → AH → Option ((Nat × Int32) × AH)) (r0 : Nat) (x1 : Int32) (x2 : Int32) (sr0 : Nat) (sx1 : Int32) (sx2 : Int32) (h : AH) : Option ((Nat × Int32) × AH) :=
  (sI S h sr0 sx1 sx2).bind fun h_1 =>
  (gR S h_1 r0 11 3).bind fun p_3 =>
  (aI S h_1 p_3 ((17 : Int32) + x2)).bind fun v_5 =>
  if v_5 = (0 : Int32) then
    lt ((x1 + (1 : Int32))) fun y_10 =>
    lt (x2 + (1 : Int32)) fun y_11 =>
    rc r0 y_10 y_11 h_1
  else
    lt ((x1 + (0 : Int32))) fun y_8 =>
    lt (x2 + (1 : Int32)) fun y_9 =>
    rc r0 y_8 y_9 h_1
set_option maxHeartbeats 8000000 in
set_option maxRecDepth 20000 in
theorem s_X11_passIt_l4_j40 {S : SH} {d cb sb : Nat} {Q : Option Value → AH → Prop} (hd : 0 ≤ d) {K : (Nat × Int32) → AH → Prop} (hex : ∀ (r0 : Nat) (x1 : Int32) (h' : AH), K (r0, x1) h' → WP S M_X11_passIt d cb sb Q 67 [.ref r0, .int x1, JK] [] h') {rc : Nat → Int32 → Int32 → AH → Option ((Nat × Int32) × AH)} (hrec : ∀ (r0 : Nat) (x1 : Int32) (x2 : Int32) (h' : AH), ok (rc r0 x1 x2 h') K → WP S M_X11_passIt d cb sb Q 4 [.ref r0, .int x1, .int x2] [] h') {r0 : Nat} {x1 : Int32} {x2 : Int32} {sr0 : Nat} {sx1 : Int32} {sx2 : Int32} {h : AH} (k : ok (f_X11_passIt_l4_j40 S rc r0 x1 x2 sr0 sx1 sx2 h) K) : WP S M_X11_passIt d cb sb Q 40 [.ref r0, .int x1, .int x2] [.int sx2, .int sx1, .ref sr0] h := by
  unfold f_X11_passIt_l4_j40 at k
  replace k := ok_bind k
  obtain ⟨h_1, e_2, k⟩ := k
  refine wq_sI dX11_passIt_40 e_2 ?_
  refine wp_iload_n dX11_passIt_41 rfl ?_
  refine wp_aload_n dX11_passIt_42 rfl ?_
  replace k := ok_bind k
  obtain ⟨p_3, e_4, k⟩ := k
  refine wq_getR fl_X11_13 (Or.inr ⟨_, rfl⟩) dX11_passIt_43 e_4 ?_
  refine wp_bipush dX11_passIt_46 bp_17 ?_
  refine wp_iload_n dX11_passIt_48 rfl ?_
  refine wp_iadd dX11_passIt_49 ?_
  replace k := ok_bind k
  obtain ⟨v_5, e_6, k⟩ := k
  refine wq_aI dX11_passIt_50 e_6 ?_
  refine wp_if_ne 58 dX11_passIt_51 (by decide) (fun c_7 => ?_) (fun c_7 => ?_)
  · replace k := ok_f c_7 k
    refine wp_iconst dX11_passIt_58 ic_0 ?_
    refine wp_iadd dX11_passIt_59 ?_
    replace k := ok_lt k
    refine wp_istore_n dX11_passIt_60 (by decide) (L1 := [_, _, _]) rfl ?_
    replace k := ok_lt k
    refine wp_iinc dX11_passIt_61 rfl ic_1 (by decide) (L1 := [_, _, _]) rfl ?_
    refine wp_goto 4 dX11_passIt_64 (by decide) ?_
    exact wp_wk (wkE <| wkE <| wkE <| wkN) (hrec _ _ _ _ k)
  · replace k := ok_t c_7 k
    refine wp_iconst dX11_passIt_54 ic_1 ?_
    refine wp_goto 59 dX11_passIt_55 (by decide) ?_
    refine wp_iadd dX11_passIt_59 ?_
    replace k := ok_lt k
    refine wp_istore_n dX11_passIt_60 (by decide) (L1 := [_, _, _]) rfl ?_
    replace k := ok_lt k
    refine wp_iinc dX11_passIt_61 rfl ic_1 (by decide) (L1 := [_, _, _]) rfl ?_
    refine wp_goto 4 dX11_passIt_64 (by decide) ?_
    exact wp_wk (wkE <| wkE <| wkE <| wkN) (hrec _ _ _ _ k)
def f_X11_passIt_l4b (S : SH) (rc : Nat → Int32 → Int32 → AH → Option ((Nat × Int32) × AH)) (r0 : Nat) (x1 : Int32) (x2 : Int32) (h : AH) : Option ((Nat × Int32) × AH) :=
  (gR S h r0 11 3).bind fun p_1 =>
  (aI S h p_1 (1 : Int32)).bind fun v_3 =>
  if v_3 ≤ x2 then
    some ((r0, x1), h)
  else
    (gR S h r0 11 3).bind fun p_6 =>
    (gR S h r0 11 3).bind fun p_8 =>
    (aI S h p_8 ((17 : Int32) + x2)).bind fun v_10 =>
    if v_10 = (2 : Int32) then
      f_X11_passIt_l4_j40 S rc r0 x1 x2 p_6 ((17 : Int32) + x2) (2 : Int32) h
    else
      f_X11_passIt_l4_j40 S rc r0 x1 x2 p_6 ((17 : Int32) + x2) (0 : Int32) h
set_option maxHeartbeats 8000000 in
set_option maxRecDepth 20000 in
theorem s_X11_passIt_l4b {S : SH} {d cb sb : Nat} {Q : Option Value → AH → Prop} (hd : 0 ≤ d) {K : (Nat × Int32) → AH → Prop} (hex : ∀ (r0 : Nat) (x1 : Int32) (h' : AH), K (r0, x1) h' → WP S M_X11_passIt d cb sb Q 67 [.ref r0, .int x1, JK] [] h') {rc : Nat → Int32 → Int32 → AH → Option ((Nat × Int32) × AH)} (hrec : ∀ (r0 : Nat) (x1 : Int32) (x2 : Int32) (h' : AH), ok (rc r0 x1 x2 h') K → WP S M_X11_passIt d cb sb Q 4 [.ref r0, .int x1, .int x2] [] h') {r0 : Nat} {x1 : Int32} {x2 : Int32} {h : AH} (k : ok (f_X11_passIt_l4b S rc r0 x1 x2 h) K) : WP S M_X11_passIt d cb sb Q 4 [.ref r0, .int x1, .int x2] [] h := by
  unfold f_X11_passIt_l4b at k
  refine wp_iload_n dX11_passIt_4 rfl ?_
  refine wp_aload_n dX11_passIt_5 rfl ?_
  replace k := ok_bind k
  obtain ⟨p_1, e_2, k⟩ := k
  refine wq_getR fl_X11_13 (Or.inr ⟨_, rfl⟩) dX11_passIt_6 e_2 ?_
  refine wp_iconst dX11_passIt_9 ic_1 ?_
  replace k := ok_bind k
  obtain ⟨v_3, e_4, k⟩ := k
  refine wq_aI dX11_passIt_10 e_4 ?_
  refine wp_icmp_ge 67 dX11_passIt_11 (by decide) (fun c_5 => ?_) (fun c_5 => ?_)
  · replace k := ok_t c_5 k
    exact wp_wk (wkE <| wkE <| wkJ <| wkN) (hex _ _ _ (ok_some k))
  · replace k := ok_f c_5 k
    refine wp_aload_n dX11_passIt_14 rfl ?_
    replace k := ok_bind k
    obtain ⟨p_6, e_7, k⟩ := k
    refine wq_getR fl_X11_13 (Or.inr ⟨_, rfl⟩) dX11_passIt_15 e_7 ?_
    refine wp_bipush dX11_passIt_18 bp_17 ?_
    refine wp_iload_n dX11_passIt_20 rfl ?_
    refine wp_iadd dX11_passIt_21 ?_
    refine wp_aload_n dX11_passIt_22 rfl ?_
    replace k := ok_bind k
    obtain ⟨p_8, e_9, k⟩ := k
    refine wq_getR fl_X11_13 (Or.inr ⟨_, rfl⟩) dX11_passIt_23 e_9 ?_
    refine wp_bipush dX11_passIt_26 bp_17 ?_
    refine wp_iload_n dX11_passIt_28 rfl ?_
    refine wp_iadd dX11_passIt_29 ?_
    replace k := ok_bind k
    obtain ⟨v_10, e_11, k⟩ := k
    refine wq_aI dX11_passIt_30 e_11 ?_
    refine wp_iconst dX11_passIt_31 ic_2 ?_
    refine wp_icmp_ne 39 dX11_passIt_32 (by decide) (fun c_12 => ?_) (fun c_12 => ?_)
    · replace k := ok_f c_12 k
      refine wp_iconst dX11_passIt_39 ic_0 ?_
      exact wp_wk (wkE <| wkE <| wkE <| wkN) (s_X11_passIt_l4_j40 hd hex hrec k)
    · replace k := ok_t c_12 k
      refine wp_iconst dX11_passIt_35 ic_2 ?_
      refine wp_goto 40 dX11_passIt_36 (by decide) ?_
      exact wp_wk (wkE <| wkE <| wkE <| wkN) (s_X11_passIt_l4_j40 hd hex hrec k)
def f_X11_passIt_l4 (S : SH) : Nat → Nat → Int32 → Int32 → AH → Option ((Nat × Int32) × AH)
  | 0, _, _, _, _ => none
  | n + 1, r0, x1, x2, h => f_X11_passIt_l4b S (f_X11_passIt_l4 S n) r0 x1 x2 h
theorem s_X11_passIt_l4 {S : SH} {d cb sb : Nat} {Q : Option Value → AH → Prop} (hd : 0 ≤ d) {K : (Nat × Int32) → AH → Prop} (hex : ∀ (r0 : Nat) (x1 : Int32) (h' : AH), K (r0, x1) h' → WP S M_X11_passIt d cb sb Q 67 [.ref r0, .int x1, JK] [] h') : ∀ (n : Nat) (r0 : Nat) (x1 : Int32) (x2 : Int32) (h : AH), ok (f_X11_passIt_l4 S n r0 x1 x2 h) K → WP S M_X11_passIt d cb sb Q 4 [.ref r0, .int x1, .int x2] [] h := by
  intro n
  induction n with
  | zero => intro r0 x1 x2 h k; exact ok_none k
  | succ n ih => intro r0 x1 x2 h k; exact s_X11_passIt_l4b hd hex (fun r0 x1 x2 h k => ih r0 x1 x2 h k) k
def f_X11_passIt (S : SH) (r0 : Nat) (h : AH) : Option (Int32 × AH) :=
  (f_X11_passIt_l4 S FU r0 (0 : Int32) (0 : Int32) h).bind fun z => match z with
  | ((r0_2, x1_3), h_1) =>
  (gR S h_1 r0_2 11 3).bind fun p_4 =>
  (sI S h_1 p_4 (9 : Int32) (0 : Int32)).bind fun h_6 =>
  (gR S h_6 r0_2 11 3).bind fun p_8 =>
  (aI S h_6 p_8 (5 : Int32)).bind fun v_10 =>
  (sI S h_6 p_8 (5 : Int32) (v_10 + (1 : Int32))).bind fun h_12 =>
  some (x1_3, h_12)
set_option maxHeartbeats 8000000 in
set_option maxRecDepth 20000 in
theorem s_X11_passIt {S : SH} {d cb sb : Nat} {Q : Option Value → AH → Prop} (hd : 0 ≤ d)  {r0 : Nat} {h : AH} (k : ok (f_X11_passIt S r0 h) (fun w h' => Q (some (.int w)) h')) : WP S M_X11_passIt d cb sb Q 0 [.ref r0, JK, JK] [] h := by
  unfold f_X11_passIt at k
  refine wp_iconst dX11_passIt_0 ic_0 ?_
  refine wp_istore_n dX11_passIt_1 (by decide) (L1 := [_, _, _]) rfl ?_
  refine wp_iconst dX11_passIt_2 ic_0 ?_
  refine wp_istore_n dX11_passIt_3 (by decide) (L1 := [_, _, _]) rfl ?_
  refine wp_wk (wkE <| wkE <| wkE <| wkN) ?_
  refine s_X11_passIt_l4 hd (fun r0_2 x1_3 h_1 k => ?_) FU _ _ _ _ (ok_bind2 k)
  try dsimp only at k
  refine wp_aload_n dX11_passIt_67 rfl ?_
  replace k := ok_bind k
  obtain ⟨p_4, e_5, k⟩ := k
  refine wq_getR fl_X11_13 (Or.inr ⟨_, rfl⟩) dX11_passIt_68 e_5 ?_
  refine wp_bipush dX11_passIt_71 bp_9 ?_
  refine wp_iconst dX11_passIt_73 ic_0 ?_
  replace k := ok_bind k
  obtain ⟨h_6, e_7, k⟩ := k
  refine wq_sI dX11_passIt_74 e_7 ?_
  refine wp_aload_n dX11_passIt_75 rfl ?_
  replace k := ok_bind k
  obtain ⟨p_8, e_9, k⟩ := k
  refine wq_getR fl_X11_13 (Or.inr ⟨_, rfl⟩) dX11_passIt_76 e_9 ?_
  refine wp_iconst dX11_passIt_79 ic_5 ?_
  refine wp_dup2 dX11_passIt_80 ?_
  replace k := ok_bind k
  obtain ⟨v_10, e_11, k⟩ := k
  refine wq_aI dX11_passIt_81 e_11 ?_
  refine wp_iconst dX11_passIt_82 ic_1 ?_
  refine wp_iadd dX11_passIt_83 ?_
  replace k := ok_bind k
  obtain ⟨h_12, e_13, k⟩ := k
  refine wq_sI dX11_passIt_84 e_13 ?_
  refine wp_iload_n dX11_passIt_85 rfl ?_
  refine wp_iret rfl rfl dX11_passIt_86 ?_
  exact (ok_some k :)
theorem c_X11_passIt {S : SH} {d : Nat} {K : Option Value → AH → Prop} (hd : 0 ≤ d)  {r0 : Nat} {h : AH} (k : ok (f_X11_passIt S r0 h) (fun w h' => K (some (.int w)) h')) : CP S M_X11_passIt d 0 0 [.ref r0] h K := cp_of (by decide) (fun _ _ => trivial) (fun _ => Nat.le_of_ble_eq_true rfl) (s_X11_passIt hd  k)
def f_X11_passNow (S : SH) (r0 : Nat) (h : AH) : Option (Int32 × AH) :=
  (gR S h r0 11 3).bind fun p_1 =>
  (aI S h p_1 (5 : Int32)).bind fun v_3 =>
  if v_3 = (999 : Int32) then
    some ((-3 : Int32), h)
  else
    (ckO S h r0 11).bind fun _ =>
    (f_X11_remember S r0 (3 : Int32) h).bind fun z => match z with
    | (_, h_7) =>
    (ckO S h_7 r0 11).bind fun _ =>
    (f_X11_passIt S r0 h_7).bind fun z => match z with
    | (z_11, h_10) =>
    some (z_11, h_10)
set_option maxHeartbeats 8000000 in
set_option maxRecDepth 20000 in
theorem s_X11_passNow {S : SH} {d cb sb : Nat} {Q : Option Value → AH → Prop} (hd : 2 ≤ d)  {r0 : Nat} {h : AH} (k : ok (f_X11_passNow S r0 h) (fun w h' => Q (some (.int w)) h')) : WP S M_X11_passNow d cb sb Q 0 [.ref r0] [] h := by
  obtain ⟨d, rfl, he⟩ := dp (L := 1) hd
  unfold f_X11_passNow at k
  refine wp_aload_n dX11_passNow_0 rfl ?_
  replace k := ok_bind k
  obtain ⟨p_1, e_2, k⟩ := k
  refine wq_getR fl_X11_13 (Or.inr ⟨_, rfl⟩) dX11_passNow_1 e_2 ?_
  refine wp_iconst dX11_passNow_4 ic_5 ?_
  replace k := ok_bind k
  obtain ⟨v_3, e_4, k⟩ := k
  refine wq_aI dX11_passNow_5 e_4 ?_
  refine wp_sipush dX11_passNow_6 sp_999 ?_
  refine wp_icmp_ne 15 dX11_passNow_9 (by decide) (fun c_5 => ?_) (fun c_5 => ?_)
  · replace k := ok_f c_5 k
    refine wp_aload_n dX11_passNow_15 rfl ?_
    refine wp_iconst dX11_passNow_16 ic_3 ?_
    replace k := ok_bind k
    obtain ⟨u, e_6, k⟩ := k
    refine wp_callV1 (N := M_X11_remember) (ci := 11) mf_X11_remember mi_X11_remember me_X11_remember ml_X11_451 dX11_passNow_17 (ckO_e e_6) mv_X11_remember (by exact Nat.le_of_ble_eq_true rfl) (c_X11_remember (Nat.le_trans (by decide) he) (ok_mono (ok_bind2 k) fun _ h_7 k => ?_))
    try dsimp only at k
    refine wp_aload_n dX11_passNow_20 rfl ?_
    replace k := ok_bind k
    obtain ⟨u, e_9, k⟩ := k
    refine wp_callV0 (N := M_X11_passIt) (ci := 11) mf_X11_passIt mi_X11_passIt me_X11_passIt ml_X11_466 dX11_passNow_21 (ckO_e e_9) mv_X11_passIt (by exact Nat.le_of_ble_eq_true rfl) (c_X11_passIt (Nat.le_trans (by decide) he) (ok_mono (ok_bind2 k) fun z_11 h_10 k => ?_))
    try dsimp only at k
    refine wp_iret rfl rfl dX11_passNow_24 ?_
    exact (ok_some k :)
  · replace k := ok_t c_5 k
    refine wp_bipush dX11_passNow_12 bp_m3 ?_
    refine wp_iret rfl rfl dX11_passNow_14 ?_
    exact (ok_some k :)
theorem c_X11_passNow {S : SH} {d : Nat} {K : Option Value → AH → Prop} (hd : 2 ≤ d)  {r0 : Nat} {h : AH} (k : ok (f_X11_passNow S r0 h) (fun w h' => K (some (.int w)) h')) : CP S M_X11_passNow d 0 0 [.ref r0] h K := cp_of (by decide) (fun _ _ => trivial) (fun _ => Nat.le_of_ble_eq_true rfl) (s_X11_passNow hd  k)
def f_X11_pass (S : SH) (r0 : Nat) (h : AH) : Option (Int32 × AH) :=
  (pI S h r0 11 0 (0 : Int32)).bind fun h_1 =>
  (ckO S h_1 r0 11).bind fun _ =>
  (f_X11_passNow S r0 h_1).bind fun z => match z with
  | (z_5, h_4) =>
  (ckO S h_4 r0 11).bind fun _ =>
  (f_X11_tell S r0 z_5 h_4).bind fun z => match z with
  | (z_8, h_7) =>
  some (z_8, h_7)
set_option maxHeartbeats 8000000 in
set_option maxRecDepth 20000 in
theorem s_X11_pass {S : SH} {d cb sb : Nat} {Q : Option Value → AH → Prop} (hd : 3 ≤ d)  {r0 : Nat} {h : AH} (k : ok (f_X11_pass S r0 h) (fun w h' => Q (some (.int w)) h')) : WP S M_X11_pass d cb sb Q 0 [.ref r0] [] h := by
  obtain ⟨d, rfl, he⟩ := dp (L := 2) hd
  unfold f_X11_pass at k
  refine wp_aload_n dX11_pass_0 rfl ?_
  refine wp_iconst dX11_pass_1 ic_0 ?_
  replace k := ok_bind k
  obtain ⟨h_1, e_2, k⟩ := k
  refine wq_putI fl_X11_152 rfl rfl dX11_pass_2 e_2 ?_
  refine wp_aload_n dX11_pass_5 rfl ?_
  refine wp_aload_n dX11_pass_6 rfl ?_
  replace k := ok_bind k
  obtain ⟨u, e_3, k⟩ := k
  refine wp_callV0 (N := M_X11_passNow) (ci := 11) mf_X11_passNow mi_X11_passNow me_X11_passNow ml_X11_469 dX11_pass_7 (ckO_e e_3) mv_X11_passNow (by exact Nat.le_of_ble_eq_true rfl) (c_X11_passNow (Nat.le_trans (by decide) he) (ok_mono (ok_bind2 k) fun z_5 h_4 k => ?_))
  try dsimp only at k
  replace k := ok_bind k
  obtain ⟨u, e_6, k⟩ := k
  refine wp_callV1 (N := M_X11_tell) (ci := 11) mf_X11_tell mi_X11_tell me_X11_tell ml_X11_161 dX11_pass_10 (ckO_e e_6) mv_X11_tell (by exact Nat.le_of_ble_eq_true rfl) (c_X11_tell (Nat.le_trans (by decide) he) (ok_mono (ok_bind2 k) fun z_8 h_7 k => ?_))
  try dsimp only at k
  refine wp_iret rfl rfl dX11_pass_13 ?_
  exact (ok_some k :)
theorem c_X11_pass {S : SH} {d : Nat} {K : Option Value → AH → Prop} (hd : 3 ≤ d)  {r0 : Nat} {h : AH} (k : ok (f_X11_pass S r0 h) (fun w h' => K (some (.int w)) h')) : CP S M_X11_pass d 0 0 [.ref r0] h K := cp_of (by decide) (fun _ _ => trivial) (fun _ => Nat.le_of_ble_eq_true rfl) (s_X11_pass hd  k)
def f_X11_second (S : SH) (r0 : Nat) (x1 : Int32) (x2 : Int32) (h : AH) : Option (Int32 × AH) :=
  (pI S h r0 11 0 (0 : Int32)).bind fun h_1 =>
  (ckO S h_1 r0 11).bind fun _ =>
  (f_X11_isMatter S r0 x1 h_1).bind fun z => match z with
  | (z_5, h_4) =>
  if z_5 = (0 : Int32) then
    some ((-1 : Int32), h_4)
  else
    (ckO S h_4 r0 11).bind fun _ =>
    (f_X11_isBird S r0 x2 h_4).bind fun z => match z with
    | (z_9, h_8) =>
    if z_9 = (0 : Int32) then
      some ((-1 : Int32), h_8)
    else
      (ckO S h_8 r0 11).bind fun _ =>
      (f_X11_seconder S r0 x1 x2 h_8).bind fun z => match z with
      | (z_13, h_12) =>
      some (z_13, h_12)
set_option maxHeartbeats 8000000 in
set_option maxRecDepth 20000 in
theorem s_X11_second {S : SH} {d cb sb : Nat} {Q : Option Value → AH → Prop} (hd : 8 ≤ d)  {r0 : Nat} {x1 : Int32} {x2 : Int32} {h : AH} (k : ok (f_X11_second S r0 x1 x2 h) (fun w h' => Q (some (.int w)) h')) : WP S M_X11_second d cb sb Q 0 [.ref r0, .int x1, .int x2] [] h := by
  obtain ⟨d, rfl, he⟩ := dp (L := 7) hd
  unfold f_X11_second at k
  refine wp_aload_n dX11_second_0 rfl ?_
  refine wp_iconst dX11_second_1 ic_0 ?_
  replace k := ok_bind k
  obtain ⟨h_1, e_2, k⟩ := k
  refine wq_putI fl_X11_152 rfl rfl dX11_second_2 e_2 ?_
  refine wp_aload_n dX11_second_5 rfl ?_
  refine wp_iload_n dX11_second_6 rfl ?_
  replace k := ok_bind k
  obtain ⟨u, e_3, k⟩ := k
  refine wp_callV1 (N := M_X11_isMatter) (ci := 11) mf_X11_isMatter mi_X11_isMatter me_X11_isMatter ml_X11_213 dX11_second_7 (ckO_e e_3) mv_X11_isMatter (by exact Nat.le_of_ble_eq_true rfl) (c_X11_isMatter (Nat.le_trans (by decide) he) (ok_mono (ok_bind2 k) fun z_5 h_4 k => ?_))
  try dsimp only at k
  refine wp_if_eq 30 dX11_second_10 (by decide) (fun c_6 => ?_) (fun c_6 => ?_)
  · replace k := ok_t c_6 k
    refine wp_iconst dX11_second_30 ic_m1 ?_
    refine wp_iret rfl rfl dX11_second_31 ?_
    exact (ok_some k :)
  · replace k := ok_f c_6 k
    refine wp_aload_n dX11_second_13 rfl ?_
    refine wp_iload_n dX11_second_14 rfl ?_
    replace k := ok_bind k
    obtain ⟨u, e_7, k⟩ := k
    refine wp_callV1 (N := M_X11_isBird) (ci := 11) mf_X11_isBird mi_X11_isBird me_X11_isBird ml_X11_198 dX11_second_15 (ckO_e e_7) mv_X11_isBird (by exact Nat.le_of_ble_eq_true rfl) (c_X11_isBird (Nat.le_trans (by decide) he) (ok_mono (ok_bind2 k) fun z_9 h_8 k => ?_))
    try dsimp only at k
    refine wp_if_eq 30 dX11_second_18 (by decide) (fun c_10 => ?_) (fun c_10 => ?_)
    · replace k := ok_t c_10 k
      refine wp_iconst dX11_second_30 ic_m1 ?_
      refine wp_iret rfl rfl dX11_second_31 ?_
      exact (ok_some k :)
    · replace k := ok_f c_10 k
      refine wp_aload_n dX11_second_21 rfl ?_
      refine wp_iload_n dX11_second_22 rfl ?_
      refine wp_iload_n dX11_second_23 rfl ?_
      replace k := ok_bind k
      obtain ⟨u, e_11, k⟩ := k
      refine wp_callV2 (N := M_X11_seconder) (ci := 11) mf_X11_seconder mi_X11_seconder me_X11_seconder ml_X11_445 dX11_second_24 (ckO_e e_11) mv_X11_seconder (by exact Nat.le_of_ble_eq_true rfl) (c_X11_seconder (Nat.le_trans (by decide) he) (ok_mono (ok_bind2 k) fun z_13 h_12 k => ?_))
      try dsimp only at k
      refine wp_goto 31 dX11_second_27 (by decide) ?_
      refine wp_iret rfl rfl dX11_second_31 ?_
      exact (ok_some k :)
theorem c_X11_second {S : SH} {d : Nat} {K : Option Value → AH → Prop} (hd : 8 ≤ d)  {r0 : Nat} {x1 : Int32} {x2 : Int32} {h : AH} (k : ok (f_X11_second S r0 x1 x2 h) (fun w h' => K (some (.int w)) h')) : CP S M_X11_second d 0 0 [.ref r0, .int x1, .int x2] h K := cp_of (by decide) (fun _ _ => trivial) (fun _ => Nat.le_of_ble_eq_true rfl) (s_X11_second hd  k)
def f_X11_isNew_l4b (S : SH) (rc : Nat → Int32 → Int32 → Int32 → AH → Option (Int32 × AH)) (r0 : Nat) (x1 : Int32) (x2 : Int32) (x3 : Int32) (h : AH) : Option (Int32 × AH) :=
  if x1 ≤ x3 then
    some (x2, h)
  else
    if x2 = (0 : Int32) then
      lt (x3 + (1 : Int32)) fun y_3 =>
      rc r0 x1 (0 : Int32) y_3 h
    else
      (gR S h r0 11 41).bind fun p_4 =>
      (aI S h p_4 x3).bind fun v_6 =>
      (gR S h r0 11 41).bind fun p_8 =>
      (aI S h p_8 x1).bind fun v_10 =>
      if v_6 = v_10 then
        lt (x3 + (1 : Int32)) fun y_13 =>
        rc r0 x1 (0 : Int32) y_13 h
      else
        lt (x3 + (1 : Int32)) fun y_14 =>
        rc r0 x1 (1 : Int32) y_14 h
set_option maxHeartbeats 8000000 in
set_option maxRecDepth 20000 in
theorem s_X11_isNew_l4b {S : SH} {d cb sb : Nat} {Q : Option Value → AH → Prop} (hd : 0 ≤ d) {K : Int32 → AH → Prop} (hex : ∀ (x2 : Int32) (h' : AH), K x2 h' → WP S M_X11_isNew d cb sb Q 40 [JK, JK, .int x2, JK] [] h') {rc : Nat → Int32 → Int32 → Int32 → AH → Option (Int32 × AH)} (hrec : ∀ (r0 : Nat) (x1 : Int32) (x2 : Int32) (x3 : Int32) (h' : AH), ok (rc r0 x1 x2 x3 h') K → WP S M_X11_isNew d cb sb Q 4 [.ref r0, .int x1, .int x2, .int x3] [] h') {r0 : Nat} {x1 : Int32} {x2 : Int32} {x3 : Int32} {h : AH} (k : ok (f_X11_isNew_l4b S rc r0 x1 x2 x3 h) K) : WP S M_X11_isNew d cb sb Q 4 [.ref r0, .int x1, .int x2, .int x3] [] h := by
  unfold f_X11_isNew_l4b at k
  refine wp_iload_n dX11_isNew_4 rfl ?_
  refine wp_iload_n dX11_isNew_5 rfl ?_
  refine wp_icmp_ge 40 dX11_isNew_6 (by decide) (fun c_1 => ?_) (fun c_1 => ?_)
  · replace k := ok_t c_1 k
    exact wp_wk (wkJ <| wkJ <| wkE <| wkJ <| wkN) (hex _ _ (ok_some k))
  · replace k := ok_f c_1 k
    refine wp_iload_n dX11_isNew_9 rfl ?_
    refine wp_if_eq 32 dX11_isNew_10 (by decide) (fun c_2 => ?_) (fun c_2 => ?_)
    · replace k := ok_t c_2 k
      refine wp_iconst dX11_isNew_32 ic_0 ?_
      refine wp_istore_n dX11_isNew_33 (by decide) (L1 := [_, _, _, _]) rfl ?_
      replace k := ok_lt k
      refine wp_iinc dX11_isNew_34 rfl ic_1 (by decide) (L1 := [_, _, _, _]) rfl ?_
      refine wp_goto 4 dX11_isNew_37 (by decide) ?_
      exact wp_wk (wkE <| wkE <| wkE <| wkE <| wkN) (hrec _ _ _ _ _ k)
    · replace k := ok_f c_2 k
      refine wp_aload_n dX11_isNew_13 rfl ?_
      replace k := ok_bind k
      obtain ⟨p_4, e_5, k⟩ := k
      refine wq_getR fl_X11_108 (Or.inr ⟨_, rfl⟩) dX11_isNew_14 e_5 ?_
      refine wp_iload_n dX11_isNew_17 rfl ?_
      replace k := ok_bind k
      obtain ⟨v_6, e_7, k⟩ := k
      refine wq_aI dX11_isNew_18 e_7 ?_
      refine wp_aload_n dX11_isNew_19 rfl ?_
      replace k := ok_bind k
      obtain ⟨p_8, e_9, k⟩ := k
      refine wq_getR fl_X11_108 (Or.inr ⟨_, rfl⟩) dX11_isNew_20 e_9 ?_
      refine wp_iload_n dX11_isNew_23 rfl ?_
      replace k := ok_bind k
      obtain ⟨v_10, e_11, k⟩ := k
      refine wq_aI dX11_isNew_24 e_11 ?_
      refine wp_icmp_eq 32 dX11_isNew_25 (by decide) (fun c_12 => ?_) (fun c_12 => ?_)
      · replace k := ok_t c_12 k
        refine wp_iconst dX11_isNew_32 ic_0 ?_
        refine wp_istore_n dX11_isNew_33 (by decide) (L1 := [_, _, _, _]) rfl ?_
        replace k := ok_lt k
        refine wp_iinc dX11_isNew_34 rfl ic_1 (by decide) (L1 := [_, _, _, _]) rfl ?_
        refine wp_goto 4 dX11_isNew_37 (by decide) ?_
        exact wp_wk (wkE <| wkE <| wkE <| wkE <| wkN) (hrec _ _ _ _ _ k)
      · replace k := ok_f c_12 k
        refine wp_iconst dX11_isNew_28 ic_1 ?_
        refine wp_goto 33 dX11_isNew_29 (by decide) ?_
        refine wp_istore_n dX11_isNew_33 (by decide) (L1 := [_, _, _, _]) rfl ?_
        replace k := ok_lt k
        refine wp_iinc dX11_isNew_34 rfl ic_1 (by decide) (L1 := [_, _, _, _]) rfl ?_
        refine wp_goto 4 dX11_isNew_37 (by decide) ?_
        exact wp_wk (wkE <| wkE <| wkE <| wkE <| wkN) (hrec _ _ _ _ _ k)
def f_X11_isNew_l4 (S : SH) : Nat → Nat → Int32 → Int32 → Int32 → AH → Option (Int32 × AH)
  | 0, _, _, _, _, _ => none
  | n + 1, r0, x1, x2, x3, h => f_X11_isNew_l4b S (f_X11_isNew_l4 S n) r0 x1 x2 x3 h
theorem s_X11_isNew_l4 {S : SH} {d cb sb : Nat} {Q : Option Value → AH → Prop} (hd : 0 ≤ d) {K : Int32 → AH → Prop} (hex : ∀ (x2 : Int32) (h' : AH), K x2 h' → WP S M_X11_isNew d cb sb Q 40 [JK, JK, .int x2, JK] [] h') : ∀ (n : Nat) (r0 : Nat) (x1 : Int32) (x2 : Int32) (x3 : Int32) (h : AH), ok (f_X11_isNew_l4 S n r0 x1 x2 x3 h) K → WP S M_X11_isNew d cb sb Q 4 [.ref r0, .int x1, .int x2, .int x3] [] h := by
  intro n
  induction n with
  | zero => intro r0 x1 x2 x3 h k; exact ok_none k
  | succ n ih => intro r0 x1 x2 x3 h k; exact s_X11_isNew_l4b hd hex (fun r0 x1 x2 x3 h k => ih r0 x1 x2 x3 h k) k
def f_X11_isNew (S : SH) (r0 : Nat) (x1 : Int32) (h : AH) : Option (Int32 × AH) :=
  (f_X11_isNew_l4 S FU r0 x1 (1 : Int32) (0 : Int32) h).bind fun z => match z with
  | (x2_2, h_1) =>
  (isZ x2_2).bind fun _ =>
  some (x2_2, h_1)
set_option maxHeartbeats 8000000 in
set_option maxRecDepth 20000 in
theorem s_X11_isNew {S : SH} {d cb sb : Nat} {Q : Option Value → AH → Prop} (hd : 0 ≤ d)  {r0 : Nat} {x1 : Int32} {h : AH} (k : ok (f_X11_isNew S r0 x1 h) (fun w h' => Q (some (.int w)) h')) : WP S M_X11_isNew d cb sb Q 0 [.ref r0, .int x1, JK, JK] [] h := by
  unfold f_X11_isNew at k
  refine wp_iconst dX11_isNew_0 ic_1 ?_
  refine wp_istore_n dX11_isNew_1 (by decide) (L1 := [_, _, _, _]) rfl ?_
  refine wp_iconst dX11_isNew_2 ic_0 ?_
  refine wp_istore_n dX11_isNew_3 (by decide) (L1 := [_, _, _, _]) rfl ?_
  refine wp_wk (wkE <| wkE <| wkE <| wkE <| wkN) ?_
  refine s_X11_isNew_l4 hd (fun x2_2 h_1 k => ?_) FU _ _ _ _ _ (ok_bind2 k)
  try dsimp only at k
  refine wp_iload_n dX11_isNew_40 rfl ?_
  replace k := ok_bind k
  obtain ⟨u, e_3, k⟩ := k
  refine wp_iret rfl (isZ_n e_3) dX11_isNew_41 ?_
  exact (ok_some k :)
theorem c_X11_isNew {S : SH} {d : Nat} {K : Option Value → AH → Prop} (hd : 0 ≤ d)  {r0 : Nat} {x1 : Int32} {h : AH} (k : ok (f_X11_isNew S r0 x1 h) (fun w h' => K (some (.int w)) h')) : CP S M_X11_isNew d 0 0 [.ref r0, .int x1] h K := cp_of (by decide) (fun _ _ => trivial) (fun _ => Nat.le_of_ble_eq_true rfl) (s_X11_isNew hd  k)
def f_X11_findRichest_l214b (S : SH) (rc : Nat → Int32 → Int32 → Int32 → Int32 → Int32 → AH → Option ((Nat × Int32 × Int32 × Int32 × Int32) × AH)) (r0 : Nat) (x1 : Int32) (x2 : Int32) (x3 : Int32) (x5 : Int32) (x6 : Int32) (h : AH) : Option ((Nat × Int32 × Int32 × Int32 × Int32) × AH) :=
  if x3 ≤ x6 then
    some ((r0, x1, x2, x3, x5), h)
  else
    if x5 = (0 : Int32) then
      some ((r0, x1, x2, x3, x5), h)
    else
      (gR S h r0 11 44).bind fun p_3 =>
      (gR S h r0 11 41).bind fun p_5 =>
      (aI S h p_5 x6).bind fun v_7 =>
      (sI S h p_3 x6 v_7).bind fun h_9 =>
      lt (x6 + (1 : Int32)) fun y_11 =>
      rc r0 x1 x2 x3 x5 y_11 h_9
set_option maxHeartbeats 8000000 in
set_option maxRecDepth 20000 in
theorem s_X11_findRichest_l214b {S : SH} {d cb sb : Nat} {Q : Option Value → AH → Prop} (hd : 8 ≤ d) {K : (Nat × Int32 × Int32 × Int32 × Int32) → AH → Prop} (hex : ∀ (r0 : Nat) (x1 : Int32) (x2 : Int32) (x3 : Int32) (x5 : Int32) (h' : AH), K (r0, x1, x2, x3, x5) h' → WP S M_X11_findRichest d cb sb Q 245 [.ref r0, .int x1, .int x2, .int x3, JK, .int x5, JK] [] h') {rc : Nat → Int32 → Int32 → Int32 → Int32 → Int32 → AH → Option ((Nat × Int32 × Int32 × Int32 × Int32) × AH)} (hrec : ∀ (r0 : Nat) (x1 : Int32) (x2 : Int32) (x3 : Int32) (x5 : Int32) (x6 : Int32) (h' : AH), ok (rc r0 x1 x2 x3 x5 x6 h') K → WP S M_X11_findRichest d cb sb Q 214 [.ref r0, .int x1, .int x2, .int x3, JK, .int x5, .int x6] [] h') {r0 : Nat} {x1 : Int32} {x2 : Int32} {x3 : Int32} {x5 : Int32} {x6 : Int32} {h : AH} (k : ok (f_X11_findRichest_l214b S rc r0 x1 x2 x3 x5 x6 h) K) : WP S M_X11_findRichest d cb sb Q 214 [.ref r0, .int x1, .int x2, .int x3, JK, .int x5, .int x6] [] h := by
  obtain ⟨d, rfl, he⟩ := dp (L := 7) hd
  unfold f_X11_findRichest_l214b at k
  refine wp_iload dX11_findRichest_214 rfl ?_
  refine wp_iload_n dX11_findRichest_216 rfl ?_
  refine wp_icmp_ge 245 dX11_findRichest_217 (by decide) (fun c_1 => ?_) (fun c_1 => ?_)
  · replace k := ok_t c_1 k
    exact wp_wk (wkE <| wkE <| wkE <| wkE <| wkJ <| wkE <| wkJ <| wkN) (hex _ _ _ _ _ _ (ok_some k))
  · replace k := ok_f c_1 k
    refine wp_iload dX11_findRichest_220 rfl ?_
    refine wp_if_eq 245 dX11_findRichest_222 (by decide) (fun c_2 => ?_) (fun c_2 => ?_)
    · replace k := ok_t c_2 k
      exact wp_wk (wkE <| wkE <| wkE <| wkE <| wkJ <| wkE <| wkJ <| wkN) (hex _ _ _ _ _ _ (ok_some k))
    · replace k := ok_f c_2 k
      refine wp_aload_n dX11_findRichest_225 rfl ?_
      replace k := ok_bind k
      obtain ⟨p_3, e_4, k⟩ := k
      refine wq_getR fl_X11_117 (Or.inr ⟨_, rfl⟩) dX11_findRichest_226 e_4 ?_
      refine wp_iload dX11_findRichest_229 rfl ?_
      refine wp_aload_n dX11_findRichest_231 rfl ?_
      replace k := ok_bind k
      obtain ⟨p_5, e_6, k⟩ := k
      refine wq_getR fl_X11_108 (Or.inr ⟨_, rfl⟩) dX11_findRichest_232 e_6 ?_
      refine wp_iload dX11_findRichest_235 rfl ?_
      replace k := ok_bind k
      obtain ⟨v_7, e_8, k⟩ := k
      refine wq_aI dX11_findRichest_237 e_8 ?_
      replace k := ok_bind k
      obtain ⟨h_9, e_10, k⟩ := k
      refine wq_sI dX11_findRichest_238 e_10 ?_
      replace k := ok_lt k
      refine wp_iinc dX11_findRichest_239 rfl ic_1 (by decide) (L1 := [_, _, _, _, _, _, _]) rfl ?_
      refine wp_goto 214 dX11_findRichest_242 (by decide) ?_
      exact wp_wk (wkE <| wkE <| wkE <| wkE <| wkJ <| wkE <| wkE <| wkN) (hrec _ _ _ _ _ _ _ k)
def f_X11_findRichest_l214 (S : SH) : Nat → Nat → Int32 → Int32 → Int32 → Int32 → Int32 → AH → Option ((Nat × Int32 × Int32 × Int32 × Int32) × AH)
  | 0, _, _, _, _, _, _, _ => none
  | n + 1, r0, x1, x2, x3, x5, x6, h => f_X11_findRichest_l214b S (f_X11_findRichest_l214 S n) r0 x1 x2 x3 x5 x6 h
theorem s_X11_findRichest_l214 {S : SH} {d cb sb : Nat} {Q : Option Value → AH → Prop} (hd : 8 ≤ d) {K : (Nat × Int32 × Int32 × Int32 × Int32) → AH → Prop} (hex : ∀ (r0 : Nat) (x1 : Int32) (x2 : Int32) (x3 : Int32) (x5 : Int32) (h' : AH), K (r0, x1, x2, x3, x5) h' → WP S M_X11_findRichest d cb sb Q 245 [.ref r0, .int x1, .int x2, .int x3, JK, .int x5, JK] [] h') : ∀ (n : Nat) (r0 : Nat) (x1 : Int32) (x2 : Int32) (x3 : Int32) (x5 : Int32) (x6 : Int32) (h : AH), ok (f_X11_findRichest_l214 S n r0 x1 x2 x3 x5 x6 h) K → WP S M_X11_findRichest d cb sb Q 214 [.ref r0, .int x1, .int x2, .int x3, JK, .int x5, .int x6] [] h := by
  intro n
  induction n with
  | zero => intro r0 x1 x2 x3 x5 x6 h k; exact ok_none k
  | succ n ih => intro r0 x1 x2 x3 x5 x6 h k; exact s_X11_findRichest_l214b hd hex (fun r0 x1 x2 x3 x5 x6 h k => ih r0 x1 x2 x3 x5 x6 h k) k
def f_X11_findRichest_l38_j245 (S : SH) (rc : Nat → Int32 → Int32 → Int32 → AH → Option ((Nat × Int32 × Int32) × AH)) (r0 : Nat) (x1 : Int32) (x2 : Int32) (x3 : Int32) (x5 : Int32) (h : AH) : Option ((Nat × Int32 × Int32) × AH) :=
  if x5 = (0 : Int32) then
    (gI S h r0 11 45).bind fun v_2 =>
    (pI S h r0 11 45 v_2).bind fun h_4 =>
    if x5 = (0 : Int32) then
      rc r0 x1 x2 x3 h_4
    else
      (gR S h_4 r0 11 43).bind fun p_7 =>
      (aI S h_4 p_7 x3).bind fun v_9 =>
      rc r0 x1 v_9 x3 h_4
  else
    (pI S h r0 11 45 x3).bind fun h_11 =>
    if x5 = (0 : Int32) then
      rc r0 x1 x2 x3 h_11
    else
      (gR S h_11 r0 11 43).bind fun p_14 =>
      (aI S h_11 p_14 x3).bind fun v_16 =>
      rc r0 x1 v_16 x3 h_11
set_option maxHeartbeats 8000000 in
set_option maxRecDepth 20000 in
theorem s_X11_findRichest_l38_j245 {S : SH} {d cb sb : Nat} {Q : Option Value → AH → Prop} (hd : 8 ≤ d) {K : (Nat × Int32 × Int32) → AH → Prop} (hex : ∀ (r0 : Nat) (x1 : Int32) (x2 : Int32) (h' : AH), K (r0, x1, x2) h' → WP S M_X11_findRichest d cb sb Q 281 [.ref r0, .int x1, .int x2, JK, JK, JK, JK] [] h') {rc : Nat → Int32 → Int32 → Int32 → AH → Option ((Nat × Int32 × Int32) × AH)} (hrec : ∀ (r0 : Nat) (x1 : Int32) (x2 : Int32) (x3 : Int32) (h' : AH), ok (rc r0 x1 x2 x3 h') K → WP S M_X11_findRichest d cb sb Q 38 [.ref r0, .int x1, .int x2, .int x3, JK, JK, JK] [] h') {r0 : Nat} {x1 : Int32} {x2 : Int32} {x3 : Int32} {x5 : Int32} {h : AH} (k : ok (f_X11_findRichest_l38_j245 S rc r0 x1 x2 x3 x5 h) K) : WP S M_X11_findRichest d cb sb Q 245 [.ref r0, .int x1, .int x2, .int x3, JK, .int x5, JK] [] h := by
  obtain ⟨d, rfl, he⟩ := dp (L := 7) hd
  unfold f_X11_findRichest_l38_j245 at k
  refine wp_aload_n dX11_findRichest_245 rfl ?_
  refine wp_iload dX11_findRichest_246 rfl ?_
  refine wp_if_eq 255 dX11_findRichest_248 (by decide) (fun c_1 => ?_) (fun c_1 => ?_)
  · replace k := ok_t c_1 k
    refine wp_aload_n dX11_findRichest_255 rfl ?_
    replace k := ok_bind k
    obtain ⟨v_2, e_3, k⟩ := k
    refine wq_getI fl_X11_472 (Or.inl rfl) dX11_findRichest_256 e_3 ?_
    replace k := ok_bind k
    obtain ⟨h_4, e_5, k⟩ := k
    refine wq_putI fl_X11_472 rfl rfl dX11_findRichest_259 e_5 ?_
    refine wp_iload dX11_findRichest_262 rfl ?_
    refine wp_if_eq 276 dX11_findRichest_264 (by decide) (fun c_6 => ?_) (fun c_6 => ?_)
    · replace k := ok_t c_6 k
      refine wp_iload_n dX11_findRichest_276 rfl ?_
      refine wp_istore_n dX11_findRichest_277 (by decide) (L1 := [_, _, _, _, _, _, _]) rfl ?_
      refine wp_goto 38 dX11_findRichest_278 (by decide) ?_
      exact wp_wk (wkE <| wkE <| wkE <| wkE <| wkJ <| wkJ <| wkJ <| wkN) (hrec _ _ _ _ _ k)
    · replace k := ok_f c_6 k
      refine wp_aload_n dX11_findRichest_267 rfl ?_
      replace k := ok_bind k
      obtain ⟨p_7, e_8, k⟩ := k
      refine wq_getR fl_X11_114 (Or.inr ⟨_, rfl⟩) dX11_findRichest_268 e_8 ?_
      refine wp_iload_n dX11_findRichest_271 rfl ?_
      replace k := ok_bind k
      obtain ⟨v_9, e_10, k⟩ := k
      refine wq_aI dX11_findRichest_272 e_10 ?_
      refine wp_goto 277 dX11_findRichest_273 (by decide) ?_
      refine wp_istore_n dX11_findRichest_277 (by decide) (L1 := [_, _, _, _, _, _, _]) rfl ?_
      refine wp_goto 38 dX11_findRichest_278 (by decide) ?_
      exact wp_wk (wkE <| wkE <| wkE <| wkE <| wkJ <| wkJ <| wkJ <| wkN) (hrec _ _ _ _ _ k)
  · replace k := ok_f c_1 k
    refine wp_iload_n dX11_findRichest_251 rfl ?_
    refine wp_goto 259 dX11_findRichest_252 (by decide) ?_
    replace k := ok_bind k
    obtain ⟨h_11, e_12, k⟩ := k
    refine wq_putI fl_X11_472 rfl rfl dX11_findRichest_259 e_12 ?_
    refine wp_iload dX11_findRichest_262 rfl ?_
    refine wp_if_eq 276 dX11_findRichest_264 (by decide) (fun c_13 => ?_) (fun c_13 => ?_)
    · replace k := ok_t c_13 k
      refine wp_iload_n dX11_findRichest_276 rfl ?_
      refine wp_istore_n dX11_findRichest_277 (by decide) (L1 := [_, _, _, _, _, _, _]) rfl ?_
      refine wp_goto 38 dX11_findRichest_278 (by decide) ?_
      exact wp_wk (wkE <| wkE <| wkE <| wkE <| wkJ <| wkJ <| wkJ <| wkN) (hrec _ _ _ _ _ k)
    · replace k := ok_f c_13 k
      refine wp_aload_n dX11_findRichest_267 rfl ?_
      replace k := ok_bind k
      obtain ⟨p_14, e_15, k⟩ := k
      refine wq_getR fl_X11_114 (Or.inr ⟨_, rfl⟩) dX11_findRichest_268 e_15 ?_
      refine wp_iload_n dX11_findRichest_271 rfl ?_
      replace k := ok_bind k
      obtain ⟨v_16, e_17, k⟩ := k
      refine wq_aI dX11_findRichest_272 e_17 ?_
      refine wp_goto 277 dX11_findRichest_273 (by decide) ?_
      refine wp_istore_n dX11_findRichest_277 (by decide) (L1 := [_, _, _, _, _, _, _]) rfl ?_
      refine wp_goto 38 dX11_findRichest_278 (by decide) ?_
      exact wp_wk (wkE <| wkE <| wkE <| wkE <| wkJ <| wkJ <| wkJ <| wkN) (hrec _ _ _ _ _ k)
def f_X11_findRichest_l38_j209 (S : SH) (rc : Nat → Int32 → Int32 → Int32 → AH → Option ((Nat × Int32 × Int32) × AH)) (r0 : Nat) (x1 : Int32) (x2 : Int32) (x3 : Int32) (sx0 : Int32) (h : AH) : Option ((Nat × Int32 × Int32) × AH) :=
  (f_X11_findRichest_l214 S FU r0 x1 x2 x3 sx0 (0 : Int32) h).bind fun z => match z with
  | ((r0_2, x1_3, x2_4, x3_5, x5_6), h_1) =>
  f_X11_findRichest_l38_j245 S rc r0_2 x1_3 x2_4 x3_5 x5_6 h_1
set_option maxHeartbeats 8000000 in
set_option maxRecDepth 20000 in
theorem s_X11_findRichest_l38_j209 {S : SH} {d cb sb : Nat} {Q : Option Value → AH → Prop} (hd : 8 ≤ d) {K : (Nat × Int32 × Int32) → AH → Prop} (hex : ∀ (r0 : Nat) (x1 : Int32) (x2 : Int32) (h' : AH), K (r0, x1, x2) h' → WP S M_X11_findRichest d cb sb Q 281 [.ref r0, .int x1, .int x2, JK, JK, JK, JK] [] h') {rc : Nat → Int32 → Int32 → Int32 → AH → Option ((Nat × Int32 × Int32) × AH)} (hrec : ∀ (r0 : Nat) (x1 : Int32) (x2 : Int32) (x3 : Int32) (h' : AH), ok (rc r0 x1 x2 x3 h') K → WP S M_X11_findRichest d cb sb Q 38 [.ref r0, .int x1, .int x2, .int x3, JK, JK, JK] [] h') {r0 : Nat} {x1 : Int32} {x2 : Int32} {x3 : Int32} {sx0 : Int32} {h : AH} (k : ok (f_X11_findRichest_l38_j209 S rc r0 x1 x2 x3 sx0 h) K) : WP S M_X11_findRichest d cb sb Q 209 [.ref r0, .int x1, .int x2, .int x3, JK, JK, JK] [.int sx0] h := by
  obtain ⟨d, rfl, he⟩ := dp (L := 7) hd
  unfold f_X11_findRichest_l38_j209 at k
  refine wp_istore dX11_findRichest_209 (by decide) (L1 := [_, _, _, _, _, _, _]) rfl ?_
  refine wp_iconst dX11_findRichest_211 ic_0 ?_
  refine wp_istore dX11_findRichest_212 (by decide) (L1 := [_, _, _, _, _, _, _]) rfl ?_
  refine wp_wk (wkE <| wkE <| wkE <| wkE <| wkJ <| wkE <| wkE <| wkN) ?_
  refine s_X11_findRichest_l214 (Nat.succ_le_succ he) (fun r0_2 x1_3 x2_4 x3_5 x5_6 h_1 k => ?_) FU _ _ _ _ _ _ _ (ok_bind2 k)
  try dsimp only at k
  exact wp_wk (wkE <| wkE <| wkE <| wkE <| wkJ <| wkE <| wkJ <| wkN) (s_X11_findRichest_l38_j245 (Nat.succ_le_succ he) hex hrec k)
def f_X11_findRichest_l38_j161 (S : SH) (rc : Nat → Int32 → Int32 → Int32 → AH → Option ((Nat × Int32 × Int32) × AH)) (r0 : Nat) (x1 : Int32) (x2 : Int32) (x3 : Int32) (x4 : Int32) (sr0 : Nat) (sx1 : Int32) (sx2 : Int32) (sx3 : Int32) (h : AH) : Option ((Nat × Int32 × Int32) × AH) :=
  (sI S h sr0 sx1 (sx2 + sx3)).bind fun h_1 =>
  (gR S h_1 r0 11 42).bind fun p_3 =>
  (gR S h_1 r0 11 42).bind fun p_5 =>
  (aI S h_1 p_5 x3).bind fun v_7 =>
  (ckO S h_1 r0 11).bind fun _ =>
  (f_X11_takesOf S r0 x4 h_1).bind fun z => match z with
  | (z_11, h_10) =>
  (sI S h_10 p_3 (x3 + (1 : Int32)) (v_7 + z_11)).bind fun h_12 =>
  lt (x3 + (1 : Int32)) fun y_14 =>
  (gR S h_12 r0 11 41).bind fun p_15 =>
  (sI S h_12 p_15 y_14 (-1 : Int32)).bind fun h_17 =>
  (gR S h_17 r0 11 43).bind fun p_19 =>
  (aI S h_17 p_19 y_14).bind fun v_21 =>
  if v_21 ≤ x2 then
    f_X11_findRichest_l38_j209 S rc r0 x1 x2 y_14 (0 : Int32) h_17
  else
    f_X11_findRichest_l38_j209 S rc r0 x1 x2 y_14 (1 : Int32) h_17
set_option maxHeartbeats 8000000 in
set_option maxRecDepth 20000 in
theorem s_X11_findRichest_l38_j161 {S : SH} {d cb sb : Nat} {Q : Option Value → AH → Prop} (hd : 8 ≤ d) {K : (Nat × Int32 × Int32) → AH → Prop} (hex : ∀ (r0 : Nat) (x1 : Int32) (x2 : Int32) (h' : AH), K (r0, x1, x2) h' → WP S M_X11_findRichest d cb sb Q 281 [.ref r0, .int x1, .int x2, JK, JK, JK, JK] [] h') {rc : Nat → Int32 → Int32 → Int32 → AH → Option ((Nat × Int32 × Int32) × AH)} (hrec : ∀ (r0 : Nat) (x1 : Int32) (x2 : Int32) (x3 : Int32) (h' : AH), ok (rc r0 x1 x2 x3 h') K → WP S M_X11_findRichest d cb sb Q 38 [.ref r0, .int x1, .int x2, .int x3, JK, JK, JK] [] h') {r0 : Nat} {x1 : Int32} {x2 : Int32} {x3 : Int32} {x4 : Int32} {sr0 : Nat} {sx1 : Int32} {sx2 : Int32} {sx3 : Int32} {h : AH} (k : ok (f_X11_findRichest_l38_j161 S rc r0 x1 x2 x3 x4 sr0 sx1 sx2 sx3 h) K) : WP S M_X11_findRichest d cb sb Q 161 [.ref r0, .int x1, .int x2, .int x3, .int x4, JK, JK] [.int sx3, .int sx2, .int sx1, .ref sr0] h := by
  obtain ⟨d, rfl, he⟩ := dp (L := 7) hd
  unfold f_X11_findRichest_l38_j161 at k
  refine wp_iadd dX11_findRichest_161 ?_
  replace k := ok_bind k
  obtain ⟨h_1, e_2, k⟩ := k
  refine wq_sI dX11_findRichest_162 e_2 ?_
  refine wp_aload_n dX11_findRichest_163 rfl ?_
  replace k := ok_bind k
  obtain ⟨p_3, e_4, k⟩ := k
  refine wq_getR fl_X11_111 (Or.inr ⟨_, rfl⟩) dX11_findRichest_164 e_4 ?_
  refine wp_iload_n dX11_findRichest_167 rfl ?_
  refine wp_iconst dX11_findRichest_168 ic_1 ?_
  refine wp_iadd dX11_findRichest_169 ?_
  refine wp_aload_n dX11_findRichest_170 rfl ?_
  replace k := ok_bind k
  obtain ⟨p_5, e_6, k⟩ := k
  refine wq_getR fl_X11_111 (Or.inr ⟨_, rfl⟩) dX11_findRichest_171 e_6 ?_
  refine wp_iload_n dX11_findRichest_174 rfl ?_
  replace k := ok_bind k
  obtain ⟨v_7, e_8, k⟩ := k
  refine wq_aI dX11_findRichest_175 e_8 ?_
  refine wp_aload_n dX11_findRichest_176 rfl ?_
  refine wp_iload dX11_findRichest_177 rfl ?_
  replace k := ok_bind k
  obtain ⟨u, e_9, k⟩ := k
  refine wp_callV1 (N := M_X11_takesOf) (ci := 11) mf_X11_takesOf mi_X11_takesOf me_X11_takesOf ml_X11_225 dX11_findRichest_179 (ckO_e e_9) mv_X11_takesOf (by exact Nat.le_of_ble_eq_true rfl) (c_X11_takesOf (Nat.le_trans (by decide) he) (ok_mono (ok_bind2 k) fun z_11 h_10 k => ?_))
  try dsimp only at k
  refine wp_iadd dX11_findRichest_182 ?_
  replace k := ok_bind k
  obtain ⟨h_12, e_13, k⟩ := k
  refine wq_sI dX11_findRichest_183 e_13 ?_
  replace k := ok_lt k
  refine wp_iinc dX11_findRichest_184 rfl ic_1 (by decide) (L1 := [_, _, _, _, _, _, _]) rfl ?_
  refine wp_aload_n dX11_findRichest_187 rfl ?_
  replace k := ok_bind k
  obtain ⟨p_15, e_16, k⟩ := k
  refine wq_getR fl_X11_108 (Or.inr ⟨_, rfl⟩) dX11_findRichest_188 e_16 ?_
  refine wp_iload_n dX11_findRichest_191 rfl ?_
  refine wp_iconst dX11_findRichest_192 ic_m1 ?_
  replace k := ok_bind k
  obtain ⟨h_17, e_18, k⟩ := k
  refine wq_sI dX11_findRichest_193 e_18 ?_
  refine wp_aload_n dX11_findRichest_194 rfl ?_
  replace k := ok_bind k
  obtain ⟨p_19, e_20, k⟩ := k
  refine wq_getR fl_X11_114 (Or.inr ⟨_, rfl⟩) dX11_findRichest_195 e_20 ?_
  refine wp_iload_n dX11_findRichest_198 rfl ?_
  replace k := ok_bind k
  obtain ⟨v_21, e_22, k⟩ := k
  refine wq_aI dX11_findRichest_199 e_22 ?_
  refine wp_iload_n dX11_findRichest_200 rfl ?_
  refine wp_icmp_le 208 dX11_findRichest_201 (by decide) (fun c_23 => ?_) (fun c_23 => ?_)
  · replace k := ok_t c_23 k
    refine wp_iconst dX11_findRichest_208 ic_0 ?_
    exact wp_wk (wkE <| wkE <| wkE <| wkE <| wkJ <| wkJ <| wkJ <| wkN) (s_X11_findRichest_l38_j209 (Nat.succ_le_succ he) hex hrec k)
  · replace k := ok_f c_23 k
    refine wp_iconst dX11_findRichest_204 ic_1 ?_
    refine wp_goto 209 dX11_findRichest_205 (by decide) ?_
    exact wp_wk (wkE <| wkE <| wkE <| wkE <| wkJ <| wkJ <| wkJ <| wkN) (s_X11_findRichest_l38_j209 (Nat.succ_le_succ he) hex hrec k)
def f_X11_findRichest_l38b (S : SH) (rc : Nat → Int32 → Int32 → Int32 → AH → Option ((Nat × Int32 × Int32) × AH)) (r0 : Nat) (x1 : Int32) (x2 : Int32) (x3 : Int32) (h : AH) : Option ((Nat × Int32 × Int32) × AH) :=
  if x3 < (0 : Int32) then
    some ((r0, x1, x2), h)
  else
    (gR S h r0 11 41).bind fun p_2 =>
    (aI S h p_2 x3).bind fun v_4 =>
    (sI S h p_2 x3 (v_4 + (1 : Int32))).bind fun h_6 =>
    (gR S h_6 r0 11 3).bind fun p_8 =>
    (gR S h_6 r0 11 42).bind fun p_10 =>
    (aI S h_6 p_10 x3).bind fun v_12 =>
    (sI S h_6 p_8 (9 : Int32) v_12).bind fun h_14 =>
    (gR S h_14 r0 11 41).bind fun p_16 =>
    (aI S h_14 p_16 x3).bind fun v_18 =>
    (gR S h_14 r0 11 3).bind fun p_20 =>
    (aI S h_14 p_20 (1 : Int32)).bind fun v_22 =>
    if v_18 < v_22 then
      (ckO S h_14 r0 11).bind fun _ =>
      (f_X11_isNew S r0 x3 h_14).bind fun z => match z with
      | (z_27, h_26) =>
      if z_27 = (0 : Int32) then
        rc r0 x1 x2 x3 h_26
      else
        (gR S h_26 r0 11 41).bind fun p_29 =>
        (aI S h_26 p_29 x3).bind fun v_31 =>
        (ckO S h_26 r0 11).bind fun _ =>
        (f_X11_canDivide S r0 v_31 h_26).bind fun z => match z with
        | (z_35, h_34) =>
        if z_35 = (0 : Int32) then
          rc r0 x1 x2 x3 h_34
        else
          (gR S h_34 r0 11 41).bind fun p_37 =>
          (aI S h_34 p_37 x3).bind fun v_39 =>
          (gR S h_34 r0 11 43).bind fun p_41 =>
          (gR S h_34 r0 11 43).bind fun p_43 =>
          (aI S h_34 p_43 x3).bind fun v_45 =>
          (ckO S h_34 r0 11).bind fun _ =>
          (f_X11_sitting S r0 v_39 h_34).bind fun z => match z with
          | (z_49, h_48) =>
          (ckO S h_48 r0 11).bind fun _ =>
          (f_X11_ayes S r0 v_39 h_48).bind fun z => match z with
          | (z_52, h_51) =>
          (ckO S h_51 r0 11).bind fun _ =>
          (f_X11_carries S r0 z_49 z_52 h_51).bind fun z => match z with
          | (z_55, h_54) =>
          if z_55 = (0 : Int32) then
            f_X11_findRichest_l38_j161 S rc r0 x1 x2 x3 v_39 p_41 (x3 + (1 : Int32)) v_45 (0 : Int32) h_54
          else
            (gR S h_54 r0 11 3).bind fun p_57 =>
            (aI S h_54 p_57 ((78 : Int32) + v_39)).bind fun v_59 =>
            f_X11_findRichest_l38_j161 S rc r0 x1 x2 x3 v_39 p_41 (x3 + (1 : Int32)) v_45 v_59 h_54
    else
      lt (x3 + (-1 : Int32)) fun y_61 =>
      rc r0 x1 x2 y_61 h_14
set_option maxHeartbeats 8000000 in
set_option maxRecDepth 20000 in
theorem s_X11_findRichest_l38b {S : SH} {d cb sb : Nat} {Q : Option Value → AH → Prop} (hd : 8 ≤ d) {K : (Nat × Int32 × Int32) → AH → Prop} (hex : ∀ (r0 : Nat) (x1 : Int32) (x2 : Int32) (h' : AH), K (r0, x1, x2) h' → WP S M_X11_findRichest d cb sb Q 281 [.ref r0, .int x1, .int x2, JK, JK, JK, JK] [] h') {rc : Nat → Int32 → Int32 → Int32 → AH → Option ((Nat × Int32 × Int32) × AH)} (hrec : ∀ (r0 : Nat) (x1 : Int32) (x2 : Int32) (x3 : Int32) (h' : AH), ok (rc r0 x1 x2 x3 h') K → WP S M_X11_findRichest d cb sb Q 38 [.ref r0, .int x1, .int x2, .int x3, JK, JK, JK] [] h') {r0 : Nat} {x1 : Int32} {x2 : Int32} {x3 : Int32} {h : AH} (k : ok (f_X11_findRichest_l38b S rc r0 x1 x2 x3 h) K) : WP S M_X11_findRichest d cb sb Q 38 [.ref r0, .int x1, .int x2, .int x3, JK, JK, JK] [] h := by
  obtain ⟨d, rfl, he⟩ := dp (L := 7) hd
  unfold f_X11_findRichest_l38b at k
  refine wp_iload_n dX11_findRichest_38 rfl ?_
  refine wp_if_lt 281 dX11_findRichest_39 (by decide) (fun c_1 => ?_) (fun c_1 => ?_)
  · replace k := ok_t c_1 k
    exact wp_wk (wkE <| wkE <| wkE <| wkJ <| wkJ <| wkJ <| wkJ <| wkN) (hex _ _ _ _ (ok_some k))
  · replace k := ok_f c_1 k
    refine wp_aload_n dX11_findRichest_42 rfl ?_
    replace k := ok_bind k
    obtain ⟨p_2, e_3, k⟩ := k
    refine wq_getR fl_X11_108 (Or.inr ⟨_, rfl⟩) dX11_findRichest_43 e_3 ?_
    refine wp_iload_n dX11_findRichest_46 rfl ?_
    refine wp_dup2 dX11_findRichest_47 ?_
    replace k := ok_bind k
    obtain ⟨v_4, e_5, k⟩ := k
    refine wq_aI dX11_findRichest_48 e_5 ?_
    refine wp_iconst dX11_findRichest_49 ic_1 ?_
    refine wp_iadd dX11_findRichest_50 ?_
    replace k := ok_bind k
    obtain ⟨h_6, e_7, k⟩ := k
    refine wq_sI dX11_findRichest_51 e_7 ?_
    refine wp_aload_n dX11_findRichest_52 rfl ?_
    replace k := ok_bind k
    obtain ⟨p_8, e_9, k⟩ := k
    refine wq_getR fl_X11_13 (Or.inr ⟨_, rfl⟩) dX11_findRichest_53 e_9 ?_
    refine wp_bipush dX11_findRichest_56 bp_9 ?_
    refine wp_aload_n dX11_findRichest_58 rfl ?_
    replace k := ok_bind k
    obtain ⟨p_10, e_11, k⟩ := k
    refine wq_getR fl_X11_111 (Or.inr ⟨_, rfl⟩) dX11_findRichest_59 e_11 ?_
    refine wp_iload_n dX11_findRichest_62 rfl ?_
    replace k := ok_bind k
    obtain ⟨v_12, e_13, k⟩ := k
    refine wq_aI dX11_findRichest_63 e_13 ?_
    replace k := ok_bind k
    obtain ⟨h_14, e_15, k⟩ := k
    refine wq_sI dX11_findRichest_64 e_15 ?_
    refine wp_aload_n dX11_findRichest_65 rfl ?_
    replace k := ok_bind k
    obtain ⟨p_16, e_17, k⟩ := k
    refine wq_getR fl_X11_108 (Or.inr ⟨_, rfl⟩) dX11_findRichest_66 e_17 ?_
    refine wp_iload_n dX11_findRichest_69 rfl ?_
    replace k := ok_bind k
    obtain ⟨v_18, e_19, k⟩ := k
    refine wq_aI dX11_findRichest_70 e_19 ?_
    refine wp_aload_n dX11_findRichest_71 rfl ?_
    replace k := ok_bind k
    obtain ⟨p_20, e_21, k⟩ := k
    refine wq_getR fl_X11_13 (Or.inr ⟨_, rfl⟩) dX11_findRichest_72 e_21 ?_
    refine wp_iconst dX11_findRichest_75 ic_1 ?_
    replace k := ok_bind k
    obtain ⟨v_22, e_23, k⟩ := k
    refine wq_aI dX11_findRichest_76 e_23 ?_
    refine wp_icmp_lt 86 dX11_findRichest_77 (by decide) (fun c_24 => ?_) (fun c_24 => ?_)
    · replace k := ok_t c_24 k
      refine wp_aload_n dX11_findRichest_86 rfl ?_
      refine wp_iload_n dX11_findRichest_87 rfl ?_
      replace k := ok_bind k
      obtain ⟨u, e_25, k⟩ := k
      refine wp_callV1 (N := M_X11_isNew) (ci := 11) mf_X11_isNew mi_X11_isNew me_X11_isNew ml_X11_475 dX11_findRichest_88 (ckO_e e_25) mv_X11_isNew (by exact Nat.le_of_ble_eq_true rfl) (c_X11_isNew (Nat.le_trans (by decide) he) (ok_mono (ok_bind2 k) fun z_27 h_26 k => ?_))
      try dsimp only at k
      refine wp_if_eq 38 dX11_findRichest_91 (by decide) (fun c_28 => ?_) (fun c_28 => ?_)
      · replace k := ok_t c_28 k
        exact wp_wk (wkE <| wkE <| wkE <| wkE <| wkJ <| wkJ <| wkJ <| wkN) (hrec _ _ _ _ _ k)
      · replace k := ok_f c_28 k
        refine wp_aload_n dX11_findRichest_94 rfl ?_
        refine wp_aload_n dX11_findRichest_95 rfl ?_
        replace k := ok_bind k
        obtain ⟨p_29, e_30, k⟩ := k
        refine wq_getR fl_X11_108 (Or.inr ⟨_, rfl⟩) dX11_findRichest_96 e_30 ?_
        refine wp_iload_n dX11_findRichest_99 rfl ?_
        replace k := ok_bind k
        obtain ⟨v_31, e_32, k⟩ := k
        refine wq_aI dX11_findRichest_100 e_32 ?_
        replace k := ok_bind k
        obtain ⟨u, e_33, k⟩ := k
        refine wp_callV1 (N := M_X11_canDivide) (ci := 11) mf_X11_canDivide mi_X11_canDivide me_X11_canDivide ml_X11_234 dX11_findRichest_101 (ckO_e e_33) mv_X11_canDivide (by exact Nat.le_of_ble_eq_true rfl) (c_X11_canDivide (Nat.le_trans (by decide) he) (ok_mono (ok_bind2 k) fun z_35 h_34 k => ?_))
        try dsimp only at k
        refine wp_if_eq 38 dX11_findRichest_104 (by decide) (fun c_36 => ?_) (fun c_36 => ?_)
        · replace k := ok_t c_36 k
          exact wp_wk (wkE <| wkE <| wkE <| wkE <| wkJ <| wkJ <| wkJ <| wkN) (hrec _ _ _ _ _ k)
        · replace k := ok_f c_36 k
          refine wp_aload_n dX11_findRichest_107 rfl ?_
          replace k := ok_bind k
          obtain ⟨p_37, e_38, k⟩ := k
          refine wq_getR fl_X11_108 (Or.inr ⟨_, rfl⟩) dX11_findRichest_108 e_38 ?_
          refine wp_iload_n dX11_findRichest_111 rfl ?_
          replace k := ok_bind k
          obtain ⟨v_39, e_40, k⟩ := k
          refine wq_aI dX11_findRichest_112 e_40 ?_
          refine wp_istore dX11_findRichest_113 (by decide) (L1 := [_, _, _, _, _, _, _]) rfl ?_
          refine wp_aload_n dX11_findRichest_115 rfl ?_
          replace k := ok_bind k
          obtain ⟨p_41, e_42, k⟩ := k
          refine wq_getR fl_X11_114 (Or.inr ⟨_, rfl⟩) dX11_findRichest_116 e_42 ?_
          refine wp_iload_n dX11_findRichest_119 rfl ?_
          refine wp_iconst dX11_findRichest_120 ic_1 ?_
          refine wp_iadd dX11_findRichest_121 ?_
          refine wp_aload_n dX11_findRichest_122 rfl ?_
          replace k := ok_bind k
          obtain ⟨p_43, e_44, k⟩ := k
          refine wq_getR fl_X11_114 (Or.inr ⟨_, rfl⟩) dX11_findRichest_123 e_44 ?_
          refine wp_iload_n dX11_findRichest_126 rfl ?_
          replace k := ok_bind k
          obtain ⟨v_45, e_46, k⟩ := k
          refine wq_aI dX11_findRichest_127 e_46 ?_
          refine wp_aload_n dX11_findRichest_128 rfl ?_
          refine wp_aload_n dX11_findRichest_129 rfl ?_
          refine wp_iload dX11_findRichest_130 rfl ?_
          replace k := ok_bind k
          obtain ⟨u, e_47, k⟩ := k
          refine wp_callV1 (N := M_X11_sitting) (ci := 11) mf_X11_sitting mi_X11_sitting me_X11_sitting ml_X11_228 dX11_findRichest_132 (ckO_e e_47) mv_X11_sitting (by exact Nat.le_of_ble_eq_true rfl) (c_X11_sitting (Nat.le_trans (by decide) he) (ok_mono (ok_bind2 k) fun z_49 h_48 k => ?_))
          try dsimp only at k
          refine wp_aload_n dX11_findRichest_135 rfl ?_
          refine wp_iload dX11_findRichest_136 rfl ?_
          replace k := ok_bind k
          obtain ⟨u, e_50, k⟩ := k
          refine wp_callV1 (N := M_X11_ayes) (ci := 11) mf_X11_ayes mi_X11_ayes me_X11_ayes ml_X11_231 dX11_findRichest_138 (ckO_e e_50) mv_X11_ayes (by exact Nat.le_of_ble_eq_true rfl) (c_X11_ayes (Nat.le_trans (by decide) he) (ok_mono (ok_bind2 k) fun z_52 h_51 k => ?_))
          try dsimp only at k
          replace k := ok_bind k
          obtain ⟨u, e_53, k⟩ := k
          refine wp_callV2 (N := M_X11_carries) (ci := 11) mf_X11_carries mi_X11_carries me_X11_carries ml_X11_442 dX11_findRichest_141 (ckO_e e_53) mv_X11_carries (by exact Nat.le_of_ble_eq_true rfl) (c_X11_carries (Nat.le_trans (by decide) he) (ok_mono (ok_bind2 k) fun z_55 h_54 k => ?_))
          try dsimp only at k
          refine wp_if_eq 160 dX11_findRichest_144 (by decide) (fun c_56 => ?_) (fun c_56 => ?_)
          · replace k := ok_t c_56 k
            refine wp_iconst dX11_findRichest_160 ic_0 ?_
            exact wp_wk (wkE <| wkE <| wkE <| wkE <| wkE <| wkJ <| wkJ <| wkN) (s_X11_findRichest_l38_j161 (Nat.succ_le_succ he) hex hrec k)
          · replace k := ok_f c_56 k
            refine wp_aload_n dX11_findRichest_147 rfl ?_
            replace k := ok_bind k
            obtain ⟨p_57, e_58, k⟩ := k
            refine wq_getR fl_X11_13 (Or.inr ⟨_, rfl⟩) dX11_findRichest_148 e_58 ?_
            refine wp_bipush dX11_findRichest_151 bp_78 ?_
            refine wp_iload dX11_findRichest_153 rfl ?_
            refine wp_iadd dX11_findRichest_155 ?_
            replace k := ok_bind k
            obtain ⟨v_59, e_60, k⟩ := k
            refine wq_aI dX11_findRichest_156 e_60 ?_
            refine wp_goto 161 dX11_findRichest_157 (by decide) ?_
            exact wp_wk (wkE <| wkE <| wkE <| wkE <| wkE <| wkJ <| wkJ <| wkN) (s_X11_findRichest_l38_j161 (Nat.succ_le_succ he) hex hrec k)
    · replace k := ok_f c_24 k
      replace k := ok_lt k
      refine wp_iinc dX11_findRichest_80 rfl ic_m1 (by decide) (L1 := [_, _, _, _, _, _, _]) rfl ?_
      refine wp_goto 38 dX11_findRichest_83 (by decide) ?_
      exact wp_wk (wkE <| wkE <| wkE <| wkE <| wkJ <| wkJ <| wkJ <| wkN) (hrec _ _ _ _ _ k)
def f_X11_findRichest_l38 (S : SH) : Nat → Nat → Int32 → Int32 → Int32 → AH → Option ((Nat × Int32 × Int32) × AH)
  | 0, _, _, _, _, _ => none
  | n + 1, r0, x1, x2, x3, h => f_X11_findRichest_l38b S (f_X11_findRichest_l38 S n) r0 x1 x2 x3 h
theorem s_X11_findRichest_l38 {S : SH} {d cb sb : Nat} {Q : Option Value → AH → Prop} (hd : 8 ≤ d) {K : (Nat × Int32 × Int32) → AH → Prop} (hex : ∀ (r0 : Nat) (x1 : Int32) (x2 : Int32) (h' : AH), K (r0, x1, x2) h' → WP S M_X11_findRichest d cb sb Q 281 [.ref r0, .int x1, .int x2, JK, JK, JK, JK] [] h') : ∀ (n : Nat) (r0 : Nat) (x1 : Int32) (x2 : Int32) (x3 : Int32) (h : AH), ok (f_X11_findRichest_l38 S n r0 x1 x2 x3 h) K → WP S M_X11_findRichest d cb sb Q 38 [.ref r0, .int x1, .int x2, .int x3, JK, JK, JK] [] h := by
  intro n
  induction n with
  | zero => intro r0 x1 x2 x3 h k; exact ok_none k
  | succ n ih => intro r0 x1 x2 x3 h k; exact s_X11_findRichest_l38b hd hex (fun r0 x1 x2 x3 h k => ih r0 x1 x2 x3 h k) k
def f_X11_findRichest (S : SH) (r0 : Nat) (h : AH) : Option (Int32 × AH) :=
  (gR S h r0 11 3).bind fun p_1 =>
  (aI S h p_1 (9 : Int32)).bind fun v_3 =>
  (pI S h r0 11 45 (0 : Int32)).bind fun h_5 =>
  (gR S h_5 r0 11 41).bind fun p_7 =>
  (sI S h_5 p_7 (0 : Int32) (-1 : Int32)).bind fun h_9 =>
  (gR S h_9 r0 11 42).bind fun p_11 =>
  (sI S h_9 p_11 (0 : Int32) v_3).bind fun h_13 =>
  (gR S h_13 r0 11 43).bind fun p_15 =>
  (sI S h_13 p_15 (0 : Int32) (0 : Int32)).bind fun h_17 =>
  (f_X11_findRichest_l38 S FU r0 v_3 (0 : Int32) (0 : Int32) h_17).bind fun z => match z with
  | ((r0_20, x1_21, x2_22), h_19) =>
  (gR S h_19 r0_20 11 3).bind fun p_23 =>
  (sI S h_19 p_23 (9 : Int32) x1_21).bind fun h_25 =>
  some (x2_22, h_25)
set_option maxHeartbeats 8000000 in
set_option maxRecDepth 20000 in
theorem s_X11_findRichest {S : SH} {d cb sb : Nat} {Q : Option Value → AH → Prop} (hd : 8 ≤ d)  {r0 : Nat} {h : AH} (k : ok (f_X11_findRichest S r0 h) (fun w h' => Q (some (.int w)) h')) : WP S M_X11_findRichest d cb sb Q 0 [.ref r0, JK, JK, JK, JK, JK, JK] [] h := by
  obtain ⟨d, rfl, he⟩ := dp (L := 7) hd
  unfold f_X11_findRichest at k
  refine wp_aload_n dX11_findRichest_0 rfl ?_
  replace k := ok_bind k
  obtain ⟨p_1, e_2, k⟩ := k
  refine wq_getR fl_X11_13 (Or.inr ⟨_, rfl⟩) dX11_findRichest_1 e_2 ?_
  refine wp_bipush dX11_findRichest_4 bp_9 ?_
  replace k := ok_bind k
  obtain ⟨v_3, e_4, k⟩ := k
  refine wq_aI dX11_findRichest_6 e_4 ?_
  refine wp_istore_n dX11_findRichest_7 (by decide) (L1 := [_, _, _, _, _, _, _]) rfl ?_
  refine wp_iconst dX11_findRichest_8 ic_0 ?_
  refine wp_istore_n dX11_findRichest_9 (by decide) (L1 := [_, _, _, _, _, _, _]) rfl ?_
  refine wp_aload_n dX11_findRichest_10 rfl ?_
  refine wp_iconst dX11_findRichest_11 ic_0 ?_
  replace k := ok_bind k
  obtain ⟨h_5, e_6, k⟩ := k
  refine wq_putI fl_X11_472 rfl rfl dX11_findRichest_12 e_6 ?_
  refine wp_iconst dX11_findRichest_15 ic_0 ?_
  refine wp_istore_n dX11_findRichest_16 (by decide) (L1 := [_, _, _, _, _, _, _]) rfl ?_
  refine wp_aload_n dX11_findRichest_17 rfl ?_
  replace k := ok_bind k
  obtain ⟨p_7, e_8, k⟩ := k
  refine wq_getR fl_X11_108 (Or.inr ⟨_, rfl⟩) dX11_findRichest_18 e_8 ?_
  refine wp_iconst dX11_findRichest_21 ic_0 ?_
  refine wp_iconst dX11_findRichest_22 ic_m1 ?_
  replace k := ok_bind k
  obtain ⟨h_9, e_10, k⟩ := k
  refine wq_sI dX11_findRichest_23 e_10 ?_
  refine wp_aload_n dX11_findRichest_24 rfl ?_
  replace k := ok_bind k
  obtain ⟨p_11, e_12, k⟩ := k
  refine wq_getR fl_X11_111 (Or.inr ⟨_, rfl⟩) dX11_findRichest_25 e_12 ?_
  refine wp_iconst dX11_findRichest_28 ic_0 ?_
  refine wp_iload_n dX11_findRichest_29 rfl ?_
  replace k := ok_bind k
  obtain ⟨h_13, e_14, k⟩ := k
  refine wq_sI dX11_findRichest_30 e_14 ?_
  refine wp_aload_n dX11_findRichest_31 rfl ?_
  replace k := ok_bind k
  obtain ⟨p_15, e_16, k⟩ := k
  refine wq_getR fl_X11_114 (Or.inr ⟨_, rfl⟩) dX11_findRichest_32 e_16 ?_
  refine wp_iconst dX11_findRichest_35 ic_0 ?_
  refine wp_iconst dX11_findRichest_36 ic_0 ?_
  replace k := ok_bind k
  obtain ⟨h_17, e_18, k⟩ := k
  refine wq_sI dX11_findRichest_37 e_18 ?_
  refine wp_wk (wkE <| wkE <| wkE <| wkE <| wkJ <| wkJ <| wkJ <| wkN) ?_
  refine s_X11_findRichest_l38 (Nat.succ_le_succ he) (fun r0_20 x1_21 x2_22 h_19 k => ?_) FU _ _ _ _ _ (ok_bind2 k)
  try dsimp only at k
  refine wp_aload_n dX11_findRichest_281 rfl ?_
  replace k := ok_bind k
  obtain ⟨p_23, e_24, k⟩ := k
  refine wq_getR fl_X11_13 (Or.inr ⟨_, rfl⟩) dX11_findRichest_282 e_24 ?_
  refine wp_bipush dX11_findRichest_285 bp_9 ?_
  refine wp_iload_n dX11_findRichest_287 rfl ?_
  replace k := ok_bind k
  obtain ⟨h_25, e_26, k⟩ := k
  refine wq_sI dX11_findRichest_288 e_26 ?_
  refine wp_iload_n dX11_findRichest_289 rfl ?_
  refine wp_iret rfl rfl dX11_findRichest_290 ?_
  exact (ok_some k :)
theorem c_X11_findRichest {S : SH} {d : Nat} {K : Option Value → AH → Prop} (hd : 8 ≤ d)  {r0 : Nat} {h : AH} (k : ok (f_X11_findRichest S r0 h) (fun w h' => K (some (.int w)) h')) : CP S M_X11_findRichest d 0 0 [.ref r0] h K := cp_of (by decide) (fun _ _ => trivial) (fun _ => Nat.le_of_ble_eq_true rfl) (s_X11_findRichest hd  k)
def f_X11_richest (S : SH) (r0 : Nat) (x1 : Int32) (h : AH) : Option (Int32 × AH) :=
  (pI S h r0 11 0 (0 : Int32)).bind fun h_1 =>
  if (-1 : Int32) ≤ x1 then
    (ckO S h_1 r0 11).bind fun _ =>
    (f_X11_findRichest S r0 h_1).bind fun z => match z with
    | (z_6, h_5) =>
    if x1 = (-1 : Int32) then
      some (z_6, h_5)
    else
      (gI S h_5 r0 11 45).bind fun v_8 =>
      if v_8 ≤ x1 then
        some ((-1 : Int32), h_5)
      else
        (gR S h_5 r0 11 44).bind fun p_11 =>
        (aI S h_5 p_11 x1).bind fun v_13 =>
        some (v_13, h_5)
  else
    some ((-1 : Int32), h_1)
set_option maxHeartbeats 8000000 in
set_option maxRecDepth 20000 in
theorem s_X11_richest {S : SH} {d cb sb : Nat} {Q : Option Value → AH → Prop} (hd : 9 ≤ d)  {r0 : Nat} {x1 : Int32} {h : AH} (k : ok (f_X11_richest S r0 x1 h) (fun w h' => Q (some (.int w)) h')) : WP S M_X11_richest d cb sb Q 0 [.ref r0, .int x1, JK] [] h := by
  obtain ⟨d, rfl, he⟩ := dp (L := 8) hd
  unfold f_X11_richest at k
  refine wp_aload_n dX11_richest_0 rfl ?_
  refine wp_iconst dX11_richest_1 ic_0 ?_
  replace k := ok_bind k
  obtain ⟨h_1, e_2, k⟩ := k
  refine wq_putI fl_X11_152 rfl rfl dX11_richest_2 e_2 ?_
  refine wp_iload_n dX11_richest_5 rfl ?_
  refine wp_iconst dX11_richest_6 ic_m1 ?_
  refine wp_icmp_ge 12 dX11_richest_7 (by decide) (fun c_3 => ?_) (fun c_3 => ?_)
  · replace k := ok_t c_3 k
    refine wp_aload_n dX11_richest_12 rfl ?_
    replace k := ok_bind k
    obtain ⟨u, e_4, k⟩ := k
    refine wp_callV0 (N := M_X11_findRichest) (ci := 11) mf_X11_findRichest mi_X11_findRichest me_X11_findRichest ml_X11_478 dX11_richest_13 (ckO_e e_4) mv_X11_findRichest (by exact Nat.le_of_ble_eq_true rfl) (c_X11_findRichest (Nat.le_trans (by decide) he) (ok_mono (ok_bind2 k) fun z_6 h_5 k => ?_))
    try dsimp only at k
    refine wp_istore_n dX11_richest_16 (by decide) (L1 := [_, _, _]) rfl ?_
    refine wp_iload_n dX11_richest_17 rfl ?_
    refine wp_iconst dX11_richest_18 ic_m1 ?_
    refine wp_icmp_ne 26 dX11_richest_19 (by decide) (fun c_7 => ?_) (fun c_7 => ?_)
    · replace k := ok_f c_7 k
      refine wp_iload_n dX11_richest_26 rfl ?_
      refine wp_aload_n dX11_richest_27 rfl ?_
      replace k := ok_bind k
      obtain ⟨v_8, e_9, k⟩ := k
      refine wq_getI fl_X11_472 (Or.inl rfl) dX11_richest_28 e_9 ?_
      refine wp_icmp_ge 43 dX11_richest_31 (by decide) (fun c_10 => ?_) (fun c_10 => ?_)
      · replace k := ok_t c_10 k
        refine wp_iconst dX11_richest_43 ic_m1 ?_
        refine wp_iret rfl rfl dX11_richest_44 ?_
        exact (ok_some k :)
      · replace k := ok_f c_10 k
        refine wp_aload_n dX11_richest_34 rfl ?_
        replace k := ok_bind k
        obtain ⟨p_11, e_12, k⟩ := k
        refine wq_getR fl_X11_117 (Or.inr ⟨_, rfl⟩) dX11_richest_35 e_12 ?_
        refine wp_iload_n dX11_richest_38 rfl ?_
        replace k := ok_bind k
        obtain ⟨v_13, e_14, k⟩ := k
        refine wq_aI dX11_richest_39 e_14 ?_
        refine wp_goto 44 dX11_richest_40 (by decide) ?_
        refine wp_iret rfl rfl dX11_richest_44 ?_
        exact (ok_some k :)
    · replace k := ok_t c_7 k
      refine wp_iload_n dX11_richest_22 rfl ?_
      refine wp_goto 44 dX11_richest_23 (by decide) ?_
      refine wp_iret rfl rfl dX11_richest_44 ?_
      exact (ok_some k :)
  · replace k := ok_f c_3 k
    refine wp_iconst dX11_richest_10 ic_m1 ?_
    refine wp_iret rfl rfl dX11_richest_11 ?_
    exact (ok_some k :)
theorem c_X11_richest {S : SH} {d : Nat} {K : Option Value → AH → Prop} (hd : 9 ≤ d)  {r0 : Nat} {x1 : Int32} {h : AH} (k : ok (f_X11_richest S r0 x1 h) (fun w h' => K (some (.int w)) h')) : CP S M_X11_richest d 0 0 [.ref r0, .int x1] h K := cp_of (by decide) (fun _ _ => trivial) (fun _ => Nat.le_of_ble_eq_true rfl) (s_X11_richest hd  k)
def f_X11_byClock_l32b (S : SH) (rc : Nat → Int32 → Int32 → Int32 → Int32 → AH → Option ((Nat × Int32 × Int32) × AH)) (r0 : Nat) (x1 : Int32) (x2 : Int32) (x3 : Int32) (x4 : Int32) (h : AH) : Option ((Nat × Int32 × Int32) × AH) :=
  (gR S h r0 11 3).bind fun p_1 =>
  (aI S h p_1 (1 : Int32)).bind fun v_3 =>
  if v_3 ≤ x4 then
    some ((r0, x2, x3), h)
  else
    (ckO S h r0 11).bind fun _ =>
    (f_X11_canDivide S r0 x4 h).bind fun z => match z with
    | (z_8, h_7) =>
    if z_8 = (0 : Int32) then
      lt (x4 + (1 : Int32)) fun y_10 =>
      rc r0 x1 x2 x3 y_10 h_7
    else
      (gR S h_7 r0 11 3).bind fun p_11 =>
      (aI S h_7 p_11 (9 : Int32)).bind fun v_13 =>
      (ckO S h_7 r0 11).bind fun _ =>
      (f_X11_takesOf S r0 x4 h_7).bind fun z => match z with
      | (z_17, h_16) =>
      lt ((v_13 + z_17)) fun y_18 =>
      if x1 < y_18 then
        lt ((x3 + (0 : Int32))) fun y_20 =>
        (gR S h_16 r0 11 3).bind fun p_21 =>
        (sI S h_16 p_21 (9 : Int32) y_18).bind fun h_23 =>
        lt (x4 + (1 : Int32)) fun y_25 =>
        rc r0 x1 x2 y_20 y_25 h_23
      else
        (ckO S h_16 r0 11).bind fun _ =>
        (f_X11_sitting S r0 x4 h_16).bind fun z => match z with
        | (z_28, h_27) =>
        (ckO S h_27 r0 11).bind fun _ =>
        (f_X11_ayes S r0 x4 h_27).bind fun z => match z with
        | (z_31, h_30) =>
        (ckO S h_30 r0 11).bind fun _ =>
        (f_X11_carries S r0 z_28 z_31 h_30).bind fun z => match z with
        | (z_34, h_33) =>
        if z_34 = (0 : Int32) then
          lt ((x3 + (0 : Int32))) fun y_36 =>
          (gR S h_33 r0 11 3).bind fun p_37 =>
          (sI S h_33 p_37 (9 : Int32) y_18).bind fun h_39 =>
          lt (x4 + (1 : Int32)) fun y_41 =>
          rc r0 x1 x2 y_36 y_41 h_39
        else
          (gR S h_33 r0 11 3).bind fun p_42 =>
          (aI S h_33 p_42 ((78 : Int32) + x4)).bind fun v_44 =>
          lt ((x3 + v_44)) fun y_46 =>
          (gR S h_33 r0 11 3).bind fun p_47 =>
          (sI S h_33 p_47 (9 : Int32) y_18).bind fun h_49 =>
          lt (x4 + (1 : Int32)) fun y_51 =>
          rc r0 x1 x2 y_46 y_51 h_49
set_option maxHeartbeats 8000000 in
set_option maxRecDepth 20000 in
theorem s_X11_byClock_l32b {S : SH} {d cb sb : Nat} {Q : Option Value → AH → Prop} (hd : 8 ≤ d) {K : (Nat × Int32 × Int32) → AH → Prop} (hex : ∀ (r0 : Nat) (x2 : Int32) (x3 : Int32) (h' : AH), K (r0, x2, x3) h' → WP S M_X11_byClock d cb sb Q 125 [.ref r0, JK, .int x2, .int x3, JK, JK] [] h') {rc : Nat → Int32 → Int32 → Int32 → Int32 → AH → Option ((Nat × Int32 × Int32) × AH)} (hrec : ∀ (r0 : Nat) (x1 : Int32) (x2 : Int32) (x3 : Int32) (x4 : Int32) (h' : AH), ok (rc r0 x1 x2 x3 x4 h') K → WP S M_X11_byClock d cb sb Q 32 [.ref r0, .int x1, .int x2, .int x3, .int x4, JK] [] h') {r0 : Nat} {x1 : Int32} {x2 : Int32} {x3 : Int32} {x4 : Int32} {h : AH} (k : ok (f_X11_byClock_l32b S rc r0 x1 x2 x3 x4 h) K) : WP S M_X11_byClock d cb sb Q 32 [.ref r0, .int x1, .int x2, .int x3, .int x4, JK] [] h := by
  obtain ⟨d, rfl, he⟩ := dp (L := 7) hd
  unfold f_X11_byClock_l32b at k
  refine wp_iload dX11_byClock_32 rfl ?_
  refine wp_aload_n dX11_byClock_34 rfl ?_
  replace k := ok_bind k
  obtain ⟨p_1, e_2, k⟩ := k
  refine wq_getR fl_X11_13 (Or.inr ⟨_, rfl⟩) dX11_byClock_35 e_2 ?_
  refine wp_iconst dX11_byClock_38 ic_1 ?_
  replace k := ok_bind k
  obtain ⟨v_3, e_4, k⟩ := k
  refine wq_aI dX11_byClock_39 e_4 ?_
  refine wp_icmp_ge 125 dX11_byClock_40 (by decide) (fun c_5 => ?_) (fun c_5 => ?_)
  · replace k := ok_t c_5 k
    exact wp_wk (wkE <| wkJ <| wkE <| wkE <| wkJ <| wkJ <| wkN) (hex _ _ _ _ (ok_some k))
  · replace k := ok_f c_5 k
    refine wp_aload_n dX11_byClock_43 rfl ?_
    refine wp_iload dX11_byClock_44 rfl ?_
    replace k := ok_bind k
    obtain ⟨u, e_6, k⟩ := k
    refine wp_callV1 (N := M_X11_canDivide) (ci := 11) mf_X11_canDivide mi_X11_canDivide me_X11_canDivide ml_X11_234 dX11_byClock_46 (ckO_e e_6) mv_X11_canDivide (by exact Nat.le_of_ble_eq_true rfl) (c_X11_canDivide (Nat.le_trans (by decide) he) (ok_mono (ok_bind2 k) fun z_8 h_7 k => ?_))
    try dsimp only at k
    refine wp_if_eq 119 dX11_byClock_49 (by decide) (fun c_9 => ?_) (fun c_9 => ?_)
    · replace k := ok_t c_9 k
      replace k := ok_lt k
      refine wp_iinc dX11_byClock_119 rfl ic_1 (by decide) (L1 := [_, _, _, _, _, _]) rfl ?_
      refine wp_goto 32 dX11_byClock_122 (by decide) ?_
      exact wp_wk (wkE <| wkE <| wkE <| wkE <| wkE <| wkJ <| wkN) (hrec _ _ _ _ _ _ k)
    · replace k := ok_f c_9 k
      refine wp_aload_n dX11_byClock_52 rfl ?_
      replace k := ok_bind k
      obtain ⟨p_11, e_12, k⟩ := k
      refine wq_getR fl_X11_13 (Or.inr ⟨_, rfl⟩) dX11_byClock_53 e_12 ?_
      refine wp_bipush dX11_byClock_56 bp_9 ?_
      replace k := ok_bind k
      obtain ⟨v_13, e_14, k⟩ := k
      refine wq_aI dX11_byClock_58 e_14 ?_
      refine wp_aload_n dX11_byClock_59 rfl ?_
      refine wp_iload dX11_byClock_60 rfl ?_
      replace k := ok_bind k
      obtain ⟨u, e_15, k⟩ := k
      refine wp_callV1 (N := M_X11_takesOf) (ci := 11) mf_X11_takesOf mi_X11_takesOf me_X11_takesOf ml_X11_225 dX11_byClock_62 (ckO_e e_15) mv_X11_takesOf (by exact Nat.le_of_ble_eq_true rfl) (c_X11_takesOf (Nat.le_trans (by decide) he) (ok_mono (ok_bind2 k) fun z_17 h_16 k => ?_))
      try dsimp only at k
      refine wp_iadd dX11_byClock_65 ?_
      replace k := ok_lt k
      refine wp_istore dX11_byClock_66 (by decide) (L1 := [_, _, _, _, _, _]) rfl ?_
      refine wp_iload_n dX11_byClock_68 rfl ?_
      refine wp_iload dX11_byClock_69 rfl ?_
      refine wp_iload_n dX11_byClock_71 rfl ?_
      refine wp_icmp_gt 107 dX11_byClock_72 (by decide) (fun c_19 => ?_) (fun c_19 => ?_)
      · replace k := ok_t c_19 k
        refine wp_iconst dX11_byClock_107 ic_0 ?_
        refine wp_iadd dX11_byClock_108 ?_
        replace k := ok_lt k
        refine wp_istore_n dX11_byClock_109 (by decide) (L1 := [_, _, _, _, _, _]) rfl ?_
        refine wp_aload_n dX11_byClock_110 rfl ?_
        replace k := ok_bind k
        obtain ⟨p_21, e_22, k⟩ := k
        refine wq_getR fl_X11_13 (Or.inr ⟨_, rfl⟩) dX11_byClock_111 e_22 ?_
        refine wp_bipush dX11_byClock_114 bp_9 ?_
        refine wp_iload dX11_byClock_116 rfl ?_
        replace k := ok_bind k
        obtain ⟨h_23, e_24, k⟩ := k
        refine wq_sI dX11_byClock_118 e_24 ?_
        replace k := ok_lt k
        refine wp_iinc dX11_byClock_119 rfl ic_1 (by decide) (L1 := [_, _, _, _, _, _]) rfl ?_
        refine wp_goto 32 dX11_byClock_122 (by decide) ?_
        exact wp_wk (wkE <| wkE <| wkE <| wkE <| wkE <| wkJ <| wkN) (hrec _ _ _ _ _ _ k)
      · replace k := ok_f c_19 k
        refine wp_aload_n dX11_byClock_75 rfl ?_
        refine wp_aload_n dX11_byClock_76 rfl ?_
        refine wp_iload dX11_byClock_77 rfl ?_
        replace k := ok_bind k
        obtain ⟨u, e_26, k⟩ := k
        refine wp_callV1 (N := M_X11_sitting) (ci := 11) mf_X11_sitting mi_X11_sitting me_X11_sitting ml_X11_228 dX11_byClock_79 (ckO_e e_26) mv_X11_sitting (by exact Nat.le_of_ble_eq_true rfl) (c_X11_sitting (Nat.le_trans (by decide) he) (ok_mono (ok_bind2 k) fun z_28 h_27 k => ?_))
        try dsimp only at k
        refine wp_aload_n dX11_byClock_82 rfl ?_
        refine wp_iload dX11_byClock_83 rfl ?_
        replace k := ok_bind k
        obtain ⟨u, e_29, k⟩ := k
        refine wp_callV1 (N := M_X11_ayes) (ci := 11) mf_X11_ayes mi_X11_ayes me_X11_ayes ml_X11_231 dX11_byClock_85 (ckO_e e_29) mv_X11_ayes (by exact Nat.le_of_ble_eq_true rfl) (c_X11_ayes (Nat.le_trans (by decide) he) (ok_mono (ok_bind2 k) fun z_31 h_30 k => ?_))
        try dsimp only at k
        replace k := ok_bind k
        obtain ⟨u, e_32, k⟩ := k
        refine wp_callV2 (N := M_X11_carries) (ci := 11) mf_X11_carries mi_X11_carries me_X11_carries ml_X11_442 dX11_byClock_88 (ckO_e e_32) mv_X11_carries (by exact Nat.le_of_ble_eq_true rfl) (c_X11_carries (Nat.le_trans (by decide) he) (ok_mono (ok_bind2 k) fun z_34 h_33 k => ?_))
        try dsimp only at k
        refine wp_if_eq 107 dX11_byClock_91 (by decide) (fun c_35 => ?_) (fun c_35 => ?_)
        · replace k := ok_t c_35 k
          refine wp_iconst dX11_byClock_107 ic_0 ?_
          refine wp_iadd dX11_byClock_108 ?_
          replace k := ok_lt k
          refine wp_istore_n dX11_byClock_109 (by decide) (L1 := [_, _, _, _, _, _]) rfl ?_
          refine wp_aload_n dX11_byClock_110 rfl ?_
          replace k := ok_bind k
          obtain ⟨p_37, e_38, k⟩ := k
          refine wq_getR fl_X11_13 (Or.inr ⟨_, rfl⟩) dX11_byClock_111 e_38 ?_
          refine wp_bipush dX11_byClock_114 bp_9 ?_
          refine wp_iload dX11_byClock_116 rfl ?_
          replace k := ok_bind k
          obtain ⟨h_39, e_40, k⟩ := k
          refine wq_sI dX11_byClock_118 e_40 ?_
          replace k := ok_lt k
          refine wp_iinc dX11_byClock_119 rfl ic_1 (by decide) (L1 := [_, _, _, _, _, _]) rfl ?_
          refine wp_goto 32 dX11_byClock_122 (by decide) ?_
          exact wp_wk (wkE <| wkE <| wkE <| wkE <| wkE <| wkJ <| wkN) (hrec _ _ _ _ _ _ k)
        · replace k := ok_f c_35 k
          refine wp_aload_n dX11_byClock_94 rfl ?_
          replace k := ok_bind k
          obtain ⟨p_42, e_43, k⟩ := k
          refine wq_getR fl_X11_13 (Or.inr ⟨_, rfl⟩) dX11_byClock_95 e_43 ?_
          refine wp_bipush dX11_byClock_98 bp_78 ?_
          refine wp_iload dX11_byClock_100 rfl ?_
          refine wp_iadd dX11_byClock_102 ?_
          replace k := ok_bind k
          obtain ⟨v_44, e_45, k⟩ := k
          refine wq_aI dX11_byClock_103 e_45 ?_
          refine wp_goto 108 dX11_byClock_104 (by decide) ?_
          refine wp_iadd dX11_byClock_108 ?_
          replace k := ok_lt k
          refine wp_istore_n dX11_byClock_109 (by decide) (L1 := [_, _, _, _, _, _]) rfl ?_
          refine wp_aload_n dX11_byClock_110 rfl ?_
          replace k := ok_bind k
          obtain ⟨p_47, e_48, k⟩ := k
          refine wq_getR fl_X11_13 (Or.inr ⟨_, rfl⟩) dX11_byClock_111 e_48 ?_
          refine wp_bipush dX11_byClock_114 bp_9 ?_
          refine wp_iload dX11_byClock_116 rfl ?_
          replace k := ok_bind k
          obtain ⟨h_49, e_50, k⟩ := k
          refine wq_sI dX11_byClock_118 e_50 ?_
          replace k := ok_lt k
          refine wp_iinc dX11_byClock_119 rfl ic_1 (by decide) (L1 := [_, _, _, _, _, _]) rfl ?_
          refine wp_goto 32 dX11_byClock_122 (by decide) ?_
          exact wp_wk (wkE <| wkE <| wkE <| wkE <| wkE <| wkJ <| wkN) (hrec _ _ _ _ _ _ k)
def f_X11_byClock_l32 (S : SH) : Nat → Nat → Int32 → Int32 → Int32 → Int32 → AH → Option ((Nat × Int32 × Int32) × AH)
  | 0, _, _, _, _, _, _ => none
  | n + 1, r0, x1, x2, x3, x4, h => f_X11_byClock_l32b S (f_X11_byClock_l32 S n) r0 x1 x2 x3 x4 h
theorem s_X11_byClock_l32 {S : SH} {d cb sb : Nat} {Q : Option Value → AH → Prop} (hd : 8 ≤ d) {K : (Nat × Int32 × Int32) → AH → Prop} (hex : ∀ (r0 : Nat) (x2 : Int32) (x3 : Int32) (h' : AH), K (r0, x2, x3) h' → WP S M_X11_byClock d cb sb Q 125 [.ref r0, JK, .int x2, .int x3, JK, JK] [] h') : ∀ (n : Nat) (r0 : Nat) (x1 : Int32) (x2 : Int32) (x3 : Int32) (x4 : Int32) (h : AH), ok (f_X11_byClock_l32 S n r0 x1 x2 x3 x4 h) K → WP S M_X11_byClock d cb sb Q 32 [.ref r0, .int x1, .int x2, .int x3, .int x4, JK] [] h := by
  intro n
  induction n with
  | zero => intro r0 x1 x2 x3 x4 h k; exact ok_none k
  | succ n ih => intro r0 x1 x2 x3 x4 h k; exact s_X11_byClock_l32b hd hex (fun r0 x1 x2 x3 x4 h k => ih r0 x1 x2 x3 x4 h k) k
def f_X11_byClock (S : SH) (r0 : Nat) (x1 : Int32) (h : AH) : Option (Int32 × AH) :=
  (pI S h r0 11 0 (0 : Int32)).bind fun h_1 =>
  (f_X11_in S (Int32.toInt64 x1) (0 : Int64) (48 : Int64) h_1).bind fun z => match z with
  | (z_4, h_3) =>
  if z_4 = (0 : Int32) then
    some ((-1 : Int32), h_3)
  else
    (gR S h_3 r0 11 3).bind fun p_6 =>
    (aI S h_3 p_6 (9 : Int32)).bind fun v_8 =>
    (f_X11_byClock_l32 S FU r0 x1 v_8 (0 : Int32) (0 : Int32) h_3).bind fun z => match z with
    | ((r0_11, x2_12, x3_13), h_10) =>
    (gR S h_10 r0_11 11 3).bind fun p_14 =>
    (sI S h_10 p_14 (9 : Int32) x2_12).bind fun h_16 =>
    some (x3_13, h_16)
set_option maxHeartbeats 8000000 in
set_option maxRecDepth 20000 in
theorem s_X11_byClock {S : SH} {d cb sb : Nat} {Q : Option Value → AH → Prop} (hd : 8 ≤ d)  {r0 : Nat} {x1 : Int32} {h : AH} (k : ok (f_X11_byClock S r0 x1 h) (fun w h' => Q (some (.int w)) h')) : WP S M_X11_byClock d cb sb Q 0 [.ref r0, .int x1, JK, JK, JK, JK] [] h := by
  obtain ⟨d, rfl, he⟩ := dp (L := 7) hd
  unfold f_X11_byClock at k
  refine wp_aload_n dX11_byClock_0 rfl ?_
  refine wp_iconst dX11_byClock_1 ic_0 ?_
  replace k := ok_bind k
  obtain ⟨h_1, e_2, k⟩ := k
  refine wq_putI fl_X11_152 rfl rfl dX11_byClock_2 e_2 ?_
  refine wp_iload_n dX11_byClock_5 rfl ?_
  refine wp_i2l dX11_byClock_6 ?_
  refine wp_lconst dX11_byClock_7 lc_0 ?_
  refine wp_ldc2 ct_X11_287 dX11_byClock_8 ?_
  refine wp_callS3 (N := M_X11_in) mf_X11_in ms_X11_in ml_X11_172 dX11_byClock_11 (by exact Nat.le_of_ble_eq_true rfl) (c_X11_in (Nat.le_trans (by decide) he) (ok_mono (ok_bind2 k) fun z_4 h_3 k => ?_))
  try dsimp only at k
  refine wp_if_ne 19 dX11_byClock_14 (by decide) (fun c_5 => ?_) (fun c_5 => ?_)
  · replace k := ok_f c_5 k
    refine wp_aload_n dX11_byClock_19 rfl ?_
    replace k := ok_bind k
    obtain ⟨p_6, e_7, k⟩ := k
    refine wq_getR fl_X11_13 (Or.inr ⟨_, rfl⟩) dX11_byClock_20 e_7 ?_
    refine wp_bipush dX11_byClock_23 bp_9 ?_
    replace k := ok_bind k
    obtain ⟨v_8, e_9, k⟩ := k
    refine wq_aI dX11_byClock_25 e_9 ?_
    refine wp_istore_n dX11_byClock_26 (by decide) (L1 := [_, _, _, _, _, _]) rfl ?_
    refine wp_iconst dX11_byClock_27 ic_0 ?_
    refine wp_istore_n dX11_byClock_28 (by decide) (L1 := [_, _, _, _, _, _]) rfl ?_
    refine wp_iconst dX11_byClock_29 ic_0 ?_
    refine wp_istore dX11_byClock_30 (by decide) (L1 := [_, _, _, _, _, _]) rfl ?_
    refine wp_wk (wkE <| wkE <| wkE <| wkE <| wkE <| wkJ <| wkN) ?_
    refine s_X11_byClock_l32 (Nat.succ_le_succ he) (fun r0_11 x2_12 x3_13 h_10 k => ?_) FU _ _ _ _ _ _ (ok_bind2 k)
    try dsimp only at k
    refine wp_aload_n dX11_byClock_125 rfl ?_
    replace k := ok_bind k
    obtain ⟨p_14, e_15, k⟩ := k
    refine wq_getR fl_X11_13 (Or.inr ⟨_, rfl⟩) dX11_byClock_126 e_15 ?_
    refine wp_bipush dX11_byClock_129 bp_9 ?_
    refine wp_iload_n dX11_byClock_131 rfl ?_
    replace k := ok_bind k
    obtain ⟨h_16, e_17, k⟩ := k
    refine wq_sI dX11_byClock_132 e_17 ?_
    refine wp_iload_n dX11_byClock_133 rfl ?_
    refine wp_iret rfl rfl dX11_byClock_134 ?_
    exact (ok_some k :)
  · replace k := ok_t c_5 k
    refine wp_iconst dX11_byClock_17 ic_m1 ?_
    refine wp_iret rfl rfl dX11_byClock_18 ?_
    exact (ok_some k :)
theorem c_X11_byClock {S : SH} {d : Nat} {K : Option Value → AH → Prop} (hd : 8 ≤ d)  {r0 : Nat} {x1 : Int32} {h : AH} (k : ok (f_X11_byClock S r0 x1 h) (fun w h' => K (some (.int w)) h')) : CP S M_X11_byClock d 0 0 [.ref r0, .int x1] h K := cp_of (by decide) (fun _ _ => trivial) (fun _ => Nat.le_of_ble_eq_true rfl) (s_X11_byClock hd  k)
def f_X11_spoilt_l49b (S : SH) (rc : Nat → Int32 → Int32 → Int32 → Int32 → Int32 → Int32 → AH → Option ((Int32 × Int32 × Int32) × AH)) (r0 : Nat) (x2 : Int32) (x3 : Int32) (x4 : Int32) (x5 : Int32) (x6 : Int32) (x7 : Int32) (h : AH) : Option ((Int32 × Int32 × Int32) × AH) :=
  if x3 < x7 then
    some ((x2, x5, x6), h)
  else
    if (x7 &&& (x3 ^^^ (-1 : Int32))) = (0 : Int32) then
      (f_X11_ones S x7 h).bind fun z => match z with
      | (z_5, h_4) =>
      if x5 ≤ z_5 then
        lt (x7 + (1 : Int32)) fun y_7 =>
        rc r0 x2 x3 x4 x5 x6 y_7 h_4
      else
        (ckO S h_4 r0 11).bind fun _ =>
        (f_X11_carries S r0 ((x3 &&& (x7 ^^^ (-1 : Int32)))) ((x4 &&& (x7 ^^^ (-1 : Int32)))) h_4).bind fun z => match z with
        | (z_10, h_9) =>
        if z_10 = (0 : Int32) then
          (f_X11_ones S x7 h_9).bind fun z => match z with
          | (z_14, h_13) =>
          lt (x7 + (1 : Int32)) fun y_15 =>
          rc r0 x2 x3 x4 z_14 x7 y_15 h_13
        else
          lt (x7 + (1 : Int32)) fun y_12 =>
          rc r0 x2 x3 x4 x5 x6 y_12 h_9
    else
      lt (x7 + (1 : Int32)) fun y_3 =>
      rc r0 x2 x3 x4 x5 x6 y_3 h
set_option maxHeartbeats 8000000 in
set_option maxRecDepth 20000 in
theorem s_X11_spoilt_l49b {S : SH} {d cb sb : Nat} {Q : Option Value → AH → Prop} (hd : 8 ≤ d) {K : (Int32 × Int32 × Int32) → AH → Prop} (hex : ∀ (x2 : Int32) (x5 : Int32) (x6 : Int32) (h' : AH), K (x2, x5, x6) h' → WP S M_X11_spoilt d cb sb Q 111 [JK, JK, .int x2, JK, JK, .int x5, .int x6, JK] [] h') {rc : Nat → Int32 → Int32 → Int32 → Int32 → Int32 → Int32 → AH → Option ((Int32 × Int32 × Int32) × AH)} (hrec : ∀ (r0 : Nat) (x2 : Int32) (x3 : Int32) (x4 : Int32) (x5 : Int32) (x6 : Int32) (x7 : Int32) (h' : AH), ok (rc r0 x2 x3 x4 x5 x6 x7 h') K → WP S M_X11_spoilt d cb sb Q 49 [.ref r0, JK, .int x2, .int x3, .int x4, .int x5, .int x6, .int x7] [] h') {r0 : Nat} {x2 : Int32} {x3 : Int32} {x4 : Int32} {x5 : Int32} {x6 : Int32} {x7 : Int32} {h : AH} (k : ok (f_X11_spoilt_l49b S rc r0 x2 x3 x4 x5 x6 x7 h) K) : WP S M_X11_spoilt d cb sb Q 49 [.ref r0, JK, .int x2, .int x3, .int x4, .int x5, .int x6, .int x7] [] h := by
  obtain ⟨d, rfl, he⟩ := dp (L := 7) hd
  unfold f_X11_spoilt_l49b at k
  refine wp_iload dX11_spoilt_49 rfl ?_
  refine wp_iload_n dX11_spoilt_51 rfl ?_
  refine wp_icmp_gt 111 dX11_spoilt_52 (by decide) (fun c_1 => ?_) (fun c_1 => ?_)
  · replace k := ok_t c_1 k
    exact wp_wk (wkJ <| wkJ <| wkE <| wkJ <| wkJ <| wkE <| wkE <| wkJ <| wkN) (hex _ _ _ _ (ok_some k))
  · replace k := ok_f c_1 k
    refine wp_iload dX11_spoilt_55 rfl ?_
    refine wp_iload_n dX11_spoilt_57 rfl ?_
    refine wp_iconst dX11_spoilt_58 ic_m1 ?_
    refine wp_ixor dX11_spoilt_59 ?_
    refine wp_iand dX11_spoilt_60 ?_
    refine wp_if_ne 105 dX11_spoilt_61 (by decide) (fun c_2 => ?_) (fun c_2 => ?_)
    · replace k := ok_f c_2 k
      replace k := ok_lt k
      refine wp_iinc dX11_spoilt_105 rfl ic_1 (by decide) (L1 := [_, _, _, _, _, _, _, _]) rfl ?_
      refine wp_goto 49 dX11_spoilt_108 (by decide) ?_
      exact wp_wk (wkE <| wkJ <| wkE <| wkE <| wkE <| wkE <| wkE <| wkE <| wkN) (hrec _ _ _ _ _ _ _ _ k)
    · replace k := ok_t c_2 k
      refine wp_iload dX11_spoilt_64 rfl ?_
      refine wp_callS1 (N := M_X11_ones) mf_X11_ones ms_X11_ones ml_X11_439 dX11_spoilt_66 (by exact Nat.le_of_ble_eq_true rfl) (c_X11_ones (Nat.le_trans (by decide) he) (ok_mono (ok_bind2 k) fun z_5 h_4 k => ?_))
      try dsimp only at k
      refine wp_iload dX11_spoilt_69 rfl ?_
      refine wp_icmp_ge 105 dX11_spoilt_71 (by decide) (fun c_6 => ?_) (fun c_6 => ?_)
      · replace k := ok_t c_6 k
        replace k := ok_lt k
        refine wp_iinc dX11_spoilt_105 rfl ic_1 (by decide) (L1 := [_, _, _, _, _, _, _, _]) rfl ?_
        refine wp_goto 49 dX11_spoilt_108 (by decide) ?_
        exact wp_wk (wkE <| wkJ <| wkE <| wkE <| wkE <| wkE <| wkE <| wkE <| wkN) (hrec _ _ _ _ _ _ _ _ k)
      · replace k := ok_f c_6 k
        refine wp_aload_n dX11_spoilt_74 rfl ?_
        refine wp_iload_n dX11_spoilt_75 rfl ?_
        refine wp_iload dX11_spoilt_76 rfl ?_
        refine wp_iconst dX11_spoilt_78 ic_m1 ?_
        refine wp_ixor dX11_spoilt_79 ?_
        refine wp_iand dX11_spoilt_80 ?_
        refine wp_iload dX11_spoilt_81 rfl ?_
        refine wp_iload dX11_spoilt_83 rfl ?_
        refine wp_iconst dX11_spoilt_85 ic_m1 ?_
        refine wp_ixor dX11_spoilt_86 ?_
        refine wp_iand dX11_spoilt_87 ?_
        replace k := ok_bind k
        obtain ⟨u, e_8, k⟩ := k
        refine wp_callV2 (N := M_X11_carries) (ci := 11) mf_X11_carries mi_X11_carries me_X11_carries ml_X11_442 dX11_spoilt_88 (ckO_e e_8) mv_X11_carries (by exact Nat.le_of_ble_eq_true rfl) (c_X11_carries (Nat.le_trans (by decide) he) (ok_mono (ok_bind2 k) fun z_10 h_9 k => ?_))
        try dsimp only at k
        refine wp_if_ne 105 dX11_spoilt_91 (by decide) (fun c_11 => ?_) (fun c_11 => ?_)
        · replace k := ok_f c_11 k
          replace k := ok_lt k
          refine wp_iinc dX11_spoilt_105 rfl ic_1 (by decide) (L1 := [_, _, _, _, _, _, _, _]) rfl ?_
          refine wp_goto 49 dX11_spoilt_108 (by decide) ?_
          exact wp_wk (wkE <| wkJ <| wkE <| wkE <| wkE <| wkE <| wkE <| wkE <| wkN) (hrec _ _ _ _ _ _ _ _ k)
        · replace k := ok_t c_11 k
          refine wp_iload dX11_spoilt_94 rfl ?_
          refine wp_callS1 (N := M_X11_ones) mf_X11_ones ms_X11_ones ml_X11_439 dX11_spoilt_96 (by exact Nat.le_of_ble_eq_true rfl) (c_X11_ones (Nat.le_trans (by decide) he) (ok_mono (ok_bind2 k) fun z_14 h_13 k => ?_))
          try dsimp only at k
          refine wp_istore dX11_spoilt_99 (by decide) (L1 := [_, _, _, _, _, _, _, _]) rfl ?_
          refine wp_iload dX11_spoilt_101 rfl ?_
          refine wp_istore dX11_spoilt_103 (by decide) (L1 := [_, _, _, _, _, _, _, _]) rfl ?_
          replace k := ok_lt k
          refine wp_iinc dX11_spoilt_105 rfl ic_1 (by decide) (L1 := [_, _, _, _, _, _, _, _]) rfl ?_
          refine wp_goto 49 dX11_spoilt_108 (by decide) ?_
          exact wp_wk (wkE <| wkJ <| wkE <| wkE <| wkE <| wkE <| wkE <| wkE <| wkN) (hrec _ _ _ _ _ _ _ _ k)
def f_X11_spoilt_l49 (S : SH) : Nat → Nat → Int32 → Int32 → Int32 → Int32 → Int32 → Int32 → AH → Option ((Int32 × Int32 × Int32) × AH)
  | 0, _, _, _, _, _, _, _, _ => none
  | n + 1, r0, x2, x3, x4, x5, x6, x7, h => f_X11_spoilt_l49b S (f_X11_spoilt_l49 S n) r0 x2 x3 x4 x5 x6 x7 h
theorem s_X11_spoilt_l49 {S : SH} {d cb sb : Nat} {Q : Option Value → AH → Prop} (hd : 8 ≤ d) {K : (Int32 × Int32 × Int32) → AH → Prop} (hex : ∀ (x2 : Int32) (x5 : Int32) (x6 : Int32) (h' : AH), K (x2, x5, x6) h' → WP S M_X11_spoilt d cb sb Q 111 [JK, JK, .int x2, JK, JK, .int x5, .int x6, JK] [] h') : ∀ (n : Nat) (r0 : Nat) (x2 : Int32) (x3 : Int32) (x4 : Int32) (x5 : Int32) (x6 : Int32) (x7 : Int32) (h : AH), ok (f_X11_spoilt_l49 S n r0 x2 x3 x4 x5 x6 x7 h) K → WP S M_X11_spoilt d cb sb Q 49 [.ref r0, JK, .int x2, .int x3, .int x4, .int x5, .int x6, .int x7] [] h := by
  intro n
  induction n with
  | zero => intro r0 x2 x3 x4 x5 x6 x7 h k; exact ok_none k
  | succ n ih => intro r0 x2 x3 x4 x5 x6 x7 h k; exact s_X11_spoilt_l49b hd hex (fun r0 x2 x3 x4 x5 x6 x7 h k => ih r0 x2 x3 x4 x5 x6 x7 h k) k
def f_X11_spoilt (S : SH) (r0 : Nat) (x1 : Int32) (x2 : Int32) (h : AH) : Option (Int32 × AH) :=
  (pI S h r0 11 0 (0 : Int32)).bind fun h_1 =>
  (ckO S h_1 r0 11).bind fun _ =>
  (f_X11_isMatter S r0 x1 h_1).bind fun z => match z with
  | (z_5, h_4) =>
  if z_5 = (0 : Int32) then
    some ((-1 : Int32), h_4)
  else
    (f_X11_in S (Int32.toInt64 x2) (0 : Int64) (1 : Int64) h_4).bind fun z => match z with
    | (z_8, h_7) =>
    if z_8 = (0 : Int32) then
      some ((-1 : Int32), h_7)
    else
      (ckO S h_7 r0 11).bind fun _ =>
      (f_X11_sitting S r0 x1 h_7).bind fun z => match z with
      | (z_12, h_11) =>
      (ckO S h_11 r0 11).bind fun _ =>
      (f_X11_ayes S r0 x1 h_11).bind fun z => match z with
      | (z_15, h_14) =>
      (f_X11_spoilt_l49 S FU r0 x2 z_12 z_15 (100000000 : Int32) (0 : Int32) (0 : Int32) h_14).bind fun z => match z with
      | ((x2_17, x5_18, x6_19), h_16) =>
      if x2_17 = (0 : Int32) then
        some (x5_18, h_16)
      else
        some (x6_19, h_16)
set_option maxHeartbeats 8000000 in
set_option maxRecDepth 20000 in
theorem s_X11_spoilt {S : SH} {d cb sb : Nat} {Q : Option Value → AH → Prop} (hd : 8 ≤ d)  {r0 : Nat} {x1 : Int32} {x2 : Int32} {h : AH} (k : ok (f_X11_spoilt S r0 x1 x2 h) (fun w h' => Q (some (.int w)) h')) : WP S M_X11_spoilt d cb sb Q 0 [.ref r0, .int x1, .int x2, JK, JK, JK, JK, JK] [] h := by
  obtain ⟨d, rfl, he⟩ := dp (L := 7) hd
  unfold f_X11_spoilt at k
  refine wp_aload_n dX11_spoilt_0 rfl ?_
  refine wp_iconst dX11_spoilt_1 ic_0 ?_
  replace k := ok_bind k
  obtain ⟨h_1, e_2, k⟩ := k
  refine wq_putI fl_X11_152 rfl rfl dX11_spoilt_2 e_2 ?_
  refine wp_aload_n dX11_spoilt_5 rfl ?_
  refine wp_iload_n dX11_spoilt_6 rfl ?_
  replace k := ok_bind k
  obtain ⟨u, e_3, k⟩ := k
  refine wp_callV1 (N := M_X11_isMatter) (ci := 11) mf_X11_isMatter mi_X11_isMatter me_X11_isMatter ml_X11_213 dX11_spoilt_7 (ckO_e e_3) mv_X11_isMatter (by exact Nat.le_of_ble_eq_true rfl) (c_X11_isMatter (Nat.le_trans (by decide) he) (ok_mono (ok_bind2 k) fun z_5 h_4 k => ?_))
  try dsimp only at k
  refine wp_if_eq 23 dX11_spoilt_10 (by decide) (fun c_6 => ?_) (fun c_6 => ?_)
  · replace k := ok_t c_6 k
    refine wp_iconst dX11_spoilt_23 ic_m1 ?_
    refine wp_iret rfl rfl dX11_spoilt_24 ?_
    exact (ok_some k :)
  · replace k := ok_f c_6 k
    refine wp_iload_n dX11_spoilt_13 rfl ?_
    refine wp_i2l dX11_spoilt_14 ?_
    refine wp_lconst dX11_spoilt_15 lc_0 ?_
    refine wp_lconst dX11_spoilt_16 lc_1 ?_
    refine wp_callS3 (N := M_X11_in) mf_X11_in ms_X11_in ml_X11_172 dX11_spoilt_17 (by exact Nat.le_of_ble_eq_true rfl) (c_X11_in (Nat.le_trans (by decide) he) (ok_mono (ok_bind2 k) fun z_8 h_7 k => ?_))
    try dsimp only at k
    refine wp_if_ne 25 dX11_spoilt_20 (by decide) (fun c_9 => ?_) (fun c_9 => ?_)
    · replace k := ok_f c_9 k
      refine wp_aload_n dX11_spoilt_25 rfl ?_
      refine wp_iload_n dX11_spoilt_26 rfl ?_
      replace k := ok_bind k
      obtain ⟨u, e_10, k⟩ := k
      refine wp_callV1 (N := M_X11_sitting) (ci := 11) mf_X11_sitting mi_X11_sitting me_X11_sitting ml_X11_228 dX11_spoilt_27 (ckO_e e_10) mv_X11_sitting (by exact Nat.le_of_ble_eq_true rfl) (c_X11_sitting (Nat.le_trans (by decide) he) (ok_mono (ok_bind2 k) fun z_12 h_11 k => ?_))
      try dsimp only at k
      refine wp_istore_n dX11_spoilt_30 (by decide) (L1 := [_, _, _, _, _, _, _, _]) rfl ?_
      refine wp_aload_n dX11_spoilt_31 rfl ?_
      refine wp_iload_n dX11_spoilt_32 rfl ?_
      replace k := ok_bind k
      obtain ⟨u, e_13, k⟩ := k
      refine wp_callV1 (N := M_X11_ayes) (ci := 11) mf_X11_ayes mi_X11_ayes me_X11_ayes ml_X11_231 dX11_spoilt_33 (ckO_e e_13) mv_X11_ayes (by exact Nat.le_of_ble_eq_true rfl) (c_X11_ayes (Nat.le_trans (by decide) he) (ok_mono (ok_bind2 k) fun z_15 h_14 k => ?_))
      try dsimp only at k
      refine wp_istore dX11_spoilt_36 (by decide) (L1 := [_, _, _, _, _, _, _, _]) rfl ?_
      refine wp_ldcw ct_X11_481 dX11_spoilt_38 ?_
      refine wp_istore dX11_spoilt_41 (by decide) (L1 := [_, _, _, _, _, _, _, _]) rfl ?_
      refine wp_iconst dX11_spoilt_43 ic_0 ?_
      refine wp_istore dX11_spoilt_44 (by decide) (L1 := [_, _, _, _, _, _, _, _]) rfl ?_
      refine wp_iconst dX11_spoilt_46 ic_0 ?_
      refine wp_istore dX11_spoilt_47 (by decide) (L1 := [_, _, _, _, _, _, _, _]) rfl ?_
      refine wp_wk (wkE <| wkJ <| wkE <| wkE <| wkE <| wkE <| wkE <| wkE <| wkN) ?_
      refine s_X11_spoilt_l49 (Nat.succ_le_succ he) (fun x2_17 x5_18 x6_19 h_16 k => ?_) FU _ _ _ _ _ _ _ _ (ok_bind2 k)
      try dsimp only at k
      refine wp_iload_n dX11_spoilt_111 rfl ?_
      refine wp_if_ne 120 dX11_spoilt_112 (by decide) (fun c_20 => ?_) (fun c_20 => ?_)
      · replace k := ok_f c_20 k
        refine wp_iload dX11_spoilt_120 rfl ?_
        refine wp_iret rfl rfl dX11_spoilt_122 ?_
        exact (ok_some k :)
      · replace k := ok_t c_20 k
        refine wp_iload dX11_spoilt_115 rfl ?_
        refine wp_goto 122 dX11_spoilt_117 (by decide) ?_
        refine wp_iret rfl rfl dX11_spoilt_122 ?_
        exact (ok_some k :)
    · replace k := ok_t c_9 k
      refine wp_iconst dX11_spoilt_23 ic_m1 ?_
      refine wp_iret rfl rfl dX11_spoilt_24 ?_
      exact (ok_some k :)
theorem c_X11_spoilt {S : SH} {d : Nat} {K : Option Value → AH → Prop} (hd : 8 ≤ d)  {r0 : Nat} {x1 : Int32} {x2 : Int32} {h : AH} (k : ok (f_X11_spoilt S r0 x1 x2 h) (fun w h' => K (some (.int w)) h')) : CP S M_X11_spoilt d 0 0 [.ref r0, .int x1, .int x2] h K := cp_of (by decide) (fun _ _ => trivial) (fun _ => Nat.le_of_ble_eq_true rfl) (s_X11_spoilt hd  k)
def f_X11_come_l50_j80 (S : SH) (rc : Nat → Int32 → Int32 → Int32 → Int32 → Int32 → Int32 → AH → Option ((Nat × Int32 × Int32 × Int32 × Int32 × Int32) × AH)) (r0 : Nat) (x1 : Int32) (x2 : Int32) (x3 : Int32) (x4 : Int32) (x6 : Int32) (sx0 : Int32) (sx1 : Int32) (h : AH) : Option ((Nat × Int32 × Int32 × Int32 × Int32 × Int32) × AH) :=
  lt ((sx0 ||| sx1)) fun y_1 =>
  (gR S h r0 11 3).bind fun p_2 =>
  (ckO S h r0 11).bind fun _ =>
  (f_X11_isAway S r0 x6 h).bind fun z => match z with
  | (z_6, h_5) =>
  if z_6 = (0 : Int32) then
    (gR S h_5 r0 11 3).bind fun p_8 =>
    (aI S h_5 p_8 ((10 : Int32) + x6)).bind fun v_10 =>
    (sI S h_5 p_2 ((10 : Int32) + x6) v_10).bind fun h_12 =>
    lt (x6 + (1 : Int32)) fun y_14 =>
    rc r0 x1 x2 x3 x4 y_1 y_14 h_12
  else
    (sI S h_5 p_2 ((10 : Int32) + x6) (0 : Int32)).bind fun h_15 =>
    lt (x6 + (1 : Int32)) fun y_17 =>
    rc r0 x1 x2 x3 x4 y_1 y_17 h_15
set_option maxHeartbeats 8000000 in
set_option maxRecDepth 20000 in
theorem s_X11_come_l50_j80 {S : SH} {d cb sb : Nat} {Q : Option Value → AH → Prop} (hd : 8 ≤ d) {K : (Nat × Int32 × Int32 × Int32 × Int32 × Int32) → AH → Prop} (hex : ∀ (r0 : Nat) (x1 : Int32) (x2 : Int32) (x3 : Int32) (x4 : Int32) (x5 : Int32) (h' : AH), K (r0, x1, x2, x3, x4, x5) h' → WP S M_X11_come d cb sb Q 122 [.ref r0, .int x1, .int x2, .int x3, .int x4, .int x5, JK, JK, JK, JK, JK] [] h') {rc : Nat → Int32 → Int32 → Int32 → Int32 → Int32 → Int32 → AH → Option ((Nat × Int32 × Int32 × Int32 × Int32 × Int32) × AH)} (hrec : ∀ (r0 : Nat) (x1 : Int32) (x2 : Int32) (x3 : Int32) (x4 : Int32) (x5 : Int32) (x6 : Int32) (h' : AH), ok (rc r0 x1 x2 x3 x4 x5 x6 h') K → WP S M_X11_come d cb sb Q 50 [.ref r0, .int x1, .int x2, .int x3, .int x4, .int x5, .int x6, JK, JK, JK, JK] [] h') {r0 : Nat} {x1 : Int32} {x2 : Int32} {x3 : Int32} {x4 : Int32} {x6 : Int32} {sx0 : Int32} {sx1 : Int32} {h : AH} (k : ok (f_X11_come_l50_j80 S rc r0 x1 x2 x3 x4 x6 sx0 sx1 h) K) : WP S M_X11_come d cb sb Q 80 [.ref r0, .int x1, .int x2, .int x3, .int x4, JK, .int x6, JK, JK, JK, JK] [.int sx1, .int sx0] h := by
  obtain ⟨d, rfl, he⟩ := dp (L := 7) hd
  unfold f_X11_come_l50_j80 at k
  refine wp_ior dX11_come_80 ?_
  replace k := ok_lt k
  refine wp_istore dX11_come_81 (by decide) (L1 := [_, _, _, _, _, _, _, _, _, _, _]) rfl ?_
  refine wp_aload_n dX11_come_83 rfl ?_
  replace k := ok_bind k
  obtain ⟨p_2, e_3, k⟩ := k
  refine wq_getR fl_X11_13 (Or.inr ⟨_, rfl⟩) dX11_come_84 e_3 ?_
  refine wp_bipush dX11_come_87 bp_10 ?_
  refine wp_iload dX11_come_89 rfl ?_
  refine wp_iadd dX11_come_91 ?_
  refine wp_aload_n dX11_come_92 rfl ?_
  refine wp_iload dX11_come_93 rfl ?_
  replace k := ok_bind k
  obtain ⟨u, e_4, k⟩ := k
  refine wp_callV1 (N := M_X11_isAway) (ci := 11) mf_X11_isAway mi_X11_isAway me_X11_isAway ml_X11_183 dX11_come_95 (ckO_e e_4) mv_X11_isAway (by exact Nat.le_of_ble_eq_true rfl) (c_X11_isAway (Nat.le_trans (by decide) he) (ok_mono (ok_bind2 k) fun z_6 h_5 k => ?_))
  try dsimp only at k
  refine wp_if_eq 105 dX11_come_98 (by decide) (fun c_7 => ?_) (fun c_7 => ?_)
  · replace k := ok_t c_7 k
    refine wp_aload_n dX11_come_105 rfl ?_
    replace k := ok_bind k
    obtain ⟨p_8, e_9, k⟩ := k
    refine wq_getR fl_X11_13 (Or.inr ⟨_, rfl⟩) dX11_come_106 e_9 ?_
    refine wp_bipush dX11_come_109 bp_10 ?_
    refine wp_iload dX11_come_111 rfl ?_
    refine wp_iadd dX11_come_113 ?_
    replace k := ok_bind k
    obtain ⟨v_10, e_11, k⟩ := k
    refine wq_aI dX11_come_114 e_11 ?_
    replace k := ok_bind k
    obtain ⟨h_12, e_13, k⟩ := k
    refine wq_sI dX11_come_115 e_13 ?_
    replace k := ok_lt k
    refine wp_iinc dX11_come_116 rfl ic_1 (by decide) (L1 := [_, _, _, _, _, _, _, _, _, _, _]) rfl ?_
    refine wp_goto 50 dX11_come_119 (by decide) ?_
    exact wp_wk (wkE <| wkE <| wkE <| wkE <| wkE <| wkE <| wkE <| wkJ <| wkJ <| wkJ <| wkJ <| wkN) (hrec _ _ _ _ _ _ _ _ k)
  · replace k := ok_f c_7 k
    refine wp_iconst dX11_come_101 ic_0 ?_
    refine wp_goto 115 dX11_come_102 (by decide) ?_
    replace k := ok_bind k
    obtain ⟨h_15, e_16, k⟩ := k
    refine wq_sI dX11_come_115 e_16 ?_
    replace k := ok_lt k
    refine wp_iinc dX11_come_116 rfl ic_1 (by decide) (L1 := [_, _, _, _, _, _, _, _, _, _, _]) rfl ?_
    refine wp_goto 50 dX11_come_119 (by decide) ?_
    exact wp_wk (wkE <| wkE <| wkE <| wkE <| wkE <| wkE <| wkE <| wkJ <| wkJ <| wkJ <| wkJ <| wkN) (hrec _ _ _ _ _ _ _ _ k)
def f_X11_come_l50b (S : SH) (rc : Nat → Int32 → Int32 → Int32 → Int32 → Int32 → Int32 → AH → Option ((Nat × Int32 × Int32 × Int32 × Int32 × Int32) × AH)) (r0 : Nat) (x1 : Int32) (x2 : Int32) (x3 : Int32) (x4 : Int32) (x5 : Int32) (x6 : Int32) (h : AH) : Option ((Nat × Int32 × Int32 × Int32 × Int32 × Int32) × AH) :=
  (gR S h r0 11 3).bind fun p_1 =>
  (aI S h p_1 (0 : Int32)).bind fun v_3 =>
  if v_3 ≤ x6 then
    some ((r0, x1, x2, x3, x4, x5), h)
  else
    (ckO S h r0 11).bind fun _ =>
    (f_X11_isAway S r0 x6 h).bind fun z => match z with
    | (z_8, h_7) =>
    if z_8 = (0 : Int32) then
      f_X11_come_l50_j80 S rc r0 x1 x2 x3 x4 x6 x5 (0 : Int32) h_7
    else
      f_X11_come_l50_j80 S rc r0 x1 x2 x3 x4 x6 x5 ((1 : Int32) <<< (x6 &&& (31 : Int32))) h_7
set_option maxHeartbeats 8000000 in
set_option maxRecDepth 20000 in
theorem s_X11_come_l50b {S : SH} {d cb sb : Nat} {Q : Option Value → AH → Prop} (hd : 8 ≤ d) {K : (Nat × Int32 × Int32 × Int32 × Int32 × Int32) → AH → Prop} (hex : ∀ (r0 : Nat) (x1 : Int32) (x2 : Int32) (x3 : Int32) (x4 : Int32) (x5 : Int32) (h' : AH), K (r0, x1, x2, x3, x4, x5) h' → WP S M_X11_come d cb sb Q 122 [.ref r0, .int x1, .int x2, .int x3, .int x4, .int x5, JK, JK, JK, JK, JK] [] h') {rc : Nat → Int32 → Int32 → Int32 → Int32 → Int32 → Int32 → AH → Option ((Nat × Int32 × Int32 × Int32 × Int32 × Int32) × AH)} (hrec : ∀ (r0 : Nat) (x1 : Int32) (x2 : Int32) (x3 : Int32) (x4 : Int32) (x5 : Int32) (x6 : Int32) (h' : AH), ok (rc r0 x1 x2 x3 x4 x5 x6 h') K → WP S M_X11_come d cb sb Q 50 [.ref r0, .int x1, .int x2, .int x3, .int x4, .int x5, .int x6, JK, JK, JK, JK] [] h') {r0 : Nat} {x1 : Int32} {x2 : Int32} {x3 : Int32} {x4 : Int32} {x5 : Int32} {x6 : Int32} {h : AH} (k : ok (f_X11_come_l50b S rc r0 x1 x2 x3 x4 x5 x6 h) K) : WP S M_X11_come d cb sb Q 50 [.ref r0, .int x1, .int x2, .int x3, .int x4, .int x5, .int x6, JK, JK, JK, JK] [] h := by
  obtain ⟨d, rfl, he⟩ := dp (L := 7) hd
  unfold f_X11_come_l50b at k
  refine wp_iload dX11_come_50 rfl ?_
  refine wp_aload_n dX11_come_52 rfl ?_
  replace k := ok_bind k
  obtain ⟨p_1, e_2, k⟩ := k
  refine wq_getR fl_X11_13 (Or.inr ⟨_, rfl⟩) dX11_come_53 e_2 ?_
  refine wp_iconst dX11_come_56 ic_0 ?_
  replace k := ok_bind k
  obtain ⟨v_3, e_4, k⟩ := k
  refine wq_aI dX11_come_57 e_4 ?_
  refine wp_icmp_ge 122 dX11_come_58 (by decide) (fun c_5 => ?_) (fun c_5 => ?_)
  · replace k := ok_t c_5 k
    exact wp_wk (wkE <| wkE <| wkE <| wkE <| wkE <| wkE <| wkJ <| wkJ <| wkJ <| wkJ <| wkJ <| wkN) (hex _ _ _ _ _ _ _ (ok_some k))
  · replace k := ok_f c_5 k
    refine wp_iload dX11_come_61 rfl ?_
    refine wp_aload_n dX11_come_63 rfl ?_
    refine wp_iload dX11_come_64 rfl ?_
    replace k := ok_bind k
    obtain ⟨u, e_6, k⟩ := k
    refine wp_callV1 (N := M_X11_isAway) (ci := 11) mf_X11_isAway mi_X11_isAway me_X11_isAway ml_X11_183 dX11_come_66 (ckO_e e_6) mv_X11_isAway (by exact Nat.le_of_ble_eq_true rfl) (c_X11_isAway (Nat.le_trans (by decide) he) (ok_mono (ok_bind2 k) fun z_8 h_7 k => ?_))
    try dsimp only at k
    refine wp_if_eq 79 dX11_come_69 (by decide) (fun c_9 => ?_) (fun c_9 => ?_)
    · replace k := ok_t c_9 k
      refine wp_iconst dX11_come_79 ic_0 ?_
      exact wp_wk (wkE <| wkE <| wkE <| wkE <| wkE <| wkJ <| wkE <| wkJ <| wkJ <| wkJ <| wkJ <| wkN) (s_X11_come_l50_j80 (Nat.succ_le_succ he) hex hrec k)
    · replace k := ok_f c_9 k
      refine wp_iconst dX11_come_72 ic_1 ?_
      refine wp_iload dX11_come_73 rfl ?_
      refine wp_ishl dX11_come_75 ?_
      refine wp_goto 80 dX11_come_76 (by decide) ?_
      exact wp_wk (wkE <| wkE <| wkE <| wkE <| wkE <| wkJ <| wkE <| wkJ <| wkJ <| wkJ <| wkJ <| wkN) (s_X11_come_l50_j80 (Nat.succ_le_succ he) hex hrec k)
def f_X11_come_l50 (S : SH) : Nat → Nat → Int32 → Int32 → Int32 → Int32 → Int32 → Int32 → AH → Option ((Nat × Int32 × Int32 × Int32 × Int32 × Int32) × AH)
  | 0, _, _, _, _, _, _, _, _ => none
  | n + 1, r0, x1, x2, x3, x4, x5, x6, h => f_X11_come_l50b S (f_X11_come_l50 S n) r0 x1 x2 x3 x4 x5 x6 h
theorem s_X11_come_l50 {S : SH} {d cb sb : Nat} {Q : Option Value → AH → Prop} (hd : 8 ≤ d) {K : (Nat × Int32 × Int32 × Int32 × Int32 × Int32) → AH → Prop} (hex : ∀ (r0 : Nat) (x1 : Int32) (x2 : Int32) (x3 : Int32) (x4 : Int32) (x5 : Int32) (h' : AH), K (r0, x1, x2, x3, x4, x5) h' → WP S M_X11_come d cb sb Q 122 [.ref r0, .int x1, .int x2, .int x3, .int x4, .int x5, JK, JK, JK, JK, JK] [] h') : ∀ (n : Nat) (r0 : Nat) (x1 : Int32) (x2 : Int32) (x3 : Int32) (x4 : Int32) (x5 : Int32) (x6 : Int32) (h : AH), ok (f_X11_come_l50 S n r0 x1 x2 x3 x4 x5 x6 h) K → WP S M_X11_come d cb sb Q 50 [.ref r0, .int x1, .int x2, .int x3, .int x4, .int x5, .int x6, JK, JK, JK, JK] [] h := by
  intro n
  induction n with
  | zero => intro r0 x1 x2 x3 x4 x5 x6 h k; exact ok_none k
  | succ n ih => intro r0 x1 x2 x3 x4 x5 x6 h k; exact s_X11_come_l50b hd hex (fun r0 x1 x2 x3 x4 x5 x6 h k => ih r0 x1 x2 x3 x4 x5 x6 h k) k
def f_X11_come_l159b (S : SH) (rc : Nat → Int32 → Int32 → Int32 → Int32 → Int32 → Int32 → Int32 → Int32 → Int32 → AH → Option ((Int32 × Int32 × Int32) × AH)) (r0 : Nat) (x2 : Int32) (x3 : Int32) (x4 : Int32) (x5 : Int32) (x6 : Int32) (x7 : Int32) (x8 : Int32) (x9 : Int32) (x10 : Int32) (h : AH) : Option ((Int32 × Int32 × Int32) × AH) :=
  if x5 < x10 then
    some ((x2, x8, x9), h)
  else
    if (x10 &&& (x5 ^^^ (-1 : Int32))) = (0 : Int32) then
      (f_X11_ones S x10 h).bind fun z => match z with
      | (z_5, h_4) =>
      if x8 ≤ z_5 then
        lt (x10 + (1 : Int32)) fun y_7 =>
        rc r0 x2 x3 x4 x5 x6 x7 x8 x9 y_7 h_4
      else
        (ckO S h_4 r0 11).bind fun _ =>
        (f_X11_carries S r0 ((x3 ||| (x10 &&& x6))) ((x4 ||| (x10 &&& x7))) h_4).bind fun z => match z with
        | (z_10, h_9) =>
        if z_10 = (0 : Int32) then
          lt (x10 + (1 : Int32)) fun y_12 =>
          rc r0 x2 x3 x4 x5 x6 x7 x8 x9 y_12 h_9
        else
          (f_X11_ones S x10 h_9).bind fun z => match z with
          | (z_14, h_13) =>
          lt (x10 + (1 : Int32)) fun y_15 =>
          rc r0 x2 x3 x4 x5 x6 x7 z_14 x10 y_15 h_13
    else
      lt (x10 + (1 : Int32)) fun y_3 =>
      rc r0 x2 x3 x4 x5 x6 x7 x8 x9 y_3 h
set_option maxHeartbeats 8000000 in
set_option maxRecDepth 20000 in
theorem s_X11_come_l159b {S : SH} {d cb sb : Nat} {Q : Option Value → AH → Prop} (hd : 8 ≤ d) {K : (Int32 × Int32 × Int32) → AH → Prop} (hex : ∀ (x2 : Int32) (x8 : Int32) (x9 : Int32) (h' : AH), K (x2, x8, x9) h' → WP S M_X11_come d cb sb Q 225 [JK, JK, .int x2, JK, JK, JK, JK, JK, .int x8, .int x9, JK] [] h') {rc : Nat → Int32 → Int32 → Int32 → Int32 → Int32 → Int32 → Int32 → Int32 → Int32 → AH → Option ((Int32 × Int32 × Int32) × AH)} (hrec : ∀ (r0 : Nat) (x2 : Int32) (x3 : Int32) (x4 : Int32) (x5 : Int32) (x6 : Int32) (x7 : Int32) (x8 : Int32) (x9 : Int32) (x10 : Int32) (h' : AH), ok (rc r0 x2 x3 x4 x5 x6 x7 x8 x9 x10 h') K → WP S M_X11_come d cb sb Q 159 [.ref r0, JK, .int x2, .int x3, .int x4, .int x5, .int x6, .int x7, .int x8, .int x9, .int x10] [] h') {r0 : Nat} {x2 : Int32} {x3 : Int32} {x4 : Int32} {x5 : Int32} {x6 : Int32} {x7 : Int32} {x8 : Int32} {x9 : Int32} {x10 : Int32} {h : AH} (k : ok (f_X11_come_l159b S rc r0 x2 x3 x4 x5 x6 x7 x8 x9 x10 h) K) : WP S M_X11_come d cb sb Q 159 [.ref r0, JK, .int x2, .int x3, .int x4, .int x5, .int x6, .int x7, .int x8, .int x9, .int x10] [] h := by
  obtain ⟨d, rfl, he⟩ := dp (L := 7) hd
  unfold f_X11_come_l159b at k
  refine wp_iload dX11_come_159 rfl ?_
  refine wp_iload dX11_come_161 rfl ?_
  refine wp_icmp_gt 225 dX11_come_163 (by decide) (fun c_1 => ?_) (fun c_1 => ?_)
  · replace k := ok_t c_1 k
    exact wp_wk (wkJ <| wkJ <| wkE <| wkJ <| wkJ <| wkJ <| wkJ <| wkJ <| wkE <| wkE <| wkJ <| wkN) (hex _ _ _ _ (ok_some k))
  · replace k := ok_f c_1 k
    refine wp_iload dX11_come_166 rfl ?_
    refine wp_iload dX11_come_168 rfl ?_
    refine wp_iconst dX11_come_170 ic_m1 ?_
    refine wp_ixor dX11_come_171 ?_
    refine wp_iand dX11_come_172 ?_
    refine wp_if_ne 219 dX11_come_173 (by decide) (fun c_2 => ?_) (fun c_2 => ?_)
    · replace k := ok_f c_2 k
      replace k := ok_lt k
      refine wp_iinc dX11_come_219 rfl ic_1 (by decide) (L1 := [_, _, _, _, _, _, _, _, _, _, _]) rfl ?_
      refine wp_goto 159 dX11_come_222 (by decide) ?_
      exact wp_wk (wkE <| wkJ <| wkE <| wkE <| wkE <| wkE <| wkE <| wkE <| wkE <| wkE <| wkE <| wkN) (hrec _ _ _ _ _ _ _ _ _ _ _ k)
    · replace k := ok_t c_2 k
      refine wp_iload dX11_come_176 rfl ?_
      refine wp_callS1 (N := M_X11_ones) mf_X11_ones ms_X11_ones ml_X11_439 dX11_come_178 (by exact Nat.le_of_ble_eq_true rfl) (c_X11_ones (Nat.le_trans (by decide) he) (ok_mono (ok_bind2 k) fun z_5 h_4 k => ?_))
      try dsimp only at k
      refine wp_iload dX11_come_181 rfl ?_
      refine wp_icmp_ge 219 dX11_come_183 (by decide) (fun c_6 => ?_) (fun c_6 => ?_)
      · replace k := ok_t c_6 k
        replace k := ok_lt k
        refine wp_iinc dX11_come_219 rfl ic_1 (by decide) (L1 := [_, _, _, _, _, _, _, _, _, _, _]) rfl ?_
        refine wp_goto 159 dX11_come_222 (by decide) ?_
        exact wp_wk (wkE <| wkJ <| wkE <| wkE <| wkE <| wkE <| wkE <| wkE <| wkE <| wkE <| wkE <| wkN) (hrec _ _ _ _ _ _ _ _ _ _ _ k)
      · replace k := ok_f c_6 k
        refine wp_aload_n dX11_come_186 rfl ?_
        refine wp_iload_n dX11_come_187 rfl ?_
        refine wp_iload dX11_come_188 rfl ?_
        refine wp_iload dX11_come_190 rfl ?_
        refine wp_iand dX11_come_192 ?_
        refine wp_ior dX11_come_193 ?_
        refine wp_iload dX11_come_194 rfl ?_
        refine wp_iload dX11_come_196 rfl ?_
        refine wp_iload dX11_come_198 rfl ?_
        refine wp_iand dX11_come_200 ?_
        refine wp_ior dX11_come_201 ?_
        replace k := ok_bind k
        obtain ⟨u, e_8, k⟩ := k
        refine wp_callV2 (N := M_X11_carries) (ci := 11) mf_X11_carries mi_X11_carries me_X11_carries ml_X11_442 dX11_come_202 (ckO_e e_8) mv_X11_carries (by exact Nat.le_of_ble_eq_true rfl) (c_X11_carries (Nat.le_trans (by decide) he) (ok_mono (ok_bind2 k) fun z_10 h_9 k => ?_))
        try dsimp only at k
        refine wp_if_eq 219 dX11_come_205 (by decide) (fun c_11 => ?_) (fun c_11 => ?_)
        · replace k := ok_t c_11 k
          replace k := ok_lt k
          refine wp_iinc dX11_come_219 rfl ic_1 (by decide) (L1 := [_, _, _, _, _, _, _, _, _, _, _]) rfl ?_
          refine wp_goto 159 dX11_come_222 (by decide) ?_
          exact wp_wk (wkE <| wkJ <| wkE <| wkE <| wkE <| wkE <| wkE <| wkE <| wkE <| wkE <| wkE <| wkN) (hrec _ _ _ _ _ _ _ _ _ _ _ k)
        · replace k := ok_f c_11 k
          refine wp_iload dX11_come_208 rfl ?_
          refine wp_callS1 (N := M_X11_ones) mf_X11_ones ms_X11_ones ml_X11_439 dX11_come_210 (by exact Nat.le_of_ble_eq_true rfl) (c_X11_ones (Nat.le_trans (by decide) he) (ok_mono (ok_bind2 k) fun z_14 h_13 k => ?_))
          try dsimp only at k
          refine wp_istore dX11_come_213 (by decide) (L1 := [_, _, _, _, _, _, _, _, _, _, _]) rfl ?_
          refine wp_iload dX11_come_215 rfl ?_
          refine wp_istore dX11_come_217 (by decide) (L1 := [_, _, _, _, _, _, _, _, _, _, _]) rfl ?_
          replace k := ok_lt k
          refine wp_iinc dX11_come_219 rfl ic_1 (by decide) (L1 := [_, _, _, _, _, _, _, _, _, _, _]) rfl ?_
          refine wp_goto 159 dX11_come_222 (by decide) ?_
          exact wp_wk (wkE <| wkJ <| wkE <| wkE <| wkE <| wkE <| wkE <| wkE <| wkE <| wkE <| wkE <| wkN) (hrec _ _ _ _ _ _ _ _ _ _ _ k)
def f_X11_come_l159 (S : SH) : Nat → Nat → Int32 → Int32 → Int32 → Int32 → Int32 → Int32 → Int32 → Int32 → Int32 → AH → Option ((Int32 × Int32 × Int32) × AH)
  | 0, _, _, _, _, _, _, _, _, _, _, _ => none
  | n + 1, r0, x2, x3, x4, x5, x6, x7, x8, x9, x10, h => f_X11_come_l159b S (f_X11_come_l159 S n) r0 x2 x3 x4 x5 x6 x7 x8 x9 x10 h
theorem s_X11_come_l159 {S : SH} {d cb sb : Nat} {Q : Option Value → AH → Prop} (hd : 8 ≤ d) {K : (Int32 × Int32 × Int32) → AH → Prop} (hex : ∀ (x2 : Int32) (x8 : Int32) (x9 : Int32) (h' : AH), K (x2, x8, x9) h' → WP S M_X11_come d cb sb Q 225 [JK, JK, .int x2, JK, JK, JK, JK, JK, .int x8, .int x9, JK] [] h') : ∀ (n : Nat) (r0 : Nat) (x2 : Int32) (x3 : Int32) (x4 : Int32) (x5 : Int32) (x6 : Int32) (x7 : Int32) (x8 : Int32) (x9 : Int32) (x10 : Int32) (h : AH), ok (f_X11_come_l159 S n r0 x2 x3 x4 x5 x6 x7 x8 x9 x10 h) K → WP S M_X11_come d cb sb Q 159 [.ref r0, JK, .int x2, .int x3, .int x4, .int x5, .int x6, .int x7, .int x8, .int x9, .int x10] [] h := by
  intro n
  induction n with
  | zero => intro r0 x2 x3 x4 x5 x6 x7 x8 x9 x10 h k; exact ok_none k
  | succ n ih => intro r0 x2 x3 x4 x5 x6 x7 x8 x9 x10 h k; exact s_X11_come_l159b hd hex (fun r0 x2 x3 x4 x5 x6 x7 x8 x9 x10 h k => ih r0 x2 x3 x4 x5 x6 x7 x8 x9 x10 h k) k
def f_X11_come (S : SH) (r0 : Nat) (x1 : Int32) (x2 : Int32) (h : AH) : Option (Int32 × AH) :=
  (pI S h r0 11 0 (0 : Int32)).bind fun h_1 =>
  (ckO S h_1 r0 11).bind fun _ =>
  (f_X11_isMatter S r0 x1 h_1).bind fun z => match z with
  | (z_5, h_4) =>
  if z_5 = (0 : Int32) then
    some ((-1 : Int32), h_4)
  else
    (f_X11_in S (Int32.toInt64 x2) (0 : Int64) (1 : Int64) h_4).bind fun z => match z with
    | (z_8, h_7) =>
    if z_8 = (0 : Int32) then
      some ((-1 : Int32), h_7)
    else
      (ckO S h_7 r0 11).bind fun _ =>
      (f_X11_sitting S r0 x1 h_7).bind fun z => match z with
      | (z_12, h_11) =>
      (ckO S h_11 r0 11).bind fun _ =>
      (f_X11_ayes S r0 x1 h_11).bind fun z => match z with
      | (z_15, h_14) =>
      (ckO S h_14 r0 11).bind fun _ =>
      (f_X11_keepAll S r0 (16 : Int32) h_14).bind fun z => match z with
      | (_, h_17) =>
      (f_X11_come_l50 S FU r0 x1 x2 z_12 z_15 (0 : Int32) (0 : Int32) h_17).bind fun z => match z with
      | ((r0_20, x1_21, x2_22, x3_23, x4_24, x5_25), h_19) =>
      (ckO S h_19 r0_20 11).bind fun _ =>
      (f_X11_sitting S r0_20 x1_21 h_19).bind fun z => match z with
      | (z_28, h_27) =>
      lt ((z_28 &&& x5_25)) fun y_29 =>
      (ckO S h_27 r0_20 11).bind fun _ =>
      (f_X11_ayes S r0_20 x1_21 h_27).bind fun z => match z with
      | (z_32, h_31) =>
      lt ((z_32 &&& x5_25)) fun y_33 =>
      (ckO S h_31 r0_20 11).bind fun _ =>
      (f_X11_putBack S r0_20 (16 : Int32) h_31).bind fun z => match z with
      | (_, h_35) =>
      (f_X11_come_l159 S FU r0_20 x2_22 x3_23 x4_24 x5_25 y_29 y_33 (100000000 : Int32) (-1 : Int32) (0 : Int32) h_35).bind fun z => match z with
      | ((x2_38, x8_39, x9_40), h_37) =>
      if x9_40 = (-1 : Int32) then
        some (x9_40, h_37)
      else
        if x2_38 = (1 : Int32) then
          some (x9_40, h_37)
        else
          some (x8_39, h_37)
set_option maxHeartbeats 8000000 in
set_option maxRecDepth 20000 in
theorem s_X11_come {S : SH} {d cb sb : Nat} {Q : Option Value → AH → Prop} (hd : 8 ≤ d)  {r0 : Nat} {x1 : Int32} {x2 : Int32} {h : AH} (k : ok (f_X11_come S r0 x1 x2 h) (fun w h' => Q (some (.int w)) h')) : WP S M_X11_come d cb sb Q 0 [.ref r0, .int x1, .int x2, JK, JK, JK, JK, JK, JK, JK, JK] [] h := by
  obtain ⟨d, rfl, he⟩ := dp (L := 7) hd
  unfold f_X11_come at k
  refine wp_aload_n dX11_come_0 rfl ?_
  refine wp_iconst dX11_come_1 ic_0 ?_
  replace k := ok_bind k
  obtain ⟨h_1, e_2, k⟩ := k
  refine wq_putI fl_X11_152 rfl rfl dX11_come_2 e_2 ?_
  refine wp_aload_n dX11_come_5 rfl ?_
  refine wp_iload_n dX11_come_6 rfl ?_
  replace k := ok_bind k
  obtain ⟨u, e_3, k⟩ := k
  refine wp_callV1 (N := M_X11_isMatter) (ci := 11) mf_X11_isMatter mi_X11_isMatter me_X11_isMatter ml_X11_213 dX11_come_7 (ckO_e e_3) mv_X11_isMatter (by exact Nat.le_of_ble_eq_true rfl) (c_X11_isMatter (Nat.le_trans (by decide) he) (ok_mono (ok_bind2 k) fun z_5 h_4 k => ?_))
  try dsimp only at k
  refine wp_if_eq 23 dX11_come_10 (by decide) (fun c_6 => ?_) (fun c_6 => ?_)
  · replace k := ok_t c_6 k
    refine wp_iconst dX11_come_23 ic_m1 ?_
    refine wp_iret rfl rfl dX11_come_24 ?_
    exact (ok_some k :)
  · replace k := ok_f c_6 k
    refine wp_iload_n dX11_come_13 rfl ?_
    refine wp_i2l dX11_come_14 ?_
    refine wp_lconst dX11_come_15 lc_0 ?_
    refine wp_lconst dX11_come_16 lc_1 ?_
    refine wp_callS3 (N := M_X11_in) mf_X11_in ms_X11_in ml_X11_172 dX11_come_17 (by exact Nat.le_of_ble_eq_true rfl) (c_X11_in (Nat.le_trans (by decide) he) (ok_mono (ok_bind2 k) fun z_8 h_7 k => ?_))
    try dsimp only at k
    refine wp_if_ne 25 dX11_come_20 (by decide) (fun c_9 => ?_) (fun c_9 => ?_)
    · replace k := ok_f c_9 k
      refine wp_aload_n dX11_come_25 rfl ?_
      refine wp_iload_n dX11_come_26 rfl ?_
      replace k := ok_bind k
      obtain ⟨u, e_10, k⟩ := k
      refine wp_callV1 (N := M_X11_sitting) (ci := 11) mf_X11_sitting mi_X11_sitting me_X11_sitting ml_X11_228 dX11_come_27 (ckO_e e_10) mv_X11_sitting (by exact Nat.le_of_ble_eq_true rfl) (c_X11_sitting (Nat.le_trans (by decide) he) (ok_mono (ok_bind2 k) fun z_12 h_11 k => ?_))
      try dsimp only at k
      refine wp_istore_n dX11_come_30 (by decide) (L1 := [_, _, _, _, _, _, _, _, _, _, _]) rfl ?_
      refine wp_aload_n dX11_come_31 rfl ?_
      refine wp_iload_n dX11_come_32 rfl ?_
      replace k := ok_bind k
      obtain ⟨u, e_13, k⟩ := k
      refine wp_callV1 (N := M_X11_ayes) (ci := 11) mf_X11_ayes mi_X11_ayes me_X11_ayes ml_X11_231 dX11_come_33 (ckO_e e_13) mv_X11_ayes (by exact Nat.le_of_ble_eq_true rfl) (c_X11_ayes (Nat.le_trans (by decide) he) (ok_mono (ok_bind2 k) fun z_15 h_14 k => ?_))
      try dsimp only at k
      refine wp_istore dX11_come_36 (by decide) (L1 := [_, _, _, _, _, _, _, _, _, _, _]) rfl ?_
      refine wp_iconst dX11_come_38 ic_0 ?_
      refine wp_istore dX11_come_39 (by decide) (L1 := [_, _, _, _, _, _, _, _, _, _, _]) rfl ?_
      refine wp_aload_n dX11_come_41 rfl ?_
      refine wp_bipush dX11_come_42 bp_16 ?_
      replace k := ok_bind k
      obtain ⟨u, e_16, k⟩ := k
      refine wp_callV1 (N := M_X11_keepAll) (ci := 11) mf_X11_keepAll mi_X11_keepAll me_X11_keepAll ml_X11_165 dX11_come_44 (ckO_e e_16) mv_X11_keepAll (by exact Nat.le_of_ble_eq_true rfl) (c_X11_keepAll (Nat.le_trans (by decide) he) (ok_mono (ok_bind2 k) fun _ h_17 k => ?_))
      try dsimp only at k
      refine wp_iconst dX11_come_47 ic_0 ?_
      refine wp_istore dX11_come_48 (by decide) (L1 := [_, _, _, _, _, _, _, _, _, _, _]) rfl ?_
      refine wp_wk (wkE <| wkE <| wkE <| wkE <| wkE <| wkE <| wkE <| wkJ <| wkJ <| wkJ <| wkJ <| wkN) ?_
      refine s_X11_come_l50 (Nat.succ_le_succ he) (fun r0_20 x1_21 x2_22 x3_23 x4_24 x5_25 h_19 k => ?_) FU _ _ _ _ _ _ _ _ (ok_bind2 k)
      try dsimp only at k
      refine wp_aload_n dX11_come_122 rfl ?_
      refine wp_iload_n dX11_come_123 rfl ?_
      replace k := ok_bind k
      obtain ⟨u, e_26, k⟩ := k
      refine wp_callV1 (N := M_X11_sitting) (ci := 11) mf_X11_sitting mi_X11_sitting me_X11_sitting ml_X11_228 dX11_come_124 (ckO_e e_26) mv_X11_sitting (by exact Nat.le_of_ble_eq_true rfl) (c_X11_sitting (Nat.le_trans (by decide) he) (ok_mono (ok_bind2 k) fun z_28 h_27 k => ?_))
      try dsimp only at k
      refine wp_iload dX11_come_127 rfl ?_
      refine wp_iand dX11_come_129 ?_
      replace k := ok_lt k
      refine wp_istore dX11_come_130 (by decide) (L1 := [_, _, _, _, _, _, _, _, _, _, _]) rfl ?_
      refine wp_aload_n dX11_come_132 rfl ?_
      refine wp_iload_n dX11_come_133 rfl ?_
      replace k := ok_bind k
      obtain ⟨u, e_30, k⟩ := k
      refine wp_callV1 (N := M_X11_ayes) (ci := 11) mf_X11_ayes mi_X11_ayes me_X11_ayes ml_X11_231 dX11_come_134 (ckO_e e_30) mv_X11_ayes (by exact Nat.le_of_ble_eq_true rfl) (c_X11_ayes (Nat.le_trans (by decide) he) (ok_mono (ok_bind2 k) fun z_32 h_31 k => ?_))
      try dsimp only at k
      refine wp_iload dX11_come_137 rfl ?_
      refine wp_iand dX11_come_139 ?_
      replace k := ok_lt k
      refine wp_istore dX11_come_140 (by decide) (L1 := [_, _, _, _, _, _, _, _, _, _, _]) rfl ?_
      refine wp_aload_n dX11_come_142 rfl ?_
      refine wp_bipush dX11_come_143 bp_16 ?_
      replace k := ok_bind k
      obtain ⟨u, e_34, k⟩ := k
      refine wp_callV1 (N := M_X11_putBack) (ci := 11) mf_X11_putBack mi_X11_putBack me_X11_putBack ml_X11_169 dX11_come_145 (ckO_e e_34) mv_X11_putBack (by exact Nat.le_of_ble_eq_true rfl) (c_X11_putBack (Nat.le_trans (by decide) he) (ok_mono (ok_bind2 k) fun _ h_35 k => ?_))
      try dsimp only at k
      refine wp_ldcw ct_X11_481 dX11_come_148 ?_
      refine wp_istore dX11_come_151 (by decide) (L1 := [_, _, _, _, _, _, _, _, _, _, _]) rfl ?_
      refine wp_iconst dX11_come_153 ic_m1 ?_
      refine wp_istore dX11_come_154 (by decide) (L1 := [_, _, _, _, _, _, _, _, _, _, _]) rfl ?_
      refine wp_iconst dX11_come_156 ic_0 ?_
      refine wp_istore dX11_come_157 (by decide) (L1 := [_, _, _, _, _, _, _, _, _, _, _]) rfl ?_
      refine wp_wk (wkE <| wkJ <| wkE <| wkE <| wkE <| wkE <| wkE <| wkE <| wkE <| wkE <| wkE <| wkN) ?_
      refine s_X11_come_l159 (Nat.succ_le_succ he) (fun x2_38 x8_39 x9_40 h_37 k => ?_) FU _ _ _ _ _ _ _ _ _ _ _ (ok_bind2 k)
      try dsimp only at k
      refine wp_iload dX11_come_225 rfl ?_
      refine wp_iconst dX11_come_227 ic_m1 ?_
      refine wp_icmp_eq 236 dX11_come_228 (by decide) (fun c_41 => ?_) (fun c_41 => ?_)
      · replace k := ok_t c_41 k
        refine wp_iload dX11_come_236 rfl ?_
        refine wp_goto 243 dX11_come_238 (by decide) ?_
        refine wp_iret rfl rfl dX11_come_243 ?_
        exact (ok_some k :)
      · replace k := ok_f c_41 k
        refine wp_iload_n dX11_come_231 rfl ?_
        refine wp_iconst dX11_come_232 ic_1 ?_
        refine wp_icmp_ne 241 dX11_come_233 (by decide) (fun c_42 => ?_) (fun c_42 => ?_)
        · replace k := ok_f c_42 k
          refine wp_iload dX11_come_241 rfl ?_
          refine wp_iret rfl rfl dX11_come_243 ?_
          exact (ok_some k :)
        · replace k := ok_t c_42 k
          refine wp_iload dX11_come_236 rfl ?_
          refine wp_goto 243 dX11_come_238 (by decide) ?_
          refine wp_iret rfl rfl dX11_come_243 ?_
          exact (ok_some k :)
    · replace k := ok_t c_9 k
      refine wp_iconst dX11_come_23 ic_m1 ?_
      refine wp_iret rfl rfl dX11_come_24 ?_
      exact (ok_some k :)
theorem c_X11_come {S : SH} {d : Nat} {K : Option Value → AH → Prop} (hd : 8 ≤ d)  {r0 : Nat} {x1 : Int32} {x2 : Int32} {h : AH} (k : ok (f_X11_come S r0 x1 x2 h) (fun w h' => K (some (.int w)) h')) : CP S M_X11_come d 0 0 [.ref r0, .int x1, .int x2] h K := cp_of (by decide) (fun _ _ => trivial) (fun _ => Nat.le_of_ble_eq_true rfl) (s_X11_come hd  k)
def f_X11_layLeft_l2b (S : SH) (rc : Nat → Int32 → Int32 → AH → Option (Nat × AH)) (r0 : Nat) (x1 : Int32) (x2 : Int32) (h : AH) : Option (Nat × AH) :=
  if (7 : Int32) ≤ x2 then
    some (r0, h)
  else
    (gR S h r0 11 46).bind fun p_2 =>
    if x2 = x1 then
      (sI S h p_2 x2 (0 : Int32)).bind fun h_8 =>
      lt (x2 + (1 : Int32)) fun y_10 =>
      rc r0 x1 y_10 h_8
    else
      (sI S h p_2 x2 (100000000 : Int32)).bind fun h_5 =>
      lt (x2 + (1 : Int32)) fun y_7 =>
      rc r0 x1 y_7 h_5
set_option maxHeartbeats 8000000 in
set_option maxRecDepth 20000 in
theorem s_X11_layLeft_l2b {S : SH} {d cb sb : Nat} {Q : Option Value → AH → Prop} (hd : 2 ≤ d) {K : Nat → AH → Prop} (hex : ∀ (r0 : Nat) (h' : AH), K r0 h' → WP S M_X11_layLeft d cb sb Q 32 [.ref r0, JK, JK, JK, JK] [] h') {rc : Nat → Int32 → Int32 → AH → Option (Nat × AH)} (hrec : ∀ (r0 : Nat) (x1 : Int32) (x2 : Int32) (h' : AH), ok (rc r0 x1 x2 h') K → WP S M_X11_layLeft d cb sb Q 2 [.ref r0, .int x1, .int x2, JK, JK] [] h') {r0 : Nat} {x1 : Int32} {x2 : Int32} {h : AH} (k : ok (f_X11_layLeft_l2b S rc r0 x1 x2 h) K) : WP S M_X11_layLeft d cb sb Q 2 [.ref r0, .int x1, .int x2, JK, JK] [] h := by
  obtain ⟨d, rfl, he⟩ := dp (L := 1) hd
  unfold f_X11_layLeft_l2b at k
  refine wp_iload_n dX11_layLeft_2 rfl ?_
  refine wp_bipush dX11_layLeft_3 bp_7 ?_
  refine wp_icmp_ge 32 dX11_layLeft_5 (by decide) (fun c_1 => ?_) (fun c_1 => ?_)
  · replace k := ok_t c_1 k
    exact wp_wk (wkE <| wkJ <| wkJ <| wkJ <| wkJ <| wkN) (hex _ _ (ok_some k))
  · replace k := ok_f c_1 k
    refine wp_aload_n dX11_layLeft_8 rfl ?_
    replace k := ok_bind k
    obtain ⟨p_2, e_3, k⟩ := k
    refine wq_getR fl_X11_120 (Or.inr ⟨_, rfl⟩) dX11_layLeft_9 e_3 ?_
    refine wp_iload_n dX11_layLeft_12 rfl ?_
    refine wp_iload_n dX11_layLeft_13 rfl ?_
    refine wp_iload_n dX11_layLeft_14 rfl ?_
    refine wp_icmp_ne 22 dX11_layLeft_15 (by decide) (fun c_4 => ?_) (fun c_4 => ?_)
    · replace k := ok_f c_4 k
      refine wp_ldcw ct_X11_481 dX11_layLeft_22 ?_
      replace k := ok_bind k
      obtain ⟨h_5, e_6, k⟩ := k
      refine wq_sI dX11_layLeft_25 e_6 ?_
      replace k := ok_lt k
      refine wp_iinc dX11_layLeft_26 rfl ic_1 (by decide) (L1 := [_, _, _, _, _]) rfl ?_
      refine wp_goto 2 dX11_layLeft_29 (by decide) ?_
      exact wp_wk (wkE <| wkE <| wkE <| wkJ <| wkJ <| wkN) (hrec _ _ _ _ k)
    · replace k := ok_t c_4 k
      refine wp_iconst dX11_layLeft_18 ic_0 ?_
      refine wp_goto 25 dX11_layLeft_19 (by decide) ?_
      replace k := ok_bind k
      obtain ⟨h_8, e_9, k⟩ := k
      refine wq_sI dX11_layLeft_25 e_9 ?_
      replace k := ok_lt k
      refine wp_iinc dX11_layLeft_26 rfl ic_1 (by decide) (L1 := [_, _, _, _, _]) rfl ?_
      refine wp_goto 2 dX11_layLeft_29 (by decide) ?_
      exact wp_wk (wkE <| wkE <| wkE <| wkJ <| wkJ <| wkN) (hrec _ _ _ _ k)
def f_X11_layLeft_l2 (S : SH) : Nat → Nat → Int32 → Int32 → AH → Option (Nat × AH)
  | 0, _, _, _, _ => none
  | n + 1, r0, x1, x2, h => f_X11_layLeft_l2b S (f_X11_layLeft_l2 S n) r0 x1 x2 h
theorem s_X11_layLeft_l2 {S : SH} {d cb sb : Nat} {Q : Option Value → AH → Prop} (hd : 2 ≤ d) {K : Nat → AH → Prop} (hex : ∀ (r0 : Nat) (h' : AH), K r0 h' → WP S M_X11_layLeft d cb sb Q 32 [.ref r0, JK, JK, JK, JK] [] h') : ∀ (n : Nat) (r0 : Nat) (x1 : Int32) (x2 : Int32) (h : AH), ok (f_X11_layLeft_l2 S n r0 x1 x2 h) K → WP S M_X11_layLeft d cb sb Q 2 [.ref r0, .int x1, .int x2, JK, JK] [] h := by
  intro n
  induction n with
  | zero => intro r0 x1 x2 h k; exact ok_none k
  | succ n ih => intro r0 x1 x2 h k; exact s_X11_layLeft_l2b hd hex (fun r0 x1 x2 h k => ih r0 x1 x2 h k) k
def f_X11_layLeft_l55b (S : SH) (rc : Nat → Int32 → Int32 → Int32 → AH → Option ((Nat × Int32 × Int32) × AH)) (r0 : Nat) (x2 : Int32) (x3 : Int32) (x4 : Int32) (h : AH) : Option ((Nat × Int32 × Int32) × AH) :=
  (gR S h r0 11 3).bind fun p_1 =>
  (aI S h p_1 (0 : Int32)).bind fun v_3 =>
  if v_3 ≤ x4 then
    some ((r0, x2, x3), h)
  else
    (gR S h r0 11 46).bind fun p_6 =>
    (ckO S h r0 11).bind fun _ =>
    (f_X11_hears S r0 x4 x3 h).bind fun z => match z with
    | (z_10, h_9) =>
    if z_10 = (0 : Int32) then
      (gR S h_9 r0 11 46).bind fun p_12 =>
      (aI S h_9 p_12 x3).bind fun v_14 =>
      (sI S h_9 p_6 x3 v_14).bind fun h_16 =>
      lt (x4 + (1 : Int32)) fun y_18 =>
      rc r0 x2 x3 y_18 h_16
    else
      (gR S h_9 r0 11 46).bind fun p_19 =>
      (aI S h_9 p_19 x4).bind fun v_21 =>
      (gR S h_9 r0 11 46).bind fun p_23 =>
      (aI S h_9 p_23 x3).bind fun v_25 =>
      if v_25 ≤ (v_21 + (1 : Int32)) then
        (gR S h_9 r0 11 46).bind fun p_28 =>
        (aI S h_9 p_28 x3).bind fun v_30 =>
        (sI S h_9 p_6 x3 v_30).bind fun h_32 =>
        lt (x4 + (1 : Int32)) fun y_34 =>
        rc r0 x2 x3 y_34 h_32
      else
        (gR S h_9 r0 11 46).bind fun p_35 =>
        (aI S h_9 p_35 x4).bind fun v_37 =>
        (sI S h_9 p_6 x3 (v_37 + (1 : Int32))).bind fun h_39 =>
        lt (x4 + (1 : Int32)) fun y_41 =>
        rc r0 x2 x3 y_41 h_39
set_option maxHeartbeats 8000000 in
set_option maxRecDepth 20000 in
theorem s_X11_layLeft_l55b {S : SH} {d cb sb : Nat} {Q : Option Value → AH → Prop} (hd : 2 ≤ d) {K : (Nat × Int32 × Int32) → AH → Prop} (hex : ∀ (r0 : Nat) (x2 : Int32) (x3 : Int32) (h' : AH), K (r0, x2, x3) h' → WP S M_X11_layLeft d cb sb Q 124 [.ref r0, JK, .int x2, .int x3, JK] [] h') {rc : Nat → Int32 → Int32 → Int32 → AH → Option ((Nat × Int32 × Int32) × AH)} (hrec : ∀ (r0 : Nat) (x2 : Int32) (x3 : Int32) (x4 : Int32) (h' : AH), ok (rc r0 x2 x3 x4 h') K → WP S M_X11_layLeft d cb sb Q 55 [.ref r0, JK, .int x2, .int x3, .int x4] [] h') {r0 : Nat} {x2 : Int32} {x3 : Int32} {x4 : Int32} {h : AH} (k : ok (f_X11_layLeft_l55b S rc r0 x2 x3 x4 h) K) : WP S M_X11_layLeft d cb sb Q 55 [.ref r0, JK, .int x2, .int x3, .int x4] [] h := by
  obtain ⟨d, rfl, he⟩ := dp (L := 1) hd
  unfold f_X11_layLeft_l55b at k
  refine wp_iload dX11_layLeft_55 rfl ?_
  refine wp_aload_n dX11_layLeft_57 rfl ?_
  replace k := ok_bind k
  obtain ⟨p_1, e_2, k⟩ := k
  refine wq_getR fl_X11_13 (Or.inr ⟨_, rfl⟩) dX11_layLeft_58 e_2 ?_
  refine wp_iconst dX11_layLeft_61 ic_0 ?_
  replace k := ok_bind k
  obtain ⟨v_3, e_4, k⟩ := k
  refine wq_aI dX11_layLeft_62 e_4 ?_
  refine wp_icmp_ge 124 dX11_layLeft_63 (by decide) (fun c_5 => ?_) (fun c_5 => ?_)
  · replace k := ok_t c_5 k
    exact wp_wk (wkE <| wkJ <| wkE <| wkE <| wkJ <| wkN) (hex _ _ _ _ (ok_some k))
  · replace k := ok_f c_5 k
    refine wp_aload_n dX11_layLeft_66 rfl ?_
    replace k := ok_bind k
    obtain ⟨p_6, e_7, k⟩ := k
    refine wq_getR fl_X11_120 (Or.inr ⟨_, rfl⟩) dX11_layLeft_67 e_7 ?_
    refine wp_iload_n dX11_layLeft_70 rfl ?_
    refine wp_aload_n dX11_layLeft_71 rfl ?_
    refine wp_iload dX11_layLeft_72 rfl ?_
    refine wp_iload_n dX11_layLeft_74 rfl ?_
    replace k := ok_bind k
    obtain ⟨u, e_8, k⟩ := k
    refine wp_callV2 (N := M_X11_hears) (ci := 11) mf_X11_hears mi_X11_hears me_X11_hears ml_X11_204 dX11_layLeft_75 (ckO_e e_8) mv_X11_hears (by exact Nat.le_of_ble_eq_true rfl) (c_X11_hears (Nat.le_trans (by decide) he) (ok_mono (ok_bind2 k) fun z_10 h_9 k => ?_))
    try dsimp only at k
    refine wp_if_eq 111 dX11_layLeft_78 (by decide) (fun c_11 => ?_) (fun c_11 => ?_)
    · replace k := ok_t c_11 k
      refine wp_aload_n dX11_layLeft_111 rfl ?_
      replace k := ok_bind k
      obtain ⟨p_12, e_13, k⟩ := k
      refine wq_getR fl_X11_120 (Or.inr ⟨_, rfl⟩) dX11_layLeft_112 e_13 ?_
      refine wp_iload_n dX11_layLeft_115 rfl ?_
      replace k := ok_bind k
      obtain ⟨v_14, e_15, k⟩ := k
      refine wq_aI dX11_layLeft_116 e_15 ?_
      replace k := ok_bind k
      obtain ⟨h_16, e_17, k⟩ := k
      refine wq_sI dX11_layLeft_117 e_17 ?_
      replace k := ok_lt k
      refine wp_iinc dX11_layLeft_118 rfl ic_1 (by decide) (L1 := [_, _, _, _, _]) rfl ?_
      refine wp_goto 55 dX11_layLeft_121 (by decide) ?_
      exact wp_wk (wkE <| wkJ <| wkE <| wkE <| wkE <| wkN) (hrec _ _ _ _ _ k)
    · replace k := ok_f c_11 k
      refine wp_aload_n dX11_layLeft_81 rfl ?_
      replace k := ok_bind k
      obtain ⟨p_19, e_20, k⟩ := k
      refine wq_getR fl_X11_120 (Or.inr ⟨_, rfl⟩) dX11_layLeft_82 e_20 ?_
      refine wp_iload dX11_layLeft_85 rfl ?_
      replace k := ok_bind k
      obtain ⟨v_21, e_22, k⟩ := k
      refine wq_aI dX11_layLeft_87 e_22 ?_
      refine wp_iconst dX11_layLeft_88 ic_1 ?_
      refine wp_iadd dX11_layLeft_89 ?_
      refine wp_aload_n dX11_layLeft_90 rfl ?_
      replace k := ok_bind k
      obtain ⟨p_23, e_24, k⟩ := k
      refine wq_getR fl_X11_120 (Or.inr ⟨_, rfl⟩) dX11_layLeft_91 e_24 ?_
      refine wp_iload_n dX11_layLeft_94 rfl ?_
      replace k := ok_bind k
      obtain ⟨v_25, e_26, k⟩ := k
      refine wq_aI dX11_layLeft_95 e_26 ?_
      refine wp_icmp_ge 111 dX11_layLeft_96 (by decide) (fun c_27 => ?_) (fun c_27 => ?_)
      · replace k := ok_t c_27 k
        refine wp_aload_n dX11_layLeft_111 rfl ?_
        replace k := ok_bind k
        obtain ⟨p_28, e_29, k⟩ := k
        refine wq_getR fl_X11_120 (Or.inr ⟨_, rfl⟩) dX11_layLeft_112 e_29 ?_
        refine wp_iload_n dX11_layLeft_115 rfl ?_
        replace k := ok_bind k
        obtain ⟨v_30, e_31, k⟩ := k
        refine wq_aI dX11_layLeft_116 e_31 ?_
        replace k := ok_bind k
        obtain ⟨h_32, e_33, k⟩ := k
        refine wq_sI dX11_layLeft_117 e_33 ?_
        replace k := ok_lt k
        refine wp_iinc dX11_layLeft_118 rfl ic_1 (by decide) (L1 := [_, _, _, _, _]) rfl ?_
        refine wp_goto 55 dX11_layLeft_121 (by decide) ?_
        exact wp_wk (wkE <| wkJ <| wkE <| wkE <| wkE <| wkN) (hrec _ _ _ _ _ k)
      · replace k := ok_f c_27 k
        refine wp_aload_n dX11_layLeft_99 rfl ?_
        replace k := ok_bind k
        obtain ⟨p_35, e_36, k⟩ := k
        refine wq_getR fl_X11_120 (Or.inr ⟨_, rfl⟩) dX11_layLeft_100 e_36 ?_
        refine wp_iload dX11_layLeft_103 rfl ?_
        replace k := ok_bind k
        obtain ⟨v_37, e_38, k⟩ := k
        refine wq_aI dX11_layLeft_105 e_38 ?_
        refine wp_iconst dX11_layLeft_106 ic_1 ?_
        refine wp_iadd dX11_layLeft_107 ?_
        refine wp_goto 117 dX11_layLeft_108 (by decide) ?_
        replace k := ok_bind k
        obtain ⟨h_39, e_40, k⟩ := k
        refine wq_sI dX11_layLeft_117 e_40 ?_
        replace k := ok_lt k
        refine wp_iinc dX11_layLeft_118 rfl ic_1 (by decide) (L1 := [_, _, _, _, _]) rfl ?_
        refine wp_goto 55 dX11_layLeft_121 (by decide) ?_
        exact wp_wk (wkE <| wkJ <| wkE <| wkE <| wkE <| wkN) (hrec _ _ _ _ _ k)
def f_X11_layLeft_l55 (S : SH) : Nat → Nat → Int32 → Int32 → Int32 → AH → Option ((Nat × Int32 × Int32) × AH)
  | 0, _, _, _, _, _ => none
  | n + 1, r0, x2, x3, x4, h => f_X11_layLeft_l55b S (f_X11_layLeft_l55 S n) r0 x2 x3 x4 h
theorem s_X11_layLeft_l55 {S : SH} {d cb sb : Nat} {Q : Option Value → AH → Prop} (hd : 2 ≤ d) {K : (Nat × Int32 × Int32) → AH → Prop} (hex : ∀ (r0 : Nat) (x2 : Int32) (x3 : Int32) (h' : AH), K (r0, x2, x3) h' → WP S M_X11_layLeft d cb sb Q 124 [.ref r0, JK, .int x2, .int x3, JK] [] h') : ∀ (n : Nat) (r0 : Nat) (x2 : Int32) (x3 : Int32) (x4 : Int32) (h : AH), ok (f_X11_layLeft_l55 S n r0 x2 x3 x4 h) K → WP S M_X11_layLeft d cb sb Q 55 [.ref r0, JK, .int x2, .int x3, .int x4] [] h := by
  intro n
  induction n with
  | zero => intro r0 x2 x3 x4 h k; exact ok_none k
  | succ n ih => intro r0 x2 x3 x4 h k; exact s_X11_layLeft_l55b hd hex (fun r0 x2 x3 x4 h k => ih r0 x2 x3 x4 h k) k
def f_X11_layLeft_l42b (S : SH) (rc : Nat → Int32 → Int32 → AH → Option ((Nat × Int32) × AH)) (r0 : Nat) (x2 : Int32) (x3 : Int32) (h : AH) : Option ((Nat × Int32) × AH) :=
  (gR S h r0 11 3).bind fun p_1 =>
  (aI S h p_1 (0 : Int32)).bind fun v_3 =>
  if v_3 ≤ x3 then
    some ((r0, x2), h)
  else
    (f_X11_layLeft_l55 S FU r0 x2 x3 (0 : Int32) h).bind fun z => match z with
    | ((r0_7, x2_8, x3_9), h_6) =>
    lt (x3_9 + (1 : Int32)) fun y_10 =>
    rc r0_7 x2_8 y_10 h_6
set_option maxHeartbeats 8000000 in
set_option maxRecDepth 20000 in
theorem s_X11_layLeft_l42b {S : SH} {d cb sb : Nat} {Q : Option Value → AH → Prop} (hd : 2 ≤ d) {K : (Nat × Int32) → AH → Prop} (hex : ∀ (r0 : Nat) (x2 : Int32) (h' : AH), K (r0, x2) h' → WP S M_X11_layLeft d cb sb Q 130 [.ref r0, JK, .int x2, JK, JK] [] h') {rc : Nat → Int32 → Int32 → AH → Option ((Nat × Int32) × AH)} (hrec : ∀ (r0 : Nat) (x2 : Int32) (x3 : Int32) (h' : AH), ok (rc r0 x2 x3 h') K → WP S M_X11_layLeft d cb sb Q 42 [.ref r0, JK, .int x2, .int x3, JK] [] h') {r0 : Nat} {x2 : Int32} {x3 : Int32} {h : AH} (k : ok (f_X11_layLeft_l42b S rc r0 x2 x3 h) K) : WP S M_X11_layLeft d cb sb Q 42 [.ref r0, JK, .int x2, .int x3, JK] [] h := by
  obtain ⟨d, rfl, he⟩ := dp (L := 1) hd
  unfold f_X11_layLeft_l42b at k
  refine wp_iload_n dX11_layLeft_42 rfl ?_
  refine wp_aload_n dX11_layLeft_43 rfl ?_
  replace k := ok_bind k
  obtain ⟨p_1, e_2, k⟩ := k
  refine wq_getR fl_X11_13 (Or.inr ⟨_, rfl⟩) dX11_layLeft_44 e_2 ?_
  refine wp_iconst dX11_layLeft_47 ic_0 ?_
  replace k := ok_bind k
  obtain ⟨v_3, e_4, k⟩ := k
  refine wq_aI dX11_layLeft_48 e_4 ?_
  refine wp_icmp_ge 130 dX11_layLeft_49 (by decide) (fun c_5 => ?_) (fun c_5 => ?_)
  · replace k := ok_t c_5 k
    exact wp_wk (wkE <| wkJ <| wkE <| wkJ <| wkJ <| wkN) (hex _ _ _ (ok_some k))
  · replace k := ok_f c_5 k
    refine wp_iconst dX11_layLeft_52 ic_0 ?_
    refine wp_istore dX11_layLeft_53 (by decide) (L1 := [_, _, _, _, _]) rfl ?_
    refine wp_wk (wkE <| wkJ <| wkE <| wkE <| wkE <| wkN) ?_
    refine s_X11_layLeft_l55 (Nat.succ_le_succ he) (fun r0_7 x2_8 x3_9 h_6 k => ?_) FU _ _ _ _ _ (ok_bind2 k)
    try dsimp only at k
    replace k := ok_lt k
    refine wp_iinc dX11_layLeft_124 rfl ic_1 (by decide) (L1 := [_, _, _, _, _]) rfl ?_
    refine wp_goto 42 dX11_layLeft_127 (by decide) ?_
    exact wp_wk (wkE <| wkJ <| wkE <| wkE <| wkJ <| wkN) (hrec _ _ _ _ k)
def f_X11_layLeft_l42 (S : SH) : Nat → Nat → Int32 → Int32 → AH → Option ((Nat × Int32) × AH)
  | 0, _, _, _, _ => none
  | n + 1, r0, x2, x3, h => f_X11_layLeft_l42b S (f_X11_layLeft_l42 S n) r0 x2 x3 h
theorem s_X11_layLeft_l42 {S : SH} {d cb sb : Nat} {Q : Option Value → AH → Prop} (hd : 2 ≤ d) {K : (Nat × Int32) → AH → Prop} (hex : ∀ (r0 : Nat) (x2 : Int32) (h' : AH), K (r0, x2) h' → WP S M_X11_layLeft d cb sb Q 130 [.ref r0, JK, .int x2, JK, JK] [] h') : ∀ (n : Nat) (r0 : Nat) (x2 : Int32) (x3 : Int32) (h : AH), ok (f_X11_layLeft_l42 S n r0 x2 x3 h) K → WP S M_X11_layLeft d cb sb Q 42 [.ref r0, JK, .int x2, .int x3, JK] [] h := by
  intro n
  induction n with
  | zero => intro r0 x2 x3 h k; exact ok_none k
  | succ n ih => intro r0 x2 x3 h k; exact s_X11_layLeft_l42b hd hex (fun r0 x2 x3 h k => ih r0 x2 x3 h k) k
def f_X11_layLeft_l34b (S : SH) (rc : Nat → Int32 → AH → Option (Unit × AH)) (r0 : Nat) (x2 : Int32) (h : AH) : Option (Unit × AH) :=
  if (7 : Int32) ≤ x2 then
    some ((), h)
  else
    (f_X11_layLeft_l42 S FU r0 x2 (0 : Int32) h).bind fun z => match z with
    | ((r0_3, x2_4), h_2) =>
    lt (x2_4 + (1 : Int32)) fun y_5 =>
    rc r0_3 y_5 h_2
set_option maxHeartbeats 8000000 in
set_option maxRecDepth 20000 in
theorem s_X11_layLeft_l34b {S : SH} {d cb sb : Nat} {Q : Option Value → AH → Prop} (hd : 2 ≤ d) {K : Unit → AH → Prop} (hex : ∀  (h' : AH), K () h' → WP S M_X11_layLeft d cb sb Q 136 [JK, JK, JK, JK, JK] [] h') {rc : Nat → Int32 → AH → Option (Unit × AH)} (hrec : ∀ (r0 : Nat) (x2 : Int32) (h' : AH), ok (rc r0 x2 h') K → WP S M_X11_layLeft d cb sb Q 34 [.ref r0, JK, .int x2, JK, JK] [] h') {r0 : Nat} {x2 : Int32} {h : AH} (k : ok (f_X11_layLeft_l34b S rc r0 x2 h) K) : WP S M_X11_layLeft d cb sb Q 34 [.ref r0, JK, .int x2, JK, JK] [] h := by
  obtain ⟨d, rfl, he⟩ := dp (L := 1) hd
  unfold f_X11_layLeft_l34b at k
  refine wp_iload_n dX11_layLeft_34 rfl ?_
  refine wp_bipush dX11_layLeft_35 bp_7 ?_
  refine wp_icmp_ge 136 dX11_layLeft_37 (by decide) (fun c_1 => ?_) (fun c_1 => ?_)
  · replace k := ok_t c_1 k
    exact wp_wk (wkJ <| wkJ <| wkJ <| wkJ <| wkJ <| wkN) (hex  _ (ok_some k))
  · replace k := ok_f c_1 k
    refine wp_iconst dX11_layLeft_40 ic_0 ?_
    refine wp_istore_n dX11_layLeft_41 (by decide) (L1 := [_, _, _, _, _]) rfl ?_
    refine wp_wk (wkE <| wkJ <| wkE <| wkE <| wkJ <| wkN) ?_
    refine s_X11_layLeft_l42 (Nat.succ_le_succ he) (fun r0_3 x2_4 h_2 k => ?_) FU _ _ _ _ (ok_bind2 k)
    try dsimp only at k
    replace k := ok_lt k
    refine wp_iinc dX11_layLeft_130 rfl ic_1 (by decide) (L1 := [_, _, _, _, _]) rfl ?_
    refine wp_goto 34 dX11_layLeft_133 (by decide) ?_
    exact wp_wk (wkE <| wkJ <| wkE <| wkJ <| wkJ <| wkN) (hrec _ _ _ k)
def f_X11_layLeft_l34 (S : SH) : Nat → Nat → Int32 → AH → Option (Unit × AH)
  | 0, _, _, _ => none
  | n + 1, r0, x2, h => f_X11_layLeft_l34b S (f_X11_layLeft_l34 S n) r0 x2 h
theorem s_X11_layLeft_l34 {S : SH} {d cb sb : Nat} {Q : Option Value → AH → Prop} (hd : 2 ≤ d) {K : Unit → AH → Prop} (hex : ∀  (h' : AH), K () h' → WP S M_X11_layLeft d cb sb Q 136 [JK, JK, JK, JK, JK] [] h') : ∀ (n : Nat) (r0 : Nat) (x2 : Int32) (h : AH), ok (f_X11_layLeft_l34 S n r0 x2 h) K → WP S M_X11_layLeft d cb sb Q 34 [.ref r0, JK, .int x2, JK, JK] [] h := by
  intro n
  induction n with
  | zero => intro r0 x2 h k; exact ok_none k
  | succ n ih => intro r0 x2 h k; exact s_X11_layLeft_l34b hd hex (fun r0 x2 h k => ih r0 x2 h k) k
def f_X11_layLeft (S : SH) (r0 : Nat) (x1 : Int32) (h : AH) : Option (Unit × AH) :=
  (f_X11_layLeft_l2 S FU r0 x1 (0 : Int32) h).bind fun z => match z with
  | (r0_2, h_1) =>
  (f_X11_layLeft_l34 S FU r0_2 (0 : Int32) h_1).bind fun z => match z with
  | ((), h_3) =>
  some ((), h_3)
set_option maxHeartbeats 8000000 in
set_option maxRecDepth 20000 in
theorem s_X11_layLeft {S : SH} {d cb sb : Nat} {Q : Option Value → AH → Prop} (hd : 2 ≤ d)  {r0 : Nat} {x1 : Int32} {h : AH} (k : ok (f_X11_layLeft S r0 x1 h) (fun _ h' => Q none h')) : WP S M_X11_layLeft d cb sb Q 0 [.ref r0, .int x1, JK, JK, JK] [] h := by
  obtain ⟨d, rfl, he⟩ := dp (L := 1) hd
  unfold f_X11_layLeft at k
  refine wp_iconst dX11_layLeft_0 ic_0 ?_
  refine wp_istore_n dX11_layLeft_1 (by decide) (L1 := [_, _, _, _, _]) rfl ?_
  refine wp_wk (wkE <| wkE <| wkE <| wkJ <| wkJ <| wkN) ?_
  refine s_X11_layLeft_l2 (Nat.succ_le_succ he) (fun r0_2 h_1 k => ?_) FU _ _ _ _ (ok_bind2 k)
  try dsimp only at k
  refine wp_iconst dX11_layLeft_32 ic_0 ?_
  refine wp_istore_n dX11_layLeft_33 (by decide) (L1 := [_, _, _, _, _]) rfl ?_
  refine wp_wk (wkE <| wkJ <| wkE <| wkJ <| wkJ <| wkN) ?_
  refine s_X11_layLeft_l34 (Nat.succ_le_succ he) (fun  h_3 k => ?_) FU _ _ _ (ok_bind2 k)
  try dsimp only at k
  refine wp_vret rfl dX11_layLeft_136 ?_
  exact (ok_some k :)
theorem c_X11_layLeft {S : SH} {d : Nat} {K : Option Value → AH → Prop} (hd : 2 ≤ d)  {r0 : Nat} {x1 : Int32} {h : AH} (k : ok (f_X11_layLeft S r0 x1 h) (fun _ h' => K none h')) : CP S M_X11_layLeft d 0 0 [.ref r0, .int x1] h K := cp_of (by decide) (fun _ _ => trivial) (fun _ => Nat.le_of_ble_eq_true rfl) (s_X11_layLeft hd  k)

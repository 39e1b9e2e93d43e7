def f_X11_cats (S : SH) (r0 : Nat) (h : AH) : Option (Int32 × AH) :=
  (pI S h r0 11 0 (0 : Int32)).bind fun h_1 =>
  (gI S h_1 r0 11 11).bind fun v_3 =>
  some (v_3, h_1)
set_option maxHeartbeats 8000000 in
set_option maxRecDepth 20000 in
theorem s_X11_cats {S : SH} {d cb sb : Nat} {Q : Option Value → AH → Prop} (hd : 0 ≤ d)  {r0 : Nat} {h : AH} (k : ok (f_X11_cats S r0 h) (fun w h' => Q (some (.int w)) h')) : WP S M_X11_cats d cb sb Q 0 [.ref r0] [] h := by
  unfold f_X11_cats at k
  refine wp_aload_n dX11_cats_0 rfl ?_
  refine wp_iconst dX11_cats_1 ic_0 ?_
  replace k := ok_bind k
  obtain ⟨h_1, e_2, k⟩ := k
  refine wq_putI fl_X11_152 rfl rfl dX11_cats_2 e_2 ?_
  refine wp_aload_n dX11_cats_5 rfl ?_
  replace k := ok_bind k
  obtain ⟨v_3, e_4, k⟩ := k
  refine wq_getI fl_X11_246 (Or.inl rfl) dX11_cats_6 e_4 ?_
  refine wp_iret rfl rfl dX11_cats_9 ?_
  exact (ok_some k :)
theorem c_X11_cats {S : SH} {d : Nat} {K : Option Value → AH → Prop} (hd : 0 ≤ d)  {r0 : Nat} {h : AH} (k : ok (f_X11_cats S r0 h) (fun w h' => K (some (.int w)) h')) : CP S M_X11_cats d 0 0 [.ref r0] h K := cp_of (by decide) (fun _ _ => trivial) (fun _ => Nat.le_of_ble_eq_true rfl) (s_X11_cats hd  k)
def f_X11_four_l3b (S : SH) (rc : Nat → Int32 → Int32 → AH → Option (Unit × AH)) (r0 : Nat) (x1 : Int32) (x2 : Int32) (h : AH) : Option (Unit × AH) :=
  if x2 < (0 : Int32) then
    some ((), h)
  else
    (gR S h r0 11 12).bind fun p_2 =>
    (gI S h r0 11 13).bind fun v_4 =>
    (sI S h p_2 v_4 ((x1 >>> (x2 &&& (31 : Int32))) &&& (255 : Int32))).bind fun h_6 =>
    (gI S h_6 r0 11 13).bind fun v_8 =>
    (pI S h_6 r0 11 13 (v_8 + (1 : Int32))).bind fun h_10 =>
    lt (x2 + (-8 : Int32)) fun y_12 =>
    rc r0 x1 y_12 h_10
set_option maxHeartbeats 8000000 in
set_option maxRecDepth 20000 in
theorem s_X11_four_l3b {S : SH} {d cb sb : Nat} {Q : Option Value → AH → Prop} (hd : 0 ≤ d) {K : Unit → AH → Prop} (hex : ∀  (h' : AH), K () h' → WP S M_X11_four d cb sb Q 39 [JK, JK, JK] [] h') {rc : Nat → Int32 → Int32 → AH → Option (Unit × AH)} (hrec : ∀ (r0 : Nat) (x1 : Int32) (x2 : Int32) (h' : AH), ok (rc r0 x1 x2 h') K → WP S M_X11_four d cb sb Q 3 [.ref r0, .int x1, .int x2] [] h') {r0 : Nat} {x1 : Int32} {x2 : Int32} {h : AH} (k : ok (f_X11_four_l3b S rc r0 x1 x2 h) K) : WP S M_X11_four d cb sb Q 3 [.ref r0, .int x1, .int x2] [] h := by
  unfold f_X11_four_l3b at k
  refine wp_iload_n dX11_four_3 rfl ?_
  refine wp_if_lt 39 dX11_four_4 (by decide) (fun c_1 => ?_) (fun c_1 => ?_)
  · replace k := ok_t c_1 k
    exact wp_wk (wkJ <| wkJ <| wkJ <| wkN) (hex  _ (ok_some k))
  · replace k := ok_f c_1 k
    refine wp_aload_n dX11_four_7 rfl ?_
    replace k := ok_bind k
    obtain ⟨p_2, e_3, k⟩ := k
    refine wq_getR fl_X11_35 (Or.inr ⟨_, rfl⟩) dX11_four_8 e_3 ?_
    refine wp_aload_n dX11_four_11 rfl ?_
    replace k := ok_bind k
    obtain ⟨v_4, e_5, k⟩ := k
    refine wq_getI fl_X11_243 (Or.inl rfl) dX11_four_12 e_5 ?_
    refine wp_iload_n dX11_four_15 rfl ?_
    refine wp_iload_n dX11_four_16 rfl ?_
    refine wp_ishr dX11_four_17 ?_
    refine wp_sipush dX11_four_18 sp_255 ?_
    refine wp_iand dX11_four_21 ?_
    replace k := ok_bind k
    obtain ⟨h_6, e_7, k⟩ := k
    refine wq_sI dX11_four_22 e_7 ?_
    refine wp_aload_n dX11_four_23 rfl ?_
    refine wp_dupR dX11_four_24 ?_
    replace k := ok_bind k
    obtain ⟨v_8, e_9, k⟩ := k
    refine wq_getI fl_X11_243 (Or.inl rfl) dX11_four_25 e_9 ?_
    refine wp_iconst dX11_four_28 ic_1 ?_
    refine wp_iadd dX11_four_29 ?_
    replace k := ok_bind k
    obtain ⟨h_10, e_11, k⟩ := k
    refine wq_putI fl_X11_243 rfl rfl dX11_four_30 e_11 ?_
    replace k := ok_lt k
    refine wp_iinc dX11_four_33 rfl ic_m8 (by decide) (L1 := [_, _, _]) rfl ?_
    refine wp_goto 3 dX11_four_36 (by decide) ?_
    exact wp_wk (wkE <| wkE <| wkE <| wkN) (hrec _ _ _ _ k)
def f_X11_four_l3 (S : SH) : Nat → Nat → Int32 → Int32 → AH → Option (Unit × AH)
  | 0, _, _, _, _ => none
  | n + 1, r0, x1, x2, h => f_X11_four_l3b S (f_X11_four_l3 S n) r0 x1 x2 h
theorem s_X11_four_l3 {S : SH} {d cb sb : Nat} {Q : Option Value → AH → Prop} (hd : 0 ≤ d) {K : Unit → AH → Prop} (hex : ∀  (h' : AH), K () h' → WP S M_X11_four d cb sb Q 39 [JK, JK, JK] [] h') : ∀ (n : Nat) (r0 : Nat) (x1 : Int32) (x2 : Int32) (h : AH), ok (f_X11_four_l3 S n r0 x1 x2 h) K → WP S M_X11_four d cb sb Q 3 [.ref r0, .int x1, .int x2] [] h := by
  intro n
  induction n with
  | zero => intro r0 x1 x2 h k; exact ok_none k
  | succ n ih => intro r0 x1 x2 h k; exact s_X11_four_l3b hd hex (fun r0 x1 x2 h k => ih r0 x1 x2 h k) k
def f_X11_four (S : SH) (r0 : Nat) (x1 : Int32) (h : AH) : Option (Unit × AH) :=
  (f_X11_four_l3 S FU r0 x1 (24 : Int32) h).bind fun z => match z with
  | ((), h_1) =>
  some ((), h_1)
set_option maxHeartbeats 8000000 in
set_option maxRecDepth 20000 in
theorem s_X11_four {S : SH} {d cb sb : Nat} {Q : Option Value → AH → Prop} (hd : 0 ≤ d)  {r0 : Nat} {x1 : Int32} {h : AH} (k : ok (f_X11_four S r0 x1 h) (fun _ h' => Q none h')) : WP S M_X11_four d cb sb Q 0 [.ref r0, .int x1, JK] [] h := by
  unfold f_X11_four at k
  refine wp_bipush dX11_four_0 bp_24 ?_
  refine wp_istore_n dX11_four_2 (by decide) (L1 := [_, _, _]) rfl ?_
  refine wp_wk (wkE <| wkE <| wkE <| wkN) ?_
  refine s_X11_four_l3 hd (fun  h_1 k => ?_) FU _ _ _ _ (ok_bind2 k)
  try dsimp only at k
  refine wp_vret rfl dX11_four_39 ?_
  exact (ok_some k :)
theorem c_X11_four {S : SH} {d : Nat} {K : Option Value → AH → Prop} (hd : 0 ≤ d)  {r0 : Nat} {x1 : Int32} {h : AH} (k : ok (f_X11_four S r0 x1 h) (fun _ h' => K none h')) : CP S M_X11_four d 0 0 [.ref r0, .int x1] h K := cp_of (by decide) (fun _ _ => trivial) (fun _ => Nat.le_of_ble_eq_true rfl) (s_X11_four hd  k)
def f_X11_feed (S : SH) (r0 : Nat) (x1 : Int32) (x2 : Int32) (x3 : Int32) (x4 : Int32) (x5 : Int32) (h : AH) : Option (Int32 × AH) :=
  (pI S h r0 11 0 (0 : Int32)).bind fun h_1 =>
  (gI S h_1 r0 11 13).bind fun v_3 =>
  if (v_3 + (20 : Int32)) ≤ (400 : Int32) then
    (ckO S h_1 r0 11).bind fun _ =>
    (f_X11_four S r0 x1 h_1).bind fun z => match z with
    | (_, h_7) =>
    (ckO S h_7 r0 11).bind fun _ =>
    (f_X11_four S r0 x2 h_7).bind fun z => match z with
    | (_, h_10) =>
    (ckO S h_10 r0 11).bind fun _ =>
    (f_X11_four S r0 x3 h_10).bind fun z => match z with
    | (_, h_13) =>
    (ckO S h_13 r0 11).bind fun _ =>
    (f_X11_four S r0 x4 h_13).bind fun z => match z with
    | (_, h_16) =>
    (ckO S h_16 r0 11).bind fun _ =>
    (f_X11_four S r0 x5 h_16).bind fun z => match z with
    | (_, h_19) =>
    (gI S h_19 r0 11 13).bind fun v_21 =>
    some (v_21, h_19)
  else
    some ((-1 : Int32), h_1)
set_option maxHeartbeats 8000000 in
set_option maxRecDepth 20000 in
theorem s_X11_feed {S : SH} {d cb sb : Nat} {Q : Option Value → AH → Prop} (hd : 1 ≤ d)  {r0 : Nat} {x1 : Int32} {x2 : Int32} {x3 : Int32} {x4 : Int32} {x5 : Int32} {h : AH} (k : ok (f_X11_feed S r0 x1 x2 x3 x4 x5 h) (fun w h' => Q (some (.int w)) h')) : WP S M_X11_feed d cb sb Q 0 [.ref r0, .int x1, .int x2, .int x3, .int x4, .int x5] [] h := by
  obtain ⟨d, rfl, he⟩ := dp (L := 0) hd
  unfold f_X11_feed at k
  refine wp_aload_n dX11_feed_0 rfl ?_
  refine wp_iconst dX11_feed_1 ic_0 ?_
  replace k := ok_bind k
  obtain ⟨h_1, e_2, k⟩ := k
  refine wq_putI fl_X11_152 rfl rfl dX11_feed_2 e_2 ?_
  refine wp_aload_n dX11_feed_5 rfl ?_
  replace k := ok_bind k
  obtain ⟨v_3, e_4, k⟩ := k
  refine wq_getI fl_X11_243 (Or.inl rfl) dX11_feed_6 e_4 ?_
  refine wp_bipush dX11_feed_9 bp_20 ?_
  refine wp_iadd dX11_feed_11 ?_
  refine wp_sipush dX11_feed_12 sp_400 ?_
  refine wp_icmp_le 20 dX11_feed_15 (by decide) (fun c_5 => ?_) (fun c_5 => ?_)
  · replace k := ok_t c_5 k
    refine wp_aload_n dX11_feed_20 rfl ?_
    refine wp_iload_n dX11_feed_21 rfl ?_
    replace k := ok_bind k
    obtain ⟨u, e_6, k⟩ := k
    refine wp_callV1 (N := M_X11_four) (ci := 11) mf_X11_four mi_X11_four me_X11_four ml_X11_252 dX11_feed_22 (ckO_e e_6) mv_X11_four (by exact Nat.le_of_ble_eq_true rfl) (c_X11_four (Nat.le_trans (by decide) he) (ok_mono (ok_bind2 k) fun _ h_7 k => ?_))
    try dsimp only at k
    refine wp_aload_n dX11_feed_25 rfl ?_
    refine wp_iload_n dX11_feed_26 rfl ?_
    replace k := ok_bind k
    obtain ⟨u, e_9, k⟩ := k
    refine wp_callV1 (N := M_X11_four) (ci := 11) mf_X11_four mi_X11_four me_X11_four ml_X11_252 dX11_feed_27 (ckO_e e_9) mv_X11_four (by exact Nat.le_of_ble_eq_true rfl) (c_X11_four (Nat.le_trans (by decide) he) (ok_mono (ok_bind2 k) fun _ h_10 k => ?_))
    try dsimp only at k
    refine wp_aload_n dX11_feed_30 rfl ?_
    refine wp_iload_n dX11_feed_31 rfl ?_
    replace k := ok_bind k
    obtain ⟨u, e_12, k⟩ := k
    refine wp_callV1 (N := M_X11_four) (ci := 11) mf_X11_four mi_X11_four me_X11_four ml_X11_252 dX11_feed_32 (ckO_e e_12) mv_X11_four (by exact Nat.le_of_ble_eq_true rfl) (c_X11_four (Nat.le_trans (by decide) he) (ok_mono (ok_bind2 k) fun _ h_13 k => ?_))
    try dsimp only at k
    refine wp_aload_n dX11_feed_35 rfl ?_
    refine wp_iload dX11_feed_36 rfl ?_
    replace k := ok_bind k
    obtain ⟨u, e_15, k⟩ := k
    refine wp_callV1 (N := M_X11_four) (ci := 11) mf_X11_four mi_X11_four me_X11_four ml_X11_252 dX11_feed_38 (ckO_e e_15) mv_X11_four (by exact Nat.le_of_ble_eq_true rfl) (c_X11_four (Nat.le_trans (by decide) he) (ok_mono (ok_bind2 k) fun _ h_16 k => ?_))
    try dsimp only at k
    refine wp_aload_n dX11_feed_41 rfl ?_
    refine wp_iload dX11_feed_42 rfl ?_
    replace k := ok_bind k
    obtain ⟨u, e_18, k⟩ := k
    refine wp_callV1 (N := M_X11_four) (ci := 11) mf_X11_four mi_X11_four me_X11_four ml_X11_252 dX11_feed_44 (ckO_e e_18) mv_X11_four (by exact Nat.le_of_ble_eq_true rfl) (c_X11_four (Nat.le_trans (by decide) he) (ok_mono (ok_bind2 k) fun _ h_19 k => ?_))
    try dsimp only at k
    refine wp_aload_n dX11_feed_47 rfl ?_
    replace k := ok_bind k
    obtain ⟨v_21, e_22, k⟩ := k
    refine wq_getI fl_X11_243 (Or.inl rfl) dX11_feed_48 e_22 ?_
    refine wp_iret rfl rfl dX11_feed_51 ?_
    exact (ok_some k :)
  · replace k := ok_f c_5 k
    refine wp_iconst dX11_feed_18 ic_m1 ?_
    refine wp_iret rfl rfl dX11_feed_19 ?_
    exact (ok_some k :)
theorem c_X11_feed {S : SH} {d : Nat} {K : Option Value → AH → Prop} (hd : 1 ≤ d)  {r0 : Nat} {x1 : Int32} {x2 : Int32} {x3 : Int32} {x4 : Int32} {x5 : Int32} {h : AH} (k : ok (f_X11_feed S r0 x1 x2 x3 x4 x5 h) (fun w h' => K (some (.int w)) h')) : CP S M_X11_feed d 0 0 [.ref r0, .int x1, .int x2, .int x3, .int x4, .int x5] h K := cp_of (by decide) (fun _ _ => trivial) (fun _ => Nat.le_of_ble_eq_true rfl) (s_X11_feed hd  k)
def f_X11_end (S : SH) (r0 : Nat) (x1 : Int32) (h : AH) : Option (Int32 × AH) :=
  (pI S h r0 11 0 (0 : Int32)).bind fun h_1 =>
  if x1 < (0 : Int32) then
    some ((-1 : Int32), h_1)
  else
    (gI S h_1 r0 11 13).bind fun v_4 =>
    if x1 ≤ v_4 then
      (pI S h_1 r0 11 13 x1).bind fun h_7 =>
      some (x1, h_7)
    else
      some ((-1 : Int32), h_1)
set_option maxHeartbeats 8000000 in
set_option maxRecDepth 20000 in
theorem s_X11_end {S : SH} {d cb sb : Nat} {Q : Option Value → AH → Prop} (hd : 0 ≤ d)  {r0 : Nat} {x1 : Int32} {h : AH} (k : ok (f_X11_end S r0 x1 h) (fun w h' => Q (some (.int w)) h')) : WP S M_X11_end d cb sb Q 0 [.ref r0, .int x1] [] h := by
  unfold f_X11_end at k
  refine wp_aload_n dX11_end_0 rfl ?_
  refine wp_iconst dX11_end_1 ic_0 ?_
  replace k := ok_bind k
  obtain ⟨h_1, e_2, k⟩ := k
  refine wq_putI fl_X11_152 rfl rfl dX11_end_2 e_2 ?_
  refine wp_iload_n dX11_end_5 rfl ?_
  refine wp_if_lt 17 dX11_end_6 (by decide) (fun c_3 => ?_) (fun c_3 => ?_)
  · replace k := ok_t c_3 k
    refine wp_iconst dX11_end_17 ic_m1 ?_
    refine wp_iret rfl rfl dX11_end_18 ?_
    exact (ok_some k :)
  · replace k := ok_f c_3 k
    refine wp_iload_n dX11_end_9 rfl ?_
    refine wp_aload_n dX11_end_10 rfl ?_
    replace k := ok_bind k
    obtain ⟨v_4, e_5, k⟩ := k
    refine wq_getI fl_X11_243 (Or.inl rfl) dX11_end_11 e_5 ?_
    refine wp_icmp_le 19 dX11_end_14 (by decide) (fun c_6 => ?_) (fun c_6 => ?_)
    · replace k := ok_t c_6 k
      refine wp_aload_n dX11_end_19 rfl ?_
      refine wp_iload_n dX11_end_20 rfl ?_
      replace k := ok_bind k
      obtain ⟨h_7, e_8, k⟩ := k
      refine wq_putI fl_X11_243 rfl rfl dX11_end_21 e_8 ?_
      refine wp_iload_n dX11_end_24 rfl ?_
      refine wp_iret rfl rfl dX11_end_25 ?_
      exact (ok_some k :)
    · replace k := ok_f c_6 k
      refine wp_iconst dX11_end_17 ic_m1 ?_
      refine wp_iret rfl rfl dX11_end_18 ?_
      exact (ok_some k :)
theorem c_X11_end {S : SH} {d : Nat} {K : Option Value → AH → Prop} (hd : 0 ≤ d)  {r0 : Nat} {x1 : Int32} {h : AH} (k : ok (f_X11_end S r0 x1 h) (fun w h' => K (some (.int w)) h')) : CP S M_X11_end d 0 0 [.ref r0, .int x1] h K := cp_of (by decide) (fun _ _ => trivial) (fun _ => Nat.le_of_ble_eq_true rfl) (s_X11_end hd  k)
def f_X11_isSmall (S : SH) (x0 : Int32) (h : AH) : Option (Int32 × AH) :=
  if x0 < (97 : Int32) then
    some ((0 : Int32), h)
  else
    if (122 : Int32) < x0 then
      some ((0 : Int32), h)
    else
      some ((1 : Int32), h)
set_option maxHeartbeats 8000000 in
set_option maxRecDepth 20000 in
theorem s_X11_isSmall {S : SH} {d cb sb : Nat} {Q : Option Value → AH → Prop} (hd : 0 ≤ d)  {x0 : Int32} {h : AH} (k : ok (f_X11_isSmall S x0 h) (fun w h' => Q (some (.int w)) h')) : WP S M_X11_isSmall d cb sb Q 0 [.int x0] [] h := by
  unfold f_X11_isSmall at k
  refine wp_iload_n dX11_isSmall_0 rfl ?_
  refine wp_bipush dX11_isSmall_1 bp_97 ?_
  refine wp_icmp_lt 16 dX11_isSmall_3 (by decide) (fun c_1 => ?_) (fun c_1 => ?_)
  · replace k := ok_t c_1 k
    refine wp_iconst dX11_isSmall_16 ic_0 ?_
    refine wp_iret rfl rfl dX11_isSmall_17 ?_
    exact (ok_some k :)
  · replace k := ok_f c_1 k
    refine wp_iload_n dX11_isSmall_6 rfl ?_
    refine wp_bipush dX11_isSmall_7 bp_122 ?_
    refine wp_icmp_gt 16 dX11_isSmall_9 (by decide) (fun c_2 => ?_) (fun c_2 => ?_)
    · replace k := ok_t c_2 k
      refine wp_iconst dX11_isSmall_16 ic_0 ?_
      refine wp_iret rfl rfl dX11_isSmall_17 ?_
      exact (ok_some k :)
    · replace k := ok_f c_2 k
      refine wp_iconst dX11_isSmall_12 ic_1 ?_
      refine wp_goto 17 dX11_isSmall_13 (by decide) ?_
      refine wp_iret rfl rfl dX11_isSmall_17 ?_
      exact (ok_some k :)
theorem c_X11_isSmall {S : SH} {d : Nat} {K : Option Value → AH → Prop} (hd : 0 ≤ d)  {x0 : Int32} {h : AH} (k : ok (f_X11_isSmall S x0 h) (fun w h' => K (some (.int w)) h')) : CP S M_X11_isSmall d 0 0 [.int x0] h K := cp_of (by decide) (fun _ _ => trivial) (fun _ => Nat.le_of_ble_eq_true rfl) (s_X11_isSmall hd  k)
def f_X11_isDigit (S : SH) (x0 : Int32) (h : AH) : Option (Int32 × AH) :=
  if x0 < (48 : Int32) then
    some ((0 : Int32), h)
  else
    if (57 : Int32) < x0 then
      some ((0 : Int32), h)
    else
      some ((1 : Int32), h)
set_option maxHeartbeats 8000000 in
set_option maxRecDepth 20000 in
theorem s_X11_isDigit {S : SH} {d cb sb : Nat} {Q : Option Value → AH → Prop} (hd : 0 ≤ d)  {x0 : Int32} {h : AH} (k : ok (f_X11_isDigit S x0 h) (fun w h' => Q (some (.int w)) h')) : WP S M_X11_isDigit d cb sb Q 0 [.int x0] [] h := by
  unfold f_X11_isDigit at k
  refine wp_iload_n dX11_isDigit_0 rfl ?_
  refine wp_bipush dX11_isDigit_1 bp_48 ?_
  refine wp_icmp_lt 16 dX11_isDigit_3 (by decide) (fun c_1 => ?_) (fun c_1 => ?_)
  · replace k := ok_t c_1 k
    refine wp_iconst dX11_isDigit_16 ic_0 ?_
    refine wp_iret rfl rfl dX11_isDigit_17 ?_
    exact (ok_some k :)
  · replace k := ok_f c_1 k
    refine wp_iload_n dX11_isDigit_6 rfl ?_
    refine wp_bipush dX11_isDigit_7 bp_57 ?_
    refine wp_icmp_gt 16 dX11_isDigit_9 (by decide) (fun c_2 => ?_) (fun c_2 => ?_)
    · replace k := ok_t c_2 k
      refine wp_iconst dX11_isDigit_16 ic_0 ?_
      refine wp_iret rfl rfl dX11_isDigit_17 ?_
      exact (ok_some k :)
    · replace k := ok_f c_2 k
      refine wp_iconst dX11_isDigit_12 ic_1 ?_
      refine wp_goto 17 dX11_isDigit_13 (by decide) ?_
      refine wp_iret rfl rfl dX11_isDigit_17 ?_
      exact (ok_some k :)
theorem c_X11_isDigit {S : SH} {d : Nat} {K : Option Value → AH → Prop} (hd : 0 ≤ d)  {x0 : Int32} {h : AH} (k : ok (f_X11_isDigit S x0 h) (fun w h' => K (some (.int w)) h')) : CP S M_X11_isDigit d 0 0 [.int x0] h K := cp_of (by decide) (fun _ _ => trivial) (fun _ => Nat.le_of_ble_eq_true rfl) (s_X11_isDigit hd  k)
def f_X11_next_l8b (S : SH) (rc : Nat → AH → Option (Nat × AH)) (r0 : Nat) (h : AH) : Option (Nat × AH) :=
  (gI S h r0 11 14).bind fun v_1 =>
  (gI S h r0 11 13).bind fun v_3 =>
  if v_3 ≤ v_1 then
    some (r0, h)
  else
    (gR S h r0 11 12).bind fun p_6 =>
    (gI S h r0 11 14).bind fun v_8 =>
    (aI S h p_6 v_8).bind fun v_10 =>
    if v_10 = (32 : Int32) then
      (gI S h r0 11 14).bind fun v_13 =>
      (pI S h r0 11 14 (v_13 + (1 : Int32))).bind fun h_15 =>
      rc r0 h_15
    else
      some (r0, h)
set_option maxHeartbeats 8000000 in
set_option maxRecDepth 20000 in
theorem s_X11_next_l8b {S : SH} {d cb sb : Nat} {Q : Option Value → AH → Prop} (hd : 1 ≤ d) {K : Nat → AH → Prop} (hex : ∀ (r0 : Nat) (h' : AH), K r0 h' → WP S M_X11_next d cb sb Q 46 [.ref r0] [] h') {rc : Nat → AH → Option (Nat × AH)} (hrec : ∀ (r0 : Nat) (h' : AH), ok (rc r0 h') K → WP S M_X11_next d cb sb Q 8 [.ref r0] [] h') {r0 : Nat} {h : AH} (k : ok (f_X11_next_l8b S rc r0 h) K) : WP S M_X11_next d cb sb Q 8 [.ref r0] [] h := by
  obtain ⟨d, rfl, he⟩ := dp (L := 0) hd
  unfold f_X11_next_l8b at k
  refine wp_aload_n dX11_next_8 rfl ?_
  replace k := ok_bind k
  obtain ⟨v_1, e_2, k⟩ := k
  refine wq_getI fl_X11_265 (Or.inl rfl) dX11_next_9 e_2 ?_
  refine wp_aload_n dX11_next_12 rfl ?_
  replace k := ok_bind k
  obtain ⟨v_3, e_4, k⟩ := k
  refine wq_getI fl_X11_243 (Or.inl rfl) dX11_next_13 e_4 ?_
  refine wp_icmp_ge 46 dX11_next_16 (by decide) (fun c_5 => ?_) (fun c_5 => ?_)
  · replace k := ok_t c_5 k
    exact wp_wk (wkE <| wkN) (hex _ _ (ok_some k))
  · replace k := ok_f c_5 k
    refine wp_aload_n dX11_next_19 rfl ?_
    replace k := ok_bind k
    obtain ⟨p_6, e_7, k⟩ := k
    refine wq_getR fl_X11_35 (Or.inr ⟨_, rfl⟩) dX11_next_20 e_7 ?_
    refine wp_aload_n dX11_next_23 rfl ?_
    replace k := ok_bind k
    obtain ⟨v_8, e_9, k⟩ := k
    refine wq_getI fl_X11_265 (Or.inl rfl) dX11_next_24 e_9 ?_
    replace k := ok_bind k
    obtain ⟨v_10, e_11, k⟩ := k
    refine wq_aI dX11_next_27 e_11 ?_
    refine wp_bipush dX11_next_28 bp_32 ?_
    refine wp_icmp_ne 46 dX11_next_30 (by decide) (fun c_12 => ?_) (fun c_12 => ?_)
    · replace k := ok_f c_12 k
      exact wp_wk (wkE <| wkN) (hex _ _ (ok_some k))
    · replace k := ok_t c_12 k
      refine wp_aload_n dX11_next_33 rfl ?_
      refine wp_dupR dX11_next_34 ?_
      replace k := ok_bind k
      obtain ⟨v_13, e_14, k⟩ := k
      refine wq_getI fl_X11_265 (Or.inl rfl) dX11_next_35 e_14 ?_
      refine wp_iconst dX11_next_38 ic_1 ?_
      refine wp_iadd dX11_next_39 ?_
      replace k := ok_bind k
      obtain ⟨h_15, e_16, k⟩ := k
      refine wq_putI fl_X11_265 rfl rfl dX11_next_40 e_16 ?_
      refine wp_goto 8 dX11_next_43 (by decide) ?_
      exact wp_wk (wkE <| wkN) (hrec _ _ k)
def f_X11_next_l8 (S : SH) : Nat → Nat → AH → Option (Nat × AH)
  | 0, _, _ => none
  | n + 1, r0, h => f_X11_next_l8b S (f_X11_next_l8 S n) r0 h
theorem s_X11_next_l8 {S : SH} {d cb sb : Nat} {Q : Option Value → AH → Prop} (hd : 1 ≤ d) {K : Nat → AH → Prop} (hex : ∀ (r0 : Nat) (h' : AH), K r0 h' → WP S M_X11_next d cb sb Q 46 [.ref r0] [] h') : ∀ (n : Nat) (r0 : Nat) (h : AH), ok (f_X11_next_l8 S n r0 h) K → WP S M_X11_next d cb sb Q 8 [.ref r0] [] h := by
  intro n
  induction n with
  | zero => intro r0 h k; exact ok_none k
  | succ n ih => intro r0 h k; exact s_X11_next_l8b hd hex (fun r0 h k => ih r0 h k) k
def f_X11_next_l149b (S : SH) (rc : Nat → AH → Option (Nat × AH)) (r0 : Nat) (h : AH) : Option (Nat × AH) :=
  (gI S h r0 11 16).bind fun v_1 =>
  if v_1 = (1 : Int32) then
    (gI S h r0 11 15).bind fun v_4 =>
    (gI S h r0 11 13).bind fun v_6 =>
    if v_6 ≤ v_4 then
      some (r0, h)
    else
      (gR S h r0 11 12).bind fun p_9 =>
      (gI S h r0 11 15).bind fun v_11 =>
      (aI S h p_9 v_11).bind fun v_13 =>
      (f_X11_isSmall S v_13 h).bind fun z => match z with
      | (z_16, h_15) =>
      if z_16 = (0 : Int32) then
        some (r0, h_15)
      else
        (gI S h_15 r0 11 15).bind fun v_18 =>
        (gI S h_15 r0 11 14).bind fun v_20 =>
        if (10 : Int32) ≤ (v_18 - v_20) then
          (pJ S h_15 r0 11 17 (-1 : Int64)).bind fun h_23 =>
          (gI S h_23 r0 11 15).bind fun v_25 =>
          (pI S h_23 r0 11 15 (v_25 + (1 : Int32))).bind fun h_27 =>
          rc r0 h_27
        else
          (gJ S h_15 r0 11 17).bind fun w_29 =>
          (gR S h_15 r0 11 12).bind fun p_31 =>
          (gI S h_15 r0 11 15).bind fun v_33 =>
          (aI S h_15 p_31 v_33).bind fun v_35 =>
          (pJ S h_15 r0 11 17 (((w_29 * (32 : Int64)) + (Int32.toInt64 v_35)) - (96 : Int64))).bind fun h_37 =>
          (gI S h_37 r0 11 15).bind fun v_39 =>
          (pI S h_37 r0 11 15 (v_39 + (1 : Int32))).bind fun h_41 =>
          rc r0 h_41
  else
    some (r0, h)
set_option maxHeartbeats 8000000 in
set_option maxRecDepth 20000 in
theorem s_X11_next_l149b {S : SH} {d cb sb : Nat} {Q : Option Value → AH → Prop} (hd : 1 ≤ d) {K : Nat → AH → Prop} (hex : ∀ (r0 : Nat) (h' : AH), K r0 h' → WP S M_X11_next d cb sb Q 243 [.ref r0] [] h') {rc : Nat → AH → Option (Nat × AH)} (hrec : ∀ (r0 : Nat) (h' : AH), ok (rc r0 h') K → WP S M_X11_next d cb sb Q 149 [.ref r0] [] h') {r0 : Nat} {h : AH} (k : ok (f_X11_next_l149b S rc r0 h) K) : WP S M_X11_next d cb sb Q 149 [.ref r0] [] h := by
  obtain ⟨d, rfl, he⟩ := dp (L := 0) hd
  unfold f_X11_next_l149b at k
  refine wp_aload_n dX11_next_149 rfl ?_
  replace k := ok_bind k
  obtain ⟨v_1, e_2, k⟩ := k
  refine wq_getI fl_X11_278 (Or.inl rfl) dX11_next_150 e_2 ?_
  refine wp_iconst dX11_next_153 ic_1 ?_
  refine wp_icmp_ne 243 dX11_next_154 (by decide) (fun c_3 => ?_) (fun c_3 => ?_)
  · replace k := ok_f c_3 k
    exact wp_wk (wkE <| wkN) (hex _ _ (ok_some k))
  · replace k := ok_t c_3 k
    refine wp_aload_n dX11_next_157 rfl ?_
    replace k := ok_bind k
    obtain ⟨v_4, e_5, k⟩ := k
    refine wq_getI fl_X11_255 (Or.inl rfl) dX11_next_158 e_5 ?_
    refine wp_aload_n dX11_next_161 rfl ?_
    replace k := ok_bind k
    obtain ⟨v_6, e_7, k⟩ := k
    refine wq_getI fl_X11_243 (Or.inl rfl) dX11_next_162 e_7 ?_
    refine wp_icmp_ge 243 dX11_next_165 (by decide) (fun c_8 => ?_) (fun c_8 => ?_)
    · replace k := ok_t c_8 k
      exact wp_wk (wkE <| wkN) (hex _ _ (ok_some k))
    · replace k := ok_f c_8 k
      refine wp_aload_n dX11_next_168 rfl ?_
      replace k := ok_bind k
      obtain ⟨p_9, e_10, k⟩ := k
      refine wq_getR fl_X11_35 (Or.inr ⟨_, rfl⟩) dX11_next_169 e_10 ?_
      refine wp_aload_n dX11_next_172 rfl ?_
      replace k := ok_bind k
      obtain ⟨v_11, e_12, k⟩ := k
      refine wq_getI fl_X11_255 (Or.inl rfl) dX11_next_173 e_12 ?_
      replace k := ok_bind k
      obtain ⟨v_13, e_14, k⟩ := k
      refine wq_aI dX11_next_176 e_14 ?_
      refine wp_callS1 (N := M_X11_isSmall) mf_X11_isSmall ms_X11_isSmall ml_X11_272 dX11_next_177 (by exact Nat.le_of_ble_eq_true rfl) (c_X11_isSmall (Nat.le_trans (by decide) he) (ok_mono (ok_bind2 k) fun z_16 h_15 k => ?_))
      try dsimp only at k
      refine wp_if_eq 243 dX11_next_180 (by decide) (fun c_17 => ?_) (fun c_17 => ?_)
      · replace k := ok_t c_17 k
        exact wp_wk (wkE <| wkN) (hex _ _ (ok_some k))
      · replace k := ok_f c_17 k
        refine wp_aload_n dX11_next_183 rfl ?_
        refine wp_aload_n dX11_next_184 rfl ?_
        replace k := ok_bind k
        obtain ⟨v_18, e_19, k⟩ := k
        refine wq_getI fl_X11_255 (Or.inl rfl) dX11_next_185 e_19 ?_
        refine wp_aload_n dX11_next_188 rfl ?_
        replace k := ok_bind k
        obtain ⟨v_20, e_21, k⟩ := k
        refine wq_getI fl_X11_265 (Or.inl rfl) dX11_next_189 e_21 ?_
        refine wp_isub dX11_next_192 ?_
        refine wp_bipush dX11_next_193 bp_10 ?_
        refine wp_icmp_ge 224 dX11_next_195 (by decide) (fun c_22 => ?_) (fun c_22 => ?_)
        · replace k := ok_t c_22 k
          refine wp_ldc2 ct_X11_179 dX11_next_224 ?_
          replace k := ok_bind k
          obtain ⟨h_23, e_24, k⟩ := k
          refine wq_putJ fl_X11_268 rfl rfl dX11_next_227 e_24 ?_
          refine wp_aload_n dX11_next_230 rfl ?_
          refine wp_dupR dX11_next_231 ?_
          replace k := ok_bind k
          obtain ⟨v_25, e_26, k⟩ := k
          refine wq_getI fl_X11_255 (Or.inl rfl) dX11_next_232 e_26 ?_
          refine wp_iconst dX11_next_235 ic_1 ?_
          refine wp_iadd dX11_next_236 ?_
          replace k := ok_bind k
          obtain ⟨h_27, e_28, k⟩ := k
          refine wq_putI fl_X11_255 rfl rfl dX11_next_237 e_28 ?_
          refine wp_goto 149 dX11_next_240 (by decide) ?_
          exact wp_wk (wkE <| wkN) (hrec _ _ k)
        · replace k := ok_f c_22 k
          refine wp_aload_n dX11_next_198 rfl ?_
          replace k := ok_bind k
          obtain ⟨w_29, e_30, k⟩ := k
          refine wq_getJ fl_X11_268 rfl dX11_next_199 e_30 ?_
          refine wp_ldc2 ct_X11_281 dX11_next_202 ?_
          refine wp_lmul dX11_next_205 ?_
          refine wp_aload_n dX11_next_206 rfl ?_
          replace k := ok_bind k
          obtain ⟨p_31, e_32, k⟩ := k
          refine wq_getR fl_X11_35 (Or.inr ⟨_, rfl⟩) dX11_next_207 e_32 ?_
          refine wp_aload_n dX11_next_210 rfl ?_
          replace k := ok_bind k
          obtain ⟨v_33, e_34, k⟩ := k
          refine wq_getI fl_X11_255 (Or.inl rfl) dX11_next_211 e_34 ?_
          replace k := ok_bind k
          obtain ⟨v_35, e_36, k⟩ := k
          refine wq_aI dX11_next_214 e_36 ?_
          refine wp_i2l dX11_next_215 ?_
          refine wp_ladd dX11_next_216 ?_
          refine wp_ldc2 ct_X11_283 dX11_next_217 ?_
          refine wp_lsub dX11_next_220 ?_
          refine wp_goto 227 dX11_next_221 (by decide) ?_
          replace k := ok_bind k
          obtain ⟨h_37, e_38, k⟩ := k
          refine wq_putJ fl_X11_268 rfl rfl dX11_next_227 e_38 ?_
          refine wp_aload_n dX11_next_230 rfl ?_
          refine wp_dupR dX11_next_231 ?_
          replace k := ok_bind k
          obtain ⟨v_39, e_40, k⟩ := k
          refine wq_getI fl_X11_255 (Or.inl rfl) dX11_next_232 e_40 ?_
          refine wp_iconst dX11_next_235 ic_1 ?_
          refine wp_iadd dX11_next_236 ?_
          replace k := ok_bind k
          obtain ⟨h_41, e_42, k⟩ := k
          refine wq_putI fl_X11_255 rfl rfl dX11_next_237 e_42 ?_
          refine wp_goto 149 dX11_next_240 (by decide) ?_
          exact wp_wk (wkE <| wkN) (hrec _ _ k)
def f_X11_next_l149 (S : SH) : Nat → Nat → AH → Option (Nat × AH)
  | 0, _, _ => none
  | n + 1, r0, h => f_X11_next_l149b S (f_X11_next_l149 S n) r0 h
theorem s_X11_next_l149 {S : SH} {d cb sb : Nat} {Q : Option Value → AH → Prop} (hd : 1 ≤ d) {K : Nat → AH → Prop} (hex : ∀ (r0 : Nat) (h' : AH), K r0 h' → WP S M_X11_next d cb sb Q 243 [.ref r0] [] h') : ∀ (n : Nat) (r0 : Nat) (h : AH), ok (f_X11_next_l149 S n r0 h) K → WP S M_X11_next d cb sb Q 149 [.ref r0] [] h := by
  intro n
  induction n with
  | zero => intro r0 h k; exact ok_none k
  | succ n ih => intro r0 h k; exact s_X11_next_l149b hd hex (fun r0 h k => ih r0 h k) k
def f_X11_next_l243b (S : SH) (rc : Nat → AH → Option (Unit × AH)) (r0 : Nat) (h : AH) : Option (Unit × AH) :=
  (gI S h r0 11 16).bind fun v_1 =>
  if v_1 = (2 : Int32) then
    (gI S h r0 11 15).bind fun v_4 =>
    (gI S h r0 11 13).bind fun v_6 =>
    if v_6 ≤ v_4 then
      some ((), h)
    else
      (gR S h r0 11 12).bind fun p_9 =>
      (gI S h r0 11 15).bind fun v_11 =>
      (aI S h p_9 v_11).bind fun v_13 =>
      (f_X11_isDigit S v_13 h).bind fun z => match z with
      | (z_16, h_15) =>
      if z_16 = (0 : Int32) then
        some ((), h_15)
      else
        (gJ S h_15 r0 11 17).bind fun w_18 =>
        if (lg_cmp w_18 (1000000 : Int64)) ≤ (0 : Int32) then
          (gJ S h_15 r0 11 17).bind fun w_21 =>
          (gR S h_15 r0 11 12).bind fun p_23 =>
          (gI S h_15 r0 11 15).bind fun v_25 =>
          (aI S h_15 p_23 v_25).bind fun v_27 =>
          (pJ S h_15 r0 11 17 (((w_21 * (10 : Int64)) + (Int32.toInt64 v_27)) - (48 : Int64))).bind fun h_29 =>
          (gI S h_29 r0 11 15).bind fun v_31 =>
          (pI S h_29 r0 11 15 (v_31 + (1 : Int32))).bind fun h_33 =>
          rc r0 h_33
        else
          (gJ S h_15 r0 11 17).bind fun w_35 =>
          (pJ S h_15 r0 11 17 w_35).bind fun h_37 =>
          (gI S h_37 r0 11 15).bind fun v_39 =>
          (pI S h_37 r0 11 15 (v_39 + (1 : Int32))).bind fun h_41 =>
          rc r0 h_41
  else
    some ((), h)
set_option maxHeartbeats 8000000 in
set_option maxRecDepth 20000 in
theorem s_X11_next_l243b {S : SH} {d cb sb : Nat} {Q : Option Value → AH → Prop} (hd : 1 ≤ d) {K : Unit → AH → Prop} (hex : ∀  (h' : AH), K () h' → WP S M_X11_next d cb sb Q 335 [JK] [] h') {rc : Nat → AH → Option (Unit × AH)} (hrec : ∀ (r0 : Nat) (h' : AH), ok (rc r0 h') K → WP S M_X11_next d cb sb Q 243 [.ref r0] [] h') {r0 : Nat} {h : AH} (k : ok (f_X11_next_l243b S rc r0 h) K) : WP S M_X11_next d cb sb Q 243 [.ref r0] [] h := by
  obtain ⟨d, rfl, he⟩ := dp (L := 0) hd
  unfold f_X11_next_l243b at k
  refine wp_aload_n dX11_next_243 rfl ?_
  replace k := ok_bind k
  obtain ⟨v_1, e_2, k⟩ := k
  refine wq_getI fl_X11_278 (Or.inl rfl) dX11_next_244 e_2 ?_
  refine wp_iconst dX11_next_247 ic_2 ?_
  refine wp_icmp_ne 335 dX11_next_248 (by decide) (fun c_3 => ?_) (fun c_3 => ?_)
  · replace k := ok_f c_3 k
    exact wp_wk (wkJ <| wkN) (hex  _ (ok_some k))
  · replace k := ok_t c_3 k
    refine wp_aload_n dX11_next_251 rfl ?_
    replace k := ok_bind k
    obtain ⟨v_4, e_5, k⟩ := k
    refine wq_getI fl_X11_255 (Or.inl rfl) dX11_next_252 e_5 ?_
    refine wp_aload_n dX11_next_255 rfl ?_
    replace k := ok_bind k
    obtain ⟨v_6, e_7, k⟩ := k
    refine wq_getI fl_X11_243 (Or.inl rfl) dX11_next_256 e_7 ?_
    refine wp_icmp_ge 335 dX11_next_259 (by decide) (fun c_8 => ?_) (fun c_8 => ?_)
    · replace k := ok_t c_8 k
      exact wp_wk (wkJ <| wkN) (hex  _ (ok_some k))
    · replace k := ok_f c_8 k
      refine wp_aload_n dX11_next_262 rfl ?_
      replace k := ok_bind k
      obtain ⟨p_9, e_10, k⟩ := k
      refine wq_getR fl_X11_35 (Or.inr ⟨_, rfl⟩) dX11_next_263 e_10 ?_
      refine wp_aload_n dX11_next_266 rfl ?_
      replace k := ok_bind k
      obtain ⟨v_11, e_12, k⟩ := k
      refine wq_getI fl_X11_255 (Or.inl rfl) dX11_next_267 e_12 ?_
      replace k := ok_bind k
      obtain ⟨v_13, e_14, k⟩ := k
      refine wq_aI dX11_next_270 e_14 ?_
      refine wp_callS1 (N := M_X11_isDigit) mf_X11_isDigit ms_X11_isDigit ml_X11_275 dX11_next_271 (by exact Nat.le_of_ble_eq_true rfl) (c_X11_isDigit (Nat.le_trans (by decide) he) (ok_mono (ok_bind2 k) fun z_16 h_15 k => ?_))
      try dsimp only at k
      refine wp_if_eq 335 dX11_next_274 (by decide) (fun c_17 => ?_) (fun c_17 => ?_)
      · replace k := ok_t c_17 k
        exact wp_wk (wkJ <| wkN) (hex  _ (ok_some k))
      · replace k := ok_f c_17 k
        refine wp_aload_n dX11_next_277 rfl ?_
        refine wp_aload_n dX11_next_278 rfl ?_
        replace k := ok_bind k
        obtain ⟨w_18, e_19, k⟩ := k
        refine wq_getJ fl_X11_268 rfl dX11_next_279 e_19 ?_
        refine wp_ldc2 ct_X11_285 dX11_next_282 ?_
        refine wp_lcmp dX11_next_285 ?_
        refine wp_if_le 296 dX11_next_286 (by decide) (fun c_20 => ?_) (fun c_20 => ?_)
        · replace k := ok_t c_20 k
          refine wp_aload_n dX11_next_296 rfl ?_
          replace k := ok_bind k
          obtain ⟨w_21, e_22, k⟩ := k
          refine wq_getJ fl_X11_268 rfl dX11_next_297 e_22 ?_
          refine wp_ldc2 ct_X11_239 dX11_next_300 ?_
          refine wp_lmul dX11_next_303 ?_
          refine wp_aload_n dX11_next_304 rfl ?_
          replace k := ok_bind k
          obtain ⟨p_23, e_24, k⟩ := k
          refine wq_getR fl_X11_35 (Or.inr ⟨_, rfl⟩) dX11_next_305 e_24 ?_
          refine wp_aload_n dX11_next_308 rfl ?_
          replace k := ok_bind k
          obtain ⟨v_25, e_26, k⟩ := k
          refine wq_getI fl_X11_255 (Or.inl rfl) dX11_next_309 e_26 ?_
          replace k := ok_bind k
          obtain ⟨v_27, e_28, k⟩ := k
          refine wq_aI dX11_next_312 e_28 ?_
          refine wp_i2l dX11_next_313 ?_
          refine wp_ladd dX11_next_314 ?_
          refine wp_ldc2 ct_X11_287 dX11_next_315 ?_
          refine wp_lsub dX11_next_318 ?_
          replace k := ok_bind k
          obtain ⟨h_29, e_30, k⟩ := k
          refine wq_putJ fl_X11_268 rfl rfl dX11_next_319 e_30 ?_
          refine wp_aload_n dX11_next_322 rfl ?_
          refine wp_dupR dX11_next_323 ?_
          replace k := ok_bind k
          obtain ⟨v_31, e_32, k⟩ := k
          refine wq_getI fl_X11_255 (Or.inl rfl) dX11_next_324 e_32 ?_
          refine wp_iconst dX11_next_327 ic_1 ?_
          refine wp_iadd dX11_next_328 ?_
          replace k := ok_bind k
          obtain ⟨h_33, e_34, k⟩ := k
          refine wq_putI fl_X11_255 rfl rfl dX11_next_329 e_34 ?_
          refine wp_goto 243 dX11_next_332 (by decide) ?_
          exact wp_wk (wkE <| wkN) (hrec _ _ k)
        · replace k := ok_f c_20 k
          refine wp_aload_n dX11_next_289 rfl ?_
          replace k := ok_bind k
          obtain ⟨w_35, e_36, k⟩ := k
          refine wq_getJ fl_X11_268 rfl dX11_next_290 e_36 ?_
          refine wp_goto 319 dX11_next_293 (by decide) ?_
          replace k := ok_bind k
          obtain ⟨h_37, e_38, k⟩ := k
          refine wq_putJ fl_X11_268 rfl rfl dX11_next_319 e_38 ?_
          refine wp_aload_n dX11_next_322 rfl ?_
          refine wp_dupR dX11_next_323 ?_
          replace k := ok_bind k
          obtain ⟨v_39, e_40, k⟩ := k
          refine wq_getI fl_X11_255 (Or.inl rfl) dX11_next_324 e_40 ?_
          refine wp_iconst dX11_next_327 ic_1 ?_
          refine wp_iadd dX11_next_328 ?_
          replace k := ok_bind k
          obtain ⟨h_41, e_42, k⟩ := k
          refine wq_putI fl_X11_255 rfl rfl dX11_next_329 e_42 ?_
          refine wp_goto 243 dX11_next_332 (by decide) ?_
          exact wp_wk (wkE <| wkN) (hrec _ _ k)
def f_X11_next_l243 (S : SH) : Nat → Nat → AH → Option (Unit × AH)
  | 0, _, _ => none
  | n + 1, r0, h => f_X11_next_l243b S (f_X11_next_l243 S n) r0 h
theorem s_X11_next_l243 {S : SH} {d cb sb : Nat} {Q : Option Value → AH → Prop} (hd : 1 ≤ d) {K : Unit → AH → Prop} (hex : ∀  (h' : AH), K () h' → WP S M_X11_next d cb sb Q 335 [JK] [] h') : ∀ (n : Nat) (r0 : Nat) (h : AH), ok (f_X11_next_l243 S n r0 h) K → WP S M_X11_next d cb sb Q 243 [.ref r0] [] h := by
  intro n
  induction n with
  | zero => intro r0 h k; exact ok_none k
  | succ n ih => intro r0 h k; exact s_X11_next_l243b hd hex (fun r0 h k => ih r0 h k) k
def f_X11_next_j114 (S : SH) (r0 : Nat) (sr0 : Nat) (sx1 : Int32) (h : AH) : Option (Unit × AH) :=
  (pI S h sr0 11 16 sx1).bind fun h_1 =>
  (gI S h_1 r0 11 16).bind fun v_3 =>
  if v_3 = (3 : Int32) then
    (gR S h_1 r0 11 12).bind fun p_9 =>
    (gI S h_1 r0 11 14).bind fun v_11 =>
    (aI S h_1 p_9 v_11).bind fun v_13 =>
    (pJ S h_1 r0 11 17 (Int32.toInt64 v_13)).bind fun h_15 =>
    (gI S h_15 r0 11 15).bind fun v_17 =>
    (pI S h_15 r0 11 15 (v_17 + (1 : Int32))).bind fun h_19 =>
    (f_X11_next_l149 S FU r0 h_19).bind fun z => match z with
    | (r0_22, h_21) =>
    (f_X11_next_l243 S FU r0_22 h_21).bind fun z => match z with
    | ((), h_23) =>
    some ((), h_23)
  else
    (f_X11_next_l149 S FU r0 h_1).bind fun z => match z with
    | (r0_7, h_6) =>
    (f_X11_next_l243 S FU r0_7 h_6).bind fun z => match z with
    | ((), h_8) =>
    some ((), h_8)
set_option maxHeartbeats 8000000 in
set_option maxRecDepth 20000 in
theorem s_X11_next_j114 {S : SH} {d cb sb : Nat} {Q : Option Value → AH → Prop} (hd : 1 ≤ d)  {r0 : Nat} {sr0 : Nat} {sx1 : Int32} {h : AH} (k : ok (f_X11_next_j114 S r0 sr0 sx1 h) (fun _ h' => Q none h')) : WP S M_X11_next d cb sb Q 114 [.ref r0] [.int sx1, .ref sr0] h := by
  obtain ⟨d, rfl, he⟩ := dp (L := 0) hd
  unfold f_X11_next_j114 at k
  replace k := ok_bind k
  obtain ⟨h_1, e_2, k⟩ := k
  refine wq_putI fl_X11_278 rfl rfl dX11_next_114 e_2 ?_
  refine wp_aload_n dX11_next_117 rfl ?_
  replace k := ok_bind k
  obtain ⟨v_3, e_4, k⟩ := k
  refine wq_getI fl_X11_278 (Or.inl rfl) dX11_next_118 e_4 ?_
  refine wp_iconst dX11_next_121 ic_3 ?_
  refine wp_icmp_ne 149 dX11_next_122 (by decide) (fun c_5 => ?_) (fun c_5 => ?_)
  · replace k := ok_f c_5 k
    refine wp_wk (wkE <| wkN) ?_
    refine s_X11_next_l149 (Nat.succ_le_succ he) (fun r0_7 h_6 k => ?_) FU _ _ (ok_bind2 k)
    try dsimp only at k
    refine wp_wk (wkE <| wkN) ?_
    refine s_X11_next_l243 (Nat.succ_le_succ he) (fun  h_8 k => ?_) FU _ _ (ok_bind2 k)
    try dsimp only at k
    refine wp_vret rfl dX11_next_335 ?_
    exact (ok_some k :)
  · replace k := ok_t c_5 k
    refine wp_aload_n dX11_next_125 rfl ?_
    refine wp_aload_n dX11_next_126 rfl ?_
    replace k := ok_bind k
    obtain ⟨p_9, e_10, k⟩ := k
    refine wq_getR fl_X11_35 (Or.inr ⟨_, rfl⟩) dX11_next_127 e_10 ?_
    refine wp_aload_n dX11_next_130 rfl ?_
    replace k := ok_bind k
    obtain ⟨v_11, e_12, k⟩ := k
    refine wq_getI fl_X11_265 (Or.inl rfl) dX11_next_131 e_12 ?_
    replace k := ok_bind k
    obtain ⟨v_13, e_14, k⟩ := k
    refine wq_aI dX11_next_134 e_14 ?_
    refine wp_i2l dX11_next_135 ?_
    replace k := ok_bind k
    obtain ⟨h_15, e_16, k⟩ := k
    refine wq_putJ fl_X11_268 rfl rfl dX11_next_136 e_16 ?_
    refine wp_aload_n dX11_next_139 rfl ?_
    refine wp_dupR dX11_next_140 ?_
    replace k := ok_bind k
    obtain ⟨v_17, e_18, k⟩ := k
    refine wq_getI fl_X11_255 (Or.inl rfl) dX11_next_141 e_18 ?_
    refine wp_iconst dX11_next_144 ic_1 ?_
    refine wp_iadd dX11_next_145 ?_
    replace k := ok_bind k
    obtain ⟨h_19, e_20, k⟩ := k
    refine wq_putI fl_X11_255 rfl rfl dX11_next_146 e_20 ?_
    refine wp_wk (wkE <| wkN) ?_
    refine s_X11_next_l149 (Nat.succ_le_succ he) (fun r0_22 h_21 k => ?_) FU _ _ (ok_bind2 k)
    try dsimp only at k
    refine wp_wk (wkE <| wkN) ?_
    refine s_X11_next_l243 (Nat.succ_le_succ he) (fun  h_23 k => ?_) FU _ _ (ok_bind2 k)
    try dsimp only at k
    refine wp_vret rfl dX11_next_335 ?_
    exact (ok_some k :)
def f_X11_next_j46 (S : SH) (r0 : Nat) (h : AH) : Option (Unit × AH) :=
  (gI S h r0 11 14).bind fun v_1 =>
  (pI S h r0 11 15 v_1).bind fun h_3 =>
  (pJ S h_3 r0 11 17 (0 : Int64)).bind fun h_5 =>
  (gI S h_5 r0 11 14).bind fun v_7 =>
  (gI S h_5 r0 11 13).bind fun v_9 =>
  if v_7 = v_9 then
    f_X11_next_j114 S r0 r0 (0 : Int32) h_5
  else
    (gR S h_5 r0 11 12).bind fun p_12 =>
    (gI S h_5 r0 11 14).bind fun v_14 =>
    (aI S h_5 p_12 v_14).bind fun v_16 =>
    (f_X11_isSmall S v_16 h_5).bind fun z => match z with
    | (z_19, h_18) =>
    if z_19 = (0 : Int32) then
      (gR S h_18 r0 11 12).bind fun p_21 =>
      (gI S h_18 r0 11 14).bind fun v_23 =>
      (aI S h_18 p_21 v_23).bind fun v_25 =>
      (f_X11_isDigit S v_25 h_18).bind fun z => match z with
      | (z_28, h_27) =>
      if z_28 = (0 : Int32) then
        f_X11_next_j114 S r0 r0 (3 : Int32) h_27
      else
        f_X11_next_j114 S r0 r0 (2 : Int32) h_27
    else
      f_X11_next_j114 S r0 r0 (1 : Int32) h_18
set_option maxHeartbeats 8000000 in
set_option maxRecDepth 20000 in
theorem s_X11_next_j46 {S : SH} {d cb sb : Nat} {Q : Option Value → AH → Prop} (hd : 1 ≤ d)  {r0 : Nat} {h : AH} (k : ok (f_X11_next_j46 S r0 h) (fun _ h' => Q none h')) : WP S M_X11_next d cb sb Q 46 [.ref r0] [] h := by
  obtain ⟨d, rfl, he⟩ := dp (L := 0) hd
  unfold f_X11_next_j46 at k
  refine wp_aload_n dX11_next_46 rfl ?_
  refine wp_aload_n dX11_next_47 rfl ?_
  replace k := ok_bind k
  obtain ⟨v_1, e_2, k⟩ := k
  refine wq_getI fl_X11_265 (Or.inl rfl) dX11_next_48 e_2 ?_
  replace k := ok_bind k
  obtain ⟨h_3, e_4, k⟩ := k
  refine wq_putI fl_X11_255 rfl rfl dX11_next_51 e_4 ?_
  refine wp_aload_n dX11_next_54 rfl ?_
  refine wp_lconst dX11_next_55 lc_0 ?_
  replace k := ok_bind k
  obtain ⟨h_5, e_6, k⟩ := k
  refine wq_putJ fl_X11_268 rfl rfl dX11_next_56 e_6 ?_
  refine wp_aload_n dX11_next_59 rfl ?_
  refine wp_aload_n dX11_next_60 rfl ?_
  replace k := ok_bind k
  obtain ⟨v_7, e_8, k⟩ := k
  refine wq_getI fl_X11_265 (Or.inl rfl) dX11_next_61 e_8 ?_
  refine wp_aload_n dX11_next_64 rfl ?_
  replace k := ok_bind k
  obtain ⟨v_9, e_10, k⟩ := k
  refine wq_getI fl_X11_243 (Or.inl rfl) dX11_next_65 e_10 ?_
  refine wp_icmp_ne 75 dX11_next_68 (by decide) (fun c_11 => ?_) (fun c_11 => ?_)
  · replace k := ok_f c_11 k
    refine wp_aload_n dX11_next_75 rfl ?_
    replace k := ok_bind k
    obtain ⟨p_12, e_13, k⟩ := k
    refine wq_getR fl_X11_35 (Or.inr ⟨_, rfl⟩) dX11_next_76 e_13 ?_
    refine wp_aload_n dX11_next_79 rfl ?_
    replace k := ok_bind k
    obtain ⟨v_14, e_15, k⟩ := k
    refine wq_getI fl_X11_265 (Or.inl rfl) dX11_next_80 e_15 ?_
    replace k := ok_bind k
    obtain ⟨v_16, e_17, k⟩ := k
    refine wq_aI dX11_next_83 e_17 ?_
    refine wp_callS1 (N := M_X11_isSmall) mf_X11_isSmall ms_X11_isSmall ml_X11_272 dX11_next_84 (by exact Nat.le_of_ble_eq_true rfl) (c_X11_isSmall (Nat.le_trans (by decide) he) (ok_mono (ok_bind2 k) fun z_19 h_18 k => ?_))
    try dsimp only at k
    refine wp_if_eq 94 dX11_next_87 (by decide) (fun c_20 => ?_) (fun c_20 => ?_)
    · replace k := ok_t c_20 k
      refine wp_aload_n dX11_next_94 rfl ?_
      replace k := ok_bind k
      obtain ⟨p_21, e_22, k⟩ := k
      refine wq_getR fl_X11_35 (Or.inr ⟨_, rfl⟩) dX11_next_95 e_22 ?_
      refine wp_aload_n dX11_next_98 rfl ?_
      replace k := ok_bind k
      obtain ⟨v_23, e_24, k⟩ := k
      refine wq_getI fl_X11_265 (Or.inl rfl) dX11_next_99 e_24 ?_
      replace k := ok_bind k
      obtain ⟨v_25, e_26, k⟩ := k
      refine wq_aI dX11_next_102 e_26 ?_
      refine wp_callS1 (N := M_X11_isDigit) mf_X11_isDigit ms_X11_isDigit ml_X11_275 dX11_next_103 (by exact Nat.le_of_ble_eq_true rfl) (c_X11_isDigit (Nat.le_trans (by decide) he) (ok_mono (ok_bind2 k) fun z_28 h_27 k => ?_))
      try dsimp only at k
      refine wp_if_eq 113 dX11_next_106 (by decide) (fun c_29 => ?_) (fun c_29 => ?_)
      · replace k := ok_t c_29 k
        refine wp_iconst dX11_next_113 ic_3 ?_
        exact wp_wk (wkE <| wkN) (s_X11_next_j114 (Nat.succ_le_succ he)  k)
      · replace k := ok_f c_29 k
        refine wp_iconst dX11_next_109 ic_2 ?_
        refine wp_goto 114 dX11_next_110 (by decide) ?_
        exact wp_wk (wkE <| wkN) (s_X11_next_j114 (Nat.succ_le_succ he)  k)
    · replace k := ok_f c_20 k
      refine wp_iconst dX11_next_90 ic_1 ?_
      refine wp_goto 114 dX11_next_91 (by decide) ?_
      exact wp_wk (wkE <| wkN) (s_X11_next_j114 (Nat.succ_le_succ he)  k)
  · replace k := ok_t c_11 k
    refine wp_iconst dX11_next_71 ic_0 ?_
    refine wp_goto 114 dX11_next_72 (by decide) ?_
    exact wp_wk (wkE <| wkN) (s_X11_next_j114 (Nat.succ_le_succ he)  k)
def f_X11_next (S : SH) (r0 : Nat) (h : AH) : Option (Unit × AH) :=
  (gI S h r0 11 15).bind fun v_1 =>
  (pI S h r0 11 14 v_1).bind fun h_3 =>
  (f_X11_next_l8 S FU r0 h_3).bind fun z => match z with
  | (r0_6, h_5) =>
  f_X11_next_j46 S r0_6 h_5
set_option maxHeartbeats 8000000 in
set_option maxRecDepth 20000 in
theorem s_X11_next {S : SH} {d cb sb : Nat} {Q : Option Value → AH → Prop} (hd : 1 ≤ d)  {r0 : Nat} {h : AH} (k : ok (f_X11_next S r0 h) (fun _ h' => Q none h')) : WP S M_X11_next d cb sb Q 0 [.ref r0] [] h := by
  obtain ⟨d, rfl, he⟩ := dp (L := 0) hd
  unfold f_X11_next at k
  refine wp_aload_n dX11_next_0 rfl ?_
  refine wp_aload_n dX11_next_1 rfl ?_
  replace k := ok_bind k
  obtain ⟨v_1, e_2, k⟩ := k
  refine wq_getI fl_X11_255 (Or.inl rfl) dX11_next_2 e_2 ?_
  replace k := ok_bind k
  obtain ⟨h_3, e_4, k⟩ := k
  refine wq_putI fl_X11_265 rfl rfl dX11_next_5 e_4 ?_
  refine wp_wk (wkE <| wkN) ?_
  refine s_X11_next_l8 (Nat.succ_le_succ he) (fun r0_6 h_5 k => ?_) FU _ _ (ok_bind2 k)
  try dsimp only at k
  exact wp_wk (wkE <| wkN) (s_X11_next_j46 (Nat.succ_le_succ he)  k)
theorem c_X11_next {S : SH} {d : Nat} {K : Option Value → AH → Prop} (hd : 1 ≤ d)  {r0 : Nat} {h : AH} (k : ok (f_X11_next S r0 h) (fun _ h' => K none h')) : CP S M_X11_next d 0 0 [.ref r0] h K := cp_of (by decide) (fun _ _ => trivial) (fun _ => Nat.le_of_ble_eq_true rfl) (s_X11_next hd  k)
def f_X11_begin (S : SH) (r0 : Nat) (h : AH) : Option (Unit × AH) :=
  (pI S h r0 11 15 (0 : Int32)).bind fun h_1 =>
  (pZ S h_1 r0 11 19 (0 : Int32)).bind fun h_3 =>
  (pI S h_3 r0 11 18 (-1 : Int32)).bind fun h_5 =>
  (ckO S h_5 r0 11).bind fun _ =>
  (f_X11_next S r0 h_5).bind fun z => match z with
  | (_, h_8) =>
  some ((), h_8)
set_option maxHeartbeats 8000000 in
set_option maxRecDepth 20000 in
theorem s_X11_begin {S : SH} {d cb sb : Nat} {Q : Option Value → AH → Prop} (hd : 2 ≤ d)  {r0 : Nat} {h : AH} (k : ok (f_X11_begin S r0 h) (fun _ h' => Q none h')) : WP S M_X11_begin d cb sb Q 0 [.ref r0] [] h := by
  obtain ⟨d, rfl, he⟩ := dp (L := 1) hd
  unfold f_X11_begin at k
  refine wp_aload_n dX11_begin_0 rfl ?_
  refine wp_iconst dX11_begin_1 ic_0 ?_
  replace k := ok_bind k
  obtain ⟨h_1, e_2, k⟩ := k
  refine wq_putI fl_X11_255 rfl rfl dX11_begin_2 e_2 ?_
  refine wp_aload_n dX11_begin_5 rfl ?_
  refine wp_iconst dX11_begin_6 ic_0 ?_
  replace k := ok_bind k
  obtain ⟨h_3, e_4, k⟩ := k
  refine wq_putZ fl_X11_258 rfl rfl dX11_begin_7 e_4 ?_
  refine wp_aload_n dX11_begin_10 rfl ?_
  refine wp_iconst dX11_begin_11 ic_m1 ?_
  replace k := ok_bind k
  obtain ⟨h_5, e_6, k⟩ := k
  refine wq_putI fl_X11_38 rfl rfl dX11_begin_12 e_6 ?_
  refine wp_aload_n dX11_begin_15 rfl ?_
  replace k := ok_bind k
  obtain ⟨u, e_7, k⟩ := k
  refine wp_callV0 (N := M_X11_next) (ci := 11) mf_X11_next mi_X11_next me_X11_next ml_X11_262 dX11_begin_16 (ckO_e e_7) mv_X11_next (by exact Nat.le_of_ble_eq_true rfl) (c_X11_next (Nat.le_trans (by decide) he) (ok_mono (ok_bind2 k) fun _ h_8 k => ?_))
  try dsimp only at k
  refine wp_vret rfl dX11_begin_19 ?_
  exact (ok_some k :)
theorem c_X11_begin {S : SH} {d : Nat} {K : Option Value → AH → Prop} (hd : 2 ≤ d)  {r0 : Nat} {h : AH} (k : ok (f_X11_begin S r0 h) (fun _ h' => K none h')) : CP S M_X11_begin d 0 0 [.ref r0] h K := cp_of (by decide) (fun _ _ => trivial) (fun _ => Nat.le_of_ble_eq_true rfl) (s_X11_begin hd  k)
def f_X11_isWord (S : SH) (r0 : Nat) (l1 : Int64) (h : AH) : Option (Int32 × AH) :=
  (gI S h r0 11 16).bind fun v_1 =>
  if v_1 = (1 : Int32) then
    (gJ S h r0 11 17).bind fun w_4 =>
    if (lg_cmp w_4 l1) = (0 : Int32) then
      some ((1 : Int32), h)
    else
      some ((0 : Int32), h)
  else
    some ((0 : Int32), h)
set_option maxHeartbeats 8000000 in
set_option maxRecDepth 20000 in
theorem s_X11_isWord {S : SH} {d cb sb : Nat} {Q : Option Value → AH → Prop} (hd : 0 ≤ d)  {r0 : Nat} {l1 : Int64} {h : AH} (k : ok (f_X11_isWord S r0 l1 h) (fun w h' => Q (some (.int w)) h')) : WP S M_X11_isWord d cb sb Q 0 [.ref r0, .long l1, JK] [] h := by
  unfold f_X11_isWord at k
  refine wp_aload_n dX11_isWord_0 rfl ?_
  replace k := ok_bind k
  obtain ⟨v_1, e_2, k⟩ := k
  refine wq_getI fl_X11_278 (Or.inl rfl) dX11_isWord_1 e_2 ?_
  refine wp_iconst dX11_isWord_4 ic_1 ?_
  refine wp_icmp_ne 21 dX11_isWord_5 (by decide) (fun c_3 => ?_) (fun c_3 => ?_)
  · replace k := ok_f c_3 k
    refine wp_iconst dX11_isWord_21 ic_0 ?_
    refine wp_iret rfl rfl dX11_isWord_22 ?_
    exact (ok_some k :)
  · replace k := ok_t c_3 k
    refine wp_aload_n dX11_isWord_8 rfl ?_
    replace k := ok_bind k
    obtain ⟨w_4, e_5, k⟩ := k
    refine wq_getJ fl_X11_268 rfl dX11_isWord_9 e_5 ?_
    refine wp_lload_n dX11_isWord_12 rfl ?_
    refine wp_lcmp dX11_isWord_13 ?_
    refine wp_if_ne 21 dX11_isWord_14 (by decide) (fun c_6 => ?_) (fun c_6 => ?_)
    · replace k := ok_f c_6 k
      refine wp_iconst dX11_isWord_21 ic_0 ?_
      refine wp_iret rfl rfl dX11_isWord_22 ?_
      exact (ok_some k :)
    · replace k := ok_t c_6 k
      refine wp_iconst dX11_isWord_17 ic_1 ?_
      refine wp_goto 22 dX11_isWord_18 (by decide) ?_
      refine wp_iret rfl rfl dX11_isWord_22 ?_
      exact (ok_some k :)
theorem c_X11_isWord {S : SH} {d : Nat} {K : Option Value → AH → Prop} (hd : 0 ≤ d)  {r0 : Nat} {l1 : Int64} {h : AH} (k : ok (f_X11_isWord S r0 l1 h) (fun w h' => K (some (.int w)) h')) : CP S M_X11_isWord d 0 0 [.ref r0, .long l1] h K := cp_of (by decide) (fun _ _ => trivial) (fun _ => Nat.le_of_ble_eq_true rfl) (s_X11_isWord hd  k)
def f_X11_isSign (S : SH) (r0 : Nat) (x1 : Int32) (h : AH) : Option (Int32 × AH) :=
  (gI S h r0 11 16).bind fun v_1 =>
  if v_1 = (3 : Int32) then
    (gJ S h r0 11 17).bind fun w_4 =>
    if (lg_cmp w_4 (Int32.toInt64 x1)) = (0 : Int32) then
      some ((1 : Int32), h)
    else
      some ((0 : Int32), h)
  else
    some ((0 : Int32), h)
set_option maxHeartbeats 8000000 in
set_option maxRecDepth 20000 in
theorem s_X11_isSign {S : SH} {d cb sb : Nat} {Q : Option Value → AH → Prop} (hd : 0 ≤ d)  {r0 : Nat} {x1 : Int32} {h : AH} (k : ok (f_X11_isSign S r0 x1 h) (fun w h' => Q (some (.int w)) h')) : WP S M_X11_isSign d cb sb Q 0 [.ref r0, .int x1] [] h := by
  unfold f_X11_isSign at k
  refine wp_aload_n dX11_isSign_0 rfl ?_
  replace k := ok_bind k
  obtain ⟨v_1, e_2, k⟩ := k
  refine wq_getI fl_X11_278 (Or.inl rfl) dX11_isSign_1 e_2 ?_
  refine wp_iconst dX11_isSign_4 ic_3 ?_
  refine wp_icmp_ne 22 dX11_isSign_5 (by decide) (fun c_3 => ?_) (fun c_3 => ?_)
  · replace k := ok_f c_3 k
    refine wp_iconst dX11_isSign_22 ic_0 ?_
    refine wp_iret rfl rfl dX11_isSign_23 ?_
    exact (ok_some k :)
  · replace k := ok_t c_3 k
    refine wp_aload_n dX11_isSign_8 rfl ?_
    replace k := ok_bind k
    obtain ⟨w_4, e_5, k⟩ := k
    refine wq_getJ fl_X11_268 rfl dX11_isSign_9 e_5 ?_
    refine wp_iload_n dX11_isSign_12 rfl ?_
    refine wp_i2l dX11_isSign_13 ?_
    refine wp_lcmp dX11_isSign_14 ?_
    refine wp_if_ne 22 dX11_isSign_15 (by decide) (fun c_6 => ?_) (fun c_6 => ?_)
    · replace k := ok_f c_6 k
      refine wp_iconst dX11_isSign_22 ic_0 ?_
      refine wp_iret rfl rfl dX11_isSign_23 ?_
      exact (ok_some k :)
    · replace k := ok_t c_6 k
      refine wp_iconst dX11_isSign_18 ic_1 ?_
      refine wp_goto 23 dX11_isSign_19 (by decide) ?_
      refine wp_iret rfl rfl dX11_isSign_23 ?_
      exact (ok_some k :)
theorem c_X11_isSign {S : SH} {d : Nat} {K : Option Value → AH → Prop} (hd : 0 ≤ d)  {r0 : Nat} {x1 : Int32} {h : AH} (k : ok (f_X11_isSign S r0 x1 h) (fun w h' => K (some (.int w)) h')) : CP S M_X11_isSign d 0 0 [.ref r0, .int x1] h K := cp_of (by decide) (fun _ _ => trivial) (fun _ => Nat.le_of_ble_eq_true rfl) (s_X11_isSign hd  k)
def f_X11_must (S : SH) (r0 : Nat) (x1 : Int32) (h : AH) : Option (Unit × AH) :=
  (gI S h r0 11 19).bind fun v_1 =>
  if v_1 = (0 : Int32) then
    if x1 = (0 : Int32) then
      (pZ S h r0 11 19 (1 : Int32)).bind fun h_17 =>
      (gI S h_17 r0 11 14).bind fun v_19 =>
      (pI S h_17 r0 11 18 v_19).bind fun h_21 =>
      (gI S h_21 r0 11 19).bind fun v_23 =>
      if v_23 = (0 : Int32) then
        (ckO S h_21 r0 11).bind fun _ =>
        (f_X11_next S r0 h_21).bind fun z => match z with
        | (_, h_27) =>
        some ((), h_27)
      else
        some ((), h_21)
    else
      (gI S h r0 11 19).bind fun v_11 =>
      if v_11 = (0 : Int32) then
        (ckO S h r0 11).bind fun _ =>
        (f_X11_next S r0 h).bind fun z => match z with
        | (_, h_15) =>
        some ((), h_15)
      else
        some ((), h)
  else
    (gI S h r0 11 19).bind fun v_4 =>
    if v_4 = (0 : Int32) then
      (ckO S h r0 11).bind fun _ =>
      (f_X11_next S r0 h).bind fun z => match z with
      | (_, h_8) =>
      some ((), h_8)
    else
      some ((), h)
set_option maxHeartbeats 8000000 in
set_option maxRecDepth 20000 in
theorem s_X11_must {S : SH} {d cb sb : Nat} {Q : Option Value → AH → Prop} (hd : 2 ≤ d)  {r0 : Nat} {x1 : Int32} {h : AH} (k : ok (f_X11_must S r0 x1 h) (fun _ h' => Q none h')) : WP S M_X11_must d cb sb Q 0 [.ref r0, .int x1] [] h := by
  obtain ⟨d, rfl, he⟩ := dp (L := 1) hd
  unfold f_X11_must at k
  refine wp_aload_n dX11_must_0 rfl ?_
  replace k := ok_bind k
  obtain ⟨v_1, e_2, k⟩ := k
  refine wq_getI fl_X11_258 (Or.inr rfl) dX11_must_1 e_2 ?_
  refine wp_if_ne 24 dX11_must_4 (by decide) (fun c_3 => ?_) (fun c_3 => ?_)
  · replace k := ok_f c_3 k
    refine wp_aload_n dX11_must_24 rfl ?_
    replace k := ok_bind k
    obtain ⟨v_4, e_5, k⟩ := k
    refine wq_getI fl_X11_258 (Or.inr rfl) dX11_must_25 e_5 ?_
    refine wp_if_ne 35 dX11_must_28 (by decide) (fun c_6 => ?_) (fun c_6 => ?_)
    · replace k := ok_f c_6 k
      refine wp_vret rfl dX11_must_35 ?_
      exact (ok_some k :)
    · replace k := ok_t c_6 k
      refine wp_aload_n dX11_must_31 rfl ?_
      replace k := ok_bind k
      obtain ⟨u, e_7, k⟩ := k
      refine wp_callV0 (N := M_X11_next) (ci := 11) mf_X11_next mi_X11_next me_X11_next ml_X11_262 dX11_must_32 (ckO_e e_7) mv_X11_next (by exact Nat.le_of_ble_eq_true rfl) (c_X11_next (Nat.le_trans (by decide) he) (ok_mono (ok_bind2 k) fun _ h_8 k => ?_))
      try dsimp only at k
      refine wp_vret rfl dX11_must_35 ?_
      exact (ok_some k :)
  · replace k := ok_t c_3 k
    refine wp_iload_n dX11_must_7 rfl ?_
    refine wp_if_ne 24 dX11_must_8 (by decide) (fun c_10 => ?_) (fun c_10 => ?_)
    · replace k := ok_f c_10 k
      refine wp_aload_n dX11_must_24 rfl ?_
      replace k := ok_bind k
      obtain ⟨v_11, e_12, k⟩ := k
      refine wq_getI fl_X11_258 (Or.inr rfl) dX11_must_25 e_12 ?_
      refine wp_if_ne 35 dX11_must_28 (by decide) (fun c_13 => ?_) (fun c_13 => ?_)
      · replace k := ok_f c_13 k
        refine wp_vret rfl dX11_must_35 ?_
        exact (ok_some k :)
      · replace k := ok_t c_13 k
        refine wp_aload_n dX11_must_31 rfl ?_
        replace k := ok_bind k
        obtain ⟨u, e_14, k⟩ := k
        refine wp_callV0 (N := M_X11_next) (ci := 11) mf_X11_next mi_X11_next me_X11_next ml_X11_262 dX11_must_32 (ckO_e e_14) mv_X11_next (by exact Nat.le_of_ble_eq_true rfl) (c_X11_next (Nat.le_trans (by decide) he) (ok_mono (ok_bind2 k) fun _ h_15 k => ?_))
        try dsimp only at k
        refine wp_vret rfl dX11_must_35 ?_
        exact (ok_some k :)
    · replace k := ok_t c_10 k
      refine wp_aload_n dX11_must_11 rfl ?_
      refine wp_iconst dX11_must_12 ic_1 ?_
      replace k := ok_bind k
      obtain ⟨h_17, e_18, k⟩ := k
      refine wq_putZ fl_X11_258 rfl rfl dX11_must_13 e_18 ?_
      refine wp_aload_n dX11_must_16 rfl ?_
      refine wp_aload_n dX11_must_17 rfl ?_
      replace k := ok_bind k
      obtain ⟨v_19, e_20, k⟩ := k
      refine wq_getI fl_X11_265 (Or.inl rfl) dX11_must_18 e_20 ?_
      replace k := ok_bind k
      obtain ⟨h_21, e_22, k⟩ := k
      refine wq_putI fl_X11_38 rfl rfl dX11_must_21 e_22 ?_
      refine wp_aload_n dX11_must_24 rfl ?_
      replace k := ok_bind k
      obtain ⟨v_23, e_24, k⟩ := k
      refine wq_getI fl_X11_258 (Or.inr rfl) dX11_must_25 e_24 ?_
      refine wp_if_ne 35 dX11_must_28 (by decide) (fun c_25 => ?_) (fun c_25 => ?_)
      · replace k := ok_f c_25 k
        refine wp_vret rfl dX11_must_35 ?_
        exact (ok_some k :)
      · replace k := ok_t c_25 k
        refine wp_aload_n dX11_must_31 rfl ?_
        replace k := ok_bind k
        obtain ⟨u, e_26, k⟩ := k
        refine wp_callV0 (N := M_X11_next) (ci := 11) mf_X11_next mi_X11_next me_X11_next ml_X11_262 dX11_must_32 (ckO_e e_26) mv_X11_next (by exact Nat.le_of_ble_eq_true rfl) (c_X11_next (Nat.le_trans (by decide) he) (ok_mono (ok_bind2 k) fun _ h_27 k => ?_))
        try dsimp only at k
        refine wp_vret rfl dX11_must_35 ?_
        exact (ok_some k :)
theorem c_X11_must {S : SH} {d : Nat} {K : Option Value → AH → Prop} (hd : 2 ≤ d)  {r0 : Nat} {x1 : Int32} {h : AH} (k : ok (f_X11_must S r0 x1 h) (fun _ h' => K none h')) : CP S M_X11_must d 0 0 [.ref r0, .int x1] h K := cp_of (by decide) (fun _ _ => trivial) (fun _ => Nat.le_of_ble_eq_true rfl) (s_X11_must hd  k)
def f_X11_number (S : SH) (r0 : Nat) (l1 : Int64) (l3 : Int64) (h : AH) : Option (Int32 × AH) :=
  (gJ S h r0 11 17).bind fun w_1 =>
  lt ((Int64.toInt32 w_1)) fun y_3 =>
  (gI S h r0 11 16).bind fun v_4 =>
  if v_4 = (2 : Int32) then
    (gJ S h r0 11 17).bind fun w_10 =>
    (f_X11_in S w_10 l1 l3 h).bind fun z => match z with
    | (z_13, h_12) =>
    if z_13 = (0 : Int32) then
      (ckO S h_12 r0 11).bind fun _ =>
      (f_X11_must S r0 (0 : Int32) h_12).bind fun z => match z with
      | (_, h_16) =>
      some (y_3, h_16)
    else
      (ckO S h_12 r0 11).bind fun _ =>
      (f_X11_must S r0 (1 : Int32) h_12).bind fun z => match z with
      | (_, h_19) =>
      some (y_3, h_19)
  else
    (ckO S h r0 11).bind fun _ =>
    (f_X11_must S r0 (0 : Int32) h).bind fun z => match z with
    | (_, h_8) =>
    some (y_3, h_8)
set_option maxHeartbeats 8000000 in
set_option maxRecDepth 20000 in
theorem s_X11_number {S : SH} {d cb sb : Nat} {Q : Option Value → AH → Prop} (hd : 3 ≤ d)  {r0 : Nat} {l1 : Int64} {l3 : Int64} {h : AH} (k : ok (f_X11_number S r0 l1 l3 h) (fun w h' => Q (some (.int w)) h')) : WP S M_X11_number d cb sb Q 0 [.ref r0, .long l1, JK, .long l3, JK, JK] [] h := by
  obtain ⟨d, rfl, he⟩ := dp (L := 2) hd
  unfold f_X11_number at k
  refine wp_aload_n dX11_number_0 rfl ?_
  replace k := ok_bind k
  obtain ⟨w_1, e_2, k⟩ := k
  refine wq_getJ fl_X11_268 rfl dX11_number_1 e_2 ?_
  refine wp_l2i dX11_number_4 ?_
  replace k := ok_lt k
  refine wp_istore dX11_number_5 (by decide) (L1 := [_, _, _, _, _, _]) rfl ?_
  refine wp_aload_n dX11_number_7 rfl ?_
  refine wp_aload_n dX11_number_8 rfl ?_
  replace k := ok_bind k
  obtain ⟨v_4, e_5, k⟩ := k
  refine wq_getI fl_X11_278 (Or.inl rfl) dX11_number_9 e_5 ?_
  refine wp_iconst dX11_number_12 ic_2 ?_
  refine wp_icmp_ne 32 dX11_number_13 (by decide) (fun c_6 => ?_) (fun c_6 => ?_)
  · replace k := ok_f c_6 k
    refine wp_iconst dX11_number_32 ic_0 ?_
    replace k := ok_bind k
    obtain ⟨u, e_7, k⟩ := k
    refine wp_callV1 (N := M_X11_must) (ci := 11) mf_X11_must mi_X11_must me_X11_must ml_X11_289 dX11_number_33 (ckO_e e_7) mv_X11_must (by exact Nat.le_of_ble_eq_true rfl) (c_X11_must (Nat.le_trans (by decide) he) (ok_mono (ok_bind2 k) fun _ h_8 k => ?_))
    try dsimp only at k
    refine wp_iload dX11_number_36 rfl ?_
    refine wp_iret rfl rfl dX11_number_38 ?_
    exact (ok_some k :)
  · replace k := ok_t c_6 k
    refine wp_aload_n dX11_number_16 rfl ?_
    replace k := ok_bind k
    obtain ⟨w_10, e_11, k⟩ := k
    refine wq_getJ fl_X11_268 rfl dX11_number_17 e_11 ?_
    refine wp_lload_n dX11_number_20 rfl ?_
    refine wp_lload_n dX11_number_21 rfl ?_
    refine wp_callS3 (N := M_X11_in) mf_X11_in ms_X11_in ml_X11_172 dX11_number_22 (by exact Nat.le_of_ble_eq_true rfl) (c_X11_in (Nat.le_trans (by decide) he) (ok_mono (ok_bind2 k) fun z_13 h_12 k => ?_))
    try dsimp only at k
    refine wp_if_eq 32 dX11_number_25 (by decide) (fun c_14 => ?_) (fun c_14 => ?_)
    · replace k := ok_t c_14 k
      refine wp_iconst dX11_number_32 ic_0 ?_
      replace k := ok_bind k
      obtain ⟨u, e_15, k⟩ := k
      refine wp_callV1 (N := M_X11_must) (ci := 11) mf_X11_must mi_X11_must me_X11_must ml_X11_289 dX11_number_33 (ckO_e e_15) mv_X11_must (by exact Nat.le_of_ble_eq_true rfl) (c_X11_must (Nat.le_trans (by decide) he) (ok_mono (ok_bind2 k) fun _ h_16 k => ?_))
      try dsimp only at k
      refine wp_iload dX11_number_36 rfl ?_
      refine wp_iret rfl rfl dX11_number_38 ?_
      exact (ok_some k :)
    · replace k := ok_f c_14 k
      refine wp_iconst dX11_number_28 ic_1 ?_
      refine wp_goto 33 dX11_number_29 (by decide) ?_
      replace k := ok_bind k
      obtain ⟨u, e_18, k⟩ := k
      refine wp_callV1 (N := M_X11_must) (ci := 11) mf_X11_must mi_X11_must me_X11_must ml_X11_289 dX11_number_33 (ckO_e e_18) mv_X11_must (by exact Nat.le_of_ble_eq_true rfl) (c_X11_must (Nat.le_trans (by decide) he) (ok_mono (ok_bind2 k) fun _ h_19 k => ?_))
      try dsimp only at k
      refine wp_iload dX11_number_36 rfl ?_
      refine wp_iret rfl rfl dX11_number_38 ?_
      exact (ok_some k :)
theorem c_X11_number {S : SH} {d : Nat} {K : Option Value → AH → Prop} (hd : 3 ≤ d)  {r0 : Nat} {l1 : Int64} {l3 : Int64} {h : AH} (k : ok (f_X11_number S r0 l1 l3 h) (fun w h' => K (some (.int w)) h')) : CP S M_X11_number d 0 0 [.ref r0, .long l1, .long l3] h K := cp_of (by decide) (fun _ _ => trivial) (fun _ => Nat.le_of_ble_eq_true rfl) (s_X11_number hd  k)
def f_X11_fault (S : SH) (r0 : Nat) (h : AH) : Option (Int32 × AH) :=
  (pI S h r0 11 0 (0 : Int32)).bind fun h_1 =>
  (gI S h_1 r0 11 18).bind fun v_3 =>
  some (v_3, h_1)
set_option maxHeartbeats 8000000 in
set_option maxRecDepth 20000 in
theorem s_X11_fault {S : SH} {d cb sb : Nat} {Q : Option Value → AH → Prop} (hd : 0 ≤ d)  {r0 : Nat} {h : AH} (k : ok (f_X11_fault S r0 h) (fun w h' => Q (some (.int w)) h')) : WP S M_X11_fault d cb sb Q 0 [.ref r0] [] h := by
  unfold f_X11_fault at k
  refine wp_aload_n dX11_fault_0 rfl ?_
  refine wp_iconst dX11_fault_1 ic_0 ?_
  replace k := ok_bind k
  obtain ⟨h_1, e_2, k⟩ := k
  refine wq_putI fl_X11_152 rfl rfl dX11_fault_2 e_2 ?_
  refine wp_aload_n dX11_fault_5 rfl ?_
  replace k := ok_bind k
  obtain ⟨v_3, e_4, k⟩ := k
  refine wq_getI fl_X11_38 (Or.inl rfl) dX11_fault_6 e_4 ?_
  refine wp_iret rfl rfl dX11_fault_9 ?_
  exact (ok_some k :)
theorem c_X11_fault {S : SH} {d : Nat} {K : Option Value → AH → Prop} (hd : 0 ≤ d)  {r0 : Nat} {h : AH} (k : ok (f_X11_fault S r0 h) (fun w h' => K (some (.int w)) h')) : CP S M_X11_fault d 0 0 [.ref r0] h K := cp_of (by decide) (fun _ _ => trivial) (fun _ => Nat.le_of_ble_eq_true rfl) (s_X11_fault hd  k)
def f_X11_emit (S : SH) (r0 : Nat) (x1 : Int32) (x2 : Int32) (h : AH) : Option (Unit × AH) :=
  (gR S h r0 11 24).bind fun p_1 =>
  (gI S h r0 11 23).bind fun v_3 =>
  (sI S h p_1 v_3 x1).bind fun h_5 =>
  (gR S h_5 r0 11 25).bind fun p_7 =>
  (gI S h_5 r0 11 23).bind fun v_9 =>
  (sI S h_5 p_7 v_9 x2).bind fun h_11 =>
  (gI S h_11 r0 11 23).bind fun v_13 =>
  (pI S h_11 r0 11 23 (v_13 + (1 : Int32))).bind fun h_15 =>
  some ((), h_15)
set_option maxHeartbeats 8000000 in
set_option maxRecDepth 20000 in
theorem s_X11_emit {S : SH} {d cb sb : Nat} {Q : Option Value → AH → Prop} (hd : 0 ≤ d)  {r0 : Nat} {x1 : Int32} {x2 : Int32} {h : AH} (k : ok (f_X11_emit S r0 x1 x2 h) (fun _ h' => Q none h')) : WP S M_X11_emit d cb sb Q 0 [.ref r0, .int x1, .int x2] [] h := by
  unfold f_X11_emit at k
  refine wp_aload_n dX11_emit_0 rfl ?_
  replace k := ok_bind k
  obtain ⟨p_1, e_2, k⟩ := k
  refine wq_getR fl_X11_45 (Or.inr ⟨_, rfl⟩) dX11_emit_1 e_2 ?_
  refine wp_aload_n dX11_emit_4 rfl ?_
  replace k := ok_bind k
  obtain ⟨v_3, e_4, k⟩ := k
  refine wq_getI fl_X11_293 (Or.inl rfl) dX11_emit_5 e_4 ?_
  refine wp_iload_n dX11_emit_8 rfl ?_
  replace k := ok_bind k
  obtain ⟨h_5, e_6, k⟩ := k
  refine wq_sI dX11_emit_9 e_6 ?_
  refine wp_aload_n dX11_emit_10 rfl ?_
  replace k := ok_bind k
  obtain ⟨p_7, e_8, k⟩ := k
  refine wq_getR fl_X11_48 (Or.inr ⟨_, rfl⟩) dX11_emit_11 e_8 ?_
  refine wp_aload_n dX11_emit_14 rfl ?_
  replace k := ok_bind k
  obtain ⟨v_9, e_10, k⟩ := k
  refine wq_getI fl_X11_293 (Or.inl rfl) dX11_emit_15 e_10 ?_
  refine wp_iload_n dX11_emit_18 rfl ?_
  replace k := ok_bind k
  obtain ⟨h_11, e_12, k⟩ := k
  refine wq_sI dX11_emit_19 e_12 ?_
  refine wp_aload_n dX11_emit_20 rfl ?_
  refine wp_dupR dX11_emit_21 ?_
  replace k := ok_bind k
  obtain ⟨v_13, e_14, k⟩ := k
  refine wq_getI fl_X11_293 (Or.inl rfl) dX11_emit_22 e_14 ?_
  refine wp_iconst dX11_emit_25 ic_1 ?_
  refine wp_iadd dX11_emit_26 ?_
  replace k := ok_bind k
  obtain ⟨h_15, e_16, k⟩ := k
  refine wq_putI fl_X11_293 rfl rfl dX11_emit_27 e_16 ?_
  refine wp_vret rfl dX11_emit_30 ?_
  exact (ok_some k :)
theorem c_X11_emit {S : SH} {d : Nat} {K : Option Value → AH → Prop} (hd : 0 ≤ d)  {r0 : Nat} {x1 : Int32} {x2 : Int32} {h : AH} (k : ok (f_X11_emit S r0 x1 x2 h) (fun _ h' => K none h')) : CP S M_X11_emit d 0 0 [.ref r0, .int x1, .int x2] h K := cp_of (by decide) (fun _ _ => trivial) (fun _ => Nat.le_of_ble_eq_true rfl) (s_X11_emit hd  k)
def f_X11_push (S : SH) (r0 : Nat) (x1 : Int32) (x2 : Int32) (h : AH) : Option (Unit × AH) :=
  (gR S h r0 11 27).bind fun p_1 =>
  (gI S h r0 11 29).bind fun v_3 =>
  (sI S h p_1 v_3 x1).bind fun h_5 =>
  (gR S h_5 r0 11 28).bind fun p_7 =>
  (gI S h_5 r0 11 29).bind fun v_9 =>
  (sI S h_5 p_7 v_9 x2).bind fun h_11 =>
  (gI S h_11 r0 11 29).bind fun v_13 =>
  (pI S h_11 r0 11 29 (v_13 + (1 : Int32))).bind fun h_15 =>
  some ((), h_15)
set_option maxHeartbeats 8000000 in
set_option maxRecDepth 20000 in
theorem s_X11_push {S : SH} {d cb sb : Nat} {Q : Option Value → AH → Prop} (hd : 0 ≤ d)  {r0 : Nat} {x1 : Int32} {x2 : Int32} {h : AH} (k : ok (f_X11_push S r0 x1 x2 h) (fun _ h' => Q none h')) : WP S M_X11_push d cb sb Q 0 [.ref r0, .int x1, .int x2] [] h := by
  unfold f_X11_push at k
  refine wp_aload_n dX11_push_0 rfl ?_
  replace k := ok_bind k
  obtain ⟨p_1, e_2, k⟩ := k
  refine wq_getR fl_X11_51 (Or.inr ⟨_, rfl⟩) dX11_push_1 e_2 ?_
  refine wp_aload_n dX11_push_4 rfl ?_
  replace k := ok_bind k
  obtain ⟨v_3, e_4, k⟩ := k
  refine wq_getI fl_X11_296 (Or.inl rfl) dX11_push_5 e_4 ?_
  refine wp_iload_n dX11_push_8 rfl ?_
  replace k := ok_bind k
  obtain ⟨h_5, e_6, k⟩ := k
  refine wq_sI dX11_push_9 e_6 ?_
  refine wp_aload_n dX11_push_10 rfl ?_
  replace k := ok_bind k
  obtain ⟨p_7, e_8, k⟩ := k
  refine wq_getR fl_X11_54 (Or.inr ⟨_, rfl⟩) dX11_push_11 e_8 ?_
  refine wp_aload_n dX11_push_14 rfl ?_
  replace k := ok_bind k
  obtain ⟨v_9, e_10, k⟩ := k
  refine wq_getI fl_X11_296 (Or.inl rfl) dX11_push_15 e_10 ?_
  refine wp_iload_n dX11_push_18 rfl ?_
  replace k := ok_bind k
  obtain ⟨h_11, e_12, k⟩ := k
  refine wq_sI dX11_push_19 e_12 ?_
  refine wp_aload_n dX11_push_20 rfl ?_
  refine wp_dupR dX11_push_21 ?_
  replace k := ok_bind k
  obtain ⟨v_13, e_14, k⟩ := k
  refine wq_getI fl_X11_296 (Or.inl rfl) dX11_push_22 e_14 ?_
  refine wp_iconst dX11_push_25 ic_1 ?_
  refine wp_iadd dX11_push_26 ?_
  replace k := ok_bind k
  obtain ⟨h_15, e_16, k⟩ := k
  refine wq_putI fl_X11_296 rfl rfl dX11_push_27 e_16 ?_
  refine wp_vret rfl dX11_push_30 ?_
  exact (ok_some k :)
theorem c_X11_push {S : SH} {d : Nat} {K : Option Value → AH → Prop} (hd : 0 ≤ d)  {r0 : Nat} {x1 : Int32} {x2 : Int32} {h : AH} (k : ok (f_X11_push S r0 x1 x2 h) (fun _ h' => K none h')) : CP S M_X11_push d 0 0 [.ref r0, .int x1, .int x2] h K := cp_of (by decide) (fun _ _ => trivial) (fun _ => Nat.le_of_ble_eq_true rfl) (s_X11_push hd  k)
def f_X11_binds (S : SH) (x0 : Int32) (h : AH) : Option (Int32 × AH) :=
  if x0 < (31 : Int32) then
    if x0 = (30 : Int32) then
      some ((1 : Int32), h)
    else
      if x0 = (29 : Int32) then
        some ((2 : Int32), h)
      else
        if x0 = (28 : Int32) then
          some ((3 : Int32), h)
        else
          if x0 < (25 : Int32) then
            if x0 < (22 : Int32) then
              some ((5 : Int32), h)
            else
              some ((6 : Int32), h)
          else
            some ((4 : Int32), h)
  else
    some ((0 : Int32), h)
set_option maxHeartbeats 8000000 in
set_option maxRecDepth 20000 in
theorem s_X11_binds {S : SH} {d cb sb : Nat} {Q : Option Value → AH → Prop} (hd : 0 ≤ d)  {x0 : Int32} {h : AH} (k : ok (f_X11_binds S x0 h) (fun w h' => Q (some (.int w)) h')) : WP S M_X11_binds d cb sb Q 0 [.int x0] [] h := by
  unfold f_X11_binds at k
  refine wp_iload_n dX11_binds_0 rfl ?_
  refine wp_bipush dX11_binds_1 bp_31 ?_
  refine wp_icmp_lt 10 dX11_binds_3 (by decide) (fun c_1 => ?_) (fun c_1 => ?_)
  · replace k := ok_t c_1 k
    refine wp_iload_n dX11_binds_10 rfl ?_
    refine wp_bipush dX11_binds_11 bp_30 ?_
    refine wp_icmp_ne 20 dX11_binds_13 (by decide) (fun c_2 => ?_) (fun c_2 => ?_)
    · replace k := ok_f c_2 k
      refine wp_iload_n dX11_binds_20 rfl ?_
      refine wp_bipush dX11_binds_21 bp_29 ?_
      refine wp_icmp_ne 30 dX11_binds_23 (by decide) (fun c_3 => ?_) (fun c_3 => ?_)
      · replace k := ok_f c_3 k
        refine wp_iload_n dX11_binds_30 rfl ?_
        refine wp_bipush dX11_binds_31 bp_28 ?_
        refine wp_icmp_ne 40 dX11_binds_33 (by decide) (fun c_4 => ?_) (fun c_4 => ?_)
        · replace k := ok_f c_4 k
          refine wp_iload_n dX11_binds_40 rfl ?_
          refine wp_bipush dX11_binds_41 bp_25 ?_
          refine wp_icmp_lt 50 dX11_binds_43 (by decide) (fun c_5 => ?_) (fun c_5 => ?_)
          · replace k := ok_t c_5 k
            refine wp_iload_n dX11_binds_50 rfl ?_
            refine wp_bipush dX11_binds_51 bp_22 ?_
            refine wp_icmp_lt 61 dX11_binds_53 (by decide) (fun c_6 => ?_) (fun c_6 => ?_)
            · replace k := ok_t c_6 k
              refine wp_iconst dX11_binds_61 ic_5 ?_
              refine wp_iret rfl rfl dX11_binds_62 ?_
              exact (ok_some k :)
            · replace k := ok_f c_6 k
              refine wp_bipush dX11_binds_56 bp_6 ?_
              refine wp_goto 62 dX11_binds_58 (by decide) ?_
              refine wp_iret rfl rfl dX11_binds_62 ?_
              exact (ok_some k :)
          · replace k := ok_f c_5 k
            refine wp_iconst dX11_binds_46 ic_4 ?_
            refine wp_goto 62 dX11_binds_47 (by decide) ?_
            refine wp_iret rfl rfl dX11_binds_62 ?_
            exact (ok_some k :)
        · replace k := ok_t c_4 k
          refine wp_iconst dX11_binds_36 ic_3 ?_
          refine wp_goto 62 dX11_binds_37 (by decide) ?_
          refine wp_iret rfl rfl dX11_binds_62 ?_
          exact (ok_some k :)
      · replace k := ok_t c_3 k
        refine wp_iconst dX11_binds_26 ic_2 ?_
        refine wp_goto 62 dX11_binds_27 (by decide) ?_
        refine wp_iret rfl rfl dX11_binds_62 ?_
        exact (ok_some k :)
    · replace k := ok_t c_2 k
      refine wp_iconst dX11_binds_16 ic_1 ?_
      refine wp_goto 62 dX11_binds_17 (by decide) ?_
      refine wp_iret rfl rfl dX11_binds_62 ?_
      exact (ok_some k :)
  · replace k := ok_f c_1 k
    refine wp_iconst dX11_binds_6 ic_0 ?_
    refine wp_goto 62 dX11_binds_7 (by decide) ?_
    refine wp_iret rfl rfl dX11_binds_62 ?_
    exact (ok_some k :)
theorem c_X11_binds {S : SH} {d : Nat} {K : Option Value → AH → Prop} (hd : 0 ≤ d)  {x0 : Int32} {h : AH} (k : ok (f_X11_binds S x0 h) (fun w h' => K (some (.int w)) h')) : CP S M_X11_binds d 0 0 [.int x0] h K := cp_of (by decide) (fun _ _ => trivial) (fun _ => Nat.le_of_ble_eq_true rfl) (s_X11_binds hd  k)
def f_X11_settle_l0b (S : SH) (rc : Nat → Int32 → AH → Option (Unit × AH)) (r0 : Nat) (x1 : Int32) (h : AH) : Option (Unit × AH) :=
  (gI S h r0 11 29).bind fun v_1 =>
  if v_1 ≤ (0 : Int32) then
    some ((), h)
  else
    (gR S h r0 11 27).bind fun p_4 =>
    (gI S h r0 11 29).bind fun v_6 =>
    (aI S h p_4 (v_6 - (1 : Int32))).bind fun v_8 =>
    (f_X11_binds S v_8 h).bind fun z => match z with
    | (z_11, h_10) =>
    if z_11 < x1 then
      some ((), h_10)
    else
      (gI S h_10 r0 11 29).bind fun v_13 =>
      (pI S h_10 r0 11 29 (v_13 - (1 : Int32))).bind fun h_15 =>
      (gR S h_15 r0 11 27).bind fun p_17 =>
      (gI S h_15 r0 11 29).bind fun v_19 =>
      (aI S h_15 p_17 v_19).bind fun v_21 =>
      if v_21 = (29 : Int32) then
        (gR S h_15 r0 11 25).bind fun p_24 =>
        (gR S h_15 r0 11 28).bind fun p_26 =>
        (gI S h_15 r0 11 29).bind fun v_28 =>
        (aI S h_15 p_26 v_28).bind fun v_30 =>
        (gI S h_15 r0 11 23).bind fun v_32 =>
        (sI S h_15 p_24 v_30 v_32).bind fun h_34 =>
        rc r0 x1 h_34
      else
        (gR S h_15 r0 11 27).bind fun p_36 =>
        (gI S h_15 r0 11 29).bind fun v_38 =>
        (aI S h_15 p_36 v_38).bind fun v_40 =>
        if v_40 = (30 : Int32) then
          (gR S h_15 r0 11 25).bind fun p_52 =>
          (gR S h_15 r0 11 28).bind fun p_54 =>
          (gI S h_15 r0 11 29).bind fun v_56 =>
          (aI S h_15 p_54 v_56).bind fun v_58 =>
          (gI S h_15 r0 11 23).bind fun v_60 =>
          (sI S h_15 p_52 v_58 v_60).bind fun h_62 =>
          rc r0 x1 h_62
        else
          (gR S h_15 r0 11 27).bind fun p_43 =>
          (gI S h_15 r0 11 29).bind fun v_45 =>
          (aI S h_15 p_43 v_45).bind fun v_47 =>
          (ckO S h_15 r0 11).bind fun _ =>
          (f_X11_emit S r0 v_47 (0 : Int32) h_15).bind fun z => match z with
          | (_, h_50) =>
          rc r0 x1 h_50
set_option maxHeartbeats 8000000 in
set_option maxRecDepth 20000 in
theorem s_X11_settle_l0b {S : SH} {d cb sb : Nat} {Q : Option Value → AH → Prop} (hd : 1 ≤ d) {K : Unit → AH → Prop} (hex : ∀  (h' : AH), K () h' → WP S M_X11_settle d cb sb Q 101 [JK, JK] [] h') {rc : Nat → Int32 → AH → Option (Unit × AH)} (hrec : ∀ (r0 : Nat) (x1 : Int32) (h' : AH), ok (rc r0 x1 h') K → WP S M_X11_settle d cb sb Q 0 [.ref r0, .int x1] [] h') {r0 : Nat} {x1 : Int32} {h : AH} (k : ok (f_X11_settle_l0b S rc r0 x1 h) K) : WP S M_X11_settle d cb sb Q 0 [.ref r0, .int x1] [] h := by
  obtain ⟨d, rfl, he⟩ := dp (L := 0) hd
  unfold f_X11_settle_l0b at k
  refine wp_aload_n dX11_settle_0 rfl ?_
  replace k := ok_bind k
  obtain ⟨v_1, e_2, k⟩ := k
  refine wq_getI fl_X11_296 (Or.inl rfl) dX11_settle_1 e_2 ?_
  refine wp_if_le 101 dX11_settle_4 (by decide) (fun c_3 => ?_) (fun c_3 => ?_)
  · replace k := ok_t c_3 k
    exact wp_wk (wkJ <| wkJ <| wkN) (hex  _ (ok_some k))
  · replace k := ok_f c_3 k
    refine wp_aload_n dX11_settle_7 rfl ?_
    replace k := ok_bind k
    obtain ⟨p_4, e_5, k⟩ := k
    refine wq_getR fl_X11_51 (Or.inr ⟨_, rfl⟩) dX11_settle_8 e_5 ?_
    refine wp_aload_n dX11_settle_11 rfl ?_
    replace k := ok_bind k
    obtain ⟨v_6, e_7, k⟩ := k
    refine wq_getI fl_X11_296 (Or.inl rfl) dX11_settle_12 e_7 ?_
    refine wp_iconst dX11_settle_15 ic_1 ?_
    refine wp_isub dX11_settle_16 ?_
    replace k := ok_bind k
    obtain ⟨v_8, e_9, k⟩ := k
    refine wq_aI dX11_settle_17 e_9 ?_
    refine wp_callS1 (N := M_X11_binds) mf_X11_binds ms_X11_binds ml_X11_299 dX11_settle_18 (by exact Nat.le_of_ble_eq_true rfl) (c_X11_binds (Nat.le_trans (by decide) he) (ok_mono (ok_bind2 k) fun z_11 h_10 k => ?_))
    try dsimp only at k
    refine wp_iload_n dX11_settle_21 rfl ?_
    refine wp_icmp_lt 101 dX11_settle_22 (by decide) (fun c_12 => ?_) (fun c_12 => ?_)
    · replace k := ok_t c_12 k
      exact wp_wk (wkJ <| wkJ <| wkN) (hex  _ (ok_some k))
    · replace k := ok_f c_12 k
      refine wp_aload_n dX11_settle_25 rfl ?_
      refine wp_dupR dX11_settle_26 ?_
      replace k := ok_bind k
      obtain ⟨v_13, e_14, k⟩ := k
      refine wq_getI fl_X11_296 (Or.inl rfl) dX11_settle_27 e_14 ?_
      refine wp_iconst dX11_settle_30 ic_1 ?_
      refine wp_isub dX11_settle_31 ?_
      replace k := ok_bind k
      obtain ⟨h_15, e_16, k⟩ := k
      refine wq_putI fl_X11_296 rfl rfl dX11_settle_32 e_16 ?_
      refine wp_aload_n dX11_settle_35 rfl ?_
      replace k := ok_bind k
      obtain ⟨p_17, e_18, k⟩ := k
      refine wq_getR fl_X11_51 (Or.inr ⟨_, rfl⟩) dX11_settle_36 e_18 ?_
      refine wp_aload_n dX11_settle_39 rfl ?_
      replace k := ok_bind k
      obtain ⟨v_19, e_20, k⟩ := k
      refine wq_getI fl_X11_296 (Or.inl rfl) dX11_settle_40 e_20 ?_
      replace k := ok_bind k
      obtain ⟨v_21, e_22, k⟩ := k
      refine wq_aI dX11_settle_43 e_22 ?_
      refine wp_bipush dX11_settle_44 bp_29 ?_
      refine wp_icmp_eq 63 dX11_settle_46 (by decide) (fun c_23 => ?_) (fun c_23 => ?_)
      · replace k := ok_t c_23 k
        refine wp_aload_n dX11_settle_63 rfl ?_
        replace k := ok_bind k
        obtain ⟨p_24, e_25, k⟩ := k
        refine wq_getR fl_X11_48 (Or.inr ⟨_, rfl⟩) dX11_settle_64 e_25 ?_
        refine wp_aload_n dX11_settle_67 rfl ?_
        replace k := ok_bind k
        obtain ⟨p_26, e_27, k⟩ := k
        refine wq_getR fl_X11_54 (Or.inr ⟨_, rfl⟩) dX11_settle_68 e_27 ?_
        refine wp_aload_n dX11_settle_71 rfl ?_
        replace k := ok_bind k
        obtain ⟨v_28, e_29, k⟩ := k
        refine wq_getI fl_X11_296 (Or.inl rfl) dX11_settle_72 e_29 ?_
        replace k := ok_bind k
        obtain ⟨v_30, e_31, k⟩ := k
        refine wq_aI dX11_settle_75 e_31 ?_
        refine wp_aload_n dX11_settle_76 rfl ?_
        replace k := ok_bind k
        obtain ⟨v_32, e_33, k⟩ := k
        refine wq_getI fl_X11_293 (Or.inl rfl) dX11_settle_77 e_33 ?_
        replace k := ok_bind k
        obtain ⟨h_34, e_35, k⟩ := k
        refine wq_sI dX11_settle_80 e_35 ?_
        refine wp_goto 0 dX11_settle_81 (by decide) ?_
        exact wp_wk (wkE <| wkE <| wkN) (hrec _ _ _ k)
      · replace k := ok_f c_23 k
        refine wp_aload_n dX11_settle_49 rfl ?_
        replace k := ok_bind k
        obtain ⟨p_36, e_37, k⟩ := k
        refine wq_getR fl_X11_51 (Or.inr ⟨_, rfl⟩) dX11_settle_50 e_37 ?_
        refine wp_aload_n dX11_settle_53 rfl ?_
        replace k := ok_bind k
        obtain ⟨v_38, e_39, k⟩ := k
        refine wq_getI fl_X11_296 (Or.inl rfl) dX11_settle_54 e_39 ?_
        replace k := ok_bind k
        obtain ⟨v_40, e_41, k⟩ := k
        refine wq_aI dX11_settle_57 e_41 ?_
        refine wp_bipush dX11_settle_58 bp_30 ?_
        refine wp_icmp_ne 84 dX11_settle_60 (by decide) (fun c_42 => ?_) (fun c_42 => ?_)
        · replace k := ok_f c_42 k
          refine wp_aload_n dX11_settle_84 rfl ?_
          refine wp_aload_n dX11_settle_85 rfl ?_
          replace k := ok_bind k
          obtain ⟨p_43, e_44, k⟩ := k
          refine wq_getR fl_X11_51 (Or.inr ⟨_, rfl⟩) dX11_settle_86 e_44 ?_
          refine wp_aload_n dX11_settle_89 rfl ?_
          replace k := ok_bind k
          obtain ⟨v_45, e_46, k⟩ := k
          refine wq_getI fl_X11_296 (Or.inl rfl) dX11_settle_90 e_46 ?_
          replace k := ok_bind k
          obtain ⟨v_47, e_48, k⟩ := k
          refine wq_aI dX11_settle_93 e_48 ?_
          refine wp_iconst dX11_settle_94 ic_0 ?_
          replace k := ok_bind k
          obtain ⟨u, e_49, k⟩ := k
          refine wp_callV2 (N := M_X11_emit) (ci := 11) mf_X11_emit mi_X11_emit me_X11_emit ml_X11_302 dX11_settle_95 (ckO_e e_49) mv_X11_emit (by exact Nat.le_of_ble_eq_true rfl) (c_X11_emit (Nat.le_trans (by decide) he) (ok_mono (ok_bind2 k) fun _ h_50 k => ?_))
          try dsimp only at k
          refine wp_goto 0 dX11_settle_98 (by decide) ?_
          exact wp_wk (wkE <| wkE <| wkN) (hrec _ _ _ k)
        · replace k := ok_t c_42 k
          refine wp_aload_n dX11_settle_63 rfl ?_
          replace k := ok_bind k
          obtain ⟨p_52, e_53, k⟩ := k
          refine wq_getR fl_X11_48 (Or.inr ⟨_, rfl⟩) dX11_settle_64 e_53 ?_
          refine wp_aload_n dX11_settle_67 rfl ?_
          replace k := ok_bind k
          obtain ⟨p_54, e_55, k⟩ := k
          refine wq_getR fl_X11_54 (Or.inr ⟨_, rfl⟩) dX11_settle_68 e_55 ?_
          refine wp_aload_n dX11_settle_71 rfl ?_
          replace k := ok_bind k
          obtain ⟨v_56, e_57, k⟩ := k
          refine wq_getI fl_X11_296 (Or.inl rfl) dX11_settle_72 e_57 ?_
          replace k := ok_bind k
          obtain ⟨v_58, e_59, k⟩ := k
          refine wq_aI dX11_settle_75 e_59 ?_
          refine wp_aload_n dX11_settle_76 rfl ?_
          replace k := ok_bind k
          obtain ⟨v_60, e_61, k⟩ := k
          refine wq_getI fl_X11_293 (Or.inl rfl) dX11_settle_77 e_61 ?_
          replace k := ok_bind k
          obtain ⟨h_62, e_63, k⟩ := k
          refine wq_sI dX11_settle_80 e_63 ?_
          refine wp_goto 0 dX11_settle_81 (by decide) ?_
          exact wp_wk (wkE <| wkE <| wkN) (hrec _ _ _ k)
def f_X11_settle_l0 (S : SH) : Nat → Nat → Int32 → AH → Option (Unit × AH)
  | 0, _, _, _ => none
  | n + 1, r0, x1, h => f_X11_settle_l0b S (f_X11_settle_l0 S n) r0 x1 h
theorem s_X11_settle_l0 {S : SH} {d cb sb : Nat} {Q : Option Value → AH → Prop} (hd : 1 ≤ d) {K : Unit → AH → Prop} (hex : ∀  (h' : AH), K () h' → WP S M_X11_settle d cb sb Q 101 [JK, JK] [] h') : ∀ (n : Nat) (r0 : Nat) (x1 : Int32) (h : AH), ok (f_X11_settle_l0 S n r0 x1 h) K → WP S M_X11_settle d cb sb Q 0 [.ref r0, .int x1] [] h := by
  intro n
  induction n with
  | zero => intro r0 x1 h k; exact ok_none k
  | succ n ih => intro r0 x1 h k; exact s_X11_settle_l0b hd hex (fun r0 x1 h k => ih r0 x1 h k) k
def f_X11_settle_j63 (S : SH) (r0 : Nat) (x1 : Int32) (h : AH) : Option (Unit × AH) :=
  (gR S h r0 11 25).bind fun p_1 =>
  (gR S h r0 11 28).bind fun p_3 =>
  (gI S h r0 11 29).bind fun v_5 =>
  (aI S h p_3 v_5).bind fun v_7 =>
  (gI S h r0 11 23).bind fun v_9 =>
  (sI S h p_1 v_7 v_9).bind fun h_11 =>
  (f_X11_settle_l0 S FU r0 x1 h_11).bind fun z => match z with
  | ((), h_13) =>
  some ((), h_13)
set_option maxHeartbeats 8000000 in
set_option maxRecDepth 20000 in
theorem s_X11_settle_j63 {S : SH} {d cb sb : Nat} {Q : Option Value → AH → Prop} (hd : 1 ≤ d)  {r0 : Nat} {x1 : Int32} {h : AH} (k : ok (f_X11_settle_j63 S r0 x1 h) (fun _ h' => Q none h')) : WP S M_X11_settle d cb sb Q 63 [.ref r0, .int x1] [] h := by
  obtain ⟨d, rfl, he⟩ := dp (L := 0) hd
  unfold f_X11_settle_j63 at k
  refine wp_aload_n dX11_settle_63 rfl ?_
  replace k := ok_bind k
  obtain ⟨p_1, e_2, k⟩ := k
  refine wq_getR fl_X11_48 (Or.inr ⟨_, rfl⟩) dX11_settle_64 e_2 ?_
  refine wp_aload_n dX11_settle_67 rfl ?_
  replace k := ok_bind k
  obtain ⟨p_3, e_4, k⟩ := k
  refine wq_getR fl_X11_54 (Or.inr ⟨_, rfl⟩) dX11_settle_68 e_4 ?_
  refine wp_aload_n dX11_settle_71 rfl ?_
  replace k := ok_bind k
  obtain ⟨v_5, e_6, k⟩ := k
  refine wq_getI fl_X11_296 (Or.inl rfl) dX11_settle_72 e_6 ?_
  replace k := ok_bind k
  obtain ⟨v_7, e_8, k⟩ := k
  refine wq_aI dX11_settle_75 e_8 ?_
  refine wp_aload_n dX11_settle_76 rfl ?_
  replace k := ok_bind k
  obtain ⟨v_9, e_10, k⟩ := k
  refine wq_getI fl_X11_293 (Or.inl rfl) dX11_settle_77 e_10 ?_
  replace k := ok_bind k
  obtain ⟨h_11, e_12, k⟩ := k
  refine wq_sI dX11_settle_80 e_12 ?_
  refine wp_goto 0 dX11_settle_81 (by decide) ?_
  refine wp_wk (wkE <| wkE <| wkN) ?_
  refine s_X11_settle_l0 (Nat.succ_le_succ he) (fun  h_13 k => ?_) FU _ _ _ (ok_bind2 k)
  try dsimp only at k
  refine wp_vret rfl dX11_settle_101 ?_
  exact (ok_some k :)
def f_X11_settle (S : SH) (r0 : Nat) (x1 : Int32) (h : AH) : Option (Unit × AH) :=
  (gI S h r0 11 29).bind fun v_1 =>
  if v_1 ≤ (0 : Int32) then
    some ((), h)
  else
    (gR S h r0 11 27).bind fun p_4 =>
    (gI S h r0 11 29).bind fun v_6 =>
    (aI S h p_4 (v_6 - (1 : Int32))).bind fun v_8 =>
    (f_X11_binds S v_8 h).bind fun z => match z with
    | (z_11, h_10) =>
    if z_11 < x1 then
      some ((), h_10)
    else
      (gI S h_10 r0 11 29).bind fun v_13 =>
      (pI S h_10 r0 11 29 (v_13 - (1 : Int32))).bind fun h_15 =>
      (gR S h_15 r0 11 27).bind fun p_17 =>
      (gI S h_15 r0 11 29).bind fun v_19 =>
      (aI S h_15 p_17 v_19).bind fun v_21 =>
      if v_21 = (29 : Int32) then
        f_X11_settle_j63 S r0 x1 h_15
      else
        (gR S h_15 r0 11 27).bind fun p_24 =>
        (gI S h_15 r0 11 29).bind fun v_26 =>
        (aI S h_15 p_24 v_26).bind fun v_28 =>
        if v_28 = (30 : Int32) then
          f_X11_settle_j63 S r0 x1 h_15
        else
          (gR S h_15 r0 11 27).bind fun p_31 =>
          (gI S h_15 r0 11 29).bind fun v_33 =>
          (aI S h_15 p_31 v_33).bind fun v_35 =>
          (ckO S h_15 r0 11).bind fun _ =>
          (f_X11_emit S r0 v_35 (0 : Int32) h_15).bind fun z => match z with
          | (_, h_38) =>
          (f_X11_settle_l0 S FU r0 x1 h_38).bind fun z => match z with
          | ((), h_40) =>
          some ((), h_40)
set_option maxHeartbeats 8000000 in
set_option maxRecDepth 20000 in
theorem s_X11_settle {S : SH} {d cb sb : Nat} {Q : Option Value → AH → Prop} (hd : 1 ≤ d)  {r0 : Nat} {x1 : Int32} {h : AH} (k : ok (f_X11_settle S r0 x1 h) (fun _ h' => Q none h')) : WP S M_X11_settle d cb sb Q 0 [.ref r0, .int x1] [] h := by
  obtain ⟨d, rfl, he⟩ := dp (L := 0) hd
  unfold f_X11_settle at k
  refine wp_aload_n dX11_settle_0 rfl ?_
  replace k := ok_bind k
  obtain ⟨v_1, e_2, k⟩ := k
  refine wq_getI fl_X11_296 (Or.inl rfl) dX11_settle_1 e_2 ?_
  refine wp_if_le 101 dX11_settle_4 (by decide) (fun c_3 => ?_) (fun c_3 => ?_)
  · replace k := ok_t c_3 k
    refine wp_vret rfl dX11_settle_101 ?_
    exact (ok_some k :)
  · replace k := ok_f c_3 k
    refine wp_aload_n dX11_settle_7 rfl ?_
    replace k := ok_bind k
    obtain ⟨p_4, e_5, k⟩ := k
    refine wq_getR fl_X11_51 (Or.inr ⟨_, rfl⟩) dX11_settle_8 e_5 ?_
    refine wp_aload_n dX11_settle_11 rfl ?_
    replace k := ok_bind k
    obtain ⟨v_6, e_7, k⟩ := k
    refine wq_getI fl_X11_296 (Or.inl rfl) dX11_settle_12 e_7 ?_
    refine wp_iconst dX11_settle_15 ic_1 ?_
    refine wp_isub dX11_settle_16 ?_
    replace k := ok_bind k
    obtain ⟨v_8, e_9, k⟩ := k
    refine wq_aI dX11_settle_17 e_9 ?_
    refine wp_callS1 (N := M_X11_binds) mf_X11_binds ms_X11_binds ml_X11_299 dX11_settle_18 (by exact Nat.le_of_ble_eq_true rfl) (c_X11_binds (Nat.le_trans (by decide) he) (ok_mono (ok_bind2 k) fun z_11 h_10 k => ?_))
    try dsimp only at k
    refine wp_iload_n dX11_settle_21 rfl ?_
    refine wp_icmp_lt 101 dX11_settle_22 (by decide) (fun c_12 => ?_) (fun c_12 => ?_)
    · replace k := ok_t c_12 k
      refine wp_vret rfl dX11_settle_101 ?_
      exact (ok_some k :)
    · replace k := ok_f c_12 k
      refine wp_aload_n dX11_settle_25 rfl ?_
      refine wp_dupR dX11_settle_26 ?_
      replace k := ok_bind k
      obtain ⟨v_13, e_14, k⟩ := k
      refine wq_getI fl_X11_296 (Or.inl rfl) dX11_settle_27 e_14 ?_
      refine wp_iconst dX11_settle_30 ic_1 ?_
      refine wp_isub dX11_settle_31 ?_
      replace k := ok_bind k
      obtain ⟨h_15, e_16, k⟩ := k
      refine wq_putI fl_X11_296 rfl rfl dX11_settle_32 e_16 ?_
      refine wp_aload_n dX11_settle_35 rfl ?_
      replace k := ok_bind k
      obtain ⟨p_17, e_18, k⟩ := k
      refine wq_getR fl_X11_51 (Or.inr ⟨_, rfl⟩) dX11_settle_36 e_18 ?_
      refine wp_aload_n dX11_settle_39 rfl ?_
      replace k := ok_bind k
      obtain ⟨v_19, e_20, k⟩ := k
      refine wq_getI fl_X11_296 (Or.inl rfl) dX11_settle_40 e_20 ?_
      replace k := ok_bind k
      obtain ⟨v_21, e_22, k⟩ := k
      refine wq_aI dX11_settle_43 e_22 ?_
      refine wp_bipush dX11_settle_44 bp_29 ?_
      refine wp_icmp_eq 63 dX11_settle_46 (by decide) (fun c_23 => ?_) (fun c_23 => ?_)
      · replace k := ok_t c_23 k
        exact wp_wk (wkE <| wkE <| wkN) (s_X11_settle_j63 (Nat.succ_le_succ he)  k)
      · replace k := ok_f c_23 k
        refine wp_aload_n dX11_settle_49 rfl ?_
        replace k := ok_bind k
        obtain ⟨p_24, e_25, k⟩ := k
        refine wq_getR fl_X11_51 (Or.inr ⟨_, rfl⟩) dX11_settle_50 e_25 ?_
        refine wp_aload_n dX11_settle_53 rfl ?_
        replace k := ok_bind k
        obtain ⟨v_26, e_27, k⟩ := k
        refine wq_getI fl_X11_296 (Or.inl rfl) dX11_settle_54 e_27 ?_
        replace k := ok_bind k
        obtain ⟨v_28, e_29, k⟩ := k
        refine wq_aI dX11_settle_57 e_29 ?_
        refine wp_bipush dX11_settle_58 bp_30 ?_
        refine wp_icmp_ne 84 dX11_settle_60 (by decide) (fun c_30 => ?_) (fun c_30 => ?_)
        · replace k := ok_f c_30 k
          refine wp_aload_n dX11_settle_84 rfl ?_
          refine wp_aload_n dX11_settle_85 rfl ?_
          replace k := ok_bind k
          obtain ⟨p_31, e_32, k⟩ := k
          refine wq_getR fl_X11_51 (Or.inr ⟨_, rfl⟩) dX11_settle_86 e_32 ?_
          refine wp_aload_n dX11_settle_89 rfl ?_
          replace k := ok_bind k
          obtain ⟨v_33, e_34, k⟩ := k
          refine wq_getI fl_X11_296 (Or.inl rfl) dX11_settle_90 e_34 ?_
          replace k := ok_bind k
          obtain ⟨v_35, e_36, k⟩ := k
          refine wq_aI dX11_settle_93 e_36 ?_
          refine wp_iconst dX11_settle_94 ic_0 ?_
          replace k := ok_bind k
          obtain ⟨u, e_37, k⟩ := k
          refine wp_callV2 (N := M_X11_emit) (ci := 11) mf_X11_emit mi_X11_emit me_X11_emit ml_X11_302 dX11_settle_95 (ckO_e e_37) mv_X11_emit (by exact Nat.le_of_ble_eq_true rfl) (c_X11_emit (Nat.le_trans (by decide) he) (ok_mono (ok_bind2 k) fun _ h_38 k => ?_))
          try dsimp only at k
          refine wp_goto 0 dX11_settle_98 (by decide) ?_
          refine wp_wk (wkE <| wkE <| wkN) ?_
          refine s_X11_settle_l0 (Nat.succ_le_succ he) (fun  h_40 k => ?_) FU _ _ _ (ok_bind2 k)
          try dsimp only at k
          refine wp_vret rfl dX11_settle_101 ?_
          exact (ok_some k :)
        · replace k := ok_t c_30 k
          exact wp_wk (wkE <| wkE <| wkN) (s_X11_settle_j63 (Nat.succ_le_succ he)  k)
theorem c_X11_settle {S : SH} {d : Nat} {K : Option Value → AH → Prop} (hd : 1 ≤ d)  {r0 : Nat} {x1 : Int32} {h : AH} (k : ok (f_X11_settle S r0 x1 h) (fun _ h' => K none h')) : CP S M_X11_settle d 0 0 [.ref r0, .int x1] h K := cp_of (by decide) (fun _ _ => trivial) (fun _ => Nat.le_of_ble_eq_true rfl) (s_X11_settle hd  k)
def f_X11_inner_l4b (S : SH) (rc : Nat → Int32 → Int32 → AH → Option (Int32 × AH)) (r0 : Nat) (x1 : Int32) (x2 : Int32) (h : AH) : Option (Int32 × AH) :=
  (gI S h r0 11 29).bind fun v_1 =>
  if v_1 ≤ x2 then
    some (x1, h)
  else
    (gR S h r0 11 27).bind fun p_4 =>
    (aI S h p_4 x2).bind fun v_6 =>
    if v_6 < (31 : Int32) then
      lt (x2 + (1 : Int32)) fun y_9 =>
      rc r0 x1 y_9 h
    else
      (gR S h r0 11 27).bind fun p_10 =>
      (aI S h p_10 x2).bind fun v_12 =>
      lt (x2 + (1 : Int32)) fun y_14 =>
      rc r0 v_12 y_14 h
set_option maxHeartbeats 8000000 in
set_option maxRecDepth 20000 in
theorem s_X11_inner_l4b {S : SH} {d cb sb : Nat} {Q : Option Value → AH → Prop} (hd : 0 ≤ d) {K : Int32 → AH → Prop} (hex : ∀ (x1 : Int32) (h' : AH), K x1 h' → WP S M_X11_inner d cb sb Q 40 [JK, .int x1, JK] [] h') {rc : Nat → Int32 → Int32 → AH → Option (Int32 × AH)} (hrec : ∀ (r0 : Nat) (x1 : Int32) (x2 : Int32) (h' : AH), ok (rc r0 x1 x2 h') K → WP S M_X11_inner d cb sb Q 4 [.ref r0, .int x1, .int x2] [] h') {r0 : Nat} {x1 : Int32} {x2 : Int32} {h : AH} (k : ok (f_X11_inner_l4b S rc r0 x1 x2 h) K) : WP S M_X11_inner d cb sb Q 4 [.ref r0, .int x1, .int x2] [] h := by
  unfold f_X11_inner_l4b at k
  refine wp_iload_n dX11_inner_4 rfl ?_
  refine wp_aload_n dX11_inner_5 rfl ?_
  replace k := ok_bind k
  obtain ⟨v_1, e_2, k⟩ := k
  refine wq_getI fl_X11_296 (Or.inl rfl) dX11_inner_6 e_2 ?_
  refine wp_icmp_ge 40 dX11_inner_9 (by decide) (fun c_3 => ?_) (fun c_3 => ?_)
  · replace k := ok_t c_3 k
    exact wp_wk (wkJ <| wkE <| wkJ <| wkN) (hex _ _ (ok_some k))
  · replace k := ok_f c_3 k
    refine wp_aload_n dX11_inner_12 rfl ?_
    replace k := ok_bind k
    obtain ⟨p_4, e_5, k⟩ := k
    refine wq_getR fl_X11_51 (Or.inr ⟨_, rfl⟩) dX11_inner_13 e_5 ?_
    refine wp_iload_n dX11_inner_16 rfl ?_
    replace k := ok_bind k
    obtain ⟨v_6, e_7, k⟩ := k
    refine wq_aI dX11_inner_17 e_7 ?_
    refine wp_bipush dX11_inner_18 bp_31 ?_
    refine wp_icmp_lt 32 dX11_inner_20 (by decide) (fun c_8 => ?_) (fun c_8 => ?_)
    · replace k := ok_t c_8 k
      refine wp_iload_n dX11_inner_32 rfl ?_
      refine wp_istore_n dX11_inner_33 (by decide) (L1 := [_, _, _]) rfl ?_
      replace k := ok_lt k
      refine wp_iinc dX11_inner_34 rfl ic_1 (by decide) (L1 := [_, _, _]) rfl ?_
      refine wp_goto 4 dX11_inner_37 (by decide) ?_
      exact wp_wk (wkE <| wkE <| wkE <| wkN) (hrec _ _ _ _ k)
    · replace k := ok_f c_8 k
      refine wp_aload_n dX11_inner_23 rfl ?_
      replace k := ok_bind k
      obtain ⟨p_10, e_11, k⟩ := k
      refine wq_getR fl_X11_51 (Or.inr ⟨_, rfl⟩) dX11_inner_24 e_11 ?_
      refine wp_iload_n dX11_inner_27 rfl ?_
      replace k := ok_bind k
      obtain ⟨v_12, e_13, k⟩ := k
      refine wq_aI dX11_inner_28 e_13 ?_
      refine wp_goto 33 dX11_inner_29 (by decide) ?_
      refine wp_istore_n dX11_inner_33 (by decide) (L1 := [_, _, _]) rfl ?_
      replace k := ok_lt k
      refine wp_iinc dX11_inner_34 rfl ic_1 (by decide) (L1 := [_, _, _]) rfl ?_
      refine wp_goto 4 dX11_inner_37 (by decide) ?_
      exact wp_wk (wkE <| wkE <| wkE <| wkN) (hrec _ _ _ _ k)
def f_X11_inner_l4 (S : SH) : Nat → Nat → Int32 → Int32 → AH → Option (Int32 × AH)
  | 0, _, _, _, _ => none
  | n + 1, r0, x1, x2, h => f_X11_inner_l4b S (f_X11_inner_l4 S n) r0 x1 x2 h
theorem s_X11_inner_l4 {S : SH} {d cb sb : Nat} {Q : Option Value → AH → Prop} (hd : 0 ≤ d) {K : Int32 → AH → Prop} (hex : ∀ (x1 : Int32) (h' : AH), K x1 h' → WP S M_X11_inner d cb sb Q 40 [JK, .int x1, JK] [] h') : ∀ (n : Nat) (r0 : Nat) (x1 : Int32) (x2 : Int32) (h : AH), ok (f_X11_inner_l4 S n r0 x1 x2 h) K → WP S M_X11_inner d cb sb Q 4 [.ref r0, .int x1, .int x2] [] h := by
  intro n
  induction n with
  | zero => intro r0 x1 x2 h k; exact ok_none k
  | succ n ih => intro r0 x1 x2 h k; exact s_X11_inner_l4b hd hex (fun r0 x1 x2 h k => ih r0 x1 x2 h k) k
def f_X11_inner (S : SH) (r0 : Nat) (h : AH) : Option (Int32 × AH) :=
  (f_X11_inner_l4 S FU r0 (-1 : Int32) (0 : Int32) h).bind fun z => match z with
  | (x1_2, h_1) =>
  some (x1_2, h_1)
set_option maxHeartbeats 8000000 in
set_option maxRecDepth 20000 in
theorem s_X11_inner {S : SH} {d cb sb : Nat} {Q : Option Value → AH → Prop} (hd : 0 ≤ d)  {r0 : Nat} {h : AH} (k : ok (f_X11_inner S r0 h) (fun w h' => Q (some (.int w)) h')) : WP S M_X11_inner d cb sb Q 0 [.ref r0, JK, JK] [] h := by
  unfold f_X11_inner at k
  refine wp_iconst dX11_inner_0 ic_m1 ?_
  refine wp_istore_n dX11_inner_1 (by decide) (L1 := [_, _, _]) rfl ?_
  refine wp_iconst dX11_inner_2 ic_0 ?_
  refine wp_istore_n dX11_inner_3 (by decide) (L1 := [_, _, _]) rfl ?_
  refine wp_wk (wkE <| wkE <| wkE <| wkN) ?_
  refine s_X11_inner_l4 hd (fun x1_2 h_1 k => ?_) FU _ _ _ _ (ok_bind2 k)
  try dsimp only at k
  refine wp_iload_n dX11_inner_40 rfl ?_
  refine wp_iret rfl rfl dX11_inner_41 ?_
  exact (ok_some k :)
theorem c_X11_inner {S : SH} {d : Nat} {K : Option Value → AH → Prop} (hd : 0 ≤ d)  {r0 : Nat} {h : AH} (k : ok (f_X11_inner S r0 h) (fun w h' => K (some (.int w)) h')) : CP S M_X11_inner d 0 0 [.ref r0] h K := cp_of (by decide) (fun _ _ => trivial) (fun _ => Nat.le_of_ble_eq_true rfl) (s_X11_inner hd  k)
def f_X11_isCompared_l7b (S : SH) (rc : Nat → Int32 → AH → Option ((Nat × Int32) × AH)) (r0 : Nat) (x1 : Int32) (h : AH) : Option ((Nat × Int32) × AH) :=
  if x1 < (0 : Int32) then
    some ((r0, x1), h)
  else
    (gR S h r0 11 27).bind fun p_2 =>
    (aI S h p_2 x1).bind fun v_4 =>
    (f_X11_in S (Int32.toInt64 v_4) (20 : Int64) (24 : Int64) h).bind fun z => match z with
    | (z_7, h_6) =>
    if z_7 = (0 : Int32) then
      some ((r0, x1), h_6)
    else
      lt (x1 + (-1 : Int32)) fun y_9 =>
      rc r0 y_9 h_6
set_option maxHeartbeats 8000000 in
set_option maxRecDepth 20000 in
theorem s_X11_isCompared_l7b {S : SH} {d cb sb : Nat} {Q : Option Value → AH → Prop} (hd : 1 ≤ d) {K : (Nat × Int32) → AH → Prop} (hex : ∀ (r0 : Nat) (x1 : Int32) (h' : AH), K (r0, x1) h' → WP S M_X11_isCompared d cb sb Q 36 [.ref r0, .int x1] [] h') {rc : Nat → Int32 → AH → Option ((Nat × Int32) × AH)} (hrec : ∀ (r0 : Nat) (x1 : Int32) (h' : AH), ok (rc r0 x1 h') K → WP S M_X11_isCompared d cb sb Q 7 [.ref r0, .int x1] [] h') {r0 : Nat} {x1 : Int32} {h : AH} (k : ok (f_X11_isCompared_l7b S rc r0 x1 h) K) : WP S M_X11_isCompared d cb sb Q 7 [.ref r0, .int x1] [] h := by
  obtain ⟨d, rfl, he⟩ := dp (L := 0) hd
  unfold f_X11_isCompared_l7b at k
  refine wp_iload_n dX11_isCompared_7 rfl ?_
  refine wp_if_lt 36 dX11_isCompared_8 (by decide) (fun c_1 => ?_) (fun c_1 => ?_)
  · replace k := ok_t c_1 k
    exact wp_wk (wkE <| wkE <| wkN) (hex _ _ _ (ok_some k))
  · replace k := ok_f c_1 k
    refine wp_aload_n dX11_isCompared_11 rfl ?_
    replace k := ok_bind k
    obtain ⟨p_2, e_3, k⟩ := k
    refine wq_getR fl_X11_51 (Or.inr ⟨_, rfl⟩) dX11_isCompared_12 e_3 ?_
    refine wp_iload_n dX11_isCompared_15 rfl ?_
    replace k := ok_bind k
    obtain ⟨v_4, e_5, k⟩ := k
    refine wq_aI dX11_isCompared_16 e_5 ?_
    refine wp_i2l dX11_isCompared_17 ?_
    refine wp_ldc2 ct_X11_208 dX11_isCompared_18 ?_
    refine wp_ldc2 ct_X11_306 dX11_isCompared_21 ?_
    refine wp_callS3 (N := M_X11_in) mf_X11_in ms_X11_in ml_X11_172 dX11_isCompared_24 (by exact Nat.le_of_ble_eq_true rfl) (c_X11_in (Nat.le_trans (by decide) he) (ok_mono (ok_bind2 k) fun z_7 h_6 k => ?_))
    try dsimp only at k
    refine wp_if_eq 36 dX11_isCompared_27 (by decide) (fun c_8 => ?_) (fun c_8 => ?_)
    · replace k := ok_t c_8 k
      exact wp_wk (wkE <| wkE <| wkN) (hex _ _ _ (ok_some k))
    · replace k := ok_f c_8 k
      replace k := ok_lt k
      refine wp_iinc dX11_isCompared_30 rfl ic_m1 (by decide) (L1 := [_, _]) rfl ?_
      refine wp_goto 7 dX11_isCompared_33 (by decide) ?_
      exact wp_wk (wkE <| wkE <| wkN) (hrec _ _ _ k)
def f_X11_isCompared_l7 (S : SH) : Nat → Nat → Int32 → AH → Option ((Nat × Int32) × AH)
  | 0, _, _, _ => none
  | n + 1, r0, x1, h => f_X11_isCompared_l7b S (f_X11_isCompared_l7 S n) r0 x1 h
theorem s_X11_isCompared_l7 {S : SH} {d cb sb : Nat} {Q : Option Value → AH → Prop} (hd : 1 ≤ d) {K : (Nat × Int32) → AH → Prop} (hex : ∀ (r0 : Nat) (x1 : Int32) (h' : AH), K (r0, x1) h' → WP S M_X11_isCompared d cb sb Q 36 [.ref r0, .int x1] [] h') : ∀ (n : Nat) (r0 : Nat) (x1 : Int32) (h : AH), ok (f_X11_isCompared_l7 S n r0 x1 h) K → WP S M_X11_isCompared d cb sb Q 7 [.ref r0, .int x1] [] h := by
  intro n
  induction n with
  | zero => intro r0 x1 h k; exact ok_none k
  | succ n ih => intro r0 x1 h k; exact s_X11_isCompared_l7b hd hex (fun r0 x1 h k => ih r0 x1 h k) k
def f_X11_isCompared_j36 (S : SH) (r0 : Nat) (x1 : Int32) (h : AH) : Option (Int32 × AH) :=
  if x1 < (0 : Int32) then
    some ((0 : Int32), h)
  else
    (gR S h r0 11 27).bind fun p_2 =>
    (aI S h p_2 x1).bind fun v_4 =>
    (f_X11_in S (Int32.toInt64 v_4) (25 : Int64) (27 : Int64) h).bind fun z => match z with
    | (z_7, h_6) =>
    if z_7 = (0 : Int32) then
      some ((0 : Int32), h_6)
    else
      some ((1 : Int32), h_6)
set_option maxHeartbeats 8000000 in
set_option maxRecDepth 20000 in
theorem s_X11_isCompared_j36 {S : SH} {d cb sb : Nat} {Q : Option Value → AH → Prop} (hd : 1 ≤ d)  {r0 : Nat} {x1 : Int32} {h : AH} (k : ok (f_X11_isCompared_j36 S r0 x1 h) (fun w h' => Q (some (.int w)) h')) : WP S M_X11_isCompared d cb sb Q 36 [.ref r0, .int x1] [] h := by
  obtain ⟨d, rfl, he⟩ := dp (L := 0) hd
  unfold f_X11_isCompared_j36 at k
  refine wp_iload_n dX11_isCompared_36 rfl ?_
  refine wp_if_lt 63 dX11_isCompared_37 (by decide) (fun c_1 => ?_) (fun c_1 => ?_)
  · replace k := ok_t c_1 k
    refine wp_iconst dX11_isCompared_63 ic_0 ?_
    refine wp_iret rfl rfl dX11_isCompared_64 ?_
    exact (ok_some k :)
  · replace k := ok_f c_1 k
    refine wp_aload_n dX11_isCompared_40 rfl ?_
    replace k := ok_bind k
    obtain ⟨p_2, e_3, k⟩ := k
    refine wq_getR fl_X11_51 (Or.inr ⟨_, rfl⟩) dX11_isCompared_41 e_3 ?_
    refine wp_iload_n dX11_isCompared_44 rfl ?_
    replace k := ok_bind k
    obtain ⟨v_4, e_5, k⟩ := k
    refine wq_aI dX11_isCompared_45 e_5 ?_
    refine wp_i2l dX11_isCompared_46 ?_
    refine wp_ldc2 ct_X11_308 dX11_isCompared_47 ?_
    refine wp_ldc2 ct_X11_310 dX11_isCompared_50 ?_
    refine wp_callS3 (N := M_X11_in) mf_X11_in ms_X11_in ml_X11_172 dX11_isCompared_53 (by exact Nat.le_of_ble_eq_true rfl) (c_X11_in (Nat.le_trans (by decide) he) (ok_mono (ok_bind2 k) fun z_7 h_6 k => ?_))
    try dsimp only at k
    refine wp_if_eq 63 dX11_isCompared_56 (by decide) (fun c_8 => ?_) (fun c_8 => ?_)
    · replace k := ok_t c_8 k
      refine wp_iconst dX11_isCompared_63 ic_0 ?_
      refine wp_iret rfl rfl dX11_isCompared_64 ?_
      exact (ok_some k :)
    · replace k := ok_f c_8 k
      refine wp_iconst dX11_isCompared_59 ic_1 ?_
      refine wp_goto 64 dX11_isCompared_60 (by decide) ?_
      refine wp_iret rfl rfl dX11_isCompared_64 ?_
      exact (ok_some k :)
def f_X11_isCompared (S : SH) (r0 : Nat) (h : AH) : Option (Int32 × AH) :=
  (gI S h r0 11 29).bind fun v_1 =>
  lt ((v_1 - (1 : Int32))) fun y_3 =>
  (f_X11_isCompared_l7 S FU r0 y_3 h).bind fun z => match z with
  | ((r0_5, x1_6), h_4) =>
  f_X11_isCompared_j36 S r0_5 x1_6 h_4
set_option maxHeartbeats 8000000 in
set_option maxRecDepth 20000 in
theorem s_X11_isCompared {S : SH} {d cb sb : Nat} {Q : Option Value → AH → Prop} (hd : 1 ≤ d)  {r0 : Nat} {h : AH} (k : ok (f_X11_isCompared S r0 h) (fun w h' => Q (some (.int w)) h')) : WP S M_X11_isCompared d cb sb Q 0 [.ref r0, JK] [] h := by
  obtain ⟨d, rfl, he⟩ := dp (L := 0) hd
  unfold f_X11_isCompared at k
  refine wp_aload_n dX11_isCompared_0 rfl ?_
  replace k := ok_bind k
  obtain ⟨v_1, e_2, k⟩ := k
  refine wq_getI fl_X11_296 (Or.inl rfl) dX11_isCompared_1 e_2 ?_
  refine wp_iconst dX11_isCompared_4 ic_1 ?_
  refine wp_isub dX11_isCompared_5 ?_
  replace k := ok_lt k
  refine wp_istore_n dX11_isCompared_6 (by decide) (L1 := [_, _]) rfl ?_
  refine wp_wk (wkE <| wkE <| wkN) ?_
  refine s_X11_isCompared_l7 (Nat.succ_le_succ he) (fun r0_5 x1_6 h_4 k => ?_) FU _ _ _ (ok_bind2 k)
  try dsimp only at k
  exact wp_wk (wkE <| wkE <| wkN) (s_X11_isCompared_j36 (Nat.succ_le_succ he)  k)
theorem c_X11_isCompared {S : SH} {d : Nat} {K : Option Value → AH → Prop} (hd : 1 ≤ d)  {r0 : Nat} {h : AH} (k : ok (f_X11_isCompared S r0 h) (fun w h' => K (some (.int w)) h')) : CP S M_X11_isCompared d 0 0 [.ref r0] h K := cp_of (by decide) (fun _ _ => trivial) (fun _ => Nat.le_of_ble_eq_true rfl) (s_X11_isCompared hd  k)
def f_X11_partAt_l4b (S : SH) (rc : Nat → Int32 → Int32 → AH → Option (Int32 × AH)) (r0 : Nat) (x1 : Int32) (x2 : Int32) (h : AH) : Option (Int32 × AH) :=
  if (9 : Int32) ≤ x2 then
    some (x1, h)
  else
    (gR S h r0 11 31).bind fun p_2 =>
    (aJ S h p_2 x2).bind fun w_4 =>
    (ckO S h r0 11).bind fun _ =>
    (f_X11_isWord S r0 w_4 h).bind fun z => match z with
    | (z_8, h_7) =>
    if z_8 = (0 : Int32) then
      lt (x2 + (1 : Int32)) fun y_10 =>
      rc r0 x1 y_10 h_7
    else
      lt ((x2 + (1 : Int32))) fun y_11 =>
      lt (x2 + (1 : Int32)) fun y_12 =>
      rc r0 y_11 y_12 h_7
set_option maxHeartbeats 8000000 in
set_option maxRecDepth 20000 in
theorem s_X11_partAt_l4b {S : SH} {d cb sb : Nat} {Q : Option Value → AH → Prop} (hd : 1 ≤ d) {K : Int32 → AH → Prop} (hex : ∀ (x1 : Int32) (h' : AH), K x1 h' → WP S M_X11_partAt d cb sb Q 37 [JK, .int x1, JK] [] h') {rc : Nat → Int32 → Int32 → AH → Option (Int32 × AH)} (hrec : ∀ (r0 : Nat) (x1 : Int32) (x2 : Int32) (h' : AH), ok (rc r0 x1 x2 h') K → WP S M_X11_partAt d cb sb Q 4 [.ref r0, .int x1, .int x2] [] h') {r0 : Nat} {x1 : Int32} {x2 : Int32} {h : AH} (k : ok (f_X11_partAt_l4b S rc r0 x1 x2 h) K) : WP S M_X11_partAt d cb sb Q 4 [.ref r0, .int x1, .int x2] [] h := by
  obtain ⟨d, rfl, he⟩ := dp (L := 0) hd
  unfold f_X11_partAt_l4b at k
  refine wp_iload_n dX11_partAt_4 rfl ?_
  refine wp_bipush dX11_partAt_5 bp_9 ?_
  refine wp_icmp_ge 37 dX11_partAt_7 (by decide) (fun c_1 => ?_) (fun c_1 => ?_)
  · replace k := ok_t c_1 k
    exact wp_wk (wkJ <| wkE <| wkJ <| wkN) (hex _ _ (ok_some k))
  · replace k := ok_f c_1 k
    refine wp_aload_n dX11_partAt_10 rfl ?_
    refine wp_aload_n dX11_partAt_11 rfl ?_
    replace k := ok_bind k
    obtain ⟨p_2, e_3, k⟩ := k
    refine wq_getR fl_X11_75 (Or.inr ⟨_, rfl⟩) dX11_partAt_12 e_3 ?_
    refine wp_iload_n dX11_partAt_15 rfl ?_
    replace k := ok_bind k
    obtain ⟨w_4, e_5, k⟩ := k
    refine wq_aJ dX11_partAt_16 e_5 ?_
    replace k := ok_bind k
    obtain ⟨u, e_6, k⟩ := k
    refine wp_callV1 (N := M_X11_isWord) (ci := 11) mf_X11_isWord mi_X11_isWord me_X11_isWord ml_X11_312 dX11_partAt_17 (ckO_e e_6) mv_X11_isWord (by exact Nat.le_of_ble_eq_true rfl) (c_X11_isWord (Nat.le_trans (by decide) he) (ok_mono (ok_bind2 k) fun z_8 h_7 k => ?_))
    try dsimp only at k
    refine wp_if_eq 29 dX11_partAt_20 (by decide) (fun c_9 => ?_) (fun c_9 => ?_)
    · replace k := ok_t c_9 k
      refine wp_iload_n dX11_partAt_29 rfl ?_
      refine wp_istore_n dX11_partAt_30 (by decide) (L1 := [_, _, _]) rfl ?_
      replace k := ok_lt k
      refine wp_iinc dX11_partAt_31 rfl ic_1 (by decide) (L1 := [_, _, _]) rfl ?_
      refine wp_goto 4 dX11_partAt_34 (by decide) ?_
      exact wp_wk (wkE <| wkE <| wkE <| wkN) (hrec _ _ _ _ k)
    · replace k := ok_f c_9 k
      refine wp_iload_n dX11_partAt_23 rfl ?_
      refine wp_iconst dX11_partAt_24 ic_1 ?_
      refine wp_iadd dX11_partAt_25 ?_
      refine wp_goto 30 dX11_partAt_26 (by decide) ?_
      replace k := ok_lt k
      refine wp_istore_n dX11_partAt_30 (by decide) (L1 := [_, _, _]) rfl ?_
      replace k := ok_lt k
      refine wp_iinc dX11_partAt_31 rfl ic_1 (by decide) (L1 := [_, _, _]) rfl ?_
      refine wp_goto 4 dX11_partAt_34 (by decide) ?_
      exact wp_wk (wkE <| wkE <| wkE <| wkN) (hrec _ _ _ _ k)
def f_X11_partAt_l4 (S : SH) : Nat → Nat → Int32 → Int32 → AH → Option (Int32 × AH)
  | 0, _, _, _, _ => none
  | n + 1, r0, x1, x2, h => f_X11_partAt_l4b S (f_X11_partAt_l4 S n) r0 x1 x2 h
theorem s_X11_partAt_l4 {S : SH} {d cb sb : Nat} {Q : Option Value → AH → Prop} (hd : 1 ≤ d) {K : Int32 → AH → Prop} (hex : ∀ (x1 : Int32) (h' : AH), K x1 h' → WP S M_X11_partAt d cb sb Q 37 [JK, .int x1, JK] [] h') : ∀ (n : Nat) (r0 : Nat) (x1 : Int32) (x2 : Int32) (h : AH), ok (f_X11_partAt_l4 S n r0 x1 x2 h) K → WP S M_X11_partAt d cb sb Q 4 [.ref r0, .int x1, .int x2] [] h := by
  intro n
  induction n with
  | zero => intro r0 x1 x2 h k; exact ok_none k
  | succ n ih => intro r0 x1 x2 h k; exact s_X11_partAt_l4b hd hex (fun r0 x1 x2 h k => ih r0 x1 x2 h k) k
def f_X11_partAt (S : SH) (r0 : Nat) (h : AH) : Option (Int32 × AH) :=
  (f_X11_partAt_l4 S FU r0 (-1 : Int32) (0 : Int32) h).bind fun z => match z with
  | (x1_2, h_1) =>
  some (x1_2, h_1)
set_option maxHeartbeats 8000000 in
set_option maxRecDepth 20000 in
theorem s_X11_partAt {S : SH} {d cb sb : Nat} {Q : Option Value → AH → Prop} (hd : 1 ≤ d)  {r0 : Nat} {h : AH} (k : ok (f_X11_partAt S r0 h) (fun w h' => Q (some (.int w)) h')) : WP S M_X11_partAt d cb sb Q 0 [.ref r0, JK, JK] [] h := by
  obtain ⟨d, rfl, he⟩ := dp (L := 0) hd
  unfold f_X11_partAt at k
  refine wp_iconst dX11_partAt_0 ic_m1 ?_
  refine wp_istore_n dX11_partAt_1 (by decide) (L1 := [_, _, _]) rfl ?_
  refine wp_iconst dX11_partAt_2 ic_0 ?_
  refine wp_istore_n dX11_partAt_3 (by decide) (L1 := [_, _, _]) rfl ?_
  refine wp_wk (wkE <| wkE <| wkE <| wkN) ?_
  refine s_X11_partAt_l4 (Nat.succ_le_succ he) (fun x1_2 h_1 k => ?_) FU _ _ _ _ (ok_bind2 k)
  try dsimp only at k
  refine wp_iload_n dX11_partAt_37 rfl ?_
  refine wp_iret rfl rfl dX11_partAt_38 ?_
  exact (ok_some k :)
theorem c_X11_partAt {S : SH} {d : Nat} {K : Option Value → AH → Prop} (hd : 1 ≤ d)  {r0 : Nat} {h : AH} (k : ok (f_X11_partAt S r0 h) (fun w h' => K (some (.int w)) h')) : CP S M_X11_partAt d 0 0 [.ref r0] h K := cp_of (by decide) (fun _ _ => trivial) (fun _ => Nat.le_of_ble_eq_true rfl) (s_X11_partAt hd  k)
def f_X11_orderPartAt_l4b (S : SH) (rc : Nat → Int32 → Int32 → AH → Option (Int32 × AH)) (r0 : Nat) (x1 : Int32) (x2 : Int32) (h : AH) : Option (Int32 × AH) :=
  if (7 : Int32) ≤ x2 then
    some (x1, h)
  else
    (gR S h r0 11 32).bind fun p_2 =>
    (aJ S h p_2 x2).bind fun w_4 =>
    (ckO S h r0 11).bind fun _ =>
    (f_X11_isWord S r0 w_4 h).bind fun z => match z with
    | (z_8, h_7) =>
    if z_8 = (0 : Int32) then
      lt (x2 + (1 : Int32)) fun y_10 =>
      rc r0 x1 y_10 h_7
    else
      lt ((x2 + (1 : Int32))) fun y_11 =>
      lt (x2 + (1 : Int32)) fun y_12 =>
      rc r0 y_11 y_12 h_7
set_option maxHeartbeats 8000000 in
set_option maxRecDepth 20000 in
theorem s_X11_orderPartAt_l4b {S : SH} {d cb sb : Nat} {Q : Option Value → AH → Prop} (hd : 1 ≤ d) {K : Int32 → AH → Prop} (hex : ∀ (x1 : Int32) (h' : AH), K x1 h' → WP S M_X11_orderPartAt d cb sb Q 37 [JK, .int x1, JK] [] h') {rc : Nat → Int32 → Int32 → AH → Option (Int32 × AH)} (hrec : ∀ (r0 : Nat) (x1 : Int32) (x2 : Int32) (h' : AH), ok (rc r0 x1 x2 h') K → WP S M_X11_orderPartAt d cb sb Q 4 [.ref r0, .int x1, .int x2] [] h') {r0 : Nat} {x1 : Int32} {x2 : Int32} {h : AH} (k : ok (f_X11_orderPartAt_l4b S rc r0 x1 x2 h) K) : WP S M_X11_orderPartAt d cb sb Q 4 [.ref r0, .int x1, .int x2] [] h := by
  obtain ⟨d, rfl, he⟩ := dp (L := 0) hd
  unfold f_X11_orderPartAt_l4b at k
  refine wp_iload_n dX11_orderPartAt_4 rfl ?_
  refine wp_bipush dX11_orderPartAt_5 bp_7 ?_
  refine wp_icmp_ge 37 dX11_orderPartAt_7 (by decide) (fun c_1 => ?_) (fun c_1 => ?_)
  · replace k := ok_t c_1 k
    exact wp_wk (wkJ <| wkE <| wkJ <| wkN) (hex _ _ (ok_some k))
  · replace k := ok_f c_1 k
    refine wp_aload_n dX11_orderPartAt_10 rfl ?_
    refine wp_aload_n dX11_orderPartAt_11 rfl ?_
    replace k := ok_bind k
    obtain ⟨p_2, e_3, k⟩ := k
    refine wq_getR fl_X11_87 (Or.inr ⟨_, rfl⟩) dX11_orderPartAt_12 e_3 ?_
    refine wp_iload_n dX11_orderPartAt_15 rfl ?_
    replace k := ok_bind k
    obtain ⟨w_4, e_5, k⟩ := k
    refine wq_aJ dX11_orderPartAt_16 e_5 ?_
    replace k := ok_bind k
    obtain ⟨u, e_6, k⟩ := k
    refine wp_callV1 (N := M_X11_isWord) (ci := 11) mf_X11_isWord mi_X11_isWord me_X11_isWord ml_X11_312 dX11_orderPartAt_17 (ckO_e e_6) mv_X11_isWord (by exact Nat.le_of_ble_eq_true rfl) (c_X11_isWord (Nat.le_trans (by decide) he) (ok_mono (ok_bind2 k) fun z_8 h_7 k => ?_))
    try dsimp only at k
    refine wp_if_eq 29 dX11_orderPartAt_20 (by decide) (fun c_9 => ?_) (fun c_9 => ?_)
    · replace k := ok_t c_9 k
      refine wp_iload_n dX11_orderPartAt_29 rfl ?_
      refine wp_istore_n dX11_orderPartAt_30 (by decide) (L1 := [_, _, _]) rfl ?_
      replace k := ok_lt k
      refine wp_iinc dX11_orderPartAt_31 rfl ic_1 (by decide) (L1 := [_, _, _]) rfl ?_
      refine wp_goto 4 dX11_orderPartAt_34 (by decide) ?_
      exact wp_wk (wkE <| wkE <| wkE <| wkN) (hrec _ _ _ _ k)
    · replace k := ok_f c_9 k
      refine wp_iload_n dX11_orderPartAt_23 rfl ?_
      refine wp_iconst dX11_orderPartAt_24 ic_1 ?_
      refine wp_iadd dX11_orderPartAt_25 ?_
      refine wp_goto 30 dX11_orderPartAt_26 (by decide) ?_
      replace k := ok_lt k
      refine wp_istore_n dX11_orderPartAt_30 (by decide) (L1 := [_, _, _]) rfl ?_
      replace k := ok_lt k
      refine wp_iinc dX11_orderPartAt_31 rfl ic_1 (by decide) (L1 := [_, _, _]) rfl ?_
      refine wp_goto 4 dX11_orderPartAt_34 (by decide) ?_
      exact wp_wk (wkE <| wkE <| wkE <| wkN) (hrec _ _ _ _ k)
def f_X11_orderPartAt_l4 (S : SH) : Nat → Nat → Int32 → Int32 → AH → Option (Int32 × AH)
  | 0, _, _, _, _ => none
  | n + 1, r0, x1, x2, h => f_X11_orderPartAt_l4b S (f_X11_orderPartAt_l4 S n) r0 x1 x2 h
theorem s_X11_orderPartAt_l4 {S : SH} {d cb sb : Nat} {Q : Option Value → AH → Prop} (hd : 1 ≤ d) {K : Int32 → AH → Prop} (hex : ∀ (x1 : Int32) (h' : AH), K x1 h' → WP S M_X11_orderPartAt d cb sb Q 37 [JK, .int x1, JK] [] h') : ∀ (n : Nat) (r0 : Nat) (x1 : Int32) (x2 : Int32) (h : AH), ok (f_X11_orderPartAt_l4 S n r0 x1 x2 h) K → WP S M_X11_orderPartAt d cb sb Q 4 [.ref r0, .int x1, .int x2] [] h := by
  intro n
  induction n with
  | zero => intro r0 x1 x2 h k; exact ok_none k
  | succ n ih => intro r0 x1 x2 h k; exact s_X11_orderPartAt_l4b hd hex (fun r0 x1 x2 h k => ih r0 x1 x2 h k) k
def f_X11_orderPartAt (S : SH) (r0 : Nat) (h : AH) : Option (Int32 × AH) :=
  (f_X11_orderPartAt_l4 S FU r0 (-1 : Int32) (0 : Int32) h).bind fun z => match z with
  | (x1_2, h_1) =>
  some (x1_2, h_1)
set_option maxHeartbeats 8000000 in
set_option maxRecDepth 20000 in
theorem s_X11_orderPartAt {S : SH} {d cb sb : Nat} {Q : Option Value → AH → Prop} (hd : 1 ≤ d)  {r0 : Nat} {h : AH} (k : ok (f_X11_orderPartAt S r0 h) (fun w h' => Q (some (.int w)) h')) : WP S M_X11_orderPartAt d cb sb Q 0 [.ref r0, JK, JK] [] h := by
  obtain ⟨d, rfl, he⟩ := dp (L := 0) hd
  unfold f_X11_orderPartAt at k
  refine wp_iconst dX11_orderPartAt_0 ic_m1 ?_
  refine wp_istore_n dX11_orderPartAt_1 (by decide) (L1 := [_, _, _]) rfl ?_
  refine wp_iconst dX11_orderPartAt_2 ic_0 ?_
  refine wp_istore_n dX11_orderPartAt_3 (by decide) (L1 := [_, _, _]) rfl ?_
  refine wp_wk (wkE <| wkE <| wkE <| wkN) ?_
  refine s_X11_orderPartAt_l4 (Nat.succ_le_succ he) (fun x1_2 h_1 k => ?_) FU _ _ _ _ (ok_bind2 k)
  try dsimp only at k
  refine wp_iload_n dX11_orderPartAt_37 rfl ?_
  refine wp_iret rfl rfl dX11_orderPartAt_38 ?_
  exact (ok_some k :)
theorem c_X11_orderPartAt {S : SH} {d : Nat} {K : Option Value → AH → Prop} (hd : 1 ≤ d)  {r0 : Nat} {h : AH} (k : ok (f_X11_orderPartAt S r0 h) (fun w h' => K (some (.int w)) h')) : CP S M_X11_orderPartAt d 0 0 [.ref r0] h K := cp_of (by decide) (fun _ _ => trivial) (fun _ => Nat.le_of_ble_eq_true rfl) (s_X11_orderPartAt hd  k)
def f_X11_openBracket_j15 (S : SH) (r0 : Nat) (x1 : Int32) (sr0 : Nat) (sx1 : Int32) (h : AH) : Option (Unit × AH) :=
  (ckO S h sr0 11).bind fun _ =>
  (f_X11_must S sr0 sx1 h).bind fun z => match z with
  | (_, h_2) =>
  (gI S h_2 r0 11 19).bind fun v_4 =>
  if v_4 = (0 : Int32) then
    (gI S h_2 r0 11 30).bind fun v_7 =>
    (pI S h_2 r0 11 30 (v_7 + (1 : Int32))).bind fun h_9 =>
    (ckO S h_9 r0 11).bind fun _ =>
    (f_X11_push S r0 x1 (0 : Int32) h_9).bind fun z => match z with
    | (_, h_12) =>
    some ((), h_12)
  else
    some ((), h_2)
set_option maxHeartbeats 8000000 in
set_option maxRecDepth 20000 in
theorem s_X11_openBracket_j15 {S : SH} {d cb sb : Nat} {Q : Option Value → AH → Prop} (hd : 3 ≤ d)  {r0 : Nat} {x1 : Int32} {sr0 : Nat} {sx1 : Int32} {h : AH} (k : ok (f_X11_openBracket_j15 S r0 x1 sr0 sx1 h) (fun _ h' => Q none h')) : WP S M_X11_openBracket d cb sb Q 15 [.ref r0, .int x1] [.int sx1, .ref sr0] h := by
  obtain ⟨d, rfl, he⟩ := dp (L := 2) hd
  unfold f_X11_openBracket_j15 at k
  replace k := ok_bind k
  obtain ⟨u, e_1, k⟩ := k
  refine wp_callV1 (N := M_X11_must) (ci := 11) mf_X11_must mi_X11_must me_X11_must ml_X11_289 dX11_openBracket_15 (ckO_e e_1) mv_X11_must (by exact Nat.le_of_ble_eq_true rfl) (c_X11_must (Nat.le_trans (by decide) he) (ok_mono (ok_bind2 k) fun _ h_2 k => ?_))
  try dsimp only at k
  refine wp_aload_n dX11_openBracket_18 rfl ?_
  replace k := ok_bind k
  obtain ⟨v_4, e_5, k⟩ := k
  refine wq_getI fl_X11_258 (Or.inr rfl) dX11_openBracket_19 e_5 ?_
  refine wp_if_ne 41 dX11_openBracket_22 (by decide) (fun c_6 => ?_) (fun c_6 => ?_)
  · replace k := ok_f c_6 k
    refine wp_vret rfl dX11_openBracket_41 ?_
    exact (ok_some k :)
  · replace k := ok_t c_6 k
    refine wp_aload_n dX11_openBracket_25 rfl ?_
    refine wp_dupR dX11_openBracket_26 ?_
    replace k := ok_bind k
    obtain ⟨v_7, e_8, k⟩ := k
    refine wq_getI fl_X11_316 (Or.inl rfl) dX11_openBracket_27 e_8 ?_
    refine wp_iconst dX11_openBracket_30 ic_1 ?_
    refine wp_iadd dX11_openBracket_31 ?_
    replace k := ok_bind k
    obtain ⟨h_9, e_10, k⟩ := k
    refine wq_putI fl_X11_316 rfl rfl dX11_openBracket_32 e_10 ?_
    refine wp_aload_n dX11_openBracket_35 rfl ?_
    refine wp_iload_n dX11_openBracket_36 rfl ?_
    refine wp_iconst dX11_openBracket_37 ic_0 ?_
    replace k := ok_bind k
    obtain ⟨u, e_11, k⟩ := k
    refine wp_callV2 (N := M_X11_push) (ci := 11) mf_X11_push mi_X11_push me_X11_push ml_X11_319 dX11_openBracket_38 (ckO_e e_11) mv_X11_push (by exact Nat.le_of_ble_eq_true rfl) (c_X11_push (Nat.le_trans (by decide) he) (ok_mono (ok_bind2 k) fun _ h_12 k => ?_))
    try dsimp only at k
    refine wp_vret rfl dX11_openBracket_41 ?_
    exact (ok_some k :)
def f_X11_openBracket (S : SH) (r0 : Nat) (x1 : Int32) (h : AH) : Option (Unit × AH) :=
  (gI S h r0 11 30).bind fun v_1 =>
  if (8 : Int32) ≤ v_1 then
    f_X11_openBracket_j15 S r0 x1 r0 (0 : Int32) h
  else
    f_X11_openBracket_j15 S r0 x1 r0 (1 : Int32) h
set_option maxHeartbeats 8000000 in
set_option maxRecDepth 20000 in
theorem s_X11_openBracket {S : SH} {d cb sb : Nat} {Q : Option Value → AH → Prop} (hd : 3 ≤ d)  {r0 : Nat} {x1 : Int32} {h : AH} (k : ok (f_X11_openBracket S r0 x1 h) (fun _ h' => Q none h')) : WP S M_X11_openBracket d cb sb Q 0 [.ref r0, .int x1] [] h := by
  obtain ⟨d, rfl, he⟩ := dp (L := 2) hd
  unfold f_X11_openBracket at k
  refine wp_aload_n dX11_openBracket_0 rfl ?_
  refine wp_aload_n dX11_openBracket_1 rfl ?_
  replace k := ok_bind k
  obtain ⟨v_1, e_2, k⟩ := k
  refine wq_getI fl_X11_316 (Or.inl rfl) dX11_openBracket_2 e_2 ?_
  refine wp_bipush dX11_openBracket_5 bp_8 ?_
  refine wp_icmp_ge 14 dX11_openBracket_7 (by decide) (fun c_3 => ?_) (fun c_3 => ?_)
  · replace k := ok_t c_3 k
    refine wp_iconst dX11_openBracket_14 ic_0 ?_
    exact wp_wk (wkE <| wkE <| wkN) (s_X11_openBracket_j15 (Nat.succ_le_succ he)  k)
  · replace k := ok_f c_3 k
    refine wp_iconst dX11_openBracket_10 ic_1 ?_
    refine wp_goto 15 dX11_openBracket_11 (by decide) ?_
    exact wp_wk (wkE <| wkE <| wkN) (s_X11_openBracket_j15 (Nat.succ_le_succ he)  k)
theorem c_X11_openBracket {S : SH} {d : Nat} {K : Option Value → AH → Prop} (hd : 3 ≤ d)  {r0 : Nat} {x1 : Int32} {h : AH} (k : ok (f_X11_openBracket S r0 x1 h) (fun _ h' => K none h')) : CP S M_X11_openBracket d 0 0 [.ref r0, .int x1] h K := cp_of (by decide) (fun _ _ => trivial) (fun _ => Nat.le_of_ble_eq_true rfl) (s_X11_openBracket hd  k)
def f_X11_leaf_j19 (S : SH) (r0 : Nat) (x2 : Int32) (x3 : Int32) (sr0 : Nat) (sx1 : Int32) (h : AH) : Option (Unit × AH) :=
  (ckO S h sr0 11).bind fun _ =>
  (f_X11_must S sr0 sx1 h).bind fun z => match z with
  | (_, h_2) =>
  (gI S h_2 r0 11 19).bind fun v_4 =>
  if v_4 = (0 : Int32) then
    (ckO S h_2 r0 11).bind fun _ =>
    (f_X11_emit S r0 x2 x3 h_2).bind fun z => match z with
    | (_, h_8) =>
    (gI S h_8 r0 11 26).bind fun v_10 =>
    (pI S h_8 r0 11 26 (v_10 + (1 : Int32))).bind fun h_12 =>
    some ((), h_12)
  else
    some ((), h_2)
set_option maxHeartbeats 8000000 in
set_option maxRecDepth 20000 in
theorem s_X11_leaf_j19 {S : SH} {d cb sb : Nat} {Q : Option Value → AH → Prop} (hd : 3 ≤ d)  {r0 : Nat} {x2 : Int32} {x3 : Int32} {sr0 : Nat} {sx1 : Int32} {h : AH} (k : ok (f_X11_leaf_j19 S r0 x2 x3 sr0 sx1 h) (fun _ h' => Q none h')) : WP S M_X11_leaf d cb sb Q 19 [.ref r0, JK, .int x2, .int x3] [.int sx1, .ref sr0] h := by
  obtain ⟨d, rfl, he⟩ := dp (L := 2) hd
  unfold f_X11_leaf_j19 at k
  replace k := ok_bind k
  obtain ⟨u, e_1, k⟩ := k
  refine wp_callV1 (N := M_X11_must) (ci := 11) mf_X11_must mi_X11_must me_X11_must ml_X11_289 dX11_leaf_19 (ckO_e e_1) mv_X11_must (by exact Nat.le_of_ble_eq_true rfl) (c_X11_must (Nat.le_trans (by decide) he) (ok_mono (ok_bind2 k) fun _ h_2 k => ?_))
  try dsimp only at k
  refine wp_aload_n dX11_leaf_22 rfl ?_
  replace k := ok_bind k
  obtain ⟨v_4, e_5, k⟩ := k
  refine wq_getI fl_X11_258 (Or.inr rfl) dX11_leaf_23 e_5 ?_
  refine wp_if_ne 45 dX11_leaf_26 (by decide) (fun c_6 => ?_) (fun c_6 => ?_)
  · replace k := ok_f c_6 k
    refine wp_vret rfl dX11_leaf_45 ?_
    exact (ok_some k :)
  · replace k := ok_t c_6 k
    refine wp_aload_n dX11_leaf_29 rfl ?_
    refine wp_iload_n dX11_leaf_30 rfl ?_
    refine wp_iload_n dX11_leaf_31 rfl ?_
    replace k := ok_bind k
    obtain ⟨u, e_7, k⟩ := k
    refine wp_callV2 (N := M_X11_emit) (ci := 11) mf_X11_emit mi_X11_emit me_X11_emit ml_X11_302 dX11_leaf_32 (ckO_e e_7) mv_X11_emit (by exact Nat.le_of_ble_eq_true rfl) (c_X11_emit (Nat.le_trans (by decide) he) (ok_mono (ok_bind2 k) fun _ h_8 k => ?_))
    try dsimp only at k
    refine wp_aload_n dX11_leaf_35 rfl ?_
    refine wp_dupR dX11_leaf_36 ?_
    replace k := ok_bind k
    obtain ⟨v_10, e_11, k⟩ := k
    refine wq_getI fl_X11_322 (Or.inl rfl) dX11_leaf_37 e_11 ?_
    refine wp_iconst dX11_leaf_40 ic_1 ?_
    refine wp_iadd dX11_leaf_41 ?_
    replace k := ok_bind k
    obtain ⟨h_12, e_13, k⟩ := k
    refine wq_putI fl_X11_322 rfl rfl dX11_leaf_42 e_13 ?_
    refine wp_vret rfl dX11_leaf_45 ?_
    exact (ok_some k :)
def f_X11_leaf_j18 (S : SH) (r0 : Nat) (x2 : Int32) (x3 : Int32) (sr0 : Nat) (h : AH) : Option (Unit × AH) :=
  f_X11_leaf_j19 S r0 x2 x3 sr0 (0 : Int32) h
set_option maxHeartbeats 8000000 in
set_option maxRecDepth 20000 in
theorem s_X11_leaf_j18 {S : SH} {d cb sb : Nat} {Q : Option Value → AH → Prop} (hd : 3 ≤ d)  {r0 : Nat} {x2 : Int32} {x3 : Int32} {sr0 : Nat} {h : AH} (k : ok (f_X11_leaf_j18 S r0 x2 x3 sr0 h) (fun _ h' => Q none h')) : WP S M_X11_leaf d cb sb Q 18 [.ref r0, JK, .int x2, .int x3] [.ref sr0] h := by
  obtain ⟨d, rfl, he⟩ := dp (L := 2) hd
  unfold f_X11_leaf_j18 at k
  refine wp_iconst dX11_leaf_18 ic_0 ?_
  exact wp_wk (wkE <| wkJ <| wkE <| wkE <| wkN) (s_X11_leaf_j19 (Nat.succ_le_succ he)  k)
def f_X11_leaf (S : SH) (r0 : Nat) (x1 : Int32) (x2 : Int32) (x3 : Int32) (h : AH) : Option (Unit × AH) :=
  if x1 = (0 : Int32) then
    f_X11_leaf_j18 S r0 x2 x3 r0 h
  else
    (gI S h r0 11 26).bind fun v_2 =>
    if (50 : Int32) ≤ v_2 then
      f_X11_leaf_j18 S r0 x2 x3 r0 h
    else
      f_X11_leaf_j19 S r0 x2 x3 r0 (1 : Int32) h
set_option maxHeartbeats 8000000 in
set_option maxRecDepth 20000 in
theorem s_X11_leaf {S : SH} {d cb sb : Nat} {Q : Option Value → AH → Prop} (hd : 3 ≤ d)  {r0 : Nat} {x1 : Int32} {x2 : Int32} {x3 : Int32} {h : AH} (k : ok (f_X11_leaf S r0 x1 x2 x3 h) (fun _ h' => Q none h')) : WP S M_X11_leaf d cb sb Q 0 [.ref r0, .int x1, .int x2, .int x3] [] h := by
  obtain ⟨d, rfl, he⟩ := dp (L := 2) hd
  unfold f_X11_leaf at k
  refine wp_aload_n dX11_leaf_0 rfl ?_
  refine wp_iload_n dX11_leaf_1 rfl ?_
  refine wp_if_eq 18 dX11_leaf_2 (by decide) (fun c_1 => ?_) (fun c_1 => ?_)
  · replace k := ok_t c_1 k
    exact wp_wk (wkE <| wkJ <| wkE <| wkE <| wkN) (s_X11_leaf_j18 (Nat.succ_le_succ he)  k)
  · replace k := ok_f c_1 k
    refine wp_aload_n dX11_leaf_5 rfl ?_
    replace k := ok_bind k
    obtain ⟨v_2, e_3, k⟩ := k
    refine wq_getI fl_X11_322 (Or.inl rfl) dX11_leaf_6 e_3 ?_
    refine wp_bipush dX11_leaf_9 bp_50 ?_
    refine wp_icmp_ge 18 dX11_leaf_11 (by decide) (fun c_4 => ?_) (fun c_4 => ?_)
    · replace k := ok_t c_4 k
      exact wp_wk (wkE <| wkJ <| wkE <| wkE <| wkN) (s_X11_leaf_j18 (Nat.succ_le_succ he)  k)
    · replace k := ok_f c_4 k
      refine wp_iconst dX11_leaf_14 ic_1 ?_
      refine wp_goto 19 dX11_leaf_15 (by decide) ?_
      exact wp_wk (wkE <| wkJ <| wkE <| wkE <| wkN) (s_X11_leaf_j19 (Nat.succ_le_succ he)  k)
theorem c_X11_leaf {S : SH} {d : Nat} {K : Option Value → AH → Prop} (hd : 3 ≤ d)  {r0 : Nat} {x1 : Int32} {x2 : Int32} {x3 : Int32} {h : AH} (k : ok (f_X11_leaf S r0 x1 x2 x3 h) (fun _ h' => K none h')) : CP S M_X11_leaf d 0 0 [.ref r0, .int x1, .int x2, .int x3] h K := cp_of (by decide) (fun _ _ => trivial) (fun _ => Nat.le_of_ble_eq_true rfl) (s_X11_leaf hd  k)
def f_X11_readPart_j99 (S : SH) (r0 : Nat) (x1 : Int32) (sr0 : Nat) (sx1 : Int32) (sx2 : Int32) (sx3 : Int32) (h : AH) : Option (Int32 × AH) :=
  (ckO S h sr0 11).bind fun _ =>
  (f_X11_leaf S sr0 sx1 sx2 sx3 h).bind fun z => match z with
  | (_, h_2) =>
  (gI S h_2 r0 11 20).bind fun v_4 =>
  if v_4 = (0 : Int32) then
    some ((3 : Int32), h_2)
  else
    if x1 < (6 : Int32) then
      some ((3 : Int32), h_2)
    else
      (gI S h_2 r0 11 19).bind fun v_8 =>
      if v_8 = (0 : Int32) then
        (gI S h_2 r0 11 23).bind fun v_11 =>
        lt ((v_11 - (1 : Int32))) fun y_13 =>
        (gR S h_2 r0 11 25).bind fun p_14 =>
        if x1 = (6 : Int32) then
          (ckO S h_2 r0 11).bind fun _ =>
          (f_X11_number S r0 (0 : Int64) (6 : Int64) h_2).bind fun z => match z with
          | (z_24, h_23) =>
          (sI S h_23 p_14 y_13 z_24).bind fun h_25 =>
          some ((3 : Int32), h_25)
        else
          (ckO S h_2 r0 11).bind fun _ =>
          (f_X11_number S r0 (0 : Int64) (5 : Int64) h_2).bind fun z => match z with
          | (z_19, h_18) =>
          (sI S h_18 p_14 y_13 z_19).bind fun h_20 =>
          some ((3 : Int32), h_20)
      else
        some ((3 : Int32), h_2)
set_option maxHeartbeats 8000000 in
set_option maxRecDepth 20000 in
theorem s_X11_readPart_j99 {S : SH} {d cb sb : Nat} {Q : Option Value → AH → Prop} (hd : 4 ≤ d)  {r0 : Nat} {x1 : Int32} {sr0 : Nat} {sx1 : Int32} {sx2 : Int32} {sx3 : Int32} {h : AH} (k : ok (f_X11_readPart_j99 S r0 x1 sr0 sx1 sx2 sx3 h) (fun w h' => Q (some (.int w)) h')) : WP S M_X11_readPart d cb sb Q 99 [.ref r0, .int x1, JK, JK] [.int sx3, .int sx2, .int sx1, .ref sr0] h := by
  obtain ⟨d, rfl, he⟩ := dp (L := 3) hd
  unfold f_X11_readPart_j99 at k
  replace k := ok_bind k
  obtain ⟨u, e_1, k⟩ := k
  refine wp_callV3 (N := M_X11_leaf) (ci := 11) mf_X11_leaf mi_X11_leaf me_X11_leaf ml_X11_343 dX11_readPart_99 (ckO_e e_1) mv_X11_leaf (by exact Nat.le_of_ble_eq_true rfl) (c_X11_leaf (Nat.le_trans (by decide) he) (ok_mono (ok_bind2 k) fun _ h_2 k => ?_))
  try dsimp only at k
  refine wp_aload_n dX11_readPart_102 rfl ?_
  replace k := ok_bind k
  obtain ⟨v_4, e_5, k⟩ := k
  refine wq_getI fl_X11_331 (Or.inr rfl) dX11_readPart_103 e_5 ?_
  refine wp_if_eq 155 dX11_readPart_106 (by decide) (fun c_6 => ?_) (fun c_6 => ?_)
  · replace k := ok_t c_6 k
    refine wp_iconst dX11_readPart_155 ic_3 ?_
    refine wp_iret rfl rfl dX11_readPart_156 ?_
    exact (ok_some k :)
  · replace k := ok_f c_6 k
    refine wp_iload_n dX11_readPart_109 rfl ?_
    refine wp_bipush dX11_readPart_110 bp_6 ?_
    refine wp_icmp_lt 155 dX11_readPart_112 (by decide) (fun c_7 => ?_) (fun c_7 => ?_)
    · replace k := ok_t c_7 k
      refine wp_iconst dX11_readPart_155 ic_3 ?_
      refine wp_iret rfl rfl dX11_readPart_156 ?_
      exact (ok_some k :)
    · replace k := ok_f c_7 k
      refine wp_aload_n dX11_readPart_115 rfl ?_
      replace k := ok_bind k
      obtain ⟨v_8, e_9, k⟩ := k
      refine wq_getI fl_X11_258 (Or.inr rfl) dX11_readPart_116 e_9 ?_
      refine wp_if_ne 155 dX11_readPart_119 (by decide) (fun c_10 => ?_) (fun c_10 => ?_)
      · replace k := ok_f c_10 k
        refine wp_iconst dX11_readPart_155 ic_3 ?_
        refine wp_iret rfl rfl dX11_readPart_156 ?_
        exact (ok_some k :)
      · replace k := ok_t c_10 k
        refine wp_aload_n dX11_readPart_122 rfl ?_
        replace k := ok_bind k
        obtain ⟨v_11, e_12, k⟩ := k
        refine wq_getI fl_X11_293 (Or.inl rfl) dX11_readPart_123 e_12 ?_
        refine wp_iconst dX11_readPart_126 ic_1 ?_
        refine wp_isub dX11_readPart_127 ?_
        replace k := ok_lt k
        refine wp_istore_n dX11_readPart_128 (by decide) (L1 := [_, _, _, _]) rfl ?_
        refine wp_aload_n dX11_readPart_129 rfl ?_
        replace k := ok_bind k
        obtain ⟨p_14, e_15, k⟩ := k
        refine wq_getR fl_X11_48 (Or.inr ⟨_, rfl⟩) dX11_readPart_130 e_15 ?_
        refine wp_iload_n dX11_readPart_133 rfl ?_
        refine wp_aload_n dX11_readPart_134 rfl ?_
        refine wp_lconst dX11_readPart_135 lc_0 ?_
        refine wp_iload_n dX11_readPart_136 rfl ?_
        refine wp_bipush dX11_readPart_137 bp_6 ?_
        refine wp_icmp_ne 148 dX11_readPart_139 (by decide) (fun c_16 => ?_) (fun c_16 => ?_)
        · replace k := ok_f c_16 k
          refine wp_ldc2 ct_X11_196 dX11_readPart_148 ?_
          replace k := ok_bind k
          obtain ⟨u, e_17, k⟩ := k
          refine wp_callV2 (N := M_X11_number) (ci := 11) mf_X11_number mi_X11_number me_X11_number ml_X11_349 dX11_readPart_151 (ckO_e e_17) mv_X11_number (by exact Nat.le_of_ble_eq_true rfl) (c_X11_number (Nat.le_trans (by decide) he) (ok_mono (ok_bind2 k) fun z_19 h_18 k => ?_))
          try dsimp only at k
          replace k := ok_bind k
          obtain ⟨h_20, e_21, k⟩ := k
          refine wq_sI dX11_readPart_154 e_21 ?_
          refine wp_iconst dX11_readPart_155 ic_3 ?_
          refine wp_iret rfl rfl dX11_readPart_156 ?_
          exact (ok_some k :)
        · replace k := ok_t c_16 k
          refine wp_ldc2 ct_X11_347 dX11_readPart_142 ?_
          refine wp_goto 151 dX11_readPart_145 (by decide) ?_
          replace k := ok_bind k
          obtain ⟨u, e_22, k⟩ := k
          refine wp_callV2 (N := M_X11_number) (ci := 11) mf_X11_number mi_X11_number me_X11_number ml_X11_349 dX11_readPart_151 (ckO_e e_22) mv_X11_number (by exact Nat.le_of_ble_eq_true rfl) (c_X11_number (Nat.le_trans (by decide) he) (ok_mono (ok_bind2 k) fun z_24 h_23 k => ?_))
          try dsimp only at k
          replace k := ok_bind k
          obtain ⟨h_25, e_26, k⟩ := k
          refine wq_sI dX11_readPart_154 e_26 ?_
          refine wp_iconst dX11_readPart_155 ic_3 ?_
          refine wp_iret rfl rfl dX11_readPart_156 ?_
          exact (ok_some k :)
def f_X11_readPart_j86 (S : SH) (r0 : Nat) (x1 : Int32) (x2 : Int32) (sr0 : Nat) (sx1 : Int32) (sx2 : Int32) (h : AH) : Option (Int32 × AH) :=
  if x2 = (0 : Int32) then
    f_X11_readPart_j99 S r0 x1 sr0 sx1 sx2 (0 : Int32) h
  else
    (gJ S h r0 11 17).bind fun w_2 =>
    f_X11_readPart_j99 S r0 x1 sr0 sx1 sx2 (Int64.toInt32 w_2) h
set_option maxHeartbeats 8000000 in
set_option maxRecDepth 20000 in
theorem s_X11_readPart_j86 {S : SH} {d cb sb : Nat} {Q : Option Value → AH → Prop} (hd : 4 ≤ d)  {r0 : Nat} {x1 : Int32} {x2 : Int32} {sr0 : Nat} {sx1 : Int32} {sx2 : Int32} {h : AH} (k : ok (f_X11_readPart_j86 S r0 x1 x2 sr0 sx1 sx2 h) (fun w h' => Q (some (.int w)) h')) : WP S M_X11_readPart d cb sb Q 86 [.ref r0, .int x1, .int x2, JK] [.int sx2, .int sx1, .ref sr0] h := by
  obtain ⟨d, rfl, he⟩ := dp (L := 3) hd
  unfold f_X11_readPart_j86 at k
  refine wp_iload_n dX11_readPart_86 rfl ?_
  refine wp_if_eq 98 dX11_readPart_87 (by decide) (fun c_1 => ?_) (fun c_1 => ?_)
  · replace k := ok_t c_1 k
    refine wp_iconst dX11_readPart_98 ic_0 ?_
    exact wp_wk (wkE <| wkE <| wkJ <| wkJ <| wkN) (s_X11_readPart_j99 (Nat.succ_le_succ he)  k)
  · replace k := ok_f c_1 k
    refine wp_aload_n dX11_readPart_90 rfl ?_
    replace k := ok_bind k
    obtain ⟨w_2, e_3, k⟩ := k
    refine wq_getJ fl_X11_268 rfl dX11_readPart_91 e_3 ?_
    refine wp_l2i dX11_readPart_94 ?_
    refine wp_goto 99 dX11_readPart_95 (by decide) ?_
    exact wp_wk (wkE <| wkE <| wkJ <| wkJ <| wkN) (s_X11_readPart_j99 (Nat.succ_le_succ he)  k)
def f_X11_readPart_j76 (S : SH) (r0 : Nat) (x1 : Int32) (x2 : Int32) (sr0 : Nat) (sx1 : Int32) (h : AH) : Option (Int32 × AH) :=
  if x1 = (-1 : Int32) then
    f_X11_readPart_j86 S r0 x1 x2 sr0 sx1 (0 : Int32) h
  else
    f_X11_readPart_j86 S r0 x1 x2 sr0 sx1 x1 h
set_option maxHeartbeats 8000000 in
set_option maxRecDepth 20000 in
theorem s_X11_readPart_j76 {S : SH} {d cb sb : Nat} {Q : Option Value → AH → Prop} (hd : 4 ≤ d)  {r0 : Nat} {x1 : Int32} {x2 : Int32} {sr0 : Nat} {sx1 : Int32} {h : AH} (k : ok (f_X11_readPart_j76 S r0 x1 x2 sr0 sx1 h) (fun w h' => Q (some (.int w)) h')) : WP S M_X11_readPart d cb sb Q 76 [.ref r0, .int x1, .int x2, JK] [.int sx1, .ref sr0] h := by
  obtain ⟨d, rfl, he⟩ := dp (L := 3) hd
  unfold f_X11_readPart_j76 at k
  refine wp_iload_n dX11_readPart_76 rfl ?_
  refine wp_iconst dX11_readPart_77 ic_m1 ?_
  refine wp_icmp_ne 85 dX11_readPart_78 (by decide) (fun c_1 => ?_) (fun c_1 => ?_)
  · replace k := ok_f c_1 k
    refine wp_iload_n dX11_readPart_85 rfl ?_
    exact wp_wk (wkE <| wkE <| wkE <| wkJ <| wkN) (s_X11_readPart_j86 (Nat.succ_le_succ he)  k)
  · replace k := ok_t c_1 k
    refine wp_iconst dX11_readPart_81 ic_0 ?_
    refine wp_goto 86 dX11_readPart_82 (by decide) ?_
    exact wp_wk (wkE <| wkE <| wkE <| wkJ <| wkN) (s_X11_readPart_j86 (Nat.succ_le_succ he)  k)
def f_X11_readPart_j71 (S : SH) (r0 : Nat) (x1 : Int32) (x2 : Int32) (sr0 : Nat) (h : AH) : Option (Int32 × AH) :=
  f_X11_readPart_j76 S r0 x1 x2 sr0 (1 : Int32) h
set_option maxHeartbeats 8000000 in
set_option maxRecDepth 20000 in
theorem s_X11_readPart_j71 {S : SH} {d cb sb : Nat} {Q : Option Value → AH → Prop} (hd : 4 ≤ d)  {r0 : Nat} {x1 : Int32} {x2 : Int32} {sr0 : Nat} {h : AH} (k : ok (f_X11_readPart_j71 S r0 x1 x2 sr0 h) (fun w h' => Q (some (.int w)) h')) : WP S M_X11_readPart d cb sb Q 71 [.ref r0, .int x1, .int x2, JK] [.ref sr0] h := by
  obtain ⟨d, rfl, he⟩ := dp (L := 3) hd
  unfold f_X11_readPart_j71 at k
  refine wp_iconst dX11_readPart_71 ic_1 ?_
  refine wp_goto 76 dX11_readPart_72 (by decide) ?_
  exact wp_wk (wkE <| wkE <| wkE <| wkJ <| wkN) (s_X11_readPart_j76 (Nat.succ_le_succ he)  k)
def f_X11_readPart_j60 (S : SH) (r0 : Nat) (x1 : Int32) (sx0 : Int32) (h : AH) : Option (Int32 × AH) :=
  if x1 = (-1 : Int32) then
    if sx0 = (0 : Int32) then
      f_X11_readPart_j76 S r0 x1 sx0 r0 (0 : Int32) h
    else
      f_X11_readPart_j71 S r0 x1 sx0 r0 h
  else
    f_X11_readPart_j71 S r0 x1 sx0 r0 h
set_option maxHeartbeats 8000000 in
set_option maxRecDepth 20000 in
theorem s_X11_readPart_j60 {S : SH} {d cb sb : Nat} {Q : Option Value → AH → Prop} (hd : 4 ≤ d)  {r0 : Nat} {x1 : Int32} {sx0 : Int32} {h : AH} (k : ok (f_X11_readPart_j60 S r0 x1 sx0 h) (fun w h' => Q (some (.int w)) h')) : WP S M_X11_readPart d cb sb Q 60 [.ref r0, .int x1, JK, JK] [.int sx0] h := by
  obtain ⟨d, rfl, he⟩ := dp (L := 3) hd
  unfold f_X11_readPart_j60 at k
  refine wp_istore_n dX11_readPart_60 (by decide) (L1 := [_, _, _, _]) rfl ?_
  refine wp_aload_n dX11_readPart_61 rfl ?_
  refine wp_iload_n dX11_readPart_62 rfl ?_
  refine wp_iconst dX11_readPart_63 ic_m1 ?_
  refine wp_icmp_ne 71 dX11_readPart_64 (by decide) (fun c_1 => ?_) (fun c_1 => ?_)
  · replace k := ok_f c_1 k
    exact wp_wk (wkE <| wkE <| wkE <| wkJ <| wkN) (s_X11_readPart_j71 (Nat.succ_le_succ he)  k)
  · replace k := ok_t c_1 k
    refine wp_iload_n dX11_readPart_67 rfl ?_
    refine wp_if_eq 75 dX11_readPart_68 (by decide) (fun c_2 => ?_) (fun c_2 => ?_)
    · replace k := ok_t c_2 k
      refine wp_iconst dX11_readPart_75 ic_0 ?_
      exact wp_wk (wkE <| wkE <| wkE <| wkJ <| wkN) (s_X11_readPart_j76 (Nat.succ_le_succ he)  k)
    · replace k := ok_f c_2 k
      exact wp_wk (wkE <| wkE <| wkE <| wkJ <| wkN) (s_X11_readPart_j71 (Nat.succ_le_succ he)  k)
def f_X11_readPart_j59 (S : SH) (r0 : Nat) (x1 : Int32) (h : AH) : Option (Int32 × AH) :=
  f_X11_readPart_j60 S r0 x1 (0 : Int32) h
set_option maxHeartbeats 8000000 in
set_option maxRecDepth 20000 in
theorem s_X11_readPart_j59 {S : SH} {d cb sb : Nat} {Q : Option Value → AH → Prop} (hd : 4 ≤ d)  {r0 : Nat} {x1 : Int32} {h : AH} (k : ok (f_X11_readPart_j59 S r0 x1 h) (fun w h' => Q (some (.int w)) h')) : WP S M_X11_readPart d cb sb Q 59 [.ref r0, .int x1, JK, JK] [] h := by
  obtain ⟨d, rfl, he⟩ := dp (L := 3) hd
  unfold f_X11_readPart_j59 at k
  refine wp_iconst dX11_readPart_59 ic_0 ?_
  exact wp_wk (wkE <| wkE <| wkJ <| wkJ <| wkN) (s_X11_readPart_j60 (Nat.succ_le_succ he)  k)
def f_X11_readPart_j35 (S : SH) (r0 : Nat) (sx0 : Int32) (h : AH) : Option (Int32 × AH) :=
  (gI S h r0 11 16).bind fun v_1 =>
  if v_1 = (2 : Int32) then
    (gJ S h r0 11 17).bind fun w_4 =>
    if (0 : Int32) < (lg_cmp w_4 (1000 : Int64)) then
      f_X11_readPart_j59 S r0 sx0 h
    else
      f_X11_readPart_j60 S r0 sx0 (1 : Int32) h
  else
    f_X11_readPart_j59 S r0 sx0 h
set_option maxHeartbeats 8000000 in
set_option maxRecDepth 20000 in
theorem s_X11_readPart_j35 {S : SH} {d cb sb : Nat} {Q : Option Value → AH → Prop} (hd : 4 ≤ d)  {r0 : Nat} {sx0 : Int32} {h : AH} (k : ok (f_X11_readPart_j35 S r0 sx0 h) (fun w h' => Q (some (.int w)) h')) : WP S M_X11_readPart d cb sb Q 35 [.ref r0, JK, JK, JK] [.int sx0] h := by
  obtain ⟨d, rfl, he⟩ := dp (L := 3) hd
  unfold f_X11_readPart_j35 at k
  refine wp_istore_n dX11_readPart_35 (by decide) (L1 := [_, _, _, _]) rfl ?_
  refine wp_aload_n dX11_readPart_36 rfl ?_
  replace k := ok_bind k
  obtain ⟨v_1, e_2, k⟩ := k
  refine wq_getI fl_X11_278 (Or.inl rfl) dX11_readPart_37 e_2 ?_
  refine wp_iconst dX11_readPart_40 ic_2 ?_
  refine wp_icmp_ne 59 dX11_readPart_41 (by decide) (fun c_3 => ?_) (fun c_3 => ?_)
  · replace k := ok_f c_3 k
    exact wp_wk (wkE <| wkE <| wkJ <| wkJ <| wkN) (s_X11_readPart_j59 (Nat.succ_le_succ he)  k)
  · replace k := ok_t c_3 k
    refine wp_aload_n dX11_readPart_44 rfl ?_
    replace k := ok_bind k
    obtain ⟨w_4, e_5, k⟩ := k
    refine wq_getJ fl_X11_268 rfl dX11_readPart_45 e_5 ?_
    refine wp_ldc2 ct_X11_341 dX11_readPart_48 ?_
    refine wp_lcmp dX11_readPart_51 ?_
    refine wp_if_gt 59 dX11_readPart_52 (by decide) (fun c_6 => ?_) (fun c_6 => ?_)
    · replace k := ok_t c_6 k
      exact wp_wk (wkE <| wkE <| wkJ <| wkJ <| wkN) (s_X11_readPart_j59 (Nat.succ_le_succ he)  k)
    · replace k := ok_f c_6 k
      refine wp_iconst dX11_readPart_55 ic_1 ?_
      refine wp_goto 60 dX11_readPart_56 (by decide) ?_
      exact wp_wk (wkE <| wkE <| wkJ <| wkJ <| wkN) (s_X11_readPart_j60 (Nat.succ_le_succ he)  k)
def f_X11_readPart (S : SH) (r0 : Nat) (h : AH) : Option (Int32 × AH) :=
  (ckO S h r0 11).bind fun _ =>
  (f_X11_isSign S r0 (91 : Int32) h).bind fun z => match z with
  | (z_3, h_2) =>
  if z_3 = (0 : Int32) then
    (gI S h_2 r0 11 20).bind fun v_5 =>
    if v_5 = (0 : Int32) then
      (ckO S h_2 r0 11).bind fun _ =>
      (f_X11_partAt S r0 h_2).bind fun z => match z with
      | (z_10, h_9) =>
      f_X11_readPart_j35 S r0 z_10 h_9
    else
      (ckO S h_2 r0 11).bind fun _ =>
      (f_X11_orderPartAt S r0 h_2).bind fun z => match z with
      | (z_13, h_12) =>
      f_X11_readPart_j35 S r0 z_13 h_12
  else
    (ckO S h_2 r0 11).bind fun _ =>
    (f_X11_openBracket S r0 (32 : Int32) h_2).bind fun z => match z with
    | (_, h_15) =>
    some ((1 : Int32), h_15)
set_option maxHeartbeats 8000000 in
set_option maxRecDepth 20000 in
theorem s_X11_readPart {S : SH} {d cb sb : Nat} {Q : Option Value → AH → Prop} (hd : 4 ≤ d)  {r0 : Nat} {h : AH} (k : ok (f_X11_readPart S r0 h) (fun w h' => Q (some (.int w)) h')) : WP S M_X11_readPart d cb sb Q 0 [.ref r0, JK, JK, JK] [] h := by
  obtain ⟨d, rfl, he⟩ := dp (L := 3) hd
  unfold f_X11_readPart at k
  refine wp_aload_n dX11_readPart_0 rfl ?_
  refine wp_bipush dX11_readPart_1 bp_91 ?_
  replace k := ok_bind k
  obtain ⟨u, e_1, k⟩ := k
  refine wp_callV1 (N := M_X11_isSign) (ci := 11) mf_X11_isSign mi_X11_isSign me_X11_isSign ml_X11_325 dX11_readPart_3 (ckO_e e_1) mv_X11_isSign (by exact Nat.le_of_ble_eq_true rfl) (c_X11_isSign (Nat.le_trans (by decide) he) (ok_mono (ok_bind2 k) fun z_3 h_2 k => ?_))
  try dsimp only at k
  refine wp_if_eq 17 dX11_readPart_6 (by decide) (fun c_4 => ?_) (fun c_4 => ?_)
  · replace k := ok_t c_4 k
    refine wp_aload_n dX11_readPart_17 rfl ?_
    replace k := ok_bind k
    obtain ⟨v_5, e_6, k⟩ := k
    refine wq_getI fl_X11_331 (Or.inr rfl) dX11_readPart_18 e_6 ?_
    refine wp_if_eq 31 dX11_readPart_21 (by decide) (fun c_7 => ?_) (fun c_7 => ?_)
    · replace k := ok_t c_7 k
      refine wp_aload_n dX11_readPart_31 rfl ?_
      replace k := ok_bind k
      obtain ⟨u, e_8, k⟩ := k
      refine wp_callV0 (N := M_X11_partAt) (ci := 11) mf_X11_partAt mi_X11_partAt me_X11_partAt ml_X11_338 dX11_readPart_32 (ckO_e e_8) mv_X11_partAt (by exact Nat.le_of_ble_eq_true rfl) (c_X11_partAt (Nat.le_trans (by decide) he) (ok_mono (ok_bind2 k) fun z_10 h_9 k => ?_))
      try dsimp only at k
      exact wp_wk (wkE <| wkJ <| wkJ <| wkJ <| wkN) (s_X11_readPart_j35 (Nat.succ_le_succ he)  k)
    · replace k := ok_f c_7 k
      refine wp_aload_n dX11_readPart_24 rfl ?_
      replace k := ok_bind k
      obtain ⟨u, e_11, k⟩ := k
      refine wp_callV0 (N := M_X11_orderPartAt) (ci := 11) mf_X11_orderPartAt mi_X11_orderPartAt me_X11_orderPartAt ml_X11_334 dX11_readPart_25 (ckO_e e_11) mv_X11_orderPartAt (by exact Nat.le_of_ble_eq_true rfl) (c_X11_orderPartAt (Nat.le_trans (by decide) he) (ok_mono (ok_bind2 k) fun z_13 h_12 k => ?_))
      try dsimp only at k
      refine wp_goto 35 dX11_readPart_28 (by decide) ?_
      exact wp_wk (wkE <| wkJ <| wkJ <| wkJ <| wkN) (s_X11_readPart_j35 (Nat.succ_le_succ he)  k)
  · replace k := ok_f c_4 k
    refine wp_aload_n dX11_readPart_9 rfl ?_
    refine wp_bipush dX11_readPart_10 bp_32 ?_
    replace k := ok_bind k
    obtain ⟨u, e_14, k⟩ := k
    refine wp_callV1 (N := M_X11_openBracket) (ci := 11) mf_X11_openBracket mi_X11_openBracket me_X11_openBracket ml_X11_328 dX11_readPart_12 (ckO_e e_14) mv_X11_openBracket (by exact Nat.le_of_ble_eq_true rfl) (c_X11_openBracket (Nat.le_trans (by decide) he) (ok_mono (ok_bind2 k) fun _ h_15 k => ?_))
    try dsimp only at k
    refine wp_iconst dX11_readPart_15 ic_1 ?_
    refine wp_iret rfl rfl dX11_readPart_16 ?_
    exact (ok_some k :)
theorem c_X11_readPart {S : SH} {d : Nat} {K : Option Value → AH → Prop} (hd : 4 ≤ d)  {r0 : Nat} {h : AH} (k : ok (f_X11_readPart S r0 h) (fun w h' => K (some (.int w)) h')) : CP S M_X11_readPart d 0 0 [.ref r0] h K := cp_of (by decide) (fun _ _ => trivial) (fun _ => Nat.le_of_ble_eq_true rfl) (s_X11_readPart hd  k)

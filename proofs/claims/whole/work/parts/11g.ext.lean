def f_X10_status (S : SH) (r0 : Nat) (h : AH) : Option (Int32 × AH) :=
  (gI S h r0 10 14).bind fun v_1 =>
  some (v_1, h)
set_option maxHeartbeats 8000000 in
set_option maxRecDepth 20000 in
theorem s_X10_status {S : SH} {d cb sb : Nat} {Q : Option Value → AH → Prop} (hd : 0 ≤ d)  {r0 : Nat} {h : AH} (k : ok (f_X10_status S r0 h) (fun w h' => Q (some (.int w)) h')) : WP S M_X10_status d cb sb Q 0 [.ref r0] [] h := by
  unfold f_X10_status at k
  refine wp_aload_n dX10_status_0 rfl ?_
  replace k := ok_bind k
  obtain ⟨v_1, e_2, k⟩ := k
  refine wq_getI fl_X10_410 (Or.inl rfl) dX10_status_1 e_2 ?_
  refine wp_iret rfl rfl dX10_status_4 ?_
  exact (ok_some k :)
theorem c_X10_status {S : SH} {d : Nat} {K : Option Value → AH → Prop} (hd : 0 ≤ d)  {r0 : Nat} {h : AH} (k : ok (f_X10_status S r0 h) (fun w h' => K (some (.int w)) h')) : CP S M_X10_status d 0 0 [.ref r0] h K := cp_of (by decide) (fun _ _ => trivial) (fun _ => Nat.le_of_ble_eq_true rfl) (s_X10_status hd  k)
def f_X11_in (S : SH) (l0 : Int64) (l2 : Int64) (l4 : Int64) (h : AH) : Option (Int32 × AH) :=
  if (lg_cmp l0 l2) < (0 : Int32) then
    some ((0 : Int32), h)
  else
    if (0 : Int32) < (lg_cmp l0 l4) then
      some ((0 : Int32), h)
    else
      some ((1 : Int32), h)
set_option maxHeartbeats 8000000 in
set_option maxRecDepth 20000 in
theorem s_X11_in {S : SH} {d cb sb : Nat} {Q : Option Value → AH → Prop} (hd : 0 ≤ d)  {l0 : Int64} {l2 : Int64} {l4 : Int64} {h : AH} (k : ok (f_X11_in S l0 l2 l4 h) (fun w h' => Q (some (.int w)) h')) : WP S M_X11_in d cb sb Q 0 [.long l0, JK, .long l2, JK, .long l4, JK] [] h := by
  unfold f_X11_in at k
  refine wp_lload_n dX11_in_0 rfl ?_
  refine wp_lload_n dX11_in_1 rfl ?_
  refine wp_lcmp dX11_in_2 ?_
  refine wp_if_lt 17 dX11_in_3 (by decide) (fun c_1 => ?_) (fun c_1 => ?_)
  · replace k := ok_t c_1 k
    refine wp_iconst dX11_in_17 ic_0 ?_
    refine wp_iret rfl rfl dX11_in_18 ?_
    exact (ok_some k :)
  · replace k := ok_f c_1 k
    refine wp_lload_n dX11_in_6 rfl ?_
    refine wp_lload dX11_in_7 rfl ?_
    refine wp_lcmp dX11_in_9 ?_
    refine wp_if_gt 17 dX11_in_10 (by decide) (fun c_2 => ?_) (fun c_2 => ?_)
    · replace k := ok_t c_2 k
      refine wp_iconst dX11_in_17 ic_0 ?_
      refine wp_iret rfl rfl dX11_in_18 ?_
      exact (ok_some k :)
    · replace k := ok_f c_2 k
      refine wp_iconst dX11_in_13 ic_1 ?_
      refine wp_goto 18 dX11_in_14 (by decide) ?_
      refine wp_iret rfl rfl dX11_in_18 ?_
      exact (ok_some k :)
theorem c_X11_in {S : SH} {d : Nat} {K : Option Value → AH → Prop} (hd : 0 ≤ d)  {l0 : Int64} {l2 : Int64} {l4 : Int64} {h : AH} (k : ok (f_X11_in S l0 l2 l4 h) (fun w h' => K (some (.int w)) h')) : CP S M_X11_in d 0 0 [.long l0, .long l2, .long l4] h K := cp_of (by decide) (fun _ _ => trivial) (fun _ => Nat.le_of_ble_eq_true rfl) (s_X11_in hd  k)
def f_X11_is (S : SH) (x0 : Int32) (x1 : Int32) (h : AH) : Option (Int32 × AH) :=
  if ((x0 >>> (x1 &&& (31 : Int32))) &&& (1 : Int32)) = (1 : Int32) then
    some ((1 : Int32), h)
  else
    some ((0 : Int32), h)
set_option maxHeartbeats 8000000 in
set_option maxRecDepth 20000 in
theorem s_X11_is {S : SH} {d cb sb : Nat} {Q : Option Value → AH → Prop} (hd : 0 ≤ d)  {x0 : Int32} {x1 : Int32} {h : AH} (k : ok (f_X11_is S x0 x1 h) (fun w h' => Q (some (.int w)) h')) : WP S M_X11_is d cb sb Q 0 [.int x0, .int x1] [] h := by
  unfold f_X11_is at k
  refine wp_iload_n dX11_is_0 rfl ?_
  refine wp_iload_n dX11_is_1 rfl ?_
  refine wp_ishr dX11_is_2 ?_
  refine wp_iconst dX11_is_3 ic_1 ?_
  refine wp_iand dX11_is_4 ?_
  refine wp_iconst dX11_is_5 ic_1 ?_
  refine wp_icmp_ne 13 dX11_is_6 (by decide) (fun c_1 => ?_) (fun c_1 => ?_)
  · replace k := ok_f c_1 k
    refine wp_iconst dX11_is_13 ic_0 ?_
    refine wp_iret rfl rfl dX11_is_14 ?_
    exact (ok_some k :)
  · replace k := ok_t c_1 k
    refine wp_iconst dX11_is_9 ic_1 ?_
    refine wp_goto 14 dX11_is_10 (by decide) ?_
    refine wp_iret rfl rfl dX11_is_14 ?_
    exact (ok_some k :)
theorem c_X11_is {S : SH} {d : Nat} {K : Option Value → AH → Prop} (hd : 0 ≤ d)  {x0 : Int32} {x1 : Int32} {h : AH} (k : ok (f_X11_is S x0 x1 h) (fun w h' => K (some (.int w)) h')) : CP S M_X11_is d 0 0 [.int x0, .int x1] h K := cp_of (by decide) (fun _ _ => trivial) (fun _ => Nat.le_of_ble_eq_true rfl) (s_X11_is hd  k)
def f_X11_ones_l4b (S : SH) (rc : Int32 → Int32 → Int32 → AH → Option (Int32 × AH)) (x0 : Int32) (x1 : Int32) (x2 : Int32) (h : AH) : Option (Int32 × AH) :=
  if (7 : Int32) ≤ x2 then
    some (x1, h)
  else
    lt ((x1 + ((x0 >>> (x2 &&& (31 : Int32))) &&& (1 : Int32)))) fun y_2 =>
    lt (x2 + (1 : Int32)) fun y_3 =>
    rc x0 y_2 y_3 h
set_option maxHeartbeats 8000000 in
set_option maxRecDepth 20000 in
theorem s_X11_ones_l4b {S : SH} {d cb sb : Nat} {Q : Option Value → AH → Prop} (hd : 0 ≤ d) {K : Int32 → AH → Prop} (hex : ∀ (x1 : Int32) (h' : AH), K x1 h' → WP S M_X11_ones d cb sb Q 24 [JK, .int x1, JK] [] h') {rc : Int32 → Int32 → Int32 → AH → Option (Int32 × AH)} (hrec : ∀ (x0 : Int32) (x1 : Int32) (x2 : Int32) (h' : AH), ok (rc x0 x1 x2 h') K → WP S M_X11_ones d cb sb Q 4 [.int x0, .int x1, .int x2] [] h') {x0 : Int32} {x1 : Int32} {x2 : Int32} {h : AH} (k : ok (f_X11_ones_l4b S rc x0 x1 x2 h) K) : WP S M_X11_ones d cb sb Q 4 [.int x0, .int x1, .int x2] [] h := by
  unfold f_X11_ones_l4b at k
  refine wp_iload_n dX11_ones_4 rfl ?_
  refine wp_bipush dX11_ones_5 bp_7 ?_
  refine wp_icmp_ge 24 dX11_ones_7 (by decide) (fun c_1 => ?_) (fun c_1 => ?_)
  · replace k := ok_t c_1 k
    exact wp_wk (wkJ <| wkE <| wkJ <| wkN) (hex _ _ (ok_some k))
  · replace k := ok_f c_1 k
    refine wp_iload_n dX11_ones_10 rfl ?_
    refine wp_iload_n dX11_ones_11 rfl ?_
    refine wp_iload_n dX11_ones_12 rfl ?_
    refine wp_ishr dX11_ones_13 ?_
    refine wp_iconst dX11_ones_14 ic_1 ?_
    refine wp_iand dX11_ones_15 ?_
    refine wp_iadd dX11_ones_16 ?_
    replace k := ok_lt k
    refine wp_istore_n dX11_ones_17 (by decide) (L1 := [_, _, _]) rfl ?_
    replace k := ok_lt k
    refine wp_iinc dX11_ones_18 rfl ic_1 (by decide) (L1 := [_, _, _]) rfl ?_
    refine wp_goto 4 dX11_ones_21 (by decide) ?_
    exact wp_wk (wkE <| wkE <| wkE <| wkN) (hrec _ _ _ _ k)
def f_X11_ones_l4 (S : SH) : Nat → Int32 → Int32 → Int32 → AH → Option (Int32 × AH)
  | 0, _, _, _, _ => none
  | n + 1, x0, x1, x2, h => f_X11_ones_l4b S (f_X11_ones_l4 S n) x0 x1 x2 h
theorem s_X11_ones_l4 {S : SH} {d cb sb : Nat} {Q : Option Value → AH → Prop} (hd : 0 ≤ d) {K : Int32 → AH → Prop} (hex : ∀ (x1 : Int32) (h' : AH), K x1 h' → WP S M_X11_ones d cb sb Q 24 [JK, .int x1, JK] [] h') : ∀ (n : Nat) (x0 : Int32) (x1 : Int32) (x2 : Int32) (h : AH), ok (f_X11_ones_l4 S n x0 x1 x2 h) K → WP S M_X11_ones d cb sb Q 4 [.int x0, .int x1, .int x2] [] h := by
  intro n
  induction n with
  | zero => intro x0 x1 x2 h k; exact ok_none k
  | succ n ih => intro x0 x1 x2 h k; exact s_X11_ones_l4b hd hex (fun x0 x1 x2 h k => ih x0 x1 x2 h k) k
def f_X11_ones (S : SH) (x0 : Int32) (h : AH) : Option (Int32 × AH) :=
  (f_X11_ones_l4 S FU x0 (0 : Int32) (0 : Int32) h).bind fun z => match z with
  | (x1_2, h_1) =>
  some (x1_2, h_1)
set_option maxHeartbeats 8000000 in
set_option maxRecDepth 20000 in
theorem s_X11_ones {S : SH} {d cb sb : Nat} {Q : Option Value → AH → Prop} (hd : 0 ≤ d)  {x0 : Int32} {h : AH} (k : ok (f_X11_ones S x0 h) (fun w h' => Q (some (.int w)) h')) : WP S M_X11_ones d cb sb Q 0 [.int x0, JK, JK] [] h := by
  unfold f_X11_ones at k
  refine wp_iconst dX11_ones_0 ic_0 ?_
  refine wp_istore_n dX11_ones_1 (by decide) (L1 := [_, _, _]) rfl ?_
  refine wp_iconst dX11_ones_2 ic_0 ?_
  refine wp_istore_n dX11_ones_3 (by decide) (L1 := [_, _, _]) rfl ?_
  refine wp_wk (wkE <| wkE <| wkE <| wkN) ?_
  refine s_X11_ones_l4 hd (fun x1_2 h_1 k => ?_) FU _ _ _ _ (ok_bind2 k)
  try dsimp only at k
  refine wp_iload_n dX11_ones_24 rfl ?_
  refine wp_iret rfl rfl dX11_ones_25 ?_
  exact (ok_some k :)
theorem c_X11_ones {S : SH} {d : Nat} {K : Option Value → AH → Prop} (hd : 0 ≤ d)  {x0 : Int32} {h : AH} (k : ok (f_X11_ones S x0 h) (fun w h' => K (some (.int w)) h')) : CP S M_X11_ones d 0 0 [.int x0] h K := cp_of (by decide) (fun _ _ => trivial) (fun _ => Nat.le_of_ble_eq_true rfl) (s_X11_ones hd  k)
def f_X11_bounded (S : SH) (l0 : Int64) (x2 : Int32) (x3 : Int32) (h : AH) : Option (Int32 × AH) :=
  if (0 : Int32) ≤ (lg_cmp l0 (Int32.toInt64 x2)) then
    if (lg_cmp l0 (Int32.toInt64 x3)) ≤ (0 : Int32) then
      some ((Int64.toInt32 l0), h)
    else
      some (x3, h)
  else
    some (x2, h)
set_option maxHeartbeats 8000000 in
set_option maxRecDepth 20000 in
theorem s_X11_bounded {S : SH} {d cb sb : Nat} {Q : Option Value → AH → Prop} (hd : 0 ≤ d)  {l0 : Int64} {x2 : Int32} {x3 : Int32} {h : AH} (k : ok (f_X11_bounded S l0 x2 x3 h) (fun w h' => Q (some (.int w)) h')) : WP S M_X11_bounded d cb sb Q 0 [.long l0, JK, .int x2, .int x3] [] h := by
  unfold f_X11_bounded at k
  refine wp_lload_n dX11_bounded_0 rfl ?_
  refine wp_iload_n dX11_bounded_1 rfl ?_
  refine wp_i2l dX11_bounded_2 ?_
  refine wp_lcmp dX11_bounded_3 ?_
  refine wp_if_ge 11 dX11_bounded_4 (by decide) (fun c_1 => ?_) (fun c_1 => ?_)
  · replace k := ok_t c_1 k
    refine wp_lload_n dX11_bounded_11 rfl ?_
    refine wp_iload_n dX11_bounded_12 rfl ?_
    refine wp_i2l dX11_bounded_13 ?_
    refine wp_lcmp dX11_bounded_14 ?_
    refine wp_if_le 22 dX11_bounded_15 (by decide) (fun c_2 => ?_) (fun c_2 => ?_)
    · replace k := ok_t c_2 k
      refine wp_lload_n dX11_bounded_22 rfl ?_
      refine wp_l2i dX11_bounded_23 ?_
      refine wp_iret rfl rfl dX11_bounded_24 ?_
      exact (ok_some k :)
    · replace k := ok_f c_2 k
      refine wp_iload_n dX11_bounded_18 rfl ?_
      refine wp_goto 24 dX11_bounded_19 (by decide) ?_
      refine wp_iret rfl rfl dX11_bounded_24 ?_
      exact (ok_some k :)
  · replace k := ok_f c_1 k
    refine wp_iload_n dX11_bounded_7 rfl ?_
    refine wp_goto 24 dX11_bounded_8 (by decide) ?_
    refine wp_iret rfl rfl dX11_bounded_24 ?_
    exact (ok_some k :)
theorem c_X11_bounded {S : SH} {d : Nat} {K : Option Value → AH → Prop} (hd : 0 ≤ d)  {l0 : Int64} {x2 : Int32} {x3 : Int32} {h : AH} (k : ok (f_X11_bounded S l0 x2 x3 h) (fun w h' => K (some (.int w)) h')) : CP S M_X11_bounded d 0 0 [.long l0, .int x2, .int x3] h K := cp_of (by decide) (fun _ _ => trivial) (fun _ => Nat.le_of_ble_eq_true rfl) (s_X11_bounded hd  k)
def f_X11_tell_j10 (S : SH) (r0 : Nat) (x1 : Int32) (sr0 : Nat) (sx1 : Int32) (h : AH) : Option (Int32 × AH) :=
  (pI S h sr0 11 1 sx1).bind fun h_1 =>
  if (0 : Int32) ≤ x1 then
    some (x1, h_1)
  else
    (gR S h_1 r0 11 2).bind fun p_4 =>
    (aI S h_1 p_4 (-x1)).bind fun v_6 =>
    (sI S h_1 p_4 (-x1) (v_6 + (1 : Int32))).bind fun h_8 =>
    some (x1, h_8)
set_option maxHeartbeats 8000000 in
set_option maxRecDepth 20000 in
theorem s_X11_tell_j10 {S : SH} {d cb sb : Nat} {Q : Option Value → AH → Prop} (hd : 0 ≤ d)  {r0 : Nat} {x1 : Int32} {sr0 : Nat} {sx1 : Int32} {h : AH} (k : ok (f_X11_tell_j10 S r0 x1 sr0 sx1 h) (fun w h' => Q (some (.int w)) h')) : WP S M_X11_tell d cb sb Q 10 [.ref r0, .int x1] [.int sx1, .ref sr0] h := by
  unfold f_X11_tell_j10 at k
  replace k := ok_bind k
  obtain ⟨h_1, e_2, k⟩ := k
  refine wq_putI fl_X11_155 rfl rfl dX11_tell_10 e_2 ?_
  refine wp_iload_n dX11_tell_13 rfl ?_
  refine wp_if_ge 28 dX11_tell_14 (by decide) (fun c_3 => ?_) (fun c_3 => ?_)
  · replace k := ok_t c_3 k
    refine wp_iload_n dX11_tell_28 rfl ?_
    refine wp_iret rfl rfl dX11_tell_29 ?_
    exact (ok_some k :)
  · replace k := ok_f c_3 k
    refine wp_aload_n dX11_tell_17 rfl ?_
    replace k := ok_bind k
    obtain ⟨p_4, e_5, k⟩ := k
    refine wq_getR fl_X11_7 (Or.inr ⟨_, rfl⟩) dX11_tell_18 e_5 ?_
    refine wp_iload_n dX11_tell_21 rfl ?_
    refine wp_ineg dX11_tell_22 ?_
    refine wp_dup2 dX11_tell_23 ?_
    replace k := ok_bind k
    obtain ⟨v_6, e_7, k⟩ := k
    refine wq_aI dX11_tell_24 e_7 ?_
    refine wp_iconst dX11_tell_25 ic_1 ?_
    refine wp_iadd dX11_tell_26 ?_
    replace k := ok_bind k
    obtain ⟨h_8, e_9, k⟩ := k
    refine wq_sI dX11_tell_27 e_9 ?_
    refine wp_iload_n dX11_tell_28 rfl ?_
    refine wp_iret rfl rfl dX11_tell_29 ?_
    exact (ok_some k :)
def f_X11_tell (S : SH) (r0 : Nat) (x1 : Int32) (h : AH) : Option (Int32 × AH) :=
  if (0 : Int32) ≤ x1 then
    f_X11_tell_j10 S r0 x1 r0 (0 : Int32) h
  else
    f_X11_tell_j10 S r0 x1 r0 x1 h
set_option maxHeartbeats 8000000 in
set_option maxRecDepth 20000 in
theorem s_X11_tell {S : SH} {d cb sb : Nat} {Q : Option Value → AH → Prop} (hd : 0 ≤ d)  {r0 : Nat} {x1 : Int32} {h : AH} (k : ok (f_X11_tell S r0 x1 h) (fun w h' => Q (some (.int w)) h')) : WP S M_X11_tell d cb sb Q 0 [.ref r0, .int x1] [] h := by
  unfold f_X11_tell at k
  refine wp_aload_n dX11_tell_0 rfl ?_
  refine wp_iload_n dX11_tell_1 rfl ?_
  refine wp_if_ge 9 dX11_tell_2 (by decide) (fun c_1 => ?_) (fun c_1 => ?_)
  · replace k := ok_t c_1 k
    refine wp_iconst dX11_tell_9 ic_0 ?_
    exact wp_wk (wkE <| wkE <| wkN) (s_X11_tell_j10 hd  k)
  · replace k := ok_f c_1 k
    refine wp_iload_n dX11_tell_5 rfl ?_
    refine wp_goto 10 dX11_tell_6 (by decide) ?_
    exact wp_wk (wkE <| wkE <| wkN) (s_X11_tell_j10 hd  k)
theorem c_X11_tell {S : SH} {d : Nat} {K : Option Value → AH → Prop} (hd : 0 ≤ d)  {r0 : Nat} {x1 : Int32} {h : AH} (k : ok (f_X11_tell S r0 x1 h) (fun w h' => K (some (.int w)) h')) : CP S M_X11_tell d 0 0 [.ref r0, .int x1] h K := cp_of (by decide) (fun _ _ => trivial) (fun _ => Nat.le_of_ble_eq_true rfl) (s_X11_tell hd  k)
def f_X11_change (S : SH) (r0 : Nat) (x1 : Int32) (x2 : Int32) (h : AH) : Option (Int32 × AH) :=
  (gR S h r0 11 3).bind fun p_1 =>
  (aI S h p_1 x1).bind fun v_3 =>
  (gR S h r0 11 3).bind fun p_5 =>
  (sI S h p_5 x1 x2).bind fun h_7 =>
  (pI S h_7 r0 11 1 (0 : Int32)).bind fun h_9 =>
  some (v_3, h_9)
set_option maxHeartbeats 8000000 in
set_option maxRecDepth 20000 in
theorem s_X11_change {S : SH} {d cb sb : Nat} {Q : Option Value → AH → Prop} (hd : 0 ≤ d)  {r0 : Nat} {x1 : Int32} {x2 : Int32} {h : AH} (k : ok (f_X11_change S r0 x1 x2 h) (fun w h' => Q (some (.int w)) h')) : WP S M_X11_change d cb sb Q 0 [.ref r0, .int x1, .int x2, JK] [] h := by
  unfold f_X11_change at k
  refine wp_aload_n dX11_change_0 rfl ?_
  replace k := ok_bind k
  obtain ⟨p_1, e_2, k⟩ := k
  refine wq_getR fl_X11_13 (Or.inr ⟨_, rfl⟩) dX11_change_1 e_2 ?_
  refine wp_iload_n dX11_change_4 rfl ?_
  replace k := ok_bind k
  obtain ⟨v_3, e_4, k⟩ := k
  refine wq_aI dX11_change_5 e_4 ?_
  refine wp_istore_n dX11_change_6 (by decide) (L1 := [_, _, _, _]) rfl ?_
  refine wp_aload_n dX11_change_7 rfl ?_
  replace k := ok_bind k
  obtain ⟨p_5, e_6, k⟩ := k
  refine wq_getR fl_X11_13 (Or.inr ⟨_, rfl⟩) dX11_change_8 e_6 ?_
  refine wp_iload_n dX11_change_11 rfl ?_
  refine wp_iload_n dX11_change_12 rfl ?_
  replace k := ok_bind k
  obtain ⟨h_7, e_8, k⟩ := k
  refine wq_sI dX11_change_13 e_8 ?_
  refine wp_aload_n dX11_change_14 rfl ?_
  refine wp_iconst dX11_change_15 ic_0 ?_
  replace k := ok_bind k
  obtain ⟨h_9, e_10, k⟩ := k
  refine wq_putI fl_X11_155 rfl rfl dX11_change_16 e_10 ?_
  refine wp_iload_n dX11_change_19 rfl ?_
  refine wp_iret rfl rfl dX11_change_20 ?_
  exact (ok_some k :)
theorem c_X11_change {S : SH} {d : Nat} {K : Option Value → AH → Prop} (hd : 0 ≤ d)  {r0 : Nat} {x1 : Int32} {x2 : Int32} {h : AH} (k : ok (f_X11_change S r0 x1 x2 h) (fun w h' => K (some (.int w)) h')) : CP S M_X11_change d 0 0 [.ref r0, .int x1, .int x2] h K := cp_of (by decide) (fun _ _ => trivial) (fun _ => Nat.le_of_ble_eq_true rfl) (s_X11_change hd  k)
def f_X11_lasting (S : SH) (r0 : Nat) (x1 : Int32) (h : AH) : Option (Int32 × AH) :=
  if (0 : Int32) ≤ x1 then
    (pI S h r0 11 8 (0 : Int32)).bind fun h_2 =>
    (ckO S h_2 r0 11).bind fun _ =>
    (f_X11_tell S r0 x1 h_2).bind fun z => match z with
    | (z_6, h_5) =>
    some (z_6, h_5)
  else
    (gI S h r0 11 8).bind fun v_7 =>
    (pI S h r0 11 8 v_7).bind fun h_9 =>
    (ckO S h_9 r0 11).bind fun _ =>
    (f_X11_tell S r0 x1 h_9).bind fun z => match z with
    | (z_13, h_12) =>
    some (z_13, h_12)
set_option maxHeartbeats 8000000 in
set_option maxRecDepth 20000 in
theorem s_X11_lasting {S : SH} {d cb sb : Nat} {Q : Option Value → AH → Prop} (hd : 1 ≤ d)  {r0 : Nat} {x1 : Int32} {h : AH} (k : ok (f_X11_lasting S r0 x1 h) (fun w h' => Q (some (.int w)) h')) : WP S M_X11_lasting d cb sb Q 0 [.ref r0, .int x1] [] h := by
  obtain ⟨d, rfl, he⟩ := dp (L := 0) hd
  unfold f_X11_lasting at k
  refine wp_aload_n dX11_lasting_0 rfl ?_
  refine wp_iload_n dX11_lasting_1 rfl ?_
  refine wp_if_ge 12 dX11_lasting_2 (by decide) (fun c_1 => ?_) (fun c_1 => ?_)
  · replace k := ok_t c_1 k
    refine wp_iconst dX11_lasting_12 ic_0 ?_
    replace k := ok_bind k
    obtain ⟨h_2, e_3, k⟩ := k
    refine wq_putI fl_X11_158 rfl rfl dX11_lasting_13 e_3 ?_
    refine wp_aload_n dX11_lasting_16 rfl ?_
    refine wp_iload_n dX11_lasting_17 rfl ?_
    replace k := ok_bind k
    obtain ⟨u, e_4, k⟩ := k
    refine wp_callV1 (N := M_X11_tell) (ci := 11) mf_X11_tell mi_X11_tell me_X11_tell ml_X11_161 dX11_lasting_18 (ckO_e e_4) mv_X11_tell (by exact Nat.le_of_ble_eq_true rfl) (c_X11_tell (Nat.le_trans (by decide) he) (ok_mono (ok_bind2 k) fun z_6 h_5 k => ?_))
    try dsimp only at k
    refine wp_iret rfl rfl dX11_lasting_21 ?_
    exact (ok_some k :)
  · replace k := ok_f c_1 k
    refine wp_aload_n dX11_lasting_5 rfl ?_
    replace k := ok_bind k
    obtain ⟨v_7, e_8, k⟩ := k
    refine wq_getI fl_X11_158 (Or.inl rfl) dX11_lasting_6 e_8 ?_
    refine wp_goto 13 dX11_lasting_9 (by decide) ?_
    replace k := ok_bind k
    obtain ⟨h_9, e_10, k⟩ := k
    refine wq_putI fl_X11_158 rfl rfl dX11_lasting_13 e_10 ?_
    refine wp_aload_n dX11_lasting_16 rfl ?_
    refine wp_iload_n dX11_lasting_17 rfl ?_
    replace k := ok_bind k
    obtain ⟨u, e_11, k⟩ := k
    refine wp_callV1 (N := M_X11_tell) (ci := 11) mf_X11_tell mi_X11_tell me_X11_tell ml_X11_161 dX11_lasting_18 (ckO_e e_11) mv_X11_tell (by exact Nat.le_of_ble_eq_true rfl) (c_X11_tell (Nat.le_trans (by decide) he) (ok_mono (ok_bind2 k) fun z_13 h_12 k => ?_))
    try dsimp only at k
    refine wp_iret rfl rfl dX11_lasting_21 ?_
    exact (ok_some k :)
theorem c_X11_lasting {S : SH} {d : Nat} {K : Option Value → AH → Prop} (hd : 1 ≤ d)  {r0 : Nat} {x1 : Int32} {h : AH} (k : ok (f_X11_lasting S r0 x1 h) (fun w h' => K (some (.int w)) h')) : CP S M_X11_lasting d 0 0 [.ref r0, .int x1] h K := cp_of (by decide) (fun _ _ => trivial) (fun _ => Nat.le_of_ble_eq_true rfl) (s_X11_lasting hd  k)
def f_X11_keepAll_l2b (S : SH) (rc : Nat → Int32 → Int32 → AH → Option (Unit × AH)) (r0 : Nat) (x1 : Int32) (x2 : Int32) (h : AH) : Option (Unit × AH) :=
  if (18 : Int32) ≤ x2 then
    some ((), h)
  else
    (gR S h r0 11 6).bind fun p_2 =>
    (gR S h r0 11 3).bind fun p_4 =>
    (aI S h p_4 ((5 : Int32) + x2)).bind fun v_6 =>
    (sI S h p_2 (((18 : Int32) * x1) + x2) v_6).bind fun h_8 =>
    lt (x2 + (1 : Int32)) fun y_10 =>
    rc r0 x1 y_10 h_8
set_option maxHeartbeats 8000000 in
set_option maxRecDepth 20000 in
theorem s_X11_keepAll_l2b {S : SH} {d cb sb : Nat} {Q : Option Value → AH → Prop} (hd : 0 ≤ d) {K : Unit → AH → Prop} (hex : ∀  (h' : AH), K () h' → WP S M_X11_keepAll d cb sb Q 33 [JK, JK, JK] [] h') {rc : Nat → Int32 → Int32 → AH → Option (Unit × AH)} (hrec : ∀ (r0 : Nat) (x1 : Int32) (x2 : Int32) (h' : AH), ok (rc r0 x1 x2 h') K → WP S M_X11_keepAll d cb sb Q 2 [.ref r0, .int x1, .int x2] [] h') {r0 : Nat} {x1 : Int32} {x2 : Int32} {h : AH} (k : ok (f_X11_keepAll_l2b S rc r0 x1 x2 h) K) : WP S M_X11_keepAll d cb sb Q 2 [.ref r0, .int x1, .int x2] [] h := by
  unfold f_X11_keepAll_l2b at k
  refine wp_iload_n dX11_keepAll_2 rfl ?_
  refine wp_bipush dX11_keepAll_3 bp_18 ?_
  refine wp_icmp_ge 33 dX11_keepAll_5 (by decide) (fun c_1 => ?_) (fun c_1 => ?_)
  · replace k := ok_t c_1 k
    exact wp_wk (wkJ <| wkJ <| wkJ <| wkN) (hex  _ (ok_some k))
  · replace k := ok_f c_1 k
    refine wp_aload_n dX11_keepAll_8 rfl ?_
    replace k := ok_bind k
    obtain ⟨p_2, e_3, k⟩ := k
    refine wq_getR fl_X11_23 (Or.inr ⟨_, rfl⟩) dX11_keepAll_9 e_3 ?_
    refine wp_bipush dX11_keepAll_12 bp_18 ?_
    refine wp_iload_n dX11_keepAll_14 rfl ?_
    refine wp_imul dX11_keepAll_15 ?_
    refine wp_iload_n dX11_keepAll_16 rfl ?_
    refine wp_iadd dX11_keepAll_17 ?_
    refine wp_aload_n dX11_keepAll_18 rfl ?_
    replace k := ok_bind k
    obtain ⟨p_4, e_5, k⟩ := k
    refine wq_getR fl_X11_13 (Or.inr ⟨_, rfl⟩) dX11_keepAll_19 e_5 ?_
    refine wp_iconst dX11_keepAll_22 ic_5 ?_
    refine wp_iload_n dX11_keepAll_23 rfl ?_
    refine wp_iadd dX11_keepAll_24 ?_
    replace k := ok_bind k
    obtain ⟨v_6, e_7, k⟩ := k
    refine wq_aI dX11_keepAll_25 e_7 ?_
    replace k := ok_bind k
    obtain ⟨h_8, e_9, k⟩ := k
    refine wq_sI dX11_keepAll_26 e_9 ?_
    replace k := ok_lt k
    refine wp_iinc dX11_keepAll_27 rfl ic_1 (by decide) (L1 := [_, _, _]) rfl ?_
    refine wp_goto 2 dX11_keepAll_30 (by decide) ?_
    exact wp_wk (wkE <| wkE <| wkE <| wkN) (hrec _ _ _ _ k)
def f_X11_keepAll_l2 (S : SH) : Nat → Nat → Int32 → Int32 → AH → Option (Unit × AH)
  | 0, _, _, _, _ => none
  | n + 1, r0, x1, x2, h => f_X11_keepAll_l2b S (f_X11_keepAll_l2 S n) r0 x1 x2 h
theorem s_X11_keepAll_l2 {S : SH} {d cb sb : Nat} {Q : Option Value → AH → Prop} (hd : 0 ≤ d) {K : Unit → AH → Prop} (hex : ∀  (h' : AH), K () h' → WP S M_X11_keepAll d cb sb Q 33 [JK, JK, JK] [] h') : ∀ (n : Nat) (r0 : Nat) (x1 : Int32) (x2 : Int32) (h : AH), ok (f_X11_keepAll_l2 S n r0 x1 x2 h) K → WP S M_X11_keepAll d cb sb Q 2 [.ref r0, .int x1, .int x2] [] h := by
  intro n
  induction n with
  | zero => intro r0 x1 x2 h k; exact ok_none k
  | succ n ih => intro r0 x1 x2 h k; exact s_X11_keepAll_l2b hd hex (fun r0 x1 x2 h k => ih r0 x1 x2 h k) k
def f_X11_keepAll (S : SH) (r0 : Nat) (x1 : Int32) (h : AH) : Option (Unit × AH) :=
  (f_X11_keepAll_l2 S FU r0 x1 (0 : Int32) h).bind fun z => match z with
  | ((), h_1) =>
  some ((), h_1)
set_option maxHeartbeats 8000000 in
set_option maxRecDepth 20000 in
theorem s_X11_keepAll {S : SH} {d cb sb : Nat} {Q : Option Value → AH → Prop} (hd : 0 ≤ d)  {r0 : Nat} {x1 : Int32} {h : AH} (k : ok (f_X11_keepAll S r0 x1 h) (fun _ h' => Q none h')) : WP S M_X11_keepAll d cb sb Q 0 [.ref r0, .int x1, JK] [] h := by
  unfold f_X11_keepAll at k
  refine wp_iconst dX11_keepAll_0 ic_0 ?_
  refine wp_istore_n dX11_keepAll_1 (by decide) (L1 := [_, _, _]) rfl ?_
  refine wp_wk (wkE <| wkE <| wkE <| wkN) ?_
  refine s_X11_keepAll_l2 hd (fun  h_1 k => ?_) FU _ _ _ _ (ok_bind2 k)
  try dsimp only at k
  refine wp_vret rfl dX11_keepAll_33 ?_
  exact (ok_some k :)
theorem c_X11_keepAll {S : SH} {d : Nat} {K : Option Value → AH → Prop} (hd : 0 ≤ d)  {r0 : Nat} {x1 : Int32} {h : AH} (k : ok (f_X11_keepAll S r0 x1 h) (fun _ h' => K none h')) : CP S M_X11_keepAll d 0 0 [.ref r0, .int x1] h K := cp_of (by decide) (fun _ _ => trivial) (fun _ => Nat.le_of_ble_eq_true rfl) (s_X11_keepAll hd  k)
def f_X11_putBack_l2b (S : SH) (rc : Nat → Int32 → Int32 → AH → Option (Unit × AH)) (r0 : Nat) (x1 : Int32) (x2 : Int32) (h : AH) : Option (Unit × AH) :=
  if (18 : Int32) ≤ x2 then
    some ((), h)
  else
    (gR S h r0 11 3).bind fun p_2 =>
    (gR S h r0 11 6).bind fun p_4 =>
    (aI S h p_4 (((18 : Int32) * x1) + x2)).bind fun v_6 =>
    (sI S h p_2 ((5 : Int32) + x2) v_6).bind fun h_8 =>
    lt (x2 + (1 : Int32)) fun y_10 =>
    rc r0 x1 y_10 h_8
set_option maxHeartbeats 8000000 in
set_option maxRecDepth 20000 in
theorem s_X11_putBack_l2b {S : SH} {d cb sb : Nat} {Q : Option Value → AH → Prop} (hd : 0 ≤ d) {K : Unit → AH → Prop} (hex : ∀  (h' : AH), K () h' → WP S M_X11_putBack d cb sb Q 33 [JK, JK, JK] [] h') {rc : Nat → Int32 → Int32 → AH → Option (Unit × AH)} (hrec : ∀ (r0 : Nat) (x1 : Int32) (x2 : Int32) (h' : AH), ok (rc r0 x1 x2 h') K → WP S M_X11_putBack d cb sb Q 2 [.ref r0, .int x1, .int x2] [] h') {r0 : Nat} {x1 : Int32} {x2 : Int32} {h : AH} (k : ok (f_X11_putBack_l2b S rc r0 x1 x2 h) K) : WP S M_X11_putBack d cb sb Q 2 [.ref r0, .int x1, .int x2] [] h := by
  unfold f_X11_putBack_l2b at k
  refine wp_iload_n dX11_putBack_2 rfl ?_
  refine wp_bipush dX11_putBack_3 bp_18 ?_
  refine wp_icmp_ge 33 dX11_putBack_5 (by decide) (fun c_1 => ?_) (fun c_1 => ?_)
  · replace k := ok_t c_1 k
    exact wp_wk (wkJ <| wkJ <| wkJ <| wkN) (hex  _ (ok_some k))
  · replace k := ok_f c_1 k
    refine wp_aload_n dX11_putBack_8 rfl ?_
    replace k := ok_bind k
    obtain ⟨p_2, e_3, k⟩ := k
    refine wq_getR fl_X11_13 (Or.inr ⟨_, rfl⟩) dX11_putBack_9 e_3 ?_
    refine wp_iconst dX11_putBack_12 ic_5 ?_
    refine wp_iload_n dX11_putBack_13 rfl ?_
    refine wp_iadd dX11_putBack_14 ?_
    refine wp_aload_n dX11_putBack_15 rfl ?_
    replace k := ok_bind k
    obtain ⟨p_4, e_5, k⟩ := k
    refine wq_getR fl_X11_23 (Or.inr ⟨_, rfl⟩) dX11_putBack_16 e_5 ?_
    refine wp_bipush dX11_putBack_19 bp_18 ?_
    refine wp_iload_n dX11_putBack_21 rfl ?_
    refine wp_imul dX11_putBack_22 ?_
    refine wp_iload_n dX11_putBack_23 rfl ?_
    refine wp_iadd dX11_putBack_24 ?_
    replace k := ok_bind k
    obtain ⟨v_6, e_7, k⟩ := k
    refine wq_aI dX11_putBack_25 e_7 ?_
    replace k := ok_bind k
    obtain ⟨h_8, e_9, k⟩ := k
    refine wq_sI dX11_putBack_26 e_9 ?_
    replace k := ok_lt k
    refine wp_iinc dX11_putBack_27 rfl ic_1 (by decide) (L1 := [_, _, _]) rfl ?_
    refine wp_goto 2 dX11_putBack_30 (by decide) ?_
    exact wp_wk (wkE <| wkE <| wkE <| wkN) (hrec _ _ _ _ k)
def f_X11_putBack_l2 (S : SH) : Nat → Nat → Int32 → Int32 → AH → Option (Unit × AH)
  | 0, _, _, _, _ => none
  | n + 1, r0, x1, x2, h => f_X11_putBack_l2b S (f_X11_putBack_l2 S n) r0 x1 x2 h
theorem s_X11_putBack_l2 {S : SH} {d cb sb : Nat} {Q : Option Value → AH → Prop} (hd : 0 ≤ d) {K : Unit → AH → Prop} (hex : ∀  (h' : AH), K () h' → WP S M_X11_putBack d cb sb Q 33 [JK, JK, JK] [] h') : ∀ (n : Nat) (r0 : Nat) (x1 : Int32) (x2 : Int32) (h : AH), ok (f_X11_putBack_l2 S n r0 x1 x2 h) K → WP S M_X11_putBack d cb sb Q 2 [.ref r0, .int x1, .int x2] [] h := by
  intro n
  induction n with
  | zero => intro r0 x1 x2 h k; exact ok_none k
  | succ n ih => intro r0 x1 x2 h k; exact s_X11_putBack_l2b hd hex (fun r0 x1 x2 h k => ih r0 x1 x2 h k) k
def f_X11_putBack (S : SH) (r0 : Nat) (x1 : Int32) (h : AH) : Option (Unit × AH) :=
  (f_X11_putBack_l2 S FU r0 x1 (0 : Int32) h).bind fun z => match z with
  | ((), h_1) =>
  some ((), h_1)
set_option maxHeartbeats 8000000 in
set_option maxRecDepth 20000 in
theorem s_X11_putBack {S : SH} {d cb sb : Nat} {Q : Option Value → AH → Prop} (hd : 0 ≤ d)  {r0 : Nat} {x1 : Int32} {h : AH} (k : ok (f_X11_putBack S r0 x1 h) (fun _ h' => Q none h')) : WP S M_X11_putBack d cb sb Q 0 [.ref r0, .int x1, JK] [] h := by
  unfold f_X11_putBack at k
  refine wp_iconst dX11_putBack_0 ic_0 ?_
  refine wp_istore_n dX11_putBack_1 (by decide) (L1 := [_, _, _]) rfl ?_
  refine wp_wk (wkE <| wkE <| wkE <| wkN) ?_
  refine s_X11_putBack_l2 hd (fun  h_1 k => ?_) FU _ _ _ _ (ok_bind2 k)
  try dsimp only at k
  refine wp_vret rfl dX11_putBack_33 ?_
  exact (ok_some k :)
theorem c_X11_putBack {S : SH} {d : Nat} {K : Option Value → AH → Prop} (hd : 0 ≤ d)  {r0 : Nat} {x1 : Int32} {h : AH} (k : ok (f_X11_putBack S r0 x1 h) (fun _ h' => K none h')) : CP S M_X11_putBack d 0 0 [.ref r0, .int x1] h K := cp_of (by decide) (fun _ _ => trivial) (fun _ => Nat.le_of_ble_eq_true rfl) (s_X11_putBack hd  k)
def f_X11_remember_j77 (S : SH) (r0 : Nat) (x1 : Int32) (h : AH) : Option (Unit × AH) :=
  (gI S h r0 11 8).bind fun v_1 =>
  (ckO S h r0 11).bind fun _ =>
  (f_X11_keepAll S r0 v_1 h).bind fun z => match z with
  | (_, h_4) =>
  (gR S h_4 r0 11 7).bind fun p_6 =>
  (gI S h_4 r0 11 8).bind fun v_8 =>
  (sI S h_4 p_6 v_8 x1).bind fun h_10 =>
  (gI S h_10 r0 11 8).bind fun v_12 =>
  (pI S h_10 r0 11 8 (v_12 + (1 : Int32))).bind fun h_14 =>
  some ((), h_14)
set_option maxHeartbeats 8000000 in
set_option maxRecDepth 20000 in
theorem s_X11_remember_j77 {S : SH} {d cb sb : Nat} {Q : Option Value → AH → Prop} (hd : 1 ≤ d)  {r0 : Nat} {x1 : Int32} {h : AH} (k : ok (f_X11_remember_j77 S r0 x1 h) (fun _ h' => Q none h')) : WP S M_X11_remember d cb sb Q 77 [.ref r0, .int x1, JK] [] h := by
  obtain ⟨d, rfl, he⟩ := dp (L := 0) hd
  unfold f_X11_remember_j77 at k
  refine wp_aload_n dX11_remember_77 rfl ?_
  refine wp_aload_n dX11_remember_78 rfl ?_
  replace k := ok_bind k
  obtain ⟨v_1, e_2, k⟩ := k
  refine wq_getI fl_X11_158 (Or.inl rfl) dX11_remember_79 e_2 ?_
  replace k := ok_bind k
  obtain ⟨u, e_3, k⟩ := k
  refine wp_callV1 (N := M_X11_keepAll) (ci := 11) mf_X11_keepAll mi_X11_keepAll me_X11_keepAll ml_X11_165 dX11_remember_82 (ckO_e e_3) mv_X11_keepAll (by exact Nat.le_of_ble_eq_true rfl) (c_X11_keepAll (Nat.le_trans (by decide) he) (ok_mono (ok_bind2 k) fun _ h_4 k => ?_))
  try dsimp only at k
  refine wp_aload_n dX11_remember_85 rfl ?_
  replace k := ok_bind k
  obtain ⟨p_6, e_7, k⟩ := k
  refine wq_getR fl_X11_26 (Or.inr ⟨_, rfl⟩) dX11_remember_86 e_7 ?_
  refine wp_aload_n dX11_remember_89 rfl ?_
  replace k := ok_bind k
  obtain ⟨v_8, e_9, k⟩ := k
  refine wq_getI fl_X11_158 (Or.inl rfl) dX11_remember_90 e_9 ?_
  refine wp_iload_n dX11_remember_93 rfl ?_
  replace k := ok_bind k
  obtain ⟨h_10, e_11, k⟩ := k
  refine wq_sI dX11_remember_94 e_11 ?_
  refine wp_aload_n dX11_remember_95 rfl ?_
  refine wp_dupR dX11_remember_96 ?_
  replace k := ok_bind k
  obtain ⟨v_12, e_13, k⟩ := k
  refine wq_getI fl_X11_158 (Or.inl rfl) dX11_remember_97 e_13 ?_
  refine wp_iconst dX11_remember_100 ic_1 ?_
  refine wp_iadd dX11_remember_101 ?_
  replace k := ok_bind k
  obtain ⟨h_14, e_15, k⟩ := k
  refine wq_putI fl_X11_158 rfl rfl dX11_remember_102 e_15 ?_
  refine wp_vret rfl dX11_remember_105 ?_
  exact (ok_some k :)
def f_X11_remember_l11b (S : SH) (rc : Nat → Int32 → Int32 → AH → Option ((Nat × Int32) × AH)) (r0 : Nat) (x1 : Int32) (x2 : Int32) (h : AH) : Option ((Nat × Int32) × AH) :=
  if (270 : Int32) ≤ x2 then
    some ((r0, x1), h)
  else
    (gR S h r0 11 6).bind fun p_2 =>
    (gR S h r0 11 6).bind fun p_4 =>
    (aI S h p_4 (x2 + (18 : Int32))).bind fun v_6 =>
    (sI S h p_2 x2 v_6).bind fun h_8 =>
    lt (x2 + (1 : Int32)) fun y_10 =>
    rc r0 x1 y_10 h_8
set_option maxHeartbeats 8000000 in
set_option maxRecDepth 20000 in
theorem s_X11_remember_l11b {S : SH} {d cb sb : Nat} {Q : Option Value → AH → Prop} (hd : 1 ≤ d) {K : (Nat × Int32) → AH → Prop} (hex : ∀ (r0 : Nat) (x1 : Int32) (h' : AH), K (r0, x1) h' → WP S M_X11_remember d cb sb Q 39 [.ref r0, .int x1, JK] [] h') {rc : Nat → Int32 → Int32 → AH → Option ((Nat × Int32) × AH)} (hrec : ∀ (r0 : Nat) (x1 : Int32) (x2 : Int32) (h' : AH), ok (rc r0 x1 x2 h') K → WP S M_X11_remember d cb sb Q 11 [.ref r0, .int x1, .int x2] [] h') {r0 : Nat} {x1 : Int32} {x2 : Int32} {h : AH} (k : ok (f_X11_remember_l11b S rc r0 x1 x2 h) K) : WP S M_X11_remember d cb sb Q 11 [.ref r0, .int x1, .int x2] [] h := by
  obtain ⟨d, rfl, he⟩ := dp (L := 0) hd
  unfold f_X11_remember_l11b at k
  refine wp_iload_n dX11_remember_11 rfl ?_
  refine wp_sipush dX11_remember_12 sp_270 ?_
  refine wp_icmp_ge 39 dX11_remember_15 (by decide) (fun c_1 => ?_) (fun c_1 => ?_)
  · replace k := ok_t c_1 k
    exact wp_wk (wkE <| wkE <| wkJ <| wkN) (hex _ _ _ (ok_some k))
  · replace k := ok_f c_1 k
    refine wp_aload_n dX11_remember_18 rfl ?_
    replace k := ok_bind k
    obtain ⟨p_2, e_3, k⟩ := k
    refine wq_getR fl_X11_23 (Or.inr ⟨_, rfl⟩) dX11_remember_19 e_3 ?_
    refine wp_iload_n dX11_remember_22 rfl ?_
    refine wp_aload_n dX11_remember_23 rfl ?_
    replace k := ok_bind k
    obtain ⟨p_4, e_5, k⟩ := k
    refine wq_getR fl_X11_23 (Or.inr ⟨_, rfl⟩) dX11_remember_24 e_5 ?_
    refine wp_iload_n dX11_remember_27 rfl ?_
    refine wp_bipush dX11_remember_28 bp_18 ?_
    refine wp_iadd dX11_remember_30 ?_
    replace k := ok_bind k
    obtain ⟨v_6, e_7, k⟩ := k
    refine wq_aI dX11_remember_31 e_7 ?_
    replace k := ok_bind k
    obtain ⟨h_8, e_9, k⟩ := k
    refine wq_sI dX11_remember_32 e_9 ?_
    replace k := ok_lt k
    refine wp_iinc dX11_remember_33 rfl ic_1 (by decide) (L1 := [_, _, _]) rfl ?_
    refine wp_goto 11 dX11_remember_36 (by decide) ?_
    exact wp_wk (wkE <| wkE <| wkE <| wkN) (hrec _ _ _ _ k)
def f_X11_remember_l11 (S : SH) : Nat → Nat → Int32 → Int32 → AH → Option ((Nat × Int32) × AH)
  | 0, _, _, _, _ => none
  | n + 1, r0, x1, x2, h => f_X11_remember_l11b S (f_X11_remember_l11 S n) r0 x1 x2 h
theorem s_X11_remember_l11 {S : SH} {d cb sb : Nat} {Q : Option Value → AH → Prop} (hd : 1 ≤ d) {K : (Nat × Int32) → AH → Prop} (hex : ∀ (r0 : Nat) (x1 : Int32) (h' : AH), K (r0, x1) h' → WP S M_X11_remember d cb sb Q 39 [.ref r0, .int x1, JK] [] h') : ∀ (n : Nat) (r0 : Nat) (x1 : Int32) (x2 : Int32) (h : AH), ok (f_X11_remember_l11 S n r0 x1 x2 h) K → WP S M_X11_remember d cb sb Q 11 [.ref r0, .int x1, .int x2] [] h := by
  intro n
  induction n with
  | zero => intro r0 x1 x2 h k; exact ok_none k
  | succ n ih => intro r0 x1 x2 h k; exact s_X11_remember_l11b hd hex (fun r0 x1 x2 h k => ih r0 x1 x2 h k) k
def f_X11_remember_l41b (S : SH) (rc : Nat → Int32 → Int32 → AH → Option ((Nat × Int32) × AH)) (r0 : Nat) (x1 : Int32) (x2 : Int32) (h : AH) : Option ((Nat × Int32) × AH) :=
  if (15 : Int32) ≤ x2 then
    some ((r0, x1), h)
  else
    (gR S h r0 11 7).bind fun p_2 =>
    (gR S h r0 11 7).bind fun p_4 =>
    (aI S h p_4 (x2 + (1 : Int32))).bind fun v_6 =>
    (sI S h p_2 x2 v_6).bind fun h_8 =>
    lt (x2 + (1 : Int32)) fun y_10 =>
    rc r0 x1 y_10 h_8
set_option maxHeartbeats 8000000 in
set_option maxRecDepth 20000 in
theorem s_X11_remember_l41b {S : SH} {d cb sb : Nat} {Q : Option Value → AH → Prop} (hd : 1 ≤ d) {K : (Nat × Int32) → AH → Prop} (hex : ∀ (r0 : Nat) (x1 : Int32) (h' : AH), K (r0, x1) h' → WP S M_X11_remember d cb sb Q 67 [.ref r0, .int x1, JK] [] h') {rc : Nat → Int32 → Int32 → AH → Option ((Nat × Int32) × AH)} (hrec : ∀ (r0 : Nat) (x1 : Int32) (x2 : Int32) (h' : AH), ok (rc r0 x1 x2 h') K → WP S M_X11_remember d cb sb Q 41 [.ref r0, .int x1, .int x2] [] h') {r0 : Nat} {x1 : Int32} {x2 : Int32} {h : AH} (k : ok (f_X11_remember_l41b S rc r0 x1 x2 h) K) : WP S M_X11_remember d cb sb Q 41 [.ref r0, .int x1, .int x2] [] h := by
  obtain ⟨d, rfl, he⟩ := dp (L := 0) hd
  unfold f_X11_remember_l41b at k
  refine wp_iload_n dX11_remember_41 rfl ?_
  refine wp_bipush dX11_remember_42 bp_15 ?_
  refine wp_icmp_ge 67 dX11_remember_44 (by decide) (fun c_1 => ?_) (fun c_1 => ?_)
  · replace k := ok_t c_1 k
    exact wp_wk (wkE <| wkE <| wkJ <| wkN) (hex _ _ _ (ok_some k))
  · replace k := ok_f c_1 k
    refine wp_aload_n dX11_remember_47 rfl ?_
    replace k := ok_bind k
    obtain ⟨p_2, e_3, k⟩ := k
    refine wq_getR fl_X11_26 (Or.inr ⟨_, rfl⟩) dX11_remember_48 e_3 ?_
    refine wp_iload_n dX11_remember_51 rfl ?_
    refine wp_aload_n dX11_remember_52 rfl ?_
    replace k := ok_bind k
    obtain ⟨p_4, e_5, k⟩ := k
    refine wq_getR fl_X11_26 (Or.inr ⟨_, rfl⟩) dX11_remember_53 e_5 ?_
    refine wp_iload_n dX11_remember_56 rfl ?_
    refine wp_iconst dX11_remember_57 ic_1 ?_
    refine wp_iadd dX11_remember_58 ?_
    replace k := ok_bind k
    obtain ⟨v_6, e_7, k⟩ := k
    refine wq_aI dX11_remember_59 e_7 ?_
    replace k := ok_bind k
    obtain ⟨h_8, e_9, k⟩ := k
    refine wq_sI dX11_remember_60 e_9 ?_
    replace k := ok_lt k
    refine wp_iinc dX11_remember_61 rfl ic_1 (by decide) (L1 := [_, _, _]) rfl ?_
    refine wp_goto 41 dX11_remember_64 (by decide) ?_
    exact wp_wk (wkE <| wkE <| wkE <| wkN) (hrec _ _ _ _ k)
def f_X11_remember_l41 (S : SH) : Nat → Nat → Int32 → Int32 → AH → Option ((Nat × Int32) × AH)
  | 0, _, _, _, _ => none
  | n + 1, r0, x1, x2, h => f_X11_remember_l41b S (f_X11_remember_l41 S n) r0 x1 x2 h
theorem s_X11_remember_l41 {S : SH} {d cb sb : Nat} {Q : Option Value → AH → Prop} (hd : 1 ≤ d) {K : (Nat × Int32) → AH → Prop} (hex : ∀ (r0 : Nat) (x1 : Int32) (h' : AH), K (r0, x1) h' → WP S M_X11_remember d cb sb Q 67 [.ref r0, .int x1, JK] [] h') : ∀ (n : Nat) (r0 : Nat) (x1 : Int32) (x2 : Int32) (h : AH), ok (f_X11_remember_l41 S n r0 x1 x2 h) K → WP S M_X11_remember d cb sb Q 41 [.ref r0, .int x1, .int x2] [] h := by
  intro n
  induction n with
  | zero => intro r0 x1 x2 h k; exact ok_none k
  | succ n ih => intro r0 x1 x2 h k; exact s_X11_remember_l41b hd hex (fun r0 x1 x2 h k => ih r0 x1 x2 h k) k
def f_X11_remember (S : SH) (r0 : Nat) (x1 : Int32) (h : AH) : Option (Unit × AH) :=
  (gI S h r0 11 8).bind fun v_1 =>
  if v_1 = (16 : Int32) then
    (f_X11_remember_l11 S FU r0 x1 (0 : Int32) h).bind fun z => match z with
    | ((r0_5, x1_6), h_4) =>
    (f_X11_remember_l41 S FU r0_5 x1_6 (0 : Int32) h_4).bind fun z => match z with
    | ((r0_8, x1_9), h_7) =>
    (gI S h_7 r0_8 11 8).bind fun v_10 =>
    (pI S h_7 r0_8 11 8 (v_10 - (1 : Int32))).bind fun h_12 =>
    f_X11_remember_j77 S r0_8 x1_9 h_12
  else
    f_X11_remember_j77 S r0 x1 h
set_option maxHeartbeats 8000000 in
set_option maxRecDepth 20000 in
theorem s_X11_remember {S : SH} {d cb sb : Nat} {Q : Option Value → AH → Prop} (hd : 1 ≤ d)  {r0 : Nat} {x1 : Int32} {h : AH} (k : ok (f_X11_remember S r0 x1 h) (fun _ h' => Q none h')) : WP S M_X11_remember d cb sb Q 0 [.ref r0, .int x1, JK] [] h := by
  obtain ⟨d, rfl, he⟩ := dp (L := 0) hd
  unfold f_X11_remember at k
  refine wp_aload_n dX11_remember_0 rfl ?_
  replace k := ok_bind k
  obtain ⟨v_1, e_2, k⟩ := k
  refine wq_getI fl_X11_158 (Or.inl rfl) dX11_remember_1 e_2 ?_
  refine wp_bipush dX11_remember_4 bp_16 ?_
  refine wp_icmp_ne 77 dX11_remember_6 (by decide) (fun c_3 => ?_) (fun c_3 => ?_)
  · replace k := ok_f c_3 k
    exact wp_wk (wkE <| wkE <| wkJ <| wkN) (s_X11_remember_j77 (Nat.succ_le_succ he)  k)
  · replace k := ok_t c_3 k
    refine wp_iconst dX11_remember_9 ic_0 ?_
    refine wp_istore_n dX11_remember_10 (by decide) (L1 := [_, _, _]) rfl ?_
    refine wp_wk (wkE <| wkE <| wkE <| wkN) ?_
    refine s_X11_remember_l11 (Nat.succ_le_succ he) (fun r0_5 x1_6 h_4 k => ?_) FU _ _ _ _ (ok_bind2 k)
    try dsimp only at k
    refine wp_iconst dX11_remember_39 ic_0 ?_
    refine wp_istore_n dX11_remember_40 (by decide) (L1 := [_, _, _]) rfl ?_
    refine wp_wk (wkE <| wkE <| wkE <| wkN) ?_
    refine s_X11_remember_l41 (Nat.succ_le_succ he) (fun r0_8 x1_9 h_7 k => ?_) FU _ _ _ _ (ok_bind2 k)
    try dsimp only at k
    refine wp_aload_n dX11_remember_67 rfl ?_
    refine wp_dupR dX11_remember_68 ?_
    replace k := ok_bind k
    obtain ⟨v_10, e_11, k⟩ := k
    refine wq_getI fl_X11_158 (Or.inl rfl) dX11_remember_69 e_11 ?_
    refine wp_iconst dX11_remember_72 ic_1 ?_
    refine wp_isub dX11_remember_73 ?_
    replace k := ok_bind k
    obtain ⟨h_12, e_13, k⟩ := k
    refine wq_putI fl_X11_158 rfl rfl dX11_remember_74 e_13 ?_
    exact wp_wk (wkE <| wkE <| wkJ <| wkN) (s_X11_remember_j77 (Nat.succ_le_succ he)  k)
theorem c_X11_remember {S : SH} {d : Nat} {K : Option Value → AH → Prop} (hd : 1 ≤ d)  {r0 : Nat} {x1 : Int32} {h : AH} (k : ok (f_X11_remember S r0 x1 h) (fun _ h' => K none h')) : CP S M_X11_remember d 0 0 [.ref r0, .int x1] h K := cp_of (by decide) (fun _ _ => trivial) (fun _ => Nat.le_of_ble_eq_true rfl) (s_X11_remember hd  k)
def f_X11_undo (S : SH) (r0 : Nat) (h : AH) : Option (Int32 × AH) :=
  (pI S h r0 11 0 (0 : Int32)).bind fun h_1 =>
  (gI S h_1 r0 11 8).bind fun v_3 =>
  if v_3 = (0 : Int32) then
    (ckO S h_1 r0 11).bind fun _ =>
    (f_X11_tell S r0 (-3 : Int32) h_1).bind fun z => match z with
    | (z_26, h_25) =>
    some (z_26, h_25)
  else
    (gI S h_1 r0 11 8).bind fun v_6 =>
    (pI S h_1 r0 11 8 (v_6 - (1 : Int32))).bind fun h_8 =>
    (gI S h_8 r0 11 8).bind fun v_10 =>
    (ckO S h_8 r0 11).bind fun _ =>
    (f_X11_putBack S r0 v_10 h_8).bind fun z => match z with
    | (_, h_13) =>
    (gR S h_13 r0 11 7).bind fun p_15 =>
    (gI S h_13 r0 11 8).bind fun v_17 =>
    (aI S h_13 p_15 v_17).bind fun v_19 =>
    (ckO S h_13 r0 11).bind fun _ =>
    (f_X11_tell S r0 v_19 h_13).bind fun z => match z with
    | (z_23, h_22) =>
    some (z_23, h_22)
set_option maxHeartbeats 8000000 in
set_option maxRecDepth 20000 in
theorem s_X11_undo {S : SH} {d cb sb : Nat} {Q : Option Value → AH → Prop} (hd : 1 ≤ d)  {r0 : Nat} {h : AH} (k : ok (f_X11_undo S r0 h) (fun w h' => Q (some (.int w)) h')) : WP S M_X11_undo d cb sb Q 0 [.ref r0] [] h := by
  obtain ⟨d, rfl, he⟩ := dp (L := 0) hd
  unfold f_X11_undo at k
  refine wp_aload_n dX11_undo_0 rfl ?_
  refine wp_iconst dX11_undo_1 ic_0 ?_
  replace k := ok_bind k
  obtain ⟨h_1, e_2, k⟩ := k
  refine wq_putI fl_X11_152 rfl rfl dX11_undo_2 e_2 ?_
  refine wp_aload_n dX11_undo_5 rfl ?_
  replace k := ok_bind k
  obtain ⟨v_3, e_4, k⟩ := k
  refine wq_getI fl_X11_158 (Or.inl rfl) dX11_undo_6 e_4 ?_
  refine wp_if_ne 19 dX11_undo_9 (by decide) (fun c_5 => ?_) (fun c_5 => ?_)
  · replace k := ok_f c_5 k
    refine wp_aload_n dX11_undo_19 rfl ?_
    refine wp_dupR dX11_undo_20 ?_
    replace k := ok_bind k
    obtain ⟨v_6, e_7, k⟩ := k
    refine wq_getI fl_X11_158 (Or.inl rfl) dX11_undo_21 e_7 ?_
    refine wp_iconst dX11_undo_24 ic_1 ?_
    refine wp_isub dX11_undo_25 ?_
    replace k := ok_bind k
    obtain ⟨h_8, e_9, k⟩ := k
    refine wq_putI fl_X11_158 rfl rfl dX11_undo_26 e_9 ?_
    refine wp_aload_n dX11_undo_29 rfl ?_
    refine wp_aload_n dX11_undo_30 rfl ?_
    replace k := ok_bind k
    obtain ⟨v_10, e_11, k⟩ := k
    refine wq_getI fl_X11_158 (Or.inl rfl) dX11_undo_31 e_11 ?_
    replace k := ok_bind k
    obtain ⟨u, e_12, k⟩ := k
    refine wp_callV1 (N := M_X11_putBack) (ci := 11) mf_X11_putBack mi_X11_putBack me_X11_putBack ml_X11_169 dX11_undo_34 (ckO_e e_12) mv_X11_putBack (by exact Nat.le_of_ble_eq_true rfl) (c_X11_putBack (Nat.le_trans (by decide) he) (ok_mono (ok_bind2 k) fun _ h_13 k => ?_))
    try dsimp only at k
    refine wp_aload_n dX11_undo_37 rfl ?_
    refine wp_aload_n dX11_undo_38 rfl ?_
    replace k := ok_bind k
    obtain ⟨p_15, e_16, k⟩ := k
    refine wq_getR fl_X11_26 (Or.inr ⟨_, rfl⟩) dX11_undo_39 e_16 ?_
    refine wp_aload_n dX11_undo_42 rfl ?_
    replace k := ok_bind k
    obtain ⟨v_17, e_18, k⟩ := k
    refine wq_getI fl_X11_158 (Or.inl rfl) dX11_undo_43 e_18 ?_
    replace k := ok_bind k
    obtain ⟨v_19, e_20, k⟩ := k
    refine wq_aI dX11_undo_46 e_20 ?_
    replace k := ok_bind k
    obtain ⟨u, e_21, k⟩ := k
    refine wp_callV1 (N := M_X11_tell) (ci := 11) mf_X11_tell mi_X11_tell me_X11_tell ml_X11_161 dX11_undo_47 (ckO_e e_21) mv_X11_tell (by exact Nat.le_of_ble_eq_true rfl) (c_X11_tell (Nat.le_trans (by decide) he) (ok_mono (ok_bind2 k) fun z_23 h_22 k => ?_))
    try dsimp only at k
    refine wp_iret rfl rfl dX11_undo_50 ?_
    exact (ok_some k :)
  · replace k := ok_t c_5 k
    refine wp_aload_n dX11_undo_12 rfl ?_
    refine wp_bipush dX11_undo_13 bp_m3 ?_
    replace k := ok_bind k
    obtain ⟨u, e_24, k⟩ := k
    refine wp_callV1 (N := M_X11_tell) (ci := 11) mf_X11_tell mi_X11_tell me_X11_tell ml_X11_161 dX11_undo_15 (ckO_e e_24) mv_X11_tell (by exact Nat.le_of_ble_eq_true rfl) (c_X11_tell (Nat.le_trans (by decide) he) (ok_mono (ok_bind2 k) fun z_26 h_25 k => ?_))
    try dsimp only at k
    refine wp_iret rfl rfl dX11_undo_18 ?_
    exact (ok_some k :)
theorem c_X11_undo {S : SH} {d : Nat} {K : Option Value → AH → Prop} (hd : 1 ≤ d)  {r0 : Nat} {h : AH} (k : ok (f_X11_undo S r0 h) (fun w h' => K (some (.int w)) h')) : CP S M_X11_undo d 0 0 [.ref r0] h K := cp_of (by decide) (fun _ _ => trivial) (fun _ => Nat.le_of_ble_eq_true rfl) (s_X11_undo hd  k)
def f_X11_image_l23b (S : SH) (rc : Nat → Int32 → Int32 → AH → Option ((Nat × Int32) × AH)) (r0 : Nat) (x1 : Int32) (x2 : Int32) (h : AH) : Option ((Nat × Int32) × AH) :=
  if (5490 : Int32) ≤ x2 then
    some ((r0, x1), h)
  else
    (gR S h r0 11 4).bind fun p_2 =>
    (gR S h r0 11 3).bind fun p_4 =>
    (aI S h p_4 x2).bind fun v_6 =>
    (sI S h p_2 (((5490 : Int32) * x1) + x2) v_6).bind fun h_8 =>
    lt (x2 + (1 : Int32)) fun y_10 =>
    rc r0 x1 y_10 h_8
set_option maxHeartbeats 8000000 in
set_option maxRecDepth 20000 in
theorem s_X11_image_l23b {S : SH} {d cb sb : Nat} {Q : Option Value → AH → Prop} (hd : 1 ≤ d) {K : (Nat × Int32) → AH → Prop} (hex : ∀ (r0 : Nat) (x1 : Int32) (h' : AH), K (r0, x1) h' → WP S M_X11_image d cb sb Q 54 [.ref r0, .int x1, JK] [] h') {rc : Nat → Int32 → Int32 → AH → Option ((Nat × Int32) × AH)} (hrec : ∀ (r0 : Nat) (x1 : Int32) (x2 : Int32) (h' : AH), ok (rc r0 x1 x2 h') K → WP S M_X11_image d cb sb Q 23 [.ref r0, .int x1, .int x2] [] h') {r0 : Nat} {x1 : Int32} {x2 : Int32} {h : AH} (k : ok (f_X11_image_l23b S rc r0 x1 x2 h) K) : WP S M_X11_image d cb sb Q 23 [.ref r0, .int x1, .int x2] [] h := by
  obtain ⟨d, rfl, he⟩ := dp (L := 0) hd
  unfold f_X11_image_l23b at k
  refine wp_iload_n dX11_image_23 rfl ?_
  refine wp_sipush dX11_image_24 sp_5490 ?_
  refine wp_icmp_ge 54 dX11_image_27 (by decide) (fun c_1 => ?_) (fun c_1 => ?_)
  · replace k := ok_t c_1 k
    exact wp_wk (wkE <| wkE <| wkJ <| wkN) (hex _ _ _ (ok_some k))
  · replace k := ok_f c_1 k
    refine wp_aload_n dX11_image_30 rfl ?_
    replace k := ok_bind k
    obtain ⟨p_2, e_3, k⟩ := k
    refine wq_getR fl_X11_16 (Or.inr ⟨_, rfl⟩) dX11_image_31 e_3 ?_
    refine wp_sipush dX11_image_34 sp_5490 ?_
    refine wp_iload_n dX11_image_37 rfl ?_
    refine wp_imul dX11_image_38 ?_
    refine wp_iload_n dX11_image_39 rfl ?_
    refine wp_iadd dX11_image_40 ?_
    refine wp_aload_n dX11_image_41 rfl ?_
    replace k := ok_bind k
    obtain ⟨p_4, e_5, k⟩ := k
    refine wq_getR fl_X11_13 (Or.inr ⟨_, rfl⟩) dX11_image_42 e_5 ?_
    refine wp_iload_n dX11_image_45 rfl ?_
    replace k := ok_bind k
    obtain ⟨v_6, e_7, k⟩ := k
    refine wq_aI dX11_image_46 e_7 ?_
    replace k := ok_bind k
    obtain ⟨h_8, e_9, k⟩ := k
    refine wq_sI dX11_image_47 e_9 ?_
    replace k := ok_lt k
    refine wp_iinc dX11_image_48 rfl ic_1 (by decide) (L1 := [_, _, _]) rfl ?_
    refine wp_goto 23 dX11_image_51 (by decide) ?_
    exact wp_wk (wkE <| wkE <| wkE <| wkN) (hrec _ _ _ _ k)
def f_X11_image_l23 (S : SH) : Nat → Nat → Int32 → Int32 → AH → Option ((Nat × Int32) × AH)
  | 0, _, _, _, _ => none
  | n + 1, r0, x1, x2, h => f_X11_image_l23b S (f_X11_image_l23 S n) r0 x1 x2 h
theorem s_X11_image_l23 {S : SH} {d cb sb : Nat} {Q : Option Value → AH → Prop} (hd : 1 ≤ d) {K : (Nat × Int32) → AH → Prop} (hex : ∀ (r0 : Nat) (x1 : Int32) (h' : AH), K (r0, x1) h' → WP S M_X11_image d cb sb Q 54 [.ref r0, .int x1, JK] [] h') : ∀ (n : Nat) (r0 : Nat) (x1 : Int32) (x2 : Int32) (h : AH), ok (f_X11_image_l23 S n r0 x1 x2 h) K → WP S M_X11_image d cb sb Q 23 [.ref r0, .int x1, .int x2] [] h := by
  intro n
  induction n with
  | zero => intro r0 x1 x2 h k; exact ok_none k
  | succ n ih => intro r0 x1 x2 h k; exact s_X11_image_l23b hd hex (fun r0 x1 x2 h k => ih r0 x1 x2 h k) k
def f_X11_image (S : SH) (r0 : Nat) (x1 : Int32) (h : AH) : Option (Int32 × AH) :=
  (pI S h r0 11 0 (0 : Int32)).bind fun h_1 =>
  (f_X11_in S (Int32.toInt64 x1) (0 : Int64) (1 : Int64) h_1).bind fun z => match z with
  | (z_4, h_3) =>
  if z_4 = (0 : Int32) then
    (ckO S h_3 r0 11).bind fun _ =>
    (f_X11_tell S r0 (-1 : Int32) h_3).bind fun z => match z with
    | (z_18, h_17) =>
    some (z_18, h_17)
  else
    (f_X11_image_l23 S FU r0 x1 (0 : Int32) h_3).bind fun z => match z with
    | ((r0_7, x1_8), h_6) =>
    (gR S h_6 r0_7 11 5).bind fun p_9 =>
    (sZ S h_6 p_9 x1_8 (1 : Int32)).bind fun h_11 =>
    (ckO S h_11 r0_7 11).bind fun _ =>
    (f_X11_tell S r0_7 (0 : Int32) h_11).bind fun z => match z with
    | (z_15, h_14) =>
    some (z_15, h_14)
set_option maxHeartbeats 8000000 in
set_option maxRecDepth 20000 in
theorem s_X11_image {S : SH} {d cb sb : Nat} {Q : Option Value → AH → Prop} (hd : 1 ≤ d)  {r0 : Nat} {x1 : Int32} {h : AH} (k : ok (f_X11_image S r0 x1 h) (fun w h' => Q (some (.int w)) h')) : WP S M_X11_image d cb sb Q 0 [.ref r0, .int x1, JK] [] h := by
  obtain ⟨d, rfl, he⟩ := dp (L := 0) hd
  unfold f_X11_image at k
  refine wp_aload_n dX11_image_0 rfl ?_
  refine wp_iconst dX11_image_1 ic_0 ?_
  replace k := ok_bind k
  obtain ⟨h_1, e_2, k⟩ := k
  refine wq_putI fl_X11_152 rfl rfl dX11_image_2 e_2 ?_
  refine wp_iload_n dX11_image_5 rfl ?_
  refine wp_i2l dX11_image_6 ?_
  refine wp_lconst dX11_image_7 lc_0 ?_
  refine wp_lconst dX11_image_8 lc_1 ?_
  refine wp_callS3 (N := M_X11_in) mf_X11_in ms_X11_in ml_X11_172 dX11_image_9 (by exact Nat.le_of_ble_eq_true rfl) (c_X11_in (Nat.le_trans (by decide) he) (ok_mono (ok_bind2 k) fun z_4 h_3 k => ?_))
  try dsimp only at k
  refine wp_if_ne 21 dX11_image_12 (by decide) (fun c_5 => ?_) (fun c_5 => ?_)
  · replace k := ok_f c_5 k
    refine wp_iconst dX11_image_21 ic_0 ?_
    refine wp_istore_n dX11_image_22 (by decide) (L1 := [_, _, _]) rfl ?_
    refine wp_wk (wkE <| wkE <| wkE <| wkN) ?_
    refine s_X11_image_l23 (Nat.succ_le_succ he) (fun r0_7 x1_8 h_6 k => ?_) FU _ _ _ _ (ok_bind2 k)
    try dsimp only at k
    refine wp_aload_n dX11_image_54 rfl ?_
    replace k := ok_bind k
    obtain ⟨p_9, e_10, k⟩ := k
    refine wq_getR fl_X11_19 (Or.inr ⟨_, rfl⟩) dX11_image_55 e_10 ?_
    refine wp_iload_n dX11_image_58 rfl ?_
    refine wp_iconst dX11_image_59 ic_1 ?_
    replace k := ok_bind k
    obtain ⟨h_11, e_12, k⟩ := k
    refine wq_sZ dX11_image_60 e_12 ?_
    refine wp_aload_n dX11_image_61 rfl ?_
    refine wp_iconst dX11_image_62 ic_0 ?_
    replace k := ok_bind k
    obtain ⟨u, e_13, k⟩ := k
    refine wp_callV1 (N := M_X11_tell) (ci := 11) mf_X11_tell mi_X11_tell me_X11_tell ml_X11_161 dX11_image_63 (ckO_e e_13) mv_X11_tell (by exact Nat.le_of_ble_eq_true rfl) (c_X11_tell (Nat.le_trans (by decide) he) (ok_mono (ok_bind2 k) fun z_15 h_14 k => ?_))
    try dsimp only at k
    refine wp_iret rfl rfl dX11_image_66 ?_
    exact (ok_some k :)
  · replace k := ok_t c_5 k
    refine wp_aload_n dX11_image_15 rfl ?_
    refine wp_iconst dX11_image_16 ic_m1 ?_
    replace k := ok_bind k
    obtain ⟨u, e_16, k⟩ := k
    refine wp_callV1 (N := M_X11_tell) (ci := 11) mf_X11_tell mi_X11_tell me_X11_tell ml_X11_161 dX11_image_17 (ckO_e e_16) mv_X11_tell (by exact Nat.le_of_ble_eq_true rfl) (c_X11_tell (Nat.le_trans (by decide) he) (ok_mono (ok_bind2 k) fun z_18 h_17 k => ?_))
    try dsimp only at k
    refine wp_iret rfl rfl dX11_image_20 ?_
    exact (ok_some k :)
theorem c_X11_image {S : SH} {d : Nat} {K : Option Value → AH → Prop} (hd : 1 ≤ d)  {r0 : Nat} {x1 : Int32} {h : AH} (k : ok (f_X11_image S r0 x1 h) (fun w h' => K (some (.int w)) h')) : CP S M_X11_image d 0 0 [.ref r0, .int x1] h K := cp_of (by decide) (fun _ _ => trivial) (fun _ => Nat.le_of_ble_eq_true rfl) (s_X11_image hd  k)
def f_X11_back_l39b (S : SH) (rc : Nat → Int32 → Int32 → AH → Option (Nat × AH)) (r0 : Nat) (x1 : Int32) (x2 : Int32) (h : AH) : Option (Nat × AH) :=
  if (5490 : Int32) ≤ x2 then
    some (r0, h)
  else
    (gR S h r0 11 3).bind fun p_2 =>
    (gR S h r0 11 4).bind fun p_4 =>
    (aI S h p_4 (((5490 : Int32) * x1) + x2)).bind fun v_6 =>
    (sI S h p_2 x2 v_6).bind fun h_8 =>
    lt (x2 + (1 : Int32)) fun y_10 =>
    rc r0 x1 y_10 h_8
set_option maxHeartbeats 8000000 in
set_option maxRecDepth 20000 in
theorem s_X11_back_l39b {S : SH} {d cb sb : Nat} {Q : Option Value → AH → Prop} (hd : 2 ≤ d) {K : Nat → AH → Prop} (hex : ∀ (r0 : Nat) (h' : AH), K r0 h' → WP S M_X11_back d cb sb Q 70 [.ref r0, JK, JK] [] h') {rc : Nat → Int32 → Int32 → AH → Option (Nat × AH)} (hrec : ∀ (r0 : Nat) (x1 : Int32) (x2 : Int32) (h' : AH), ok (rc r0 x1 x2 h') K → WP S M_X11_back d cb sb Q 39 [.ref r0, .int x1, .int x2] [] h') {r0 : Nat} {x1 : Int32} {x2 : Int32} {h : AH} (k : ok (f_X11_back_l39b S rc r0 x1 x2 h) K) : WP S M_X11_back d cb sb Q 39 [.ref r0, .int x1, .int x2] [] h := by
  obtain ⟨d, rfl, he⟩ := dp (L := 1) hd
  unfold f_X11_back_l39b at k
  refine wp_iload_n dX11_back_39 rfl ?_
  refine wp_sipush dX11_back_40 sp_5490 ?_
  refine wp_icmp_ge 70 dX11_back_43 (by decide) (fun c_1 => ?_) (fun c_1 => ?_)
  · replace k := ok_t c_1 k
    exact wp_wk (wkE <| wkJ <| wkJ <| wkN) (hex _ _ (ok_some k))
  · replace k := ok_f c_1 k
    refine wp_aload_n dX11_back_46 rfl ?_
    replace k := ok_bind k
    obtain ⟨p_2, e_3, k⟩ := k
    refine wq_getR fl_X11_13 (Or.inr ⟨_, rfl⟩) dX11_back_47 e_3 ?_
    refine wp_iload_n dX11_back_50 rfl ?_
    refine wp_aload_n dX11_back_51 rfl ?_
    replace k := ok_bind k
    obtain ⟨p_4, e_5, k⟩ := k
    refine wq_getR fl_X11_16 (Or.inr ⟨_, rfl⟩) dX11_back_52 e_5 ?_
    refine wp_sipush dX11_back_55 sp_5490 ?_
    refine wp_iload_n dX11_back_58 rfl ?_
    refine wp_imul dX11_back_59 ?_
    refine wp_iload_n dX11_back_60 rfl ?_
    refine wp_iadd dX11_back_61 ?_
    replace k := ok_bind k
    obtain ⟨v_6, e_7, k⟩ := k
    refine wq_aI dX11_back_62 e_7 ?_
    replace k := ok_bind k
    obtain ⟨h_8, e_9, k⟩ := k
    refine wq_sI dX11_back_63 e_9 ?_
    replace k := ok_lt k
    refine wp_iinc dX11_back_64 rfl ic_1 (by decide) (L1 := [_, _, _]) rfl ?_
    refine wp_goto 39 dX11_back_67 (by decide) ?_
    exact wp_wk (wkE <| wkE <| wkE <| wkN) (hrec _ _ _ _ k)
def f_X11_back_l39 (S : SH) : Nat → Nat → Int32 → Int32 → AH → Option (Nat × AH)
  | 0, _, _, _, _ => none
  | n + 1, r0, x1, x2, h => f_X11_back_l39b S (f_X11_back_l39 S n) r0 x1 x2 h
theorem s_X11_back_l39 {S : SH} {d cb sb : Nat} {Q : Option Value → AH → Prop} (hd : 2 ≤ d) {K : Nat → AH → Prop} (hex : ∀ (r0 : Nat) (h' : AH), K r0 h' → WP S M_X11_back d cb sb Q 70 [.ref r0, JK, JK] [] h') : ∀ (n : Nat) (r0 : Nat) (x1 : Int32) (x2 : Int32) (h : AH), ok (f_X11_back_l39 S n r0 x1 x2 h) K → WP S M_X11_back d cb sb Q 39 [.ref r0, .int x1, .int x2] [] h := by
  intro n
  induction n with
  | zero => intro r0 x1 x2 h k; exact ok_none k
  | succ n ih => intro r0 x1 x2 h k; exact s_X11_back_l39b hd hex (fun r0 x1 x2 h k => ih r0 x1 x2 h k) k
def f_X11_back (S : SH) (r0 : Nat) (x1 : Int32) (h : AH) : Option (Int32 × AH) :=
  (pI S h r0 11 0 (0 : Int32)).bind fun h_1 =>
  (f_X11_in S (Int32.toInt64 x1) (0 : Int64) (1 : Int64) h_1).bind fun z => match z with
  | (z_4, h_3) =>
  if z_4 = (0 : Int32) then
    (ckO S h_3 r0 11).bind fun _ =>
    (f_X11_tell S r0 (-1 : Int32) h_3).bind fun z => match z with
    | (z_21, h_20) =>
    some (z_21, h_20)
  else
    (gR S h_3 r0 11 5).bind fun p_6 =>
    (aZ S h_3 p_6 x1).bind fun v_8 =>
    if v_8 = (0 : Int32) then
      (ckO S h_3 r0 11).bind fun _ =>
      (f_X11_tell S r0 (-2 : Int32) h_3).bind fun z => match z with
      | (z_18, h_17) =>
      some (z_18, h_17)
    else
      (f_X11_back_l39 S FU r0 x1 (0 : Int32) h_3).bind fun z => match z with
      | (r0_12, h_11) =>
      (ckO S h_11 r0_12 11).bind fun _ =>
      (f_X11_lasting S r0_12 (0 : Int32) h_11).bind fun z => match z with
      | (z_15, h_14) =>
      some (z_15, h_14)
set_option maxHeartbeats 8000000 in
set_option maxRecDepth 20000 in
theorem s_X11_back {S : SH} {d cb sb : Nat} {Q : Option Value → AH → Prop} (hd : 2 ≤ d)  {r0 : Nat} {x1 : Int32} {h : AH} (k : ok (f_X11_back S r0 x1 h) (fun w h' => Q (some (.int w)) h')) : WP S M_X11_back d cb sb Q 0 [.ref r0, .int x1, JK] [] h := by
  obtain ⟨d, rfl, he⟩ := dp (L := 1) hd
  unfold f_X11_back at k
  refine wp_aload_n dX11_back_0 rfl ?_
  refine wp_iconst dX11_back_1 ic_0 ?_
  replace k := ok_bind k
  obtain ⟨h_1, e_2, k⟩ := k
  refine wq_putI fl_X11_152 rfl rfl dX11_back_2 e_2 ?_
  refine wp_iload_n dX11_back_5 rfl ?_
  refine wp_i2l dX11_back_6 ?_
  refine wp_lconst dX11_back_7 lc_0 ?_
  refine wp_lconst dX11_back_8 lc_1 ?_
  refine wp_callS3 (N := M_X11_in) mf_X11_in ms_X11_in ml_X11_172 dX11_back_9 (by exact Nat.le_of_ble_eq_true rfl) (c_X11_in (Nat.le_trans (by decide) he) (ok_mono (ok_bind2 k) fun z_4 h_3 k => ?_))
  try dsimp only at k
  refine wp_if_ne 21 dX11_back_12 (by decide) (fun c_5 => ?_) (fun c_5 => ?_)
  · replace k := ok_f c_5 k
    refine wp_aload_n dX11_back_21 rfl ?_
    replace k := ok_bind k
    obtain ⟨p_6, e_7, k⟩ := k
    refine wq_getR fl_X11_19 (Or.inr ⟨_, rfl⟩) dX11_back_22 e_7 ?_
    refine wp_iload_n dX11_back_25 rfl ?_
    replace k := ok_bind k
    obtain ⟨v_8, e_9, k⟩ := k
    refine wq_aZ dX11_back_26 e_9 ?_
    refine wp_if_ne 37 dX11_back_27 (by decide) (fun c_10 => ?_) (fun c_10 => ?_)
    · replace k := ok_f c_10 k
      refine wp_iconst dX11_back_37 ic_0 ?_
      refine wp_istore_n dX11_back_38 (by decide) (L1 := [_, _, _]) rfl ?_
      refine wp_wk (wkE <| wkE <| wkE <| wkN) ?_
      refine s_X11_back_l39 (Nat.succ_le_succ he) (fun r0_12 h_11 k => ?_) FU _ _ _ _ (ok_bind2 k)
      try dsimp only at k
      refine wp_aload_n dX11_back_70 rfl ?_
      refine wp_iconst dX11_back_71 ic_0 ?_
      replace k := ok_bind k
      obtain ⟨u, e_13, k⟩ := k
      refine wp_callV1 (N := M_X11_lasting) (ci := 11) mf_X11_lasting mi_X11_lasting me_X11_lasting ml_X11_176 dX11_back_72 (ckO_e e_13) mv_X11_lasting (by exact Nat.le_of_ble_eq_true rfl) (c_X11_lasting (Nat.le_trans (by decide) he) (ok_mono (ok_bind2 k) fun z_15 h_14 k => ?_))
      try dsimp only at k
      refine wp_iret rfl rfl dX11_back_75 ?_
      exact (ok_some k :)
    · replace k := ok_t c_10 k
      refine wp_aload_n dX11_back_30 rfl ?_
      refine wp_bipush dX11_back_31 bp_m2 ?_
      replace k := ok_bind k
      obtain ⟨u, e_16, k⟩ := k
      refine wp_callV1 (N := M_X11_tell) (ci := 11) mf_X11_tell mi_X11_tell me_X11_tell ml_X11_161 dX11_back_33 (ckO_e e_16) mv_X11_tell (by exact Nat.le_of_ble_eq_true rfl) (c_X11_tell (Nat.le_trans (by decide) he) (ok_mono (ok_bind2 k) fun z_18 h_17 k => ?_))
      try dsimp only at k
      refine wp_iret rfl rfl dX11_back_36 ?_
      exact (ok_some k :)
  · replace k := ok_t c_5 k
    refine wp_aload_n dX11_back_15 rfl ?_
    refine wp_iconst dX11_back_16 ic_m1 ?_
    replace k := ok_bind k
    obtain ⟨u, e_19, k⟩ := k
    refine wp_callV1 (N := M_X11_tell) (ci := 11) mf_X11_tell mi_X11_tell me_X11_tell ml_X11_161 dX11_back_17 (ckO_e e_19) mv_X11_tell (by exact Nat.le_of_ble_eq_true rfl) (c_X11_tell (Nat.le_trans (by decide) he) (ok_mono (ok_bind2 k) fun z_21 h_20 k => ?_))
    try dsimp only at k
    refine wp_iret rfl rfl dX11_back_20 ?_
    exact (ok_some k :)
theorem c_X11_back {S : SH} {d : Nat} {K : Option Value → AH → Prop} (hd : 2 ≤ d)  {r0 : Nat} {x1 : Int32} {h : AH} (k : ok (f_X11_back S r0 x1 h) (fun w h' => K (some (.int w)) h')) : CP S M_X11_back d 0 0 [.ref r0, .int x1] h K := cp_of (by decide) (fun _ _ => trivial) (fun _ => Nat.le_of_ble_eq_true rfl) (s_X11_back hd  k)
def f_X11_isBird (S : SH) (r0 : Nat) (x1 : Int32) (h : AH) : Option (Int32 × AH) :=
  (gR S h r0 11 3).bind fun p_1 =>
  (aI S h p_1 (0 : Int32)).bind fun v_3 =>
  (f_X11_in S (Int32.toInt64 x1) (0 : Int64) (((Int32.toInt64 v_3) - (1 : Int64))) h).bind fun z => match z with
  | (z_6, h_5) =>
  (isZ z_6).bind fun _ =>
  some (z_6, h_5)
set_option maxHeartbeats 8000000 in
set_option maxRecDepth 20000 in
theorem s_X11_isBird {S : SH} {d cb sb : Nat} {Q : Option Value → AH → Prop} (hd : 1 ≤ d)  {r0 : Nat} {x1 : Int32} {h : AH} (k : ok (f_X11_isBird S r0 x1 h) (fun w h' => Q (some (.int w)) h')) : WP S M_X11_isBird d cb sb Q 0 [.ref r0, .int x1] [] h := by
  obtain ⟨d, rfl, he⟩ := dp (L := 0) hd
  unfold f_X11_isBird at k
  refine wp_iload_n dX11_isBird_0 rfl ?_
  refine wp_i2l dX11_isBird_1 ?_
  refine wp_lconst dX11_isBird_2 lc_0 ?_
  refine wp_aload_n dX11_isBird_3 rfl ?_
  replace k := ok_bind k
  obtain ⟨p_1, e_2, k⟩ := k
  refine wq_getR fl_X11_13 (Or.inr ⟨_, rfl⟩) dX11_isBird_4 e_2 ?_
  refine wp_iconst dX11_isBird_7 ic_0 ?_
  replace k := ok_bind k
  obtain ⟨v_3, e_4, k⟩ := k
  refine wq_aI dX11_isBird_8 e_4 ?_
  refine wp_i2l dX11_isBird_9 ?_
  refine wp_lconst dX11_isBird_10 lc_1 ?_
  refine wp_lsub dX11_isBird_11 ?_
  refine wp_callS3 (N := M_X11_in) mf_X11_in ms_X11_in ml_X11_172 dX11_isBird_12 (by exact Nat.le_of_ble_eq_true rfl) (c_X11_in (Nat.le_trans (by decide) he) (ok_mono (ok_bind2 k) fun z_6 h_5 k => ?_))
  try dsimp only at k
  replace k := ok_bind k
  obtain ⟨u, e_7, k⟩ := k
  refine wp_iret rfl (isZ_n e_7) dX11_isBird_15 ?_
  exact (ok_some k :)
theorem c_X11_isBird {S : SH} {d : Nat} {K : Option Value → AH → Prop} (hd : 1 ≤ d)  {r0 : Nat} {x1 : Int32} {h : AH} (k : ok (f_X11_isBird S r0 x1 h) (fun w h' => K (some (.int w)) h')) : CP S M_X11_isBird d 0 0 [.ref r0, .int x1] h K := cp_of (by decide) (fun _ _ => trivial) (fun _ => Nat.le_of_ble_eq_true rfl) (s_X11_isBird hd  k)
def f_X11_isMatter (S : SH) (r0 : Nat) (x1 : Int32) (h : AH) : Option (Int32 × AH) :=
  (gR S h r0 11 3).bind fun p_1 =>
  (aI S h p_1 (1 : Int32)).bind fun v_3 =>
  (f_X11_in S (Int32.toInt64 x1) (0 : Int64) (((Int32.toInt64 v_3) - (1 : Int64))) h).bind fun z => match z with
  | (z_6, h_5) =>
  (isZ z_6).bind fun _ =>
  some (z_6, h_5)
set_option maxHeartbeats 8000000 in
set_option maxRecDepth 20000 in
theorem s_X11_isMatter {S : SH} {d cb sb : Nat} {Q : Option Value → AH → Prop} (hd : 1 ≤ d)  {r0 : Nat} {x1 : Int32} {h : AH} (k : ok (f_X11_isMatter S r0 x1 h) (fun w h' => Q (some (.int w)) h')) : WP S M_X11_isMatter d cb sb Q 0 [.ref r0, .int x1] [] h := by
  obtain ⟨d, rfl, he⟩ := dp (L := 0) hd
  unfold f_X11_isMatter at k
  refine wp_iload_n dX11_isMatter_0 rfl ?_
  refine wp_i2l dX11_isMatter_1 ?_
  refine wp_lconst dX11_isMatter_2 lc_0 ?_
  refine wp_aload_n dX11_isMatter_3 rfl ?_
  replace k := ok_bind k
  obtain ⟨p_1, e_2, k⟩ := k
  refine wq_getR fl_X11_13 (Or.inr ⟨_, rfl⟩) dX11_isMatter_4 e_2 ?_
  refine wp_iconst dX11_isMatter_7 ic_1 ?_
  replace k := ok_bind k
  obtain ⟨v_3, e_4, k⟩ := k
  refine wq_aI dX11_isMatter_8 e_4 ?_
  refine wp_i2l dX11_isMatter_9 ?_
  refine wp_lconst dX11_isMatter_10 lc_1 ?_
  refine wp_lsub dX11_isMatter_11 ?_
  refine wp_callS3 (N := M_X11_in) mf_X11_in ms_X11_in ml_X11_172 dX11_isMatter_12 (by exact Nat.le_of_ble_eq_true rfl) (c_X11_in (Nat.le_trans (by decide) he) (ok_mono (ok_bind2 k) fun z_6 h_5 k => ?_))
  try dsimp only at k
  replace k := ok_bind k
  obtain ⟨u, e_7, k⟩ := k
  refine wp_iret rfl (isZ_n e_7) dX11_isMatter_15 ?_
  exact (ok_some k :)
theorem c_X11_isMatter {S : SH} {d : Nat} {K : Option Value → AH → Prop} (hd : 1 ≤ d)  {r0 : Nat} {x1 : Int32} {h : AH} (k : ok (f_X11_isMatter S r0 x1 h) (fun w h' => K (some (.int w)) h')) : CP S M_X11_isMatter d 0 0 [.ref r0, .int x1] h K := cp_of (by decide) (fun _ _ => trivial) (fun _ => Nat.le_of_ble_eq_true rfl) (s_X11_isMatter hd  k)
def f_X11_isTree (S : SH) (x0 : Int32) (h : AH) : Option (Int32 × AH) :=
  (f_X11_in S (Int32.toInt64 x0) (-1 : Int64) (19 : Int64) h).bind fun z => match z with
  | (z_2, h_1) =>
  (isZ z_2).bind fun _ =>
  some (z_2, h_1)
set_option maxHeartbeats 8000000 in
set_option maxRecDepth 20000 in
theorem s_X11_isTree {S : SH} {d cb sb : Nat} {Q : Option Value → AH → Prop} (hd : 1 ≤ d)  {x0 : Int32} {h : AH} (k : ok (f_X11_isTree S x0 h) (fun w h' => Q (some (.int w)) h')) : WP S M_X11_isTree d cb sb Q 0 [.int x0] [] h := by
  obtain ⟨d, rfl, he⟩ := dp (L := 0) hd
  unfold f_X11_isTree at k
  refine wp_iload_n dX11_isTree_0 rfl ?_
  refine wp_i2l dX11_isTree_1 ?_
  refine wp_ldc2 ct_X11_179 dX11_isTree_2 ?_
  refine wp_ldc2 ct_X11_181 dX11_isTree_5 ?_
  refine wp_callS3 (N := M_X11_in) mf_X11_in ms_X11_in ml_X11_172 dX11_isTree_8 (by exact Nat.le_of_ble_eq_true rfl) (c_X11_in (Nat.le_trans (by decide) he) (ok_mono (ok_bind2 k) fun z_2 h_1 k => ?_))
  try dsimp only at k
  replace k := ok_bind k
  obtain ⟨u, e_3, k⟩ := k
  refine wp_iret rfl (isZ_n e_3) dX11_isTree_11 ?_
  exact (ok_some k :)
theorem c_X11_isTree {S : SH} {d : Nat} {K : Option Value → AH → Prop} (hd : 1 ≤ d)  {x0 : Int32} {h : AH} (k : ok (f_X11_isTree S x0 h) (fun w h' => K (some (.int w)) h')) : CP S M_X11_isTree d 0 0 [.int x0] h K := cp_of (by decide) (fun _ _ => trivial) (fun _ => Nat.le_of_ble_eq_true rfl) (s_X11_isTree hd  k)
def f_X11_isAway (S : SH) (r0 : Nat) (x1 : Int32) (h : AH) : Option (Int32 × AH) :=
  (gR S h r0 11 3).bind fun p_1 =>
  (aI S h p_1 ((10 : Int32) + x1)).bind fun v_3 =>
  if v_3 = (-1 : Int32) then
    some ((1 : Int32), h)
  else
    some ((0 : Int32), h)
set_option maxHeartbeats 8000000 in
set_option maxRecDepth 20000 in
theorem s_X11_isAway {S : SH} {d cb sb : Nat} {Q : Option Value → AH → Prop} (hd : 0 ≤ d)  {r0 : Nat} {x1 : Int32} {h : AH} (k : ok (f_X11_isAway S r0 x1 h) (fun w h' => Q (some (.int w)) h')) : WP S M_X11_isAway d cb sb Q 0 [.ref r0, .int x1] [] h := by
  unfold f_X11_isAway at k
  refine wp_aload_n dX11_isAway_0 rfl ?_
  replace k := ok_bind k
  obtain ⟨p_1, e_2, k⟩ := k
  refine wq_getR fl_X11_13 (Or.inr ⟨_, rfl⟩) dX11_isAway_1 e_2 ?_
  refine wp_bipush dX11_isAway_4 bp_10 ?_
  refine wp_iload_n dX11_isAway_6 rfl ?_
  refine wp_iadd dX11_isAway_7 ?_
  replace k := ok_bind k
  obtain ⟨v_3, e_4, k⟩ := k
  refine wq_aI dX11_isAway_8 e_4 ?_
  refine wp_iconst dX11_isAway_9 ic_m1 ?_
  refine wp_icmp_ne 17 dX11_isAway_10 (by decide) (fun c_5 => ?_) (fun c_5 => ?_)
  · replace k := ok_f c_5 k
    refine wp_iconst dX11_isAway_17 ic_0 ?_
    refine wp_iret rfl rfl dX11_isAway_18 ?_
    exact (ok_some k :)
  · replace k := ok_t c_5 k
    refine wp_iconst dX11_isAway_13 ic_1 ?_
    refine wp_goto 18 dX11_isAway_14 (by decide) ?_
    refine wp_iret rfl rfl dX11_isAway_18 ?_
    exact (ok_some k :)
theorem c_X11_isAway {S : SH} {d : Nat} {K : Option Value → AH → Prop} (hd : 0 ≤ d)  {r0 : Nat} {x1 : Int32} {h : AH} (k : ok (f_X11_isAway S r0 x1 h) (fun w h' => K (some (.int w)) h')) : CP S M_X11_isAway d 0 0 [.ref r0, .int x1] h K := cp_of (by decide) (fun _ _ => trivial) (fun _ => Nat.le_of_ble_eq_true rfl) (s_X11_isAway hd  k)
def f_X11_present_l4b (S : SH) (rc : Nat → Int32 → Int32 → AH → Option (Int32 × AH)) (r0 : Nat) (x1 : Int32) (x2 : Int32) (h : AH) : Option (Int32 × AH) :=
  (gR S h r0 11 3).bind fun p_1 =>
  (aI S h p_1 (0 : Int32)).bind fun v_3 =>
  if v_3 ≤ x2 then
    some (x1, h)
  else
    (ckO S h r0 11).bind fun _ =>
    (f_X11_isAway S r0 x2 h).bind fun z => match z with
    | (z_8, h_7) =>
    if z_8 = (0 : Int32) then
      lt ((x1 ||| ((1 : Int32) <<< (x2 &&& (31 : Int32))))) fun y_10 =>
      lt (x2 + (1 : Int32)) fun y_11 =>
      rc r0 y_10 y_11 h_7
    else
      lt ((x1 ||| (0 : Int32))) fun y_12 =>
      lt (x2 + (1 : Int32)) fun y_13 =>
      rc r0 y_12 y_13 h_7
set_option maxHeartbeats 8000000 in
set_option maxRecDepth 20000 in
theorem s_X11_present_l4b {S : SH} {d cb sb : Nat} {Q : Option Value → AH → Prop} (hd : 1 ≤ d) {K : Int32 → AH → Prop} (hex : ∀ (x1 : Int32) (h' : AH), K x1 h' → WP S M_X11_present d cb sb Q 38 [JK, .int x1, JK] [] h') {rc : Nat → Int32 → Int32 → AH → Option (Int32 × AH)} (hrec : ∀ (r0 : Nat) (x1 : Int32) (x2 : Int32) (h' : AH), ok (rc r0 x1 x2 h') K → WP S M_X11_present d cb sb Q 4 [.ref r0, .int x1, .int x2] [] h') {r0 : Nat} {x1 : Int32} {x2 : Int32} {h : AH} (k : ok (f_X11_present_l4b S rc r0 x1 x2 h) K) : WP S M_X11_present d cb sb Q 4 [.ref r0, .int x1, .int x2] [] h := by
  obtain ⟨d, rfl, he⟩ := dp (L := 0) hd
  unfold f_X11_present_l4b at k
  refine wp_iload_n dX11_present_4 rfl ?_
  refine wp_aload_n dX11_present_5 rfl ?_
  replace k := ok_bind k
  obtain ⟨p_1, e_2, k⟩ := k
  refine wq_getR fl_X11_13 (Or.inr ⟨_, rfl⟩) dX11_present_6 e_2 ?_
  refine wp_iconst dX11_present_9 ic_0 ?_
  replace k := ok_bind k
  obtain ⟨v_3, e_4, k⟩ := k
  refine wq_aI dX11_present_10 e_4 ?_
  refine wp_icmp_ge 38 dX11_present_11 (by decide) (fun c_5 => ?_) (fun c_5 => ?_)
  · replace k := ok_t c_5 k
    exact wp_wk (wkJ <| wkE <| wkJ <| wkN) (hex _ _ (ok_some k))
  · replace k := ok_f c_5 k
    refine wp_iload_n dX11_present_14 rfl ?_
    refine wp_aload_n dX11_present_15 rfl ?_
    refine wp_iload_n dX11_present_16 rfl ?_
    replace k := ok_bind k
    obtain ⟨u, e_6, k⟩ := k
    refine wp_callV1 (N := M_X11_isAway) (ci := 11) mf_X11_isAway mi_X11_isAway me_X11_isAway ml_X11_183 dX11_present_17 (ckO_e e_6) mv_X11_isAway (by exact Nat.le_of_ble_eq_true rfl) (c_X11_isAway (Nat.le_trans (by decide) he) (ok_mono (ok_bind2 k) fun z_8 h_7 k => ?_))
    try dsimp only at k
    refine wp_if_eq 27 dX11_present_20 (by decide) (fun c_9 => ?_) (fun c_9 => ?_)
    · replace k := ok_t c_9 k
      refine wp_iconst dX11_present_27 ic_1 ?_
      refine wp_iload_n dX11_present_28 rfl ?_
      refine wp_ishl dX11_present_29 ?_
      refine wp_ior dX11_present_30 ?_
      replace k := ok_lt k
      refine wp_istore_n dX11_present_31 (by decide) (L1 := [_, _, _]) rfl ?_
      replace k := ok_lt k
      refine wp_iinc dX11_present_32 rfl ic_1 (by decide) (L1 := [_, _, _]) rfl ?_
      refine wp_goto 4 dX11_present_35 (by decide) ?_
      exact wp_wk (wkE <| wkE <| wkE <| wkN) (hrec _ _ _ _ k)
    · replace k := ok_f c_9 k
      refine wp_iconst dX11_present_23 ic_0 ?_
      refine wp_goto 30 dX11_present_24 (by decide) ?_
      refine wp_ior dX11_present_30 ?_
      replace k := ok_lt k
      refine wp_istore_n dX11_present_31 (by decide) (L1 := [_, _, _]) rfl ?_
      replace k := ok_lt k
      refine wp_iinc dX11_present_32 rfl ic_1 (by decide) (L1 := [_, _, _]) rfl ?_
      refine wp_goto 4 dX11_present_35 (by decide) ?_
      exact wp_wk (wkE <| wkE <| wkE <| wkN) (hrec _ _ _ _ k)
def f_X11_present_l4 (S : SH) : Nat → Nat → Int32 → Int32 → AH → Option (Int32 × AH)
  | 0, _, _, _, _ => none
  | n + 1, r0, x1, x2, h => f_X11_present_l4b S (f_X11_present_l4 S n) r0 x1 x2 h
theorem s_X11_present_l4 {S : SH} {d cb sb : Nat} {Q : Option Value → AH → Prop} (hd : 1 ≤ d) {K : Int32 → AH → Prop} (hex : ∀ (x1 : Int32) (h' : AH), K x1 h' → WP S M_X11_present d cb sb Q 38 [JK, .int x1, JK] [] h') : ∀ (n : Nat) (r0 : Nat) (x1 : Int32) (x2 : Int32) (h : AH), ok (f_X11_present_l4 S n r0 x1 x2 h) K → WP S M_X11_present d cb sb Q 4 [.ref r0, .int x1, .int x2] [] h := by
  intro n
  induction n with
  | zero => intro r0 x1 x2 h k; exact ok_none k
  | succ n ih => intro r0 x1 x2 h k; exact s_X11_present_l4b hd hex (fun r0 x1 x2 h k => ih r0 x1 x2 h k) k
def f_X11_present (S : SH) (r0 : Nat) (h : AH) : Option (Int32 × AH) :=
  (f_X11_present_l4 S FU r0 (0 : Int32) (0 : Int32) h).bind fun z => match z with
  | (x1_2, h_1) =>
  some (x1_2, h_1)
set_option maxHeartbeats 8000000 in
set_option maxRecDepth 20000 in
theorem s_X11_present {S : SH} {d cb sb : Nat} {Q : Option Value → AH → Prop} (hd : 1 ≤ d)  {r0 : Nat} {h : AH} (k : ok (f_X11_present S r0 h) (fun w h' => Q (some (.int w)) h')) : WP S M_X11_present d cb sb Q 0 [.ref r0, JK, JK] [] h := by
  obtain ⟨d, rfl, he⟩ := dp (L := 0) hd
  unfold f_X11_present at k
  refine wp_iconst dX11_present_0 ic_0 ?_
  refine wp_istore_n dX11_present_1 (by decide) (L1 := [_, _, _]) rfl ?_
  refine wp_iconst dX11_present_2 ic_0 ?_
  refine wp_istore_n dX11_present_3 (by decide) (L1 := [_, _, _]) rfl ?_
  refine wp_wk (wkE <| wkE <| wkE <| wkN) ?_
  refine s_X11_present_l4 (Nat.succ_le_succ he) (fun x1_2 h_1 k => ?_) FU _ _ _ _ (ok_bind2 k)
  try dsimp only at k
  refine wp_iload_n dX11_present_38 rfl ?_
  refine wp_iret rfl rfl dX11_present_39 ?_
  exact (ok_some k :)
theorem c_X11_present {S : SH} {d : Nat} {K : Option Value → AH → Prop} (hd : 1 ≤ d)  {r0 : Nat} {h : AH} (k : ok (f_X11_present S r0 h) (fun w h' => K (some (.int w)) h')) : CP S M_X11_present d 0 0 [.ref r0] h K := cp_of (by decide) (fun _ _ => trivial) (fun _ => Nat.le_of_ble_eq_true rfl) (s_X11_present hd  k)
def f_X11_hears_j30 (S : SH) (r0 : Nat) (x1 : Int32) (x2 : Int32) (sx0 : Int32) (h : AH) : Option (Int32 × AH) :=
  if x1 = x2 then
    some ((0 : Int32), h)
  else
    (ckO S h r0 11).bind fun _ =>
    (f_X11_isAway S r0 x1 h).bind fun z => match z with
    | (z_4, h_3) =>
    if z_4 = (0 : Int32) then
      (ckO S h_3 r0 11).bind fun _ =>
      (f_X11_isAway S r0 x2 h_3).bind fun z => match z with
      | (z_8, h_7) =>
      if z_8 = (0 : Int32) then
        (gR S h_7 r0 11 3).bind fun p_10 =>
        (aI S h_7 p_10 ((23 : Int32) + x2)).bind fun v_12 =>
        if v_12 < sx0 then
          some ((0 : Int32), h_7)
        else
          some ((1 : Int32), h_7)
      else
        some ((0 : Int32), h_7)
    else
      some ((0 : Int32), h_3)
set_option maxHeartbeats 8000000 in
set_option maxRecDepth 20000 in
theorem s_X11_hears_j30 {S : SH} {d cb sb : Nat} {Q : Option Value → AH → Prop} (hd : 1 ≤ d)  {r0 : Nat} {x1 : Int32} {x2 : Int32} {sx0 : Int32} {h : AH} (k : ok (f_X11_hears_j30 S r0 x1 x2 sx0 h) (fun w h' => Q (some (.int w)) h')) : WP S M_X11_hears d cb sb Q 30 [.ref r0, .int x1, .int x2, JK] [.int sx0] h := by
  obtain ⟨d, rfl, he⟩ := dp (L := 0) hd
  unfold f_X11_hears_j30 at k
  refine wp_istore_n dX11_hears_30 (by decide) (L1 := [_, _, _, _]) rfl ?_
  refine wp_iload_n dX11_hears_31 rfl ?_
  refine wp_iload_n dX11_hears_32 rfl ?_
  refine wp_icmp_eq 69 dX11_hears_33 (by decide) (fun c_1 => ?_) (fun c_1 => ?_)
  · replace k := ok_t c_1 k
    refine wp_iconst dX11_hears_69 ic_0 ?_
    refine wp_iret rfl rfl dX11_hears_70 ?_
    exact (ok_some k :)
  · replace k := ok_f c_1 k
    refine wp_aload_n dX11_hears_36 rfl ?_
    refine wp_iload_n dX11_hears_37 rfl ?_
    replace k := ok_bind k
    obtain ⟨u, e_2, k⟩ := k
    refine wp_callV1 (N := M_X11_isAway) (ci := 11) mf_X11_isAway mi_X11_isAway me_X11_isAway ml_X11_183 dX11_hears_38 (ckO_e e_2) mv_X11_isAway (by exact Nat.le_of_ble_eq_true rfl) (c_X11_isAway (Nat.le_trans (by decide) he) (ok_mono (ok_bind2 k) fun z_4 h_3 k => ?_))
    try dsimp only at k
    refine wp_if_ne 69 dX11_hears_41 (by decide) (fun c_5 => ?_) (fun c_5 => ?_)
    · replace k := ok_f c_5 k
      refine wp_iconst dX11_hears_69 ic_0 ?_
      refine wp_iret rfl rfl dX11_hears_70 ?_
      exact (ok_some k :)
    · replace k := ok_t c_5 k
      refine wp_aload_n dX11_hears_44 rfl ?_
      refine wp_iload_n dX11_hears_45 rfl ?_
      replace k := ok_bind k
      obtain ⟨u, e_6, k⟩ := k
      refine wp_callV1 (N := M_X11_isAway) (ci := 11) mf_X11_isAway mi_X11_isAway me_X11_isAway ml_X11_183 dX11_hears_46 (ckO_e e_6) mv_X11_isAway (by exact Nat.le_of_ble_eq_true rfl) (c_X11_isAway (Nat.le_trans (by decide) he) (ok_mono (ok_bind2 k) fun z_8 h_7 k => ?_))
      try dsimp only at k
      refine wp_if_ne 69 dX11_hears_49 (by decide) (fun c_9 => ?_) (fun c_9 => ?_)
      · replace k := ok_f c_9 k
        refine wp_iconst dX11_hears_69 ic_0 ?_
        refine wp_iret rfl rfl dX11_hears_70 ?_
        exact (ok_some k :)
      · replace k := ok_t c_9 k
        refine wp_iload_n dX11_hears_52 rfl ?_
        refine wp_aload_n dX11_hears_53 rfl ?_
        replace k := ok_bind k
        obtain ⟨p_10, e_11, k⟩ := k
        refine wq_getR fl_X11_13 (Or.inr ⟨_, rfl⟩) dX11_hears_54 e_11 ?_
        refine wp_bipush dX11_hears_57 bp_23 ?_
        refine wp_iload_n dX11_hears_59 rfl ?_
        refine wp_iadd dX11_hears_60 ?_
        replace k := ok_bind k
        obtain ⟨v_12, e_13, k⟩ := k
        refine wq_aI dX11_hears_61 e_13 ?_
        refine wp_icmp_gt 69 dX11_hears_62 (by decide) (fun c_14 => ?_) (fun c_14 => ?_)
        · replace k := ok_t c_14 k
          refine wp_iconst dX11_hears_69 ic_0 ?_
          refine wp_iret rfl rfl dX11_hears_70 ?_
          exact (ok_some k :)
        · replace k := ok_f c_14 k
          refine wp_iconst dX11_hears_65 ic_1 ?_
          refine wp_goto 70 dX11_hears_66 (by decide) ?_
          refine wp_iret rfl rfl dX11_hears_70 ?_
          exact (ok_some k :)
def f_X11_hears (S : SH) (r0 : Nat) (x1 : Int32) (x2 : Int32) (h : AH) : Option (Int32 × AH) :=
  (gR S h r0 11 3).bind fun p_1 =>
  (aI S h p_1 ((10 : Int32) + x1)).bind fun v_3 =>
  (gR S h r0 11 3).bind fun p_5 =>
  (aI S h p_5 ((10 : Int32) + x2)).bind fun v_7 =>
  lt ((v_3 - v_7)) fun y_9 =>
  if (0 : Int32) ≤ y_9 then
    f_X11_hears_j30 S r0 x1 x2 y_9 h
  else
    f_X11_hears_j30 S r0 x1 x2 (-y_9) h
set_option maxHeartbeats 8000000 in
set_option maxRecDepth 20000 in
theorem s_X11_hears {S : SH} {d cb sb : Nat} {Q : Option Value → AH → Prop} (hd : 1 ≤ d)  {r0 : Nat} {x1 : Int32} {x2 : Int32} {h : AH} (k : ok (f_X11_hears S r0 x1 x2 h) (fun w h' => Q (some (.int w)) h')) : WP S M_X11_hears d cb sb Q 0 [.ref r0, .int x1, .int x2, JK] [] h := by
  obtain ⟨d, rfl, he⟩ := dp (L := 0) hd
  unfold f_X11_hears at k
  refine wp_aload_n dX11_hears_0 rfl ?_
  replace k := ok_bind k
  obtain ⟨p_1, e_2, k⟩ := k
  refine wq_getR fl_X11_13 (Or.inr ⟨_, rfl⟩) dX11_hears_1 e_2 ?_
  refine wp_bipush dX11_hears_4 bp_10 ?_
  refine wp_iload_n dX11_hears_6 rfl ?_
  refine wp_iadd dX11_hears_7 ?_
  replace k := ok_bind k
  obtain ⟨v_3, e_4, k⟩ := k
  refine wq_aI dX11_hears_8 e_4 ?_
  refine wp_aload_n dX11_hears_9 rfl ?_
  replace k := ok_bind k
  obtain ⟨p_5, e_6, k⟩ := k
  refine wq_getR fl_X11_13 (Or.inr ⟨_, rfl⟩) dX11_hears_10 e_6 ?_
  refine wp_bipush dX11_hears_13 bp_10 ?_
  refine wp_iload_n dX11_hears_15 rfl ?_
  refine wp_iadd dX11_hears_16 ?_
  replace k := ok_bind k
  obtain ⟨v_7, e_8, k⟩ := k
  refine wq_aI dX11_hears_17 e_8 ?_
  refine wp_isub dX11_hears_18 ?_
  replace k := ok_lt k
  refine wp_istore_n dX11_hears_19 (by decide) (L1 := [_, _, _, _]) rfl ?_
  refine wp_iload_n dX11_hears_20 rfl ?_
  refine wp_if_ge 29 dX11_hears_21 (by decide) (fun c_10 => ?_) (fun c_10 => ?_)
  · replace k := ok_t c_10 k
    refine wp_iload_n dX11_hears_29 rfl ?_
    exact wp_wk (wkE <| wkE <| wkE <| wkJ <| wkN) (s_X11_hears_j30 (Nat.succ_le_succ he)  k)
  · replace k := ok_f c_10 k
    refine wp_iload_n dX11_hears_24 rfl ?_
    refine wp_ineg dX11_hears_25 ?_
    refine wp_goto 30 dX11_hears_26 (by decide) ?_
    exact wp_wk (wkE <| wkE <| wkE <| wkJ <| wkN) (s_X11_hears_j30 (Nat.succ_le_succ he)  k)
theorem c_X11_hears {S : SH} {d : Nat} {K : Option Value → AH → Prop} (hd : 1 ≤ d)  {r0 : Nat} {x1 : Int32} {x2 : Int32} {h : AH} (k : ok (f_X11_hears S r0 x1 x2 h) (fun w h' => K (some (.int w)) h')) : CP S M_X11_hears d 0 0 [.ref r0, .int x1, .int x2] h K := cp_of (by decide) (fun _ _ => trivial) (fun _ => Nat.le_of_ble_eq_true rfl) (s_X11_hears hd  k)
def f_X11_comes_l60b (S : SH) (rc : Nat → Int32 → Int32 → AH → Option ((Nat × Int32) × AH)) (r0 : Nat) (x3 : Int32) (x4 : Int32) (h : AH) : Option ((Nat × Int32) × AH) :=
  if (6 : Int32) ≤ x4 then
    some ((r0, x3), h)
  else
    (gR S h r0 11 3).bind fun p_2 =>
    (sI S h p_2 (((30 : Int32) + ((6 : Int32) * x3)) + x4) (0 : Int32)).bind fun h_4 =>
    lt (x4 + (1 : Int32)) fun y_6 =>
    rc r0 x3 y_6 h_4
set_option maxHeartbeats 8000000 in
set_option maxRecDepth 20000 in
theorem s_X11_comes_l60b {S : SH} {d cb sb : Nat} {Q : Option Value → AH → Prop} (hd : 2 ≤ d) {K : (Nat × Int32) → AH → Prop} (hex : ∀ (r0 : Nat) (x3 : Int32) (h' : AH), K (r0, x3) h' → WP S M_X11_comes d cb sb Q 89 [.ref r0, JK, JK, .int x3, JK] [] h') {rc : Nat → Int32 → Int32 → AH → Option ((Nat × Int32) × AH)} (hrec : ∀ (r0 : Nat) (x3 : Int32) (x4 : Int32) (h' : AH), ok (rc r0 x3 x4 h') K → WP S M_X11_comes d cb sb Q 60 [.ref r0, JK, JK, .int x3, .int x4] [] h') {r0 : Nat} {x3 : Int32} {x4 : Int32} {h : AH} (k : ok (f_X11_comes_l60b S rc r0 x3 x4 h) K) : WP S M_X11_comes d cb sb Q 60 [.ref r0, JK, JK, .int x3, .int x4] [] h := by
  obtain ⟨d, rfl, he⟩ := dp (L := 1) hd
  unfold f_X11_comes_l60b at k
  refine wp_iload dX11_comes_60 rfl ?_
  refine wp_bipush dX11_comes_62 bp_6 ?_
  refine wp_icmp_ge 89 dX11_comes_64 (by decide) (fun c_1 => ?_) (fun c_1 => ?_)
  · replace k := ok_t c_1 k
    exact wp_wk (wkE <| wkJ <| wkJ <| wkE <| wkJ <| wkN) (hex _ _ _ (ok_some k))
  · replace k := ok_f c_1 k
    refine wp_aload_n dX11_comes_67 rfl ?_
    replace k := ok_bind k
    obtain ⟨p_2, e_3, k⟩ := k
    refine wq_getR fl_X11_13 (Or.inr ⟨_, rfl⟩) dX11_comes_68 e_3 ?_
    refine wp_bipush dX11_comes_71 bp_30 ?_
    refine wp_bipush dX11_comes_73 bp_6 ?_
    refine wp_iload_n dX11_comes_75 rfl ?_
    refine wp_imul dX11_comes_76 ?_
    refine wp_iadd dX11_comes_77 ?_
    refine wp_iload dX11_comes_78 rfl ?_
    refine wp_iadd dX11_comes_80 ?_
    refine wp_iconst dX11_comes_81 ic_0 ?_
    replace k := ok_bind k
    obtain ⟨h_4, e_5, k⟩ := k
    refine wq_sI dX11_comes_82 e_5 ?_
    replace k := ok_lt k
    refine wp_iinc dX11_comes_83 rfl ic_1 (by decide) (L1 := [_, _, _, _, _]) rfl ?_
    refine wp_goto 60 dX11_comes_86 (by decide) ?_
    exact wp_wk (wkE <| wkJ <| wkJ <| wkE <| wkE <| wkN) (hrec _ _ _ _ k)
def f_X11_comes_l60 (S : SH) : Nat → Nat → Int32 → Int32 → AH → Option ((Nat × Int32) × AH)
  | 0, _, _, _, _ => none
  | n + 1, r0, x3, x4, h => f_X11_comes_l60b S (f_X11_comes_l60 S n) r0 x3 x4 h
theorem s_X11_comes_l60 {S : SH} {d cb sb : Nat} {Q : Option Value → AH → Prop} (hd : 2 ≤ d) {K : (Nat × Int32) → AH → Prop} (hex : ∀ (r0 : Nat) (x3 : Int32) (h' : AH), K (r0, x3) h' → WP S M_X11_comes d cb sb Q 89 [.ref r0, JK, JK, .int x3, JK] [] h') : ∀ (n : Nat) (r0 : Nat) (x3 : Int32) (x4 : Int32) (h : AH), ok (f_X11_comes_l60 S n r0 x3 x4 h) K → WP S M_X11_comes d cb sb Q 60 [.ref r0, JK, JK, .int x3, .int x4] [] h := by
  intro n
  induction n with
  | zero => intro r0 x3 x4 h k; exact ok_none k
  | succ n ih => intro r0 x3 x4 h k; exact s_X11_comes_l60b hd hex (fun r0 x3 x4 h k => ih r0 x3 x4 h k) k
def f_X11_comes (S : SH) (r0 : Nat) (x1 : Int32) (x2 : Int32) (h : AH) : Option (Int32 × AH) :=
  (f_X11_isTree S x1 h).bind fun z => match z with
  | (z_2, h_1) =>
  if z_2 = (0 : Int32) then
    some ((-1 : Int32), h_1)
  else
    (f_X11_in S (Int32.toInt64 x2) (0 : Int64) (9 : Int64) h_1).bind fun z => match z with
    | (z_5, h_4) =>
    if z_5 = (0 : Int32) then
      some ((-1 : Int32), h_4)
    else
      (gR S h_4 r0 11 3).bind fun p_7 =>
      (aI S h_4 p_7 (0 : Int32)).bind fun v_9 =>
      if v_9 = (7 : Int32) then
        some ((-5 : Int32), h_4)
      else
        (gR S h_4 r0 11 3).bind fun p_12 =>
        (sI S h_4 p_12 ((10 : Int32) + v_9) x1).bind fun h_14 =>
        (gR S h_14 r0 11 3).bind fun p_16 =>
        (sI S h_14 p_16 ((23 : Int32) + v_9) x2).bind fun h_18 =>
        (f_X11_comes_l60 S FU r0 v_9 (0 : Int32) h_18).bind fun z => match z with
        | ((r0_21, x3_22), h_20) =>
        (gR S h_20 r0_21 11 3).bind fun p_23 =>
        (aI S h_20 p_23 (0 : Int32)).bind fun v_25 =>
        (sI S h_20 p_23 (0 : Int32) (v_25 + (1 : Int32))).bind fun h_27 =>
        some (x3_22, h_27)
set_option maxHeartbeats 8000000 in
set_option maxRecDepth 20000 in
theorem s_X11_comes {S : SH} {d cb sb : Nat} {Q : Option Value → AH → Prop} (hd : 2 ≤ d)  {r0 : Nat} {x1 : Int32} {x2 : Int32} {h : AH} (k : ok (f_X11_comes S r0 x1 x2 h) (fun w h' => Q (some (.int w)) h')) : WP S M_X11_comes d cb sb Q 0 [.ref r0, .int x1, .int x2, JK, JK] [] h := by
  obtain ⟨d, rfl, he⟩ := dp (L := 1) hd
  unfold f_X11_comes at k
  refine wp_iload_n dX11_comes_0 rfl ?_
  refine wp_callS1 (N := M_X11_isTree) mf_X11_isTree ms_X11_isTree ml_X11_187 dX11_comes_1 (by exact Nat.le_of_ble_eq_true rfl) (c_X11_isTree (Nat.le_trans (by decide) he) (ok_mono (ok_bind2 k) fun z_2 h_1 k => ?_))
  try dsimp only at k
  refine wp_if_eq 19 dX11_comes_4 (by decide) (fun c_3 => ?_) (fun c_3 => ?_)
  · replace k := ok_t c_3 k
    refine wp_iconst dX11_comes_19 ic_m1 ?_
    refine wp_iret rfl rfl dX11_comes_20 ?_
    exact (ok_some k :)
  · replace k := ok_f c_3 k
    refine wp_iload_n dX11_comes_7 rfl ?_
    refine wp_i2l dX11_comes_8 ?_
    refine wp_lconst dX11_comes_9 lc_0 ?_
    refine wp_ldc2 ct_X11_190 dX11_comes_10 ?_
    refine wp_callS3 (N := M_X11_in) mf_X11_in ms_X11_in ml_X11_172 dX11_comes_13 (by exact Nat.le_of_ble_eq_true rfl) (c_X11_in (Nat.le_trans (by decide) he) (ok_mono (ok_bind2 k) fun z_5 h_4 k => ?_))
    try dsimp only at k
    refine wp_if_ne 21 dX11_comes_16 (by decide) (fun c_6 => ?_) (fun c_6 => ?_)
    · replace k := ok_f c_6 k
      refine wp_aload_n dX11_comes_21 rfl ?_
      replace k := ok_bind k
      obtain ⟨p_7, e_8, k⟩ := k
      refine wq_getR fl_X11_13 (Or.inr ⟨_, rfl⟩) dX11_comes_22 e_8 ?_
      refine wp_iconst dX11_comes_25 ic_0 ?_
      replace k := ok_bind k
      obtain ⟨v_9, e_10, k⟩ := k
      refine wq_aI dX11_comes_26 e_10 ?_
      refine wp_istore_n dX11_comes_27 (by decide) (L1 := [_, _, _, _, _]) rfl ?_
      refine wp_iload_n dX11_comes_28 rfl ?_
      refine wp_bipush dX11_comes_29 bp_7 ?_
      refine wp_icmp_ne 37 dX11_comes_31 (by decide) (fun c_11 => ?_) (fun c_11 => ?_)
      · replace k := ok_f c_11 k
        refine wp_aload_n dX11_comes_37 rfl ?_
        replace k := ok_bind k
        obtain ⟨p_12, e_13, k⟩ := k
        refine wq_getR fl_X11_13 (Or.inr ⟨_, rfl⟩) dX11_comes_38 e_13 ?_
        refine wp_bipush dX11_comes_41 bp_10 ?_
        refine wp_iload_n dX11_comes_43 rfl ?_
        refine wp_iadd dX11_comes_44 ?_
        refine wp_iload_n dX11_comes_45 rfl ?_
        replace k := ok_bind k
        obtain ⟨h_14, e_15, k⟩ := k
        refine wq_sI dX11_comes_46 e_15 ?_
        refine wp_aload_n dX11_comes_47 rfl ?_
        replace k := ok_bind k
        obtain ⟨p_16, e_17, k⟩ := k
        refine wq_getR fl_X11_13 (Or.inr ⟨_, rfl⟩) dX11_comes_48 e_17 ?_
        refine wp_bipush dX11_comes_51 bp_23 ?_
        refine wp_iload_n dX11_comes_53 rfl ?_
        refine wp_iadd dX11_comes_54 ?_
        refine wp_iload_n dX11_comes_55 rfl ?_
        replace k := ok_bind k
        obtain ⟨h_18, e_19, k⟩ := k
        refine wq_sI dX11_comes_56 e_19 ?_
        refine wp_iconst dX11_comes_57 ic_0 ?_
        refine wp_istore dX11_comes_58 (by decide) (L1 := [_, _, _, _, _]) rfl ?_
        refine wp_wk (wkE <| wkJ <| wkJ <| wkE <| wkE <| wkN) ?_
        refine s_X11_comes_l60 (Nat.succ_le_succ he) (fun r0_21 x3_22 h_20 k => ?_) FU _ _ _ _ (ok_bind2 k)
        try dsimp only at k
        refine wp_aload_n dX11_comes_89 rfl ?_
        replace k := ok_bind k
        obtain ⟨p_23, e_24, k⟩ := k
        refine wq_getR fl_X11_13 (Or.inr ⟨_, rfl⟩) dX11_comes_90 e_24 ?_
        refine wp_iconst dX11_comes_93 ic_0 ?_
        refine wp_dup2 dX11_comes_94 ?_
        replace k := ok_bind k
        obtain ⟨v_25, e_26, k⟩ := k
        refine wq_aI dX11_comes_95 e_26 ?_
        refine wp_iconst dX11_comes_96 ic_1 ?_
        refine wp_iadd dX11_comes_97 ?_
        replace k := ok_bind k
        obtain ⟨h_27, e_28, k⟩ := k
        refine wq_sI dX11_comes_98 e_28 ?_
        refine wp_iload_n dX11_comes_99 rfl ?_
        refine wp_iret rfl rfl dX11_comes_100 ?_
        exact (ok_some k :)
      · replace k := ok_t c_11 k
        refine wp_bipush dX11_comes_34 bp_m5 ?_
        refine wp_iret rfl rfl dX11_comes_36 ?_
        exact (ok_some k :)
    · replace k := ok_t c_6 k
      refine wp_iconst dX11_comes_19 ic_m1 ?_
      refine wp_iret rfl rfl dX11_comes_20 ?_
      exact (ok_some k :)
theorem c_X11_comes {S : SH} {d : Nat} {K : Option Value → AH → Prop} (hd : 2 ≤ d)  {r0 : Nat} {x1 : Int32} {x2 : Int32} {h : AH} (k : ok (f_X11_comes S r0 x1 x2 h) (fun w h' => K (some (.int w)) h')) : CP S M_X11_comes d 0 0 [.ref r0, .int x1, .int x2] h K := cp_of (by decide) (fun _ _ => trivial) (fun _ => Nat.le_of_ble_eq_true rfl) (s_X11_comes hd  k)
def f_X11_bird (S : SH) (r0 : Nat) (x1 : Int32) (x2 : Int32) (h : AH) : Option (Int32 × AH) :=
  (pI S h r0 11 0 (0 : Int32)).bind fun h_1 =>
  (ckO S h_1 r0 11).bind fun _ =>
  (f_X11_comes S r0 x1 x2 h_1).bind fun z => match z with
  | (z_5, h_4) =>
  (ckO S h_4 r0 11).bind fun _ =>
  (f_X11_lasting S r0 z_5 h_4).bind fun z => match z with
  | (z_8, h_7) =>
  some (z_8, h_7)
set_option maxHeartbeats 8000000 in
set_option maxRecDepth 20000 in
theorem s_X11_bird {S : SH} {d cb sb : Nat} {Q : Option Value → AH → Prop} (hd : 3 ≤ d)  {r0 : Nat} {x1 : Int32} {x2 : Int32} {h : AH} (k : ok (f_X11_bird S r0 x1 x2 h) (fun w h' => Q (some (.int w)) h')) : WP S M_X11_bird d cb sb Q 0 [.ref r0, .int x1, .int x2] [] h := by
  obtain ⟨d, rfl, he⟩ := dp (L := 2) hd
  unfold f_X11_bird at k
  refine wp_aload_n dX11_bird_0 rfl ?_
  refine wp_iconst dX11_bird_1 ic_0 ?_
  replace k := ok_bind k
  obtain ⟨h_1, e_2, k⟩ := k
  refine wq_putI fl_X11_152 rfl rfl dX11_bird_2 e_2 ?_
  refine wp_aload_n dX11_bird_5 rfl ?_
  refine wp_aload_n dX11_bird_6 rfl ?_
  refine wp_iload_n dX11_bird_7 rfl ?_
  refine wp_iload_n dX11_bird_8 rfl ?_
  replace k := ok_bind k
  obtain ⟨u, e_3, k⟩ := k
  refine wp_callV2 (N := M_X11_comes) (ci := 11) mf_X11_comes mi_X11_comes me_X11_comes ml_X11_192 dX11_bird_9 (ckO_e e_3) mv_X11_comes (by exact Nat.le_of_ble_eq_true rfl) (c_X11_comes (Nat.le_trans (by decide) he) (ok_mono (ok_bind2 k) fun z_5 h_4 k => ?_))
  try dsimp only at k
  replace k := ok_bind k
  obtain ⟨u, e_6, k⟩ := k
  refine wp_callV1 (N := M_X11_lasting) (ci := 11) mf_X11_lasting mi_X11_lasting me_X11_lasting ml_X11_176 dX11_bird_12 (ckO_e e_6) mv_X11_lasting (by exact Nat.le_of_ble_eq_true rfl) (c_X11_lasting (Nat.le_trans (by decide) he) (ok_mono (ok_bind2 k) fun z_8 h_7 k => ?_))
  try dsimp only at k
  refine wp_iret rfl rfl dX11_bird_15 ?_
  exact (ok_some k :)
theorem c_X11_bird {S : SH} {d : Nat} {K : Option Value → AH → Prop} (hd : 3 ≤ d)  {r0 : Nat} {x1 : Int32} {x2 : Int32} {h : AH} (k : ok (f_X11_bird S r0 x1 x2 h) (fun w h' => K (some (.int w)) h')) : CP S M_X11_bird d 0 0 [.ref r0, .int x1, .int x2] h K := cp_of (by decide) (fun _ _ => trivial) (fun _ => Nat.le_of_ble_eq_true rfl) (s_X11_bird hd  k)
def f_X11_favour (S : SH) (r0 : Nat) (x1 : Int32) (x2 : Int32) (x3 : Int32) (h : AH) : Option (Int32 × AH) :=
  (pI S h r0 11 0 (0 : Int32)).bind fun h_1 =>
  (f_X11_in S (Int32.toInt64 x2) (0 : Int64) (5 : Int64) h_1).bind fun z => match z with
  | (z_4, h_3) =>
  if z_4 = (0 : Int32) then
    (ckO S h_3 r0 11).bind fun _ =>
    (f_X11_tell S r0 (-1 : Int32) h_3).bind fun z => match z with
    | (z_8, h_7) =>
    some (z_8, h_7)
  else
    (f_X11_in S (Int32.toInt64 x3) (0 : Int64) (9 : Int64) h_3).bind fun z => match z with
    | (z_10, h_9) =>
    if z_10 = (0 : Int32) then
      (ckO S h_9 r0 11).bind fun _ =>
      (f_X11_tell S r0 (-1 : Int32) h_9).bind fun z => match z with
      | (z_24, h_23) =>
      some (z_24, h_23)
    else
      (ckO S h_9 r0 11).bind fun _ =>
      (f_X11_isBird S r0 x1 h_9).bind fun z => match z with
      | (z_14, h_13) =>
      if z_14 = (0 : Int32) then
        (ckO S h_13 r0 11).bind fun _ =>
        (f_X11_tell S r0 (-2 : Int32) h_13).bind fun z => match z with
        | (z_21, h_20) =>
        some (z_21, h_20)
      else
        (ckO S h_13 r0 11).bind fun _ =>
        (f_X11_change S r0 ((((30 : Int32) + ((6 : Int32) * x1)) + x2)) x3 h_13).bind fun z => match z with
        | (z_18, h_17) =>
        some (z_18, h_17)
set_option maxHeartbeats 8000000 in
set_option maxRecDepth 20000 in
theorem s_X11_favour {S : SH} {d cb sb : Nat} {Q : Option Value → AH → Prop} (hd : 2 ≤ d)  {r0 : Nat} {x1 : Int32} {x2 : Int32} {x3 : Int32} {h : AH} (k : ok (f_X11_favour S r0 x1 x2 x3 h) (fun w h' => Q (some (.int w)) h')) : WP S M_X11_favour d cb sb Q 0 [.ref r0, .int x1, .int x2, .int x3] [] h := by
  obtain ⟨d, rfl, he⟩ := dp (L := 1) hd
  unfold f_X11_favour at k
  refine wp_aload_n dX11_favour_0 rfl ?_
  refine wp_iconst dX11_favour_1 ic_0 ?_
  replace k := ok_bind k
  obtain ⟨h_1, e_2, k⟩ := k
  refine wq_putI fl_X11_152 rfl rfl dX11_favour_2 e_2 ?_
  refine wp_iload_n dX11_favour_5 rfl ?_
  refine wp_i2l dX11_favour_6 ?_
  refine wp_lconst dX11_favour_7 lc_0 ?_
  refine wp_ldc2 ct_X11_196 dX11_favour_8 ?_
  refine wp_callS3 (N := M_X11_in) mf_X11_in ms_X11_in ml_X11_172 dX11_favour_11 (by exact Nat.le_of_ble_eq_true rfl) (c_X11_in (Nat.le_trans (by decide) he) (ok_mono (ok_bind2 k) fun z_4 h_3 k => ?_))
  try dsimp only at k
  refine wp_if_eq 29 dX11_favour_14 (by decide) (fun c_5 => ?_) (fun c_5 => ?_)
  · replace k := ok_t c_5 k
    refine wp_aload_n dX11_favour_29 rfl ?_
    refine wp_iconst dX11_favour_30 ic_m1 ?_
    replace k := ok_bind k
    obtain ⟨u, e_6, k⟩ := k
    refine wp_callV1 (N := M_X11_tell) (ci := 11) mf_X11_tell mi_X11_tell me_X11_tell ml_X11_161 dX11_favour_31 (ckO_e e_6) mv_X11_tell (by exact Nat.le_of_ble_eq_true rfl) (c_X11_tell (Nat.le_trans (by decide) he) (ok_mono (ok_bind2 k) fun z_8 h_7 k => ?_))
    try dsimp only at k
    refine wp_iret rfl rfl dX11_favour_34 ?_
    exact (ok_some k :)
  · replace k := ok_f c_5 k
    refine wp_iload_n dX11_favour_17 rfl ?_
    refine wp_i2l dX11_favour_18 ?_
    refine wp_lconst dX11_favour_19 lc_0 ?_
    refine wp_ldc2 ct_X11_190 dX11_favour_20 ?_
    refine wp_callS3 (N := M_X11_in) mf_X11_in ms_X11_in ml_X11_172 dX11_favour_23 (by exact Nat.le_of_ble_eq_true rfl) (c_X11_in (Nat.le_trans (by decide) he) (ok_mono (ok_bind2 k) fun z_10 h_9 k => ?_))
    try dsimp only at k
    refine wp_if_ne 35 dX11_favour_26 (by decide) (fun c_11 => ?_) (fun c_11 => ?_)
    · replace k := ok_f c_11 k
      refine wp_aload_n dX11_favour_35 rfl ?_
      refine wp_iload_n dX11_favour_36 rfl ?_
      replace k := ok_bind k
      obtain ⟨u, e_12, k⟩ := k
      refine wp_callV1 (N := M_X11_isBird) (ci := 11) mf_X11_isBird mi_X11_isBird me_X11_isBird ml_X11_198 dX11_favour_37 (ckO_e e_12) mv_X11_isBird (by exact Nat.le_of_ble_eq_true rfl) (c_X11_isBird (Nat.le_trans (by decide) he) (ok_mono (ok_bind2 k) fun z_14 h_13 k => ?_))
      try dsimp only at k
      refine wp_if_ne 50 dX11_favour_40 (by decide) (fun c_15 => ?_) (fun c_15 => ?_)
      · replace k := ok_f c_15 k
        refine wp_aload_n dX11_favour_50 rfl ?_
        refine wp_bipush dX11_favour_51 bp_30 ?_
        refine wp_bipush dX11_favour_53 bp_6 ?_
        refine wp_iload_n dX11_favour_55 rfl ?_
        refine wp_imul dX11_favour_56 ?_
        refine wp_iadd dX11_favour_57 ?_
        refine wp_iload_n dX11_favour_58 rfl ?_
        refine wp_iadd dX11_favour_59 ?_
        refine wp_iload_n dX11_favour_60 rfl ?_
        replace k := ok_bind k
        obtain ⟨u, e_16, k⟩ := k
        refine wp_callV2 (N := M_X11_change) (ci := 11) mf_X11_change mi_X11_change me_X11_change ml_X11_201 dX11_favour_61 (ckO_e e_16) mv_X11_change (by exact Nat.le_of_ble_eq_true rfl) (c_X11_change (Nat.le_trans (by decide) he) (ok_mono (ok_bind2 k) fun z_18 h_17 k => ?_))
        try dsimp only at k
        refine wp_iret rfl rfl dX11_favour_64 ?_
        exact (ok_some k :)
      · replace k := ok_t c_15 k
        refine wp_aload_n dX11_favour_43 rfl ?_
        refine wp_bipush dX11_favour_44 bp_m2 ?_
        replace k := ok_bind k
        obtain ⟨u, e_19, k⟩ := k
        refine wp_callV1 (N := M_X11_tell) (ci := 11) mf_X11_tell mi_X11_tell me_X11_tell ml_X11_161 dX11_favour_46 (ckO_e e_19) mv_X11_tell (by exact Nat.le_of_ble_eq_true rfl) (c_X11_tell (Nat.le_trans (by decide) he) (ok_mono (ok_bind2 k) fun z_21 h_20 k => ?_))
        try dsimp only at k
        refine wp_iret rfl rfl dX11_favour_49 ?_
        exact (ok_some k :)
    · replace k := ok_t c_11 k
      refine wp_aload_n dX11_favour_29 rfl ?_
      refine wp_iconst dX11_favour_30 ic_m1 ?_
      replace k := ok_bind k
      obtain ⟨u, e_22, k⟩ := k
      refine wp_callV1 (N := M_X11_tell) (ci := 11) mf_X11_tell mi_X11_tell me_X11_tell ml_X11_161 dX11_favour_31 (ckO_e e_22) mv_X11_tell (by exact Nat.le_of_ble_eq_true rfl) (c_X11_tell (Nat.le_trans (by decide) he) (ok_mono (ok_bind2 k) fun z_24 h_23 k => ?_))
      try dsimp only at k
      refine wp_iret rfl rfl dX11_favour_34 ?_
      exact (ok_some k :)
theorem c_X11_favour {S : SH} {d : Nat} {K : Option Value → AH → Prop} (hd : 2 ≤ d)  {r0 : Nat} {x1 : Int32} {x2 : Int32} {x3 : Int32} {h : AH} (k : ok (f_X11_favour S r0 x1 x2 x3 h) (fun w h' => K (some (.int w)) h')) : CP S M_X11_favour d 0 0 [.ref r0, .int x1, .int x2, .int x3] h K := cp_of (by decide) (fun _ _ => trivial) (fun _ => Nat.le_of_ble_eq_true rfl) (s_X11_favour hd  k)
def f_X11_hearsAll_l4b (S : SH) (rc : Nat → Int32 → Int32 → Int32 → AH → Option (Int32 × AH)) (r0 : Nat) (x1 : Int32) (x2 : Int32) (x3 : Int32) (h : AH) : Option (Int32 × AH) :=
  (gR S h r0 11 3).bind fun p_1 =>
  (aI S h p_1 (0 : Int32)).bind fun v_3 =>
  if v_3 ≤ x3 then
    some (x2, h)
  else
    (ckO S h r0 11).bind fun _ =>
    (f_X11_hears S r0 x1 x3 h).bind fun z => match z with
    | (z_8, h_7) =>
    if z_8 = (0 : Int32) then
      lt ((x2 ||| (0 : Int32))) fun y_10 =>
      lt (x3 + (1 : Int32)) fun y_11 =>
      rc r0 x1 y_10 y_11 h_7
    else
      lt ((x2 ||| ((1 : Int32) <<< (x3 &&& (31 : Int32))))) fun y_12 =>
      lt (x3 + (1 : Int32)) fun y_13 =>
      rc r0 x1 y_12 y_13 h_7
set_option maxHeartbeats 8000000 in
set_option maxRecDepth 20000 in
theorem s_X11_hearsAll_l4b {S : SH} {d cb sb : Nat} {Q : Option Value → AH → Prop} (hd : 2 ≤ d) {K : Int32 → AH → Prop} (hex : ∀ (x2 : Int32) (h' : AH), K x2 h' → WP S M_X11_hearsAll d cb sb Q 39 [JK, JK, .int x2, JK] [] h') {rc : Nat → Int32 → Int32 → Int32 → AH → Option (Int32 × AH)} (hrec : ∀ (r0 : Nat) (x1 : Int32) (x2 : Int32) (x3 : Int32) (h' : AH), ok (rc r0 x1 x2 x3 h') K → WP S M_X11_hearsAll d cb sb Q 4 [.ref r0, .int x1, .int x2, .int x3] [] h') {r0 : Nat} {x1 : Int32} {x2 : Int32} {x3 : Int32} {h : AH} (k : ok (f_X11_hearsAll_l4b S rc r0 x1 x2 x3 h) K) : WP S M_X11_hearsAll d cb sb Q 4 [.ref r0, .int x1, .int x2, .int x3] [] h := by
  obtain ⟨d, rfl, he⟩ := dp (L := 1) hd
  unfold f_X11_hearsAll_l4b at k
  refine wp_iload_n dX11_hearsAll_4 rfl ?_
  refine wp_aload_n dX11_hearsAll_5 rfl ?_
  replace k := ok_bind k
  obtain ⟨p_1, e_2, k⟩ := k
  refine wq_getR fl_X11_13 (Or.inr ⟨_, rfl⟩) dX11_hearsAll_6 e_2 ?_
  refine wp_iconst dX11_hearsAll_9 ic_0 ?_
  replace k := ok_bind k
  obtain ⟨v_3, e_4, k⟩ := k
  refine wq_aI dX11_hearsAll_10 e_4 ?_
  refine wp_icmp_ge 39 dX11_hearsAll_11 (by decide) (fun c_5 => ?_) (fun c_5 => ?_)
  · replace k := ok_t c_5 k
    exact wp_wk (wkJ <| wkJ <| wkE <| wkJ <| wkN) (hex _ _ (ok_some k))
  · replace k := ok_f c_5 k
    refine wp_iload_n dX11_hearsAll_14 rfl ?_
    refine wp_aload_n dX11_hearsAll_15 rfl ?_
    refine wp_iload_n dX11_hearsAll_16 rfl ?_
    refine wp_iload_n dX11_hearsAll_17 rfl ?_
    replace k := ok_bind k
    obtain ⟨u, e_6, k⟩ := k
    refine wp_callV2 (N := M_X11_hears) (ci := 11) mf_X11_hears mi_X11_hears me_X11_hears ml_X11_204 dX11_hearsAll_18 (ckO_e e_6) mv_X11_hears (by exact Nat.le_of_ble_eq_true rfl) (c_X11_hears (Nat.le_trans (by decide) he) (ok_mono (ok_bind2 k) fun z_8 h_7 k => ?_))
    try dsimp only at k
    refine wp_if_eq 30 dX11_hearsAll_21 (by decide) (fun c_9 => ?_) (fun c_9 => ?_)
    · replace k := ok_t c_9 k
      refine wp_iconst dX11_hearsAll_30 ic_0 ?_
      refine wp_ior dX11_hearsAll_31 ?_
      replace k := ok_lt k
      refine wp_istore_n dX11_hearsAll_32 (by decide) (L1 := [_, _, _, _]) rfl ?_
      replace k := ok_lt k
      refine wp_iinc dX11_hearsAll_33 rfl ic_1 (by decide) (L1 := [_, _, _, _]) rfl ?_
      refine wp_goto 4 dX11_hearsAll_36 (by decide) ?_
      exact wp_wk (wkE <| wkE <| wkE <| wkE <| wkN) (hrec _ _ _ _ _ k)
    · replace k := ok_f c_9 k
      refine wp_iconst dX11_hearsAll_24 ic_1 ?_
      refine wp_iload_n dX11_hearsAll_25 rfl ?_
      refine wp_ishl dX11_hearsAll_26 ?_
      refine wp_goto 31 dX11_hearsAll_27 (by decide) ?_
      refine wp_ior dX11_hearsAll_31 ?_
      replace k := ok_lt k
      refine wp_istore_n dX11_hearsAll_32 (by decide) (L1 := [_, _, _, _]) rfl ?_
      replace k := ok_lt k
      refine wp_iinc dX11_hearsAll_33 rfl ic_1 (by decide) (L1 := [_, _, _, _]) rfl ?_
      refine wp_goto 4 dX11_hearsAll_36 (by decide) ?_
      exact wp_wk (wkE <| wkE <| wkE <| wkE <| wkN) (hrec _ _ _ _ _ k)
def f_X11_hearsAll_l4 (S : SH) : Nat → Nat → Int32 → Int32 → Int32 → AH → Option (Int32 × AH)
  | 0, _, _, _, _, _ => none
  | n + 1, r0, x1, x2, x3, h => f_X11_hearsAll_l4b S (f_X11_hearsAll_l4 S n) r0 x1 x2 x3 h
theorem s_X11_hearsAll_l4 {S : SH} {d cb sb : Nat} {Q : Option Value → AH → Prop} (hd : 2 ≤ d) {K : Int32 → AH → Prop} (hex : ∀ (x2 : Int32) (h' : AH), K x2 h' → WP S M_X11_hearsAll d cb sb Q 39 [JK, JK, .int x2, JK] [] h') : ∀ (n : Nat) (r0 : Nat) (x1 : Int32) (x2 : Int32) (x3 : Int32) (h : AH), ok (f_X11_hearsAll_l4 S n r0 x1 x2 x3 h) K → WP S M_X11_hearsAll d cb sb Q 4 [.ref r0, .int x1, .int x2, .int x3] [] h := by
  intro n
  induction n with
  | zero => intro r0 x1 x2 x3 h k; exact ok_none k
  | succ n ih => intro r0 x1 x2 x3 h k; exact s_X11_hearsAll_l4b hd hex (fun r0 x1 x2 x3 h k => ih r0 x1 x2 x3 h k) k
def f_X11_hearsAll (S : SH) (r0 : Nat) (x1 : Int32) (h : AH) : Option (Int32 × AH) :=
  (f_X11_hearsAll_l4 S FU r0 x1 (0 : Int32) (0 : Int32) h).bind fun z => match z with
  | (x2_2, h_1) =>
  some (x2_2, h_1)
set_option maxHeartbeats 8000000 in
set_option maxRecDepth 20000 in
theorem s_X11_hearsAll {S : SH} {d cb sb : Nat} {Q : Option Value → AH → Prop} (hd : 2 ≤ d)  {r0 : Nat} {x1 : Int32} {h : AH} (k : ok (f_X11_hearsAll S r0 x1 h) (fun w h' => Q (some (.int w)) h')) : WP S M_X11_hearsAll d cb sb Q 0 [.ref r0, .int x1, JK, JK] [] h := by
  obtain ⟨d, rfl, he⟩ := dp (L := 1) hd
  unfold f_X11_hearsAll at k
  refine wp_iconst dX11_hearsAll_0 ic_0 ?_
  refine wp_istore_n dX11_hearsAll_1 (by decide) (L1 := [_, _, _, _]) rfl ?_
  refine wp_iconst dX11_hearsAll_2 ic_0 ?_
  refine wp_istore_n dX11_hearsAll_3 (by decide) (L1 := [_, _, _, _]) rfl ?_
  refine wp_wk (wkE <| wkE <| wkE <| wkE <| wkN) ?_
  refine s_X11_hearsAll_l4 (Nat.succ_le_succ he) (fun x2_2 h_1 k => ?_) FU _ _ _ _ _ (ok_bind2 k)
  try dsimp only at k
  refine wp_iload_n dX11_hearsAll_39 rfl ?_
  refine wp_iret rfl rfl dX11_hearsAll_40 ?_
  exact (ok_some k :)
theorem c_X11_hearsAll {S : SH} {d : Nat} {K : Option Value → AH → Prop} (hd : 2 ≤ d)  {r0 : Nat} {x1 : Int32} {h : AH} (k : ok (f_X11_hearsAll S r0 x1 h) (fun w h' => K (some (.int w)) h')) : CP S M_X11_hearsAll d 0 0 [.ref r0, .int x1] h K := cp_of (by decide) (fun _ _ => trivial) (fun _ => Nat.le_of_ble_eq_true rfl) (s_X11_hearsAll hd  k)
def f_X11_reckon (S : SH) (r0 : Nat) (x1 : Int32) (l2 : Int64) (l4 : Int64) (h : AH) : Option (Int64 × AH) :=
  if x1 = (20 : Int32) then
    some ((l2 + l4), h)
  else
  if x1 = (21 : Int32) then
    some ((l2 - l4), h)
  else
  if x1 = (22 : Int32) then
    some ((l2 * l4), h)
  else
  if x1 = (23 : Int32) then
    if (lg_cmp l4 (0 : Int64)) = (0 : Int32) then
      (pZ S h r0 11 38 (1 : Int32)).bind fun h_12 =>
      (gI S h_12 r0 11 38).bind fun v_14 =>
      if v_14 = (0 : Int32) then
        (nzJ l4).bind fun _ =>
        some ((l2 / l4), h_12)
      else
        some ((0 : Int64), h_12)
    else
      (pZ S h r0 11 38 (0 : Int32)).bind fun h_6 =>
      (gI S h_6 r0 11 38).bind fun v_8 =>
      if v_8 = (0 : Int32) then
        (nzJ l4).bind fun _ =>
        some ((l2 / l4), h_6)
      else
        some ((0 : Int64), h_6)
  else
  if x1 = (24 : Int32) then
    if (lg_cmp l4 (0 : Int64)) = (0 : Int32) then
      (pZ S h r0 11 38 (1 : Int32)).bind fun h_26 =>
      (gI S h_26 r0 11 38).bind fun v_28 =>
      if v_28 = (0 : Int32) then
        (nzJ l4).bind fun _ =>
        some ((rmJ l2 l4), h_26)
      else
        some ((0 : Int64), h_26)
    else
      (pZ S h r0 11 38 (0 : Int32)).bind fun h_20 =>
      (gI S h_20 r0 11 38).bind fun v_22 =>
      if v_22 = (0 : Int32) then
        (nzJ l4).bind fun _ =>
        some ((rmJ l2 l4), h_20)
      else
        some ((0 : Int64), h_20)
  else
  if x1 = (25 : Int32) then
    if (0 : Int32) ≤ (lg_cmp l2 l4) then
      some ((0 : Int64), h)
    else
      some ((1 : Int64), h)
  else
  if x1 = (26 : Int32) then
    if (lg_cmp l2 l4) ≤ (0 : Int32) then
      some ((0 : Int64), h)
    else
      some ((1 : Int64), h)
  else
  if (lg_cmp l2 l4) = (0 : Int32) then
    some ((1 : Int64), h)
  else
    some ((0 : Int64), h)
set_option maxHeartbeats 8000000 in
set_option maxRecDepth 20000 in
theorem s_X11_reckon {S : SH} {d cb sb : Nat} {Q : Option Value → AH → Prop} (hd : 0 ≤ d)  {r0 : Nat} {x1 : Int32} {l2 : Int64} {l4 : Int64} {h : AH} (k : ok (f_X11_reckon S r0 x1 l2 l4 h) (fun w h' => Q (some (.long w)) h')) : WP S M_X11_reckon d cb sb Q 0 [.ref r0, .int x1, .long l2, JK, .long l4, JK] [] h := by
  unfold f_X11_reckon at k
  refine wp_iload_n dX11_reckon_0 rfl ?_
  refine wp_case (20 : Int32) (fun c_1 => ?_) (fun c_1 => ?_)
  · refine wp_tabIn 44 dX11_reckon_1 (by rw [c_1]; decide) (by rw [c_1]; decide) (by rw [c_1]; rfl) (by decide) ?_
    replace k := ok_t c_1 k
    refine wp_lload_n dX11_reckon_44 rfl ?_
    refine wp_lload dX11_reckon_45 rfl ?_
    refine wp_ladd dX11_reckon_47 ?_
    refine wp_lret rfl dX11_reckon_48 ?_
    exact (ok_some k :)
  replace k := ok_f c_1 k
  refine wp_case (21 : Int32) (fun c_2 => ?_) (fun c_2 => ?_)
  · refine wp_tabIn 49 dX11_reckon_1 (by rw [c_2]; decide) (by rw [c_2]; decide) (by rw [c_2]; rfl) (by decide) ?_
    replace k := ok_t c_2 k
    refine wp_lload_n dX11_reckon_49 rfl ?_
    refine wp_lload dX11_reckon_50 rfl ?_
    refine wp_lsub dX11_reckon_52 ?_
    refine wp_lret rfl dX11_reckon_53 ?_
    exact (ok_some k :)
  replace k := ok_f c_2 k
  refine wp_case (22 : Int32) (fun c_3 => ?_) (fun c_3 => ?_)
  · refine wp_tabIn 54 dX11_reckon_1 (by rw [c_3]; decide) (by rw [c_3]; decide) (by rw [c_3]; rfl) (by decide) ?_
    replace k := ok_t c_3 k
    refine wp_lload_n dX11_reckon_54 rfl ?_
    refine wp_lload dX11_reckon_55 rfl ?_
    refine wp_lmul dX11_reckon_57 ?_
    refine wp_lret rfl dX11_reckon_58 ?_
    exact (ok_some k :)
  replace k := ok_f c_3 k
  refine wp_case (23 : Int32) (fun c_4 => ?_) (fun c_4 => ?_)
  · refine wp_tabIn 59 dX11_reckon_1 (by rw [c_4]; decide) (by rw [c_4]; decide) (by rw [c_4]; rfl) (by decide) ?_
    replace k := ok_t c_4 k
    refine wp_aload_n dX11_reckon_59 rfl ?_
    refine wp_lload dX11_reckon_60 rfl ?_
    refine wp_lconst dX11_reckon_62 lc_0 ?_
    refine wp_lcmp dX11_reckon_63 ?_
    refine wp_if_ne 71 dX11_reckon_64 (by decide) (fun c_5 => ?_) (fun c_5 => ?_)
    · replace k := ok_f c_5 k
      refine wp_iconst dX11_reckon_71 ic_0 ?_
      replace k := ok_bind k
      obtain ⟨h_6, e_7, k⟩ := k
      refine wq_putZ fl_X11_405 rfl rfl dX11_reckon_72 e_7 ?_
      refine wp_aload_n dX11_reckon_75 rfl ?_
      replace k := ok_bind k
      obtain ⟨v_8, e_9, k⟩ := k
      refine wq_getI fl_X11_405 (Or.inr rfl) dX11_reckon_76 e_9 ?_
      refine wp_if_eq 86 dX11_reckon_79 (by decide) (fun c_10 => ?_) (fun c_10 => ?_)
      · replace k := ok_t c_10 k
        refine wp_lload_n dX11_reckon_86 rfl ?_
        refine wp_lload dX11_reckon_87 rfl ?_
        replace k := ok_bind k
        obtain ⟨u, e_11, k⟩ := k
        refine wp_ldiv dX11_reckon_89 (nzJ_e e_11) ?_
        refine wp_lret rfl dX11_reckon_90 ?_
        exact (ok_some k :)
      · replace k := ok_f c_10 k
        refine wp_lconst dX11_reckon_82 lc_0 ?_
        refine wp_goto 90 dX11_reckon_83 (by decide) ?_
        refine wp_lret rfl dX11_reckon_90 ?_
        exact (ok_some k :)
    · replace k := ok_t c_5 k
      refine wp_iconst dX11_reckon_67 ic_1 ?_
      refine wp_goto 72 dX11_reckon_68 (by decide) ?_
      replace k := ok_bind k
      obtain ⟨h_12, e_13, k⟩ := k
      refine wq_putZ fl_X11_405 rfl rfl dX11_reckon_72 e_13 ?_
      refine wp_aload_n dX11_reckon_75 rfl ?_
      replace k := ok_bind k
      obtain ⟨v_14, e_15, k⟩ := k
      refine wq_getI fl_X11_405 (Or.inr rfl) dX11_reckon_76 e_15 ?_
      refine wp_if_eq 86 dX11_reckon_79 (by decide) (fun c_16 => ?_) (fun c_16 => ?_)
      · replace k := ok_t c_16 k
        refine wp_lload_n dX11_reckon_86 rfl ?_
        refine wp_lload dX11_reckon_87 rfl ?_
        replace k := ok_bind k
        obtain ⟨u, e_17, k⟩ := k
        refine wp_ldiv dX11_reckon_89 (nzJ_e e_17) ?_
        refine wp_lret rfl dX11_reckon_90 ?_
        exact (ok_some k :)
      · replace k := ok_f c_16 k
        refine wp_lconst dX11_reckon_82 lc_0 ?_
        refine wp_goto 90 dX11_reckon_83 (by decide) ?_
        refine wp_lret rfl dX11_reckon_90 ?_
        exact (ok_some k :)
  replace k := ok_f c_4 k
  refine wp_case (24 : Int32) (fun c_18 => ?_) (fun c_18 => ?_)
  · refine wp_tabIn 91 dX11_reckon_1 (by rw [c_18]; decide) (by rw [c_18]; decide) (by rw [c_18]; rfl) (by decide) ?_
    replace k := ok_t c_18 k
    refine wp_aload_n dX11_reckon_91 rfl ?_
    refine wp_lload dX11_reckon_92 rfl ?_
    refine wp_lconst dX11_reckon_94 lc_0 ?_
    refine wp_lcmp dX11_reckon_95 ?_
    refine wp_if_ne 103 dX11_reckon_96 (by decide) (fun c_19 => ?_) (fun c_19 => ?_)
    · replace k := ok_f c_19 k
      refine wp_iconst dX11_reckon_103 ic_0 ?_
      replace k := ok_bind k
      obtain ⟨h_20, e_21, k⟩ := k
      refine wq_putZ fl_X11_405 rfl rfl dX11_reckon_104 e_21 ?_
      refine wp_aload_n dX11_reckon_107 rfl ?_
      replace k := ok_bind k
      obtain ⟨v_22, e_23, k⟩ := k
      refine wq_getI fl_X11_405 (Or.inr rfl) dX11_reckon_108 e_23 ?_
      refine wp_if_eq 118 dX11_reckon_111 (by decide) (fun c_24 => ?_) (fun c_24 => ?_)
      · replace k := ok_t c_24 k
        refine wp_lload_n dX11_reckon_118 rfl ?_
        refine wp_lload dX11_reckon_119 rfl ?_
        replace k := ok_bind k
        obtain ⟨u, e_25, k⟩ := k
        refine wp_lrem dX11_reckon_121 (nzJ_e e_25) ?_
        refine wp_lret rfl dX11_reckon_122 ?_
        exact (ok_some k :)
      · replace k := ok_f c_24 k
        refine wp_lconst dX11_reckon_114 lc_0 ?_
        refine wp_goto 122 dX11_reckon_115 (by decide) ?_
        refine wp_lret rfl dX11_reckon_122 ?_
        exact (ok_some k :)
    · replace k := ok_t c_19 k
      refine wp_iconst dX11_reckon_99 ic_1 ?_
      refine wp_goto 104 dX11_reckon_100 (by decide) ?_
      replace k := ok_bind k
      obtain ⟨h_26, e_27, k⟩ := k
      refine wq_putZ fl_X11_405 rfl rfl dX11_reckon_104 e_27 ?_
      refine wp_aload_n dX11_reckon_107 rfl ?_
      replace k := ok_bind k
      obtain ⟨v_28, e_29, k⟩ := k
      refine wq_getI fl_X11_405 (Or.inr rfl) dX11_reckon_108 e_29 ?_
      refine wp_if_eq 118 dX11_reckon_111 (by decide) (fun c_30 => ?_) (fun c_30 => ?_)
      · replace k := ok_t c_30 k
        refine wp_lload_n dX11_reckon_118 rfl ?_
        refine wp_lload dX11_reckon_119 rfl ?_
        replace k := ok_bind k
        obtain ⟨u, e_31, k⟩ := k
        refine wp_lrem dX11_reckon_121 (nzJ_e e_31) ?_
        refine wp_lret rfl dX11_reckon_122 ?_
        exact (ok_some k :)
      · replace k := ok_f c_30 k
        refine wp_lconst dX11_reckon_114 lc_0 ?_
        refine wp_goto 122 dX11_reckon_115 (by decide) ?_
        refine wp_lret rfl dX11_reckon_122 ?_
        exact (ok_some k :)
  replace k := ok_f c_18 k
  refine wp_case (25 : Int32) (fun c_32 => ?_) (fun c_32 => ?_)
  · refine wp_tabIn 123 dX11_reckon_1 (by rw [c_32]; decide) (by rw [c_32]; decide) (by rw [c_32]; rfl) (by decide) ?_
    replace k := ok_t c_32 k
    refine wp_lload_n dX11_reckon_123 rfl ?_
    refine wp_lload dX11_reckon_124 rfl ?_
    refine wp_lcmp dX11_reckon_126 ?_
    refine wp_if_ge 134 dX11_reckon_127 (by decide) (fun c_33 => ?_) (fun c_33 => ?_)
    · replace k := ok_t c_33 k
      refine wp_lconst dX11_reckon_134 lc_0 ?_
      refine wp_lret rfl dX11_reckon_135 ?_
      exact (ok_some k :)
    · replace k := ok_f c_33 k
      refine wp_lconst dX11_reckon_130 lc_1 ?_
      refine wp_goto 135 dX11_reckon_131 (by decide) ?_
      refine wp_lret rfl dX11_reckon_135 ?_
      exact (ok_some k :)
  replace k := ok_f c_32 k
  refine wp_case (26 : Int32) (fun c_34 => ?_) (fun c_34 => ?_)
  · refine wp_tabIn 136 dX11_reckon_1 (by rw [c_34]; decide) (by rw [c_34]; decide) (by rw [c_34]; rfl) (by decide) ?_
    replace k := ok_t c_34 k
    refine wp_lload_n dX11_reckon_136 rfl ?_
    refine wp_lload dX11_reckon_137 rfl ?_
    refine wp_lcmp dX11_reckon_139 ?_
    refine wp_if_le 147 dX11_reckon_140 (by decide) (fun c_35 => ?_) (fun c_35 => ?_)
    · replace k := ok_t c_35 k
      refine wp_lconst dX11_reckon_147 lc_0 ?_
      refine wp_lret rfl dX11_reckon_148 ?_
      exact (ok_some k :)
    · replace k := ok_f c_35 k
      refine wp_lconst dX11_reckon_143 lc_1 ?_
      refine wp_goto 148 dX11_reckon_144 (by decide) ?_
      refine wp_lret rfl dX11_reckon_148 ?_
      exact (ok_some k :)
  replace k := ok_f c_34 k
  refine wp_tabOut 149 dX11_reckon_1 (tab_out (n := 7) (fun i hi => ?_)) (by decide) ?_
  · match i, hi with
    | 0, _ => exact ti_ne c_1 (by decide)
    | 1, _ => exact ti_ne c_2 (by decide)
    | 2, _ => exact ti_ne c_3 (by decide)
    | 3, _ => exact ti_ne c_4 (by decide)
    | 4, _ => exact ti_ne c_18 (by decide)
    | 5, _ => exact ti_ne c_32 (by decide)
    | 6, _ => exact ti_ne c_34 (by decide)
    | i + 7, hi => exact absurd hi (by omega)
  refine wp_lload_n dX11_reckon_149 rfl ?_
  refine wp_lload dX11_reckon_150 rfl ?_
  refine wp_lcmp dX11_reckon_152 ?_
  refine wp_if_ne 160 dX11_reckon_153 (by decide) (fun c_36 => ?_) (fun c_36 => ?_)
  · replace k := ok_f c_36 k
    refine wp_lconst dX11_reckon_160 lc_0 ?_
    refine wp_lret rfl dX11_reckon_161 ?_
    exact (ok_some k :)
  · replace k := ok_t c_36 k
    refine wp_lconst dX11_reckon_156 lc_1 ?_
    refine wp_goto 161 dX11_reckon_157 (by decide) ?_
    refine wp_lret rfl dX11_reckon_161 ?_
    exact (ok_some k :)
theorem c_X11_reckon {S : SH} {d : Nat} {K : Option Value → AH → Prop} (hd : 0 ≤ d)  {r0 : Nat} {x1 : Int32} {l2 : Int64} {l4 : Int64} {h : AH} (k : ok (f_X11_reckon S r0 x1 l2 l4 h) (fun w h' => K (some (.long w)) h')) : CP S M_X11_reckon d 0 0 [.ref r0, .int x1, .long l2, .long l4] h K := cp_of (by decide) (fun _ _ => trivial) (fun _ => Nat.le_of_ble_eq_true rfl) (s_X11_reckon hd  k)
def f_X11_reckonAll_l10_j95 (S : SH) (rc : Nat → Int32 → Int32 → Int32 → AH → Option ((Nat × Int32) × AH)) (r0 : Nat) (x2 : Int32) (x3 : Int32) (x4 : Int32) (x5 : Int32) (sx0 : Int32) (h : AH) : Option ((Nat × Int32) × AH) :=
  lt (x4 + (1 : Int32)) fun y_1 =>
  if (20 : Int32) ≤ x5 then
    if (28 : Int32) ≤ x5 then
      if x5 = (28 : Int32) then
        (gR S h r0 11 37).bind fun p_14 =>
        (gR S h r0 11 37).bind fun p_16 =>
        (aJ S h p_16 (x3 - (1 : Int32))).bind fun w_18 =>
        (sJ S h p_14 (x3 - (1 : Int32)) ((1 : Int64) - w_18)).bind fun h_20 =>
        rc r0 x2 x3 y_1 h_20
      else
        (gR S h r0 11 37).bind fun p_5 =>
        (aJ S h p_5 (x3 - (1 : Int32))).bind fun w_7 =>
        if x5 = (29 : Int32) then
          if (lg_cmp w_7 (0 : Int64)) = (0 : Int32) then
            rc r0 x2 x3 sx0 h
          else
            lt (x3 + (-1 : Int32)) fun y_13 =>
            rc r0 x2 y_13 y_1 h
        else
          if (lg_cmp w_7 (1 : Int64)) = (0 : Int32) then
            rc r0 x2 x3 sx0 h
          else
            lt (x3 + (-1 : Int32)) fun y_11 =>
            rc r0 x2 y_11 y_1 h
    else
      lt (x3 + (-1 : Int32)) fun y_22 =>
      (gR S h r0 11 37).bind fun p_23 =>
      (gR S h r0 11 37).bind fun p_25 =>
      (aJ S h p_25 (y_22 - (1 : Int32))).bind fun w_27 =>
      (gR S h r0 11 37).bind fun p_29 =>
      (aJ S h p_29 y_22).bind fun w_31 =>
      (ckO S h r0 11).bind fun _ =>
      (f_X11_reckon S r0 x5 w_27 w_31 h).bind fun z => match z with
      | (z_35, h_34) =>
      (sJ S h_34 p_23 (y_22 - (1 : Int32)) z_35).bind fun h_36 =>
      (gI S h_36 r0 11 38).bind fun v_38 =>
      if v_38 = (0 : Int32) then
        (gR S h_36 r0 11 37).bind fun p_43 =>
        (aJ S h_36 p_43 (y_22 - (1 : Int32))).bind fun w_45 =>
        (f_X11_in S w_45 (-1000000000 : Int64) (1000000000 : Int64) h_36).bind fun z => match z with
        | (z_48, h_47) =>
        if z_48 = (0 : Int32) then
          (pZ S h_47 r0 11 38 (1 : Int32)).bind fun h_52 =>
          rc r0 x2 y_22 y_1 h_52
        else
          (pZ S h_47 r0 11 38 (0 : Int32)).bind fun h_50 =>
          rc r0 x2 y_22 y_1 h_50
      else
        (pZ S h_36 r0 11 38 (1 : Int32)).bind fun h_41 =>
        rc r0 x2 y_22 y_1 h_41
  else
    (gR S h r0 11 37).bind fun p_54 =>
    if x5 = (0 : Int32) then
      (sJ S h p_54 x3 (Int32.toInt64 sx0)).bind fun h_104 =>
      lt (x3 + (1 : Int32)) fun y_106 =>
      rc r0 x2 y_106 y_1 h_104
    else
      (gI S h r0 11 20).bind fun v_57 =>
      if v_57 = (0 : Int32) then
        (gR S h r0 11 35).bind fun p_97 =>
        (aJ S h p_97 x5).bind fun w_99 =>
        (sJ S h p_54 x3 w_99).bind fun h_101 =>
        lt (x3 + (1 : Int32)) fun y_103 =>
        rc r0 x2 y_103 y_1 h_101
      else
        if (6 : Int32) ≤ x5 then
          if x5 = (6 : Int32) then
            (ckO S h r0 11).bind fun _ =>
            (f_X11_isBird S r0 sx0 h).bind fun z => match z with
            | (z_78, h_77) =>
            if z_78 = (0 : Int32) then
              (sJ S h_77 p_54 x3 (Int32.toInt64 (-1 : Int32))).bind fun h_80 =>
              lt (x3 + (1 : Int32)) fun y_82 =>
              rc r0 x2 y_82 y_1 h_80
            else
              (gR S h_77 r0 11 3).bind fun p_83 =>
              (aI S h_77 p_83 ((10 : Int32) + sx0)).bind fun v_85 =>
              (sJ S h_77 p_54 x3 (Int32.toInt64 v_85)).bind fun h_87 =>
              lt (x3 + (1 : Int32)) fun y_89 =>
              rc r0 x2 y_89 y_1 h_87
          else
            (ckO S h r0 11).bind fun _ =>
            (f_X11_isMatter S r0 sx0 h).bind fun z => match z with
            | (z_64, h_63) =>
            if z_64 = (0 : Int32) then
              (sJ S h_63 p_54 x3 (-1 : Int64)).bind fun h_66 =>
              lt (x3 + (1 : Int32)) fun y_68 =>
              rc r0 x2 y_68 y_1 h_66
            else
              (gR S h_63 r0 11 3).bind fun p_69 =>
              (aI S h_63 p_69 ((17 : Int32) + sx0)).bind fun v_71 =>
              (sJ S h_63 p_54 x3 (Int32.toInt64 v_71)).bind fun h_73 =>
              lt (x3 + (1 : Int32)) fun y_75 =>
              rc r0 x2 y_75 y_1 h_73
        else
          (gR S h r0 11 36).bind fun p_90 =>
          (aJ S h p_90 x5).bind fun w_92 =>
          (sJ S h p_54 x3 w_92).bind fun h_94 =>
          lt (x3 + (1 : Int32)) fun y_96 =>
          rc r0 x2 y_96 y_1 h_94
set_option maxHeartbeats 8000000 in
set_option maxRecDepth 20000 in
theorem s_X11_reckonAll_l10_j95 {S : SH} {d cb sb : Nat} {Q : Option Value → AH → Prop} (hd : 2 ≤ d) {K : (Nat × Int32) → AH → Prop} (hex : ∀ (r0 : Nat) (x3 : Int32) (h' : AH), K (r0, x3) h' → WP S M_X11_reckonAll d cb sb Q 366 [.ref r0, JK, JK, .int x3, JK, JK, JK] [] h') {rc : Nat → Int32 → Int32 → Int32 → AH → Option ((Nat × Int32) × AH)} (hrec : ∀ (r0 : Nat) (x2 : Int32) (x3 : Int32) (x4 : Int32) (h' : AH), ok (rc r0 x2 x3 x4 h') K → WP S M_X11_reckonAll d cb sb Q 10 [.ref r0, JK, .int x2, .int x3, .int x4, JK, JK] [] h') {r0 : Nat} {x2 : Int32} {x3 : Int32} {x4 : Int32} {x5 : Int32} {sx0 : Int32} {h : AH} (k : ok (f_X11_reckonAll_l10_j95 S rc r0 x2 x3 x4 x5 sx0 h) K) : WP S M_X11_reckonAll d cb sb Q 95 [.ref r0, JK, .int x2, .int x3, .int x4, .int x5, JK] [.int sx0] h := by
  obtain ⟨d, rfl, he⟩ := dp (L := 1) hd
  unfold f_X11_reckonAll_l10_j95 at k
  refine wp_istore dX11_reckonAll_95 (by decide) (L1 := [_, _, _, _, _, _, _]) rfl ?_
  replace k := ok_lt k
  refine wp_iinc dX11_reckonAll_97 rfl ic_1 (by decide) (L1 := [_, _, _, _, _, _, _]) rfl ?_
  refine wp_iload dX11_reckonAll_100 rfl ?_
  refine wp_bipush dX11_reckonAll_102 bp_20 ?_
  refine wp_icmp_ge 224 dX11_reckonAll_104 (by decide) (fun c_2 => ?_) (fun c_2 => ?_)
  · replace k := ok_t c_2 k
    refine wp_iload dX11_reckonAll_224 rfl ?_
    refine wp_bipush dX11_reckonAll_226 bp_28 ?_
    refine wp_icmp_ge 301 dX11_reckonAll_228 (by decide) (fun c_3 => ?_) (fun c_3 => ?_)
    · replace k := ok_t c_3 k
      refine wp_iload dX11_reckonAll_301 rfl ?_
      refine wp_bipush dX11_reckonAll_303 bp_28 ?_
      refine wp_icmp_ne 329 dX11_reckonAll_305 (by decide) (fun c_4 => ?_) (fun c_4 => ?_)
      · replace k := ok_f c_4 k
        refine wp_aload_n dX11_reckonAll_329 rfl ?_
        replace k := ok_bind k
        obtain ⟨p_5, e_6, k⟩ := k
        refine wq_getR fl_X11_105 (Or.inr ⟨_, rfl⟩) dX11_reckonAll_330 e_6 ?_
        refine wp_iload_n dX11_reckonAll_333 rfl ?_
        refine wp_iconst dX11_reckonAll_334 ic_1 ?_
        refine wp_isub dX11_reckonAll_335 ?_
        replace k := ok_bind k
        obtain ⟨w_7, e_8, k⟩ := k
        refine wq_aJ dX11_reckonAll_336 e_8 ?_
        refine wp_iload dX11_reckonAll_337 rfl ?_
        refine wp_bipush dX11_reckonAll_339 bp_29 ?_
        refine wp_icmp_ne 348 dX11_reckonAll_341 (by decide) (fun c_9 => ?_) (fun c_9 => ?_)
        · replace k := ok_f c_9 k
          refine wp_lconst dX11_reckonAll_348 lc_1 ?_
          refine wp_lcmp dX11_reckonAll_349 ?_
          refine wp_if_ne 360 dX11_reckonAll_350 (by decide) (fun c_10 => ?_) (fun c_10 => ?_)
          · replace k := ok_f c_10 k
            replace k := ok_lt k
            refine wp_iinc dX11_reckonAll_360 rfl ic_m1 (by decide) (L1 := [_, _, _, _, _, _, _]) rfl ?_
            refine wp_goto 10 dX11_reckonAll_363 (by decide) ?_
            exact wp_wk (wkE <| wkJ <| wkE <| wkE <| wkE <| wkJ <| wkJ <| wkN) (hrec _ _ _ _ _ k)
          · replace k := ok_t c_10 k
            refine wp_iload dX11_reckonAll_353 rfl ?_
            refine wp_istore dX11_reckonAll_355 (by decide) (L1 := [_, _, _, _, _, _, _]) rfl ?_
            refine wp_goto 363 dX11_reckonAll_357 (by decide) ?_
            refine wp_goto 10 dX11_reckonAll_363 (by decide) ?_
            exact wp_wk (wkE <| wkJ <| wkE <| wkE <| wkE <| wkJ <| wkJ <| wkN) (hrec _ _ _ _ _ k)
        · replace k := ok_t c_9 k
          refine wp_lconst dX11_reckonAll_344 lc_0 ?_
          refine wp_goto 349 dX11_reckonAll_345 (by decide) ?_
          refine wp_lcmp dX11_reckonAll_349 ?_
          refine wp_if_ne 360 dX11_reckonAll_350 (by decide) (fun c_12 => ?_) (fun c_12 => ?_)
          · replace k := ok_f c_12 k
            replace k := ok_lt k
            refine wp_iinc dX11_reckonAll_360 rfl ic_m1 (by decide) (L1 := [_, _, _, _, _, _, _]) rfl ?_
            refine wp_goto 10 dX11_reckonAll_363 (by decide) ?_
            exact wp_wk (wkE <| wkJ <| wkE <| wkE <| wkE <| wkJ <| wkJ <| wkN) (hrec _ _ _ _ _ k)
          · replace k := ok_t c_12 k
            refine wp_iload dX11_reckonAll_353 rfl ?_
            refine wp_istore dX11_reckonAll_355 (by decide) (L1 := [_, _, _, _, _, _, _]) rfl ?_
            refine wp_goto 363 dX11_reckonAll_357 (by decide) ?_
            refine wp_goto 10 dX11_reckonAll_363 (by decide) ?_
            exact wp_wk (wkE <| wkJ <| wkE <| wkE <| wkE <| wkJ <| wkJ <| wkN) (hrec _ _ _ _ _ k)
      · replace k := ok_t c_4 k
        refine wp_aload_n dX11_reckonAll_308 rfl ?_
        replace k := ok_bind k
        obtain ⟨p_14, e_15, k⟩ := k
        refine wq_getR fl_X11_105 (Or.inr ⟨_, rfl⟩) dX11_reckonAll_309 e_15 ?_
        refine wp_iload_n dX11_reckonAll_312 rfl ?_
        refine wp_iconst dX11_reckonAll_313 ic_1 ?_
        refine wp_isub dX11_reckonAll_314 ?_
        refine wp_lconst dX11_reckonAll_315 lc_1 ?_
        refine wp_aload_n dX11_reckonAll_316 rfl ?_
        replace k := ok_bind k
        obtain ⟨p_16, e_17, k⟩ := k
        refine wq_getR fl_X11_105 (Or.inr ⟨_, rfl⟩) dX11_reckonAll_317 e_17 ?_
        refine wp_iload_n dX11_reckonAll_320 rfl ?_
        refine wp_iconst dX11_reckonAll_321 ic_1 ?_
        refine wp_isub dX11_reckonAll_322 ?_
        replace k := ok_bind k
        obtain ⟨w_18, e_19, k⟩ := k
        refine wq_aJ dX11_reckonAll_323 e_19 ?_
        refine wp_lsub dX11_reckonAll_324 ?_
        replace k := ok_bind k
        obtain ⟨h_20, e_21, k⟩ := k
        refine wq_sJ dX11_reckonAll_325 e_21 ?_
        refine wp_goto 363 dX11_reckonAll_326 (by decide) ?_
        refine wp_goto 10 dX11_reckonAll_363 (by decide) ?_
        exact wp_wk (wkE <| wkJ <| wkE <| wkE <| wkE <| wkJ <| wkJ <| wkN) (hrec _ _ _ _ _ k)
    · replace k := ok_f c_3 k
      replace k := ok_lt k
      refine wp_iinc dX11_reckonAll_231 rfl ic_m1 (by decide) (L1 := [_, _, _, _, _, _, _]) rfl ?_
      refine wp_aload_n dX11_reckonAll_234 rfl ?_
      replace k := ok_bind k
      obtain ⟨p_23, e_24, k⟩ := k
      refine wq_getR fl_X11_105 (Or.inr ⟨_, rfl⟩) dX11_reckonAll_235 e_24 ?_
      refine wp_iload_n dX11_reckonAll_238 rfl ?_
      refine wp_iconst dX11_reckonAll_239 ic_1 ?_
      refine wp_isub dX11_reckonAll_240 ?_
      refine wp_aload_n dX11_reckonAll_241 rfl ?_
      refine wp_iload dX11_reckonAll_242 rfl ?_
      refine wp_aload_n dX11_reckonAll_244 rfl ?_
      replace k := ok_bind k
      obtain ⟨p_25, e_26, k⟩ := k
      refine wq_getR fl_X11_105 (Or.inr ⟨_, rfl⟩) dX11_reckonAll_245 e_26 ?_
      refine wp_iload_n dX11_reckonAll_248 rfl ?_
      refine wp_iconst dX11_reckonAll_249 ic_1 ?_
      refine wp_isub dX11_reckonAll_250 ?_
      replace k := ok_bind k
      obtain ⟨w_27, e_28, k⟩ := k
      refine wq_aJ dX11_reckonAll_251 e_28 ?_
      refine wp_aload_n dX11_reckonAll_252 rfl ?_
      replace k := ok_bind k
      obtain ⟨p_29, e_30, k⟩ := k
      refine wq_getR fl_X11_105 (Or.inr ⟨_, rfl⟩) dX11_reckonAll_253 e_30 ?_
      refine wp_iload_n dX11_reckonAll_256 rfl ?_
      replace k := ok_bind k
      obtain ⟨w_31, e_32, k⟩ := k
      refine wq_aJ dX11_reckonAll_257 e_32 ?_
      replace k := ok_bind k
      obtain ⟨u, e_33, k⟩ := k
      refine wp_callV3 (N := M_X11_reckon) (ci := 11) mf_X11_reckon mi_X11_reckon me_X11_reckon ml_X11_411 dX11_reckonAll_258 (ckO_e e_33) mv_X11_reckon (by exact Nat.le_of_ble_eq_true rfl) (c_X11_reckon (Nat.le_trans (by decide) he) (ok_mono (ok_bind2 k) fun z_35 h_34 k => ?_))
      try dsimp only at k
      replace k := ok_bind k
      obtain ⟨h_36, e_37, k⟩ := k
      refine wq_sJ dX11_reckonAll_261 e_37 ?_
      refine wp_aload_n dX11_reckonAll_262 rfl ?_
      refine wp_aload_n dX11_reckonAll_263 rfl ?_
      replace k := ok_bind k
      obtain ⟨v_38, e_39, k⟩ := k
      refine wq_getI fl_X11_405 (Or.inr rfl) dX11_reckonAll_264 e_39 ?_
      refine wp_if_ne 290 dX11_reckonAll_267 (by decide) (fun c_40 => ?_) (fun c_40 => ?_)
      · replace k := ok_f c_40 k
        refine wp_iconst dX11_reckonAll_290 ic_1 ?_
        refine wp_goto 295 dX11_reckonAll_291 (by decide) ?_
        replace k := ok_bind k
        obtain ⟨h_41, e_42, k⟩ := k
        refine wq_putZ fl_X11_405 rfl rfl dX11_reckonAll_295 e_42 ?_
        refine wp_goto 363 dX11_reckonAll_298 (by decide) ?_
        refine wp_goto 10 dX11_reckonAll_363 (by decide) ?_
        exact wp_wk (wkE <| wkJ <| wkE <| wkE <| wkE <| wkJ <| wkJ <| wkN) (hrec _ _ _ _ _ k)
      · replace k := ok_t c_40 k
        refine wp_aload_n dX11_reckonAll_270 rfl ?_
        replace k := ok_bind k
        obtain ⟨p_43, e_44, k⟩ := k
        refine wq_getR fl_X11_105 (Or.inr ⟨_, rfl⟩) dX11_reckonAll_271 e_44 ?_
        refine wp_iload_n dX11_reckonAll_274 rfl ?_
        refine wp_iconst dX11_reckonAll_275 ic_1 ?_
        refine wp_isub dX11_reckonAll_276 ?_
        replace k := ok_bind k
        obtain ⟨w_45, e_46, k⟩ := k
        refine wq_aJ dX11_reckonAll_277 e_46 ?_
        refine wp_ldc2 ct_X11_415 dX11_reckonAll_278 ?_
        refine wp_ldc2 ct_X11_417 dX11_reckonAll_281 ?_
        refine wp_callS3 (N := M_X11_in) mf_X11_in ms_X11_in ml_X11_172 dX11_reckonAll_284 (by exact Nat.le_of_ble_eq_true rfl) (c_X11_in (Nat.le_trans (by decide) he) (ok_mono (ok_bind2 k) fun z_48 h_47 k => ?_))
        try dsimp only at k
        refine wp_if_ne 294 dX11_reckonAll_287 (by decide) (fun c_49 => ?_) (fun c_49 => ?_)
        · replace k := ok_f c_49 k
          refine wp_iconst dX11_reckonAll_294 ic_0 ?_
          replace k := ok_bind k
          obtain ⟨h_50, e_51, k⟩ := k
          refine wq_putZ fl_X11_405 rfl rfl dX11_reckonAll_295 e_51 ?_
          refine wp_goto 363 dX11_reckonAll_298 (by decide) ?_
          refine wp_goto 10 dX11_reckonAll_363 (by decide) ?_
          exact wp_wk (wkE <| wkJ <| wkE <| wkE <| wkE <| wkJ <| wkJ <| wkN) (hrec _ _ _ _ _ k)
        · replace k := ok_t c_49 k
          refine wp_iconst dX11_reckonAll_290 ic_1 ?_
          refine wp_goto 295 dX11_reckonAll_291 (by decide) ?_
          replace k := ok_bind k
          obtain ⟨h_52, e_53, k⟩ := k
          refine wq_putZ fl_X11_405 rfl rfl dX11_reckonAll_295 e_53 ?_
          refine wp_goto 363 dX11_reckonAll_298 (by decide) ?_
          refine wp_goto 10 dX11_reckonAll_363 (by decide) ?_
          exact wp_wk (wkE <| wkJ <| wkE <| wkE <| wkE <| wkJ <| wkJ <| wkN) (hrec _ _ _ _ _ k)
  · replace k := ok_f c_2 k
    refine wp_aload_n dX11_reckonAll_107 rfl ?_
    replace k := ok_bind k
    obtain ⟨p_54, e_55, k⟩ := k
    refine wq_getR fl_X11_105 (Or.inr ⟨_, rfl⟩) dX11_reckonAll_108 e_55 ?_
    refine wp_iload_n dX11_reckonAll_111 rfl ?_
    refine wp_iload dX11_reckonAll_112 rfl ?_
    refine wp_if_ne 123 dX11_reckonAll_114 (by decide) (fun c_56 => ?_) (fun c_56 => ?_)
    · replace k := ok_f c_56 k
      refine wp_aload_n dX11_reckonAll_123 rfl ?_
      replace k := ok_bind k
      obtain ⟨v_57, e_58, k⟩ := k
      refine wq_getI fl_X11_331 (Or.inr rfl) dX11_reckonAll_124 e_58 ?_
      refine wp_if_ne 140 dX11_reckonAll_127 (by decide) (fun c_59 => ?_) (fun c_59 => ?_)
      · replace k := ok_f c_59 k
        refine wp_iload dX11_reckonAll_140 rfl ?_
        refine wp_bipush dX11_reckonAll_142 bp_6 ?_
        refine wp_icmp_ge 157 dX11_reckonAll_144 (by decide) (fun c_60 => ?_) (fun c_60 => ?_)
        · replace k := ok_t c_60 k
          refine wp_iload dX11_reckonAll_157 rfl ?_
          refine wp_bipush dX11_reckonAll_159 bp_6 ?_
          refine wp_icmp_ne 191 dX11_reckonAll_161 (by decide) (fun c_61 => ?_) (fun c_61 => ?_)
          · replace k := ok_f c_61 k
            refine wp_aload_n dX11_reckonAll_191 rfl ?_
            refine wp_iload dX11_reckonAll_192 rfl ?_
            replace k := ok_bind k
            obtain ⟨u, e_62, k⟩ := k
            refine wp_callV1 (N := M_X11_isMatter) (ci := 11) mf_X11_isMatter mi_X11_isMatter me_X11_isMatter ml_X11_213 dX11_reckonAll_194 (ckO_e e_62) mv_X11_isMatter (by exact Nat.le_of_ble_eq_true rfl) (c_X11_isMatter (Nat.le_trans (by decide) he) (ok_mono (ok_bind2 k) fun z_64 h_63 k => ?_))
            try dsimp only at k
            refine wp_if_eq 214 dX11_reckonAll_197 (by decide) (fun c_65 => ?_) (fun c_65 => ?_)
            · replace k := ok_t c_65 k
              refine wp_ldc2 ct_X11_179 dX11_reckonAll_214 ?_
              replace k := ok_bind k
              obtain ⟨h_66, e_67, k⟩ := k
              refine wq_sJ dX11_reckonAll_217 e_67 ?_
              replace k := ok_lt k
              refine wp_iinc dX11_reckonAll_218 rfl ic_1 (by decide) (L1 := [_, _, _, _, _, _, _]) rfl ?_
              refine wp_goto 363 dX11_reckonAll_221 (by decide) ?_
              refine wp_goto 10 dX11_reckonAll_363 (by decide) ?_
              exact wp_wk (wkE <| wkJ <| wkE <| wkE <| wkE <| wkJ <| wkJ <| wkN) (hrec _ _ _ _ _ k)
            · replace k := ok_f c_65 k
              refine wp_aload_n dX11_reckonAll_200 rfl ?_
              replace k := ok_bind k
              obtain ⟨p_69, e_70, k⟩ := k
              refine wq_getR fl_X11_13 (Or.inr ⟨_, rfl⟩) dX11_reckonAll_201 e_70 ?_
              refine wp_bipush dX11_reckonAll_204 bp_17 ?_
              refine wp_iload dX11_reckonAll_206 rfl ?_
              refine wp_iadd dX11_reckonAll_208 ?_
              replace k := ok_bind k
              obtain ⟨v_71, e_72, k⟩ := k
              refine wq_aI dX11_reckonAll_209 e_72 ?_
              refine wp_i2l dX11_reckonAll_210 ?_
              refine wp_goto 217 dX11_reckonAll_211 (by decide) ?_
              replace k := ok_bind k
              obtain ⟨h_73, e_74, k⟩ := k
              refine wq_sJ dX11_reckonAll_217 e_74 ?_
              replace k := ok_lt k
              refine wp_iinc dX11_reckonAll_218 rfl ic_1 (by decide) (L1 := [_, _, _, _, _, _, _]) rfl ?_
              refine wp_goto 363 dX11_reckonAll_221 (by decide) ?_
              refine wp_goto 10 dX11_reckonAll_363 (by decide) ?_
              exact wp_wk (wkE <| wkJ <| wkE <| wkE <| wkE <| wkJ <| wkJ <| wkN) (hrec _ _ _ _ _ k)
          · replace k := ok_t c_61 k
            refine wp_aload_n dX11_reckonAll_164 rfl ?_
            refine wp_iload dX11_reckonAll_165 rfl ?_
            replace k := ok_bind k
            obtain ⟨u, e_76, k⟩ := k
            refine wp_callV1 (N := M_X11_isBird) (ci := 11) mf_X11_isBird mi_X11_isBird me_X11_isBird ml_X11_198 dX11_reckonAll_167 (ckO_e e_76) mv_X11_isBird (by exact Nat.le_of_ble_eq_true rfl) (c_X11_isBird (Nat.le_trans (by decide) he) (ok_mono (ok_bind2 k) fun z_78 h_77 k => ?_))
            try dsimp only at k
            refine wp_if_eq 186 dX11_reckonAll_170 (by decide) (fun c_79 => ?_) (fun c_79 => ?_)
            · replace k := ok_t c_79 k
              refine wp_iconst dX11_reckonAll_186 ic_m1 ?_
              refine wp_i2l dX11_reckonAll_187 ?_
              refine wp_goto 217 dX11_reckonAll_188 (by decide) ?_
              replace k := ok_bind k
              obtain ⟨h_80, e_81, k⟩ := k
              refine wq_sJ dX11_reckonAll_217 e_81 ?_
              replace k := ok_lt k
              refine wp_iinc dX11_reckonAll_218 rfl ic_1 (by decide) (L1 := [_, _, _, _, _, _, _]) rfl ?_
              refine wp_goto 363 dX11_reckonAll_221 (by decide) ?_
              refine wp_goto 10 dX11_reckonAll_363 (by decide) ?_
              exact wp_wk (wkE <| wkJ <| wkE <| wkE <| wkE <| wkJ <| wkJ <| wkN) (hrec _ _ _ _ _ k)
            · replace k := ok_f c_79 k
              refine wp_aload_n dX11_reckonAll_173 rfl ?_
              replace k := ok_bind k
              obtain ⟨p_83, e_84, k⟩ := k
              refine wq_getR fl_X11_13 (Or.inr ⟨_, rfl⟩) dX11_reckonAll_174 e_84 ?_
              refine wp_bipush dX11_reckonAll_177 bp_10 ?_
              refine wp_iload dX11_reckonAll_179 rfl ?_
              refine wp_iadd dX11_reckonAll_181 ?_
              replace k := ok_bind k
              obtain ⟨v_85, e_86, k⟩ := k
              refine wq_aI dX11_reckonAll_182 e_86 ?_
              refine wp_goto 187 dX11_reckonAll_183 (by decide) ?_
              refine wp_i2l dX11_reckonAll_187 ?_
              refine wp_goto 217 dX11_reckonAll_188 (by decide) ?_
              replace k := ok_bind k
              obtain ⟨h_87, e_88, k⟩ := k
              refine wq_sJ dX11_reckonAll_217 e_88 ?_
              replace k := ok_lt k
              refine wp_iinc dX11_reckonAll_218 rfl ic_1 (by decide) (L1 := [_, _, _, _, _, _, _]) rfl ?_
              refine wp_goto 363 dX11_reckonAll_221 (by decide) ?_
              refine wp_goto 10 dX11_reckonAll_363 (by decide) ?_
              exact wp_wk (wkE <| wkJ <| wkE <| wkE <| wkE <| wkJ <| wkJ <| wkN) (hrec _ _ _ _ _ k)
        · replace k := ok_f c_60 k
          refine wp_aload_n dX11_reckonAll_147 rfl ?_
          replace k := ok_bind k
          obtain ⟨p_90, e_91, k⟩ := k
          refine wq_getR fl_X11_102 (Or.inr ⟨_, rfl⟩) dX11_reckonAll_148 e_91 ?_
          refine wp_iload dX11_reckonAll_151 rfl ?_
          replace k := ok_bind k
          obtain ⟨w_92, e_93, k⟩ := k
          refine wq_aJ dX11_reckonAll_153 e_93 ?_
          refine wp_goto 217 dX11_reckonAll_154 (by decide) ?_
          replace k := ok_bind k
          obtain ⟨h_94, e_95, k⟩ := k
          refine wq_sJ dX11_reckonAll_217 e_95 ?_
          replace k := ok_lt k
          refine wp_iinc dX11_reckonAll_218 rfl ic_1 (by decide) (L1 := [_, _, _, _, _, _, _]) rfl ?_
          refine wp_goto 363 dX11_reckonAll_221 (by decide) ?_
          refine wp_goto 10 dX11_reckonAll_363 (by decide) ?_
          exact wp_wk (wkE <| wkJ <| wkE <| wkE <| wkE <| wkJ <| wkJ <| wkN) (hrec _ _ _ _ _ k)
      · replace k := ok_t c_59 k
        refine wp_aload_n dX11_reckonAll_130 rfl ?_
        replace k := ok_bind k
        obtain ⟨p_97, e_98, k⟩ := k
        refine wq_getR fl_X11_99 (Or.inr ⟨_, rfl⟩) dX11_reckonAll_131 e_98 ?_
        refine wp_iload dX11_reckonAll_134 rfl ?_
        replace k := ok_bind k
        obtain ⟨w_99, e_100, k⟩ := k
        refine wq_aJ dX11_reckonAll_136 e_100 ?_
        refine wp_goto 217 dX11_reckonAll_137 (by decide) ?_
        replace k := ok_bind k
        obtain ⟨h_101, e_102, k⟩ := k
        refine wq_sJ dX11_reckonAll_217 e_102 ?_
        replace k := ok_lt k
        refine wp_iinc dX11_reckonAll_218 rfl ic_1 (by decide) (L1 := [_, _, _, _, _, _, _]) rfl ?_
        refine wp_goto 363 dX11_reckonAll_221 (by decide) ?_
        refine wp_goto 10 dX11_reckonAll_363 (by decide) ?_
        exact wp_wk (wkE <| wkJ <| wkE <| wkE <| wkE <| wkJ <| wkJ <| wkN) (hrec _ _ _ _ _ k)
    · replace k := ok_t c_56 k
      refine wp_iload dX11_reckonAll_117 rfl ?_
      refine wp_i2l dX11_reckonAll_119 ?_
      refine wp_goto 217 dX11_reckonAll_120 (by decide) ?_
      replace k := ok_bind k
      obtain ⟨h_104, e_105, k⟩ := k
      refine wq_sJ dX11_reckonAll_217 e_105 ?_
      replace k := ok_lt k
      refine wp_iinc dX11_reckonAll_218 rfl ic_1 (by decide) (L1 := [_, _, _, _, _, _, _]) rfl ?_
      refine wp_goto 363 dX11_reckonAll_221 (by decide) ?_
      refine wp_goto 10 dX11_reckonAll_363 (by decide) ?_
      exact wp_wk (wkE <| wkJ <| wkE <| wkE <| wkE <| wkJ <| wkJ <| wkN) (hrec _ _ _ _ _ k)
def f_X11_reckonAll_l10_j57 (S : SH) (rc : Nat → Int32 → Int32 → Int32 → AH → Option ((Nat × Int32) × AH)) (r0 : Nat) (x2 : Int32) (x3 : Int32) (x4 : Int32) (sx0 : Int32) (h : AH) : Option ((Nat × Int32) × AH) :=
  (gI S h r0 11 20).bind fun v_1 =>
  if v_1 = (0 : Int32) then
    (gR S h r0 11 3).bind fun p_4 =>
    (gI S h r0 11 34).bind fun v_6 =>
    (aI S h p_4 (((v_6 + (98 : Int32)) + ((2 : Int32) * x4)) + (1 : Int32))).bind fun v_8 =>
    f_X11_reckonAll_l10_j95 S rc r0 x2 x3 x4 sx0 v_8 h
  else
    (gR S h r0 11 25).bind fun p_10 =>
    (aI S h p_10 x4).bind fun v_12 =>
    f_X11_reckonAll_l10_j95 S rc r0 x2 x3 x4 sx0 v_12 h
set_option maxHeartbeats 8000000 in
set_option maxRecDepth 20000 in
theorem s_X11_reckonAll_l10_j57 {S : SH} {d cb sb : Nat} {Q : Option Value → AH → Prop} (hd : 2 ≤ d) {K : (Nat × Int32) → AH → Prop} (hex : ∀ (r0 : Nat) (x3 : Int32) (h' : AH), K (r0, x3) h' → WP S M_X11_reckonAll d cb sb Q 366 [.ref r0, JK, JK, .int x3, JK, JK, JK] [] h') {rc : Nat → Int32 → Int32 → Int32 → AH → Option ((Nat × Int32) × AH)} (hrec : ∀ (r0 : Nat) (x2 : Int32) (x3 : Int32) (x4 : Int32) (h' : AH), ok (rc r0 x2 x3 x4 h') K → WP S M_X11_reckonAll d cb sb Q 10 [.ref r0, JK, .int x2, .int x3, .int x4, JK, JK] [] h') {r0 : Nat} {x2 : Int32} {x3 : Int32} {x4 : Int32} {sx0 : Int32} {h : AH} (k : ok (f_X11_reckonAll_l10_j57 S rc r0 x2 x3 x4 sx0 h) K) : WP S M_X11_reckonAll d cb sb Q 57 [.ref r0, JK, .int x2, .int x3, .int x4, JK, JK] [.int sx0] h := by
  obtain ⟨d, rfl, he⟩ := dp (L := 1) hd
  unfold f_X11_reckonAll_l10_j57 at k
  refine wp_istore dX11_reckonAll_57 (by decide) (L1 := [_, _, _, _, _, _, _]) rfl ?_
  refine wp_aload_n dX11_reckonAll_59 rfl ?_
  replace k := ok_bind k
  obtain ⟨v_1, e_2, k⟩ := k
  refine wq_getI fl_X11_331 (Or.inr rfl) dX11_reckonAll_60 e_2 ?_
  refine wp_if_eq 76 dX11_reckonAll_63 (by decide) (fun c_3 => ?_) (fun c_3 => ?_)
  · replace k := ok_t c_3 k
    refine wp_aload_n dX11_reckonAll_76 rfl ?_
    replace k := ok_bind k
    obtain ⟨p_4, e_5, k⟩ := k
    refine wq_getR fl_X11_13 (Or.inr ⟨_, rfl⟩) dX11_reckonAll_77 e_5 ?_
    refine wp_aload_n dX11_reckonAll_80 rfl ?_
    replace k := ok_bind k
    obtain ⟨v_6, e_7, k⟩ := k
    refine wq_getI fl_X11_408 (Or.inl rfl) dX11_reckonAll_81 e_7 ?_
    refine wp_bipush dX11_reckonAll_84 bp_98 ?_
    refine wp_iadd dX11_reckonAll_86 ?_
    refine wp_iconst dX11_reckonAll_87 ic_2 ?_
    refine wp_iload dX11_reckonAll_88 rfl ?_
    refine wp_imul dX11_reckonAll_90 ?_
    refine wp_iadd dX11_reckonAll_91 ?_
    refine wp_iconst dX11_reckonAll_92 ic_1 ?_
    refine wp_iadd dX11_reckonAll_93 ?_
    replace k := ok_bind k
    obtain ⟨v_8, e_9, k⟩ := k
    refine wq_aI dX11_reckonAll_94 e_9 ?_
    exact wp_wk (wkE <| wkJ <| wkE <| wkE <| wkE <| wkE <| wkJ <| wkN) (s_X11_reckonAll_l10_j95 (Nat.succ_le_succ he) hex hrec k)
  · replace k := ok_f c_3 k
    refine wp_aload_n dX11_reckonAll_66 rfl ?_
    replace k := ok_bind k
    obtain ⟨p_10, e_11, k⟩ := k
    refine wq_getR fl_X11_48 (Or.inr ⟨_, rfl⟩) dX11_reckonAll_67 e_11 ?_
    refine wp_iload dX11_reckonAll_70 rfl ?_
    replace k := ok_bind k
    obtain ⟨v_12, e_13, k⟩ := k
    refine wq_aI dX11_reckonAll_72 e_13 ?_
    refine wp_goto 95 dX11_reckonAll_73 (by decide) ?_
    exact wp_wk (wkE <| wkJ <| wkE <| wkE <| wkE <| wkE <| wkJ <| wkN) (s_X11_reckonAll_l10_j95 (Nat.succ_le_succ he) hex hrec k)
def f_X11_reckonAll_l10b (S : SH) (rc : Nat → Int32 → Int32 → Int32 → AH → Option ((Nat × Int32) × AH)) (r0 : Nat) (x2 : Int32) (x3 : Int32) (x4 : Int32) (h : AH) : Option ((Nat × Int32) × AH) :=
  if x2 ≤ x4 then
    some ((r0, x3), h)
  else
    (gI S h r0 11 38).bind fun v_2 =>
    if v_2 = (0 : Int32) then
      (gI S h r0 11 20).bind fun v_5 =>
      if v_5 = (0 : Int32) then
        (gR S h r0 11 3).bind fun p_8 =>
        (gI S h r0 11 34).bind fun v_10 =>
        (aI S h p_8 ((v_10 + (98 : Int32)) + ((2 : Int32) * x4))).bind fun v_12 =>
        f_X11_reckonAll_l10_j57 S rc r0 x2 x3 x4 v_12 h
      else
        (gR S h r0 11 24).bind fun p_14 =>
        (aI S h p_14 x4).bind fun v_16 =>
        f_X11_reckonAll_l10_j57 S rc r0 x2 x3 x4 v_16 h
    else
      some ((r0, x3), h)
set_option maxHeartbeats 8000000 in
set_option maxRecDepth 20000 in
theorem s_X11_reckonAll_l10b {S : SH} {d cb sb : Nat} {Q : Option Value → AH → Prop} (hd : 2 ≤ d) {K : (Nat × Int32) → AH → Prop} (hex : ∀ (r0 : Nat) (x3 : Int32) (h' : AH), K (r0, x3) h' → WP S M_X11_reckonAll d cb sb Q 366 [.ref r0, JK, JK, .int x3, JK, JK, JK] [] h') {rc : Nat → Int32 → Int32 → Int32 → AH → Option ((Nat × Int32) × AH)} (hrec : ∀ (r0 : Nat) (x2 : Int32) (x3 : Int32) (x4 : Int32) (h' : AH), ok (rc r0 x2 x3 x4 h') K → WP S M_X11_reckonAll d cb sb Q 10 [.ref r0, JK, .int x2, .int x3, .int x4, JK, JK] [] h') {r0 : Nat} {x2 : Int32} {x3 : Int32} {x4 : Int32} {h : AH} (k : ok (f_X11_reckonAll_l10b S rc r0 x2 x3 x4 h) K) : WP S M_X11_reckonAll d cb sb Q 10 [.ref r0, JK, .int x2, .int x3, .int x4, JK, JK] [] h := by
  obtain ⟨d, rfl, he⟩ := dp (L := 1) hd
  unfold f_X11_reckonAll_l10b at k
  refine wp_iload dX11_reckonAll_10 rfl ?_
  refine wp_iload_n dX11_reckonAll_12 rfl ?_
  refine wp_icmp_ge 366 dX11_reckonAll_13 (by decide) (fun c_1 => ?_) (fun c_1 => ?_)
  · replace k := ok_t c_1 k
    exact wp_wk (wkE <| wkJ <| wkJ <| wkE <| wkJ <| wkJ <| wkJ <| wkN) (hex _ _ _ (ok_some k))
  · replace k := ok_f c_1 k
    refine wp_aload_n dX11_reckonAll_16 rfl ?_
    replace k := ok_bind k
    obtain ⟨v_2, e_3, k⟩ := k
    refine wq_getI fl_X11_405 (Or.inr rfl) dX11_reckonAll_17 e_3 ?_
    refine wp_if_ne 366 dX11_reckonAll_20 (by decide) (fun c_4 => ?_) (fun c_4 => ?_)
    · replace k := ok_f c_4 k
      exact wp_wk (wkE <| wkJ <| wkJ <| wkE <| wkJ <| wkJ <| wkJ <| wkN) (hex _ _ _ (ok_some k))
    · replace k := ok_t c_4 k
      refine wp_aload_n dX11_reckonAll_23 rfl ?_
      replace k := ok_bind k
      obtain ⟨v_5, e_6, k⟩ := k
      refine wq_getI fl_X11_331 (Or.inr rfl) dX11_reckonAll_24 e_6 ?_
      refine wp_if_eq 40 dX11_reckonAll_27 (by decide) (fun c_7 => ?_) (fun c_7 => ?_)
      · replace k := ok_t c_7 k
        refine wp_aload_n dX11_reckonAll_40 rfl ?_
        replace k := ok_bind k
        obtain ⟨p_8, e_9, k⟩ := k
        refine wq_getR fl_X11_13 (Or.inr ⟨_, rfl⟩) dX11_reckonAll_41 e_9 ?_
        refine wp_aload_n dX11_reckonAll_44 rfl ?_
        replace k := ok_bind k
        obtain ⟨v_10, e_11, k⟩ := k
        refine wq_getI fl_X11_408 (Or.inl rfl) dX11_reckonAll_45 e_11 ?_
        refine wp_bipush dX11_reckonAll_48 bp_98 ?_
        refine wp_iadd dX11_reckonAll_50 ?_
        refine wp_iconst dX11_reckonAll_51 ic_2 ?_
        refine wp_iload dX11_reckonAll_52 rfl ?_
        refine wp_imul dX11_reckonAll_54 ?_
        refine wp_iadd dX11_reckonAll_55 ?_
        replace k := ok_bind k
        obtain ⟨v_12, e_13, k⟩ := k
        refine wq_aI dX11_reckonAll_56 e_13 ?_
        exact wp_wk (wkE <| wkJ <| wkE <| wkE <| wkE <| wkJ <| wkJ <| wkN) (s_X11_reckonAll_l10_j57 (Nat.succ_le_succ he) hex hrec k)
      · replace k := ok_f c_7 k
        refine wp_aload_n dX11_reckonAll_30 rfl ?_
        replace k := ok_bind k
        obtain ⟨p_14, e_15, k⟩ := k
        refine wq_getR fl_X11_45 (Or.inr ⟨_, rfl⟩) dX11_reckonAll_31 e_15 ?_
        refine wp_iload dX11_reckonAll_34 rfl ?_
        replace k := ok_bind k
        obtain ⟨v_16, e_17, k⟩ := k
        refine wq_aI dX11_reckonAll_36 e_17 ?_
        refine wp_goto 57 dX11_reckonAll_37 (by decide) ?_
        exact wp_wk (wkE <| wkJ <| wkE <| wkE <| wkE <| wkJ <| wkJ <| wkN) (s_X11_reckonAll_l10_j57 (Nat.succ_le_succ he) hex hrec k)
def f_X11_reckonAll_l10 (S : SH) : Nat → Nat → Int32 → Int32 → Int32 → AH → Option ((Nat × Int32) × AH)
  | 0, _, _, _, _, _ => none
  | n + 1, r0, x2, x3, x4, h => f_X11_reckonAll_l10b S (f_X11_reckonAll_l10 S n) r0 x2 x3 x4 h
theorem s_X11_reckonAll_l10 {S : SH} {d cb sb : Nat} {Q : Option Value → AH → Prop} (hd : 2 ≤ d) {K : (Nat × Int32) → AH → Prop} (hex : ∀ (r0 : Nat) (x3 : Int32) (h' : AH), K (r0, x3) h' → WP S M_X11_reckonAll d cb sb Q 366 [.ref r0, JK, JK, .int x3, JK, JK, JK] [] h') : ∀ (n : Nat) (r0 : Nat) (x2 : Int32) (x3 : Int32) (x4 : Int32) (h : AH), ok (f_X11_reckonAll_l10 S n r0 x2 x3 x4 h) K → WP S M_X11_reckonAll d cb sb Q 10 [.ref r0, JK, .int x2, .int x3, .int x4, JK, JK] [] h := by
  intro n
  induction n with
  | zero => intro r0 x2 x3 x4 h k; exact ok_none k
  | succ n ih => intro r0 x2 x3 x4 h k; exact s_X11_reckonAll_l10b hd hex (fun r0 x2 x3 x4 h k => ih r0 x2 x3 x4 h k) k
def f_X11_reckonAll (S : SH) (r0 : Nat) (x1 : Int32) (x2 : Int32) (h : AH) : Option (Unit × AH) :=
  (pZ S h r0 11 38 (0 : Int32)).bind fun h_1 =>
  (f_X11_reckonAll_l10 S FU r0 x2 (0 : Int32) x1 h_1).bind fun z => match z with
  | ((r0_4, x3_5), h_3) =>
  if x3_5 ≤ (0 : Int32) then
    (pJ S h_3 r0_4 11 39 (0 : Int64)).bind fun h_7 =>
    some ((), h_7)
  else
    (gR S h_3 r0_4 11 37).bind fun p_9 =>
    (aJ S h_3 p_9 (0 : Int32)).bind fun w_11 =>
    (pJ S h_3 r0_4 11 39 w_11).bind fun h_13 =>
    some ((), h_13)
set_option maxHeartbeats 8000000 in
set_option maxRecDepth 20000 in
theorem s_X11_reckonAll {S : SH} {d cb sb : Nat} {Q : Option Value → AH → Prop} (hd : 2 ≤ d)  {r0 : Nat} {x1 : Int32} {x2 : Int32} {h : AH} (k : ok (f_X11_reckonAll S r0 x1 x2 h) (fun _ h' => Q none h')) : WP S M_X11_reckonAll d cb sb Q 0 [.ref r0, .int x1, .int x2, JK, JK, JK, JK] [] h := by
  obtain ⟨d, rfl, he⟩ := dp (L := 1) hd
  unfold f_X11_reckonAll at k
  refine wp_aload_n dX11_reckonAll_0 rfl ?_
  refine wp_iconst dX11_reckonAll_1 ic_0 ?_
  replace k := ok_bind k
  obtain ⟨h_1, e_2, k⟩ := k
  refine wq_putZ fl_X11_405 rfl rfl dX11_reckonAll_2 e_2 ?_
  refine wp_iconst dX11_reckonAll_5 ic_0 ?_
  refine wp_istore_n dX11_reckonAll_6 (by decide) (L1 := [_, _, _, _, _, _, _]) rfl ?_
  refine wp_iload_n dX11_reckonAll_7 rfl ?_
  refine wp_istore dX11_reckonAll_8 (by decide) (L1 := [_, _, _, _, _, _, _]) rfl ?_
  refine wp_wk (wkE <| wkJ <| wkE <| wkE <| wkE <| wkJ <| wkJ <| wkN) ?_
  refine s_X11_reckonAll_l10 (Nat.succ_le_succ he) (fun r0_4 x3_5 h_3 k => ?_) FU _ _ _ _ _ (ok_bind2 k)
  try dsimp only at k
  refine wp_aload_n dX11_reckonAll_366 rfl ?_
  refine wp_iload_n dX11_reckonAll_367 rfl ?_
  refine wp_if_le 380 dX11_reckonAll_368 (by decide) (fun c_6 => ?_) (fun c_6 => ?_)
  · replace k := ok_t c_6 k
    refine wp_lconst dX11_reckonAll_380 lc_0 ?_
    replace k := ok_bind k
    obtain ⟨h_7, e_8, k⟩ := k
    refine wq_putJ fl_X11_419 rfl rfl dX11_reckonAll_381 e_8 ?_
    refine wp_vret rfl dX11_reckonAll_384 ?_
    exact (ok_some k :)
  · replace k := ok_f c_6 k
    refine wp_aload_n dX11_reckonAll_371 rfl ?_
    replace k := ok_bind k
    obtain ⟨p_9, e_10, k⟩ := k
    refine wq_getR fl_X11_105 (Or.inr ⟨_, rfl⟩) dX11_reckonAll_372 e_10 ?_
    refine wp_iconst dX11_reckonAll_375 ic_0 ?_
    replace k := ok_bind k
    obtain ⟨w_11, e_12, k⟩ := k
    refine wq_aJ dX11_reckonAll_376 e_12 ?_
    refine wp_goto 381 dX11_reckonAll_377 (by decide) ?_
    replace k := ok_bind k
    obtain ⟨h_13, e_14, k⟩ := k
    refine wq_putJ fl_X11_419 rfl rfl dX11_reckonAll_381 e_14 ?_
    refine wp_vret rfl dX11_reckonAll_384 ?_
    exact (ok_some k :)
theorem c_X11_reckonAll {S : SH} {d : Nat} {K : Option Value → AH → Prop} (hd : 2 ≤ d)  {r0 : Nat} {x1 : Int32} {x2 : Int32} {h : AH} (k : ok (f_X11_reckonAll S r0 x1 x2 h) (fun _ h' => K none h')) : CP S M_X11_reckonAll d 0 0 [.ref r0, .int x1, .int x2] h K := cp_of (by decide) (fun _ _ => trivial) (fun _ => Nat.le_of_ble_eq_true rfl) (s_X11_reckonAll hd  k)

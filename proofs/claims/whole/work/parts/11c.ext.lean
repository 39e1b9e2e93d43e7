def f_X6_fitsAllHeard_l2b (S : SH) (rc : Nat → Int32 → Int32 → AH → Option ((Int32 ⊕ Unit) × AH)) (r0 : Nat) (x1 : Int32) (x2 : Int32) (h : AH) : Option ((Int32 ⊕ Unit) × AH) :=
  (gI S h r0 6 10).bind fun v_1 =>
  if v_1 ≤ x2 then
    some (.inr (), h)
  else
    if (6 : Int32) ≤ x2 then
      some (.inr (), h)
    else
      (gR S h r0 6 11).bind fun p_5 =>
      (aI S h p_5 x2).bind fun v_7 =>
      if v_7 = x1 then
        lt (x2 + (1 : Int32)) fun y_10 =>
        rc r0 x1 y_10 h
      else
        some (.inl (0 : Int32), h)
set_option maxHeartbeats 8000000 in
set_option maxRecDepth 20000 in
theorem s_X6_fitsAllHeard_l2b {S : SH} {d cb sb : Nat} {Q : Option Value → AH → Prop} (hd : 0 ≤ d) {K : (Int32 ⊕ Unit) → AH → Prop} (hret : ∀ (w : Int32) (h' : AH), K (.inl w) h' → Q (some (.int w)) h') (hex : ∀  (h' : AH), K (.inr ()) h' → WP S M_X6_fitsAllHeard d cb sb Q 34 [JK, JK, JK] [] h') {rc : Nat → Int32 → Int32 → AH → Option ((Int32 ⊕ Unit) × AH)} (hrec : ∀ (r0 : Nat) (x1 : Int32) (x2 : Int32) (h' : AH), ok (rc r0 x1 x2 h') K → WP S M_X6_fitsAllHeard d cb sb Q 2 [.ref r0, .int x1, .int x2] [] h') {r0 : Nat} {x1 : Int32} {x2 : Int32} {h : AH} (k : ok (f_X6_fitsAllHeard_l2b S rc r0 x1 x2 h) K) : WP S M_X6_fitsAllHeard d cb sb Q 2 [.ref r0, .int x1, .int x2] [] h := by
  unfold f_X6_fitsAllHeard_l2b at k
  refine wp_iload_n dX6_fitsAllHeard_2 rfl ?_
  refine wp_aload_n dX6_fitsAllHeard_3 rfl ?_
  replace k := ok_bind k
  obtain ⟨v_1, e_2, k⟩ := k
  refine wq_getI fl_X6_76 (Or.inl rfl) dX6_fitsAllHeard_4 e_2 ?_
  refine wp_icmp_ge 34 dX6_fitsAllHeard_7 (by decide) (fun c_3 => ?_) (fun c_3 => ?_)
  · replace k := ok_t c_3 k
    exact wp_wk (wkJ <| wkJ <| wkJ <| wkN) (hex  _ (ok_some k))
  · replace k := ok_f c_3 k
    refine wp_iload_n dX6_fitsAllHeard_10 rfl ?_
    refine wp_bipush dX6_fitsAllHeard_11 bp_6 ?_
    refine wp_icmp_ge 34 dX6_fitsAllHeard_13 (by decide) (fun c_4 => ?_) (fun c_4 => ?_)
    · replace k := ok_t c_4 k
      exact wp_wk (wkJ <| wkJ <| wkJ <| wkN) (hex  _ (ok_some k))
    · replace k := ok_f c_4 k
      refine wp_aload_n dX6_fitsAllHeard_16 rfl ?_
      replace k := ok_bind k
      obtain ⟨p_5, e_6, k⟩ := k
      refine wq_getR fl_X6_38 (Or.inr ⟨_, rfl⟩) dX6_fitsAllHeard_17 e_6 ?_
      refine wp_iload_n dX6_fitsAllHeard_20 rfl ?_
      replace k := ok_bind k
      obtain ⟨v_7, e_8, k⟩ := k
      refine wq_aI dX6_fitsAllHeard_21 e_8 ?_
      refine wp_iload_n dX6_fitsAllHeard_22 rfl ?_
      refine wp_icmp_eq 28 dX6_fitsAllHeard_23 (by decide) (fun c_9 => ?_) (fun c_9 => ?_)
      · replace k := ok_t c_9 k
        replace k := ok_lt k
        refine wp_iinc dX6_fitsAllHeard_28 rfl ic_1 (by decide) (L1 := [_, _, _]) rfl ?_
        refine wp_goto 2 dX6_fitsAllHeard_31 (by decide) ?_
        exact wp_wk (wkE <| wkE <| wkE <| wkN) (hrec _ _ _ _ k)
      · replace k := ok_f c_9 k
        refine wp_iconst dX6_fitsAllHeard_26 ic_0 ?_
        refine wp_iret rfl rfl dX6_fitsAllHeard_27 ?_
        exact hret _ _ (ok_some k)
def f_X6_fitsAllHeard_l2 (S : SH) : Nat → Nat → Int32 → Int32 → AH → Option ((Int32 ⊕ Unit) × AH)
  | 0, _, _, _, _ => none
  | n + 1, r0, x1, x2, h => f_X6_fitsAllHeard_l2b S (f_X6_fitsAllHeard_l2 S n) r0 x1 x2 h
theorem s_X6_fitsAllHeard_l2 {S : SH} {d cb sb : Nat} {Q : Option Value → AH → Prop} (hd : 0 ≤ d) {K : (Int32 ⊕ Unit) → AH → Prop} (hret : ∀ (w : Int32) (h' : AH), K (.inl w) h' → Q (some (.int w)) h') (hex : ∀  (h' : AH), K (.inr ()) h' → WP S M_X6_fitsAllHeard d cb sb Q 34 [JK, JK, JK] [] h') : ∀ (n : Nat) (r0 : Nat) (x1 : Int32) (x2 : Int32) (h : AH), ok (f_X6_fitsAllHeard_l2 S n r0 x1 x2 h) K → WP S M_X6_fitsAllHeard d cb sb Q 2 [.ref r0, .int x1, .int x2] [] h := by
  intro n
  induction n with
  | zero => intro r0 x1 x2 h k; exact ok_none k
  | succ n ih => intro r0 x1 x2 h k; exact s_X6_fitsAllHeard_l2b hd hret hex (fun r0 x1 x2 h k => ih r0 x1 x2 h k) k
def f_X6_fitsAllHeard (S : SH) (r0 : Nat) (x1 : Int32) (h : AH) : Option (Int32 × AH) :=
  (f_X6_fitsAllHeard_l2 S FU r0 x1 (0 : Int32) h).bind fun z => match z with
  | (.inl w, h') => some (w, h')
  | (.inr (), h_1) =>
    some ((1 : Int32), h_1)
set_option maxHeartbeats 8000000 in
set_option maxRecDepth 20000 in
theorem s_X6_fitsAllHeard {S : SH} {d cb sb : Nat} {Q : Option Value → AH → Prop} (hd : 0 ≤ d)  {r0 : Nat} {x1 : Int32} {h : AH} (k : ok (f_X6_fitsAllHeard S r0 x1 h) (fun w h' => Q (some (.int w)) h')) : WP S M_X6_fitsAllHeard d cb sb Q 0 [.ref r0, .int x1, JK] [] h := by
  unfold f_X6_fitsAllHeard at k
  refine wp_iconst dX6_fitsAllHeard_0 ic_0 ?_
  refine wp_istore_n dX6_fitsAllHeard_1 (by decide) (L1 := [_, _, _]) rfl ?_
  refine wp_wk (wkE <| wkE <| wkE <| wkN) ?_
  refine s_X6_fitsAllHeard_l2 hd (fun w h' k => ?_) (fun  h_1 k => ?_) FU _ _ _ _ (ok_bind2 k)
  · try dsimp only at k
    exact (ok_some k :)
  · try dsimp only at k
    refine wp_iconst dX6_fitsAllHeard_34 ic_1 ?_
    refine wp_iret rfl rfl dX6_fitsAllHeard_35 ?_
    exact (ok_some k :)
theorem c_X6_fitsAllHeard {S : SH} {d : Nat} {K : Option Value → AH → Prop} (hd : 0 ≤ d)  {r0 : Nat} {x1 : Int32} {h : AH} (k : ok (f_X6_fitsAllHeard S r0 x1 h) (fun w h' => K (some (.int w)) h')) : CP S M_X6_fitsAllHeard d 0 0 [.ref r0, .int x1] h K := cp_of (by decide) (fun _ _ => trivial) (fun _ => Nat.le_of_ble_eq_true rfl) (s_X6_fitsAllHeard hd  k)
def f_X1_mattersAsHeard_l4b (S : SH) (rc : Nat → Nat → Int32 → Int32 → AH → Option (Int32 × AH)) (r0 : Nat) (r1 : Nat) (x2 : Int32) (x3 : Int32) (h : AH) : Option (Int32 × AH) :=
  (gR S h r0 1 0).bind fun p_1 =>
  (gI S h p_1 6 4).bind fun v_3 =>
  if v_3 ≤ x3 then
    some (x2, h)
  else
    (gR S h r0 1 0).bind fun p_6 =>
    (ckO S h p_6 6).bind fun _ =>
    (f_X6_lawInForce S p_6 h).bind fun z => match z with
    | (z_10, h_9) =>
    (ckO S h_9 r0 1).bind fun _ =>
    (f_X1_poll S r0 r1 x3 z_10 h_9).bind fun z => match z with
    | (_, h_12) =>
    (gR S h_12 r0 1 0).bind fun p_14 =>
    (gI S h_12 r0 1 3).bind fun v_16 =>
    (f_J6_bitCount_0f7a4 S v_16 h_12).bind fun z => match z with
    | (z_19, h_18) =>
    (ckO S h_18 p_14 6).bind fun _ =>
    (f_X6_fitsAllHeard S p_14 z_19 h_18).bind fun z => match z with
    | (z_22, h_21) =>
    if z_22 = (0 : Int32) then
      lt ((x2 ||| (0 : Int32))) fun y_24 =>
      lt (x3 + (1 : Int32)) fun y_25 =>
      rc r0 r1 y_24 y_25 h_21
    else
      lt ((x2 ||| ((1 : Int32) <<< (x3 &&& (31 : Int32))))) fun y_26 =>
      lt (x3 + (1 : Int32)) fun y_27 =>
      rc r0 r1 y_26 y_27 h_21
set_option maxHeartbeats 8000000 in
set_option maxRecDepth 20000 in
theorem s_X1_mattersAsHeard_l4b {S : SH} {d cb sb : Nat} {Q : Option Value → AH → Prop} (hd : 4 ≤ d) {K : Int32 → AH → Prop} (hex : ∀ (x2 : Int32) (h' : AH), K x2 h' → WP S M_X1_mattersAsHeard d cb sb Q 61 [JK, JK, .int x2, JK] [] h') {rc : Nat → Nat → Int32 → Int32 → AH → Option (Int32 × AH)} (hrec : ∀ (r0 : Nat) (r1 : Nat) (x2 : Int32) (x3 : Int32) (h' : AH), ok (rc r0 r1 x2 x3 h') K → WP S M_X1_mattersAsHeard d cb sb Q 4 [.ref r0, .ref r1, .int x2, .int x3] [] h') {r0 : Nat} {r1 : Nat} {x2 : Int32} {x3 : Int32} {h : AH} (k : ok (f_X1_mattersAsHeard_l4b S rc r0 r1 x2 x3 h) K) : WP S M_X1_mattersAsHeard d cb sb Q 4 [.ref r0, .ref r1, .int x2, .int x3] [] h := by
  obtain ⟨d, rfl, he⟩ := dp (L := 3) hd
  unfold f_X1_mattersAsHeard_l4b at k
  refine wp_iload_n dX1_mattersAsHeard_4 rfl ?_
  refine wp_aload_n dX1_mattersAsHeard_5 rfl ?_
  replace k := ok_bind k
  obtain ⟨p_1, e_2, k⟩ := k
  refine wq_getR fl_X1_18 (Or.inl ⟨_, rfl⟩) dX1_mattersAsHeard_6 e_2 ?_
  replace k := ok_bind k
  obtain ⟨v_3, e_4, k⟩ := k
  refine wq_getI fl_X1_102 (Or.inl rfl) dX1_mattersAsHeard_9 e_4 ?_
  refine wp_icmp_ge 61 dX1_mattersAsHeard_12 (by decide) (fun c_5 => ?_) (fun c_5 => ?_)
  · replace k := ok_t c_5 k
    exact wp_wk (wkJ <| wkJ <| wkE <| wkJ <| wkN) (hex _ _ (ok_some k))
  · replace k := ok_f c_5 k
    refine wp_aload_n dX1_mattersAsHeard_15 rfl ?_
    refine wp_aload_n dX1_mattersAsHeard_16 rfl ?_
    refine wp_iload_n dX1_mattersAsHeard_17 rfl ?_
    refine wp_aload_n dX1_mattersAsHeard_18 rfl ?_
    replace k := ok_bind k
    obtain ⟨p_6, e_7, k⟩ := k
    refine wq_getR fl_X1_18 (Or.inl ⟨_, rfl⟩) dX1_mattersAsHeard_19 e_7 ?_
    replace k := ok_bind k
    obtain ⟨u, e_8, k⟩ := k
    refine wp_callV0 (N := M_X6_lawInForce) (ci := 6) mf_X6_lawInForce mi_X6_lawInForce me_X6_lawInForce ml_X1_74 dX1_mattersAsHeard_22 (ckO_e e_8) mv_X6_lawInForce (by exact Nat.le_of_ble_eq_true rfl) (c_X6_lawInForce (Nat.le_trans (by decide) he) (ok_mono (ok_bind2 k) fun z_10 h_9 k => ?_))
    try dsimp only at k
    replace k := ok_bind k
    obtain ⟨u, e_11, k⟩ := k
    refine wp_callV3 (N := M_X1_poll) (ci := 1) mf_X1_poll mi_X1_poll me_X1_poll ml_X1_130 dX1_mattersAsHeard_25 (ckO_e e_11) mv_X1_poll (by exact Nat.le_of_ble_eq_true rfl) (c_X1_poll (Nat.le_trans (by decide) he) (ok_mono (ok_bind2 k) fun _ h_12 k => ?_))
    try dsimp only at k
    refine wp_iload_n dX1_mattersAsHeard_28 rfl ?_
    refine wp_aload_n dX1_mattersAsHeard_29 rfl ?_
    replace k := ok_bind k
    obtain ⟨p_14, e_15, k⟩ := k
    refine wq_getR fl_X1_18 (Or.inl ⟨_, rfl⟩) dX1_mattersAsHeard_30 e_15 ?_
    refine wp_aload_n dX1_mattersAsHeard_33 rfl ?_
    replace k := ok_bind k
    obtain ⟨v_16, e_17, k⟩ := k
    refine wq_getI fl_X1_92 (Or.inl rfl) dX1_mattersAsHeard_34 e_17 ?_
    refine wp_callS1 (N := M_J6_bitCount_0f7a4) mf_J6_bitCount_0f7a4 ms_J6_bitCount_0f7a4 ml_X1_138 dX1_mattersAsHeard_37 (by exact Nat.le_of_ble_eq_true rfl) (c_J6_bitCount_0f7a4 (Nat.le_trans (by decide) he) (ok_mono (ok_bind2 k) fun z_19 h_18 k => ?_))
    try dsimp only at k
    replace k := ok_bind k
    obtain ⟨u, e_20, k⟩ := k
    refine wp_callV1 (N := M_X6_fitsAllHeard) (ci := 6) mf_X6_fitsAllHeard mi_X6_fitsAllHeard me_X6_fitsAllHeard ml_X1_163 dX1_mattersAsHeard_40 (ckO_e e_20) mv_X6_fitsAllHeard (by exact Nat.le_of_ble_eq_true rfl) (c_X6_fitsAllHeard (Nat.le_trans (by decide) he) (ok_mono (ok_bind2 k) fun z_22 h_21 k => ?_))
    try dsimp only at k
    refine wp_if_eq 52 dX1_mattersAsHeard_43 (by decide) (fun c_23 => ?_) (fun c_23 => ?_)
    · replace k := ok_t c_23 k
      refine wp_iconst dX1_mattersAsHeard_52 ic_0 ?_
      refine wp_ior dX1_mattersAsHeard_53 ?_
      replace k := ok_lt k
      refine wp_istore_n dX1_mattersAsHeard_54 (by decide) (L1 := [_, _, _, _]) rfl ?_
      replace k := ok_lt k
      refine wp_iinc dX1_mattersAsHeard_55 rfl ic_1 (by decide) (L1 := [_, _, _, _]) rfl ?_
      refine wp_goto 4 dX1_mattersAsHeard_58 (by decide) ?_
      exact wp_wk (wkE <| wkE <| wkE <| wkE <| wkN) (hrec _ _ _ _ _ k)
    · replace k := ok_f c_23 k
      refine wp_iconst dX1_mattersAsHeard_46 ic_1 ?_
      refine wp_iload_n dX1_mattersAsHeard_47 rfl ?_
      refine wp_ishl dX1_mattersAsHeard_48 ?_
      refine wp_goto 53 dX1_mattersAsHeard_49 (by decide) ?_
      refine wp_ior dX1_mattersAsHeard_53 ?_
      replace k := ok_lt k
      refine wp_istore_n dX1_mattersAsHeard_54 (by decide) (L1 := [_, _, _, _]) rfl ?_
      replace k := ok_lt k
      refine wp_iinc dX1_mattersAsHeard_55 rfl ic_1 (by decide) (L1 := [_, _, _, _]) rfl ?_
      refine wp_goto 4 dX1_mattersAsHeard_58 (by decide) ?_
      exact wp_wk (wkE <| wkE <| wkE <| wkE <| wkN) (hrec _ _ _ _ _ k)
def f_X1_mattersAsHeard_l4 (S : SH) : Nat → Nat → Nat → Int32 → Int32 → AH → Option (Int32 × AH)
  | 0, _, _, _, _, _ => none
  | n + 1, r0, r1, x2, x3, h => f_X1_mattersAsHeard_l4b S (f_X1_mattersAsHeard_l4 S n) r0 r1 x2 x3 h
theorem s_X1_mattersAsHeard_l4 {S : SH} {d cb sb : Nat} {Q : Option Value → AH → Prop} (hd : 4 ≤ d) {K : Int32 → AH → Prop} (hex : ∀ (x2 : Int32) (h' : AH), K x2 h' → WP S M_X1_mattersAsHeard d cb sb Q 61 [JK, JK, .int x2, JK] [] h') : ∀ (n : Nat) (r0 : Nat) (r1 : Nat) (x2 : Int32) (x3 : Int32) (h : AH), ok (f_X1_mattersAsHeard_l4 S n r0 r1 x2 x3 h) K → WP S M_X1_mattersAsHeard d cb sb Q 4 [.ref r0, .ref r1, .int x2, .int x3] [] h := by
  intro n
  induction n with
  | zero => intro r0 r1 x2 x3 h k; exact ok_none k
  | succ n ih => intro r0 r1 x2 x3 h k; exact s_X1_mattersAsHeard_l4b hd hex (fun r0 r1 x2 x3 h k => ih r0 r1 x2 x3 h k) k
def f_X1_mattersAsHeard (S : SH) (r0 : Nat) (r1 : Nat) (h : AH) : Option (Int32 × AH) :=
  (f_X1_mattersAsHeard_l4 S FU r0 r1 (0 : Int32) (0 : Int32) h).bind fun z => match z with
  | (x2_2, h_1) =>
  some (x2_2, h_1)
set_option maxHeartbeats 8000000 in
set_option maxRecDepth 20000 in
theorem s_X1_mattersAsHeard {S : SH} {d cb sb : Nat} {Q : Option Value → AH → Prop} (hd : 4 ≤ d)  {r0 : Nat} {r1 : Nat} {h : AH} (k : ok (f_X1_mattersAsHeard S r0 r1 h) (fun w h' => Q (some (.int w)) h')) : WP S M_X1_mattersAsHeard d cb sb Q 0 [.ref r0, .ref r1, JK, JK] [] h := by
  obtain ⟨d, rfl, he⟩ := dp (L := 3) hd
  unfold f_X1_mattersAsHeard at k
  refine wp_iconst dX1_mattersAsHeard_0 ic_0 ?_
  refine wp_istore_n dX1_mattersAsHeard_1 (by decide) (L1 := [_, _, _, _]) rfl ?_
  refine wp_iconst dX1_mattersAsHeard_2 ic_0 ?_
  refine wp_istore_n dX1_mattersAsHeard_3 (by decide) (L1 := [_, _, _, _]) rfl ?_
  refine wp_wk (wkE <| wkE <| wkE <| wkE <| wkN) ?_
  refine s_X1_mattersAsHeard_l4 (Nat.succ_le_succ he) (fun x2_2 h_1 k => ?_) FU _ _ _ _ _ (ok_bind2 k)
  try dsimp only at k
  refine wp_iload_n dX1_mattersAsHeard_61 rfl ?_
  refine wp_iret rfl rfl dX1_mattersAsHeard_62 ?_
  exact (ok_some k :)
theorem c_X1_mattersAsHeard {S : SH} {d : Nat} {K : Option Value → AH → Prop} (hd : 4 ≤ d)  {r0 : Nat} {r1 : Nat} {h : AH} (k : ok (f_X1_mattersAsHeard S r0 r1 h) (fun w h' => K (some (.int w)) h')) : CP S M_X1_mattersAsHeard d 0 0 [.ref r0, .ref r1] h K := cp_of (by decide) (fun _ _ => trivial) (fun _ => Nat.le_of_ble_eq_true rfl) (s_X1_mattersAsHeard hd  k)
def f_X1_mattersAyeOn_l5b (S : SH) (rc : Nat → Nat → Int32 → Int32 → Int32 → AH → Option (Int32 × AH)) (r0 : Nat) (r1 : Nat) (x2 : Int32) (x3 : Int32) (x4 : Int32) (h : AH) : Option (Int32 × AH) :=
  (gR S h r0 1 0).bind fun p_1 =>
  (gI S h p_1 6 4).bind fun v_3 =>
  if v_3 ≤ x4 then
    some (x3, h)
  else
    (gR S h r0 1 0).bind fun p_6 =>
    (ckO S h p_6 6).bind fun _ =>
    (f_X6_lawInForce S p_6 h).bind fun z => match z with
    | (z_10, h_9) =>
    (ckO S h_9 r0 1).bind fun _ =>
    (f_X1_vote S r0 r1 x2 x4 z_10 h_9).bind fun z => match z with
    | (z_13, h_12) =>
    if z_13 = (2 : Int32) then
      lt ((x3 ||| ((1 : Int32) <<< (x4 &&& (31 : Int32))))) fun y_17 =>
      lt (x4 + (1 : Int32)) fun y_18 =>
      rc r0 r1 x2 y_17 y_18 h_12
    else
      lt ((x3 ||| (0 : Int32))) fun y_15 =>
      lt (x4 + (1 : Int32)) fun y_16 =>
      rc r0 r1 x2 y_15 y_16 h_12
set_option maxHeartbeats 8000000 in
set_option maxRecDepth 20000 in
theorem s_X1_mattersAyeOn_l5b {S : SH} {d cb sb : Nat} {Q : Option Value → AH → Prop} (hd : 3 ≤ d) {K : Int32 → AH → Prop} (hex : ∀ (x3 : Int32) (h' : AH), K x3 h' → WP S M_X1_mattersAyeOn d cb sb Q 53 [JK, JK, JK, .int x3, JK] [] h') {rc : Nat → Nat → Int32 → Int32 → Int32 → AH → Option (Int32 × AH)} (hrec : ∀ (r0 : Nat) (r1 : Nat) (x2 : Int32) (x3 : Int32) (x4 : Int32) (h' : AH), ok (rc r0 r1 x2 x3 x4 h') K → WP S M_X1_mattersAyeOn d cb sb Q 5 [.ref r0, .ref r1, .int x2, .int x3, .int x4] [] h') {r0 : Nat} {r1 : Nat} {x2 : Int32} {x3 : Int32} {x4 : Int32} {h : AH} (k : ok (f_X1_mattersAyeOn_l5b S rc r0 r1 x2 x3 x4 h) K) : WP S M_X1_mattersAyeOn d cb sb Q 5 [.ref r0, .ref r1, .int x2, .int x3, .int x4] [] h := by
  obtain ⟨d, rfl, he⟩ := dp (L := 2) hd
  unfold f_X1_mattersAyeOn_l5b at k
  refine wp_iload dX1_mattersAyeOn_5 rfl ?_
  refine wp_aload_n dX1_mattersAyeOn_7 rfl ?_
  replace k := ok_bind k
  obtain ⟨p_1, e_2, k⟩ := k
  refine wq_getR fl_X1_18 (Or.inl ⟨_, rfl⟩) dX1_mattersAyeOn_8 e_2 ?_
  replace k := ok_bind k
  obtain ⟨v_3, e_4, k⟩ := k
  refine wq_getI fl_X1_102 (Or.inl rfl) dX1_mattersAyeOn_11 e_4 ?_
  refine wp_icmp_ge 53 dX1_mattersAyeOn_14 (by decide) (fun c_5 => ?_) (fun c_5 => ?_)
  · replace k := ok_t c_5 k
    exact wp_wk (wkJ <| wkJ <| wkJ <| wkE <| wkJ <| wkN) (hex _ _ (ok_some k))
  · replace k := ok_f c_5 k
    refine wp_iload_n dX1_mattersAyeOn_17 rfl ?_
    refine wp_aload_n dX1_mattersAyeOn_18 rfl ?_
    refine wp_aload_n dX1_mattersAyeOn_19 rfl ?_
    refine wp_iload_n dX1_mattersAyeOn_20 rfl ?_
    refine wp_iload dX1_mattersAyeOn_21 rfl ?_
    refine wp_aload_n dX1_mattersAyeOn_23 rfl ?_
    replace k := ok_bind k
    obtain ⟨p_6, e_7, k⟩ := k
    refine wq_getR fl_X1_18 (Or.inl ⟨_, rfl⟩) dX1_mattersAyeOn_24 e_7 ?_
    replace k := ok_bind k
    obtain ⟨u, e_8, k⟩ := k
    refine wp_callV0 (N := M_X6_lawInForce) (ci := 6) mf_X6_lawInForce mi_X6_lawInForce me_X6_lawInForce ml_X1_74 dX1_mattersAyeOn_27 (ckO_e e_8) mv_X6_lawInForce (by exact Nat.le_of_ble_eq_true rfl) (c_X6_lawInForce (Nat.le_trans (by decide) he) (ok_mono (ok_bind2 k) fun z_10 h_9 k => ?_))
    try dsimp only at k
    replace k := ok_bind k
    obtain ⟨u, e_11, k⟩ := k
    refine wp_callV4 (N := M_X1_vote) (ci := 1) mf_X1_vote mi_X1_vote me_X1_vote ml_X1_98 dX1_mattersAyeOn_30 (ckO_e e_11) mv_X1_vote (by exact Nat.le_of_ble_eq_true rfl) (c_X1_vote (Nat.le_trans (by decide) he) (ok_mono (ok_bind2 k) fun z_13 h_12 k => ?_))
    try dsimp only at k
    refine wp_iconst dX1_mattersAyeOn_33 ic_2 ?_
    refine wp_icmp_ne 44 dX1_mattersAyeOn_34 (by decide) (fun c_14 => ?_) (fun c_14 => ?_)
    · replace k := ok_f c_14 k
      refine wp_iconst dX1_mattersAyeOn_44 ic_0 ?_
      refine wp_ior dX1_mattersAyeOn_45 ?_
      replace k := ok_lt k
      refine wp_istore_n dX1_mattersAyeOn_46 (by decide) (L1 := [_, _, _, _, _]) rfl ?_
      replace k := ok_lt k
      refine wp_iinc dX1_mattersAyeOn_47 rfl ic_1 (by decide) (L1 := [_, _, _, _, _]) rfl ?_
      refine wp_goto 5 dX1_mattersAyeOn_50 (by decide) ?_
      exact wp_wk (wkE <| wkE <| wkE <| wkE <| wkE <| wkN) (hrec _ _ _ _ _ _ k)
    · replace k := ok_t c_14 k
      refine wp_iconst dX1_mattersAyeOn_37 ic_1 ?_
      refine wp_iload dX1_mattersAyeOn_38 rfl ?_
      refine wp_ishl dX1_mattersAyeOn_40 ?_
      refine wp_goto 45 dX1_mattersAyeOn_41 (by decide) ?_
      refine wp_ior dX1_mattersAyeOn_45 ?_
      replace k := ok_lt k
      refine wp_istore_n dX1_mattersAyeOn_46 (by decide) (L1 := [_, _, _, _, _]) rfl ?_
      replace k := ok_lt k
      refine wp_iinc dX1_mattersAyeOn_47 rfl ic_1 (by decide) (L1 := [_, _, _, _, _]) rfl ?_
      refine wp_goto 5 dX1_mattersAyeOn_50 (by decide) ?_
      exact wp_wk (wkE <| wkE <| wkE <| wkE <| wkE <| wkN) (hrec _ _ _ _ _ _ k)
def f_X1_mattersAyeOn_l5 (S : SH) : Nat → Nat → Nat → Int32 → Int32 → Int32 → AH → Option (Int32 × AH)
  | 0, _, _, _, _, _, _ => none
  | n + 1, r0, r1, x2, x3, x4, h => f_X1_mattersAyeOn_l5b S (f_X1_mattersAyeOn_l5 S n) r0 r1 x2 x3 x4 h
theorem s_X1_mattersAyeOn_l5 {S : SH} {d cb sb : Nat} {Q : Option Value → AH → Prop} (hd : 3 ≤ d) {K : Int32 → AH → Prop} (hex : ∀ (x3 : Int32) (h' : AH), K x3 h' → WP S M_X1_mattersAyeOn d cb sb Q 53 [JK, JK, JK, .int x3, JK] [] h') : ∀ (n : Nat) (r0 : Nat) (r1 : Nat) (x2 : Int32) (x3 : Int32) (x4 : Int32) (h : AH), ok (f_X1_mattersAyeOn_l5 S n r0 r1 x2 x3 x4 h) K → WP S M_X1_mattersAyeOn d cb sb Q 5 [.ref r0, .ref r1, .int x2, .int x3, .int x4] [] h := by
  intro n
  induction n with
  | zero => intro r0 r1 x2 x3 x4 h k; exact ok_none k
  | succ n ih => intro r0 r1 x2 x3 x4 h k; exact s_X1_mattersAyeOn_l5b hd hex (fun r0 r1 x2 x3 x4 h k => ih r0 r1 x2 x3 x4 h k) k
def f_X1_mattersAyeOn (S : SH) (r0 : Nat) (r1 : Nat) (x2 : Int32) (h : AH) : Option (Int32 × AH) :=
  (f_X1_mattersAyeOn_l5 S FU r0 r1 x2 (0 : Int32) (0 : Int32) h).bind fun z => match z with
  | (x3_2, h_1) =>
  some (x3_2, h_1)
set_option maxHeartbeats 8000000 in
set_option maxRecDepth 20000 in
theorem s_X1_mattersAyeOn {S : SH} {d cb sb : Nat} {Q : Option Value → AH → Prop} (hd : 3 ≤ d)  {r0 : Nat} {r1 : Nat} {x2 : Int32} {h : AH} (k : ok (f_X1_mattersAyeOn S r0 r1 x2 h) (fun w h' => Q (some (.int w)) h')) : WP S M_X1_mattersAyeOn d cb sb Q 0 [.ref r0, .ref r1, .int x2, JK, JK] [] h := by
  obtain ⟨d, rfl, he⟩ := dp (L := 2) hd
  unfold f_X1_mattersAyeOn at k
  refine wp_iconst dX1_mattersAyeOn_0 ic_0 ?_
  refine wp_istore_n dX1_mattersAyeOn_1 (by decide) (L1 := [_, _, _, _, _]) rfl ?_
  refine wp_iconst dX1_mattersAyeOn_2 ic_0 ?_
  refine wp_istore dX1_mattersAyeOn_3 (by decide) (L1 := [_, _, _, _, _]) rfl ?_
  refine wp_wk (wkE <| wkE <| wkE <| wkE <| wkE <| wkN) ?_
  refine s_X1_mattersAyeOn_l5 (Nat.succ_le_succ he) (fun x3_2 h_1 k => ?_) FU _ _ _ _ _ _ (ok_bind2 k)
  try dsimp only at k
  refine wp_iload_n dX1_mattersAyeOn_53 rfl ?_
  refine wp_iret rfl rfl dX1_mattersAyeOn_54 ?_
  exact (ok_some k :)
theorem c_X1_mattersAyeOn {S : SH} {d : Nat} {K : Option Value → AH → Prop} (hd : 3 ≤ d)  {r0 : Nat} {r1 : Nat} {x2 : Int32} {h : AH} (k : ok (f_X1_mattersAyeOn S r0 r1 x2 h) (fun w h' => K (some (.int w)) h')) : CP S M_X1_mattersAyeOn d 0 0 [.ref r0, .ref r1, .int x2] h K := cp_of (by decide) (fun _ _ => trivial) (fun _ => Nat.le_of_ble_eq_true rfl) (s_X1_mattersAyeOn hd  k)
def f_X2_begin (S : SH) (r0 : Nat) (r1 : Nat) (x2 : Int32) (h : AH) : Option (Unit × AH) :=
  (gR S h r0 2 0).bind fun p_1 =>
  (gR S h r1 6 0).bind fun p_3 =>
  (ckO S h p_1 7).bind fun _ =>
  (f_X7_become S p_1 p_3 h).bind fun z => match z with
  | (_, h_6) =>
  (gI S h_6 r1 6 1).bind fun v_8 =>
  (pI S h_6 r0 2 1 v_8).bind fun h_10 =>
  (gI S h_10 r1 6 4).bind fun v_12 =>
  (pI S h_10 r0 2 2 v_12).bind fun h_14 =>
  (pI S h_14 r0 2 3 x2).bind fun h_16 =>
  some ((), h_16)
set_option maxHeartbeats 8000000 in
set_option maxRecDepth 20000 in
theorem s_X2_begin {S : SH} {d cb sb : Nat} {Q : Option Value → AH → Prop} (hd : 2 ≤ d)  {r0 : Nat} {r1 : Nat} {x2 : Int32} {h : AH} (k : ok (f_X2_begin S r0 r1 x2 h) (fun _ h' => Q none h')) : WP S M_X2_begin d cb sb Q 0 [.ref r0, .ref r1, .int x2] [] h := by
  obtain ⟨d, rfl, he⟩ := dp (L := 1) hd
  unfold f_X2_begin at k
  refine wp_aload_n dX2_begin_0 rfl ?_
  replace k := ok_bind k
  obtain ⟨p_1, e_2, k⟩ := k
  refine wq_getR fl_X2_12 (Or.inl ⟨_, rfl⟩) dX2_begin_1 e_2 ?_
  refine wp_aload_n dX2_begin_4 rfl ?_
  replace k := ok_bind k
  obtain ⟨p_3, e_4, k⟩ := k
  refine wq_getR fl_X2_18 (Or.inl ⟨_, rfl⟩) dX2_begin_5 e_4 ?_
  replace k := ok_bind k
  obtain ⟨u, e_5, k⟩ := k
  refine wp_callV1 (N := M_X7_become) (ci := 7) mf_X7_become mi_X7_become me_X7_become ml_X2_21 dX2_begin_8 (ckO_e e_5) mv_X7_become (by exact Nat.le_of_ble_eq_true rfl) (c_X7_become (Nat.le_trans (by decide) he) (ok_mono (ok_bind2 k) fun _ h_6 k => ?_))
  try dsimp only at k
  refine wp_aload_n dX2_begin_11 rfl ?_
  refine wp_aload_n dX2_begin_12 rfl ?_
  replace k := ok_bind k
  obtain ⟨v_8, e_9, k⟩ := k
  refine wq_getI fl_X2_25 (Or.inl rfl) dX2_begin_13 e_9 ?_
  replace k := ok_bind k
  obtain ⟨h_10, e_11, k⟩ := k
  refine wq_putI fl_X2_29 rfl rfl dX2_begin_16 e_11 ?_
  refine wp_aload_n dX2_begin_19 rfl ?_
  refine wp_aload_n dX2_begin_20 rfl ?_
  replace k := ok_bind k
  obtain ⟨v_12, e_13, k⟩ := k
  refine wq_getI fl_X2_30 (Or.inl rfl) dX2_begin_21 e_13 ?_
  replace k := ok_bind k
  obtain ⟨h_14, e_15, k⟩ := k
  refine wq_putI fl_X2_33 rfl rfl dX2_begin_24 e_15 ?_
  refine wp_aload_n dX2_begin_27 rfl ?_
  refine wp_iload_n dX2_begin_28 rfl ?_
  replace k := ok_bind k
  obtain ⟨h_16, e_17, k⟩ := k
  refine wq_putI fl_X2_34 rfl rfl dX2_begin_29 e_17 ?_
  refine wp_vret rfl dX2_begin_32 ?_
  exact (ok_some k :)
theorem c_X2_begin {S : SH} {d : Nat} {K : Option Value → AH → Prop} (hd : 2 ≤ d)  {r0 : Nat} {r1 : Nat} {x2 : Int32} {h : AH} (k : ok (f_X2_begin S r0 r1 x2 h) (fun _ h' => K none h')) : CP S M_X2_begin d 0 0 [.ref r0, .ref r1, .int x2] h K := cp_of (by decide) (fun _ _ => trivial) (fun _ => Nat.le_of_ble_eq_true rfl) (s_X2_begin hd  k)
def f_X2_draw (S : SH) (r0 : Nat) (x1 : Int32) (h : AH) : Option (Int32 × AH) :=
  (gI S h r0 2 3).bind fun v_1 =>
  (pI S h r0 2 3 (rmI ((v_1 * (1103 : Int32)) + (12345 : Int32)) (1000003 : Int32))).bind fun h_3 =>
  if x1 ≤ (0 : Int32) then
    some ((0 : Int32), h_3)
  else
    (gI S h_3 r0 2 3).bind fun v_6 =>
    (nz x1).bind fun _ =>
    some ((rmI v_6 x1), h_3)
set_option maxHeartbeats 8000000 in
set_option maxRecDepth 20000 in
theorem s_X2_draw {S : SH} {d cb sb : Nat} {Q : Option Value → AH → Prop} (hd : 0 ≤ d)  {r0 : Nat} {x1 : Int32} {h : AH} (k : ok (f_X2_draw S r0 x1 h) (fun w h' => Q (some (.int w)) h')) : WP S M_X2_draw d cb sb Q 0 [.ref r0, .int x1] [] h := by
  unfold f_X2_draw at k
  refine wp_aload_n dX2_draw_0 rfl ?_
  refine wp_aload_n dX2_draw_1 rfl ?_
  replace k := ok_bind k
  obtain ⟨v_1, e_2, k⟩ := k
  refine wq_getI fl_X2_34 (Or.inl rfl) dX2_draw_2 e_2 ?_
  refine wp_sipush dX2_draw_5 sp_1103 ?_
  refine wp_imul dX2_draw_8 ?_
  refine wp_sipush dX2_draw_9 sp_12345 ?_
  refine wp_iadd dX2_draw_12 ?_
  refine wp_ldc ct_X2_37 dX2_draw_13 ?_
  refine wp_irem dX2_draw_15 (by decide) ?_
  replace k := ok_bind k
  obtain ⟨h_3, e_4, k⟩ := k
  refine wq_putI fl_X2_34 rfl rfl dX2_draw_16 e_4 ?_
  refine wp_iload_n dX2_draw_19 rfl ?_
  refine wp_if_le 32 dX2_draw_20 (by decide) (fun c_5 => ?_) (fun c_5 => ?_)
  · replace k := ok_t c_5 k
    refine wp_iconst dX2_draw_32 ic_0 ?_
    refine wp_iret rfl rfl dX2_draw_33 ?_
    exact (ok_some k :)
  · replace k := ok_f c_5 k
    refine wp_aload_n dX2_draw_23 rfl ?_
    replace k := ok_bind k
    obtain ⟨v_6, e_7, k⟩ := k
    refine wq_getI fl_X2_34 (Or.inl rfl) dX2_draw_24 e_7 ?_
    refine wp_iload_n dX2_draw_27 rfl ?_
    replace k := ok_bind k
    obtain ⟨u, e_8, k⟩ := k
    refine wp_irem dX2_draw_28 (nz_e e_8) ?_
    refine wp_goto 33 dX2_draw_29 (by decide) ?_
    refine wp_iret rfl rfl dX2_draw_33 ?_
    exact (ok_some k :)
theorem c_X2_draw {S : SH} {d : Nat} {K : Option Value → AH → Prop} (hd : 0 ≤ d)  {r0 : Nat} {x1 : Int32} {h : AH} (k : ok (f_X2_draw S r0 x1 h) (fun w h' => K (some (.int w)) h')) : CP S M_X2_draw d 0 0 [.ref r0, .int x1] h K := cp_of (by decide) (fun _ _ => trivial) (fun _ => Nat.le_of_ble_eq_true rfl) (s_X2_draw hd  k)
def f_X2_step (S : SH) (r0 : Nat) (r1 : Nat) (h : AH) : Option (Unit × AH) :=
  (gI S h r0 2 1).bind fun v_1 =>
  (ckO S h r0 2).bind fun _ =>
  (f_X2_draw S r0 v_1 h).bind fun z => match z with
  | (z_5, h_4) =>
  (gI S h_4 r0 2 2).bind fun v_6 =>
  (ckO S h_4 r0 2).bind fun _ =>
  (f_X2_draw S r0 v_6 h_4).bind fun z => match z with
  | (z_10, h_9) =>
  (ckO S h_9 r0 2).bind fun _ =>
  (f_X2_draw S r0 (20 : Int32) h_9).bind fun z => match z with
  | (z_13, h_12) =>
  (ckO S h_12 r0 2).bind fun _ =>
  (f_X2_draw S r0 (4 : Int32) h_12).bind fun z => match z with
  | (z_16, h_15) =>
  if z_16 = (0 : Int32) then
    (gR S h_15 r0 2 0).bind fun p_18 =>
    (ckO S h_15 r1 1).bind fun _ =>
    (f_X1_moving S r1 p_18 z_10 z_5 h_15).bind fun z => match z with
    | (z_22, h_21) =>
    some ((), h_21)
  else
  if z_16 = (1 : Int32) then
    (gR S h_15 r0 2 0).bind fun p_24 =>
    (ckO S h_15 r1 1).bind fun _ =>
    (f_X1_dividing S r1 p_24 z_10 h_15).bind fun z => match z with
    | (z_28, h_27) =>
    some ((), h_27)
  else
  if z_16 = (2 : Int32) then
    (gR S h_15 r0 2 0).bind fun p_30 =>
    (ckO S h_15 r1 1).bind fun _ =>
    (f_X1_flying S r1 p_30 z_5 z_13 h_15).bind fun z => match z with
    | (z_34, h_33) =>
    some ((), h_33)
  else
  (gR S h_15 r0 2 0).bind fun p_35 =>
  (ckO S h_15 r1 1).bind fun _ =>
  (f_X1_passing S r1 p_35 h_15).bind fun z => match z with
  | (z_39, h_38) =>
  some ((), h_38)
set_option maxHeartbeats 8000000 in
set_option maxRecDepth 20000 in
theorem s_X2_step {S : SH} {d cb sb : Nat} {Q : Option Value → AH → Prop} (hd : 5 ≤ d)  {r0 : Nat} {r1 : Nat} {h : AH} (k : ok (f_X2_step S r0 r1 h) (fun _ h' => Q none h')) : WP S M_X2_step d cb sb Q 0 [.ref r0, .ref r1, JK, JK, JK] [] h := by
  obtain ⟨d, rfl, he⟩ := dp (L := 4) hd
  unfold f_X2_step at k
  refine wp_aload_n dX2_step_0 rfl ?_
  refine wp_aload_n dX2_step_1 rfl ?_
  replace k := ok_bind k
  obtain ⟨v_1, e_2, k⟩ := k
  refine wq_getI fl_X2_29 (Or.inl rfl) dX2_step_2 e_2 ?_
  replace k := ok_bind k
  obtain ⟨u, e_3, k⟩ := k
  refine wp_callV1 (N := M_X2_draw) (ci := 2) mf_X2_draw mi_X2_draw me_X2_draw ml_X2_38 dX2_step_5 (ckO_e e_3) mv_X2_draw (by exact Nat.le_of_ble_eq_true rfl) (c_X2_draw (Nat.le_trans (by decide) he) (ok_mono (ok_bind2 k) fun z_5 h_4 k => ?_))
  try dsimp only at k
  refine wp_istore_n dX2_step_8 (by decide) (L1 := [_, _, _, _, _]) rfl ?_
  refine wp_aload_n dX2_step_9 rfl ?_
  refine wp_aload_n dX2_step_10 rfl ?_
  replace k := ok_bind k
  obtain ⟨v_6, e_7, k⟩ := k
  refine wq_getI fl_X2_33 (Or.inl rfl) dX2_step_11 e_7 ?_
  replace k := ok_bind k
  obtain ⟨u, e_8, k⟩ := k
  refine wp_callV1 (N := M_X2_draw) (ci := 2) mf_X2_draw mi_X2_draw me_X2_draw ml_X2_38 dX2_step_14 (ckO_e e_8) mv_X2_draw (by exact Nat.le_of_ble_eq_true rfl) (c_X2_draw (Nat.le_trans (by decide) he) (ok_mono (ok_bind2 k) fun z_10 h_9 k => ?_))
  try dsimp only at k
  refine wp_istore_n dX2_step_17 (by decide) (L1 := [_, _, _, _, _]) rfl ?_
  refine wp_aload_n dX2_step_18 rfl ?_
  refine wp_bipush dX2_step_19 bp_20 ?_
  replace k := ok_bind k
  obtain ⟨u, e_11, k⟩ := k
  refine wp_callV1 (N := M_X2_draw) (ci := 2) mf_X2_draw mi_X2_draw me_X2_draw ml_X2_38 dX2_step_21 (ckO_e e_11) mv_X2_draw (by exact Nat.le_of_ble_eq_true rfl) (c_X2_draw (Nat.le_trans (by decide) he) (ok_mono (ok_bind2 k) fun z_13 h_12 k => ?_))
  try dsimp only at k
  refine wp_istore dX2_step_24 (by decide) (L1 := [_, _, _, _, _]) rfl ?_
  refine wp_aload_n dX2_step_26 rfl ?_
  refine wp_iconst dX2_step_27 ic_4 ?_
  replace k := ok_bind k
  obtain ⟨u, e_14, k⟩ := k
  refine wp_callV1 (N := M_X2_draw) (ci := 2) mf_X2_draw mi_X2_draw me_X2_draw ml_X2_38 dX2_step_28 (ckO_e e_14) mv_X2_draw (by exact Nat.le_of_ble_eq_true rfl) (c_X2_draw (Nat.le_trans (by decide) he) (ok_mono (ok_bind2 k) fun z_16 h_15 k => ?_))
  try dsimp only at k
  refine wp_case (0 : Int32) (fun c_17 => ?_) (fun c_17 => ?_)
  · refine wp_tabIn 56 dX2_step_31 (by rw [c_17]; decide) (by rw [c_17]; decide) (by rw [c_17]; rfl) (by decide) ?_
    replace k := ok_t c_17 k
    refine wp_aload_n dX2_step_56 rfl ?_
    refine wp_aload_n dX2_step_57 rfl ?_
    replace k := ok_bind k
    obtain ⟨p_18, e_19, k⟩ := k
    refine wq_getR fl_X2_12 (Or.inl ⟨_, rfl⟩) dX2_step_58 e_19 ?_
    refine wp_iload_n dX2_step_61 rfl ?_
    refine wp_iload_n dX2_step_62 rfl ?_
    replace k := ok_bind k
    obtain ⟨u, e_20, k⟩ := k
    refine wp_callV3 (N := M_X1_moving) (ci := 1) mf_X1_moving mi_X1_moving me_X1_moving ml_X2_42 dX2_step_63 (ckO_e e_20) mv_X1_moving (by exact Nat.le_of_ble_eq_true rfl) (c_X1_moving (Nat.le_trans (by decide) he) (ok_mono (ok_bind2 k) fun z_22 h_21 k => ?_))
    try dsimp only at k
    refine wp_popI dX2_step_66 ?_
    refine wp_goto 107 dX2_step_67 (by decide) ?_
    refine wp_vret rfl dX2_step_107 ?_
    exact (ok_some k :)
  replace k := ok_f c_17 k
  refine wp_case (1 : Int32) (fun c_23 => ?_) (fun c_23 => ?_)
  · refine wp_tabIn 70 dX2_step_31 (by rw [c_23]; decide) (by rw [c_23]; decide) (by rw [c_23]; rfl) (by decide) ?_
    replace k := ok_t c_23 k
    refine wp_aload_n dX2_step_70 rfl ?_
    refine wp_aload_n dX2_step_71 rfl ?_
    replace k := ok_bind k
    obtain ⟨p_24, e_25, k⟩ := k
    refine wq_getR fl_X2_12 (Or.inl ⟨_, rfl⟩) dX2_step_72 e_25 ?_
    refine wp_iload_n dX2_step_75 rfl ?_
    replace k := ok_bind k
    obtain ⟨u, e_26, k⟩ := k
    refine wp_callV2 (N := M_X1_dividing) (ci := 1) mf_X1_dividing mi_X1_dividing me_X1_dividing ml_X2_48 dX2_step_76 (ckO_e e_26) mv_X1_dividing (by exact Nat.le_of_ble_eq_true rfl) (c_X1_dividing (Nat.le_trans (by decide) he) (ok_mono (ok_bind2 k) fun z_28 h_27 k => ?_))
    try dsimp only at k
    refine wp_popI dX2_step_79 ?_
    refine wp_goto 107 dX2_step_80 (by decide) ?_
    refine wp_vret rfl dX2_step_107 ?_
    exact (ok_some k :)
  replace k := ok_f c_23 k
  refine wp_case (2 : Int32) (fun c_29 => ?_) (fun c_29 => ?_)
  · refine wp_tabIn 83 dX2_step_31 (by rw [c_29]; decide) (by rw [c_29]; decide) (by rw [c_29]; rfl) (by decide) ?_
    replace k := ok_t c_29 k
    refine wp_aload_n dX2_step_83 rfl ?_
    refine wp_aload_n dX2_step_84 rfl ?_
    replace k := ok_bind k
    obtain ⟨p_30, e_31, k⟩ := k
    refine wq_getR fl_X2_12 (Or.inl ⟨_, rfl⟩) dX2_step_85 e_31 ?_
    refine wp_iload_n dX2_step_88 rfl ?_
    refine wp_iload dX2_step_89 rfl ?_
    replace k := ok_bind k
    obtain ⟨u, e_32, k⟩ := k
    refine wp_callV3 (N := M_X1_flying) (ci := 1) mf_X1_flying mi_X1_flying me_X1_flying ml_X2_52 dX2_step_91 (ckO_e e_32) mv_X1_flying (by exact Nat.le_of_ble_eq_true rfl) (c_X1_flying (Nat.le_trans (by decide) he) (ok_mono (ok_bind2 k) fun z_34 h_33 k => ?_))
    try dsimp only at k
    refine wp_popI dX2_step_94 ?_
    refine wp_goto 107 dX2_step_95 (by decide) ?_
    refine wp_vret rfl dX2_step_107 ?_
    exact (ok_some k :)
  replace k := ok_f c_29 k
  refine wp_tabOut 98 dX2_step_31 (tab_out (n := 3) (fun i hi => ?_)) (by decide) ?_
  · match i, hi with
    | 0, _ => exact ti_ne c_17 (by decide)
    | 1, _ => exact ti_ne c_23 (by decide)
    | 2, _ => exact ti_ne c_29 (by decide)
    | i + 3, hi => exact absurd hi (by omega)
  refine wp_aload_n dX2_step_98 rfl ?_
  refine wp_aload_n dX2_step_99 rfl ?_
  replace k := ok_bind k
  obtain ⟨p_35, e_36, k⟩ := k
  refine wq_getR fl_X2_12 (Or.inl ⟨_, rfl⟩) dX2_step_100 e_36 ?_
  replace k := ok_bind k
  obtain ⟨u, e_37, k⟩ := k
  refine wp_callV1 (N := M_X1_passing) (ci := 1) mf_X1_passing mi_X1_passing me_X1_passing ml_X2_55 dX2_step_103 (ckO_e e_37) mv_X1_passing (by exact Nat.le_of_ble_eq_true rfl) (c_X1_passing (Nat.le_trans (by decide) he) (ok_mono (ok_bind2 k) fun z_39 h_38 k => ?_))
  try dsimp only at k
  refine wp_popI dX2_step_106 ?_
  refine wp_vret rfl dX2_step_107 ?_
  exact (ok_some k :)
theorem c_X2_step {S : SH} {d : Nat} {K : Option Value → AH → Prop} (hd : 5 ≤ d)  {r0 : Nat} {r1 : Nat} {h : AH} (k : ok (f_X2_step S r0 r1 h) (fun _ h' => K none h')) : CP S M_X2_step d 0 0 [.ref r0, .ref r1] h K := cp_of (by decide) (fun _ _ => trivial) (fun _ => Nat.le_of_ble_eq_true rfl) (s_X2_step hd  k)
def f_X9_sortOf (S : SH) (x0 : Int32) (h : AH) : Option (Int32 × AH) :=
  if x0 < (97 : Int32) then
    if x0 < (48 : Int32) then
      some ((285 : Int32), h)
    else
      if (57 : Int32) < x0 then
        some ((285 : Int32), h)
      else
        some ((284 : Int32), h)
  else
    if (122 : Int32) < x0 then
      if x0 < (48 : Int32) then
        some ((285 : Int32), h)
      else
        if (57 : Int32) < x0 then
          some ((285 : Int32), h)
        else
          some ((284 : Int32), h)
    else
      some ((283 : Int32), h)
set_option maxHeartbeats 8000000 in
set_option maxRecDepth 20000 in
theorem s_X9_sortOf {S : SH} {d cb sb : Nat} {Q : Option Value → AH → Prop} (hd : 0 ≤ d)  {x0 : Int32} {h : AH} (k : ok (f_X9_sortOf S x0 h) (fun w h' => Q (some (.int w)) h')) : WP S M_X9_sortOf d cb sb Q 0 [.int x0] [] h := by
  unfold f_X9_sortOf at k
  refine wp_iload_n dX9_sortOf_0 rfl ?_
  refine wp_bipush dX9_sortOf_1 bp_97 ?_
  refine wp_icmp_lt 16 dX9_sortOf_3 (by decide) (fun c_1 => ?_) (fun c_1 => ?_)
  · replace k := ok_t c_1 k
    refine wp_iload_n dX9_sortOf_16 rfl ?_
    refine wp_bipush dX9_sortOf_17 bp_48 ?_
    refine wp_icmp_lt 34 dX9_sortOf_19 (by decide) (fun c_2 => ?_) (fun c_2 => ?_)
    · replace k := ok_t c_2 k
      refine wp_sipush dX9_sortOf_34 sp_285 ?_
      refine wp_iret rfl rfl dX9_sortOf_37 ?_
      exact (ok_some k :)
    · replace k := ok_f c_2 k
      refine wp_iload_n dX9_sortOf_22 rfl ?_
      refine wp_bipush dX9_sortOf_23 bp_57 ?_
      refine wp_icmp_gt 34 dX9_sortOf_25 (by decide) (fun c_3 => ?_) (fun c_3 => ?_)
      · replace k := ok_t c_3 k
        refine wp_sipush dX9_sortOf_34 sp_285 ?_
        refine wp_iret rfl rfl dX9_sortOf_37 ?_
        exact (ok_some k :)
      · replace k := ok_f c_3 k
        refine wp_sipush dX9_sortOf_28 sp_284 ?_
        refine wp_goto 37 dX9_sortOf_31 (by decide) ?_
        refine wp_iret rfl rfl dX9_sortOf_37 ?_
        exact (ok_some k :)
  · replace k := ok_f c_1 k
    refine wp_iload_n dX9_sortOf_6 rfl ?_
    refine wp_bipush dX9_sortOf_7 bp_122 ?_
    refine wp_icmp_gt 16 dX9_sortOf_9 (by decide) (fun c_4 => ?_) (fun c_4 => ?_)
    · replace k := ok_t c_4 k
      refine wp_iload_n dX9_sortOf_16 rfl ?_
      refine wp_bipush dX9_sortOf_17 bp_48 ?_
      refine wp_icmp_lt 34 dX9_sortOf_19 (by decide) (fun c_5 => ?_) (fun c_5 => ?_)
      · replace k := ok_t c_5 k
        refine wp_sipush dX9_sortOf_34 sp_285 ?_
        refine wp_iret rfl rfl dX9_sortOf_37 ?_
        exact (ok_some k :)
      · replace k := ok_f c_5 k
        refine wp_iload_n dX9_sortOf_22 rfl ?_
        refine wp_bipush dX9_sortOf_23 bp_57 ?_
        refine wp_icmp_gt 34 dX9_sortOf_25 (by decide) (fun c_6 => ?_) (fun c_6 => ?_)
        · replace k := ok_t c_6 k
          refine wp_sipush dX9_sortOf_34 sp_285 ?_
          refine wp_iret rfl rfl dX9_sortOf_37 ?_
          exact (ok_some k :)
        · replace k := ok_f c_6 k
          refine wp_sipush dX9_sortOf_28 sp_284 ?_
          refine wp_goto 37 dX9_sortOf_31 (by decide) ?_
          refine wp_iret rfl rfl dX9_sortOf_37 ?_
          exact (ok_some k :)
    · replace k := ok_f c_4 k
      refine wp_sipush dX9_sortOf_12 sp_283 ?_
      refine wp_iret rfl rfl dX9_sortOf_15 ?_
      exact (ok_some k :)
theorem c_X9_sortOf {S : SH} {d : Nat} {K : Option Value → AH → Prop} (hd : 0 ≤ d)  {x0 : Int32} {h : AH} (k : ok (f_X9_sortOf S x0 h) (fun w h' => K (some (.int w)) h')) : CP S M_X9_sortOf d 0 0 [.int x0] h K := cp_of (by decide) (fun _ _ => trivial) (fun _ => Nat.le_of_ble_eq_true rfl) (s_X9_sortOf hd  k)
def f_X9_endOf_l12b (S : SH) (rc : Nat → Int32 → Int32 → Int32 → AH → Option (Int32 × AH)) (r0 : Nat) (x2 : Int32) (x3 : Int32) (x4 : Int32) (h : AH) : Option (Int32 × AH) :=
  if x3 = (285 : Int32) then
    some (x4, h)
  else
    if x2 ≤ x4 then
      some (x4, h)
    else
      (lnA S h r0).bind fun v_3 =>
      if v_3 ≤ x4 then
        some (x4, h)
      else
        (aI S h r0 x4).bind fun v_6 =>
        (f_X9_sortOf S v_6 h).bind fun z => match z with
        | (z_9, h_8) =>
        if z_9 = x3 then
          lt (x4 + (1 : Int32)) fun y_11 =>
          rc r0 x2 x3 y_11 h_8
        else
          some (x4, h_8)
set_option maxHeartbeats 8000000 in
set_option maxRecDepth 20000 in
theorem s_X9_endOf_l12b {S : SH} {d cb sb : Nat} {Q : Option Value → AH → Prop} (hd : 1 ≤ d) {K : Int32 → AH → Prop} (hex : ∀ (x4 : Int32) (h' : AH), K x4 h' → WP S M_X9_endOf d cb sb Q 49 [JK, JK, JK, JK, .int x4] [] h') {rc : Nat → Int32 → Int32 → Int32 → AH → Option (Int32 × AH)} (hrec : ∀ (r0 : Nat) (x2 : Int32) (x3 : Int32) (x4 : Int32) (h' : AH), ok (rc r0 x2 x3 x4 h') K → WP S M_X9_endOf d cb sb Q 12 [.ref r0, JK, .int x2, .int x3, .int x4] [] h') {r0 : Nat} {x2 : Int32} {x3 : Int32} {x4 : Int32} {h : AH} (k : ok (f_X9_endOf_l12b S rc r0 x2 x3 x4 h) K) : WP S M_X9_endOf d cb sb Q 12 [.ref r0, JK, .int x2, .int x3, .int x4] [] h := by
  obtain ⟨d, rfl, he⟩ := dp (L := 0) hd
  unfold f_X9_endOf_l12b at k
  refine wp_iload_n dX9_endOf_12 rfl ?_
  refine wp_sipush dX9_endOf_13 sp_285 ?_
  refine wp_icmp_eq 49 dX9_endOf_16 (by decide) (fun c_1 => ?_) (fun c_1 => ?_)
  · replace k := ok_t c_1 k
    exact wp_wk (wkJ <| wkJ <| wkJ <| wkJ <| wkE <| wkN) (hex _ _ (ok_some k))
  · replace k := ok_f c_1 k
    refine wp_iload dX9_endOf_19 rfl ?_
    refine wp_iload_n dX9_endOf_21 rfl ?_
    refine wp_icmp_ge 49 dX9_endOf_22 (by decide) (fun c_2 => ?_) (fun c_2 => ?_)
    · replace k := ok_t c_2 k
      exact wp_wk (wkJ <| wkJ <| wkJ <| wkJ <| wkE <| wkN) (hex _ _ (ok_some k))
    · replace k := ok_f c_2 k
      refine wp_iload dX9_endOf_25 rfl ?_
      refine wp_aload_n dX9_endOf_27 rfl ?_
      replace k := ok_bind k
      obtain ⟨v_3, e_4, k⟩ := k
      refine wq_len dX9_endOf_28 e_4 ?_
      refine wp_icmp_ge 49 dX9_endOf_29 (by decide) (fun c_5 => ?_) (fun c_5 => ?_)
      · replace k := ok_t c_5 k
        exact wp_wk (wkJ <| wkJ <| wkJ <| wkJ <| wkE <| wkN) (hex _ _ (ok_some k))
      · replace k := ok_f c_5 k
        refine wp_aload_n dX9_endOf_32 rfl ?_
        refine wp_iload dX9_endOf_33 rfl ?_
        replace k := ok_bind k
        obtain ⟨v_6, e_7, k⟩ := k
        refine wq_aI dX9_endOf_35 e_7 ?_
        refine wp_callS1 (N := M_X9_sortOf) mf_X9_sortOf ms_X9_sortOf ml_X9_39 dX9_endOf_36 (by exact Nat.le_of_ble_eq_true rfl) (c_X9_sortOf (Nat.le_trans (by decide) he) (ok_mono (ok_bind2 k) fun z_9 h_8 k => ?_))
        try dsimp only at k
        refine wp_iload_n dX9_endOf_39 rfl ?_
        refine wp_icmp_ne 49 dX9_endOf_40 (by decide) (fun c_10 => ?_) (fun c_10 => ?_)
        · replace k := ok_f c_10 k
          exact wp_wk (wkJ <| wkJ <| wkJ <| wkJ <| wkE <| wkN) (hex _ _ (ok_some k))
        · replace k := ok_t c_10 k
          replace k := ok_lt k
          refine wp_iinc dX9_endOf_43 rfl ic_1 (by decide) (L1 := [_, _, _, _, _]) rfl ?_
          refine wp_goto 12 dX9_endOf_46 (by decide) ?_
          exact wp_wk (wkE <| wkJ <| wkE <| wkE <| wkE <| wkN) (hrec _ _ _ _ _ k)
def f_X9_endOf_l12 (S : SH) : Nat → Nat → Int32 → Int32 → Int32 → AH → Option (Int32 × AH)
  | 0, _, _, _, _, _ => none
  | n + 1, r0, x2, x3, x4, h => f_X9_endOf_l12b S (f_X9_endOf_l12 S n) r0 x2 x3 x4 h
theorem s_X9_endOf_l12 {S : SH} {d cb sb : Nat} {Q : Option Value → AH → Prop} (hd : 1 ≤ d) {K : Int32 → AH → Prop} (hex : ∀ (x4 : Int32) (h' : AH), K x4 h' → WP S M_X9_endOf d cb sb Q 49 [JK, JK, JK, JK, .int x4] [] h') : ∀ (n : Nat) (r0 : Nat) (x2 : Int32) (x3 : Int32) (x4 : Int32) (h : AH), ok (f_X9_endOf_l12 S n r0 x2 x3 x4 h) K → WP S M_X9_endOf d cb sb Q 12 [.ref r0, JK, .int x2, .int x3, .int x4] [] h := by
  intro n
  induction n with
  | zero => intro r0 x2 x3 x4 h k; exact ok_none k
  | succ n ih => intro r0 x2 x3 x4 h k; exact s_X9_endOf_l12b hd hex (fun r0 x2 x3 x4 h k => ih r0 x2 x3 x4 h k) k
def f_X9_endOf (S : SH) (r0 : Nat) (x1 : Int32) (x2 : Int32) (h : AH) : Option (Int32 × AH) :=
  (aI S h r0 x1).bind fun v_1 =>
  (f_X9_sortOf S v_1 h).bind fun z => match z with
  | (z_4, h_3) =>
  lt ((x1 + (1 : Int32))) fun y_5 =>
  (f_X9_endOf_l12 S FU r0 x2 z_4 y_5 h_3).bind fun z => match z with
  | (x4_7, h_6) =>
  some (x4_7, h_6)
set_option maxHeartbeats 8000000 in
set_option maxRecDepth 20000 in
theorem s_X9_endOf {S : SH} {d cb sb : Nat} {Q : Option Value → AH → Prop} (hd : 1 ≤ d)  {r0 : Nat} {x1 : Int32} {x2 : Int32} {h : AH} (k : ok (f_X9_endOf S r0 x1 x2 h) (fun w h' => Q (some (.int w)) h')) : WP S M_X9_endOf d cb sb Q 0 [.ref r0, .int x1, .int x2, JK, JK] [] h := by
  obtain ⟨d, rfl, he⟩ := dp (L := 0) hd
  unfold f_X9_endOf at k
  refine wp_aload_n dX9_endOf_0 rfl ?_
  refine wp_iload_n dX9_endOf_1 rfl ?_
  replace k := ok_bind k
  obtain ⟨v_1, e_2, k⟩ := k
  refine wq_aI dX9_endOf_2 e_2 ?_
  refine wp_callS1 (N := M_X9_sortOf) mf_X9_sortOf ms_X9_sortOf ml_X9_39 dX9_endOf_3 (by exact Nat.le_of_ble_eq_true rfl) (c_X9_sortOf (Nat.le_trans (by decide) he) (ok_mono (ok_bind2 k) fun z_4 h_3 k => ?_))
  try dsimp only at k
  refine wp_istore_n dX9_endOf_6 (by decide) (L1 := [_, _, _, _, _]) rfl ?_
  refine wp_iload_n dX9_endOf_7 rfl ?_
  refine wp_iconst dX9_endOf_8 ic_1 ?_
  refine wp_iadd dX9_endOf_9 ?_
  replace k := ok_lt k
  refine wp_istore dX9_endOf_10 (by decide) (L1 := [_, _, _, _, _]) rfl ?_
  refine wp_wk (wkE <| wkJ <| wkE <| wkE <| wkE <| wkN) ?_
  refine s_X9_endOf_l12 (Nat.succ_le_succ he) (fun x4_7 h_6 k => ?_) FU _ _ _ _ _ (ok_bind2 k)
  try dsimp only at k
  refine wp_iload dX9_endOf_49 rfl ?_
  refine wp_iret rfl rfl dX9_endOf_51 ?_
  exact (ok_some k :)
theorem c_X9_endOf {S : SH} {d : Nat} {K : Option Value → AH → Prop} (hd : 1 ≤ d)  {r0 : Nat} {x1 : Int32} {x2 : Int32} {h : AH} (k : ok (f_X9_endOf S r0 x1 x2 h) (fun w h' => K (some (.int w)) h')) : CP S M_X9_endOf d 0 0 [.ref r0, .int x1, .int x2] h K := cp_of (by decide) (fun _ _ => trivial) (fun _ => Nat.le_of_ble_eq_true rfl) (s_X9_endOf hd  k)
def f_X9_numberOf_l5b (S : SH) (rc : Nat → Int32 → Int32 → Int32 → AH → Option (Int32 × AH)) (r0 : Nat) (x2 : Int32) (x3 : Int32) (x4 : Int32) (h : AH) : Option (Int32 × AH) :=
  if x2 ≤ x4 then
    some (x3, h)
  else
    (lnA S h r0).bind fun v_2 =>
    if v_2 ≤ x4 then
      some (x3, h)
    else
      (aI S h r0 x4).bind fun v_5 =>
      lt ((mnI (((x3 * (10 : Int32)) + (mxI (0 : Int32) ((v_5 - (48 : Int32)))))) (1001 : Int32))) fun y_7 =>
      lt (x4 + (1 : Int32)) fun y_8 =>
      rc r0 x2 y_7 y_8 h
set_option maxHeartbeats 8000000 in
set_option maxRecDepth 20000 in
theorem s_X9_numberOf_l5b {S : SH} {d cb sb : Nat} {Q : Option Value → AH → Prop} (hd : 1 ≤ d) {K : Int32 → AH → Prop} (hex : ∀ (x3 : Int32) (h' : AH), K x3 h' → WP S M_X9_numberOf d cb sb Q 47 [JK, JK, JK, .int x3, JK] [] h') {rc : Nat → Int32 → Int32 → Int32 → AH → Option (Int32 × AH)} (hrec : ∀ (r0 : Nat) (x2 : Int32) (x3 : Int32) (x4 : Int32) (h' : AH), ok (rc r0 x2 x3 x4 h') K → WP S M_X9_numberOf d cb sb Q 5 [.ref r0, JK, .int x2, .int x3, .int x4] [] h') {r0 : Nat} {x2 : Int32} {x3 : Int32} {x4 : Int32} {h : AH} (k : ok (f_X9_numberOf_l5b S rc r0 x2 x3 x4 h) K) : WP S M_X9_numberOf d cb sb Q 5 [.ref r0, JK, .int x2, .int x3, .int x4] [] h := by
  obtain ⟨d, rfl, he⟩ := dp (L := 0) hd
  unfold f_X9_numberOf_l5b at k
  refine wp_iload dX9_numberOf_5 rfl ?_
  refine wp_iload_n dX9_numberOf_7 rfl ?_
  refine wp_icmp_ge 47 dX9_numberOf_8 (by decide) (fun c_1 => ?_) (fun c_1 => ?_)
  · replace k := ok_t c_1 k
    exact wp_wk (wkJ <| wkJ <| wkJ <| wkE <| wkJ <| wkN) (hex _ _ (ok_some k))
  · replace k := ok_f c_1 k
    refine wp_iload dX9_numberOf_11 rfl ?_
    refine wp_aload_n dX9_numberOf_13 rfl ?_
    replace k := ok_bind k
    obtain ⟨v_2, e_3, k⟩ := k
    refine wq_len dX9_numberOf_14 e_3 ?_
    refine wp_icmp_ge 47 dX9_numberOf_15 (by decide) (fun c_4 => ?_) (fun c_4 => ?_)
    · replace k := ok_t c_4 k
      exact wp_wk (wkJ <| wkJ <| wkJ <| wkE <| wkJ <| wkN) (hex _ _ (ok_some k))
    · replace k := ok_f c_4 k
      refine wp_iload_n dX9_numberOf_18 rfl ?_
      refine wp_bipush dX9_numberOf_19 bp_10 ?_
      refine wp_imul dX9_numberOf_21 ?_
      refine wp_iconst dX9_numberOf_22 ic_0 ?_
      refine wp_aload_n dX9_numberOf_23 rfl ?_
      refine wp_iload dX9_numberOf_24 rfl ?_
      replace k := ok_bind k
      obtain ⟨v_5, e_6, k⟩ := k
      refine wq_aI dX9_numberOf_26 e_6 ?_
      refine wp_bipush dX9_numberOf_27 bp_48 ?_
      refine wp_isub dX9_numberOf_29 ?_
      refine wp_mmax ml_X9_58 mm_max mini mc_max (by exact Nat.le_of_ble_eq_true rfl) dX9_numberOf_30 ?_
      refine wp_iadd dX9_numberOf_33 ?_
      refine wp_sipush dX9_numberOf_34 sp_1001 ?_
      refine wp_mmin ml_X9_64 mm_min mini mc_min (by exact Nat.le_of_ble_eq_true rfl) dX9_numberOf_37 ?_
      replace k := ok_lt k
      refine wp_istore_n dX9_numberOf_40 (by decide) (L1 := [_, _, _, _, _]) rfl ?_
      replace k := ok_lt k
      refine wp_iinc dX9_numberOf_41 rfl ic_1 (by decide) (L1 := [_, _, _, _, _]) rfl ?_
      refine wp_goto 5 dX9_numberOf_44 (by decide) ?_
      exact wp_wk (wkE <| wkJ <| wkE <| wkE <| wkE <| wkN) (hrec _ _ _ _ _ k)
def f_X9_numberOf_l5 (S : SH) : Nat → Nat → Int32 → Int32 → Int32 → AH → Option (Int32 × AH)
  | 0, _, _, _, _, _ => none
  | n + 1, r0, x2, x3, x4, h => f_X9_numberOf_l5b S (f_X9_numberOf_l5 S n) r0 x2 x3 x4 h
theorem s_X9_numberOf_l5 {S : SH} {d cb sb : Nat} {Q : Option Value → AH → Prop} (hd : 1 ≤ d) {K : Int32 → AH → Prop} (hex : ∀ (x3 : Int32) (h' : AH), K x3 h' → WP S M_X9_numberOf d cb sb Q 47 [JK, JK, JK, .int x3, JK] [] h') : ∀ (n : Nat) (r0 : Nat) (x2 : Int32) (x3 : Int32) (x4 : Int32) (h : AH), ok (f_X9_numberOf_l5 S n r0 x2 x3 x4 h) K → WP S M_X9_numberOf d cb sb Q 5 [.ref r0, JK, .int x2, .int x3, .int x4] [] h := by
  intro n
  induction n with
  | zero => intro r0 x2 x3 x4 h k; exact ok_none k
  | succ n ih => intro r0 x2 x3 x4 h k; exact s_X9_numberOf_l5b hd hex (fun r0 x2 x3 x4 h k => ih r0 x2 x3 x4 h k) k
def f_X9_numberOf (S : SH) (r0 : Nat) (x1 : Int32) (x2 : Int32) (h : AH) : Option (Int32 × AH) :=
  (f_X9_numberOf_l5 S FU r0 x2 (0 : Int32) x1 h).bind fun z => match z with
  | (x3_2, h_1) =>
  some (x3_2, h_1)
set_option maxHeartbeats 8000000 in
set_option maxRecDepth 20000 in
theorem s_X9_numberOf {S : SH} {d cb sb : Nat} {Q : Option Value → AH → Prop} (hd : 1 ≤ d)  {r0 : Nat} {x1 : Int32} {x2 : Int32} {h : AH} (k : ok (f_X9_numberOf S r0 x1 x2 h) (fun w h' => Q (some (.int w)) h')) : WP S M_X9_numberOf d cb sb Q 0 [.ref r0, .int x1, .int x2, JK, JK] [] h := by
  obtain ⟨d, rfl, he⟩ := dp (L := 0) hd
  unfold f_X9_numberOf at k
  refine wp_iconst dX9_numberOf_0 ic_0 ?_
  refine wp_istore_n dX9_numberOf_1 (by decide) (L1 := [_, _, _, _, _]) rfl ?_
  refine wp_iload_n dX9_numberOf_2 rfl ?_
  refine wp_istore dX9_numberOf_3 (by decide) (L1 := [_, _, _, _, _]) rfl ?_
  refine wp_wk (wkE <| wkJ <| wkE <| wkE <| wkE <| wkN) ?_
  refine s_X9_numberOf_l5 (Nat.succ_le_succ he) (fun x3_2 h_1 k => ?_) FU _ _ _ _ _ (ok_bind2 k)
  try dsimp only at k
  refine wp_iload_n dX9_numberOf_47 rfl ?_
  refine wp_iret rfl rfl dX9_numberOf_48 ?_
  exact (ok_some k :)
theorem c_X9_numberOf {S : SH} {d : Nat} {K : Option Value → AH → Prop} (hd : 1 ≤ d)  {r0 : Nat} {x1 : Int32} {x2 : Int32} {h : AH} (k : ok (f_X9_numberOf S r0 x1 x2 h) (fun w h' => K (some (.int w)) h')) : CP S M_X9_numberOf d 0 0 [.ref r0, .int x1, .int x2] h K := cp_of (by decide) (fun _ _ => trivial) (fun _ => Nat.le_of_ble_eq_true rfl) (s_X9_numberOf hd  k)
def f_X9_add (S : SH) (r0 : Nat) (x1 : Int32) (x2 : Int32) (x3 : Int32) (h : AH) : Option (Unit × AH) :=
  (gI S h r0 9 3).bind fun v_1 =>
  if v_1 < (0 : Int32) then
    some ((), h)
  else
    (gI S h r0 9 3).bind fun v_4 =>
    (gR S h r0 9 0).bind fun p_6 =>
    (lnA S h p_6).bind fun v_8 =>
    if v_8 ≤ v_4 then
      some ((), h)
    else
      (gR S h r0 9 0).bind fun p_11 =>
      (gI S h r0 9 3).bind fun v_13 =>
      (sI S h p_11 v_13 x1).bind fun h_15 =>
      (gR S h_15 r0 9 1).bind fun p_17 =>
      (gI S h_15 r0 9 3).bind fun v_19 =>
      (sI S h_15 p_17 v_19 x2).bind fun h_21 =>
      (gR S h_21 r0 9 2).bind fun p_23 =>
      (gI S h_21 r0 9 3).bind fun v_25 =>
      (sI S h_21 p_23 v_25 x3).bind fun h_27 =>
      (gI S h_27 r0 9 3).bind fun v_29 =>
      (pI S h_27 r0 9 3 (v_29 + (1 : Int32))).bind fun h_31 =>
      some ((), h_31)
set_option maxHeartbeats 8000000 in
set_option maxRecDepth 20000 in
theorem s_X9_add {S : SH} {d cb sb : Nat} {Q : Option Value → AH → Prop} (hd : 0 ≤ d)  {r0 : Nat} {x1 : Int32} {x2 : Int32} {x3 : Int32} {h : AH} (k : ok (f_X9_add S r0 x1 x2 x3 h) (fun _ h' => Q none h')) : WP S M_X9_add d cb sb Q 0 [.ref r0, .int x1, .int x2, .int x3] [] h := by
  unfold f_X9_add at k
  refine wp_aload_n dX9_add_0 rfl ?_
  replace k := ok_bind k
  obtain ⟨v_1, e_2, k⟩ := k
  refine wq_getI fl_X9_21 (Or.inl rfl) dX9_add_1 e_2 ?_
  refine wp_if_lt 59 dX9_add_4 (by decide) (fun c_3 => ?_) (fun c_3 => ?_)
  · replace k := ok_t c_3 k
    refine wp_vret rfl dX9_add_59 ?_
    exact (ok_some k :)
  · replace k := ok_f c_3 k
    refine wp_aload_n dX9_add_7 rfl ?_
    replace k := ok_bind k
    obtain ⟨v_4, e_5, k⟩ := k
    refine wq_getI fl_X9_21 (Or.inl rfl) dX9_add_8 e_5 ?_
    refine wp_aload_n dX9_add_11 rfl ?_
    replace k := ok_bind k
    obtain ⟨p_6, e_7, k⟩ := k
    refine wq_getR fl_X9_9 (Or.inr ⟨_, rfl⟩) dX9_add_12 e_7 ?_
    replace k := ok_bind k
    obtain ⟨v_8, e_9, k⟩ := k
    refine wq_len dX9_add_15 e_9 ?_
    refine wp_icmp_ge 59 dX9_add_16 (by decide) (fun c_10 => ?_) (fun c_10 => ?_)
    · replace k := ok_t c_10 k
      refine wp_vret rfl dX9_add_59 ?_
      exact (ok_some k :)
    · replace k := ok_f c_10 k
      refine wp_aload_n dX9_add_19 rfl ?_
      replace k := ok_bind k
      obtain ⟨p_11, e_12, k⟩ := k
      refine wq_getR fl_X9_9 (Or.inr ⟨_, rfl⟩) dX9_add_20 e_12 ?_
      refine wp_aload_n dX9_add_23 rfl ?_
      replace k := ok_bind k
      obtain ⟨v_13, e_14, k⟩ := k
      refine wq_getI fl_X9_21 (Or.inl rfl) dX9_add_24 e_14 ?_
      refine wp_iload_n dX9_add_27 rfl ?_
      replace k := ok_bind k
      obtain ⟨h_15, e_16, k⟩ := k
      refine wq_sI dX9_add_28 e_16 ?_
      refine wp_aload_n dX9_add_29 rfl ?_
      replace k := ok_bind k
      obtain ⟨p_17, e_18, k⟩ := k
      refine wq_getR fl_X9_15 (Or.inr ⟨_, rfl⟩) dX9_add_30 e_18 ?_
      refine wp_aload_n dX9_add_33 rfl ?_
      replace k := ok_bind k
      obtain ⟨v_19, e_20, k⟩ := k
      refine wq_getI fl_X9_21 (Or.inl rfl) dX9_add_34 e_20 ?_
      refine wp_iload_n dX9_add_37 rfl ?_
      replace k := ok_bind k
      obtain ⟨h_21, e_22, k⟩ := k
      refine wq_sI dX9_add_38 e_22 ?_
      refine wp_aload_n dX9_add_39 rfl ?_
      replace k := ok_bind k
      obtain ⟨p_23, e_24, k⟩ := k
      refine wq_getR fl_X9_18 (Or.inr ⟨_, rfl⟩) dX9_add_40 e_24 ?_
      refine wp_aload_n dX9_add_43 rfl ?_
      replace k := ok_bind k
      obtain ⟨v_25, e_26, k⟩ := k
      refine wq_getI fl_X9_21 (Or.inl rfl) dX9_add_44 e_26 ?_
      refine wp_iload_n dX9_add_47 rfl ?_
      replace k := ok_bind k
      obtain ⟨h_27, e_28, k⟩ := k
      refine wq_sI dX9_add_48 e_28 ?_
      refine wp_aload_n dX9_add_49 rfl ?_
      refine wp_dupR dX9_add_50 ?_
      replace k := ok_bind k
      obtain ⟨v_29, e_30, k⟩ := k
      refine wq_getI fl_X9_21 (Or.inl rfl) dX9_add_51 e_30 ?_
      refine wp_iconst dX9_add_54 ic_1 ?_
      refine wp_iadd dX9_add_55 ?_
      replace k := ok_bind k
      obtain ⟨h_31, e_32, k⟩ := k
      refine wq_putI fl_X9_21 rfl rfl dX9_add_56 e_32 ?_
      refine wp_vret rfl dX9_add_59 ?_
      exact (ok_some k :)
theorem c_X9_add {S : SH} {d : Nat} {K : Option Value → AH → Prop} (hd : 0 ≤ d)  {r0 : Nat} {x1 : Int32} {x2 : Int32} {x3 : Int32} {h : AH} (k : ok (f_X9_add S r0 x1 x2 x3 h) (fun _ h' => K none h')) : CP S M_X9_add d 0 0 [.ref r0, .int x1, .int x2, .int x3] h K := cp_of (by decide) (fun _ _ => trivial) (fun _ => Nat.le_of_ble_eq_true rfl) (s_X9_add hd  k)
def f_X3_kind (S : SH) (r0 : Nat) (h : AH) : Option (Int32 × AH) :=
  (gI S h r0 3 3).bind fun v_1 =>
  if v_1 < (0 : Int32) then
    some ((285 : Int32), h)
  else
    (gI S h r0 3 3).bind fun v_4 =>
    (gR S h r0 3 0).bind fun p_6 =>
    (gI S h p_6 9 3).bind fun v_8 =>
    if v_8 ≤ v_4 then
      some ((285 : Int32), h)
    else
      (gR S h r0 3 0).bind fun p_11 =>
      (gR S h p_11 9 0).bind fun p_13 =>
      (gI S h r0 3 3).bind fun v_15 =>
      (aI S h p_13 v_15).bind fun v_17 =>
      some (v_17, h)
set_option maxHeartbeats 8000000 in
set_option maxRecDepth 20000 in
theorem s_X3_kind {S : SH} {d cb sb : Nat} {Q : Option Value → AH → Prop} (hd : 0 ≤ d)  {r0 : Nat} {h : AH} (k : ok (f_X3_kind S r0 h) (fun w h' => Q (some (.int w)) h')) : WP S M_X3_kind d cb sb Q 0 [.ref r0] [] h := by
  unfold f_X3_kind at k
  refine wp_aload_n dX3_kind_0 rfl ?_
  replace k := ok_bind k
  obtain ⟨v_1, e_2, k⟩ := k
  refine wq_getI fl_X3_35 (Or.inl rfl) dX3_kind_1 e_2 ?_
  refine wp_if_lt 36 dX3_kind_4 (by decide) (fun c_3 => ?_) (fun c_3 => ?_)
  · replace k := ok_t c_3 k
    refine wp_sipush dX3_kind_36 sp_285 ?_
    refine wp_iret rfl rfl dX3_kind_39 ?_
    exact (ok_some k :)
  · replace k := ok_f c_3 k
    refine wp_aload_n dX3_kind_7 rfl ?_
    replace k := ok_bind k
    obtain ⟨v_4, e_5, k⟩ := k
    refine wq_getI fl_X3_35 (Or.inl rfl) dX3_kind_8 e_5 ?_
    refine wp_aload_n dX3_kind_11 rfl ?_
    replace k := ok_bind k
    obtain ⟨p_6, e_7, k⟩ := k
    refine wq_getR fl_X3_12 (Or.inl ⟨_, rfl⟩) dX3_kind_12 e_7 ?_
    replace k := ok_bind k
    obtain ⟨v_8, e_9, k⟩ := k
    refine wq_getI fl_X3_69 (Or.inl rfl) dX3_kind_15 e_9 ?_
    refine wp_icmp_ge 36 dX3_kind_18 (by decide) (fun c_10 => ?_) (fun c_10 => ?_)
    · replace k := ok_t c_10 k
      refine wp_sipush dX3_kind_36 sp_285 ?_
      refine wp_iret rfl rfl dX3_kind_39 ?_
      exact (ok_some k :)
    · replace k := ok_f c_10 k
      refine wp_aload_n dX3_kind_21 rfl ?_
      replace k := ok_bind k
      obtain ⟨p_11, e_12, k⟩ := k
      refine wq_getR fl_X3_12 (Or.inl ⟨_, rfl⟩) dX3_kind_22 e_12 ?_
      replace k := ok_bind k
      obtain ⟨p_13, e_14, k⟩ := k
      refine wq_getR fl_X3_76 (Or.inr ⟨_, rfl⟩) dX3_kind_25 e_14 ?_
      refine wp_aload_n dX3_kind_28 rfl ?_
      replace k := ok_bind k
      obtain ⟨v_15, e_16, k⟩ := k
      refine wq_getI fl_X3_35 (Or.inl rfl) dX3_kind_29 e_16 ?_
      replace k := ok_bind k
      obtain ⟨v_17, e_18, k⟩ := k
      refine wq_aI dX3_kind_32 e_18 ?_
      refine wp_goto 39 dX3_kind_33 (by decide) ?_
      refine wp_iret rfl rfl dX3_kind_39 ?_
      exact (ok_some k :)
theorem c_X3_kind {S : SH} {d : Nat} {K : Option Value → AH → Prop} (hd : 0 ≤ d)  {r0 : Nat} {h : AH} (k : ok (f_X3_kind S r0 h) (fun w h' => K (some (.int w)) h')) : CP S M_X3_kind d 0 0 [.ref r0] h K := cp_of (by decide) (fun _ _ => trivial) (fun _ => Nat.le_of_ble_eq_true rfl) (s_X3_kind hd  k)
def f_X8_setHead (S : SH) (r0 : Nat) (x1 : Int32) (x2 : Int32) (x3 : Int32) (h : AH) : Option (Unit × AH) :=
  lt (((x1 * (6 : Int32)) + x2)) fun y_1 =>
  if y_1 < (0 : Int32) then
    some ((), h)
  else
    (gR S h r0 8 1).bind fun p_3 =>
    (lnA S h p_3).bind fun v_5 =>
    if v_5 ≤ y_1 then
      some ((), h)
    else
      (gR S h r0 8 1).bind fun p_8 =>
      (sI S h p_8 y_1 x3).bind fun h_10 =>
      some ((), h_10)
set_option maxHeartbeats 8000000 in
set_option maxRecDepth 20000 in
theorem s_X8_setHead {S : SH} {d cb sb : Nat} {Q : Option Value → AH → Prop} (hd : 0 ≤ d)  {r0 : Nat} {x1 : Int32} {x2 : Int32} {x3 : Int32} {h : AH} (k : ok (f_X8_setHead S r0 x1 x2 x3 h) (fun _ h' => Q none h')) : WP S M_X8_setHead d cb sb Q 0 [.ref r0, .int x1, .int x2, .int x3, JK] [] h := by
  unfold f_X8_setHead at k
  refine wp_iload_n dX8_setHead_0 rfl ?_
  refine wp_bipush dX8_setHead_1 bp_6 ?_
  refine wp_imul dX8_setHead_3 ?_
  refine wp_iload_n dX8_setHead_4 rfl ?_
  refine wp_iadd dX8_setHead_5 ?_
  replace k := ok_lt k
  refine wp_istore dX8_setHead_6 (by decide) (L1 := [_, _, _, _, _]) rfl ?_
  refine wp_iload dX8_setHead_8 rfl ?_
  refine wp_if_lt 31 dX8_setHead_10 (by decide) (fun c_2 => ?_) (fun c_2 => ?_)
  · replace k := ok_t c_2 k
    refine wp_vret rfl dX8_setHead_31 ?_
    exact (ok_some k :)
  · replace k := ok_f c_2 k
    refine wp_iload dX8_setHead_13 rfl ?_
    refine wp_aload_n dX8_setHead_15 rfl ?_
    replace k := ok_bind k
    obtain ⟨p_3, e_4, k⟩ := k
    refine wq_getR fl_X8_21 (Or.inr ⟨_, rfl⟩) dX8_setHead_16 e_4 ?_
    replace k := ok_bind k
    obtain ⟨v_5, e_6, k⟩ := k
    refine wq_len dX8_setHead_19 e_6 ?_
    refine wp_icmp_ge 31 dX8_setHead_20 (by decide) (fun c_7 => ?_) (fun c_7 => ?_)
    · replace k := ok_t c_7 k
      refine wp_vret rfl dX8_setHead_31 ?_
      exact (ok_some k :)
    · replace k := ok_f c_7 k
      refine wp_aload_n dX8_setHead_23 rfl ?_
      replace k := ok_bind k
      obtain ⟨p_8, e_9, k⟩ := k
      refine wq_getR fl_X8_21 (Or.inr ⟨_, rfl⟩) dX8_setHead_24 e_9 ?_
      refine wp_iload dX8_setHead_27 rfl ?_
      refine wp_iload_n dX8_setHead_29 rfl ?_
      replace k := ok_bind k
      obtain ⟨h_10, e_11, k⟩ := k
      refine wq_sI dX8_setHead_30 e_11 ?_
      refine wp_vret rfl dX8_setHead_31 ?_
      exact (ok_some k :)
theorem c_X8_setHead {S : SH} {d : Nat} {K : Option Value → AH → Prop} (hd : 0 ≤ d)  {r0 : Nat} {x1 : Int32} {x2 : Int32} {x3 : Int32} {h : AH} (k : ok (f_X8_setHead S r0 x1 x2 x3 h) (fun _ h' => K none h')) : CP S M_X8_setHead d 0 0 [.ref r0, .int x1, .int x2, .int x3] h K := cp_of (by decide) (fun _ _ => trivial) (fun _ => Nat.le_of_ble_eq_true rfl) (s_X8_setHead hd  k)
def f_X3_setHead (S : SH) (r0 : Nat) (x1 : Int32) (x2 : Int32) (h : AH) : Option (Unit × AH) :=
  (gR S h r0 3 1).bind fun p_1 =>
  (gR S h r0 3 1).bind fun p_3 =>
  (gI S h p_3 8 3).bind fun v_5 =>
  (ckO S h p_1 8).bind fun _ =>
  (f_X8_setHead S p_1 v_5 x1 x2 h).bind fun z => match z with
  | (_, h_8) =>
  some ((), h_8)
set_option maxHeartbeats 8000000 in
set_option maxRecDepth 20000 in
theorem s_X3_setHead {S : SH} {d cb sb : Nat} {Q : Option Value → AH → Prop} (hd : 1 ≤ d)  {r0 : Nat} {x1 : Int32} {x2 : Int32} {h : AH} (k : ok (f_X3_setHead S r0 x1 x2 h) (fun _ h' => Q none h')) : WP S M_X3_setHead d cb sb Q 0 [.ref r0, .int x1, .int x2] [] h := by
  obtain ⟨d, rfl, he⟩ := dp (L := 0) hd
  unfold f_X3_setHead at k
  refine wp_aload_n dX3_setHead_0 rfl ?_
  replace k := ok_bind k
  obtain ⟨p_1, e_2, k⟩ := k
  refine wq_getR fl_X3_23 (Or.inl ⟨_, rfl⟩) dX3_setHead_1 e_2 ?_
  refine wp_aload_n dX3_setHead_4 rfl ?_
  replace k := ok_bind k
  obtain ⟨p_3, e_4, k⟩ := k
  refine wq_getR fl_X3_23 (Or.inl ⟨_, rfl⟩) dX3_setHead_5 e_4 ?_
  replace k := ok_bind k
  obtain ⟨v_5, e_6, k⟩ := k
  refine wq_getI fl_X3_45 (Or.inl rfl) dX3_setHead_8 e_6 ?_
  refine wp_iload_n dX3_setHead_11 rfl ?_
  refine wp_iload_n dX3_setHead_12 rfl ?_
  replace k := ok_bind k
  obtain ⟨u, e_7, k⟩ := k
  refine wp_callV3 (N := M_X8_setHead) (ci := 8) mf_X8_setHead mi_X8_setHead me_X8_setHead ml_X3_82 dX3_setHead_13 (ckO_e e_7) mv_X8_setHead (by exact Nat.le_of_ble_eq_true rfl) (c_X8_setHead (Nat.le_trans (by decide) he) (ok_mono (ok_bind2 k) fun _ h_8 k => ?_))
  try dsimp only at k
  refine wp_vret rfl dX3_setHead_16 ?_
  exact (ok_some k :)
theorem c_X3_setHead {S : SH} {d : Nat} {K : Option Value → AH → Prop} (hd : 1 ≤ d)  {r0 : Nat} {x1 : Int32} {x2 : Int32} {h : AH} (k : ok (f_X3_setHead S r0 x1 x2 h) (fun _ h' => K none h')) : CP S M_X3_setHead d 0 0 [.ref r0, .int x1, .int x2] h K := cp_of (by decide) (fun _ _ => trivial) (fun _ => Nat.le_of_ble_eq_true rfl) (s_X3_setHead hd  k)
def f_X3_next (S : SH) (r0 : Nat) (h : AH) : Option (Unit × AH) :=
  (gI S h r0 3 3).bind fun v_1 =>
  (pI S h r0 3 3 (v_1 + (1 : Int32))).bind fun h_3 =>
  some ((), h_3)
set_option maxHeartbeats 8000000 in
set_option maxRecDepth 20000 in
theorem s_X3_next {S : SH} {d cb sb : Nat} {Q : Option Value → AH → Prop} (hd : 0 ≤ d)  {r0 : Nat} {h : AH} (k : ok (f_X3_next S r0 h) (fun _ h' => Q none h')) : WP S M_X3_next d cb sb Q 0 [.ref r0] [] h := by
  unfold f_X3_next at k
  refine wp_aload_n dX3_next_0 rfl ?_
  refine wp_dupR dX3_next_1 ?_
  replace k := ok_bind k
  obtain ⟨v_1, e_2, k⟩ := k
  refine wq_getI fl_X3_35 (Or.inl rfl) dX3_next_2 e_2 ?_
  refine wp_iconst dX3_next_5 ic_1 ?_
  refine wp_iadd dX3_next_6 ?_
  replace k := ok_bind k
  obtain ⟨h_3, e_4, k⟩ := k
  refine wq_putI fl_X3_35 rfl rfl dX3_next_7 e_4 ?_
  refine wp_vret rfl dX3_next_10 ?_
  exact (ok_some k :)
theorem c_X3_next {S : SH} {d : Nat} {K : Option Value → AH → Prop} (hd : 0 ≤ d)  {r0 : Nat} {h : AH} (k : ok (f_X3_next S r0 h) (fun _ h' => K none h')) : CP S M_X3_next d 0 0 [.ref r0] h K := cp_of (by decide) (fun _ _ => trivial) (fun _ => Nat.le_of_ble_eq_true rfl) (s_X3_next hd  k)
def f_X3_leapHere (S : SH) (r0 : Nat) (x1 : Int32) (h : AH) : Option (Unit × AH) :=
  if x1 < (0 : Int32) then
    some ((), h)
  else
    (gR S h r0 3 1).bind fun p_2 =>
    (gR S h p_2 8 0).bind fun p_4 =>
    (lnA S h p_4).bind fun v_6 =>
    if v_6 ≤ x1 then
      some ((), h)
    else
      (gR S h r0 3 1).bind fun p_9 =>
      (gR S h p_9 8 0).bind fun p_11 =>
      (aI S h p_11 x1).bind fun v_13 =>
      (gR S h r0 3 1).bind fun p_15 =>
      (gI S h p_15 8 2).bind fun v_17 =>
      (sI S h p_11 x1 (v_13 ||| (v_17 &&& (1023 : Int32)))).bind fun h_19 =>
      some ((), h_19)
set_option maxHeartbeats 8000000 in
set_option maxRecDepth 20000 in
theorem s_X3_leapHere {S : SH} {d cb sb : Nat} {Q : Option Value → AH → Prop} (hd : 0 ≤ d)  {r0 : Nat} {x1 : Int32} {h : AH} (k : ok (f_X3_leapHere S r0 x1 h) (fun _ h' => Q none h')) : WP S M_X3_leapHere d cb sb Q 0 [.ref r0, .int x1] [] h := by
  unfold f_X3_leapHere at k
  refine wp_iload_n dX3_leapHere_0 rfl ?_
  refine wp_if_lt 39 dX3_leapHere_1 (by decide) (fun c_1 => ?_) (fun c_1 => ?_)
  · replace k := ok_t c_1 k
    refine wp_vret rfl dX3_leapHere_39 ?_
    exact (ok_some k :)
  · replace k := ok_f c_1 k
    refine wp_iload_n dX3_leapHere_4 rfl ?_
    refine wp_aload_n dX3_leapHere_5 rfl ?_
    replace k := ok_bind k
    obtain ⟨p_2, e_3, k⟩ := k
    refine wq_getR fl_X3_23 (Or.inl ⟨_, rfl⟩) dX3_leapHere_6 e_3 ?_
    replace k := ok_bind k
    obtain ⟨p_4, e_5, k⟩ := k
    refine wq_getR fl_X3_85 (Or.inr ⟨_, rfl⟩) dX3_leapHere_9 e_5 ?_
    replace k := ok_bind k
    obtain ⟨v_6, e_7, k⟩ := k
    refine wq_len dX3_leapHere_12 e_7 ?_
    refine wp_icmp_ge 39 dX3_leapHere_13 (by decide) (fun c_8 => ?_) (fun c_8 => ?_)
    · replace k := ok_t c_8 k
      refine wp_vret rfl dX3_leapHere_39 ?_
      exact (ok_some k :)
    · replace k := ok_f c_8 k
      refine wp_aload_n dX3_leapHere_16 rfl ?_
      replace k := ok_bind k
      obtain ⟨p_9, e_10, k⟩ := k
      refine wq_getR fl_X3_23 (Or.inl ⟨_, rfl⟩) dX3_leapHere_17 e_10 ?_
      replace k := ok_bind k
      obtain ⟨p_11, e_12, k⟩ := k
      refine wq_getR fl_X3_85 (Or.inr ⟨_, rfl⟩) dX3_leapHere_20 e_12 ?_
      refine wp_iload_n dX3_leapHere_23 rfl ?_
      refine wp_dup2 dX3_leapHere_24 ?_
      replace k := ok_bind k
      obtain ⟨v_13, e_14, k⟩ := k
      refine wq_aI dX3_leapHere_25 e_14 ?_
      refine wp_aload_n dX3_leapHere_26 rfl ?_
      replace k := ok_bind k
      obtain ⟨p_15, e_16, k⟩ := k
      refine wq_getR fl_X3_23 (Or.inl ⟨_, rfl⟩) dX3_leapHere_27 e_16 ?_
      replace k := ok_bind k
      obtain ⟨v_17, e_18, k⟩ := k
      refine wq_getI fl_X3_42 (Or.inl rfl) dX3_leapHere_30 e_18 ?_
      refine wp_sipush dX3_leapHere_33 sp_1023 ?_
      refine wp_iand dX3_leapHere_36 ?_
      refine wp_ior dX3_leapHere_37 ?_
      replace k := ok_bind k
      obtain ⟨h_19, e_20, k⟩ := k
      refine wq_sI dX3_leapHere_38 e_20 ?_
      refine wp_vret rfl dX3_leapHere_39 ?_
      exact (ok_some k :)
theorem c_X3_leapHere {S : SH} {d : Nat} {K : Option Value → AH → Prop} (hd : 0 ≤ d)  {r0 : Nat} {x1 : Int32} {h : AH} (k : ok (f_X3_leapHere S r0 x1 h) (fun _ h' => K none h')) : CP S M_X3_leapHere d 0 0 [.ref r0, .int x1] h K := cp_of (by decide) (fun _ _ => trivial) (fun _ => Nat.le_of_ble_eq_true rfl) (s_X3_leapHere hd  k)
def f_X3_emit (S : SH) (r0 : Nat) (x1 : Int32) (x2 : Int32) (h : AH) : Option (Unit × AH) :=
  (gR S h r0 3 1).bind fun p_1 =>
  (gI S h p_1 8 2).bind fun v_3 =>
  if v_3 < (0 : Int32) then
    some ((), h)
  else
    (gR S h r0 3 1).bind fun p_6 =>
    (gI S h p_6 8 2).bind fun v_8 =>
    (gR S h r0 3 1).bind fun p_10 =>
    (gR S h p_10 8 0).bind fun p_12 =>
    (lnA S h p_12).bind fun v_14 =>
    if v_14 ≤ v_8 then
      some ((), h)
    else
      (gR S h r0 3 1).bind fun p_17 =>
      (gR S h p_17 8 0).bind fun p_19 =>
      (gR S h r0 3 1).bind fun p_21 =>
      (gI S h p_21 8 2).bind fun v_23 =>
      (sI S h p_19 v_23 ((x1 <<< ((10 : Int32) &&& (31 : Int32))) ||| (x2 &&& (1023 : Int32)))).bind fun h_25 =>
      (gR S h_25 r0 3 1).bind fun p_27 =>
      (gI S h_25 p_27 8 2).bind fun v_29 =>
      (pI S h_25 p_27 8 2 (v_29 + (1 : Int32))).bind fun h_31 =>
      some ((), h_31)
set_option maxHeartbeats 8000000 in
set_option maxRecDepth 20000 in
theorem s_X3_emit {S : SH} {d cb sb : Nat} {Q : Option Value → AH → Prop} (hd : 0 ≤ d)  {r0 : Nat} {x1 : Int32} {x2 : Int32} {h : AH} (k : ok (f_X3_emit S r0 x1 x2 h) (fun _ h' => Q none h')) : WP S M_X3_emit d cb sb Q 0 [.ref r0, .int x1, .int x2] [] h := by
  unfold f_X3_emit at k
  refine wp_aload_n dX3_emit_0 rfl ?_
  replace k := ok_bind k
  obtain ⟨p_1, e_2, k⟩ := k
  refine wq_getR fl_X3_23 (Or.inl ⟨_, rfl⟩) dX3_emit_1 e_2 ?_
  replace k := ok_bind k
  obtain ⟨v_3, e_4, k⟩ := k
  refine wq_getI fl_X3_42 (Or.inl rfl) dX3_emit_4 e_4 ?_
  refine wp_if_lt 66 dX3_emit_7 (by decide) (fun c_5 => ?_) (fun c_5 => ?_)
  · replace k := ok_t c_5 k
    refine wp_vret rfl dX3_emit_66 ?_
    exact (ok_some k :)
  · replace k := ok_f c_5 k
    refine wp_aload_n dX3_emit_10 rfl ?_
    replace k := ok_bind k
    obtain ⟨p_6, e_7, k⟩ := k
    refine wq_getR fl_X3_23 (Or.inl ⟨_, rfl⟩) dX3_emit_11 e_7 ?_
    replace k := ok_bind k
    obtain ⟨v_8, e_9, k⟩ := k
    refine wq_getI fl_X3_42 (Or.inl rfl) dX3_emit_14 e_9 ?_
    refine wp_aload_n dX3_emit_17 rfl ?_
    replace k := ok_bind k
    obtain ⟨p_10, e_11, k⟩ := k
    refine wq_getR fl_X3_23 (Or.inl ⟨_, rfl⟩) dX3_emit_18 e_11 ?_
    replace k := ok_bind k
    obtain ⟨p_12, e_13, k⟩ := k
    refine wq_getR fl_X3_85 (Or.inr ⟨_, rfl⟩) dX3_emit_21 e_13 ?_
    replace k := ok_bind k
    obtain ⟨v_14, e_15, k⟩ := k
    refine wq_len dX3_emit_24 e_15 ?_
    refine wp_icmp_ge 66 dX3_emit_25 (by decide) (fun c_16 => ?_) (fun c_16 => ?_)
    · replace k := ok_t c_16 k
      refine wp_vret rfl dX3_emit_66 ?_
      exact (ok_some k :)
    · replace k := ok_f c_16 k
      refine wp_aload_n dX3_emit_28 rfl ?_
      replace k := ok_bind k
      obtain ⟨p_17, e_18, k⟩ := k
      refine wq_getR fl_X3_23 (Or.inl ⟨_, rfl⟩) dX3_emit_29 e_18 ?_
      replace k := ok_bind k
      obtain ⟨p_19, e_20, k⟩ := k
      refine wq_getR fl_X3_85 (Or.inr ⟨_, rfl⟩) dX3_emit_32 e_20 ?_
      refine wp_aload_n dX3_emit_35 rfl ?_
      replace k := ok_bind k
      obtain ⟨p_21, e_22, k⟩ := k
      refine wq_getR fl_X3_23 (Or.inl ⟨_, rfl⟩) dX3_emit_36 e_22 ?_
      replace k := ok_bind k
      obtain ⟨v_23, e_24, k⟩ := k
      refine wq_getI fl_X3_42 (Or.inl rfl) dX3_emit_39 e_24 ?_
      refine wp_iload_n dX3_emit_42 rfl ?_
      refine wp_bipush dX3_emit_43 bp_10 ?_
      refine wp_ishl dX3_emit_45 ?_
      refine wp_iload_n dX3_emit_46 rfl ?_
      refine wp_sipush dX3_emit_47 sp_1023 ?_
      refine wp_iand dX3_emit_50 ?_
      refine wp_ior dX3_emit_51 ?_
      replace k := ok_bind k
      obtain ⟨h_25, e_26, k⟩ := k
      refine wq_sI dX3_emit_52 e_26 ?_
      refine wp_aload_n dX3_emit_53 rfl ?_
      replace k := ok_bind k
      obtain ⟨p_27, e_28, k⟩ := k
      refine wq_getR fl_X3_23 (Or.inl ⟨_, rfl⟩) dX3_emit_54 e_28 ?_
      refine wp_dupR dX3_emit_57 ?_
      replace k := ok_bind k
      obtain ⟨v_29, e_30, k⟩ := k
      refine wq_getI fl_X3_42 (Or.inl rfl) dX3_emit_58 e_30 ?_
      refine wp_iconst dX3_emit_61 ic_1 ?_
      refine wp_iadd dX3_emit_62 ?_
      replace k := ok_bind k
      obtain ⟨h_31, e_32, k⟩ := k
      refine wq_putI fl_X3_42 rfl rfl dX3_emit_63 e_32 ?_
      refine wp_vret rfl dX3_emit_66 ?_
      exact (ok_some k :)
theorem c_X3_emit {S : SH} {d : Nat} {K : Option Value → AH → Prop} (hd : 0 ≤ d)  {r0 : Nat} {x1 : Int32} {x2 : Int32} {h : AH} (k : ok (f_X3_emit S r0 x1 x2 h) (fun _ h' => K none h')) : CP S M_X3_emit d 0 0 [.ref r0, .int x1, .int x2] h K := cp_of (by decide) (fun _ _ => trivial) (fun _ => Nat.le_of_ble_eq_true rfl) (s_X3_emit hd  k)
def f_X3_isNumber (S : SH) (r0 : Nat) (x1 : Int32) (x2 : Int32) (h : AH) : Option (Int32 × AH) :=
  (gI S h r0 3 3).bind fun v_1 =>
  if v_1 < (0 : Int32) then
    some ((0 : Int32), h)
  else
    (gI S h r0 3 3).bind fun v_4 =>
    (gR S h r0 3 0).bind fun p_6 =>
    (gI S h p_6 9 3).bind fun v_8 =>
    if v_8 ≤ v_4 then
      some ((0 : Int32), h)
    else
      (gR S h r0 3 0).bind fun p_11 =>
      (gR S h p_11 9 0).bind fun p_13 =>
      (gI S h r0 3 3).bind fun v_15 =>
      (aI S h p_13 v_15).bind fun v_17 =>
      if v_17 = (284 : Int32) then
        (gR S h r0 3 0).bind fun p_20 =>
        (gR S h p_20 9 2).bind fun p_22 =>
        (gI S h r0 3 3).bind fun v_24 =>
        (aI S h p_22 v_24).bind fun v_26 =>
        if v_26 < x1 then
          some ((0 : Int32), h)
        else
          (gR S h r0 3 0).bind fun p_29 =>
          (gR S h p_29 9 2).bind fun p_31 =>
          (gI S h r0 3 3).bind fun v_33 =>
          (aI S h p_31 v_33).bind fun v_35 =>
          if x2 < v_35 then
            some ((0 : Int32), h)
          else
            some ((1 : Int32), h)
      else
        some ((0 : Int32), h)
set_option maxHeartbeats 8000000 in
set_option maxRecDepth 20000 in
theorem s_X3_isNumber {S : SH} {d cb sb : Nat} {Q : Option Value → AH → Prop} (hd : 0 ≤ d)  {r0 : Nat} {x1 : Int32} {x2 : Int32} {h : AH} (k : ok (f_X3_isNumber S r0 x1 x2 h) (fun w h' => Q (some (.int w)) h')) : WP S M_X3_isNumber d cb sb Q 0 [.ref r0, .int x1, .int x2] [] h := by
  unfold f_X3_isNumber at k
  refine wp_aload_n dX3_isNumber_0 rfl ?_
  replace k := ok_bind k
  obtain ⟨v_1, e_2, k⟩ := k
  refine wq_getI fl_X3_35 (Or.inl rfl) dX3_isNumber_1 e_2 ?_
  refine wp_if_lt 75 dX3_isNumber_4 (by decide) (fun c_3 => ?_) (fun c_3 => ?_)
  · replace k := ok_t c_3 k
    refine wp_iconst dX3_isNumber_75 ic_0 ?_
    refine wp_iret rfl rfl dX3_isNumber_76 ?_
    exact (ok_some k :)
  · replace k := ok_f c_3 k
    refine wp_aload_n dX3_isNumber_7 rfl ?_
    replace k := ok_bind k
    obtain ⟨v_4, e_5, k⟩ := k
    refine wq_getI fl_X3_35 (Or.inl rfl) dX3_isNumber_8 e_5 ?_
    refine wp_aload_n dX3_isNumber_11 rfl ?_
    replace k := ok_bind k
    obtain ⟨p_6, e_7, k⟩ := k
    refine wq_getR fl_X3_12 (Or.inl ⟨_, rfl⟩) dX3_isNumber_12 e_7 ?_
    replace k := ok_bind k
    obtain ⟨v_8, e_9, k⟩ := k
    refine wq_getI fl_X3_69 (Or.inl rfl) dX3_isNumber_15 e_9 ?_
    refine wp_icmp_ge 75 dX3_isNumber_18 (by decide) (fun c_10 => ?_) (fun c_10 => ?_)
    · replace k := ok_t c_10 k
      refine wp_iconst dX3_isNumber_75 ic_0 ?_
      refine wp_iret rfl rfl dX3_isNumber_76 ?_
      exact (ok_some k :)
    · replace k := ok_f c_10 k
      refine wp_aload_n dX3_isNumber_21 rfl ?_
      replace k := ok_bind k
      obtain ⟨p_11, e_12, k⟩ := k
      refine wq_getR fl_X3_12 (Or.inl ⟨_, rfl⟩) dX3_isNumber_22 e_12 ?_
      replace k := ok_bind k
      obtain ⟨p_13, e_14, k⟩ := k
      refine wq_getR fl_X3_76 (Or.inr ⟨_, rfl⟩) dX3_isNumber_25 e_14 ?_
      refine wp_aload_n dX3_isNumber_28 rfl ?_
      replace k := ok_bind k
      obtain ⟨v_15, e_16, k⟩ := k
      refine wq_getI fl_X3_35 (Or.inl rfl) dX3_isNumber_29 e_16 ?_
      replace k := ok_bind k
      obtain ⟨v_17, e_18, k⟩ := k
      refine wq_aI dX3_isNumber_32 e_18 ?_
      refine wp_sipush dX3_isNumber_33 sp_284 ?_
      refine wp_icmp_ne 75 dX3_isNumber_36 (by decide) (fun c_19 => ?_) (fun c_19 => ?_)
      · replace k := ok_f c_19 k
        refine wp_iconst dX3_isNumber_75 ic_0 ?_
        refine wp_iret rfl rfl dX3_isNumber_76 ?_
        exact (ok_some k :)
      · replace k := ok_t c_19 k
        refine wp_aload_n dX3_isNumber_39 rfl ?_
        replace k := ok_bind k
        obtain ⟨p_20, e_21, k⟩ := k
        refine wq_getR fl_X3_12 (Or.inl ⟨_, rfl⟩) dX3_isNumber_40 e_21 ?_
        replace k := ok_bind k
        obtain ⟨p_22, e_23, k⟩ := k
        refine wq_getR fl_X3_79 (Or.inr ⟨_, rfl⟩) dX3_isNumber_43 e_23 ?_
        refine wp_aload_n dX3_isNumber_46 rfl ?_
        replace k := ok_bind k
        obtain ⟨v_24, e_25, k⟩ := k
        refine wq_getI fl_X3_35 (Or.inl rfl) dX3_isNumber_47 e_25 ?_
        replace k := ok_bind k
        obtain ⟨v_26, e_27, k⟩ := k
        refine wq_aI dX3_isNumber_50 e_27 ?_
        refine wp_iload_n dX3_isNumber_51 rfl ?_
        refine wp_icmp_lt 75 dX3_isNumber_52 (by decide) (fun c_28 => ?_) (fun c_28 => ?_)
        · replace k := ok_t c_28 k
          refine wp_iconst dX3_isNumber_75 ic_0 ?_
          refine wp_iret rfl rfl dX3_isNumber_76 ?_
          exact (ok_some k :)
        · replace k := ok_f c_28 k
          refine wp_aload_n dX3_isNumber_55 rfl ?_
          replace k := ok_bind k
          obtain ⟨p_29, e_30, k⟩ := k
          refine wq_getR fl_X3_12 (Or.inl ⟨_, rfl⟩) dX3_isNumber_56 e_30 ?_
          replace k := ok_bind k
          obtain ⟨p_31, e_32, k⟩ := k
          refine wq_getR fl_X3_79 (Or.inr ⟨_, rfl⟩) dX3_isNumber_59 e_32 ?_
          refine wp_aload_n dX3_isNumber_62 rfl ?_
          replace k := ok_bind k
          obtain ⟨v_33, e_34, k⟩ := k
          refine wq_getI fl_X3_35 (Or.inl rfl) dX3_isNumber_63 e_34 ?_
          replace k := ok_bind k
          obtain ⟨v_35, e_36, k⟩ := k
          refine wq_aI dX3_isNumber_66 e_36 ?_
          refine wp_iload_n dX3_isNumber_67 rfl ?_
          refine wp_icmp_gt 75 dX3_isNumber_68 (by decide) (fun c_37 => ?_) (fun c_37 => ?_)
          · replace k := ok_t c_37 k
            refine wp_iconst dX3_isNumber_75 ic_0 ?_
            refine wp_iret rfl rfl dX3_isNumber_76 ?_
            exact (ok_some k :)
          · replace k := ok_f c_37 k
            refine wp_iconst dX3_isNumber_71 ic_1 ?_
            refine wp_goto 76 dX3_isNumber_72 (by decide) ?_
            refine wp_iret rfl rfl dX3_isNumber_76 ?_
            exact (ok_some k :)
theorem c_X3_isNumber {S : SH} {d : Nat} {K : Option Value → AH → Prop} (hd : 0 ≤ d)  {r0 : Nat} {x1 : Int32} {x2 : Int32} {h : AH} (k : ok (f_X3_isNumber S r0 x1 x2 h) (fun w h' => K (some (.int w)) h')) : CP S M_X3_isNumber d 0 0 [.ref r0, .int x1, .int x2] h K := cp_of (by decide) (fun _ _ => trivial) (fun _ => Nat.le_of_ble_eq_true rfl) (s_X3_isNumber hd  k)
def f_X3_number (S : SH) (r0 : Nat) (h : AH) : Option (Int32 × AH) :=
  (gI S h r0 3 3).bind fun v_1 =>
  if v_1 < (0 : Int32) then
    some ((0 : Int32), h)
  else
    (gI S h r0 3 3).bind fun v_4 =>
    (gR S h r0 3 0).bind fun p_6 =>
    (gI S h p_6 9 3).bind fun v_8 =>
    if v_8 ≤ v_4 then
      some ((0 : Int32), h)
    else
      (gR S h r0 3 0).bind fun p_11 =>
      (gR S h p_11 9 2).bind fun p_13 =>
      (gI S h r0 3 3).bind fun v_15 =>
      (aI S h p_13 v_15).bind fun v_17 =>
      some (v_17, h)
set_option maxHeartbeats 8000000 in
set_option maxRecDepth 20000 in
theorem s_X3_number {S : SH} {d cb sb : Nat} {Q : Option Value → AH → Prop} (hd : 0 ≤ d)  {r0 : Nat} {h : AH} (k : ok (f_X3_number S r0 h) (fun w h' => Q (some (.int w)) h')) : WP S M_X3_number d cb sb Q 0 [.ref r0] [] h := by
  unfold f_X3_number at k
  refine wp_aload_n dX3_number_0 rfl ?_
  replace k := ok_bind k
  obtain ⟨v_1, e_2, k⟩ := k
  refine wq_getI fl_X3_35 (Or.inl rfl) dX3_number_1 e_2 ?_
  refine wp_if_lt 36 dX3_number_4 (by decide) (fun c_3 => ?_) (fun c_3 => ?_)
  · replace k := ok_t c_3 k
    refine wp_iconst dX3_number_36 ic_0 ?_
    refine wp_iret rfl rfl dX3_number_37 ?_
    exact (ok_some k :)
  · replace k := ok_f c_3 k
    refine wp_aload_n dX3_number_7 rfl ?_
    replace k := ok_bind k
    obtain ⟨v_4, e_5, k⟩ := k
    refine wq_getI fl_X3_35 (Or.inl rfl) dX3_number_8 e_5 ?_
    refine wp_aload_n dX3_number_11 rfl ?_
    replace k := ok_bind k
    obtain ⟨p_6, e_7, k⟩ := k
    refine wq_getR fl_X3_12 (Or.inl ⟨_, rfl⟩) dX3_number_12 e_7 ?_
    replace k := ok_bind k
    obtain ⟨v_8, e_9, k⟩ := k
    refine wq_getI fl_X3_69 (Or.inl rfl) dX3_number_15 e_9 ?_
    refine wp_icmp_ge 36 dX3_number_18 (by decide) (fun c_10 => ?_) (fun c_10 => ?_)
    · replace k := ok_t c_10 k
      refine wp_iconst dX3_number_36 ic_0 ?_
      refine wp_iret rfl rfl dX3_number_37 ?_
      exact (ok_some k :)
    · replace k := ok_f c_10 k
      refine wp_aload_n dX3_number_21 rfl ?_
      replace k := ok_bind k
      obtain ⟨p_11, e_12, k⟩ := k
      refine wq_getR fl_X3_12 (Or.inl ⟨_, rfl⟩) dX3_number_22 e_12 ?_
      replace k := ok_bind k
      obtain ⟨p_13, e_14, k⟩ := k
      refine wq_getR fl_X3_79 (Or.inr ⟨_, rfl⟩) dX3_number_25 e_14 ?_
      refine wp_aload_n dX3_number_28 rfl ?_
      replace k := ok_bind k
      obtain ⟨v_15, e_16, k⟩ := k
      refine wq_getI fl_X3_35 (Or.inl rfl) dX3_number_29 e_16 ?_
      replace k := ok_bind k
      obtain ⟨v_17, e_18, k⟩ := k
      refine wq_aI dX3_number_32 e_18 ?_
      refine wp_goto 37 dX3_number_33 (by decide) ?_
      refine wp_iret rfl rfl dX3_number_37 ?_
      exact (ok_some k :)
theorem c_X3_number {S : SH} {d : Nat} {K : Option Value → AH → Prop} (hd : 0 ≤ d)  {r0 : Nat} {h : AH} (k : ok (f_X3_number S r0 h) (fun w h' => K (some (.int w)) h')) : CP S M_X3_number d 0 0 [.ref r0] h K := cp_of (by decide) (fun _ _ => trivial) (fun _ => Nat.le_of_ble_eq_true rfl) (s_X3_number hd  k)
def f_X3_lawWord (S : SH) (r0 : Nat) (h : AH) : Option (Int32 × AH) :=
  (ckO S h r0 3).bind fun _ =>
  (f_X3_kind S r0 h).bind fun z => match z with
  | (z_3, h_2) =>
  if z_3 < (270 : Int32) then
    some ((0 : Int32), h_2)
  else
    if z_3 ≤ (278 : Int32) then
      (ckO S h_2 r0 3).bind fun _ =>
      (f_X3_emit S r0 (283 : Int32) ((z_3 - (270 : Int32))) h_2).bind fun z => match z with
      | (_, h_7) =>
      (ckO S h_7 r0 3).bind fun _ =>
      (f_X3_next S r0 h_7).bind fun z => match z with
      | (_, h_10) =>
      some ((1 : Int32), h_10)
    else
      some ((0 : Int32), h_2)
set_option maxHeartbeats 8000000 in
set_option maxRecDepth 20000 in
theorem s_X3_lawWord {S : SH} {d cb sb : Nat} {Q : Option Value → AH → Prop} (hd : 1 ≤ d)  {r0 : Nat} {h : AH} (k : ok (f_X3_lawWord S r0 h) (fun w h' => Q (some (.int w)) h')) : WP S M_X3_lawWord d cb sb Q 0 [.ref r0, JK] [] h := by
  obtain ⟨d, rfl, he⟩ := dp (L := 0) hd
  unfold f_X3_lawWord at k
  refine wp_aload_n dX3_lawWord_0 rfl ?_
  replace k := ok_bind k
  obtain ⟨u, e_1, k⟩ := k
  refine wp_callV0 (N := M_X3_kind) (ci := 3) mf_X3_kind mi_X3_kind me_X3_kind ml_X3_48 dX3_lawWord_1 (ckO_e e_1) mv_X3_kind (by exact Nat.le_of_ble_eq_true rfl) (c_X3_kind (Nat.le_trans (by decide) he) (ok_mono (ok_bind2 k) fun z_3 h_2 k => ?_))
  try dsimp only at k
  refine wp_istore_n dX3_lawWord_4 (by decide) (L1 := [_, _]) rfl ?_
  refine wp_iload_n dX3_lawWord_5 rfl ?_
  refine wp_sipush dX3_lawWord_6 sp_270 ?_
  refine wp_icmp_lt 19 dX3_lawWord_9 (by decide) (fun c_4 => ?_) (fun c_4 => ?_)
  · replace k := ok_t c_4 k
    refine wp_iconst dX3_lawWord_19 ic_0 ?_
    refine wp_iret rfl rfl dX3_lawWord_20 ?_
    exact (ok_some k :)
  · replace k := ok_f c_4 k
    refine wp_iload_n dX3_lawWord_12 rfl ?_
    refine wp_sipush dX3_lawWord_13 sp_278 ?_
    refine wp_icmp_le 21 dX3_lawWord_16 (by decide) (fun c_5 => ?_) (fun c_5 => ?_)
    · replace k := ok_t c_5 k
      refine wp_aload_n dX3_lawWord_21 rfl ?_
      refine wp_sipush dX3_lawWord_22 sp_283 ?_
      refine wp_iload_n dX3_lawWord_25 rfl ?_
      refine wp_sipush dX3_lawWord_26 sp_270 ?_
      refine wp_isub dX3_lawWord_29 ?_
      replace k := ok_bind k
      obtain ⟨u, e_6, k⟩ := k
      refine wp_callV2 (N := M_X3_emit) (ci := 3) mf_X3_emit mi_X3_emit me_X3_emit ml_X3_108 dX3_lawWord_30 (ckO_e e_6) mv_X3_emit (by exact Nat.le_of_ble_eq_true rfl) (c_X3_emit (Nat.le_trans (by decide) he) (ok_mono (ok_bind2 k) fun _ h_7 k => ?_))
      try dsimp only at k
      refine wp_aload_n dX3_lawWord_33 rfl ?_
      replace k := ok_bind k
      obtain ⟨u, e_9, k⟩ := k
      refine wp_callV0 (N := M_X3_next) (ci := 3) mf_X3_next mi_X3_next me_X3_next ml_X3_62 dX3_lawWord_34 (ckO_e e_9) mv_X3_next (by exact Nat.le_of_ble_eq_true rfl) (c_X3_next (Nat.le_trans (by decide) he) (ok_mono (ok_bind2 k) fun _ h_10 k => ?_))
      try dsimp only at k
      refine wp_iconst dX3_lawWord_37 ic_1 ?_
      refine wp_iret rfl rfl dX3_lawWord_38 ?_
      exact (ok_some k :)
    · replace k := ok_f c_5 k
      refine wp_iconst dX3_lawWord_19 ic_0 ?_
      refine wp_iret rfl rfl dX3_lawWord_20 ?_
      exact (ok_some k :)
theorem c_X3_lawWord {S : SH} {d : Nat} {K : Option Value → AH → Prop} (hd : 1 ≤ d)  {r0 : Nat} {h : AH} (k : ok (f_X3_lawWord S r0 h) (fun w h' => K (some (.int w)) h')) : CP S M_X3_lawWord d 0 0 [.ref r0] h K := cp_of (by decide) (fun _ _ => trivial) (fun _ => Nat.le_of_ble_eq_true rfl) (s_X3_lawWord hd  k)
def f_X3_orderWord_j38 (S : SH) (r0 : Nat) (x1 : Int32) (sr0 : Nat) (sx1 : Int32) (sx2 : Int32) (h : AH) : Option (Int32 × AH) :=
  (ckO S h sr0 3).bind fun _ =>
  (f_X3_isNumber S sr0 sx1 sx2 h).bind fun z => match z with
  | (z_3, h_2) =>
  if z_3 = (0 : Int32) then
    some ((0 : Int32), h_2)
  else
    if x1 = (271 : Int32) then
      (ckO S h_2 r0 3).bind fun _ =>
      (f_X3_number S r0 h_2).bind fun z => match z with
      | (z_17, h_16) =>
      (ckO S h_16 r0 3).bind fun _ =>
      (f_X3_emit S r0 (283 : Int32) (((18 : Int32) + z_17)) h_16).bind fun z => match z with
      | (_, h_19) =>
      (ckO S h_19 r0 3).bind fun _ =>
      (f_X3_next S r0 h_19).bind fun z => match z with
      | (_, h_22) =>
      some ((1 : Int32), h_22)
    else
      (ckO S h_2 r0 3).bind fun _ =>
      (f_X3_number S r0 h_2).bind fun z => match z with
      | (z_8, h_7) =>
      (ckO S h_7 r0 3).bind fun _ =>
      (f_X3_emit S r0 (283 : Int32) (((12 : Int32) + z_8)) h_7).bind fun z => match z with
      | (_, h_10) =>
      (ckO S h_10 r0 3).bind fun _ =>
      (f_X3_next S r0 h_10).bind fun z => match z with
      | (_, h_13) =>
      some ((1 : Int32), h_13)
set_option maxHeartbeats 8000000 in
set_option maxRecDepth 20000 in
theorem s_X3_orderWord_j38 {S : SH} {d cb sb : Nat} {Q : Option Value → AH → Prop} (hd : 1 ≤ d)  {r0 : Nat} {x1 : Int32} {sr0 : Nat} {sx1 : Int32} {sx2 : Int32} {h : AH} (k : ok (f_X3_orderWord_j38 S r0 x1 sr0 sx1 sx2 h) (fun w h' => Q (some (.int w)) h')) : WP S M_X3_orderWord d cb sb Q 38 [.ref r0, .int x1] [.int sx2, .int sx1, .ref sr0] h := by
  obtain ⟨d, rfl, he⟩ := dp (L := 0) hd
  unfold f_X3_orderWord_j38 at k
  replace k := ok_bind k
  obtain ⟨u, e_1, k⟩ := k
  refine wp_callV2 (N := M_X3_isNumber) (ci := 3) mf_X3_isNumber mi_X3_isNumber me_X3_isNumber ml_X3_94 dX3_orderWord_38 (ckO_e e_1) mv_X3_isNumber (by exact Nat.le_of_ble_eq_true rfl) (c_X3_isNumber (Nat.le_trans (by decide) he) (ok_mono (ok_bind2 k) fun z_3 h_2 k => ?_))
  try dsimp only at k
  refine wp_if_ne 46 dX3_orderWord_41 (by decide) (fun c_4 => ?_) (fun c_4 => ?_)
  · replace k := ok_f c_4 k
    refine wp_aload_n dX3_orderWord_46 rfl ?_
    refine wp_sipush dX3_orderWord_47 sp_283 ?_
    refine wp_iload_n dX3_orderWord_50 rfl ?_
    refine wp_sipush dX3_orderWord_51 sp_271 ?_
    refine wp_icmp_ne 62 dX3_orderWord_54 (by decide) (fun c_5 => ?_) (fun c_5 => ?_)
    · replace k := ok_f c_5 k
      refine wp_bipush dX3_orderWord_62 bp_12 ?_
      refine wp_aload_n dX3_orderWord_64 rfl ?_
      replace k := ok_bind k
      obtain ⟨u, e_6, k⟩ := k
      refine wp_callV0 (N := M_X3_number) (ci := 3) mf_X3_number mi_X3_number me_X3_number ml_X3_98 dX3_orderWord_65 (ckO_e e_6) mv_X3_number (by exact Nat.le_of_ble_eq_true rfl) (c_X3_number (Nat.le_trans (by decide) he) (ok_mono (ok_bind2 k) fun z_8 h_7 k => ?_))
      try dsimp only at k
      refine wp_iadd dX3_orderWord_68 ?_
      replace k := ok_bind k
      obtain ⟨u, e_9, k⟩ := k
      refine wp_callV2 (N := M_X3_emit) (ci := 3) mf_X3_emit mi_X3_emit me_X3_emit ml_X3_108 dX3_orderWord_69 (ckO_e e_9) mv_X3_emit (by exact Nat.le_of_ble_eq_true rfl) (c_X3_emit (Nat.le_trans (by decide) he) (ok_mono (ok_bind2 k) fun _ h_10 k => ?_))
      try dsimp only at k
      refine wp_goto 127 dX3_orderWord_72 (by decide) ?_
      refine wp_aload_n dX3_orderWord_127 rfl ?_
      replace k := ok_bind k
      obtain ⟨u, e_12, k⟩ := k
      refine wp_callV0 (N := M_X3_next) (ci := 3) mf_X3_next mi_X3_next me_X3_next ml_X3_62 dX3_orderWord_128 (ckO_e e_12) mv_X3_next (by exact Nat.le_of_ble_eq_true rfl) (c_X3_next (Nat.le_trans (by decide) he) (ok_mono (ok_bind2 k) fun _ h_13 k => ?_))
      try dsimp only at k
      refine wp_iconst dX3_orderWord_131 ic_1 ?_
      refine wp_iret rfl rfl dX3_orderWord_132 ?_
      exact (ok_some k :)
    · replace k := ok_t c_5 k
      refine wp_bipush dX3_orderWord_57 bp_18 ?_
      refine wp_goto 64 dX3_orderWord_59 (by decide) ?_
      refine wp_aload_n dX3_orderWord_64 rfl ?_
      replace k := ok_bind k
      obtain ⟨u, e_15, k⟩ := k
      refine wp_callV0 (N := M_X3_number) (ci := 3) mf_X3_number mi_X3_number me_X3_number ml_X3_98 dX3_orderWord_65 (ckO_e e_15) mv_X3_number (by exact Nat.le_of_ble_eq_true rfl) (c_X3_number (Nat.le_trans (by decide) he) (ok_mono (ok_bind2 k) fun z_17 h_16 k => ?_))
      try dsimp only at k
      refine wp_iadd dX3_orderWord_68 ?_
      replace k := ok_bind k
      obtain ⟨u, e_18, k⟩ := k
      refine wp_callV2 (N := M_X3_emit) (ci := 3) mf_X3_emit mi_X3_emit me_X3_emit ml_X3_108 dX3_orderWord_69 (ckO_e e_18) mv_X3_emit (by exact Nat.le_of_ble_eq_true rfl) (c_X3_emit (Nat.le_trans (by decide) he) (ok_mono (ok_bind2 k) fun _ h_19 k => ?_))
      try dsimp only at k
      refine wp_goto 127 dX3_orderWord_72 (by decide) ?_
      refine wp_aload_n dX3_orderWord_127 rfl ?_
      replace k := ok_bind k
      obtain ⟨u, e_21, k⟩ := k
      refine wp_callV0 (N := M_X3_next) (ci := 3) mf_X3_next mi_X3_next me_X3_next ml_X3_62 dX3_orderWord_128 (ckO_e e_21) mv_X3_next (by exact Nat.le_of_ble_eq_true rfl) (c_X3_next (Nat.le_trans (by decide) he) (ok_mono (ok_bind2 k) fun _ h_22 k => ?_))
      try dsimp only at k
      refine wp_iconst dX3_orderWord_131 ic_1 ?_
      refine wp_iret rfl rfl dX3_orderWord_132 ?_
      exact (ok_some k :)
  · replace k := ok_t c_4 k
    refine wp_iconst dX3_orderWord_44 ic_0 ?_
    refine wp_iret rfl rfl dX3_orderWord_45 ?_
    exact (ok_some k :)
def f_X3_orderWord_j19 (S : SH) (r0 : Nat) (x1 : Int32) (h : AH) : Option (Int32 × AH) :=
  (ckO S h r0 3).bind fun _ =>
  (f_X3_next S r0 h).bind fun z => match z with
  | (_, h_2) =>
  if x1 = (271 : Int32) then
    f_X3_orderWord_j38 S r0 x1 r0 (0 : Int32) (6 : Int32) h_2
  else
    f_X3_orderWord_j38 S r0 x1 r0 (0 : Int32) (5 : Int32) h_2
set_option maxHeartbeats 8000000 in
set_option maxRecDepth 20000 in
theorem s_X3_orderWord_j19 {S : SH} {d cb sb : Nat} {Q : Option Value → AH → Prop} (hd : 1 ≤ d)  {r0 : Nat} {x1 : Int32} {h : AH} (k : ok (f_X3_orderWord_j19 S r0 x1 h) (fun w h' => Q (some (.int w)) h')) : WP S M_X3_orderWord d cb sb Q 19 [.ref r0, .int x1] [] h := by
  obtain ⟨d, rfl, he⟩ := dp (L := 0) hd
  unfold f_X3_orderWord_j19 at k
  refine wp_aload_n dX3_orderWord_19 rfl ?_
  replace k := ok_bind k
  obtain ⟨u, e_1, k⟩ := k
  refine wp_callV0 (N := M_X3_next) (ci := 3) mf_X3_next mi_X3_next me_X3_next ml_X3_62 dX3_orderWord_20 (ckO_e e_1) mv_X3_next (by exact Nat.le_of_ble_eq_true rfl) (c_X3_next (Nat.le_trans (by decide) he) (ok_mono (ok_bind2 k) fun _ h_2 k => ?_))
  try dsimp only at k
  refine wp_aload_n dX3_orderWord_23 rfl ?_
  refine wp_iconst dX3_orderWord_24 ic_0 ?_
  refine wp_iload_n dX3_orderWord_25 rfl ?_
  refine wp_sipush dX3_orderWord_26 sp_271 ?_
  refine wp_icmp_ne 37 dX3_orderWord_29 (by decide) (fun c_4 => ?_) (fun c_4 => ?_)
  · replace k := ok_f c_4 k
    refine wp_iconst dX3_orderWord_37 ic_5 ?_
    exact wp_wk (wkE <| wkE <| wkN) (s_X3_orderWord_j38 (Nat.succ_le_succ he)  k)
  · replace k := ok_t c_4 k
    refine wp_bipush dX3_orderWord_32 bp_6 ?_
    refine wp_goto 38 dX3_orderWord_34 (by decide) ?_
    exact wp_wk (wkE <| wkE <| wkN) (s_X3_orderWord_j38 (Nat.succ_le_succ he)  k)
def f_X3_orderWord (S : SH) (r0 : Nat) (h : AH) : Option (Int32 × AH) :=
  (ckO S h r0 3).bind fun _ =>
  (f_X3_kind S r0 h).bind fun z => match z with
  | (z_3, h_2) =>
  if z_3 = (271 : Int32) then
    f_X3_orderWord_j19 S r0 z_3 h_2
  else
    if z_3 = (282 : Int32) then
      f_X3_orderWord_j19 S r0 z_3 h_2
    else
      if z_3 = (276 : Int32) then
        (ckO S h_2 r0 3).bind fun _ =>
        (f_X3_emit S r0 (283 : Int32) ((z_3 - (270 : Int32))) h_2).bind fun z => match z with
        | (_, h_8) =>
        (ckO S h_8 r0 3).bind fun _ =>
        (f_X3_next S r0 h_8).bind fun z => match z with
        | (_, h_11) =>
        some ((1 : Int32), h_11)
      else
        if z_3 = (277 : Int32) then
          (ckO S h_2 r0 3).bind fun _ =>
          (f_X3_emit S r0 (283 : Int32) ((z_3 - (270 : Int32))) h_2).bind fun z => match z with
          | (_, h_15) =>
          (ckO S h_15 r0 3).bind fun _ =>
          (f_X3_next S r0 h_15).bind fun z => match z with
          | (_, h_18) =>
          some ((1 : Int32), h_18)
        else
          if z_3 = (279 : Int32) then
            (ckO S h_2 r0 3).bind fun _ =>
            (f_X3_emit S r0 (283 : Int32) ((z_3 - (270 : Int32))) h_2).bind fun z => match z with
            | (_, h_22) =>
            (ckO S h_22 r0 3).bind fun _ =>
            (f_X3_next S r0 h_22).bind fun z => match z with
            | (_, h_25) =>
            some ((1 : Int32), h_25)
          else
            if z_3 = (280 : Int32) then
              (ckO S h_2 r0 3).bind fun _ =>
              (f_X3_emit S r0 (283 : Int32) ((z_3 - (270 : Int32))) h_2).bind fun z => match z with
              | (_, h_29) =>
              (ckO S h_29 r0 3).bind fun _ =>
              (f_X3_next S r0 h_29).bind fun z => match z with
              | (_, h_32) =>
              some ((1 : Int32), h_32)
            else
              if z_3 = (281 : Int32) then
                (ckO S h_2 r0 3).bind fun _ =>
                (f_X3_emit S r0 (283 : Int32) ((z_3 - (270 : Int32))) h_2).bind fun z => match z with
                | (_, h_36) =>
                (ckO S h_36 r0 3).bind fun _ =>
                (f_X3_next S r0 h_36).bind fun z => match z with
                | (_, h_39) =>
                some ((1 : Int32), h_39)
              else
                some ((0 : Int32), h_2)
set_option maxHeartbeats 8000000 in
set_option maxRecDepth 20000 in
theorem s_X3_orderWord {S : SH} {d cb sb : Nat} {Q : Option Value → AH → Prop} (hd : 1 ≤ d)  {r0 : Nat} {h : AH} (k : ok (f_X3_orderWord S r0 h) (fun w h' => Q (some (.int w)) h')) : WP S M_X3_orderWord d cb sb Q 0 [.ref r0, JK] [] h := by
  obtain ⟨d, rfl, he⟩ := dp (L := 0) hd
  unfold f_X3_orderWord at k
  refine wp_aload_n dX3_orderWord_0 rfl ?_
  replace k := ok_bind k
  obtain ⟨u, e_1, k⟩ := k
  refine wp_callV0 (N := M_X3_kind) (ci := 3) mf_X3_kind mi_X3_kind me_X3_kind ml_X3_48 dX3_orderWord_1 (ckO_e e_1) mv_X3_kind (by exact Nat.le_of_ble_eq_true rfl) (c_X3_kind (Nat.le_trans (by decide) he) (ok_mono (ok_bind2 k) fun z_3 h_2 k => ?_))
  try dsimp only at k
  refine wp_istore_n dX3_orderWord_4 (by decide) (L1 := [_, _]) rfl ?_
  refine wp_iload_n dX3_orderWord_5 rfl ?_
  refine wp_sipush dX3_orderWord_6 sp_271 ?_
  refine wp_icmp_eq 19 dX3_orderWord_9 (by decide) (fun c_4 => ?_) (fun c_4 => ?_)
  · replace k := ok_t c_4 k
    exact wp_wk (wkE <| wkE <| wkN) (s_X3_orderWord_j19 (Nat.succ_le_succ he)  k)
  · replace k := ok_f c_4 k
    refine wp_iload_n dX3_orderWord_12 rfl ?_
    refine wp_sipush dX3_orderWord_13 sp_282 ?_
    refine wp_icmp_ne 75 dX3_orderWord_16 (by decide) (fun c_5 => ?_) (fun c_5 => ?_)
    · replace k := ok_f c_5 k
      refine wp_iload_n dX3_orderWord_75 rfl ?_
      refine wp_sipush dX3_orderWord_76 sp_276 ?_
      refine wp_icmp_eq 110 dX3_orderWord_79 (by decide) (fun c_6 => ?_) (fun c_6 => ?_)
      · replace k := ok_t c_6 k
        refine wp_aload_n dX3_orderWord_110 rfl ?_
        refine wp_sipush dX3_orderWord_111 sp_283 ?_
        refine wp_iload_n dX3_orderWord_114 rfl ?_
        refine wp_sipush dX3_orderWord_115 sp_270 ?_
        refine wp_isub dX3_orderWord_118 ?_
        replace k := ok_bind k
        obtain ⟨u, e_7, k⟩ := k
        refine wp_callV2 (N := M_X3_emit) (ci := 3) mf_X3_emit mi_X3_emit me_X3_emit ml_X3_108 dX3_orderWord_119 (ckO_e e_7) mv_X3_emit (by exact Nat.le_of_ble_eq_true rfl) (c_X3_emit (Nat.le_trans (by decide) he) (ok_mono (ok_bind2 k) fun _ h_8 k => ?_))
        try dsimp only at k
        refine wp_goto 127 dX3_orderWord_122 (by decide) ?_
        refine wp_aload_n dX3_orderWord_127 rfl ?_
        replace k := ok_bind k
        obtain ⟨u, e_10, k⟩ := k
        refine wp_callV0 (N := M_X3_next) (ci := 3) mf_X3_next mi_X3_next me_X3_next ml_X3_62 dX3_orderWord_128 (ckO_e e_10) mv_X3_next (by exact Nat.le_of_ble_eq_true rfl) (c_X3_next (Nat.le_trans (by decide) he) (ok_mono (ok_bind2 k) fun _ h_11 k => ?_))
        try dsimp only at k
        refine wp_iconst dX3_orderWord_131 ic_1 ?_
        refine wp_iret rfl rfl dX3_orderWord_132 ?_
        exact (ok_some k :)
      · replace k := ok_f c_6 k
        refine wp_iload_n dX3_orderWord_82 rfl ?_
        refine wp_sipush dX3_orderWord_83 sp_277 ?_
        refine wp_icmp_eq 110 dX3_orderWord_86 (by decide) (fun c_13 => ?_) (fun c_13 => ?_)
        · replace k := ok_t c_13 k
          refine wp_aload_n dX3_orderWord_110 rfl ?_
          refine wp_sipush dX3_orderWord_111 sp_283 ?_
          refine wp_iload_n dX3_orderWord_114 rfl ?_
          refine wp_sipush dX3_orderWord_115 sp_270 ?_
          refine wp_isub dX3_orderWord_118 ?_
          replace k := ok_bind k
          obtain ⟨u, e_14, k⟩ := k
          refine wp_callV2 (N := M_X3_emit) (ci := 3) mf_X3_emit mi_X3_emit me_X3_emit ml_X3_108 dX3_orderWord_119 (ckO_e e_14) mv_X3_emit (by exact Nat.le_of_ble_eq_true rfl) (c_X3_emit (Nat.le_trans (by decide) he) (ok_mono (ok_bind2 k) fun _ h_15 k => ?_))
          try dsimp only at k
          refine wp_goto 127 dX3_orderWord_122 (by decide) ?_
          refine wp_aload_n dX3_orderWord_127 rfl ?_
          replace k := ok_bind k
          obtain ⟨u, e_17, k⟩ := k
          refine wp_callV0 (N := M_X3_next) (ci := 3) mf_X3_next mi_X3_next me_X3_next ml_X3_62 dX3_orderWord_128 (ckO_e e_17) mv_X3_next (by exact Nat.le_of_ble_eq_true rfl) (c_X3_next (Nat.le_trans (by decide) he) (ok_mono (ok_bind2 k) fun _ h_18 k => ?_))
          try dsimp only at k
          refine wp_iconst dX3_orderWord_131 ic_1 ?_
          refine wp_iret rfl rfl dX3_orderWord_132 ?_
          exact (ok_some k :)
        · replace k := ok_f c_13 k
          refine wp_iload_n dX3_orderWord_89 rfl ?_
          refine wp_sipush dX3_orderWord_90 sp_279 ?_
          refine wp_icmp_eq 110 dX3_orderWord_93 (by decide) (fun c_20 => ?_) (fun c_20 => ?_)
          · replace k := ok_t c_20 k
            refine wp_aload_n dX3_orderWord_110 rfl ?_
            refine wp_sipush dX3_orderWord_111 sp_283 ?_
            refine wp_iload_n dX3_orderWord_114 rfl ?_
            refine wp_sipush dX3_orderWord_115 sp_270 ?_
            refine wp_isub dX3_orderWord_118 ?_
            replace k := ok_bind k
            obtain ⟨u, e_21, k⟩ := k
            refine wp_callV2 (N := M_X3_emit) (ci := 3) mf_X3_emit mi_X3_emit me_X3_emit ml_X3_108 dX3_orderWord_119 (ckO_e e_21) mv_X3_emit (by exact Nat.le_of_ble_eq_true rfl) (c_X3_emit (Nat.le_trans (by decide) he) (ok_mono (ok_bind2 k) fun _ h_22 k => ?_))
            try dsimp only at k
            refine wp_goto 127 dX3_orderWord_122 (by decide) ?_
            refine wp_aload_n dX3_orderWord_127 rfl ?_
            replace k := ok_bind k
            obtain ⟨u, e_24, k⟩ := k
            refine wp_callV0 (N := M_X3_next) (ci := 3) mf_X3_next mi_X3_next me_X3_next ml_X3_62 dX3_orderWord_128 (ckO_e e_24) mv_X3_next (by exact Nat.le_of_ble_eq_true rfl) (c_X3_next (Nat.le_trans (by decide) he) (ok_mono (ok_bind2 k) fun _ h_25 k => ?_))
            try dsimp only at k
            refine wp_iconst dX3_orderWord_131 ic_1 ?_
            refine wp_iret rfl rfl dX3_orderWord_132 ?_
            exact (ok_some k :)
          · replace k := ok_f c_20 k
            refine wp_iload_n dX3_orderWord_96 rfl ?_
            refine wp_sipush dX3_orderWord_97 sp_280 ?_
            refine wp_icmp_eq 110 dX3_orderWord_100 (by decide) (fun c_27 => ?_) (fun c_27 => ?_)
            · replace k := ok_t c_27 k
              refine wp_aload_n dX3_orderWord_110 rfl ?_
              refine wp_sipush dX3_orderWord_111 sp_283 ?_
              refine wp_iload_n dX3_orderWord_114 rfl ?_
              refine wp_sipush dX3_orderWord_115 sp_270 ?_
              refine wp_isub dX3_orderWord_118 ?_
              replace k := ok_bind k
              obtain ⟨u, e_28, k⟩ := k
              refine wp_callV2 (N := M_X3_emit) (ci := 3) mf_X3_emit mi_X3_emit me_X3_emit ml_X3_108 dX3_orderWord_119 (ckO_e e_28) mv_X3_emit (by exact Nat.le_of_ble_eq_true rfl) (c_X3_emit (Nat.le_trans (by decide) he) (ok_mono (ok_bind2 k) fun _ h_29 k => ?_))
              try dsimp only at k
              refine wp_goto 127 dX3_orderWord_122 (by decide) ?_
              refine wp_aload_n dX3_orderWord_127 rfl ?_
              replace k := ok_bind k
              obtain ⟨u, e_31, k⟩ := k
              refine wp_callV0 (N := M_X3_next) (ci := 3) mf_X3_next mi_X3_next me_X3_next ml_X3_62 dX3_orderWord_128 (ckO_e e_31) mv_X3_next (by exact Nat.le_of_ble_eq_true rfl) (c_X3_next (Nat.le_trans (by decide) he) (ok_mono (ok_bind2 k) fun _ h_32 k => ?_))
              try dsimp only at k
              refine wp_iconst dX3_orderWord_131 ic_1 ?_
              refine wp_iret rfl rfl dX3_orderWord_132 ?_
              exact (ok_some k :)
            · replace k := ok_f c_27 k
              refine wp_iload_n dX3_orderWord_103 rfl ?_
              refine wp_sipush dX3_orderWord_104 sp_281 ?_
              refine wp_icmp_ne 125 dX3_orderWord_107 (by decide) (fun c_34 => ?_) (fun c_34 => ?_)
              · replace k := ok_f c_34 k
                refine wp_iconst dX3_orderWord_125 ic_0 ?_
                refine wp_iret rfl rfl dX3_orderWord_126 ?_
                exact (ok_some k :)
              · replace k := ok_t c_34 k
                refine wp_aload_n dX3_orderWord_110 rfl ?_
                refine wp_sipush dX3_orderWord_111 sp_283 ?_
                refine wp_iload_n dX3_orderWord_114 rfl ?_
                refine wp_sipush dX3_orderWord_115 sp_270 ?_
                refine wp_isub dX3_orderWord_118 ?_
                replace k := ok_bind k
                obtain ⟨u, e_35, k⟩ := k
                refine wp_callV2 (N := M_X3_emit) (ci := 3) mf_X3_emit mi_X3_emit me_X3_emit ml_X3_108 dX3_orderWord_119 (ckO_e e_35) mv_X3_emit (by exact Nat.le_of_ble_eq_true rfl) (c_X3_emit (Nat.le_trans (by decide) he) (ok_mono (ok_bind2 k) fun _ h_36 k => ?_))
                try dsimp only at k
                refine wp_goto 127 dX3_orderWord_122 (by decide) ?_
                refine wp_aload_n dX3_orderWord_127 rfl ?_
                replace k := ok_bind k
                obtain ⟨u, e_38, k⟩ := k
                refine wp_callV0 (N := M_X3_next) (ci := 3) mf_X3_next mi_X3_next me_X3_next ml_X3_62 dX3_orderWord_128 (ckO_e e_38) mv_X3_next (by exact Nat.le_of_ble_eq_true rfl) (c_X3_next (Nat.le_trans (by decide) he) (ok_mono (ok_bind2 k) fun _ h_39 k => ?_))
                try dsimp only at k
                refine wp_iconst dX3_orderWord_131 ic_1 ?_
                refine wp_iret rfl rfl dX3_orderWord_132 ?_
                exact (ok_some k :)
    · replace k := ok_t c_5 k
      exact wp_wk (wkE <| wkE <| wkN) (s_X3_orderWord_j19 (Nat.succ_le_succ he)  k)
theorem c_X3_orderWord {S : SH} {d : Nat} {K : Option Value → AH → Prop} (hd : 1 ≤ d)  {r0 : Nat} {h : AH} (k : ok (f_X3_orderWord S r0 h) (fun w h' => K (some (.int w)) h')) : CP S M_X3_orderWord d 0 0 [.ref r0] h K := cp_of (by decide) (fun _ _ => trivial) (fun _ => Nat.le_of_ble_eq_true rfl) (s_X3_orderWord hd  k)
def f_X3_test_l7_j70 (S : SH) (rs : Nat → Nat → Int32 → AH → Option (Int32 × AH)) (rc : Nat → Int32 → Int32 → Int32 → Int32 → AH → Option ((Int32 ⊕ Unit) × AH)) (r0 : Nat) (x1 : Int32) (x2 : Int32) (x3 : Int32) (x4 : Int32) (x5 : Int32) (h : AH) : Option ((Int32 ⊕ Unit) × AH) :=
  if x5 = (257 : Int32) then
    (ckO S h r0 3).bind fun _ =>
    (f_X3_emit S r0 x5 (0 : Int32) h).bind fun z => match z with
    | (_, h_3) =>
    (ckO S h_3 r0 3).bind fun _ =>
    (f_X3_next S r0 h_3).bind fun z => match z with
    | (_, h_6) =>
    lt (x4 + (1 : Int32)) fun y_8 =>
    rc r0 x1 x2 x3 y_8 h_6
  else
    if x5 = (256 : Int32) then
      (ckO S h r0 3).bind fun _ =>
      (f_X3_emit S r0 x5 (0 : Int32) h).bind fun z => match z with
      | (_, h_11) =>
      (ckO S h_11 r0 3).bind fun _ =>
      (f_X3_next S r0 h_11).bind fun z => match z with
      | (_, h_14) =>
      lt (x4 + (1 : Int32)) fun y_16 =>
      rc r0 x1 x2 x3 y_16 h_14
    else
      some (.inl (1 : Int32), h)
set_option maxHeartbeats 8000000 in
set_option maxRecDepth 20000 in
theorem s_X3_test_l7_j70 {S : SH} {d cb sb : Nat} {Q : Option Value → AH → Prop} (hd : 1 ≤ d) {N0 : Nat} (hN : N0 + 1 ≤ d) {rs : Nat → Nat → Int32 → AH → Option (Int32 × AH)} (hrs : ∀ (e : Nat), N0 ≤ e → ∀ (r : Nat) (x : Int32) (h : AH) (K : Option Value → AH → Prop), (ok (rs 0 r x h) (fun w h' => K (some (.int w)) h') → CP S M_X3_test e 0 0 [.ref r, .int x] h K) ∧ (ok (rs 1 r x h) (fun w h' => K (some (.int w)) h') → CP S M_X3_testInBrackets e 0 0 [.ref r, .int x] h K) ∧ (ok (rs 2 r x h) (fun w h' => K (some (.int w)) h') → CP S M_X3_plain e 0 0 [.ref r, .int x] h K) ∧ (ok (rs 3 r x h) (fun w h' => K (some (.int w)) h') → CP S M_X3_sum e 0 0 [.ref r, .int x] h K) ∧ (ok (rs 4 r x h) (fun w h' => K (some (.int w)) h') → CP S M_X3_sumInBrackets e 0 0 [.ref r, .int x] h K) ∧ (ok (rs 5 r x h) (fun w h' => K (some (.int w)) h') → CP S M_X3_part e 0 0 [.ref r, .int x] h K)) {K : (Int32 ⊕ Unit) → AH → Prop} (hret : ∀ (w : Int32) (h' : AH), K (.inl w) h' → Q (some (.int w)) h') (hex : ∀  (h' : AH), K (.inr ()) h' → WP S M_X3_test d cb sb Q 105 [JK, JK, JK, JK, JK, JK] [] h') {rc : Nat → Int32 → Int32 → Int32 → Int32 → AH → Option ((Int32 ⊕ Unit) × AH)} (hrec : ∀ (r0 : Nat) (x1 : Int32) (x2 : Int32) (x3 : Int32) (x4 : Int32) (h' : AH), ok (rc r0 x1 x2 x3 x4 h') K → WP S M_X3_test d cb sb Q 7 [.ref r0, .int x1, .int x2, .int x3, .int x4, JK] [] h') {r0 : Nat} {x1 : Int32} {x2 : Int32} {x3 : Int32} {x4 : Int32} {x5 : Int32} {h : AH} (k : ok (f_X3_test_l7_j70 S rs rc r0 x1 x2 x3 x4 x5 h) K) : WP S M_X3_test d cb sb Q 70 [.ref r0, .int x1, .int x2, .int x3, .int x4, .int x5] [] h := by
  obtain ⟨d, rfl, he, hM⟩ := dp2 (L := 0) (N := N0) hd hN
  unfold f_X3_test_l7_j70 at k
  refine wp_iload dX3_test_70 rfl ?_
  refine wp_sipush dX3_test_72 sp_257 ?_
  refine wp_icmp_eq 88 dX3_test_75 (by decide) (fun c_1 => ?_) (fun c_1 => ?_)
  · replace k := ok_t c_1 k
    refine wp_aload_n dX3_test_88 rfl ?_
    refine wp_iload dX3_test_89 rfl ?_
    refine wp_iconst dX3_test_91 ic_0 ?_
    replace k := ok_bind k
    obtain ⟨u, e_2, k⟩ := k
    refine wp_callV2 (N := M_X3_emit) (ci := 3) mf_X3_emit mi_X3_emit me_X3_emit ml_X3_108 dX3_test_92 (ckO_e e_2) mv_X3_emit (by exact Nat.le_of_ble_eq_true rfl) (c_X3_emit (Nat.le_trans (by decide) he) (ok_mono (ok_bind2 k) fun _ h_3 k => ?_))
    try dsimp only at k
    refine wp_aload_n dX3_test_95 rfl ?_
    replace k := ok_bind k
    obtain ⟨u, e_5, k⟩ := k
    refine wp_callV0 (N := M_X3_next) (ci := 3) mf_X3_next mi_X3_next me_X3_next ml_X3_62 dX3_test_96 (ckO_e e_5) mv_X3_next (by exact Nat.le_of_ble_eq_true rfl) (c_X3_next (Nat.le_trans (by decide) he) (ok_mono (ok_bind2 k) fun _ h_6 k => ?_))
    try dsimp only at k
    replace k := ok_lt k
    refine wp_iinc dX3_test_99 rfl ic_1 (by decide) (L1 := [_, _, _, _, _, _]) rfl ?_
    refine wp_goto 7 dX3_test_102 (by decide) ?_
    exact wp_wk (wkE <| wkE <| wkE <| wkE <| wkE <| wkJ <| wkN) (hrec _ _ _ _ _ _ k)
  · replace k := ok_f c_1 k
    refine wp_iload dX3_test_78 rfl ?_
    refine wp_sipush dX3_test_80 sp_256 ?_
    refine wp_icmp_eq 88 dX3_test_83 (by decide) (fun c_9 => ?_) (fun c_9 => ?_)
    · replace k := ok_t c_9 k
      refine wp_aload_n dX3_test_88 rfl ?_
      refine wp_iload dX3_test_89 rfl ?_
      refine wp_iconst dX3_test_91 ic_0 ?_
      replace k := ok_bind k
      obtain ⟨u, e_10, k⟩ := k
      refine wp_callV2 (N := M_X3_emit) (ci := 3) mf_X3_emit mi_X3_emit me_X3_emit ml_X3_108 dX3_test_92 (ckO_e e_10) mv_X3_emit (by exact Nat.le_of_ble_eq_true rfl) (c_X3_emit (Nat.le_trans (by decide) he) (ok_mono (ok_bind2 k) fun _ h_11 k => ?_))
      try dsimp only at k
      refine wp_aload_n dX3_test_95 rfl ?_
      replace k := ok_bind k
      obtain ⟨u, e_13, k⟩ := k
      refine wp_callV0 (N := M_X3_next) (ci := 3) mf_X3_next mi_X3_next me_X3_next ml_X3_62 dX3_test_96 (ckO_e e_13) mv_X3_next (by exact Nat.le_of_ble_eq_true rfl) (c_X3_next (Nat.le_trans (by decide) he) (ok_mono (ok_bind2 k) fun _ h_14 k => ?_))
      try dsimp only at k
      replace k := ok_lt k
      refine wp_iinc dX3_test_99 rfl ic_1 (by decide) (L1 := [_, _, _, _, _, _]) rfl ?_
      refine wp_goto 7 dX3_test_102 (by decide) ?_
      exact wp_wk (wkE <| wkE <| wkE <| wkE <| wkE <| wkJ <| wkN) (hrec _ _ _ _ _ _ k)
    · replace k := ok_f c_9 k
      refine wp_iconst dX3_test_86 ic_1 ?_
      refine wp_iret rfl rfl dX3_test_87 ?_
      exact hret _ _ (ok_some k)
def f_X3_test_l7b (S : SH) (rs : Nat → Nat → Int32 → AH → Option (Int32 × AH)) (rc : Nat → Int32 → Int32 → Int32 → Int32 → AH → Option ((Int32 ⊕ Unit) × AH)) (r0 : Nat) (x1 : Int32) (x2 : Int32) (x3 : Int32) (x4 : Int32) (h : AH) : Option ((Int32 ⊕ Unit) × AH) :=
  if (400 : Int32) ≤ x4 then
    some (.inr (), h)
  else
    (ckO S h r0 3).bind fun _ =>
    (rs 2 r0 x1 h).bind fun z => match z with
    | (z_4, h_3) =>
    if z_4 = (0 : Int32) then
      some (.inl (0 : Int32), h_3)
    else
      (ckO S h_3 r0 3).bind fun _ =>
      (f_X3_leapHere S r0 x2 h_3).bind fun z => match z with
      | (_, h_7) =>
      (ckO S h_7 r0 3).bind fun _ =>
      (f_X3_kind S r0 h_7).bind fun z => match z with
      | (z_11, h_10) =>
      if z_11 = (257 : Int32) then
        (gR S h_10 r0 3 1).bind fun p_20 =>
        (gI S h_10 p_20 8 2).bind fun v_22 =>
        f_X3_test_l7_j70 S rs rc r0 x1 v_22 x3 x4 z_11 h_10
      else
        (ckO S h_10 r0 3).bind fun _ =>
        (f_X3_leapHere S r0 x3 h_10).bind fun z => match z with
        | (_, h_14) =>
        (gR S h_14 r0 3 1).bind fun p_16 =>
        (gI S h_14 p_16 8 2).bind fun v_18 =>
        f_X3_test_l7_j70 S rs rc r0 x1 (-1 : Int32) v_18 x4 z_11 h_14
set_option maxHeartbeats 8000000 in
set_option maxRecDepth 20000 in
theorem s_X3_test_l7b {S : SH} {d cb sb : Nat} {Q : Option Value → AH → Prop} (hd : 1 ≤ d) {N0 : Nat} (hN : N0 + 1 ≤ d) {rs : Nat → Nat → Int32 → AH → Option (Int32 × AH)} (hrs : ∀ (e : Nat), N0 ≤ e → ∀ (r : Nat) (x : Int32) (h : AH) (K : Option Value → AH → Prop), (ok (rs 0 r x h) (fun w h' => K (some (.int w)) h') → CP S M_X3_test e 0 0 [.ref r, .int x] h K) ∧ (ok (rs 1 r x h) (fun w h' => K (some (.int w)) h') → CP S M_X3_testInBrackets e 0 0 [.ref r, .int x] h K) ∧ (ok (rs 2 r x h) (fun w h' => K (some (.int w)) h') → CP S M_X3_plain e 0 0 [.ref r, .int x] h K) ∧ (ok (rs 3 r x h) (fun w h' => K (some (.int w)) h') → CP S M_X3_sum e 0 0 [.ref r, .int x] h K) ∧ (ok (rs 4 r x h) (fun w h' => K (some (.int w)) h') → CP S M_X3_sumInBrackets e 0 0 [.ref r, .int x] h K) ∧ (ok (rs 5 r x h) (fun w h' => K (some (.int w)) h') → CP S M_X3_part e 0 0 [.ref r, .int x] h K)) {K : (Int32 ⊕ Unit) → AH → Prop} (hret : ∀ (w : Int32) (h' : AH), K (.inl w) h' → Q (some (.int w)) h') (hex : ∀  (h' : AH), K (.inr ()) h' → WP S M_X3_test d cb sb Q 105 [JK, JK, JK, JK, JK, JK] [] h') {rc : Nat → Int32 → Int32 → Int32 → Int32 → AH → Option ((Int32 ⊕ Unit) × AH)} (hrec : ∀ (r0 : Nat) (x1 : Int32) (x2 : Int32) (x3 : Int32) (x4 : Int32) (h' : AH), ok (rc r0 x1 x2 x3 x4 h') K → WP S M_X3_test d cb sb Q 7 [.ref r0, .int x1, .int x2, .int x3, .int x4, JK] [] h') {r0 : Nat} {x1 : Int32} {x2 : Int32} {x3 : Int32} {x4 : Int32} {h : AH} (k : ok (f_X3_test_l7b S rs rc r0 x1 x2 x3 x4 h) K) : WP S M_X3_test d cb sb Q 7 [.ref r0, .int x1, .int x2, .int x3, .int x4, JK] [] h := by
  obtain ⟨d, rfl, he, hM⟩ := dp2 (L := 0) (N := N0) hd hN
  unfold f_X3_test_l7b at k
  refine wp_iload dX3_test_7 rfl ?_
  refine wp_sipush dX3_test_9 sp_400 ?_
  refine wp_icmp_ge 105 dX3_test_12 (by decide) (fun c_1 => ?_) (fun c_1 => ?_)
  · replace k := ok_t c_1 k
    exact wp_wk (wkJ <| wkJ <| wkJ <| wkJ <| wkJ <| wkJ <| wkN) (hex  _ (ok_some k))
  · replace k := ok_f c_1 k
    refine wp_aload_n dX3_test_15 rfl ?_
    refine wp_iload_n dX3_test_16 rfl ?_
    replace k := ok_bind k
    obtain ⟨u, e_2, k⟩ := k
    refine wp_callV1 (N := M_X3_plain) (ci := 3) mf_X3_plain mi_X3_plain me_X3_plain ml_X3_101 dX3_test_17 (ckO_e e_2) mv_X3_plain (by exact Nat.le_of_ble_eq_true rfl) ((hrs d (by omega) _ _ _ _).2.2.1 (ok_mono (ok_bind2 k) fun z_4 h_3 k => ?_))
    try dsimp only at k
    refine wp_if_ne 25 dX3_test_20 (by decide) (fun c_5 => ?_) (fun c_5 => ?_)
    · replace k := ok_f c_5 k
      refine wp_aload_n dX3_test_25 rfl ?_
      refine wp_iload_n dX3_test_26 rfl ?_
      replace k := ok_bind k
      obtain ⟨u, e_6, k⟩ := k
      refine wp_callV1 (N := M_X3_leapHere) (ci := 3) mf_X3_leapHere mi_X3_leapHere me_X3_leapHere ml_X3_104 dX3_test_27 (ckO_e e_6) mv_X3_leapHere (by exact Nat.le_of_ble_eq_true rfl) (c_X3_leapHere (Nat.le_trans (by decide) he) (ok_mono (ok_bind2 k) fun _ h_7 k => ?_))
      try dsimp only at k
      refine wp_aload_n dX3_test_30 rfl ?_
      replace k := ok_bind k
      obtain ⟨u, e_9, k⟩ := k
      refine wp_callV0 (N := M_X3_kind) (ci := 3) mf_X3_kind mi_X3_kind me_X3_kind ml_X3_48 dX3_test_31 (ckO_e e_9) mv_X3_kind (by exact Nat.le_of_ble_eq_true rfl) (c_X3_kind (Nat.le_trans (by decide) he) (ok_mono (ok_bind2 k) fun z_11 h_10 k => ?_))
      try dsimp only at k
      refine wp_istore dX3_test_34 (by decide) (L1 := [_, _, _, _, _, _]) rfl ?_
      refine wp_iload dX3_test_36 rfl ?_
      refine wp_sipush dX3_test_38 sp_257 ?_
      refine wp_icmp_ne 55 dX3_test_41 (by decide) (fun c_12 => ?_) (fun c_12 => ?_)
      · replace k := ok_f c_12 k
        refine wp_aload_n dX3_test_55 rfl ?_
        refine wp_iload_n dX3_test_56 rfl ?_
        replace k := ok_bind k
        obtain ⟨u, e_13, k⟩ := k
        refine wp_callV1 (N := M_X3_leapHere) (ci := 3) mf_X3_leapHere mi_X3_leapHere me_X3_leapHere ml_X3_104 dX3_test_57 (ckO_e e_13) mv_X3_leapHere (by exact Nat.le_of_ble_eq_true rfl) (c_X3_leapHere (Nat.le_trans (by decide) he) (ok_mono (ok_bind2 k) fun _ h_14 k => ?_))
        try dsimp only at k
        refine wp_iconst dX3_test_60 ic_m1 ?_
        refine wp_istore_n dX3_test_61 (by decide) (L1 := [_, _, _, _, _, _]) rfl ?_
        refine wp_aload_n dX3_test_62 rfl ?_
        replace k := ok_bind k
        obtain ⟨p_16, e_17, k⟩ := k
        refine wq_getR fl_X3_23 (Or.inl ⟨_, rfl⟩) dX3_test_63 e_17 ?_
        replace k := ok_bind k
        obtain ⟨v_18, e_19, k⟩ := k
        refine wq_getI fl_X3_42 (Or.inl rfl) dX3_test_66 e_19 ?_
        refine wp_istore_n dX3_test_69 (by decide) (L1 := [_, _, _, _, _, _]) rfl ?_
        exact wp_wk (wkE <| wkE <| wkE <| wkE <| wkE <| wkE <| wkN) (s_X3_test_l7_j70 (Nat.succ_le_succ he) (Nat.succ_le_succ hM) hrs hret hex hrec k)
      · replace k := ok_t c_12 k
        refine wp_aload_n dX3_test_44 rfl ?_
        replace k := ok_bind k
        obtain ⟨p_20, e_21, k⟩ := k
        refine wq_getR fl_X3_23 (Or.inl ⟨_, rfl⟩) dX3_test_45 e_21 ?_
        replace k := ok_bind k
        obtain ⟨v_22, e_23, k⟩ := k
        refine wq_getI fl_X3_42 (Or.inl rfl) dX3_test_48 e_23 ?_
        refine wp_istore_n dX3_test_51 (by decide) (L1 := [_, _, _, _, _, _]) rfl ?_
        refine wp_goto 70 dX3_test_52 (by decide) ?_
        exact wp_wk (wkE <| wkE <| wkE <| wkE <| wkE <| wkE <| wkN) (s_X3_test_l7_j70 (Nat.succ_le_succ he) (Nat.succ_le_succ hM) hrs hret hex hrec k)
    · replace k := ok_t c_5 k
      refine wp_iconst dX3_test_23 ic_0 ?_
      refine wp_iret rfl rfl dX3_test_24 ?_
      exact hret _ _ (ok_some k)
def f_X3_test_l7 (S : SH) (rs : Nat → Nat → Int32 → AH → Option (Int32 × AH)) : Nat → Nat → Int32 → Int32 → Int32 → Int32 → AH → Option ((Int32 ⊕ Unit) × AH)
  | 0, _, _, _, _, _, _ => none
  | n + 1, r0, x1, x2, x3, x4, h => f_X3_test_l7b S rs (f_X3_test_l7 S rs n) r0 x1 x2 x3 x4 h
theorem s_X3_test_l7 {S : SH} {d cb sb : Nat} {Q : Option Value → AH → Prop} (hd : 1 ≤ d) {N0 : Nat} (hN : N0 + 1 ≤ d) {rs : Nat → Nat → Int32 → AH → Option (Int32 × AH)} (hrs : ∀ (e : Nat), N0 ≤ e → ∀ (r : Nat) (x : Int32) (h : AH) (K : Option Value → AH → Prop), (ok (rs 0 r x h) (fun w h' => K (some (.int w)) h') → CP S M_X3_test e 0 0 [.ref r, .int x] h K) ∧ (ok (rs 1 r x h) (fun w h' => K (some (.int w)) h') → CP S M_X3_testInBrackets e 0 0 [.ref r, .int x] h K) ∧ (ok (rs 2 r x h) (fun w h' => K (some (.int w)) h') → CP S M_X3_plain e 0 0 [.ref r, .int x] h K) ∧ (ok (rs 3 r x h) (fun w h' => K (some (.int w)) h') → CP S M_X3_sum e 0 0 [.ref r, .int x] h K) ∧ (ok (rs 4 r x h) (fun w h' => K (some (.int w)) h') → CP S M_X3_sumInBrackets e 0 0 [.ref r, .int x] h K) ∧ (ok (rs 5 r x h) (fun w h' => K (some (.int w)) h') → CP S M_X3_part e 0 0 [.ref r, .int x] h K)) {K : (Int32 ⊕ Unit) → AH → Prop} (hret : ∀ (w : Int32) (h' : AH), K (.inl w) h' → Q (some (.int w)) h') (hex : ∀  (h' : AH), K (.inr ()) h' → WP S M_X3_test d cb sb Q 105 [JK, JK, JK, JK, JK, JK] [] h') : ∀ (n : Nat) (r0 : Nat) (x1 : Int32) (x2 : Int32) (x3 : Int32) (x4 : Int32) (h : AH), ok (f_X3_test_l7 S rs n r0 x1 x2 x3 x4 h) K → WP S M_X3_test d cb sb Q 7 [.ref r0, .int x1, .int x2, .int x3, .int x4, JK] [] h := by
  intro n
  induction n with
  | zero => intro r0 x1 x2 x3 x4 h k; exact ok_none k
  | succ n ih => intro r0 x1 x2 x3 x4 h k; exact s_X3_test_l7b hd hN hrs hret hex (fun r0 x1 x2 x3 x4 h k => ih r0 x1 x2 x3 x4 h k) k
def f_X3_test (S : SH) (rs : Nat → Nat → Int32 → AH → Option (Int32 × AH)) (r0 : Nat) (x1 : Int32) (h : AH) : Option (Int32 × AH) :=
  (f_X3_test_l7 S rs FU r0 x1 (-1 : Int32) (-1 : Int32) (0 : Int32) h).bind fun z => match z with
  | (.inl w, h') => some (w, h')
  | (.inr (), h_1) =>
    some ((0 : Int32), h_1)
set_option maxHeartbeats 8000000 in
set_option maxRecDepth 20000 in
theorem s_X3_test {S : SH} {d cb sb : Nat} {Q : Option Value → AH → Prop} (hd : 1 ≤ d) {N0 : Nat} (hN : N0 + 1 ≤ d) {rs : Nat → Nat → Int32 → AH → Option (Int32 × AH)} (hrs : ∀ (e : Nat), N0 ≤ e → ∀ (r : Nat) (x : Int32) (h : AH) (K : Option Value → AH → Prop), (ok (rs 0 r x h) (fun w h' => K (some (.int w)) h') → CP S M_X3_test e 0 0 [.ref r, .int x] h K) ∧ (ok (rs 1 r x h) (fun w h' => K (some (.int w)) h') → CP S M_X3_testInBrackets e 0 0 [.ref r, .int x] h K) ∧ (ok (rs 2 r x h) (fun w h' => K (some (.int w)) h') → CP S M_X3_plain e 0 0 [.ref r, .int x] h K) ∧ (ok (rs 3 r x h) (fun w h' => K (some (.int w)) h') → CP S M_X3_sum e 0 0 [.ref r, .int x] h K) ∧ (ok (rs 4 r x h) (fun w h' => K (some (.int w)) h') → CP S M_X3_sumInBrackets e 0 0 [.ref r, .int x] h K) ∧ (ok (rs 5 r x h) (fun w h' => K (some (.int w)) h') → CP S M_X3_part e 0 0 [.ref r, .int x] h K)) {r0 : Nat} {x1 : Int32} {h : AH} (k : ok (f_X3_test S rs r0 x1 h) (fun w h' => Q (some (.int w)) h')) : WP S M_X3_test d cb sb Q 0 [.ref r0, .int x1, JK, JK, JK, JK] [] h := by
  obtain ⟨d, rfl, he, hM⟩ := dp2 (L := 0) (N := N0) hd hN
  unfold f_X3_test at k
  refine wp_iconst dX3_test_0 ic_m1 ?_
  refine wp_istore_n dX3_test_1 (by decide) (L1 := [_, _, _, _, _, _]) rfl ?_
  refine wp_iconst dX3_test_2 ic_m1 ?_
  refine wp_istore_n dX3_test_3 (by decide) (L1 := [_, _, _, _, _, _]) rfl ?_
  refine wp_iconst dX3_test_4 ic_0 ?_
  refine wp_istore dX3_test_5 (by decide) (L1 := [_, _, _, _, _, _]) rfl ?_
  refine wp_wk (wkE <| wkE <| wkE <| wkE <| wkE <| wkJ <| wkN) ?_
  refine s_X3_test_l7 (Nat.succ_le_succ he) (Nat.succ_le_succ hM) hrs (fun w h' k => ?_) (fun  h_1 k => ?_) FU _ _ _ _ _ _ (ok_bind2 k)
  · try dsimp only at k
    exact (ok_some k :)
  · try dsimp only at k
    refine wp_iconst dX3_test_105 ic_0 ?_
    refine wp_iret rfl rfl dX3_test_106 ?_
    exact (ok_some k :)
theorem c_X3_test_b {S : SH} {d : Nat} {K : Option Value → AH → Prop} (hd : 1 ≤ d) {N0 : Nat} (hN : N0 + 1 ≤ d) {rs : Nat → Nat → Int32 → AH → Option (Int32 × AH)} (hrs : ∀ (e : Nat), N0 ≤ e → ∀ (r : Nat) (x : Int32) (h : AH) (K : Option Value → AH → Prop), (ok (rs 0 r x h) (fun w h' => K (some (.int w)) h') → CP S M_X3_test e 0 0 [.ref r, .int x] h K) ∧ (ok (rs 1 r x h) (fun w h' => K (some (.int w)) h') → CP S M_X3_testInBrackets e 0 0 [.ref r, .int x] h K) ∧ (ok (rs 2 r x h) (fun w h' => K (some (.int w)) h') → CP S M_X3_plain e 0 0 [.ref r, .int x] h K) ∧ (ok (rs 3 r x h) (fun w h' => K (some (.int w)) h') → CP S M_X3_sum e 0 0 [.ref r, .int x] h K) ∧ (ok (rs 4 r x h) (fun w h' => K (some (.int w)) h') → CP S M_X3_sumInBrackets e 0 0 [.ref r, .int x] h K) ∧ (ok (rs 5 r x h) (fun w h' => K (some (.int w)) h') → CP S M_X3_part e 0 0 [.ref r, .int x] h K)) {r0 : Nat} {x1 : Int32} {h : AH} (k : ok (f_X3_test S rs r0 x1 h) (fun w h' => K (some (.int w)) h')) : CP S M_X3_test d 0 0 [.ref r0, .int x1] h K := cp_of (by decide) (fun _ _ => trivial) (fun _ => Nat.le_of_ble_eq_true rfl) (s_X3_test hd hN hrs k)
def f_X3_testInBrackets (S : SH) (rs : Nat → Nat → Int32 → AH → Option (Int32 × AH)) (r0 : Nat) (x1 : Int32) (h : AH) : Option (Int32 × AH) :=
  if x1 < (8 : Int32) then
    (ckO S h r0 3).bind fun _ =>
    (f_X3_next S r0 h).bind fun z => match z with
    | (_, h_3) =>
    (ckO S h_3 r0 3).bind fun _ =>
    (rs 0 r0 ((x1 + (1 : Int32))) h_3).bind fun z => match z with
    | (z_7, h_6) =>
    if z_7 = (0 : Int32) then
      some ((0 : Int32), h_6)
    else
      (ckO S h_6 r0 3).bind fun _ =>
      (f_X3_kind S r0 h_6).bind fun z => match z with
      | (z_11, h_10) =>
      if z_11 = (41 : Int32) then
        (ckO S h_10 r0 3).bind fun _ =>
        (f_X3_next S r0 h_10).bind fun z => match z with
        | (_, h_14) =>
        some ((1 : Int32), h_14)
      else
        some ((0 : Int32), h_10)
  else
    some ((0 : Int32), h)
set_option maxHeartbeats 8000000 in
set_option maxRecDepth 20000 in
theorem s_X3_testInBrackets {S : SH} {d cb sb : Nat} {Q : Option Value → AH → Prop} (hd : 1 ≤ d) {N0 : Nat} (hN : N0 + 1 ≤ d) {rs : Nat → Nat → Int32 → AH → Option (Int32 × AH)} (hrs : ∀ (e : Nat), N0 ≤ e → ∀ (r : Nat) (x : Int32) (h : AH) (K : Option Value → AH → Prop), (ok (rs 0 r x h) (fun w h' => K (some (.int w)) h') → CP S M_X3_test e 0 0 [.ref r, .int x] h K) ∧ (ok (rs 1 r x h) (fun w h' => K (some (.int w)) h') → CP S M_X3_testInBrackets e 0 0 [.ref r, .int x] h K) ∧ (ok (rs 2 r x h) (fun w h' => K (some (.int w)) h') → CP S M_X3_plain e 0 0 [.ref r, .int x] h K) ∧ (ok (rs 3 r x h) (fun w h' => K (some (.int w)) h') → CP S M_X3_sum e 0 0 [.ref r, .int x] h K) ∧ (ok (rs 4 r x h) (fun w h' => K (some (.int w)) h') → CP S M_X3_sumInBrackets e 0 0 [.ref r, .int x] h K) ∧ (ok (rs 5 r x h) (fun w h' => K (some (.int w)) h') → CP S M_X3_part e 0 0 [.ref r, .int x] h K)) {r0 : Nat} {x1 : Int32} {h : AH} (k : ok (f_X3_testInBrackets S rs r0 x1 h) (fun w h' => Q (some (.int w)) h')) : WP S M_X3_testInBrackets d cb sb Q 0 [.ref r0, .int x1] [] h := by
  obtain ⟨d, rfl, he, hM⟩ := dp2 (L := 0) (N := N0) hd hN
  unfold f_X3_testInBrackets at k
  refine wp_iload_n dX3_testInBrackets_0 rfl ?_
  refine wp_bipush dX3_testInBrackets_1 bp_8 ?_
  refine wp_icmp_lt 8 dX3_testInBrackets_3 (by decide) (fun c_1 => ?_) (fun c_1 => ?_)
  · replace k := ok_t c_1 k
    refine wp_aload_n dX3_testInBrackets_8 rfl ?_
    replace k := ok_bind k
    obtain ⟨u, e_2, k⟩ := k
    refine wp_callV0 (N := M_X3_next) (ci := 3) mf_X3_next mi_X3_next me_X3_next ml_X3_62 dX3_testInBrackets_9 (ckO_e e_2) mv_X3_next (by exact Nat.le_of_ble_eq_true rfl) (c_X3_next (Nat.le_trans (by decide) he) (ok_mono (ok_bind2 k) fun _ h_3 k => ?_))
    try dsimp only at k
    refine wp_aload_n dX3_testInBrackets_12 rfl ?_
    refine wp_iload_n dX3_testInBrackets_13 rfl ?_
    refine wp_iconst dX3_testInBrackets_14 ic_1 ?_
    refine wp_iadd dX3_testInBrackets_15 ?_
    replace k := ok_bind k
    obtain ⟨u, e_5, k⟩ := k
    refine wp_callV1 (N := M_X3_test) (ci := 3) mf_X3_test mi_X3_test me_X3_test ml_X3_65 dX3_testInBrackets_16 (ckO_e e_5) mv_X3_test (by exact Nat.le_of_ble_eq_true rfl) ((hrs d (by omega) _ _ _ _).1 (ok_mono (ok_bind2 k) fun z_7 h_6 k => ?_))
    try dsimp only at k
    refine wp_if_eq 31 dX3_testInBrackets_19 (by decide) (fun c_8 => ?_) (fun c_8 => ?_)
    · replace k := ok_t c_8 k
      refine wp_iconst dX3_testInBrackets_31 ic_0 ?_
      refine wp_iret rfl rfl dX3_testInBrackets_32 ?_
      exact (ok_some k :)
    · replace k := ok_f c_8 k
      refine wp_aload_n dX3_testInBrackets_22 rfl ?_
      replace k := ok_bind k
      obtain ⟨u, e_9, k⟩ := k
      refine wp_callV0 (N := M_X3_kind) (ci := 3) mf_X3_kind mi_X3_kind me_X3_kind ml_X3_48 dX3_testInBrackets_23 (ckO_e e_9) mv_X3_kind (by exact Nat.le_of_ble_eq_true rfl) (c_X3_kind (Nat.le_trans (by decide) he) (ok_mono (ok_bind2 k) fun z_11 h_10 k => ?_))
      try dsimp only at k
      refine wp_bipush dX3_testInBrackets_26 bp_41 ?_
      refine wp_icmp_eq 33 dX3_testInBrackets_28 (by decide) (fun c_12 => ?_) (fun c_12 => ?_)
      · replace k := ok_t c_12 k
        refine wp_aload_n dX3_testInBrackets_33 rfl ?_
        replace k := ok_bind k
        obtain ⟨u, e_13, k⟩ := k
        refine wp_callV0 (N := M_X3_next) (ci := 3) mf_X3_next mi_X3_next me_X3_next ml_X3_62 dX3_testInBrackets_34 (ckO_e e_13) mv_X3_next (by exact Nat.le_of_ble_eq_true rfl) (c_X3_next (Nat.le_trans (by decide) he) (ok_mono (ok_bind2 k) fun _ h_14 k => ?_))
        try dsimp only at k
        refine wp_iconst dX3_testInBrackets_37 ic_1 ?_
        refine wp_iret rfl rfl dX3_testInBrackets_38 ?_
        exact (ok_some k :)
      · replace k := ok_f c_12 k
        refine wp_iconst dX3_testInBrackets_31 ic_0 ?_
        refine wp_iret rfl rfl dX3_testInBrackets_32 ?_
        exact (ok_some k :)
  · replace k := ok_f c_1 k
    refine wp_iconst dX3_testInBrackets_6 ic_0 ?_
    refine wp_iret rfl rfl dX3_testInBrackets_7 ?_
    exact (ok_some k :)
theorem c_X3_testInBrackets_b {S : SH} {d : Nat} {K : Option Value → AH → Prop} (hd : 1 ≤ d) {N0 : Nat} (hN : N0 + 1 ≤ d) {rs : Nat → Nat → Int32 → AH → Option (Int32 × AH)} (hrs : ∀ (e : Nat), N0 ≤ e → ∀ (r : Nat) (x : Int32) (h : AH) (K : Option Value → AH → Prop), (ok (rs 0 r x h) (fun w h' => K (some (.int w)) h') → CP S M_X3_test e 0 0 [.ref r, .int x] h K) ∧ (ok (rs 1 r x h) (fun w h' => K (some (.int w)) h') → CP S M_X3_testInBrackets e 0 0 [.ref r, .int x] h K) ∧ (ok (rs 2 r x h) (fun w h' => K (some (.int w)) h') → CP S M_X3_plain e 0 0 [.ref r, .int x] h K) ∧ (ok (rs 3 r x h) (fun w h' => K (some (.int w)) h') → CP S M_X3_sum e 0 0 [.ref r, .int x] h K) ∧ (ok (rs 4 r x h) (fun w h' => K (some (.int w)) h') → CP S M_X3_sumInBrackets e 0 0 [.ref r, .int x] h K) ∧ (ok (rs 5 r x h) (fun w h' => K (some (.int w)) h') → CP S M_X3_part e 0 0 [.ref r, .int x] h K)) {r0 : Nat} {x1 : Int32} {h : AH} (k : ok (f_X3_testInBrackets S rs r0 x1 h) (fun w h' => K (some (.int w)) h')) : CP S M_X3_testInBrackets d 0 0 [.ref r0, .int x1] h K := cp_of (by decide) (fun _ _ => trivial) (fun _ => Nat.le_of_ble_eq_true rfl) (s_X3_testInBrackets hd hN hrs k)
def f_X3_plain_l2b (S : SH) (rs : Nat → Nat → Int32 → AH → Option (Int32 × AH)) (rc : Nat → Int32 → Int32 → AH → Option ((Nat × Int32 × Int32) × AH)) (r0 : Nat) (x1 : Int32) (x2 : Int32) (h : AH) : Option ((Nat × Int32 × Int32) × AH) :=
  if (400 : Int32) ≤ x2 then
    some ((r0, x1, x2), h)
  else
    (ckO S h r0 3).bind fun _ =>
    (f_X3_kind S r0 h).bind fun z => match z with
    | (z_4, h_3) =>
    if z_4 = (258 : Int32) then
      lt (x2 + (1 : Int32)) fun y_6 =>
      (ckO S h_3 r0 3).bind fun _ =>
      (f_X3_next S r0 h_3).bind fun z => match z with
      | (_, h_8) =>
      rc r0 x1 y_6 h_8
    else
      some ((r0, x1, x2), h_3)
set_option maxHeartbeats 8000000 in
set_option maxRecDepth 20000 in
theorem s_X3_plain_l2b {S : SH} {d cb sb : Nat} {Q : Option Value → AH → Prop} (hd : 1 ≤ d) {N0 : Nat} (hN : N0 + 1 ≤ d) {rs : Nat → Nat → Int32 → AH → Option (Int32 × AH)} (hrs : ∀ (e : Nat), N0 ≤ e → ∀ (r : Nat) (x : Int32) (h : AH) (K : Option Value → AH → Prop), (ok (rs 0 r x h) (fun w h' => K (some (.int w)) h') → CP S M_X3_test e 0 0 [.ref r, .int x] h K) ∧ (ok (rs 1 r x h) (fun w h' => K (some (.int w)) h') → CP S M_X3_testInBrackets e 0 0 [.ref r, .int x] h K) ∧ (ok (rs 2 r x h) (fun w h' => K (some (.int w)) h') → CP S M_X3_plain e 0 0 [.ref r, .int x] h K) ∧ (ok (rs 3 r x h) (fun w h' => K (some (.int w)) h') → CP S M_X3_sum e 0 0 [.ref r, .int x] h K) ∧ (ok (rs 4 r x h) (fun w h' => K (some (.int w)) h') → CP S M_X3_sumInBrackets e 0 0 [.ref r, .int x] h K) ∧ (ok (rs 5 r x h) (fun w h' => K (some (.int w)) h') → CP S M_X3_part e 0 0 [.ref r, .int x] h K)) {K : (Nat × Int32 × Int32) → AH → Prop} (hex : ∀ (r0 : Nat) (x1 : Int32) (x2 : Int32) (h' : AH), K (r0, x1, x2) h' → WP S M_X3_plain d cb sb Q 29 [.ref r0, .int x1, .int x2, JK] [] h') {rc : Nat → Int32 → Int32 → AH → Option ((Nat × Int32 × Int32) × AH)} (hrec : ∀ (r0 : Nat) (x1 : Int32) (x2 : Int32) (h' : AH), ok (rc r0 x1 x2 h') K → WP S M_X3_plain d cb sb Q 2 [.ref r0, .int x1, .int x2, JK] [] h') {r0 : Nat} {x1 : Int32} {x2 : Int32} {h : AH} (k : ok (f_X3_plain_l2b S rs rc r0 x1 x2 h) K) : WP S M_X3_plain d cb sb Q 2 [.ref r0, .int x1, .int x2, JK] [] h := by
  obtain ⟨d, rfl, he, hM⟩ := dp2 (L := 0) (N := N0) hd hN
  unfold f_X3_plain_l2b at k
  refine wp_iload_n dX3_plain_2 rfl ?_
  refine wp_sipush dX3_plain_3 sp_400 ?_
  refine wp_icmp_ge 29 dX3_plain_6 (by decide) (fun c_1 => ?_) (fun c_1 => ?_)
  · replace k := ok_t c_1 k
    exact wp_wk (wkE <| wkE <| wkE <| wkJ <| wkN) (hex _ _ _ _ (ok_some k))
  · replace k := ok_f c_1 k
    refine wp_aload_n dX3_plain_9 rfl ?_
    replace k := ok_bind k
    obtain ⟨u, e_2, k⟩ := k
    refine wp_callV0 (N := M_X3_kind) (ci := 3) mf_X3_kind mi_X3_kind me_X3_kind ml_X3_48 dX3_plain_10 (ckO_e e_2) mv_X3_kind (by exact Nat.le_of_ble_eq_true rfl) (c_X3_kind (Nat.le_trans (by decide) he) (ok_mono (ok_bind2 k) fun z_4 h_3 k => ?_))
    try dsimp only at k
    refine wp_sipush dX3_plain_13 sp_258 ?_
    refine wp_icmp_ne 29 dX3_plain_16 (by decide) (fun c_5 => ?_) (fun c_5 => ?_)
    · replace k := ok_f c_5 k
      exact wp_wk (wkE <| wkE <| wkE <| wkJ <| wkN) (hex _ _ _ _ (ok_some k))
    · replace k := ok_t c_5 k
      replace k := ok_lt k
      refine wp_iinc dX3_plain_19 rfl ic_1 (by decide) (L1 := [_, _, _, _]) rfl ?_
      refine wp_aload_n dX3_plain_22 rfl ?_
      replace k := ok_bind k
      obtain ⟨u, e_7, k⟩ := k
      refine wp_callV0 (N := M_X3_next) (ci := 3) mf_X3_next mi_X3_next me_X3_next ml_X3_62 dX3_plain_23 (ckO_e e_7) mv_X3_next (by exact Nat.le_of_ble_eq_true rfl) (c_X3_next (Nat.le_trans (by decide) he) (ok_mono (ok_bind2 k) fun _ h_8 k => ?_))
      try dsimp only at k
      refine wp_goto 2 dX3_plain_26 (by decide) ?_
      exact wp_wk (wkE <| wkE <| wkE <| wkJ <| wkN) (hrec _ _ _ _ k)
def f_X3_plain_l2 (S : SH) (rs : Nat → Nat → Int32 → AH → Option (Int32 × AH)) : Nat → Nat → Int32 → Int32 → AH → Option ((Nat × Int32 × Int32) × AH)
  | 0, _, _, _, _ => none
  | n + 1, r0, x1, x2, h => f_X3_plain_l2b S rs (f_X3_plain_l2 S rs n) r0 x1 x2 h
theorem s_X3_plain_l2 {S : SH} {d cb sb : Nat} {Q : Option Value → AH → Prop} (hd : 1 ≤ d) {N0 : Nat} (hN : N0 + 1 ≤ d) {rs : Nat → Nat → Int32 → AH → Option (Int32 × AH)} (hrs : ∀ (e : Nat), N0 ≤ e → ∀ (r : Nat) (x : Int32) (h : AH) (K : Option Value → AH → Prop), (ok (rs 0 r x h) (fun w h' => K (some (.int w)) h') → CP S M_X3_test e 0 0 [.ref r, .int x] h K) ∧ (ok (rs 1 r x h) (fun w h' => K (some (.int w)) h') → CP S M_X3_testInBrackets e 0 0 [.ref r, .int x] h K) ∧ (ok (rs 2 r x h) (fun w h' => K (some (.int w)) h') → CP S M_X3_plain e 0 0 [.ref r, .int x] h K) ∧ (ok (rs 3 r x h) (fun w h' => K (some (.int w)) h') → CP S M_X3_sum e 0 0 [.ref r, .int x] h K) ∧ (ok (rs 4 r x h) (fun w h' => K (some (.int w)) h') → CP S M_X3_sumInBrackets e 0 0 [.ref r, .int x] h K) ∧ (ok (rs 5 r x h) (fun w h' => K (some (.int w)) h') → CP S M_X3_part e 0 0 [.ref r, .int x] h K)) {K : (Nat × Int32 × Int32) → AH → Prop} (hex : ∀ (r0 : Nat) (x1 : Int32) (x2 : Int32) (h' : AH), K (r0, x1, x2) h' → WP S M_X3_plain d cb sb Q 29 [.ref r0, .int x1, .int x2, JK] [] h') : ∀ (n : Nat) (r0 : Nat) (x1 : Int32) (x2 : Int32) (h : AH), ok (f_X3_plain_l2 S rs n r0 x1 x2 h) K → WP S M_X3_plain d cb sb Q 2 [.ref r0, .int x1, .int x2, JK] [] h := by
  intro n
  induction n with
  | zero => intro r0 x1 x2 h k; exact ok_none k
  | succ n ih => intro r0 x1 x2 h k; exact s_X3_plain_l2b hd hN hrs hex (fun r0 x1 x2 h k => ih r0 x1 x2 h k) k
def f_X3_plain_j83 (S : SH) (rs : Nat → Nat → Int32 → AH → Option (Int32 × AH)) (r0 : Nat) (x1 : Int32) (x2 : Int32) (x3 : Int32) (h : AH) : Option (Int32 × AH) :=
  (ckO S h r0 3).bind fun _ =>
  (f_X3_next S r0 h).bind fun z => match z with
  | (_, h_2) =>
  (ckO S h_2 r0 3).bind fun _ =>
  (rs 3 r0 x1 h_2).bind fun z => match z with
  | (z_6, h_5) =>
  if z_6 = (0 : Int32) then
    some ((0 : Int32), h_5)
  else
    (ckO S h_5 r0 3).bind fun _ =>
    (f_X3_emit S r0 x3 (0 : Int32) h_5).bind fun z => match z with
    | (_, h_9) =>
    if (rmI x2 (2 : Int32)) = (0 : Int32) then
      some ((1 : Int32), h_9)
    else
      (ckO S h_9 r0 3).bind fun _ =>
      (f_X3_emit S r0 (258 : Int32) (0 : Int32) h_9).bind fun z => match z with
      | (_, h_13) =>
      some ((1 : Int32), h_13)
set_option maxHeartbeats 8000000 in
set_option maxRecDepth 20000 in
theorem s_X3_plain_j83 {S : SH} {d cb sb : Nat} {Q : Option Value → AH → Prop} (hd : 1 ≤ d) {N0 : Nat} (hN : N0 + 1 ≤ d) {rs : Nat → Nat → Int32 → AH → Option (Int32 × AH)} (hrs : ∀ (e : Nat), N0 ≤ e → ∀ (r : Nat) (x : Int32) (h : AH) (K : Option Value → AH → Prop), (ok (rs 0 r x h) (fun w h' => K (some (.int w)) h') → CP S M_X3_test e 0 0 [.ref r, .int x] h K) ∧ (ok (rs 1 r x h) (fun w h' => K (some (.int w)) h') → CP S M_X3_testInBrackets e 0 0 [.ref r, .int x] h K) ∧ (ok (rs 2 r x h) (fun w h' => K (some (.int w)) h') → CP S M_X3_plain e 0 0 [.ref r, .int x] h K) ∧ (ok (rs 3 r x h) (fun w h' => K (some (.int w)) h') → CP S M_X3_sum e 0 0 [.ref r, .int x] h K) ∧ (ok (rs 4 r x h) (fun w h' => K (some (.int w)) h') → CP S M_X3_sumInBrackets e 0 0 [.ref r, .int x] h K) ∧ (ok (rs 5 r x h) (fun w h' => K (some (.int w)) h') → CP S M_X3_part e 0 0 [.ref r, .int x] h K)) {r0 : Nat} {x1 : Int32} {x2 : Int32} {x3 : Int32} {h : AH} (k : ok (f_X3_plain_j83 S rs r0 x1 x2 x3 h) (fun w h' => Q (some (.int w)) h')) : WP S M_X3_plain d cb sb Q 83 [.ref r0, .int x1, .int x2, .int x3] [] h := by
  obtain ⟨d, rfl, he, hM⟩ := dp2 (L := 0) (N := N0) hd hN
  unfold f_X3_plain_j83 at k
  refine wp_aload_n dX3_plain_83 rfl ?_
  replace k := ok_bind k
  obtain ⟨u, e_1, k⟩ := k
  refine wp_callV0 (N := M_X3_next) (ci := 3) mf_X3_next mi_X3_next me_X3_next ml_X3_62 dX3_plain_84 (ckO_e e_1) mv_X3_next (by exact Nat.le_of_ble_eq_true rfl) (c_X3_next (Nat.le_trans (by decide) he) (ok_mono (ok_bind2 k) fun _ h_2 k => ?_))
  try dsimp only at k
  refine wp_aload_n dX3_plain_87 rfl ?_
  refine wp_iload_n dX3_plain_88 rfl ?_
  replace k := ok_bind k
  obtain ⟨u, e_4, k⟩ := k
  refine wp_callV1 (N := M_X3_sum) (ci := 3) mf_X3_sum mi_X3_sum me_X3_sum ml_X3_88 dX3_plain_89 (ckO_e e_4) mv_X3_sum (by exact Nat.le_of_ble_eq_true rfl) ((hrs d (by omega) _ _ _ _).2.2.2.1 (ok_mono (ok_bind2 k) fun z_6 h_5 k => ?_))
  try dsimp only at k
  refine wp_if_ne 97 dX3_plain_92 (by decide) (fun c_7 => ?_) (fun c_7 => ?_)
  · replace k := ok_f c_7 k
    refine wp_aload_n dX3_plain_97 rfl ?_
    refine wp_iload_n dX3_plain_98 rfl ?_
    refine wp_iconst dX3_plain_99 ic_0 ?_
    replace k := ok_bind k
    obtain ⟨u, e_8, k⟩ := k
    refine wp_callV2 (N := M_X3_emit) (ci := 3) mf_X3_emit mi_X3_emit me_X3_emit ml_X3_108 dX3_plain_100 (ckO_e e_8) mv_X3_emit (by exact Nat.le_of_ble_eq_true rfl) (c_X3_emit (Nat.le_trans (by decide) he) (ok_mono (ok_bind2 k) fun _ h_9 k => ?_))
    try dsimp only at k
    refine wp_iload_n dX3_plain_103 rfl ?_
    refine wp_iconst dX3_plain_104 ic_2 ?_
    refine wp_irem dX3_plain_105 (by decide) ?_
    refine wp_if_eq 117 dX3_plain_106 (by decide) (fun c_11 => ?_) (fun c_11 => ?_)
    · replace k := ok_t c_11 k
      refine wp_iconst dX3_plain_117 ic_1 ?_
      refine wp_iret rfl rfl dX3_plain_118 ?_
      exact (ok_some k :)
    · replace k := ok_f c_11 k
      refine wp_aload_n dX3_plain_109 rfl ?_
      refine wp_sipush dX3_plain_110 sp_258 ?_
      refine wp_iconst dX3_plain_113 ic_0 ?_
      replace k := ok_bind k
      obtain ⟨u, e_12, k⟩ := k
      refine wp_callV2 (N := M_X3_emit) (ci := 3) mf_X3_emit mi_X3_emit me_X3_emit ml_X3_108 dX3_plain_114 (ckO_e e_12) mv_X3_emit (by exact Nat.le_of_ble_eq_true rfl) (c_X3_emit (Nat.le_trans (by decide) he) (ok_mono (ok_bind2 k) fun _ h_13 k => ?_))
      try dsimp only at k
      refine wp_iconst dX3_plain_117 ic_1 ?_
      refine wp_iret rfl rfl dX3_plain_118 ?_
      exact (ok_some k :)
  · replace k := ok_t c_7 k
    refine wp_iconst dX3_plain_95 ic_0 ?_
    refine wp_iret rfl rfl dX3_plain_96 ?_
    exact (ok_some k :)
def f_X3_plain_j29 (S : SH) (rs : Nat → Nat → Int32 → AH → Option (Int32 × AH)) (r0 : Nat) (x1 : Int32) (x2 : Int32) (h : AH) : Option (Int32 × AH) :=
  (ckO S h r0 3).bind fun _ =>
  (f_X3_kind S r0 h).bind fun z => match z with
  | (z_3, h_2) =>
  if z_3 = (40 : Int32) then
    (ckO S h_2 r0 3).bind fun _ =>
    (rs 1 r0 x1 h_2).bind fun z => match z with
    | (z_17, h_16) =>
    if z_17 = (0 : Int32) then
      some ((0 : Int32), h_16)
    else
      if (rmI x2 (2 : Int32)) = (0 : Int32) then
        some ((1 : Int32), h_16)
      else
        (ckO S h_16 r0 3).bind fun _ =>
        (f_X3_emit S r0 (258 : Int32) (0 : Int32) h_16).bind fun z => match z with
        | (_, h_21) =>
        some ((1 : Int32), h_21)
  else
    (ckO S h_2 r0 3).bind fun _ =>
    (rs 3 r0 x1 h_2).bind fun z => match z with
    | (z_7, h_6) =>
    if z_7 = (0 : Int32) then
      some ((0 : Int32), h_6)
    else
      (ckO S h_6 r0 3).bind fun _ =>
      (f_X3_kind S r0 h_6).bind fun z => match z with
      | (z_11, h_10) =>
      if z_11 = (60 : Int32) then
        f_X3_plain_j83 S rs r0 x1 x2 z_11 h_10
      else
        if z_11 = (62 : Int32) then
          f_X3_plain_j83 S rs r0 x1 x2 z_11 h_10
        else
          if z_11 = (61 : Int32) then
            f_X3_plain_j83 S rs r0 x1 x2 z_11 h_10
          else
            some ((0 : Int32), h_10)
set_option maxHeartbeats 8000000 in
set_option maxRecDepth 20000 in
theorem s_X3_plain_j29 {S : SH} {d cb sb : Nat} {Q : Option Value → AH → Prop} (hd : 1 ≤ d) {N0 : Nat} (hN : N0 + 1 ≤ d) {rs : Nat → Nat → Int32 → AH → Option (Int32 × AH)} (hrs : ∀ (e : Nat), N0 ≤ e → ∀ (r : Nat) (x : Int32) (h : AH) (K : Option Value → AH → Prop), (ok (rs 0 r x h) (fun w h' => K (some (.int w)) h') → CP S M_X3_test e 0 0 [.ref r, .int x] h K) ∧ (ok (rs 1 r x h) (fun w h' => K (some (.int w)) h') → CP S M_X3_testInBrackets e 0 0 [.ref r, .int x] h K) ∧ (ok (rs 2 r x h) (fun w h' => K (some (.int w)) h') → CP S M_X3_plain e 0 0 [.ref r, .int x] h K) ∧ (ok (rs 3 r x h) (fun w h' => K (some (.int w)) h') → CP S M_X3_sum e 0 0 [.ref r, .int x] h K) ∧ (ok (rs 4 r x h) (fun w h' => K (some (.int w)) h') → CP S M_X3_sumInBrackets e 0 0 [.ref r, .int x] h K) ∧ (ok (rs 5 r x h) (fun w h' => K (some (.int w)) h') → CP S M_X3_part e 0 0 [.ref r, .int x] h K)) {r0 : Nat} {x1 : Int32} {x2 : Int32} {h : AH} (k : ok (f_X3_plain_j29 S rs r0 x1 x2 h) (fun w h' => Q (some (.int w)) h')) : WP S M_X3_plain d cb sb Q 29 [.ref r0, .int x1, .int x2, JK] [] h := by
  obtain ⟨d, rfl, he, hM⟩ := dp2 (L := 0) (N := N0) hd hN
  unfold f_X3_plain_j29 at k
  refine wp_aload_n dX3_plain_29 rfl ?_
  replace k := ok_bind k
  obtain ⟨u, e_1, k⟩ := k
  refine wp_callV0 (N := M_X3_kind) (ci := 3) mf_X3_kind mi_X3_kind me_X3_kind ml_X3_48 dX3_plain_30 (ckO_e e_1) mv_X3_kind (by exact Nat.le_of_ble_eq_true rfl) (c_X3_kind (Nat.le_trans (by decide) he) (ok_mono (ok_bind2 k) fun z_3 h_2 k => ?_))
  try dsimp only at k
  refine wp_bipush dX3_plain_33 bp_40 ?_
  refine wp_icmp_ne 48 dX3_plain_35 (by decide) (fun c_4 => ?_) (fun c_4 => ?_)
  · replace k := ok_f c_4 k
    refine wp_aload_n dX3_plain_48 rfl ?_
    refine wp_iload_n dX3_plain_49 rfl ?_
    replace k := ok_bind k
    obtain ⟨u, e_5, k⟩ := k
    refine wp_callV1 (N := M_X3_sum) (ci := 3) mf_X3_sum mi_X3_sum me_X3_sum ml_X3_88 dX3_plain_50 (ckO_e e_5) mv_X3_sum (by exact Nat.le_of_ble_eq_true rfl) ((hrs d (by omega) _ _ _ _).2.2.2.1 (ok_mono (ok_bind2 k) fun z_7 h_6 k => ?_))
    try dsimp only at k
    refine wp_if_ne 58 dX3_plain_53 (by decide) (fun c_8 => ?_) (fun c_8 => ?_)
    · replace k := ok_f c_8 k
      refine wp_aload_n dX3_plain_58 rfl ?_
      replace k := ok_bind k
      obtain ⟨u, e_9, k⟩ := k
      refine wp_callV0 (N := M_X3_kind) (ci := 3) mf_X3_kind mi_X3_kind me_X3_kind ml_X3_48 dX3_plain_59 (ckO_e e_9) mv_X3_kind (by exact Nat.le_of_ble_eq_true rfl) (c_X3_kind (Nat.le_trans (by decide) he) (ok_mono (ok_bind2 k) fun z_11 h_10 k => ?_))
      try dsimp only at k
      refine wp_istore_n dX3_plain_62 (by decide) (L1 := [_, _, _, _]) rfl ?_
      refine wp_iload_n dX3_plain_63 rfl ?_
      refine wp_bipush dX3_plain_64 bp_60 ?_
      refine wp_icmp_eq 83 dX3_plain_66 (by decide) (fun c_12 => ?_) (fun c_12 => ?_)
      · replace k := ok_t c_12 k
        exact wp_wk (wkE <| wkE <| wkE <| wkE <| wkN) (s_X3_plain_j83 (Nat.succ_le_succ he) (Nat.succ_le_succ hM) hrs k)
      · replace k := ok_f c_12 k
        refine wp_iload_n dX3_plain_69 rfl ?_
        refine wp_bipush dX3_plain_70 bp_62 ?_
        refine wp_icmp_eq 83 dX3_plain_72 (by decide) (fun c_13 => ?_) (fun c_13 => ?_)
        · replace k := ok_t c_13 k
          exact wp_wk (wkE <| wkE <| wkE <| wkE <| wkN) (s_X3_plain_j83 (Nat.succ_le_succ he) (Nat.succ_le_succ hM) hrs k)
        · replace k := ok_f c_13 k
          refine wp_iload_n dX3_plain_75 rfl ?_
          refine wp_bipush dX3_plain_76 bp_61 ?_
          refine wp_icmp_eq 83 dX3_plain_78 (by decide) (fun c_14 => ?_) (fun c_14 => ?_)
          · replace k := ok_t c_14 k
            exact wp_wk (wkE <| wkE <| wkE <| wkE <| wkN) (s_X3_plain_j83 (Nat.succ_le_succ he) (Nat.succ_le_succ hM) hrs k)
          · replace k := ok_f c_14 k
            refine wp_iconst dX3_plain_81 ic_0 ?_
            refine wp_iret rfl rfl dX3_plain_82 ?_
            exact (ok_some k :)
    · replace k := ok_t c_8 k
      refine wp_iconst dX3_plain_56 ic_0 ?_
      refine wp_iret rfl rfl dX3_plain_57 ?_
      exact (ok_some k :)
  · replace k := ok_t c_4 k
    refine wp_aload_n dX3_plain_38 rfl ?_
    refine wp_iload_n dX3_plain_39 rfl ?_
    replace k := ok_bind k
    obtain ⟨u, e_15, k⟩ := k
    refine wp_callV1 (N := M_X3_testInBrackets) (ci := 3) mf_X3_testInBrackets mi_X3_testInBrackets me_X3_testInBrackets ml_X3_111 dX3_plain_40 (ckO_e e_15) mv_X3_testInBrackets (by exact Nat.le_of_ble_eq_true rfl) ((hrs d (by omega) _ _ _ _).2.1 (ok_mono (ok_bind2 k) fun z_17 h_16 k => ?_))
    try dsimp only at k
    refine wp_if_ne 103 dX3_plain_43 (by decide) (fun c_18 => ?_) (fun c_18 => ?_)
    · replace k := ok_f c_18 k
      refine wp_iload_n dX3_plain_103 rfl ?_
      refine wp_iconst dX3_plain_104 ic_2 ?_
      refine wp_irem dX3_plain_105 (by decide) ?_
      refine wp_if_eq 117 dX3_plain_106 (by decide) (fun c_19 => ?_) (fun c_19 => ?_)
      · replace k := ok_t c_19 k
        refine wp_iconst dX3_plain_117 ic_1 ?_
        refine wp_iret rfl rfl dX3_plain_118 ?_
        exact (ok_some k :)
      · replace k := ok_f c_19 k
        refine wp_aload_n dX3_plain_109 rfl ?_
        refine wp_sipush dX3_plain_110 sp_258 ?_
        refine wp_iconst dX3_plain_113 ic_0 ?_
        replace k := ok_bind k
        obtain ⟨u, e_20, k⟩ := k
        refine wp_callV2 (N := M_X3_emit) (ci := 3) mf_X3_emit mi_X3_emit me_X3_emit ml_X3_108 dX3_plain_114 (ckO_e e_20) mv_X3_emit (by exact Nat.le_of_ble_eq_true rfl) (c_X3_emit (Nat.le_trans (by decide) he) (ok_mono (ok_bind2 k) fun _ h_21 k => ?_))
        try dsimp only at k
        refine wp_iconst dX3_plain_117 ic_1 ?_
        refine wp_iret rfl rfl dX3_plain_118 ?_
        exact (ok_some k :)
    · replace k := ok_t c_18 k
      refine wp_iconst dX3_plain_46 ic_0 ?_
      refine wp_iret rfl rfl dX3_plain_47 ?_
      exact (ok_some k :)
def f_X3_plain (S : SH) (rs : Nat → Nat → Int32 → AH → Option (Int32 × AH)) (r0 : Nat) (x1 : Int32) (h : AH) : Option (Int32 × AH) :=
  (f_X3_plain_l2 S rs FU r0 x1 (0 : Int32) h).bind fun z => match z with
  | ((r0_2, x1_3, x2_4), h_1) =>
  f_X3_plain_j29 S rs r0_2 x1_3 x2_4 h_1
set_option maxHeartbeats 8000000 in
set_option maxRecDepth 20000 in
theorem s_X3_plain {S : SH} {d cb sb : Nat} {Q : Option Value → AH → Prop} (hd : 1 ≤ d) {N0 : Nat} (hN : N0 + 1 ≤ d) {rs : Nat → Nat → Int32 → AH → Option (Int32 × AH)} (hrs : ∀ (e : Nat), N0 ≤ e → ∀ (r : Nat) (x : Int32) (h : AH) (K : Option Value → AH → Prop), (ok (rs 0 r x h) (fun w h' => K (some (.int w)) h') → CP S M_X3_test e 0 0 [.ref r, .int x] h K) ∧ (ok (rs 1 r x h) (fun w h' => K (some (.int w)) h') → CP S M_X3_testInBrackets e 0 0 [.ref r, .int x] h K) ∧ (ok (rs 2 r x h) (fun w h' => K (some (.int w)) h') → CP S M_X3_plain e 0 0 [.ref r, .int x] h K) ∧ (ok (rs 3 r x h) (fun w h' => K (some (.int w)) h') → CP S M_X3_sum e 0 0 [.ref r, .int x] h K) ∧ (ok (rs 4 r x h) (fun w h' => K (some (.int w)) h') → CP S M_X3_sumInBrackets e 0 0 [.ref r, .int x] h K) ∧ (ok (rs 5 r x h) (fun w h' => K (some (.int w)) h') → CP S M_X3_part e 0 0 [.ref r, .int x] h K)) {r0 : Nat} {x1 : Int32} {h : AH} (k : ok (f_X3_plain S rs r0 x1 h) (fun w h' => Q (some (.int w)) h')) : WP S M_X3_plain d cb sb Q 0 [.ref r0, .int x1, JK, JK] [] h := by
  obtain ⟨d, rfl, he, hM⟩ := dp2 (L := 0) (N := N0) hd hN
  unfold f_X3_plain at k
  refine wp_iconst dX3_plain_0 ic_0 ?_
  refine wp_istore_n dX3_plain_1 (by decide) (L1 := [_, _, _, _]) rfl ?_
  refine wp_wk (wkE <| wkE <| wkE <| wkJ <| wkN) ?_
  refine s_X3_plain_l2 (Nat.succ_le_succ he) (Nat.succ_le_succ hM) hrs (fun r0_2 x1_3 x2_4 h_1 k => ?_) FU _ _ _ _ (ok_bind2 k)
  try dsimp only at k
  exact wp_wk (wkE <| wkE <| wkE <| wkJ <| wkN) (s_X3_plain_j29 (Nat.succ_le_succ he) (Nat.succ_le_succ hM) hrs k)
theorem c_X3_plain_b {S : SH} {d : Nat} {K : Option Value → AH → Prop} (hd : 1 ≤ d) {N0 : Nat} (hN : N0 + 1 ≤ d) {rs : Nat → Nat → Int32 → AH → Option (Int32 × AH)} (hrs : ∀ (e : Nat), N0 ≤ e → ∀ (r : Nat) (x : Int32) (h : AH) (K : Option Value → AH → Prop), (ok (rs 0 r x h) (fun w h' => K (some (.int w)) h') → CP S M_X3_test e 0 0 [.ref r, .int x] h K) ∧ (ok (rs 1 r x h) (fun w h' => K (some (.int w)) h') → CP S M_X3_testInBrackets e 0 0 [.ref r, .int x] h K) ∧ (ok (rs 2 r x h) (fun w h' => K (some (.int w)) h') → CP S M_X3_plain e 0 0 [.ref r, .int x] h K) ∧ (ok (rs 3 r x h) (fun w h' => K (some (.int w)) h') → CP S M_X3_sum e 0 0 [.ref r, .int x] h K) ∧ (ok (rs 4 r x h) (fun w h' => K (some (.int w)) h') → CP S M_X3_sumInBrackets e 0 0 [.ref r, .int x] h K) ∧ (ok (rs 5 r x h) (fun w h' => K (some (.int w)) h') → CP S M_X3_part e 0 0 [.ref r, .int x] h K)) {r0 : Nat} {x1 : Int32} {h : AH} (k : ok (f_X3_plain S rs r0 x1 h) (fun w h' => K (some (.int w)) h')) : CP S M_X3_plain d 0 0 [.ref r0, .int x1] h K := cp_of (by decide) (fun _ _ => trivial) (fun _ => Nat.le_of_ble_eq_true rfl) (s_X3_plain hd hN hrs k)
def f_X3_sum_l7_j86 (S : SH) (rs : Nat → Nat → Int32 → AH → Option (Int32 × AH)) (rc : Nat → Int32 → Int32 → Int32 → Int32 → AH → Option ((Int32 ⊕ Unit) × AH)) (r0 : Nat) (x1 : Int32) (x3 : Int32) (x4 : Int32) (x5 : Int32) (h : AH) : Option ((Int32 ⊕ Unit) × AH) :=
  if x5 = (43 : Int32) then
    (ckO S h r0 3).bind fun _ =>
    (f_X3_next S r0 h).bind fun z => match z with
    | (_, h_3) =>
    lt (x4 + (1 : Int32)) fun y_5 =>
    rc r0 x1 x5 x3 y_5 h_3
  else
    if x5 = (45 : Int32) then
      (ckO S h r0 3).bind fun _ =>
      (f_X3_next S r0 h).bind fun z => match z with
      | (_, h_8) =>
      lt (x4 + (1 : Int32)) fun y_10 =>
      rc r0 x1 x5 x3 y_10 h_8
    else
      some (.inl (1 : Int32), h)
set_option maxHeartbeats 8000000 in
set_option maxRecDepth 20000 in
theorem s_X3_sum_l7_j86 {S : SH} {d cb sb : Nat} {Q : Option Value → AH → Prop} (hd : 1 ≤ d) {N0 : Nat} (hN : N0 + 1 ≤ d) {rs : Nat → Nat → Int32 → AH → Option (Int32 × AH)} (hrs : ∀ (e : Nat), N0 ≤ e → ∀ (r : Nat) (x : Int32) (h : AH) (K : Option Value → AH → Prop), (ok (rs 0 r x h) (fun w h' => K (some (.int w)) h') → CP S M_X3_test e 0 0 [.ref r, .int x] h K) ∧ (ok (rs 1 r x h) (fun w h' => K (some (.int w)) h') → CP S M_X3_testInBrackets e 0 0 [.ref r, .int x] h K) ∧ (ok (rs 2 r x h) (fun w h' => K (some (.int w)) h') → CP S M_X3_plain e 0 0 [.ref r, .int x] h K) ∧ (ok (rs 3 r x h) (fun w h' => K (some (.int w)) h') → CP S M_X3_sum e 0 0 [.ref r, .int x] h K) ∧ (ok (rs 4 r x h) (fun w h' => K (some (.int w)) h') → CP S M_X3_sumInBrackets e 0 0 [.ref r, .int x] h K) ∧ (ok (rs 5 r x h) (fun w h' => K (some (.int w)) h') → CP S M_X3_part e 0 0 [.ref r, .int x] h K)) {K : (Int32 ⊕ Unit) → AH → Prop} (hret : ∀ (w : Int32) (h' : AH), K (.inl w) h' → Q (some (.int w)) h') (hex : ∀  (h' : AH), K (.inr ()) h' → WP S M_X3_sum d cb sb Q 115 [JK, JK, JK, JK, JK, JK] [] h') {rc : Nat → Int32 → Int32 → Int32 → Int32 → AH → Option ((Int32 ⊕ Unit) × AH)} (hrec : ∀ (r0 : Nat) (x1 : Int32) (x2 : Int32) (x3 : Int32) (x4 : Int32) (h' : AH), ok (rc r0 x1 x2 x3 x4 h') K → WP S M_X3_sum d cb sb Q 7 [.ref r0, .int x1, .int x2, .int x3, .int x4, JK] [] h') {r0 : Nat} {x1 : Int32} {x3 : Int32} {x4 : Int32} {x5 : Int32} {h : AH} (k : ok (f_X3_sum_l7_j86 S rs rc r0 x1 x3 x4 x5 h) K) : WP S M_X3_sum d cb sb Q 86 [.ref r0, .int x1, JK, .int x3, .int x4, .int x5] [] h := by
  obtain ⟨d, rfl, he, hM⟩ := dp2 (L := 0) (N := N0) hd hN
  unfold f_X3_sum_l7_j86 at k
  refine wp_iload dX3_sum_86 rfl ?_
  refine wp_istore_n dX3_sum_88 (by decide) (L1 := [_, _, _, _, _, _]) rfl ?_
  refine wp_iload dX3_sum_89 rfl ?_
  refine wp_bipush dX3_sum_91 bp_43 ?_
  refine wp_icmp_eq 105 dX3_sum_93 (by decide) (fun c_1 => ?_) (fun c_1 => ?_)
  · replace k := ok_t c_1 k
    refine wp_aload_n dX3_sum_105 rfl ?_
    replace k := ok_bind k
    obtain ⟨u, e_2, k⟩ := k
    refine wp_callV0 (N := M_X3_next) (ci := 3) mf_X3_next mi_X3_next me_X3_next ml_X3_62 dX3_sum_106 (ckO_e e_2) mv_X3_next (by exact Nat.le_of_ble_eq_true rfl) (c_X3_next (Nat.le_trans (by decide) he) (ok_mono (ok_bind2 k) fun _ h_3 k => ?_))
    try dsimp only at k
    replace k := ok_lt k
    refine wp_iinc dX3_sum_109 rfl ic_1 (by decide) (L1 := [_, _, _, _, _, _]) rfl ?_
    refine wp_goto 7 dX3_sum_112 (by decide) ?_
    exact wp_wk (wkE <| wkE <| wkE <| wkE <| wkE <| wkJ <| wkN) (hrec _ _ _ _ _ _ k)
  · replace k := ok_f c_1 k
    refine wp_iload dX3_sum_96 rfl ?_
    refine wp_bipush dX3_sum_98 bp_45 ?_
    refine wp_icmp_eq 105 dX3_sum_100 (by decide) (fun c_6 => ?_) (fun c_6 => ?_)
    · replace k := ok_t c_6 k
      refine wp_aload_n dX3_sum_105 rfl ?_
      replace k := ok_bind k
      obtain ⟨u, e_7, k⟩ := k
      refine wp_callV0 (N := M_X3_next) (ci := 3) mf_X3_next mi_X3_next me_X3_next ml_X3_62 dX3_sum_106 (ckO_e e_7) mv_X3_next (by exact Nat.le_of_ble_eq_true rfl) (c_X3_next (Nat.le_trans (by decide) he) (ok_mono (ok_bind2 k) fun _ h_8 k => ?_))
      try dsimp only at k
      replace k := ok_lt k
      refine wp_iinc dX3_sum_109 rfl ic_1 (by decide) (L1 := [_, _, _, _, _, _]) rfl ?_
      refine wp_goto 7 dX3_sum_112 (by decide) ?_
      exact wp_wk (wkE <| wkE <| wkE <| wkE <| wkE <| wkJ <| wkN) (hrec _ _ _ _ _ _ k)
    · replace k := ok_f c_6 k
      refine wp_iconst dX3_sum_103 ic_1 ?_
      refine wp_iret rfl rfl dX3_sum_104 ?_
      exact hret _ _ (ok_some k)
def f_X3_sum_l7_j69 (S : SH) (rs : Nat → Nat → Int32 → AH → Option (Int32 × AH)) (rc : Nat → Int32 → Int32 → Int32 → Int32 → AH → Option ((Int32 ⊕ Unit) × AH)) (r0 : Nat) (x1 : Int32) (x2 : Int32) (x4 : Int32) (x5 : Int32) (sx0 : Int32) (h : AH) : Option ((Int32 ⊕ Unit) × AH) :=
  if sx0 = (-1 : Int32) then
    if x2 = (-1 : Int32) then
      f_X3_sum_l7_j86 S rs rc r0 x1 sx0 x4 x5 h
    else
      (ckO S h r0 3).bind fun _ =>
      (f_X3_emit S r0 x2 (0 : Int32) h).bind fun z => match z with
      | (_, h_8) =>
      f_X3_sum_l7_j86 S rs rc r0 x1 sx0 x4 x5 h_8
  else
    (ckO S h r0 3).bind fun _ =>
    (f_X3_next S r0 h).bind fun z => match z with
    | (_, h_3) =>
    lt (x4 + (1 : Int32)) fun y_5 =>
    rc r0 x1 x2 sx0 y_5 h_3
set_option maxHeartbeats 8000000 in
set_option maxRecDepth 20000 in
theorem s_X3_sum_l7_j69 {S : SH} {d cb sb : Nat} {Q : Option Value → AH → Prop} (hd : 1 ≤ d) {N0 : Nat} (hN : N0 + 1 ≤ d) {rs : Nat → Nat → Int32 → AH → Option (Int32 × AH)} (hrs : ∀ (e : Nat), N0 ≤ e → ∀ (r : Nat) (x : Int32) (h : AH) (K : Option Value → AH → Prop), (ok (rs 0 r x h) (fun w h' => K (some (.int w)) h') → CP S M_X3_test e 0 0 [.ref r, .int x] h K) ∧ (ok (rs 1 r x h) (fun w h' => K (some (.int w)) h') → CP S M_X3_testInBrackets e 0 0 [.ref r, .int x] h K) ∧ (ok (rs 2 r x h) (fun w h' => K (some (.int w)) h') → CP S M_X3_plain e 0 0 [.ref r, .int x] h K) ∧ (ok (rs 3 r x h) (fun w h' => K (some (.int w)) h') → CP S M_X3_sum e 0 0 [.ref r, .int x] h K) ∧ (ok (rs 4 r x h) (fun w h' => K (some (.int w)) h') → CP S M_X3_sumInBrackets e 0 0 [.ref r, .int x] h K) ∧ (ok (rs 5 r x h) (fun w h' => K (some (.int w)) h') → CP S M_X3_part e 0 0 [.ref r, .int x] h K)) {K : (Int32 ⊕ Unit) → AH → Prop} (hret : ∀ (w : Int32) (h' : AH), K (.inl w) h' → Q (some (.int w)) h') (hex : ∀  (h' : AH), K (.inr ()) h' → WP S M_X3_sum d cb sb Q 115 [JK, JK, JK, JK, JK, JK] [] h') {rc : Nat → Int32 → Int32 → Int32 → Int32 → AH → Option ((Int32 ⊕ Unit) × AH)} (hrec : ∀ (r0 : Nat) (x1 : Int32) (x2 : Int32) (x3 : Int32) (x4 : Int32) (h' : AH), ok (rc r0 x1 x2 x3 x4 h') K → WP S M_X3_sum d cb sb Q 7 [.ref r0, .int x1, .int x2, .int x3, .int x4, JK] [] h') {r0 : Nat} {x1 : Int32} {x2 : Int32} {x4 : Int32} {x5 : Int32} {sx0 : Int32} {h : AH} (k : ok (f_X3_sum_l7_j69 S rs rc r0 x1 x2 x4 x5 sx0 h) K) : WP S M_X3_sum d cb sb Q 69 [.ref r0, .int x1, .int x2, JK, .int x4, .int x5] [.int sx0] h := by
  obtain ⟨d, rfl, he, hM⟩ := dp2 (L := 0) (N := N0) hd hN
  unfold f_X3_sum_l7_j69 at k
  refine wp_istore_n dX3_sum_69 (by decide) (L1 := [_, _, _, _, _, _]) rfl ?_
  refine wp_iload_n dX3_sum_70 rfl ?_
  refine wp_iconst dX3_sum_71 ic_m1 ?_
  refine wp_icmp_ne 105 dX3_sum_72 (by decide) (fun c_1 => ?_) (fun c_1 => ?_)
  · replace k := ok_f c_1 k
    refine wp_aload_n dX3_sum_105 rfl ?_
    replace k := ok_bind k
    obtain ⟨u, e_2, k⟩ := k
    refine wp_callV0 (N := M_X3_next) (ci := 3) mf_X3_next mi_X3_next me_X3_next ml_X3_62 dX3_sum_106 (ckO_e e_2) mv_X3_next (by exact Nat.le_of_ble_eq_true rfl) (c_X3_next (Nat.le_trans (by decide) he) (ok_mono (ok_bind2 k) fun _ h_3 k => ?_))
    try dsimp only at k
    replace k := ok_lt k
    refine wp_iinc dX3_sum_109 rfl ic_1 (by decide) (L1 := [_, _, _, _, _, _]) rfl ?_
    refine wp_goto 7 dX3_sum_112 (by decide) ?_
    exact wp_wk (wkE <| wkE <| wkE <| wkE <| wkE <| wkJ <| wkN) (hrec _ _ _ _ _ _ k)
  · replace k := ok_t c_1 k
    refine wp_iload_n dX3_sum_75 rfl ?_
    refine wp_iconst dX3_sum_76 ic_m1 ?_
    refine wp_icmp_eq 86 dX3_sum_77 (by decide) (fun c_6 => ?_) (fun c_6 => ?_)
    · replace k := ok_t c_6 k
      exact wp_wk (wkE <| wkE <| wkJ <| wkE <| wkE <| wkE <| wkN) (s_X3_sum_l7_j86 (Nat.succ_le_succ he) (Nat.succ_le_succ hM) hrs hret hex hrec k)
    · replace k := ok_f c_6 k
      refine wp_aload_n dX3_sum_80 rfl ?_
      refine wp_iload_n dX3_sum_81 rfl ?_
      refine wp_iconst dX3_sum_82 ic_0 ?_
      replace k := ok_bind k
      obtain ⟨u, e_7, k⟩ := k
      refine wp_callV2 (N := M_X3_emit) (ci := 3) mf_X3_emit mi_X3_emit me_X3_emit ml_X3_108 dX3_sum_83 (ckO_e e_7) mv_X3_emit (by exact Nat.le_of_ble_eq_true rfl) (c_X3_emit (Nat.le_trans (by decide) he) (ok_mono (ok_bind2 k) fun _ h_8 k => ?_))
      try dsimp only at k
      exact wp_wk (wkE <| wkE <| wkJ <| wkE <| wkE <| wkE <| wkN) (s_X3_sum_l7_j86 (Nat.succ_le_succ he) (Nat.succ_le_succ hM) hrs hret hex hrec k)
def f_X3_sum_l7_j63 (S : SH) (rs : Nat → Nat → Int32 → AH → Option (Int32 × AH)) (rc : Nat → Int32 → Int32 → Int32 → Int32 → AH → Option ((Int32 ⊕ Unit) × AH)) (r0 : Nat) (x1 : Int32) (x2 : Int32) (x4 : Int32) (x5 : Int32) (h : AH) : Option ((Int32 ⊕ Unit) × AH) :=
  f_X3_sum_l7_j69 S rs rc r0 x1 x2 x4 x5 x5 h
set_option maxHeartbeats 8000000 in
set_option maxRecDepth 20000 in
theorem s_X3_sum_l7_j63 {S : SH} {d cb sb : Nat} {Q : Option Value → AH → Prop} (hd : 1 ≤ d) {N0 : Nat} (hN : N0 + 1 ≤ d) {rs : Nat → Nat → Int32 → AH → Option (Int32 × AH)} (hrs : ∀ (e : Nat), N0 ≤ e → ∀ (r : Nat) (x : Int32) (h : AH) (K : Option Value → AH → Prop), (ok (rs 0 r x h) (fun w h' => K (some (.int w)) h') → CP S M_X3_test e 0 0 [.ref r, .int x] h K) ∧ (ok (rs 1 r x h) (fun w h' => K (some (.int w)) h') → CP S M_X3_testInBrackets e 0 0 [.ref r, .int x] h K) ∧ (ok (rs 2 r x h) (fun w h' => K (some (.int w)) h') → CP S M_X3_plain e 0 0 [.ref r, .int x] h K) ∧ (ok (rs 3 r x h) (fun w h' => K (some (.int w)) h') → CP S M_X3_sum e 0 0 [.ref r, .int x] h K) ∧ (ok (rs 4 r x h) (fun w h' => K (some (.int w)) h') → CP S M_X3_sumInBrackets e 0 0 [.ref r, .int x] h K) ∧ (ok (rs 5 r x h) (fun w h' => K (some (.int w)) h') → CP S M_X3_part e 0 0 [.ref r, .int x] h K)) {K : (Int32 ⊕ Unit) → AH → Prop} (hret : ∀ (w : Int32) (h' : AH), K (.inl w) h' → Q (some (.int w)) h') (hex : ∀  (h' : AH), K (.inr ()) h' → WP S M_X3_sum d cb sb Q 115 [JK, JK, JK, JK, JK, JK] [] h') {rc : Nat → Int32 → Int32 → Int32 → Int32 → AH → Option ((Int32 ⊕ Unit) × AH)} (hrec : ∀ (r0 : Nat) (x1 : Int32) (x2 : Int32) (x3 : Int32) (x4 : Int32) (h' : AH), ok (rc r0 x1 x2 x3 x4 h') K → WP S M_X3_sum d cb sb Q 7 [.ref r0, .int x1, .int x2, .int x3, .int x4, JK] [] h') {r0 : Nat} {x1 : Int32} {x2 : Int32} {x4 : Int32} {x5 : Int32} {h : AH} (k : ok (f_X3_sum_l7_j63 S rs rc r0 x1 x2 x4 x5 h) K) : WP S M_X3_sum d cb sb Q 63 [.ref r0, .int x1, .int x2, JK, .int x4, .int x5] [] h := by
  obtain ⟨d, rfl, he, hM⟩ := dp2 (L := 0) (N := N0) hd hN
  unfold f_X3_sum_l7_j63 at k
  refine wp_iload dX3_sum_63 rfl ?_
  refine wp_goto 69 dX3_sum_65 (by decide) ?_
  exact wp_wk (wkE <| wkE <| wkE <| wkJ <| wkE <| wkE <| wkN) (s_X3_sum_l7_j69 (Nat.succ_le_succ he) (Nat.succ_le_succ hM) hrs hret hex hrec k)
def f_X3_sum_l7_j36 (S : SH) (rs : Nat → Nat → Int32 → AH → Option (Int32 × AH)) (rc : Nat → Int32 → Int32 → Int32 → Int32 → AH → Option ((Int32 ⊕ Unit) × AH)) (r0 : Nat) (x1 : Int32) (x2 : Int32) (x4 : Int32) (h : AH) : Option ((Int32 ⊕ Unit) × AH) :=
  (ckO S h r0 3).bind fun _ =>
  (f_X3_kind S r0 h).bind fun z => match z with
  | (z_3, h_2) =>
  if z_3 = (42 : Int32) then
    f_X3_sum_l7_j63 S rs rc r0 x1 x2 x4 z_3 h_2
  else
    if z_3 = (47 : Int32) then
      f_X3_sum_l7_j63 S rs rc r0 x1 x2 x4 z_3 h_2
    else
      if z_3 = (37 : Int32) then
        f_X3_sum_l7_j63 S rs rc r0 x1 x2 x4 z_3 h_2
      else
        f_X3_sum_l7_j69 S rs rc r0 x1 x2 x4 z_3 (-1 : Int32) h_2
set_option maxHeartbeats 8000000 in
set_option maxRecDepth 20000 in
theorem s_X3_sum_l7_j36 {S : SH} {d cb sb : Nat} {Q : Option Value → AH → Prop} (hd : 1 ≤ d) {N0 : Nat} (hN : N0 + 1 ≤ d) {rs : Nat → Nat → Int32 → AH → Option (Int32 × AH)} (hrs : ∀ (e : Nat), N0 ≤ e → ∀ (r : Nat) (x : Int32) (h : AH) (K : Option Value → AH → Prop), (ok (rs 0 r x h) (fun w h' => K (some (.int w)) h') → CP S M_X3_test e 0 0 [.ref r, .int x] h K) ∧ (ok (rs 1 r x h) (fun w h' => K (some (.int w)) h') → CP S M_X3_testInBrackets e 0 0 [.ref r, .int x] h K) ∧ (ok (rs 2 r x h) (fun w h' => K (some (.int w)) h') → CP S M_X3_plain e 0 0 [.ref r, .int x] h K) ∧ (ok (rs 3 r x h) (fun w h' => K (some (.int w)) h') → CP S M_X3_sum e 0 0 [.ref r, .int x] h K) ∧ (ok (rs 4 r x h) (fun w h' => K (some (.int w)) h') → CP S M_X3_sumInBrackets e 0 0 [.ref r, .int x] h K) ∧ (ok (rs 5 r x h) (fun w h' => K (some (.int w)) h') → CP S M_X3_part e 0 0 [.ref r, .int x] h K)) {K : (Int32 ⊕ Unit) → AH → Prop} (hret : ∀ (w : Int32) (h' : AH), K (.inl w) h' → Q (some (.int w)) h') (hex : ∀  (h' : AH), K (.inr ()) h' → WP S M_X3_sum d cb sb Q 115 [JK, JK, JK, JK, JK, JK] [] h') {rc : Nat → Int32 → Int32 → Int32 → Int32 → AH → Option ((Int32 ⊕ Unit) × AH)} (hrec : ∀ (r0 : Nat) (x1 : Int32) (x2 : Int32) (x3 : Int32) (x4 : Int32) (h' : AH), ok (rc r0 x1 x2 x3 x4 h') K → WP S M_X3_sum d cb sb Q 7 [.ref r0, .int x1, .int x2, .int x3, .int x4, JK] [] h') {r0 : Nat} {x1 : Int32} {x2 : Int32} {x4 : Int32} {h : AH} (k : ok (f_X3_sum_l7_j36 S rs rc r0 x1 x2 x4 h) K) : WP S M_X3_sum d cb sb Q 36 [.ref r0, .int x1, .int x2, JK, .int x4, JK] [] h := by
  obtain ⟨d, rfl, he, hM⟩ := dp2 (L := 0) (N := N0) hd hN
  unfold f_X3_sum_l7_j36 at k
  refine wp_aload_n dX3_sum_36 rfl ?_
  replace k := ok_bind k
  obtain ⟨u, e_1, k⟩ := k
  refine wp_callV0 (N := M_X3_kind) (ci := 3) mf_X3_kind mi_X3_kind me_X3_kind ml_X3_48 dX3_sum_37 (ckO_e e_1) mv_X3_kind (by exact Nat.le_of_ble_eq_true rfl) (c_X3_kind (Nat.le_trans (by decide) he) (ok_mono (ok_bind2 k) fun z_3 h_2 k => ?_))
  try dsimp only at k
  refine wp_istore dX3_sum_40 (by decide) (L1 := [_, _, _, _, _, _]) rfl ?_
  refine wp_iload dX3_sum_42 rfl ?_
  refine wp_bipush dX3_sum_44 bp_42 ?_
  refine wp_icmp_eq 63 dX3_sum_46 (by decide) (fun c_4 => ?_) (fun c_4 => ?_)
  · replace k := ok_t c_4 k
    exact wp_wk (wkE <| wkE <| wkE <| wkJ <| wkE <| wkE <| wkN) (s_X3_sum_l7_j63 (Nat.succ_le_succ he) (Nat.succ_le_succ hM) hrs hret hex hrec k)
  · replace k := ok_f c_4 k
    refine wp_iload dX3_sum_49 rfl ?_
    refine wp_bipush dX3_sum_51 bp_47 ?_
    refine wp_icmp_eq 63 dX3_sum_53 (by decide) (fun c_5 => ?_) (fun c_5 => ?_)
    · replace k := ok_t c_5 k
      exact wp_wk (wkE <| wkE <| wkE <| wkJ <| wkE <| wkE <| wkN) (s_X3_sum_l7_j63 (Nat.succ_le_succ he) (Nat.succ_le_succ hM) hrs hret hex hrec k)
    · replace k := ok_f c_5 k
      refine wp_iload dX3_sum_56 rfl ?_
      refine wp_bipush dX3_sum_58 bp_37 ?_
      refine wp_icmp_ne 68 dX3_sum_60 (by decide) (fun c_6 => ?_) (fun c_6 => ?_)
      · replace k := ok_f c_6 k
        refine wp_iconst dX3_sum_68 ic_m1 ?_
        exact wp_wk (wkE <| wkE <| wkE <| wkJ <| wkE <| wkE <| wkN) (s_X3_sum_l7_j69 (Nat.succ_le_succ he) (Nat.succ_le_succ hM) hrs hret hex hrec k)
      · replace k := ok_t c_6 k
        exact wp_wk (wkE <| wkE <| wkE <| wkJ <| wkE <| wkE <| wkN) (s_X3_sum_l7_j63 (Nat.succ_le_succ he) (Nat.succ_le_succ hM) hrs hret hex hrec k)
def f_X3_sum_l7b (S : SH) (rs : Nat → Nat → Int32 → AH → Option (Int32 × AH)) (rc : Nat → Int32 → Int32 → Int32 → Int32 → AH → Option ((Int32 ⊕ Unit) × AH)) (r0 : Nat) (x1 : Int32) (x2 : Int32) (x3 : Int32) (x4 : Int32) (h : AH) : Option ((Int32 ⊕ Unit) × AH) :=
  if (400 : Int32) ≤ x4 then
    some (.inr (), h)
  else
    (ckO S h r0 3).bind fun _ =>
    (rs 5 r0 x1 h).bind fun z => match z with
    | (z_4, h_3) =>
    if z_4 = (0 : Int32) then
      some (.inl (0 : Int32), h_3)
    else
      if x3 = (-1 : Int32) then
        f_X3_sum_l7_j36 S rs rc r0 x1 x2 x4 h_3
      else
        (ckO S h_3 r0 3).bind fun _ =>
        (f_X3_emit S r0 x3 (0 : Int32) h_3).bind fun z => match z with
        | (_, h_8) =>
        f_X3_sum_l7_j36 S rs rc r0 x1 x2 x4 h_8
set_option maxHeartbeats 8000000 in
set_option maxRecDepth 20000 in
theorem s_X3_sum_l7b {S : SH} {d cb sb : Nat} {Q : Option Value → AH → Prop} (hd : 1 ≤ d) {N0 : Nat} (hN : N0 + 1 ≤ d) {rs : Nat → Nat → Int32 → AH → Option (Int32 × AH)} (hrs : ∀ (e : Nat), N0 ≤ e → ∀ (r : Nat) (x : Int32) (h : AH) (K : Option Value → AH → Prop), (ok (rs 0 r x h) (fun w h' => K (some (.int w)) h') → CP S M_X3_test e 0 0 [.ref r, .int x] h K) ∧ (ok (rs 1 r x h) (fun w h' => K (some (.int w)) h') → CP S M_X3_testInBrackets e 0 0 [.ref r, .int x] h K) ∧ (ok (rs 2 r x h) (fun w h' => K (some (.int w)) h') → CP S M_X3_plain e 0 0 [.ref r, .int x] h K) ∧ (ok (rs 3 r x h) (fun w h' => K (some (.int w)) h') → CP S M_X3_sum e 0 0 [.ref r, .int x] h K) ∧ (ok (rs 4 r x h) (fun w h' => K (some (.int w)) h') → CP S M_X3_sumInBrackets e 0 0 [.ref r, .int x] h K) ∧ (ok (rs 5 r x h) (fun w h' => K (some (.int w)) h') → CP S M_X3_part e 0 0 [.ref r, .int x] h K)) {K : (Int32 ⊕ Unit) → AH → Prop} (hret : ∀ (w : Int32) (h' : AH), K (.inl w) h' → Q (some (.int w)) h') (hex : ∀  (h' : AH), K (.inr ()) h' → WP S M_X3_sum d cb sb Q 115 [JK, JK, JK, JK, JK, JK] [] h') {rc : Nat → Int32 → Int32 → Int32 → Int32 → AH → Option ((Int32 ⊕ Unit) × AH)} (hrec : ∀ (r0 : Nat) (x1 : Int32) (x2 : Int32) (x3 : Int32) (x4 : Int32) (h' : AH), ok (rc r0 x1 x2 x3 x4 h') K → WP S M_X3_sum d cb sb Q 7 [.ref r0, .int x1, .int x2, .int x3, .int x4, JK] [] h') {r0 : Nat} {x1 : Int32} {x2 : Int32} {x3 : Int32} {x4 : Int32} {h : AH} (k : ok (f_X3_sum_l7b S rs rc r0 x1 x2 x3 x4 h) K) : WP S M_X3_sum d cb sb Q 7 [.ref r0, .int x1, .int x2, .int x3, .int x4, JK] [] h := by
  obtain ⟨d, rfl, he, hM⟩ := dp2 (L := 0) (N := N0) hd hN
  unfold f_X3_sum_l7b at k
  refine wp_iload dX3_sum_7 rfl ?_
  refine wp_sipush dX3_sum_9 sp_400 ?_
  refine wp_icmp_ge 115 dX3_sum_12 (by decide) (fun c_1 => ?_) (fun c_1 => ?_)
  · replace k := ok_t c_1 k
    exact wp_wk (wkJ <| wkJ <| wkJ <| wkJ <| wkJ <| wkJ <| wkN) (hex  _ (ok_some k))
  · replace k := ok_f c_1 k
    refine wp_aload_n dX3_sum_15 rfl ?_
    refine wp_iload_n dX3_sum_16 rfl ?_
    replace k := ok_bind k
    obtain ⟨u, e_2, k⟩ := k
    refine wp_callV1 (N := M_X3_part) (ci := 3) mf_X3_part mi_X3_part me_X3_part ml_X3_114 dX3_sum_17 (ckO_e e_2) mv_X3_part (by exact Nat.le_of_ble_eq_true rfl) ((hrs d (by omega) _ _ _ _).2.2.2.2.2 (ok_mono (ok_bind2 k) fun z_4 h_3 k => ?_))
    try dsimp only at k
    refine wp_if_ne 25 dX3_sum_20 (by decide) (fun c_5 => ?_) (fun c_5 => ?_)
    · replace k := ok_f c_5 k
      refine wp_iload_n dX3_sum_25 rfl ?_
      refine wp_iconst dX3_sum_26 ic_m1 ?_
      refine wp_icmp_eq 36 dX3_sum_27 (by decide) (fun c_6 => ?_) (fun c_6 => ?_)
      · replace k := ok_t c_6 k
        exact wp_wk (wkE <| wkE <| wkE <| wkJ <| wkE <| wkJ <| wkN) (s_X3_sum_l7_j36 (Nat.succ_le_succ he) (Nat.succ_le_succ hM) hrs hret hex hrec k)
      · replace k := ok_f c_6 k
        refine wp_aload_n dX3_sum_30 rfl ?_
        refine wp_iload_n dX3_sum_31 rfl ?_
        refine wp_iconst dX3_sum_32 ic_0 ?_
        replace k := ok_bind k
        obtain ⟨u, e_7, k⟩ := k
        refine wp_callV2 (N := M_X3_emit) (ci := 3) mf_X3_emit mi_X3_emit me_X3_emit ml_X3_108 dX3_sum_33 (ckO_e e_7) mv_X3_emit (by exact Nat.le_of_ble_eq_true rfl) (c_X3_emit (Nat.le_trans (by decide) he) (ok_mono (ok_bind2 k) fun _ h_8 k => ?_))
        try dsimp only at k
        exact wp_wk (wkE <| wkE <| wkE <| wkJ <| wkE <| wkJ <| wkN) (s_X3_sum_l7_j36 (Nat.succ_le_succ he) (Nat.succ_le_succ hM) hrs hret hex hrec k)
    · replace k := ok_t c_5 k
      refine wp_iconst dX3_sum_23 ic_0 ?_
      refine wp_iret rfl rfl dX3_sum_24 ?_
      exact hret _ _ (ok_some k)
def f_X3_sum_l7 (S : SH) (rs : Nat → Nat → Int32 → AH → Option (Int32 × AH)) : Nat → Nat → Int32 → Int32 → Int32 → Int32 → AH → Option ((Int32 ⊕ Unit) × AH)
  | 0, _, _, _, _, _, _ => none
  | n + 1, r0, x1, x2, x3, x4, h => f_X3_sum_l7b S rs (f_X3_sum_l7 S rs n) r0 x1 x2 x3 x4 h
theorem s_X3_sum_l7 {S : SH} {d cb sb : Nat} {Q : Option Value → AH → Prop} (hd : 1 ≤ d) {N0 : Nat} (hN : N0 + 1 ≤ d) {rs : Nat → Nat → Int32 → AH → Option (Int32 × AH)} (hrs : ∀ (e : Nat), N0 ≤ e → ∀ (r : Nat) (x : Int32) (h : AH) (K : Option Value → AH → Prop), (ok (rs 0 r x h) (fun w h' => K (some (.int w)) h') → CP S M_X3_test e 0 0 [.ref r, .int x] h K) ∧ (ok (rs 1 r x h) (fun w h' => K (some (.int w)) h') → CP S M_X3_testInBrackets e 0 0 [.ref r, .int x] h K) ∧ (ok (rs 2 r x h) (fun w h' => K (some (.int w)) h') → CP S M_X3_plain e 0 0 [.ref r, .int x] h K) ∧ (ok (rs 3 r x h) (fun w h' => K (some (.int w)) h') → CP S M_X3_sum e 0 0 [.ref r, .int x] h K) ∧ (ok (rs 4 r x h) (fun w h' => K (some (.int w)) h') → CP S M_X3_sumInBrackets e 0 0 [.ref r, .int x] h K) ∧ (ok (rs 5 r x h) (fun w h' => K (some (.int w)) h') → CP S M_X3_part e 0 0 [.ref r, .int x] h K)) {K : (Int32 ⊕ Unit) → AH → Prop} (hret : ∀ (w : Int32) (h' : AH), K (.inl w) h' → Q (some (.int w)) h') (hex : ∀  (h' : AH), K (.inr ()) h' → WP S M_X3_sum d cb sb Q 115 [JK, JK, JK, JK, JK, JK] [] h') : ∀ (n : Nat) (r0 : Nat) (x1 : Int32) (x2 : Int32) (x3 : Int32) (x4 : Int32) (h : AH), ok (f_X3_sum_l7 S rs n r0 x1 x2 x3 x4 h) K → WP S M_X3_sum d cb sb Q 7 [.ref r0, .int x1, .int x2, .int x3, .int x4, JK] [] h := by
  intro n
  induction n with
  | zero => intro r0 x1 x2 x3 x4 h k; exact ok_none k
  | succ n ih => intro r0 x1 x2 x3 x4 h k; exact s_X3_sum_l7b hd hN hrs hret hex (fun r0 x1 x2 x3 x4 h k => ih r0 x1 x2 x3 x4 h k) k
def f_X3_sum (S : SH) (rs : Nat → Nat → Int32 → AH → Option (Int32 × AH)) (r0 : Nat) (x1 : Int32) (h : AH) : Option (Int32 × AH) :=
  (f_X3_sum_l7 S rs FU r0 x1 (-1 : Int32) (-1 : Int32) (0 : Int32) h).bind fun z => match z with
  | (.inl w, h') => some (w, h')
  | (.inr (), h_1) =>
    some ((0 : Int32), h_1)
set_option maxHeartbeats 8000000 in
set_option maxRecDepth 20000 in
theorem s_X3_sum {S : SH} {d cb sb : Nat} {Q : Option Value → AH → Prop} (hd : 1 ≤ d) {N0 : Nat} (hN : N0 + 1 ≤ d) {rs : Nat → Nat → Int32 → AH → Option (Int32 × AH)} (hrs : ∀ (e : Nat), N0 ≤ e → ∀ (r : Nat) (x : Int32) (h : AH) (K : Option Value → AH → Prop), (ok (rs 0 r x h) (fun w h' => K (some (.int w)) h') → CP S M_X3_test e 0 0 [.ref r, .int x] h K) ∧ (ok (rs 1 r x h) (fun w h' => K (some (.int w)) h') → CP S M_X3_testInBrackets e 0 0 [.ref r, .int x] h K) ∧ (ok (rs 2 r x h) (fun w h' => K (some (.int w)) h') → CP S M_X3_plain e 0 0 [.ref r, .int x] h K) ∧ (ok (rs 3 r x h) (fun w h' => K (some (.int w)) h') → CP S M_X3_sum e 0 0 [.ref r, .int x] h K) ∧ (ok (rs 4 r x h) (fun w h' => K (some (.int w)) h') → CP S M_X3_sumInBrackets e 0 0 [.ref r, .int x] h K) ∧ (ok (rs 5 r x h) (fun w h' => K (some (.int w)) h') → CP S M_X3_part e 0 0 [.ref r, .int x] h K)) {r0 : Nat} {x1 : Int32} {h : AH} (k : ok (f_X3_sum S rs r0 x1 h) (fun w h' => Q (some (.int w)) h')) : WP S M_X3_sum d cb sb Q 0 [.ref r0, .int x1, JK, JK, JK, JK] [] h := by
  obtain ⟨d, rfl, he, hM⟩ := dp2 (L := 0) (N := N0) hd hN
  unfold f_X3_sum at k
  refine wp_iconst dX3_sum_0 ic_m1 ?_
  refine wp_istore_n dX3_sum_1 (by decide) (L1 := [_, _, _, _, _, _]) rfl ?_
  refine wp_iconst dX3_sum_2 ic_m1 ?_
  refine wp_istore_n dX3_sum_3 (by decide) (L1 := [_, _, _, _, _, _]) rfl ?_
  refine wp_iconst dX3_sum_4 ic_0 ?_
  refine wp_istore dX3_sum_5 (by decide) (L1 := [_, _, _, _, _, _]) rfl ?_
  refine wp_wk (wkE <| wkE <| wkE <| wkE <| wkE <| wkJ <| wkN) ?_
  refine s_X3_sum_l7 (Nat.succ_le_succ he) (Nat.succ_le_succ hM) hrs (fun w h' k => ?_) (fun  h_1 k => ?_) FU _ _ _ _ _ _ (ok_bind2 k)
  · try dsimp only at k
    exact (ok_some k :)
  · try dsimp only at k
    refine wp_iconst dX3_sum_115 ic_0 ?_
    refine wp_iret rfl rfl dX3_sum_116 ?_
    exact (ok_some k :)
theorem c_X3_sum_b {S : SH} {d : Nat} {K : Option Value → AH → Prop} (hd : 1 ≤ d) {N0 : Nat} (hN : N0 + 1 ≤ d) {rs : Nat → Nat → Int32 → AH → Option (Int32 × AH)} (hrs : ∀ (e : Nat), N0 ≤ e → ∀ (r : Nat) (x : Int32) (h : AH) (K : Option Value → AH → Prop), (ok (rs 0 r x h) (fun w h' => K (some (.int w)) h') → CP S M_X3_test e 0 0 [.ref r, .int x] h K) ∧ (ok (rs 1 r x h) (fun w h' => K (some (.int w)) h') → CP S M_X3_testInBrackets e 0 0 [.ref r, .int x] h K) ∧ (ok (rs 2 r x h) (fun w h' => K (some (.int w)) h') → CP S M_X3_plain e 0 0 [.ref r, .int x] h K) ∧ (ok (rs 3 r x h) (fun w h' => K (some (.int w)) h') → CP S M_X3_sum e 0 0 [.ref r, .int x] h K) ∧ (ok (rs 4 r x h) (fun w h' => K (some (.int w)) h') → CP S M_X3_sumInBrackets e 0 0 [.ref r, .int x] h K) ∧ (ok (rs 5 r x h) (fun w h' => K (some (.int w)) h') → CP S M_X3_part e 0 0 [.ref r, .int x] h K)) {r0 : Nat} {x1 : Int32} {h : AH} (k : ok (f_X3_sum S rs r0 x1 h) (fun w h' => K (some (.int w)) h')) : CP S M_X3_sum d 0 0 [.ref r0, .int x1] h K := cp_of (by decide) (fun _ _ => trivial) (fun _ => Nat.le_of_ble_eq_true rfl) (s_X3_sum hd hN hrs k)
def f_X3_sumInBrackets (S : SH) (rs : Nat → Nat → Int32 → AH → Option (Int32 × AH)) (r0 : Nat) (x1 : Int32) (h : AH) : Option (Int32 × AH) :=
  if x1 < (8 : Int32) then
    (ckO S h r0 3).bind fun _ =>
    (f_X3_next S r0 h).bind fun z => match z with
    | (_, h_3) =>
    (ckO S h_3 r0 3).bind fun _ =>
    (rs 3 r0 ((x1 + (1 : Int32))) h_3).bind fun z => match z with
    | (z_7, h_6) =>
    if z_7 = (0 : Int32) then
      some ((0 : Int32), h_6)
    else
      (ckO S h_6 r0 3).bind fun _ =>
      (f_X3_kind S r0 h_6).bind fun z => match z with
      | (z_11, h_10) =>
      if z_11 = (93 : Int32) then
        (ckO S h_10 r0 3).bind fun _ =>
        (f_X3_next S r0 h_10).bind fun z => match z with
        | (_, h_14) =>
        some ((1 : Int32), h_14)
      else
        some ((0 : Int32), h_10)
  else
    some ((0 : Int32), h)
set_option maxHeartbeats 8000000 in
set_option maxRecDepth 20000 in
theorem s_X3_sumInBrackets {S : SH} {d cb sb : Nat} {Q : Option Value → AH → Prop} (hd : 1 ≤ d) {N0 : Nat} (hN : N0 + 1 ≤ d) {rs : Nat → Nat → Int32 → AH → Option (Int32 × AH)} (hrs : ∀ (e : Nat), N0 ≤ e → ∀ (r : Nat) (x : Int32) (h : AH) (K : Option Value → AH → Prop), (ok (rs 0 r x h) (fun w h' => K (some (.int w)) h') → CP S M_X3_test e 0 0 [.ref r, .int x] h K) ∧ (ok (rs 1 r x h) (fun w h' => K (some (.int w)) h') → CP S M_X3_testInBrackets e 0 0 [.ref r, .int x] h K) ∧ (ok (rs 2 r x h) (fun w h' => K (some (.int w)) h') → CP S M_X3_plain e 0 0 [.ref r, .int x] h K) ∧ (ok (rs 3 r x h) (fun w h' => K (some (.int w)) h') → CP S M_X3_sum e 0 0 [.ref r, .int x] h K) ∧ (ok (rs 4 r x h) (fun w h' => K (some (.int w)) h') → CP S M_X3_sumInBrackets e 0 0 [.ref r, .int x] h K) ∧ (ok (rs 5 r x h) (fun w h' => K (some (.int w)) h') → CP S M_X3_part e 0 0 [.ref r, .int x] h K)) {r0 : Nat} {x1 : Int32} {h : AH} (k : ok (f_X3_sumInBrackets S rs r0 x1 h) (fun w h' => Q (some (.int w)) h')) : WP S M_X3_sumInBrackets d cb sb Q 0 [.ref r0, .int x1] [] h := by
  obtain ⟨d, rfl, he, hM⟩ := dp2 (L := 0) (N := N0) hd hN
  unfold f_X3_sumInBrackets at k
  refine wp_iload_n dX3_sumInBrackets_0 rfl ?_
  refine wp_bipush dX3_sumInBrackets_1 bp_8 ?_
  refine wp_icmp_lt 8 dX3_sumInBrackets_3 (by decide) (fun c_1 => ?_) (fun c_1 => ?_)
  · replace k := ok_t c_1 k
    refine wp_aload_n dX3_sumInBrackets_8 rfl ?_
    replace k := ok_bind k
    obtain ⟨u, e_2, k⟩ := k
    refine wp_callV0 (N := M_X3_next) (ci := 3) mf_X3_next mi_X3_next me_X3_next ml_X3_62 dX3_sumInBrackets_9 (ckO_e e_2) mv_X3_next (by exact Nat.le_of_ble_eq_true rfl) (c_X3_next (Nat.le_trans (by decide) he) (ok_mono (ok_bind2 k) fun _ h_3 k => ?_))
    try dsimp only at k
    refine wp_aload_n dX3_sumInBrackets_12 rfl ?_
    refine wp_iload_n dX3_sumInBrackets_13 rfl ?_
    refine wp_iconst dX3_sumInBrackets_14 ic_1 ?_
    refine wp_iadd dX3_sumInBrackets_15 ?_
    replace k := ok_bind k
    obtain ⟨u, e_5, k⟩ := k
    refine wp_callV1 (N := M_X3_sum) (ci := 3) mf_X3_sum mi_X3_sum me_X3_sum ml_X3_88 dX3_sumInBrackets_16 (ckO_e e_5) mv_X3_sum (by exact Nat.le_of_ble_eq_true rfl) ((hrs d (by omega) _ _ _ _).2.2.2.1 (ok_mono (ok_bind2 k) fun z_7 h_6 k => ?_))
    try dsimp only at k
    refine wp_if_eq 31 dX3_sumInBrackets_19 (by decide) (fun c_8 => ?_) (fun c_8 => ?_)
    · replace k := ok_t c_8 k
      refine wp_iconst dX3_sumInBrackets_31 ic_0 ?_
      refine wp_iret rfl rfl dX3_sumInBrackets_32 ?_
      exact (ok_some k :)
    · replace k := ok_f c_8 k
      refine wp_aload_n dX3_sumInBrackets_22 rfl ?_
      replace k := ok_bind k
      obtain ⟨u, e_9, k⟩ := k
      refine wp_callV0 (N := M_X3_kind) (ci := 3) mf_X3_kind mi_X3_kind me_X3_kind ml_X3_48 dX3_sumInBrackets_23 (ckO_e e_9) mv_X3_kind (by exact Nat.le_of_ble_eq_true rfl) (c_X3_kind (Nat.le_trans (by decide) he) (ok_mono (ok_bind2 k) fun z_11 h_10 k => ?_))
      try dsimp only at k
      refine wp_bipush dX3_sumInBrackets_26 bp_93 ?_
      refine wp_icmp_eq 33 dX3_sumInBrackets_28 (by decide) (fun c_12 => ?_) (fun c_12 => ?_)
      · replace k := ok_t c_12 k
        refine wp_aload_n dX3_sumInBrackets_33 rfl ?_
        replace k := ok_bind k
        obtain ⟨u, e_13, k⟩ := k
        refine wp_callV0 (N := M_X3_next) (ci := 3) mf_X3_next mi_X3_next me_X3_next ml_X3_62 dX3_sumInBrackets_34 (ckO_e e_13) mv_X3_next (by exact Nat.le_of_ble_eq_true rfl) (c_X3_next (Nat.le_trans (by decide) he) (ok_mono (ok_bind2 k) fun _ h_14 k => ?_))
        try dsimp only at k
        refine wp_iconst dX3_sumInBrackets_37 ic_1 ?_
        refine wp_iret rfl rfl dX3_sumInBrackets_38 ?_
        exact (ok_some k :)
      · replace k := ok_f c_12 k
        refine wp_iconst dX3_sumInBrackets_31 ic_0 ?_
        refine wp_iret rfl rfl dX3_sumInBrackets_32 ?_
        exact (ok_some k :)
  · replace k := ok_f c_1 k
    refine wp_iconst dX3_sumInBrackets_6 ic_0 ?_
    refine wp_iret rfl rfl dX3_sumInBrackets_7 ?_
    exact (ok_some k :)
theorem c_X3_sumInBrackets_b {S : SH} {d : Nat} {K : Option Value → AH → Prop} (hd : 1 ≤ d) {N0 : Nat} (hN : N0 + 1 ≤ d) {rs : Nat → Nat → Int32 → AH → Option (Int32 × AH)} (hrs : ∀ (e : Nat), N0 ≤ e → ∀ (r : Nat) (x : Int32) (h : AH) (K : Option Value → AH → Prop), (ok (rs 0 r x h) (fun w h' => K (some (.int w)) h') → CP S M_X3_test e 0 0 [.ref r, .int x] h K) ∧ (ok (rs 1 r x h) (fun w h' => K (some (.int w)) h') → CP S M_X3_testInBrackets e 0 0 [.ref r, .int x] h K) ∧ (ok (rs 2 r x h) (fun w h' => K (some (.int w)) h') → CP S M_X3_plain e 0 0 [.ref r, .int x] h K) ∧ (ok (rs 3 r x h) (fun w h' => K (some (.int w)) h') → CP S M_X3_sum e 0 0 [.ref r, .int x] h K) ∧ (ok (rs 4 r x h) (fun w h' => K (some (.int w)) h') → CP S M_X3_sumInBrackets e 0 0 [.ref r, .int x] h K) ∧ (ok (rs 5 r x h) (fun w h' => K (some (.int w)) h') → CP S M_X3_part e 0 0 [.ref r, .int x] h K)) {r0 : Nat} {x1 : Int32} {h : AH} (k : ok (f_X3_sumInBrackets S rs r0 x1 h) (fun w h' => K (some (.int w)) h')) : CP S M_X3_sumInBrackets d 0 0 [.ref r0, .int x1] h K := cp_of (by decide) (fun _ _ => trivial) (fun _ => Nat.le_of_ble_eq_true rfl) (s_X3_sumInBrackets hd hN hrs k)
def f_X3_part (S : SH) (rs : Nat → Nat → Int32 → AH → Option (Int32 × AH)) (r0 : Nat) (x1 : Int32) (h : AH) : Option (Int32 × AH) :=
  (ckO S h r0 3).bind fun _ =>
  (f_X3_kind S r0 h).bind fun z => match z with
  | (z_3, h_2) =>
  if z_3 = (91 : Int32) then
    (ckO S h_2 r0 3).bind fun _ =>
    (rs 4 r0 x1 h_2).bind fun z => match z with
    | (z_38, h_37) =>
    (isZ z_38).bind fun _ =>
    some (z_38, h_37)
  else
    (gI S h_2 r0 3 4).bind fun v_5 =>
    if v_5 < (50 : Int32) then
      (gI S h_2 r0 3 4).bind fun v_8 =>
      (pI S h_2 r0 3 4 (v_8 + (1 : Int32))).bind fun h_10 =>
      (ckO S h_10 r0 3).bind fun _ =>
      (f_X3_isNumber S r0 (0 : Int32) (1000 : Int32) h_10).bind fun z => match z with
      | (z_14, h_13) =>
      if z_14 = (0 : Int32) then
        (gI S h_13 r0 3 2).bind fun v_16 =>
        if v_16 = (0 : Int32) then
          (ckO S h_13 r0 3).bind fun _ =>
          (f_X3_orderWord S r0 h_13).bind fun z => match z with
          | (z_21, h_20) =>
          (isZ z_21).bind fun _ =>
          some (z_21, h_20)
        else
          (ckO S h_13 r0 3).bind fun _ =>
          (f_X3_lawWord S r0 h_13).bind fun z => match z with
          | (z_25, h_24) =>
          (isZ z_25).bind fun _ =>
          some (z_25, h_24)
      else
        (ckO S h_13 r0 3).bind fun _ =>
        (f_X3_number S r0 h_13).bind fun z => match z with
        | (z_29, h_28) =>
        (ckO S h_28 r0 3).bind fun _ =>
        (f_X3_emit S r0 (284 : Int32) z_29 h_28).bind fun z => match z with
        | (_, h_31) =>
        (ckO S h_31 r0 3).bind fun _ =>
        (f_X3_next S r0 h_31).bind fun z => match z with
        | (_, h_34) =>
        some ((1 : Int32), h_34)
    else
      some ((0 : Int32), h_2)
set_option maxHeartbeats 8000000 in
set_option maxRecDepth 20000 in
theorem s_X3_part {S : SH} {d cb sb : Nat} {Q : Option Value → AH → Prop} (hd : 2 ≤ d) {N0 : Nat} (hN : N0 + 1 ≤ d) {rs : Nat → Nat → Int32 → AH → Option (Int32 × AH)} (hrs : ∀ (e : Nat), N0 ≤ e → ∀ (r : Nat) (x : Int32) (h : AH) (K : Option Value → AH → Prop), (ok (rs 0 r x h) (fun w h' => K (some (.int w)) h') → CP S M_X3_test e 0 0 [.ref r, .int x] h K) ∧ (ok (rs 1 r x h) (fun w h' => K (some (.int w)) h') → CP S M_X3_testInBrackets e 0 0 [.ref r, .int x] h K) ∧ (ok (rs 2 r x h) (fun w h' => K (some (.int w)) h') → CP S M_X3_plain e 0 0 [.ref r, .int x] h K) ∧ (ok (rs 3 r x h) (fun w h' => K (some (.int w)) h') → CP S M_X3_sum e 0 0 [.ref r, .int x] h K) ∧ (ok (rs 4 r x h) (fun w h' => K (some (.int w)) h') → CP S M_X3_sumInBrackets e 0 0 [.ref r, .int x] h K) ∧ (ok (rs 5 r x h) (fun w h' => K (some (.int w)) h') → CP S M_X3_part e 0 0 [.ref r, .int x] h K)) {r0 : Nat} {x1 : Int32} {h : AH} (k : ok (f_X3_part S rs r0 x1 h) (fun w h' => Q (some (.int w)) h')) : WP S M_X3_part d cb sb Q 0 [.ref r0, .int x1] [] h := by
  obtain ⟨d, rfl, he, hM⟩ := dp2 (L := 1) (N := N0) hd hN
  unfold f_X3_part at k
  refine wp_aload_n dX3_part_0 rfl ?_
  replace k := ok_bind k
  obtain ⟨u, e_1, k⟩ := k
  refine wp_callV0 (N := M_X3_kind) (ci := 3) mf_X3_kind mi_X3_kind me_X3_kind ml_X3_48 dX3_part_1 (ckO_e e_1) mv_X3_kind (by exact Nat.le_of_ble_eq_true rfl) (c_X3_kind (Nat.le_trans (by decide) he) (ok_mono (ok_bind2 k) fun z_3 h_2 k => ?_))
  try dsimp only at k
  refine wp_bipush dX3_part_4 bp_91 ?_
  refine wp_icmp_ne 15 dX3_part_6 (by decide) (fun c_4 => ?_) (fun c_4 => ?_)
  · replace k := ok_f c_4 k
    refine wp_aload_n dX3_part_15 rfl ?_
    replace k := ok_bind k
    obtain ⟨v_5, e_6, k⟩ := k
    refine wq_getI fl_X3_39 (Or.inl rfl) dX3_part_16 e_6 ?_
    refine wp_bipush dX3_part_19 bp_50 ?_
    refine wp_icmp_lt 26 dX3_part_21 (by decide) (fun c_7 => ?_) (fun c_7 => ?_)
    · replace k := ok_t c_7 k
      refine wp_aload_n dX3_part_26 rfl ?_
      refine wp_dupR dX3_part_27 ?_
      replace k := ok_bind k
      obtain ⟨v_8, e_9, k⟩ := k
      refine wq_getI fl_X3_39 (Or.inl rfl) dX3_part_28 e_9 ?_
      refine wp_iconst dX3_part_31 ic_1 ?_
      refine wp_iadd dX3_part_32 ?_
      replace k := ok_bind k
      obtain ⟨h_10, e_11, k⟩ := k
      refine wq_putI fl_X3_39 rfl rfl dX3_part_33 e_11 ?_
      refine wp_aload_n dX3_part_36 rfl ?_
      refine wp_iconst dX3_part_37 ic_0 ?_
      refine wp_sipush dX3_part_38 sp_1000 ?_
      replace k := ok_bind k
      obtain ⟨u, e_12, k⟩ := k
      refine wp_callV2 (N := M_X3_isNumber) (ci := 3) mf_X3_isNumber mi_X3_isNumber me_X3_isNumber ml_X3_94 dX3_part_41 (ckO_e e_12) mv_X3_isNumber (by exact Nat.le_of_ble_eq_true rfl) (c_X3_isNumber (Nat.le_trans (by decide) he) (ok_mono (ok_bind2 k) fun z_14 h_13 k => ?_))
      try dsimp only at k
      refine wp_if_eq 64 dX3_part_44 (by decide) (fun c_15 => ?_) (fun c_15 => ?_)
      · replace k := ok_t c_15 k
        refine wp_aload_n dX3_part_64 rfl ?_
        replace k := ok_bind k
        obtain ⟨v_16, e_17, k⟩ := k
        refine wq_getI fl_X3_31 (Or.inr rfl) dX3_part_65 e_17 ?_
        refine wp_if_eq 78 dX3_part_68 (by decide) (fun c_18 => ?_) (fun c_18 => ?_)
        · replace k := ok_t c_18 k
          refine wp_aload_n dX3_part_78 rfl ?_
          replace k := ok_bind k
          obtain ⟨u, e_19, k⟩ := k
          refine wp_callV0 (N := M_X3_orderWord) (ci := 3) mf_X3_orderWord mi_X3_orderWord me_X3_orderWord ml_X3_123 dX3_part_79 (ckO_e e_19) mv_X3_orderWord (by exact Nat.le_of_ble_eq_true rfl) (c_X3_orderWord (Nat.le_trans (by decide) he) (ok_mono (ok_bind2 k) fun z_21 h_20 k => ?_))
          try dsimp only at k
          replace k := ok_bind k
          obtain ⟨u, e_22, k⟩ := k
          refine wp_iret rfl (isZ_n e_22) dX3_part_82 ?_
          exact (ok_some k :)
        · replace k := ok_f c_18 k
          refine wp_aload_n dX3_part_71 rfl ?_
          replace k := ok_bind k
          obtain ⟨u, e_23, k⟩ := k
          refine wp_callV0 (N := M_X3_lawWord) (ci := 3) mf_X3_lawWord mi_X3_lawWord me_X3_lawWord ml_X3_120 dX3_part_72 (ckO_e e_23) mv_X3_lawWord (by exact Nat.le_of_ble_eq_true rfl) (c_X3_lawWord (Nat.le_trans (by decide) he) (ok_mono (ok_bind2 k) fun z_25 h_24 k => ?_))
          try dsimp only at k
          refine wp_goto 82 dX3_part_75 (by decide) ?_
          replace k := ok_bind k
          obtain ⟨u, e_26, k⟩ := k
          refine wp_iret rfl (isZ_n e_26) dX3_part_82 ?_
          exact (ok_some k :)
      · replace k := ok_f c_15 k
        refine wp_aload_n dX3_part_47 rfl ?_
        refine wp_sipush dX3_part_48 sp_284 ?_
        refine wp_aload_n dX3_part_51 rfl ?_
        replace k := ok_bind k
        obtain ⟨u, e_27, k⟩ := k
        refine wp_callV0 (N := M_X3_number) (ci := 3) mf_X3_number mi_X3_number me_X3_number ml_X3_98 dX3_part_52 (ckO_e e_27) mv_X3_number (by exact Nat.le_of_ble_eq_true rfl) (c_X3_number (Nat.le_trans (by decide) he) (ok_mono (ok_bind2 k) fun z_29 h_28 k => ?_))
        try dsimp only at k
        replace k := ok_bind k
        obtain ⟨u, e_30, k⟩ := k
        refine wp_callV2 (N := M_X3_emit) (ci := 3) mf_X3_emit mi_X3_emit me_X3_emit ml_X3_108 dX3_part_55 (ckO_e e_30) mv_X3_emit (by exact Nat.le_of_ble_eq_true rfl) (c_X3_emit (Nat.le_trans (by decide) he) (ok_mono (ok_bind2 k) fun _ h_31 k => ?_))
        try dsimp only at k
        refine wp_aload_n dX3_part_58 rfl ?_
        replace k := ok_bind k
        obtain ⟨u, e_33, k⟩ := k
        refine wp_callV0 (N := M_X3_next) (ci := 3) mf_X3_next mi_X3_next me_X3_next ml_X3_62 dX3_part_59 (ckO_e e_33) mv_X3_next (by exact Nat.le_of_ble_eq_true rfl) (c_X3_next (Nat.le_trans (by decide) he) (ok_mono (ok_bind2 k) fun _ h_34 k => ?_))
        try dsimp only at k
        refine wp_iconst dX3_part_62 ic_1 ?_
        refine wp_iret rfl rfl dX3_part_63 ?_
        exact (ok_some k :)
    · replace k := ok_f c_7 k
      refine wp_iconst dX3_part_24 ic_0 ?_
      refine wp_iret rfl rfl dX3_part_25 ?_
      exact (ok_some k :)
  · replace k := ok_t c_4 k
    refine wp_aload_n dX3_part_9 rfl ?_
    refine wp_iload_n dX3_part_10 rfl ?_
    replace k := ok_bind k
    obtain ⟨u, e_36, k⟩ := k
    refine wp_callV1 (N := M_X3_sumInBrackets) (ci := 3) mf_X3_sumInBrackets mi_X3_sumInBrackets me_X3_sumInBrackets ml_X3_117 dX3_part_11 (ckO_e e_36) mv_X3_sumInBrackets (by exact Nat.le_of_ble_eq_true rfl) ((hrs d (by omega) _ _ _ _).2.2.2.2.1 (ok_mono (ok_bind2 k) fun z_38 h_37 k => ?_))
    try dsimp only at k
    replace k := ok_bind k
    obtain ⟨u, e_39, k⟩ := k
    refine wp_iret rfl (isZ_n e_39) dX3_part_14 ?_
    exact (ok_some k :)
theorem c_X3_part_b {S : SH} {d : Nat} {K : Option Value → AH → Prop} (hd : 2 ≤ d) {N0 : Nat} (hN : N0 + 1 ≤ d) {rs : Nat → Nat → Int32 → AH → Option (Int32 × AH)} (hrs : ∀ (e : Nat), N0 ≤ e → ∀ (r : Nat) (x : Int32) (h : AH) (K : Option Value → AH → Prop), (ok (rs 0 r x h) (fun w h' => K (some (.int w)) h') → CP S M_X3_test e 0 0 [.ref r, .int x] h K) ∧ (ok (rs 1 r x h) (fun w h' => K (some (.int w)) h') → CP S M_X3_testInBrackets e 0 0 [.ref r, .int x] h K) ∧ (ok (rs 2 r x h) (fun w h' => K (some (.int w)) h') → CP S M_X3_plain e 0 0 [.ref r, .int x] h K) ∧ (ok (rs 3 r x h) (fun w h' => K (some (.int w)) h') → CP S M_X3_sum e 0 0 [.ref r, .int x] h K) ∧ (ok (rs 4 r x h) (fun w h' => K (some (.int w)) h') → CP S M_X3_sumInBrackets e 0 0 [.ref r, .int x] h K) ∧ (ok (rs 5 r x h) (fun w h' => K (some (.int w)) h') → CP S M_X3_part e 0 0 [.ref r, .int x] h K)) {r0 : Nat} {x1 : Int32} {h : AH} (k : ok (f_X3_part S rs r0 x1 h) (fun w h' => K (some (.int w)) h')) : CP S M_X3_part d 0 0 [.ref r0, .int x1] h K := cp_of (by decide) (fun _ _ => trivial) (fun _ => Nat.le_of_ble_eq_true rfl) (s_X3_part hd hN hrs k)
def f_P (S : SH) : Nat → Nat → Nat → Int32 → AH → Option (Int32 × AH)
  | 0, _, _, _, _ => none
  | n + 1, 0, r, x, h => f_X3_test S (f_P S n) r x h
  | n + 1, 1, r, x, h => f_X3_testInBrackets S (f_P S n) r x h
  | n + 1, 2, r, x, h => f_X3_plain S (f_P S n) r x h
  | n + 1, 3, r, x, h => f_X3_sum S (f_P S n) r x h
  | n + 1, 4, r, x, h => f_X3_sumInBrackets S (f_P S n) r x h
  | n + 1, _, r, x, h => f_X3_part S (f_P S n) r x h
theorem c_P_all {S : SH} : ∀ (n e : Nat), 2 + n ≤ e → ∀ (r : Nat) (x : Int32) (h : AH) (K : Option Value → AH → Prop), (ok (f_P S n 0 r x h) (fun w h' => K (some (.int w)) h') → CP S M_X3_test e 0 0 [.ref r, .int x] h K) ∧ (ok (f_P S n 1 r x h) (fun w h' => K (some (.int w)) h') → CP S M_X3_testInBrackets e 0 0 [.ref r, .int x] h K) ∧ (ok (f_P S n 2 r x h) (fun w h' => K (some (.int w)) h') → CP S M_X3_plain e 0 0 [.ref r, .int x] h K) ∧ (ok (f_P S n 3 r x h) (fun w h' => K (some (.int w)) h') → CP S M_X3_sum e 0 0 [.ref r, .int x] h K) ∧ (ok (f_P S n 4 r x h) (fun w h' => K (some (.int w)) h') → CP S M_X3_sumInBrackets e 0 0 [.ref r, .int x] h K) ∧ (ok (f_P S n 5 r x h) (fun w h' => K (some (.int w)) h') → CP S M_X3_part e 0 0 [.ref r, .int x] h K) := by
  intro n
  induction n with
  | zero => intro e he r x h K; exact ⟨fun k => ok_none k, fun k => ok_none k, fun k => ok_none k, fun k => ok_none k, fun k => ok_none k, fun k => ok_none k⟩
  | succ n ih =>
    intro e he r x h K
    exact ⟨fun k => c_X3_test_b (N0 := 2 + n) (by omega) (by omega) (fun e he r x h K => ih e he r x h K) k, fun k => c_X3_testInBrackets_b (N0 := 2 + n) (by omega) (by omega) (fun e he r x h K => ih e he r x h K) k, fun k => c_X3_plain_b (N0 := 2 + n) (by omega) (by omega) (fun e he r x h K => ih e he r x h K) k, fun k => c_X3_sum_b (N0 := 2 + n) (by omega) (by omega) (fun e he r x h K => ih e he r x h K) k, fun k => c_X3_sumInBrackets_b (N0 := 2 + n) (by omega) (by omega) (fun e he r x h K => ih e he r x h K) k, fun k => c_X3_part_b (N0 := 2 + n) (by omega) (by omega) (fun e he r x h K => ih e he r x h K) k⟩
theorem c_X3_test {S : SH} {d : Nat} {K : Option Value → AH → Prop} (hd : 82 ≤ d) {r : Nat} {x : Int32} {h : AH} (k : ok (f_P S 80 0 r x h) (fun w h' => K (some (.int w)) h')) : CP S M_X3_test d 0 0 [.ref r, .int x] h K := (c_P_all 80 d hd r x h K).1 k
theorem c_X3_testInBrackets {S : SH} {d : Nat} {K : Option Value → AH → Prop} (hd : 82 ≤ d) {r : Nat} {x : Int32} {h : AH} (k : ok (f_P S 80 1 r x h) (fun w h' => K (some (.int w)) h')) : CP S M_X3_testInBrackets d 0 0 [.ref r, .int x] h K := (c_P_all 80 d hd r x h K).2.1 k
theorem c_X3_plain {S : SH} {d : Nat} {K : Option Value → AH → Prop} (hd : 82 ≤ d) {r : Nat} {x : Int32} {h : AH} (k : ok (f_P S 80 2 r x h) (fun w h' => K (some (.int w)) h')) : CP S M_X3_plain d 0 0 [.ref r, .int x] h K := (c_P_all 80 d hd r x h K).2.2.1 k
theorem c_X3_sum {S : SH} {d : Nat} {K : Option Value → AH → Prop} (hd : 82 ≤ d) {r : Nat} {x : Int32} {h : AH} (k : ok (f_P S 80 3 r x h) (fun w h' => K (some (.int w)) h')) : CP S M_X3_sum d 0 0 [.ref r, .int x] h K := (c_P_all 80 d hd r x h K).2.2.2.1 k
theorem c_X3_sumInBrackets {S : SH} {d : Nat} {K : Option Value → AH → Prop} (hd : 82 ≤ d) {r : Nat} {x : Int32} {h : AH} (k : ok (f_P S 80 4 r x h) (fun w h' => K (some (.int w)) h')) : CP S M_X3_sumInBrackets d 0 0 [.ref r, .int x] h K := (c_P_all 80 d hd r x h K).2.2.2.2.1 k
theorem c_X3_part {S : SH} {d : Nat} {K : Option Value → AH → Prop} (hd : 82 ≤ d) {r : Nat} {x : Int32} {h : AH} (k : ok (f_P S 80 5 r x h) (fun w h' => K (some (.int w)) h')) : CP S M_X3_part d 0 0 [.ref r, .int x] h K := (c_P_all 80 d hd r x h K).2.2.2.2.2 k
def f_X3_lawClause (S : SH) (r0 : Nat) (h : AH) : Option (Int32 × AH) :=
  (ckO S h r0 3).bind fun _ =>
  (f_X3_kind S r0 h).bind fun z => match z with
  | (z_3, h_2) =>
  if z_3 < (263 : Int32) then
    some ((0 : Int32), h_2)
  else
    if z_3 ≤ (265 : Int32) then
      (ckO S h_2 r0 3).bind fun _ =>
      (f_X3_next S r0 h_2).bind fun z => match z with
      | (_, h_7) =>
      if z_3 = (265 : Int32) then
        (gR S h_7 r0 3 1).bind fun p_10 =>
        (gI S h_7 p_10 8 2).bind fun v_12 =>
        (ckO S h_7 r0 3).bind fun _ =>
        (f_X3_setHead S r0 (3 : Int32) v_12 h_7).bind fun z => match z with
        | (_, h_15) =>
        (gR S h_15 r0 3 1).bind fun p_17 =>
        (gI S h_15 p_17 8 2).bind fun v_19 =>
        (ckO S h_15 r0 3).bind fun _ =>
        (f_X3_setHead S r0 (4 : Int32) v_19 h_15).bind fun z => match z with
        | (_, h_22) =>
        some ((1 : Int32), h_22)
      else
        (ckO S h_7 r0 3).bind fun _ =>
        (f_P S 80 3 r0 (0 : Int32) h_7).bind fun z => match z with
        | (z_26, h_25) =>
        if z_26 = (0 : Int32) then
          some ((0 : Int32), h_25)
        else
          (gR S h_25 r0 3 1).bind fun p_28 =>
          (gI S h_25 p_28 8 2).bind fun v_30 =>
          (ckO S h_25 r0 3).bind fun _ =>
          (f_X3_setHead S r0 (3 : Int32) v_30 h_25).bind fun z => match z with
          | (_, h_33) =>
          (gR S h_33 r0 3 1).bind fun p_35 =>
          (gI S h_33 p_35 8 2).bind fun v_37 =>
          (ckO S h_33 r0 3).bind fun _ =>
          (f_X3_setHead S r0 (4 : Int32) v_37 h_33).bind fun z => match z with
          | (_, h_40) =>
          some ((1 : Int32), h_40)
    else
      some ((0 : Int32), h_2)
set_option maxHeartbeats 8000000 in
set_option maxRecDepth 20000 in
theorem s_X3_lawClause {S : SH} {d cb sb : Nat} {Q : Option Value → AH → Prop} (hd : 83 ≤ d)  {r0 : Nat} {h : AH} (k : ok (f_X3_lawClause S r0 h) (fun w h' => Q (some (.int w)) h')) : WP S M_X3_lawClause d cb sb Q 0 [.ref r0, JK] [] h := by
  obtain ⟨d, rfl, he⟩ := dp (L := 82) hd
  unfold f_X3_lawClause at k
  refine wp_aload_n dX3_lawClause_0 rfl ?_
  replace k := ok_bind k
  obtain ⟨u, e_1, k⟩ := k
  refine wp_callV0 (N := M_X3_kind) (ci := 3) mf_X3_kind mi_X3_kind me_X3_kind ml_X3_48 dX3_lawClause_1 (ckO_e e_1) mv_X3_kind (by exact Nat.le_of_ble_eq_true rfl) (c_X3_kind (Nat.le_trans (by decide) he) (ok_mono (ok_bind2 k) fun z_3 h_2 k => ?_))
  try dsimp only at k
  refine wp_istore_n dX3_lawClause_4 (by decide) (L1 := [_, _]) rfl ?_
  refine wp_iload_n dX3_lawClause_5 rfl ?_
  refine wp_sipush dX3_lawClause_6 sp_263 ?_
  refine wp_icmp_lt 19 dX3_lawClause_9 (by decide) (fun c_4 => ?_) (fun c_4 => ?_)
  · replace k := ok_t c_4 k
    refine wp_iconst dX3_lawClause_19 ic_0 ?_
    refine wp_iret rfl rfl dX3_lawClause_20 ?_
    exact (ok_some k :)
  · replace k := ok_f c_4 k
    refine wp_iload_n dX3_lawClause_12 rfl ?_
    refine wp_sipush dX3_lawClause_13 sp_265 ?_
    refine wp_icmp_le 21 dX3_lawClause_16 (by decide) (fun c_5 => ?_) (fun c_5 => ?_)
    · replace k := ok_t c_5 k
      refine wp_aload_n dX3_lawClause_21 rfl ?_
      replace k := ok_bind k
      obtain ⟨u, e_6, k⟩ := k
      refine wp_callV0 (N := M_X3_next) (ci := 3) mf_X3_next mi_X3_next me_X3_next ml_X3_62 dX3_lawClause_22 (ckO_e e_6) mv_X3_next (by exact Nat.le_of_ble_eq_true rfl) (c_X3_next (Nat.le_trans (by decide) he) (ok_mono (ok_bind2 k) fun _ h_7 k => ?_))
      try dsimp only at k
      refine wp_iload_n dX3_lawClause_25 rfl ?_
      refine wp_sipush dX3_lawClause_26 sp_265 ?_
      refine wp_icmp_eq 42 dX3_lawClause_29 (by decide) (fun c_9 => ?_) (fun c_9 => ?_)
      · replace k := ok_t c_9 k
        refine wp_aload_n dX3_lawClause_42 rfl ?_
        refine wp_iconst dX3_lawClause_43 ic_3 ?_
        refine wp_aload_n dX3_lawClause_44 rfl ?_
        replace k := ok_bind k
        obtain ⟨p_10, e_11, k⟩ := k
        refine wq_getR fl_X3_23 (Or.inl ⟨_, rfl⟩) dX3_lawClause_45 e_11 ?_
        replace k := ok_bind k
        obtain ⟨v_12, e_13, k⟩ := k
        refine wq_getI fl_X3_42 (Or.inl rfl) dX3_lawClause_48 e_13 ?_
        replace k := ok_bind k
        obtain ⟨u, e_14, k⟩ := k
        refine wp_callV2 (N := M_X3_setHead) (ci := 3) mf_X3_setHead mi_X3_setHead me_X3_setHead ml_X3_52 dX3_lawClause_51 (ckO_e e_14) mv_X3_setHead (by exact Nat.le_of_ble_eq_true rfl) (c_X3_setHead (Nat.le_trans (by decide) he) (ok_mono (ok_bind2 k) fun _ h_15 k => ?_))
        try dsimp only at k
        refine wp_aload_n dX3_lawClause_54 rfl ?_
        refine wp_iconst dX3_lawClause_55 ic_4 ?_
        refine wp_aload_n dX3_lawClause_56 rfl ?_
        replace k := ok_bind k
        obtain ⟨p_17, e_18, k⟩ := k
        refine wq_getR fl_X3_23 (Or.inl ⟨_, rfl⟩) dX3_lawClause_57 e_18 ?_
        replace k := ok_bind k
        obtain ⟨v_19, e_20, k⟩ := k
        refine wq_getI fl_X3_42 (Or.inl rfl) dX3_lawClause_60 e_20 ?_
        replace k := ok_bind k
        obtain ⟨u, e_21, k⟩ := k
        refine wp_callV2 (N := M_X3_setHead) (ci := 3) mf_X3_setHead mi_X3_setHead me_X3_setHead ml_X3_52 dX3_lawClause_63 (ckO_e e_21) mv_X3_setHead (by exact Nat.le_of_ble_eq_true rfl) (c_X3_setHead (Nat.le_trans (by decide) he) (ok_mono (ok_bind2 k) fun _ h_22 k => ?_))
        try dsimp only at k
        refine wp_iconst dX3_lawClause_66 ic_1 ?_
        refine wp_iret rfl rfl dX3_lawClause_67 ?_
        exact (ok_some k :)
      · replace k := ok_f c_9 k
        refine wp_aload_n dX3_lawClause_32 rfl ?_
        refine wp_iconst dX3_lawClause_33 ic_0 ?_
        replace k := ok_bind k
        obtain ⟨u, e_24, k⟩ := k
        refine wp_callV1 (N := M_X3_sum) (ci := 3) mf_X3_sum mi_X3_sum me_X3_sum ml_X3_88 dX3_lawClause_34 (ckO_e e_24) mv_X3_sum (by exact Nat.le_of_ble_eq_true rfl) (c_X3_sum (Nat.le_trans (by decide) he) (ok_mono (ok_bind2 k) fun z_26 h_25 k => ?_))
        try dsimp only at k
        refine wp_if_ne 42 dX3_lawClause_37 (by decide) (fun c_27 => ?_) (fun c_27 => ?_)
        · replace k := ok_f c_27 k
          refine wp_aload_n dX3_lawClause_42 rfl ?_
          refine wp_iconst dX3_lawClause_43 ic_3 ?_
          refine wp_aload_n dX3_lawClause_44 rfl ?_
          replace k := ok_bind k
          obtain ⟨p_28, e_29, k⟩ := k
          refine wq_getR fl_X3_23 (Or.inl ⟨_, rfl⟩) dX3_lawClause_45 e_29 ?_
          replace k := ok_bind k
          obtain ⟨v_30, e_31, k⟩ := k
          refine wq_getI fl_X3_42 (Or.inl rfl) dX3_lawClause_48 e_31 ?_
          replace k := ok_bind k
          obtain ⟨u, e_32, k⟩ := k
          refine wp_callV2 (N := M_X3_setHead) (ci := 3) mf_X3_setHead mi_X3_setHead me_X3_setHead ml_X3_52 dX3_lawClause_51 (ckO_e e_32) mv_X3_setHead (by exact Nat.le_of_ble_eq_true rfl) (c_X3_setHead (Nat.le_trans (by decide) he) (ok_mono (ok_bind2 k) fun _ h_33 k => ?_))
          try dsimp only at k
          refine wp_aload_n dX3_lawClause_54 rfl ?_
          refine wp_iconst dX3_lawClause_55 ic_4 ?_
          refine wp_aload_n dX3_lawClause_56 rfl ?_
          replace k := ok_bind k
          obtain ⟨p_35, e_36, k⟩ := k
          refine wq_getR fl_X3_23 (Or.inl ⟨_, rfl⟩) dX3_lawClause_57 e_36 ?_
          replace k := ok_bind k
          obtain ⟨v_37, e_38, k⟩ := k
          refine wq_getI fl_X3_42 (Or.inl rfl) dX3_lawClause_60 e_38 ?_
          replace k := ok_bind k
          obtain ⟨u, e_39, k⟩ := k
          refine wp_callV2 (N := M_X3_setHead) (ci := 3) mf_X3_setHead mi_X3_setHead me_X3_setHead ml_X3_52 dX3_lawClause_63 (ckO_e e_39) mv_X3_setHead (by exact Nat.le_of_ble_eq_true rfl) (c_X3_setHead (Nat.le_trans (by decide) he) (ok_mono (ok_bind2 k) fun _ h_40 k => ?_))
          try dsimp only at k
          refine wp_iconst dX3_lawClause_66 ic_1 ?_
          refine wp_iret rfl rfl dX3_lawClause_67 ?_
          exact (ok_some k :)
        · replace k := ok_t c_27 k
          refine wp_iconst dX3_lawClause_40 ic_0 ?_
          refine wp_iret rfl rfl dX3_lawClause_41 ?_
          exact (ok_some k :)
    · replace k := ok_f c_5 k
      refine wp_iconst dX3_lawClause_19 ic_0 ?_
      refine wp_iret rfl rfl dX3_lawClause_20 ?_
      exact (ok_some k :)
theorem c_X3_lawClause {S : SH} {d : Nat} {K : Option Value → AH → Prop} (hd : 83 ≤ d)  {r0 : Nat} {h : AH} (k : ok (f_X3_lawClause S r0 h) (fun w h' => K (some (.int w)) h')) : CP S M_X3_lawClause d 0 0 [.ref r0] h K := cp_of (by decide) (fun _ _ => trivial) (fun _ => Nat.le_of_ble_eq_true rfl) (s_X3_lawClause hd  k)
def f_X3_times (S : SH) (r0 : Nat) (h : AH) : Option (Int32 × AH) :=
  (ckO S h r0 3).bind fun _ =>
  (f_X3_kind S r0 h).bind fun z => match z with
  | (z_3, h_2) =>
  if z_3 = (260 : Int32) then
    (ckO S h_2 r0 3).bind fun _ =>
    (f_X3_next S r0 h_2).bind fun z => match z with
    | (_, h_6) =>
    (ckO S h_6 r0 3).bind fun _ =>
    (f_X3_isNumber S r0 (1 : Int32) (20 : Int32) h_6).bind fun z => match z with
    | (z_10, h_9) =>
    if z_10 = (0 : Int32) then
      some ((0 : Int32), h_9)
    else
      (ckO S h_9 r0 3).bind fun _ =>
      (f_X3_number S r0 h_9).bind fun z => match z with
      | (z_14, h_13) =>
      (ckO S h_13 r0 3).bind fun _ =>
      (f_X3_setHead S r0 (1 : Int32) z_14 h_13).bind fun z => match z with
      | (_, h_16) =>
      (ckO S h_16 r0 3).bind fun _ =>
      (f_X3_next S r0 h_16).bind fun z => match z with
      | (_, h_19) =>
      some ((1 : Int32), h_19)
  else
    some ((1 : Int32), h_2)
set_option maxHeartbeats 8000000 in
set_option maxRecDepth 20000 in
theorem s_X3_times {S : SH} {d cb sb : Nat} {Q : Option Value → AH → Prop} (hd : 2 ≤ d)  {r0 : Nat} {h : AH} (k : ok (f_X3_times S r0 h) (fun w h' => Q (some (.int w)) h')) : WP S M_X3_times d cb sb Q 0 [.ref r0] [] h := by
  obtain ⟨d, rfl, he⟩ := dp (L := 1) hd
  unfold f_X3_times at k
  refine wp_aload_n dX3_times_0 rfl ?_
  replace k := ok_bind k
  obtain ⟨u, e_1, k⟩ := k
  refine wp_callV0 (N := M_X3_kind) (ci := 3) mf_X3_kind mi_X3_kind me_X3_kind ml_X3_48 dX3_times_1 (ckO_e e_1) mv_X3_kind (by exact Nat.le_of_ble_eq_true rfl) (c_X3_kind (Nat.le_trans (by decide) he) (ok_mono (ok_bind2 k) fun z_3 h_2 k => ?_))
  try dsimp only at k
  refine wp_sipush dX3_times_4 sp_260 ?_
  refine wp_icmp_eq 12 dX3_times_7 (by decide) (fun c_4 => ?_) (fun c_4 => ?_)
  · replace k := ok_t c_4 k
    refine wp_aload_n dX3_times_12 rfl ?_
    replace k := ok_bind k
    obtain ⟨u, e_5, k⟩ := k
    refine wp_callV0 (N := M_X3_next) (ci := 3) mf_X3_next mi_X3_next me_X3_next ml_X3_62 dX3_times_13 (ckO_e e_5) mv_X3_next (by exact Nat.le_of_ble_eq_true rfl) (c_X3_next (Nat.le_trans (by decide) he) (ok_mono (ok_bind2 k) fun _ h_6 k => ?_))
    try dsimp only at k
    refine wp_aload_n dX3_times_16 rfl ?_
    refine wp_iconst dX3_times_17 ic_1 ?_
    refine wp_bipush dX3_times_18 bp_20 ?_
    replace k := ok_bind k
    obtain ⟨u, e_8, k⟩ := k
    refine wp_callV2 (N := M_X3_isNumber) (ci := 3) mf_X3_isNumber mi_X3_isNumber me_X3_isNumber ml_X3_94 dX3_times_20 (ckO_e e_8) mv_X3_isNumber (by exact Nat.le_of_ble_eq_true rfl) (c_X3_isNumber (Nat.le_trans (by decide) he) (ok_mono (ok_bind2 k) fun z_10 h_9 k => ?_))
    try dsimp only at k
    refine wp_if_ne 28 dX3_times_23 (by decide) (fun c_11 => ?_) (fun c_11 => ?_)
    · replace k := ok_f c_11 k
      refine wp_aload_n dX3_times_28 rfl ?_
      refine wp_iconst dX3_times_29 ic_1 ?_
      refine wp_aload_n dX3_times_30 rfl ?_
      replace k := ok_bind k
      obtain ⟨u, e_12, k⟩ := k
      refine wp_callV0 (N := M_X3_number) (ci := 3) mf_X3_number mi_X3_number me_X3_number ml_X3_98 dX3_times_31 (ckO_e e_12) mv_X3_number (by exact Nat.le_of_ble_eq_true rfl) (c_X3_number (Nat.le_trans (by decide) he) (ok_mono (ok_bind2 k) fun z_14 h_13 k => ?_))
      try dsimp only at k
      replace k := ok_bind k
      obtain ⟨u, e_15, k⟩ := k
      refine wp_callV2 (N := M_X3_setHead) (ci := 3) mf_X3_setHead mi_X3_setHead me_X3_setHead ml_X3_52 dX3_times_34 (ckO_e e_15) mv_X3_setHead (by exact Nat.le_of_ble_eq_true rfl) (c_X3_setHead (Nat.le_trans (by decide) he) (ok_mono (ok_bind2 k) fun _ h_16 k => ?_))
      try dsimp only at k
      refine wp_aload_n dX3_times_37 rfl ?_
      replace k := ok_bind k
      obtain ⟨u, e_18, k⟩ := k
      refine wp_callV0 (N := M_X3_next) (ci := 3) mf_X3_next mi_X3_next me_X3_next ml_X3_62 dX3_times_38 (ckO_e e_18) mv_X3_next (by exact Nat.le_of_ble_eq_true rfl) (c_X3_next (Nat.le_trans (by decide) he) (ok_mono (ok_bind2 k) fun _ h_19 k => ?_))
      try dsimp only at k
      refine wp_iconst dX3_times_41 ic_1 ?_
      refine wp_iret rfl rfl dX3_times_42 ?_
      exact (ok_some k :)
    · replace k := ok_t c_11 k
      refine wp_iconst dX3_times_26 ic_0 ?_
      refine wp_iret rfl rfl dX3_times_27 ?_
      exact (ok_some k :)
  · replace k := ok_f c_4 k
    refine wp_iconst dX3_times_10 ic_1 ?_
    refine wp_iret rfl rfl dX3_times_11 ?_
    exact (ok_some k :)
theorem c_X3_times {S : SH} {d : Nat} {K : Option Value → AH → Prop} (hd : 2 ≤ d)  {r0 : Nat} {h : AH} (k : ok (f_X3_times S r0 h) (fun w h' => K (some (.int w)) h')) : CP S M_X3_times d 0 0 [.ref r0] h K := cp_of (by decide) (fun _ _ => trivial) (fun _ => Nat.le_of_ble_eq_true rfl) (s_X3_times hd  k)
def f_X3_orderClause_j88 (S : SH) (r0 : Nat) (sx0 : Int32) (sx1 : Int32) (h : AH) : Option (Int32 × AH) :=
  if sx0 = sx1 then
    (ckO S h r0 3).bind fun _ =>
    (f_X3_next S r0 h).bind fun z => match z with
    | (_, h_3) =>
    (ckO S h_3 r0 3).bind fun _ =>
    (f_P S 80 3 r0 (0 : Int32) h_3).bind fun z => match z with
    | (z_7, h_6) =>
    if z_7 = (0 : Int32) then
      some ((0 : Int32), h_6)
    else
      (gR S h_6 r0 3 1).bind fun p_9 =>
      (gI S h_6 p_9 8 2).bind fun v_11 =>
      (ckO S h_6 r0 3).bind fun _ =>
      (f_X3_setHead S r0 (4 : Int32) v_11 h_6).bind fun z => match z with
      | (_, h_14) =>
      (ckO S h_14 r0 3).bind fun _ =>
      (f_X3_times S r0 h_14).bind fun z => match z with
      | (z_18, h_17) =>
      (isZ z_18).bind fun _ =>
      some (z_18, h_17)
  else
    some ((0 : Int32), h)
set_option maxHeartbeats 8000000 in
set_option maxRecDepth 20000 in
theorem s_X3_orderClause_j88 {S : SH} {d cb sb : Nat} {Q : Option Value → AH → Prop} (hd : 83 ≤ d)  {r0 : Nat} {sx0 : Int32} {sx1 : Int32} {h : AH} (k : ok (f_X3_orderClause_j88 S r0 sx0 sx1 h) (fun w h' => Q (some (.int w)) h')) : WP S M_X3_orderClause d cb sb Q 88 [.ref r0, JK] [.int sx1, .int sx0] h := by
  obtain ⟨d, rfl, he⟩ := dp (L := 82) hd
  unfold f_X3_orderClause_j88 at k
  refine wp_icmp_eq 93 dX3_orderClause_88 (by decide) (fun c_1 => ?_) (fun c_1 => ?_)
  · replace k := ok_t c_1 k
    refine wp_aload_n dX3_orderClause_93 rfl ?_
    replace k := ok_bind k
    obtain ⟨u, e_2, k⟩ := k
    refine wp_callV0 (N := M_X3_next) (ci := 3) mf_X3_next mi_X3_next me_X3_next ml_X3_62 dX3_orderClause_94 (ckO_e e_2) mv_X3_next (by exact Nat.le_of_ble_eq_true rfl) (c_X3_next (Nat.le_trans (by decide) he) (ok_mono (ok_bind2 k) fun _ h_3 k => ?_))
    try dsimp only at k
    refine wp_aload_n dX3_orderClause_97 rfl ?_
    refine wp_iconst dX3_orderClause_98 ic_0 ?_
    replace k := ok_bind k
    obtain ⟨u, e_5, k⟩ := k
    refine wp_callV1 (N := M_X3_sum) (ci := 3) mf_X3_sum mi_X3_sum me_X3_sum ml_X3_88 dX3_orderClause_99 (ckO_e e_5) mv_X3_sum (by exact Nat.le_of_ble_eq_true rfl) (c_X3_sum (Nat.le_trans (by decide) he) (ok_mono (ok_bind2 k) fun z_7 h_6 k => ?_))
    try dsimp only at k
    refine wp_if_ne 107 dX3_orderClause_102 (by decide) (fun c_8 => ?_) (fun c_8 => ?_)
    · replace k := ok_f c_8 k
      refine wp_aload_n dX3_orderClause_107 rfl ?_
      refine wp_iconst dX3_orderClause_108 ic_4 ?_
      refine wp_aload_n dX3_orderClause_109 rfl ?_
      replace k := ok_bind k
      obtain ⟨p_9, e_10, k⟩ := k
      refine wq_getR fl_X3_23 (Or.inl ⟨_, rfl⟩) dX3_orderClause_110 e_10 ?_
      replace k := ok_bind k
      obtain ⟨v_11, e_12, k⟩ := k
      refine wq_getI fl_X3_42 (Or.inl rfl) dX3_orderClause_113 e_12 ?_
      replace k := ok_bind k
      obtain ⟨u, e_13, k⟩ := k
      refine wp_callV2 (N := M_X3_setHead) (ci := 3) mf_X3_setHead mi_X3_setHead me_X3_setHead ml_X3_52 dX3_orderClause_116 (ckO_e e_13) mv_X3_setHead (by exact Nat.le_of_ble_eq_true rfl) (c_X3_setHead (Nat.le_trans (by decide) he) (ok_mono (ok_bind2 k) fun _ h_14 k => ?_))
      try dsimp only at k
      refine wp_aload_n dX3_orderClause_119 rfl ?_
      replace k := ok_bind k
      obtain ⟨u, e_16, k⟩ := k
      refine wp_callV0 (N := M_X3_times) (ci := 3) mf_X3_times mi_X3_times me_X3_times ml_X3_91 dX3_orderClause_120 (ckO_e e_16) mv_X3_times (by exact Nat.le_of_ble_eq_true rfl) (c_X3_times (Nat.le_trans (by decide) he) (ok_mono (ok_bind2 k) fun z_18 h_17 k => ?_))
      try dsimp only at k
      replace k := ok_bind k
      obtain ⟨u, e_19, k⟩ := k
      refine wp_iret rfl (isZ_n e_19) dX3_orderClause_123 ?_
      exact (ok_some k :)
    · replace k := ok_t c_8 k
      refine wp_iconst dX3_orderClause_105 ic_0 ?_
      refine wp_iret rfl rfl dX3_orderClause_106 ?_
      exact (ok_some k :)
  · replace k := ok_f c_1 k
    refine wp_iconst dX3_orderClause_91 ic_0 ?_
    refine wp_iret rfl rfl dX3_orderClause_92 ?_
    exact (ok_some k :)
def f_X3_orderClause_j68 (S : SH) (r0 : Nat) (x1 : Int32) (h : AH) : Option (Int32 × AH) :=
  (ckO S h r0 3).bind fun _ =>
  (f_X3_kind S r0 h).bind fun z => match z with
  | (z_3, h_2) =>
  if x1 = (266 : Int32) then
    f_X3_orderClause_j88 S r0 z_3 (261 : Int32) h_2
  else
    f_X3_orderClause_j88 S r0 z_3 (262 : Int32) h_2
set_option maxHeartbeats 8000000 in
set_option maxRecDepth 20000 in
theorem s_X3_orderClause_j68 {S : SH} {d cb sb : Nat} {Q : Option Value → AH → Prop} (hd : 83 ≤ d)  {r0 : Nat} {x1 : Int32} {h : AH} (k : ok (f_X3_orderClause_j68 S r0 x1 h) (fun w h' => Q (some (.int w)) h')) : WP S M_X3_orderClause d cb sb Q 68 [.ref r0, .int x1] [] h := by
  obtain ⟨d, rfl, he⟩ := dp (L := 82) hd
  unfold f_X3_orderClause_j68 at k
  refine wp_aload_n dX3_orderClause_68 rfl ?_
  replace k := ok_bind k
  obtain ⟨u, e_1, k⟩ := k
  refine wp_callV0 (N := M_X3_kind) (ci := 3) mf_X3_kind mi_X3_kind me_X3_kind ml_X3_48 dX3_orderClause_69 (ckO_e e_1) mv_X3_kind (by exact Nat.le_of_ble_eq_true rfl) (c_X3_kind (Nat.le_trans (by decide) he) (ok_mono (ok_bind2 k) fun z_3 h_2 k => ?_))
  try dsimp only at k
  refine wp_iload_n dX3_orderClause_72 rfl ?_
  refine wp_sipush dX3_orderClause_73 sp_266 ?_
  refine wp_icmp_ne 85 dX3_orderClause_76 (by decide) (fun c_4 => ?_) (fun c_4 => ?_)
  · replace k := ok_f c_4 k
    refine wp_sipush dX3_orderClause_85 sp_262 ?_
    exact wp_wk (wkE <| wkJ <| wkN) (s_X3_orderClause_j88 (Nat.succ_le_succ he)  k)
  · replace k := ok_t c_4 k
    refine wp_sipush dX3_orderClause_79 sp_261 ?_
    refine wp_goto 88 dX3_orderClause_82 (by decide) ?_
    exact wp_wk (wkE <| wkJ <| wkN) (s_X3_orderClause_j88 (Nat.succ_le_succ he)  k)
def f_X3_orderClause_j42 (S : SH) (r0 : Nat) (x1 : Int32) (h : AH) : Option (Int32 × AH) :=
  (gR S h r0 3 1).bind fun p_1 =>
  (gI S h p_1 8 2).bind fun v_3 =>
  (ckO S h r0 3).bind fun _ =>
  (f_X3_setHead S r0 (3 : Int32) v_3 h).bind fun z => match z with
  | (_, h_6) =>
  if x1 = (266 : Int32) then
    f_X3_orderClause_j68 S r0 x1 h_6
  else
    if x1 = (268 : Int32) then
      f_X3_orderClause_j68 S r0 x1 h_6
    else
      (gR S h_6 r0 3 1).bind fun p_10 =>
      (gI S h_6 p_10 8 2).bind fun v_12 =>
      (ckO S h_6 r0 3).bind fun _ =>
      (f_X3_setHead S r0 (4 : Int32) v_12 h_6).bind fun z => match z with
      | (_, h_15) =>
      (ckO S h_15 r0 3).bind fun _ =>
      (f_X3_times S r0 h_15).bind fun z => match z with
      | (z_19, h_18) =>
      (isZ z_19).bind fun _ =>
      some (z_19, h_18)
set_option maxHeartbeats 8000000 in
set_option maxRecDepth 20000 in
theorem s_X3_orderClause_j42 {S : SH} {d cb sb : Nat} {Q : Option Value → AH → Prop} (hd : 83 ≤ d)  {r0 : Nat} {x1 : Int32} {h : AH} (k : ok (f_X3_orderClause_j42 S r0 x1 h) (fun w h' => Q (some (.int w)) h')) : WP S M_X3_orderClause d cb sb Q 42 [.ref r0, .int x1] [] h := by
  obtain ⟨d, rfl, he⟩ := dp (L := 82) hd
  unfold f_X3_orderClause_j42 at k
  refine wp_aload_n dX3_orderClause_42 rfl ?_
  refine wp_iconst dX3_orderClause_43 ic_3 ?_
  refine wp_aload_n dX3_orderClause_44 rfl ?_
  replace k := ok_bind k
  obtain ⟨p_1, e_2, k⟩ := k
  refine wq_getR fl_X3_23 (Or.inl ⟨_, rfl⟩) dX3_orderClause_45 e_2 ?_
  replace k := ok_bind k
  obtain ⟨v_3, e_4, k⟩ := k
  refine wq_getI fl_X3_42 (Or.inl rfl) dX3_orderClause_48 e_4 ?_
  replace k := ok_bind k
  obtain ⟨u, e_5, k⟩ := k
  refine wp_callV2 (N := M_X3_setHead) (ci := 3) mf_X3_setHead mi_X3_setHead me_X3_setHead ml_X3_52 dX3_orderClause_51 (ckO_e e_5) mv_X3_setHead (by exact Nat.le_of_ble_eq_true rfl) (c_X3_setHead (Nat.le_trans (by decide) he) (ok_mono (ok_bind2 k) fun _ h_6 k => ?_))
  try dsimp only at k
  refine wp_iload_n dX3_orderClause_54 rfl ?_
  refine wp_sipush dX3_orderClause_55 sp_266 ?_
  refine wp_icmp_eq 68 dX3_orderClause_58 (by decide) (fun c_8 => ?_) (fun c_8 => ?_)
  · replace k := ok_t c_8 k
    exact wp_wk (wkE <| wkE <| wkN) (s_X3_orderClause_j68 (Nat.succ_le_succ he)  k)
  · replace k := ok_f c_8 k
    refine wp_iload_n dX3_orderClause_61 rfl ?_
    refine wp_sipush dX3_orderClause_62 sp_268 ?_
    refine wp_icmp_ne 107 dX3_orderClause_65 (by decide) (fun c_9 => ?_) (fun c_9 => ?_)
    · replace k := ok_f c_9 k
      refine wp_aload_n dX3_orderClause_107 rfl ?_
      refine wp_iconst dX3_orderClause_108 ic_4 ?_
      refine wp_aload_n dX3_orderClause_109 rfl ?_
      replace k := ok_bind k
      obtain ⟨p_10, e_11, k⟩ := k
      refine wq_getR fl_X3_23 (Or.inl ⟨_, rfl⟩) dX3_orderClause_110 e_11 ?_
      replace k := ok_bind k
      obtain ⟨v_12, e_13, k⟩ := k
      refine wq_getI fl_X3_42 (Or.inl rfl) dX3_orderClause_113 e_13 ?_
      replace k := ok_bind k
      obtain ⟨u, e_14, k⟩ := k
      refine wp_callV2 (N := M_X3_setHead) (ci := 3) mf_X3_setHead mi_X3_setHead me_X3_setHead ml_X3_52 dX3_orderClause_116 (ckO_e e_14) mv_X3_setHead (by exact Nat.le_of_ble_eq_true rfl) (c_X3_setHead (Nat.le_trans (by decide) he) (ok_mono (ok_bind2 k) fun _ h_15 k => ?_))
      try dsimp only at k
      refine wp_aload_n dX3_orderClause_119 rfl ?_
      replace k := ok_bind k
      obtain ⟨u, e_17, k⟩ := k
      refine wp_callV0 (N := M_X3_times) (ci := 3) mf_X3_times mi_X3_times me_X3_times ml_X3_91 dX3_orderClause_120 (ckO_e e_17) mv_X3_times (by exact Nat.le_of_ble_eq_true rfl) (c_X3_times (Nat.le_trans (by decide) he) (ok_mono (ok_bind2 k) fun z_19 h_18 k => ?_))
      try dsimp only at k
      replace k := ok_bind k
      obtain ⟨u, e_20, k⟩ := k
      refine wp_iret rfl (isZ_n e_20) dX3_orderClause_123 ?_
      exact (ok_some k :)
    · replace k := ok_t c_9 k
      exact wp_wk (wkE <| wkE <| wkN) (s_X3_orderClause_j68 (Nat.succ_le_succ he)  k)
def f_X3_orderClause (S : SH) (r0 : Nat) (h : AH) : Option (Int32 × AH) :=
  (ckO S h r0 3).bind fun _ =>
  (f_X3_kind S r0 h).bind fun z => match z with
  | (z_3, h_2) =>
  if z_3 < (266 : Int32) then
    some ((0 : Int32), h_2)
  else
    if z_3 ≤ (269 : Int32) then
      (ckO S h_2 r0 3).bind fun _ =>
      (f_X3_next S r0 h_2).bind fun z => match z with
      | (_, h_7) =>
      if z_3 = (269 : Int32) then
        f_X3_orderClause_j42 S r0 z_3 h_7
      else
        (ckO S h_7 r0 3).bind fun _ =>
        (f_P S 80 3 r0 (0 : Int32) h_7).bind fun z => match z with
        | (z_12, h_11) =>
        if z_12 = (0 : Int32) then
          some ((0 : Int32), h_11)
        else
          f_X3_orderClause_j42 S r0 z_3 h_11
    else
      some ((0 : Int32), h_2)
set_option maxHeartbeats 8000000 in
set_option maxRecDepth 20000 in
theorem s_X3_orderClause {S : SH} {d cb sb : Nat} {Q : Option Value → AH → Prop} (hd : 83 ≤ d)  {r0 : Nat} {h : AH} (k : ok (f_X3_orderClause S r0 h) (fun w h' => Q (some (.int w)) h')) : WP S M_X3_orderClause d cb sb Q 0 [.ref r0, JK] [] h := by
  obtain ⟨d, rfl, he⟩ := dp (L := 82) hd
  unfold f_X3_orderClause at k
  refine wp_aload_n dX3_orderClause_0 rfl ?_
  replace k := ok_bind k
  obtain ⟨u, e_1, k⟩ := k
  refine wp_callV0 (N := M_X3_kind) (ci := 3) mf_X3_kind mi_X3_kind me_X3_kind ml_X3_48 dX3_orderClause_1 (ckO_e e_1) mv_X3_kind (by exact Nat.le_of_ble_eq_true rfl) (c_X3_kind (Nat.le_trans (by decide) he) (ok_mono (ok_bind2 k) fun z_3 h_2 k => ?_))
  try dsimp only at k
  refine wp_istore_n dX3_orderClause_4 (by decide) (L1 := [_, _]) rfl ?_
  refine wp_iload_n dX3_orderClause_5 rfl ?_
  refine wp_sipush dX3_orderClause_6 sp_266 ?_
  refine wp_icmp_lt 19 dX3_orderClause_9 (by decide) (fun c_4 => ?_) (fun c_4 => ?_)
  · replace k := ok_t c_4 k
    refine wp_iconst dX3_orderClause_19 ic_0 ?_
    refine wp_iret rfl rfl dX3_orderClause_20 ?_
    exact (ok_some k :)
  · replace k := ok_f c_4 k
    refine wp_iload_n dX3_orderClause_12 rfl ?_
    refine wp_sipush dX3_orderClause_13 sp_269 ?_
    refine wp_icmp_le 21 dX3_orderClause_16 (by decide) (fun c_5 => ?_) (fun c_5 => ?_)
    · replace k := ok_t c_5 k
      refine wp_aload_n dX3_orderClause_21 rfl ?_
      replace k := ok_bind k
      obtain ⟨u, e_6, k⟩ := k
      refine wp_callV0 (N := M_X3_next) (ci := 3) mf_X3_next mi_X3_next me_X3_next ml_X3_62 dX3_orderClause_22 (ckO_e e_6) mv_X3_next (by exact Nat.le_of_ble_eq_true rfl) (c_X3_next (Nat.le_trans (by decide) he) (ok_mono (ok_bind2 k) fun _ h_7 k => ?_))
      try dsimp only at k
      refine wp_iload_n dX3_orderClause_25 rfl ?_
      refine wp_sipush dX3_orderClause_26 sp_269 ?_
      refine wp_icmp_eq 42 dX3_orderClause_29 (by decide) (fun c_9 => ?_) (fun c_9 => ?_)
      · replace k := ok_t c_9 k
        exact wp_wk (wkE <| wkE <| wkN) (s_X3_orderClause_j42 (Nat.succ_le_succ he)  k)
      · replace k := ok_f c_9 k
        refine wp_aload_n dX3_orderClause_32 rfl ?_
        refine wp_iconst dX3_orderClause_33 ic_0 ?_
        replace k := ok_bind k
        obtain ⟨u, e_10, k⟩ := k
        refine wp_callV1 (N := M_X3_sum) (ci := 3) mf_X3_sum mi_X3_sum me_X3_sum ml_X3_88 dX3_orderClause_34 (ckO_e e_10) mv_X3_sum (by exact Nat.le_of_ble_eq_true rfl) (c_X3_sum (Nat.le_trans (by decide) he) (ok_mono (ok_bind2 k) fun z_12 h_11 k => ?_))
        try dsimp only at k
        refine wp_if_ne 42 dX3_orderClause_37 (by decide) (fun c_13 => ?_) (fun c_13 => ?_)
        · replace k := ok_f c_13 k
          exact wp_wk (wkE <| wkE <| wkN) (s_X3_orderClause_j42 (Nat.succ_le_succ he)  k)
        · replace k := ok_t c_13 k
          refine wp_iconst dX3_orderClause_40 ic_0 ?_
          refine wp_iret rfl rfl dX3_orderClause_41 ?_
          exact (ok_some k :)
    · replace k := ok_f c_5 k
      refine wp_iconst dX3_orderClause_19 ic_0 ?_
      refine wp_iret rfl rfl dX3_orderClause_20 ?_
      exact (ok_some k :)
theorem c_X3_orderClause {S : SH} {d : Nat} {K : Option Value → AH → Prop} (hd : 83 ≤ d)  {r0 : Nat} {h : AH} (k : ok (f_X3_orderClause S r0 h) (fun w h' => K (some (.int w)) h')) : CP S M_X3_orderClause d 0 0 [.ref r0] h K := cp_of (by decide) (fun _ _ => trivial) (fun _ => Nat.le_of_ble_eq_true rfl) (s_X3_orderClause hd  k)

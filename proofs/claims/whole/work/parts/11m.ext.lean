def f_X11_readSum (S : SH) (r0 : Nat) (x1 : Int32) (h : AH) : Option (Unit × AH) :=
  (gR S h r0 11 49).bind fun p_1 =>
  (gI S h r0 11 23).bind fun v_3 =>
  (sI S h p_1 x1 v_3).bind fun h_5 =>
  (gI S h_5 r0 11 19).bind fun v_7 =>
  if v_7 = (0 : Int32) then
    (ckO S h_5 r0 11).bind fun _ =>
    (f_X11_readExpression S r0 (0 : Int32) h_5).bind fun z => match z with
    | (_, h_17) =>
    (gR S h_17 r0 11 49).bind fun p_19 =>
    (gI S h_17 r0 11 23).bind fun v_21 =>
    (sI S h_17 p_19 (x1 + (1 : Int32)) v_21).bind fun h_23 =>
    some ((), h_23)
  else
    (gR S h_5 r0 11 49).bind fun p_10 =>
    (gI S h_5 r0 11 23).bind fun v_12 =>
    (sI S h_5 p_10 (x1 + (1 : Int32)) v_12).bind fun h_14 =>
    some ((), h_14)
set_option maxHeartbeats 8000000 in
set_option maxRecDepth 20000 in
theorem s_X11_readSum {S : SH} {d cb sb : Nat} {Q : Option Value → AH → Prop} (hd : 7 ≤ d)  {r0 : Nat} {x1 : Int32} {h : AH} (k : ok (f_X11_readSum S r0 x1 h) (fun _ h' => Q none h')) : WP S M_X11_readSum d cb sb Q 0 [.ref r0, .int x1] [] h := by
  obtain ⟨d, rfl, he⟩ := dp (L := 6) hd
  unfold f_X11_readSum at k
  refine wp_aload_n dX11_readSum_0 rfl ?_
  replace k := ok_bind k
  obtain ⟨p_1, e_2, k⟩ := k
  refine wq_getR fl_X11_137 (Or.inr ⟨_, rfl⟩) dX11_readSum_1 e_2 ?_
  refine wp_iload_n dX11_readSum_4 rfl ?_
  refine wp_aload_n dX11_readSum_5 rfl ?_
  replace k := ok_bind k
  obtain ⟨v_3, e_4, k⟩ := k
  refine wq_getI fl_X11_293 (Or.inl rfl) dX11_readSum_6 e_4 ?_
  replace k := ok_bind k
  obtain ⟨h_5, e_6, k⟩ := k
  refine wq_sI dX11_readSum_9 e_6 ?_
  refine wp_aload_n dX11_readSum_10 rfl ?_
  replace k := ok_bind k
  obtain ⟨v_7, e_8, k⟩ := k
  refine wq_getI fl_X11_258 (Or.inr rfl) dX11_readSum_11 e_8 ?_
  refine wp_if_ne 22 dX11_readSum_14 (by decide) (fun c_9 => ?_) (fun c_9 => ?_)
  · replace k := ok_f c_9 k
    refine wp_aload_n dX11_readSum_22 rfl ?_
    replace k := ok_bind k
    obtain ⟨p_10, e_11, k⟩ := k
    refine wq_getR fl_X11_137 (Or.inr ⟨_, rfl⟩) dX11_readSum_23 e_11 ?_
    refine wp_iload_n dX11_readSum_26 rfl ?_
    refine wp_iconst dX11_readSum_27 ic_1 ?_
    refine wp_iadd dX11_readSum_28 ?_
    refine wp_aload_n dX11_readSum_29 rfl ?_
    replace k := ok_bind k
    obtain ⟨v_12, e_13, k⟩ := k
    refine wq_getI fl_X11_293 (Or.inl rfl) dX11_readSum_30 e_13 ?_
    replace k := ok_bind k
    obtain ⟨h_14, e_15, k⟩ := k
    refine wq_sI dX11_readSum_33 e_15 ?_
    refine wp_vret rfl dX11_readSum_34 ?_
    exact (ok_some k :)
  · replace k := ok_t c_9 k
    refine wp_aload_n dX11_readSum_17 rfl ?_
    refine wp_iconst dX11_readSum_18 ic_0 ?_
    replace k := ok_bind k
    obtain ⟨u, e_16, k⟩ := k
    refine wp_callV1 (N := M_X11_readExpression) (ci := 11) mf_X11_readExpression mi_X11_readExpression me_X11_readExpression ml_X11_388 dX11_readSum_19 (ckO_e e_16) mv_X11_readExpression (by exact Nat.le_of_ble_eq_true rfl) (c_X11_readExpression (Nat.le_trans (by decide) he) (ok_mono (ok_bind2 k) fun _ h_17 k => ?_))
    try dsimp only at k
    refine wp_aload_n dX11_readSum_22 rfl ?_
    replace k := ok_bind k
    obtain ⟨p_19, e_20, k⟩ := k
    refine wq_getR fl_X11_137 (Or.inr ⟨_, rfl⟩) dX11_readSum_23 e_20 ?_
    refine wp_iload_n dX11_readSum_26 rfl ?_
    refine wp_iconst dX11_readSum_27 ic_1 ?_
    refine wp_iadd dX11_readSum_28 ?_
    refine wp_aload_n dX11_readSum_29 rfl ?_
    replace k := ok_bind k
    obtain ⟨v_21, e_22, k⟩ := k
    refine wq_getI fl_X11_293 (Or.inl rfl) dX11_readSum_30 e_22 ?_
    replace k := ok_bind k
    obtain ⟨h_23, e_24, k⟩ := k
    refine wq_sI dX11_readSum_33 e_24 ?_
    refine wp_vret rfl dX11_readSum_34 ?_
    exact (ok_some k :)
theorem c_X11_readSum {S : SH} {d : Nat} {K : Option Value → AH → Prop} (hd : 7 ≤ d)  {r0 : Nat} {x1 : Int32} {h : AH} (k : ok (f_X11_readSum S r0 x1 h) (fun _ h' => K none h')) : CP S M_X11_readSum d 0 0 [.ref r0, .int x1] h K := cp_of (by decide) (fun _ _ => trivial) (fun _ => Nat.le_of_ble_eq_true rfl) (s_X11_readSum hd  k)
def f_X11_readOrder_l4b (S : SH) (rc : Nat → Int32 → Int32 → AH → Option ((Nat × Int32) × AH)) (r0 : Nat) (x1 : Int32) (x2 : Int32) (h : AH) : Option ((Nat × Int32) × AH) :=
  if (4 : Int32) ≤ x2 then
    some ((r0, x1), h)
  else
    (gR S h r0 11 48).bind fun p_2 =>
    (aJ S h p_2 x2).bind fun w_4 =>
    (ckO S h r0 11).bind fun _ =>
    (f_X11_isWord S r0 w_4 h).bind fun z => match z with
    | (z_8, h_7) =>
    if z_8 = (0 : Int32) then
      lt (x2 + (1 : Int32)) fun y_10 =>
      rc r0 x1 y_10 h_7
    else
      lt (x2 + (1 : Int32)) fun y_11 =>
      rc r0 x2 y_11 h_7
set_option maxHeartbeats 8000000 in
set_option maxRecDepth 20000 in
theorem s_X11_readOrder_l4b {S : SH} {d cb sb : Nat} {Q : Option Value → AH → Prop} (hd : 8 ≤ d) {K : (Nat × Int32) → AH → Prop} (hex : ∀ (r0 : Nat) (x1 : Int32) (h' : AH), K (r0, x1) h' → WP S M_X11_readOrder d cb sb Q 34 [.ref r0, .int x1, JK, JK] [] h') {rc : Nat → Int32 → Int32 → AH → Option ((Nat × Int32) × AH)} (hrec : ∀ (r0 : Nat) (x1 : Int32) (x2 : Int32) (h' : AH), ok (rc r0 x1 x2 h') K → WP S M_X11_readOrder d cb sb Q 4 [.ref r0, .int x1, .int x2, JK] [] h') {r0 : Nat} {x1 : Int32} {x2 : Int32} {h : AH} (k : ok (f_X11_readOrder_l4b S rc r0 x1 x2 h) K) : WP S M_X11_readOrder d cb sb Q 4 [.ref r0, .int x1, .int x2, JK] [] h := by
  obtain ⟨d, rfl, he⟩ := dp (L := 7) hd
  unfold f_X11_readOrder_l4b at k
  refine wp_iload_n dX11_readOrder_4 rfl ?_
  refine wp_iconst dX11_readOrder_5 ic_4 ?_
  refine wp_icmp_ge 34 dX11_readOrder_6 (by decide) (fun c_1 => ?_) (fun c_1 => ?_)
  · replace k := ok_t c_1 k
    exact wp_wk (wkE <| wkE <| wkJ <| wkJ <| wkN) (hex _ _ _ (ok_some k))
  · replace k := ok_f c_1 k
    refine wp_aload_n dX11_readOrder_9 rfl ?_
    refine wp_aload_n dX11_readOrder_10 rfl ?_
    replace k := ok_bind k
    obtain ⟨p_2, e_3, k⟩ := k
    refine wq_getR fl_X11_134 (Or.inr ⟨_, rfl⟩) dX11_readOrder_11 e_3 ?_
    refine wp_iload_n dX11_readOrder_14 rfl ?_
    replace k := ok_bind k
    obtain ⟨w_4, e_5, k⟩ := k
    refine wq_aJ dX11_readOrder_15 e_5 ?_
    replace k := ok_bind k
    obtain ⟨u, e_6, k⟩ := k
    refine wp_callV1 (N := M_X11_isWord) (ci := 11) mf_X11_isWord mi_X11_isWord me_X11_isWord ml_X11_312 dX11_readOrder_16 (ckO_e e_6) mv_X11_isWord (by exact Nat.le_of_ble_eq_true rfl) (c_X11_isWord (Nat.le_trans (by decide) he) (ok_mono (ok_bind2 k) fun z_8 h_7 k => ?_))
    try dsimp only at k
    refine wp_if_eq 26 dX11_readOrder_19 (by decide) (fun c_9 => ?_) (fun c_9 => ?_)
    · replace k := ok_t c_9 k
      refine wp_iload_n dX11_readOrder_26 rfl ?_
      refine wp_istore_n dX11_readOrder_27 (by decide) (L1 := [_, _, _, _]) rfl ?_
      replace k := ok_lt k
      refine wp_iinc dX11_readOrder_28 rfl ic_1 (by decide) (L1 := [_, _, _, _]) rfl ?_
      refine wp_goto 4 dX11_readOrder_31 (by decide) ?_
      exact wp_wk (wkE <| wkE <| wkE <| wkJ <| wkN) (hrec _ _ _ _ k)
    · replace k := ok_f c_9 k
      refine wp_iload_n dX11_readOrder_22 rfl ?_
      refine wp_goto 27 dX11_readOrder_23 (by decide) ?_
      refine wp_istore_n dX11_readOrder_27 (by decide) (L1 := [_, _, _, _]) rfl ?_
      replace k := ok_lt k
      refine wp_iinc dX11_readOrder_28 rfl ic_1 (by decide) (L1 := [_, _, _, _]) rfl ?_
      refine wp_goto 4 dX11_readOrder_31 (by decide) ?_
      exact wp_wk (wkE <| wkE <| wkE <| wkJ <| wkN) (hrec _ _ _ _ k)
def f_X11_readOrder_l4 (S : SH) : Nat → Nat → Int32 → Int32 → AH → Option ((Nat × Int32) × AH)
  | 0, _, _, _, _ => none
  | n + 1, r0, x1, x2, h => f_X11_readOrder_l4b S (f_X11_readOrder_l4 S n) r0 x1 x2 h
theorem s_X11_readOrder_l4 {S : SH} {d cb sb : Nat} {Q : Option Value → AH → Prop} (hd : 8 ≤ d) {K : (Nat × Int32) → AH → Prop} (hex : ∀ (r0 : Nat) (x1 : Int32) (h' : AH), K (r0, x1) h' → WP S M_X11_readOrder d cb sb Q 34 [.ref r0, .int x1, JK, JK] [] h') : ∀ (n : Nat) (r0 : Nat) (x1 : Int32) (x2 : Int32) (h : AH), ok (f_X11_readOrder_l4 S n r0 x1 x2 h) K → WP S M_X11_readOrder d cb sb Q 4 [.ref r0, .int x1, .int x2, JK] [] h := by
  intro n
  induction n with
  | zero => intro r0 x1 x2 h k; exact ok_none k
  | succ n ih => intro r0 x1 x2 h k; exact s_X11_readOrder_l4b hd hex (fun r0 x1 x2 h k => ih r0 x1 x2 h k) k
def f_X11_readOrder_l85b (S : SH) (rc : Nat → Int32 → Int32 → Int32 → AH → Option ((Nat × Int32 × Int32) × AH)) (r0 : Nat) (x1 : Int32) (x2 : Int32) (x3 : Int32) (h : AH) : Option ((Nat × Int32 × Int32) × AH) :=
  if (8 : Int32) ≤ x3 then
    some ((r0, x1, x2), h)
  else
    (gR S h r0 11 49).bind fun p_2 =>
    (sI S h p_2 (x2 + x3) (0 : Int32)).bind fun h_4 =>
    lt (x3 + (1 : Int32)) fun y_6 =>
    rc r0 x1 x2 y_6 h_4
set_option maxHeartbeats 8000000 in
set_option maxRecDepth 20000 in
theorem s_X11_readOrder_l85b {S : SH} {d cb sb : Nat} {Q : Option Value → AH → Prop} (hd : 8 ≤ d) {K : (Nat × Int32 × Int32) → AH → Prop} (hex : ∀ (r0 : Nat) (x1 : Int32) (x2 : Int32) (h' : AH), K (r0, x1, x2) h' → WP S M_X11_readOrder d cb sb Q 106 [.ref r0, .int x1, .int x2, JK] [] h') {rc : Nat → Int32 → Int32 → Int32 → AH → Option ((Nat × Int32 × Int32) × AH)} (hrec : ∀ (r0 : Nat) (x1 : Int32) (x2 : Int32) (x3 : Int32) (h' : AH), ok (rc r0 x1 x2 x3 h') K → WP S M_X11_readOrder d cb sb Q 85 [.ref r0, .int x1, .int x2, .int x3] [] h') {r0 : Nat} {x1 : Int32} {x2 : Int32} {x3 : Int32} {h : AH} (k : ok (f_X11_readOrder_l85b S rc r0 x1 x2 x3 h) K) : WP S M_X11_readOrder d cb sb Q 85 [.ref r0, .int x1, .int x2, .int x3] [] h := by
  obtain ⟨d, rfl, he⟩ := dp (L := 7) hd
  unfold f_X11_readOrder_l85b at k
  refine wp_iload_n dX11_readOrder_85 rfl ?_
  refine wp_bipush dX11_readOrder_86 bp_8 ?_
  refine wp_icmp_ge 106 dX11_readOrder_88 (by decide) (fun c_1 => ?_) (fun c_1 => ?_)
  · replace k := ok_t c_1 k
    exact wp_wk (wkE <| wkE <| wkE <| wkJ <| wkN) (hex _ _ _ _ (ok_some k))
  · replace k := ok_f c_1 k
    refine wp_aload_n dX11_readOrder_91 rfl ?_
    replace k := ok_bind k
    obtain ⟨p_2, e_3, k⟩ := k
    refine wq_getR fl_X11_137 (Or.inr ⟨_, rfl⟩) dX11_readOrder_92 e_3 ?_
    refine wp_iload_n dX11_readOrder_95 rfl ?_
    refine wp_iload_n dX11_readOrder_96 rfl ?_
    refine wp_iadd dX11_readOrder_97 ?_
    refine wp_iconst dX11_readOrder_98 ic_0 ?_
    replace k := ok_bind k
    obtain ⟨h_4, e_5, k⟩ := k
    refine wq_sI dX11_readOrder_99 e_5 ?_
    replace k := ok_lt k
    refine wp_iinc dX11_readOrder_100 rfl ic_1 (by decide) (L1 := [_, _, _, _]) rfl ?_
    refine wp_goto 85 dX11_readOrder_103 (by decide) ?_
    exact wp_wk (wkE <| wkE <| wkE <| wkE <| wkN) (hrec _ _ _ _ _ k)
def f_X11_readOrder_l85 (S : SH) : Nat → Nat → Int32 → Int32 → Int32 → AH → Option ((Nat × Int32 × Int32) × AH)
  | 0, _, _, _, _, _ => none
  | n + 1, r0, x1, x2, x3, h => f_X11_readOrder_l85b S (f_X11_readOrder_l85 S n) r0 x1 x2 x3 h
theorem s_X11_readOrder_l85 {S : SH} {d cb sb : Nat} {Q : Option Value → AH → Prop} (hd : 8 ≤ d) {K : (Nat × Int32 × Int32) → AH → Prop} (hex : ∀ (r0 : Nat) (x1 : Int32) (x2 : Int32) (h' : AH), K (r0, x1, x2) h' → WP S M_X11_readOrder d cb sb Q 106 [.ref r0, .int x1, .int x2, JK] [] h') : ∀ (n : Nat) (r0 : Nat) (x1 : Int32) (x2 : Int32) (x3 : Int32) (h : AH), ok (f_X11_readOrder_l85 S n r0 x1 x2 x3 h) K → WP S M_X11_readOrder d cb sb Q 85 [.ref r0, .int x1, .int x2, .int x3] [] h := by
  intro n
  induction n with
  | zero => intro r0 x1 x2 x3 h k; exact ok_none k
  | succ n ih => intro r0 x1 x2 x3 h k; exact s_X11_readOrder_l85b hd hex (fun r0 x1 x2 x3 h k => ih r0 x1 x2 x3 h k) k
def f_X11_readOrder_j217 (S : SH) (r0 : Nat) (x2 : Int32) (h : AH) : Option (Unit × AH) :=
  (gR S h r0 11 49).bind fun p_1 =>
  (gI S h r0 11 23).bind fun v_3 =>
  (sI S h p_1 (x2 + (5 : Int32)) v_3).bind fun h_5 =>
  (gI S h_5 r0 11 19).bind fun v_7 =>
  if v_7 = (0 : Int32) then
    (ckO S h_5 r0 11).bind fun _ =>
    (f_X11_isWord S r0 (294 : Int64) h_5).bind fun z => match z with
    | (z_18, h_17) =>
    if z_18 = (0 : Int32) then
      (gR S h_17 r0 11 49).bind fun p_20 =>
      (gI S h_17 r0 11 23).bind fun v_22 =>
      (sI S h_17 p_20 (x2 + (6 : Int32)) v_22).bind fun h_24 =>
      some ((), h_24)
    else
      (ckO S h_17 r0 11).bind fun _ =>
      (f_X11_next S r0 h_17).bind fun z => match z with
      | (_, h_27) =>
      (ckO S h_27 r0 11).bind fun _ =>
      (f_X11_readExpression S r0 (1 : Int32) h_27).bind fun z => match z with
      | (_, h_30) =>
      (gR S h_30 r0 11 49).bind fun p_32 =>
      (gI S h_30 r0 11 23).bind fun v_34 =>
      (sI S h_30 p_32 (x2 + (6 : Int32)) v_34).bind fun h_36 =>
      some ((), h_36)
  else
    (gR S h_5 r0 11 49).bind fun p_10 =>
    (gI S h_5 r0 11 23).bind fun v_12 =>
    (sI S h_5 p_10 (x2 + (6 : Int32)) v_12).bind fun h_14 =>
    some ((), h_14)
set_option maxHeartbeats 8000000 in
set_option maxRecDepth 20000 in
theorem s_X11_readOrder_j217 {S : SH} {d cb sb : Nat} {Q : Option Value → AH → Prop} (hd : 8 ≤ d)  {r0 : Nat} {x2 : Int32} {h : AH} (k : ok (f_X11_readOrder_j217 S r0 x2 h) (fun _ h' => Q none h')) : WP S M_X11_readOrder d cb sb Q 217 [.ref r0, JK, .int x2, JK] [] h := by
  obtain ⟨d, rfl, he⟩ := dp (L := 7) hd
  unfold f_X11_readOrder_j217 at k
  refine wp_aload_n dX11_readOrder_217 rfl ?_
  replace k := ok_bind k
  obtain ⟨p_1, e_2, k⟩ := k
  refine wq_getR fl_X11_137 (Or.inr ⟨_, rfl⟩) dX11_readOrder_218 e_2 ?_
  refine wp_iload_n dX11_readOrder_221 rfl ?_
  refine wp_iconst dX11_readOrder_222 ic_5 ?_
  refine wp_iadd dX11_readOrder_223 ?_
  refine wp_aload_n dX11_readOrder_224 rfl ?_
  replace k := ok_bind k
  obtain ⟨v_3, e_4, k⟩ := k
  refine wq_getI fl_X11_293 (Or.inl rfl) dX11_readOrder_225 e_4 ?_
  replace k := ok_bind k
  obtain ⟨h_5, e_6, k⟩ := k
  refine wq_sI dX11_readOrder_228 e_6 ?_
  refine wp_aload_n dX11_readOrder_229 rfl ?_
  replace k := ok_bind k
  obtain ⟨v_7, e_8, k⟩ := k
  refine wq_getI fl_X11_258 (Or.inr rfl) dX11_readOrder_230 e_8 ?_
  refine wp_if_ne 255 dX11_readOrder_233 (by decide) (fun c_9 => ?_) (fun c_9 => ?_)
  · replace k := ok_f c_9 k
    refine wp_aload_n dX11_readOrder_255 rfl ?_
    replace k := ok_bind k
    obtain ⟨p_10, e_11, k⟩ := k
    refine wq_getR fl_X11_137 (Or.inr ⟨_, rfl⟩) dX11_readOrder_256 e_11 ?_
    refine wp_iload_n dX11_readOrder_259 rfl ?_
    refine wp_bipush dX11_readOrder_260 bp_6 ?_
    refine wp_iadd dX11_readOrder_262 ?_
    refine wp_aload_n dX11_readOrder_263 rfl ?_
    replace k := ok_bind k
    obtain ⟨v_12, e_13, k⟩ := k
    refine wq_getI fl_X11_293 (Or.inl rfl) dX11_readOrder_264 e_13 ?_
    replace k := ok_bind k
    obtain ⟨h_14, e_15, k⟩ := k
    refine wq_sI dX11_readOrder_267 e_15 ?_
    refine wp_vret rfl dX11_readOrder_268 ?_
    exact (ok_some k :)
  · replace k := ok_t c_9 k
    refine wp_aload_n dX11_readOrder_236 rfl ?_
    refine wp_ldc2 ct_X11_391 dX11_readOrder_237 ?_
    replace k := ok_bind k
    obtain ⟨u, e_16, k⟩ := k
    refine wp_callV1 (N := M_X11_isWord) (ci := 11) mf_X11_isWord mi_X11_isWord me_X11_isWord ml_X11_312 dX11_readOrder_240 (ckO_e e_16) mv_X11_isWord (by exact Nat.le_of_ble_eq_true rfl) (c_X11_isWord (Nat.le_trans (by decide) he) (ok_mono (ok_bind2 k) fun z_18 h_17 k => ?_))
    try dsimp only at k
    refine wp_if_eq 255 dX11_readOrder_243 (by decide) (fun c_19 => ?_) (fun c_19 => ?_)
    · replace k := ok_t c_19 k
      refine wp_aload_n dX11_readOrder_255 rfl ?_
      replace k := ok_bind k
      obtain ⟨p_20, e_21, k⟩ := k
      refine wq_getR fl_X11_137 (Or.inr ⟨_, rfl⟩) dX11_readOrder_256 e_21 ?_
      refine wp_iload_n dX11_readOrder_259 rfl ?_
      refine wp_bipush dX11_readOrder_260 bp_6 ?_
      refine wp_iadd dX11_readOrder_262 ?_
      refine wp_aload_n dX11_readOrder_263 rfl ?_
      replace k := ok_bind k
      obtain ⟨v_22, e_23, k⟩ := k
      refine wq_getI fl_X11_293 (Or.inl rfl) dX11_readOrder_264 e_23 ?_
      replace k := ok_bind k
      obtain ⟨h_24, e_25, k⟩ := k
      refine wq_sI dX11_readOrder_267 e_25 ?_
      refine wp_vret rfl dX11_readOrder_268 ?_
      exact (ok_some k :)
    · replace k := ok_f c_19 k
      refine wp_aload_n dX11_readOrder_246 rfl ?_
      replace k := ok_bind k
      obtain ⟨u, e_26, k⟩ := k
      refine wp_callV0 (N := M_X11_next) (ci := 11) mf_X11_next mi_X11_next me_X11_next ml_X11_262 dX11_readOrder_247 (ckO_e e_26) mv_X11_next (by exact Nat.le_of_ble_eq_true rfl) (c_X11_next (Nat.le_trans (by decide) he) (ok_mono (ok_bind2 k) fun _ h_27 k => ?_))
      try dsimp only at k
      refine wp_aload_n dX11_readOrder_250 rfl ?_
      refine wp_iconst dX11_readOrder_251 ic_1 ?_
      replace k := ok_bind k
      obtain ⟨u, e_29, k⟩ := k
      refine wp_callV1 (N := M_X11_readExpression) (ci := 11) mf_X11_readExpression mi_X11_readExpression me_X11_readExpression ml_X11_388 dX11_readOrder_252 (ckO_e e_29) mv_X11_readExpression (by exact Nat.le_of_ble_eq_true rfl) (c_X11_readExpression (Nat.le_trans (by decide) he) (ok_mono (ok_bind2 k) fun _ h_30 k => ?_))
      try dsimp only at k
      refine wp_aload_n dX11_readOrder_255 rfl ?_
      replace k := ok_bind k
      obtain ⟨p_32, e_33, k⟩ := k
      refine wq_getR fl_X11_137 (Or.inr ⟨_, rfl⟩) dX11_readOrder_256 e_33 ?_
      refine wp_iload_n dX11_readOrder_259 rfl ?_
      refine wp_bipush dX11_readOrder_260 bp_6 ?_
      refine wp_iadd dX11_readOrder_262 ?_
      refine wp_aload_n dX11_readOrder_263 rfl ?_
      replace k := ok_bind k
      obtain ⟨v_34, e_35, k⟩ := k
      refine wq_getI fl_X11_293 (Or.inl rfl) dX11_readOrder_264 e_35 ?_
      replace k := ok_bind k
      obtain ⟨h_36, e_37, k⟩ := k
      refine wq_sI dX11_readOrder_267 e_37 ?_
      refine wp_vret rfl dX11_readOrder_268 ?_
      exact (ok_some k :)
def f_X11_readOrder_j169 (S : SH) (r0 : Nat) (x2 : Int32) (h : AH) : Option (Unit × AH) :=
  (gR S h r0 11 49).bind fun p_1 =>
  (sI S h p_1 (x2 + (7 : Int32)) (1 : Int32)).bind fun h_3 =>
  (gI S h_3 r0 11 19).bind fun v_5 =>
  if v_5 = (0 : Int32) then
    (ckO S h_3 r0 11).bind fun _ =>
    (f_X11_isWord S r0 (21279923 : Int64) h_3).bind fun z => match z with
    | (z_10, h_9) =>
    if z_10 = (0 : Int32) then
      f_X11_readOrder_j217 S r0 x2 h_9
    else
      (ckO S h_9 r0 11).bind fun _ =>
      (f_X11_next S r0 h_9).bind fun z => match z with
      | (_, h_13) =>
      (gR S h_13 r0 11 49).bind fun p_15 =>
      (ckO S h_13 r0 11).bind fun _ =>
      (f_X11_number S r0 (1 : Int64) (20 : Int64) h_13).bind fun z => match z with
      | (z_19, h_18) =>
      (sI S h_18 p_15 (x2 + (7 : Int32)) z_19).bind fun h_20 =>
      f_X11_readOrder_j217 S r0 x2 h_20
  else
    f_X11_readOrder_j217 S r0 x2 h_3
set_option maxHeartbeats 8000000 in
set_option maxRecDepth 20000 in
theorem s_X11_readOrder_j169 {S : SH} {d cb sb : Nat} {Q : Option Value → AH → Prop} (hd : 8 ≤ d)  {r0 : Nat} {x2 : Int32} {h : AH} (k : ok (f_X11_readOrder_j169 S r0 x2 h) (fun _ h' => Q none h')) : WP S M_X11_readOrder d cb sb Q 169 [.ref r0, JK, .int x2, JK] [] h := by
  obtain ⟨d, rfl, he⟩ := dp (L := 7) hd
  unfold f_X11_readOrder_j169 at k
  refine wp_aload_n dX11_readOrder_169 rfl ?_
  replace k := ok_bind k
  obtain ⟨p_1, e_2, k⟩ := k
  refine wq_getR fl_X11_137 (Or.inr ⟨_, rfl⟩) dX11_readOrder_170 e_2 ?_
  refine wp_iload_n dX11_readOrder_173 rfl ?_
  refine wp_bipush dX11_readOrder_174 bp_7 ?_
  refine wp_iadd dX11_readOrder_176 ?_
  refine wp_iconst dX11_readOrder_177 ic_1 ?_
  replace k := ok_bind k
  obtain ⟨h_3, e_4, k⟩ := k
  refine wq_sI dX11_readOrder_178 e_4 ?_
  refine wp_aload_n dX11_readOrder_179 rfl ?_
  replace k := ok_bind k
  obtain ⟨v_5, e_6, k⟩ := k
  refine wq_getI fl_X11_258 (Or.inr rfl) dX11_readOrder_180 e_6 ?_
  refine wp_if_ne 217 dX11_readOrder_183 (by decide) (fun c_7 => ?_) (fun c_7 => ?_)
  · replace k := ok_f c_7 k
    exact wp_wk (wkE <| wkJ <| wkE <| wkJ <| wkN) (s_X11_readOrder_j217 (Nat.succ_le_succ he)  k)
  · replace k := ok_t c_7 k
    refine wp_aload_n dX11_readOrder_186 rfl ?_
    refine wp_ldc2 ct_X11_511 dX11_readOrder_187 ?_
    replace k := ok_bind k
    obtain ⟨u, e_8, k⟩ := k
    refine wp_callV1 (N := M_X11_isWord) (ci := 11) mf_X11_isWord mi_X11_isWord me_X11_isWord ml_X11_312 dX11_readOrder_190 (ckO_e e_8) mv_X11_isWord (by exact Nat.le_of_ble_eq_true rfl) (c_X11_isWord (Nat.le_trans (by decide) he) (ok_mono (ok_bind2 k) fun z_10 h_9 k => ?_))
    try dsimp only at k
    refine wp_if_eq 217 dX11_readOrder_193 (by decide) (fun c_11 => ?_) (fun c_11 => ?_)
    · replace k := ok_t c_11 k
      exact wp_wk (wkE <| wkJ <| wkE <| wkJ <| wkN) (s_X11_readOrder_j217 (Nat.succ_le_succ he)  k)
    · replace k := ok_f c_11 k
      refine wp_aload_n dX11_readOrder_196 rfl ?_
      replace k := ok_bind k
      obtain ⟨u, e_12, k⟩ := k
      refine wp_callV0 (N := M_X11_next) (ci := 11) mf_X11_next mi_X11_next me_X11_next ml_X11_262 dX11_readOrder_197 (ckO_e e_12) mv_X11_next (by exact Nat.le_of_ble_eq_true rfl) (c_X11_next (Nat.le_trans (by decide) he) (ok_mono (ok_bind2 k) fun _ h_13 k => ?_))
      try dsimp only at k
      refine wp_aload_n dX11_readOrder_200 rfl ?_
      replace k := ok_bind k
      obtain ⟨p_15, e_16, k⟩ := k
      refine wq_getR fl_X11_137 (Or.inr ⟨_, rfl⟩) dX11_readOrder_201 e_16 ?_
      refine wp_iload_n dX11_readOrder_204 rfl ?_
      refine wp_bipush dX11_readOrder_205 bp_7 ?_
      refine wp_iadd dX11_readOrder_207 ?_
      refine wp_aload_n dX11_readOrder_208 rfl ?_
      refine wp_lconst dX11_readOrder_209 lc_1 ?_
      refine wp_ldc2 ct_X11_208 dX11_readOrder_210 ?_
      replace k := ok_bind k
      obtain ⟨u, e_17, k⟩ := k
      refine wp_callV2 (N := M_X11_number) (ci := 11) mf_X11_number mi_X11_number me_X11_number ml_X11_349 dX11_readOrder_213 (ckO_e e_17) mv_X11_number (by exact Nat.le_of_ble_eq_true rfl) (c_X11_number (Nat.le_trans (by decide) he) (ok_mono (ok_bind2 k) fun z_19 h_18 k => ?_))
      try dsimp only at k
      replace k := ok_bind k
      obtain ⟨h_20, e_21, k⟩ := k
      refine wq_sI dX11_readOrder_216 e_21 ?_
      exact wp_wk (wkE <| wkJ <| wkE <| wkJ <| wkN) (s_X11_readOrder_j217 (Nat.succ_le_succ he)  k)
def f_X11_readOrder_j162 (S : SH) (r0 : Nat) (x2 : Int32) (h : AH) : Option (Unit × AH) :=
  (ckO S h r0 11).bind fun _ =>
  (f_X11_readSum S r0 ((x2 + (3 : Int32))) h).bind fun z => match z with
  | (_, h_2) =>
  f_X11_readOrder_j169 S r0 x2 h_2
set_option maxHeartbeats 8000000 in
set_option maxRecDepth 20000 in
theorem s_X11_readOrder_j162 {S : SH} {d cb sb : Nat} {Q : Option Value → AH → Prop} (hd : 8 ≤ d)  {r0 : Nat} {x2 : Int32} {h : AH} (k : ok (f_X11_readOrder_j162 S r0 x2 h) (fun _ h' => Q none h')) : WP S M_X11_readOrder d cb sb Q 162 [.ref r0, JK, .int x2, JK] [] h := by
  obtain ⟨d, rfl, he⟩ := dp (L := 7) hd
  unfold f_X11_readOrder_j162 at k
  refine wp_aload_n dX11_readOrder_162 rfl ?_
  refine wp_iload_n dX11_readOrder_163 rfl ?_
  refine wp_iconst dX11_readOrder_164 ic_3 ?_
  refine wp_iadd dX11_readOrder_165 ?_
  replace k := ok_bind k
  obtain ⟨u, e_1, k⟩ := k
  refine wp_callV1 (N := M_X11_readSum) (ci := 11) mf_X11_readSum mi_X11_readSum me_X11_readSum ml_X11_504 dX11_readOrder_166 (ckO_e e_1) mv_X11_readSum (by exact Nat.le_of_ble_eq_true rfl) (c_X11_readSum (Nat.le_trans (by decide) he) (ok_mono (ok_bind2 k) fun _ h_2 k => ?_))
  try dsimp only at k
  exact wp_wk (wkE <| wkJ <| wkE <| wkJ <| wkN) (s_X11_readOrder_j169 (Nat.succ_le_succ he)  k)
def f_X11_readOrder_j156 (S : SH) (r0 : Nat) (x2 : Int32) (sr0 : Nat) (sr1 : Nat) (sl2 : Int64) (h : AH) : Option (Unit × AH) :=
  (ckO S h sr1 11).bind fun _ =>
  (f_X11_isWord S sr1 sl2 h).bind fun z => match z with
  | (z_3, h_2) =>
  (ckO S h_2 sr0 11).bind fun _ =>
  (f_X11_must S sr0 z_3 h_2).bind fun z => match z with
  | (_, h_5) =>
  f_X11_readOrder_j162 S r0 x2 h_5
set_option maxHeartbeats 8000000 in
set_option maxRecDepth 20000 in
theorem s_X11_readOrder_j156 {S : SH} {d cb sb : Nat} {Q : Option Value → AH → Prop} (hd : 8 ≤ d)  {r0 : Nat} {x2 : Int32} {sr0 : Nat} {sr1 : Nat} {sl2 : Int64} {h : AH} (k : ok (f_X11_readOrder_j156 S r0 x2 sr0 sr1 sl2 h) (fun _ h' => Q none h')) : WP S M_X11_readOrder d cb sb Q 156 [.ref r0, JK, .int x2, JK] [.long sl2, .ref sr1, .ref sr0] h := by
  obtain ⟨d, rfl, he⟩ := dp (L := 7) hd
  unfold f_X11_readOrder_j156 at k
  replace k := ok_bind k
  obtain ⟨u, e_1, k⟩ := k
  refine wp_callV1 (N := M_X11_isWord) (ci := 11) mf_X11_isWord mi_X11_isWord me_X11_isWord ml_X11_312 dX11_readOrder_156 (ckO_e e_1) mv_X11_isWord (by exact Nat.le_of_ble_eq_true rfl) (c_X11_isWord (Nat.le_trans (by decide) he) (ok_mono (ok_bind2 k) fun z_3 h_2 k => ?_))
  try dsimp only at k
  replace k := ok_bind k
  obtain ⟨u, e_4, k⟩ := k
  refine wp_callV1 (N := M_X11_must) (ci := 11) mf_X11_must mi_X11_must me_X11_must ml_X11_289 dX11_readOrder_159 (ckO_e e_4) mv_X11_must (by exact Nat.le_of_ble_eq_true rfl) (c_X11_must (Nat.le_trans (by decide) he) (ok_mono (ok_bind2 k) fun _ h_5 k => ?_))
  try dsimp only at k
  exact wp_wk (wkE <| wkJ <| wkE <| wkJ <| wkN) (s_X11_readOrder_j162 (Nat.succ_le_succ he)  k)
def f_X11_readOrder_j134 (S : SH) (r0 : Nat) (x1 : Int32) (x2 : Int32) (h : AH) : Option (Unit × AH) :=
  (gI S h r0 11 19).bind fun v_1 =>
  if v_1 = (0 : Int32) then
    if x1 = (0 : Int32) then
      f_X11_readOrder_j156 S r0 x2 r0 r0 (89 : Int64) h
    else
      f_X11_readOrder_j156 S r0 x2 r0 r0 (655 : Int64) h
  else
    f_X11_readOrder_j162 S r0 x2 h
set_option maxHeartbeats 8000000 in
set_option maxRecDepth 20000 in
theorem s_X11_readOrder_j134 {S : SH} {d cb sb : Nat} {Q : Option Value → AH → Prop} (hd : 8 ≤ d)  {r0 : Nat} {x1 : Int32} {x2 : Int32} {h : AH} (k : ok (f_X11_readOrder_j134 S r0 x1 x2 h) (fun _ h' => Q none h')) : WP S M_X11_readOrder d cb sb Q 134 [.ref r0, .int x1, .int x2, JK] [] h := by
  obtain ⟨d, rfl, he⟩ := dp (L := 7) hd
  unfold f_X11_readOrder_j134 at k
  refine wp_aload_n dX11_readOrder_134 rfl ?_
  replace k := ok_bind k
  obtain ⟨v_1, e_2, k⟩ := k
  refine wq_getI fl_X11_258 (Or.inr rfl) dX11_readOrder_135 e_2 ?_
  refine wp_if_ne 162 dX11_readOrder_138 (by decide) (fun c_3 => ?_) (fun c_3 => ?_)
  · replace k := ok_f c_3 k
    exact wp_wk (wkE <| wkJ <| wkE <| wkJ <| wkN) (s_X11_readOrder_j162 (Nat.succ_le_succ he)  k)
  · replace k := ok_t c_3 k
    refine wp_aload_n dX11_readOrder_141 rfl ?_
    refine wp_aload_n dX11_readOrder_142 rfl ?_
    refine wp_iload_n dX11_readOrder_143 rfl ?_
    refine wp_if_ne 153 dX11_readOrder_144 (by decide) (fun c_4 => ?_) (fun c_4 => ?_)
    · replace k := ok_f c_4 k
      refine wp_ldc2 ct_X11_509 dX11_readOrder_153 ?_
      exact wp_wk (wkE <| wkJ <| wkE <| wkJ <| wkN) (s_X11_readOrder_j156 (Nat.succ_le_succ he)  k)
    · replace k := ok_t c_4 k
      refine wp_ldc2 ct_X11_507 dX11_readOrder_147 ?_
      refine wp_goto 156 dX11_readOrder_150 (by decide) ?_
      exact wp_wk (wkE <| wkJ <| wkE <| wkJ <| wkN) (s_X11_readOrder_j156 (Nat.succ_le_succ he)  k)
def f_X11_readOrder_j125 (S : SH) (r0 : Nat) (x1 : Int32) (x2 : Int32) (h : AH) : Option (Unit × AH) :=
  if x1 = (0 : Int32) then
    f_X11_readOrder_j134 S r0 x1 x2 h
  else
    if x1 = (2 : Int32) then
      f_X11_readOrder_j134 S r0 x1 x2 h
    else
      f_X11_readOrder_j169 S r0 x2 h
set_option maxHeartbeats 8000000 in
set_option maxRecDepth 20000 in
theorem s_X11_readOrder_j125 {S : SH} {d cb sb : Nat} {Q : Option Value → AH → Prop} (hd : 8 ≤ d)  {r0 : Nat} {x1 : Int32} {x2 : Int32} {h : AH} (k : ok (f_X11_readOrder_j125 S r0 x1 x2 h) (fun _ h' => Q none h')) : WP S M_X11_readOrder d cb sb Q 125 [.ref r0, .int x1, .int x2, JK] [] h := by
  obtain ⟨d, rfl, he⟩ := dp (L := 7) hd
  unfold f_X11_readOrder_j125 at k
  refine wp_iload_n dX11_readOrder_125 rfl ?_
  refine wp_if_eq 134 dX11_readOrder_126 (by decide) (fun c_1 => ?_) (fun c_1 => ?_)
  · replace k := ok_t c_1 k
    exact wp_wk (wkE <| wkE <| wkE <| wkJ <| wkN) (s_X11_readOrder_j134 (Nat.succ_le_succ he)  k)
  · replace k := ok_f c_1 k
    refine wp_iload_n dX11_readOrder_129 rfl ?_
    refine wp_iconst dX11_readOrder_130 ic_2 ?_
    refine wp_icmp_ne 169 dX11_readOrder_131 (by decide) (fun c_2 => ?_) (fun c_2 => ?_)
    · replace k := ok_f c_2 k
      exact wp_wk (wkE <| wkJ <| wkE <| wkJ <| wkN) (s_X11_readOrder_j169 (Nat.succ_le_succ he)  k)
    · replace k := ok_t c_2 k
      exact wp_wk (wkE <| wkE <| wkE <| wkJ <| wkN) (s_X11_readOrder_j134 (Nat.succ_le_succ he)  k)
def f_X11_readOrder_j54 (S : SH) (r0 : Nat) (x1 : Int32) (sr0 : Nat) (sx1 : Int32) (h : AH) : Option (Unit × AH) :=
  (ckO S h sr0 11).bind fun _ =>
  (f_X11_must S sr0 sx1 h).bind fun z => match z with
  | (_, h_2) =>
  (gI S h_2 r0 11 19).bind fun v_4 =>
  if v_4 = (0 : Int32) then
    (gI S h_2 r0 11 21).bind fun v_7 =>
    lt (((8 : Int32) * v_7)) fun y_9 =>
    (gI S h_2 r0 11 21).bind fun v_10 =>
    (pI S h_2 r0 11 21 (v_10 + (1 : Int32))).bind fun h_12 =>
    (f_X11_readOrder_l85 S FU r0 x1 y_9 (0 : Int32) h_12).bind fun z => match z with
    | ((r0_15, x1_16, x2_17), h_14) =>
    (gR S h_14 r0_15 11 49).bind fun p_18 =>
    (sI S h_14 p_18 x2_17 x1_16).bind fun h_20 =>
    if x1_16 = (3 : Int32) then
      f_X11_readOrder_j125 S r0_15 x1_16 x2_17 h_20
    else
      (ckO S h_20 r0_15 11).bind fun _ =>
      (f_X11_readSum S r0_15 ((x2_17 + (1 : Int32))) h_20).bind fun z => match z with
      | (_, h_24) =>
      f_X11_readOrder_j125 S r0_15 x1_16 x2_17 h_24
  else
    some ((), h_2)
set_option maxHeartbeats 8000000 in
set_option maxRecDepth 20000 in
theorem s_X11_readOrder_j54 {S : SH} {d cb sb : Nat} {Q : Option Value → AH → Prop} (hd : 8 ≤ d)  {r0 : Nat} {x1 : Int32} {sr0 : Nat} {sx1 : Int32} {h : AH} (k : ok (f_X11_readOrder_j54 S r0 x1 sr0 sx1 h) (fun _ h' => Q none h')) : WP S M_X11_readOrder d cb sb Q 54 [.ref r0, .int x1, JK, JK] [.int sx1, .ref sr0] h := by
  obtain ⟨d, rfl, he⟩ := dp (L := 7) hd
  unfold f_X11_readOrder_j54 at k
  replace k := ok_bind k
  obtain ⟨u, e_1, k⟩ := k
  refine wp_callV1 (N := M_X11_must) (ci := 11) mf_X11_must mi_X11_must me_X11_must ml_X11_289 dX11_readOrder_54 (ckO_e e_1) mv_X11_must (by exact Nat.le_of_ble_eq_true rfl) (c_X11_must (Nat.le_trans (by decide) he) (ok_mono (ok_bind2 k) fun _ h_2 k => ?_))
  try dsimp only at k
  refine wp_aload_n dX11_readOrder_57 rfl ?_
  replace k := ok_bind k
  obtain ⟨v_4, e_5, k⟩ := k
  refine wq_getI fl_X11_258 (Or.inr rfl) dX11_readOrder_58 e_5 ?_
  refine wp_if_eq 65 dX11_readOrder_61 (by decide) (fun c_6 => ?_) (fun c_6 => ?_)
  · replace k := ok_t c_6 k
    refine wp_bipush dX11_readOrder_65 bp_8 ?_
    refine wp_aload_n dX11_readOrder_67 rfl ?_
    replace k := ok_bind k
    obtain ⟨v_7, e_8, k⟩ := k
    refine wq_getI fl_X11_385 (Or.inl rfl) dX11_readOrder_68 e_8 ?_
    refine wp_imul dX11_readOrder_71 ?_
    replace k := ok_lt k
    refine wp_istore_n dX11_readOrder_72 (by decide) (L1 := [_, _, _, _]) rfl ?_
    refine wp_aload_n dX11_readOrder_73 rfl ?_
    refine wp_dupR dX11_readOrder_74 ?_
    replace k := ok_bind k
    obtain ⟨v_10, e_11, k⟩ := k
    refine wq_getI fl_X11_385 (Or.inl rfl) dX11_readOrder_75 e_11 ?_
    refine wp_iconst dX11_readOrder_78 ic_1 ?_
    refine wp_iadd dX11_readOrder_79 ?_
    replace k := ok_bind k
    obtain ⟨h_12, e_13, k⟩ := k
    refine wq_putI fl_X11_385 rfl rfl dX11_readOrder_80 e_13 ?_
    refine wp_iconst dX11_readOrder_83 ic_0 ?_
    refine wp_istore_n dX11_readOrder_84 (by decide) (L1 := [_, _, _, _]) rfl ?_
    refine wp_wk (wkE <| wkE <| wkE <| wkE <| wkN) ?_
    refine s_X11_readOrder_l85 (Nat.succ_le_succ he) (fun r0_15 x1_16 x2_17 h_14 k => ?_) FU _ _ _ _ _ (ok_bind2 k)
    try dsimp only at k
    refine wp_aload_n dX11_readOrder_106 rfl ?_
    replace k := ok_bind k
    obtain ⟨p_18, e_19, k⟩ := k
    refine wq_getR fl_X11_137 (Or.inr ⟨_, rfl⟩) dX11_readOrder_107 e_19 ?_
    refine wp_iload_n dX11_readOrder_110 rfl ?_
    refine wp_iload_n dX11_readOrder_111 rfl ?_
    replace k := ok_bind k
    obtain ⟨h_20, e_21, k⟩ := k
    refine wq_sI dX11_readOrder_112 e_21 ?_
    refine wp_iload_n dX11_readOrder_113 rfl ?_
    refine wp_iconst dX11_readOrder_114 ic_3 ?_
    refine wp_icmp_eq 125 dX11_readOrder_115 (by decide) (fun c_22 => ?_) (fun c_22 => ?_)
    · replace k := ok_t c_22 k
      exact wp_wk (wkE <| wkE <| wkE <| wkJ <| wkN) (s_X11_readOrder_j125 (Nat.succ_le_succ he)  k)
    · replace k := ok_f c_22 k
      refine wp_aload_n dX11_readOrder_118 rfl ?_
      refine wp_iload_n dX11_readOrder_119 rfl ?_
      refine wp_iconst dX11_readOrder_120 ic_1 ?_
      refine wp_iadd dX11_readOrder_121 ?_
      replace k := ok_bind k
      obtain ⟨u, e_23, k⟩ := k
      refine wp_callV1 (N := M_X11_readSum) (ci := 11) mf_X11_readSum mi_X11_readSum me_X11_readSum ml_X11_504 dX11_readOrder_122 (ckO_e e_23) mv_X11_readSum (by exact Nat.le_of_ble_eq_true rfl) (c_X11_readSum (Nat.le_trans (by decide) he) (ok_mono (ok_bind2 k) fun _ h_24 k => ?_))
      try dsimp only at k
      exact wp_wk (wkE <| wkE <| wkE <| wkJ <| wkN) (s_X11_readOrder_j125 (Nat.succ_le_succ he)  k)
  · replace k := ok_f c_6 k
    refine wp_vret rfl dX11_readOrder_64 ?_
    exact (ok_some k :)
def f_X11_readOrder_j53 (S : SH) (r0 : Nat) (x1 : Int32) (sr0 : Nat) (h : AH) : Option (Unit × AH) :=
  f_X11_readOrder_j54 S r0 x1 sr0 (0 : Int32) h
set_option maxHeartbeats 8000000 in
set_option maxRecDepth 20000 in
theorem s_X11_readOrder_j53 {S : SH} {d cb sb : Nat} {Q : Option Value → AH → Prop} (hd : 8 ≤ d)  {r0 : Nat} {x1 : Int32} {sr0 : Nat} {h : AH} (k : ok (f_X11_readOrder_j53 S r0 x1 sr0 h) (fun _ h' => Q none h')) : WP S M_X11_readOrder d cb sb Q 53 [.ref r0, .int x1, JK, JK] [.ref sr0] h := by
  obtain ⟨d, rfl, he⟩ := dp (L := 7) hd
  unfold f_X11_readOrder_j53 at k
  refine wp_iconst dX11_readOrder_53 ic_0 ?_
  exact wp_wk (wkE <| wkE <| wkJ <| wkJ <| wkN) (s_X11_readOrder_j54 (Nat.succ_le_succ he)  k)
def f_X11_readOrder (S : SH) (r0 : Nat) (h : AH) : Option (Unit × AH) :=
  (f_X11_readOrder_l4 S FU r0 (-1 : Int32) (0 : Int32) h).bind fun z => match z with
  | ((r0_2, x1_3), h_1) =>
  if x1_3 = (-1 : Int32) then
    f_X11_readOrder_j53 S r0_2 x1_3 r0_2 h_1
  else
    (gI S h_1 r0_2 11 21).bind fun v_5 =>
    if (12 : Int32) ≤ v_5 then
      f_X11_readOrder_j53 S r0_2 x1_3 r0_2 h_1
    else
      f_X11_readOrder_j54 S r0_2 x1_3 r0_2 (1 : Int32) h_1
set_option maxHeartbeats 8000000 in
set_option maxRecDepth 20000 in
theorem s_X11_readOrder {S : SH} {d cb sb : Nat} {Q : Option Value → AH → Prop} (hd : 8 ≤ d)  {r0 : Nat} {h : AH} (k : ok (f_X11_readOrder S r0 h) (fun _ h' => Q none h')) : WP S M_X11_readOrder d cb sb Q 0 [.ref r0, JK, JK, JK] [] h := by
  obtain ⟨d, rfl, he⟩ := dp (L := 7) hd
  unfold f_X11_readOrder at k
  refine wp_iconst dX11_readOrder_0 ic_m1 ?_
  refine wp_istore_n dX11_readOrder_1 (by decide) (L1 := [_, _, _, _]) rfl ?_
  refine wp_iconst dX11_readOrder_2 ic_0 ?_
  refine wp_istore_n dX11_readOrder_3 (by decide) (L1 := [_, _, _, _]) rfl ?_
  refine wp_wk (wkE <| wkE <| wkE <| wkJ <| wkN) ?_
  refine s_X11_readOrder_l4 (Nat.succ_le_succ he) (fun r0_2 x1_3 h_1 k => ?_) FU _ _ _ _ (ok_bind2 k)
  try dsimp only at k
  refine wp_aload_n dX11_readOrder_34 rfl ?_
  refine wp_iload_n dX11_readOrder_35 rfl ?_
  refine wp_iconst dX11_readOrder_36 ic_m1 ?_
  refine wp_icmp_eq 53 dX11_readOrder_37 (by decide) (fun c_4 => ?_) (fun c_4 => ?_)
  · replace k := ok_t c_4 k
    exact wp_wk (wkE <| wkE <| wkJ <| wkJ <| wkN) (s_X11_readOrder_j53 (Nat.succ_le_succ he)  k)
  · replace k := ok_f c_4 k
    refine wp_aload_n dX11_readOrder_40 rfl ?_
    replace k := ok_bind k
    obtain ⟨v_5, e_6, k⟩ := k
    refine wq_getI fl_X11_385 (Or.inl rfl) dX11_readOrder_41 e_6 ?_
    refine wp_bipush dX11_readOrder_44 bp_12 ?_
    refine wp_icmp_ge 53 dX11_readOrder_46 (by decide) (fun c_7 => ?_) (fun c_7 => ?_)
    · replace k := ok_t c_7 k
      exact wp_wk (wkE <| wkE <| wkJ <| wkJ <| wkN) (s_X11_readOrder_j53 (Nat.succ_le_succ he)  k)
    · replace k := ok_f c_7 k
      refine wp_iconst dX11_readOrder_49 ic_1 ?_
      refine wp_goto 54 dX11_readOrder_50 (by decide) ?_
      exact wp_wk (wkE <| wkE <| wkJ <| wkJ <| wkN) (s_X11_readOrder_j54 (Nat.succ_le_succ he)  k)
theorem c_X11_readOrder {S : SH} {d : Nat} {K : Option Value → AH → Prop} (hd : 8 ≤ d)  {r0 : Nat} {h : AH} (k : ok (f_X11_readOrder S r0 h) (fun _ h' => K none h')) : CP S M_X11_readOrder d 0 0 [.ref r0] h K := cp_of (by decide) (fun _ _ => trivial) (fun _ => Nat.le_of_ble_eq_true rfl) (s_X11_readOrder hd  k)
def f_X11_sumOf (S : SH) (r0 : Nat) (x1 : Int32) (h : AH) : Option (Int32 × AH) :=
  (gI S h r0 11 53).bind fun v_1 =>
  if v_1 = (0 : Int32) then
    (gR S h r0 11 49).bind fun p_4 =>
    (aI S h p_4 x1).bind fun v_6 =>
    (gR S h r0 11 49).bind fun p_8 =>
    (aI S h p_8 (x1 + (1 : Int32))).bind fun v_10 =>
    if v_6 = v_10 then
      some ((-1 : Int32), h)
    else
      (pZ S h r0 11 20 (1 : Int32)).bind fun h_13 =>
      (gR S h_13 r0 11 49).bind fun p_15 =>
      (aI S h_13 p_15 x1).bind fun v_17 =>
      (gR S h_13 r0 11 49).bind fun p_19 =>
      (aI S h_13 p_19 (x1 + (1 : Int32))).bind fun v_21 =>
      (ckO S h_13 r0 11).bind fun _ =>
      (f_X11_reckonAll S r0 v_17 v_21 h_13).bind fun z => match z with
      | (_, h_24) =>
      (pZ S h_24 r0 11 20 (0 : Int32)).bind fun h_26 =>
      (gI S h_26 r0 11 38).bind fun v_28 =>
      (pZ S h_26 r0 11 53 v_28).bind fun h_30 =>
      (gJ S h_30 r0 11 39).bind fun w_32 =>
      some ((Int64.toInt32 w_32), h_30)
  else
    some ((-1 : Int32), h)
set_option maxHeartbeats 8000000 in
set_option maxRecDepth 20000 in
theorem s_X11_sumOf {S : SH} {d cb sb : Nat} {Q : Option Value → AH → Prop} (hd : 3 ≤ d)  {r0 : Nat} {x1 : Int32} {h : AH} (k : ok (f_X11_sumOf S r0 x1 h) (fun w h' => Q (some (.int w)) h')) : WP S M_X11_sumOf d cb sb Q 0 [.ref r0, .int x1] [] h := by
  obtain ⟨d, rfl, he⟩ := dp (L := 2) hd
  unfold f_X11_sumOf at k
  refine wp_aload_n dX11_sumOf_0 rfl ?_
  replace k := ok_bind k
  obtain ⟨v_1, e_2, k⟩ := k
  refine wq_getI fl_X11_513 (Or.inr rfl) dX11_sumOf_1 e_2 ?_
  refine wp_if_ne 24 dX11_sumOf_4 (by decide) (fun c_3 => ?_) (fun c_3 => ?_)
  · replace k := ok_f c_3 k
    refine wp_iconst dX11_sumOf_24 ic_m1 ?_
    refine wp_iret rfl rfl dX11_sumOf_25 ?_
    exact (ok_some k :)
  · replace k := ok_t c_3 k
    refine wp_aload_n dX11_sumOf_7 rfl ?_
    replace k := ok_bind k
    obtain ⟨p_4, e_5, k⟩ := k
    refine wq_getR fl_X11_137 (Or.inr ⟨_, rfl⟩) dX11_sumOf_8 e_5 ?_
    refine wp_iload_n dX11_sumOf_11 rfl ?_
    replace k := ok_bind k
    obtain ⟨v_6, e_7, k⟩ := k
    refine wq_aI dX11_sumOf_12 e_7 ?_
    refine wp_aload_n dX11_sumOf_13 rfl ?_
    replace k := ok_bind k
    obtain ⟨p_8, e_9, k⟩ := k
    refine wq_getR fl_X11_137 (Or.inr ⟨_, rfl⟩) dX11_sumOf_14 e_9 ?_
    refine wp_iload_n dX11_sumOf_17 rfl ?_
    refine wp_iconst dX11_sumOf_18 ic_1 ?_
    refine wp_iadd dX11_sumOf_19 ?_
    replace k := ok_bind k
    obtain ⟨v_10, e_11, k⟩ := k
    refine wq_aI dX11_sumOf_20 e_11 ?_
    refine wp_icmp_ne 26 dX11_sumOf_21 (by decide) (fun c_12 => ?_) (fun c_12 => ?_)
    · replace k := ok_f c_12 k
      refine wp_aload_n dX11_sumOf_26 rfl ?_
      refine wp_iconst dX11_sumOf_27 ic_1 ?_
      replace k := ok_bind k
      obtain ⟨h_13, e_14, k⟩ := k
      refine wq_putZ fl_X11_331 rfl rfl dX11_sumOf_28 e_14 ?_
      refine wp_aload_n dX11_sumOf_31 rfl ?_
      refine wp_aload_n dX11_sumOf_32 rfl ?_
      replace k := ok_bind k
      obtain ⟨p_15, e_16, k⟩ := k
      refine wq_getR fl_X11_137 (Or.inr ⟨_, rfl⟩) dX11_sumOf_33 e_16 ?_
      refine wp_iload_n dX11_sumOf_36 rfl ?_
      replace k := ok_bind k
      obtain ⟨v_17, e_18, k⟩ := k
      refine wq_aI dX11_sumOf_37 e_18 ?_
      refine wp_aload_n dX11_sumOf_38 rfl ?_
      replace k := ok_bind k
      obtain ⟨p_19, e_20, k⟩ := k
      refine wq_getR fl_X11_137 (Or.inr ⟨_, rfl⟩) dX11_sumOf_39 e_20 ?_
      refine wp_iload_n dX11_sumOf_42 rfl ?_
      refine wp_iconst dX11_sumOf_43 ic_1 ?_
      refine wp_iadd dX11_sumOf_44 ?_
      replace k := ok_bind k
      obtain ⟨v_21, e_22, k⟩ := k
      refine wq_aI dX11_sumOf_45 e_22 ?_
      replace k := ok_bind k
      obtain ⟨u, e_23, k⟩ := k
      refine wp_callV2 (N := M_X11_reckonAll) (ci := 11) mf_X11_reckonAll mi_X11_reckonAll me_X11_reckonAll ml_X11_422 dX11_sumOf_46 (ckO_e e_23) mv_X11_reckonAll (by exact Nat.le_of_ble_eq_true rfl) (c_X11_reckonAll (Nat.le_trans (by decide) he) (ok_mono (ok_bind2 k) fun _ h_24 k => ?_))
      try dsimp only at k
      refine wp_aload_n dX11_sumOf_49 rfl ?_
      refine wp_iconst dX11_sumOf_50 ic_0 ?_
      replace k := ok_bind k
      obtain ⟨h_26, e_27, k⟩ := k
      refine wq_putZ fl_X11_331 rfl rfl dX11_sumOf_51 e_27 ?_
      refine wp_aload_n dX11_sumOf_54 rfl ?_
      refine wp_aload_n dX11_sumOf_55 rfl ?_
      replace k := ok_bind k
      obtain ⟨v_28, e_29, k⟩ := k
      refine wq_getI fl_X11_405 (Or.inr rfl) dX11_sumOf_56 e_29 ?_
      replace k := ok_bind k
      obtain ⟨h_30, e_31, k⟩ := k
      refine wq_putZ fl_X11_513 rfl rfl dX11_sumOf_59 e_31 ?_
      refine wp_aload_n dX11_sumOf_62 rfl ?_
      replace k := ok_bind k
      obtain ⟨w_32, e_33, k⟩ := k
      refine wq_getJ fl_X11_419 rfl dX11_sumOf_63 e_33 ?_
      refine wp_l2i dX11_sumOf_66 ?_
      refine wp_iret rfl rfl dX11_sumOf_67 ?_
      exact (ok_some k :)
    · replace k := ok_t c_12 k
      refine wp_iconst dX11_sumOf_24 ic_m1 ?_
      refine wp_iret rfl rfl dX11_sumOf_25 ?_
      exact (ok_some k :)
theorem c_X11_sumOf {S : SH} {d : Nat} {K : Option Value → AH → Prop} (hd : 3 ≤ d)  {r0 : Nat} {x1 : Int32} {h : AH} (k : ok (f_X11_sumOf S r0 x1 h) (fun w h' => K (some (.int w)) h')) : CP S M_X11_sumOf d 0 0 [.ref r0, .int x1] h K := cp_of (by decide) (fun _ _ => trivial) (fun _ => Nat.le_of_ble_eq_true rfl) (s_X11_sumOf hd  k)
def f_X11_act (S : SH) (r0 : Nat) (x1 : Int32) (x2 : Int32) (x3 : Int32) (h : AH) : Option (Int32 × AH) :=
  if x1 = (0 : Int32) then
    (ckO S h r0 11).bind fun _ =>
    (f_X11_moveNow S r0 x2 x3 h).bind fun z => match z with
    | (z_4, h_3) =>
    some (z_4, h_3)
  else
  if x1 = (1 : Int32) then
    (ckO S h r0 11).bind fun _ =>
    (f_X11_divideNow S r0 x2 h).bind fun z => match z with
    | (z_8, h_7) =>
    some (z_8, h_7)
  else
  if x1 = (2 : Int32) then
    (ckO S h r0 11).bind fun _ =>
    (f_X11_flyNow S r0 x2 x3 h).bind fun z => match z with
    | (z_12, h_11) =>
    some (z_12, h_11)
  else
  (ckO S h r0 11).bind fun _ =>
  (f_X11_passNow S r0 h).bind fun z => match z with
  | (z_15, h_14) =>
  some (z_15, h_14)
set_option maxHeartbeats 8000000 in
set_option maxRecDepth 20000 in
theorem s_X11_act {S : SH} {d cb sb : Nat} {Q : Option Value → AH → Prop} (hd : 10 ≤ d)  {r0 : Nat} {x1 : Int32} {x2 : Int32} {x3 : Int32} {h : AH} (k : ok (f_X11_act S r0 x1 x2 x3 h) (fun w h' => Q (some (.int w)) h')) : WP S M_X11_act d cb sb Q 0 [.ref r0, .int x1, .int x2, .int x3] [] h := by
  obtain ⟨d, rfl, he⟩ := dp (L := 9) hd
  unfold f_X11_act at k
  refine wp_iload_n dX11_act_0 rfl ?_
  refine wp_case (0 : Int32) (fun c_1 => ?_) (fun c_1 => ?_)
  · refine wp_tabIn 28 dX11_act_1 (by rw [c_1]; decide) (by rw [c_1]; decide) (by rw [c_1]; rfl) (by decide) ?_
    replace k := ok_t c_1 k
    refine wp_aload_n dX11_act_28 rfl ?_
    refine wp_iload_n dX11_act_29 rfl ?_
    refine wp_iload_n dX11_act_30 rfl ?_
    replace k := ok_bind k
    obtain ⟨u, e_2, k⟩ := k
    refine wp_callV2 (N := M_X11_moveNow) (ci := 11) mf_X11_moveNow mi_X11_moveNow me_X11_moveNow ml_X11_454 dX11_act_31 (ckO_e e_2) mv_X11_moveNow (by exact Nat.le_of_ble_eq_true rfl) (c_X11_moveNow (Nat.le_trans (by decide) he) (ok_mono (ok_bind2 k) fun z_4 h_3 k => ?_))
    try dsimp only at k
    refine wp_iret rfl rfl dX11_act_34 ?_
    exact (ok_some k :)
  replace k := ok_f c_1 k
  refine wp_case (1 : Int32) (fun c_5 => ?_) (fun c_5 => ?_)
  · refine wp_tabIn 35 dX11_act_1 (by rw [c_5]; decide) (by rw [c_5]; decide) (by rw [c_5]; rfl) (by decide) ?_
    replace k := ok_t c_5 k
    refine wp_aload_n dX11_act_35 rfl ?_
    refine wp_iload_n dX11_act_36 rfl ?_
    replace k := ok_bind k
    obtain ⟨u, e_6, k⟩ := k
    refine wp_callV1 (N := M_X11_divideNow) (ci := 11) mf_X11_divideNow mi_X11_divideNow me_X11_divideNow ml_X11_460 dX11_act_37 (ckO_e e_6) mv_X11_divideNow (by exact Nat.le_of_ble_eq_true rfl) (c_X11_divideNow (Nat.le_trans (by decide) he) (ok_mono (ok_bind2 k) fun z_8 h_7 k => ?_))
    try dsimp only at k
    refine wp_iret rfl rfl dX11_act_40 ?_
    exact (ok_some k :)
  replace k := ok_f c_5 k
  refine wp_case (2 : Int32) (fun c_9 => ?_) (fun c_9 => ?_)
  · refine wp_tabIn 41 dX11_act_1 (by rw [c_9]; decide) (by rw [c_9]; decide) (by rw [c_9]; rfl) (by decide) ?_
    replace k := ok_t c_9 k
    refine wp_aload_n dX11_act_41 rfl ?_
    refine wp_iload_n dX11_act_42 rfl ?_
    refine wp_iload_n dX11_act_43 rfl ?_
    replace k := ok_bind k
    obtain ⟨u, e_10, k⟩ := k
    refine wp_callV2 (N := M_X11_flyNow) (ci := 11) mf_X11_flyNow mi_X11_flyNow me_X11_flyNow ml_X11_463 dX11_act_44 (ckO_e e_10) mv_X11_flyNow (by exact Nat.le_of_ble_eq_true rfl) (c_X11_flyNow (Nat.le_trans (by decide) he) (ok_mono (ok_bind2 k) fun z_12 h_11 k => ?_))
    try dsimp only at k
    refine wp_iret rfl rfl dX11_act_47 ?_
    exact (ok_some k :)
  replace k := ok_f c_9 k
  refine wp_tabOut 48 dX11_act_1 (tab_out (n := 3) (fun i hi => ?_)) (by decide) ?_
  · match i, hi with
    | 0, _ => exact ti_ne c_1 (by decide)
    | 1, _ => exact ti_ne c_5 (by decide)
    | 2, _ => exact ti_ne c_9 (by decide)
    | i + 3, hi => exact absurd hi (by omega)
  refine wp_aload_n dX11_act_48 rfl ?_
  replace k := ok_bind k
  obtain ⟨u, e_13, k⟩ := k
  refine wp_callV0 (N := M_X11_passNow) (ci := 11) mf_X11_passNow mi_X11_passNow me_X11_passNow ml_X11_469 dX11_act_49 (ckO_e e_13) mv_X11_passNow (by exact Nat.le_of_ble_eq_true rfl) (c_X11_passNow (Nat.le_trans (by decide) he) (ok_mono (ok_bind2 k) fun z_15 h_14 k => ?_))
  try dsimp only at k
  refine wp_iret rfl rfl dX11_act_52 ?_
  exact (ok_some k :)
theorem c_X11_act {S : SH} {d : Nat} {K : Option Value → AH → Prop} (hd : 10 ≤ d)  {r0 : Nat} {x1 : Int32} {x2 : Int32} {x3 : Int32} {h : AH} (k : ok (f_X11_act S r0 x1 x2 x3 h) (fun w h' => K (some (.int w)) h')) : CP S M_X11_act d 0 0 [.ref r0, .int x1, .int x2, .int x3] h K := cp_of (by decide) (fun _ _ => trivial) (fun _ => Nat.le_of_ble_eq_true rfl) (s_X11_act hd  k)
def f_X11_run_j109 (S : SH) (r0 : Nat) (x1 : Int32) (h : AH) : Option (Int32 × AH) :=
  (ckO S h r0 11).bind fun _ =>
  (f_X11_sumOf S r0 ((x1 + (1 : Int32))) h).bind fun z => match z with
  | (z_3, h_2) =>
  (ckO S h_2 r0 11).bind fun _ =>
  (f_X11_sumOf S r0 ((x1 + (3 : Int32))) h_2).bind fun z => match z with
  | (z_6, h_5) =>
  (gI S h_5 r0 11 53).bind fun v_7 =>
  if v_7 = (0 : Int32) then
    (gR S h_5 r0 11 49).bind fun p_10 =>
    (aI S h_5 p_10 x1).bind fun v_12 =>
    (ckO S h_5 r0 11).bind fun _ =>
    (f_X11_act S r0 v_12 z_3 z_6 h_5).bind fun z => match z with
    | (z_16, h_15) =>
    if (0 : Int32) ≤ z_16 then
      (gR S h_15 r0 11 49).bind fun p_18 =>
      (aI S h_15 p_18 x1).bind fun v_20 =>
      if v_20 = (1 : Int32) then
        (pI S h_15 r0 11 51 z_16).bind fun h_31 =>
        (gI S h_31 r0 11 50).bind fun v_33 =>
        (pI S h_31 r0 11 50 (v_33 + (1 : Int32))).bind fun h_35 =>
        some ((0 : Int32), h_35)
      else
        (gI S h_15 r0 11 51).bind fun v_23 =>
        (pI S h_15 r0 11 51 v_23).bind fun h_25 =>
        (gI S h_25 r0 11 50).bind fun v_27 =>
        (pI S h_25 r0 11 50 (v_27 + (1 : Int32))).bind fun h_29 =>
        some ((0 : Int32), h_29)
    else
      some ((-3 : Int32), h_15)
  else
    some ((-3 : Int32), h_5)
set_option maxHeartbeats 8000000 in
set_option maxRecDepth 20000 in
theorem s_X11_run_j109 {S : SH} {d cb sb : Nat} {Q : Option Value → AH → Prop} (hd : 11 ≤ d)  {r0 : Nat} {x1 : Int32} {h : AH} (k : ok (f_X11_run_j109 S r0 x1 h) (fun w h' => Q (some (.int w)) h')) : WP S M_X11_run d cb sb Q 109 [.ref r0, .int x1, JK, JK, JK] [] h := by
  obtain ⟨d, rfl, he⟩ := dp (L := 10) hd
  unfold f_X11_run_j109 at k
  refine wp_aload_n dX11_run_109 rfl ?_
  refine wp_iload_n dX11_run_110 rfl ?_
  refine wp_iconst dX11_run_111 ic_1 ?_
  refine wp_iadd dX11_run_112 ?_
  replace k := ok_bind k
  obtain ⟨u, e_1, k⟩ := k
  refine wp_callV1 (N := M_X11_sumOf) (ci := 11) mf_X11_sumOf mi_X11_sumOf me_X11_sumOf ml_X11_522 dX11_run_113 (ckO_e e_1) mv_X11_sumOf (by exact Nat.le_of_ble_eq_true rfl) (c_X11_sumOf (Nat.le_trans (by decide) he) (ok_mono (ok_bind2 k) fun z_3 h_2 k => ?_))
  try dsimp only at k
  refine wp_istore_n dX11_run_116 (by decide) (L1 := [_, _, _, _, _]) rfl ?_
  refine wp_aload_n dX11_run_117 rfl ?_
  refine wp_iload_n dX11_run_118 rfl ?_
  refine wp_iconst dX11_run_119 ic_3 ?_
  refine wp_iadd dX11_run_120 ?_
  replace k := ok_bind k
  obtain ⟨u, e_4, k⟩ := k
  refine wp_callV1 (N := M_X11_sumOf) (ci := 11) mf_X11_sumOf mi_X11_sumOf me_X11_sumOf ml_X11_522 dX11_run_121 (ckO_e e_4) mv_X11_sumOf (by exact Nat.le_of_ble_eq_true rfl) (c_X11_sumOf (Nat.le_trans (by decide) he) (ok_mono (ok_bind2 k) fun z_6 h_5 k => ?_))
  try dsimp only at k
  refine wp_istore_n dX11_run_124 (by decide) (L1 := [_, _, _, _, _]) rfl ?_
  refine wp_aload_n dX11_run_125 rfl ?_
  replace k := ok_bind k
  obtain ⟨v_7, e_8, k⟩ := k
  refine wq_getI fl_X11_513 (Or.inr rfl) dX11_run_126 e_8 ?_
  refine wp_if_eq 135 dX11_run_129 (by decide) (fun c_9 => ?_) (fun c_9 => ?_)
  · replace k := ok_t c_9 k
    refine wp_aload_n dX11_run_135 rfl ?_
    refine wp_aload_n dX11_run_136 rfl ?_
    replace k := ok_bind k
    obtain ⟨p_10, e_11, k⟩ := k
    refine wq_getR fl_X11_137 (Or.inr ⟨_, rfl⟩) dX11_run_137 e_11 ?_
    refine wp_iload_n dX11_run_140 rfl ?_
    replace k := ok_bind k
    obtain ⟨v_12, e_13, k⟩ := k
    refine wq_aI dX11_run_141 e_13 ?_
    refine wp_iload_n dX11_run_142 rfl ?_
    refine wp_iload_n dX11_run_143 rfl ?_
    replace k := ok_bind k
    obtain ⟨u, e_14, k⟩ := k
    refine wp_callV3 (N := M_X11_act) (ci := 11) mf_X11_act mi_X11_act me_X11_act ml_X11_525 dX11_run_144 (ckO_e e_14) mv_X11_act (by exact Nat.le_of_ble_eq_true rfl) (c_X11_act (Nat.le_trans (by decide) he) (ok_mono (ok_bind2 k) fun z_16 h_15 k => ?_))
    try dsimp only at k
    refine wp_istore dX11_run_147 (by decide) (L1 := [_, _, _, _, _]) rfl ?_
    refine wp_iload dX11_run_149 rfl ?_
    refine wp_if_ge 157 dX11_run_151 (by decide) (fun c_17 => ?_) (fun c_17 => ?_)
    · replace k := ok_t c_17 k
      refine wp_aload_n dX11_run_157 rfl ?_
      refine wp_aload_n dX11_run_158 rfl ?_
      replace k := ok_bind k
      obtain ⟨p_18, e_19, k⟩ := k
      refine wq_getR fl_X11_137 (Or.inr ⟨_, rfl⟩) dX11_run_159 e_19 ?_
      refine wp_iload_n dX11_run_162 rfl ?_
      replace k := ok_bind k
      obtain ⟨v_20, e_21, k⟩ := k
      refine wq_aI dX11_run_163 e_21 ?_
      refine wp_iconst dX11_run_164 ic_1 ?_
      refine wp_icmp_ne 173 dX11_run_165 (by decide) (fun c_22 => ?_) (fun c_22 => ?_)
      · replace k := ok_f c_22 k
        refine wp_aload_n dX11_run_173 rfl ?_
        replace k := ok_bind k
        obtain ⟨v_23, e_24, k⟩ := k
        refine wq_getI fl_X11_519 (Or.inl rfl) dX11_run_174 e_24 ?_
        replace k := ok_bind k
        obtain ⟨h_25, e_26, k⟩ := k
        refine wq_putI fl_X11_519 rfl rfl dX11_run_177 e_26 ?_
        refine wp_aload_n dX11_run_180 rfl ?_
        refine wp_dupR dX11_run_181 ?_
        replace k := ok_bind k
        obtain ⟨v_27, e_28, k⟩ := k
        refine wq_getI fl_X11_516 (Or.inl rfl) dX11_run_182 e_28 ?_
        refine wp_iconst dX11_run_185 ic_1 ?_
        refine wp_iadd dX11_run_186 ?_
        replace k := ok_bind k
        obtain ⟨h_29, e_30, k⟩ := k
        refine wq_putI fl_X11_516 rfl rfl dX11_run_187 e_30 ?_
        refine wp_iconst dX11_run_190 ic_0 ?_
        refine wp_iret rfl rfl dX11_run_191 ?_
        exact (ok_some k :)
      · replace k := ok_t c_22 k
        refine wp_iload dX11_run_168 rfl ?_
        refine wp_goto 177 dX11_run_170 (by decide) ?_
        replace k := ok_bind k
        obtain ⟨h_31, e_32, k⟩ := k
        refine wq_putI fl_X11_519 rfl rfl dX11_run_177 e_32 ?_
        refine wp_aload_n dX11_run_180 rfl ?_
        refine wp_dupR dX11_run_181 ?_
        replace k := ok_bind k
        obtain ⟨v_33, e_34, k⟩ := k
        refine wq_getI fl_X11_516 (Or.inl rfl) dX11_run_182 e_34 ?_
        refine wp_iconst dX11_run_185 ic_1 ?_
        refine wp_iadd dX11_run_186 ?_
        replace k := ok_bind k
        obtain ⟨h_35, e_36, k⟩ := k
        refine wq_putI fl_X11_516 rfl rfl dX11_run_187 e_36 ?_
        refine wp_iconst dX11_run_190 ic_0 ?_
        refine wp_iret rfl rfl dX11_run_191 ?_
        exact (ok_some k :)
    · replace k := ok_f c_17 k
      refine wp_bipush dX11_run_154 bp_m3 ?_
      refine wp_iret rfl rfl dX11_run_156 ?_
      exact (ok_some k :)
  · replace k := ok_f c_9 k
    refine wp_bipush dX11_run_132 bp_m3 ?_
    refine wp_iret rfl rfl dX11_run_134 ?_
    exact (ok_some k :)
def f_X11_run (S : SH) (r0 : Nat) (x1 : Int32) (h : AH) : Option (Int32 × AH) :=
  (gR S h r0 11 36).bind fun p_1 =>
  (gR S h r0 11 3).bind fun p_3 =>
  (aI S h p_3 (5 : Int32)).bind fun v_5 =>
  (sJ S h p_1 (1 : Int32) (Int32.toInt64 v_5)).bind fun h_7 =>
  (gR S h_7 r0 11 36).bind fun p_9 =>
  (gI S h_7 r0 11 50).bind fun v_11 =>
  (sJ S h_7 p_9 (2 : Int32) (Int32.toInt64 v_11)).bind fun h_13 =>
  (gR S h_13 r0 11 36).bind fun p_15 =>
  (gI S h_13 r0 11 51).bind fun v_17 =>
  (sJ S h_13 p_15 (3 : Int32) (Int32.toInt64 v_17)).bind fun h_19 =>
  (gR S h_19 r0 11 36).bind fun p_21 =>
  (gR S h_19 r0 11 3).bind fun p_23 =>
  (aI S h_19 p_23 (9 : Int32)).bind fun v_25 =>
  (sJ S h_19 p_21 (4 : Int32) (Int32.toInt64 v_25)).bind fun h_27 =>
  (gR S h_27 r0 11 36).bind fun p_29 =>
  (ckO S h_27 r0 11).bind fun _ =>
  (f_X11_present S r0 h_27).bind fun z => match z with
  | (z_33, h_32) =>
  (f_X11_ones S z_33 h_32).bind fun z => match z with
  | (z_35, h_34) =>
  (sJ S h_34 p_29 (5 : Int32) (Int32.toInt64 z_35)).bind fun h_36 =>
  (pZ S h_36 r0 11 53 (0 : Int32)).bind fun h_38 =>
  (gR S h_38 r0 11 49).bind fun p_40 =>
  (aI S h_38 p_40 (x1 + (5 : Int32))).bind fun v_42 =>
  (gR S h_38 r0 11 49).bind fun p_44 =>
  (aI S h_38 p_44 (x1 + (6 : Int32))).bind fun v_46 =>
  if v_46 ≤ v_42 then
    f_X11_run_j109 S r0 x1 h_38
  else
    (ckO S h_38 r0 11).bind fun _ =>
    (f_X11_sumOf S r0 ((x1 + (5 : Int32))) h_38).bind fun z => match z with
    | (z_51, h_50) =>
    (gI S h_50 r0 11 53).bind fun v_52 =>
    if v_52 = (0 : Int32) then
      if z_51 = (0 : Int32) then
        some ((0 : Int32), h_50)
      else
        f_X11_run_j109 S r0 x1 h_50
    else
      some ((0 : Int32), h_50)
set_option maxHeartbeats 8000000 in
set_option maxRecDepth 20000 in
theorem s_X11_run {S : SH} {d cb sb : Nat} {Q : Option Value → AH → Prop} (hd : 11 ≤ d)  {r0 : Nat} {x1 : Int32} {h : AH} (k : ok (f_X11_run S r0 x1 h) (fun w h' => Q (some (.int w)) h')) : WP S M_X11_run d cb sb Q 0 [.ref r0, .int x1, JK, JK, JK] [] h := by
  obtain ⟨d, rfl, he⟩ := dp (L := 10) hd
  unfold f_X11_run at k
  refine wp_aload_n dX11_run_0 rfl ?_
  replace k := ok_bind k
  obtain ⟨p_1, e_2, k⟩ := k
  refine wq_getR fl_X11_102 (Or.inr ⟨_, rfl⟩) dX11_run_1 e_2 ?_
  refine wp_iconst dX11_run_4 ic_1 ?_
  refine wp_aload_n dX11_run_5 rfl ?_
  replace k := ok_bind k
  obtain ⟨p_3, e_4, k⟩ := k
  refine wq_getR fl_X11_13 (Or.inr ⟨_, rfl⟩) dX11_run_6 e_4 ?_
  refine wp_iconst dX11_run_9 ic_5 ?_
  replace k := ok_bind k
  obtain ⟨v_5, e_6, k⟩ := k
  refine wq_aI dX11_run_10 e_6 ?_
  refine wp_i2l dX11_run_11 ?_
  replace k := ok_bind k
  obtain ⟨h_7, e_8, k⟩ := k
  refine wq_sJ dX11_run_12 e_8 ?_
  refine wp_aload_n dX11_run_13 rfl ?_
  replace k := ok_bind k
  obtain ⟨p_9, e_10, k⟩ := k
  refine wq_getR fl_X11_102 (Or.inr ⟨_, rfl⟩) dX11_run_14 e_10 ?_
  refine wp_iconst dX11_run_17 ic_2 ?_
  refine wp_aload_n dX11_run_18 rfl ?_
  replace k := ok_bind k
  obtain ⟨v_11, e_12, k⟩ := k
  refine wq_getI fl_X11_516 (Or.inl rfl) dX11_run_19 e_12 ?_
  refine wp_i2l dX11_run_22 ?_
  replace k := ok_bind k
  obtain ⟨h_13, e_14, k⟩ := k
  refine wq_sJ dX11_run_23 e_14 ?_
  refine wp_aload_n dX11_run_24 rfl ?_
  replace k := ok_bind k
  obtain ⟨p_15, e_16, k⟩ := k
  refine wq_getR fl_X11_102 (Or.inr ⟨_, rfl⟩) dX11_run_25 e_16 ?_
  refine wp_iconst dX11_run_28 ic_3 ?_
  refine wp_aload_n dX11_run_29 rfl ?_
  replace k := ok_bind k
  obtain ⟨v_17, e_18, k⟩ := k
  refine wq_getI fl_X11_519 (Or.inl rfl) dX11_run_30 e_18 ?_
  refine wp_i2l dX11_run_33 ?_
  replace k := ok_bind k
  obtain ⟨h_19, e_20, k⟩ := k
  refine wq_sJ dX11_run_34 e_20 ?_
  refine wp_aload_n dX11_run_35 rfl ?_
  replace k := ok_bind k
  obtain ⟨p_21, e_22, k⟩ := k
  refine wq_getR fl_X11_102 (Or.inr ⟨_, rfl⟩) dX11_run_36 e_22 ?_
  refine wp_iconst dX11_run_39 ic_4 ?_
  refine wp_aload_n dX11_run_40 rfl ?_
  replace k := ok_bind k
  obtain ⟨p_23, e_24, k⟩ := k
  refine wq_getR fl_X11_13 (Or.inr ⟨_, rfl⟩) dX11_run_41 e_24 ?_
  refine wp_bipush dX11_run_44 bp_9 ?_
  replace k := ok_bind k
  obtain ⟨v_25, e_26, k⟩ := k
  refine wq_aI dX11_run_46 e_26 ?_
  refine wp_i2l dX11_run_47 ?_
  replace k := ok_bind k
  obtain ⟨h_27, e_28, k⟩ := k
  refine wq_sJ dX11_run_48 e_28 ?_
  refine wp_aload_n dX11_run_49 rfl ?_
  replace k := ok_bind k
  obtain ⟨p_29, e_30, k⟩ := k
  refine wq_getR fl_X11_102 (Or.inr ⟨_, rfl⟩) dX11_run_50 e_30 ?_
  refine wp_iconst dX11_run_53 ic_5 ?_
  refine wp_aload_n dX11_run_54 rfl ?_
  replace k := ok_bind k
  obtain ⟨u, e_31, k⟩ := k
  refine wp_callV0 (N := M_X11_present) (ci := 11) mf_X11_present mi_X11_present me_X11_present ml_X11_488 dX11_run_55 (ckO_e e_31) mv_X11_present (by exact Nat.le_of_ble_eq_true rfl) (c_X11_present (Nat.le_trans (by decide) he) (ok_mono (ok_bind2 k) fun z_33 h_32 k => ?_))
  try dsimp only at k
  refine wp_callS1 (N := M_X11_ones) mf_X11_ones ms_X11_ones ml_X11_439 dX11_run_58 (by exact Nat.le_of_ble_eq_true rfl) (c_X11_ones (Nat.le_trans (by decide) he) (ok_mono (ok_bind2 k) fun z_35 h_34 k => ?_))
  try dsimp only at k
  refine wp_i2l dX11_run_61 ?_
  replace k := ok_bind k
  obtain ⟨h_36, e_37, k⟩ := k
  refine wq_sJ dX11_run_62 e_37 ?_
  refine wp_aload_n dX11_run_63 rfl ?_
  refine wp_iconst dX11_run_64 ic_0 ?_
  replace k := ok_bind k
  obtain ⟨h_38, e_39, k⟩ := k
  refine wq_putZ fl_X11_513 rfl rfl dX11_run_65 e_39 ?_
  refine wp_aload_n dX11_run_68 rfl ?_
  replace k := ok_bind k
  obtain ⟨p_40, e_41, k⟩ := k
  refine wq_getR fl_X11_137 (Or.inr ⟨_, rfl⟩) dX11_run_69 e_41 ?_
  refine wp_iload_n dX11_run_72 rfl ?_
  refine wp_iconst dX11_run_73 ic_5 ?_
  refine wp_iadd dX11_run_74 ?_
  replace k := ok_bind k
  obtain ⟨v_42, e_43, k⟩ := k
  refine wq_aI dX11_run_75 e_43 ?_
  refine wp_aload_n dX11_run_76 rfl ?_
  replace k := ok_bind k
  obtain ⟨p_44, e_45, k⟩ := k
  refine wq_getR fl_X11_137 (Or.inr ⟨_, rfl⟩) dX11_run_77 e_45 ?_
  refine wp_iload_n dX11_run_80 rfl ?_
  refine wp_bipush dX11_run_81 bp_6 ?_
  refine wp_iadd dX11_run_83 ?_
  replace k := ok_bind k
  obtain ⟨v_46, e_47, k⟩ := k
  refine wq_aI dX11_run_84 e_47 ?_
  refine wp_icmp_ge 109 dX11_run_85 (by decide) (fun c_48 => ?_) (fun c_48 => ?_)
  · replace k := ok_t c_48 k
    exact wp_wk (wkE <| wkE <| wkJ <| wkJ <| wkJ <| wkN) (s_X11_run_j109 (Nat.succ_le_succ he)  k)
  · replace k := ok_f c_48 k
    refine wp_aload_n dX11_run_88 rfl ?_
    refine wp_iload_n dX11_run_89 rfl ?_
    refine wp_iconst dX11_run_90 ic_5 ?_
    refine wp_iadd dX11_run_91 ?_
    replace k := ok_bind k
    obtain ⟨u, e_49, k⟩ := k
    refine wp_callV1 (N := M_X11_sumOf) (ci := 11) mf_X11_sumOf mi_X11_sumOf me_X11_sumOf ml_X11_522 dX11_run_92 (ckO_e e_49) mv_X11_sumOf (by exact Nat.le_of_ble_eq_true rfl) (c_X11_sumOf (Nat.le_trans (by decide) he) (ok_mono (ok_bind2 k) fun z_51 h_50 k => ?_))
    try dsimp only at k
    refine wp_istore_n dX11_run_95 (by decide) (L1 := [_, _, _, _, _]) rfl ?_
    refine wp_aload_n dX11_run_96 rfl ?_
    replace k := ok_bind k
    obtain ⟨v_52, e_53, k⟩ := k
    refine wq_getI fl_X11_513 (Or.inr rfl) dX11_run_97 e_53 ?_
    refine wp_if_ne 107 dX11_run_100 (by decide) (fun c_54 => ?_) (fun c_54 => ?_)
    · replace k := ok_f c_54 k
      refine wp_iconst dX11_run_107 ic_0 ?_
      refine wp_iret rfl rfl dX11_run_108 ?_
      exact (ok_some k :)
    · replace k := ok_t c_54 k
      refine wp_iload_n dX11_run_103 rfl ?_
      refine wp_if_ne 109 dX11_run_104 (by decide) (fun c_55 => ?_) (fun c_55 => ?_)
      · replace k := ok_f c_55 k
        exact wp_wk (wkE <| wkE <| wkJ <| wkJ <| wkJ <| wkN) (s_X11_run_j109 (Nat.succ_le_succ he)  k)
      · replace k := ok_t c_55 k
        refine wp_iconst dX11_run_107 ic_0 ?_
        refine wp_iret rfl rfl dX11_run_108 ?_
        exact (ok_some k :)
theorem c_X11_run {S : SH} {d : Nat} {K : Option Value → AH → Prop} (hd : 11 ≤ d)  {r0 : Nat} {x1 : Int32} {h : AH} (k : ok (f_X11_run S r0 x1 h) (fun w h' => K (some (.int w)) h')) : CP S M_X11_run d 0 0 [.ref r0, .int x1] h K := cp_of (by decide) (fun _ _ => trivial) (fun _ => Nat.le_of_ble_eq_true rfl) (s_X11_run hd  k)
def f_X11_giveBack_l8b (S : SH) (rc : Nat → Int32 → Int32 → AH → Option ((Nat × Int32) × AH)) (r0 : Nat) (x1 : Int32) (x2 : Int32) (h : AH) : Option ((Nat × Int32) × AH) :=
  if (288 : Int32) ≤ x2 then
    some ((r0, x1), h)
  else
    (gR S h r0 11 6).bind fun p_2 =>
    (gR S h r0 11 9).bind fun p_4 =>
    (aI S h p_4 x2).bind fun v_6 =>
    (sI S h p_2 x2 v_6).bind fun h_8 =>
    lt (x2 + (1 : Int32)) fun y_10 =>
    rc r0 x1 y_10 h_8
set_option maxHeartbeats 8000000 in
set_option maxRecDepth 20000 in
theorem s_X11_giveBack_l8b {S : SH} {d cb sb : Nat} {Q : Option Value → AH → Prop} (hd : 1 ≤ d) {K : (Nat × Int32) → AH → Prop} (hex : ∀ (r0 : Nat) (x1 : Int32) (h' : AH), K (r0, x1) h' → WP S M_X11_giveBack d cb sb Q 33 [.ref r0, .int x1, JK] [] h') {rc : Nat → Int32 → Int32 → AH → Option ((Nat × Int32) × AH)} (hrec : ∀ (r0 : Nat) (x1 : Int32) (x2 : Int32) (h' : AH), ok (rc r0 x1 x2 h') K → WP S M_X11_giveBack d cb sb Q 8 [.ref r0, .int x1, .int x2] [] h') {r0 : Nat} {x1 : Int32} {x2 : Int32} {h : AH} (k : ok (f_X11_giveBack_l8b S rc r0 x1 x2 h) K) : WP S M_X11_giveBack d cb sb Q 8 [.ref r0, .int x1, .int x2] [] h := by
  obtain ⟨d, rfl, he⟩ := dp (L := 0) hd
  unfold f_X11_giveBack_l8b at k
  refine wp_iload_n dX11_giveBack_8 rfl ?_
  refine wp_sipush dX11_giveBack_9 sp_288 ?_
  refine wp_icmp_ge 33 dX11_giveBack_12 (by decide) (fun c_1 => ?_) (fun c_1 => ?_)
  · replace k := ok_t c_1 k
    exact wp_wk (wkE <| wkE <| wkJ <| wkN) (hex _ _ _ (ok_some k))
  · replace k := ok_f c_1 k
    refine wp_aload_n dX11_giveBack_15 rfl ?_
    replace k := ok_bind k
    obtain ⟨p_2, e_3, k⟩ := k
    refine wq_getR fl_X11_23 (Or.inr ⟨_, rfl⟩) dX11_giveBack_16 e_3 ?_
    refine wp_iload_n dX11_giveBack_19 rfl ?_
    refine wp_aload_n dX11_giveBack_20 rfl ?_
    replace k := ok_bind k
    obtain ⟨p_4, e_5, k⟩ := k
    refine wq_getR fl_X11_29 (Or.inr ⟨_, rfl⟩) dX11_giveBack_21 e_5 ?_
    refine wp_iload_n dX11_giveBack_24 rfl ?_
    replace k := ok_bind k
    obtain ⟨v_6, e_7, k⟩ := k
    refine wq_aI dX11_giveBack_25 e_7 ?_
    replace k := ok_bind k
    obtain ⟨h_8, e_9, k⟩ := k
    refine wq_sI dX11_giveBack_26 e_9 ?_
    replace k := ok_lt k
    refine wp_iinc dX11_giveBack_27 rfl ic_1 (by decide) (L1 := [_, _, _]) rfl ?_
    refine wp_goto 8 dX11_giveBack_30 (by decide) ?_
    exact wp_wk (wkE <| wkE <| wkE <| wkN) (hrec _ _ _ _ k)
def f_X11_giveBack_l8 (S : SH) : Nat → Nat → Int32 → Int32 → AH → Option ((Nat × Int32) × AH)
  | 0, _, _, _, _ => none
  | n + 1, r0, x1, x2, h => f_X11_giveBack_l8b S (f_X11_giveBack_l8 S n) r0 x1 x2 h
theorem s_X11_giveBack_l8 {S : SH} {d cb sb : Nat} {Q : Option Value → AH → Prop} (hd : 1 ≤ d) {K : (Nat × Int32) → AH → Prop} (hex : ∀ (r0 : Nat) (x1 : Int32) (h' : AH), K (r0, x1) h' → WP S M_X11_giveBack d cb sb Q 33 [.ref r0, .int x1, JK] [] h') : ∀ (n : Nat) (r0 : Nat) (x1 : Int32) (x2 : Int32) (h : AH), ok (f_X11_giveBack_l8 S n r0 x1 x2 h) K → WP S M_X11_giveBack d cb sb Q 8 [.ref r0, .int x1, .int x2] [] h := by
  intro n
  induction n with
  | zero => intro r0 x1 x2 h k; exact ok_none k
  | succ n ih => intro r0 x1 x2 h k; exact s_X11_giveBack_l8b hd hex (fun r0 x1 x2 h k => ih r0 x1 x2 h k) k
def f_X11_giveBack_l35b (S : SH) (rc : Nat → Int32 → Int32 → AH → Option ((Nat × Int32) × AH)) (r0 : Nat) (x1 : Int32) (x2 : Int32) (h : AH) : Option ((Nat × Int32) × AH) :=
  if (16 : Int32) ≤ x2 then
    some ((r0, x1), h)
  else
    (gR S h r0 11 7).bind fun p_2 =>
    (gR S h r0 11 10).bind fun p_4 =>
    (aI S h p_4 x2).bind fun v_6 =>
    (sI S h p_2 x2 v_6).bind fun h_8 =>
    lt (x2 + (1 : Int32)) fun y_10 =>
    rc r0 x1 y_10 h_8
set_option maxHeartbeats 8000000 in
set_option maxRecDepth 20000 in
theorem s_X11_giveBack_l35b {S : SH} {d cb sb : Nat} {Q : Option Value → AH → Prop} (hd : 1 ≤ d) {K : (Nat × Int32) → AH → Prop} (hex : ∀ (r0 : Nat) (x1 : Int32) (h' : AH), K (r0, x1) h' → WP S M_X11_giveBack d cb sb Q 59 [.ref r0, .int x1, JK] [] h') {rc : Nat → Int32 → Int32 → AH → Option ((Nat × Int32) × AH)} (hrec : ∀ (r0 : Nat) (x1 : Int32) (x2 : Int32) (h' : AH), ok (rc r0 x1 x2 h') K → WP S M_X11_giveBack d cb sb Q 35 [.ref r0, .int x1, .int x2] [] h') {r0 : Nat} {x1 : Int32} {x2 : Int32} {h : AH} (k : ok (f_X11_giveBack_l35b S rc r0 x1 x2 h) K) : WP S M_X11_giveBack d cb sb Q 35 [.ref r0, .int x1, .int x2] [] h := by
  obtain ⟨d, rfl, he⟩ := dp (L := 0) hd
  unfold f_X11_giveBack_l35b at k
  refine wp_iload_n dX11_giveBack_35 rfl ?_
  refine wp_bipush dX11_giveBack_36 bp_16 ?_
  refine wp_icmp_ge 59 dX11_giveBack_38 (by decide) (fun c_1 => ?_) (fun c_1 => ?_)
  · replace k := ok_t c_1 k
    exact wp_wk (wkE <| wkE <| wkJ <| wkN) (hex _ _ _ (ok_some k))
  · replace k := ok_f c_1 k
    refine wp_aload_n dX11_giveBack_41 rfl ?_
    replace k := ok_bind k
    obtain ⟨p_2, e_3, k⟩ := k
    refine wq_getR fl_X11_26 (Or.inr ⟨_, rfl⟩) dX11_giveBack_42 e_3 ?_
    refine wp_iload_n dX11_giveBack_45 rfl ?_
    refine wp_aload_n dX11_giveBack_46 rfl ?_
    replace k := ok_bind k
    obtain ⟨p_4, e_5, k⟩ := k
    refine wq_getR fl_X11_32 (Or.inr ⟨_, rfl⟩) dX11_giveBack_47 e_5 ?_
    refine wp_iload_n dX11_giveBack_50 rfl ?_
    replace k := ok_bind k
    obtain ⟨v_6, e_7, k⟩ := k
    refine wq_aI dX11_giveBack_51 e_7 ?_
    replace k := ok_bind k
    obtain ⟨h_8, e_9, k⟩ := k
    refine wq_sI dX11_giveBack_52 e_9 ?_
    replace k := ok_lt k
    refine wp_iinc dX11_giveBack_53 rfl ic_1 (by decide) (L1 := [_, _, _]) rfl ?_
    refine wp_goto 35 dX11_giveBack_56 (by decide) ?_
    exact wp_wk (wkE <| wkE <| wkE <| wkN) (hrec _ _ _ _ k)
def f_X11_giveBack_l35 (S : SH) : Nat → Nat → Int32 → Int32 → AH → Option ((Nat × Int32) × AH)
  | 0, _, _, _, _ => none
  | n + 1, r0, x1, x2, h => f_X11_giveBack_l35b S (f_X11_giveBack_l35 S n) r0 x1 x2 h
theorem s_X11_giveBack_l35 {S : SH} {d cb sb : Nat} {Q : Option Value → AH → Prop} (hd : 1 ≤ d) {K : (Nat × Int32) → AH → Prop} (hex : ∀ (r0 : Nat) (x1 : Int32) (h' : AH), K (r0, x1) h' → WP S M_X11_giveBack d cb sb Q 59 [.ref r0, .int x1, JK] [] h') : ∀ (n : Nat) (r0 : Nat) (x1 : Int32) (x2 : Int32) (h : AH), ok (f_X11_giveBack_l35 S n r0 x1 x2 h) K → WP S M_X11_giveBack d cb sb Q 35 [.ref r0, .int x1, .int x2] [] h := by
  intro n
  induction n with
  | zero => intro r0 x1 x2 h k; exact ok_none k
  | succ n ih => intro r0 x1 x2 h k; exact s_X11_giveBack_l35b hd hex (fun r0 x1 x2 h k => ih r0 x1 x2 h k) k
def f_X11_giveBack (S : SH) (r0 : Nat) (x1 : Int32) (h : AH) : Option (Unit × AH) :=
  (ckO S h r0 11).bind fun _ =>
  (f_X11_putBack S r0 (17 : Int32) h).bind fun z => match z with
  | (_, h_2) =>
  (f_X11_giveBack_l8 S FU r0 x1 (0 : Int32) h_2).bind fun z => match z with
  | ((r0_5, x1_6), h_4) =>
  (f_X11_giveBack_l35 S FU r0_5 x1_6 (0 : Int32) h_4).bind fun z => match z with
  | ((r0_8, x1_9), h_7) =>
  (pI S h_7 r0_8 11 8 x1_9).bind fun h_10 =>
  some ((), h_10)
set_option maxHeartbeats 8000000 in
set_option maxRecDepth 20000 in
theorem s_X11_giveBack {S : SH} {d cb sb : Nat} {Q : Option Value → AH → Prop} (hd : 1 ≤ d)  {r0 : Nat} {x1 : Int32} {h : AH} (k : ok (f_X11_giveBack S r0 x1 h) (fun _ h' => Q none h')) : WP S M_X11_giveBack d cb sb Q 0 [.ref r0, .int x1, JK] [] h := by
  obtain ⟨d, rfl, he⟩ := dp (L := 0) hd
  unfold f_X11_giveBack at k
  refine wp_aload_n dX11_giveBack_0 rfl ?_
  refine wp_bipush dX11_giveBack_1 bp_17 ?_
  replace k := ok_bind k
  obtain ⟨u, e_1, k⟩ := k
  refine wp_callV1 (N := M_X11_putBack) (ci := 11) mf_X11_putBack mi_X11_putBack me_X11_putBack ml_X11_169 dX11_giveBack_3 (ckO_e e_1) mv_X11_putBack (by exact Nat.le_of_ble_eq_true rfl) (c_X11_putBack (Nat.le_trans (by decide) he) (ok_mono (ok_bind2 k) fun _ h_2 k => ?_))
  try dsimp only at k
  refine wp_iconst dX11_giveBack_6 ic_0 ?_
  refine wp_istore_n dX11_giveBack_7 (by decide) (L1 := [_, _, _]) rfl ?_
  refine wp_wk (wkE <| wkE <| wkE <| wkN) ?_
  refine s_X11_giveBack_l8 (Nat.succ_le_succ he) (fun r0_5 x1_6 h_4 k => ?_) FU _ _ _ _ (ok_bind2 k)
  try dsimp only at k
  refine wp_iconst dX11_giveBack_33 ic_0 ?_
  refine wp_istore_n dX11_giveBack_34 (by decide) (L1 := [_, _, _]) rfl ?_
  refine wp_wk (wkE <| wkE <| wkE <| wkN) ?_
  refine s_X11_giveBack_l35 (Nat.succ_le_succ he) (fun r0_8 x1_9 h_7 k => ?_) FU _ _ _ _ (ok_bind2 k)
  try dsimp only at k
  refine wp_aload_n dX11_giveBack_59 rfl ?_
  refine wp_iload_n dX11_giveBack_60 rfl ?_
  replace k := ok_bind k
  obtain ⟨h_10, e_11, k⟩ := k
  refine wq_putI fl_X11_158 rfl rfl dX11_giveBack_61 e_11 ?_
  refine wp_vret rfl dX11_giveBack_64 ?_
  exact (ok_some k :)
theorem c_X11_giveBack {S : SH} {d : Nat} {K : Option Value → AH → Prop} (hd : 1 ≤ d)  {r0 : Nat} {x1 : Int32} {h : AH} (k : ok (f_X11_giveBack S r0 x1 h) (fun _ h' => K none h')) : CP S M_X11_giveBack d 0 0 [.ref r0, .int x1] h K := cp_of (by decide) (fun _ _ => trivial) (fun _ => Nat.le_of_ble_eq_true rfl) (s_X11_giveBack hd  k)
def f_X11_orders_l19b (S : SH) (rc : Nat → AH → Option (Nat × AH)) (r0 : Nat) (h : AH) : Option (Nat × AH) :=
  (gI S h r0 11 19).bind fun v_1 =>
  if v_1 = (0 : Int32) then
    (ckO S h r0 11).bind fun _ =>
    (f_X11_isSign S r0 (59 : Int32) h).bind fun z => match z with
    | (z_6, h_5) =>
    if z_6 = (0 : Int32) then
      some (r0, h_5)
    else
      (ckO S h_5 r0 11).bind fun _ =>
      (f_X11_next S r0 h_5).bind fun z => match z with
      | (_, h_9) =>
      (ckO S h_9 r0 11).bind fun _ =>
      (f_X11_readOrder S r0 h_9).bind fun z => match z with
      | (_, h_12) =>
      rc r0 h_12
  else
    some (r0, h)
set_option maxHeartbeats 8000000 in
set_option maxRecDepth 20000 in
theorem s_X11_orders_l19b {S : SH} {d cb sb : Nat} {Q : Option Value → AH → Prop} (hd : 12 ≤ d) {K : Nat → AH → Prop} (hex : ∀ (r0 : Nat) (h' : AH), K r0 h' → WP S M_X11_orders d cb sb Q 46 [.ref r0, JK, JK, JK] [] h') {rc : Nat → AH → Option (Nat × AH)} (hrec : ∀ (r0 : Nat) (h' : AH), ok (rc r0 h') K → WP S M_X11_orders d cb sb Q 19 [.ref r0, JK, JK, JK] [] h') {r0 : Nat} {h : AH} (k : ok (f_X11_orders_l19b S rc r0 h) K) : WP S M_X11_orders d cb sb Q 19 [.ref r0, JK, JK, JK] [] h := by
  obtain ⟨d, rfl, he⟩ := dp (L := 11) hd
  unfold f_X11_orders_l19b at k
  refine wp_aload_n dX11_orders_19 rfl ?_
  replace k := ok_bind k
  obtain ⟨v_1, e_2, k⟩ := k
  refine wq_getI fl_X11_258 (Or.inr rfl) dX11_orders_20 e_2 ?_
  refine wp_if_ne 46 dX11_orders_23 (by decide) (fun c_3 => ?_) (fun c_3 => ?_)
  · replace k := ok_f c_3 k
    exact wp_wk (wkE <| wkJ <| wkJ <| wkJ <| wkN) (hex _ _ (ok_some k))
  · replace k := ok_t c_3 k
    refine wp_aload_n dX11_orders_26 rfl ?_
    refine wp_bipush dX11_orders_27 bp_59 ?_
    replace k := ok_bind k
    obtain ⟨u, e_4, k⟩ := k
    refine wp_callV1 (N := M_X11_isSign) (ci := 11) mf_X11_isSign mi_X11_isSign me_X11_isSign ml_X11_325 dX11_orders_29 (ckO_e e_4) mv_X11_isSign (by exact Nat.le_of_ble_eq_true rfl) (c_X11_isSign (Nat.le_trans (by decide) he) (ok_mono (ok_bind2 k) fun z_6 h_5 k => ?_))
    try dsimp only at k
    refine wp_if_eq 46 dX11_orders_32 (by decide) (fun c_7 => ?_) (fun c_7 => ?_)
    · replace k := ok_t c_7 k
      exact wp_wk (wkE <| wkJ <| wkJ <| wkJ <| wkN) (hex _ _ (ok_some k))
    · replace k := ok_f c_7 k
      refine wp_aload_n dX11_orders_35 rfl ?_
      replace k := ok_bind k
      obtain ⟨u, e_8, k⟩ := k
      refine wp_callV0 (N := M_X11_next) (ci := 11) mf_X11_next mi_X11_next me_X11_next ml_X11_262 dX11_orders_36 (ckO_e e_8) mv_X11_next (by exact Nat.le_of_ble_eq_true rfl) (c_X11_next (Nat.le_trans (by decide) he) (ok_mono (ok_bind2 k) fun _ h_9 k => ?_))
      try dsimp only at k
      refine wp_aload_n dX11_orders_39 rfl ?_
      replace k := ok_bind k
      obtain ⟨u, e_11, k⟩ := k
      refine wp_callV0 (N := M_X11_readOrder) (ci := 11) mf_X11_readOrder mi_X11_readOrder me_X11_readOrder ml_X11_529 dX11_orders_40 (ckO_e e_11) mv_X11_readOrder (by exact Nat.le_of_ble_eq_true rfl) (c_X11_readOrder (Nat.le_trans (by decide) he) (ok_mono (ok_bind2 k) fun _ h_12 k => ?_))
      try dsimp only at k
      refine wp_goto 19 dX11_orders_43 (by decide) ?_
      exact wp_wk (wkE <| wkJ <| wkJ <| wkJ <| wkN) (hrec _ _ k)
def f_X11_orders_l19 (S : SH) : Nat → Nat → AH → Option (Nat × AH)
  | 0, _, _ => none
  | n + 1, r0, h => f_X11_orders_l19b S (f_X11_orders_l19 S n) r0 h
theorem s_X11_orders_l19 {S : SH} {d cb sb : Nat} {Q : Option Value → AH → Prop} (hd : 12 ≤ d) {K : Nat → AH → Prop} (hex : ∀ (r0 : Nat) (h' : AH), K r0 h' → WP S M_X11_orders d cb sb Q 46 [.ref r0, JK, JK, JK] [] h') : ∀ (n : Nat) (r0 : Nat) (h : AH), ok (f_X11_orders_l19 S n r0 h) K → WP S M_X11_orders d cb sb Q 19 [.ref r0, JK, JK, JK] [] h := by
  intro n
  induction n with
  | zero => intro r0 h k; exact ok_none k
  | succ n ih => intro r0 h k; exact s_X11_orders_l19b hd hex (fun r0 h k => ih r0 h k) k
def f_X11_orders_l77b (S : SH) (rc : Nat → Int32 → Int32 → AH → Option ((Nat × Int32) × AH)) (r0 : Nat) (x1 : Int32) (x2 : Int32) (h : AH) : Option ((Nat × Int32) × AH) :=
  if (288 : Int32) ≤ x2 then
    some ((r0, x1), h)
  else
    (gR S h r0 11 9).bind fun p_2 =>
    (gR S h r0 11 6).bind fun p_4 =>
    (aI S h p_4 x2).bind fun v_6 =>
    (sI S h p_2 x2 v_6).bind fun h_8 =>
    lt (x2 + (1 : Int32)) fun y_10 =>
    rc r0 x1 y_10 h_8
set_option maxHeartbeats 8000000 in
set_option maxRecDepth 20000 in
theorem s_X11_orders_l77b {S : SH} {d cb sb : Nat} {Q : Option Value → AH → Prop} (hd : 12 ≤ d) {K : (Nat × Int32) → AH → Prop} (hex : ∀ (r0 : Nat) (x1 : Int32) (h' : AH), K (r0, x1) h' → WP S M_X11_orders d cb sb Q 102 [.ref r0, .int x1, JK, JK] [] h') {rc : Nat → Int32 → Int32 → AH → Option ((Nat × Int32) × AH)} (hrec : ∀ (r0 : Nat) (x1 : Int32) (x2 : Int32) (h' : AH), ok (rc r0 x1 x2 h') K → WP S M_X11_orders d cb sb Q 77 [.ref r0, .int x1, .int x2, JK] [] h') {r0 : Nat} {x1 : Int32} {x2 : Int32} {h : AH} (k : ok (f_X11_orders_l77b S rc r0 x1 x2 h) K) : WP S M_X11_orders d cb sb Q 77 [.ref r0, .int x1, .int x2, JK] [] h := by
  obtain ⟨d, rfl, he⟩ := dp (L := 11) hd
  unfold f_X11_orders_l77b at k
  refine wp_iload_n dX11_orders_77 rfl ?_
  refine wp_sipush dX11_orders_78 sp_288 ?_
  refine wp_icmp_ge 102 dX11_orders_81 (by decide) (fun c_1 => ?_) (fun c_1 => ?_)
  · replace k := ok_t c_1 k
    exact wp_wk (wkE <| wkE <| wkJ <| wkJ <| wkN) (hex _ _ _ (ok_some k))
  · replace k := ok_f c_1 k
    refine wp_aload_n dX11_orders_84 rfl ?_
    replace k := ok_bind k
    obtain ⟨p_2, e_3, k⟩ := k
    refine wq_getR fl_X11_29 (Or.inr ⟨_, rfl⟩) dX11_orders_85 e_3 ?_
    refine wp_iload_n dX11_orders_88 rfl ?_
    refine wp_aload_n dX11_orders_89 rfl ?_
    replace k := ok_bind k
    obtain ⟨p_4, e_5, k⟩ := k
    refine wq_getR fl_X11_23 (Or.inr ⟨_, rfl⟩) dX11_orders_90 e_5 ?_
    refine wp_iload_n dX11_orders_93 rfl ?_
    replace k := ok_bind k
    obtain ⟨v_6, e_7, k⟩ := k
    refine wq_aI dX11_orders_94 e_7 ?_
    replace k := ok_bind k
    obtain ⟨h_8, e_9, k⟩ := k
    refine wq_sI dX11_orders_95 e_9 ?_
    replace k := ok_lt k
    refine wp_iinc dX11_orders_96 rfl ic_1 (by decide) (L1 := [_, _, _, _]) rfl ?_
    refine wp_goto 77 dX11_orders_99 (by decide) ?_
    exact wp_wk (wkE <| wkE <| wkE <| wkJ <| wkN) (hrec _ _ _ _ k)
def f_X11_orders_l77 (S : SH) : Nat → Nat → Int32 → Int32 → AH → Option ((Nat × Int32) × AH)
  | 0, _, _, _, _ => none
  | n + 1, r0, x1, x2, h => f_X11_orders_l77b S (f_X11_orders_l77 S n) r0 x1 x2 h
theorem s_X11_orders_l77 {S : SH} {d cb sb : Nat} {Q : Option Value → AH → Prop} (hd : 12 ≤ d) {K : (Nat × Int32) → AH → Prop} (hex : ∀ (r0 : Nat) (x1 : Int32) (h' : AH), K (r0, x1) h' → WP S M_X11_orders d cb sb Q 102 [.ref r0, .int x1, JK, JK] [] h') : ∀ (n : Nat) (r0 : Nat) (x1 : Int32) (x2 : Int32) (h : AH), ok (f_X11_orders_l77 S n r0 x1 x2 h) K → WP S M_X11_orders d cb sb Q 77 [.ref r0, .int x1, .int x2, JK] [] h := by
  intro n
  induction n with
  | zero => intro r0 x1 x2 h k; exact ok_none k
  | succ n ih => intro r0 x1 x2 h k; exact s_X11_orders_l77b hd hex (fun r0 x1 x2 h k => ih r0 x1 x2 h k) k
def f_X11_orders_l104b (S : SH) (rc : Nat → Int32 → Int32 → AH → Option ((Nat × Int32) × AH)) (r0 : Nat) (x1 : Int32) (x2 : Int32) (h : AH) : Option ((Nat × Int32) × AH) :=
  if (16 : Int32) ≤ x2 then
    some ((r0, x1), h)
  else
    (gR S h r0 11 10).bind fun p_2 =>
    (gR S h r0 11 7).bind fun p_4 =>
    (aI S h p_4 x2).bind fun v_6 =>
    (sI S h p_2 x2 v_6).bind fun h_8 =>
    lt (x2 + (1 : Int32)) fun y_10 =>
    rc r0 x1 y_10 h_8
set_option maxHeartbeats 8000000 in
set_option maxRecDepth 20000 in
theorem s_X11_orders_l104b {S : SH} {d cb sb : Nat} {Q : Option Value → AH → Prop} (hd : 12 ≤ d) {K : (Nat × Int32) → AH → Prop} (hex : ∀ (r0 : Nat) (x1 : Int32) (h' : AH), K (r0, x1) h' → WP S M_X11_orders d cb sb Q 128 [.ref r0, .int x1, JK, JK] [] h') {rc : Nat → Int32 → Int32 → AH → Option ((Nat × Int32) × AH)} (hrec : ∀ (r0 : Nat) (x1 : Int32) (x2 : Int32) (h' : AH), ok (rc r0 x1 x2 h') K → WP S M_X11_orders d cb sb Q 104 [.ref r0, .int x1, .int x2, JK] [] h') {r0 : Nat} {x1 : Int32} {x2 : Int32} {h : AH} (k : ok (f_X11_orders_l104b S rc r0 x1 x2 h) K) : WP S M_X11_orders d cb sb Q 104 [.ref r0, .int x1, .int x2, JK] [] h := by
  obtain ⟨d, rfl, he⟩ := dp (L := 11) hd
  unfold f_X11_orders_l104b at k
  refine wp_iload_n dX11_orders_104 rfl ?_
  refine wp_bipush dX11_orders_105 bp_16 ?_
  refine wp_icmp_ge 128 dX11_orders_107 (by decide) (fun c_1 => ?_) (fun c_1 => ?_)
  · replace k := ok_t c_1 k
    exact wp_wk (wkE <| wkE <| wkJ <| wkJ <| wkN) (hex _ _ _ (ok_some k))
  · replace k := ok_f c_1 k
    refine wp_aload_n dX11_orders_110 rfl ?_
    replace k := ok_bind k
    obtain ⟨p_2, e_3, k⟩ := k
    refine wq_getR fl_X11_32 (Or.inr ⟨_, rfl⟩) dX11_orders_111 e_3 ?_
    refine wp_iload_n dX11_orders_114 rfl ?_
    refine wp_aload_n dX11_orders_115 rfl ?_
    replace k := ok_bind k
    obtain ⟨p_4, e_5, k⟩ := k
    refine wq_getR fl_X11_26 (Or.inr ⟨_, rfl⟩) dX11_orders_116 e_5 ?_
    refine wp_iload_n dX11_orders_119 rfl ?_
    replace k := ok_bind k
    obtain ⟨v_6, e_7, k⟩ := k
    refine wq_aI dX11_orders_120 e_7 ?_
    replace k := ok_bind k
    obtain ⟨h_8, e_9, k⟩ := k
    refine wq_sI dX11_orders_121 e_9 ?_
    replace k := ok_lt k
    refine wp_iinc dX11_orders_122 rfl ic_1 (by decide) (L1 := [_, _, _, _]) rfl ?_
    refine wp_goto 104 dX11_orders_125 (by decide) ?_
    exact wp_wk (wkE <| wkE <| wkE <| wkJ <| wkN) (hrec _ _ _ _ k)
def f_X11_orders_l104 (S : SH) : Nat → Nat → Int32 → Int32 → AH → Option ((Nat × Int32) × AH)
  | 0, _, _, _, _ => none
  | n + 1, r0, x1, x2, h => f_X11_orders_l104b S (f_X11_orders_l104 S n) r0 x1 x2 h
theorem s_X11_orders_l104 {S : SH} {d cb sb : Nat} {Q : Option Value → AH → Prop} (hd : 12 ≤ d) {K : (Nat × Int32) → AH → Prop} (hex : ∀ (r0 : Nat) (x1 : Int32) (h' : AH), K (r0, x1) h' → WP S M_X11_orders d cb sb Q 128 [.ref r0, .int x1, JK, JK] [] h') : ∀ (n : Nat) (r0 : Nat) (x1 : Int32) (x2 : Int32) (h : AH), ok (f_X11_orders_l104 S n r0 x1 x2 h) K → WP S M_X11_orders d cb sb Q 104 [.ref r0, .int x1, .int x2, JK] [] h := by
  intro n
  induction n with
  | zero => intro r0 x1 x2 h k; exact ok_none k
  | succ n ih => intro r0 x1 x2 h k; exact s_X11_orders_l104b hd hex (fun r0 x1 x2 h k => ih r0 x1 x2 h k) k
def f_X11_orders_l150b (S : SH) (rc : Nat → Int32 → Int32 → Int32 → AH → Option ((Int32 ⊕ (Nat × Int32 × Int32)) × AH)) (r0 : Nat) (x1 : Int32) (x2 : Int32) (x3 : Int32) (h : AH) : Option ((Int32 ⊕ (Nat × Int32 × Int32)) × AH) :=
  (gR S h r0 11 49).bind fun p_1 =>
  (aI S h p_1 (((8 : Int32) * x2) + (7 : Int32))).bind fun v_3 =>
  if v_3 ≤ x3 then
    some (.inr (r0, x1, x2), h)
  else
    (ckO S h r0 11).bind fun _ =>
    (f_X11_run S r0 (((8 : Int32) * x2)) h).bind fun z => match z with
    | (z_8, h_7) =>
    if (0 : Int32) ≤ z_8 then
      lt (x3 + (1 : Int32)) fun y_10 =>
      rc r0 x1 x2 y_10 h_7
    else
      (ckO S h_7 r0 11).bind fun _ =>
      (f_X11_giveBack S r0 x1 h_7).bind fun z => match z with
      | (_, h_12) =>
      (pI S h_12 r0 11 52 x2).bind fun h_14 =>
      (ckO S h_14 r0 11).bind fun _ =>
      (f_X11_tell S r0 (-3 : Int32) h_14).bind fun z => match z with
      | (z_18, h_17) =>
      some (.inl z_18, h_17)
set_option maxHeartbeats 8000000 in
set_option maxRecDepth 20000 in
theorem s_X11_orders_l150b {S : SH} {d cb sb : Nat} {Q : Option Value → AH → Prop} (hd : 12 ≤ d) {K : (Int32 ⊕ (Nat × Int32 × Int32)) → AH → Prop} (hret : ∀ (w : Int32) (h' : AH), K (.inl w) h' → Q (some (.int w)) h') (hex : ∀ (r0 : Nat) (x1 : Int32) (x2 : Int32) (h' : AH), K (.inr (r0, x1, x2)) h' → WP S M_X11_orders d cb sb Q 200 [.ref r0, .int x1, .int x2, JK] [] h') {rc : Nat → Int32 → Int32 → Int32 → AH → Option ((Int32 ⊕ (Nat × Int32 × Int32)) × AH)} (hrec : ∀ (r0 : Nat) (x1 : Int32) (x2 : Int32) (x3 : Int32) (h' : AH), ok (rc r0 x1 x2 x3 h') K → WP S M_X11_orders d cb sb Q 150 [.ref r0, .int x1, .int x2, .int x3] [] h') {r0 : Nat} {x1 : Int32} {x2 : Int32} {x3 : Int32} {h : AH} (k : ok (f_X11_orders_l150b S rc r0 x1 x2 x3 h) K) : WP S M_X11_orders d cb sb Q 150 [.ref r0, .int x1, .int x2, .int x3] [] h := by
  obtain ⟨d, rfl, he⟩ := dp (L := 11) hd
  unfold f_X11_orders_l150b at k
  refine wp_iload_n dX11_orders_150 rfl ?_
  refine wp_aload_n dX11_orders_151 rfl ?_
  replace k := ok_bind k
  obtain ⟨p_1, e_2, k⟩ := k
  refine wq_getR fl_X11_137 (Or.inr ⟨_, rfl⟩) dX11_orders_152 e_2 ?_
  refine wp_bipush dX11_orders_155 bp_8 ?_
  refine wp_iload_n dX11_orders_157 rfl ?_
  refine wp_imul dX11_orders_158 ?_
  refine wp_bipush dX11_orders_159 bp_7 ?_
  refine wp_iadd dX11_orders_161 ?_
  replace k := ok_bind k
  obtain ⟨v_3, e_4, k⟩ := k
  refine wq_aI dX11_orders_162 e_4 ?_
  refine wp_icmp_ge 200 dX11_orders_163 (by decide) (fun c_5 => ?_) (fun c_5 => ?_)
  · replace k := ok_t c_5 k
    exact wp_wk (wkE <| wkE <| wkE <| wkJ <| wkN) (hex _ _ _ _ (ok_some k))
  · replace k := ok_f c_5 k
    refine wp_aload_n dX11_orders_166 rfl ?_
    refine wp_bipush dX11_orders_167 bp_8 ?_
    refine wp_iload_n dX11_orders_169 rfl ?_
    refine wp_imul dX11_orders_170 ?_
    replace k := ok_bind k
    obtain ⟨u, e_6, k⟩ := k
    refine wp_callV1 (N := M_X11_run) (ci := 11) mf_X11_run mi_X11_run me_X11_run ml_X11_532 dX11_orders_171 (ckO_e e_6) mv_X11_run (by exact Nat.le_of_ble_eq_true rfl) (c_X11_run (Nat.le_trans (by decide) he) (ok_mono (ok_bind2 k) fun z_8 h_7 k => ?_))
    try dsimp only at k
    refine wp_if_ge 194 dX11_orders_174 (by decide) (fun c_9 => ?_) (fun c_9 => ?_)
    · replace k := ok_t c_9 k
      replace k := ok_lt k
      refine wp_iinc dX11_orders_194 rfl ic_1 (by decide) (L1 := [_, _, _, _]) rfl ?_
      refine wp_goto 150 dX11_orders_197 (by decide) ?_
      exact wp_wk (wkE <| wkE <| wkE <| wkE <| wkN) (hrec _ _ _ _ _ k)
    · replace k := ok_f c_9 k
      refine wp_aload_n dX11_orders_177 rfl ?_
      refine wp_iload_n dX11_orders_178 rfl ?_
      replace k := ok_bind k
      obtain ⟨u, e_11, k⟩ := k
      refine wp_callV1 (N := M_X11_giveBack) (ci := 11) mf_X11_giveBack mi_X11_giveBack me_X11_giveBack ml_X11_535 dX11_orders_179 (ckO_e e_11) mv_X11_giveBack (by exact Nat.le_of_ble_eq_true rfl) (c_X11_giveBack (Nat.le_trans (by decide) he) (ok_mono (ok_bind2 k) fun _ h_12 k => ?_))
      try dsimp only at k
      refine wp_aload_n dX11_orders_182 rfl ?_
      refine wp_iload_n dX11_orders_183 rfl ?_
      replace k := ok_bind k
      obtain ⟨h_14, e_15, k⟩ := k
      refine wq_putI fl_X11_140 rfl rfl dX11_orders_184 e_15 ?_
      refine wp_aload_n dX11_orders_187 rfl ?_
      refine wp_bipush dX11_orders_188 bp_m3 ?_
      replace k := ok_bind k
      obtain ⟨u, e_16, k⟩ := k
      refine wp_callV1 (N := M_X11_tell) (ci := 11) mf_X11_tell mi_X11_tell me_X11_tell ml_X11_161 dX11_orders_190 (ckO_e e_16) mv_X11_tell (by exact Nat.le_of_ble_eq_true rfl) (c_X11_tell (Nat.le_trans (by decide) he) (ok_mono (ok_bind2 k) fun z_18 h_17 k => ?_))
      try dsimp only at k
      refine wp_iret rfl rfl dX11_orders_193 ?_
      exact hret _ _ (ok_some k)
def f_X11_orders_l150 (S : SH) : Nat → Nat → Int32 → Int32 → Int32 → AH → Option ((Int32 ⊕ (Nat × Int32 × Int32)) × AH)
  | 0, _, _, _, _, _ => none
  | n + 1, r0, x1, x2, x3, h => f_X11_orders_l150b S (f_X11_orders_l150 S n) r0 x1 x2 x3 h
theorem s_X11_orders_l150 {S : SH} {d cb sb : Nat} {Q : Option Value → AH → Prop} (hd : 12 ≤ d) {K : (Int32 ⊕ (Nat × Int32 × Int32)) → AH → Prop} (hret : ∀ (w : Int32) (h' : AH), K (.inl w) h' → Q (some (.int w)) h') (hex : ∀ (r0 : Nat) (x1 : Int32) (x2 : Int32) (h' : AH), K (.inr (r0, x1, x2)) h' → WP S M_X11_orders d cb sb Q 200 [.ref r0, .int x1, .int x2, JK] [] h') : ∀ (n : Nat) (r0 : Nat) (x1 : Int32) (x2 : Int32) (x3 : Int32) (h : AH), ok (f_X11_orders_l150 S n r0 x1 x2 x3 h) K → WP S M_X11_orders d cb sb Q 150 [.ref r0, .int x1, .int x2, .int x3] [] h := by
  intro n
  induction n with
  | zero => intro r0 x1 x2 x3 h k; exact ok_none k
  | succ n ih => intro r0 x1 x2 x3 h k; exact s_X11_orders_l150b hd hret hex (fun r0 x1 x2 x3 h k => ih r0 x1 x2 x3 h k) k
def f_X11_orders_l140b (S : SH) (rc : Nat → Int32 → Int32 → AH → Option ((Int32 ⊕ Nat) × AH)) (r0 : Nat) (x1 : Int32) (x2 : Int32) (h : AH) : Option ((Int32 ⊕ Nat) × AH) :=
  (gI S h r0 11 21).bind fun v_1 =>
  if v_1 ≤ x2 then
    some (.inr r0, h)
  else
    (f_X11_orders_l150 S FU r0 x1 x2 (0 : Int32) h).bind fun z => match z with
    | (.inl w, h') => some (.inl w, h')
    | (.inr (r0_5, x1_6, x2_7), h_4) =>
      lt (x2_7 + (1 : Int32)) fun y_8 =>
      rc r0_5 x1_6 y_8 h_4
set_option maxHeartbeats 8000000 in
set_option maxRecDepth 20000 in
theorem s_X11_orders_l140b {S : SH} {d cb sb : Nat} {Q : Option Value → AH → Prop} (hd : 12 ≤ d) {K : (Int32 ⊕ Nat) → AH → Prop} (hret : ∀ (w : Int32) (h' : AH), K (.inl w) h' → Q (some (.int w)) h') (hex : ∀ (r0 : Nat) (h' : AH), K (.inr r0) h' → WP S M_X11_orders d cb sb Q 206 [.ref r0, JK, JK, JK] [] h') {rc : Nat → Int32 → Int32 → AH → Option ((Int32 ⊕ Nat) × AH)} (hrec : ∀ (r0 : Nat) (x1 : Int32) (x2 : Int32) (h' : AH), ok (rc r0 x1 x2 h') K → WP S M_X11_orders d cb sb Q 140 [.ref r0, .int x1, .int x2, JK] [] h') {r0 : Nat} {x1 : Int32} {x2 : Int32} {h : AH} (k : ok (f_X11_orders_l140b S rc r0 x1 x2 h) K) : WP S M_X11_orders d cb sb Q 140 [.ref r0, .int x1, .int x2, JK] [] h := by
  obtain ⟨d, rfl, he⟩ := dp (L := 11) hd
  unfold f_X11_orders_l140b at k
  refine wp_iload_n dX11_orders_140 rfl ?_
  refine wp_aload_n dX11_orders_141 rfl ?_
  replace k := ok_bind k
  obtain ⟨v_1, e_2, k⟩ := k
  refine wq_getI fl_X11_385 (Or.inl rfl) dX11_orders_142 e_2 ?_
  refine wp_icmp_ge 206 dX11_orders_145 (by decide) (fun c_3 => ?_) (fun c_3 => ?_)
  · replace k := ok_t c_3 k
    exact wp_wk (wkE <| wkJ <| wkJ <| wkJ <| wkN) (hex _ _ (ok_some k))
  · replace k := ok_f c_3 k
    refine wp_iconst dX11_orders_148 ic_0 ?_
    refine wp_istore_n dX11_orders_149 (by decide) (L1 := [_, _, _, _]) rfl ?_
    refine wp_wk (wkE <| wkE <| wkE <| wkE <| wkN) ?_
    refine s_X11_orders_l150 (Nat.succ_le_succ he) (fun w h' k => ?_) (fun r0_5 x1_6 x2_7 h_4 k => ?_) FU _ _ _ _ _ (ok_bind2 k)
    · try dsimp only at k
      exact hret _ _ (ok_some k)
    · try dsimp only at k
      replace k := ok_lt k
      refine wp_iinc dX11_orders_200 rfl ic_1 (by decide) (L1 := [_, _, _, _]) rfl ?_
      refine wp_goto 140 dX11_orders_203 (by decide) ?_
      exact wp_wk (wkE <| wkE <| wkE <| wkJ <| wkN) (hrec _ _ _ _ k)
def f_X11_orders_l140 (S : SH) : Nat → Nat → Int32 → Int32 → AH → Option ((Int32 ⊕ Nat) × AH)
  | 0, _, _, _, _ => none
  | n + 1, r0, x1, x2, h => f_X11_orders_l140b S (f_X11_orders_l140 S n) r0 x1 x2 h
theorem s_X11_orders_l140 {S : SH} {d cb sb : Nat} {Q : Option Value → AH → Prop} (hd : 12 ≤ d) {K : (Int32 ⊕ Nat) → AH → Prop} (hret : ∀ (w : Int32) (h' : AH), K (.inl w) h' → Q (some (.int w)) h') (hex : ∀ (r0 : Nat) (h' : AH), K (.inr r0) h' → WP S M_X11_orders d cb sb Q 206 [.ref r0, JK, JK, JK] [] h') : ∀ (n : Nat) (r0 : Nat) (x1 : Int32) (x2 : Int32) (h : AH), ok (f_X11_orders_l140 S n r0 x1 x2 h) K → WP S M_X11_orders d cb sb Q 140 [.ref r0, .int x1, .int x2, JK] [] h := by
  intro n
  induction n with
  | zero => intro r0 x1 x2 h k; exact ok_none k
  | succ n ih => intro r0 x1 x2 h k; exact s_X11_orders_l140b hd hret hex (fun r0 x1 x2 h k => ih r0 x1 x2 h k) k
def f_X11_orders_j46 (S : SH) (r0 : Nat) (h : AH) : Option (Int32 × AH) :=
  (ckO S h r0 11).bind fun _ =>
  (f_X11_endText S r0 h).bind fun z => match z with
  | (_, h_2) =>
  (gI S h_2 r0 11 19).bind fun v_4 =>
  if v_4 = (0 : Int32) then
    (ckO S h_2 r0 11).bind fun _ =>
    (f_X11_keepAll S r0 (17 : Int32) h_2).bind fun z => match z with
    | (_, h_8) =>
    (gI S h_8 r0 11 8).bind fun v_10 =>
    (f_X11_orders_l77 S FU r0 v_10 (0 : Int32) h_8).bind fun z => match z with
    | ((r0_13, x1_14), h_12) =>
    (f_X11_orders_l104 S FU r0_13 x1_14 (0 : Int32) h_12).bind fun z => match z with
    | ((r0_16, x1_17), h_15) =>
    (pI S h_15 r0_16 11 50 (0 : Int32)).bind fun h_18 =>
    (pI S h_18 r0_16 11 51 (-1 : Int32)).bind fun h_20 =>
    (f_X11_orders_l140 S FU r0_16 x1_17 (0 : Int32) h_20).bind fun z => match z with
    | (.inl w, h') => some (w, h')
    | (.inr r0_23, h_22) =>
      (gI S h_22 r0_23 11 50).bind fun v_24 =>
      (ckO S h_22 r0_23 11).bind fun _ =>
      (f_X11_tell S r0_23 v_24 h_22).bind fun z => match z with
      | (z_28, h_27) =>
      some (z_28, h_27)
  else
    (ckO S h_2 r0 11).bind fun _ =>
    (f_X11_tell S r0 (-6 : Int32) h_2).bind fun z => match z with
    | (z_31, h_30) =>
    some (z_31, h_30)
set_option maxHeartbeats 8000000 in
set_option maxRecDepth 20000 in
theorem s_X11_orders_j46 {S : SH} {d cb sb : Nat} {Q : Option Value → AH → Prop} (hd : 12 ≤ d)  {r0 : Nat} {h : AH} (k : ok (f_X11_orders_j46 S r0 h) (fun w h' => Q (some (.int w)) h')) : WP S M_X11_orders d cb sb Q 46 [.ref r0, JK, JK, JK] [] h := by
  obtain ⟨d, rfl, he⟩ := dp (L := 11) hd
  unfold f_X11_orders_j46 at k
  refine wp_aload_n dX11_orders_46 rfl ?_
  replace k := ok_bind k
  obtain ⟨u, e_1, k⟩ := k
  refine wp_callV0 (N := M_X11_endText) (ci := 11) mf_X11_endText mi_X11_endText me_X11_endText ml_X11_399 dX11_orders_47 (ckO_e e_1) mv_X11_endText (by exact Nat.le_of_ble_eq_true rfl) (c_X11_endText (Nat.le_trans (by decide) he) (ok_mono (ok_bind2 k) fun _ h_2 k => ?_))
  try dsimp only at k
  refine wp_aload_n dX11_orders_50 rfl ?_
  replace k := ok_bind k
  obtain ⟨v_4, e_5, k⟩ := k
  refine wq_getI fl_X11_258 (Or.inr rfl) dX11_orders_51 e_5 ?_
  refine wp_if_eq 64 dX11_orders_54 (by decide) (fun c_6 => ?_) (fun c_6 => ?_)
  · replace k := ok_t c_6 k
    refine wp_aload_n dX11_orders_64 rfl ?_
    refine wp_bipush dX11_orders_65 bp_17 ?_
    replace k := ok_bind k
    obtain ⟨u, e_7, k⟩ := k
    refine wp_callV1 (N := M_X11_keepAll) (ci := 11) mf_X11_keepAll mi_X11_keepAll me_X11_keepAll ml_X11_165 dX11_orders_67 (ckO_e e_7) mv_X11_keepAll (by exact Nat.le_of_ble_eq_true rfl) (c_X11_keepAll (Nat.le_trans (by decide) he) (ok_mono (ok_bind2 k) fun _ h_8 k => ?_))
    try dsimp only at k
    refine wp_aload_n dX11_orders_70 rfl ?_
    replace k := ok_bind k
    obtain ⟨v_10, e_11, k⟩ := k
    refine wq_getI fl_X11_158 (Or.inl rfl) dX11_orders_71 e_11 ?_
    refine wp_istore_n dX11_orders_74 (by decide) (L1 := [_, _, _, _]) rfl ?_
    refine wp_iconst dX11_orders_75 ic_0 ?_
    refine wp_istore_n dX11_orders_76 (by decide) (L1 := [_, _, _, _]) rfl ?_
    refine wp_wk (wkE <| wkE <| wkE <| wkJ <| wkN) ?_
    refine s_X11_orders_l77 (Nat.succ_le_succ he) (fun r0_13 x1_14 h_12 k => ?_) FU _ _ _ _ (ok_bind2 k)
    try dsimp only at k
    refine wp_iconst dX11_orders_102 ic_0 ?_
    refine wp_istore_n dX11_orders_103 (by decide) (L1 := [_, _, _, _]) rfl ?_
    refine wp_wk (wkE <| wkE <| wkE <| wkJ <| wkN) ?_
    refine s_X11_orders_l104 (Nat.succ_le_succ he) (fun r0_16 x1_17 h_15 k => ?_) FU _ _ _ _ (ok_bind2 k)
    try dsimp only at k
    refine wp_aload_n dX11_orders_128 rfl ?_
    refine wp_iconst dX11_orders_129 ic_0 ?_
    replace k := ok_bind k
    obtain ⟨h_18, e_19, k⟩ := k
    refine wq_putI fl_X11_516 rfl rfl dX11_orders_130 e_19 ?_
    refine wp_aload_n dX11_orders_133 rfl ?_
    refine wp_iconst dX11_orders_134 ic_m1 ?_
    replace k := ok_bind k
    obtain ⟨h_20, e_21, k⟩ := k
    refine wq_putI fl_X11_519 rfl rfl dX11_orders_135 e_21 ?_
    refine wp_iconst dX11_orders_138 ic_0 ?_
    refine wp_istore_n dX11_orders_139 (by decide) (L1 := [_, _, _, _]) rfl ?_
    refine wp_wk (wkE <| wkE <| wkE <| wkJ <| wkN) ?_
    refine s_X11_orders_l140 (Nat.succ_le_succ he) (fun w h' k => ?_) (fun r0_23 h_22 k => ?_) FU _ _ _ _ (ok_bind2 k)
    · try dsimp only at k
      exact (ok_some k :)
    · try dsimp only at k
      refine wp_aload_n dX11_orders_206 rfl ?_
      refine wp_aload_n dX11_orders_207 rfl ?_
      replace k := ok_bind k
      obtain ⟨v_24, e_25, k⟩ := k
      refine wq_getI fl_X11_516 (Or.inl rfl) dX11_orders_208 e_25 ?_
      replace k := ok_bind k
      obtain ⟨u, e_26, k⟩ := k
      refine wp_callV1 (N := M_X11_tell) (ci := 11) mf_X11_tell mi_X11_tell me_X11_tell ml_X11_161 dX11_orders_211 (ckO_e e_26) mv_X11_tell (by exact Nat.le_of_ble_eq_true rfl) (c_X11_tell (Nat.le_trans (by decide) he) (ok_mono (ok_bind2 k) fun z_28 h_27 k => ?_))
      try dsimp only at k
      refine wp_iret rfl rfl dX11_orders_214 ?_
      exact (ok_some k :)
  · replace k := ok_f c_6 k
    refine wp_aload_n dX11_orders_57 rfl ?_
    refine wp_bipush dX11_orders_58 bp_m6 ?_
    replace k := ok_bind k
    obtain ⟨u, e_29, k⟩ := k
    refine wp_callV1 (N := M_X11_tell) (ci := 11) mf_X11_tell mi_X11_tell me_X11_tell ml_X11_161 dX11_orders_60 (ckO_e e_29) mv_X11_tell (by exact Nat.le_of_ble_eq_true rfl) (c_X11_tell (Nat.le_trans (by decide) he) (ok_mono (ok_bind2 k) fun z_31 h_30 k => ?_))
    try dsimp only at k
    refine wp_iret rfl rfl dX11_orders_63 ?_
    exact (ok_some k :)
def f_X11_orders (S : SH) (r0 : Nat) (h : AH) : Option (Int32 × AH) :=
  (pI S h r0 11 0 (0 : Int32)).bind fun h_1 =>
  (pI S h_1 r0 11 52 (-1 : Int32)).bind fun h_3 =>
  (ckO S h_3 r0 11).bind fun _ =>
  (f_X11_beginText S r0 (1 : Int32) h_3).bind fun z => match z with
  | (_, h_6) =>
  (ckO S h_6 r0 11).bind fun _ =>
  (f_X11_readOrder S r0 h_6).bind fun z => match z with
  | (_, h_9) =>
  (f_X11_orders_l19 S FU r0 h_9).bind fun z => match z with
  | (r0_12, h_11) =>
  f_X11_orders_j46 S r0_12 h_11
set_option maxHeartbeats 8000000 in
set_option maxRecDepth 20000 in
theorem s_X11_orders {S : SH} {d cb sb : Nat} {Q : Option Value → AH → Prop} (hd : 12 ≤ d)  {r0 : Nat} {h : AH} (k : ok (f_X11_orders S r0 h) (fun w h' => Q (some (.int w)) h')) : WP S M_X11_orders d cb sb Q 0 [.ref r0, JK, JK, JK] [] h := by
  obtain ⟨d, rfl, he⟩ := dp (L := 11) hd
  unfold f_X11_orders at k
  refine wp_aload_n dX11_orders_0 rfl ?_
  refine wp_iconst dX11_orders_1 ic_0 ?_
  replace k := ok_bind k
  obtain ⟨h_1, e_2, k⟩ := k
  refine wq_putI fl_X11_152 rfl rfl dX11_orders_2 e_2 ?_
  refine wp_aload_n dX11_orders_5 rfl ?_
  refine wp_iconst dX11_orders_6 ic_m1 ?_
  replace k := ok_bind k
  obtain ⟨h_3, e_4, k⟩ := k
  refine wq_putI fl_X11_140 rfl rfl dX11_orders_7 e_4 ?_
  refine wp_aload_n dX11_orders_10 rfl ?_
  refine wp_iconst dX11_orders_11 ic_1 ?_
  replace k := ok_bind k
  obtain ⟨u, e_5, k⟩ := k
  refine wp_callV1 (N := M_X11_beginText) (ci := 11) mf_X11_beginText mi_X11_beginText me_X11_beginText ml_X11_393 dX11_orders_12 (ckO_e e_5) mv_X11_beginText (by exact Nat.le_of_ble_eq_true rfl) (c_X11_beginText (Nat.le_trans (by decide) he) (ok_mono (ok_bind2 k) fun _ h_6 k => ?_))
  try dsimp only at k
  refine wp_aload_n dX11_orders_15 rfl ?_
  replace k := ok_bind k
  obtain ⟨u, e_8, k⟩ := k
  refine wp_callV0 (N := M_X11_readOrder) (ci := 11) mf_X11_readOrder mi_X11_readOrder me_X11_readOrder ml_X11_529 dX11_orders_16 (ckO_e e_8) mv_X11_readOrder (by exact Nat.le_of_ble_eq_true rfl) (c_X11_readOrder (Nat.le_trans (by decide) he) (ok_mono (ok_bind2 k) fun _ h_9 k => ?_))
  try dsimp only at k
  refine wp_wk (wkE <| wkJ <| wkJ <| wkJ <| wkN) ?_
  refine s_X11_orders_l19 (Nat.succ_le_succ he) (fun r0_12 h_11 k => ?_) FU _ _ (ok_bind2 k)
  try dsimp only at k
  exact wp_wk (wkE <| wkJ <| wkJ <| wkJ <| wkN) (s_X11_orders_j46 (Nat.succ_le_succ he)  k)
theorem c_X11_orders {S : SH} {d : Nat} {K : Option Value → AH → Prop} (hd : 12 ≤ d)  {r0 : Nat} {h : AH} (k : ok (f_X11_orders S r0 h) (fun w h' => K (some (.int w)) h')) : CP S M_X11_orders d 0 0 [.ref r0] h K := cp_of (by decide) (fun _ _ => trivial) (fun _ => Nat.le_of_ble_eq_true rfl) (s_X11_orders hd  k)
def f_X11_stopped (S : SH) (r0 : Nat) (h : AH) : Option (Int32 × AH) :=
  (pI S h r0 11 0 (0 : Int32)).bind fun h_1 =>
  (gI S h_1 r0 11 52).bind fun v_3 =>
  some (v_3, h_1)
set_option maxHeartbeats 8000000 in
set_option maxRecDepth 20000 in
theorem s_X11_stopped {S : SH} {d cb sb : Nat} {Q : Option Value → AH → Prop} (hd : 0 ≤ d)  {r0 : Nat} {h : AH} (k : ok (f_X11_stopped S r0 h) (fun w h' => Q (some (.int w)) h')) : WP S M_X11_stopped d cb sb Q 0 [.ref r0] [] h := by
  unfold f_X11_stopped at k
  refine wp_aload_n dX11_stopped_0 rfl ?_
  refine wp_iconst dX11_stopped_1 ic_0 ?_
  replace k := ok_bind k
  obtain ⟨h_1, e_2, k⟩ := k
  refine wq_putI fl_X11_152 rfl rfl dX11_stopped_2 e_2 ?_
  refine wp_aload_n dX11_stopped_5 rfl ?_
  replace k := ok_bind k
  obtain ⟨v_3, e_4, k⟩ := k
  refine wq_getI fl_X11_140 (Or.inl rfl) dX11_stopped_6 e_4 ?_
  refine wp_iret rfl rfl dX11_stopped_9 ?_
  exact (ok_some k :)
theorem c_X11_stopped {S : SH} {d : Nat} {K : Option Value → AH → Prop} (hd : 0 ≤ d)  {r0 : Nat} {h : AH} (k : ok (f_X11_stopped S r0 h) (fun w h' => K (some (.int w)) h')) : CP S M_X11_stopped d 0 0 [.ref r0] h K := cp_of (by decide) (fun _ _ => trivial) (fun _ => Nat.le_of_ble_eq_true rfl) (s_X11_stopped hd  k)
def f_X11_draw (S : SH) (r0 : Nat) (x1 : Int32) (h : AH) : Option (Int32 × AH) :=
  (gJ S h r0 11 54).bind fun w_1 =>
  (pJ S h r0 11 54 (rmJ ((w_1 * (1103 : Int64)) + (12345 : Int64)) (1000003 : Int64))).bind fun h_3 =>
  (gJ S h_3 r0 11 54).bind fun w_5 =>
  (nzJ (Int32.toInt64 x1)).bind fun _ =>
  some ((Int64.toInt32 (rmJ w_5 (Int32.toInt64 x1))), h_3)
set_option maxHeartbeats 8000000 in
set_option maxRecDepth 20000 in
theorem s_X11_draw {S : SH} {d cb sb : Nat} {Q : Option Value → AH → Prop} (hd : 0 ≤ d)  {r0 : Nat} {x1 : Int32} {h : AH} (k : ok (f_X11_draw S r0 x1 h) (fun w h' => Q (some (.int w)) h')) : WP S M_X11_draw d cb sb Q 0 [.ref r0, .int x1] [] h := by
  unfold f_X11_draw at k
  refine wp_aload_n dX11_draw_0 rfl ?_
  refine wp_aload_n dX11_draw_1 rfl ?_
  replace k := ok_bind k
  obtain ⟨w_1, e_2, k⟩ := k
  refine wq_getJ fl_X11_538 rfl dX11_draw_2 e_2 ?_
  refine wp_ldc2 ct_X11_541 dX11_draw_5 ?_
  refine wp_lmul dX11_draw_8 ?_
  refine wp_ldc2 ct_X11_543 dX11_draw_9 ?_
  refine wp_ladd dX11_draw_12 ?_
  refine wp_ldc2 ct_X11_545 dX11_draw_13 ?_
  refine wp_lrem dX11_draw_16 (by decide) ?_
  replace k := ok_bind k
  obtain ⟨h_3, e_4, k⟩ := k
  refine wq_putJ fl_X11_538 rfl rfl dX11_draw_17 e_4 ?_
  refine wp_aload_n dX11_draw_20 rfl ?_
  replace k := ok_bind k
  obtain ⟨w_5, e_6, k⟩ := k
  refine wq_getJ fl_X11_538 rfl dX11_draw_21 e_6 ?_
  refine wp_iload_n dX11_draw_24 rfl ?_
  refine wp_i2l dX11_draw_25 ?_
  replace k := ok_bind k
  obtain ⟨u, e_7, k⟩ := k
  refine wp_lrem dX11_draw_26 (nzJ_e e_7) ?_
  refine wp_l2i dX11_draw_27 ?_
  refine wp_iret rfl rfl dX11_draw_28 ?_
  exact (ok_some k :)
theorem c_X11_draw {S : SH} {d : Nat} {K : Option Value → AH → Prop} (hd : 0 ≤ d)  {r0 : Nat} {x1 : Int32} {h : AH} (k : ok (f_X11_draw S r0 x1 h) (fun w h' => K (some (.int w)) h')) : CP S M_X11_draw d 0 0 [.ref r0, .int x1] h K := cp_of (by decide) (fun _ _ => trivial) (fun _ => Nat.le_of_ble_eq_true rfl) (s_X11_draw hd  k)
def f_X11_mays_l74_j178 (S : SH) (rc : Nat → Int32 → Int32 → AH → Option (Nat × AH)) (r0 : Nat) (x2 : Int32) (x3 : Int32) (x4 : Int32) (x6 : Int32) (x7 : Int32) (h : AH) : Option (Nat × AH) :=
  (gR S h r0 11 3).bind fun p_1 =>
  if x7 = (2 : Int32) then
    (sI S h p_1 ((10 : Int32) + x4) x6).bind fun h_16 =>
    if x7 = (3 : Int32) then
      (ckO S h_16 r0 11).bind fun _ =>
      (f_X11_passIt S r0 h_16).bind fun z => match z with
      | (z_22, h_21) =>
      lt (x3 + (1 : Int32)) fun y_23 =>
      rc r0 x2 y_23 h_21
    else
      lt (x3 + (1 : Int32)) fun y_19 =>
      rc r0 x2 y_19 h_16
  else
    (gR S h r0 11 3).bind fun p_4 =>
    (aI S h p_4 ((10 : Int32) + x4)).bind fun v_6 =>
    (sI S h p_1 ((10 : Int32) + x4) v_6).bind fun h_8 =>
    if x7 = (3 : Int32) then
      (ckO S h_8 r0 11).bind fun _ =>
      (f_X11_passIt S r0 h_8).bind fun z => match z with
      | (z_14, h_13) =>
      lt (x3 + (1 : Int32)) fun y_15 =>
      rc r0 x2 y_15 h_13
    else
      lt (x3 + (1 : Int32)) fun y_11 =>
      rc r0 x2 y_11 h_8
set_option maxHeartbeats 8000000 in
set_option maxRecDepth 20000 in
theorem s_X11_mays_l74_j178 {S : SH} {d cb sb : Nat} {Q : Option Value → AH → Prop} (hd : 9 ≤ d) {K : Nat → AH → Prop} (hex : ∀ (r0 : Nat) (h' : AH), K r0 h' → WP S M_X11_mays d cb sb Q 226 [.ref r0, JK, JK, JK, JK, JK, JK, JK] [] h') {rc : Nat → Int32 → Int32 → AH → Option (Nat × AH)} (hrec : ∀ (r0 : Nat) (x2 : Int32) (x3 : Int32) (h' : AH), ok (rc r0 x2 x3 h') K → WP S M_X11_mays d cb sb Q 74 [.ref r0, JK, .int x2, .int x3, JK, JK, JK, JK] [] h') {r0 : Nat} {x2 : Int32} {x3 : Int32} {x4 : Int32} {x6 : Int32} {x7 : Int32} {h : AH} (k : ok (f_X11_mays_l74_j178 S rc r0 x2 x3 x4 x6 x7 h) K) : WP S M_X11_mays d cb sb Q 178 [.ref r0, JK, .int x2, .int x3, .int x4, JK, .int x6, .int x7] [] h := by
  obtain ⟨d, rfl, he⟩ := dp (L := 8) hd
  unfold f_X11_mays_l74_j178 at k
  refine wp_aload_n dX11_mays_178 rfl ?_
  replace k := ok_bind k
  obtain ⟨p_1, e_2, k⟩ := k
  refine wq_getR fl_X11_13 (Or.inr ⟨_, rfl⟩) dX11_mays_179 e_2 ?_
  refine wp_bipush dX11_mays_182 bp_10 ?_
  refine wp_iload dX11_mays_184 rfl ?_
  refine wp_iadd dX11_mays_186 ?_
  refine wp_iload dX11_mays_187 rfl ?_
  refine wp_iconst dX11_mays_189 ic_2 ?_
  refine wp_icmp_ne 198 dX11_mays_190 (by decide) (fun c_3 => ?_) (fun c_3 => ?_)
  · replace k := ok_f c_3 k
    refine wp_aload_n dX11_mays_198 rfl ?_
    replace k := ok_bind k
    obtain ⟨p_4, e_5, k⟩ := k
    refine wq_getR fl_X11_13 (Or.inr ⟨_, rfl⟩) dX11_mays_199 e_5 ?_
    refine wp_bipush dX11_mays_202 bp_10 ?_
    refine wp_iload dX11_mays_204 rfl ?_
    refine wp_iadd dX11_mays_206 ?_
    replace k := ok_bind k
    obtain ⟨v_6, e_7, k⟩ := k
    refine wq_aI dX11_mays_207 e_7 ?_
    replace k := ok_bind k
    obtain ⟨h_8, e_9, k⟩ := k
    refine wq_sI dX11_mays_208 e_9 ?_
    refine wp_iload dX11_mays_209 rfl ?_
    refine wp_iconst dX11_mays_211 ic_3 ?_
    refine wp_icmp_ne 220 dX11_mays_212 (by decide) (fun c_10 => ?_) (fun c_10 => ?_)
    · replace k := ok_f c_10 k
      replace k := ok_lt k
      refine wp_iinc dX11_mays_220 rfl ic_1 (by decide) (L1 := [_, _, _, _, _, _, _, _]) rfl ?_
      refine wp_goto 74 dX11_mays_223 (by decide) ?_
      exact wp_wk (wkE <| wkJ <| wkE <| wkE <| wkJ <| wkJ <| wkJ <| wkJ <| wkN) (hrec _ _ _ _ k)
    · replace k := ok_t c_10 k
      refine wp_aload_n dX11_mays_215 rfl ?_
      replace k := ok_bind k
      obtain ⟨u, e_12, k⟩ := k
      refine wp_callV0 (N := M_X11_passIt) (ci := 11) mf_X11_passIt mi_X11_passIt me_X11_passIt ml_X11_466 dX11_mays_216 (ckO_e e_12) mv_X11_passIt (by exact Nat.le_of_ble_eq_true rfl) (c_X11_passIt (Nat.le_trans (by decide) he) (ok_mono (ok_bind2 k) fun z_14 h_13 k => ?_))
      try dsimp only at k
      refine wp_popI dX11_mays_219 ?_
      replace k := ok_lt k
      refine wp_iinc dX11_mays_220 rfl ic_1 (by decide) (L1 := [_, _, _, _, _, _, _, _]) rfl ?_
      refine wp_goto 74 dX11_mays_223 (by decide) ?_
      exact wp_wk (wkE <| wkJ <| wkE <| wkE <| wkJ <| wkJ <| wkJ <| wkJ <| wkN) (hrec _ _ _ _ k)
  · replace k := ok_t c_3 k
    refine wp_iload dX11_mays_193 rfl ?_
    refine wp_goto 208 dX11_mays_195 (by decide) ?_
    replace k := ok_bind k
    obtain ⟨h_16, e_17, k⟩ := k
    refine wq_sI dX11_mays_208 e_17 ?_
    refine wp_iload dX11_mays_209 rfl ?_
    refine wp_iconst dX11_mays_211 ic_3 ?_
    refine wp_icmp_ne 220 dX11_mays_212 (by decide) (fun c_18 => ?_) (fun c_18 => ?_)
    · replace k := ok_f c_18 k
      replace k := ok_lt k
      refine wp_iinc dX11_mays_220 rfl ic_1 (by decide) (L1 := [_, _, _, _, _, _, _, _]) rfl ?_
      refine wp_goto 74 dX11_mays_223 (by decide) ?_
      exact wp_wk (wkE <| wkJ <| wkE <| wkE <| wkJ <| wkJ <| wkJ <| wkJ <| wkN) (hrec _ _ _ _ k)
    · replace k := ok_t c_18 k
      refine wp_aload_n dX11_mays_215 rfl ?_
      replace k := ok_bind k
      obtain ⟨u, e_20, k⟩ := k
      refine wp_callV0 (N := M_X11_passIt) (ci := 11) mf_X11_passIt mi_X11_passIt me_X11_passIt ml_X11_466 dX11_mays_216 (ckO_e e_20) mv_X11_passIt (by exact Nat.le_of_ble_eq_true rfl) (c_X11_passIt (Nat.le_trans (by decide) he) (ok_mono (ok_bind2 k) fun z_22 h_21 k => ?_))
      try dsimp only at k
      refine wp_popI dX11_mays_219 ?_
      replace k := ok_lt k
      refine wp_iinc dX11_mays_220 rfl ic_1 (by decide) (L1 := [_, _, _, _, _, _, _, _]) rfl ?_
      refine wp_goto 74 dX11_mays_223 (by decide) ?_
      exact wp_wk (wkE <| wkJ <| wkE <| wkE <| wkJ <| wkJ <| wkJ <| wkJ <| wkN) (hrec _ _ _ _ k)
def f_X11_mays_l74_j157 (S : SH) (rc : Nat → Int32 → Int32 → AH → Option (Nat × AH)) (r0 : Nat) (x2 : Int32) (x3 : Int32) (x4 : Int32) (x5 : Int32) (x6 : Int32) (x7 : Int32) (h : AH) : Option (Nat × AH) :=
  if x7 = (1 : Int32) then
    (ckO S h r0 11).bind fun _ =>
    (f_X11_canDivide S r0 x5 h).bind fun z => match z with
    | (z_4, h_3) =>
    if z_4 = (0 : Int32) then
      f_X11_mays_l74_j178 S rc r0 x2 x3 x4 x6 x7 h_3
    else
      (ckO S h_3 r0 11).bind fun _ =>
      (f_X11_divideIt S r0 x5 h_3).bind fun z => match z with
      | (_, h_7) =>
      f_X11_mays_l74_j178 S rc r0 x2 x3 x4 x6 x7 h_7
  else
    f_X11_mays_l74_j178 S rc r0 x2 x3 x4 x6 x7 h
set_option maxHeartbeats 8000000 in
set_option maxRecDepth 20000 in
theorem s_X11_mays_l74_j157 {S : SH} {d cb sb : Nat} {Q : Option Value → AH → Prop} (hd : 9 ≤ d) {K : Nat → AH → Prop} (hex : ∀ (r0 : Nat) (h' : AH), K r0 h' → WP S M_X11_mays d cb sb Q 226 [.ref r0, JK, JK, JK, JK, JK, JK, JK] [] h') {rc : Nat → Int32 → Int32 → AH → Option (Nat × AH)} (hrec : ∀ (r0 : Nat) (x2 : Int32) (x3 : Int32) (h' : AH), ok (rc r0 x2 x3 h') K → WP S M_X11_mays d cb sb Q 74 [.ref r0, JK, .int x2, .int x3, JK, JK, JK, JK] [] h') {r0 : Nat} {x2 : Int32} {x3 : Int32} {x4 : Int32} {x5 : Int32} {x6 : Int32} {x7 : Int32} {h : AH} (k : ok (f_X11_mays_l74_j157 S rc r0 x2 x3 x4 x5 x6 x7 h) K) : WP S M_X11_mays d cb sb Q 157 [.ref r0, JK, .int x2, .int x3, .int x4, .int x5, .int x6, .int x7] [] h := by
  obtain ⟨d, rfl, he⟩ := dp (L := 8) hd
  unfold f_X11_mays_l74_j157 at k
  refine wp_iload dX11_mays_157 rfl ?_
  refine wp_iconst dX11_mays_159 ic_1 ?_
  refine wp_icmp_ne 178 dX11_mays_160 (by decide) (fun c_1 => ?_) (fun c_1 => ?_)
  · replace k := ok_f c_1 k
    exact wp_wk (wkE <| wkJ <| wkE <| wkE <| wkE <| wkJ <| wkE <| wkE <| wkN) (s_X11_mays_l74_j178 (Nat.succ_le_succ he) hex hrec k)
  · replace k := ok_t c_1 k
    refine wp_aload_n dX11_mays_163 rfl ?_
    refine wp_iload dX11_mays_164 rfl ?_
    replace k := ok_bind k
    obtain ⟨u, e_2, k⟩ := k
    refine wp_callV1 (N := M_X11_canDivide) (ci := 11) mf_X11_canDivide mi_X11_canDivide me_X11_canDivide ml_X11_234 dX11_mays_166 (ckO_e e_2) mv_X11_canDivide (by exact Nat.le_of_ble_eq_true rfl) (c_X11_canDivide (Nat.le_trans (by decide) he) (ok_mono (ok_bind2 k) fun z_4 h_3 k => ?_))
    try dsimp only at k
    refine wp_if_eq 178 dX11_mays_169 (by decide) (fun c_5 => ?_) (fun c_5 => ?_)
    · replace k := ok_t c_5 k
      exact wp_wk (wkE <| wkJ <| wkE <| wkE <| wkE <| wkJ <| wkE <| wkE <| wkN) (s_X11_mays_l74_j178 (Nat.succ_le_succ he) hex hrec k)
    · replace k := ok_f c_5 k
      refine wp_aload_n dX11_mays_172 rfl ?_
      refine wp_iload dX11_mays_173 rfl ?_
      replace k := ok_bind k
      obtain ⟨u, e_6, k⟩ := k
      refine wp_callV1 (N := M_X11_divideIt) (ci := 11) mf_X11_divideIt mi_X11_divideIt me_X11_divideIt ml_X11_457 dX11_mays_175 (ckO_e e_6) mv_X11_divideIt (by exact Nat.le_of_ble_eq_true rfl) (c_X11_divideIt (Nat.le_trans (by decide) he) (ok_mono (ok_bind2 k) fun _ h_7 k => ?_))
      try dsimp only at k
      exact wp_wk (wkE <| wkJ <| wkE <| wkE <| wkE <| wkJ <| wkE <| wkE <| wkN) (s_X11_mays_l74_j178 (Nat.succ_le_succ he) hex hrec k)
def f_X11_mays_l74b (S : SH) (rc : Nat → Int32 → Int32 → AH → Option (Nat × AH)) (r0 : Nat) (x2 : Int32) (x3 : Int32) (h : AH) : Option (Nat × AH) :=
  if x2 ≤ x3 then
    some (r0, h)
  else
    (gR S h r0 11 3).bind fun p_2 =>
    (aI S h p_2 (5 : Int32)).bind fun v_4 =>
    if (999 : Int32) ≤ v_4 then
      some (r0, h)
    else
      (gR S h r0 11 3).bind fun p_7 =>
      (aI S h p_7 (0 : Int32)).bind fun v_9 =>
      (ckO S h r0 11).bind fun _ =>
      (f_X11_draw S r0 v_9 h).bind fun z => match z with
      | (z_13, h_12) =>
      (gR S h_12 r0 11 3).bind fun p_14 =>
      (aI S h_12 p_14 (1 : Int32)).bind fun v_16 =>
      (ckO S h_12 r0 11).bind fun _ =>
      (f_X11_draw S r0 v_16 h_12).bind fun z => match z with
      | (z_20, h_19) =>
      (ckO S h_19 r0 11).bind fun _ =>
      (f_X11_draw S r0 (20 : Int32) h_19).bind fun z => match z with
      | (z_23, h_22) =>
      (ckO S h_22 r0 11).bind fun _ =>
      (f_X11_draw S r0 (4 : Int32) h_22).bind fun z => match z with
      | (z_26, h_25) =>
      if z_26 = (0 : Int32) then
        (ckO S h_25 r0 11).bind fun _ =>
        (f_X11_canMove S r0 z_20 z_13 h_25).bind fun z => match z with
        | (z_30, h_29) =>
        if z_30 = (0 : Int32) then
          f_X11_mays_l74_j157 S rc r0 x2 x3 z_13 z_20 z_23 z_26 h_29
        else
          (gR S h_29 r0 11 3).bind fun p_32 =>
          (sI S h_29 p_32 ((17 : Int32) + z_20) (1 : Int32)).bind fun h_34 =>
          f_X11_mays_l74_j157 S rc r0 x2 x3 z_13 z_20 z_23 z_26 h_34
      else
        f_X11_mays_l74_j157 S rc r0 x2 x3 z_13 z_20 z_23 z_26 h_25
set_option maxHeartbeats 8000000 in
set_option maxRecDepth 20000 in
theorem s_X11_mays_l74b {S : SH} {d cb sb : Nat} {Q : Option Value → AH → Prop} (hd : 9 ≤ d) {K : Nat → AH → Prop} (hex : ∀ (r0 : Nat) (h' : AH), K r0 h' → WP S M_X11_mays d cb sb Q 226 [.ref r0, JK, JK, JK, JK, JK, JK, JK] [] h') {rc : Nat → Int32 → Int32 → AH → Option (Nat × AH)} (hrec : ∀ (r0 : Nat) (x2 : Int32) (x3 : Int32) (h' : AH), ok (rc r0 x2 x3 h') K → WP S M_X11_mays d cb sb Q 74 [.ref r0, JK, .int x2, .int x3, JK, JK, JK, JK] [] h') {r0 : Nat} {x2 : Int32} {x3 : Int32} {h : AH} (k : ok (f_X11_mays_l74b S rc r0 x2 x3 h) K) : WP S M_X11_mays d cb sb Q 74 [.ref r0, JK, .int x2, .int x3, JK, JK, JK, JK] [] h := by
  obtain ⟨d, rfl, he⟩ := dp (L := 8) hd
  unfold f_X11_mays_l74b at k
  refine wp_iload_n dX11_mays_74 rfl ?_
  refine wp_iload_n dX11_mays_75 rfl ?_
  refine wp_icmp_ge 226 dX11_mays_76 (by decide) (fun c_1 => ?_) (fun c_1 => ?_)
  · replace k := ok_t c_1 k
    exact wp_wk (wkE <| wkJ <| wkJ <| wkJ <| wkJ <| wkJ <| wkJ <| wkJ <| wkN) (hex _ _ (ok_some k))
  · replace k := ok_f c_1 k
    refine wp_aload_n dX11_mays_79 rfl ?_
    replace k := ok_bind k
    obtain ⟨p_2, e_3, k⟩ := k
    refine wq_getR fl_X11_13 (Or.inr ⟨_, rfl⟩) dX11_mays_80 e_3 ?_
    refine wp_iconst dX11_mays_83 ic_5 ?_
    replace k := ok_bind k
    obtain ⟨v_4, e_5, k⟩ := k
    refine wq_aI dX11_mays_84 e_5 ?_
    refine wp_sipush dX11_mays_85 sp_999 ?_
    refine wp_icmp_ge 226 dX11_mays_88 (by decide) (fun c_6 => ?_) (fun c_6 => ?_)
    · replace k := ok_t c_6 k
      exact wp_wk (wkE <| wkJ <| wkJ <| wkJ <| wkJ <| wkJ <| wkJ <| wkJ <| wkN) (hex _ _ (ok_some k))
    · replace k := ok_f c_6 k
      refine wp_aload_n dX11_mays_91 rfl ?_
      refine wp_aload_n dX11_mays_92 rfl ?_
      replace k := ok_bind k
      obtain ⟨p_7, e_8, k⟩ := k
      refine wq_getR fl_X11_13 (Or.inr ⟨_, rfl⟩) dX11_mays_93 e_8 ?_
      refine wp_iconst dX11_mays_96 ic_0 ?_
      replace k := ok_bind k
      obtain ⟨v_9, e_10, k⟩ := k
      refine wq_aI dX11_mays_97 e_10 ?_
      replace k := ok_bind k
      obtain ⟨u, e_11, k⟩ := k
      refine wp_callV1 (N := M_X11_draw) (ci := 11) mf_X11_draw mi_X11_draw me_X11_draw ml_X11_549 dX11_mays_98 (ckO_e e_11) mv_X11_draw (by exact Nat.le_of_ble_eq_true rfl) (c_X11_draw (Nat.le_trans (by decide) he) (ok_mono (ok_bind2 k) fun z_13 h_12 k => ?_))
      try dsimp only at k
      refine wp_istore dX11_mays_101 (by decide) (L1 := [_, _, _, _, _, _, _, _]) rfl ?_
      refine wp_aload_n dX11_mays_103 rfl ?_
      refine wp_aload_n dX11_mays_104 rfl ?_
      replace k := ok_bind k
      obtain ⟨p_14, e_15, k⟩ := k
      refine wq_getR fl_X11_13 (Or.inr ⟨_, rfl⟩) dX11_mays_105 e_15 ?_
      refine wp_iconst dX11_mays_108 ic_1 ?_
      replace k := ok_bind k
      obtain ⟨v_16, e_17, k⟩ := k
      refine wq_aI dX11_mays_109 e_17 ?_
      replace k := ok_bind k
      obtain ⟨u, e_18, k⟩ := k
      refine wp_callV1 (N := M_X11_draw) (ci := 11) mf_X11_draw mi_X11_draw me_X11_draw ml_X11_549 dX11_mays_110 (ckO_e e_18) mv_X11_draw (by exact Nat.le_of_ble_eq_true rfl) (c_X11_draw (Nat.le_trans (by decide) he) (ok_mono (ok_bind2 k) fun z_20 h_19 k => ?_))
      try dsimp only at k
      refine wp_istore dX11_mays_113 (by decide) (L1 := [_, _, _, _, _, _, _, _]) rfl ?_
      refine wp_aload_n dX11_mays_115 rfl ?_
      refine wp_bipush dX11_mays_116 bp_20 ?_
      replace k := ok_bind k
      obtain ⟨u, e_21, k⟩ := k
      refine wp_callV1 (N := M_X11_draw) (ci := 11) mf_X11_draw mi_X11_draw me_X11_draw ml_X11_549 dX11_mays_118 (ckO_e e_21) mv_X11_draw (by exact Nat.le_of_ble_eq_true rfl) (c_X11_draw (Nat.le_trans (by decide) he) (ok_mono (ok_bind2 k) fun z_23 h_22 k => ?_))
      try dsimp only at k
      refine wp_istore dX11_mays_121 (by decide) (L1 := [_, _, _, _, _, _, _, _]) rfl ?_
      refine wp_aload_n dX11_mays_123 rfl ?_
      refine wp_iconst dX11_mays_124 ic_4 ?_
      replace k := ok_bind k
      obtain ⟨u, e_24, k⟩ := k
      refine wp_callV1 (N := M_X11_draw) (ci := 11) mf_X11_draw mi_X11_draw me_X11_draw ml_X11_549 dX11_mays_125 (ckO_e e_24) mv_X11_draw (by exact Nat.le_of_ble_eq_true rfl) (c_X11_draw (Nat.le_trans (by decide) he) (ok_mono (ok_bind2 k) fun z_26 h_25 k => ?_))
      try dsimp only at k
      refine wp_istore dX11_mays_128 (by decide) (L1 := [_, _, _, _, _, _, _, _]) rfl ?_
      refine wp_iload dX11_mays_130 rfl ?_
      refine wp_if_ne 157 dX11_mays_132 (by decide) (fun c_27 => ?_) (fun c_27 => ?_)
      · replace k := ok_f c_27 k
        exact wp_wk (wkE <| wkJ <| wkE <| wkE <| wkE <| wkE <| wkE <| wkE <| wkN) (s_X11_mays_l74_j157 (Nat.succ_le_succ he) hex hrec k)
      · replace k := ok_t c_27 k
        refine wp_aload_n dX11_mays_135 rfl ?_
        refine wp_iload dX11_mays_136 rfl ?_
        refine wp_iload dX11_mays_138 rfl ?_
        replace k := ok_bind k
        obtain ⟨u, e_28, k⟩ := k
        refine wp_callV2 (N := M_X11_canMove) (ci := 11) mf_X11_canMove mi_X11_canMove me_X11_canMove ml_X11_448 dX11_mays_140 (ckO_e e_28) mv_X11_canMove (by exact Nat.le_of_ble_eq_true rfl) (c_X11_canMove (Nat.le_trans (by decide) he) (ok_mono (ok_bind2 k) fun z_30 h_29 k => ?_))
        try dsimp only at k
        refine wp_if_eq 157 dX11_mays_143 (by decide) (fun c_31 => ?_) (fun c_31 => ?_)
        · replace k := ok_t c_31 k
          exact wp_wk (wkE <| wkJ <| wkE <| wkE <| wkE <| wkE <| wkE <| wkE <| wkN) (s_X11_mays_l74_j157 (Nat.succ_le_succ he) hex hrec k)
        · replace k := ok_f c_31 k
          refine wp_aload_n dX11_mays_146 rfl ?_
          replace k := ok_bind k
          obtain ⟨p_32, e_33, k⟩ := k
          refine wq_getR fl_X11_13 (Or.inr ⟨_, rfl⟩) dX11_mays_147 e_33 ?_
          refine wp_bipush dX11_mays_150 bp_17 ?_
          refine wp_iload dX11_mays_152 rfl ?_
          refine wp_iadd dX11_mays_154 ?_
          refine wp_iconst dX11_mays_155 ic_1 ?_
          replace k := ok_bind k
          obtain ⟨h_34, e_35, k⟩ := k
          refine wq_sI dX11_mays_156 e_35 ?_
          exact wp_wk (wkE <| wkJ <| wkE <| wkE <| wkE <| wkE <| wkE <| wkE <| wkN) (s_X11_mays_l74_j157 (Nat.succ_le_succ he) hex hrec k)
def f_X11_mays_l74 (S : SH) : Nat → Nat → Int32 → Int32 → AH → Option (Nat × AH)
  | 0, _, _, _, _ => none
  | n + 1, r0, x2, x3, h => f_X11_mays_l74b S (f_X11_mays_l74 S n) r0 x2 x3 h
theorem s_X11_mays_l74 {S : SH} {d cb sb : Nat} {Q : Option Value → AH → Prop} (hd : 9 ≤ d) {K : Nat → AH → Prop} (hex : ∀ (r0 : Nat) (h' : AH), K r0 h' → WP S M_X11_mays d cb sb Q 226 [.ref r0, JK, JK, JK, JK, JK, JK, JK] [] h') : ∀ (n : Nat) (r0 : Nat) (x2 : Int32) (x3 : Int32) (h : AH), ok (f_X11_mays_l74 S n r0 x2 x3 h) K → WP S M_X11_mays d cb sb Q 74 [.ref r0, JK, .int x2, .int x3, JK, JK, JK, JK] [] h := by
  intro n
  induction n with
  | zero => intro r0 x2 x3 h k; exact ok_none k
  | succ n ih => intro r0 x2 x3 h k; exact s_X11_mays_l74b hd hex (fun r0 x2 x3 h k => ih r0 x2 x3 h k) k
def f_X11_mays_l231b (S : SH) (rc : Nat → Int32 → Int32 → AH → Option ((Nat × Int32) × AH)) (r0 : Nat) (x3 : Int32) (x4 : Int32) (h : AH) : Option ((Nat × Int32) × AH) :=
  (gR S h r0 11 3).bind fun p_1 =>
  (aI S h p_1 (1 : Int32)).bind fun v_3 =>
  if v_3 ≤ x4 then
    some ((r0, x3), h)
  else
    (gR S h r0 11 3).bind fun p_6 =>
    (aI S h p_6 ((17 : Int32) + x4)).bind fun v_8 =>
    if v_8 = (2 : Int32) then
      (gR S h r0 11 3).bind fun p_13 =>
      (aI S h p_13 ((78 : Int32) + x4)).bind fun v_15 =>
      lt ((x3 + v_15)) fun y_17 =>
      lt (x4 + (1 : Int32)) fun y_18 =>
      rc r0 y_17 y_18 h
    else
      lt ((x3 + (0 : Int32))) fun y_11 =>
      lt (x4 + (1 : Int32)) fun y_12 =>
      rc r0 y_11 y_12 h
set_option maxHeartbeats 8000000 in
set_option maxRecDepth 20000 in
theorem s_X11_mays_l231b {S : SH} {d cb sb : Nat} {Q : Option Value → AH → Prop} (hd : 9 ≤ d) {K : (Nat × Int32) → AH → Prop} (hex : ∀ (r0 : Nat) (x3 : Int32) (h' : AH), K (r0, x3) h' → WP S M_X11_mays d cb sb Q 279 [.ref r0, JK, JK, .int x3, JK, JK, JK, JK] [] h') {rc : Nat → Int32 → Int32 → AH → Option ((Nat × Int32) × AH)} (hrec : ∀ (r0 : Nat) (x3 : Int32) (x4 : Int32) (h' : AH), ok (rc r0 x3 x4 h') K → WP S M_X11_mays d cb sb Q 231 [.ref r0, JK, JK, .int x3, .int x4, JK, JK, JK] [] h') {r0 : Nat} {x3 : Int32} {x4 : Int32} {h : AH} (k : ok (f_X11_mays_l231b S rc r0 x3 x4 h) K) : WP S M_X11_mays d cb sb Q 231 [.ref r0, JK, JK, .int x3, .int x4, JK, JK, JK] [] h := by
  obtain ⟨d, rfl, he⟩ := dp (L := 8) hd
  unfold f_X11_mays_l231b at k
  refine wp_iload dX11_mays_231 rfl ?_
  refine wp_aload_n dX11_mays_233 rfl ?_
  replace k := ok_bind k
  obtain ⟨p_1, e_2, k⟩ := k
  refine wq_getR fl_X11_13 (Or.inr ⟨_, rfl⟩) dX11_mays_234 e_2 ?_
  refine wp_iconst dX11_mays_237 ic_1 ?_
  replace k := ok_bind k
  obtain ⟨v_3, e_4, k⟩ := k
  refine wq_aI dX11_mays_238 e_4 ?_
  refine wp_icmp_ge 279 dX11_mays_239 (by decide) (fun c_5 => ?_) (fun c_5 => ?_)
  · replace k := ok_t c_5 k
    exact wp_wk (wkE <| wkJ <| wkJ <| wkE <| wkJ <| wkJ <| wkJ <| wkJ <| wkN) (hex _ _ _ (ok_some k))
  · replace k := ok_f c_5 k
    refine wp_iload_n dX11_mays_242 rfl ?_
    refine wp_aload_n dX11_mays_243 rfl ?_
    replace k := ok_bind k
    obtain ⟨p_6, e_7, k⟩ := k
    refine wq_getR fl_X11_13 (Or.inr ⟨_, rfl⟩) dX11_mays_244 e_7 ?_
    refine wp_bipush dX11_mays_247 bp_17 ?_
    refine wp_iload dX11_mays_249 rfl ?_
    refine wp_iadd dX11_mays_251 ?_
    replace k := ok_bind k
    obtain ⟨v_8, e_9, k⟩ := k
    refine wq_aI dX11_mays_252 e_9 ?_
    refine wp_iconst dX11_mays_253 ic_2 ?_
    refine wp_icmp_ne 270 dX11_mays_254 (by decide) (fun c_10 => ?_) (fun c_10 => ?_)
    · replace k := ok_f c_10 k
      refine wp_iconst dX11_mays_270 ic_0 ?_
      refine wp_iadd dX11_mays_271 ?_
      replace k := ok_lt k
      refine wp_istore_n dX11_mays_272 (by decide) (L1 := [_, _, _, _, _, _, _, _]) rfl ?_
      replace k := ok_lt k
      refine wp_iinc dX11_mays_273 rfl ic_1 (by decide) (L1 := [_, _, _, _, _, _, _, _]) rfl ?_
      refine wp_goto 231 dX11_mays_276 (by decide) ?_
      exact wp_wk (wkE <| wkJ <| wkJ <| wkE <| wkE <| wkJ <| wkJ <| wkJ <| wkN) (hrec _ _ _ _ k)
    · replace k := ok_t c_10 k
      refine wp_aload_n dX11_mays_257 rfl ?_
      replace k := ok_bind k
      obtain ⟨p_13, e_14, k⟩ := k
      refine wq_getR fl_X11_13 (Or.inr ⟨_, rfl⟩) dX11_mays_258 e_14 ?_
      refine wp_bipush dX11_mays_261 bp_78 ?_
      refine wp_iload dX11_mays_263 rfl ?_
      refine wp_iadd dX11_mays_265 ?_
      replace k := ok_bind k
      obtain ⟨v_15, e_16, k⟩ := k
      refine wq_aI dX11_mays_266 e_16 ?_
      refine wp_goto 271 dX11_mays_267 (by decide) ?_
      refine wp_iadd dX11_mays_271 ?_
      replace k := ok_lt k
      refine wp_istore_n dX11_mays_272 (by decide) (L1 := [_, _, _, _, _, _, _, _]) rfl ?_
      replace k := ok_lt k
      refine wp_iinc dX11_mays_273 rfl ic_1 (by decide) (L1 := [_, _, _, _, _, _, _, _]) rfl ?_
      refine wp_goto 231 dX11_mays_276 (by decide) ?_
      exact wp_wk (wkE <| wkJ <| wkJ <| wkE <| wkE <| wkJ <| wkJ <| wkJ <| wkN) (hrec _ _ _ _ k)
def f_X11_mays_l231 (S : SH) : Nat → Nat → Int32 → Int32 → AH → Option ((Nat × Int32) × AH)
  | 0, _, _, _, _ => none
  | n + 1, r0, x3, x4, h => f_X11_mays_l231b S (f_X11_mays_l231 S n) r0 x3 x4 h
theorem s_X11_mays_l231 {S : SH} {d cb sb : Nat} {Q : Option Value → AH → Prop} (hd : 9 ≤ d) {K : (Nat × Int32) → AH → Prop} (hex : ∀ (r0 : Nat) (x3 : Int32) (h' : AH), K (r0, x3) h' → WP S M_X11_mays d cb sb Q 279 [.ref r0, JK, JK, .int x3, JK, JK, JK, JK] [] h') : ∀ (n : Nat) (r0 : Nat) (x3 : Int32) (x4 : Int32) (h : AH), ok (f_X11_mays_l231 S n r0 x3 x4 h) K → WP S M_X11_mays d cb sb Q 231 [.ref r0, JK, JK, .int x3, .int x4, JK, JK, JK] [] h := by
  intro n
  induction n with
  | zero => intro r0 x3 x4 h k; exact ok_none k
  | succ n ih => intro r0 x3 x4 h k; exact s_X11_mays_l231b hd hex (fun r0 x3 x4 h k => ih r0 x3 x4 h k) k
def f_X11_mays_l282b (S : SH) (rc : Nat → Int32 → Int32 → AH → Option ((Nat × Int32) × AH)) (r0 : Nat) (x3 : Int32) (x4 : Int32) (h : AH) : Option ((Nat × Int32) × AH) :=
  if (18 : Int32) ≤ x4 then
    some ((r0, x3), h)
  else
    (gR S h r0 11 55).bind fun p_2 =>
    (gR S h r0 11 3).bind fun p_4 =>
    (aI S h p_4 ((5 : Int32) + x4)).bind fun v_6 =>
    (sI S h p_2 x4 v_6).bind fun h_8 =>
    lt (x4 + (1 : Int32)) fun y_10 =>
    rc r0 x3 y_10 h_8
set_option maxHeartbeats 8000000 in
set_option maxRecDepth 20000 in
theorem s_X11_mays_l282b {S : SH} {d cb sb : Nat} {Q : Option Value → AH → Prop} (hd : 9 ≤ d) {K : (Nat × Int32) → AH → Prop} (hex : ∀ (r0 : Nat) (x3 : Int32) (h' : AH), K (r0, x3) h' → WP S M_X11_mays d cb sb Q 311 [.ref r0, JK, JK, .int x3, JK, JK, JK, JK] [] h') {rc : Nat → Int32 → Int32 → AH → Option ((Nat × Int32) × AH)} (hrec : ∀ (r0 : Nat) (x3 : Int32) (x4 : Int32) (h' : AH), ok (rc r0 x3 x4 h') K → WP S M_X11_mays d cb sb Q 282 [.ref r0, JK, JK, .int x3, .int x4, JK, JK, JK] [] h') {r0 : Nat} {x3 : Int32} {x4 : Int32} {h : AH} (k : ok (f_X11_mays_l282b S rc r0 x3 x4 h) K) : WP S M_X11_mays d cb sb Q 282 [.ref r0, JK, JK, .int x3, .int x4, JK, JK, JK] [] h := by
  obtain ⟨d, rfl, he⟩ := dp (L := 8) hd
  unfold f_X11_mays_l282b at k
  refine wp_iload dX11_mays_282 rfl ?_
  refine wp_bipush dX11_mays_284 bp_18 ?_
  refine wp_icmp_ge 311 dX11_mays_286 (by decide) (fun c_1 => ?_) (fun c_1 => ?_)
  · replace k := ok_t c_1 k
    exact wp_wk (wkE <| wkJ <| wkJ <| wkE <| wkJ <| wkJ <| wkJ <| wkJ <| wkN) (hex _ _ _ (ok_some k))
  · replace k := ok_f c_1 k
    refine wp_aload_n dX11_mays_289 rfl ?_
    replace k := ok_bind k
    obtain ⟨p_2, e_3, k⟩ := k
    refine wq_getR fl_X11_143 (Or.inr ⟨_, rfl⟩) dX11_mays_290 e_3 ?_
    refine wp_iload dX11_mays_293 rfl ?_
    refine wp_aload_n dX11_mays_295 rfl ?_
    replace k := ok_bind k
    obtain ⟨p_4, e_5, k⟩ := k
    refine wq_getR fl_X11_13 (Or.inr ⟨_, rfl⟩) dX11_mays_296 e_5 ?_
    refine wp_iconst dX11_mays_299 ic_5 ?_
    refine wp_iload dX11_mays_300 rfl ?_
    refine wp_iadd dX11_mays_302 ?_
    replace k := ok_bind k
    obtain ⟨v_6, e_7, k⟩ := k
    refine wq_aI dX11_mays_303 e_7 ?_
    replace k := ok_bind k
    obtain ⟨h_8, e_9, k⟩ := k
    refine wq_sI dX11_mays_304 e_9 ?_
    replace k := ok_lt k
    refine wp_iinc dX11_mays_305 rfl ic_1 (by decide) (L1 := [_, _, _, _, _, _, _, _]) rfl ?_
    refine wp_goto 282 dX11_mays_308 (by decide) ?_
    exact wp_wk (wkE <| wkJ <| wkJ <| wkE <| wkE <| wkJ <| wkJ <| wkJ <| wkN) (hrec _ _ _ _ k)
def f_X11_mays_l282 (S : SH) : Nat → Nat → Int32 → Int32 → AH → Option ((Nat × Int32) × AH)
  | 0, _, _, _, _ => none
  | n + 1, r0, x3, x4, h => f_X11_mays_l282b S (f_X11_mays_l282 S n) r0 x3 x4 h
theorem s_X11_mays_l282 {S : SH} {d cb sb : Nat} {Q : Option Value → AH → Prop} (hd : 9 ≤ d) {K : (Nat × Int32) → AH → Prop} (hex : ∀ (r0 : Nat) (x3 : Int32) (h' : AH), K (r0, x3) h' → WP S M_X11_mays d cb sb Q 311 [.ref r0, JK, JK, .int x3, JK, JK, JK, JK] [] h') : ∀ (n : Nat) (r0 : Nat) (x3 : Int32) (x4 : Int32) (h : AH), ok (f_X11_mays_l282 S n r0 x3 x4 h) K → WP S M_X11_mays d cb sb Q 282 [.ref r0, JK, JK, .int x3, .int x4, JK, JK, JK] [] h := by
  intro n
  induction n with
  | zero => intro r0 x3 x4 h k; exact ok_none k
  | succ n ih => intro r0 x3 x4 h k; exact s_X11_mays_l282b hd hex (fun r0 x3 x4 h k => ih r0 x3 x4 h k) k
def f_X11_mays_j226 (S : SH) (r0 : Nat) (h : AH) : Option (Int32 × AH) :=
  (f_X11_mays_l231 S FU r0 (0 : Int32) (0 : Int32) h).bind fun z => match z with
  | ((r0_2, x3_3), h_1) =>
  (f_X11_mays_l282 S FU r0_2 x3_3 (0 : Int32) h_1).bind fun z => match z with
  | ((r0_5, x3_6), h_4) =>
  (gR S h_4 r0_5 11 3).bind fun p_7 =>
  (aI S h_4 p_7 (0 : Int32)).bind fun v_9 =>
  (pI S h_4 r0_5 11 56 v_9).bind fun h_11 =>
  (gR S h_11 r0_5 11 3).bind fun p_13 =>
  (aI S h_11 p_13 (1 : Int32)).bind fun v_15 =>
  (pI S h_11 r0_5 11 57 v_15).bind fun h_17 =>
  (ckO S h_17 r0_5 11).bind fun _ =>
  (f_X11_putBack S r0_5 (16 : Int32) h_17).bind fun z => match z with
  | (_, h_20) =>
  (ckO S h_20 r0_5 11).bind fun _ =>
  (f_X11_tell S r0_5 x3_6 h_20).bind fun z => match z with
  | (z_24, h_23) =>
  some (z_24, h_23)
set_option maxHeartbeats 8000000 in
set_option maxRecDepth 20000 in
theorem s_X11_mays_j226 {S : SH} {d cb sb : Nat} {Q : Option Value → AH → Prop} (hd : 9 ≤ d)  {r0 : Nat} {h : AH} (k : ok (f_X11_mays_j226 S r0 h) (fun w h' => Q (some (.int w)) h')) : WP S M_X11_mays d cb sb Q 226 [.ref r0, JK, JK, JK, JK, JK, JK, JK] [] h := by
  obtain ⟨d, rfl, he⟩ := dp (L := 8) hd
  unfold f_X11_mays_j226 at k
  refine wp_iconst dX11_mays_226 ic_0 ?_
  refine wp_istore_n dX11_mays_227 (by decide) (L1 := [_, _, _, _, _, _, _, _]) rfl ?_
  refine wp_iconst dX11_mays_228 ic_0 ?_
  refine wp_istore dX11_mays_229 (by decide) (L1 := [_, _, _, _, _, _, _, _]) rfl ?_
  refine wp_wk (wkE <| wkJ <| wkJ <| wkE <| wkE <| wkJ <| wkJ <| wkJ <| wkN) ?_
  refine s_X11_mays_l231 (Nat.succ_le_succ he) (fun r0_2 x3_3 h_1 k => ?_) FU _ _ _ _ (ok_bind2 k)
  try dsimp only at k
  refine wp_iconst dX11_mays_279 ic_0 ?_
  refine wp_istore dX11_mays_280 (by decide) (L1 := [_, _, _, _, _, _, _, _]) rfl ?_
  refine wp_wk (wkE <| wkJ <| wkJ <| wkE <| wkE <| wkJ <| wkJ <| wkJ <| wkN) ?_
  refine s_X11_mays_l282 (Nat.succ_le_succ he) (fun r0_5 x3_6 h_4 k => ?_) FU _ _ _ _ (ok_bind2 k)
  try dsimp only at k
  refine wp_aload_n dX11_mays_311 rfl ?_
  refine wp_aload_n dX11_mays_312 rfl ?_
  replace k := ok_bind k
  obtain ⟨p_7, e_8, k⟩ := k
  refine wq_getR fl_X11_13 (Or.inr ⟨_, rfl⟩) dX11_mays_313 e_8 ?_
  refine wp_iconst dX11_mays_316 ic_0 ?_
  replace k := ok_bind k
  obtain ⟨v_9, e_10, k⟩ := k
  refine wq_aI dX11_mays_317 e_10 ?_
  replace k := ok_bind k
  obtain ⟨h_11, e_12, k⟩ := k
  refine wq_putI fl_X11_146 rfl rfl dX11_mays_318 e_12 ?_
  refine wp_aload_n dX11_mays_321 rfl ?_
  refine wp_aload_n dX11_mays_322 rfl ?_
  replace k := ok_bind k
  obtain ⟨p_13, e_14, k⟩ := k
  refine wq_getR fl_X11_13 (Or.inr ⟨_, rfl⟩) dX11_mays_323 e_14 ?_
  refine wp_iconst dX11_mays_326 ic_1 ?_
  replace k := ok_bind k
  obtain ⟨v_15, e_16, k⟩ := k
  refine wq_aI dX11_mays_327 e_16 ?_
  replace k := ok_bind k
  obtain ⟨h_17, e_18, k⟩ := k
  refine wq_putI fl_X11_149 rfl rfl dX11_mays_328 e_18 ?_
  refine wp_aload_n dX11_mays_331 rfl ?_
  refine wp_bipush dX11_mays_332 bp_16 ?_
  replace k := ok_bind k
  obtain ⟨u, e_19, k⟩ := k
  refine wp_callV1 (N := M_X11_putBack) (ci := 11) mf_X11_putBack mi_X11_putBack me_X11_putBack ml_X11_169 dX11_mays_334 (ckO_e e_19) mv_X11_putBack (by exact Nat.le_of_ble_eq_true rfl) (c_X11_putBack (Nat.le_trans (by decide) he) (ok_mono (ok_bind2 k) fun _ h_20 k => ?_))
  try dsimp only at k
  refine wp_aload_n dX11_mays_337 rfl ?_
  refine wp_iload_n dX11_mays_338 rfl ?_
  replace k := ok_bind k
  obtain ⟨u, e_22, k⟩ := k
  refine wp_callV1 (N := M_X11_tell) (ci := 11) mf_X11_tell mi_X11_tell me_X11_tell ml_X11_161 dX11_mays_339 (ckO_e e_22) mv_X11_tell (by exact Nat.le_of_ble_eq_true rfl) (c_X11_tell (Nat.le_trans (by decide) he) (ok_mono (ok_bind2 k) fun z_24 h_23 k => ?_))
  try dsimp only at k
  refine wp_iret rfl rfl dX11_mays_342 ?_
  exact (ok_some k :)
def f_X11_mays (S : SH) (r0 : Nat) (x1 : Int32) (x2 : Int32) (h : AH) : Option (Int32 × AH) :=
  (pI S h r0 11 0 (0 : Int32)).bind fun h_1 =>
  (f_X11_in S (Int32.toInt64 x1) (0 : Int64) (1000000 : Int64) h_1).bind fun z => match z with
  | (z_4, h_3) =>
  if z_4 = (0 : Int32) then
    (ckO S h_3 r0 11).bind fun _ =>
    (f_X11_tell S r0 (-1 : Int32) h_3).bind fun z => match z with
    | (z_8, h_7) =>
    some (z_8, h_7)
  else
    (f_X11_in S (Int32.toInt64 x2) (1 : Int64) (60 : Int64) h_3).bind fun z => match z with
    | (z_10, h_9) =>
    if z_10 = (0 : Int32) then
      (ckO S h_9 r0 11).bind fun _ =>
      (f_X11_tell S r0 (-1 : Int32) h_9).bind fun z => match z with
      | (z_37, h_36) =>
      some (z_37, h_36)
    else
      (gR S h_9 r0 11 3).bind fun p_12 =>
      (aI S h_9 p_12 (0 : Int32)).bind fun v_14 =>
      if v_14 = (0 : Int32) then
        (ckO S h_9 r0 11).bind fun _ =>
        (f_X11_tell S r0 (-3 : Int32) h_9).bind fun z => match z with
        | (z_19, h_18) =>
        some (z_19, h_18)
      else
        (gR S h_9 r0 11 3).bind fun p_20 =>
        (aI S h_9 p_20 (1 : Int32)).bind fun v_22 =>
        if v_22 = (0 : Int32) then
          (ckO S h_9 r0 11).bind fun _ =>
          (f_X11_tell S r0 (-3 : Int32) h_9).bind fun z => match z with
          | (z_34, h_33) =>
          some (z_34, h_33)
        else
          (ckO S h_9 r0 11).bind fun _ =>
          (f_X11_keepAll S r0 (16 : Int32) h_9).bind fun z => match z with
          | (_, h_26) =>
          (pJ S h_26 r0 11 54 (Int32.toInt64 x1)).bind fun h_28 =>
          (f_X11_mays_l74 S FU r0 x2 (0 : Int32) h_28).bind fun z => match z with
          | (r0_31, h_30) =>
          f_X11_mays_j226 S r0_31 h_30
set_option maxHeartbeats 8000000 in
set_option maxRecDepth 20000 in
theorem s_X11_mays {S : SH} {d cb sb : Nat} {Q : Option Value → AH → Prop} (hd : 9 ≤ d)  {r0 : Nat} {x1 : Int32} {x2 : Int32} {h : AH} (k : ok (f_X11_mays S r0 x1 x2 h) (fun w h' => Q (some (.int w)) h')) : WP S M_X11_mays d cb sb Q 0 [.ref r0, .int x1, .int x2, JK, JK, JK, JK, JK] [] h := by
  obtain ⟨d, rfl, he⟩ := dp (L := 8) hd
  unfold f_X11_mays at k
  refine wp_aload_n dX11_mays_0 rfl ?_
  refine wp_iconst dX11_mays_1 ic_0 ?_
  replace k := ok_bind k
  obtain ⟨h_1, e_2, k⟩ := k
  refine wq_putI fl_X11_152 rfl rfl dX11_mays_2 e_2 ?_
  refine wp_iload_n dX11_mays_5 rfl ?_
  refine wp_i2l dX11_mays_6 ?_
  refine wp_lconst dX11_mays_7 lc_0 ?_
  refine wp_ldc2 ct_X11_285 dX11_mays_8 ?_
  refine wp_callS3 (N := M_X11_in) mf_X11_in ms_X11_in ml_X11_172 dX11_mays_11 (by exact Nat.le_of_ble_eq_true rfl) (c_X11_in (Nat.le_trans (by decide) he) (ok_mono (ok_bind2 k) fun z_4 h_3 k => ?_))
  try dsimp only at k
  refine wp_if_eq 29 dX11_mays_14 (by decide) (fun c_5 => ?_) (fun c_5 => ?_)
  · replace k := ok_t c_5 k
    refine wp_aload_n dX11_mays_29 rfl ?_
    refine wp_iconst dX11_mays_30 ic_m1 ?_
    replace k := ok_bind k
    obtain ⟨u, e_6, k⟩ := k
    refine wp_callV1 (N := M_X11_tell) (ci := 11) mf_X11_tell mi_X11_tell me_X11_tell ml_X11_161 dX11_mays_31 (ckO_e e_6) mv_X11_tell (by exact Nat.le_of_ble_eq_true rfl) (c_X11_tell (Nat.le_trans (by decide) he) (ok_mono (ok_bind2 k) fun z_8 h_7 k => ?_))
    try dsimp only at k
    refine wp_iret rfl rfl dX11_mays_34 ?_
    exact (ok_some k :)
  · replace k := ok_f c_5 k
    refine wp_iload_n dX11_mays_17 rfl ?_
    refine wp_i2l dX11_mays_18 ?_
    refine wp_lconst dX11_mays_19 lc_1 ?_
    refine wp_ldc2 ct_X11_547 dX11_mays_20 ?_
    refine wp_callS3 (N := M_X11_in) mf_X11_in ms_X11_in ml_X11_172 dX11_mays_23 (by exact Nat.le_of_ble_eq_true rfl) (c_X11_in (Nat.le_trans (by decide) he) (ok_mono (ok_bind2 k) fun z_10 h_9 k => ?_))
    try dsimp only at k
    refine wp_if_ne 35 dX11_mays_26 (by decide) (fun c_11 => ?_) (fun c_11 => ?_)
    · replace k := ok_f c_11 k
      refine wp_aload_n dX11_mays_35 rfl ?_
      replace k := ok_bind k
      obtain ⟨p_12, e_13, k⟩ := k
      refine wq_getR fl_X11_13 (Or.inr ⟨_, rfl⟩) dX11_mays_36 e_13 ?_
      refine wp_iconst dX11_mays_39 ic_0 ?_
      replace k := ok_bind k
      obtain ⟨v_14, e_15, k⟩ := k
      refine wq_aI dX11_mays_40 e_15 ?_
      refine wp_if_eq 53 dX11_mays_41 (by decide) (fun c_16 => ?_) (fun c_16 => ?_)
      · replace k := ok_t c_16 k
        refine wp_aload_n dX11_mays_53 rfl ?_
        refine wp_bipush dX11_mays_54 bp_m3 ?_
        replace k := ok_bind k
        obtain ⟨u, e_17, k⟩ := k
        refine wp_callV1 (N := M_X11_tell) (ci := 11) mf_X11_tell mi_X11_tell me_X11_tell ml_X11_161 dX11_mays_56 (ckO_e e_17) mv_X11_tell (by exact Nat.le_of_ble_eq_true rfl) (c_X11_tell (Nat.le_trans (by decide) he) (ok_mono (ok_bind2 k) fun z_19 h_18 k => ?_))
        try dsimp only at k
        refine wp_iret rfl rfl dX11_mays_59 ?_
        exact (ok_some k :)
      · replace k := ok_f c_16 k
        refine wp_aload_n dX11_mays_44 rfl ?_
        replace k := ok_bind k
        obtain ⟨p_20, e_21, k⟩ := k
        refine wq_getR fl_X11_13 (Or.inr ⟨_, rfl⟩) dX11_mays_45 e_21 ?_
        refine wp_iconst dX11_mays_48 ic_1 ?_
        replace k := ok_bind k
        obtain ⟨v_22, e_23, k⟩ := k
        refine wq_aI dX11_mays_49 e_23 ?_
        refine wp_if_ne 60 dX11_mays_50 (by decide) (fun c_24 => ?_) (fun c_24 => ?_)
        · replace k := ok_f c_24 k
          refine wp_aload_n dX11_mays_60 rfl ?_
          refine wp_bipush dX11_mays_61 bp_16 ?_
          replace k := ok_bind k
          obtain ⟨u, e_25, k⟩ := k
          refine wp_callV1 (N := M_X11_keepAll) (ci := 11) mf_X11_keepAll mi_X11_keepAll me_X11_keepAll ml_X11_165 dX11_mays_63 (ckO_e e_25) mv_X11_keepAll (by exact Nat.le_of_ble_eq_true rfl) (c_X11_keepAll (Nat.le_trans (by decide) he) (ok_mono (ok_bind2 k) fun _ h_26 k => ?_))
          try dsimp only at k
          refine wp_aload_n dX11_mays_66 rfl ?_
          refine wp_iload_n dX11_mays_67 rfl ?_
          refine wp_i2l dX11_mays_68 ?_
          replace k := ok_bind k
          obtain ⟨h_28, e_29, k⟩ := k
          refine wq_putJ fl_X11_538 rfl rfl dX11_mays_69 e_29 ?_
          refine wp_iconst dX11_mays_72 ic_0 ?_
          refine wp_istore_n dX11_mays_73 (by decide) (L1 := [_, _, _, _, _, _, _, _]) rfl ?_
          refine wp_wk (wkE <| wkJ <| wkE <| wkE <| wkJ <| wkJ <| wkJ <| wkJ <| wkN) ?_
          refine s_X11_mays_l74 (Nat.succ_le_succ he) (fun r0_31 h_30 k => ?_) FU _ _ _ _ (ok_bind2 k)
          try dsimp only at k
          exact wp_wk (wkE <| wkJ <| wkJ <| wkJ <| wkJ <| wkJ <| wkJ <| wkJ <| wkN) (s_X11_mays_j226 (Nat.succ_le_succ he)  k)
        · replace k := ok_t c_24 k
          refine wp_aload_n dX11_mays_53 rfl ?_
          refine wp_bipush dX11_mays_54 bp_m3 ?_
          replace k := ok_bind k
          obtain ⟨u, e_32, k⟩ := k
          refine wp_callV1 (N := M_X11_tell) (ci := 11) mf_X11_tell mi_X11_tell me_X11_tell ml_X11_161 dX11_mays_56 (ckO_e e_32) mv_X11_tell (by exact Nat.le_of_ble_eq_true rfl) (c_X11_tell (Nat.le_trans (by decide) he) (ok_mono (ok_bind2 k) fun z_34 h_33 k => ?_))
          try dsimp only at k
          refine wp_iret rfl rfl dX11_mays_59 ?_
          exact (ok_some k :)
    · replace k := ok_t c_11 k
      refine wp_aload_n dX11_mays_29 rfl ?_
      refine wp_iconst dX11_mays_30 ic_m1 ?_
      replace k := ok_bind k
      obtain ⟨u, e_35, k⟩ := k
      refine wp_callV1 (N := M_X11_tell) (ci := 11) mf_X11_tell mi_X11_tell me_X11_tell ml_X11_161 dX11_mays_31 (ckO_e e_35) mv_X11_tell (by exact Nat.le_of_ble_eq_true rfl) (c_X11_tell (Nat.le_trans (by decide) he) (ok_mono (ok_bind2 k) fun z_37 h_36 k => ?_))
      try dsimp only at k
      refine wp_iret rfl rfl dX11_mays_34 ?_
      exact (ok_some k :)
theorem c_X11_mays {S : SH} {d : Nat} {K : Option Value → AH → Prop} (hd : 9 ≤ d)  {r0 : Nat} {x1 : Int32} {x2 : Int32} {h : AH} (k : ok (f_X11_mays S r0 x1 x2 h) (fun w h' => K (some (.int w)) h')) : CP S M_X11_mays d 0 0 [.ref r0, .int x1, .int x2] h K := cp_of (by decide) (fun _ _ => trivial) (fun _ => Nat.le_of_ble_eq_true rfl) (s_X11_mays hd  k)

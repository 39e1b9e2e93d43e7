def f_X11_isSo_j59 (S : SH) (r0 : Nat) (x1 : Int32) (h : AH) : Option (Int32 × AH) :=
  (gR S h r0 11 3).bind fun p_1 =>
  (aI S h p_1 x1).bind fun v_3 =>
  if v_3 = (2 : Int32) then
    some ((1 : Int32), h)
  else
    (gR S h r0 11 3).bind fun p_6 =>
    (aI S h p_6 (x1 + (3 : Int32))).bind fun v_8 =>
    (gR S h r0 11 3).bind fun p_10 =>
    (aI S h p_10 (x1 + (4 : Int32))).bind fun v_12 =>
    (ckO S h r0 11).bind fun _ =>
    (f_X11_reckonAll S r0 v_8 v_12 h).bind fun z => match z with
    | (_, h_15) =>
    (gJ S h_15 r0 11 39).bind fun w_17 =>
    (pJ S h_15 r0 11 40 w_17).bind fun h_19 =>
    (gI S h_19 r0 11 38).bind fun v_21 =>
    if v_21 = (0 : Int32) then
      some ((1 : Int32), h_19)
    else
      some ((0 : Int32), h_19)
set_option maxHeartbeats 8000000 in
set_option maxRecDepth 20000 in
theorem s_X11_isSo_j59 {S : SH} {d cb sb : Nat} {Q : Option Value → AH → Prop} (hd : 3 ≤ d)  {r0 : Nat} {x1 : Int32} {h : AH} (k : ok (f_X11_isSo_j59 S r0 x1 h) (fun w h' => Q (some (.int w)) h')) : WP S M_X11_isSo d cb sb Q 59 [.ref r0, .int x1] [] h := by
  obtain ⟨d, rfl, he⟩ := dp (L := 2) hd
  unfold f_X11_isSo_j59 at k
  refine wp_aload_n dX11_isSo_59 rfl ?_
  replace k := ok_bind k
  obtain ⟨p_1, e_2, k⟩ := k
  refine wq_getR fl_X11_13 (Or.inr ⟨_, rfl⟩) dX11_isSo_60 e_2 ?_
  refine wp_iload_n dX11_isSo_63 rfl ?_
  replace k := ok_bind k
  obtain ⟨v_3, e_4, k⟩ := k
  refine wq_aI dX11_isSo_64 e_4 ?_
  refine wp_iconst dX11_isSo_65 ic_2 ?_
  refine wp_icmp_eq 110 dX11_isSo_66 (by decide) (fun c_5 => ?_) (fun c_5 => ?_)
  · replace k := ok_t c_5 k
    refine wp_iconst dX11_isSo_110 ic_1 ?_
    refine wp_iret rfl rfl dX11_isSo_111 ?_
    exact (ok_some k :)
  · replace k := ok_f c_5 k
    refine wp_aload_n dX11_isSo_69 rfl ?_
    refine wp_aload_n dX11_isSo_70 rfl ?_
    replace k := ok_bind k
    obtain ⟨p_6, e_7, k⟩ := k
    refine wq_getR fl_X11_13 (Or.inr ⟨_, rfl⟩) dX11_isSo_71 e_7 ?_
    refine wp_iload_n dX11_isSo_74 rfl ?_
    refine wp_iconst dX11_isSo_75 ic_3 ?_
    refine wp_iadd dX11_isSo_76 ?_
    replace k := ok_bind k
    obtain ⟨v_8, e_9, k⟩ := k
    refine wq_aI dX11_isSo_77 e_9 ?_
    refine wp_aload_n dX11_isSo_78 rfl ?_
    replace k := ok_bind k
    obtain ⟨p_10, e_11, k⟩ := k
    refine wq_getR fl_X11_13 (Or.inr ⟨_, rfl⟩) dX11_isSo_79 e_11 ?_
    refine wp_iload_n dX11_isSo_82 rfl ?_
    refine wp_iconst dX11_isSo_83 ic_4 ?_
    refine wp_iadd dX11_isSo_84 ?_
    replace k := ok_bind k
    obtain ⟨v_12, e_13, k⟩ := k
    refine wq_aI dX11_isSo_85 e_13 ?_
    replace k := ok_bind k
    obtain ⟨u, e_14, k⟩ := k
    refine wp_callV2 (N := M_X11_reckonAll) (ci := 11) mf_X11_reckonAll mi_X11_reckonAll me_X11_reckonAll ml_X11_422 dX11_isSo_86 (ckO_e e_14) mv_X11_reckonAll (by exact Nat.le_of_ble_eq_true rfl) (c_X11_reckonAll (Nat.le_trans (by decide) he) (ok_mono (ok_bind2 k) fun _ h_15 k => ?_))
    try dsimp only at k
    refine wp_aload_n dX11_isSo_89 rfl ?_
    refine wp_aload_n dX11_isSo_90 rfl ?_
    replace k := ok_bind k
    obtain ⟨w_17, e_18, k⟩ := k
    refine wq_getJ fl_X11_419 rfl dX11_isSo_91 e_18 ?_
    replace k := ok_bind k
    obtain ⟨h_19, e_20, k⟩ := k
    refine wq_putJ fl_X11_425 rfl rfl dX11_isSo_94 e_20 ?_
    refine wp_aload_n dX11_isSo_97 rfl ?_
    replace k := ok_bind k
    obtain ⟨v_21, e_22, k⟩ := k
    refine wq_getI fl_X11_405 (Or.inr rfl) dX11_isSo_98 e_22 ?_
    refine wp_if_ne 108 dX11_isSo_101 (by decide) (fun c_23 => ?_) (fun c_23 => ?_)
    · replace k := ok_f c_23 k
      refine wp_iconst dX11_isSo_108 ic_0 ?_
      refine wp_iret rfl rfl dX11_isSo_109 ?_
      exact (ok_some k :)
    · replace k := ok_t c_23 k
      refine wp_iconst dX11_isSo_104 ic_1 ?_
      refine wp_goto 109 dX11_isSo_105 (by decide) ?_
      refine wp_iret rfl rfl dX11_isSo_109 ?_
      exact (ok_some k :)
def f_X11_isSo (S : SH) (r0 : Nat) (x1 : Int32) (h : AH) : Option (Int32 × AH) :=
  (gR S h r0 11 3).bind fun p_1 =>
  (aI S h p_1 (x1 + (5 : Int32))).bind fun v_3 =>
  (gR S h r0 11 3).bind fun p_5 =>
  (aI S h p_5 (x1 + (6 : Int32))).bind fun v_7 =>
  if v_7 ≤ v_3 then
    f_X11_isSo_j59 S r0 x1 h
  else
    (gR S h r0 11 3).bind fun p_10 =>
    (aI S h p_10 (x1 + (5 : Int32))).bind fun v_12 =>
    (gR S h r0 11 3).bind fun p_14 =>
    (aI S h p_14 (x1 + (6 : Int32))).bind fun v_16 =>
    (ckO S h r0 11).bind fun _ =>
    (f_X11_reckonAll S r0 v_12 v_16 h).bind fun z => match z with
    | (_, h_19) =>
    (gI S h_19 r0 11 38).bind fun v_21 =>
    if v_21 = (0 : Int32) then
      (gJ S h_19 r0 11 39).bind fun w_24 =>
      if (lg_cmp w_24 (0 : Int64)) = (0 : Int32) then
        some ((0 : Int32), h_19)
      else
        f_X11_isSo_j59 S r0 x1 h_19
    else
      some ((0 : Int32), h_19)
set_option maxHeartbeats 8000000 in
set_option maxRecDepth 20000 in
theorem s_X11_isSo {S : SH} {d cb sb : Nat} {Q : Option Value → AH → Prop} (hd : 3 ≤ d)  {r0 : Nat} {x1 : Int32} {h : AH} (k : ok (f_X11_isSo S r0 x1 h) (fun w h' => Q (some (.int w)) h')) : WP S M_X11_isSo d cb sb Q 0 [.ref r0, .int x1] [] h := by
  obtain ⟨d, rfl, he⟩ := dp (L := 2) hd
  unfold f_X11_isSo at k
  refine wp_aload_n dX11_isSo_0 rfl ?_
  replace k := ok_bind k
  obtain ⟨p_1, e_2, k⟩ := k
  refine wq_getR fl_X11_13 (Or.inr ⟨_, rfl⟩) dX11_isSo_1 e_2 ?_
  refine wp_iload_n dX11_isSo_4 rfl ?_
  refine wp_iconst dX11_isSo_5 ic_5 ?_
  refine wp_iadd dX11_isSo_6 ?_
  replace k := ok_bind k
  obtain ⟨v_3, e_4, k⟩ := k
  refine wq_aI dX11_isSo_7 e_4 ?_
  refine wp_aload_n dX11_isSo_8 rfl ?_
  replace k := ok_bind k
  obtain ⟨p_5, e_6, k⟩ := k
  refine wq_getR fl_X11_13 (Or.inr ⟨_, rfl⟩) dX11_isSo_9 e_6 ?_
  refine wp_iload_n dX11_isSo_12 rfl ?_
  refine wp_bipush dX11_isSo_13 bp_6 ?_
  refine wp_iadd dX11_isSo_15 ?_
  replace k := ok_bind k
  obtain ⟨v_7, e_8, k⟩ := k
  refine wq_aI dX11_isSo_16 e_8 ?_
  refine wp_icmp_ge 59 dX11_isSo_17 (by decide) (fun c_9 => ?_) (fun c_9 => ?_)
  · replace k := ok_t c_9 k
    exact wp_wk (wkE <| wkE <| wkN) (s_X11_isSo_j59 (Nat.succ_le_succ he)  k)
  · replace k := ok_f c_9 k
    refine wp_aload_n dX11_isSo_20 rfl ?_
    refine wp_aload_n dX11_isSo_21 rfl ?_
    replace k := ok_bind k
    obtain ⟨p_10, e_11, k⟩ := k
    refine wq_getR fl_X11_13 (Or.inr ⟨_, rfl⟩) dX11_isSo_22 e_11 ?_
    refine wp_iload_n dX11_isSo_25 rfl ?_
    refine wp_iconst dX11_isSo_26 ic_5 ?_
    refine wp_iadd dX11_isSo_27 ?_
    replace k := ok_bind k
    obtain ⟨v_12, e_13, k⟩ := k
    refine wq_aI dX11_isSo_28 e_13 ?_
    refine wp_aload_n dX11_isSo_29 rfl ?_
    replace k := ok_bind k
    obtain ⟨p_14, e_15, k⟩ := k
    refine wq_getR fl_X11_13 (Or.inr ⟨_, rfl⟩) dX11_isSo_30 e_15 ?_
    refine wp_iload_n dX11_isSo_33 rfl ?_
    refine wp_bipush dX11_isSo_34 bp_6 ?_
    refine wp_iadd dX11_isSo_36 ?_
    replace k := ok_bind k
    obtain ⟨v_16, e_17, k⟩ := k
    refine wq_aI dX11_isSo_37 e_17 ?_
    replace k := ok_bind k
    obtain ⟨u, e_18, k⟩ := k
    refine wp_callV2 (N := M_X11_reckonAll) (ci := 11) mf_X11_reckonAll mi_X11_reckonAll me_X11_reckonAll ml_X11_422 dX11_isSo_38 (ckO_e e_18) mv_X11_reckonAll (by exact Nat.le_of_ble_eq_true rfl) (c_X11_reckonAll (Nat.le_trans (by decide) he) (ok_mono (ok_bind2 k) fun _ h_19 k => ?_))
    try dsimp only at k
    refine wp_aload_n dX11_isSo_41 rfl ?_
    replace k := ok_bind k
    obtain ⟨v_21, e_22, k⟩ := k
    refine wq_getI fl_X11_405 (Or.inr rfl) dX11_isSo_42 e_22 ?_
    refine wp_if_ne 57 dX11_isSo_45 (by decide) (fun c_23 => ?_) (fun c_23 => ?_)
    · replace k := ok_f c_23 k
      refine wp_iconst dX11_isSo_57 ic_0 ?_
      refine wp_iret rfl rfl dX11_isSo_58 ?_
      exact (ok_some k :)
    · replace k := ok_t c_23 k
      refine wp_aload_n dX11_isSo_48 rfl ?_
      replace k := ok_bind k
      obtain ⟨w_24, e_25, k⟩ := k
      refine wq_getJ fl_X11_419 rfl dX11_isSo_49 e_25 ?_
      refine wp_lconst dX11_isSo_52 lc_0 ?_
      refine wp_lcmp dX11_isSo_53 ?_
      refine wp_if_ne 59 dX11_isSo_54 (by decide) (fun c_26 => ?_) (fun c_26 => ?_)
      · replace k := ok_f c_26 k
        exact wp_wk (wkE <| wkE <| wkN) (s_X11_isSo_j59 (Nat.succ_le_succ he)  k)
      · replace k := ok_t c_26 k
        refine wp_iconst dX11_isSo_57 ic_0 ?_
        refine wp_iret rfl rfl dX11_isSo_58 ?_
        exact (ok_some k :)
theorem c_X11_isSo {S : SH} {d : Nat} {K : Option Value → AH → Prop} (hd : 3 ≤ d)  {r0 : Nat} {x1 : Int32} {h : AH} (k : ok (f_X11_isSo S r0 x1 h) (fun w h' => K (some (.int w)) h')) : CP S M_X11_isSo d 0 0 [.ref r0, .int x1] h K := cp_of (by decide) (fun _ _ => trivial) (fun _ => Nat.le_of_ble_eq_true rfl) (s_X11_isSo hd  k)
def f_X11_tells_l189b (S : SH) (rc : Nat → Int32 → Int64 → Int32 → AH → Option (Int64 × AH)) (r0 : Nat) (x1 : Int32) (l6 : Int64) (x8 : Int32) (h : AH) : Option (Int64 × AH) :=
  (gR S h r0 11 3).bind fun p_1 =>
  (gI S h r0 11 34).bind fun v_3 =>
  (aI S h p_1 (v_3 + (1 : Int32))).bind fun v_5 =>
  if v_5 ≤ x8 then
    some (l6, h)
  else
    (gI S h r0 11 34).bind fun v_8 =>
    lt (((v_8 + (2 : Int32)) + ((8 : Int32) * x8))) fun y_10 =>
    (gR S h r0 11 3).bind fun p_11 =>
    (aI S h p_11 y_10).bind fun v_13 =>
    if v_13 = x1 then
      (ckO S h r0 11).bind fun _ =>
      (f_X11_isSo S r0 y_10 h).bind fun z => match z with
      | (z_19, h_18) =>
      if z_19 = (0 : Int32) then
        lt (x8 + (1 : Int32)) fun y_21 =>
        rc r0 x1 l6 y_21 h_18
      else
        if x1 = (2 : Int32) then
          lt (x8 + (1 : Int32)) fun y_26 =>
          rc r0 x1 (1 : Int64) y_26 h_18
        else
          (gJ S h_18 r0 11 40).bind fun w_23 =>
          lt (x8 + (1 : Int32)) fun y_25 =>
          rc r0 x1 w_23 y_25 h_18
    else
      lt (x8 + (1 : Int32)) fun y_16 =>
      rc r0 x1 l6 y_16 h
set_option maxHeartbeats 8000000 in
set_option maxRecDepth 20000 in
theorem s_X11_tells_l189b {S : SH} {d cb sb : Nat} {Q : Option Value → AH → Prop} (hd : 4 ≤ d) {K : Int64 → AH → Prop} (hex : ∀ (l6 : Int64) (h' : AH), K l6 h' → WP S M_X11_tells d cb sb Q 260 [JK, JK, JK, JK, JK, JK, .long l6, JK, JK, JK] [] h') {rc : Nat → Int32 → Int64 → Int32 → AH → Option (Int64 × AH)} (hrec : ∀ (r0 : Nat) (x1 : Int32) (l6 : Int64) (x8 : Int32) (h' : AH), ok (rc r0 x1 l6 x8 h') K → WP S M_X11_tells d cb sb Q 189 [.ref r0, .int x1, JK, JK, JK, JK, .long l6, JK, .int x8, JK] [] h') {r0 : Nat} {x1 : Int32} {l6 : Int64} {x8 : Int32} {h : AH} (k : ok (f_X11_tells_l189b S rc r0 x1 l6 x8 h) K) : WP S M_X11_tells d cb sb Q 189 [.ref r0, .int x1, JK, JK, JK, JK, .long l6, JK, .int x8, JK] [] h := by
  obtain ⟨d, rfl, he⟩ := dp (L := 3) hd
  unfold f_X11_tells_l189b at k
  refine wp_iload dX11_tells_189 rfl ?_
  refine wp_aload_n dX11_tells_191 rfl ?_
  replace k := ok_bind k
  obtain ⟨p_1, e_2, k⟩ := k
  refine wq_getR fl_X11_13 (Or.inr ⟨_, rfl⟩) dX11_tells_192 e_2 ?_
  refine wp_aload_n dX11_tells_195 rfl ?_
  replace k := ok_bind k
  obtain ⟨v_3, e_4, k⟩ := k
  refine wq_getI fl_X11_408 (Or.inl rfl) dX11_tells_196 e_4 ?_
  refine wp_iconst dX11_tells_199 ic_1 ?_
  refine wp_iadd dX11_tells_200 ?_
  replace k := ok_bind k
  obtain ⟨v_5, e_6, k⟩ := k
  refine wq_aI dX11_tells_201 e_6 ?_
  refine wp_icmp_ge 260 dX11_tells_202 (by decide) (fun c_7 => ?_) (fun c_7 => ?_)
  · replace k := ok_t c_7 k
    exact wp_wk (wkJ <| wkJ <| wkJ <| wkJ <| wkJ <| wkJ <| wkE <| wkJ <| wkJ <| wkJ <| wkN) (hex _ _ (ok_some k))
  · replace k := ok_f c_7 k
    refine wp_aload_n dX11_tells_205 rfl ?_
    replace k := ok_bind k
    obtain ⟨v_8, e_9, k⟩ := k
    refine wq_getI fl_X11_408 (Or.inl rfl) dX11_tells_206 e_9 ?_
    refine wp_iconst dX11_tells_209 ic_2 ?_
    refine wp_iadd dX11_tells_210 ?_
    refine wp_bipush dX11_tells_211 bp_8 ?_
    refine wp_iload dX11_tells_213 rfl ?_
    refine wp_imul dX11_tells_215 ?_
    refine wp_iadd dX11_tells_216 ?_
    replace k := ok_lt k
    refine wp_istore dX11_tells_217 (by decide) (L1 := [_, _, _, _, _, _, _, _, _, _]) rfl ?_
    refine wp_aload_n dX11_tells_219 rfl ?_
    replace k := ok_bind k
    obtain ⟨p_11, e_12, k⟩ := k
    refine wq_getR fl_X11_13 (Or.inr ⟨_, rfl⟩) dX11_tells_220 e_12 ?_
    refine wp_iload dX11_tells_223 rfl ?_
    replace k := ok_bind k
    obtain ⟨v_13, e_14, k⟩ := k
    refine wq_aI dX11_tells_225 e_14 ?_
    refine wp_iload_n dX11_tells_226 rfl ?_
    refine wp_icmp_ne 254 dX11_tells_227 (by decide) (fun c_15 => ?_) (fun c_15 => ?_)
    · replace k := ok_f c_15 k
      replace k := ok_lt k
      refine wp_iinc dX11_tells_254 rfl ic_1 (by decide) (L1 := [_, _, _, _, _, _, _, _, _, _]) rfl ?_
      refine wp_goto 189 dX11_tells_257 (by decide) ?_
      exact wp_wk (wkE <| wkE <| wkJ <| wkJ <| wkJ <| wkJ <| wkE <| wkJ <| wkE <| wkJ <| wkN) (hrec _ _ _ _ _ k)
    · replace k := ok_t c_15 k
      refine wp_aload_n dX11_tells_230 rfl ?_
      refine wp_iload dX11_tells_231 rfl ?_
      replace k := ok_bind k
      obtain ⟨u, e_17, k⟩ := k
      refine wp_callV1 (N := M_X11_isSo) (ci := 11) mf_X11_isSo mi_X11_isSo me_X11_isSo ml_X11_428 dX11_tells_233 (ckO_e e_17) mv_X11_isSo (by exact Nat.le_of_ble_eq_true rfl) (c_X11_isSo (Nat.le_trans (by decide) he) (ok_mono (ok_bind2 k) fun z_19 h_18 k => ?_))
      try dsimp only at k
      refine wp_if_eq 254 dX11_tells_236 (by decide) (fun c_20 => ?_) (fun c_20 => ?_)
      · replace k := ok_t c_20 k
        replace k := ok_lt k
        refine wp_iinc dX11_tells_254 rfl ic_1 (by decide) (L1 := [_, _, _, _, _, _, _, _, _, _]) rfl ?_
        refine wp_goto 189 dX11_tells_257 (by decide) ?_
        exact wp_wk (wkE <| wkE <| wkJ <| wkJ <| wkJ <| wkJ <| wkE <| wkJ <| wkE <| wkJ <| wkN) (hrec _ _ _ _ _ k)
      · replace k := ok_f c_20 k
        refine wp_iload_n dX11_tells_239 rfl ?_
        refine wp_iconst dX11_tells_240 ic_2 ?_
        refine wp_icmp_ne 248 dX11_tells_241 (by decide) (fun c_22 => ?_) (fun c_22 => ?_)
        · replace k := ok_f c_22 k
          refine wp_aload_n dX11_tells_248 rfl ?_
          replace k := ok_bind k
          obtain ⟨w_23, e_24, k⟩ := k
          refine wq_getJ fl_X11_425 rfl dX11_tells_249 e_24 ?_
          refine wp_lstore dX11_tells_252 (by decide) (L1 := [_, _, _, _, _, _, _, _, _, _]) rfl ?_
          replace k := ok_lt k
          refine wp_iinc dX11_tells_254 rfl ic_1 (by decide) (L1 := [_, _, _, _, _, _, _, _, _, _]) rfl ?_
          refine wp_goto 189 dX11_tells_257 (by decide) ?_
          exact wp_wk (wkE <| wkE <| wkJ <| wkJ <| wkJ <| wkJ <| wkE <| wkJ <| wkE <| wkJ <| wkN) (hrec _ _ _ _ _ k)
        · replace k := ok_t c_22 k
          refine wp_lconst dX11_tells_244 lc_1 ?_
          refine wp_goto 252 dX11_tells_245 (by decide) ?_
          refine wp_lstore dX11_tells_252 (by decide) (L1 := [_, _, _, _, _, _, _, _, _, _]) rfl ?_
          replace k := ok_lt k
          refine wp_iinc dX11_tells_254 rfl ic_1 (by decide) (L1 := [_, _, _, _, _, _, _, _, _, _]) rfl ?_
          refine wp_goto 189 dX11_tells_257 (by decide) ?_
          exact wp_wk (wkE <| wkE <| wkJ <| wkJ <| wkJ <| wkJ <| wkE <| wkJ <| wkE <| wkJ <| wkN) (hrec _ _ _ _ _ k)
def f_X11_tells_l189 (S : SH) : Nat → Nat → Int32 → Int64 → Int32 → AH → Option (Int64 × AH)
  | 0, _, _, _, _, _ => none
  | n + 1, r0, x1, l6, x8, h => f_X11_tells_l189b S (f_X11_tells_l189 S n) r0 x1 l6 x8 h
theorem s_X11_tells_l189 {S : SH} {d cb sb : Nat} {Q : Option Value → AH → Prop} (hd : 4 ≤ d) {K : Int64 → AH → Prop} (hex : ∀ (l6 : Int64) (h' : AH), K l6 h' → WP S M_X11_tells d cb sb Q 260 [JK, JK, JK, JK, JK, JK, .long l6, JK, JK, JK] [] h') : ∀ (n : Nat) (r0 : Nat) (x1 : Int32) (l6 : Int64) (x8 : Int32) (h : AH), ok (f_X11_tells_l189 S n r0 x1 l6 x8 h) K → WP S M_X11_tells d cb sb Q 189 [.ref r0, .int x1, JK, JK, JK, JK, .long l6, JK, .int x8, JK] [] h := by
  intro n
  induction n with
  | zero => intro r0 x1 l6 x8 h k; exact ok_none k
  | succ n ih => intro r0 x1 l6 x8 h k; exact s_X11_tells_l189b hd hex (fun r0 x1 l6 x8 h k => ih r0 x1 l6 x8 h k) k
def f_X11_tells_j96 (S : SH) (r0 : Nat) (x1 : Int32) (x3 : Int32) (l4 : Int64) (sr0 : Nat) (sx1 : Int32) (sl2 : Int64) (h : AH) : Option (Int64 × AH) :=
  (sJ S h sr0 sx1 sl2).bind fun h_1 =>
  (gR S h_1 r0 11 35).bind fun p_3 =>
  (sJ S h_1 p_3 (4 : Int32) (Int32.toInt64 x3)).bind fun h_5 =>
  (gR S h_5 r0 11 35).bind fun p_7 =>
  (gR S h_5 r0 11 3).bind fun p_9 =>
  (aI S h_5 p_9 ((72 : Int32) + x3)).bind fun v_11 =>
  (sJ S h_5 p_7 (5 : Int32) (Int32.toInt64 v_11)).bind fun h_13 =>
  (gR S h_13 r0 11 35).bind fun p_15 =>
  (gR S h_13 r0 11 3).bind fun p_17 =>
  (aI S h_13 p_17 ((78 : Int32) + x3)).bind fun v_19 =>
  (sJ S h_13 p_15 (6 : Int32) (Int32.toInt64 v_19)).bind fun h_21 =>
  (gR S h_21 r0 11 35).bind fun p_23 =>
  (gR S h_21 r0 11 3).bind fun p_25 =>
  (aI S h_21 p_25 (9 : Int32)).bind fun v_27 =>
  (sJ S h_21 p_23 (7 : Int32) (Int32.toInt64 v_27)).bind fun h_29 =>
  (gR S h_29 r0 11 35).bind fun p_31 =>
  (gR S h_29 r0 11 3).bind fun p_33 =>
  (aI S h_29 p_33 (5 : Int32)).bind fun v_35 =>
  (sJ S h_29 p_31 (8 : Int32) (Int32.toInt64 v_35)).bind fun h_37 =>
  (gR S h_37 r0 11 35).bind fun p_39 =>
  (gR S h_37 r0 11 3).bind fun p_41 =>
  (aI S h_37 p_41 (7 : Int32)).bind fun v_43 =>
  (sJ S h_37 p_39 (9 : Int32) (Int32.toInt64 v_43)).bind fun h_45 =>
  (f_X11_tells_l189 S FU r0 x1 l4 (0 : Int32) h_45).bind fun z => match z with
  | (l6_48, h_47) =>
  some (l6_48, h_47)
set_option maxHeartbeats 8000000 in
set_option maxRecDepth 20000 in
theorem s_X11_tells_j96 {S : SH} {d cb sb : Nat} {Q : Option Value → AH → Prop} (hd : 4 ≤ d)  {r0 : Nat} {x1 : Int32} {x3 : Int32} {l4 : Int64} {sr0 : Nat} {sx1 : Int32} {sl2 : Int64} {h : AH} (k : ok (f_X11_tells_j96 S r0 x1 x3 l4 sr0 sx1 sl2 h) (fun w h' => Q (some (.long w)) h')) : WP S M_X11_tells d cb sb Q 96 [.ref r0, .int x1, JK, .int x3, .long l4, JK, JK, JK, JK, JK] [.long sl2, .int sx1, .ref sr0] h := by
  obtain ⟨d, rfl, he⟩ := dp (L := 3) hd
  unfold f_X11_tells_j96 at k
  replace k := ok_bind k
  obtain ⟨h_1, e_2, k⟩ := k
  refine wq_sJ dX11_tells_96 e_2 ?_
  refine wp_aload_n dX11_tells_97 rfl ?_
  replace k := ok_bind k
  obtain ⟨p_3, e_4, k⟩ := k
  refine wq_getR fl_X11_99 (Or.inr ⟨_, rfl⟩) dX11_tells_98 e_4 ?_
  refine wp_iconst dX11_tells_101 ic_4 ?_
  refine wp_iload_n dX11_tells_102 rfl ?_
  refine wp_i2l dX11_tells_103 ?_
  replace k := ok_bind k
  obtain ⟨h_5, e_6, k⟩ := k
  refine wq_sJ dX11_tells_104 e_6 ?_
  refine wp_aload_n dX11_tells_105 rfl ?_
  replace k := ok_bind k
  obtain ⟨p_7, e_8, k⟩ := k
  refine wq_getR fl_X11_99 (Or.inr ⟨_, rfl⟩) dX11_tells_106 e_8 ?_
  refine wp_iconst dX11_tells_109 ic_5 ?_
  refine wp_aload_n dX11_tells_110 rfl ?_
  replace k := ok_bind k
  obtain ⟨p_9, e_10, k⟩ := k
  refine wq_getR fl_X11_13 (Or.inr ⟨_, rfl⟩) dX11_tells_111 e_10 ?_
  refine wp_bipush dX11_tells_114 bp_72 ?_
  refine wp_iload_n dX11_tells_116 rfl ?_
  refine wp_iadd dX11_tells_117 ?_
  replace k := ok_bind k
  obtain ⟨v_11, e_12, k⟩ := k
  refine wq_aI dX11_tells_118 e_12 ?_
  refine wp_i2l dX11_tells_119 ?_
  replace k := ok_bind k
  obtain ⟨h_13, e_14, k⟩ := k
  refine wq_sJ dX11_tells_120 e_14 ?_
  refine wp_aload_n dX11_tells_121 rfl ?_
  replace k := ok_bind k
  obtain ⟨p_15, e_16, k⟩ := k
  refine wq_getR fl_X11_99 (Or.inr ⟨_, rfl⟩) dX11_tells_122 e_16 ?_
  refine wp_bipush dX11_tells_125 bp_6 ?_
  refine wp_aload_n dX11_tells_127 rfl ?_
  replace k := ok_bind k
  obtain ⟨p_17, e_18, k⟩ := k
  refine wq_getR fl_X11_13 (Or.inr ⟨_, rfl⟩) dX11_tells_128 e_18 ?_
  refine wp_bipush dX11_tells_131 bp_78 ?_
  refine wp_iload_n dX11_tells_133 rfl ?_
  refine wp_iadd dX11_tells_134 ?_
  replace k := ok_bind k
  obtain ⟨v_19, e_20, k⟩ := k
  refine wq_aI dX11_tells_135 e_20 ?_
  refine wp_i2l dX11_tells_136 ?_
  replace k := ok_bind k
  obtain ⟨h_21, e_22, k⟩ := k
  refine wq_sJ dX11_tells_137 e_22 ?_
  refine wp_aload_n dX11_tells_138 rfl ?_
  replace k := ok_bind k
  obtain ⟨p_23, e_24, k⟩ := k
  refine wq_getR fl_X11_99 (Or.inr ⟨_, rfl⟩) dX11_tells_139 e_24 ?_
  refine wp_bipush dX11_tells_142 bp_7 ?_
  refine wp_aload_n dX11_tells_144 rfl ?_
  replace k := ok_bind k
  obtain ⟨p_25, e_26, k⟩ := k
  refine wq_getR fl_X11_13 (Or.inr ⟨_, rfl⟩) dX11_tells_145 e_26 ?_
  refine wp_bipush dX11_tells_148 bp_9 ?_
  replace k := ok_bind k
  obtain ⟨v_27, e_28, k⟩ := k
  refine wq_aI dX11_tells_150 e_28 ?_
  refine wp_i2l dX11_tells_151 ?_
  replace k := ok_bind k
  obtain ⟨h_29, e_30, k⟩ := k
  refine wq_sJ dX11_tells_152 e_30 ?_
  refine wp_aload_n dX11_tells_153 rfl ?_
  replace k := ok_bind k
  obtain ⟨p_31, e_32, k⟩ := k
  refine wq_getR fl_X11_99 (Or.inr ⟨_, rfl⟩) dX11_tells_154 e_32 ?_
  refine wp_bipush dX11_tells_157 bp_8 ?_
  refine wp_aload_n dX11_tells_159 rfl ?_
  replace k := ok_bind k
  obtain ⟨p_33, e_34, k⟩ := k
  refine wq_getR fl_X11_13 (Or.inr ⟨_, rfl⟩) dX11_tells_160 e_34 ?_
  refine wp_iconst dX11_tells_163 ic_5 ?_
  replace k := ok_bind k
  obtain ⟨v_35, e_36, k⟩ := k
  refine wq_aI dX11_tells_164 e_36 ?_
  refine wp_i2l dX11_tells_165 ?_
  replace k := ok_bind k
  obtain ⟨h_37, e_38, k⟩ := k
  refine wq_sJ dX11_tells_166 e_38 ?_
  refine wp_aload_n dX11_tells_167 rfl ?_
  replace k := ok_bind k
  obtain ⟨p_39, e_40, k⟩ := k
  refine wq_getR fl_X11_99 (Or.inr ⟨_, rfl⟩) dX11_tells_168 e_40 ?_
  refine wp_bipush dX11_tells_171 bp_9 ?_
  refine wp_aload_n dX11_tells_173 rfl ?_
  replace k := ok_bind k
  obtain ⟨p_41, e_42, k⟩ := k
  refine wq_getR fl_X11_13 (Or.inr ⟨_, rfl⟩) dX11_tells_174 e_42 ?_
  refine wp_bipush dX11_tells_177 bp_7 ?_
  replace k := ok_bind k
  obtain ⟨v_43, e_44, k⟩ := k
  refine wq_aI dX11_tells_179 e_44 ?_
  refine wp_i2l dX11_tells_180 ?_
  replace k := ok_bind k
  obtain ⟨h_45, e_46, k⟩ := k
  refine wq_sJ dX11_tells_181 e_46 ?_
  refine wp_lload dX11_tells_182 rfl ?_
  refine wp_lstore dX11_tells_184 (by decide) (L1 := [_, _, _, _, _, _, _, _, _, _]) rfl ?_
  refine wp_iconst dX11_tells_186 ic_0 ?_
  refine wp_istore dX11_tells_187 (by decide) (L1 := [_, _, _, _, _, _, _, _, _, _]) rfl ?_
  refine wp_wk (wkE <| wkE <| wkJ <| wkJ <| wkJ <| wkJ <| wkE <| wkJ <| wkE <| wkJ <| wkN) ?_
  refine s_X11_tells_l189 (Nat.succ_le_succ he) (fun l6_48 h_47 k => ?_) FU _ _ _ _ _ (ok_bind2 k)
  try dsimp only at k
  refine wp_lload dX11_tells_260 rfl ?_
  refine wp_lret rfl dX11_tells_262 ?_
  exact (ok_some k :)
def f_X11_tells_j64 (S : SH) (r0 : Nat) (x1 : Int32) (x2 : Int32) (x3 : Int32) (l4 : Int64) (sr0 : Nat) (sx1 : Int32) (sl2 : Int64) (h : AH) : Option (Int64 × AH) :=
  (sJ S h sr0 sx1 sl2).bind fun h_1 =>
  (gR S h_1 r0 11 35).bind fun p_3 =>
  if x2 = (-1 : Int32) then
    f_X11_tells_j96 S r0 x1 x3 l4 p_3 (3 : Int32) (-1 : Int64) h_1
  else
    (gR S h_1 r0 11 3).bind fun p_6 =>
    (aI S h_1 p_6 (((30 : Int32) + ((6 : Int32) * x2)) + x3)).bind fun v_8 =>
    f_X11_tells_j96 S r0 x1 x3 l4 p_3 (3 : Int32) (Int32.toInt64 v_8) h_1
set_option maxHeartbeats 8000000 in
set_option maxRecDepth 20000 in
theorem s_X11_tells_j64 {S : SH} {d cb sb : Nat} {Q : Option Value → AH → Prop} (hd : 4 ≤ d)  {r0 : Nat} {x1 : Int32} {x2 : Int32} {x3 : Int32} {l4 : Int64} {sr0 : Nat} {sx1 : Int32} {sl2 : Int64} {h : AH} (k : ok (f_X11_tells_j64 S r0 x1 x2 x3 l4 sr0 sx1 sl2 h) (fun w h' => Q (some (.long w)) h')) : WP S M_X11_tells d cb sb Q 64 [.ref r0, .int x1, .int x2, .int x3, .long l4, JK, JK, JK, JK, JK] [.long sl2, .int sx1, .ref sr0] h := by
  obtain ⟨d, rfl, he⟩ := dp (L := 3) hd
  unfold f_X11_tells_j64 at k
  replace k := ok_bind k
  obtain ⟨h_1, e_2, k⟩ := k
  refine wq_sJ dX11_tells_64 e_2 ?_
  refine wp_aload_n dX11_tells_65 rfl ?_
  replace k := ok_bind k
  obtain ⟨p_3, e_4, k⟩ := k
  refine wq_getR fl_X11_99 (Or.inr ⟨_, rfl⟩) dX11_tells_66 e_4 ?_
  refine wp_iconst dX11_tells_69 ic_3 ?_
  refine wp_iload_n dX11_tells_70 rfl ?_
  refine wp_iconst dX11_tells_71 ic_m1 ?_
  refine wp_icmp_ne 81 dX11_tells_72 (by decide) (fun c_5 => ?_) (fun c_5 => ?_)
  · replace k := ok_f c_5 k
    refine wp_aload_n dX11_tells_81 rfl ?_
    replace k := ok_bind k
    obtain ⟨p_6, e_7, k⟩ := k
    refine wq_getR fl_X11_13 (Or.inr ⟨_, rfl⟩) dX11_tells_82 e_7 ?_
    refine wp_bipush dX11_tells_85 bp_30 ?_
    refine wp_bipush dX11_tells_87 bp_6 ?_
    refine wp_iload_n dX11_tells_89 rfl ?_
    refine wp_imul dX11_tells_90 ?_
    refine wp_iadd dX11_tells_91 ?_
    refine wp_iload_n dX11_tells_92 rfl ?_
    refine wp_iadd dX11_tells_93 ?_
    replace k := ok_bind k
    obtain ⟨v_8, e_9, k⟩ := k
    refine wq_aI dX11_tells_94 e_9 ?_
    refine wp_i2l dX11_tells_95 ?_
    exact wp_wk (wkE <| wkE <| wkJ <| wkE <| wkE <| wkJ <| wkJ <| wkJ <| wkJ <| wkJ <| wkN) (s_X11_tells_j96 (Nat.succ_le_succ he)  k)
  · replace k := ok_t c_5 k
    refine wp_ldc2 ct_X11_179 dX11_tells_75 ?_
    refine wp_goto 96 dX11_tells_78 (by decide) ?_
    exact wp_wk (wkE <| wkE <| wkJ <| wkE <| wkE <| wkJ <| wkJ <| wkJ <| wkJ <| wkJ <| wkN) (s_X11_tells_j96 (Nat.succ_le_succ he)  k)
def f_X11_tells (S : SH) (r0 : Nat) (x1 : Int32) (x2 : Int32) (x3 : Int32) (l4 : Int64) (h : AH) : Option (Int64 × AH) :=
  (gR S h r0 11 3).bind fun p_1 =>
  (aI S h p_1 (4 : Int32)).bind fun v_3 =>
  if v_3 = (-1 : Int32) then
    some (l4, h)
  else
    (gR S h r0 11 3).bind fun p_6 =>
    (aI S h p_6 (4 : Int32)).bind fun v_8 =>
    (pI S h r0 11 34 ((90 : Int32) + ((900 : Int32) * v_8))).bind fun h_10 =>
    (gR S h_10 r0 11 35).bind fun p_12 =>
    (sJ S h_10 p_12 (1 : Int32) (Int32.toInt64 x2)).bind fun h_14 =>
    (gR S h_14 r0 11 35).bind fun p_16 =>
    if x2 = (-1 : Int32) then
      f_X11_tells_j64 S r0 x1 x2 x3 l4 p_16 (2 : Int32) (-1 : Int64) h_14
    else
      (gR S h_14 r0 11 3).bind fun p_19 =>
      (aI S h_14 p_19 ((10 : Int32) + x2)).bind fun v_21 =>
      f_X11_tells_j64 S r0 x1 x2 x3 l4 p_16 (2 : Int32) (Int32.toInt64 v_21) h_14
set_option maxHeartbeats 8000000 in
set_option maxRecDepth 20000 in
theorem s_X11_tells {S : SH} {d cb sb : Nat} {Q : Option Value → AH → Prop} (hd : 4 ≤ d)  {r0 : Nat} {x1 : Int32} {x2 : Int32} {x3 : Int32} {l4 : Int64} {h : AH} (k : ok (f_X11_tells S r0 x1 x2 x3 l4 h) (fun w h' => Q (some (.long w)) h')) : WP S M_X11_tells d cb sb Q 0 [.ref r0, .int x1, .int x2, .int x3, .long l4, JK, JK, JK, JK, JK] [] h := by
  obtain ⟨d, rfl, he⟩ := dp (L := 3) hd
  unfold f_X11_tells at k
  refine wp_aload_n dX11_tells_0 rfl ?_
  replace k := ok_bind k
  obtain ⟨p_1, e_2, k⟩ := k
  refine wq_getR fl_X11_13 (Or.inr ⟨_, rfl⟩) dX11_tells_1 e_2 ?_
  refine wp_iconst dX11_tells_4 ic_4 ?_
  replace k := ok_bind k
  obtain ⟨v_3, e_4, k⟩ := k
  refine wq_aI dX11_tells_5 e_4 ?_
  refine wp_iconst dX11_tells_6 ic_m1 ?_
  refine wp_icmp_ne 13 dX11_tells_7 (by decide) (fun c_5 => ?_) (fun c_5 => ?_)
  · replace k := ok_f c_5 k
    refine wp_aload_n dX11_tells_13 rfl ?_
    refine wp_bipush dX11_tells_14 bp_90 ?_
    refine wp_sipush dX11_tells_16 sp_900 ?_
    refine wp_aload_n dX11_tells_19 rfl ?_
    replace k := ok_bind k
    obtain ⟨p_6, e_7, k⟩ := k
    refine wq_getR fl_X11_13 (Or.inr ⟨_, rfl⟩) dX11_tells_20 e_7 ?_
    refine wp_iconst dX11_tells_23 ic_4 ?_
    replace k := ok_bind k
    obtain ⟨v_8, e_9, k⟩ := k
    refine wq_aI dX11_tells_24 e_9 ?_
    refine wp_imul dX11_tells_25 ?_
    refine wp_iadd dX11_tells_26 ?_
    replace k := ok_bind k
    obtain ⟨h_10, e_11, k⟩ := k
    refine wq_putI fl_X11_408 rfl rfl dX11_tells_27 e_11 ?_
    refine wp_aload_n dX11_tells_30 rfl ?_
    replace k := ok_bind k
    obtain ⟨p_12, e_13, k⟩ := k
    refine wq_getR fl_X11_99 (Or.inr ⟨_, rfl⟩) dX11_tells_31 e_13 ?_
    refine wp_iconst dX11_tells_34 ic_1 ?_
    refine wp_iload_n dX11_tells_35 rfl ?_
    refine wp_i2l dX11_tells_36 ?_
    replace k := ok_bind k
    obtain ⟨h_14, e_15, k⟩ := k
    refine wq_sJ dX11_tells_37 e_15 ?_
    refine wp_aload_n dX11_tells_38 rfl ?_
    replace k := ok_bind k
    obtain ⟨p_16, e_17, k⟩ := k
    refine wq_getR fl_X11_99 (Or.inr ⟨_, rfl⟩) dX11_tells_39 e_17 ?_
    refine wp_iconst dX11_tells_42 ic_2 ?_
    refine wp_iload_n dX11_tells_43 rfl ?_
    refine wp_iconst dX11_tells_44 ic_m1 ?_
    refine wp_icmp_ne 54 dX11_tells_45 (by decide) (fun c_18 => ?_) (fun c_18 => ?_)
    · replace k := ok_f c_18 k
      refine wp_aload_n dX11_tells_54 rfl ?_
      replace k := ok_bind k
      obtain ⟨p_19, e_20, k⟩ := k
      refine wq_getR fl_X11_13 (Or.inr ⟨_, rfl⟩) dX11_tells_55 e_20 ?_
      refine wp_bipush dX11_tells_58 bp_10 ?_
      refine wp_iload_n dX11_tells_60 rfl ?_
      refine wp_iadd dX11_tells_61 ?_
      replace k := ok_bind k
      obtain ⟨v_21, e_22, k⟩ := k
      refine wq_aI dX11_tells_62 e_22 ?_
      refine wp_i2l dX11_tells_63 ?_
      exact wp_wk (wkE <| wkE <| wkE <| wkE <| wkE <| wkJ <| wkJ <| wkJ <| wkJ <| wkJ <| wkN) (s_X11_tells_j64 (Nat.succ_le_succ he)  k)
    · replace k := ok_t c_18 k
      refine wp_ldc2 ct_X11_179 dX11_tells_48 ?_
      refine wp_goto 64 dX11_tells_51 (by decide) ?_
      exact wp_wk (wkE <| wkE <| wkE <| wkE <| wkE <| wkJ <| wkJ <| wkJ <| wkJ <| wkJ <| wkN) (s_X11_tells_j64 (Nat.succ_le_succ he)  k)
  · replace k := ok_t c_5 k
    refine wp_lload dX11_tells_10 rfl ?_
    refine wp_lret rfl dX11_tells_12 ?_
    exact (ok_some k :)
theorem c_X11_tells {S : SH} {d : Nat} {K : Option Value → AH → Prop} (hd : 4 ≤ d)  {r0 : Nat} {x1 : Int32} {x2 : Int32} {x3 : Int32} {l4 : Int64} {h : AH} (k : ok (f_X11_tells S r0 x1 x2 x3 l4 h) (fun w h' => K (some (.long w)) h')) : CP S M_X11_tells d 0 0 [.ref r0, .int x1, .int x2, .int x3, .long l4] h K := cp_of (by decide) (fun _ _ => trivial) (fun _ => Nat.le_of_ble_eq_true rfl) (s_X11_tells hd  k)
def f_X11_swayOf (S : SH) (r0 : Nat) (x1 : Int32) (x2 : Int32) (h : AH) : Option (Int32 × AH) :=
  (gR S h r0 11 3).bind fun p_1 =>
  (aI S h p_1 (((30 : Int32) + ((6 : Int32) * x1)) + x2)).bind fun v_3 =>
  (ckO S h r0 11).bind fun _ =>
  (f_X11_tells S r0 (0 : Int32) x1 x2 (Int32.toInt64 v_3) h).bind fun z => match z with
  | (z_7, h_6) =>
  (f_X11_bounded S z_7 (0 : Int32) (9 : Int32) h_6).bind fun z => match z with
  | (z_9, h_8) =>
  some (z_9, h_8)
set_option maxHeartbeats 8000000 in
set_option maxRecDepth 20000 in
theorem s_X11_swayOf {S : SH} {d cb sb : Nat} {Q : Option Value → AH → Prop} (hd : 5 ≤ d)  {r0 : Nat} {x1 : Int32} {x2 : Int32} {h : AH} (k : ok (f_X11_swayOf S r0 x1 x2 h) (fun w h' => Q (some (.int w)) h')) : WP S M_X11_swayOf d cb sb Q 0 [.ref r0, .int x1, .int x2] [] h := by
  obtain ⟨d, rfl, he⟩ := dp (L := 4) hd
  unfold f_X11_swayOf at k
  refine wp_aload_n dX11_swayOf_0 rfl ?_
  refine wp_iconst dX11_swayOf_1 ic_0 ?_
  refine wp_iload_n dX11_swayOf_2 rfl ?_
  refine wp_iload_n dX11_swayOf_3 rfl ?_
  refine wp_aload_n dX11_swayOf_4 rfl ?_
  replace k := ok_bind k
  obtain ⟨p_1, e_2, k⟩ := k
  refine wq_getR fl_X11_13 (Or.inr ⟨_, rfl⟩) dX11_swayOf_5 e_2 ?_
  refine wp_bipush dX11_swayOf_8 bp_30 ?_
  refine wp_bipush dX11_swayOf_10 bp_6 ?_
  refine wp_iload_n dX11_swayOf_12 rfl ?_
  refine wp_imul dX11_swayOf_13 ?_
  refine wp_iadd dX11_swayOf_14 ?_
  refine wp_iload_n dX11_swayOf_15 rfl ?_
  refine wp_iadd dX11_swayOf_16 ?_
  replace k := ok_bind k
  obtain ⟨v_3, e_4, k⟩ := k
  refine wq_aI dX11_swayOf_17 e_4 ?_
  refine wp_i2l dX11_swayOf_18 ?_
  replace k := ok_bind k
  obtain ⟨u, e_5, k⟩ := k
  refine wp_callV4 (N := M_X11_tells) (ci := 11) mf_X11_tells mi_X11_tells me_X11_tells ml_X11_431 dX11_swayOf_19 (ckO_e e_5) mv_X11_tells (by exact Nat.le_of_ble_eq_true rfl) (c_X11_tells (Nat.le_trans (by decide) he) (ok_mono (ok_bind2 k) fun z_7 h_6 k => ?_))
  try dsimp only at k
  refine wp_iconst dX11_swayOf_22 ic_0 ?_
  refine wp_bipush dX11_swayOf_23 bp_9 ?_
  refine wp_callS3 (N := M_X11_bounded) mf_X11_bounded ms_X11_bounded ml_X11_435 dX11_swayOf_25 (by exact Nat.le_of_ble_eq_true rfl) (c_X11_bounded (Nat.le_trans (by decide) he) (ok_mono (ok_bind2 k) fun z_9 h_8 k => ?_))
  try dsimp only at k
  refine wp_iret rfl rfl dX11_swayOf_28 ?_
  exact (ok_some k :)
theorem c_X11_swayOf {S : SH} {d : Nat} {K : Option Value → AH → Prop} (hd : 5 ≤ d)  {r0 : Nat} {x1 : Int32} {x2 : Int32} {h : AH} (k : ok (f_X11_swayOf S r0 x1 x2 h) (fun w h' => K (some (.int w)) h')) : CP S M_X11_swayOf d 0 0 [.ref r0, .int x1, .int x2] h K := cp_of (by decide) (fun _ _ => trivial) (fun _ => Nat.le_of_ble_eq_true rfl) (s_X11_swayOf hd  k)
def f_X11_sits (S : SH) (r0 : Nat) (x1 : Int32) (x2 : Int32) (h : AH) : Option (Int32 × AH) :=
  (ckO S h r0 11).bind fun _ =>
  (f_X11_isAway S r0 x1 h).bind fun z => match z with
  | (z_3, h_2) =>
  if z_3 = (0 : Int32) then
    (ckO S h_2 r0 11).bind fun _ =>
    (f_X11_tells S r0 (2 : Int32) x1 x2 (0 : Int64) h_2).bind fun z => match z with
    | (z_7, h_6) =>
    if (lg_cmp z_7 (0 : Int64)) = (0 : Int32) then
      some ((1 : Int32), h_6)
    else
      some ((0 : Int32), h_6)
  else
    some ((0 : Int32), h_2)
set_option maxHeartbeats 8000000 in
set_option maxRecDepth 20000 in
theorem s_X11_sits {S : SH} {d cb sb : Nat} {Q : Option Value → AH → Prop} (hd : 5 ≤ d)  {r0 : Nat} {x1 : Int32} {x2 : Int32} {h : AH} (k : ok (f_X11_sits S r0 x1 x2 h) (fun w h' => Q (some (.int w)) h')) : WP S M_X11_sits d cb sb Q 0 [.ref r0, .int x1, .int x2] [] h := by
  obtain ⟨d, rfl, he⟩ := dp (L := 4) hd
  unfold f_X11_sits at k
  refine wp_aload_n dX11_sits_0 rfl ?_
  refine wp_iload_n dX11_sits_1 rfl ?_
  replace k := ok_bind k
  obtain ⟨u, e_1, k⟩ := k
  refine wp_callV1 (N := M_X11_isAway) (ci := 11) mf_X11_isAway mi_X11_isAway me_X11_isAway ml_X11_183 dX11_sits_2 (ckO_e e_1) mv_X11_isAway (by exact Nat.le_of_ble_eq_true rfl) (c_X11_isAway (Nat.le_trans (by decide) he) (ok_mono (ok_bind2 k) fun z_3 h_2 k => ?_))
  try dsimp only at k
  refine wp_if_ne 25 dX11_sits_5 (by decide) (fun c_4 => ?_) (fun c_4 => ?_)
  · replace k := ok_f c_4 k
    refine wp_iconst dX11_sits_25 ic_0 ?_
    refine wp_iret rfl rfl dX11_sits_26 ?_
    exact (ok_some k :)
  · replace k := ok_t c_4 k
    refine wp_aload_n dX11_sits_8 rfl ?_
    refine wp_iconst dX11_sits_9 ic_2 ?_
    refine wp_iload_n dX11_sits_10 rfl ?_
    refine wp_iload_n dX11_sits_11 rfl ?_
    refine wp_lconst dX11_sits_12 lc_0 ?_
    replace k := ok_bind k
    obtain ⟨u, e_5, k⟩ := k
    refine wp_callV4 (N := M_X11_tells) (ci := 11) mf_X11_tells mi_X11_tells me_X11_tells ml_X11_431 dX11_sits_13 (ckO_e e_5) mv_X11_tells (by exact Nat.le_of_ble_eq_true rfl) (c_X11_tells (Nat.le_trans (by decide) he) (ok_mono (ok_bind2 k) fun z_7 h_6 k => ?_))
    try dsimp only at k
    refine wp_lconst dX11_sits_16 lc_0 ?_
    refine wp_lcmp dX11_sits_17 ?_
    refine wp_if_ne 25 dX11_sits_18 (by decide) (fun c_8 => ?_) (fun c_8 => ?_)
    · replace k := ok_f c_8 k
      refine wp_iconst dX11_sits_25 ic_0 ?_
      refine wp_iret rfl rfl dX11_sits_26 ?_
      exact (ok_some k :)
    · replace k := ok_t c_8 k
      refine wp_iconst dX11_sits_21 ic_1 ?_
      refine wp_goto 26 dX11_sits_22 (by decide) ?_
      refine wp_iret rfl rfl dX11_sits_26 ?_
      exact (ok_some k :)
theorem c_X11_sits {S : SH} {d : Nat} {K : Option Value → AH → Prop} (hd : 5 ≤ d)  {r0 : Nat} {x1 : Int32} {x2 : Int32} {h : AH} (k : ok (f_X11_sits S r0 x1 x2 h) (fun w h' => K (some (.int w)) h')) : CP S M_X11_sits d 0 0 [.ref r0, .int x1, .int x2] h K := cp_of (by decide) (fun _ _ => trivial) (fun _ => Nat.le_of_ble_eq_true rfl) (s_X11_sits hd  k)
def f_X11_isAye (S : SH) (r0 : Nat) (x1 : Int32) (x2 : Int32) (h : AH) : Option (Int32 × AH) :=
  (ckO S h r0 11).bind fun _ =>
  (f_X11_sits S r0 x1 x2 h).bind fun z => match z with
  | (z_3, h_2) =>
  if z_3 = (0 : Int32) then
    some ((0 : Int32), h_2)
  else
    (ckO S h_2 r0 11).bind fun _ =>
    (f_X11_swayOf S r0 x1 x2 h_2).bind fun z => match z with
    | (z_7, h_6) =>
    if z_7 < (5 : Int32) then
      some ((0 : Int32), h_6)
    else
      some ((1 : Int32), h_6)
set_option maxHeartbeats 8000000 in
set_option maxRecDepth 20000 in
theorem s_X11_isAye {S : SH} {d cb sb : Nat} {Q : Option Value → AH → Prop} (hd : 6 ≤ d)  {r0 : Nat} {x1 : Int32} {x2 : Int32} {h : AH} (k : ok (f_X11_isAye S r0 x1 x2 h) (fun w h' => Q (some (.int w)) h')) : WP S M_X11_isAye d cb sb Q 0 [.ref r0, .int x1, .int x2] [] h := by
  obtain ⟨d, rfl, he⟩ := dp (L := 5) hd
  unfold f_X11_isAye at k
  refine wp_aload_n dX11_isAye_0 rfl ?_
  refine wp_iload_n dX11_isAye_1 rfl ?_
  refine wp_iload_n dX11_isAye_2 rfl ?_
  replace k := ok_bind k
  obtain ⟨u, e_1, k⟩ := k
  refine wp_callV2 (N := M_X11_sits) (ci := 11) mf_X11_sits mi_X11_sits me_X11_sits ml_X11_219 dX11_isAye_3 (ckO_e e_1) mv_X11_sits (by exact Nat.le_of_ble_eq_true rfl) (c_X11_sits (Nat.le_trans (by decide) he) (ok_mono (ok_bind2 k) fun z_3 h_2 k => ?_))
  try dsimp only at k
  refine wp_if_eq 23 dX11_isAye_6 (by decide) (fun c_4 => ?_) (fun c_4 => ?_)
  · replace k := ok_t c_4 k
    refine wp_iconst dX11_isAye_23 ic_0 ?_
    refine wp_iret rfl rfl dX11_isAye_24 ?_
    exact (ok_some k :)
  · replace k := ok_f c_4 k
    refine wp_aload_n dX11_isAye_9 rfl ?_
    refine wp_iload_n dX11_isAye_10 rfl ?_
    refine wp_iload_n dX11_isAye_11 rfl ?_
    replace k := ok_bind k
    obtain ⟨u, e_5, k⟩ := k
    refine wp_callV2 (N := M_X11_swayOf) (ci := 11) mf_X11_swayOf mi_X11_swayOf me_X11_swayOf ml_X11_216 dX11_isAye_12 (ckO_e e_5) mv_X11_swayOf (by exact Nat.le_of_ble_eq_true rfl) (c_X11_swayOf (Nat.le_trans (by decide) he) (ok_mono (ok_bind2 k) fun z_7 h_6 k => ?_))
    try dsimp only at k
    refine wp_iconst dX11_isAye_15 ic_5 ?_
    refine wp_icmp_lt 23 dX11_isAye_16 (by decide) (fun c_8 => ?_) (fun c_8 => ?_)
    · replace k := ok_t c_8 k
      refine wp_iconst dX11_isAye_23 ic_0 ?_
      refine wp_iret rfl rfl dX11_isAye_24 ?_
      exact (ok_some k :)
    · replace k := ok_f c_8 k
      refine wp_iconst dX11_isAye_19 ic_1 ?_
      refine wp_goto 24 dX11_isAye_20 (by decide) ?_
      refine wp_iret rfl rfl dX11_isAye_24 ?_
      exact (ok_some k :)
theorem c_X11_isAye {S : SH} {d : Nat} {K : Option Value → AH → Prop} (hd : 6 ≤ d)  {r0 : Nat} {x1 : Int32} {x2 : Int32} {h : AH} (k : ok (f_X11_isAye S r0 x1 x2 h) (fun w h' => K (some (.int w)) h')) : CP S M_X11_isAye d 0 0 [.ref r0, .int x1, .int x2] h K := cp_of (by decide) (fun _ _ => trivial) (fun _ => Nat.le_of_ble_eq_true rfl) (s_X11_isAye hd  k)
def f_X11_of (S : SH) (r0 : Nat) (x1 : Int32) (x2 : Int32) (h : AH) : Option (Int32 × AH) :=
  (pI S h r0 11 0 (0 : Int32)).bind fun h_1 =>
  (ckO S h_1 r0 11).bind fun _ =>
  (f_X11_isBird S r0 x1 h_1).bind fun z => match z with
  | (z_5, h_4) =>
  if z_5 = (0 : Int32) then
    some ((-1 : Int32), h_4)
  else
    (f_X11_in S (Int32.toInt64 x2) (0 : Int64) (20 : Int64) h_4).bind fun z => match z with
    | (z_8, h_7) =>
    if z_8 = (0 : Int32) then
      some ((-1 : Int32), h_7)
    else
      if x2 = (0 : Int32) then
        (gR S h_7 r0 11 3).bind fun p_11 =>
        (aI S h_7 p_11 ((10 : Int32) + x1)).bind fun v_13 =>
        some (v_13, h_7)
      else
      if x2 = (1 : Int32) then
        (gR S h_7 r0 11 3).bind fun p_16 =>
        (aI S h_7 p_16 ((23 : Int32) + x1)).bind fun v_18 =>
        some (v_18, h_7)
      else
      if x2 = (2 : Int32) then
        (ckO S h_7 r0 11).bind fun _ =>
        (f_X11_hearsAll S r0 x1 h_7).bind fun z => match z with
        | (z_23, h_22) =>
        some (z_23, h_22)
      else
      lt ((rmI (x2 - (3 : Int32)) (6 : Int32))) fun y_24 =>
      if (9 : Int32) ≤ x2 then
        (ckO S h_7 r0 11).bind fun _ =>
        (f_X11_isMatter S r0 y_24 h_7).bind fun z => match z with
        | (z_28, h_27) =>
        if z_28 = (0 : Int32) then
          some ((-1 : Int32), h_27)
        else
          if (15 : Int32) ≤ x2 then
            (ckO S h_27 r0 11).bind fun _ =>
            (f_X11_sits S r0 x1 y_24 h_27).bind fun z => match z with
            | (z_33, h_32) =>
            if z_33 = (0 : Int32) then
              some ((0 : Int32), h_32)
            else
              (ckO S h_32 r0 11).bind fun _ =>
              (f_X11_isAye S r0 x1 y_24 h_32).bind fun z => match z with
              | (z_37, h_36) =>
              if z_37 = (0 : Int32) then
                some ((1 : Int32), h_36)
              else
                some ((2 : Int32), h_36)
          else
            (ckO S h_27 r0 11).bind fun _ =>
            (f_X11_swayOf S r0 x1 y_24 h_27).bind fun z => match z with
            | (z_41, h_40) =>
            some (z_41, h_40)
      else
        (gR S h_7 r0 11 3).bind fun p_42 =>
        (aI S h_7 p_42 (((30 : Int32) + ((6 : Int32) * x1)) + y_24)).bind fun v_44 =>
        some (v_44, h_7)
set_option maxHeartbeats 8000000 in
set_option maxRecDepth 20000 in
theorem s_X11_of {S : SH} {d cb sb : Nat} {Q : Option Value → AH → Prop} (hd : 7 ≤ d)  {r0 : Nat} {x1 : Int32} {x2 : Int32} {h : AH} (k : ok (f_X11_of S r0 x1 x2 h) (fun w h' => Q (some (.int w)) h')) : WP S M_X11_of d cb sb Q 0 [.ref r0, .int x1, .int x2, JK] [] h := by
  obtain ⟨d, rfl, he⟩ := dp (L := 6) hd
  unfold f_X11_of at k
  refine wp_aload_n dX11_of_0 rfl ?_
  refine wp_iconst dX11_of_1 ic_0 ?_
  replace k := ok_bind k
  obtain ⟨h_1, e_2, k⟩ := k
  refine wq_putI fl_X11_152 rfl rfl dX11_of_2 e_2 ?_
  refine wp_aload_n dX11_of_5 rfl ?_
  refine wp_iload_n dX11_of_6 rfl ?_
  replace k := ok_bind k
  obtain ⟨u, e_3, k⟩ := k
  refine wp_callV1 (N := M_X11_isBird) (ci := 11) mf_X11_isBird mi_X11_isBird me_X11_isBird ml_X11_198 dX11_of_7 (ckO_e e_3) mv_X11_isBird (by exact Nat.le_of_ble_eq_true rfl) (c_X11_isBird (Nat.le_trans (by decide) he) (ok_mono (ok_bind2 k) fun z_5 h_4 k => ?_))
  try dsimp only at k
  refine wp_if_eq 25 dX11_of_10 (by decide) (fun c_6 => ?_) (fun c_6 => ?_)
  · replace k := ok_t c_6 k
    refine wp_iconst dX11_of_25 ic_m1 ?_
    refine wp_iret rfl rfl dX11_of_26 ?_
    exact (ok_some k :)
  · replace k := ok_f c_6 k
    refine wp_iload_n dX11_of_13 rfl ?_
    refine wp_i2l dX11_of_14 ?_
    refine wp_lconst dX11_of_15 lc_0 ?_
    refine wp_ldc2 ct_X11_208 dX11_of_16 ?_
    refine wp_callS3 (N := M_X11_in) mf_X11_in ms_X11_in ml_X11_172 dX11_of_19 (by exact Nat.le_of_ble_eq_true rfl) (c_X11_in (Nat.le_trans (by decide) he) (ok_mono (ok_bind2 k) fun z_8 h_7 k => ?_))
    try dsimp only at k
    refine wp_if_ne 27 dX11_of_22 (by decide) (fun c_9 => ?_) (fun c_9 => ?_)
    · replace k := ok_f c_9 k
      refine wp_iload_n dX11_of_27 rfl ?_
      refine wp_case (0 : Int32) (fun c_10 => ?_) (fun c_10 => ?_)
      · refine wp_tabIn 56 dX11_of_28 (by rw [c_10]; decide) (by rw [c_10]; decide) (by rw [c_10]; rfl) (by decide) ?_
        replace k := ok_t c_10 k
        refine wp_aload_n dX11_of_56 rfl ?_
        replace k := ok_bind k
        obtain ⟨p_11, e_12, k⟩ := k
        refine wq_getR fl_X11_13 (Or.inr ⟨_, rfl⟩) dX11_of_57 e_12 ?_
        refine wp_bipush dX11_of_60 bp_10 ?_
        refine wp_iload_n dX11_of_62 rfl ?_
        refine wp_iadd dX11_of_63 ?_
        replace k := ok_bind k
        obtain ⟨v_13, e_14, k⟩ := k
        refine wq_aI dX11_of_64 e_14 ?_
        refine wp_iret rfl rfl dX11_of_65 ?_
        exact (ok_some k :)
      replace k := ok_f c_10 k
      refine wp_case (1 : Int32) (fun c_15 => ?_) (fun c_15 => ?_)
      · refine wp_tabIn 66 dX11_of_28 (by rw [c_15]; decide) (by rw [c_15]; decide) (by rw [c_15]; rfl) (by decide) ?_
        replace k := ok_t c_15 k
        refine wp_aload_n dX11_of_66 rfl ?_
        replace k := ok_bind k
        obtain ⟨p_16, e_17, k⟩ := k
        refine wq_getR fl_X11_13 (Or.inr ⟨_, rfl⟩) dX11_of_67 e_17 ?_
        refine wp_bipush dX11_of_70 bp_23 ?_
        refine wp_iload_n dX11_of_72 rfl ?_
        refine wp_iadd dX11_of_73 ?_
        replace k := ok_bind k
        obtain ⟨v_18, e_19, k⟩ := k
        refine wq_aI dX11_of_74 e_19 ?_
        refine wp_iret rfl rfl dX11_of_75 ?_
        exact (ok_some k :)
      replace k := ok_f c_15 k
      refine wp_case (2 : Int32) (fun c_20 => ?_) (fun c_20 => ?_)
      · refine wp_tabIn 76 dX11_of_28 (by rw [c_20]; decide) (by rw [c_20]; decide) (by rw [c_20]; rfl) (by decide) ?_
        replace k := ok_t c_20 k
        refine wp_aload_n dX11_of_76 rfl ?_
        refine wp_iload_n dX11_of_77 rfl ?_
        replace k := ok_bind k
        obtain ⟨u, e_21, k⟩ := k
        refine wp_callV1 (N := M_X11_hearsAll) (ci := 11) mf_X11_hearsAll mi_X11_hearsAll me_X11_hearsAll ml_X11_210 dX11_of_78 (ckO_e e_21) mv_X11_hearsAll (by exact Nat.le_of_ble_eq_true rfl) (c_X11_hearsAll (Nat.le_trans (by decide) he) (ok_mono (ok_bind2 k) fun z_23 h_22 k => ?_))
        try dsimp only at k
        refine wp_iret rfl rfl dX11_of_81 ?_
        exact (ok_some k :)
      replace k := ok_f c_20 k
      refine wp_tabOut 82 dX11_of_28 (tab_out (n := 3) (fun i hi => ?_)) (by decide) ?_
      · match i, hi with
        | 0, _ => exact ti_ne c_10 (by decide)
        | 1, _ => exact ti_ne c_15 (by decide)
        | 2, _ => exact ti_ne c_20 (by decide)
        | i + 3, hi => exact absurd hi (by omega)
      refine wp_iload_n dX11_of_82 rfl ?_
      refine wp_iconst dX11_of_83 ic_3 ?_
      refine wp_isub dX11_of_84 ?_
      refine wp_bipush dX11_of_85 bp_6 ?_
      refine wp_irem dX11_of_87 (by decide) ?_
      replace k := ok_lt k
      refine wp_istore_n dX11_of_88 (by decide) (L1 := [_, _, _, _]) rfl ?_
      refine wp_iload_n dX11_of_89 rfl ?_
      refine wp_bipush dX11_of_90 bp_9 ?_
      refine wp_icmp_ge 110 dX11_of_92 (by decide) (fun c_25 => ?_) (fun c_25 => ?_)
      · replace k := ok_t c_25 k
        refine wp_aload_n dX11_of_110 rfl ?_
        refine wp_iload_n dX11_of_111 rfl ?_
        replace k := ok_bind k
        obtain ⟨u, e_26, k⟩ := k
        refine wp_callV1 (N := M_X11_isMatter) (ci := 11) mf_X11_isMatter mi_X11_isMatter me_X11_isMatter ml_X11_213 dX11_of_112 (ckO_e e_26) mv_X11_isMatter (by exact Nat.le_of_ble_eq_true rfl) (c_X11_isMatter (Nat.le_trans (by decide) he) (ok_mono (ok_bind2 k) fun z_28 h_27 k => ?_))
        try dsimp only at k
        refine wp_if_ne 120 dX11_of_115 (by decide) (fun c_29 => ?_) (fun c_29 => ?_)
        · replace k := ok_f c_29 k
          refine wp_iload_n dX11_of_120 rfl ?_
          refine wp_bipush dX11_of_121 bp_15 ?_
          refine wp_icmp_ge 133 dX11_of_123 (by decide) (fun c_30 => ?_) (fun c_30 => ?_)
          · replace k := ok_t c_30 k
            refine wp_aload_n dX11_of_133 rfl ?_
            refine wp_iload_n dX11_of_134 rfl ?_
            refine wp_iload_n dX11_of_135 rfl ?_
            replace k := ok_bind k
            obtain ⟨u, e_31, k⟩ := k
            refine wp_callV2 (N := M_X11_sits) (ci := 11) mf_X11_sits mi_X11_sits me_X11_sits ml_X11_219 dX11_of_136 (ckO_e e_31) mv_X11_sits (by exact Nat.le_of_ble_eq_true rfl) (c_X11_sits (Nat.le_trans (by decide) he) (ok_mono (ok_bind2 k) fun z_33 h_32 k => ?_))
            try dsimp only at k
            refine wp_if_ne 146 dX11_of_139 (by decide) (fun c_34 => ?_) (fun c_34 => ?_)
            · replace k := ok_f c_34 k
              refine wp_aload_n dX11_of_146 rfl ?_
              refine wp_iload_n dX11_of_147 rfl ?_
              refine wp_iload_n dX11_of_148 rfl ?_
              replace k := ok_bind k
              obtain ⟨u, e_35, k⟩ := k
              refine wp_callV2 (N := M_X11_isAye) (ci := 11) mf_X11_isAye mi_X11_isAye me_X11_isAye ml_X11_222 dX11_of_149 (ckO_e e_35) mv_X11_isAye (by exact Nat.le_of_ble_eq_true rfl) (c_X11_isAye (Nat.le_trans (by decide) he) (ok_mono (ok_bind2 k) fun z_37 h_36 k => ?_))
              try dsimp only at k
              refine wp_if_eq 159 dX11_of_152 (by decide) (fun c_38 => ?_) (fun c_38 => ?_)
              · replace k := ok_t c_38 k
                refine wp_iconst dX11_of_159 ic_1 ?_
                refine wp_iret rfl rfl dX11_of_160 ?_
                exact (ok_some k :)
              · replace k := ok_f c_38 k
                refine wp_iconst dX11_of_155 ic_2 ?_
                refine wp_goto 160 dX11_of_156 (by decide) ?_
                refine wp_iret rfl rfl dX11_of_160 ?_
                exact (ok_some k :)
            · replace k := ok_t c_34 k
              refine wp_iconst dX11_of_142 ic_0 ?_
              refine wp_goto 160 dX11_of_143 (by decide) ?_
              refine wp_iret rfl rfl dX11_of_160 ?_
              exact (ok_some k :)
          · replace k := ok_f c_30 k
            refine wp_aload_n dX11_of_126 rfl ?_
            refine wp_iload_n dX11_of_127 rfl ?_
            refine wp_iload_n dX11_of_128 rfl ?_
            replace k := ok_bind k
            obtain ⟨u, e_39, k⟩ := k
            refine wp_callV2 (N := M_X11_swayOf) (ci := 11) mf_X11_swayOf mi_X11_swayOf me_X11_swayOf ml_X11_216 dX11_of_129 (ckO_e e_39) mv_X11_swayOf (by exact Nat.le_of_ble_eq_true rfl) (c_X11_swayOf (Nat.le_trans (by decide) he) (ok_mono (ok_bind2 k) fun z_41 h_40 k => ?_))
            try dsimp only at k
            refine wp_iret rfl rfl dX11_of_132 ?_
            exact (ok_some k :)
        · replace k := ok_t c_29 k
          refine wp_iconst dX11_of_118 ic_m1 ?_
          refine wp_iret rfl rfl dX11_of_119 ?_
          exact (ok_some k :)
      · replace k := ok_f c_25 k
        refine wp_aload_n dX11_of_95 rfl ?_
        replace k := ok_bind k
        obtain ⟨p_42, e_43, k⟩ := k
        refine wq_getR fl_X11_13 (Or.inr ⟨_, rfl⟩) dX11_of_96 e_43 ?_
        refine wp_bipush dX11_of_99 bp_30 ?_
        refine wp_bipush dX11_of_101 bp_6 ?_
        refine wp_iload_n dX11_of_103 rfl ?_
        refine wp_imul dX11_of_104 ?_
        refine wp_iadd dX11_of_105 ?_
        refine wp_iload_n dX11_of_106 rfl ?_
        refine wp_iadd dX11_of_107 ?_
        replace k := ok_bind k
        obtain ⟨v_44, e_45, k⟩ := k
        refine wq_aI dX11_of_108 e_45 ?_
        refine wp_iret rfl rfl dX11_of_109 ?_
        exact (ok_some k :)
    · replace k := ok_t c_9 k
      refine wp_iconst dX11_of_25 ic_m1 ?_
      refine wp_iret rfl rfl dX11_of_26 ?_
      exact (ok_some k :)
theorem c_X11_of {S : SH} {d : Nat} {K : Option Value → AH → Prop} (hd : 7 ≤ d)  {r0 : Nat} {x1 : Int32} {x2 : Int32} {h : AH} (k : ok (f_X11_of S r0 x1 x2 h) (fun w h' => K (some (.int w)) h')) : CP S M_X11_of d 0 0 [.ref r0, .int x1, .int x2] h K := cp_of (by decide) (fun _ _ => trivial) (fun _ => Nat.le_of_ble_eq_true rfl) (s_X11_of hd  k)
def f_X11_matter (S : SH) (r0 : Nat) (x1 : Int32) (x2 : Int32) (h : AH) : Option (Int32 × AH) :=
  (pI S h r0 11 0 (0 : Int32)).bind fun h_1 =>
  (f_X11_in S (Int32.toInt64 x1) (1 : Int64) (9 : Int64) h_1).bind fun z => match z with
  | (z_4, h_3) =>
  if z_4 = (0 : Int32) then
    (ckO S h_3 r0 11).bind fun _ =>
    (f_X11_tell S r0 (-1 : Int32) h_3).bind fun z => match z with
    | (z_8, h_7) =>
    some (z_8, h_7)
  else
    (f_X11_in S (Int32.toInt64 x2) (0 : Int64) (9 : Int64) h_3).bind fun z => match z with
    | (z_10, h_9) =>
    if z_10 = (0 : Int32) then
      (ckO S h_9 r0 11).bind fun _ =>
      (f_X11_tell S r0 (-1 : Int32) h_9).bind fun z => match z with
      | (z_43, h_42) =>
      some (z_43, h_42)
    else
      (gR S h_9 r0 11 3).bind fun p_12 =>
      (aI S h_9 p_12 (1 : Int32)).bind fun v_14 =>
      if v_14 = (6 : Int32) then
        (ckO S h_9 r0 11).bind fun _ =>
        (f_X11_tell S r0 (-5 : Int32) h_9).bind fun z => match z with
        | (z_40, h_39) =>
        some (z_40, h_39)
      else
        (gR S h_9 r0 11 3).bind fun p_17 =>
        (sI S h_9 p_17 ((72 : Int32) + v_14) x1).bind fun h_19 =>
        (gR S h_19 r0 11 3).bind fun p_21 =>
        (sI S h_19 p_21 ((78 : Int32) + v_14) x2).bind fun h_23 =>
        (gR S h_23 r0 11 3).bind fun p_25 =>
        (sI S h_23 p_25 ((17 : Int32) + v_14) (0 : Int32)).bind fun h_27 =>
        (gR S h_27 r0 11 3).bind fun p_29 =>
        (aI S h_27 p_29 (1 : Int32)).bind fun v_31 =>
        (sI S h_27 p_29 (1 : Int32) (v_31 + (1 : Int32))).bind fun h_33 =>
        (ckO S h_33 r0 11).bind fun _ =>
        (f_X11_lasting S r0 v_14 h_33).bind fun z => match z with
        | (z_37, h_36) =>
        some (z_37, h_36)
set_option maxHeartbeats 8000000 in
set_option maxRecDepth 20000 in
theorem s_X11_matter {S : SH} {d cb sb : Nat} {Q : Option Value → AH → Prop} (hd : 2 ≤ d)  {r0 : Nat} {x1 : Int32} {x2 : Int32} {h : AH} (k : ok (f_X11_matter S r0 x1 x2 h) (fun w h' => Q (some (.int w)) h')) : WP S M_X11_matter d cb sb Q 0 [.ref r0, .int x1, .int x2, JK] [] h := by
  obtain ⟨d, rfl, he⟩ := dp (L := 1) hd
  unfold f_X11_matter at k
  refine wp_aload_n dX11_matter_0 rfl ?_
  refine wp_iconst dX11_matter_1 ic_0 ?_
  replace k := ok_bind k
  obtain ⟨h_1, e_2, k⟩ := k
  refine wq_putI fl_X11_152 rfl rfl dX11_matter_2 e_2 ?_
  refine wp_iload_n dX11_matter_5 rfl ?_
  refine wp_i2l dX11_matter_6 ?_
  refine wp_lconst dX11_matter_7 lc_1 ?_
  refine wp_ldc2 ct_X11_190 dX11_matter_8 ?_
  refine wp_callS3 (N := M_X11_in) mf_X11_in ms_X11_in ml_X11_172 dX11_matter_11 (by exact Nat.le_of_ble_eq_true rfl) (c_X11_in (Nat.le_trans (by decide) he) (ok_mono (ok_bind2 k) fun z_4 h_3 k => ?_))
  try dsimp only at k
  refine wp_if_eq 29 dX11_matter_14 (by decide) (fun c_5 => ?_) (fun c_5 => ?_)
  · replace k := ok_t c_5 k
    refine wp_aload_n dX11_matter_29 rfl ?_
    refine wp_iconst dX11_matter_30 ic_m1 ?_
    replace k := ok_bind k
    obtain ⟨u, e_6, k⟩ := k
    refine wp_callV1 (N := M_X11_tell) (ci := 11) mf_X11_tell mi_X11_tell me_X11_tell ml_X11_161 dX11_matter_31 (ckO_e e_6) mv_X11_tell (by exact Nat.le_of_ble_eq_true rfl) (c_X11_tell (Nat.le_trans (by decide) he) (ok_mono (ok_bind2 k) fun z_8 h_7 k => ?_))
    try dsimp only at k
    refine wp_iret rfl rfl dX11_matter_34 ?_
    exact (ok_some k :)
  · replace k := ok_f c_5 k
    refine wp_iload_n dX11_matter_17 rfl ?_
    refine wp_i2l dX11_matter_18 ?_
    refine wp_lconst dX11_matter_19 lc_0 ?_
    refine wp_ldc2 ct_X11_190 dX11_matter_20 ?_
    refine wp_callS3 (N := M_X11_in) mf_X11_in ms_X11_in ml_X11_172 dX11_matter_23 (by exact Nat.le_of_ble_eq_true rfl) (c_X11_in (Nat.le_trans (by decide) he) (ok_mono (ok_bind2 k) fun z_10 h_9 k => ?_))
    try dsimp only at k
    refine wp_if_ne 35 dX11_matter_26 (by decide) (fun c_11 => ?_) (fun c_11 => ?_)
    · replace k := ok_f c_11 k
      refine wp_aload_n dX11_matter_35 rfl ?_
      replace k := ok_bind k
      obtain ⟨p_12, e_13, k⟩ := k
      refine wq_getR fl_X11_13 (Or.inr ⟨_, rfl⟩) dX11_matter_36 e_13 ?_
      refine wp_iconst dX11_matter_39 ic_1 ?_
      replace k := ok_bind k
      obtain ⟨v_14, e_15, k⟩ := k
      refine wq_aI dX11_matter_40 e_15 ?_
      refine wp_istore_n dX11_matter_41 (by decide) (L1 := [_, _, _, _]) rfl ?_
      refine wp_iload_n dX11_matter_42 rfl ?_
      refine wp_bipush dX11_matter_43 bp_6 ?_
      refine wp_icmp_ne 55 dX11_matter_45 (by decide) (fun c_16 => ?_) (fun c_16 => ?_)
      · replace k := ok_f c_16 k
        refine wp_aload_n dX11_matter_55 rfl ?_
        replace k := ok_bind k
        obtain ⟨p_17, e_18, k⟩ := k
        refine wq_getR fl_X11_13 (Or.inr ⟨_, rfl⟩) dX11_matter_56 e_18 ?_
        refine wp_bipush dX11_matter_59 bp_72 ?_
        refine wp_iload_n dX11_matter_61 rfl ?_
        refine wp_iadd dX11_matter_62 ?_
        refine wp_iload_n dX11_matter_63 rfl ?_
        replace k := ok_bind k
        obtain ⟨h_19, e_20, k⟩ := k
        refine wq_sI dX11_matter_64 e_20 ?_
        refine wp_aload_n dX11_matter_65 rfl ?_
        replace k := ok_bind k
        obtain ⟨p_21, e_22, k⟩ := k
        refine wq_getR fl_X11_13 (Or.inr ⟨_, rfl⟩) dX11_matter_66 e_22 ?_
        refine wp_bipush dX11_matter_69 bp_78 ?_
        refine wp_iload_n dX11_matter_71 rfl ?_
        refine wp_iadd dX11_matter_72 ?_
        refine wp_iload_n dX11_matter_73 rfl ?_
        replace k := ok_bind k
        obtain ⟨h_23, e_24, k⟩ := k
        refine wq_sI dX11_matter_74 e_24 ?_
        refine wp_aload_n dX11_matter_75 rfl ?_
        replace k := ok_bind k
        obtain ⟨p_25, e_26, k⟩ := k
        refine wq_getR fl_X11_13 (Or.inr ⟨_, rfl⟩) dX11_matter_76 e_26 ?_
        refine wp_bipush dX11_matter_79 bp_17 ?_
        refine wp_iload_n dX11_matter_81 rfl ?_
        refine wp_iadd dX11_matter_82 ?_
        refine wp_iconst dX11_matter_83 ic_0 ?_
        replace k := ok_bind k
        obtain ⟨h_27, e_28, k⟩ := k
        refine wq_sI dX11_matter_84 e_28 ?_
        refine wp_aload_n dX11_matter_85 rfl ?_
        replace k := ok_bind k
        obtain ⟨p_29, e_30, k⟩ := k
        refine wq_getR fl_X11_13 (Or.inr ⟨_, rfl⟩) dX11_matter_86 e_30 ?_
        refine wp_iconst dX11_matter_89 ic_1 ?_
        refine wp_dup2 dX11_matter_90 ?_
        replace k := ok_bind k
        obtain ⟨v_31, e_32, k⟩ := k
        refine wq_aI dX11_matter_91 e_32 ?_
        refine wp_iconst dX11_matter_92 ic_1 ?_
        refine wp_iadd dX11_matter_93 ?_
        replace k := ok_bind k
        obtain ⟨h_33, e_34, k⟩ := k
        refine wq_sI dX11_matter_94 e_34 ?_
        refine wp_aload_n dX11_matter_95 rfl ?_
        refine wp_iload_n dX11_matter_96 rfl ?_
        replace k := ok_bind k
        obtain ⟨u, e_35, k⟩ := k
        refine wp_callV1 (N := M_X11_lasting) (ci := 11) mf_X11_lasting mi_X11_lasting me_X11_lasting ml_X11_176 dX11_matter_97 (ckO_e e_35) mv_X11_lasting (by exact Nat.le_of_ble_eq_true rfl) (c_X11_lasting (Nat.le_trans (by decide) he) (ok_mono (ok_bind2 k) fun z_37 h_36 k => ?_))
        try dsimp only at k
        refine wp_iret rfl rfl dX11_matter_100 ?_
        exact (ok_some k :)
      · replace k := ok_t c_16 k
        refine wp_aload_n dX11_matter_48 rfl ?_
        refine wp_bipush dX11_matter_49 bp_m5 ?_
        replace k := ok_bind k
        obtain ⟨u, e_38, k⟩ := k
        refine wp_callV1 (N := M_X11_tell) (ci := 11) mf_X11_tell mi_X11_tell me_X11_tell ml_X11_161 dX11_matter_51 (ckO_e e_38) mv_X11_tell (by exact Nat.le_of_ble_eq_true rfl) (c_X11_tell (Nat.le_trans (by decide) he) (ok_mono (ok_bind2 k) fun z_40 h_39 k => ?_))
        try dsimp only at k
        refine wp_iret rfl rfl dX11_matter_54 ?_
        exact (ok_some k :)
    · replace k := ok_t c_11 k
      refine wp_aload_n dX11_matter_29 rfl ?_
      refine wp_iconst dX11_matter_30 ic_m1 ?_
      replace k := ok_bind k
      obtain ⟨u, e_41, k⟩ := k
      refine wp_callV1 (N := M_X11_tell) (ci := 11) mf_X11_tell mi_X11_tell me_X11_tell ml_X11_161 dX11_matter_31 (ckO_e e_41) mv_X11_tell (by exact Nat.le_of_ble_eq_true rfl) (c_X11_tell (Nat.le_trans (by decide) he) (ok_mono (ok_bind2 k) fun z_43 h_42 k => ?_))
      try dsimp only at k
      refine wp_iret rfl rfl dX11_matter_34 ?_
      exact (ok_some k :)
theorem c_X11_matter {S : SH} {d : Nat} {K : Option Value → AH → Prop} (hd : 2 ≤ d)  {r0 : Nat} {x1 : Int32} {x2 : Int32} {h : AH} (k : ok (f_X11_matter S r0 x1 x2 h) (fun w h' => K (some (.int w)) h')) : CP S M_X11_matter d 0 0 [.ref r0, .int x1, .int x2] h K := cp_of (by decide) (fun _ _ => trivial) (fun _ => Nat.le_of_ble_eq_true rfl) (s_X11_matter hd  k)
def f_X11_takesOf (S : SH) (r0 : Nat) (x1 : Int32) (h : AH) : Option (Int32 × AH) :=
  (gR S h r0 11 3).bind fun p_1 =>
  (aI S h p_1 ((72 : Int32) + x1)).bind fun v_3 =>
  (ckO S h r0 11).bind fun _ =>
  (f_X11_tells S r0 (1 : Int32) (-1 : Int32) x1 (Int32.toInt64 v_3) h).bind fun z => match z with
  | (z_7, h_6) =>
  (f_X11_bounded S z_7 (1 : Int32) (9 : Int32) h_6).bind fun z => match z with
  | (z_9, h_8) =>
  some (z_9, h_8)
set_option maxHeartbeats 8000000 in
set_option maxRecDepth 20000 in
theorem s_X11_takesOf {S : SH} {d cb sb : Nat} {Q : Option Value → AH → Prop} (hd : 5 ≤ d)  {r0 : Nat} {x1 : Int32} {h : AH} (k : ok (f_X11_takesOf S r0 x1 h) (fun w h' => Q (some (.int w)) h')) : WP S M_X11_takesOf d cb sb Q 0 [.ref r0, .int x1] [] h := by
  obtain ⟨d, rfl, he⟩ := dp (L := 4) hd
  unfold f_X11_takesOf at k
  refine wp_aload_n dX11_takesOf_0 rfl ?_
  refine wp_iconst dX11_takesOf_1 ic_1 ?_
  refine wp_iconst dX11_takesOf_2 ic_m1 ?_
  refine wp_iload_n dX11_takesOf_3 rfl ?_
  refine wp_aload_n dX11_takesOf_4 rfl ?_
  replace k := ok_bind k
  obtain ⟨p_1, e_2, k⟩ := k
  refine wq_getR fl_X11_13 (Or.inr ⟨_, rfl⟩) dX11_takesOf_5 e_2 ?_
  refine wp_bipush dX11_takesOf_8 bp_72 ?_
  refine wp_iload_n dX11_takesOf_10 rfl ?_
  refine wp_iadd dX11_takesOf_11 ?_
  replace k := ok_bind k
  obtain ⟨v_3, e_4, k⟩ := k
  refine wq_aI dX11_takesOf_12 e_4 ?_
  refine wp_i2l dX11_takesOf_13 ?_
  replace k := ok_bind k
  obtain ⟨u, e_5, k⟩ := k
  refine wp_callV4 (N := M_X11_tells) (ci := 11) mf_X11_tells mi_X11_tells me_X11_tells ml_X11_431 dX11_takesOf_14 (ckO_e e_5) mv_X11_tells (by exact Nat.le_of_ble_eq_true rfl) (c_X11_tells (Nat.le_trans (by decide) he) (ok_mono (ok_bind2 k) fun z_7 h_6 k => ?_))
  try dsimp only at k
  refine wp_iconst dX11_takesOf_17 ic_1 ?_
  refine wp_bipush dX11_takesOf_18 bp_9 ?_
  refine wp_callS3 (N := M_X11_bounded) mf_X11_bounded ms_X11_bounded ml_X11_435 dX11_takesOf_20 (by exact Nat.le_of_ble_eq_true rfl) (c_X11_bounded (Nat.le_trans (by decide) he) (ok_mono (ok_bind2 k) fun z_9 h_8 k => ?_))
  try dsimp only at k
  refine wp_iret rfl rfl dX11_takesOf_23 ?_
  exact (ok_some k :)
theorem c_X11_takesOf {S : SH} {d : Nat} {K : Option Value → AH → Prop} (hd : 5 ≤ d)  {r0 : Nat} {x1 : Int32} {h : AH} (k : ok (f_X11_takesOf S r0 x1 h) (fun w h' => K (some (.int w)) h')) : CP S M_X11_takesOf d 0 0 [.ref r0, .int x1] h K := cp_of (by decide) (fun _ _ => trivial) (fun _ => Nat.le_of_ble_eq_true rfl) (s_X11_takesOf hd  k)
def f_X11_sitting_l4b (S : SH) (rc : Nat → Int32 → Int32 → Int32 → AH → Option (Int32 × AH)) (r0 : Nat) (x1 : Int32) (x2 : Int32) (x3 : Int32) (h : AH) : Option (Int32 × AH) :=
  (gR S h r0 11 3).bind fun p_1 =>
  (aI S h p_1 (0 : Int32)).bind fun v_3 =>
  if v_3 ≤ x3 then
    some (x2, h)
  else
    (ckO S h r0 11).bind fun _ =>
    (f_X11_sits S r0 x3 x1 h).bind fun z => match z with
    | (z_8, h_7) =>
    if z_8 = (0 : Int32) then
      lt ((x2 ||| (0 : Int32))) fun y_10 =>
      lt (x3 + (1 : Int32)) fun y_11 =>
      rc r0 x1 y_10 y_11 h_7
    else
      lt ((x2 ||| ((1 : Int32) <<< (x3 &&& (31 : Int32))))) fun y_12 =>
      lt (x3 + (1 : Int32)) fun y_13 =>
      rc r0 x1 y_12 y_13 h_7
set_option maxHeartbeats 8000000 in
set_option maxRecDepth 20000 in
theorem s_X11_sitting_l4b {S : SH} {d cb sb : Nat} {Q : Option Value → AH → Prop} (hd : 6 ≤ d) {K : Int32 → AH → Prop} (hex : ∀ (x2 : Int32) (h' : AH), K x2 h' → WP S M_X11_sitting d cb sb Q 39 [JK, JK, .int x2, JK] [] h') {rc : Nat → Int32 → Int32 → Int32 → AH → Option (Int32 × AH)} (hrec : ∀ (r0 : Nat) (x1 : Int32) (x2 : Int32) (x3 : Int32) (h' : AH), ok (rc r0 x1 x2 x3 h') K → WP S M_X11_sitting d cb sb Q 4 [.ref r0, .int x1, .int x2, .int x3] [] h') {r0 : Nat} {x1 : Int32} {x2 : Int32} {x3 : Int32} {h : AH} (k : ok (f_X11_sitting_l4b S rc r0 x1 x2 x3 h) K) : WP S M_X11_sitting d cb sb Q 4 [.ref r0, .int x1, .int x2, .int x3] [] h := by
  obtain ⟨d, rfl, he⟩ := dp (L := 5) hd
  unfold f_X11_sitting_l4b at k
  refine wp_iload_n dX11_sitting_4 rfl ?_
  refine wp_aload_n dX11_sitting_5 rfl ?_
  replace k := ok_bind k
  obtain ⟨p_1, e_2, k⟩ := k
  refine wq_getR fl_X11_13 (Or.inr ⟨_, rfl⟩) dX11_sitting_6 e_2 ?_
  refine wp_iconst dX11_sitting_9 ic_0 ?_
  replace k := ok_bind k
  obtain ⟨v_3, e_4, k⟩ := k
  refine wq_aI dX11_sitting_10 e_4 ?_
  refine wp_icmp_ge 39 dX11_sitting_11 (by decide) (fun c_5 => ?_) (fun c_5 => ?_)
  · replace k := ok_t c_5 k
    exact wp_wk (wkJ <| wkJ <| wkE <| wkJ <| wkN) (hex _ _ (ok_some k))
  · replace k := ok_f c_5 k
    refine wp_iload_n dX11_sitting_14 rfl ?_
    refine wp_aload_n dX11_sitting_15 rfl ?_
    refine wp_iload_n dX11_sitting_16 rfl ?_
    refine wp_iload_n dX11_sitting_17 rfl ?_
    replace k := ok_bind k
    obtain ⟨u, e_6, k⟩ := k
    refine wp_callV2 (N := M_X11_sits) (ci := 11) mf_X11_sits mi_X11_sits me_X11_sits ml_X11_219 dX11_sitting_18 (ckO_e e_6) mv_X11_sits (by exact Nat.le_of_ble_eq_true rfl) (c_X11_sits (Nat.le_trans (by decide) he) (ok_mono (ok_bind2 k) fun z_8 h_7 k => ?_))
    try dsimp only at k
    refine wp_if_eq 30 dX11_sitting_21 (by decide) (fun c_9 => ?_) (fun c_9 => ?_)
    · replace k := ok_t c_9 k
      refine wp_iconst dX11_sitting_30 ic_0 ?_
      refine wp_ior dX11_sitting_31 ?_
      replace k := ok_lt k
      refine wp_istore_n dX11_sitting_32 (by decide) (L1 := [_, _, _, _]) rfl ?_
      replace k := ok_lt k
      refine wp_iinc dX11_sitting_33 rfl ic_1 (by decide) (L1 := [_, _, _, _]) rfl ?_
      refine wp_goto 4 dX11_sitting_36 (by decide) ?_
      exact wp_wk (wkE <| wkE <| wkE <| wkE <| wkN) (hrec _ _ _ _ _ k)
    · replace k := ok_f c_9 k
      refine wp_iconst dX11_sitting_24 ic_1 ?_
      refine wp_iload_n dX11_sitting_25 rfl ?_
      refine wp_ishl dX11_sitting_26 ?_
      refine wp_goto 31 dX11_sitting_27 (by decide) ?_
      refine wp_ior dX11_sitting_31 ?_
      replace k := ok_lt k
      refine wp_istore_n dX11_sitting_32 (by decide) (L1 := [_, _, _, _]) rfl ?_
      replace k := ok_lt k
      refine wp_iinc dX11_sitting_33 rfl ic_1 (by decide) (L1 := [_, _, _, _]) rfl ?_
      refine wp_goto 4 dX11_sitting_36 (by decide) ?_
      exact wp_wk (wkE <| wkE <| wkE <| wkE <| wkN) (hrec _ _ _ _ _ k)
def f_X11_sitting_l4 (S : SH) : Nat → Nat → Int32 → Int32 → Int32 → AH → Option (Int32 × AH)
  | 0, _, _, _, _, _ => none
  | n + 1, r0, x1, x2, x3, h => f_X11_sitting_l4b S (f_X11_sitting_l4 S n) r0 x1 x2 x3 h
theorem s_X11_sitting_l4 {S : SH} {d cb sb : Nat} {Q : Option Value → AH → Prop} (hd : 6 ≤ d) {K : Int32 → AH → Prop} (hex : ∀ (x2 : Int32) (h' : AH), K x2 h' → WP S M_X11_sitting d cb sb Q 39 [JK, JK, .int x2, JK] [] h') : ∀ (n : Nat) (r0 : Nat) (x1 : Int32) (x2 : Int32) (x3 : Int32) (h : AH), ok (f_X11_sitting_l4 S n r0 x1 x2 x3 h) K → WP S M_X11_sitting d cb sb Q 4 [.ref r0, .int x1, .int x2, .int x3] [] h := by
  intro n
  induction n with
  | zero => intro r0 x1 x2 x3 h k; exact ok_none k
  | succ n ih => intro r0 x1 x2 x3 h k; exact s_X11_sitting_l4b hd hex (fun r0 x1 x2 x3 h k => ih r0 x1 x2 x3 h k) k
def f_X11_sitting (S : SH) (r0 : Nat) (x1 : Int32) (h : AH) : Option (Int32 × AH) :=
  (f_X11_sitting_l4 S FU r0 x1 (0 : Int32) (0 : Int32) h).bind fun z => match z with
  | (x2_2, h_1) =>
  some (x2_2, h_1)
set_option maxHeartbeats 8000000 in
set_option maxRecDepth 20000 in
theorem s_X11_sitting {S : SH} {d cb sb : Nat} {Q : Option Value → AH → Prop} (hd : 6 ≤ d)  {r0 : Nat} {x1 : Int32} {h : AH} (k : ok (f_X11_sitting S r0 x1 h) (fun w h' => Q (some (.int w)) h')) : WP S M_X11_sitting d cb sb Q 0 [.ref r0, .int x1, JK, JK] [] h := by
  obtain ⟨d, rfl, he⟩ := dp (L := 5) hd
  unfold f_X11_sitting at k
  refine wp_iconst dX11_sitting_0 ic_0 ?_
  refine wp_istore_n dX11_sitting_1 (by decide) (L1 := [_, _, _, _]) rfl ?_
  refine wp_iconst dX11_sitting_2 ic_0 ?_
  refine wp_istore_n dX11_sitting_3 (by decide) (L1 := [_, _, _, _]) rfl ?_
  refine wp_wk (wkE <| wkE <| wkE <| wkE <| wkN) ?_
  refine s_X11_sitting_l4 (Nat.succ_le_succ he) (fun x2_2 h_1 k => ?_) FU _ _ _ _ _ (ok_bind2 k)
  try dsimp only at k
  refine wp_iload_n dX11_sitting_39 rfl ?_
  refine wp_iret rfl rfl dX11_sitting_40 ?_
  exact (ok_some k :)
theorem c_X11_sitting {S : SH} {d : Nat} {K : Option Value → AH → Prop} (hd : 6 ≤ d)  {r0 : Nat} {x1 : Int32} {h : AH} (k : ok (f_X11_sitting S r0 x1 h) (fun w h' => K (some (.int w)) h')) : CP S M_X11_sitting d 0 0 [.ref r0, .int x1] h K := cp_of (by decide) (fun _ _ => trivial) (fun _ => Nat.le_of_ble_eq_true rfl) (s_X11_sitting hd  k)
def f_X11_ayes_l4b (S : SH) (rc : Nat → Int32 → Int32 → Int32 → AH → Option (Int32 × AH)) (r0 : Nat) (x1 : Int32) (x2 : Int32) (x3 : Int32) (h : AH) : Option (Int32 × AH) :=
  (gR S h r0 11 3).bind fun p_1 =>
  (aI S h p_1 (0 : Int32)).bind fun v_3 =>
  if v_3 ≤ x3 then
    some (x2, h)
  else
    (ckO S h r0 11).bind fun _ =>
    (f_X11_isAye S r0 x3 x1 h).bind fun z => match z with
    | (z_8, h_7) =>
    if z_8 = (0 : Int32) then
      lt ((x2 ||| (0 : Int32))) fun y_10 =>
      lt (x3 + (1 : Int32)) fun y_11 =>
      rc r0 x1 y_10 y_11 h_7
    else
      lt ((x2 ||| ((1 : Int32) <<< (x3 &&& (31 : Int32))))) fun y_12 =>
      lt (x3 + (1 : Int32)) fun y_13 =>
      rc r0 x1 y_12 y_13 h_7
set_option maxHeartbeats 8000000 in
set_option maxRecDepth 20000 in
theorem s_X11_ayes_l4b {S : SH} {d cb sb : Nat} {Q : Option Value → AH → Prop} (hd : 7 ≤ d) {K : Int32 → AH → Prop} (hex : ∀ (x2 : Int32) (h' : AH), K x2 h' → WP S M_X11_ayes d cb sb Q 39 [JK, JK, .int x2, JK] [] h') {rc : Nat → Int32 → Int32 → Int32 → AH → Option (Int32 × AH)} (hrec : ∀ (r0 : Nat) (x1 : Int32) (x2 : Int32) (x3 : Int32) (h' : AH), ok (rc r0 x1 x2 x3 h') K → WP S M_X11_ayes d cb sb Q 4 [.ref r0, .int x1, .int x2, .int x3] [] h') {r0 : Nat} {x1 : Int32} {x2 : Int32} {x3 : Int32} {h : AH} (k : ok (f_X11_ayes_l4b S rc r0 x1 x2 x3 h) K) : WP S M_X11_ayes d cb sb Q 4 [.ref r0, .int x1, .int x2, .int x3] [] h := by
  obtain ⟨d, rfl, he⟩ := dp (L := 6) hd
  unfold f_X11_ayes_l4b at k
  refine wp_iload_n dX11_ayes_4 rfl ?_
  refine wp_aload_n dX11_ayes_5 rfl ?_
  replace k := ok_bind k
  obtain ⟨p_1, e_2, k⟩ := k
  refine wq_getR fl_X11_13 (Or.inr ⟨_, rfl⟩) dX11_ayes_6 e_2 ?_
  refine wp_iconst dX11_ayes_9 ic_0 ?_
  replace k := ok_bind k
  obtain ⟨v_3, e_4, k⟩ := k
  refine wq_aI dX11_ayes_10 e_4 ?_
  refine wp_icmp_ge 39 dX11_ayes_11 (by decide) (fun c_5 => ?_) (fun c_5 => ?_)
  · replace k := ok_t c_5 k
    exact wp_wk (wkJ <| wkJ <| wkE <| wkJ <| wkN) (hex _ _ (ok_some k))
  · replace k := ok_f c_5 k
    refine wp_iload_n dX11_ayes_14 rfl ?_
    refine wp_aload_n dX11_ayes_15 rfl ?_
    refine wp_iload_n dX11_ayes_16 rfl ?_
    refine wp_iload_n dX11_ayes_17 rfl ?_
    replace k := ok_bind k
    obtain ⟨u, e_6, k⟩ := k
    refine wp_callV2 (N := M_X11_isAye) (ci := 11) mf_X11_isAye mi_X11_isAye me_X11_isAye ml_X11_222 dX11_ayes_18 (ckO_e e_6) mv_X11_isAye (by exact Nat.le_of_ble_eq_true rfl) (c_X11_isAye (Nat.le_trans (by decide) he) (ok_mono (ok_bind2 k) fun z_8 h_7 k => ?_))
    try dsimp only at k
    refine wp_if_eq 30 dX11_ayes_21 (by decide) (fun c_9 => ?_) (fun c_9 => ?_)
    · replace k := ok_t c_9 k
      refine wp_iconst dX11_ayes_30 ic_0 ?_
      refine wp_ior dX11_ayes_31 ?_
      replace k := ok_lt k
      refine wp_istore_n dX11_ayes_32 (by decide) (L1 := [_, _, _, _]) rfl ?_
      replace k := ok_lt k
      refine wp_iinc dX11_ayes_33 rfl ic_1 (by decide) (L1 := [_, _, _, _]) rfl ?_
      refine wp_goto 4 dX11_ayes_36 (by decide) ?_
      exact wp_wk (wkE <| wkE <| wkE <| wkE <| wkN) (hrec _ _ _ _ _ k)
    · replace k := ok_f c_9 k
      refine wp_iconst dX11_ayes_24 ic_1 ?_
      refine wp_iload_n dX11_ayes_25 rfl ?_
      refine wp_ishl dX11_ayes_26 ?_
      refine wp_goto 31 dX11_ayes_27 (by decide) ?_
      refine wp_ior dX11_ayes_31 ?_
      replace k := ok_lt k
      refine wp_istore_n dX11_ayes_32 (by decide) (L1 := [_, _, _, _]) rfl ?_
      replace k := ok_lt k
      refine wp_iinc dX11_ayes_33 rfl ic_1 (by decide) (L1 := [_, _, _, _]) rfl ?_
      refine wp_goto 4 dX11_ayes_36 (by decide) ?_
      exact wp_wk (wkE <| wkE <| wkE <| wkE <| wkN) (hrec _ _ _ _ _ k)
def f_X11_ayes_l4 (S : SH) : Nat → Nat → Int32 → Int32 → Int32 → AH → Option (Int32 × AH)
  | 0, _, _, _, _, _ => none
  | n + 1, r0, x1, x2, x3, h => f_X11_ayes_l4b S (f_X11_ayes_l4 S n) r0 x1 x2 x3 h
theorem s_X11_ayes_l4 {S : SH} {d cb sb : Nat} {Q : Option Value → AH → Prop} (hd : 7 ≤ d) {K : Int32 → AH → Prop} (hex : ∀ (x2 : Int32) (h' : AH), K x2 h' → WP S M_X11_ayes d cb sb Q 39 [JK, JK, .int x2, JK] [] h') : ∀ (n : Nat) (r0 : Nat) (x1 : Int32) (x2 : Int32) (x3 : Int32) (h : AH), ok (f_X11_ayes_l4 S n r0 x1 x2 x3 h) K → WP S M_X11_ayes d cb sb Q 4 [.ref r0, .int x1, .int x2, .int x3] [] h := by
  intro n
  induction n with
  | zero => intro r0 x1 x2 x3 h k; exact ok_none k
  | succ n ih => intro r0 x1 x2 x3 h k; exact s_X11_ayes_l4b hd hex (fun r0 x1 x2 x3 h k => ih r0 x1 x2 x3 h k) k
def f_X11_ayes (S : SH) (r0 : Nat) (x1 : Int32) (h : AH) : Option (Int32 × AH) :=
  (f_X11_ayes_l4 S FU r0 x1 (0 : Int32) (0 : Int32) h).bind fun z => match z with
  | (x2_2, h_1) =>
  some (x2_2, h_1)
set_option maxHeartbeats 8000000 in
set_option maxRecDepth 20000 in
theorem s_X11_ayes {S : SH} {d cb sb : Nat} {Q : Option Value → AH → Prop} (hd : 7 ≤ d)  {r0 : Nat} {x1 : Int32} {h : AH} (k : ok (f_X11_ayes S r0 x1 h) (fun w h' => Q (some (.int w)) h')) : WP S M_X11_ayes d cb sb Q 0 [.ref r0, .int x1, JK, JK] [] h := by
  obtain ⟨d, rfl, he⟩ := dp (L := 6) hd
  unfold f_X11_ayes at k
  refine wp_iconst dX11_ayes_0 ic_0 ?_
  refine wp_istore_n dX11_ayes_1 (by decide) (L1 := [_, _, _, _]) rfl ?_
  refine wp_iconst dX11_ayes_2 ic_0 ?_
  refine wp_istore_n dX11_ayes_3 (by decide) (L1 := [_, _, _, _]) rfl ?_
  refine wp_wk (wkE <| wkE <| wkE <| wkE <| wkN) ?_
  refine s_X11_ayes_l4 (Nat.succ_le_succ he) (fun x2_2 h_1 k => ?_) FU _ _ _ _ _ (ok_bind2 k)
  try dsimp only at k
  refine wp_iload_n dX11_ayes_39 rfl ?_
  refine wp_iret rfl rfl dX11_ayes_40 ?_
  exact (ok_some k :)
theorem c_X11_ayes {S : SH} {d : Nat} {K : Option Value → AH → Prop} (hd : 7 ≤ d)  {r0 : Nat} {x1 : Int32} {h : AH} (k : ok (f_X11_ayes S r0 x1 h) (fun w h' => K (some (.int w)) h')) : CP S M_X11_ayes d 0 0 [.ref r0, .int x1] h K := cp_of (by decide) (fun _ _ => trivial) (fun _ => Nat.le_of_ble_eq_true rfl) (s_X11_ayes hd  k)
def f_X11_canDivide (S : SH) (r0 : Nat) (x1 : Int32) (h : AH) : Option (Int32 × AH) :=
  (gR S h r0 11 3).bind fun p_1 =>
  (aI S h p_1 ((17 : Int32) + x1)).bind fun v_3 =>
  if v_3 = (1 : Int32) then
    (ckO S h r0 11).bind fun _ =>
    (f_X11_sitting S r0 x1 h).bind fun z => match z with
    | (z_8, h_7) =>
    (f_X11_ones S z_8 h_7).bind fun z => match z with
    | (z_10, h_9) =>
    (gR S h_9 r0 11 3).bind fun p_11 =>
    (aI S h_9 p_11 (8 : Int32)).bind fun v_13 =>
    if z_10 < v_13 then
      some ((0 : Int32), h_9)
    else
      (gR S h_9 r0 11 3).bind fun p_16 =>
      (aI S h_9 p_16 (9 : Int32)).bind fun v_18 =>
      (ckO S h_9 r0 11).bind fun _ =>
      (f_X11_takesOf S r0 x1 h_9).bind fun z => match z with
      | (z_22, h_21) =>
      if (48 : Int32) < (v_18 + z_22) then
        some ((0 : Int32), h_21)
      else
        some ((1 : Int32), h_21)
  else
    some ((0 : Int32), h)
set_option maxHeartbeats 8000000 in
set_option maxRecDepth 20000 in
theorem s_X11_canDivide {S : SH} {d cb sb : Nat} {Q : Option Value → AH → Prop} (hd : 7 ≤ d)  {r0 : Nat} {x1 : Int32} {h : AH} (k : ok (f_X11_canDivide S r0 x1 h) (fun w h' => Q (some (.int w)) h')) : WP S M_X11_canDivide d cb sb Q 0 [.ref r0, .int x1] [] h := by
  obtain ⟨d, rfl, he⟩ := dp (L := 6) hd
  unfold f_X11_canDivide at k
  refine wp_aload_n dX11_canDivide_0 rfl ?_
  replace k := ok_bind k
  obtain ⟨p_1, e_2, k⟩ := k
  refine wq_getR fl_X11_13 (Or.inr ⟨_, rfl⟩) dX11_canDivide_1 e_2 ?_
  refine wp_bipush dX11_canDivide_4 bp_17 ?_
  refine wp_iload_n dX11_canDivide_6 rfl ?_
  refine wp_iadd dX11_canDivide_7 ?_
  replace k := ok_bind k
  obtain ⟨v_3, e_4, k⟩ := k
  refine wq_aI dX11_canDivide_8 e_4 ?_
  refine wp_iconst dX11_canDivide_9 ic_1 ?_
  refine wp_icmp_ne 53 dX11_canDivide_10 (by decide) (fun c_5 => ?_) (fun c_5 => ?_)
  · replace k := ok_f c_5 k
    refine wp_iconst dX11_canDivide_53 ic_0 ?_
    refine wp_iret rfl rfl dX11_canDivide_54 ?_
    exact (ok_some k :)
  · replace k := ok_t c_5 k
    refine wp_aload_n dX11_canDivide_13 rfl ?_
    refine wp_iload_n dX11_canDivide_14 rfl ?_
    replace k := ok_bind k
    obtain ⟨u, e_6, k⟩ := k
    refine wp_callV1 (N := M_X11_sitting) (ci := 11) mf_X11_sitting mi_X11_sitting me_X11_sitting ml_X11_228 dX11_canDivide_15 (ckO_e e_6) mv_X11_sitting (by exact Nat.le_of_ble_eq_true rfl) (c_X11_sitting (Nat.le_trans (by decide) he) (ok_mono (ok_bind2 k) fun z_8 h_7 k => ?_))
    try dsimp only at k
    refine wp_callS1 (N := M_X11_ones) mf_X11_ones ms_X11_ones ml_X11_439 dX11_canDivide_18 (by exact Nat.le_of_ble_eq_true rfl) (c_X11_ones (Nat.le_trans (by decide) he) (ok_mono (ok_bind2 k) fun z_10 h_9 k => ?_))
    try dsimp only at k
    refine wp_aload_n dX11_canDivide_21 rfl ?_
    replace k := ok_bind k
    obtain ⟨p_11, e_12, k⟩ := k
    refine wq_getR fl_X11_13 (Or.inr ⟨_, rfl⟩) dX11_canDivide_22 e_12 ?_
    refine wp_bipush dX11_canDivide_25 bp_8 ?_
    replace k := ok_bind k
    obtain ⟨v_13, e_14, k⟩ := k
    refine wq_aI dX11_canDivide_27 e_14 ?_
    refine wp_icmp_lt 53 dX11_canDivide_28 (by decide) (fun c_15 => ?_) (fun c_15 => ?_)
    · replace k := ok_t c_15 k
      refine wp_iconst dX11_canDivide_53 ic_0 ?_
      refine wp_iret rfl rfl dX11_canDivide_54 ?_
      exact (ok_some k :)
    · replace k := ok_f c_15 k
      refine wp_aload_n dX11_canDivide_31 rfl ?_
      replace k := ok_bind k
      obtain ⟨p_16, e_17, k⟩ := k
      refine wq_getR fl_X11_13 (Or.inr ⟨_, rfl⟩) dX11_canDivide_32 e_17 ?_
      refine wp_bipush dX11_canDivide_35 bp_9 ?_
      replace k := ok_bind k
      obtain ⟨v_18, e_19, k⟩ := k
      refine wq_aI dX11_canDivide_37 e_19 ?_
      refine wp_aload_n dX11_canDivide_38 rfl ?_
      refine wp_iload_n dX11_canDivide_39 rfl ?_
      replace k := ok_bind k
      obtain ⟨u, e_20, k⟩ := k
      refine wp_callV1 (N := M_X11_takesOf) (ci := 11) mf_X11_takesOf mi_X11_takesOf me_X11_takesOf ml_X11_225 dX11_canDivide_40 (ckO_e e_20) mv_X11_takesOf (by exact Nat.le_of_ble_eq_true rfl) (c_X11_takesOf (Nat.le_trans (by decide) he) (ok_mono (ok_bind2 k) fun z_22 h_21 k => ?_))
      try dsimp only at k
      refine wp_iadd dX11_canDivide_43 ?_
      refine wp_bipush dX11_canDivide_44 bp_48 ?_
      refine wp_icmp_gt 53 dX11_canDivide_46 (by decide) (fun c_23 => ?_) (fun c_23 => ?_)
      · replace k := ok_t c_23 k
        refine wp_iconst dX11_canDivide_53 ic_0 ?_
        refine wp_iret rfl rfl dX11_canDivide_54 ?_
        exact (ok_some k :)
      · replace k := ok_f c_23 k
        refine wp_iconst dX11_canDivide_49 ic_1 ?_
        refine wp_goto 54 dX11_canDivide_50 (by decide) ?_
        refine wp_iret rfl rfl dX11_canDivide_54 ?_
        exact (ok_some k :)
theorem c_X11_canDivide {S : SH} {d : Nat} {K : Option Value → AH → Prop} (hd : 7 ≤ d)  {r0 : Nat} {x1 : Int32} {h : AH} (k : ok (f_X11_canDivide S r0 x1 h) (fun w h' => K (some (.int w)) h')) : CP S M_X11_canDivide d 0 0 [.ref r0, .int x1] h K := cp_of (by decide) (fun _ _ => trivial) (fun _ => Nat.le_of_ble_eq_true rfl) (s_X11_canDivide hd  k)
def f_X11_at (S : SH) (r0 : Nat) (x1 : Int32) (x2 : Int32) (h : AH) : Option (Int32 × AH) :=
  (pI S h r0 11 0 (0 : Int32)).bind fun h_1 =>
  (ckO S h_1 r0 11).bind fun _ =>
  (f_X11_isMatter S r0 x1 h_1).bind fun z => match z with
  | (z_5, h_4) =>
  if z_5 = (0 : Int32) then
    some ((-1 : Int32), h_4)
  else
    if x2 = (0 : Int32) then
      (gR S h_4 r0 11 3).bind fun p_8 =>
      (aI S h_4 p_8 ((72 : Int32) + x1)).bind fun v_10 =>
      some (v_10, h_4)
    else
    if x2 = (1 : Int32) then
      (gR S h_4 r0 11 3).bind fun p_13 =>
      (aI S h_4 p_13 ((78 : Int32) + x1)).bind fun v_15 =>
      some (v_15, h_4)
    else
    if x2 = (2 : Int32) then
      (gR S h_4 r0 11 3).bind fun p_18 =>
      (aI S h_4 p_18 ((17 : Int32) + x1)).bind fun v_20 =>
      some (v_20, h_4)
    else
    if x2 = (3 : Int32) then
      (ckO S h_4 r0 11).bind fun _ =>
      (f_X11_takesOf S r0 x1 h_4).bind fun z => match z with
      | (z_25, h_24) =>
      some (z_25, h_24)
    else
    if x2 = (4 : Int32) then
      (ckO S h_4 r0 11).bind fun _ =>
      (f_X11_sitting S r0 x1 h_4).bind fun z => match z with
      | (z_29, h_28) =>
      some (z_29, h_28)
    else
    if x2 = (5 : Int32) then
      (ckO S h_4 r0 11).bind fun _ =>
      (f_X11_ayes S r0 x1 h_4).bind fun z => match z with
      | (z_33, h_32) =>
      some (z_33, h_32)
    else
    if x2 = (6 : Int32) then
      (ckO S h_4 r0 11).bind fun _ =>
      (f_X11_canDivide S r0 x1 h_4).bind fun z => match z with
      | (z_37, h_36) =>
      if z_37 = (0 : Int32) then
        some ((0 : Int32), h_36)
      else
        some ((1 : Int32), h_36)
    else
    some ((-1 : Int32), h_4)
set_option maxHeartbeats 8000000 in
set_option maxRecDepth 20000 in
theorem s_X11_at {S : SH} {d cb sb : Nat} {Q : Option Value → AH → Prop} (hd : 8 ≤ d)  {r0 : Nat} {x1 : Int32} {x2 : Int32} {h : AH} (k : ok (f_X11_at S r0 x1 x2 h) (fun w h' => Q (some (.int w)) h')) : WP S M_X11_at d cb sb Q 0 [.ref r0, .int x1, .int x2] [] h := by
  obtain ⟨d, rfl, he⟩ := dp (L := 7) hd
  unfold f_X11_at at k
  refine wp_aload_n dX11_at_0 rfl ?_
  refine wp_iconst dX11_at_1 ic_0 ?_
  replace k := ok_bind k
  obtain ⟨h_1, e_2, k⟩ := k
  refine wq_putI fl_X11_152 rfl rfl dX11_at_2 e_2 ?_
  refine wp_aload_n dX11_at_5 rfl ?_
  refine wp_iload_n dX11_at_6 rfl ?_
  replace k := ok_bind k
  obtain ⟨u, e_3, k⟩ := k
  refine wp_callV1 (N := M_X11_isMatter) (ci := 11) mf_X11_isMatter mi_X11_isMatter me_X11_isMatter ml_X11_213 dX11_at_7 (ckO_e e_3) mv_X11_isMatter (by exact Nat.le_of_ble_eq_true rfl) (c_X11_isMatter (Nat.le_trans (by decide) he) (ok_mono (ok_bind2 k) fun z_5 h_4 k => ?_))
  try dsimp only at k
  refine wp_if_ne 15 dX11_at_10 (by decide) (fun c_6 => ?_) (fun c_6 => ?_)
  · replace k := ok_f c_6 k
    refine wp_iload_n dX11_at_15 rfl ?_
    refine wp_case (0 : Int32) (fun c_7 => ?_) (fun c_7 => ?_)
    · refine wp_tabIn 60 dX11_at_16 (by rw [c_7]; decide) (by rw [c_7]; decide) (by rw [c_7]; rfl) (by decide) ?_
      replace k := ok_t c_7 k
      refine wp_aload_n dX11_at_60 rfl ?_
      replace k := ok_bind k
      obtain ⟨p_8, e_9, k⟩ := k
      refine wq_getR fl_X11_13 (Or.inr ⟨_, rfl⟩) dX11_at_61 e_9 ?_
      refine wp_bipush dX11_at_64 bp_72 ?_
      refine wp_iload_n dX11_at_66 rfl ?_
      refine wp_iadd dX11_at_67 ?_
      replace k := ok_bind k
      obtain ⟨v_10, e_11, k⟩ := k
      refine wq_aI dX11_at_68 e_11 ?_
      refine wp_iret rfl rfl dX11_at_69 ?_
      exact (ok_some k :)
    replace k := ok_f c_7 k
    refine wp_case (1 : Int32) (fun c_12 => ?_) (fun c_12 => ?_)
    · refine wp_tabIn 70 dX11_at_16 (by rw [c_12]; decide) (by rw [c_12]; decide) (by rw [c_12]; rfl) (by decide) ?_
      replace k := ok_t c_12 k
      refine wp_aload_n dX11_at_70 rfl ?_
      replace k := ok_bind k
      obtain ⟨p_13, e_14, k⟩ := k
      refine wq_getR fl_X11_13 (Or.inr ⟨_, rfl⟩) dX11_at_71 e_14 ?_
      refine wp_bipush dX11_at_74 bp_78 ?_
      refine wp_iload_n dX11_at_76 rfl ?_
      refine wp_iadd dX11_at_77 ?_
      replace k := ok_bind k
      obtain ⟨v_15, e_16, k⟩ := k
      refine wq_aI dX11_at_78 e_16 ?_
      refine wp_iret rfl rfl dX11_at_79 ?_
      exact (ok_some k :)
    replace k := ok_f c_12 k
    refine wp_case (2 : Int32) (fun c_17 => ?_) (fun c_17 => ?_)
    · refine wp_tabIn 80 dX11_at_16 (by rw [c_17]; decide) (by rw [c_17]; decide) (by rw [c_17]; rfl) (by decide) ?_
      replace k := ok_t c_17 k
      refine wp_aload_n dX11_at_80 rfl ?_
      replace k := ok_bind k
      obtain ⟨p_18, e_19, k⟩ := k
      refine wq_getR fl_X11_13 (Or.inr ⟨_, rfl⟩) dX11_at_81 e_19 ?_
      refine wp_bipush dX11_at_84 bp_17 ?_
      refine wp_iload_n dX11_at_86 rfl ?_
      refine wp_iadd dX11_at_87 ?_
      replace k := ok_bind k
      obtain ⟨v_20, e_21, k⟩ := k
      refine wq_aI dX11_at_88 e_21 ?_
      refine wp_iret rfl rfl dX11_at_89 ?_
      exact (ok_some k :)
    replace k := ok_f c_17 k
    refine wp_case (3 : Int32) (fun c_22 => ?_) (fun c_22 => ?_)
    · refine wp_tabIn 90 dX11_at_16 (by rw [c_22]; decide) (by rw [c_22]; decide) (by rw [c_22]; rfl) (by decide) ?_
      replace k := ok_t c_22 k
      refine wp_aload_n dX11_at_90 rfl ?_
      refine wp_iload_n dX11_at_91 rfl ?_
      replace k := ok_bind k
      obtain ⟨u, e_23, k⟩ := k
      refine wp_callV1 (N := M_X11_takesOf) (ci := 11) mf_X11_takesOf mi_X11_takesOf me_X11_takesOf ml_X11_225 dX11_at_92 (ckO_e e_23) mv_X11_takesOf (by exact Nat.le_of_ble_eq_true rfl) (c_X11_takesOf (Nat.le_trans (by decide) he) (ok_mono (ok_bind2 k) fun z_25 h_24 k => ?_))
      try dsimp only at k
      refine wp_iret rfl rfl dX11_at_95 ?_
      exact (ok_some k :)
    replace k := ok_f c_22 k
    refine wp_case (4 : Int32) (fun c_26 => ?_) (fun c_26 => ?_)
    · refine wp_tabIn 96 dX11_at_16 (by rw [c_26]; decide) (by rw [c_26]; decide) (by rw [c_26]; rfl) (by decide) ?_
      replace k := ok_t c_26 k
      refine wp_aload_n dX11_at_96 rfl ?_
      refine wp_iload_n dX11_at_97 rfl ?_
      replace k := ok_bind k
      obtain ⟨u, e_27, k⟩ := k
      refine wp_callV1 (N := M_X11_sitting) (ci := 11) mf_X11_sitting mi_X11_sitting me_X11_sitting ml_X11_228 dX11_at_98 (ckO_e e_27) mv_X11_sitting (by exact Nat.le_of_ble_eq_true rfl) (c_X11_sitting (Nat.le_trans (by decide) he) (ok_mono (ok_bind2 k) fun z_29 h_28 k => ?_))
      try dsimp only at k
      refine wp_iret rfl rfl dX11_at_101 ?_
      exact (ok_some k :)
    replace k := ok_f c_26 k
    refine wp_case (5 : Int32) (fun c_30 => ?_) (fun c_30 => ?_)
    · refine wp_tabIn 102 dX11_at_16 (by rw [c_30]; decide) (by rw [c_30]; decide) (by rw [c_30]; rfl) (by decide) ?_
      replace k := ok_t c_30 k
      refine wp_aload_n dX11_at_102 rfl ?_
      refine wp_iload_n dX11_at_103 rfl ?_
      replace k := ok_bind k
      obtain ⟨u, e_31, k⟩ := k
      refine wp_callV1 (N := M_X11_ayes) (ci := 11) mf_X11_ayes mi_X11_ayes me_X11_ayes ml_X11_231 dX11_at_104 (ckO_e e_31) mv_X11_ayes (by exact Nat.le_of_ble_eq_true rfl) (c_X11_ayes (Nat.le_trans (by decide) he) (ok_mono (ok_bind2 k) fun z_33 h_32 k => ?_))
      try dsimp only at k
      refine wp_iret rfl rfl dX11_at_107 ?_
      exact (ok_some k :)
    replace k := ok_f c_30 k
    refine wp_case (6 : Int32) (fun c_34 => ?_) (fun c_34 => ?_)
    · refine wp_tabIn 108 dX11_at_16 (by rw [c_34]; decide) (by rw [c_34]; decide) (by rw [c_34]; rfl) (by decide) ?_
      replace k := ok_t c_34 k
      refine wp_aload_n dX11_at_108 rfl ?_
      refine wp_iload_n dX11_at_109 rfl ?_
      replace k := ok_bind k
      obtain ⟨u, e_35, k⟩ := k
      refine wp_callV1 (N := M_X11_canDivide) (ci := 11) mf_X11_canDivide mi_X11_canDivide me_X11_canDivide ml_X11_234 dX11_at_110 (ckO_e e_35) mv_X11_canDivide (by exact Nat.le_of_ble_eq_true rfl) (c_X11_canDivide (Nat.le_trans (by decide) he) (ok_mono (ok_bind2 k) fun z_37 h_36 k => ?_))
      try dsimp only at k
      refine wp_if_eq 120 dX11_at_113 (by decide) (fun c_38 => ?_) (fun c_38 => ?_)
      · replace k := ok_t c_38 k
        refine wp_iconst dX11_at_120 ic_0 ?_
        refine wp_iret rfl rfl dX11_at_121 ?_
        exact (ok_some k :)
      · replace k := ok_f c_38 k
        refine wp_iconst dX11_at_116 ic_1 ?_
        refine wp_goto 121 dX11_at_117 (by decide) ?_
        refine wp_iret rfl rfl dX11_at_121 ?_
        exact (ok_some k :)
    replace k := ok_f c_34 k
    refine wp_tabOut 122 dX11_at_16 (tab_out (n := 7) (fun i hi => ?_)) (by decide) ?_
    · match i, hi with
      | 0, _ => exact ti_ne c_7 (by decide)
      | 1, _ => exact ti_ne c_12 (by decide)
      | 2, _ => exact ti_ne c_17 (by decide)
      | 3, _ => exact ti_ne c_22 (by decide)
      | 4, _ => exact ti_ne c_26 (by decide)
      | 5, _ => exact ti_ne c_30 (by decide)
      | 6, _ => exact ti_ne c_34 (by decide)
      | i + 7, hi => exact absurd hi (by omega)
    refine wp_iconst dX11_at_122 ic_m1 ?_
    refine wp_iret rfl rfl dX11_at_123 ?_
    exact (ok_some k :)
  · replace k := ok_t c_6 k
    refine wp_iconst dX11_at_13 ic_m1 ?_
    refine wp_iret rfl rfl dX11_at_14 ?_
    exact (ok_some k :)
theorem c_X11_at {S : SH} {d : Nat} {K : Option Value → AH → Prop} (hd : 8 ≤ d)  {r0 : Nat} {x1 : Int32} {x2 : Int32} {h : AH} (k : ok (f_X11_at S r0 x1 x2 h) (fun w h' => K (some (.int w)) h')) : CP S M_X11_at d 0 0 [.ref r0, .int x1, .int x2] h K := cp_of (by decide) (fun _ _ => trivial) (fun _ => Nat.le_of_ble_eq_true rfl) (s_X11_at hd  k)
def f_X11_terms_j77 (S : SH) (r0 : Nat) (x1 : Int32) (x2 : Int32) (sx0 : Int32) (h : AH) : Option (Int32 × AH) :=
  if sx0 = (0 : Int32) then
    (ckO S h r0 11).bind fun _ =>
    (f_X11_tell S r0 (-1 : Int32) h).bind fun z => match z with
    | (z_9, h_8) =>
    some (z_9, h_8)
  else
    (pI S h r0 11 8 (0 : Int32)).bind fun h_2 =>
    (ckO S h_2 r0 11).bind fun _ =>
    (f_X11_change S r0 (((5 : Int32) + x1)) x2 h_2).bind fun z => match z with
    | (z_6, h_5) =>
    some (z_6, h_5)
set_option maxHeartbeats 8000000 in
set_option maxRecDepth 20000 in
theorem s_X11_terms_j77 {S : SH} {d cb sb : Nat} {Q : Option Value → AH → Prop} (hd : 1 ≤ d)  {r0 : Nat} {x1 : Int32} {x2 : Int32} {sx0 : Int32} {h : AH} (k : ok (f_X11_terms_j77 S r0 x1 x2 sx0 h) (fun w h' => Q (some (.int w)) h')) : WP S M_X11_terms d cb sb Q 77 [.ref r0, .int x1, .int x2, JK] [.int sx0] h := by
  obtain ⟨d, rfl, he⟩ := dp (L := 0) hd
  unfold f_X11_terms_j77 at k
  refine wp_istore_n dX11_terms_77 (by decide) (L1 := [_, _, _, _]) rfl ?_
  refine wp_iload_n dX11_terms_78 rfl ?_
  refine wp_if_ne 88 dX11_terms_79 (by decide) (fun c_1 => ?_) (fun c_1 => ?_)
  · replace k := ok_f c_1 k
    refine wp_aload_n dX11_terms_88 rfl ?_
    refine wp_iconst dX11_terms_89 ic_0 ?_
    replace k := ok_bind k
    obtain ⟨h_2, e_3, k⟩ := k
    refine wq_putI fl_X11_158 rfl rfl dX11_terms_90 e_3 ?_
    refine wp_aload_n dX11_terms_93 rfl ?_
    refine wp_iconst dX11_terms_94 ic_5 ?_
    refine wp_iload_n dX11_terms_95 rfl ?_
    refine wp_iadd dX11_terms_96 ?_
    refine wp_iload_n dX11_terms_97 rfl ?_
    replace k := ok_bind k
    obtain ⟨u, e_4, k⟩ := k
    refine wp_callV2 (N := M_X11_change) (ci := 11) mf_X11_change mi_X11_change me_X11_change ml_X11_201 dX11_terms_98 (ckO_e e_4) mv_X11_change (by exact Nat.le_of_ble_eq_true rfl) (c_X11_change (Nat.le_trans (by decide) he) (ok_mono (ok_bind2 k) fun z_6 h_5 k => ?_))
    try dsimp only at k
    refine wp_iret rfl rfl dX11_terms_101 ?_
    exact (ok_some k :)
  · replace k := ok_t c_1 k
    refine wp_aload_n dX11_terms_82 rfl ?_
    refine wp_iconst dX11_terms_83 ic_m1 ?_
    replace k := ok_bind k
    obtain ⟨u, e_7, k⟩ := k
    refine wp_callV1 (N := M_X11_tell) (ci := 11) mf_X11_tell mi_X11_tell me_X11_tell ml_X11_161 dX11_terms_84 (ckO_e e_7) mv_X11_tell (by exact Nat.le_of_ble_eq_true rfl) (c_X11_tell (Nat.le_trans (by decide) he) (ok_mono (ok_bind2 k) fun z_9 h_8 k => ?_))
    try dsimp only at k
    refine wp_iret rfl rfl dX11_terms_87 ?_
    exact (ok_some k :)
def f_X11_terms_j76 (S : SH) (r0 : Nat) (x1 : Int32) (x2 : Int32) (h : AH) : Option (Int32 × AH) :=
  f_X11_terms_j77 S r0 x1 x2 (0 : Int32) h
set_option maxHeartbeats 8000000 in
set_option maxRecDepth 20000 in
theorem s_X11_terms_j76 {S : SH} {d cb sb : Nat} {Q : Option Value → AH → Prop} (hd : 1 ≤ d)  {r0 : Nat} {x1 : Int32} {x2 : Int32} {h : AH} (k : ok (f_X11_terms_j76 S r0 x1 x2 h) (fun w h' => Q (some (.int w)) h')) : WP S M_X11_terms d cb sb Q 76 [.ref r0, .int x1, .int x2, JK] [] h := by
  obtain ⟨d, rfl, he⟩ := dp (L := 0) hd
  unfold f_X11_terms_j76 at k
  refine wp_iconst dX11_terms_76 ic_0 ?_
  exact wp_wk (wkE <| wkE <| wkE <| wkJ <| wkN) (s_X11_terms_j77 (Nat.succ_le_succ he)  k)
def f_X11_terms (S : SH) (r0 : Nat) (x1 : Int32) (x2 : Int32) (h : AH) : Option (Int32 × AH) :=
  (pI S h r0 11 0 (0 : Int32)).bind fun h_1 =>
  if x1 = (0 : Int32) then
    (f_X11_in S (Int32.toInt64 x2) (0 : Int64) (999 : Int64) h_1).bind fun z => match z with
    | (z_15, h_14) =>
    f_X11_terms_j77 S r0 x1 x2 z_15 h_14
  else
    if x1 = (1 : Int32) then
      (f_X11_in S (Int32.toInt64 x2) (0 : Int64) (10 : Int64) h_1).bind fun z => match z with
      | (z_13, h_12) =>
      f_X11_terms_j77 S r0 x1 x2 z_13 h_12
    else
      if x1 = (2 : Int32) then
        (f_X11_in S (Int32.toInt64 x2) (0 : Int64) (9 : Int64) h_1).bind fun z => match z with
        | (z_11, h_10) =>
        f_X11_terms_j77 S r0 x1 x2 z_11 h_10
      else
        if x1 = (3 : Int32) then
          (f_X11_in S (Int32.toInt64 x2) (0 : Int64) (7 : Int64) h_1).bind fun z => match z with
          | (z_8, h_7) =>
          if z_8 = (0 : Int32) then
            f_X11_terms_j76 S r0 x1 x2 h_7
          else
            f_X11_terms_j77 S r0 x1 x2 (1 : Int32) h_7
        else
          f_X11_terms_j76 S r0 x1 x2 h_1
set_option maxHeartbeats 8000000 in
set_option maxRecDepth 20000 in
theorem s_X11_terms {S : SH} {d cb sb : Nat} {Q : Option Value → AH → Prop} (hd : 1 ≤ d)  {r0 : Nat} {x1 : Int32} {x2 : Int32} {h : AH} (k : ok (f_X11_terms S r0 x1 x2 h) (fun w h' => Q (some (.int w)) h')) : WP S M_X11_terms d cb sb Q 0 [.ref r0, .int x1, .int x2, JK] [] h := by
  obtain ⟨d, rfl, he⟩ := dp (L := 0) hd
  unfold f_X11_terms at k
  refine wp_aload_n dX11_terms_0 rfl ?_
  refine wp_iconst dX11_terms_1 ic_0 ?_
  replace k := ok_bind k
  obtain ⟨h_1, e_2, k⟩ := k
  refine wq_putI fl_X11_152 rfl rfl dX11_terms_2 e_2 ?_
  refine wp_iload_n dX11_terms_5 rfl ?_
  refine wp_if_ne 21 dX11_terms_6 (by decide) (fun c_3 => ?_) (fun c_3 => ?_)
  · replace k := ok_f c_3 k
    refine wp_iload_n dX11_terms_21 rfl ?_
    refine wp_iconst dX11_terms_22 ic_1 ?_
    refine wp_icmp_ne 38 dX11_terms_23 (by decide) (fun c_4 => ?_) (fun c_4 => ?_)
    · replace k := ok_f c_4 k
      refine wp_iload_n dX11_terms_38 rfl ?_
      refine wp_iconst dX11_terms_39 ic_2 ?_
      refine wp_icmp_ne 55 dX11_terms_40 (by decide) (fun c_5 => ?_) (fun c_5 => ?_)
      · replace k := ok_f c_5 k
        refine wp_iload_n dX11_terms_55 rfl ?_
        refine wp_iconst dX11_terms_56 ic_3 ?_
        refine wp_icmp_ne 76 dX11_terms_57 (by decide) (fun c_6 => ?_) (fun c_6 => ?_)
        · replace k := ok_f c_6 k
          exact wp_wk (wkE <| wkE <| wkE <| wkJ <| wkN) (s_X11_terms_j76 (Nat.succ_le_succ he)  k)
        · replace k := ok_t c_6 k
          refine wp_iload_n dX11_terms_60 rfl ?_
          refine wp_i2l dX11_terms_61 ?_
          refine wp_lconst dX11_terms_62 lc_0 ?_
          refine wp_ldc2 ct_X11_241 dX11_terms_63 ?_
          refine wp_callS3 (N := M_X11_in) mf_X11_in ms_X11_in ml_X11_172 dX11_terms_66 (by exact Nat.le_of_ble_eq_true rfl) (c_X11_in (Nat.le_trans (by decide) he) (ok_mono (ok_bind2 k) fun z_8 h_7 k => ?_))
          try dsimp only at k
          refine wp_if_eq 76 dX11_terms_69 (by decide) (fun c_9 => ?_) (fun c_9 => ?_)
          · replace k := ok_t c_9 k
            exact wp_wk (wkE <| wkE <| wkE <| wkJ <| wkN) (s_X11_terms_j76 (Nat.succ_le_succ he)  k)
          · replace k := ok_f c_9 k
            refine wp_iconst dX11_terms_72 ic_1 ?_
            refine wp_goto 77 dX11_terms_73 (by decide) ?_
            exact wp_wk (wkE <| wkE <| wkE <| wkJ <| wkN) (s_X11_terms_j77 (Nat.succ_le_succ he)  k)
      · replace k := ok_t c_5 k
        refine wp_iload_n dX11_terms_43 rfl ?_
        refine wp_i2l dX11_terms_44 ?_
        refine wp_lconst dX11_terms_45 lc_0 ?_
        refine wp_ldc2 ct_X11_190 dX11_terms_46 ?_
        refine wp_callS3 (N := M_X11_in) mf_X11_in ms_X11_in ml_X11_172 dX11_terms_49 (by exact Nat.le_of_ble_eq_true rfl) (c_X11_in (Nat.le_trans (by decide) he) (ok_mono (ok_bind2 k) fun z_11 h_10 k => ?_))
        try dsimp only at k
        refine wp_goto 77 dX11_terms_52 (by decide) ?_
        exact wp_wk (wkE <| wkE <| wkE <| wkJ <| wkN) (s_X11_terms_j77 (Nat.succ_le_succ he)  k)
    · replace k := ok_t c_4 k
      refine wp_iload_n dX11_terms_26 rfl ?_
      refine wp_i2l dX11_terms_27 ?_
      refine wp_lconst dX11_terms_28 lc_0 ?_
      refine wp_ldc2 ct_X11_239 dX11_terms_29 ?_
      refine wp_callS3 (N := M_X11_in) mf_X11_in ms_X11_in ml_X11_172 dX11_terms_32 (by exact Nat.le_of_ble_eq_true rfl) (c_X11_in (Nat.le_trans (by decide) he) (ok_mono (ok_bind2 k) fun z_13 h_12 k => ?_))
      try dsimp only at k
      refine wp_goto 77 dX11_terms_35 (by decide) ?_
      exact wp_wk (wkE <| wkE <| wkE <| wkJ <| wkN) (s_X11_terms_j77 (Nat.succ_le_succ he)  k)
  · replace k := ok_t c_3 k
    refine wp_iload_n dX11_terms_9 rfl ?_
    refine wp_i2l dX11_terms_10 ?_
    refine wp_lconst dX11_terms_11 lc_0 ?_
    refine wp_ldc2 ct_X11_237 dX11_terms_12 ?_
    refine wp_callS3 (N := M_X11_in) mf_X11_in ms_X11_in ml_X11_172 dX11_terms_15 (by exact Nat.le_of_ble_eq_true rfl) (c_X11_in (Nat.le_trans (by decide) he) (ok_mono (ok_bind2 k) fun z_15 h_14 k => ?_))
    try dsimp only at k
    refine wp_goto 77 dX11_terms_18 (by decide) ?_
    exact wp_wk (wkE <| wkE <| wkE <| wkJ <| wkN) (s_X11_terms_j77 (Nat.succ_le_succ he)  k)
theorem c_X11_terms {S : SH} {d : Nat} {K : Option Value → AH → Prop} (hd : 1 ≤ d)  {r0 : Nat} {x1 : Int32} {x2 : Int32} {h : AH} (k : ok (f_X11_terms S r0 x1 x2 h) (fun w h' => K (some (.int w)) h')) : CP S M_X11_terms d 0 0 [.ref r0, .int x1, .int x2] h K := cp_of (by decide) (fun _ _ => trivial) (fun _ => Nat.le_of_ble_eq_true rfl) (s_X11_terms hd  k)
def f_X11_isRow_l28b (S : SH) (rc : Nat → Int32 → Int32 → Int32 → AH → Option (Int32 × AH)) (r0 : Nat) (x1 : Int32) (x3 : Int32) (x4 : Int32) (h : AH) : Option (Int32 × AH) :=
  if (8 : Int32) ≤ x4 then
    some (x3, h)
  else
    if x3 = (0 : Int32) then
      some (x3, h)
    else
      (gR S h r0 11 12).bind fun p_3 =>
      (aI S h p_3 (x1 + x4)).bind fun v_5 =>
      if (9 : Int32) < v_5 then
        lt (x4 + (1 : Int32)) fun y_8 =>
        rc r0 x1 (0 : Int32) y_8 h
      else
        lt (x4 + (1 : Int32)) fun y_9 =>
        rc r0 x1 (1 : Int32) y_9 h
set_option maxHeartbeats 8000000 in
set_option maxRecDepth 20000 in
theorem s_X11_isRow_l28b {S : SH} {d cb sb : Nat} {Q : Option Value → AH → Prop} (hd : 0 ≤ d) {K : Int32 → AH → Prop} (hex : ∀ (x3 : Int32) (h' : AH), K x3 h' → WP S M_X11_isRow d cb sb Q 65 [JK, JK, JK, .int x3, JK] [] h') {rc : Nat → Int32 → Int32 → Int32 → AH → Option (Int32 × AH)} (hrec : ∀ (r0 : Nat) (x1 : Int32) (x3 : Int32) (x4 : Int32) (h' : AH), ok (rc r0 x1 x3 x4 h') K → WP S M_X11_isRow d cb sb Q 28 [.ref r0, .int x1, JK, .int x3, .int x4] [] h') {r0 : Nat} {x1 : Int32} {x3 : Int32} {x4 : Int32} {h : AH} (k : ok (f_X11_isRow_l28b S rc r0 x1 x3 x4 h) K) : WP S M_X11_isRow d cb sb Q 28 [.ref r0, .int x1, JK, .int x3, .int x4] [] h := by
  unfold f_X11_isRow_l28b at k
  refine wp_iload dX11_isRow_28 rfl ?_
  refine wp_bipush dX11_isRow_30 bp_8 ?_
  refine wp_icmp_ge 65 dX11_isRow_32 (by decide) (fun c_1 => ?_) (fun c_1 => ?_)
  · replace k := ok_t c_1 k
    exact wp_wk (wkJ <| wkJ <| wkJ <| wkE <| wkJ <| wkN) (hex _ _ (ok_some k))
  · replace k := ok_f c_1 k
    refine wp_iload_n dX11_isRow_35 rfl ?_
    refine wp_if_eq 65 dX11_isRow_36 (by decide) (fun c_2 => ?_) (fun c_2 => ?_)
    · replace k := ok_t c_2 k
      exact wp_wk (wkJ <| wkJ <| wkJ <| wkE <| wkJ <| wkN) (hex _ _ (ok_some k))
    · replace k := ok_f c_2 k
      refine wp_aload_n dX11_isRow_39 rfl ?_
      replace k := ok_bind k
      obtain ⟨p_3, e_4, k⟩ := k
      refine wq_getR fl_X11_35 (Or.inr ⟨_, rfl⟩) dX11_isRow_40 e_4 ?_
      refine wp_iload_n dX11_isRow_43 rfl ?_
      refine wp_iload dX11_isRow_44 rfl ?_
      refine wp_iadd dX11_isRow_46 ?_
      replace k := ok_bind k
      obtain ⟨v_5, e_6, k⟩ := k
      refine wq_aI dX11_isRow_47 e_6 ?_
      refine wp_bipush dX11_isRow_48 bp_9 ?_
      refine wp_icmp_gt 57 dX11_isRow_50 (by decide) (fun c_7 => ?_) (fun c_7 => ?_)
      · replace k := ok_t c_7 k
        refine wp_iconst dX11_isRow_57 ic_0 ?_
        refine wp_istore_n dX11_isRow_58 (by decide) (L1 := [_, _, _, _, _]) rfl ?_
        replace k := ok_lt k
        refine wp_iinc dX11_isRow_59 rfl ic_1 (by decide) (L1 := [_, _, _, _, _]) rfl ?_
        refine wp_goto 28 dX11_isRow_62 (by decide) ?_
        exact wp_wk (wkE <| wkE <| wkJ <| wkE <| wkE <| wkN) (hrec _ _ _ _ _ k)
      · replace k := ok_f c_7 k
        refine wp_iconst dX11_isRow_53 ic_1 ?_
        refine wp_goto 58 dX11_isRow_54 (by decide) ?_
        refine wp_istore_n dX11_isRow_58 (by decide) (L1 := [_, _, _, _, _]) rfl ?_
        replace k := ok_lt k
        refine wp_iinc dX11_isRow_59 rfl ic_1 (by decide) (L1 := [_, _, _, _, _]) rfl ?_
        refine wp_goto 28 dX11_isRow_62 (by decide) ?_
        exact wp_wk (wkE <| wkE <| wkJ <| wkE <| wkE <| wkN) (hrec _ _ _ _ _ k)
def f_X11_isRow_l28 (S : SH) : Nat → Nat → Int32 → Int32 → Int32 → AH → Option (Int32 × AH)
  | 0, _, _, _, _, _ => none
  | n + 1, r0, x1, x3, x4, h => f_X11_isRow_l28b S (f_X11_isRow_l28 S n) r0 x1 x3 x4 h
theorem s_X11_isRow_l28 {S : SH} {d cb sb : Nat} {Q : Option Value → AH → Prop} (hd : 0 ≤ d) {K : Int32 → AH → Prop} (hex : ∀ (x3 : Int32) (h' : AH), K x3 h' → WP S M_X11_isRow d cb sb Q 65 [JK, JK, JK, .int x3, JK] [] h') : ∀ (n : Nat) (r0 : Nat) (x1 : Int32) (x3 : Int32) (x4 : Int32) (h : AH), ok (f_X11_isRow_l28 S n r0 x1 x3 x4 h) K → WP S M_X11_isRow d cb sb Q 28 [.ref r0, .int x1, JK, .int x3, .int x4] [] h := by
  intro n
  induction n with
  | zero => intro r0 x1 x3 x4 h k; exact ok_none k
  | succ n ih => intro r0 x1 x3 x4 h k; exact s_X11_isRow_l28b hd hex (fun r0 x1 x3 x4 h k => ih r0 x1 x3 x4 h k) k
def f_X11_isRow (S : SH) (r0 : Nat) (x1 : Int32) (x2 : Int32) (h : AH) : Option (Int32 × AH) :=
  if x2 ≤ (x1 + (7 : Int32)) then
    (f_X11_isRow_l28 S FU r0 x1 (0 : Int32) (1 : Int32) h).bind fun z => match z with
    | (x3_3, h_2) =>
    (isZ x3_3).bind fun _ =>
    some (x3_3, h_2)
  else
    (gR S h r0 11 12).bind fun p_5 =>
    (aI S h p_5 x1).bind fun v_7 =>
    if (20 : Int32) ≤ v_7 then
      (f_X11_isRow_l28 S FU r0 x1 (0 : Int32) (1 : Int32) h).bind fun z => match z with
      | (x3_11, h_10) =>
      (isZ x3_11).bind fun _ =>
      some (x3_11, h_10)
    else
      (f_X11_isRow_l28 S FU r0 x1 (1 : Int32) (1 : Int32) h).bind fun z => match z with
      | (x3_14, h_13) =>
      (isZ x3_14).bind fun _ =>
      some (x3_14, h_13)
set_option maxHeartbeats 8000000 in
set_option maxRecDepth 20000 in
theorem s_X11_isRow {S : SH} {d cb sb : Nat} {Q : Option Value → AH → Prop} (hd : 0 ≤ d)  {r0 : Nat} {x1 : Int32} {x2 : Int32} {h : AH} (k : ok (f_X11_isRow S r0 x1 x2 h) (fun w h' => Q (some (.int w)) h')) : WP S M_X11_isRow d cb sb Q 0 [.ref r0, .int x1, .int x2, JK, JK] [] h := by
  unfold f_X11_isRow at k
  refine wp_iload_n dX11_isRow_0 rfl ?_
  refine wp_bipush dX11_isRow_1 bp_7 ?_
  refine wp_iadd dX11_isRow_3 ?_
  refine wp_iload_n dX11_isRow_4 rfl ?_
  refine wp_icmp_ge 23 dX11_isRow_5 (by decide) (fun c_1 => ?_) (fun c_1 => ?_)
  · replace k := ok_t c_1 k
    refine wp_iconst dX11_isRow_23 ic_0 ?_
    refine wp_istore_n dX11_isRow_24 (by decide) (L1 := [_, _, _, _, _]) rfl ?_
    refine wp_iconst dX11_isRow_25 ic_1 ?_
    refine wp_istore dX11_isRow_26 (by decide) (L1 := [_, _, _, _, _]) rfl ?_
    refine wp_wk (wkE <| wkE <| wkJ <| wkE <| wkE <| wkN) ?_
    refine s_X11_isRow_l28 hd (fun x3_3 h_2 k => ?_) FU _ _ _ _ _ (ok_bind2 k)
    try dsimp only at k
    refine wp_iload_n dX11_isRow_65 rfl ?_
    replace k := ok_bind k
    obtain ⟨u, e_4, k⟩ := k
    refine wp_iret rfl (isZ_n e_4) dX11_isRow_66 ?_
    exact (ok_some k :)
  · replace k := ok_f c_1 k
    refine wp_aload_n dX11_isRow_8 rfl ?_
    replace k := ok_bind k
    obtain ⟨p_5, e_6, k⟩ := k
    refine wq_getR fl_X11_35 (Or.inr ⟨_, rfl⟩) dX11_isRow_9 e_6 ?_
    refine wp_iload_n dX11_isRow_12 rfl ?_
    replace k := ok_bind k
    obtain ⟨v_7, e_8, k⟩ := k
    refine wq_aI dX11_isRow_13 e_8 ?_
    refine wp_bipush dX11_isRow_14 bp_20 ?_
    refine wp_icmp_ge 23 dX11_isRow_16 (by decide) (fun c_9 => ?_) (fun c_9 => ?_)
    · replace k := ok_t c_9 k
      refine wp_iconst dX11_isRow_23 ic_0 ?_
      refine wp_istore_n dX11_isRow_24 (by decide) (L1 := [_, _, _, _, _]) rfl ?_
      refine wp_iconst dX11_isRow_25 ic_1 ?_
      refine wp_istore dX11_isRow_26 (by decide) (L1 := [_, _, _, _, _]) rfl ?_
      refine wp_wk (wkE <| wkE <| wkJ <| wkE <| wkE <| wkN) ?_
      refine s_X11_isRow_l28 hd (fun x3_11 h_10 k => ?_) FU _ _ _ _ _ (ok_bind2 k)
      try dsimp only at k
      refine wp_iload_n dX11_isRow_65 rfl ?_
      replace k := ok_bind k
      obtain ⟨u, e_12, k⟩ := k
      refine wp_iret rfl (isZ_n e_12) dX11_isRow_66 ?_
      exact (ok_some k :)
    · replace k := ok_f c_9 k
      refine wp_iconst dX11_isRow_19 ic_1 ?_
      refine wp_goto 24 dX11_isRow_20 (by decide) ?_
      refine wp_istore_n dX11_isRow_24 (by decide) (L1 := [_, _, _, _, _]) rfl ?_
      refine wp_iconst dX11_isRow_25 ic_1 ?_
      refine wp_istore dX11_isRow_26 (by decide) (L1 := [_, _, _, _, _]) rfl ?_
      refine wp_wk (wkE <| wkE <| wkJ <| wkE <| wkE <| wkN) ?_
      refine s_X11_isRow_l28 hd (fun x3_14 h_13 k => ?_) FU _ _ _ _ _ (ok_bind2 k)
      try dsimp only at k
      refine wp_iload_n dX11_isRow_65 rfl ?_
      replace k := ok_bind k
      obtain ⟨u, e_15, k⟩ := k
      refine wp_iret rfl (isZ_n e_15) dX11_isRow_66 ?_
      exact (ok_some k :)
theorem c_X11_isRow {S : SH} {d : Nat} {K : Option Value → AH → Prop} (hd : 0 ≤ d)  {r0 : Nat} {x1 : Int32} {x2 : Int32} {h : AH} (k : ok (f_X11_isRow S r0 x1 x2 h) (fun w h' => K (some (.int w)) h')) : CP S M_X11_isRow d 0 0 [.ref r0, .int x1, .int x2] h K := cp_of (by decide) (fun _ _ => trivial) (fun _ => Nat.le_of_ble_eq_true rfl) (s_X11_isRow hd  k)
def f_X11_row_l81b (S : SH) (rc : Nat → Int32 → Int32 → Int32 → Int32 → Int32 → AH → Option ((Nat × Int32 × Int32 × Int32) × AH)) (r0 : Nat) (x1 : Int32) (x2 : Int32) (x3 : Int32) (x4 : Int32) (x5 : Int32) (h : AH) : Option ((Nat × Int32 × Int32 × Int32) × AH) :=
  if (6 : Int32) ≤ x5 then
    some ((r0, x1, x2, x3), h)
  else
    (gR S h r0 11 3).bind fun p_2 =>
    (gR S h r0 11 12).bind fun p_4 =>
    (aI S h p_4 ((x3 + (2 : Int32)) + x5)).bind fun v_6 =>
    (sI S h p_2 (((30 : Int32) + ((6 : Int32) * x4)) + x5) v_6).bind fun h_8 =>
    lt (x5 + (1 : Int32)) fun y_10 =>
    rc r0 x1 x2 x3 x4 y_10 h_8
set_option maxHeartbeats 8000000 in
set_option maxRecDepth 20000 in
theorem s_X11_row_l81b {S : SH} {d cb sb : Nat} {Q : Option Value → AH → Prop} (hd : 3 ≤ d) {K : (Nat × Int32 × Int32 × Int32) → AH → Prop} (hex : ∀ (r0 : Nat) (x1 : Int32) (x2 : Int32) (x3 : Int32) (h' : AH), K (r0, x1, x2, x3) h' → WP S M_X11_row d cb sb Q 121 [.ref r0, .int x1, .int x2, .int x3, JK, JK] [] h') {rc : Nat → Int32 → Int32 → Int32 → Int32 → Int32 → AH → Option ((Nat × Int32 × Int32 × Int32) × AH)} (hrec : ∀ (r0 : Nat) (x1 : Int32) (x2 : Int32) (x3 : Int32) (x4 : Int32) (x5 : Int32) (h' : AH), ok (rc r0 x1 x2 x3 x4 x5 h') K → WP S M_X11_row d cb sb Q 81 [.ref r0, .int x1, .int x2, .int x3, .int x4, .int x5] [] h') {r0 : Nat} {x1 : Int32} {x2 : Int32} {x3 : Int32} {x4 : Int32} {x5 : Int32} {h : AH} (k : ok (f_X11_row_l81b S rc r0 x1 x2 x3 x4 x5 h) K) : WP S M_X11_row d cb sb Q 81 [.ref r0, .int x1, .int x2, .int x3, .int x4, .int x5] [] h := by
  obtain ⟨d, rfl, he⟩ := dp (L := 2) hd
  unfold f_X11_row_l81b at k
  refine wp_iload dX11_row_81 rfl ?_
  refine wp_bipush dX11_row_83 bp_6 ?_
  refine wp_icmp_ge 121 dX11_row_85 (by decide) (fun c_1 => ?_) (fun c_1 => ?_)
  · replace k := ok_t c_1 k
    exact wp_wk (wkE <| wkE <| wkE <| wkE <| wkJ <| wkJ <| wkN) (hex _ _ _ _ _ (ok_some k))
  · replace k := ok_f c_1 k
    refine wp_aload_n dX11_row_88 rfl ?_
    replace k := ok_bind k
    obtain ⟨p_2, e_3, k⟩ := k
    refine wq_getR fl_X11_13 (Or.inr ⟨_, rfl⟩) dX11_row_89 e_3 ?_
    refine wp_bipush dX11_row_92 bp_30 ?_
    refine wp_bipush dX11_row_94 bp_6 ?_
    refine wp_iload dX11_row_96 rfl ?_
    refine wp_imul dX11_row_98 ?_
    refine wp_iadd dX11_row_99 ?_
    refine wp_iload dX11_row_100 rfl ?_
    refine wp_iadd dX11_row_102 ?_
    refine wp_aload_n dX11_row_103 rfl ?_
    replace k := ok_bind k
    obtain ⟨p_4, e_5, k⟩ := k
    refine wq_getR fl_X11_35 (Or.inr ⟨_, rfl⟩) dX11_row_104 e_5 ?_
    refine wp_iload_n dX11_row_107 rfl ?_
    refine wp_iconst dX11_row_108 ic_2 ?_
    refine wp_iadd dX11_row_109 ?_
    refine wp_iload dX11_row_110 rfl ?_
    refine wp_iadd dX11_row_112 ?_
    replace k := ok_bind k
    obtain ⟨v_6, e_7, k⟩ := k
    refine wq_aI dX11_row_113 e_7 ?_
    replace k := ok_bind k
    obtain ⟨h_8, e_9, k⟩ := k
    refine wq_sI dX11_row_114 e_9 ?_
    replace k := ok_lt k
    refine wp_iinc dX11_row_115 rfl ic_1 (by decide) (L1 := [_, _, _, _, _, _]) rfl ?_
    refine wp_goto 81 dX11_row_118 (by decide) ?_
    exact wp_wk (wkE <| wkE <| wkE <| wkE <| wkE <| wkE <| wkN) (hrec _ _ _ _ _ _ _ k)
def f_X11_row_l81 (S : SH) : Nat → Nat → Int32 → Int32 → Int32 → Int32 → Int32 → AH → Option ((Nat × Int32 × Int32 × Int32) × AH)
  | 0, _, _, _, _, _, _, _ => none
  | n + 1, r0, x1, x2, x3, x4, x5, h => f_X11_row_l81b S (f_X11_row_l81 S n) r0 x1 x2 x3 x4 x5 h
theorem s_X11_row_l81 {S : SH} {d cb sb : Nat} {Q : Option Value → AH → Prop} (hd : 3 ≤ d) {K : (Nat × Int32 × Int32 × Int32) → AH → Prop} (hex : ∀ (r0 : Nat) (x1 : Int32) (x2 : Int32) (x3 : Int32) (h' : AH), K (r0, x1, x2, x3) h' → WP S M_X11_row d cb sb Q 121 [.ref r0, .int x1, .int x2, .int x3, JK, JK] [] h') : ∀ (n : Nat) (r0 : Nat) (x1 : Int32) (x2 : Int32) (x3 : Int32) (x4 : Int32) (x5 : Int32) (h : AH), ok (f_X11_row_l81 S n r0 x1 x2 x3 x4 x5 h) K → WP S M_X11_row d cb sb Q 81 [.ref r0, .int x1, .int x2, .int x3, .int x4, .int x5] [] h := by
  intro n
  induction n with
  | zero => intro r0 x1 x2 x3 x4 x5 h k; exact ok_none k
  | succ n ih => intro r0 x1 x2 x3 x4 x5 h k; exact s_X11_row_l81b hd hex (fun r0 x1 x2 x3 x4 x5 h k => ih r0 x1 x2 x3 x4 x5 h k) k
def f_X11_row_l35_j71 (S : SH) (rc : Nat → Int32 → Int32 → Int32 → AH → Option ((Nat × Int32) × AH)) (r0 : Nat) (x1 : Int32) (x2 : Int32) (x3 : Int32) (sx0 : Int32) (h : AH) : Option ((Nat × Int32) × AH) :=
  if sx0 < (0 : Int32) then
    (gI S h r0 11 11).bind fun v_2 =>
    (pI S h r0 11 11 (v_2 + (1 : Int32))).bind fun h_4 =>
    lt (x3 + (8 : Int32)) fun y_6 =>
    rc r0 x1 x2 y_6 h_4
  else
    (f_X11_row_l81 S FU r0 x1 x2 x3 sx0 (0 : Int32) h).bind fun z => match z with
    | ((r0_8, x1_9, x2_10, x3_11), h_7) =>
    lt (x2_10 + (1 : Int32)) fun y_12 =>
    lt (x3_11 + (8 : Int32)) fun y_13 =>
    rc r0_8 x1_9 y_12 y_13 h_7
set_option maxHeartbeats 8000000 in
set_option maxRecDepth 20000 in
theorem s_X11_row_l35_j71 {S : SH} {d cb sb : Nat} {Q : Option Value → AH → Prop} (hd : 3 ≤ d) {K : (Nat × Int32) → AH → Prop} (hex : ∀ (r0 : Nat) (x2 : Int32) (h' : AH), K (r0, x2) h' → WP S M_X11_row d cb sb Q 143 [.ref r0, JK, .int x2, JK, JK, JK] [] h') {rc : Nat → Int32 → Int32 → Int32 → AH → Option ((Nat × Int32) × AH)} (hrec : ∀ (r0 : Nat) (x1 : Int32) (x2 : Int32) (x3 : Int32) (h' : AH), ok (rc r0 x1 x2 x3 h') K → WP S M_X11_row d cb sb Q 35 [.ref r0, .int x1, .int x2, .int x3, JK, JK] [] h') {r0 : Nat} {x1 : Int32} {x2 : Int32} {x3 : Int32} {sx0 : Int32} {h : AH} (k : ok (f_X11_row_l35_j71 S rc r0 x1 x2 x3 sx0 h) K) : WP S M_X11_row d cb sb Q 71 [.ref r0, .int x1, .int x2, .int x3, JK, JK] [.int sx0] h := by
  obtain ⟨d, rfl, he⟩ := dp (L := 2) hd
  unfold f_X11_row_l35_j71 at k
  refine wp_istore dX11_row_71 (by decide) (L1 := [_, _, _, _, _, _]) rfl ?_
  refine wp_iload dX11_row_73 rfl ?_
  refine wp_if_lt 127 dX11_row_75 (by decide) (fun c_1 => ?_) (fun c_1 => ?_)
  · replace k := ok_t c_1 k
    refine wp_aload_n dX11_row_127 rfl ?_
    refine wp_dupR dX11_row_128 ?_
    replace k := ok_bind k
    obtain ⟨v_2, e_3, k⟩ := k
    refine wq_getI fl_X11_246 (Or.inl rfl) dX11_row_129 e_3 ?_
    refine wp_iconst dX11_row_132 ic_1 ?_
    refine wp_iadd dX11_row_133 ?_
    replace k := ok_bind k
    obtain ⟨h_4, e_5, k⟩ := k
    refine wq_putI fl_X11_246 rfl rfl dX11_row_134 e_5 ?_
    replace k := ok_lt k
    refine wp_iinc dX11_row_137 rfl ic_8 (by decide) (L1 := [_, _, _, _, _, _]) rfl ?_
    refine wp_goto 35 dX11_row_140 (by decide) ?_
    exact wp_wk (wkE <| wkE <| wkE <| wkE <| wkJ <| wkJ <| wkN) (hrec _ _ _ _ _ k)
  · replace k := ok_f c_1 k
    refine wp_iconst dX11_row_78 ic_0 ?_
    refine wp_istore dX11_row_79 (by decide) (L1 := [_, _, _, _, _, _]) rfl ?_
    refine wp_wk (wkE <| wkE <| wkE <| wkE <| wkE <| wkE <| wkN) ?_
    refine s_X11_row_l81 (Nat.succ_le_succ he) (fun r0_8 x1_9 x2_10 x3_11 h_7 k => ?_) FU _ _ _ _ _ _ _ (ok_bind2 k)
    try dsimp only at k
    replace k := ok_lt k
    refine wp_iinc dX11_row_121 rfl ic_1 (by decide) (L1 := [_, _, _, _, _, _]) rfl ?_
    refine wp_goto 137 dX11_row_124 (by decide) ?_
    replace k := ok_lt k
    refine wp_iinc dX11_row_137 rfl ic_8 (by decide) (L1 := [_, _, _, _, _, _]) rfl ?_
    refine wp_goto 35 dX11_row_140 (by decide) ?_
    exact wp_wk (wkE <| wkE <| wkE <| wkE <| wkJ <| wkJ <| wkN) (hrec _ _ _ _ _ k)
def f_X11_row_l35b (S : SH) (rc : Nat → Int32 → Int32 → Int32 → AH → Option ((Nat × Int32) × AH)) (r0 : Nat) (x1 : Int32) (x2 : Int32) (x3 : Int32) (h : AH) : Option ((Nat × Int32) × AH) :=
  if x1 ≤ x3 then
    some ((r0, x2), h)
  else
    (ckO S h r0 11).bind fun _ =>
    (f_X11_isRow S r0 x3 x1 h).bind fun z => match z with
    | (z_4, h_3) =>
    if z_4 = (0 : Int32) then
      f_X11_row_l35_j71 S rc r0 x1 x2 x3 (-1 : Int32) h_3
    else
      (gR S h_3 r0 11 12).bind fun p_6 =>
      (aI S h_3 p_6 x3).bind fun v_8 =>
      (gR S h_3 r0 11 12).bind fun p_10 =>
      (aI S h_3 p_10 (x3 + (1 : Int32))).bind fun v_12 =>
      (ckO S h_3 r0 11).bind fun _ =>
      (f_X11_comes S r0 v_8 v_12 h_3).bind fun z => match z with
      | (z_16, h_15) =>
      f_X11_row_l35_j71 S rc r0 x1 x2 x3 z_16 h_15
set_option maxHeartbeats 8000000 in
set_option maxRecDepth 20000 in
theorem s_X11_row_l35b {S : SH} {d cb sb : Nat} {Q : Option Value → AH → Prop} (hd : 3 ≤ d) {K : (Nat × Int32) → AH → Prop} (hex : ∀ (r0 : Nat) (x2 : Int32) (h' : AH), K (r0, x2) h' → WP S M_X11_row d cb sb Q 143 [.ref r0, JK, .int x2, JK, JK, JK] [] h') {rc : Nat → Int32 → Int32 → Int32 → AH → Option ((Nat × Int32) × AH)} (hrec : ∀ (r0 : Nat) (x1 : Int32) (x2 : Int32) (x3 : Int32) (h' : AH), ok (rc r0 x1 x2 x3 h') K → WP S M_X11_row d cb sb Q 35 [.ref r0, .int x1, .int x2, .int x3, JK, JK] [] h') {r0 : Nat} {x1 : Int32} {x2 : Int32} {x3 : Int32} {h : AH} (k : ok (f_X11_row_l35b S rc r0 x1 x2 x3 h) K) : WP S M_X11_row d cb sb Q 35 [.ref r0, .int x1, .int x2, .int x3, JK, JK] [] h := by
  obtain ⟨d, rfl, he⟩ := dp (L := 2) hd
  unfold f_X11_row_l35b at k
  refine wp_iload_n dX11_row_35 rfl ?_
  refine wp_iload_n dX11_row_36 rfl ?_
  refine wp_icmp_ge 143 dX11_row_37 (by decide) (fun c_1 => ?_) (fun c_1 => ?_)
  · replace k := ok_t c_1 k
    exact wp_wk (wkE <| wkJ <| wkE <| wkJ <| wkJ <| wkJ <| wkN) (hex _ _ _ (ok_some k))
  · replace k := ok_f c_1 k
    refine wp_aload_n dX11_row_40 rfl ?_
    refine wp_iload_n dX11_row_41 rfl ?_
    refine wp_iload_n dX11_row_42 rfl ?_
    replace k := ok_bind k
    obtain ⟨u, e_2, k⟩ := k
    refine wp_callV2 (N := M_X11_isRow) (ci := 11) mf_X11_isRow mi_X11_isRow me_X11_isRow ml_X11_249 dX11_row_43 (ckO_e e_2) mv_X11_isRow (by exact Nat.le_of_ble_eq_true rfl) (c_X11_isRow (Nat.le_trans (by decide) he) (ok_mono (ok_bind2 k) fun z_4 h_3 k => ?_))
    try dsimp only at k
    refine wp_if_eq 70 dX11_row_46 (by decide) (fun c_5 => ?_) (fun c_5 => ?_)
    · replace k := ok_t c_5 k
      refine wp_iconst dX11_row_70 ic_m1 ?_
      exact wp_wk (wkE <| wkE <| wkE <| wkE <| wkJ <| wkJ <| wkN) (s_X11_row_l35_j71 (Nat.succ_le_succ he) hex hrec k)
    · replace k := ok_f c_5 k
      refine wp_aload_n dX11_row_49 rfl ?_
      refine wp_aload_n dX11_row_50 rfl ?_
      replace k := ok_bind k
      obtain ⟨p_6, e_7, k⟩ := k
      refine wq_getR fl_X11_35 (Or.inr ⟨_, rfl⟩) dX11_row_51 e_7 ?_
      refine wp_iload_n dX11_row_54 rfl ?_
      replace k := ok_bind k
      obtain ⟨v_8, e_9, k⟩ := k
      refine wq_aI dX11_row_55 e_9 ?_
      refine wp_aload_n dX11_row_56 rfl ?_
      replace k := ok_bind k
      obtain ⟨p_10, e_11, k⟩ := k
      refine wq_getR fl_X11_35 (Or.inr ⟨_, rfl⟩) dX11_row_57 e_11 ?_
      refine wp_iload_n dX11_row_60 rfl ?_
      refine wp_iconst dX11_row_61 ic_1 ?_
      refine wp_iadd dX11_row_62 ?_
      replace k := ok_bind k
      obtain ⟨v_12, e_13, k⟩ := k
      refine wq_aI dX11_row_63 e_13 ?_
      replace k := ok_bind k
      obtain ⟨u, e_14, k⟩ := k
      refine wp_callV2 (N := M_X11_comes) (ci := 11) mf_X11_comes mi_X11_comes me_X11_comes ml_X11_192 dX11_row_64 (ckO_e e_14) mv_X11_comes (by exact Nat.le_of_ble_eq_true rfl) (c_X11_comes (Nat.le_trans (by decide) he) (ok_mono (ok_bind2 k) fun z_16 h_15 k => ?_))
      try dsimp only at k
      refine wp_goto 71 dX11_row_67 (by decide) ?_
      exact wp_wk (wkE <| wkE <| wkE <| wkE <| wkJ <| wkJ <| wkN) (s_X11_row_l35_j71 (Nat.succ_le_succ he) hex hrec k)
def f_X11_row_l35 (S : SH) : Nat → Nat → Int32 → Int32 → Int32 → AH → Option ((Nat × Int32) × AH)
  | 0, _, _, _, _, _ => none
  | n + 1, r0, x1, x2, x3, h => f_X11_row_l35b S (f_X11_row_l35 S n) r0 x1 x2 x3 h
theorem s_X11_row_l35 {S : SH} {d cb sb : Nat} {Q : Option Value → AH → Prop} (hd : 3 ≤ d) {K : (Nat × Int32) → AH → Prop} (hex : ∀ (r0 : Nat) (x2 : Int32) (h' : AH), K (r0, x2) h' → WP S M_X11_row d cb sb Q 143 [.ref r0, JK, .int x2, JK, JK, JK] [] h') : ∀ (n : Nat) (r0 : Nat) (x1 : Int32) (x2 : Int32) (x3 : Int32) (h : AH), ok (f_X11_row_l35 S n r0 x1 x2 x3 h) K → WP S M_X11_row d cb sb Q 35 [.ref r0, .int x1, .int x2, .int x3, JK, JK] [] h := by
  intro n
  induction n with
  | zero => intro r0 x1 x2 x3 h k; exact ok_none k
  | succ n ih => intro r0 x1 x2 x3 h k; exact s_X11_row_l35b hd hex (fun r0 x1 x2 x3 h k => ih r0 x1 x2 x3 h k) k
def f_X11_row (S : SH) (r0 : Nat) (h : AH) : Option (Int32 × AH) :=
  (pI S h r0 11 0 (0 : Int32)).bind fun h_1 =>
  (gI S h_1 r0 11 13).bind fun v_3 =>
  (pI S h_1 r0 11 13 (0 : Int32)).bind fun h_5 =>
  if v_3 = (0 : Int32) then
    (ckO S h_5 r0 11).bind fun _ =>
    (f_X11_tell S r0 (-6 : Int32) h_5).bind fun z => match z with
    | (z_18, h_17) =>
    some (z_18, h_17)
  else
    (pI S h_5 r0 11 11 (0 : Int32)).bind fun h_8 =>
    (f_X11_row_l35 S FU r0 v_3 (0 : Int32) (0 : Int32) h_8).bind fun z => match z with
    | ((r0_11, x2_12), h_10) =>
    (ckO S h_10 r0_11 11).bind fun _ =>
    (f_X11_lasting S r0_11 x2_12 h_10).bind fun z => match z with
    | (z_15, h_14) =>
    some (z_15, h_14)
set_option maxHeartbeats 8000000 in
set_option maxRecDepth 20000 in
theorem s_X11_row {S : SH} {d cb sb : Nat} {Q : Option Value → AH → Prop} (hd : 3 ≤ d)  {r0 : Nat} {h : AH} (k : ok (f_X11_row S r0 h) (fun w h' => Q (some (.int w)) h')) : WP S M_X11_row d cb sb Q 0 [.ref r0, JK, JK, JK, JK, JK] [] h := by
  obtain ⟨d, rfl, he⟩ := dp (L := 2) hd
  unfold f_X11_row at k
  refine wp_aload_n dX11_row_0 rfl ?_
  refine wp_iconst dX11_row_1 ic_0 ?_
  replace k := ok_bind k
  obtain ⟨h_1, e_2, k⟩ := k
  refine wq_putI fl_X11_152 rfl rfl dX11_row_2 e_2 ?_
  refine wp_aload_n dX11_row_5 rfl ?_
  replace k := ok_bind k
  obtain ⟨v_3, e_4, k⟩ := k
  refine wq_getI fl_X11_243 (Or.inl rfl) dX11_row_6 e_4 ?_
  refine wp_istore_n dX11_row_9 (by decide) (L1 := [_, _, _, _, _, _]) rfl ?_
  refine wp_aload_n dX11_row_10 rfl ?_
  refine wp_iconst dX11_row_11 ic_0 ?_
  replace k := ok_bind k
  obtain ⟨h_5, e_6, k⟩ := k
  refine wq_putI fl_X11_243 rfl rfl dX11_row_12 e_6 ?_
  refine wp_iload_n dX11_row_15 rfl ?_
  refine wp_if_ne 26 dX11_row_16 (by decide) (fun c_7 => ?_) (fun c_7 => ?_)
  · replace k := ok_f c_7 k
    refine wp_aload_n dX11_row_26 rfl ?_
    refine wp_iconst dX11_row_27 ic_0 ?_
    replace k := ok_bind k
    obtain ⟨h_8, e_9, k⟩ := k
    refine wq_putI fl_X11_246 rfl rfl dX11_row_28 e_9 ?_
    refine wp_iconst dX11_row_31 ic_0 ?_
    refine wp_istore_n dX11_row_32 (by decide) (L1 := [_, _, _, _, _, _]) rfl ?_
    refine wp_iconst dX11_row_33 ic_0 ?_
    refine wp_istore_n dX11_row_34 (by decide) (L1 := [_, _, _, _, _, _]) rfl ?_
    refine wp_wk (wkE <| wkE <| wkE <| wkE <| wkJ <| wkJ <| wkN) ?_
    refine s_X11_row_l35 (Nat.succ_le_succ he) (fun r0_11 x2_12 h_10 k => ?_) FU _ _ _ _ _ (ok_bind2 k)
    try dsimp only at k
    refine wp_aload_n dX11_row_143 rfl ?_
    refine wp_iload_n dX11_row_144 rfl ?_
    replace k := ok_bind k
    obtain ⟨u, e_13, k⟩ := k
    refine wp_callV1 (N := M_X11_lasting) (ci := 11) mf_X11_lasting mi_X11_lasting me_X11_lasting ml_X11_176 dX11_row_145 (ckO_e e_13) mv_X11_lasting (by exact Nat.le_of_ble_eq_true rfl) (c_X11_lasting (Nat.le_trans (by decide) he) (ok_mono (ok_bind2 k) fun z_15 h_14 k => ?_))
    try dsimp only at k
    refine wp_iret rfl rfl dX11_row_148 ?_
    exact (ok_some k :)
  · replace k := ok_t c_7 k
    refine wp_aload_n dX11_row_19 rfl ?_
    refine wp_bipush dX11_row_20 bp_m6 ?_
    replace k := ok_bind k
    obtain ⟨u, e_16, k⟩ := k
    refine wp_callV1 (N := M_X11_tell) (ci := 11) mf_X11_tell mi_X11_tell me_X11_tell ml_X11_161 dX11_row_22 (ckO_e e_16) mv_X11_tell (by exact Nat.le_of_ble_eq_true rfl) (c_X11_tell (Nat.le_trans (by decide) he) (ok_mono (ok_bind2 k) fun z_18 h_17 k => ?_))
    try dsimp only at k
    refine wp_iret rfl rfl dX11_row_25 ?_
    exact (ok_some k :)
theorem c_X11_row {S : SH} {d : Nat} {K : Option Value → AH → Prop} (hd : 3 ≤ d)  {r0 : Nat} {h : AH} (k : ok (f_X11_row S r0 h) (fun w h' => K (some (.int w)) h')) : CP S M_X11_row d 0 0 [.ref r0] h K := cp_of (by decide) (fun _ _ => trivial) (fun _ => Nat.le_of_ble_eq_true rfl) (s_X11_row hd  k)

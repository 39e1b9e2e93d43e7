def f_X11_chain_l84b (S : SH) (rc : Nat → Int32 → Int32 → Int32 → Int32 → AH → Option ((Nat × Int32 × Int32 × Int32) × AH)) (r0 : Nat) (x3 : Int32) (x4 : Int32) (x5 : Int32) (x6 : Int32) (h : AH) : Option ((Nat × Int32 × Int32 × Int32) × AH) :=
  (ckO S h r0 11).bind fun _ =>
  (f_X11_hears S r0 x6 x4 h).bind fun z => match z with
  | (z_3, h_2) =>
  if z_3 = (0 : Int32) then
    lt (x6 + (1 : Int32)) fun y_5 =>
    rc r0 x3 x4 x5 y_5 h_2
  else
    (gR S h_2 r0 11 46).bind fun p_6 =>
    (aI S h_2 p_6 x6).bind fun v_8 =>
    (gR S h_2 r0 11 46).bind fun p_10 =>
    (aI S h_2 p_10 x4).bind fun v_12 =>
    if v_8 = (v_12 - (1 : Int32)) then
      some ((r0, x3, x5, x6), h_2)
    else
      lt (x6 + (1 : Int32)) fun y_15 =>
      rc r0 x3 x4 x5 y_15 h_2
set_option maxHeartbeats 8000000 in
set_option maxRecDepth 20000 in
theorem s_X11_chain_l84b {S : SH} {d cb sb : Nat} {Q : Option Value → AH → Prop} (hd : 3 ≤ d) {K : (Nat × Int32 × Int32 × Int32) → AH → Prop} (hex : ∀ (r0 : Nat) (x3 : Int32) (x5 : Int32) (x6 : Int32) (h' : AH), K (r0, x3, x5, x6) h' → WP S M_X11_chain d cb sb Q 120 [.ref r0, JK, JK, .int x3, JK, .int x5, .int x6] [] h') {rc : Nat → Int32 → Int32 → Int32 → Int32 → AH → Option ((Nat × Int32 × Int32 × Int32) × AH)} (hrec : ∀ (r0 : Nat) (x3 : Int32) (x4 : Int32) (x5 : Int32) (x6 : Int32) (h' : AH), ok (rc r0 x3 x4 x5 x6 h') K → WP S M_X11_chain d cb sb Q 84 [.ref r0, JK, JK, .int x3, .int x4, .int x5, .int x6] [] h') {r0 : Nat} {x3 : Int32} {x4 : Int32} {x5 : Int32} {x6 : Int32} {h : AH} (k : ok (f_X11_chain_l84b S rc r0 x3 x4 x5 x6 h) K) : WP S M_X11_chain d cb sb Q 84 [.ref r0, JK, JK, .int x3, .int x4, .int x5, .int x6] [] h := by
  obtain ⟨d, rfl, he⟩ := dp (L := 2) hd
  unfold f_X11_chain_l84b at k
  refine wp_aload_n dX11_chain_84 rfl ?_
  refine wp_iload dX11_chain_85 rfl ?_
  refine wp_iload dX11_chain_87 rfl ?_
  replace k := ok_bind k
  obtain ⟨u, e_1, k⟩ := k
  refine wp_callV2 (N := M_X11_hears) (ci := 11) mf_X11_hears mi_X11_hears me_X11_hears ml_X11_204 dX11_chain_89 (ckO_e e_1) mv_X11_hears (by exact Nat.le_of_ble_eq_true rfl) (c_X11_hears (Nat.le_trans (by decide) he) (ok_mono (ok_bind2 k) fun z_3 h_2 k => ?_))
  try dsimp only at k
  refine wp_if_eq 114 dX11_chain_92 (by decide) (fun c_4 => ?_) (fun c_4 => ?_)
  · replace k := ok_t c_4 k
    replace k := ok_lt k
    refine wp_iinc dX11_chain_114 rfl ic_1 (by decide) (L1 := [_, _, _, _, _, _, _]) rfl ?_
    refine wp_goto 84 dX11_chain_117 (by decide) ?_
    exact wp_wk (wkE <| wkJ <| wkJ <| wkE <| wkE <| wkE <| wkE <| wkN) (hrec _ _ _ _ _ _ k)
  · replace k := ok_f c_4 k
    refine wp_aload_n dX11_chain_95 rfl ?_
    replace k := ok_bind k
    obtain ⟨p_6, e_7, k⟩ := k
    refine wq_getR fl_X11_120 (Or.inr ⟨_, rfl⟩) dX11_chain_96 e_7 ?_
    refine wp_iload dX11_chain_99 rfl ?_
    replace k := ok_bind k
    obtain ⟨v_8, e_9, k⟩ := k
    refine wq_aI dX11_chain_101 e_9 ?_
    refine wp_aload_n dX11_chain_102 rfl ?_
    replace k := ok_bind k
    obtain ⟨p_10, e_11, k⟩ := k
    refine wq_getR fl_X11_120 (Or.inr ⟨_, rfl⟩) dX11_chain_103 e_11 ?_
    refine wp_iload dX11_chain_106 rfl ?_
    replace k := ok_bind k
    obtain ⟨v_12, e_13, k⟩ := k
    refine wq_aI dX11_chain_108 e_13 ?_
    refine wp_iconst dX11_chain_109 ic_1 ?_
    refine wp_isub dX11_chain_110 ?_
    refine wp_icmp_eq 120 dX11_chain_111 (by decide) (fun c_14 => ?_) (fun c_14 => ?_)
    · replace k := ok_t c_14 k
      exact wp_wk (wkE <| wkJ <| wkJ <| wkE <| wkJ <| wkE <| wkE <| wkN) (hex _ _ _ _ _ (ok_some k))
    · replace k := ok_f c_14 k
      replace k := ok_lt k
      refine wp_iinc dX11_chain_114 rfl ic_1 (by decide) (L1 := [_, _, _, _, _, _, _]) rfl ?_
      refine wp_goto 84 dX11_chain_117 (by decide) ?_
      exact wp_wk (wkE <| wkJ <| wkJ <| wkE <| wkE <| wkE <| wkE <| wkN) (hrec _ _ _ _ _ _ k)
def f_X11_chain_l84 (S : SH) : Nat → Nat → Int32 → Int32 → Int32 → Int32 → AH → Option ((Nat × Int32 × Int32 × Int32) × AH)
  | 0, _, _, _, _, _, _ => none
  | n + 1, r0, x3, x4, x5, x6, h => f_X11_chain_l84b S (f_X11_chain_l84 S n) r0 x3 x4 x5 x6 h
theorem s_X11_chain_l84 {S : SH} {d cb sb : Nat} {Q : Option Value → AH → Prop} (hd : 3 ≤ d) {K : (Nat × Int32 × Int32 × Int32) → AH → Prop} (hex : ∀ (r0 : Nat) (x3 : Int32) (x5 : Int32) (x6 : Int32) (h' : AH), K (r0, x3, x5, x6) h' → WP S M_X11_chain d cb sb Q 120 [.ref r0, JK, JK, .int x3, JK, .int x5, .int x6] [] h') : ∀ (n : Nat) (r0 : Nat) (x3 : Int32) (x4 : Int32) (x5 : Int32) (x6 : Int32) (h : AH), ok (f_X11_chain_l84 S n r0 x3 x4 x5 x6 h) K → WP S M_X11_chain d cb sb Q 84 [.ref r0, JK, JK, .int x3, .int x4, .int x5, .int x6] [] h := by
  intro n
  induction n with
  | zero => intro r0 x3 x4 x5 x6 h k; exact ok_none k
  | succ n ih => intro r0 x3 x4 x5 x6 h k; exact s_X11_chain_l84b hd hex (fun r0 x3 x4 x5 x6 h k => ih r0 x3 x4 x5 x6 h k) k
def f_X11_chain_l75b (S : SH) (rc : Nat → Int32 → Int32 → Int32 → AH → Option (Int32 × AH)) (r0 : Nat) (x3 : Int32) (x4 : Int32) (x5 : Int32) (h : AH) : Option (Int32 × AH) :=
  if x3 < x5 then
    some (x4, h)
  else
    (f_X11_chain_l84 S FU r0 x3 x4 x5 (0 : Int32) h).bind fun z => match z with
    | ((r0_3, x3_4, x5_5, x6_6), h_2) =>
    lt (x5_5 + (1 : Int32)) fun y_7 =>
    rc r0_3 x3_4 x6_6 y_7 h_2
set_option maxHeartbeats 8000000 in
set_option maxRecDepth 20000 in
theorem s_X11_chain_l75b {S : SH} {d cb sb : Nat} {Q : Option Value → AH → Prop} (hd : 3 ≤ d) {K : Int32 → AH → Prop} (hex : ∀ (x4 : Int32) (h' : AH), K x4 h' → WP S M_X11_chain d cb sb Q 130 [JK, JK, JK, JK, .int x4, JK, JK] [] h') {rc : Nat → Int32 → Int32 → Int32 → AH → Option (Int32 × AH)} (hrec : ∀ (r0 : Nat) (x3 : Int32) (x4 : Int32) (x5 : Int32) (h' : AH), ok (rc r0 x3 x4 x5 h') K → WP S M_X11_chain d cb sb Q 75 [.ref r0, JK, JK, .int x3, .int x4, .int x5, JK] [] h') {r0 : Nat} {x3 : Int32} {x4 : Int32} {x5 : Int32} {h : AH} (k : ok (f_X11_chain_l75b S rc r0 x3 x4 x5 h) K) : WP S M_X11_chain d cb sb Q 75 [.ref r0, JK, JK, .int x3, .int x4, .int x5, JK] [] h := by
  obtain ⟨d, rfl, he⟩ := dp (L := 2) hd
  unfold f_X11_chain_l75b at k
  refine wp_iload dX11_chain_75 rfl ?_
  refine wp_iload_n dX11_chain_77 rfl ?_
  refine wp_icmp_gt 130 dX11_chain_78 (by decide) (fun c_1 => ?_) (fun c_1 => ?_)
  · replace k := ok_t c_1 k
    exact wp_wk (wkJ <| wkJ <| wkJ <| wkJ <| wkE <| wkJ <| wkJ <| wkN) (hex _ _ (ok_some k))
  · replace k := ok_f c_1 k
    refine wp_iconst dX11_chain_81 ic_0 ?_
    refine wp_istore dX11_chain_82 (by decide) (L1 := [_, _, _, _, _, _, _]) rfl ?_
    refine wp_wk (wkE <| wkJ <| wkJ <| wkE <| wkE <| wkE <| wkE <| wkN) ?_
    refine s_X11_chain_l84 (Nat.succ_le_succ he) (fun r0_3 x3_4 x5_5 x6_6 h_2 k => ?_) FU _ _ _ _ _ _ (ok_bind2 k)
    try dsimp only at k
    refine wp_iload dX11_chain_120 rfl ?_
    refine wp_istore dX11_chain_122 (by decide) (L1 := [_, _, _, _, _, _, _]) rfl ?_
    replace k := ok_lt k
    refine wp_iinc dX11_chain_124 rfl ic_1 (by decide) (L1 := [_, _, _, _, _, _, _]) rfl ?_
    refine wp_goto 75 dX11_chain_127 (by decide) ?_
    exact wp_wk (wkE <| wkJ <| wkJ <| wkE <| wkE <| wkE <| wkJ <| wkN) (hrec _ _ _ _ _ k)
def f_X11_chain_l75 (S : SH) : Nat → Nat → Int32 → Int32 → Int32 → AH → Option (Int32 × AH)
  | 0, _, _, _, _, _ => none
  | n + 1, r0, x3, x4, x5, h => f_X11_chain_l75b S (f_X11_chain_l75 S n) r0 x3 x4 x5 h
theorem s_X11_chain_l75 {S : SH} {d cb sb : Nat} {Q : Option Value → AH → Prop} (hd : 3 ≤ d) {K : Int32 → AH → Prop} (hex : ∀ (x4 : Int32) (h' : AH), K x4 h' → WP S M_X11_chain d cb sb Q 130 [JK, JK, JK, JK, .int x4, JK, JK] [] h') : ∀ (n : Nat) (r0 : Nat) (x3 : Int32) (x4 : Int32) (x5 : Int32) (h : AH), ok (f_X11_chain_l75 S n r0 x3 x4 x5 h) K → WP S M_X11_chain d cb sb Q 75 [.ref r0, JK, JK, .int x3, .int x4, .int x5, JK] [] h := by
  intro n
  induction n with
  | zero => intro r0 x3 x4 x5 h k; exact ok_none k
  | succ n ih => intro r0 x3 x4 x5 h k; exact s_X11_chain_l75b hd hex (fun r0 x3 x4 x5 h k => ih r0 x3 x4 x5 h k) k
def f_X11_chain (S : SH) (r0 : Nat) (x1 : Int32) (x2 : Int32) (x3 : Int32) (h : AH) : Option (Int32 × AH) :=
  (pI S h r0 11 0 (0 : Int32)).bind fun h_1 =>
  (ckO S h_1 r0 11).bind fun _ =>
  (f_X11_isBird S r0 x1 h_1).bind fun z => match z with
  | (z_5, h_4) =>
  if z_5 = (0 : Int32) then
    some ((-1 : Int32), h_4)
  else
    (ckO S h_4 r0 11).bind fun _ =>
    (f_X11_isBird S r0 x2 h_4).bind fun z => match z with
    | (z_9, h_8) =>
    if z_9 = (0 : Int32) then
      some ((-1 : Int32), h_8)
    else
      if (-1 : Int32) ≤ x3 then
        (ckO S h_8 r0 11).bind fun _ =>
        (f_X11_layLeft S r0 x2 h_8).bind fun z => match z with
        | (_, h_13) =>
        (gR S h_13 r0 11 46).bind fun p_15 =>
        (aI S h_13 p_15 x1).bind fun v_17 =>
        if v_17 = (100000000 : Int32) then
          some ((-1 : Int32), h_13)
        else
          (gR S h_13 r0 11 46).bind fun p_20 =>
          (aI S h_13 p_20 x1).bind fun v_22 =>
          if x3 < v_22 then
            if x3 = (-1 : Int32) then
              (gR S h_13 r0 11 46).bind fun p_28 =>
              (aI S h_13 p_28 x1).bind fun v_30 =>
              some (v_30, h_13)
            else
              (f_X11_chain_l75 S FU r0 x3 x1 (0 : Int32) h_13).bind fun z => match z with
              | (x4_27, h_26) =>
              some (x4_27, h_26)
          else
            some ((-1 : Int32), h_13)
      else
        some ((-1 : Int32), h_8)
set_option maxHeartbeats 8000000 in
set_option maxRecDepth 20000 in
theorem s_X11_chain {S : SH} {d cb sb : Nat} {Q : Option Value → AH → Prop} (hd : 3 ≤ d)  {r0 : Nat} {x1 : Int32} {x2 : Int32} {x3 : Int32} {h : AH} (k : ok (f_X11_chain S r0 x1 x2 x3 h) (fun w h' => Q (some (.int w)) h')) : WP S M_X11_chain d cb sb Q 0 [.ref r0, .int x1, .int x2, .int x3, JK, JK, JK] [] h := by
  obtain ⟨d, rfl, he⟩ := dp (L := 2) hd
  unfold f_X11_chain at k
  refine wp_aload_n dX11_chain_0 rfl ?_
  refine wp_iconst dX11_chain_1 ic_0 ?_
  replace k := ok_bind k
  obtain ⟨h_1, e_2, k⟩ := k
  refine wq_putI fl_X11_152 rfl rfl dX11_chain_2 e_2 ?_
  refine wp_aload_n dX11_chain_5 rfl ?_
  refine wp_iload_n dX11_chain_6 rfl ?_
  replace k := ok_bind k
  obtain ⟨u, e_3, k⟩ := k
  refine wp_callV1 (N := M_X11_isBird) (ci := 11) mf_X11_isBird mi_X11_isBird me_X11_isBird ml_X11_198 dX11_chain_7 (ckO_e e_3) mv_X11_isBird (by exact Nat.le_of_ble_eq_true rfl) (c_X11_isBird (Nat.le_trans (by decide) he) (ok_mono (ok_bind2 k) fun z_5 h_4 k => ?_))
  try dsimp only at k
  refine wp_if_eq 26 dX11_chain_10 (by decide) (fun c_6 => ?_) (fun c_6 => ?_)
  · replace k := ok_t c_6 k
    refine wp_iconst dX11_chain_26 ic_m1 ?_
    refine wp_iret rfl rfl dX11_chain_27 ?_
    exact (ok_some k :)
  · replace k := ok_f c_6 k
    refine wp_aload_n dX11_chain_13 rfl ?_
    refine wp_iload_n dX11_chain_14 rfl ?_
    replace k := ok_bind k
    obtain ⟨u, e_7, k⟩ := k
    refine wp_callV1 (N := M_X11_isBird) (ci := 11) mf_X11_isBird mi_X11_isBird me_X11_isBird ml_X11_198 dX11_chain_15 (ckO_e e_7) mv_X11_isBird (by exact Nat.le_of_ble_eq_true rfl) (c_X11_isBird (Nat.le_trans (by decide) he) (ok_mono (ok_bind2 k) fun z_9 h_8 k => ?_))
    try dsimp only at k
    refine wp_if_eq 26 dX11_chain_18 (by decide) (fun c_10 => ?_) (fun c_10 => ?_)
    · replace k := ok_t c_10 k
      refine wp_iconst dX11_chain_26 ic_m1 ?_
      refine wp_iret rfl rfl dX11_chain_27 ?_
      exact (ok_some k :)
    · replace k := ok_f c_10 k
      refine wp_iload_n dX11_chain_21 rfl ?_
      refine wp_iconst dX11_chain_22 ic_m1 ?_
      refine wp_icmp_ge 28 dX11_chain_23 (by decide) (fun c_11 => ?_) (fun c_11 => ?_)
      · replace k := ok_t c_11 k
        refine wp_aload_n dX11_chain_28 rfl ?_
        refine wp_iload_n dX11_chain_29 rfl ?_
        replace k := ok_bind k
        obtain ⟨u, e_12, k⟩ := k
        refine wp_callV1 (N := M_X11_layLeft) (ci := 11) mf_X11_layLeft mi_X11_layLeft me_X11_layLeft ml_X11_482 dX11_chain_30 (ckO_e e_12) mv_X11_layLeft (by exact Nat.le_of_ble_eq_true rfl) (c_X11_layLeft (Nat.le_trans (by decide) he) (ok_mono (ok_bind2 k) fun _ h_13 k => ?_))
        try dsimp only at k
        refine wp_aload_n dX11_chain_33 rfl ?_
        replace k := ok_bind k
        obtain ⟨p_15, e_16, k⟩ := k
        refine wq_getR fl_X11_120 (Or.inr ⟨_, rfl⟩) dX11_chain_34 e_16 ?_
        refine wp_iload_n dX11_chain_37 rfl ?_
        replace k := ok_bind k
        obtain ⟨v_17, e_18, k⟩ := k
        refine wq_aI dX11_chain_38 e_18 ?_
        refine wp_ldcw ct_X11_481 dX11_chain_39 ?_
        refine wp_icmp_eq 55 dX11_chain_42 (by decide) (fun c_19 => ?_) (fun c_19 => ?_)
        · replace k := ok_t c_19 k
          refine wp_iconst dX11_chain_55 ic_m1 ?_
          refine wp_iret rfl rfl dX11_chain_56 ?_
          exact (ok_some k :)
        · replace k := ok_f c_19 k
          refine wp_iload_n dX11_chain_45 rfl ?_
          refine wp_aload_n dX11_chain_46 rfl ?_
          replace k := ok_bind k
          obtain ⟨p_20, e_21, k⟩ := k
          refine wq_getR fl_X11_120 (Or.inr ⟨_, rfl⟩) dX11_chain_47 e_21 ?_
          refine wp_iload_n dX11_chain_50 rfl ?_
          replace k := ok_bind k
          obtain ⟨v_22, e_23, k⟩ := k
          refine wq_aI dX11_chain_51 e_23 ?_
          refine wp_icmp_lt 57 dX11_chain_52 (by decide) (fun c_24 => ?_) (fun c_24 => ?_)
          · replace k := ok_t c_24 k
            refine wp_iload_n dX11_chain_57 rfl ?_
            refine wp_iconst dX11_chain_58 ic_m1 ?_
            refine wp_icmp_ne 69 dX11_chain_59 (by decide) (fun c_25 => ?_) (fun c_25 => ?_)
            · replace k := ok_f c_25 k
              refine wp_iload_n dX11_chain_69 rfl ?_
              refine wp_istore dX11_chain_70 (by decide) (L1 := [_, _, _, _, _, _, _]) rfl ?_
              refine wp_iconst dX11_chain_72 ic_0 ?_
              refine wp_istore dX11_chain_73 (by decide) (L1 := [_, _, _, _, _, _, _]) rfl ?_
              refine wp_wk (wkE <| wkJ <| wkJ <| wkE <| wkE <| wkE <| wkJ <| wkN) ?_
              refine s_X11_chain_l75 (Nat.succ_le_succ he) (fun x4_27 h_26 k => ?_) FU _ _ _ _ _ (ok_bind2 k)
              try dsimp only at k
              refine wp_iload dX11_chain_130 rfl ?_
              refine wp_iret rfl rfl dX11_chain_132 ?_
              exact (ok_some k :)
            · replace k := ok_t c_25 k
              refine wp_aload_n dX11_chain_62 rfl ?_
              replace k := ok_bind k
              obtain ⟨p_28, e_29, k⟩ := k
              refine wq_getR fl_X11_120 (Or.inr ⟨_, rfl⟩) dX11_chain_63 e_29 ?_
              refine wp_iload_n dX11_chain_66 rfl ?_
              replace k := ok_bind k
              obtain ⟨v_30, e_31, k⟩ := k
              refine wq_aI dX11_chain_67 e_31 ?_
              refine wp_iret rfl rfl dX11_chain_68 ?_
              exact (ok_some k :)
          · replace k := ok_f c_24 k
            refine wp_iconst dX11_chain_55 ic_m1 ?_
            refine wp_iret rfl rfl dX11_chain_56 ?_
            exact (ok_some k :)
      · replace k := ok_f c_11 k
        refine wp_iconst dX11_chain_26 ic_m1 ?_
        refine wp_iret rfl rfl dX11_chain_27 ?_
        exact (ok_some k :)
theorem c_X11_chain {S : SH} {d : Nat} {K : Option Value → AH → Prop} (hd : 3 ≤ d)  {r0 : Nat} {x1 : Int32} {x2 : Int32} {x3 : Int32} {h : AH} (k : ok (f_X11_chain S r0 x1 x2 x3 h) (fun w h' => K (some (.int w)) h')) : CP S M_X11_chain d 0 0 [.ref r0, .int x1, .int x2, .int x3] h K := cp_of (by decide) (fun _ _ => trivial) (fun _ => Nat.le_of_ble_eq_true rfl) (s_X11_chain hd  k)
def f_X11_hearAll_l40b (S : SH) (rc : Nat → Int32 → Int32 → Int32 → Int32 → Int32 → AH → Option ((Nat × Int32 × Int32 × Int32 × Int32) × AH)) (r0 : Nat) (x1 : Int32) (x2 : Int32) (x3 : Int32) (x4 : Int32) (x5 : Int32) (h : AH) : Option ((Nat × Int32 × Int32 × Int32 × Int32) × AH) :=
  (gR S h r0 11 3).bind fun p_1 =>
  (aI S h p_1 (0 : Int32)).bind fun v_3 =>
  if v_3 ≤ x5 then
    some ((r0, x1, x2, x3, x4), h)
  else
    if x4 = (0 : Int32) then
      (f_X11_is S x1 x5 h).bind fun z => match z with
      | (z_9, h_8) =>
      if z_9 = (0 : Int32) then
        lt (x5 + (1 : Int32)) fun y_11 =>
        rc r0 x1 x2 x3 (0 : Int32) y_11 h_8
      else
        (ckO S h_8 r0 11).bind fun _ =>
        (f_X11_hears S r0 x5 x3 h_8).bind fun z => match z with
        | (z_14, h_13) =>
        if z_14 = (0 : Int32) then
          lt (x5 + (1 : Int32)) fun y_16 =>
          rc r0 x1 x2 x3 (0 : Int32) y_16 h_13
        else
          lt (x5 + (1 : Int32)) fun y_17 =>
          rc r0 x1 x2 x3 (1 : Int32) y_17 h_13
    else
      lt (x5 + (1 : Int32)) fun y_7 =>
      rc r0 x1 x2 x3 (1 : Int32) y_7 h
set_option maxHeartbeats 8000000 in
set_option maxRecDepth 20000 in
theorem s_X11_hearAll_l40b {S : SH} {d cb sb : Nat} {Q : Option Value → AH → Prop} (hd : 2 ≤ d) {K : (Nat × Int32 × Int32 × Int32 × Int32) → AH → Prop} (hex : ∀ (r0 : Nat) (x1 : Int32) (x2 : Int32) (x3 : Int32) (x4 : Int32) (h' : AH), K (r0, x1, x2, x3, x4) h' → WP S M_X11_hearAll d cb sb Q 88 [.ref r0, .int x1, .int x2, .int x3, .int x4, JK] [] h') {rc : Nat → Int32 → Int32 → Int32 → Int32 → Int32 → AH → Option ((Nat × Int32 × Int32 × Int32 × Int32) × AH)} (hrec : ∀ (r0 : Nat) (x1 : Int32) (x2 : Int32) (x3 : Int32) (x4 : Int32) (x5 : Int32) (h' : AH), ok (rc r0 x1 x2 x3 x4 x5 h') K → WP S M_X11_hearAll d cb sb Q 40 [.ref r0, .int x1, .int x2, .int x3, .int x4, .int x5] [] h') {r0 : Nat} {x1 : Int32} {x2 : Int32} {x3 : Int32} {x4 : Int32} {x5 : Int32} {h : AH} (k : ok (f_X11_hearAll_l40b S rc r0 x1 x2 x3 x4 x5 h) K) : WP S M_X11_hearAll d cb sb Q 40 [.ref r0, .int x1, .int x2, .int x3, .int x4, .int x5] [] h := by
  obtain ⟨d, rfl, he⟩ := dp (L := 1) hd
  unfold f_X11_hearAll_l40b at k
  refine wp_iload dX11_hearAll_40 rfl ?_
  refine wp_aload_n dX11_hearAll_42 rfl ?_
  replace k := ok_bind k
  obtain ⟨p_1, e_2, k⟩ := k
  refine wq_getR fl_X11_13 (Or.inr ⟨_, rfl⟩) dX11_hearAll_43 e_2 ?_
  refine wp_iconst dX11_hearAll_46 ic_0 ?_
  replace k := ok_bind k
  obtain ⟨v_3, e_4, k⟩ := k
  refine wq_aI dX11_hearAll_47 e_4 ?_
  refine wp_icmp_ge 88 dX11_hearAll_48 (by decide) (fun c_5 => ?_) (fun c_5 => ?_)
  · replace k := ok_t c_5 k
    exact wp_wk (wkE <| wkE <| wkE <| wkE <| wkE <| wkJ <| wkN) (hex _ _ _ _ _ _ (ok_some k))
  · replace k := ok_f c_5 k
    refine wp_iload dX11_hearAll_51 rfl ?_
    refine wp_if_ne 75 dX11_hearAll_53 (by decide) (fun c_6 => ?_) (fun c_6 => ?_)
    · replace k := ok_f c_6 k
      refine wp_iconst dX11_hearAll_75 ic_1 ?_
      refine wp_goto 80 dX11_hearAll_76 (by decide) ?_
      refine wp_istore dX11_hearAll_80 (by decide) (L1 := [_, _, _, _, _, _]) rfl ?_
      replace k := ok_lt k
      refine wp_iinc dX11_hearAll_82 rfl ic_1 (by decide) (L1 := [_, _, _, _, _, _]) rfl ?_
      refine wp_goto 40 dX11_hearAll_85 (by decide) ?_
      exact wp_wk (wkE <| wkE <| wkE <| wkE <| wkE <| wkE <| wkN) (hrec _ _ _ _ _ _ _ k)
    · replace k := ok_t c_6 k
      refine wp_iload_n dX11_hearAll_56 rfl ?_
      refine wp_iload dX11_hearAll_57 rfl ?_
      refine wp_callS2 (N := M_X11_is) mf_X11_is ms_X11_is ml_X11_485 dX11_hearAll_59 (by exact Nat.le_of_ble_eq_true rfl) (c_X11_is (Nat.le_trans (by decide) he) (ok_mono (ok_bind2 k) fun z_9 h_8 k => ?_))
      try dsimp only at k
      refine wp_if_eq 79 dX11_hearAll_62 (by decide) (fun c_10 => ?_) (fun c_10 => ?_)
      · replace k := ok_t c_10 k
        refine wp_iconst dX11_hearAll_79 ic_0 ?_
        refine wp_istore dX11_hearAll_80 (by decide) (L1 := [_, _, _, _, _, _]) rfl ?_
        replace k := ok_lt k
        refine wp_iinc dX11_hearAll_82 rfl ic_1 (by decide) (L1 := [_, _, _, _, _, _]) rfl ?_
        refine wp_goto 40 dX11_hearAll_85 (by decide) ?_
        exact wp_wk (wkE <| wkE <| wkE <| wkE <| wkE <| wkE <| wkN) (hrec _ _ _ _ _ _ _ k)
      · replace k := ok_f c_10 k
        refine wp_aload_n dX11_hearAll_65 rfl ?_
        refine wp_iload dX11_hearAll_66 rfl ?_
        refine wp_iload_n dX11_hearAll_68 rfl ?_
        replace k := ok_bind k
        obtain ⟨u, e_12, k⟩ := k
        refine wp_callV2 (N := M_X11_hears) (ci := 11) mf_X11_hears mi_X11_hears me_X11_hears ml_X11_204 dX11_hearAll_69 (ckO_e e_12) mv_X11_hears (by exact Nat.le_of_ble_eq_true rfl) (c_X11_hears (Nat.le_trans (by decide) he) (ok_mono (ok_bind2 k) fun z_14 h_13 k => ?_))
        try dsimp only at k
        refine wp_if_eq 79 dX11_hearAll_72 (by decide) (fun c_15 => ?_) (fun c_15 => ?_)
        · replace k := ok_t c_15 k
          refine wp_iconst dX11_hearAll_79 ic_0 ?_
          refine wp_istore dX11_hearAll_80 (by decide) (L1 := [_, _, _, _, _, _]) rfl ?_
          replace k := ok_lt k
          refine wp_iinc dX11_hearAll_82 rfl ic_1 (by decide) (L1 := [_, _, _, _, _, _]) rfl ?_
          refine wp_goto 40 dX11_hearAll_85 (by decide) ?_
          exact wp_wk (wkE <| wkE <| wkE <| wkE <| wkE <| wkE <| wkN) (hrec _ _ _ _ _ _ _ k)
        · replace k := ok_f c_15 k
          refine wp_iconst dX11_hearAll_75 ic_1 ?_
          refine wp_goto 80 dX11_hearAll_76 (by decide) ?_
          refine wp_istore dX11_hearAll_80 (by decide) (L1 := [_, _, _, _, _, _]) rfl ?_
          replace k := ok_lt k
          refine wp_iinc dX11_hearAll_82 rfl ic_1 (by decide) (L1 := [_, _, _, _, _, _]) rfl ?_
          refine wp_goto 40 dX11_hearAll_85 (by decide) ?_
          exact wp_wk (wkE <| wkE <| wkE <| wkE <| wkE <| wkE <| wkN) (hrec _ _ _ _ _ _ _ k)
def f_X11_hearAll_l40 (S : SH) : Nat → Nat → Int32 → Int32 → Int32 → Int32 → Int32 → AH → Option ((Nat × Int32 × Int32 × Int32 × Int32) × AH)
  | 0, _, _, _, _, _, _, _ => none
  | n + 1, r0, x1, x2, x3, x4, x5, h => f_X11_hearAll_l40b S (f_X11_hearAll_l40 S n) r0 x1 x2 x3 x4 x5 h
theorem s_X11_hearAll_l40 {S : SH} {d cb sb : Nat} {Q : Option Value → AH → Prop} (hd : 2 ≤ d) {K : (Nat × Int32 × Int32 × Int32 × Int32) → AH → Prop} (hex : ∀ (r0 : Nat) (x1 : Int32) (x2 : Int32) (x3 : Int32) (x4 : Int32) (h' : AH), K (r0, x1, x2, x3, x4) h' → WP S M_X11_hearAll d cb sb Q 88 [.ref r0, .int x1, .int x2, .int x3, .int x4, JK] [] h') : ∀ (n : Nat) (r0 : Nat) (x1 : Int32) (x2 : Int32) (x3 : Int32) (x4 : Int32) (x5 : Int32) (h : AH), ok (f_X11_hearAll_l40 S n r0 x1 x2 x3 x4 x5 h) K → WP S M_X11_hearAll d cb sb Q 40 [.ref r0, .int x1, .int x2, .int x3, .int x4, .int x5] [] h := by
  intro n
  induction n with
  | zero => intro r0 x1 x2 x3 x4 x5 h k; exact ok_none k
  | succ n ih => intro r0 x1 x2 x3 x4 x5 h k; exact s_X11_hearAll_l40b hd hex (fun r0 x1 x2 x3 x4 x5 h k => ih r0 x1 x2 x3 x4 x5 h k) k
def f_X11_hearAll_l4_j35 (S : SH) (rc : Nat → Int32 → Int32 → Int32 → AH → Option (Int32 × AH)) (r0 : Nat) (x1 : Int32) (x2 : Int32) (x3 : Int32) (sx0 : Int32) (h : AH) : Option (Int32 × AH) :=
  (f_X11_hearAll_l40 S FU r0 x1 x2 x3 sx0 (0 : Int32) h).bind fun z => match z with
  | ((r0_2, x1_3, x2_4, x3_5, x4_6), h_1) =>
  if x2_4 = (0 : Int32) then
    lt (x3_5 + (1 : Int32)) fun y_8 =>
    rc r0_2 x1_3 (0 : Int32) y_8 h_1
  else
    if x4_6 = (0 : Int32) then
      lt (x3_5 + (1 : Int32)) fun y_10 =>
      rc r0_2 x1_3 (0 : Int32) y_10 h_1
    else
      lt (x3_5 + (1 : Int32)) fun y_11 =>
      rc r0_2 x1_3 (1 : Int32) y_11 h_1
set_option maxHeartbeats 8000000 in
set_option maxRecDepth 20000 in
theorem s_X11_hearAll_l4_j35 {S : SH} {d cb sb : Nat} {Q : Option Value → AH → Prop} (hd : 2 ≤ d) {K : Int32 → AH → Prop} (hex : ∀ (x2 : Int32) (h' : AH), K x2 h' → WP S M_X11_hearAll d cb sb Q 109 [JK, JK, .int x2, JK, JK, JK] [] h') {rc : Nat → Int32 → Int32 → Int32 → AH → Option (Int32 × AH)} (hrec : ∀ (r0 : Nat) (x1 : Int32) (x2 : Int32) (x3 : Int32) (h' : AH), ok (rc r0 x1 x2 x3 h') K → WP S M_X11_hearAll d cb sb Q 4 [.ref r0, .int x1, .int x2, .int x3, JK, JK] [] h') {r0 : Nat} {x1 : Int32} {x2 : Int32} {x3 : Int32} {sx0 : Int32} {h : AH} (k : ok (f_X11_hearAll_l4_j35 S rc r0 x1 x2 x3 sx0 h) K) : WP S M_X11_hearAll d cb sb Q 35 [.ref r0, .int x1, .int x2, .int x3, JK, JK] [.int sx0] h := by
  obtain ⟨d, rfl, he⟩ := dp (L := 1) hd
  unfold f_X11_hearAll_l4_j35 at k
  refine wp_istore dX11_hearAll_35 (by decide) (L1 := [_, _, _, _, _, _]) rfl ?_
  refine wp_iconst dX11_hearAll_37 ic_0 ?_
  refine wp_istore dX11_hearAll_38 (by decide) (L1 := [_, _, _, _, _, _]) rfl ?_
  refine wp_wk (wkE <| wkE <| wkE <| wkE <| wkE <| wkE <| wkN) ?_
  refine s_X11_hearAll_l40 (Nat.succ_le_succ he) (fun r0_2 x1_3 x2_4 x3_5 x4_6 h_1 k => ?_) FU _ _ _ _ _ _ _ (ok_bind2 k)
  try dsimp only at k
  refine wp_iload_n dX11_hearAll_88 rfl ?_
  refine wp_if_eq 101 dX11_hearAll_89 (by decide) (fun c_7 => ?_) (fun c_7 => ?_)
  · replace k := ok_t c_7 k
    refine wp_iconst dX11_hearAll_101 ic_0 ?_
    refine wp_istore_n dX11_hearAll_102 (by decide) (L1 := [_, _, _, _, _, _]) rfl ?_
    replace k := ok_lt k
    refine wp_iinc dX11_hearAll_103 rfl ic_1 (by decide) (L1 := [_, _, _, _, _, _]) rfl ?_
    refine wp_goto 4 dX11_hearAll_106 (by decide) ?_
    exact wp_wk (wkE <| wkE <| wkE <| wkE <| wkJ <| wkJ <| wkN) (hrec _ _ _ _ _ k)
  · replace k := ok_f c_7 k
    refine wp_iload dX11_hearAll_92 rfl ?_
    refine wp_if_eq 101 dX11_hearAll_94 (by decide) (fun c_9 => ?_) (fun c_9 => ?_)
    · replace k := ok_t c_9 k
      refine wp_iconst dX11_hearAll_101 ic_0 ?_
      refine wp_istore_n dX11_hearAll_102 (by decide) (L1 := [_, _, _, _, _, _]) rfl ?_
      replace k := ok_lt k
      refine wp_iinc dX11_hearAll_103 rfl ic_1 (by decide) (L1 := [_, _, _, _, _, _]) rfl ?_
      refine wp_goto 4 dX11_hearAll_106 (by decide) ?_
      exact wp_wk (wkE <| wkE <| wkE <| wkE <| wkJ <| wkJ <| wkN) (hrec _ _ _ _ _ k)
    · replace k := ok_f c_9 k
      refine wp_iconst dX11_hearAll_97 ic_1 ?_
      refine wp_goto 102 dX11_hearAll_98 (by decide) ?_
      refine wp_istore_n dX11_hearAll_102 (by decide) (L1 := [_, _, _, _, _, _]) rfl ?_
      replace k := ok_lt k
      refine wp_iinc dX11_hearAll_103 rfl ic_1 (by decide) (L1 := [_, _, _, _, _, _]) rfl ?_
      refine wp_goto 4 dX11_hearAll_106 (by decide) ?_
      exact wp_wk (wkE <| wkE <| wkE <| wkE <| wkJ <| wkJ <| wkN) (hrec _ _ _ _ _ k)
def f_X11_hearAll_l4_j30 (S : SH) (rc : Nat → Int32 → Int32 → Int32 → AH → Option (Int32 × AH)) (r0 : Nat) (x1 : Int32) (x2 : Int32) (x3 : Int32) (h : AH) : Option (Int32 × AH) :=
  f_X11_hearAll_l4_j35 S rc r0 x1 x2 x3 (1 : Int32) h
set_option maxHeartbeats 8000000 in
set_option maxRecDepth 20000 in
theorem s_X11_hearAll_l4_j30 {S : SH} {d cb sb : Nat} {Q : Option Value → AH → Prop} (hd : 2 ≤ d) {K : Int32 → AH → Prop} (hex : ∀ (x2 : Int32) (h' : AH), K x2 h' → WP S M_X11_hearAll d cb sb Q 109 [JK, JK, .int x2, JK, JK, JK] [] h') {rc : Nat → Int32 → Int32 → Int32 → AH → Option (Int32 × AH)} (hrec : ∀ (r0 : Nat) (x1 : Int32) (x2 : Int32) (x3 : Int32) (h' : AH), ok (rc r0 x1 x2 x3 h') K → WP S M_X11_hearAll d cb sb Q 4 [.ref r0, .int x1, .int x2, .int x3, JK, JK] [] h') {r0 : Nat} {x1 : Int32} {x2 : Int32} {x3 : Int32} {h : AH} (k : ok (f_X11_hearAll_l4_j30 S rc r0 x1 x2 x3 h) K) : WP S M_X11_hearAll d cb sb Q 30 [.ref r0, .int x1, .int x2, .int x3, JK, JK] [] h := by
  obtain ⟨d, rfl, he⟩ := dp (L := 1) hd
  unfold f_X11_hearAll_l4_j30 at k
  refine wp_iconst dX11_hearAll_30 ic_1 ?_
  refine wp_goto 35 dX11_hearAll_31 (by decide) ?_
  exact wp_wk (wkE <| wkE <| wkE <| wkE <| wkJ <| wkJ <| wkN) (s_X11_hearAll_l4_j35 (Nat.succ_le_succ he) hex hrec k)
def f_X11_hearAll_l4b (S : SH) (rc : Nat → Int32 → Int32 → Int32 → AH → Option (Int32 × AH)) (r0 : Nat) (x1 : Int32) (x2 : Int32) (x3 : Int32) (h : AH) : Option (Int32 × AH) :=
  (gR S h r0 11 3).bind fun p_1 =>
  (aI S h p_1 (0 : Int32)).bind fun v_3 =>
  if v_3 ≤ x3 then
    some (x2, h)
  else
    (ckO S h r0 11).bind fun _ =>
    (f_X11_isAway S r0 x3 h).bind fun z => match z with
    | (z_8, h_7) =>
    if z_8 = (0 : Int32) then
      (f_X11_is S x1 x3 h_7).bind fun z => match z with
      | (z_11, h_10) =>
      if z_11 = (0 : Int32) then
        f_X11_hearAll_l4_j35 S rc r0 x1 x2 x3 (0 : Int32) h_10
      else
        f_X11_hearAll_l4_j30 S rc r0 x1 x2 x3 h_10
    else
      f_X11_hearAll_l4_j30 S rc r0 x1 x2 x3 h_7
set_option maxHeartbeats 8000000 in
set_option maxRecDepth 20000 in
theorem s_X11_hearAll_l4b {S : SH} {d cb sb : Nat} {Q : Option Value → AH → Prop} (hd : 2 ≤ d) {K : Int32 → AH → Prop} (hex : ∀ (x2 : Int32) (h' : AH), K x2 h' → WP S M_X11_hearAll d cb sb Q 109 [JK, JK, .int x2, JK, JK, JK] [] h') {rc : Nat → Int32 → Int32 → Int32 → AH → Option (Int32 × AH)} (hrec : ∀ (r0 : Nat) (x1 : Int32) (x2 : Int32) (x3 : Int32) (h' : AH), ok (rc r0 x1 x2 x3 h') K → WP S M_X11_hearAll d cb sb Q 4 [.ref r0, .int x1, .int x2, .int x3, JK, JK] [] h') {r0 : Nat} {x1 : Int32} {x2 : Int32} {x3 : Int32} {h : AH} (k : ok (f_X11_hearAll_l4b S rc r0 x1 x2 x3 h) K) : WP S M_X11_hearAll d cb sb Q 4 [.ref r0, .int x1, .int x2, .int x3, JK, JK] [] h := by
  obtain ⟨d, rfl, he⟩ := dp (L := 1) hd
  unfold f_X11_hearAll_l4b at k
  refine wp_iload_n dX11_hearAll_4 rfl ?_
  refine wp_aload_n dX11_hearAll_5 rfl ?_
  replace k := ok_bind k
  obtain ⟨p_1, e_2, k⟩ := k
  refine wq_getR fl_X11_13 (Or.inr ⟨_, rfl⟩) dX11_hearAll_6 e_2 ?_
  refine wp_iconst dX11_hearAll_9 ic_0 ?_
  replace k := ok_bind k
  obtain ⟨v_3, e_4, k⟩ := k
  refine wq_aI dX11_hearAll_10 e_4 ?_
  refine wp_icmp_ge 109 dX11_hearAll_11 (by decide) (fun c_5 => ?_) (fun c_5 => ?_)
  · replace k := ok_t c_5 k
    exact wp_wk (wkJ <| wkJ <| wkE <| wkJ <| wkJ <| wkJ <| wkN) (hex _ _ (ok_some k))
  · replace k := ok_f c_5 k
    refine wp_aload_n dX11_hearAll_14 rfl ?_
    refine wp_iload_n dX11_hearAll_15 rfl ?_
    replace k := ok_bind k
    obtain ⟨u, e_6, k⟩ := k
    refine wp_callV1 (N := M_X11_isAway) (ci := 11) mf_X11_isAway mi_X11_isAway me_X11_isAway ml_X11_183 dX11_hearAll_16 (ckO_e e_6) mv_X11_isAway (by exact Nat.le_of_ble_eq_true rfl) (c_X11_isAway (Nat.le_trans (by decide) he) (ok_mono (ok_bind2 k) fun z_8 h_7 k => ?_))
    try dsimp only at k
    refine wp_if_ne 30 dX11_hearAll_19 (by decide) (fun c_9 => ?_) (fun c_9 => ?_)
    · replace k := ok_f c_9 k
      exact wp_wk (wkE <| wkE <| wkE <| wkE <| wkJ <| wkJ <| wkN) (s_X11_hearAll_l4_j30 (Nat.succ_le_succ he) hex hrec k)
    · replace k := ok_t c_9 k
      refine wp_iload_n dX11_hearAll_22 rfl ?_
      refine wp_iload_n dX11_hearAll_23 rfl ?_
      refine wp_callS2 (N := M_X11_is) mf_X11_is ms_X11_is ml_X11_485 dX11_hearAll_24 (by exact Nat.le_of_ble_eq_true rfl) (c_X11_is (Nat.le_trans (by decide) he) (ok_mono (ok_bind2 k) fun z_11 h_10 k => ?_))
      try dsimp only at k
      refine wp_if_eq 34 dX11_hearAll_27 (by decide) (fun c_12 => ?_) (fun c_12 => ?_)
      · replace k := ok_t c_12 k
        refine wp_iconst dX11_hearAll_34 ic_0 ?_
        exact wp_wk (wkE <| wkE <| wkE <| wkE <| wkJ <| wkJ <| wkN) (s_X11_hearAll_l4_j35 (Nat.succ_le_succ he) hex hrec k)
      · replace k := ok_f c_12 k
        exact wp_wk (wkE <| wkE <| wkE <| wkE <| wkJ <| wkJ <| wkN) (s_X11_hearAll_l4_j30 (Nat.succ_le_succ he) hex hrec k)
def f_X11_hearAll_l4 (S : SH) : Nat → Nat → Int32 → Int32 → Int32 → AH → Option (Int32 × AH)
  | 0, _, _, _, _, _ => none
  | n + 1, r0, x1, x2, x3, h => f_X11_hearAll_l4b S (f_X11_hearAll_l4 S n) r0 x1 x2 x3 h
theorem s_X11_hearAll_l4 {S : SH} {d cb sb : Nat} {Q : Option Value → AH → Prop} (hd : 2 ≤ d) {K : Int32 → AH → Prop} (hex : ∀ (x2 : Int32) (h' : AH), K x2 h' → WP S M_X11_hearAll d cb sb Q 109 [JK, JK, .int x2, JK, JK, JK] [] h') : ∀ (n : Nat) (r0 : Nat) (x1 : Int32) (x2 : Int32) (x3 : Int32) (h : AH), ok (f_X11_hearAll_l4 S n r0 x1 x2 x3 h) K → WP S M_X11_hearAll d cb sb Q 4 [.ref r0, .int x1, .int x2, .int x3, JK, JK] [] h := by
  intro n
  induction n with
  | zero => intro r0 x1 x2 x3 h k; exact ok_none k
  | succ n ih => intro r0 x1 x2 x3 h k; exact s_X11_hearAll_l4b hd hex (fun r0 x1 x2 x3 h k => ih r0 x1 x2 x3 h k) k
def f_X11_hearAll (S : SH) (r0 : Nat) (x1 : Int32) (h : AH) : Option (Int32 × AH) :=
  (f_X11_hearAll_l4 S FU r0 x1 (1 : Int32) (0 : Int32) h).bind fun z => match z with
  | (x2_2, h_1) =>
  (isZ x2_2).bind fun _ =>
  some (x2_2, h_1)
set_option maxHeartbeats 8000000 in
set_option maxRecDepth 20000 in
theorem s_X11_hearAll {S : SH} {d cb sb : Nat} {Q : Option Value → AH → Prop} (hd : 2 ≤ d)  {r0 : Nat} {x1 : Int32} {h : AH} (k : ok (f_X11_hearAll S r0 x1 h) (fun w h' => Q (some (.int w)) h')) : WP S M_X11_hearAll d cb sb Q 0 [.ref r0, .int x1, JK, JK, JK, JK] [] h := by
  obtain ⟨d, rfl, he⟩ := dp (L := 1) hd
  unfold f_X11_hearAll at k
  refine wp_iconst dX11_hearAll_0 ic_1 ?_
  refine wp_istore_n dX11_hearAll_1 (by decide) (L1 := [_, _, _, _, _, _]) rfl ?_
  refine wp_iconst dX11_hearAll_2 ic_0 ?_
  refine wp_istore_n dX11_hearAll_3 (by decide) (L1 := [_, _, _, _, _, _]) rfl ?_
  refine wp_wk (wkE <| wkE <| wkE <| wkE <| wkJ <| wkJ <| wkN) ?_
  refine s_X11_hearAll_l4 (Nat.succ_le_succ he) (fun x2_2 h_1 k => ?_) FU _ _ _ _ _ (ok_bind2 k)
  try dsimp only at k
  refine wp_iload_n dX11_hearAll_109 rfl ?_
  replace k := ok_bind k
  obtain ⟨u, e_3, k⟩ := k
  refine wp_iret rfl (isZ_n e_3) dX11_hearAll_110 ?_
  exact (ok_some k :)
theorem c_X11_hearAll {S : SH} {d : Nat} {K : Option Value → AH → Prop} (hd : 2 ≤ d)  {r0 : Nat} {x1 : Int32} {h : AH} (k : ok (f_X11_hearAll S r0 x1 h) (fun w h' => K (some (.int w)) h')) : CP S M_X11_hearAll d 0 0 [.ref r0, .int x1] h K := cp_of (by decide) (fun _ _ => trivial) (fun _ => Nat.le_of_ble_eq_true rfl) (s_X11_hearAll hd  k)
def f_X11_ears_l32b (S : SH) (rc : Nat → Int32 → Int32 → Int32 → Int32 → Int32 → AH → Option ((Int32 × Int32 × Int32) × AH)) (r0 : Nat) (x1 : Int32) (x2 : Int32) (x3 : Int32) (x4 : Int32) (x5 : Int32) (h : AH) : Option ((Int32 × Int32 × Int32) × AH) :=
  if x2 < x5 then
    some ((x1, x3, x4), h)
  else
    if (x5 &&& (x2 ^^^ (-1 : Int32))) = (0 : Int32) then
      (f_X11_ones S x5 h).bind fun z => match z with
      | (z_5, h_4) =>
      if x3 ≤ z_5 then
        lt (x5 + (1 : Int32)) fun y_7 =>
        rc r0 x1 x2 x3 x4 y_7 h_4
      else
        (ckO S h_4 r0 11).bind fun _ =>
        (f_X11_hearAll S r0 x5 h_4).bind fun z => match z with
        | (z_10, h_9) =>
        if z_10 = (0 : Int32) then
          lt (x5 + (1 : Int32)) fun y_12 =>
          rc r0 x1 x2 x3 x4 y_12 h_9
        else
          (f_X11_ones S x5 h_9).bind fun z => match z with
          | (z_14, h_13) =>
          lt (x5 + (1 : Int32)) fun y_15 =>
          rc r0 x1 x2 z_14 x5 y_15 h_13
    else
      lt (x5 + (1 : Int32)) fun y_3 =>
      rc r0 x1 x2 x3 x4 y_3 h
set_option maxHeartbeats 8000000 in
set_option maxRecDepth 20000 in
theorem s_X11_ears_l32b {S : SH} {d cb sb : Nat} {Q : Option Value → AH → Prop} (hd : 3 ≤ d) {K : (Int32 × Int32 × Int32) → AH → Prop} (hex : ∀ (x1 : Int32) (x3 : Int32) (x4 : Int32) (h' : AH), K (x1, x3, x4) h' → WP S M_X11_ears d cb sb Q 81 [JK, .int x1, JK, .int x3, .int x4, JK] [] h') {rc : Nat → Int32 → Int32 → Int32 → Int32 → Int32 → AH → Option ((Int32 × Int32 × Int32) × AH)} (hrec : ∀ (r0 : Nat) (x1 : Int32) (x2 : Int32) (x3 : Int32) (x4 : Int32) (x5 : Int32) (h' : AH), ok (rc r0 x1 x2 x3 x4 x5 h') K → WP S M_X11_ears d cb sb Q 32 [.ref r0, .int x1, .int x2, .int x3, .int x4, .int x5] [] h') {r0 : Nat} {x1 : Int32} {x2 : Int32} {x3 : Int32} {x4 : Int32} {x5 : Int32} {h : AH} (k : ok (f_X11_ears_l32b S rc r0 x1 x2 x3 x4 x5 h) K) : WP S M_X11_ears d cb sb Q 32 [.ref r0, .int x1, .int x2, .int x3, .int x4, .int x5] [] h := by
  obtain ⟨d, rfl, he⟩ := dp (L := 2) hd
  unfold f_X11_ears_l32b at k
  refine wp_iload dX11_ears_32 rfl ?_
  refine wp_iload_n dX11_ears_34 rfl ?_
  refine wp_icmp_gt 81 dX11_ears_35 (by decide) (fun c_1 => ?_) (fun c_1 => ?_)
  · replace k := ok_t c_1 k
    exact wp_wk (wkJ <| wkE <| wkJ <| wkE <| wkE <| wkJ <| wkN) (hex _ _ _ _ (ok_some k))
  · replace k := ok_f c_1 k
    refine wp_iload dX11_ears_38 rfl ?_
    refine wp_iload_n dX11_ears_40 rfl ?_
    refine wp_iconst dX11_ears_41 ic_m1 ?_
    refine wp_ixor dX11_ears_42 ?_
    refine wp_iand dX11_ears_43 ?_
    refine wp_if_ne 75 dX11_ears_44 (by decide) (fun c_2 => ?_) (fun c_2 => ?_)
    · replace k := ok_f c_2 k
      replace k := ok_lt k
      refine wp_iinc dX11_ears_75 rfl ic_1 (by decide) (L1 := [_, _, _, _, _, _]) rfl ?_
      refine wp_goto 32 dX11_ears_78 (by decide) ?_
      exact wp_wk (wkE <| wkE <| wkE <| wkE <| wkE <| wkE <| wkN) (hrec _ _ _ _ _ _ _ k)
    · replace k := ok_t c_2 k
      refine wp_iload dX11_ears_47 rfl ?_
      refine wp_callS1 (N := M_X11_ones) mf_X11_ones ms_X11_ones ml_X11_439 dX11_ears_49 (by exact Nat.le_of_ble_eq_true rfl) (c_X11_ones (Nat.le_trans (by decide) he) (ok_mono (ok_bind2 k) fun z_5 h_4 k => ?_))
      try dsimp only at k
      refine wp_iload_n dX11_ears_52 rfl ?_
      refine wp_icmp_ge 75 dX11_ears_53 (by decide) (fun c_6 => ?_) (fun c_6 => ?_)
      · replace k := ok_t c_6 k
        replace k := ok_lt k
        refine wp_iinc dX11_ears_75 rfl ic_1 (by decide) (L1 := [_, _, _, _, _, _]) rfl ?_
        refine wp_goto 32 dX11_ears_78 (by decide) ?_
        exact wp_wk (wkE <| wkE <| wkE <| wkE <| wkE <| wkE <| wkN) (hrec _ _ _ _ _ _ _ k)
      · replace k := ok_f c_6 k
        refine wp_aload_n dX11_ears_56 rfl ?_
        refine wp_iload dX11_ears_57 rfl ?_
        replace k := ok_bind k
        obtain ⟨u, e_8, k⟩ := k
        refine wp_callV1 (N := M_X11_hearAll) (ci := 11) mf_X11_hearAll mi_X11_hearAll me_X11_hearAll ml_X11_491 dX11_ears_59 (ckO_e e_8) mv_X11_hearAll (by exact Nat.le_of_ble_eq_true rfl) (c_X11_hearAll (Nat.le_trans (by decide) he) (ok_mono (ok_bind2 k) fun z_10 h_9 k => ?_))
        try dsimp only at k
        refine wp_if_eq 75 dX11_ears_62 (by decide) (fun c_11 => ?_) (fun c_11 => ?_)
        · replace k := ok_t c_11 k
          replace k := ok_lt k
          refine wp_iinc dX11_ears_75 rfl ic_1 (by decide) (L1 := [_, _, _, _, _, _]) rfl ?_
          refine wp_goto 32 dX11_ears_78 (by decide) ?_
          exact wp_wk (wkE <| wkE <| wkE <| wkE <| wkE <| wkE <| wkN) (hrec _ _ _ _ _ _ _ k)
        · replace k := ok_f c_11 k
          refine wp_iload dX11_ears_65 rfl ?_
          refine wp_callS1 (N := M_X11_ones) mf_X11_ones ms_X11_ones ml_X11_439 dX11_ears_67 (by exact Nat.le_of_ble_eq_true rfl) (c_X11_ones (Nat.le_trans (by decide) he) (ok_mono (ok_bind2 k) fun z_14 h_13 k => ?_))
          try dsimp only at k
          refine wp_istore_n dX11_ears_70 (by decide) (L1 := [_, _, _, _, _, _]) rfl ?_
          refine wp_iload dX11_ears_71 rfl ?_
          refine wp_istore dX11_ears_73 (by decide) (L1 := [_, _, _, _, _, _]) rfl ?_
          replace k := ok_lt k
          refine wp_iinc dX11_ears_75 rfl ic_1 (by decide) (L1 := [_, _, _, _, _, _]) rfl ?_
          refine wp_goto 32 dX11_ears_78 (by decide) ?_
          exact wp_wk (wkE <| wkE <| wkE <| wkE <| wkE <| wkE <| wkN) (hrec _ _ _ _ _ _ _ k)
def f_X11_ears_l32 (S : SH) : Nat → Nat → Int32 → Int32 → Int32 → Int32 → Int32 → AH → Option ((Int32 × Int32 × Int32) × AH)
  | 0, _, _, _, _, _, _, _ => none
  | n + 1, r0, x1, x2, x3, x4, x5, h => f_X11_ears_l32b S (f_X11_ears_l32 S n) r0 x1 x2 x3 x4 x5 h
theorem s_X11_ears_l32 {S : SH} {d cb sb : Nat} {Q : Option Value → AH → Prop} (hd : 3 ≤ d) {K : (Int32 × Int32 × Int32) → AH → Prop} (hex : ∀ (x1 : Int32) (x3 : Int32) (x4 : Int32) (h' : AH), K (x1, x3, x4) h' → WP S M_X11_ears d cb sb Q 81 [JK, .int x1, JK, .int x3, .int x4, JK] [] h') : ∀ (n : Nat) (r0 : Nat) (x1 : Int32) (x2 : Int32) (x3 : Int32) (x4 : Int32) (x5 : Int32) (h : AH), ok (f_X11_ears_l32 S n r0 x1 x2 x3 x4 x5 h) K → WP S M_X11_ears d cb sb Q 32 [.ref r0, .int x1, .int x2, .int x3, .int x4, .int x5] [] h := by
  intro n
  induction n with
  | zero => intro r0 x1 x2 x3 x4 x5 h k; exact ok_none k
  | succ n ih => intro r0 x1 x2 x3 x4 x5 h k; exact s_X11_ears_l32b hd hex (fun r0 x1 x2 x3 x4 x5 h k => ih r0 x1 x2 x3 x4 x5 h k) k
def f_X11_ears (S : SH) (r0 : Nat) (x1 : Int32) (h : AH) : Option (Int32 × AH) :=
  (pI S h r0 11 0 (0 : Int32)).bind fun h_1 =>
  (f_X11_in S (Int32.toInt64 x1) (0 : Int64) (1 : Int64) h_1).bind fun z => match z with
  | (z_4, h_3) =>
  if z_4 = (0 : Int32) then
    some ((-1 : Int32), h_3)
  else
    (ckO S h_3 r0 11).bind fun _ =>
    (f_X11_present S r0 h_3).bind fun z => match z with
    | (z_8, h_7) =>
    (f_X11_ears_l32 S FU r0 x1 z_8 (100000000 : Int32) (0 : Int32) (0 : Int32) h_7).bind fun z => match z with
    | ((x1_10, x3_11, x4_12), h_9) =>
    if x1_10 = (0 : Int32) then
      some (x3_11, h_9)
    else
      some (x4_12, h_9)
set_option maxHeartbeats 8000000 in
set_option maxRecDepth 20000 in
theorem s_X11_ears {S : SH} {d cb sb : Nat} {Q : Option Value → AH → Prop} (hd : 3 ≤ d)  {r0 : Nat} {x1 : Int32} {h : AH} (k : ok (f_X11_ears S r0 x1 h) (fun w h' => Q (some (.int w)) h')) : WP S M_X11_ears d cb sb Q 0 [.ref r0, .int x1, JK, JK, JK, JK] [] h := by
  obtain ⟨d, rfl, he⟩ := dp (L := 2) hd
  unfold f_X11_ears at k
  refine wp_aload_n dX11_ears_0 rfl ?_
  refine wp_iconst dX11_ears_1 ic_0 ?_
  replace k := ok_bind k
  obtain ⟨h_1, e_2, k⟩ := k
  refine wq_putI fl_X11_152 rfl rfl dX11_ears_2 e_2 ?_
  refine wp_iload_n dX11_ears_5 rfl ?_
  refine wp_i2l dX11_ears_6 ?_
  refine wp_lconst dX11_ears_7 lc_0 ?_
  refine wp_lconst dX11_ears_8 lc_1 ?_
  refine wp_callS3 (N := M_X11_in) mf_X11_in ms_X11_in ml_X11_172 dX11_ears_9 (by exact Nat.le_of_ble_eq_true rfl) (c_X11_in (Nat.le_trans (by decide) he) (ok_mono (ok_bind2 k) fun z_4 h_3 k => ?_))
  try dsimp only at k
  refine wp_if_ne 17 dX11_ears_12 (by decide) (fun c_5 => ?_) (fun c_5 => ?_)
  · replace k := ok_f c_5 k
    refine wp_aload_n dX11_ears_17 rfl ?_
    replace k := ok_bind k
    obtain ⟨u, e_6, k⟩ := k
    refine wp_callV0 (N := M_X11_present) (ci := 11) mf_X11_present mi_X11_present me_X11_present ml_X11_488 dX11_ears_18 (ckO_e e_6) mv_X11_present (by exact Nat.le_of_ble_eq_true rfl) (c_X11_present (Nat.le_trans (by decide) he) (ok_mono (ok_bind2 k) fun z_8 h_7 k => ?_))
    try dsimp only at k
    refine wp_istore_n dX11_ears_21 (by decide) (L1 := [_, _, _, _, _, _]) rfl ?_
    refine wp_ldcw ct_X11_481 dX11_ears_22 ?_
    refine wp_istore_n dX11_ears_25 (by decide) (L1 := [_, _, _, _, _, _]) rfl ?_
    refine wp_iconst dX11_ears_26 ic_0 ?_
    refine wp_istore dX11_ears_27 (by decide) (L1 := [_, _, _, _, _, _]) rfl ?_
    refine wp_iconst dX11_ears_29 ic_0 ?_
    refine wp_istore dX11_ears_30 (by decide) (L1 := [_, _, _, _, _, _]) rfl ?_
    refine wp_wk (wkE <| wkE <| wkE <| wkE <| wkE <| wkE <| wkN) ?_
    refine s_X11_ears_l32 (Nat.succ_le_succ he) (fun x1_10 x3_11 x4_12 h_9 k => ?_) FU _ _ _ _ _ _ _ (ok_bind2 k)
    try dsimp only at k
    refine wp_iload_n dX11_ears_81 rfl ?_
    refine wp_if_ne 89 dX11_ears_82 (by decide) (fun c_13 => ?_) (fun c_13 => ?_)
    · replace k := ok_f c_13 k
      refine wp_iload dX11_ears_89 rfl ?_
      refine wp_iret rfl rfl dX11_ears_91 ?_
      exact (ok_some k :)
    · replace k := ok_t c_13 k
      refine wp_iload_n dX11_ears_85 rfl ?_
      refine wp_goto 91 dX11_ears_86 (by decide) ?_
      refine wp_iret rfl rfl dX11_ears_91 ?_
      exact (ok_some k :)
  · replace k := ok_t c_5 k
    refine wp_iconst dX11_ears_15 ic_m1 ?_
    refine wp_iret rfl rfl dX11_ears_16 ?_
    exact (ok_some k :)
theorem c_X11_ears {S : SH} {d : Nat} {K : Option Value → AH → Prop} (hd : 3 ≤ d)  {r0 : Nat} {x1 : Int32} {h : AH} (k : ok (f_X11_ears S r0 x1 h) (fun w h' => K (some (.int w)) h')) : CP S M_X11_ears d 0 0 [.ref r0, .int x1] h K := cp_of (by decide) (fun _ _ => trivial) (fun _ => Nat.le_of_ble_eq_true rfl) (s_X11_ears hd  k)
def f_X11_heardBy_l4b (S : SH) (rc : Nat → Int32 → Int32 → Int32 → AH → Option (Int32 × AH)) (r0 : Nat) (x1 : Int32) (x2 : Int32) (x3 : Int32) (h : AH) : Option (Int32 × AH) :=
  (gR S h r0 11 3).bind fun p_1 =>
  (aI S h p_1 (0 : Int32)).bind fun v_3 =>
  if v_3 ≤ x3 then
    some (x2, h)
  else
    (ckO S h r0 11).bind fun _ =>
    (f_X11_hears S r0 x3 x1 h).bind fun z => match z with
    | (z_8, h_7) =>
    if z_8 = (0 : Int32) then
      lt ((x2 + (0 : Int32))) fun y_10 =>
      lt (x3 + (1 : Int32)) fun y_11 =>
      rc r0 x1 y_10 y_11 h_7
    else
      lt ((x2 + (1 : Int32))) fun y_12 =>
      lt (x3 + (1 : Int32)) fun y_13 =>
      rc r0 x1 y_12 y_13 h_7
set_option maxHeartbeats 8000000 in
set_option maxRecDepth 20000 in
theorem s_X11_heardBy_l4b {S : SH} {d cb sb : Nat} {Q : Option Value → AH → Prop} (hd : 2 ≤ d) {K : Int32 → AH → Prop} (hex : ∀ (x2 : Int32) (h' : AH), K x2 h' → WP S M_X11_heardBy d cb sb Q 37 [JK, JK, .int x2, JK] [] h') {rc : Nat → Int32 → Int32 → Int32 → AH → Option (Int32 × AH)} (hrec : ∀ (r0 : Nat) (x1 : Int32) (x2 : Int32) (x3 : Int32) (h' : AH), ok (rc r0 x1 x2 x3 h') K → WP S M_X11_heardBy d cb sb Q 4 [.ref r0, .int x1, .int x2, .int x3] [] h') {r0 : Nat} {x1 : Int32} {x2 : Int32} {x3 : Int32} {h : AH} (k : ok (f_X11_heardBy_l4b S rc r0 x1 x2 x3 h) K) : WP S M_X11_heardBy d cb sb Q 4 [.ref r0, .int x1, .int x2, .int x3] [] h := by
  obtain ⟨d, rfl, he⟩ := dp (L := 1) hd
  unfold f_X11_heardBy_l4b at k
  refine wp_iload_n dX11_heardBy_4 rfl ?_
  refine wp_aload_n dX11_heardBy_5 rfl ?_
  replace k := ok_bind k
  obtain ⟨p_1, e_2, k⟩ := k
  refine wq_getR fl_X11_13 (Or.inr ⟨_, rfl⟩) dX11_heardBy_6 e_2 ?_
  refine wp_iconst dX11_heardBy_9 ic_0 ?_
  replace k := ok_bind k
  obtain ⟨v_3, e_4, k⟩ := k
  refine wq_aI dX11_heardBy_10 e_4 ?_
  refine wp_icmp_ge 37 dX11_heardBy_11 (by decide) (fun c_5 => ?_) (fun c_5 => ?_)
  · replace k := ok_t c_5 k
    exact wp_wk (wkJ <| wkJ <| wkE <| wkJ <| wkN) (hex _ _ (ok_some k))
  · replace k := ok_f c_5 k
    refine wp_iload_n dX11_heardBy_14 rfl ?_
    refine wp_aload_n dX11_heardBy_15 rfl ?_
    refine wp_iload_n dX11_heardBy_16 rfl ?_
    refine wp_iload_n dX11_heardBy_17 rfl ?_
    replace k := ok_bind k
    obtain ⟨u, e_6, k⟩ := k
    refine wp_callV2 (N := M_X11_hears) (ci := 11) mf_X11_hears mi_X11_hears me_X11_hears ml_X11_204 dX11_heardBy_18 (ckO_e e_6) mv_X11_hears (by exact Nat.le_of_ble_eq_true rfl) (c_X11_hears (Nat.le_trans (by decide) he) (ok_mono (ok_bind2 k) fun z_8 h_7 k => ?_))
    try dsimp only at k
    refine wp_if_eq 28 dX11_heardBy_21 (by decide) (fun c_9 => ?_) (fun c_9 => ?_)
    · replace k := ok_t c_9 k
      refine wp_iconst dX11_heardBy_28 ic_0 ?_
      refine wp_iadd dX11_heardBy_29 ?_
      replace k := ok_lt k
      refine wp_istore_n dX11_heardBy_30 (by decide) (L1 := [_, _, _, _]) rfl ?_
      replace k := ok_lt k
      refine wp_iinc dX11_heardBy_31 rfl ic_1 (by decide) (L1 := [_, _, _, _]) rfl ?_
      refine wp_goto 4 dX11_heardBy_34 (by decide) ?_
      exact wp_wk (wkE <| wkE <| wkE <| wkE <| wkN) (hrec _ _ _ _ _ k)
    · replace k := ok_f c_9 k
      refine wp_iconst dX11_heardBy_24 ic_1 ?_
      refine wp_goto 29 dX11_heardBy_25 (by decide) ?_
      refine wp_iadd dX11_heardBy_29 ?_
      replace k := ok_lt k
      refine wp_istore_n dX11_heardBy_30 (by decide) (L1 := [_, _, _, _]) rfl ?_
      replace k := ok_lt k
      refine wp_iinc dX11_heardBy_31 rfl ic_1 (by decide) (L1 := [_, _, _, _]) rfl ?_
      refine wp_goto 4 dX11_heardBy_34 (by decide) ?_
      exact wp_wk (wkE <| wkE <| wkE <| wkE <| wkN) (hrec _ _ _ _ _ k)
def f_X11_heardBy_l4 (S : SH) : Nat → Nat → Int32 → Int32 → Int32 → AH → Option (Int32 × AH)
  | 0, _, _, _, _, _ => none
  | n + 1, r0, x1, x2, x3, h => f_X11_heardBy_l4b S (f_X11_heardBy_l4 S n) r0 x1 x2 x3 h
theorem s_X11_heardBy_l4 {S : SH} {d cb sb : Nat} {Q : Option Value → AH → Prop} (hd : 2 ≤ d) {K : Int32 → AH → Prop} (hex : ∀ (x2 : Int32) (h' : AH), K x2 h' → WP S M_X11_heardBy d cb sb Q 37 [JK, JK, .int x2, JK] [] h') : ∀ (n : Nat) (r0 : Nat) (x1 : Int32) (x2 : Int32) (x3 : Int32) (h : AH), ok (f_X11_heardBy_l4 S n r0 x1 x2 x3 h) K → WP S M_X11_heardBy d cb sb Q 4 [.ref r0, .int x1, .int x2, .int x3] [] h := by
  intro n
  induction n with
  | zero => intro r0 x1 x2 x3 h k; exact ok_none k
  | succ n ih => intro r0 x1 x2 x3 h k; exact s_X11_heardBy_l4b hd hex (fun r0 x1 x2 x3 h k => ih r0 x1 x2 x3 h k) k
def f_X11_heardBy (S : SH) (r0 : Nat) (x1 : Int32) (h : AH) : Option (Int32 × AH) :=
  (f_X11_heardBy_l4 S FU r0 x1 (0 : Int32) (0 : Int32) h).bind fun z => match z with
  | (x2_2, h_1) =>
  some (x2_2, h_1)
set_option maxHeartbeats 8000000 in
set_option maxRecDepth 20000 in
theorem s_X11_heardBy {S : SH} {d cb sb : Nat} {Q : Option Value → AH → Prop} (hd : 2 ≤ d)  {r0 : Nat} {x1 : Int32} {h : AH} (k : ok (f_X11_heardBy S r0 x1 h) (fun w h' => Q (some (.int w)) h')) : WP S M_X11_heardBy d cb sb Q 0 [.ref r0, .int x1, JK, JK] [] h := by
  obtain ⟨d, rfl, he⟩ := dp (L := 1) hd
  unfold f_X11_heardBy at k
  refine wp_iconst dX11_heardBy_0 ic_0 ?_
  refine wp_istore_n dX11_heardBy_1 (by decide) (L1 := [_, _, _, _]) rfl ?_
  refine wp_iconst dX11_heardBy_2 ic_0 ?_
  refine wp_istore_n dX11_heardBy_3 (by decide) (L1 := [_, _, _, _]) rfl ?_
  refine wp_wk (wkE <| wkE <| wkE <| wkE <| wkN) ?_
  refine s_X11_heardBy_l4 (Nat.succ_le_succ he) (fun x2_2 h_1 k => ?_) FU _ _ _ _ _ (ok_bind2 k)
  try dsimp only at k
  refine wp_iload_n dX11_heardBy_37 rfl ?_
  refine wp_iret rfl rfl dX11_heardBy_38 ?_
  exact (ok_some k :)
theorem c_X11_heardBy {S : SH} {d : Nat} {K : Option Value → AH → Prop} (hd : 2 ≤ d)  {r0 : Nat} {x1 : Int32} {h : AH} (k : ok (f_X11_heardBy S r0 x1 h) (fun w h' => K (some (.int w)) h')) : CP S M_X11_heardBy d 0 0 [.ref r0, .int x1] h K := cp_of (by decide) (fun _ _ => trivial) (fun _ => Nat.le_of_ble_eq_true rfl) (s_X11_heardBy hd  k)
def f_X11_loudest_l24b (S : SH) (rc : Nat → Int32 → Int32 → Int32 → Int32 → AH → Option ((Int32 × Int32 × Int32) × AH)) (r0 : Nat) (x1 : Int32) (x2 : Int32) (x3 : Int32) (x4 : Int32) (h : AH) : Option ((Int32 × Int32 × Int32) × AH) :=
  (gR S h r0 11 3).bind fun p_1 =>
  (aI S h p_1 (0 : Int32)).bind fun v_3 =>
  if v_3 ≤ x4 then
    some ((x1, x2, x3), h)
  else
    (ckO S h r0 11).bind fun _ =>
    (f_X11_heardBy S r0 x4 h).bind fun z => match z with
    | (z_8, h_7) =>
    if z_8 ≤ x2 then
      if z_8 ≤ x2 then
        lt (x4 + (1 : Int32)) fun y_11 =>
        rc r0 x1 x2 x3 y_11 h_7
      else
        lt (x4 + (1 : Int32)) fun y_12 =>
        rc r0 x1 z_8 x3 y_12 h_7
    else
      if z_8 ≤ x2 then
        lt (x4 + (1 : Int32)) fun y_14 =>
        rc r0 x1 x2 x4 y_14 h_7
      else
        lt (x4 + (1 : Int32)) fun y_15 =>
        rc r0 x1 z_8 x4 y_15 h_7
set_option maxHeartbeats 8000000 in
set_option maxRecDepth 20000 in
theorem s_X11_loudest_l24b {S : SH} {d cb sb : Nat} {Q : Option Value → AH → Prop} (hd : 3 ≤ d) {K : (Int32 × Int32 × Int32) → AH → Prop} (hex : ∀ (x1 : Int32) (x2 : Int32) (x3 : Int32) (h' : AH), K (x1, x2, x3) h' → WP S M_X11_loudest d cb sb Q 75 [JK, .int x1, .int x2, .int x3, JK, JK] [] h') {rc : Nat → Int32 → Int32 → Int32 → Int32 → AH → Option ((Int32 × Int32 × Int32) × AH)} (hrec : ∀ (r0 : Nat) (x1 : Int32) (x2 : Int32) (x3 : Int32) (x4 : Int32) (h' : AH), ok (rc r0 x1 x2 x3 x4 h') K → WP S M_X11_loudest d cb sb Q 24 [.ref r0, .int x1, .int x2, .int x3, .int x4, JK] [] h') {r0 : Nat} {x1 : Int32} {x2 : Int32} {x3 : Int32} {x4 : Int32} {h : AH} (k : ok (f_X11_loudest_l24b S rc r0 x1 x2 x3 x4 h) K) : WP S M_X11_loudest d cb sb Q 24 [.ref r0, .int x1, .int x2, .int x3, .int x4, JK] [] h := by
  obtain ⟨d, rfl, he⟩ := dp (L := 2) hd
  unfold f_X11_loudest_l24b at k
  refine wp_iload dX11_loudest_24 rfl ?_
  refine wp_aload_n dX11_loudest_26 rfl ?_
  replace k := ok_bind k
  obtain ⟨p_1, e_2, k⟩ := k
  refine wq_getR fl_X11_13 (Or.inr ⟨_, rfl⟩) dX11_loudest_27 e_2 ?_
  refine wp_iconst dX11_loudest_30 ic_0 ?_
  replace k := ok_bind k
  obtain ⟨v_3, e_4, k⟩ := k
  refine wq_aI dX11_loudest_31 e_4 ?_
  refine wp_icmp_ge 75 dX11_loudest_32 (by decide) (fun c_5 => ?_) (fun c_5 => ?_)
  · replace k := ok_t c_5 k
    exact wp_wk (wkJ <| wkE <| wkE <| wkE <| wkJ <| wkJ <| wkN) (hex _ _ _ _ (ok_some k))
  · replace k := ok_f c_5 k
    refine wp_aload_n dX11_loudest_35 rfl ?_
    refine wp_iload dX11_loudest_36 rfl ?_
    replace k := ok_bind k
    obtain ⟨u, e_6, k⟩ := k
    refine wp_callV1 (N := M_X11_heardBy) (ci := 11) mf_X11_heardBy mi_X11_heardBy me_X11_heardBy ml_X11_494 dX11_loudest_38 (ckO_e e_6) mv_X11_heardBy (by exact Nat.le_of_ble_eq_true rfl) (c_X11_heardBy (Nat.le_trans (by decide) he) (ok_mono (ok_bind2 k) fun z_8 h_7 k => ?_))
    try dsimp only at k
    refine wp_istore dX11_loudest_41 (by decide) (L1 := [_, _, _, _, _, _]) rfl ?_
    refine wp_iload dX11_loudest_43 rfl ?_
    refine wp_iload_n dX11_loudest_45 rfl ?_
    refine wp_icmp_le 54 dX11_loudest_46 (by decide) (fun c_9 => ?_) (fun c_9 => ?_)
    · replace k := ok_t c_9 k
      refine wp_iload_n dX11_loudest_54 rfl ?_
      refine wp_istore_n dX11_loudest_55 (by decide) (L1 := [_, _, _, _, _, _]) rfl ?_
      refine wp_iload dX11_loudest_56 rfl ?_
      refine wp_iload_n dX11_loudest_58 rfl ?_
      refine wp_icmp_le 67 dX11_loudest_59 (by decide) (fun c_10 => ?_) (fun c_10 => ?_)
      · replace k := ok_t c_10 k
        refine wp_iload_n dX11_loudest_67 rfl ?_
        refine wp_istore_n dX11_loudest_68 (by decide) (L1 := [_, _, _, _, _, _]) rfl ?_
        replace k := ok_lt k
        refine wp_iinc dX11_loudest_69 rfl ic_1 (by decide) (L1 := [_, _, _, _, _, _]) rfl ?_
        refine wp_goto 24 dX11_loudest_72 (by decide) ?_
        exact wp_wk (wkE <| wkE <| wkE <| wkE <| wkE <| wkJ <| wkN) (hrec _ _ _ _ _ _ k)
      · replace k := ok_f c_10 k
        refine wp_iload dX11_loudest_62 rfl ?_
        refine wp_goto 68 dX11_loudest_64 (by decide) ?_
        refine wp_istore_n dX11_loudest_68 (by decide) (L1 := [_, _, _, _, _, _]) rfl ?_
        replace k := ok_lt k
        refine wp_iinc dX11_loudest_69 rfl ic_1 (by decide) (L1 := [_, _, _, _, _, _]) rfl ?_
        refine wp_goto 24 dX11_loudest_72 (by decide) ?_
        exact wp_wk (wkE <| wkE <| wkE <| wkE <| wkE <| wkJ <| wkN) (hrec _ _ _ _ _ _ k)
    · replace k := ok_f c_9 k
      refine wp_iload dX11_loudest_49 rfl ?_
      refine wp_goto 55 dX11_loudest_51 (by decide) ?_
      refine wp_istore_n dX11_loudest_55 (by decide) (L1 := [_, _, _, _, _, _]) rfl ?_
      refine wp_iload dX11_loudest_56 rfl ?_
      refine wp_iload_n dX11_loudest_58 rfl ?_
      refine wp_icmp_le 67 dX11_loudest_59 (by decide) (fun c_13 => ?_) (fun c_13 => ?_)
      · replace k := ok_t c_13 k
        refine wp_iload_n dX11_loudest_67 rfl ?_
        refine wp_istore_n dX11_loudest_68 (by decide) (L1 := [_, _, _, _, _, _]) rfl ?_
        replace k := ok_lt k
        refine wp_iinc dX11_loudest_69 rfl ic_1 (by decide) (L1 := [_, _, _, _, _, _]) rfl ?_
        refine wp_goto 24 dX11_loudest_72 (by decide) ?_
        exact wp_wk (wkE <| wkE <| wkE <| wkE <| wkE <| wkJ <| wkN) (hrec _ _ _ _ _ _ k)
      · replace k := ok_f c_13 k
        refine wp_iload dX11_loudest_62 rfl ?_
        refine wp_goto 68 dX11_loudest_64 (by decide) ?_
        refine wp_istore_n dX11_loudest_68 (by decide) (L1 := [_, _, _, _, _, _]) rfl ?_
        replace k := ok_lt k
        refine wp_iinc dX11_loudest_69 rfl ic_1 (by decide) (L1 := [_, _, _, _, _, _]) rfl ?_
        refine wp_goto 24 dX11_loudest_72 (by decide) ?_
        exact wp_wk (wkE <| wkE <| wkE <| wkE <| wkE <| wkJ <| wkN) (hrec _ _ _ _ _ _ k)
def f_X11_loudest_l24 (S : SH) : Nat → Nat → Int32 → Int32 → Int32 → Int32 → AH → Option ((Int32 × Int32 × Int32) × AH)
  | 0, _, _, _, _, _, _ => none
  | n + 1, r0, x1, x2, x3, x4, h => f_X11_loudest_l24b S (f_X11_loudest_l24 S n) r0 x1 x2 x3 x4 h
theorem s_X11_loudest_l24 {S : SH} {d cb sb : Nat} {Q : Option Value → AH → Prop} (hd : 3 ≤ d) {K : (Int32 × Int32 × Int32) → AH → Prop} (hex : ∀ (x1 : Int32) (x2 : Int32) (x3 : Int32) (h' : AH), K (x1, x2, x3) h' → WP S M_X11_loudest d cb sb Q 75 [JK, .int x1, .int x2, .int x3, JK, JK] [] h') : ∀ (n : Nat) (r0 : Nat) (x1 : Int32) (x2 : Int32) (x3 : Int32) (x4 : Int32) (h : AH), ok (f_X11_loudest_l24 S n r0 x1 x2 x3 x4 h) K → WP S M_X11_loudest d cb sb Q 24 [.ref r0, .int x1, .int x2, .int x3, .int x4, JK] [] h := by
  intro n
  induction n with
  | zero => intro r0 x1 x2 x3 x4 h k; exact ok_none k
  | succ n ih => intro r0 x1 x2 x3 x4 h k; exact s_X11_loudest_l24b hd hex (fun r0 x1 x2 x3 x4 h k => ih r0 x1 x2 x3 x4 h k) k
def f_X11_loudest (S : SH) (r0 : Nat) (x1 : Int32) (h : AH) : Option (Int32 × AH) :=
  (pI S h r0 11 0 (0 : Int32)).bind fun h_1 =>
  (f_X11_in S (Int32.toInt64 x1) (0 : Int64) (1 : Int64) h_1).bind fun z => match z with
  | (z_4, h_3) =>
  if z_4 = (0 : Int32) then
    some ((-1 : Int32), h_3)
  else
    (f_X11_loudest_l24 S FU r0 x1 (-1 : Int32) (-1 : Int32) (0 : Int32) h_3).bind fun z => match z with
    | ((x1_7, x2_8, x3_9), h_6) =>
    if x1_7 = (0 : Int32) then
      some (x3_9, h_6)
    else
      some (x2_8, h_6)
set_option maxHeartbeats 8000000 in
set_option maxRecDepth 20000 in
theorem s_X11_loudest {S : SH} {d cb sb : Nat} {Q : Option Value → AH → Prop} (hd : 3 ≤ d)  {r0 : Nat} {x1 : Int32} {h : AH} (k : ok (f_X11_loudest S r0 x1 h) (fun w h' => Q (some (.int w)) h')) : WP S M_X11_loudest d cb sb Q 0 [.ref r0, .int x1, JK, JK, JK, JK] [] h := by
  obtain ⟨d, rfl, he⟩ := dp (L := 2) hd
  unfold f_X11_loudest at k
  refine wp_aload_n dX11_loudest_0 rfl ?_
  refine wp_iconst dX11_loudest_1 ic_0 ?_
  replace k := ok_bind k
  obtain ⟨h_1, e_2, k⟩ := k
  refine wq_putI fl_X11_152 rfl rfl dX11_loudest_2 e_2 ?_
  refine wp_iload_n dX11_loudest_5 rfl ?_
  refine wp_i2l dX11_loudest_6 ?_
  refine wp_lconst dX11_loudest_7 lc_0 ?_
  refine wp_lconst dX11_loudest_8 lc_1 ?_
  refine wp_callS3 (N := M_X11_in) mf_X11_in ms_X11_in ml_X11_172 dX11_loudest_9 (by exact Nat.le_of_ble_eq_true rfl) (c_X11_in (Nat.le_trans (by decide) he) (ok_mono (ok_bind2 k) fun z_4 h_3 k => ?_))
  try dsimp only at k
  refine wp_if_ne 17 dX11_loudest_12 (by decide) (fun c_5 => ?_) (fun c_5 => ?_)
  · replace k := ok_f c_5 k
    refine wp_iconst dX11_loudest_17 ic_m1 ?_
    refine wp_istore_n dX11_loudest_18 (by decide) (L1 := [_, _, _, _, _, _]) rfl ?_
    refine wp_iconst dX11_loudest_19 ic_m1 ?_
    refine wp_istore_n dX11_loudest_20 (by decide) (L1 := [_, _, _, _, _, _]) rfl ?_
    refine wp_iconst dX11_loudest_21 ic_0 ?_
    refine wp_istore dX11_loudest_22 (by decide) (L1 := [_, _, _, _, _, _]) rfl ?_
    refine wp_wk (wkE <| wkE <| wkE <| wkE <| wkE <| wkJ <| wkN) ?_
    refine s_X11_loudest_l24 (Nat.succ_le_succ he) (fun x1_7 x2_8 x3_9 h_6 k => ?_) FU _ _ _ _ _ _ (ok_bind2 k)
    try dsimp only at k
    refine wp_iload_n dX11_loudest_75 rfl ?_
    refine wp_if_ne 83 dX11_loudest_76 (by decide) (fun c_10 => ?_) (fun c_10 => ?_)
    · replace k := ok_f c_10 k
      refine wp_iload_n dX11_loudest_83 rfl ?_
      refine wp_iret rfl rfl dX11_loudest_84 ?_
      exact (ok_some k :)
    · replace k := ok_t c_10 k
      refine wp_iload_n dX11_loudest_79 rfl ?_
      refine wp_goto 84 dX11_loudest_80 (by decide) ?_
      refine wp_iret rfl rfl dX11_loudest_84 ?_
      exact (ok_some k :)
  · replace k := ok_t c_5 k
    refine wp_iconst dX11_loudest_15 ic_m1 ?_
    refine wp_iret rfl rfl dX11_loudest_16 ?_
    exact (ok_some k :)
theorem c_X11_loudest {S : SH} {d : Nat} {K : Option Value → AH → Prop} (hd : 3 ≤ d)  {r0 : Nat} {x1 : Int32} {h : AH} (k : ok (f_X11_loudest S r0 x1 h) (fun w h' => K (some (.int w)) h')) : CP S M_X11_loudest d 0 0 [.ref r0, .int x1] h K := cp_of (by decide) (fun _ _ => trivial) (fun _ => Nat.le_of_ble_eq_true rfl) (s_X11_loudest hd  k)
def f_X11_nearest_l56_j94 (S : SH) (rc : Nat → Int32 → Int32 → Int32 → Int32 → Int32 → Int32 → Int32 → AH → Option ((Nat × Int32 × Int32 × Int32) × AH)) (r0 : Nat) (x1 : Int32) (x2 : Int32) (x3 : Int32) (x4 : Int32) (x5 : Int32) (x6 : Int32) (x7 : Int32) (sx0 : Int32) (h : AH) : Option ((Nat × Int32 × Int32 × Int32) × AH) :=
  if x5 ≤ sx0 then
    lt (x7 + (1 : Int32)) fun y_2 =>
    rc r0 x1 x2 x3 x4 x5 x6 y_2 h
  else
    (ckO S h r0 11).bind fun _ =>
    (f_X11_sits S r0 x1 x2 h).bind fun z => match z with
    | (z_5, h_4) =>
    if z_5 = (0 : Int32) then
      lt (x7 + (1 : Int32)) fun y_7 =>
      rc r0 x1 x2 x3 x4 x5 x6 y_7 h_4
    else
      (ckO S h_4 r0 11).bind fun _ =>
      (f_X11_seconder S r0 x2 x1 h_4).bind fun z => match z with
      | (z_10, h_9) =>
      if z_10 = (-1 : Int32) then
        lt (x7 + (1 : Int32)) fun y_12 =>
        rc r0 x1 x2 x3 x4 x5 x6 y_12 h_9
      else
        lt (x7 + (1 : Int32)) fun y_13 =>
        rc r0 x1 x2 x3 x4 sx0 x7 y_13 h_9
set_option maxHeartbeats 8000000 in
set_option maxRecDepth 20000 in
theorem s_X11_nearest_l56_j94 {S : SH} {d cb sb : Nat} {Q : Option Value → AH → Prop} (hd : 8 ≤ d) {K : (Nat × Int32 × Int32 × Int32) → AH → Prop} (hex : ∀ (r0 : Nat) (x1 : Int32) (x3 : Int32) (x6 : Int32) (h' : AH), K (r0, x1, x3, x6) h' → WP S M_X11_nearest d cb sb Q 136 [.ref r0, .int x1, JK, .int x3, JK, JK, .int x6, JK, JK] [] h') {rc : Nat → Int32 → Int32 → Int32 → Int32 → Int32 → Int32 → Int32 → AH → Option ((Nat × Int32 × Int32 × Int32) × AH)} (hrec : ∀ (r0 : Nat) (x1 : Int32) (x2 : Int32) (x3 : Int32) (x4 : Int32) (x5 : Int32) (x6 : Int32) (x7 : Int32) (h' : AH), ok (rc r0 x1 x2 x3 x4 x5 x6 x7 h') K → WP S M_X11_nearest d cb sb Q 56 [.ref r0, .int x1, .int x2, .int x3, .int x4, .int x5, .int x6, .int x7, JK] [] h') {r0 : Nat} {x1 : Int32} {x2 : Int32} {x3 : Int32} {x4 : Int32} {x5 : Int32} {x6 : Int32} {x7 : Int32} {sx0 : Int32} {h : AH} (k : ok (f_X11_nearest_l56_j94 S rc r0 x1 x2 x3 x4 x5 x6 x7 sx0 h) K) : WP S M_X11_nearest d cb sb Q 94 [.ref r0, .int x1, .int x2, .int x3, .int x4, .int x5, .int x6, .int x7, JK] [.int sx0] h := by
  obtain ⟨d, rfl, he⟩ := dp (L := 7) hd
  unfold f_X11_nearest_l56_j94 at k
  refine wp_istore dX11_nearest_94 (by decide) (L1 := [_, _, _, _, _, _, _, _, _]) rfl ?_
  refine wp_iload dX11_nearest_96 rfl ?_
  refine wp_iload dX11_nearest_98 rfl ?_
  refine wp_icmp_ge 130 dX11_nearest_100 (by decide) (fun c_1 => ?_) (fun c_1 => ?_)
  · replace k := ok_t c_1 k
    replace k := ok_lt k
    refine wp_iinc dX11_nearest_130 rfl ic_1 (by decide) (L1 := [_, _, _, _, _, _, _, _, _]) rfl ?_
    refine wp_goto 56 dX11_nearest_133 (by decide) ?_
    exact wp_wk (wkE <| wkE <| wkE <| wkE <| wkE <| wkE <| wkE <| wkE <| wkJ <| wkN) (hrec _ _ _ _ _ _ _ _ _ k)
  · replace k := ok_f c_1 k
    refine wp_aload_n dX11_nearest_103 rfl ?_
    refine wp_iload_n dX11_nearest_104 rfl ?_
    refine wp_iload_n dX11_nearest_105 rfl ?_
    replace k := ok_bind k
    obtain ⟨u, e_3, k⟩ := k
    refine wp_callV2 (N := M_X11_sits) (ci := 11) mf_X11_sits mi_X11_sits me_X11_sits ml_X11_219 dX11_nearest_106 (ckO_e e_3) mv_X11_sits (by exact Nat.le_of_ble_eq_true rfl) (c_X11_sits (Nat.le_trans (by decide) he) (ok_mono (ok_bind2 k) fun z_5 h_4 k => ?_))
    try dsimp only at k
    refine wp_if_eq 130 dX11_nearest_109 (by decide) (fun c_6 => ?_) (fun c_6 => ?_)
    · replace k := ok_t c_6 k
      replace k := ok_lt k
      refine wp_iinc dX11_nearest_130 rfl ic_1 (by decide) (L1 := [_, _, _, _, _, _, _, _, _]) rfl ?_
      refine wp_goto 56 dX11_nearest_133 (by decide) ?_
      exact wp_wk (wkE <| wkE <| wkE <| wkE <| wkE <| wkE <| wkE <| wkE <| wkJ <| wkN) (hrec _ _ _ _ _ _ _ _ _ k)
    · replace k := ok_f c_6 k
      refine wp_aload_n dX11_nearest_112 rfl ?_
      refine wp_iload_n dX11_nearest_113 rfl ?_
      refine wp_iload_n dX11_nearest_114 rfl ?_
      replace k := ok_bind k
      obtain ⟨u, e_8, k⟩ := k
      refine wp_callV2 (N := M_X11_seconder) (ci := 11) mf_X11_seconder mi_X11_seconder me_X11_seconder ml_X11_445 dX11_nearest_115 (ckO_e e_8) mv_X11_seconder (by exact Nat.le_of_ble_eq_true rfl) (c_X11_seconder (Nat.le_trans (by decide) he) (ok_mono (ok_bind2 k) fun z_10 h_9 k => ?_))
      try dsimp only at k
      refine wp_iconst dX11_nearest_118 ic_m1 ?_
      refine wp_icmp_eq 130 dX11_nearest_119 (by decide) (fun c_11 => ?_) (fun c_11 => ?_)
      · replace k := ok_t c_11 k
        replace k := ok_lt k
        refine wp_iinc dX11_nearest_130 rfl ic_1 (by decide) (L1 := [_, _, _, _, _, _, _, _, _]) rfl ?_
        refine wp_goto 56 dX11_nearest_133 (by decide) ?_
        exact wp_wk (wkE <| wkE <| wkE <| wkE <| wkE <| wkE <| wkE <| wkE <| wkJ <| wkN) (hrec _ _ _ _ _ _ _ _ _ k)
      · replace k := ok_f c_11 k
        refine wp_iload dX11_nearest_122 rfl ?_
        refine wp_istore dX11_nearest_124 (by decide) (L1 := [_, _, _, _, _, _, _, _, _]) rfl ?_
        refine wp_iload dX11_nearest_126 rfl ?_
        refine wp_istore dX11_nearest_128 (by decide) (L1 := [_, _, _, _, _, _, _, _, _]) rfl ?_
        replace k := ok_lt k
        refine wp_iinc dX11_nearest_130 rfl ic_1 (by decide) (L1 := [_, _, _, _, _, _, _, _, _]) rfl ?_
        refine wp_goto 56 dX11_nearest_133 (by decide) ?_
        exact wp_wk (wkE <| wkE <| wkE <| wkE <| wkE <| wkE <| wkE <| wkE <| wkJ <| wkN) (hrec _ _ _ _ _ _ _ _ _ k)
def f_X11_nearest_l56b (S : SH) (rc : Nat → Int32 → Int32 → Int32 → Int32 → Int32 → Int32 → Int32 → AH → Option ((Nat × Int32 × Int32 × Int32) × AH)) (r0 : Nat) (x1 : Int32) (x2 : Int32) (x3 : Int32) (x4 : Int32) (x5 : Int32) (x6 : Int32) (x7 : Int32) (h : AH) : Option ((Nat × Int32 × Int32 × Int32) × AH) :=
  if (20 : Int32) ≤ x7 then
    some ((r0, x1, x3, x6), h)
  else
    (gR S h r0 11 3).bind fun p_2 =>
    (sI S h p_2 ((10 : Int32) + x1) x7).bind fun h_4 =>
    if x4 ≤ x7 then
      f_X11_nearest_l56_j94 S rc r0 x1 x2 x3 x4 x5 x6 x7 (x7 - x4) h_4
    else
      f_X11_nearest_l56_j94 S rc r0 x1 x2 x3 x4 x5 x6 x7 (x4 - x7) h_4
set_option maxHeartbeats 8000000 in
set_option maxRecDepth 20000 in
theorem s_X11_nearest_l56b {S : SH} {d cb sb : Nat} {Q : Option Value → AH → Prop} (hd : 8 ≤ d) {K : (Nat × Int32 × Int32 × Int32) → AH → Prop} (hex : ∀ (r0 : Nat) (x1 : Int32) (x3 : Int32) (x6 : Int32) (h' : AH), K (r0, x1, x3, x6) h' → WP S M_X11_nearest d cb sb Q 136 [.ref r0, .int x1, JK, .int x3, JK, JK, .int x6, JK, JK] [] h') {rc : Nat → Int32 → Int32 → Int32 → Int32 → Int32 → Int32 → Int32 → AH → Option ((Nat × Int32 × Int32 × Int32) × AH)} (hrec : ∀ (r0 : Nat) (x1 : Int32) (x2 : Int32) (x3 : Int32) (x4 : Int32) (x5 : Int32) (x6 : Int32) (x7 : Int32) (h' : AH), ok (rc r0 x1 x2 x3 x4 x5 x6 x7 h') K → WP S M_X11_nearest d cb sb Q 56 [.ref r0, .int x1, .int x2, .int x3, .int x4, .int x5, .int x6, .int x7, JK] [] h') {r0 : Nat} {x1 : Int32} {x2 : Int32} {x3 : Int32} {x4 : Int32} {x5 : Int32} {x6 : Int32} {x7 : Int32} {h : AH} (k : ok (f_X11_nearest_l56b S rc r0 x1 x2 x3 x4 x5 x6 x7 h) K) : WP S M_X11_nearest d cb sb Q 56 [.ref r0, .int x1, .int x2, .int x3, .int x4, .int x5, .int x6, .int x7, JK] [] h := by
  obtain ⟨d, rfl, he⟩ := dp (L := 7) hd
  unfold f_X11_nearest_l56b at k
  refine wp_iload dX11_nearest_56 rfl ?_
  refine wp_bipush dX11_nearest_58 bp_20 ?_
  refine wp_icmp_ge 136 dX11_nearest_60 (by decide) (fun c_1 => ?_) (fun c_1 => ?_)
  · replace k := ok_t c_1 k
    exact wp_wk (wkE <| wkE <| wkJ <| wkE <| wkJ <| wkJ <| wkE <| wkJ <| wkJ <| wkN) (hex _ _ _ _ _ (ok_some k))
  · replace k := ok_f c_1 k
    refine wp_aload_n dX11_nearest_63 rfl ?_
    replace k := ok_bind k
    obtain ⟨p_2, e_3, k⟩ := k
    refine wq_getR fl_X11_13 (Or.inr ⟨_, rfl⟩) dX11_nearest_64 e_3 ?_
    refine wp_bipush dX11_nearest_67 bp_10 ?_
    refine wp_iload_n dX11_nearest_69 rfl ?_
    refine wp_iadd dX11_nearest_70 ?_
    refine wp_iload dX11_nearest_71 rfl ?_
    replace k := ok_bind k
    obtain ⟨h_4, e_5, k⟩ := k
    refine wq_sI dX11_nearest_73 e_5 ?_
    refine wp_iload dX11_nearest_74 rfl ?_
    refine wp_iload dX11_nearest_76 rfl ?_
    refine wp_icmp_ge 89 dX11_nearest_78 (by decide) (fun c_6 => ?_) (fun c_6 => ?_)
    · replace k := ok_t c_6 k
      refine wp_iload dX11_nearest_89 rfl ?_
      refine wp_iload dX11_nearest_91 rfl ?_
      refine wp_isub dX11_nearest_93 ?_
      exact wp_wk (wkE <| wkE <| wkE <| wkE <| wkE <| wkE <| wkE <| wkE <| wkJ <| wkN) (s_X11_nearest_l56_j94 (Nat.succ_le_succ he) hex hrec k)
    · replace k := ok_f c_6 k
      refine wp_iload dX11_nearest_81 rfl ?_
      refine wp_iload dX11_nearest_83 rfl ?_
      refine wp_isub dX11_nearest_85 ?_
      refine wp_goto 94 dX11_nearest_86 (by decide) ?_
      exact wp_wk (wkE <| wkE <| wkE <| wkE <| wkE <| wkE <| wkE <| wkE <| wkJ <| wkN) (s_X11_nearest_l56_j94 (Nat.succ_le_succ he) hex hrec k)
def f_X11_nearest_l56 (S : SH) : Nat → Nat → Int32 → Int32 → Int32 → Int32 → Int32 → Int32 → Int32 → AH → Option ((Nat × Int32 × Int32 × Int32) × AH)
  | 0, _, _, _, _, _, _, _, _, _ => none
  | n + 1, r0, x1, x2, x3, x4, x5, x6, x7, h => f_X11_nearest_l56b S (f_X11_nearest_l56 S n) r0 x1 x2 x3 x4 x5 x6 x7 h
theorem s_X11_nearest_l56 {S : SH} {d cb sb : Nat} {Q : Option Value → AH → Prop} (hd : 8 ≤ d) {K : (Nat × Int32 × Int32 × Int32) → AH → Prop} (hex : ∀ (r0 : Nat) (x1 : Int32) (x3 : Int32) (x6 : Int32) (h' : AH), K (r0, x1, x3, x6) h' → WP S M_X11_nearest d cb sb Q 136 [.ref r0, .int x1, JK, .int x3, JK, JK, .int x6, JK, JK] [] h') : ∀ (n : Nat) (r0 : Nat) (x1 : Int32) (x2 : Int32) (x3 : Int32) (x4 : Int32) (x5 : Int32) (x6 : Int32) (x7 : Int32) (h : AH), ok (f_X11_nearest_l56 S n r0 x1 x2 x3 x4 x5 x6 x7 h) K → WP S M_X11_nearest d cb sb Q 56 [.ref r0, .int x1, .int x2, .int x3, .int x4, .int x5, .int x6, .int x7, JK] [] h := by
  intro n
  induction n with
  | zero => intro r0 x1 x2 x3 x4 x5 x6 x7 h k; exact ok_none k
  | succ n ih => intro r0 x1 x2 x3 x4 x5 x6 x7 h k; exact s_X11_nearest_l56b hd hex (fun r0 x1 x2 x3 x4 x5 x6 x7 h k => ih r0 x1 x2 x3 x4 x5 x6 x7 h k) k
def f_X11_nearest_j43 (S : SH) (r0 : Nat) (x1 : Int32) (x2 : Int32) (x3 : Int32) (sx0 : Int32) (h : AH) : Option (Int32 × AH) :=
  (f_X11_nearest_l56 S FU r0 x1 x2 x3 sx0 (100000000 : Int32) (-1 : Int32) (0 : Int32) h).bind fun z => match z with
  | ((r0_2, x1_3, x3_4, x6_5), h_1) =>
  (gR S h_1 r0_2 11 3).bind fun p_6 =>
  (sI S h_1 p_6 ((10 : Int32) + x1_3) x3_4).bind fun h_8 =>
  some (x6_5, h_8)
set_option maxHeartbeats 8000000 in
set_option maxRecDepth 20000 in
theorem s_X11_nearest_j43 {S : SH} {d cb sb : Nat} {Q : Option Value → AH → Prop} (hd : 8 ≤ d)  {r0 : Nat} {x1 : Int32} {x2 : Int32} {x3 : Int32} {sx0 : Int32} {h : AH} (k : ok (f_X11_nearest_j43 S r0 x1 x2 x3 sx0 h) (fun w h' => Q (some (.int w)) h')) : WP S M_X11_nearest d cb sb Q 43 [.ref r0, .int x1, .int x2, .int x3, JK, JK, JK, JK, JK] [.int sx0] h := by
  obtain ⟨d, rfl, he⟩ := dp (L := 7) hd
  unfold f_X11_nearest_j43 at k
  refine wp_istore dX11_nearest_43 (by decide) (L1 := [_, _, _, _, _, _, _, _, _]) rfl ?_
  refine wp_ldcw ct_X11_481 dX11_nearest_45 ?_
  refine wp_istore dX11_nearest_48 (by decide) (L1 := [_, _, _, _, _, _, _, _, _]) rfl ?_
  refine wp_iconst dX11_nearest_50 ic_m1 ?_
  refine wp_istore dX11_nearest_51 (by decide) (L1 := [_, _, _, _, _, _, _, _, _]) rfl ?_
  refine wp_iconst dX11_nearest_53 ic_0 ?_
  refine wp_istore dX11_nearest_54 (by decide) (L1 := [_, _, _, _, _, _, _, _, _]) rfl ?_
  refine wp_wk (wkE <| wkE <| wkE <| wkE <| wkE <| wkE <| wkE <| wkE <| wkJ <| wkN) ?_
  refine s_X11_nearest_l56 (Nat.succ_le_succ he) (fun r0_2 x1_3 x3_4 x6_5 h_1 k => ?_) FU _ _ _ _ _ _ _ _ _ (ok_bind2 k)
  try dsimp only at k
  refine wp_aload_n dX11_nearest_136 rfl ?_
  replace k := ok_bind k
  obtain ⟨p_6, e_7, k⟩ := k
  refine wq_getR fl_X11_13 (Or.inr ⟨_, rfl⟩) dX11_nearest_137 e_7 ?_
  refine wp_bipush dX11_nearest_140 bp_10 ?_
  refine wp_iload_n dX11_nearest_142 rfl ?_
  refine wp_iadd dX11_nearest_143 ?_
  refine wp_iload_n dX11_nearest_144 rfl ?_
  replace k := ok_bind k
  obtain ⟨h_8, e_9, k⟩ := k
  refine wq_sI dX11_nearest_145 e_9 ?_
  refine wp_iload dX11_nearest_146 rfl ?_
  refine wp_iret rfl rfl dX11_nearest_148 ?_
  exact (ok_some k :)
def f_X11_nearest (S : SH) (r0 : Nat) (x1 : Int32) (x2 : Int32) (h : AH) : Option (Int32 × AH) :=
  (pI S h r0 11 0 (0 : Int32)).bind fun h_1 =>
  (ckO S h_1 r0 11).bind fun _ =>
  (f_X11_isBird S r0 x1 h_1).bind fun z => match z with
  | (z_5, h_4) =>
  if z_5 = (0 : Int32) then
    some ((-1 : Int32), h_4)
  else
    (ckO S h_4 r0 11).bind fun _ =>
    (f_X11_isMatter S r0 x2 h_4).bind fun z => match z with
    | (z_9, h_8) =>
    if z_9 = (0 : Int32) then
      some ((-1 : Int32), h_8)
    else
      (gR S h_8 r0 11 3).bind fun p_11 =>
      (aI S h_8 p_11 ((10 : Int32) + x1)).bind fun v_13 =>
      if v_13 = (-1 : Int32) then
        f_X11_nearest_j43 S r0 x1 x2 v_13 (0 : Int32) h_8
      else
        f_X11_nearest_j43 S r0 x1 x2 v_13 v_13 h_8
set_option maxHeartbeats 8000000 in
set_option maxRecDepth 20000 in
theorem s_X11_nearest {S : SH} {d cb sb : Nat} {Q : Option Value → AH → Prop} (hd : 8 ≤ d)  {r0 : Nat} {x1 : Int32} {x2 : Int32} {h : AH} (k : ok (f_X11_nearest S r0 x1 x2 h) (fun w h' => Q (some (.int w)) h')) : WP S M_X11_nearest d cb sb Q 0 [.ref r0, .int x1, .int x2, JK, JK, JK, JK, JK, JK] [] h := by
  obtain ⟨d, rfl, he⟩ := dp (L := 7) hd
  unfold f_X11_nearest at k
  refine wp_aload_n dX11_nearest_0 rfl ?_
  refine wp_iconst dX11_nearest_1 ic_0 ?_
  replace k := ok_bind k
  obtain ⟨h_1, e_2, k⟩ := k
  refine wq_putI fl_X11_152 rfl rfl dX11_nearest_2 e_2 ?_
  refine wp_aload_n dX11_nearest_5 rfl ?_
  refine wp_iload_n dX11_nearest_6 rfl ?_
  replace k := ok_bind k
  obtain ⟨u, e_3, k⟩ := k
  refine wp_callV1 (N := M_X11_isBird) (ci := 11) mf_X11_isBird mi_X11_isBird me_X11_isBird ml_X11_198 dX11_nearest_7 (ckO_e e_3) mv_X11_isBird (by exact Nat.le_of_ble_eq_true rfl) (c_X11_isBird (Nat.le_trans (by decide) he) (ok_mono (ok_bind2 k) fun z_5 h_4 k => ?_))
  try dsimp only at k
  refine wp_if_eq 21 dX11_nearest_10 (by decide) (fun c_6 => ?_) (fun c_6 => ?_)
  · replace k := ok_t c_6 k
    refine wp_iconst dX11_nearest_21 ic_m1 ?_
    refine wp_iret rfl rfl dX11_nearest_22 ?_
    exact (ok_some k :)
  · replace k := ok_f c_6 k
    refine wp_aload_n dX11_nearest_13 rfl ?_
    refine wp_iload_n dX11_nearest_14 rfl ?_
    replace k := ok_bind k
    obtain ⟨u, e_7, k⟩ := k
    refine wp_callV1 (N := M_X11_isMatter) (ci := 11) mf_X11_isMatter mi_X11_isMatter me_X11_isMatter ml_X11_213 dX11_nearest_15 (ckO_e e_7) mv_X11_isMatter (by exact Nat.le_of_ble_eq_true rfl) (c_X11_isMatter (Nat.le_trans (by decide) he) (ok_mono (ok_bind2 k) fun z_9 h_8 k => ?_))
    try dsimp only at k
    refine wp_if_ne 23 dX11_nearest_18 (by decide) (fun c_10 => ?_) (fun c_10 => ?_)
    · replace k := ok_f c_10 k
      refine wp_aload_n dX11_nearest_23 rfl ?_
      replace k := ok_bind k
      obtain ⟨p_11, e_12, k⟩ := k
      refine wq_getR fl_X11_13 (Or.inr ⟨_, rfl⟩) dX11_nearest_24 e_12 ?_
      refine wp_bipush dX11_nearest_27 bp_10 ?_
      refine wp_iload_n dX11_nearest_29 rfl ?_
      refine wp_iadd dX11_nearest_30 ?_
      replace k := ok_bind k
      obtain ⟨v_13, e_14, k⟩ := k
      refine wq_aI dX11_nearest_31 e_14 ?_
      refine wp_istore_n dX11_nearest_32 (by decide) (L1 := [_, _, _, _, _, _, _, _, _]) rfl ?_
      refine wp_iload_n dX11_nearest_33 rfl ?_
      refine wp_iconst dX11_nearest_34 ic_m1 ?_
      refine wp_icmp_ne 42 dX11_nearest_35 (by decide) (fun c_15 => ?_) (fun c_15 => ?_)
      · replace k := ok_f c_15 k
        refine wp_iload_n dX11_nearest_42 rfl ?_
        exact wp_wk (wkE <| wkE <| wkE <| wkE <| wkJ <| wkJ <| wkJ <| wkJ <| wkJ <| wkN) (s_X11_nearest_j43 (Nat.succ_le_succ he)  k)
      · replace k := ok_t c_15 k
        refine wp_iconst dX11_nearest_38 ic_0 ?_
        refine wp_goto 43 dX11_nearest_39 (by decide) ?_
        exact wp_wk (wkE <| wkE <| wkE <| wkE <| wkJ <| wkJ <| wkJ <| wkJ <| wkJ <| wkN) (s_X11_nearest_j43 (Nat.succ_le_succ he)  k)
    · replace k := ok_t c_10 k
      refine wp_iconst dX11_nearest_21 ic_m1 ?_
      refine wp_iret rfl rfl dX11_nearest_22 ?_
      exact (ok_some k :)
theorem c_X11_nearest {S : SH} {d : Nat} {K : Option Value → AH → Prop} (hd : 8 ≤ d)  {r0 : Nat} {x1 : Int32} {x2 : Int32} {h : AH} (k : ok (f_X11_nearest S r0 x1 x2 h) (fun w h' => K (some (.int w)) h')) : CP S M_X11_nearest d 0 0 [.ref r0, .int x1, .int x2] h K := cp_of (by decide) (fun _ _ => trivial) (fun _ => Nat.le_of_ble_eq_true rfl) (s_X11_nearest hd  k)
def f_X11_heard (S : SH) (r0 : Nat) (x1 : Int32) (h : AH) : Option (Int32 × AH) :=
  (pI S h r0 11 0 (0 : Int32)).bind fun h_1 =>
  (f_X11_in S (Int32.toInt64 x1) (0 : Int64) (7 : Int64) h_1).bind fun z => match z with
  | (z_4, h_3) =>
  if z_4 = (0 : Int32) then
    (ckO S h_3 r0 11).bind fun _ =>
    (f_X11_tell S r0 (-1 : Int32) h_3).bind fun z => match z with
    | (z_29, h_28) =>
    some (z_29, h_28)
  else
    (gR S h_3 r0 11 3).bind fun p_6 =>
    (aI S h_3 p_6 (2 : Int32)).bind fun v_8 =>
    if v_8 = (6 : Int32) then
      (ckO S h_3 r0 11).bind fun _ =>
      (f_X11_tell S r0 (-5 : Int32) h_3).bind fun z => match z with
      | (z_26, h_25) =>
      some (z_26, h_25)
    else
      (gR S h_3 r0 11 3).bind fun p_11 =>
      (sI S h_3 p_11 ((84 : Int32) + v_8) x1).bind fun h_13 =>
      (gR S h_13 r0 11 3).bind fun p_15 =>
      (aI S h_13 p_15 (2 : Int32)).bind fun v_17 =>
      (sI S h_13 p_15 (2 : Int32) (v_17 + (1 : Int32))).bind fun h_19 =>
      (ckO S h_19 r0 11).bind fun _ =>
      (f_X11_tell S r0 ((v_8 + (1 : Int32))) h_19).bind fun z => match z with
      | (z_23, h_22) =>
      some (z_23, h_22)
set_option maxHeartbeats 8000000 in
set_option maxRecDepth 20000 in
theorem s_X11_heard {S : SH} {d cb sb : Nat} {Q : Option Value → AH → Prop} (hd : 1 ≤ d)  {r0 : Nat} {x1 : Int32} {h : AH} (k : ok (f_X11_heard S r0 x1 h) (fun w h' => Q (some (.int w)) h')) : WP S M_X11_heard d cb sb Q 0 [.ref r0, .int x1, JK] [] h := by
  obtain ⟨d, rfl, he⟩ := dp (L := 0) hd
  unfold f_X11_heard at k
  refine wp_aload_n dX11_heard_0 rfl ?_
  refine wp_iconst dX11_heard_1 ic_0 ?_
  replace k := ok_bind k
  obtain ⟨h_1, e_2, k⟩ := k
  refine wq_putI fl_X11_152 rfl rfl dX11_heard_2 e_2 ?_
  refine wp_iload_n dX11_heard_5 rfl ?_
  refine wp_i2l dX11_heard_6 ?_
  refine wp_lconst dX11_heard_7 lc_0 ?_
  refine wp_ldc2 ct_X11_241 dX11_heard_8 ?_
  refine wp_callS3 (N := M_X11_in) mf_X11_in ms_X11_in ml_X11_172 dX11_heard_11 (by exact Nat.le_of_ble_eq_true rfl) (c_X11_in (Nat.le_trans (by decide) he) (ok_mono (ok_bind2 k) fun z_4 h_3 k => ?_))
  try dsimp only at k
  refine wp_if_ne 23 dX11_heard_14 (by decide) (fun c_5 => ?_) (fun c_5 => ?_)
  · replace k := ok_f c_5 k
    refine wp_aload_n dX11_heard_23 rfl ?_
    replace k := ok_bind k
    obtain ⟨p_6, e_7, k⟩ := k
    refine wq_getR fl_X11_13 (Or.inr ⟨_, rfl⟩) dX11_heard_24 e_7 ?_
    refine wp_iconst dX11_heard_27 ic_2 ?_
    replace k := ok_bind k
    obtain ⟨v_8, e_9, k⟩ := k
    refine wq_aI dX11_heard_28 e_9 ?_
    refine wp_istore_n dX11_heard_29 (by decide) (L1 := [_, _, _]) rfl ?_
    refine wp_iload_n dX11_heard_30 rfl ?_
    refine wp_bipush dX11_heard_31 bp_6 ?_
    refine wp_icmp_ne 43 dX11_heard_33 (by decide) (fun c_10 => ?_) (fun c_10 => ?_)
    · replace k := ok_f c_10 k
      refine wp_aload_n dX11_heard_43 rfl ?_
      replace k := ok_bind k
      obtain ⟨p_11, e_12, k⟩ := k
      refine wq_getR fl_X11_13 (Or.inr ⟨_, rfl⟩) dX11_heard_44 e_12 ?_
      refine wp_bipush dX11_heard_47 bp_84 ?_
      refine wp_iload_n dX11_heard_49 rfl ?_
      refine wp_iadd dX11_heard_50 ?_
      refine wp_iload_n dX11_heard_51 rfl ?_
      replace k := ok_bind k
      obtain ⟨h_13, e_14, k⟩ := k
      refine wq_sI dX11_heard_52 e_14 ?_
      refine wp_aload_n dX11_heard_53 rfl ?_
      replace k := ok_bind k
      obtain ⟨p_15, e_16, k⟩ := k
      refine wq_getR fl_X11_13 (Or.inr ⟨_, rfl⟩) dX11_heard_54 e_16 ?_
      refine wp_iconst dX11_heard_57 ic_2 ?_
      refine wp_dup2 dX11_heard_58 ?_
      replace k := ok_bind k
      obtain ⟨v_17, e_18, k⟩ := k
      refine wq_aI dX11_heard_59 e_18 ?_
      refine wp_iconst dX11_heard_60 ic_1 ?_
      refine wp_iadd dX11_heard_61 ?_
      replace k := ok_bind k
      obtain ⟨h_19, e_20, k⟩ := k
      refine wq_sI dX11_heard_62 e_20 ?_
      refine wp_aload_n dX11_heard_63 rfl ?_
      refine wp_iload_n dX11_heard_64 rfl ?_
      refine wp_iconst dX11_heard_65 ic_1 ?_
      refine wp_iadd dX11_heard_66 ?_
      replace k := ok_bind k
      obtain ⟨u, e_21, k⟩ := k
      refine wp_callV1 (N := M_X11_tell) (ci := 11) mf_X11_tell mi_X11_tell me_X11_tell ml_X11_161 dX11_heard_67 (ckO_e e_21) mv_X11_tell (by exact Nat.le_of_ble_eq_true rfl) (c_X11_tell (Nat.le_trans (by decide) he) (ok_mono (ok_bind2 k) fun z_23 h_22 k => ?_))
      try dsimp only at k
      refine wp_iret rfl rfl dX11_heard_70 ?_
      exact (ok_some k :)
    · replace k := ok_t c_10 k
      refine wp_aload_n dX11_heard_36 rfl ?_
      refine wp_bipush dX11_heard_37 bp_m5 ?_
      replace k := ok_bind k
      obtain ⟨u, e_24, k⟩ := k
      refine wp_callV1 (N := M_X11_tell) (ci := 11) mf_X11_tell mi_X11_tell me_X11_tell ml_X11_161 dX11_heard_39 (ckO_e e_24) mv_X11_tell (by exact Nat.le_of_ble_eq_true rfl) (c_X11_tell (Nat.le_trans (by decide) he) (ok_mono (ok_bind2 k) fun z_26 h_25 k => ?_))
      try dsimp only at k
      refine wp_iret rfl rfl dX11_heard_42 ?_
      exact (ok_some k :)
  · replace k := ok_t c_5 k
    refine wp_aload_n dX11_heard_17 rfl ?_
    refine wp_iconst dX11_heard_18 ic_m1 ?_
    replace k := ok_bind k
    obtain ⟨u, e_27, k⟩ := k
    refine wp_callV1 (N := M_X11_tell) (ci := 11) mf_X11_tell mi_X11_tell me_X11_tell ml_X11_161 dX11_heard_19 (ckO_e e_27) mv_X11_tell (by exact Nat.le_of_ble_eq_true rfl) (c_X11_tell (Nat.le_trans (by decide) he) (ok_mono (ok_bind2 k) fun z_29 h_28 k => ?_))
    try dsimp only at k
    refine wp_iret rfl rfl dX11_heard_22 ?_
    exact (ok_some k :)
theorem c_X11_heard {S : SH} {d : Nat} {K : Option Value → AH → Prop} (hd : 1 ≤ d)  {r0 : Nat} {x1 : Int32} {h : AH} (k : ok (f_X11_heard S r0 x1 h) (fun w h' => K (some (.int w)) h')) : CP S M_X11_heard d 0 0 [.ref r0, .int x1] h K := cp_of (by decide) (fun _ _ => trivial) (fun _ => Nat.le_of_ble_eq_true rfl) (s_X11_heard hd  k)
def f_X11_forget (S : SH) (r0 : Nat) (h : AH) : Option (Int32 × AH) :=
  (pI S h r0 11 0 (0 : Int32)).bind fun h_1 =>
  (gR S h_1 r0 11 3).bind fun p_3 =>
  (aI S h_1 p_3 (2 : Int32)).bind fun v_5 =>
  (gR S h_1 r0 11 3).bind fun p_7 =>
  (sI S h_1 p_7 (2 : Int32) (0 : Int32)).bind fun h_9 =>
  some (v_5, h_9)
set_option maxHeartbeats 8000000 in
set_option maxRecDepth 20000 in
theorem s_X11_forget {S : SH} {d cb sb : Nat} {Q : Option Value → AH → Prop} (hd : 0 ≤ d)  {r0 : Nat} {h : AH} (k : ok (f_X11_forget S r0 h) (fun w h' => Q (some (.int w)) h')) : WP S M_X11_forget d cb sb Q 0 [.ref r0, JK] [] h := by
  unfold f_X11_forget at k
  refine wp_aload_n dX11_forget_0 rfl ?_
  refine wp_iconst dX11_forget_1 ic_0 ?_
  replace k := ok_bind k
  obtain ⟨h_1, e_2, k⟩ := k
  refine wq_putI fl_X11_152 rfl rfl dX11_forget_2 e_2 ?_
  refine wp_aload_n dX11_forget_5 rfl ?_
  replace k := ok_bind k
  obtain ⟨p_3, e_4, k⟩ := k
  refine wq_getR fl_X11_13 (Or.inr ⟨_, rfl⟩) dX11_forget_6 e_4 ?_
  refine wp_iconst dX11_forget_9 ic_2 ?_
  replace k := ok_bind k
  obtain ⟨v_5, e_6, k⟩ := k
  refine wq_aI dX11_forget_10 e_6 ?_
  refine wp_istore_n dX11_forget_11 (by decide) (L1 := [_, _]) rfl ?_
  refine wp_aload_n dX11_forget_12 rfl ?_
  replace k := ok_bind k
  obtain ⟨p_7, e_8, k⟩ := k
  refine wq_getR fl_X11_13 (Or.inr ⟨_, rfl⟩) dX11_forget_13 e_8 ?_
  refine wp_iconst dX11_forget_16 ic_2 ?_
  refine wp_iconst dX11_forget_17 ic_0 ?_
  replace k := ok_bind k
  obtain ⟨h_9, e_10, k⟩ := k
  refine wq_sI dX11_forget_18 e_10 ?_
  refine wp_iload_n dX11_forget_19 rfl ?_
  refine wp_iret rfl rfl dX11_forget_20 ?_
  exact (ok_some k :)
theorem c_X11_forget {S : SH} {d : Nat} {K : Option Value → AH → Prop} (hd : 0 ≤ d)  {r0 : Nat} {h : AH} (k : ok (f_X11_forget S r0 h) (fun w h' => K (some (.int w)) h')) : CP S M_X11_forget d 0 0 [.ref r0] h K := cp_of (by decide) (fun _ _ => trivial) (fun _ => Nat.le_of_ble_eq_true rfl) (s_X11_forget hd  k)
def f_X11_thatCanBe_l19b (S : SH) (rc : Nat → Int32 → Int32 → Int32 → Int32 → AH → Option ((Nat × Int32 × Int32 × Int32) × AH)) (r0 : Nat) (x1 : Int32) (x2 : Int32) (x3 : Int32) (x4 : Int32) (h : AH) : Option ((Nat × Int32 × Int32 × Int32) × AH) :=
  (gR S h r0 11 3).bind fun p_1 =>
  (aI S h p_1 (2 : Int32)).bind fun v_3 =>
  if v_3 ≤ x4 then
    some ((r0, x1, x2, x3), h)
  else
    if x3 = (0 : Int32) then
      lt (x4 + (1 : Int32)) fun y_7 =>
      rc r0 x1 x2 (0 : Int32) y_7 h
    else
      (ckO S h r0 11).bind fun _ =>
      (f_X11_ayes S r0 x2 h).bind fun z => match z with
      | (z_10, h_9) =>
      (f_X11_ones S z_10 h_9).bind fun z => match z with
      | (z_12, h_11) =>
      (gR S h_11 r0 11 3).bind fun p_13 =>
      (aI S h_11 p_13 ((84 : Int32) + x4)).bind fun v_15 =>
      if z_12 = v_15 then
        lt (x4 + (1 : Int32)) fun y_19 =>
        rc r0 x1 x2 (1 : Int32) y_19 h_11
      else
        lt (x4 + (1 : Int32)) fun y_18 =>
        rc r0 x1 x2 (0 : Int32) y_18 h_11
set_option maxHeartbeats 8000000 in
set_option maxRecDepth 20000 in
theorem s_X11_thatCanBe_l19b {S : SH} {d cb sb : Nat} {Q : Option Value → AH → Prop} (hd : 8 ≤ d) {K : (Nat × Int32 × Int32 × Int32) → AH → Prop} (hex : ∀ (r0 : Nat) (x1 : Int32) (x2 : Int32) (x3 : Int32) (h' : AH), K (r0, x1, x2, x3) h' → WP S M_X11_thatCanBe d cb sb Q 67 [.ref r0, .int x1, .int x2, .int x3, JK] [] h') {rc : Nat → Int32 → Int32 → Int32 → Int32 → AH → Option ((Nat × Int32 × Int32 × Int32) × AH)} (hrec : ∀ (r0 : Nat) (x1 : Int32) (x2 : Int32) (x3 : Int32) (x4 : Int32) (h' : AH), ok (rc r0 x1 x2 x3 x4 h') K → WP S M_X11_thatCanBe d cb sb Q 19 [.ref r0, .int x1, .int x2, .int x3, .int x4] [] h') {r0 : Nat} {x1 : Int32} {x2 : Int32} {x3 : Int32} {x4 : Int32} {h : AH} (k : ok (f_X11_thatCanBe_l19b S rc r0 x1 x2 x3 x4 h) K) : WP S M_X11_thatCanBe d cb sb Q 19 [.ref r0, .int x1, .int x2, .int x3, .int x4] [] h := by
  obtain ⟨d, rfl, he⟩ := dp (L := 7) hd
  unfold f_X11_thatCanBe_l19b at k
  refine wp_iload dX11_thatCanBe_19 rfl ?_
  refine wp_aload_n dX11_thatCanBe_21 rfl ?_
  replace k := ok_bind k
  obtain ⟨p_1, e_2, k⟩ := k
  refine wq_getR fl_X11_13 (Or.inr ⟨_, rfl⟩) dX11_thatCanBe_22 e_2 ?_
  refine wp_iconst dX11_thatCanBe_25 ic_2 ?_
  replace k := ok_bind k
  obtain ⟨v_3, e_4, k⟩ := k
  refine wq_aI dX11_thatCanBe_26 e_4 ?_
  refine wp_icmp_ge 67 dX11_thatCanBe_27 (by decide) (fun c_5 => ?_) (fun c_5 => ?_)
  · replace k := ok_t c_5 k
    exact wp_wk (wkE <| wkE <| wkE <| wkE <| wkJ <| wkN) (hex _ _ _ _ _ (ok_some k))
  · replace k := ok_f c_5 k
    refine wp_iload_n dX11_thatCanBe_30 rfl ?_
    refine wp_if_eq 59 dX11_thatCanBe_31 (by decide) (fun c_6 => ?_) (fun c_6 => ?_)
    · replace k := ok_t c_6 k
      refine wp_iconst dX11_thatCanBe_59 ic_0 ?_
      refine wp_istore_n dX11_thatCanBe_60 (by decide) (L1 := [_, _, _, _, _]) rfl ?_
      replace k := ok_lt k
      refine wp_iinc dX11_thatCanBe_61 rfl ic_1 (by decide) (L1 := [_, _, _, _, _]) rfl ?_
      refine wp_goto 19 dX11_thatCanBe_64 (by decide) ?_
      exact wp_wk (wkE <| wkE <| wkE <| wkE <| wkE <| wkN) (hrec _ _ _ _ _ _ k)
    · replace k := ok_f c_6 k
      refine wp_aload_n dX11_thatCanBe_34 rfl ?_
      refine wp_iload_n dX11_thatCanBe_35 rfl ?_
      replace k := ok_bind k
      obtain ⟨u, e_8, k⟩ := k
      refine wp_callV1 (N := M_X11_ayes) (ci := 11) mf_X11_ayes mi_X11_ayes me_X11_ayes ml_X11_231 dX11_thatCanBe_36 (ckO_e e_8) mv_X11_ayes (by exact Nat.le_of_ble_eq_true rfl) (c_X11_ayes (Nat.le_trans (by decide) he) (ok_mono (ok_bind2 k) fun z_10 h_9 k => ?_))
      try dsimp only at k
      refine wp_callS1 (N := M_X11_ones) mf_X11_ones ms_X11_ones ml_X11_439 dX11_thatCanBe_39 (by exact Nat.le_of_ble_eq_true rfl) (c_X11_ones (Nat.le_trans (by decide) he) (ok_mono (ok_bind2 k) fun z_12 h_11 k => ?_))
      try dsimp only at k
      refine wp_aload_n dX11_thatCanBe_42 rfl ?_
      replace k := ok_bind k
      obtain ⟨p_13, e_14, k⟩ := k
      refine wq_getR fl_X11_13 (Or.inr ⟨_, rfl⟩) dX11_thatCanBe_43 e_14 ?_
      refine wp_bipush dX11_thatCanBe_46 bp_84 ?_
      refine wp_iload dX11_thatCanBe_48 rfl ?_
      refine wp_iadd dX11_thatCanBe_50 ?_
      replace k := ok_bind k
      obtain ⟨v_15, e_16, k⟩ := k
      refine wq_aI dX11_thatCanBe_51 e_16 ?_
      refine wp_icmp_ne 59 dX11_thatCanBe_52 (by decide) (fun c_17 => ?_) (fun c_17 => ?_)
      · replace k := ok_f c_17 k
        refine wp_iconst dX11_thatCanBe_59 ic_0 ?_
        refine wp_istore_n dX11_thatCanBe_60 (by decide) (L1 := [_, _, _, _, _]) rfl ?_
        replace k := ok_lt k
        refine wp_iinc dX11_thatCanBe_61 rfl ic_1 (by decide) (L1 := [_, _, _, _, _]) rfl ?_
        refine wp_goto 19 dX11_thatCanBe_64 (by decide) ?_
        exact wp_wk (wkE <| wkE <| wkE <| wkE <| wkE <| wkN) (hrec _ _ _ _ _ _ k)
      · replace k := ok_t c_17 k
        refine wp_iconst dX11_thatCanBe_55 ic_1 ?_
        refine wp_goto 60 dX11_thatCanBe_56 (by decide) ?_
        refine wp_istore_n dX11_thatCanBe_60 (by decide) (L1 := [_, _, _, _, _]) rfl ?_
        replace k := ok_lt k
        refine wp_iinc dX11_thatCanBe_61 rfl ic_1 (by decide) (L1 := [_, _, _, _, _]) rfl ?_
        refine wp_goto 19 dX11_thatCanBe_64 (by decide) ?_
        exact wp_wk (wkE <| wkE <| wkE <| wkE <| wkE <| wkN) (hrec _ _ _ _ _ _ k)
def f_X11_thatCanBe_l19 (S : SH) : Nat → Nat → Int32 → Int32 → Int32 → Int32 → AH → Option ((Nat × Int32 × Int32 × Int32) × AH)
  | 0, _, _, _, _, _, _ => none
  | n + 1, r0, x1, x2, x3, x4, h => f_X11_thatCanBe_l19b S (f_X11_thatCanBe_l19 S n) r0 x1 x2 x3 x4 h
theorem s_X11_thatCanBe_l19 {S : SH} {d cb sb : Nat} {Q : Option Value → AH → Prop} (hd : 8 ≤ d) {K : (Nat × Int32 × Int32 × Int32) → AH → Prop} (hex : ∀ (r0 : Nat) (x1 : Int32) (x2 : Int32) (x3 : Int32) (h' : AH), K (r0, x1, x2, x3) h' → WP S M_X11_thatCanBe d cb sb Q 67 [.ref r0, .int x1, .int x2, .int x3, JK] [] h') : ∀ (n : Nat) (r0 : Nat) (x1 : Int32) (x2 : Int32) (x3 : Int32) (x4 : Int32) (h : AH), ok (f_X11_thatCanBe_l19 S n r0 x1 x2 x3 x4 h) K → WP S M_X11_thatCanBe d cb sb Q 19 [.ref r0, .int x1, .int x2, .int x3, .int x4] [] h := by
  intro n
  induction n with
  | zero => intro r0 x1 x2 x3 x4 h k; exact ok_none k
  | succ n ih => intro r0 x1 x2 x3 x4 h k; exact s_X11_thatCanBe_l19b hd hex (fun r0 x1 x2 x3 x4 h k => ih r0 x1 x2 x3 x4 h k) k
def f_X11_thatCanBe_l4b (S : SH) (rc : Nat → Int32 → Int32 → AH → Option (Int32 × AH)) (r0 : Nat) (x1 : Int32) (x2 : Int32) (h : AH) : Option (Int32 × AH) :=
  (gR S h r0 11 3).bind fun p_1 =>
  (aI S h p_1 (1 : Int32)).bind fun v_3 =>
  if v_3 ≤ x2 then
    some (x1, h)
  else
    (f_X11_thatCanBe_l19 S FU r0 x1 x2 (1 : Int32) (0 : Int32) h).bind fun z => match z with
    | ((r0_7, x1_8, x2_9, x3_10), h_6) =>
    if x3_10 = (0 : Int32) then
      lt ((x1_8 ||| (0 : Int32))) fun y_12 =>
      lt (x2_9 + (1 : Int32)) fun y_13 =>
      rc r0_7 y_12 y_13 h_6
    else
      lt ((x1_8 ||| ((1 : Int32) <<< (x2_9 &&& (31 : Int32))))) fun y_14 =>
      lt (x2_9 + (1 : Int32)) fun y_15 =>
      rc r0_7 y_14 y_15 h_6
set_option maxHeartbeats 8000000 in
set_option maxRecDepth 20000 in
theorem s_X11_thatCanBe_l4b {S : SH} {d cb sb : Nat} {Q : Option Value → AH → Prop} (hd : 8 ≤ d) {K : Int32 → AH → Prop} (hex : ∀ (x1 : Int32) (h' : AH), K x1 h' → WP S M_X11_thatCanBe d cb sb Q 87 [JK, .int x1, JK, JK, JK] [] h') {rc : Nat → Int32 → Int32 → AH → Option (Int32 × AH)} (hrec : ∀ (r0 : Nat) (x1 : Int32) (x2 : Int32) (h' : AH), ok (rc r0 x1 x2 h') K → WP S M_X11_thatCanBe d cb sb Q 4 [.ref r0, .int x1, .int x2, JK, JK] [] h') {r0 : Nat} {x1 : Int32} {x2 : Int32} {h : AH} (k : ok (f_X11_thatCanBe_l4b S rc r0 x1 x2 h) K) : WP S M_X11_thatCanBe d cb sb Q 4 [.ref r0, .int x1, .int x2, JK, JK] [] h := by
  obtain ⟨d, rfl, he⟩ := dp (L := 7) hd
  unfold f_X11_thatCanBe_l4b at k
  refine wp_iload_n dX11_thatCanBe_4 rfl ?_
  refine wp_aload_n dX11_thatCanBe_5 rfl ?_
  replace k := ok_bind k
  obtain ⟨p_1, e_2, k⟩ := k
  refine wq_getR fl_X11_13 (Or.inr ⟨_, rfl⟩) dX11_thatCanBe_6 e_2 ?_
  refine wp_iconst dX11_thatCanBe_9 ic_1 ?_
  replace k := ok_bind k
  obtain ⟨v_3, e_4, k⟩ := k
  refine wq_aI dX11_thatCanBe_10 e_4 ?_
  refine wp_icmp_ge 87 dX11_thatCanBe_11 (by decide) (fun c_5 => ?_) (fun c_5 => ?_)
  · replace k := ok_t c_5 k
    exact wp_wk (wkJ <| wkE <| wkJ <| wkJ <| wkJ <| wkN) (hex _ _ (ok_some k))
  · replace k := ok_f c_5 k
    refine wp_iconst dX11_thatCanBe_14 ic_1 ?_
    refine wp_istore_n dX11_thatCanBe_15 (by decide) (L1 := [_, _, _, _, _]) rfl ?_
    refine wp_iconst dX11_thatCanBe_16 ic_0 ?_
    refine wp_istore dX11_thatCanBe_17 (by decide) (L1 := [_, _, _, _, _]) rfl ?_
    refine wp_wk (wkE <| wkE <| wkE <| wkE <| wkE <| wkN) ?_
    refine s_X11_thatCanBe_l19 (Nat.succ_le_succ he) (fun r0_7 x1_8 x2_9 x3_10 h_6 k => ?_) FU _ _ _ _ _ _ (ok_bind2 k)
    try dsimp only at k
    refine wp_iload_n dX11_thatCanBe_67 rfl ?_
    refine wp_iload_n dX11_thatCanBe_68 rfl ?_
    refine wp_if_eq 78 dX11_thatCanBe_69 (by decide) (fun c_11 => ?_) (fun c_11 => ?_)
    · replace k := ok_t c_11 k
      refine wp_iconst dX11_thatCanBe_78 ic_0 ?_
      refine wp_ior dX11_thatCanBe_79 ?_
      replace k := ok_lt k
      refine wp_istore_n dX11_thatCanBe_80 (by decide) (L1 := [_, _, _, _, _]) rfl ?_
      replace k := ok_lt k
      refine wp_iinc dX11_thatCanBe_81 rfl ic_1 (by decide) (L1 := [_, _, _, _, _]) rfl ?_
      refine wp_goto 4 dX11_thatCanBe_84 (by decide) ?_
      exact wp_wk (wkE <| wkE <| wkE <| wkJ <| wkJ <| wkN) (hrec _ _ _ _ k)
    · replace k := ok_f c_11 k
      refine wp_iconst dX11_thatCanBe_72 ic_1 ?_
      refine wp_iload_n dX11_thatCanBe_73 rfl ?_
      refine wp_ishl dX11_thatCanBe_74 ?_
      refine wp_goto 79 dX11_thatCanBe_75 (by decide) ?_
      refine wp_ior dX11_thatCanBe_79 ?_
      replace k := ok_lt k
      refine wp_istore_n dX11_thatCanBe_80 (by decide) (L1 := [_, _, _, _, _]) rfl ?_
      replace k := ok_lt k
      refine wp_iinc dX11_thatCanBe_81 rfl ic_1 (by decide) (L1 := [_, _, _, _, _]) rfl ?_
      refine wp_goto 4 dX11_thatCanBe_84 (by decide) ?_
      exact wp_wk (wkE <| wkE <| wkE <| wkJ <| wkJ <| wkN) (hrec _ _ _ _ k)
def f_X11_thatCanBe_l4 (S : SH) : Nat → Nat → Int32 → Int32 → AH → Option (Int32 × AH)
  | 0, _, _, _, _ => none
  | n + 1, r0, x1, x2, h => f_X11_thatCanBe_l4b S (f_X11_thatCanBe_l4 S n) r0 x1 x2 h
theorem s_X11_thatCanBe_l4 {S : SH} {d cb sb : Nat} {Q : Option Value → AH → Prop} (hd : 8 ≤ d) {K : Int32 → AH → Prop} (hex : ∀ (x1 : Int32) (h' : AH), K x1 h' → WP S M_X11_thatCanBe d cb sb Q 87 [JK, .int x1, JK, JK, JK] [] h') : ∀ (n : Nat) (r0 : Nat) (x1 : Int32) (x2 : Int32) (h : AH), ok (f_X11_thatCanBe_l4 S n r0 x1 x2 h) K → WP S M_X11_thatCanBe d cb sb Q 4 [.ref r0, .int x1, .int x2, JK, JK] [] h := by
  intro n
  induction n with
  | zero => intro r0 x1 x2 h k; exact ok_none k
  | succ n ih => intro r0 x1 x2 h k; exact s_X11_thatCanBe_l4b hd hex (fun r0 x1 x2 h k => ih r0 x1 x2 h k) k
def f_X11_thatCanBe (S : SH) (r0 : Nat) (h : AH) : Option (Int32 × AH) :=
  (f_X11_thatCanBe_l4 S FU r0 (0 : Int32) (0 : Int32) h).bind fun z => match z with
  | (x1_2, h_1) =>
  some (x1_2, h_1)
set_option maxHeartbeats 8000000 in
set_option maxRecDepth 20000 in
theorem s_X11_thatCanBe {S : SH} {d cb sb : Nat} {Q : Option Value → AH → Prop} (hd : 8 ≤ d)  {r0 : Nat} {h : AH} (k : ok (f_X11_thatCanBe S r0 h) (fun w h' => Q (some (.int w)) h')) : WP S M_X11_thatCanBe d cb sb Q 0 [.ref r0, JK, JK, JK, JK] [] h := by
  obtain ⟨d, rfl, he⟩ := dp (L := 7) hd
  unfold f_X11_thatCanBe at k
  refine wp_iconst dX11_thatCanBe_0 ic_0 ?_
  refine wp_istore_n dX11_thatCanBe_1 (by decide) (L1 := [_, _, _, _, _]) rfl ?_
  refine wp_iconst dX11_thatCanBe_2 ic_0 ?_
  refine wp_istore_n dX11_thatCanBe_3 (by decide) (L1 := [_, _, _, _, _]) rfl ?_
  refine wp_wk (wkE <| wkE <| wkE <| wkJ <| wkJ <| wkN) ?_
  refine s_X11_thatCanBe_l4 (Nat.succ_le_succ he) (fun x1_2 h_1 k => ?_) FU _ _ _ _ (ok_bind2 k)
  try dsimp only at k
  refine wp_iload_n dX11_thatCanBe_87 rfl ?_
  refine wp_iret rfl rfl dX11_thatCanBe_88 ?_
  exact (ok_some k :)
theorem c_X11_thatCanBe {S : SH} {d : Nat} {K : Option Value → AH → Prop} (hd : 8 ≤ d)  {r0 : Nat} {h : AH} (k : ok (f_X11_thatCanBe S r0 h) (fun w h' => K (some (.int w)) h')) : CP S M_X11_thatCanBe d 0 0 [.ref r0] h K := cp_of (by decide) (fun _ _ => trivial) (fun _ => Nat.le_of_ble_eq_true rfl) (s_X11_thatCanBe hd  k)
def f_X11_canBe (S : SH) (r0 : Nat) (h : AH) : Option (Int32 × AH) :=
  (pI S h r0 11 0 (0 : Int32)).bind fun h_1 =>
  (ckO S h_1 r0 11).bind fun _ =>
  (f_X11_thatCanBe S r0 h_1).bind fun z => match z with
  | (z_5, h_4) =>
  some (z_5, h_4)
set_option maxHeartbeats 8000000 in
set_option maxRecDepth 20000 in
theorem s_X11_canBe {S : SH} {d cb sb : Nat} {Q : Option Value → AH → Prop} (hd : 9 ≤ d)  {r0 : Nat} {h : AH} (k : ok (f_X11_canBe S r0 h) (fun w h' => Q (some (.int w)) h')) : WP S M_X11_canBe d cb sb Q 0 [.ref r0] [] h := by
  obtain ⟨d, rfl, he⟩ := dp (L := 8) hd
  unfold f_X11_canBe at k
  refine wp_aload_n dX11_canBe_0 rfl ?_
  refine wp_iconst dX11_canBe_1 ic_0 ?_
  replace k := ok_bind k
  obtain ⟨h_1, e_2, k⟩ := k
  refine wq_putI fl_X11_152 rfl rfl dX11_canBe_2 e_2 ?_
  refine wp_aload_n dX11_canBe_5 rfl ?_
  replace k := ok_bind k
  obtain ⟨u, e_3, k⟩ := k
  refine wp_callV0 (N := M_X11_thatCanBe) (ci := 11) mf_X11_thatCanBe mi_X11_thatCanBe me_X11_thatCanBe ml_X11_497 dX11_canBe_6 (ckO_e e_3) mv_X11_thatCanBe (by exact Nat.le_of_ble_eq_true rfl) (c_X11_thatCanBe (Nat.le_trans (by decide) he) (ok_mono (ok_bind2 k) fun z_5 h_4 k => ?_))
  try dsimp only at k
  refine wp_iret rfl rfl dX11_canBe_9 ?_
  exact (ok_some k :)
theorem c_X11_canBe {S : SH} {d : Nat} {K : Option Value → AH → Prop} (hd : 9 ≤ d)  {r0 : Nat} {h : AH} (k : ok (f_X11_canBe S r0 h) (fun w h' => K (some (.int w)) h')) : CP S M_X11_canBe d 0 0 [.ref r0] h K := cp_of (by decide) (fun _ _ => trivial) (fun _ => Nat.le_of_ble_eq_true rfl) (s_X11_canBe hd  k)
def f_X11_listen_l56_j94 (S : SH) (rc : Nat → Int32 → Int32 → Int32 → Int32 → Int32 → Int32 → Int32 → Int32 → AH → Option ((Nat × Int32 × Int32 × Int32 × Int32 × Int32 × Int32 × Int32) × AH)) (r0 : Nat) (x1 : Int32) (x2 : Int32) (x3 : Int32) (x4 : Int32) (x5 : Int32) (x7 : Int32) (x8 : Int32) (sx0 : Int32) (sx1 : Int32) (h : AH) : Option ((Nat × Int32 × Int32 × Int32 × Int32 × Int32 × Int32 × Int32) × AH) :=
  lt ((sx0 + sx1)) fun y_1 =>
  (f_X11_is S x2 x8 h).bind fun z => match z with
  | (z_3, h_2) =>
  if z_3 = (0 : Int32) then
    lt ((x7 + (0 : Int32))) fun y_5 =>
    lt (x8 + (1 : Int32)) fun y_6 =>
    rc r0 x1 x2 x3 x4 x5 y_1 y_5 y_6 h_2
  else
    (ckO S h_2 r0 11).bind fun _ =>
    (f_X11_isAye S r0 x5 x8 h_2).bind fun z => match z with
    | (z_9, h_8) =>
    if z_9 = (0 : Int32) then
      lt ((x7 + (1 : Int32))) fun y_13 =>
      lt (x8 + (1 : Int32)) fun y_14 =>
      rc r0 x1 x2 x3 x4 x5 y_1 y_13 y_14 h_8
    else
      lt ((x7 + (0 : Int32))) fun y_11 =>
      lt (x8 + (1 : Int32)) fun y_12 =>
      rc r0 x1 x2 x3 x4 x5 y_1 y_11 y_12 h_8
set_option maxHeartbeats 8000000 in
set_option maxRecDepth 20000 in
theorem s_X11_listen_l56_j94 {S : SH} {d cb sb : Nat} {Q : Option Value → AH → Prop} (hd : 9 ≤ d) {K : (Nat × Int32 × Int32 × Int32 × Int32 × Int32 × Int32 × Int32) → AH → Prop} (hex : ∀ (r0 : Nat) (x1 : Int32) (x2 : Int32) (x3 : Int32) (x4 : Int32) (x5 : Int32) (x6 : Int32) (x7 : Int32) (h' : AH), K (r0, x1, x2, x3, x4, x5, x6, x7) h' → WP S M_X11_listen d cb sb Q 133 [.ref r0, .int x1, .int x2, .int x3, .int x4, .int x5, .int x6, .int x7, JK] [] h') {rc : Nat → Int32 → Int32 → Int32 → Int32 → Int32 → Int32 → Int32 → Int32 → AH → Option ((Nat × Int32 × Int32 × Int32 × Int32 × Int32 × Int32 × Int32) × AH)} (hrec : ∀ (r0 : Nat) (x1 : Int32) (x2 : Int32) (x3 : Int32) (x4 : Int32) (x5 : Int32) (x6 : Int32) (x7 : Int32) (x8 : Int32) (h' : AH), ok (rc r0 x1 x2 x3 x4 x5 x6 x7 x8 h') K → WP S M_X11_listen d cb sb Q 56 [.ref r0, .int x1, .int x2, .int x3, .int x4, .int x5, .int x6, .int x7, .int x8] [] h') {r0 : Nat} {x1 : Int32} {x2 : Int32} {x3 : Int32} {x4 : Int32} {x5 : Int32} {x7 : Int32} {x8 : Int32} {sx0 : Int32} {sx1 : Int32} {h : AH} (k : ok (f_X11_listen_l56_j94 S rc r0 x1 x2 x3 x4 x5 x7 x8 sx0 sx1 h) K) : WP S M_X11_listen d cb sb Q 94 [.ref r0, .int x1, .int x2, .int x3, .int x4, .int x5, JK, .int x7, .int x8] [.int sx1, .int sx0] h := by
  obtain ⟨d, rfl, he⟩ := dp (L := 8) hd
  unfold f_X11_listen_l56_j94 at k
  refine wp_iadd dX11_listen_94 ?_
  replace k := ok_lt k
  refine wp_istore dX11_listen_95 (by decide) (L1 := [_, _, _, _, _, _, _, _, _]) rfl ?_
  refine wp_iload dX11_listen_97 rfl ?_
  refine wp_iload_n dX11_listen_99 rfl ?_
  refine wp_iload dX11_listen_100 rfl ?_
  refine wp_callS2 (N := M_X11_is) mf_X11_is ms_X11_is ml_X11_485 dX11_listen_102 (by exact Nat.le_of_ble_eq_true rfl) (c_X11_is (Nat.le_trans (by decide) he) (ok_mono (ok_bind2 k) fun z_3 h_2 k => ?_))
  try dsimp only at k
  refine wp_if_eq 123 dX11_listen_105 (by decide) (fun c_4 => ?_) (fun c_4 => ?_)
  · replace k := ok_t c_4 k
    refine wp_iconst dX11_listen_123 ic_0 ?_
    refine wp_iadd dX11_listen_124 ?_
    replace k := ok_lt k
    refine wp_istore dX11_listen_125 (by decide) (L1 := [_, _, _, _, _, _, _, _, _]) rfl ?_
    replace k := ok_lt k
    refine wp_iinc dX11_listen_127 rfl ic_1 (by decide) (L1 := [_, _, _, _, _, _, _, _, _]) rfl ?_
    refine wp_goto 56 dX11_listen_130 (by decide) ?_
    exact wp_wk (wkE <| wkE <| wkE <| wkE <| wkE <| wkE <| wkE <| wkE <| wkE <| wkN) (hrec _ _ _ _ _ _ _ _ _ _ k)
  · replace k := ok_f c_4 k
    refine wp_aload_n dX11_listen_108 rfl ?_
    refine wp_iload dX11_listen_109 rfl ?_
    refine wp_iload dX11_listen_111 rfl ?_
    replace k := ok_bind k
    obtain ⟨u, e_7, k⟩ := k
    refine wp_callV2 (N := M_X11_isAye) (ci := 11) mf_X11_isAye mi_X11_isAye me_X11_isAye ml_X11_222 dX11_listen_113 (ckO_e e_7) mv_X11_isAye (by exact Nat.le_of_ble_eq_true rfl) (c_X11_isAye (Nat.le_trans (by decide) he) (ok_mono (ok_bind2 k) fun z_9 h_8 k => ?_))
    try dsimp only at k
    refine wp_if_ne 123 dX11_listen_116 (by decide) (fun c_10 => ?_) (fun c_10 => ?_)
    · replace k := ok_f c_10 k
      refine wp_iconst dX11_listen_123 ic_0 ?_
      refine wp_iadd dX11_listen_124 ?_
      replace k := ok_lt k
      refine wp_istore dX11_listen_125 (by decide) (L1 := [_, _, _, _, _, _, _, _, _]) rfl ?_
      replace k := ok_lt k
      refine wp_iinc dX11_listen_127 rfl ic_1 (by decide) (L1 := [_, _, _, _, _, _, _, _, _]) rfl ?_
      refine wp_goto 56 dX11_listen_130 (by decide) ?_
      exact wp_wk (wkE <| wkE <| wkE <| wkE <| wkE <| wkE <| wkE <| wkE <| wkE <| wkN) (hrec _ _ _ _ _ _ _ _ _ _ k)
    · replace k := ok_t c_10 k
      refine wp_iconst dX11_listen_119 ic_1 ?_
      refine wp_goto 124 dX11_listen_120 (by decide) ?_
      refine wp_iadd dX11_listen_124 ?_
      replace k := ok_lt k
      refine wp_istore dX11_listen_125 (by decide) (L1 := [_, _, _, _, _, _, _, _, _]) rfl ?_
      replace k := ok_lt k
      refine wp_iinc dX11_listen_127 rfl ic_1 (by decide) (L1 := [_, _, _, _, _, _, _, _, _]) rfl ?_
      refine wp_goto 56 dX11_listen_130 (by decide) ?_
      exact wp_wk (wkE <| wkE <| wkE <| wkE <| wkE <| wkE <| wkE <| wkE <| wkE <| wkN) (hrec _ _ _ _ _ _ _ _ _ _ k)
def f_X11_listen_l56_j93 (S : SH) (rc : Nat → Int32 → Int32 → Int32 → Int32 → Int32 → Int32 → Int32 → Int32 → AH → Option ((Nat × Int32 × Int32 × Int32 × Int32 × Int32 × Int32 × Int32) × AH)) (r0 : Nat) (x1 : Int32) (x2 : Int32) (x3 : Int32) (x4 : Int32) (x5 : Int32) (x7 : Int32) (x8 : Int32) (sx0 : Int32) (h : AH) : Option ((Nat × Int32 × Int32 × Int32 × Int32 × Int32 × Int32 × Int32) × AH) :=
  f_X11_listen_l56_j94 S rc r0 x1 x2 x3 x4 x5 x7 x8 sx0 (0 : Int32) h
set_option maxHeartbeats 8000000 in
set_option maxRecDepth 20000 in
theorem s_X11_listen_l56_j93 {S : SH} {d cb sb : Nat} {Q : Option Value → AH → Prop} (hd : 9 ≤ d) {K : (Nat × Int32 × Int32 × Int32 × Int32 × Int32 × Int32 × Int32) → AH → Prop} (hex : ∀ (r0 : Nat) (x1 : Int32) (x2 : Int32) (x3 : Int32) (x4 : Int32) (x5 : Int32) (x6 : Int32) (x7 : Int32) (h' : AH), K (r0, x1, x2, x3, x4, x5, x6, x7) h' → WP S M_X11_listen d cb sb Q 133 [.ref r0, .int x1, .int x2, .int x3, .int x4, .int x5, .int x6, .int x7, JK] [] h') {rc : Nat → Int32 → Int32 → Int32 → Int32 → Int32 → Int32 → Int32 → Int32 → AH → Option ((Nat × Int32 × Int32 × Int32 × Int32 × Int32 × Int32 × Int32) × AH)} (hrec : ∀ (r0 : Nat) (x1 : Int32) (x2 : Int32) (x3 : Int32) (x4 : Int32) (x5 : Int32) (x6 : Int32) (x7 : Int32) (x8 : Int32) (h' : AH), ok (rc r0 x1 x2 x3 x4 x5 x6 x7 x8 h') K → WP S M_X11_listen d cb sb Q 56 [.ref r0, .int x1, .int x2, .int x3, .int x4, .int x5, .int x6, .int x7, .int x8] [] h') {r0 : Nat} {x1 : Int32} {x2 : Int32} {x3 : Int32} {x4 : Int32} {x5 : Int32} {x7 : Int32} {x8 : Int32} {sx0 : Int32} {h : AH} (k : ok (f_X11_listen_l56_j93 S rc r0 x1 x2 x3 x4 x5 x7 x8 sx0 h) K) : WP S M_X11_listen d cb sb Q 93 [.ref r0, .int x1, .int x2, .int x3, .int x4, .int x5, JK, .int x7, .int x8] [.int sx0] h := by
  obtain ⟨d, rfl, he⟩ := dp (L := 8) hd
  unfold f_X11_listen_l56_j93 at k
  refine wp_iconst dX11_listen_93 ic_0 ?_
  exact wp_wk (wkE <| wkE <| wkE <| wkE <| wkE <| wkE <| wkJ <| wkE <| wkE <| wkN) (s_X11_listen_l56_j94 (Nat.succ_le_succ he) hex hrec k)
def f_X11_listen_l56b (S : SH) (rc : Nat → Int32 → Int32 → Int32 → Int32 → Int32 → Int32 → Int32 → Int32 → AH → Option ((Nat × Int32 × Int32 × Int32 × Int32 × Int32 × Int32 × Int32) × AH)) (r0 : Nat) (x1 : Int32) (x2 : Int32) (x3 : Int32) (x4 : Int32) (x5 : Int32) (x6 : Int32) (x7 : Int32) (x8 : Int32) (h : AH) : Option ((Nat × Int32 × Int32 × Int32 × Int32 × Int32 × Int32 × Int32) × AH) :=
  (gR S h r0 11 3).bind fun p_1 =>
  (aI S h p_1 (1 : Int32)).bind fun v_3 =>
  if v_3 ≤ x8 then
    some ((r0, x1, x2, x3, x4, x5, x6, x7), h)
  else
    (f_X11_is S x2 x8 h).bind fun z => match z with
    | (z_7, h_6) =>
    if z_7 = (0 : Int32) then
      f_X11_listen_l56_j93 S rc r0 x1 x2 x3 x4 x5 x7 x8 x6 h_6
    else
      (ckO S h_6 r0 11).bind fun _ =>
      (f_X11_isAye S r0 x5 x8 h_6).bind fun z => match z with
      | (z_11, h_10) =>
      if z_11 = (0 : Int32) then
        f_X11_listen_l56_j93 S rc r0 x1 x2 x3 x4 x5 x7 x8 x6 h_10
      else
        f_X11_listen_l56_j94 S rc r0 x1 x2 x3 x4 x5 x7 x8 x6 (1 : Int32) h_10
set_option maxHeartbeats 8000000 in
set_option maxRecDepth 20000 in
theorem s_X11_listen_l56b {S : SH} {d cb sb : Nat} {Q : Option Value → AH → Prop} (hd : 9 ≤ d) {K : (Nat × Int32 × Int32 × Int32 × Int32 × Int32 × Int32 × Int32) → AH → Prop} (hex : ∀ (r0 : Nat) (x1 : Int32) (x2 : Int32) (x3 : Int32) (x4 : Int32) (x5 : Int32) (x6 : Int32) (x7 : Int32) (h' : AH), K (r0, x1, x2, x3, x4, x5, x6, x7) h' → WP S M_X11_listen d cb sb Q 133 [.ref r0, .int x1, .int x2, .int x3, .int x4, .int x5, .int x6, .int x7, JK] [] h') {rc : Nat → Int32 → Int32 → Int32 → Int32 → Int32 → Int32 → Int32 → Int32 → AH → Option ((Nat × Int32 × Int32 × Int32 × Int32 × Int32 × Int32 × Int32) × AH)} (hrec : ∀ (r0 : Nat) (x1 : Int32) (x2 : Int32) (x3 : Int32) (x4 : Int32) (x5 : Int32) (x6 : Int32) (x7 : Int32) (x8 : Int32) (h' : AH), ok (rc r0 x1 x2 x3 x4 x5 x6 x7 x8 h') K → WP S M_X11_listen d cb sb Q 56 [.ref r0, .int x1, .int x2, .int x3, .int x4, .int x5, .int x6, .int x7, .int x8] [] h') {r0 : Nat} {x1 : Int32} {x2 : Int32} {x3 : Int32} {x4 : Int32} {x5 : Int32} {x6 : Int32} {x7 : Int32} {x8 : Int32} {h : AH} (k : ok (f_X11_listen_l56b S rc r0 x1 x2 x3 x4 x5 x6 x7 x8 h) K) : WP S M_X11_listen d cb sb Q 56 [.ref r0, .int x1, .int x2, .int x3, .int x4, .int x5, .int x6, .int x7, .int x8] [] h := by
  obtain ⟨d, rfl, he⟩ := dp (L := 8) hd
  unfold f_X11_listen_l56b at k
  refine wp_iload dX11_listen_56 rfl ?_
  refine wp_aload_n dX11_listen_58 rfl ?_
  replace k := ok_bind k
  obtain ⟨p_1, e_2, k⟩ := k
  refine wq_getR fl_X11_13 (Or.inr ⟨_, rfl⟩) dX11_listen_59 e_2 ?_
  refine wp_iconst dX11_listen_62 ic_1 ?_
  replace k := ok_bind k
  obtain ⟨v_3, e_4, k⟩ := k
  refine wq_aI dX11_listen_63 e_4 ?_
  refine wp_icmp_ge 133 dX11_listen_64 (by decide) (fun c_5 => ?_) (fun c_5 => ?_)
  · replace k := ok_t c_5 k
    exact wp_wk (wkE <| wkE <| wkE <| wkE <| wkE <| wkE <| wkE <| wkE <| wkJ <| wkN) (hex _ _ _ _ _ _ _ _ _ (ok_some k))
  · replace k := ok_f c_5 k
    refine wp_iload dX11_listen_67 rfl ?_
    refine wp_iload_n dX11_listen_69 rfl ?_
    refine wp_iload dX11_listen_70 rfl ?_
    refine wp_callS2 (N := M_X11_is) mf_X11_is ms_X11_is ml_X11_485 dX11_listen_72 (by exact Nat.le_of_ble_eq_true rfl) (c_X11_is (Nat.le_trans (by decide) he) (ok_mono (ok_bind2 k) fun z_7 h_6 k => ?_))
    try dsimp only at k
    refine wp_if_eq 93 dX11_listen_75 (by decide) (fun c_8 => ?_) (fun c_8 => ?_)
    · replace k := ok_t c_8 k
      exact wp_wk (wkE <| wkE <| wkE <| wkE <| wkE <| wkE <| wkJ <| wkE <| wkE <| wkN) (s_X11_listen_l56_j93 (Nat.succ_le_succ he) hex hrec k)
    · replace k := ok_f c_8 k
      refine wp_aload_n dX11_listen_78 rfl ?_
      refine wp_iload dX11_listen_79 rfl ?_
      refine wp_iload dX11_listen_81 rfl ?_
      replace k := ok_bind k
      obtain ⟨u, e_9, k⟩ := k
      refine wp_callV2 (N := M_X11_isAye) (ci := 11) mf_X11_isAye mi_X11_isAye me_X11_isAye ml_X11_222 dX11_listen_83 (ckO_e e_9) mv_X11_isAye (by exact Nat.le_of_ble_eq_true rfl) (c_X11_isAye (Nat.le_trans (by decide) he) (ok_mono (ok_bind2 k) fun z_11 h_10 k => ?_))
      try dsimp only at k
      refine wp_if_eq 93 dX11_listen_86 (by decide) (fun c_12 => ?_) (fun c_12 => ?_)
      · replace k := ok_t c_12 k
        exact wp_wk (wkE <| wkE <| wkE <| wkE <| wkE <| wkE <| wkJ <| wkE <| wkE <| wkN) (s_X11_listen_l56_j93 (Nat.succ_le_succ he) hex hrec k)
      · replace k := ok_f c_12 k
        refine wp_iconst dX11_listen_89 ic_1 ?_
        refine wp_goto 94 dX11_listen_90 (by decide) ?_
        exact wp_wk (wkE <| wkE <| wkE <| wkE <| wkE <| wkE <| wkJ <| wkE <| wkE <| wkN) (s_X11_listen_l56_j94 (Nat.succ_le_succ he) hex hrec k)
def f_X11_listen_l56 (S : SH) : Nat → Nat → Int32 → Int32 → Int32 → Int32 → Int32 → Int32 → Int32 → Int32 → AH → Option ((Nat × Int32 × Int32 × Int32 × Int32 × Int32 × Int32 × Int32) × AH)
  | 0, _, _, _, _, _, _, _, _, _, _ => none
  | n + 1, r0, x1, x2, x3, x4, x5, x6, x7, x8, h => f_X11_listen_l56b S (f_X11_listen_l56 S n) r0 x1 x2 x3 x4 x5 x6 x7 x8 h
theorem s_X11_listen_l56 {S : SH} {d cb sb : Nat} {Q : Option Value → AH → Prop} (hd : 9 ≤ d) {K : (Nat × Int32 × Int32 × Int32 × Int32 × Int32 × Int32 × Int32) → AH → Prop} (hex : ∀ (r0 : Nat) (x1 : Int32) (x2 : Int32) (x3 : Int32) (x4 : Int32) (x5 : Int32) (x6 : Int32) (x7 : Int32) (h' : AH), K (r0, x1, x2, x3, x4, x5, x6, x7) h' → WP S M_X11_listen d cb sb Q 133 [.ref r0, .int x1, .int x2, .int x3, .int x4, .int x5, .int x6, .int x7, JK] [] h') : ∀ (n : Nat) (r0 : Nat) (x1 : Int32) (x2 : Int32) (x3 : Int32) (x4 : Int32) (x5 : Int32) (x6 : Int32) (x7 : Int32) (x8 : Int32) (h : AH), ok (f_X11_listen_l56 S n r0 x1 x2 x3 x4 x5 x6 x7 x8 h) K → WP S M_X11_listen d cb sb Q 56 [.ref r0, .int x1, .int x2, .int x3, .int x4, .int x5, .int x6, .int x7, .int x8] [] h := by
  intro n
  induction n with
  | zero => intro r0 x1 x2 x3 x4 x5 x6 x7 x8 h k; exact ok_none k
  | succ n ih => intro r0 x1 x2 x3 x4 x5 x6 x7 x8 h k; exact s_X11_listen_l56b hd hex (fun r0 x1 x2 x3 x4 x5 x6 x7 x8 h k => ih r0 x1 x2 x3 x4 x5 x6 x7 x8 h k) k
def f_X11_listen_l36_j147 (S : SH) (rc : Nat → Int32 → Int32 → Int32 → Int32 → Int32 → AH → Option ((Int32 × Int32 × Int32) × AH)) (r0 : Nat) (x1 : Int32) (x2 : Int32) (x3 : Int32) (x4 : Int32) (x5 : Int32) (sx0 : Int32) (h : AH) : Option ((Int32 × Int32 × Int32) × AH) :=
  if x3 ≤ sx0 then
    if x3 ≤ sx0 then
      lt (x5 + (1 : Int32)) fun y_3 =>
      rc r0 x1 x2 x3 x4 y_3 h
    else
      lt (x5 + (1 : Int32)) fun y_4 =>
      rc r0 x1 x2 sx0 x4 y_4 h
  else
    if x3 ≤ sx0 then
      lt (x5 + (1 : Int32)) fun y_6 =>
      rc r0 x1 x2 x3 x5 y_6 h
    else
      lt (x5 + (1 : Int32)) fun y_7 =>
      rc r0 x1 x2 sx0 x5 y_7 h
set_option maxHeartbeats 8000000 in
set_option maxRecDepth 20000 in
theorem s_X11_listen_l36_j147 {S : SH} {d cb sb : Nat} {Q : Option Value → AH → Prop} (hd : 9 ≤ d) {K : (Int32 × Int32 × Int32) → AH → Prop} (hex : ∀ (x1 : Int32) (x3 : Int32) (x4 : Int32) (h' : AH), K (x1, x3, x4) h' → WP S M_X11_listen d cb sb Q 183 [JK, .int x1, JK, .int x3, .int x4, JK, JK, JK, JK] [] h') {rc : Nat → Int32 → Int32 → Int32 → Int32 → Int32 → AH → Option ((Int32 × Int32 × Int32) × AH)} (hrec : ∀ (r0 : Nat) (x1 : Int32) (x2 : Int32) (x3 : Int32) (x4 : Int32) (x5 : Int32) (h' : AH), ok (rc r0 x1 x2 x3 x4 x5 h') K → WP S M_X11_listen d cb sb Q 36 [.ref r0, .int x1, .int x2, .int x3, .int x4, .int x5, JK, JK, JK] [] h') {r0 : Nat} {x1 : Int32} {x2 : Int32} {x3 : Int32} {x4 : Int32} {x5 : Int32} {sx0 : Int32} {h : AH} (k : ok (f_X11_listen_l36_j147 S rc r0 x1 x2 x3 x4 x5 sx0 h) K) : WP S M_X11_listen d cb sb Q 147 [.ref r0, .int x1, .int x2, .int x3, .int x4, .int x5, JK, JK, JK] [.int sx0] h := by
  obtain ⟨d, rfl, he⟩ := dp (L := 8) hd
  unfold f_X11_listen_l36_j147 at k
  refine wp_istore dX11_listen_147 (by decide) (L1 := [_, _, _, _, _, _, _, _, _]) rfl ?_
  refine wp_iload dX11_listen_149 rfl ?_
  refine wp_iload_n dX11_listen_151 rfl ?_
  refine wp_icmp_ge 160 dX11_listen_152 (by decide) (fun c_1 => ?_) (fun c_1 => ?_)
  · replace k := ok_t c_1 k
    refine wp_iload dX11_listen_160 rfl ?_
    refine wp_istore dX11_listen_162 (by decide) (L1 := [_, _, _, _, _, _, _, _, _]) rfl ?_
    refine wp_iload dX11_listen_164 rfl ?_
    refine wp_iload_n dX11_listen_166 rfl ?_
    refine wp_icmp_ge 175 dX11_listen_167 (by decide) (fun c_2 => ?_) (fun c_2 => ?_)
    · replace k := ok_t c_2 k
      refine wp_iload_n dX11_listen_175 rfl ?_
      refine wp_istore_n dX11_listen_176 (by decide) (L1 := [_, _, _, _, _, _, _, _, _]) rfl ?_
      replace k := ok_lt k
      refine wp_iinc dX11_listen_177 rfl ic_1 (by decide) (L1 := [_, _, _, _, _, _, _, _, _]) rfl ?_
      refine wp_goto 36 dX11_listen_180 (by decide) ?_
      exact wp_wk (wkE <| wkE <| wkE <| wkE <| wkE <| wkE <| wkJ <| wkJ <| wkJ <| wkN) (hrec _ _ _ _ _ _ _ k)
    · replace k := ok_f c_2 k
      refine wp_iload dX11_listen_170 rfl ?_
      refine wp_goto 176 dX11_listen_172 (by decide) ?_
      refine wp_istore_n dX11_listen_176 (by decide) (L1 := [_, _, _, _, _, _, _, _, _]) rfl ?_
      replace k := ok_lt k
      refine wp_iinc dX11_listen_177 rfl ic_1 (by decide) (L1 := [_, _, _, _, _, _, _, _, _]) rfl ?_
      refine wp_goto 36 dX11_listen_180 (by decide) ?_
      exact wp_wk (wkE <| wkE <| wkE <| wkE <| wkE <| wkE <| wkJ <| wkJ <| wkJ <| wkN) (hrec _ _ _ _ _ _ _ k)
  · replace k := ok_f c_1 k
    refine wp_iload dX11_listen_155 rfl ?_
    refine wp_goto 162 dX11_listen_157 (by decide) ?_
    refine wp_istore dX11_listen_162 (by decide) (L1 := [_, _, _, _, _, _, _, _, _]) rfl ?_
    refine wp_iload dX11_listen_164 rfl ?_
    refine wp_iload_n dX11_listen_166 rfl ?_
    refine wp_icmp_ge 175 dX11_listen_167 (by decide) (fun c_5 => ?_) (fun c_5 => ?_)
    · replace k := ok_t c_5 k
      refine wp_iload_n dX11_listen_175 rfl ?_
      refine wp_istore_n dX11_listen_176 (by decide) (L1 := [_, _, _, _, _, _, _, _, _]) rfl ?_
      replace k := ok_lt k
      refine wp_iinc dX11_listen_177 rfl ic_1 (by decide) (L1 := [_, _, _, _, _, _, _, _, _]) rfl ?_
      refine wp_goto 36 dX11_listen_180 (by decide) ?_
      exact wp_wk (wkE <| wkE <| wkE <| wkE <| wkE <| wkE <| wkJ <| wkJ <| wkJ <| wkN) (hrec _ _ _ _ _ _ _ k)
    · replace k := ok_f c_5 k
      refine wp_iload dX11_listen_170 rfl ?_
      refine wp_goto 176 dX11_listen_172 (by decide) ?_
      refine wp_istore_n dX11_listen_176 (by decide) (L1 := [_, _, _, _, _, _, _, _, _]) rfl ?_
      replace k := ok_lt k
      refine wp_iinc dX11_listen_177 rfl ic_1 (by decide) (L1 := [_, _, _, _, _, _, _, _, _]) rfl ?_
      refine wp_goto 36 dX11_listen_180 (by decide) ?_
      exact wp_wk (wkE <| wkE <| wkE <| wkE <| wkE <| wkE <| wkJ <| wkJ <| wkJ <| wkN) (hrec _ _ _ _ _ _ _ k)
def f_X11_listen_l36b (S : SH) (rc : Nat → Int32 → Int32 → Int32 → Int32 → Int32 → AH → Option ((Int32 × Int32 × Int32) × AH)) (r0 : Nat) (x1 : Int32) (x2 : Int32) (x3 : Int32) (x4 : Int32) (x5 : Int32) (h : AH) : Option ((Int32 × Int32 × Int32) × AH) :=
  (gR S h r0 11 3).bind fun p_1 =>
  (aI S h p_1 (0 : Int32)).bind fun v_3 =>
  if v_3 ≤ x5 then
    some ((x1, x3, x4), h)
  else
    (f_X11_listen_l56 S FU r0 x1 x2 x3 x4 x5 (0 : Int32) (0 : Int32) (0 : Int32) h).bind fun z => match z with
    | ((r0_7, x1_8, x2_9, x3_10, x4_11, x5_12, x6_13, x7_14), h_6) =>
    if x6_13 ≤ x7_14 then
      f_X11_listen_l36_j147 S rc r0_7 x1_8 x2_9 x3_10 x4_11 x5_12 x7_14 h_6
    else
      f_X11_listen_l36_j147 S rc r0_7 x1_8 x2_9 x3_10 x4_11 x5_12 x6_13 h_6
set_option maxHeartbeats 8000000 in
set_option maxRecDepth 20000 in
theorem s_X11_listen_l36b {S : SH} {d cb sb : Nat} {Q : Option Value → AH → Prop} (hd : 9 ≤ d) {K : (Int32 × Int32 × Int32) → AH → Prop} (hex : ∀ (x1 : Int32) (x3 : Int32) (x4 : Int32) (h' : AH), K (x1, x3, x4) h' → WP S M_X11_listen d cb sb Q 183 [JK, .int x1, JK, .int x3, .int x4, JK, JK, JK, JK] [] h') {rc : Nat → Int32 → Int32 → Int32 → Int32 → Int32 → AH → Option ((Int32 × Int32 × Int32) × AH)} (hrec : ∀ (r0 : Nat) (x1 : Int32) (x2 : Int32) (x3 : Int32) (x4 : Int32) (x5 : Int32) (h' : AH), ok (rc r0 x1 x2 x3 x4 x5 h') K → WP S M_X11_listen d cb sb Q 36 [.ref r0, .int x1, .int x2, .int x3, .int x4, .int x5, JK, JK, JK] [] h') {r0 : Nat} {x1 : Int32} {x2 : Int32} {x3 : Int32} {x4 : Int32} {x5 : Int32} {h : AH} (k : ok (f_X11_listen_l36b S rc r0 x1 x2 x3 x4 x5 h) K) : WP S M_X11_listen d cb sb Q 36 [.ref r0, .int x1, .int x2, .int x3, .int x4, .int x5, JK, JK, JK] [] h := by
  obtain ⟨d, rfl, he⟩ := dp (L := 8) hd
  unfold f_X11_listen_l36b at k
  refine wp_iload dX11_listen_36 rfl ?_
  refine wp_aload_n dX11_listen_38 rfl ?_
  replace k := ok_bind k
  obtain ⟨p_1, e_2, k⟩ := k
  refine wq_getR fl_X11_13 (Or.inr ⟨_, rfl⟩) dX11_listen_39 e_2 ?_
  refine wp_iconst dX11_listen_42 ic_0 ?_
  replace k := ok_bind k
  obtain ⟨v_3, e_4, k⟩ := k
  refine wq_aI dX11_listen_43 e_4 ?_
  refine wp_icmp_ge 183 dX11_listen_44 (by decide) (fun c_5 => ?_) (fun c_5 => ?_)
  · replace k := ok_t c_5 k
    exact wp_wk (wkJ <| wkE <| wkJ <| wkE <| wkE <| wkJ <| wkJ <| wkJ <| wkJ <| wkN) (hex _ _ _ _ (ok_some k))
  · replace k := ok_f c_5 k
    refine wp_iconst dX11_listen_47 ic_0 ?_
    refine wp_istore dX11_listen_48 (by decide) (L1 := [_, _, _, _, _, _, _, _, _]) rfl ?_
    refine wp_iconst dX11_listen_50 ic_0 ?_
    refine wp_istore dX11_listen_51 (by decide) (L1 := [_, _, _, _, _, _, _, _, _]) rfl ?_
    refine wp_iconst dX11_listen_53 ic_0 ?_
    refine wp_istore dX11_listen_54 (by decide) (L1 := [_, _, _, _, _, _, _, _, _]) rfl ?_
    refine wp_wk (wkE <| wkE <| wkE <| wkE <| wkE <| wkE <| wkE <| wkE <| wkE <| wkN) ?_
    refine s_X11_listen_l56 (Nat.succ_le_succ he) (fun r0_7 x1_8 x2_9 x3_10 x4_11 x5_12 x6_13 x7_14 h_6 k => ?_) FU _ _ _ _ _ _ _ _ _ _ (ok_bind2 k)
    try dsimp only at k
    refine wp_iload dX11_listen_133 rfl ?_
    refine wp_iload dX11_listen_135 rfl ?_
    refine wp_icmp_le 145 dX11_listen_137 (by decide) (fun c_15 => ?_) (fun c_15 => ?_)
    · replace k := ok_t c_15 k
      refine wp_iload dX11_listen_145 rfl ?_
      exact wp_wk (wkE <| wkE <| wkE <| wkE <| wkE <| wkE <| wkJ <| wkJ <| wkJ <| wkN) (s_X11_listen_l36_j147 (Nat.succ_le_succ he) hex hrec k)
    · replace k := ok_f c_15 k
      refine wp_iload dX11_listen_140 rfl ?_
      refine wp_goto 147 dX11_listen_142 (by decide) ?_
      exact wp_wk (wkE <| wkE <| wkE <| wkE <| wkE <| wkE <| wkJ <| wkJ <| wkJ <| wkN) (s_X11_listen_l36_j147 (Nat.succ_le_succ he) hex hrec k)
def f_X11_listen_l36 (S : SH) : Nat → Nat → Int32 → Int32 → Int32 → Int32 → Int32 → AH → Option ((Int32 × Int32 × Int32) × AH)
  | 0, _, _, _, _, _, _, _ => none
  | n + 1, r0, x1, x2, x3, x4, x5, h => f_X11_listen_l36b S (f_X11_listen_l36 S n) r0 x1 x2 x3 x4 x5 h
theorem s_X11_listen_l36 {S : SH} {d cb sb : Nat} {Q : Option Value → AH → Prop} (hd : 9 ≤ d) {K : (Int32 × Int32 × Int32) → AH → Prop} (hex : ∀ (x1 : Int32) (x3 : Int32) (x4 : Int32) (h' : AH), K (x1, x3, x4) h' → WP S M_X11_listen d cb sb Q 183 [JK, .int x1, JK, .int x3, .int x4, JK, JK, JK, JK] [] h') : ∀ (n : Nat) (r0 : Nat) (x1 : Int32) (x2 : Int32) (x3 : Int32) (x4 : Int32) (x5 : Int32) (h : AH), ok (f_X11_listen_l36 S n r0 x1 x2 x3 x4 x5 h) K → WP S M_X11_listen d cb sb Q 36 [.ref r0, .int x1, .int x2, .int x3, .int x4, .int x5, JK, JK, JK] [] h := by
  intro n
  induction n with
  | zero => intro r0 x1 x2 x3 x4 x5 h k; exact ok_none k
  | succ n ih => intro r0 x1 x2 x3 x4 x5 h k; exact s_X11_listen_l36b hd hex (fun r0 x1 x2 x3 x4 x5 h k => ih r0 x1 x2 x3 x4 x5 h k) k
def f_X11_listen (S : SH) (r0 : Nat) (x1 : Int32) (h : AH) : Option (Int32 × AH) :=
  (pI S h r0 11 0 (0 : Int32)).bind fun h_1 =>
  (ckO S h_1 r0 11).bind fun _ =>
  (f_X11_thatCanBe S r0 h_1).bind fun z => match z with
  | (z_5, h_4) =>
  (f_X11_in S (Int32.toInt64 x1) (0 : Int64) (1 : Int64) h_4).bind fun z => match z with
  | (z_7, h_6) =>
  if z_7 = (0 : Int32) then
    some ((-1 : Int32), h_6)
  else
    if z_5 = (0 : Int32) then
      some ((-1 : Int32), h_6)
    else
      (f_X11_listen_l36 S FU r0 x1 z_5 (100000000 : Int32) (-1 : Int32) (0 : Int32) h_6).bind fun z => match z with
      | ((x1_11, x3_12, x4_13), h_10) =>
      if x4_13 = (-1 : Int32) then
        some (x4_13, h_10)
      else
        if x1_11 = (0 : Int32) then
          some (x4_13, h_10)
        else
          some (x3_12, h_10)
set_option maxHeartbeats 8000000 in
set_option maxRecDepth 20000 in
theorem s_X11_listen {S : SH} {d cb sb : Nat} {Q : Option Value → AH → Prop} (hd : 9 ≤ d)  {r0 : Nat} {x1 : Int32} {h : AH} (k : ok (f_X11_listen S r0 x1 h) (fun w h' => Q (some (.int w)) h')) : WP S M_X11_listen d cb sb Q 0 [.ref r0, .int x1, JK, JK, JK, JK, JK, JK, JK] [] h := by
  obtain ⟨d, rfl, he⟩ := dp (L := 8) hd
  unfold f_X11_listen at k
  refine wp_aload_n dX11_listen_0 rfl ?_
  refine wp_iconst dX11_listen_1 ic_0 ?_
  replace k := ok_bind k
  obtain ⟨h_1, e_2, k⟩ := k
  refine wq_putI fl_X11_152 rfl rfl dX11_listen_2 e_2 ?_
  refine wp_aload_n dX11_listen_5 rfl ?_
  replace k := ok_bind k
  obtain ⟨u, e_3, k⟩ := k
  refine wp_callV0 (N := M_X11_thatCanBe) (ci := 11) mf_X11_thatCanBe mi_X11_thatCanBe me_X11_thatCanBe ml_X11_497 dX11_listen_6 (ckO_e e_3) mv_X11_thatCanBe (by exact Nat.le_of_ble_eq_true rfl) (c_X11_thatCanBe (Nat.le_trans (by decide) he) (ok_mono (ok_bind2 k) fun z_5 h_4 k => ?_))
  try dsimp only at k
  refine wp_istore_n dX11_listen_9 (by decide) (L1 := [_, _, _, _, _, _, _, _, _]) rfl ?_
  refine wp_iload_n dX11_listen_10 rfl ?_
  refine wp_i2l dX11_listen_11 ?_
  refine wp_lconst dX11_listen_12 lc_0 ?_
  refine wp_lconst dX11_listen_13 lc_1 ?_
  refine wp_callS3 (N := M_X11_in) mf_X11_in ms_X11_in ml_X11_172 dX11_listen_14 (by exact Nat.le_of_ble_eq_true rfl) (c_X11_in (Nat.le_trans (by decide) he) (ok_mono (ok_bind2 k) fun z_7 h_6 k => ?_))
  try dsimp only at k
  refine wp_if_eq 24 dX11_listen_17 (by decide) (fun c_8 => ?_) (fun c_8 => ?_)
  · replace k := ok_t c_8 k
    refine wp_iconst dX11_listen_24 ic_m1 ?_
    refine wp_iret rfl rfl dX11_listen_25 ?_
    exact (ok_some k :)
  · replace k := ok_f c_8 k
    refine wp_iload_n dX11_listen_20 rfl ?_
    refine wp_if_ne 26 dX11_listen_21 (by decide) (fun c_9 => ?_) (fun c_9 => ?_)
    · replace k := ok_f c_9 k
      refine wp_ldcw ct_X11_481 dX11_listen_26 ?_
      refine wp_istore_n dX11_listen_29 (by decide) (L1 := [_, _, _, _, _, _, _, _, _]) rfl ?_
      refine wp_iconst dX11_listen_30 ic_m1 ?_
      refine wp_istore dX11_listen_31 (by decide) (L1 := [_, _, _, _, _, _, _, _, _]) rfl ?_
      refine wp_iconst dX11_listen_33 ic_0 ?_
      refine wp_istore dX11_listen_34 (by decide) (L1 := [_, _, _, _, _, _, _, _, _]) rfl ?_
      refine wp_wk (wkE <| wkE <| wkE <| wkE <| wkE <| wkE <| wkJ <| wkJ <| wkJ <| wkN) ?_
      refine s_X11_listen_l36 (Nat.succ_le_succ he) (fun x1_11 x3_12 x4_13 h_10 k => ?_) FU _ _ _ _ _ _ _ (ok_bind2 k)
      try dsimp only at k
      refine wp_iload dX11_listen_183 rfl ?_
      refine wp_iconst dX11_listen_185 ic_m1 ?_
      refine wp_icmp_eq 193 dX11_listen_186 (by decide) (fun c_14 => ?_) (fun c_14 => ?_)
      · replace k := ok_t c_14 k
        refine wp_iload dX11_listen_193 rfl ?_
        refine wp_goto 199 dX11_listen_195 (by decide) ?_
        refine wp_iret rfl rfl dX11_listen_199 ?_
        exact (ok_some k :)
      · replace k := ok_f c_14 k
        refine wp_iload_n dX11_listen_189 rfl ?_
        refine wp_if_ne 198 dX11_listen_190 (by decide) (fun c_15 => ?_) (fun c_15 => ?_)
        · replace k := ok_f c_15 k
          refine wp_iload_n dX11_listen_198 rfl ?_
          refine wp_iret rfl rfl dX11_listen_199 ?_
          exact (ok_some k :)
        · replace k := ok_t c_15 k
          refine wp_iload dX11_listen_193 rfl ?_
          refine wp_goto 199 dX11_listen_195 (by decide) ?_
          refine wp_iret rfl rfl dX11_listen_199 ?_
          exact (ok_some k :)
    · replace k := ok_t c_9 k
      refine wp_iconst dX11_listen_24 ic_m1 ?_
      refine wp_iret rfl rfl dX11_listen_25 ?_
      exact (ok_some k :)
theorem c_X11_listen {S : SH} {d : Nat} {K : Option Value → AH → Prop} (hd : 9 ≤ d)  {r0 : Nat} {x1 : Int32} {h : AH} (k : ok (f_X11_listen S r0 x1 h) (fun w h' => K (some (.int w)) h')) : CP S M_X11_listen d 0 0 [.ref r0, .int x1] h K := cp_of (by decide) (fun _ _ => trivial) (fun _ => Nat.le_of_ble_eq_true rfl) (s_X11_listen hd  k)
def f_X11_few_l35b (S : SH) (rc : Nat → Int32 → Int32 → Int32 → AH → Option ((Nat × Int32 × Int32) × AH)) (r0 : Nat) (x1 : Int32) (x2 : Int32) (x3 : Int32) (h : AH) : Option ((Nat × Int32 × Int32) × AH) :=
  if (21 : Int32) ≤ x3 then
    some ((r0, x1, x2), h)
  else
    (gR S h r0 11 47).bind fun p_2 =>
    if x3 = (0 : Int32) then
      (sJ S h p_2 x3 (1000000000000 : Int64)).bind fun h_8 =>
      lt (x3 + (1 : Int32)) fun y_10 =>
      rc r0 x1 x2 y_10 h_8
    else
      (sJ S h p_2 x3 (0 : Int64)).bind fun h_5 =>
      lt (x3 + (1 : Int32)) fun y_7 =>
      rc r0 x1 x2 y_7 h_5
set_option maxHeartbeats 8000000 in
set_option maxRecDepth 20000 in
theorem s_X11_few_l35b {S : SH} {d cb sb : Nat} {Q : Option Value → AH → Prop} (hd : 1 ≤ d) {K : (Nat × Int32 × Int32) → AH → Prop} (hex : ∀ (r0 : Nat) (x1 : Int32) (x2 : Int32) (h' : AH), K (r0, x1, x2) h' → WP S M_X11_few d cb sb Q 64 [.ref r0, .int x1, .int x2, JK, JK, JK, JK, JK] [] h') {rc : Nat → Int32 → Int32 → Int32 → AH → Option ((Nat × Int32 × Int32) × AH)} (hrec : ∀ (r0 : Nat) (x1 : Int32) (x2 : Int32) (x3 : Int32) (h' : AH), ok (rc r0 x1 x2 x3 h') K → WP S M_X11_few d cb sb Q 35 [.ref r0, .int x1, .int x2, .int x3, JK, JK, JK, JK] [] h') {r0 : Nat} {x1 : Int32} {x2 : Int32} {x3 : Int32} {h : AH} (k : ok (f_X11_few_l35b S rc r0 x1 x2 x3 h) K) : WP S M_X11_few d cb sb Q 35 [.ref r0, .int x1, .int x2, .int x3, JK, JK, JK, JK] [] h := by
  obtain ⟨d, rfl, he⟩ := dp (L := 0) hd
  unfold f_X11_few_l35b at k
  refine wp_iload_n dX11_few_35 rfl ?_
  refine wp_bipush dX11_few_36 bp_21 ?_
  refine wp_icmp_ge 64 dX11_few_38 (by decide) (fun c_1 => ?_) (fun c_1 => ?_)
  · replace k := ok_t c_1 k
    exact wp_wk (wkE <| wkE <| wkE <| wkJ <| wkJ <| wkJ <| wkJ <| wkJ <| wkN) (hex _ _ _ _ (ok_some k))
  · replace k := ok_f c_1 k
    refine wp_aload_n dX11_few_41 rfl ?_
    replace k := ok_bind k
    obtain ⟨p_2, e_3, k⟩ := k
    refine wq_getR fl_X11_123 (Or.inr ⟨_, rfl⟩) dX11_few_42 e_3 ?_
    refine wp_iload_n dX11_few_45 rfl ?_
    refine wp_iload_n dX11_few_46 rfl ?_
    refine wp_if_ne 56 dX11_few_47 (by decide) (fun c_4 => ?_) (fun c_4 => ?_)
    · replace k := ok_f c_4 k
      refine wp_lconst dX11_few_56 lc_0 ?_
      replace k := ok_bind k
      obtain ⟨h_5, e_6, k⟩ := k
      refine wq_sJ dX11_few_57 e_6 ?_
      replace k := ok_lt k
      refine wp_iinc dX11_few_58 rfl ic_1 (by decide) (L1 := [_, _, _, _, _, _, _, _]) rfl ?_
      refine wp_goto 35 dX11_few_61 (by decide) ?_
      exact wp_wk (wkE <| wkE <| wkE <| wkE <| wkJ <| wkJ <| wkJ <| wkJ <| wkN) (hrec _ _ _ _ _ k)
    · replace k := ok_t c_4 k
      refine wp_ldc2 ct_X11_502 dX11_few_50 ?_
      refine wp_goto 57 dX11_few_53 (by decide) ?_
      replace k := ok_bind k
      obtain ⟨h_8, e_9, k⟩ := k
      refine wq_sJ dX11_few_57 e_9 ?_
      replace k := ok_lt k
      refine wp_iinc dX11_few_58 rfl ic_1 (by decide) (L1 := [_, _, _, _, _, _, _, _]) rfl ?_
      refine wp_goto 35 dX11_few_61 (by decide) ?_
      exact wp_wk (wkE <| wkE <| wkE <| wkE <| wkJ <| wkJ <| wkJ <| wkJ <| wkN) (hrec _ _ _ _ _ k)
def f_X11_few_l35 (S : SH) : Nat → Nat → Int32 → Int32 → Int32 → AH → Option ((Nat × Int32 × Int32) × AH)
  | 0, _, _, _, _, _ => none
  | n + 1, r0, x1, x2, x3, h => f_X11_few_l35b S (f_X11_few_l35 S n) r0 x1 x2 x3 h
theorem s_X11_few_l35 {S : SH} {d cb sb : Nat} {Q : Option Value → AH → Prop} (hd : 1 ≤ d) {K : (Nat × Int32 × Int32) → AH → Prop} (hex : ∀ (r0 : Nat) (x1 : Int32) (x2 : Int32) (h' : AH), K (r0, x1, x2) h' → WP S M_X11_few d cb sb Q 64 [.ref r0, .int x1, .int x2, JK, JK, JK, JK, JK] [] h') : ∀ (n : Nat) (r0 : Nat) (x1 : Int32) (x2 : Int32) (x3 : Int32) (h : AH), ok (f_X11_few_l35 S n r0 x1 x2 x3 h) K → WP S M_X11_few d cb sb Q 35 [.ref r0, .int x1, .int x2, .int x3, JK, JK, JK, JK] [] h := by
  intro n
  induction n with
  | zero => intro r0 x1 x2 x3 h k; exact ok_none k
  | succ n ih => intro r0 x1 x2 x3 h k; exact s_X11_few_l35b hd hex (fun r0 x1 x2 x3 h k => ih r0 x1 x2 x3 h k) k
def f_X11_few_l86b (S : SH) (rc : Nat → Int32 → Int32 → Int32 → Int32 → Int32 → AH → Option ((Nat × Int32 × Int32 × Int32 × Int32) × AH)) (r0 : Nat) (x1 : Int32) (x2 : Int32) (x3 : Int32) (x4 : Int32) (x5 : Int32) (h : AH) : Option ((Nat × Int32 × Int32 × Int32 × Int32) × AH) :=
  if x5 < (0 : Int32) then
    some ((r0, x1, x2, x3, x4), h)
  else
    (gR S h r0 11 47).bind fun p_2 =>
    (aJ S h p_2 x5).bind fun w_4 =>
    (gR S h r0 11 47).bind fun p_6 =>
    (sJ S h p_6 x5 ((w_4 * (Int32.toInt64 ((10 : Int32) - x3))) / (10 : Int64))).bind fun h_8 =>
    (gR S h_8 r0 11 47).bind fun p_10 =>
    (aJ S h_8 p_10 (x5 + (1 : Int32))).bind fun w_12 =>
    (sJ S h_8 p_10 (x5 + (1 : Int32)) (w_12 + ((w_4 * (Int32.toInt64 x3)) / (10 : Int64)))).bind fun h_14 =>
    lt (x5 + (-1 : Int32)) fun y_16 =>
    rc r0 x1 x2 x3 x4 y_16 h_14
set_option maxHeartbeats 8000000 in
set_option maxRecDepth 20000 in
theorem s_X11_few_l86b {S : SH} {d cb sb : Nat} {Q : Option Value → AH → Prop} (hd : 1 ≤ d) {K : (Nat × Int32 × Int32 × Int32 × Int32) → AH → Prop} (hex : ∀ (r0 : Nat) (x1 : Int32) (x2 : Int32) (x3 : Int32) (x4 : Int32) (h' : AH), K (r0, x1, x2, x3, x4) h' → WP S M_X11_few d cb sb Q 146 [.ref r0, .int x1, .int x2, .int x3, .int x4, JK, JK, JK] [] h') {rc : Nat → Int32 → Int32 → Int32 → Int32 → Int32 → AH → Option ((Nat × Int32 × Int32 × Int32 × Int32) × AH)} (hrec : ∀ (r0 : Nat) (x1 : Int32) (x2 : Int32) (x3 : Int32) (x4 : Int32) (x5 : Int32) (h' : AH), ok (rc r0 x1 x2 x3 x4 x5 h') K → WP S M_X11_few d cb sb Q 86 [.ref r0, .int x1, .int x2, .int x3, .int x4, .int x5, JK, JK] [] h') {r0 : Nat} {x1 : Int32} {x2 : Int32} {x3 : Int32} {x4 : Int32} {x5 : Int32} {h : AH} (k : ok (f_X11_few_l86b S rc r0 x1 x2 x3 x4 x5 h) K) : WP S M_X11_few d cb sb Q 86 [.ref r0, .int x1, .int x2, .int x3, .int x4, .int x5, JK, JK] [] h := by
  obtain ⟨d, rfl, he⟩ := dp (L := 0) hd
  unfold f_X11_few_l86b at k
  refine wp_iload dX11_few_86 rfl ?_
  refine wp_if_lt 146 dX11_few_88 (by decide) (fun c_1 => ?_) (fun c_1 => ?_)
  · replace k := ok_t c_1 k
    exact wp_wk (wkE <| wkE <| wkE <| wkE <| wkE <| wkJ <| wkJ <| wkJ <| wkN) (hex _ _ _ _ _ _ (ok_some k))
  · replace k := ok_f c_1 k
    refine wp_aload_n dX11_few_91 rfl ?_
    replace k := ok_bind k
    obtain ⟨p_2, e_3, k⟩ := k
    refine wq_getR fl_X11_123 (Or.inr ⟨_, rfl⟩) dX11_few_92 e_3 ?_
    refine wp_iload dX11_few_95 rfl ?_
    replace k := ok_bind k
    obtain ⟨w_4, e_5, k⟩ := k
    refine wq_aJ dX11_few_97 e_5 ?_
    refine wp_lstore dX11_few_98 (by decide) (L1 := [_, _, _, _, _, _, _, _]) rfl ?_
    refine wp_aload_n dX11_few_100 rfl ?_
    replace k := ok_bind k
    obtain ⟨p_6, e_7, k⟩ := k
    refine wq_getR fl_X11_123 (Or.inr ⟨_, rfl⟩) dX11_few_101 e_7 ?_
    refine wp_iload dX11_few_104 rfl ?_
    refine wp_lload dX11_few_106 rfl ?_
    refine wp_bipush dX11_few_108 bp_10 ?_
    refine wp_iload_n dX11_few_110 rfl ?_
    refine wp_isub dX11_few_111 ?_
    refine wp_i2l dX11_few_112 ?_
    refine wp_lmul dX11_few_113 ?_
    refine wp_ldc2 ct_X11_239 dX11_few_114 ?_
    refine wp_ldiv dX11_few_117 (by decide) ?_
    replace k := ok_bind k
    obtain ⟨h_8, e_9, k⟩ := k
    refine wq_sJ dX11_few_118 e_9 ?_
    refine wp_aload_n dX11_few_119 rfl ?_
    replace k := ok_bind k
    obtain ⟨p_10, e_11, k⟩ := k
    refine wq_getR fl_X11_123 (Or.inr ⟨_, rfl⟩) dX11_few_120 e_11 ?_
    refine wp_iload dX11_few_123 rfl ?_
    refine wp_iconst dX11_few_125 ic_1 ?_
    refine wp_iadd dX11_few_126 ?_
    refine wp_dup2 dX11_few_127 ?_
    replace k := ok_bind k
    obtain ⟨w_12, e_13, k⟩ := k
    refine wq_aJ dX11_few_128 e_13 ?_
    refine wp_lload dX11_few_129 rfl ?_
    refine wp_iload_n dX11_few_131 rfl ?_
    refine wp_i2l dX11_few_132 ?_
    refine wp_lmul dX11_few_133 ?_
    refine wp_ldc2 ct_X11_239 dX11_few_134 ?_
    refine wp_ldiv dX11_few_137 (by decide) ?_
    refine wp_ladd dX11_few_138 ?_
    replace k := ok_bind k
    obtain ⟨h_14, e_15, k⟩ := k
    refine wq_sJ dX11_few_139 e_15 ?_
    replace k := ok_lt k
    refine wp_iinc dX11_few_140 rfl ic_m1 (by decide) (L1 := [_, _, _, _, _, _, _, _]) rfl ?_
    refine wp_goto 86 dX11_few_143 (by decide) ?_
    exact wp_wk (wkE <| wkE <| wkE <| wkE <| wkE <| wkE <| wkJ <| wkJ <| wkN) (hrec _ _ _ _ _ _ _ k)
def f_X11_few_l86 (S : SH) : Nat → Nat → Int32 → Int32 → Int32 → Int32 → Int32 → AH → Option ((Nat × Int32 × Int32 × Int32 × Int32) × AH)
  | 0, _, _, _, _, _, _, _ => none
  | n + 1, r0, x1, x2, x3, x4, x5, h => f_X11_few_l86b S (f_X11_few_l86 S n) r0 x1 x2 x3 x4 x5 h
theorem s_X11_few_l86 {S : SH} {d cb sb : Nat} {Q : Option Value → AH → Prop} (hd : 1 ≤ d) {K : (Nat × Int32 × Int32 × Int32 × Int32) → AH → Prop} (hex : ∀ (r0 : Nat) (x1 : Int32) (x2 : Int32) (x3 : Int32) (x4 : Int32) (h' : AH), K (r0, x1, x2, x3, x4) h' → WP S M_X11_few d cb sb Q 146 [.ref r0, .int x1, .int x2, .int x3, .int x4, JK, JK, JK] [] h') : ∀ (n : Nat) (r0 : Nat) (x1 : Int32) (x2 : Int32) (x3 : Int32) (x4 : Int32) (x5 : Int32) (h : AH), ok (f_X11_few_l86 S n r0 x1 x2 x3 x4 x5 h) K → WP S M_X11_few d cb sb Q 86 [.ref r0, .int x1, .int x2, .int x3, .int x4, .int x5, JK, JK] [] h := by
  intro n
  induction n with
  | zero => intro r0 x1 x2 x3 x4 x5 h k; exact ok_none k
  | succ n ih => intro r0 x1 x2 x3 x4 x5 h k; exact s_X11_few_l86b hd hex (fun r0 x1 x2 x3 x4 x5 h k => ih r0 x1 x2 x3 x4 x5 h k) k
def f_X11_few_l75b (S : SH) (rc : Nat → Int32 → Int32 → Int32 → Int32 → AH → Option ((Nat × Int32) × AH)) (r0 : Nat) (x1 : Int32) (x2 : Int32) (x3 : Int32) (x4 : Int32) (h : AH) : Option ((Nat × Int32) × AH) :=
  if x2 ≤ x4 then
    some ((r0, x1), h)
  else
    lt ((x1 - (1 : Int32))) fun y_2 =>
    (f_X11_few_l86 S FU r0 x1 x2 x3 x4 y_2 h).bind fun z => match z with
    | ((r0_4, x1_5, x2_6, x3_7, x4_8), h_3) =>
    lt (x4_8 + (1 : Int32)) fun y_9 =>
    rc r0_4 x1_5 x2_6 x3_7 y_9 h_3
set_option maxHeartbeats 8000000 in
set_option maxRecDepth 20000 in
theorem s_X11_few_l75b {S : SH} {d cb sb : Nat} {Q : Option Value → AH → Prop} (hd : 1 ≤ d) {K : (Nat × Int32) → AH → Prop} (hex : ∀ (r0 : Nat) (x1 : Int32) (h' : AH), K (r0, x1) h' → WP S M_X11_few d cb sb Q 152 [.ref r0, .int x1, JK, JK, JK, JK, JK, JK] [] h') {rc : Nat → Int32 → Int32 → Int32 → Int32 → AH → Option ((Nat × Int32) × AH)} (hrec : ∀ (r0 : Nat) (x1 : Int32) (x2 : Int32) (x3 : Int32) (x4 : Int32) (h' : AH), ok (rc r0 x1 x2 x3 x4 h') K → WP S M_X11_few d cb sb Q 75 [.ref r0, .int x1, .int x2, .int x3, .int x4, JK, JK, JK] [] h') {r0 : Nat} {x1 : Int32} {x2 : Int32} {x3 : Int32} {x4 : Int32} {h : AH} (k : ok (f_X11_few_l75b S rc r0 x1 x2 x3 x4 h) K) : WP S M_X11_few d cb sb Q 75 [.ref r0, .int x1, .int x2, .int x3, .int x4, JK, JK, JK] [] h := by
  obtain ⟨d, rfl, he⟩ := dp (L := 0) hd
  unfold f_X11_few_l75b at k
  refine wp_iload dX11_few_75 rfl ?_
  refine wp_iload_n dX11_few_77 rfl ?_
  refine wp_icmp_ge 152 dX11_few_78 (by decide) (fun c_1 => ?_) (fun c_1 => ?_)
  · replace k := ok_t c_1 k
    exact wp_wk (wkE <| wkE <| wkJ <| wkJ <| wkJ <| wkJ <| wkJ <| wkJ <| wkN) (hex _ _ _ (ok_some k))
  · replace k := ok_f c_1 k
    refine wp_iload_n dX11_few_81 rfl ?_
    refine wp_iconst dX11_few_82 ic_1 ?_
    refine wp_isub dX11_few_83 ?_
    replace k := ok_lt k
    refine wp_istore dX11_few_84 (by decide) (L1 := [_, _, _, _, _, _, _, _]) rfl ?_
    refine wp_wk (wkE <| wkE <| wkE <| wkE <| wkE <| wkE <| wkJ <| wkJ <| wkN) ?_
    refine s_X11_few_l86 (Nat.succ_le_succ he) (fun r0_4 x1_5 x2_6 x3_7 x4_8 h_3 k => ?_) FU _ _ _ _ _ _ _ (ok_bind2 k)
    try dsimp only at k
    replace k := ok_lt k
    refine wp_iinc dX11_few_146 rfl ic_1 (by decide) (L1 := [_, _, _, _, _, _, _, _]) rfl ?_
    refine wp_goto 75 dX11_few_149 (by decide) ?_
    exact wp_wk (wkE <| wkE <| wkE <| wkE <| wkE <| wkJ <| wkJ <| wkJ <| wkN) (hrec _ _ _ _ _ _ k)
def f_X11_few_l75 (S : SH) : Nat → Nat → Int32 → Int32 → Int32 → Int32 → AH → Option ((Nat × Int32) × AH)
  | 0, _, _, _, _, _, _ => none
  | n + 1, r0, x1, x2, x3, x4, h => f_X11_few_l75b S (f_X11_few_l75 S n) r0 x1 x2 x3 x4 h
theorem s_X11_few_l75 {S : SH} {d cb sb : Nat} {Q : Option Value → AH → Prop} (hd : 1 ≤ d) {K : (Nat × Int32) → AH → Prop} (hex : ∀ (r0 : Nat) (x1 : Int32) (h' : AH), K (r0, x1) h' → WP S M_X11_few d cb sb Q 152 [.ref r0, .int x1, JK, JK, JK, JK, JK, JK] [] h') : ∀ (n : Nat) (r0 : Nat) (x1 : Int32) (x2 : Int32) (x3 : Int32) (x4 : Int32) (h : AH), ok (f_X11_few_l75 S n r0 x1 x2 x3 x4 h) K → WP S M_X11_few d cb sb Q 75 [.ref r0, .int x1, .int x2, .int x3, .int x4, JK, JK, JK] [] h := by
  intro n
  induction n with
  | zero => intro r0 x1 x2 x3 x4 h k; exact ok_none k
  | succ n ih => intro r0 x1 x2 x3 x4 h k; exact s_X11_few_l75b hd hex (fun r0 x1 x2 x3 x4 h k => ih r0 x1 x2 x3 x4 h k) k
def f_X11_few_l158b (S : SH) (rc : Nat → Int32 → Int64 → Int32 → AH → Option (Int64 × AH)) (r0 : Nat) (x1 : Int32) (l4 : Int64) (x6 : Int32) (h : AH) : Option (Int64 × AH) :=
  if x1 ≤ x6 then
    some (l4, h)
  else
    (gR S h r0 11 47).bind fun p_2 =>
    (aJ S h p_2 x6).bind fun w_4 =>
    lt ((l4 + w_4)) fun y_6 =>
    lt (x6 + (1 : Int32)) fun y_7 =>
    rc r0 x1 y_6 y_7 h
set_option maxHeartbeats 8000000 in
set_option maxRecDepth 20000 in
theorem s_X11_few_l158b {S : SH} {d cb sb : Nat} {Q : Option Value → AH → Prop} (hd : 1 ≤ d) {K : Int64 → AH → Prop} (hex : ∀ (l4 : Int64) (h' : AH), K l4 h' → WP S M_X11_few d cb sb Q 182 [JK, JK, JK, JK, .long l4, JK, JK, JK] [] h') {rc : Nat → Int32 → Int64 → Int32 → AH → Option (Int64 × AH)} (hrec : ∀ (r0 : Nat) (x1 : Int32) (l4 : Int64) (x6 : Int32) (h' : AH), ok (rc r0 x1 l4 x6 h') K → WP S M_X11_few d cb sb Q 158 [.ref r0, .int x1, JK, JK, .long l4, JK, .int x6, JK] [] h') {r0 : Nat} {x1 : Int32} {l4 : Int64} {x6 : Int32} {h : AH} (k : ok (f_X11_few_l158b S rc r0 x1 l4 x6 h) K) : WP S M_X11_few d cb sb Q 158 [.ref r0, .int x1, JK, JK, .long l4, JK, .int x6, JK] [] h := by
  obtain ⟨d, rfl, he⟩ := dp (L := 0) hd
  unfold f_X11_few_l158b at k
  refine wp_iload dX11_few_158 rfl ?_
  refine wp_iload_n dX11_few_160 rfl ?_
  refine wp_icmp_ge 182 dX11_few_161 (by decide) (fun c_1 => ?_) (fun c_1 => ?_)
  · replace k := ok_t c_1 k
    exact wp_wk (wkJ <| wkJ <| wkJ <| wkJ <| wkE <| wkJ <| wkJ <| wkJ <| wkN) (hex _ _ (ok_some k))
  · replace k := ok_f c_1 k
    refine wp_lload dX11_few_164 rfl ?_
    refine wp_aload_n dX11_few_166 rfl ?_
    replace k := ok_bind k
    obtain ⟨p_2, e_3, k⟩ := k
    refine wq_getR fl_X11_123 (Or.inr ⟨_, rfl⟩) dX11_few_167 e_3 ?_
    refine wp_iload dX11_few_170 rfl ?_
    replace k := ok_bind k
    obtain ⟨w_4, e_5, k⟩ := k
    refine wq_aJ dX11_few_172 e_5 ?_
    refine wp_ladd dX11_few_173 ?_
    replace k := ok_lt k
    refine wp_lstore dX11_few_174 (by decide) (L1 := [_, _, _, _, _, _, _, _]) rfl ?_
    replace k := ok_lt k
    refine wp_iinc dX11_few_176 rfl ic_1 (by decide) (L1 := [_, _, _, _, _, _, _, _]) rfl ?_
    refine wp_goto 158 dX11_few_179 (by decide) ?_
    exact wp_wk (wkE <| wkE <| wkJ <| wkJ <| wkE <| wkJ <| wkE <| wkJ <| wkN) (hrec _ _ _ _ _ k)
def f_X11_few_l158 (S : SH) : Nat → Nat → Int32 → Int64 → Int32 → AH → Option (Int64 × AH)
  | 0, _, _, _, _, _ => none
  | n + 1, r0, x1, l4, x6, h => f_X11_few_l158b S (f_X11_few_l158 S n) r0 x1 l4 x6 h
theorem s_X11_few_l158 {S : SH} {d cb sb : Nat} {Q : Option Value → AH → Prop} (hd : 1 ≤ d) {K : Int64 → AH → Prop} (hex : ∀ (l4 : Int64) (h' : AH), K l4 h' → WP S M_X11_few d cb sb Q 182 [JK, JK, JK, JK, .long l4, JK, JK, JK] [] h') : ∀ (n : Nat) (r0 : Nat) (x1 : Int32) (l4 : Int64) (x6 : Int32) (h : AH), ok (f_X11_few_l158 S n r0 x1 l4 x6 h) K → WP S M_X11_few d cb sb Q 158 [.ref r0, .int x1, JK, JK, .long l4, JK, .int x6, JK] [] h := by
  intro n
  induction n with
  | zero => intro r0 x1 l4 x6 h k; exact ok_none k
  | succ n ih => intro r0 x1 l4 x6 h k; exact s_X11_few_l158b hd hex (fun r0 x1 l4 x6 h k => ih r0 x1 l4 x6 h k) k
def f_X11_few (S : SH) (r0 : Nat) (x1 : Int32) (x2 : Int32) (h : AH) : Option (Int64 × AH) :=
  (pI S h r0 11 0 (0 : Int32)).bind fun h_1 =>
  (f_X11_in S (Int32.toInt64 x1) (1 : Int64) (20 : Int64) h_1).bind fun z => match z with
  | (z_4, h_3) =>
  if z_4 = (0 : Int32) then
    some ((-1 : Int64), h_3)
  else
    (f_X11_in S (Int32.toInt64 x2) (0 : Int64) (99 : Int64) h_3).bind fun z => match z with
    | (z_7, h_6) =>
    if z_7 = (0 : Int32) then
      some ((-1 : Int64), h_6)
    else
      (f_X11_few_l35 S FU r0 x1 x2 (0 : Int32) h_6).bind fun z => match z with
      | ((r0_10, x1_11, x2_12), h_9) =>
      (gR S h_9 r0_10 11 3).bind fun p_13 =>
      (aI S h_9 p_13 (6 : Int32)).bind fun v_15 =>
      (f_X11_few_l75 S FU r0_10 x1_11 x2_12 v_15 (0 : Int32) h_9).bind fun z => match z with
      | ((r0_18, x1_19), h_17) =>
      (f_X11_few_l158 S FU r0_18 x1_19 (0 : Int64) (0 : Int32) h_17).bind fun z => match z with
      | (l4_21, h_20) =>
      some (l4_21, h_20)
set_option maxHeartbeats 8000000 in
set_option maxRecDepth 20000 in
theorem s_X11_few {S : SH} {d cb sb : Nat} {Q : Option Value → AH → Prop} (hd : 1 ≤ d)  {r0 : Nat} {x1 : Int32} {x2 : Int32} {h : AH} (k : ok (f_X11_few S r0 x1 x2 h) (fun w h' => Q (some (.long w)) h')) : WP S M_X11_few d cb sb Q 0 [.ref r0, .int x1, .int x2, JK, JK, JK, JK, JK] [] h := by
  obtain ⟨d, rfl, he⟩ := dp (L := 0) hd
  unfold f_X11_few at k
  refine wp_aload_n dX11_few_0 rfl ?_
  refine wp_iconst dX11_few_1 ic_0 ?_
  replace k := ok_bind k
  obtain ⟨h_1, e_2, k⟩ := k
  refine wq_putI fl_X11_152 rfl rfl dX11_few_2 e_2 ?_
  refine wp_iload_n dX11_few_5 rfl ?_
  refine wp_i2l dX11_few_6 ?_
  refine wp_lconst dX11_few_7 lc_1 ?_
  refine wp_ldc2 ct_X11_208 dX11_few_8 ?_
  refine wp_callS3 (N := M_X11_in) mf_X11_in ms_X11_in ml_X11_172 dX11_few_11 (by exact Nat.le_of_ble_eq_true rfl) (c_X11_in (Nat.le_trans (by decide) he) (ok_mono (ok_bind2 k) fun z_4 h_3 k => ?_))
  try dsimp only at k
  refine wp_if_eq 29 dX11_few_14 (by decide) (fun c_5 => ?_) (fun c_5 => ?_)
  · replace k := ok_t c_5 k
    refine wp_ldc2 ct_X11_179 dX11_few_29 ?_
    refine wp_lret rfl dX11_few_32 ?_
    exact (ok_some k :)
  · replace k := ok_f c_5 k
    refine wp_iload_n dX11_few_17 rfl ?_
    refine wp_i2l dX11_few_18 ?_
    refine wp_lconst dX11_few_19 lc_0 ?_
    refine wp_ldc2 ct_X11_500 dX11_few_20 ?_
    refine wp_callS3 (N := M_X11_in) mf_X11_in ms_X11_in ml_X11_172 dX11_few_23 (by exact Nat.le_of_ble_eq_true rfl) (c_X11_in (Nat.le_trans (by decide) he) (ok_mono (ok_bind2 k) fun z_7 h_6 k => ?_))
    try dsimp only at k
    refine wp_if_ne 33 dX11_few_26 (by decide) (fun c_8 => ?_) (fun c_8 => ?_)
    · replace k := ok_f c_8 k
      refine wp_iconst dX11_few_33 ic_0 ?_
      refine wp_istore_n dX11_few_34 (by decide) (L1 := [_, _, _, _, _, _, _, _]) rfl ?_
      refine wp_wk (wkE <| wkE <| wkE <| wkE <| wkJ <| wkJ <| wkJ <| wkJ <| wkN) ?_
      refine s_X11_few_l35 (Nat.succ_le_succ he) (fun r0_10 x1_11 x2_12 h_9 k => ?_) FU _ _ _ _ _ (ok_bind2 k)
      try dsimp only at k
      refine wp_aload_n dX11_few_64 rfl ?_
      replace k := ok_bind k
      obtain ⟨p_13, e_14, k⟩ := k
      refine wq_getR fl_X11_13 (Or.inr ⟨_, rfl⟩) dX11_few_65 e_14 ?_
      refine wp_bipush dX11_few_68 bp_6 ?_
      replace k := ok_bind k
      obtain ⟨v_15, e_16, k⟩ := k
      refine wq_aI dX11_few_70 e_16 ?_
      refine wp_istore_n dX11_few_71 (by decide) (L1 := [_, _, _, _, _, _, _, _]) rfl ?_
      refine wp_iconst dX11_few_72 ic_0 ?_
      refine wp_istore dX11_few_73 (by decide) (L1 := [_, _, _, _, _, _, _, _]) rfl ?_
      refine wp_wk (wkE <| wkE <| wkE <| wkE <| wkE <| wkJ <| wkJ <| wkJ <| wkN) ?_
      refine s_X11_few_l75 (Nat.succ_le_succ he) (fun r0_18 x1_19 h_17 k => ?_) FU _ _ _ _ _ _ (ok_bind2 k)
      try dsimp only at k
      refine wp_lconst dX11_few_152 lc_0 ?_
      refine wp_lstore dX11_few_153 (by decide) (L1 := [_, _, _, _, _, _, _, _]) rfl ?_
      refine wp_iconst dX11_few_155 ic_0 ?_
      refine wp_istore dX11_few_156 (by decide) (L1 := [_, _, _, _, _, _, _, _]) rfl ?_
      refine wp_wk (wkE <| wkE <| wkJ <| wkJ <| wkE <| wkJ <| wkE <| wkJ <| wkN) ?_
      refine s_X11_few_l158 (Nat.succ_le_succ he) (fun l4_21 h_20 k => ?_) FU _ _ _ _ _ (ok_bind2 k)
      try dsimp only at k
      refine wp_lload dX11_few_182 rfl ?_
      refine wp_lret rfl dX11_few_184 ?_
      exact (ok_some k :)
    · replace k := ok_t c_8 k
      refine wp_ldc2 ct_X11_179 dX11_few_29 ?_
      refine wp_lret rfl dX11_few_32 ?_
      exact (ok_some k :)
theorem c_X11_few {S : SH} {d : Nat} {K : Option Value → AH → Prop} (hd : 1 ≤ d)  {r0 : Nat} {x1 : Int32} {x2 : Int32} {h : AH} (k : ok (f_X11_few S r0 x1 x2 h) (fun w h' => K (some (.long w)) h')) : CP S M_X11_few d 0 0 [.ref r0, .int x1, .int x2] h K := cp_of (by decide) (fun _ _ => trivial) (fun _ => Nat.le_of_ble_eq_true rfl) (s_X11_few hd  k)
def f_X11_compare (S : SH) (r0 : Nat) (x1 : Int32) (x2 : Int32) (h : AH) : Option (Int32 × AH) :=
  (pI S h r0 11 0 (0 : Int32)).bind fun h_1 =>
  (ckO S h_1 r0 11).bind fun _ =>
  (f_X11_isLaw S r0 x1 h_1).bind fun z => match z with
  | (z_5, h_4) =>
  if z_5 = (0 : Int32) then
    some ((-1 : Int32), h_4)
  else
    (ckO S h_4 r0 11).bind fun _ =>
    (f_X11_isMatter S r0 x2 h_4).bind fun z => match z with
    | (z_9, h_8) =>
    if z_9 = (0 : Int32) then
      some ((-1 : Int32), h_8)
    else
      (gR S h_8 r0 11 3).bind fun p_11 =>
      (aI S h_8 p_11 (4 : Int32)).bind fun v_13 =>
      (gR S h_8 r0 11 3).bind fun p_15 =>
      (sI S h_8 p_15 (4 : Int32) x1).bind fun h_17 =>
      (ckO S h_17 r0 11).bind fun _ =>
      (f_X11_ayes S r0 x2 h_17).bind fun z => match z with
      | (z_21, h_20) =>
      (f_X11_ones S z_21 h_20).bind fun z => match z with
      | (z_23, h_22) =>
      (gR S h_22 r0 11 3).bind fun p_24 =>
      (sI S h_22 p_24 (4 : Int32) v_13).bind fun h_26 =>
      some (z_23, h_26)
set_option maxHeartbeats 8000000 in
set_option maxRecDepth 20000 in
theorem s_X11_compare {S : SH} {d cb sb : Nat} {Q : Option Value → AH → Prop} (hd : 8 ≤ d)  {r0 : Nat} {x1 : Int32} {x2 : Int32} {h : AH} (k : ok (f_X11_compare S r0 x1 x2 h) (fun w h' => Q (some (.int w)) h')) : WP S M_X11_compare d cb sb Q 0 [.ref r0, .int x1, .int x2, JK, JK] [] h := by
  obtain ⟨d, rfl, he⟩ := dp (L := 7) hd
  unfold f_X11_compare at k
  refine wp_aload_n dX11_compare_0 rfl ?_
  refine wp_iconst dX11_compare_1 ic_0 ?_
  replace k := ok_bind k
  obtain ⟨h_1, e_2, k⟩ := k
  refine wq_putI fl_X11_152 rfl rfl dX11_compare_2 e_2 ?_
  refine wp_aload_n dX11_compare_5 rfl ?_
  refine wp_iload_n dX11_compare_6 rfl ?_
  replace k := ok_bind k
  obtain ⟨u, e_3, k⟩ := k
  refine wp_callV1 (N := M_X11_isLaw) (ci := 11) mf_X11_isLaw mi_X11_isLaw me_X11_isLaw ml_X11_402 dX11_compare_7 (ckO_e e_3) mv_X11_isLaw (by exact Nat.le_of_ble_eq_true rfl) (c_X11_isLaw (Nat.le_trans (by decide) he) (ok_mono (ok_bind2 k) fun z_5 h_4 k => ?_))
  try dsimp only at k
  refine wp_if_eq 21 dX11_compare_10 (by decide) (fun c_6 => ?_) (fun c_6 => ?_)
  · replace k := ok_t c_6 k
    refine wp_iconst dX11_compare_21 ic_m1 ?_
    refine wp_iret rfl rfl dX11_compare_22 ?_
    exact (ok_some k :)
  · replace k := ok_f c_6 k
    refine wp_aload_n dX11_compare_13 rfl ?_
    refine wp_iload_n dX11_compare_14 rfl ?_
    replace k := ok_bind k
    obtain ⟨u, e_7, k⟩ := k
    refine wp_callV1 (N := M_X11_isMatter) (ci := 11) mf_X11_isMatter mi_X11_isMatter me_X11_isMatter ml_X11_213 dX11_compare_15 (ckO_e e_7) mv_X11_isMatter (by exact Nat.le_of_ble_eq_true rfl) (c_X11_isMatter (Nat.le_trans (by decide) he) (ok_mono (ok_bind2 k) fun z_9 h_8 k => ?_))
    try dsimp only at k
    refine wp_if_ne 23 dX11_compare_18 (by decide) (fun c_10 => ?_) (fun c_10 => ?_)
    · replace k := ok_f c_10 k
      refine wp_aload_n dX11_compare_23 rfl ?_
      replace k := ok_bind k
      obtain ⟨p_11, e_12, k⟩ := k
      refine wq_getR fl_X11_13 (Or.inr ⟨_, rfl⟩) dX11_compare_24 e_12 ?_
      refine wp_iconst dX11_compare_27 ic_4 ?_
      replace k := ok_bind k
      obtain ⟨v_13, e_14, k⟩ := k
      refine wq_aI dX11_compare_28 e_14 ?_
      refine wp_istore_n dX11_compare_29 (by decide) (L1 := [_, _, _, _, _]) rfl ?_
      refine wp_aload_n dX11_compare_30 rfl ?_
      replace k := ok_bind k
      obtain ⟨p_15, e_16, k⟩ := k
      refine wq_getR fl_X11_13 (Or.inr ⟨_, rfl⟩) dX11_compare_31 e_16 ?_
      refine wp_iconst dX11_compare_34 ic_4 ?_
      refine wp_iload_n dX11_compare_35 rfl ?_
      replace k := ok_bind k
      obtain ⟨h_17, e_18, k⟩ := k
      refine wq_sI dX11_compare_36 e_18 ?_
      refine wp_aload_n dX11_compare_37 rfl ?_
      refine wp_iload_n dX11_compare_38 rfl ?_
      replace k := ok_bind k
      obtain ⟨u, e_19, k⟩ := k
      refine wp_callV1 (N := M_X11_ayes) (ci := 11) mf_X11_ayes mi_X11_ayes me_X11_ayes ml_X11_231 dX11_compare_39 (ckO_e e_19) mv_X11_ayes (by exact Nat.le_of_ble_eq_true rfl) (c_X11_ayes (Nat.le_trans (by decide) he) (ok_mono (ok_bind2 k) fun z_21 h_20 k => ?_))
      try dsimp only at k
      refine wp_callS1 (N := M_X11_ones) mf_X11_ones ms_X11_ones ml_X11_439 dX11_compare_42 (by exact Nat.le_of_ble_eq_true rfl) (c_X11_ones (Nat.le_trans (by decide) he) (ok_mono (ok_bind2 k) fun z_23 h_22 k => ?_))
      try dsimp only at k
      refine wp_istore dX11_compare_45 (by decide) (L1 := [_, _, _, _, _]) rfl ?_
      refine wp_aload_n dX11_compare_47 rfl ?_
      replace k := ok_bind k
      obtain ⟨p_24, e_25, k⟩ := k
      refine wq_getR fl_X11_13 (Or.inr ⟨_, rfl⟩) dX11_compare_48 e_25 ?_
      refine wp_iconst dX11_compare_51 ic_4 ?_
      refine wp_iload_n dX11_compare_52 rfl ?_
      replace k := ok_bind k
      obtain ⟨h_26, e_27, k⟩ := k
      refine wq_sI dX11_compare_53 e_27 ?_
      refine wp_iload dX11_compare_54 rfl ?_
      refine wp_iret rfl rfl dX11_compare_56 ?_
      exact (ok_some k :)
    · replace k := ok_t c_10 k
      refine wp_iconst dX11_compare_21 ic_m1 ?_
      refine wp_iret rfl rfl dX11_compare_22 ?_
      exact (ok_some k :)
theorem c_X11_compare {S : SH} {d : Nat} {K : Option Value → AH → Prop} (hd : 8 ≤ d)  {r0 : Nat} {x1 : Int32} {x2 : Int32} {h : AH} (k : ok (f_X11_compare S r0 x1 x2 h) (fun w h' => K (some (.int w)) h')) : CP S M_X11_compare d 0 0 [.ref r0, .int x1, .int x2] h K := cp_of (by decide) (fun _ _ => trivial) (fun _ => Nat.le_of_ble_eq_true rfl) (s_X11_compare hd  k)

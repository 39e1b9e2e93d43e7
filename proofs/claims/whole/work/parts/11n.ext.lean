def f_X11_drawn (S : SH) (r0 : Nat) (x1 : Int32) (x2 : Int32) (h : AH) : Option (Int32 × AH) :=
  (pI S h r0 11 0 (0 : Int32)).bind fun h_1 =>
  (gI S h_1 r0 11 56).bind fun v_3 =>
  if v_3 = (-1 : Int32) then
    some ((-1 : Int32), h_1)
  else
    if (0 : Int32) ≤ x1 then
      if x2 = (0 : Int32) then
        (gI S h_1 r0 11 57).bind fun v_8 =>
        if v_8 ≤ x1 then
          some ((-1 : Int32), h_1)
        else
          (gR S h_1 r0 11 55).bind fun p_11 =>
          (aI S h_1 p_11 ((12 : Int32) + x1)).bind fun v_13 =>
          some (v_13, h_1)
      else
      if x2 = (1 : Int32) then
        (gI S h_1 r0 11 56).bind fun v_16 =>
        if v_16 ≤ x1 then
          some ((-1 : Int32), h_1)
        else
          (gR S h_1 r0 11 55).bind fun p_19 =>
          (aI S h_1 p_19 ((5 : Int32) + x1)).bind fun v_21 =>
          some (v_21, h_1)
      else
      if x2 = (2 : Int32) then
        if x1 = (0 : Int32) then
          (gR S h_1 r0 11 55).bind fun p_25 =>
          (aI S h_1 p_25 (4 : Int32)).bind fun v_27 =>
          some (v_27, h_1)
        else
          some ((-1 : Int32), h_1)
      else
      if x2 = (3 : Int32) then
        if x1 = (0 : Int32) then
          (gR S h_1 r0 11 55).bind fun p_31 =>
          (aI S h_1 p_31 (0 : Int32)).bind fun v_33 =>
          some (v_33, h_1)
        else
          some ((-1 : Int32), h_1)
      else
      some ((-1 : Int32), h_1)
    else
      some ((-1 : Int32), h_1)
set_option maxHeartbeats 8000000 in
set_option maxRecDepth 20000 in
theorem s_X11_drawn {S : SH} {d cb sb : Nat} {Q : Option Value → AH → Prop} (hd : 0 ≤ d)  {r0 : Nat} {x1 : Int32} {x2 : Int32} {h : AH} (k : ok (f_X11_drawn S r0 x1 x2 h) (fun w h' => Q (some (.int w)) h')) : WP S M_X11_drawn d cb sb Q 0 [.ref r0, .int x1, .int x2] [] h := by
  unfold f_X11_drawn at k
  refine wp_aload_n dX11_drawn_0 rfl ?_
  refine wp_iconst dX11_drawn_1 ic_0 ?_
  replace k := ok_bind k
  obtain ⟨h_1, e_2, k⟩ := k
  refine wq_putI fl_X11_152 rfl rfl dX11_drawn_2 e_2 ?_
  refine wp_aload_n dX11_drawn_5 rfl ?_
  replace k := ok_bind k
  obtain ⟨v_3, e_4, k⟩ := k
  refine wq_getI fl_X11_146 (Or.inl rfl) dX11_drawn_6 e_4 ?_
  refine wp_iconst dX11_drawn_9 ic_m1 ?_
  refine wp_icmp_eq 17 dX11_drawn_10 (by decide) (fun c_5 => ?_) (fun c_5 => ?_)
  · replace k := ok_t c_5 k
    refine wp_iconst dX11_drawn_17 ic_m1 ?_
    refine wp_iret rfl rfl dX11_drawn_18 ?_
    exact (ok_some k :)
  · replace k := ok_f c_5 k
    refine wp_iload_n dX11_drawn_13 rfl ?_
    refine wp_if_ge 19 dX11_drawn_14 (by decide) (fun c_6 => ?_) (fun c_6 => ?_)
    · replace k := ok_t c_6 k
      refine wp_iload_n dX11_drawn_19 rfl ?_
      refine wp_case (0 : Int32) (fun c_7 => ?_) (fun c_7 => ?_)
      · refine wp_tabIn 52 dX11_drawn_20 (by rw [c_7]; decide) (by rw [c_7]; decide) (by rw [c_7]; rfl) (by decide) ?_
        replace k := ok_t c_7 k
        refine wp_iload_n dX11_drawn_52 rfl ?_
        refine wp_aload_n dX11_drawn_53 rfl ?_
        replace k := ok_bind k
        obtain ⟨v_8, e_9, k⟩ := k
        refine wq_getI fl_X11_149 (Or.inl rfl) dX11_drawn_54 e_9 ?_
        refine wp_icmp_ge 72 dX11_drawn_57 (by decide) (fun c_10 => ?_) (fun c_10 => ?_)
        · replace k := ok_t c_10 k
          refine wp_iconst dX11_drawn_72 ic_m1 ?_
          refine wp_iret rfl rfl dX11_drawn_73 ?_
          exact (ok_some k :)
        · replace k := ok_f c_10 k
          refine wp_aload_n dX11_drawn_60 rfl ?_
          replace k := ok_bind k
          obtain ⟨p_11, e_12, k⟩ := k
          refine wq_getR fl_X11_143 (Or.inr ⟨_, rfl⟩) dX11_drawn_61 e_12 ?_
          refine wp_bipush dX11_drawn_64 bp_12 ?_
          refine wp_iload_n dX11_drawn_66 rfl ?_
          refine wp_iadd dX11_drawn_67 ?_
          replace k := ok_bind k
          obtain ⟨v_13, e_14, k⟩ := k
          refine wq_aI dX11_drawn_68 e_14 ?_
          refine wp_goto 73 dX11_drawn_69 (by decide) ?_
          refine wp_iret rfl rfl dX11_drawn_73 ?_
          exact (ok_some k :)
      replace k := ok_f c_7 k
      refine wp_case (1 : Int32) (fun c_15 => ?_) (fun c_15 => ?_)
      · refine wp_tabIn 74 dX11_drawn_20 (by rw [c_15]; decide) (by rw [c_15]; decide) (by rw [c_15]; rfl) (by decide) ?_
        replace k := ok_t c_15 k
        refine wp_iload_n dX11_drawn_74 rfl ?_
        refine wp_aload_n dX11_drawn_75 rfl ?_
        replace k := ok_bind k
        obtain ⟨v_16, e_17, k⟩ := k
        refine wq_getI fl_X11_146 (Or.inl rfl) dX11_drawn_76 e_17 ?_
        refine wp_icmp_ge 93 dX11_drawn_79 (by decide) (fun c_18 => ?_) (fun c_18 => ?_)
        · replace k := ok_t c_18 k
          refine wp_iconst dX11_drawn_93 ic_m1 ?_
          refine wp_iret rfl rfl dX11_drawn_94 ?_
          exact (ok_some k :)
        · replace k := ok_f c_18 k
          refine wp_aload_n dX11_drawn_82 rfl ?_
          replace k := ok_bind k
          obtain ⟨p_19, e_20, k⟩ := k
          refine wq_getR fl_X11_143 (Or.inr ⟨_, rfl⟩) dX11_drawn_83 e_20 ?_
          refine wp_iconst dX11_drawn_86 ic_5 ?_
          refine wp_iload_n dX11_drawn_87 rfl ?_
          refine wp_iadd dX11_drawn_88 ?_
          replace k := ok_bind k
          obtain ⟨v_21, e_22, k⟩ := k
          refine wq_aI dX11_drawn_89 e_22 ?_
          refine wp_goto 94 dX11_drawn_90 (by decide) ?_
          refine wp_iret rfl rfl dX11_drawn_94 ?_
          exact (ok_some k :)
      replace k := ok_f c_15 k
      refine wp_case (2 : Int32) (fun c_23 => ?_) (fun c_23 => ?_)
      · refine wp_tabIn 95 dX11_drawn_20 (by rw [c_23]; decide) (by rw [c_23]; decide) (by rw [c_23]; rfl) (by decide) ?_
        replace k := ok_t c_23 k
        refine wp_iload_n dX11_drawn_95 rfl ?_
        refine wp_if_ne 108 dX11_drawn_96 (by decide) (fun c_24 => ?_) (fun c_24 => ?_)
        · replace k := ok_f c_24 k
          refine wp_iconst dX11_drawn_108 ic_m1 ?_
          refine wp_iret rfl rfl dX11_drawn_109 ?_
          exact (ok_some k :)
        · replace k := ok_t c_24 k
          refine wp_aload_n dX11_drawn_99 rfl ?_
          replace k := ok_bind k
          obtain ⟨p_25, e_26, k⟩ := k
          refine wq_getR fl_X11_143 (Or.inr ⟨_, rfl⟩) dX11_drawn_100 e_26 ?_
          refine wp_iconst dX11_drawn_103 ic_4 ?_
          replace k := ok_bind k
          obtain ⟨v_27, e_28, k⟩ := k
          refine wq_aI dX11_drawn_104 e_28 ?_
          refine wp_goto 109 dX11_drawn_105 (by decide) ?_
          refine wp_iret rfl rfl dX11_drawn_109 ?_
          exact (ok_some k :)
      replace k := ok_f c_23 k
      refine wp_case (3 : Int32) (fun c_29 => ?_) (fun c_29 => ?_)
      · refine wp_tabIn 110 dX11_drawn_20 (by rw [c_29]; decide) (by rw [c_29]; decide) (by rw [c_29]; rfl) (by decide) ?_
        replace k := ok_t c_29 k
        refine wp_iload_n dX11_drawn_110 rfl ?_
        refine wp_if_ne 123 dX11_drawn_111 (by decide) (fun c_30 => ?_) (fun c_30 => ?_)
        · replace k := ok_f c_30 k
          refine wp_iconst dX11_drawn_123 ic_m1 ?_
          refine wp_iret rfl rfl dX11_drawn_124 ?_
          exact (ok_some k :)
        · replace k := ok_t c_30 k
          refine wp_aload_n dX11_drawn_114 rfl ?_
          replace k := ok_bind k
          obtain ⟨p_31, e_32, k⟩ := k
          refine wq_getR fl_X11_143 (Or.inr ⟨_, rfl⟩) dX11_drawn_115 e_32 ?_
          refine wp_iconst dX11_drawn_118 ic_0 ?_
          replace k := ok_bind k
          obtain ⟨v_33, e_34, k⟩ := k
          refine wq_aI dX11_drawn_119 e_34 ?_
          refine wp_goto 124 dX11_drawn_120 (by decide) ?_
          refine wp_iret rfl rfl dX11_drawn_124 ?_
          exact (ok_some k :)
      replace k := ok_f c_29 k
      refine wp_tabOut 125 dX11_drawn_20 (tab_out (n := 4) (fun i hi => ?_)) (by decide) ?_
      · match i, hi with
        | 0, _ => exact ti_ne c_7 (by decide)
        | 1, _ => exact ti_ne c_15 (by decide)
        | 2, _ => exact ti_ne c_23 (by decide)
        | 3, _ => exact ti_ne c_29 (by decide)
        | i + 4, hi => exact absurd hi (by omega)
      refine wp_iconst dX11_drawn_125 ic_m1 ?_
      refine wp_iret rfl rfl dX11_drawn_126 ?_
      exact (ok_some k :)
    · replace k := ok_f c_6 k
      refine wp_iconst dX11_drawn_17 ic_m1 ?_
      refine wp_iret rfl rfl dX11_drawn_18 ?_
      exact (ok_some k :)
theorem c_X11_drawn {S : SH} {d : Nat} {K : Option Value → AH → Prop} (hd : 0 ≤ d)  {r0 : Nat} {x1 : Int32} {x2 : Int32} {h : AH} (k : ok (f_X11_drawn S r0 x1 x2 h) (fun w h' => K (some (.int w)) h')) : CP S M_X11_drawn d 0 0 [.ref r0, .int x1, .int x2] h K := cp_of (by decide) (fun _ _ => trivial) (fun _ => Nat.le_of_ble_eq_true rfl) (s_X11_drawn hd  k)
def f_X11_count (S : SH) (r0 : Nat) (x1 : Int32) (h : AH) : Option (Int32 × AH) :=
  (pI S h r0 11 0 (0 : Int32)).bind fun h_1 =>
  if x1 = (0 : Int32) then
    (gR S h_1 r0 11 3).bind fun p_4 =>
    (aI S h_1 p_4 (0 : Int32)).bind fun v_6 =>
    some (v_6, h_1)
  else
  if x1 = (1 : Int32) then
    (ckO S h_1 r0 11).bind fun _ =>
    (f_X11_present S r0 h_1).bind fun z => match z with
    | (z_11, h_10) =>
    (f_X11_ones S z_11 h_10).bind fun z => match z with
    | (z_13, h_12) =>
    some (z_13, h_12)
  else
  if x1 = (2 : Int32) then
    (gR S h_1 r0 11 3).bind fun p_15 =>
    (aI S h_1 p_15 (1 : Int32)).bind fun v_17 =>
    some (v_17, h_1)
  else
  if x1 = (3 : Int32) then
    (gR S h_1 r0 11 3).bind fun p_20 =>
    (aI S h_1 p_20 (9 : Int32)).bind fun v_22 =>
    some (v_22, h_1)
  else
  if x1 = (4 : Int32) then
    (gR S h_1 r0 11 3).bind fun p_25 =>
    (aI S h_1 p_25 (2 : Int32)).bind fun v_27 =>
    some (v_27, h_1)
  else
  if x1 = (5 : Int32) then
    (gR S h_1 r0 11 3).bind fun p_30 =>
    (aI S h_1 p_30 (3 : Int32)).bind fun v_32 =>
    some (v_32, h_1)
  else
  if x1 = (6 : Int32) then
    (gI S h_1 r0 11 8).bind fun v_35 =>
    some (v_35, h_1)
  else
  if x1 = (7 : Int32) then
    (gI S h_1 r0 11 13).bind fun v_38 =>
    some (v_38, h_1)
  else
  if x1 = (8 : Int32) then
    (gR S h_1 r0 11 2).bind fun p_41 =>
    (aI S h_1 p_41 (1 : Int32)).bind fun v_43 =>
    some (v_43, h_1)
  else
  if x1 = (9 : Int32) then
    (gR S h_1 r0 11 2).bind fun p_46 =>
    (aI S h_1 p_46 (2 : Int32)).bind fun v_48 =>
    some (v_48, h_1)
  else
  if x1 = (10 : Int32) then
    (gR S h_1 r0 11 2).bind fun p_51 =>
    (aI S h_1 p_51 (3 : Int32)).bind fun v_53 =>
    some (v_53, h_1)
  else
  if x1 = (11 : Int32) then
    (gR S h_1 r0 11 2).bind fun p_56 =>
    (aI S h_1 p_56 (5 : Int32)).bind fun v_58 =>
    some (v_58, h_1)
  else
  if x1 = (12 : Int32) then
    (gR S h_1 r0 11 2).bind fun p_61 =>
    (aI S h_1 p_61 (6 : Int32)).bind fun v_63 =>
    some (v_63, h_1)
  else
  if x1 = (13 : Int32) then
    (gR S h_1 r0 11 3).bind fun p_66 =>
    (aI S h_1 p_66 (4 : Int32)).bind fun v_68 =>
    some (v_68, h_1)
  else
  (f_X11_in S (Int32.toInt64 x1) (14 : Int64) (17 : Int64) h_1).bind fun z => match z with
  | (z_71, h_70) =>
  if z_71 = (0 : Int32) then
    some ((-1 : Int32), h_70)
  else
    (gR S h_70 r0 11 3).bind fun p_73 =>
    (aI S h_70 p_73 (((5 : Int32) + x1) - (14 : Int32))).bind fun v_75 =>
    some (v_75, h_70)
set_option maxHeartbeats 8000000 in
set_option maxRecDepth 20000 in
theorem s_X11_count {S : SH} {d cb sb : Nat} {Q : Option Value → AH → Prop} (hd : 2 ≤ d)  {r0 : Nat} {x1 : Int32} {h : AH} (k : ok (f_X11_count S r0 x1 h) (fun w h' => Q (some (.int w)) h')) : WP S M_X11_count d cb sb Q 0 [.ref r0, .int x1] [] h := by
  obtain ⟨d, rfl, he⟩ := dp (L := 1) hd
  unfold f_X11_count at k
  refine wp_aload_n dX11_count_0 rfl ?_
  refine wp_iconst dX11_count_1 ic_0 ?_
  replace k := ok_bind k
  obtain ⟨h_1, e_2, k⟩ := k
  refine wq_putI fl_X11_152 rfl rfl dX11_count_2 e_2 ?_
  refine wp_iload_n dX11_count_5 rfl ?_
  refine wp_case (0 : Int32) (fun c_3 => ?_) (fun c_3 => ?_)
  · refine wp_tabIn 76 dX11_count_6 (by rw [c_3]; decide) (by rw [c_3]; decide) (by rw [c_3]; rfl) (by decide) ?_
    replace k := ok_t c_3 k
    refine wp_aload_n dX11_count_76 rfl ?_
    replace k := ok_bind k
    obtain ⟨p_4, e_5, k⟩ := k
    refine wq_getR fl_X11_13 (Or.inr ⟨_, rfl⟩) dX11_count_77 e_5 ?_
    refine wp_iconst dX11_count_80 ic_0 ?_
    replace k := ok_bind k
    obtain ⟨v_6, e_7, k⟩ := k
    refine wq_aI dX11_count_81 e_7 ?_
    refine wp_iret rfl rfl dX11_count_82 ?_
    exact (ok_some k :)
  replace k := ok_f c_3 k
  refine wp_case (1 : Int32) (fun c_8 => ?_) (fun c_8 => ?_)
  · refine wp_tabIn 83 dX11_count_6 (by rw [c_8]; decide) (by rw [c_8]; decide) (by rw [c_8]; rfl) (by decide) ?_
    replace k := ok_t c_8 k
    refine wp_aload_n dX11_count_83 rfl ?_
    replace k := ok_bind k
    obtain ⟨u, e_9, k⟩ := k
    refine wp_callV0 (N := M_X11_present) (ci := 11) mf_X11_present mi_X11_present me_X11_present ml_X11_488 dX11_count_84 (ckO_e e_9) mv_X11_present (by exact Nat.le_of_ble_eq_true rfl) (c_X11_present (Nat.le_trans (by decide) he) (ok_mono (ok_bind2 k) fun z_11 h_10 k => ?_))
    try dsimp only at k
    refine wp_callS1 (N := M_X11_ones) mf_X11_ones ms_X11_ones ml_X11_439 dX11_count_87 (by exact Nat.le_of_ble_eq_true rfl) (c_X11_ones (Nat.le_trans (by decide) he) (ok_mono (ok_bind2 k) fun z_13 h_12 k => ?_))
    try dsimp only at k
    refine wp_iret rfl rfl dX11_count_90 ?_
    exact (ok_some k :)
  replace k := ok_f c_8 k
  refine wp_case (2 : Int32) (fun c_14 => ?_) (fun c_14 => ?_)
  · refine wp_tabIn 91 dX11_count_6 (by rw [c_14]; decide) (by rw [c_14]; decide) (by rw [c_14]; rfl) (by decide) ?_
    replace k := ok_t c_14 k
    refine wp_aload_n dX11_count_91 rfl ?_
    replace k := ok_bind k
    obtain ⟨p_15, e_16, k⟩ := k
    refine wq_getR fl_X11_13 (Or.inr ⟨_, rfl⟩) dX11_count_92 e_16 ?_
    refine wp_iconst dX11_count_95 ic_1 ?_
    replace k := ok_bind k
    obtain ⟨v_17, e_18, k⟩ := k
    refine wq_aI dX11_count_96 e_18 ?_
    refine wp_iret rfl rfl dX11_count_97 ?_
    exact (ok_some k :)
  replace k := ok_f c_14 k
  refine wp_case (3 : Int32) (fun c_19 => ?_) (fun c_19 => ?_)
  · refine wp_tabIn 98 dX11_count_6 (by rw [c_19]; decide) (by rw [c_19]; decide) (by rw [c_19]; rfl) (by decide) ?_
    replace k := ok_t c_19 k
    refine wp_aload_n dX11_count_98 rfl ?_
    replace k := ok_bind k
    obtain ⟨p_20, e_21, k⟩ := k
    refine wq_getR fl_X11_13 (Or.inr ⟨_, rfl⟩) dX11_count_99 e_21 ?_
    refine wp_bipush dX11_count_102 bp_9 ?_
    replace k := ok_bind k
    obtain ⟨v_22, e_23, k⟩ := k
    refine wq_aI dX11_count_104 e_23 ?_
    refine wp_iret rfl rfl dX11_count_105 ?_
    exact (ok_some k :)
  replace k := ok_f c_19 k
  refine wp_case (4 : Int32) (fun c_24 => ?_) (fun c_24 => ?_)
  · refine wp_tabIn 106 dX11_count_6 (by rw [c_24]; decide) (by rw [c_24]; decide) (by rw [c_24]; rfl) (by decide) ?_
    replace k := ok_t c_24 k
    refine wp_aload_n dX11_count_106 rfl ?_
    replace k := ok_bind k
    obtain ⟨p_25, e_26, k⟩ := k
    refine wq_getR fl_X11_13 (Or.inr ⟨_, rfl⟩) dX11_count_107 e_26 ?_
    refine wp_iconst dX11_count_110 ic_2 ?_
    replace k := ok_bind k
    obtain ⟨v_27, e_28, k⟩ := k
    refine wq_aI dX11_count_111 e_28 ?_
    refine wp_iret rfl rfl dX11_count_112 ?_
    exact (ok_some k :)
  replace k := ok_f c_24 k
  refine wp_case (5 : Int32) (fun c_29 => ?_) (fun c_29 => ?_)
  · refine wp_tabIn 113 dX11_count_6 (by rw [c_29]; decide) (by rw [c_29]; decide) (by rw [c_29]; rfl) (by decide) ?_
    replace k := ok_t c_29 k
    refine wp_aload_n dX11_count_113 rfl ?_
    replace k := ok_bind k
    obtain ⟨p_30, e_31, k⟩ := k
    refine wq_getR fl_X11_13 (Or.inr ⟨_, rfl⟩) dX11_count_114 e_31 ?_
    refine wp_iconst dX11_count_117 ic_3 ?_
    replace k := ok_bind k
    obtain ⟨v_32, e_33, k⟩ := k
    refine wq_aI dX11_count_118 e_33 ?_
    refine wp_iret rfl rfl dX11_count_119 ?_
    exact (ok_some k :)
  replace k := ok_f c_29 k
  refine wp_case (6 : Int32) (fun c_34 => ?_) (fun c_34 => ?_)
  · refine wp_tabIn 120 dX11_count_6 (by rw [c_34]; decide) (by rw [c_34]; decide) (by rw [c_34]; rfl) (by decide) ?_
    replace k := ok_t c_34 k
    refine wp_aload_n dX11_count_120 rfl ?_
    replace k := ok_bind k
    obtain ⟨v_35, e_36, k⟩ := k
    refine wq_getI fl_X11_158 (Or.inl rfl) dX11_count_121 e_36 ?_
    refine wp_iret rfl rfl dX11_count_124 ?_
    exact (ok_some k :)
  replace k := ok_f c_34 k
  refine wp_case (7 : Int32) (fun c_37 => ?_) (fun c_37 => ?_)
  · refine wp_tabIn 125 dX11_count_6 (by rw [c_37]; decide) (by rw [c_37]; decide) (by rw [c_37]; rfl) (by decide) ?_
    replace k := ok_t c_37 k
    refine wp_aload_n dX11_count_125 rfl ?_
    replace k := ok_bind k
    obtain ⟨v_38, e_39, k⟩ := k
    refine wq_getI fl_X11_243 (Or.inl rfl) dX11_count_126 e_39 ?_
    refine wp_iret rfl rfl dX11_count_129 ?_
    exact (ok_some k :)
  replace k := ok_f c_37 k
  refine wp_case (8 : Int32) (fun c_40 => ?_) (fun c_40 => ?_)
  · refine wp_tabIn 130 dX11_count_6 (by rw [c_40]; decide) (by rw [c_40]; decide) (by rw [c_40]; rfl) (by decide) ?_
    replace k := ok_t c_40 k
    refine wp_aload_n dX11_count_130 rfl ?_
    replace k := ok_bind k
    obtain ⟨p_41, e_42, k⟩ := k
    refine wq_getR fl_X11_7 (Or.inr ⟨_, rfl⟩) dX11_count_131 e_42 ?_
    refine wp_iconst dX11_count_134 ic_1 ?_
    replace k := ok_bind k
    obtain ⟨v_43, e_44, k⟩ := k
    refine wq_aI dX11_count_135 e_44 ?_
    refine wp_iret rfl rfl dX11_count_136 ?_
    exact (ok_some k :)
  replace k := ok_f c_40 k
  refine wp_case (9 : Int32) (fun c_45 => ?_) (fun c_45 => ?_)
  · refine wp_tabIn 137 dX11_count_6 (by rw [c_45]; decide) (by rw [c_45]; decide) (by rw [c_45]; rfl) (by decide) ?_
    replace k := ok_t c_45 k
    refine wp_aload_n dX11_count_137 rfl ?_
    replace k := ok_bind k
    obtain ⟨p_46, e_47, k⟩ := k
    refine wq_getR fl_X11_7 (Or.inr ⟨_, rfl⟩) dX11_count_138 e_47 ?_
    refine wp_iconst dX11_count_141 ic_2 ?_
    replace k := ok_bind k
    obtain ⟨v_48, e_49, k⟩ := k
    refine wq_aI dX11_count_142 e_49 ?_
    refine wp_iret rfl rfl dX11_count_143 ?_
    exact (ok_some k :)
  replace k := ok_f c_45 k
  refine wp_case (10 : Int32) (fun c_50 => ?_) (fun c_50 => ?_)
  · refine wp_tabIn 144 dX11_count_6 (by rw [c_50]; decide) (by rw [c_50]; decide) (by rw [c_50]; rfl) (by decide) ?_
    replace k := ok_t c_50 k
    refine wp_aload_n dX11_count_144 rfl ?_
    replace k := ok_bind k
    obtain ⟨p_51, e_52, k⟩ := k
    refine wq_getR fl_X11_7 (Or.inr ⟨_, rfl⟩) dX11_count_145 e_52 ?_
    refine wp_iconst dX11_count_148 ic_3 ?_
    replace k := ok_bind k
    obtain ⟨v_53, e_54, k⟩ := k
    refine wq_aI dX11_count_149 e_54 ?_
    refine wp_iret rfl rfl dX11_count_150 ?_
    exact (ok_some k :)
  replace k := ok_f c_50 k
  refine wp_case (11 : Int32) (fun c_55 => ?_) (fun c_55 => ?_)
  · refine wp_tabIn 151 dX11_count_6 (by rw [c_55]; decide) (by rw [c_55]; decide) (by rw [c_55]; rfl) (by decide) ?_
    replace k := ok_t c_55 k
    refine wp_aload_n dX11_count_151 rfl ?_
    replace k := ok_bind k
    obtain ⟨p_56, e_57, k⟩ := k
    refine wq_getR fl_X11_7 (Or.inr ⟨_, rfl⟩) dX11_count_152 e_57 ?_
    refine wp_iconst dX11_count_155 ic_5 ?_
    replace k := ok_bind k
    obtain ⟨v_58, e_59, k⟩ := k
    refine wq_aI dX11_count_156 e_59 ?_
    refine wp_iret rfl rfl dX11_count_157 ?_
    exact (ok_some k :)
  replace k := ok_f c_55 k
  refine wp_case (12 : Int32) (fun c_60 => ?_) (fun c_60 => ?_)
  · refine wp_tabIn 158 dX11_count_6 (by rw [c_60]; decide) (by rw [c_60]; decide) (by rw [c_60]; rfl) (by decide) ?_
    replace k := ok_t c_60 k
    refine wp_aload_n dX11_count_158 rfl ?_
    replace k := ok_bind k
    obtain ⟨p_61, e_62, k⟩ := k
    refine wq_getR fl_X11_7 (Or.inr ⟨_, rfl⟩) dX11_count_159 e_62 ?_
    refine wp_bipush dX11_count_162 bp_6 ?_
    replace k := ok_bind k
    obtain ⟨v_63, e_64, k⟩ := k
    refine wq_aI dX11_count_164 e_64 ?_
    refine wp_iret rfl rfl dX11_count_165 ?_
    exact (ok_some k :)
  replace k := ok_f c_60 k
  refine wp_case (13 : Int32) (fun c_65 => ?_) (fun c_65 => ?_)
  · refine wp_tabIn 166 dX11_count_6 (by rw [c_65]; decide) (by rw [c_65]; decide) (by rw [c_65]; rfl) (by decide) ?_
    replace k := ok_t c_65 k
    refine wp_aload_n dX11_count_166 rfl ?_
    replace k := ok_bind k
    obtain ⟨p_66, e_67, k⟩ := k
    refine wq_getR fl_X11_13 (Or.inr ⟨_, rfl⟩) dX11_count_167 e_67 ?_
    refine wp_iconst dX11_count_170 ic_4 ?_
    replace k := ok_bind k
    obtain ⟨v_68, e_69, k⟩ := k
    refine wq_aI dX11_count_171 e_69 ?_
    refine wp_iret rfl rfl dX11_count_172 ?_
    exact (ok_some k :)
  replace k := ok_f c_65 k
  refine wp_tabOut 173 dX11_count_6 (tab_out (n := 14) (fun i hi => ?_)) (by decide) ?_
  · match i, hi with
    | 0, _ => exact ti_ne c_3 (by decide)
    | 1, _ => exact ti_ne c_8 (by decide)
    | 2, _ => exact ti_ne c_14 (by decide)
    | 3, _ => exact ti_ne c_19 (by decide)
    | 4, _ => exact ti_ne c_24 (by decide)
    | 5, _ => exact ti_ne c_29 (by decide)
    | 6, _ => exact ti_ne c_34 (by decide)
    | 7, _ => exact ti_ne c_37 (by decide)
    | 8, _ => exact ti_ne c_40 (by decide)
    | 9, _ => exact ti_ne c_45 (by decide)
    | 10, _ => exact ti_ne c_50 (by decide)
    | 11, _ => exact ti_ne c_55 (by decide)
    | 12, _ => exact ti_ne c_60 (by decide)
    | 13, _ => exact ti_ne c_65 (by decide)
    | i + 14, hi => exact absurd hi (by omega)
  refine wp_iload_n dX11_count_173 rfl ?_
  refine wp_i2l dX11_count_174 ?_
  refine wp_ldc2 ct_X11_552 dX11_count_175 ?_
  refine wp_ldc2 ct_X11_554 dX11_count_178 ?_
  refine wp_callS3 (N := M_X11_in) mf_X11_in ms_X11_in ml_X11_172 dX11_count_181 (by exact Nat.le_of_ble_eq_true rfl) (c_X11_in (Nat.le_trans (by decide) he) (ok_mono (ok_bind2 k) fun z_71 h_70 k => ?_))
  try dsimp only at k
  refine wp_if_eq 201 dX11_count_184 (by decide) (fun c_72 => ?_) (fun c_72 => ?_)
  · replace k := ok_t c_72 k
    refine wp_iconst dX11_count_201 ic_m1 ?_
    refine wp_iret rfl rfl dX11_count_202 ?_
    exact (ok_some k :)
  · replace k := ok_f c_72 k
    refine wp_aload_n dX11_count_187 rfl ?_
    replace k := ok_bind k
    obtain ⟨p_73, e_74, k⟩ := k
    refine wq_getR fl_X11_13 (Or.inr ⟨_, rfl⟩) dX11_count_188 e_74 ?_
    refine wp_iconst dX11_count_191 ic_5 ?_
    refine wp_iload_n dX11_count_192 rfl ?_
    refine wp_iadd dX11_count_193 ?_
    refine wp_bipush dX11_count_194 bp_14 ?_
    refine wp_isub dX11_count_196 ?_
    replace k := ok_bind k
    obtain ⟨v_75, e_76, k⟩ := k
    refine wq_aI dX11_count_197 e_76 ?_
    refine wp_goto 202 dX11_count_198 (by decide) ?_
    refine wp_iret rfl rfl dX11_count_202 ?_
    exact (ok_some k :)
theorem c_X11_count {S : SH} {d : Nat} {K : Option Value → AH → Prop} (hd : 2 ≤ d)  {r0 : Nat} {x1 : Int32} {h : AH} (k : ok (f_X11_count S r0 x1 h) (fun w h' => K (some (.int w)) h')) : CP S M_X11_count d 0 0 [.ref r0, .int x1] h K := cp_of (by decide) (fun _ _ => trivial) (fun _ => Nat.le_of_ble_eq_true rfl) (s_X11_count hd  k)
def f_X11_status (S : SH) (r0 : Nat) (h : AH) : Option (Int32 × AH) :=
  (pI S h r0 11 0 (0 : Int32)).bind fun h_1 =>
  (gI S h_1 r0 11 1).bind fun v_3 =>
  some (v_3, h_1)
set_option maxHeartbeats 8000000 in
set_option maxRecDepth 20000 in
theorem s_X11_status {S : SH} {d cb sb : Nat} {Q : Option Value → AH → Prop} (hd : 0 ≤ d)  {r0 : Nat} {h : AH} (k : ok (f_X11_status S r0 h) (fun w h' => Q (some (.int w)) h')) : WP S M_X11_status d cb sb Q 0 [.ref r0] [] h := by
  unfold f_X11_status at k
  refine wp_aload_n dX11_status_0 rfl ?_
  refine wp_iconst dX11_status_1 ic_0 ?_
  replace k := ok_bind k
  obtain ⟨h_1, e_2, k⟩ := k
  refine wq_putI fl_X11_152 rfl rfl dX11_status_2 e_2 ?_
  refine wp_aload_n dX11_status_5 rfl ?_
  replace k := ok_bind k
  obtain ⟨v_3, e_4, k⟩ := k
  refine wq_getI fl_X11_155 (Or.inl rfl) dX11_status_6 e_4 ?_
  refine wp_iret rfl rfl dX11_status_9 ?_
  exact (ok_some k :)
theorem c_X11_status {S : SH} {d : Nat} {K : Option Value → AH → Prop} (hd : 0 ≤ d)  {r0 : Nat} {h : AH} (k : ok (f_X11_status S r0 h) (fun w h' => K (some (.int w)) h')) : CP S M_X11_status d 0 0 [.ref r0] h K := cp_of (by decide) (fun _ _ => trivial) (fun _ => Nat.le_of_ble_eq_true rfl) (s_X11_status hd  k)

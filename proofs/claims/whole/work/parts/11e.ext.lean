def f_X10_largestTerm (S : SH) (x0 : Int32) (h : AH) : Option (Int32 × AH) :=
  if x0 = (0 : Int32) then
    some ((999 : Int32), h)
  else
  if x0 = (1 : Int32) then
    some ((10 : Int32), h)
  else
  if x0 = (2 : Int32) then
    some ((9 : Int32), h)
  else
  some ((7 : Int32), h)
set_option maxHeartbeats 8000000 in
set_option maxRecDepth 20000 in
theorem s_X10_largestTerm {S : SH} {d cb sb : Nat} {Q : Option Value → AH → Prop} (hd : 0 ≤ d)  {x0 : Int32} {h : AH} (k : ok (f_X10_largestTerm S x0 h) (fun w h' => Q (some (.int w)) h')) : WP S M_X10_largestTerm d cb sb Q 0 [.int x0] [] h := by
  unfold f_X10_largestTerm at k
  refine wp_iload_n dX10_largestTerm_0 rfl ?_
  refine wp_case (0 : Int32) (fun c_1 => ?_) (fun c_1 => ?_)
  · refine wp_tabIn 28 dX10_largestTerm_1 (by rw [c_1]; decide) (by rw [c_1]; decide) (by rw [c_1]; rfl) (by decide) ?_
    replace k := ok_t c_1 k
    refine wp_sipush dX10_largestTerm_28 sp_999 ?_
    refine wp_iret rfl rfl dX10_largestTerm_31 ?_
    exact (ok_some k :)
  replace k := ok_f c_1 k
  refine wp_case (1 : Int32) (fun c_2 => ?_) (fun c_2 => ?_)
  · refine wp_tabIn 32 dX10_largestTerm_1 (by rw [c_2]; decide) (by rw [c_2]; decide) (by rw [c_2]; rfl) (by decide) ?_
    replace k := ok_t c_2 k
    refine wp_bipush dX10_largestTerm_32 bp_10 ?_
    refine wp_iret rfl rfl dX10_largestTerm_34 ?_
    exact (ok_some k :)
  replace k := ok_f c_2 k
  refine wp_case (2 : Int32) (fun c_3 => ?_) (fun c_3 => ?_)
  · refine wp_tabIn 35 dX10_largestTerm_1 (by rw [c_3]; decide) (by rw [c_3]; decide) (by rw [c_3]; rfl) (by decide) ?_
    replace k := ok_t c_3 k
    refine wp_bipush dX10_largestTerm_35 bp_9 ?_
    refine wp_iret rfl rfl dX10_largestTerm_37 ?_
    exact (ok_some k :)
  replace k := ok_f c_3 k
  refine wp_tabOut 38 dX10_largestTerm_1 (tab_out (n := 3) (fun i hi => ?_)) (by decide) ?_
  · match i, hi with
    | 0, _ => exact ti_ne c_1 (by decide)
    | 1, _ => exact ti_ne c_2 (by decide)
    | 2, _ => exact ti_ne c_3 (by decide)
    | i + 3, hi => exact absurd hi (by omega)
  refine wp_bipush dX10_largestTerm_38 bp_7 ?_
  refine wp_iret rfl rfl dX10_largestTerm_40 ?_
  exact (ok_some k :)
theorem c_X10_largestTerm {S : SH} {d : Nat} {K : Option Value → AH → Prop} (hd : 0 ≤ d)  {x0 : Int32} {h : AH} (k : ok (f_X10_largestTerm S x0 h) (fun w h' => K (some (.int w)) h')) : CP S M_X10_largestTerm d 0 0 [.int x0] h K := cp_of (by decide) (fun _ _ => trivial) (fun _ => Nat.le_of_ble_eq_true rfl) (s_X10_largestTerm hd  k)
def f_X10_term (S : SH) (r0 : Nat) (x1 : Int32) (h : AH) : Option (Int32 × AH) :=
  if x1 = (0 : Int32) then
    (gR S h r0 10 2).bind fun p_2 =>
    (gR S h p_2 6 0).bind fun p_4 =>
    (gI S h p_4 7 3).bind fun v_6 =>
    some (v_6, h)
  else
  if x1 = (1 : Int32) then
    (gR S h r0 10 2).bind fun p_9 =>
    (gI S h p_9 6 7).bind fun v_11 =>
    some (v_11, h)
  else
  if x1 = (2 : Int32) then
    (gR S h r0 10 2).bind fun p_14 =>
    (gI S h p_14 6 8).bind fun v_16 =>
    some (v_16, h)
  else
  (gR S h r0 10 2).bind fun p_18 =>
  (gI S h p_18 6 9).bind fun v_20 =>
  some (v_20, h)
set_option maxHeartbeats 8000000 in
set_option maxRecDepth 20000 in
theorem s_X10_term {S : SH} {d cb sb : Nat} {Q : Option Value → AH → Prop} (hd : 0 ≤ d)  {r0 : Nat} {x1 : Int32} {h : AH} (k : ok (f_X10_term S r0 x1 h) (fun w h' => Q (some (.int w)) h')) : WP S M_X10_term d cb sb Q 0 [.ref r0, .int x1] [] h := by
  unfold f_X10_term at k
  refine wp_iload_n dX10_term_0 rfl ?_
  refine wp_case (0 : Int32) (fun c_1 => ?_) (fun c_1 => ?_)
  · refine wp_tabIn 28 dX10_term_1 (by rw [c_1]; decide) (by rw [c_1]; decide) (by rw [c_1]; rfl) (by decide) ?_
    replace k := ok_t c_1 k
    refine wp_aload_n dX10_term_28 rfl ?_
    replace k := ok_bind k
    obtain ⟨p_2, e_3, k⟩ := k
    refine wq_getR fl_X10_16 (Or.inl ⟨_, rfl⟩) dX10_term_29 e_3 ?_
    replace k := ok_bind k
    obtain ⟨p_4, e_5, k⟩ := k
    refine wq_getR fl_X10_120 (Or.inl ⟨_, rfl⟩) dX10_term_32 e_5 ?_
    replace k := ok_bind k
    obtain ⟨v_6, e_7, k⟩ := k
    refine wq_getI fl_X10_189 (Or.inl rfl) dX10_term_35 e_7 ?_
    refine wp_iret rfl rfl dX10_term_38 ?_
    exact (ok_some k :)
  replace k := ok_f c_1 k
  refine wp_case (1 : Int32) (fun c_8 => ?_) (fun c_8 => ?_)
  · refine wp_tabIn 39 dX10_term_1 (by rw [c_8]; decide) (by rw [c_8]; decide) (by rw [c_8]; rfl) (by decide) ?_
    replace k := ok_t c_8 k
    refine wp_aload_n dX10_term_39 rfl ?_
    replace k := ok_bind k
    obtain ⟨p_9, e_10, k⟩ := k
    refine wq_getR fl_X10_16 (Or.inl ⟨_, rfl⟩) dX10_term_40 e_10 ?_
    replace k := ok_bind k
    obtain ⟨v_11, e_12, k⟩ := k
    refine wq_getI fl_X10_192 (Or.inl rfl) dX10_term_43 e_12 ?_
    refine wp_iret rfl rfl dX10_term_46 ?_
    exact (ok_some k :)
  replace k := ok_f c_8 k
  refine wp_case (2 : Int32) (fun c_13 => ?_) (fun c_13 => ?_)
  · refine wp_tabIn 47 dX10_term_1 (by rw [c_13]; decide) (by rw [c_13]; decide) (by rw [c_13]; rfl) (by decide) ?_
    replace k := ok_t c_13 k
    refine wp_aload_n dX10_term_47 rfl ?_
    replace k := ok_bind k
    obtain ⟨p_14, e_15, k⟩ := k
    refine wq_getR fl_X10_16 (Or.inl ⟨_, rfl⟩) dX10_term_48 e_15 ?_
    replace k := ok_bind k
    obtain ⟨v_16, e_17, k⟩ := k
    refine wq_getI fl_X10_195 (Or.inl rfl) dX10_term_51 e_17 ?_
    refine wp_iret rfl rfl dX10_term_54 ?_
    exact (ok_some k :)
  replace k := ok_f c_13 k
  refine wp_tabOut 55 dX10_term_1 (tab_out (n := 3) (fun i hi => ?_)) (by decide) ?_
  · match i, hi with
    | 0, _ => exact ti_ne c_1 (by decide)
    | 1, _ => exact ti_ne c_8 (by decide)
    | 2, _ => exact ti_ne c_13 (by decide)
    | i + 3, hi => exact absurd hi (by omega)
  refine wp_aload_n dX10_term_55 rfl ?_
  replace k := ok_bind k
  obtain ⟨p_18, e_19, k⟩ := k
  refine wq_getR fl_X10_16 (Or.inl ⟨_, rfl⟩) dX10_term_56 e_19 ?_
  replace k := ok_bind k
  obtain ⟨v_20, e_21, k⟩ := k
  refine wq_getI fl_X10_198 (Or.inl rfl) dX10_term_59 e_21 ?_
  refine wp_iret rfl rfl dX10_term_62 ?_
  exact (ok_some k :)
theorem c_X10_term {S : SH} {d : Nat} {K : Option Value → AH → Prop} (hd : 0 ≤ d)  {r0 : Nat} {x1 : Int32} {h : AH} (k : ok (f_X10_term S r0 x1 h) (fun w h' => K (some (.int w)) h')) : CP S M_X10_term d 0 0 [.ref r0, .int x1] h K := cp_of (by decide) (fun _ _ => trivial) (fun _ => Nat.le_of_ble_eq_true rfl) (s_X10_term hd  k)
def f_X10_terms (S : SH) (r0 : Nat) (x1 : Int32) (x2 : Int32) (h : AH) : Option (Int32 × AH) :=
  if x1 < (0 : Int32) then
    (ckO S h r0 10).bind fun _ =>
    (f_X10_refuse S r0 (-1 : Int32) h).bind fun z => match z with
    | (z_4, h_3) =>
    some (z_4, h_3)
  else
    if (3 : Int32) < x1 then
      (ckO S h r0 10).bind fun _ =>
      (f_X10_refuse S r0 (-1 : Int32) h).bind fun z => match z with
      | (z_8, h_7) =>
      some (z_8, h_7)
    else
      if x2 < (0 : Int32) then
        (ckO S h r0 10).bind fun _ =>
        (f_X10_refuse S r0 (-1 : Int32) h).bind fun z => match z with
        | (z_12, h_11) =>
        some (z_12, h_11)
      else
        (f_X10_largestTerm S x1 h).bind fun z => match z with
        | (z_14, h_13) =>
        if x2 ≤ z_14 then
          (ckO S h_13 r0 10).bind fun _ =>
          (f_X10_term S r0 x1 h_13).bind fun z => match z with
          | (z_18, h_17) =>
          if x1 = (0 : Int32) then
            (gR S h_17 r0 10 2).bind fun p_58 =>
            (gR S h_17 p_58 6 0).bind fun p_60 =>
            (pI S h_17 p_60 7 3 x2).bind fun h_62 =>
            (gR S h_62 r0 10 4).bind fun p_64 =>
            (ckO S h_62 p_64 5).bind fun _ =>
            (f_X5_clear S p_64 h_62).bind fun z => match z with
            | (_, h_67) =>
            (ckO S h_67 r0 10).bind fun _ =>
            (f_X10_accept S r0 z_18 h_67).bind fun z => match z with
            | (z_71, h_70) =>
            some (z_71, h_70)
          else
            if x1 = (1 : Int32) then
              (gR S h_17 r0 10 2).bind fun p_46 =>
              (pI S h_17 p_46 6 7 x2).bind fun h_48 =>
              (gR S h_48 r0 10 4).bind fun p_50 =>
              (ckO S h_48 p_50 5).bind fun _ =>
              (f_X5_clear S p_50 h_48).bind fun z => match z with
              | (_, h_53) =>
              (ckO S h_53 r0 10).bind fun _ =>
              (f_X10_accept S r0 z_18 h_53).bind fun z => match z with
              | (z_57, h_56) =>
              some (z_57, h_56)
            else
              if x1 = (2 : Int32) then
                (gR S h_17 r0 10 2).bind fun p_34 =>
                (pI S h_17 p_34 6 8 x2).bind fun h_36 =>
                (gR S h_36 r0 10 4).bind fun p_38 =>
                (ckO S h_36 p_38 5).bind fun _ =>
                (f_X5_clear S p_38 h_36).bind fun z => match z with
                | (_, h_41) =>
                (ckO S h_41 r0 10).bind fun _ =>
                (f_X10_accept S r0 z_18 h_41).bind fun z => match z with
                | (z_45, h_44) =>
                some (z_45, h_44)
              else
                (gR S h_17 r0 10 2).bind fun p_22 =>
                (pI S h_17 p_22 6 9 x2).bind fun h_24 =>
                (gR S h_24 r0 10 4).bind fun p_26 =>
                (ckO S h_24 p_26 5).bind fun _ =>
                (f_X5_clear S p_26 h_24).bind fun z => match z with
                | (_, h_29) =>
                (ckO S h_29 r0 10).bind fun _ =>
                (f_X10_accept S r0 z_18 h_29).bind fun z => match z with
                | (z_33, h_32) =>
                some (z_33, h_32)
        else
          (ckO S h_13 r0 10).bind fun _ =>
          (f_X10_refuse S r0 (-1 : Int32) h_13).bind fun z => match z with
          | (z_74, h_73) =>
          some (z_74, h_73)
set_option maxHeartbeats 8000000 in
set_option maxRecDepth 20000 in
theorem s_X10_terms {S : SH} {d cb sb : Nat} {Q : Option Value → AH → Prop} (hd : 1 ≤ d)  {r0 : Nat} {x1 : Int32} {x2 : Int32} {h : AH} (k : ok (f_X10_terms S r0 x1 x2 h) (fun w h' => Q (some (.int w)) h')) : WP S M_X10_terms d cb sb Q 0 [.ref r0, .int x1, .int x2, JK] [] h := by
  obtain ⟨d, rfl, he⟩ := dp (L := 0) hd
  unfold f_X10_terms at k
  refine wp_iload_n dX10_terms_0 rfl ?_
  refine wp_if_lt 21 dX10_terms_1 (by decide) (fun c_1 => ?_) (fun c_1 => ?_)
  · replace k := ok_t c_1 k
    refine wp_aload_n dX10_terms_21 rfl ?_
    refine wp_iconst dX10_terms_22 ic_m1 ?_
    replace k := ok_bind k
    obtain ⟨u, e_2, k⟩ := k
    refine wp_callV1 (N := M_X10_refuse) (ci := 10) mf_X10_refuse mi_X10_refuse me_X10_refuse ml_X10_96 dX10_terms_23 (ckO_e e_2) mv_X10_refuse (by exact Nat.le_of_ble_eq_true rfl) (c_X10_refuse (Nat.le_trans (by decide) he) (ok_mono (ok_bind2 k) fun z_4 h_3 k => ?_))
    try dsimp only at k
    refine wp_iret rfl rfl dX10_terms_26 ?_
    exact (ok_some k :)
  · replace k := ok_f c_1 k
    refine wp_iload_n dX10_terms_4 rfl ?_
    refine wp_iconst dX10_terms_5 ic_3 ?_
    refine wp_icmp_gt 21 dX10_terms_6 (by decide) (fun c_5 => ?_) (fun c_5 => ?_)
    · replace k := ok_t c_5 k
      refine wp_aload_n dX10_terms_21 rfl ?_
      refine wp_iconst dX10_terms_22 ic_m1 ?_
      replace k := ok_bind k
      obtain ⟨u, e_6, k⟩ := k
      refine wp_callV1 (N := M_X10_refuse) (ci := 10) mf_X10_refuse mi_X10_refuse me_X10_refuse ml_X10_96 dX10_terms_23 (ckO_e e_6) mv_X10_refuse (by exact Nat.le_of_ble_eq_true rfl) (c_X10_refuse (Nat.le_trans (by decide) he) (ok_mono (ok_bind2 k) fun z_8 h_7 k => ?_))
      try dsimp only at k
      refine wp_iret rfl rfl dX10_terms_26 ?_
      exact (ok_some k :)
    · replace k := ok_f c_5 k
      refine wp_iload_n dX10_terms_9 rfl ?_
      refine wp_if_lt 21 dX10_terms_10 (by decide) (fun c_9 => ?_) (fun c_9 => ?_)
      · replace k := ok_t c_9 k
        refine wp_aload_n dX10_terms_21 rfl ?_
        refine wp_iconst dX10_terms_22 ic_m1 ?_
        replace k := ok_bind k
        obtain ⟨u, e_10, k⟩ := k
        refine wp_callV1 (N := M_X10_refuse) (ci := 10) mf_X10_refuse mi_X10_refuse me_X10_refuse ml_X10_96 dX10_terms_23 (ckO_e e_10) mv_X10_refuse (by exact Nat.le_of_ble_eq_true rfl) (c_X10_refuse (Nat.le_trans (by decide) he) (ok_mono (ok_bind2 k) fun z_12 h_11 k => ?_))
        try dsimp only at k
        refine wp_iret rfl rfl dX10_terms_26 ?_
        exact (ok_some k :)
      · replace k := ok_f c_9 k
        refine wp_iload_n dX10_terms_13 rfl ?_
        refine wp_iload_n dX10_terms_14 rfl ?_
        refine wp_callS1 (N := M_X10_largestTerm) mf_X10_largestTerm ms_X10_largestTerm ml_X10_183 dX10_terms_15 (by exact Nat.le_of_ble_eq_true rfl) (c_X10_largestTerm (Nat.le_trans (by decide) he) (ok_mono (ok_bind2 k) fun z_14 h_13 k => ?_))
        try dsimp only at k
        refine wp_icmp_le 27 dX10_terms_18 (by decide) (fun c_15 => ?_) (fun c_15 => ?_)
        · replace k := ok_t c_15 k
          refine wp_aload_n dX10_terms_27 rfl ?_
          refine wp_iload_n dX10_terms_28 rfl ?_
          replace k := ok_bind k
          obtain ⟨u, e_16, k⟩ := k
          refine wp_callV1 (N := M_X10_term) (ci := 10) mf_X10_term mi_X10_term me_X10_term ml_X10_186 dX10_terms_29 (ckO_e e_16) mv_X10_term (by exact Nat.le_of_ble_eq_true rfl) (c_X10_term (Nat.le_trans (by decide) he) (ok_mono (ok_bind2 k) fun z_18 h_17 k => ?_))
          try dsimp only at k
          refine wp_istore_n dX10_terms_32 (by decide) (L1 := [_, _, _, _]) rfl ?_
          refine wp_iload_n dX10_terms_33 rfl ?_
          refine wp_if_ne 51 dX10_terms_34 (by decide) (fun c_19 => ?_) (fun c_19 => ?_)
          · replace k := ok_f c_19 k
            refine wp_iload_n dX10_terms_51 rfl ?_
            refine wp_iconst dX10_terms_52 ic_1 ?_
            refine wp_icmp_ne 67 dX10_terms_53 (by decide) (fun c_20 => ?_) (fun c_20 => ?_)
            · replace k := ok_f c_20 k
              refine wp_iload_n dX10_terms_67 rfl ?_
              refine wp_iconst dX10_terms_68 ic_2 ?_
              refine wp_icmp_ne 83 dX10_terms_69 (by decide) (fun c_21 => ?_) (fun c_21 => ?_)
              · replace k := ok_f c_21 k
                refine wp_aload_n dX10_terms_83 rfl ?_
                replace k := ok_bind k
                obtain ⟨p_22, e_23, k⟩ := k
                refine wq_getR fl_X10_16 (Or.inl ⟨_, rfl⟩) dX10_terms_84 e_23 ?_
                refine wp_iload_n dX10_terms_87 rfl ?_
                replace k := ok_bind k
                obtain ⟨h_24, e_25, k⟩ := k
                refine wq_putI fl_X10_198 rfl rfl dX10_terms_88 e_25 ?_
                refine wp_aload_n dX10_terms_91 rfl ?_
                replace k := ok_bind k
                obtain ⟨p_26, e_27, k⟩ := k
                refine wq_getR fl_X10_27 (Or.inl ⟨_, rfl⟩) dX10_terms_92 e_27 ?_
                replace k := ok_bind k
                obtain ⟨u, e_28, k⟩ := k
                refine wp_callV0 (N := M_X5_clear) (ci := 5) mf_X5_clear mi_X5_clear me_X5_clear ml_X10_103 dX10_terms_95 (ckO_e e_28) mv_X5_clear (by exact Nat.le_of_ble_eq_true rfl) (c_X5_clear (Nat.le_trans (by decide) he) (ok_mono (ok_bind2 k) fun _ h_29 k => ?_))
                try dsimp only at k
                refine wp_aload_n dX10_terms_98 rfl ?_
                refine wp_iload_n dX10_terms_99 rfl ?_
                replace k := ok_bind k
                obtain ⟨u, e_31, k⟩ := k
                refine wp_callV1 (N := M_X10_accept) (ci := 10) mf_X10_accept mi_X10_accept me_X10_accept ml_X10_110 dX10_terms_100 (ckO_e e_31) mv_X10_accept (by exact Nat.le_of_ble_eq_true rfl) (c_X10_accept (Nat.le_trans (by decide) he) (ok_mono (ok_bind2 k) fun z_33 h_32 k => ?_))
                try dsimp only at k
                refine wp_iret rfl rfl dX10_terms_103 ?_
                exact (ok_some k :)
              · replace k := ok_t c_21 k
                refine wp_aload_n dX10_terms_72 rfl ?_
                replace k := ok_bind k
                obtain ⟨p_34, e_35, k⟩ := k
                refine wq_getR fl_X10_16 (Or.inl ⟨_, rfl⟩) dX10_terms_73 e_35 ?_
                refine wp_iload_n dX10_terms_76 rfl ?_
                replace k := ok_bind k
                obtain ⟨h_36, e_37, k⟩ := k
                refine wq_putI fl_X10_195 rfl rfl dX10_terms_77 e_37 ?_
                refine wp_goto 91 dX10_terms_80 (by decide) ?_
                refine wp_aload_n dX10_terms_91 rfl ?_
                replace k := ok_bind k
                obtain ⟨p_38, e_39, k⟩ := k
                refine wq_getR fl_X10_27 (Or.inl ⟨_, rfl⟩) dX10_terms_92 e_39 ?_
                replace k := ok_bind k
                obtain ⟨u, e_40, k⟩ := k
                refine wp_callV0 (N := M_X5_clear) (ci := 5) mf_X5_clear mi_X5_clear me_X5_clear ml_X10_103 dX10_terms_95 (ckO_e e_40) mv_X5_clear (by exact Nat.le_of_ble_eq_true rfl) (c_X5_clear (Nat.le_trans (by decide) he) (ok_mono (ok_bind2 k) fun _ h_41 k => ?_))
                try dsimp only at k
                refine wp_aload_n dX10_terms_98 rfl ?_
                refine wp_iload_n dX10_terms_99 rfl ?_
                replace k := ok_bind k
                obtain ⟨u, e_43, k⟩ := k
                refine wp_callV1 (N := M_X10_accept) (ci := 10) mf_X10_accept mi_X10_accept me_X10_accept ml_X10_110 dX10_terms_100 (ckO_e e_43) mv_X10_accept (by exact Nat.le_of_ble_eq_true rfl) (c_X10_accept (Nat.le_trans (by decide) he) (ok_mono (ok_bind2 k) fun z_45 h_44 k => ?_))
                try dsimp only at k
                refine wp_iret rfl rfl dX10_terms_103 ?_
                exact (ok_some k :)
            · replace k := ok_t c_20 k
              refine wp_aload_n dX10_terms_56 rfl ?_
              replace k := ok_bind k
              obtain ⟨p_46, e_47, k⟩ := k
              refine wq_getR fl_X10_16 (Or.inl ⟨_, rfl⟩) dX10_terms_57 e_47 ?_
              refine wp_iload_n dX10_terms_60 rfl ?_
              replace k := ok_bind k
              obtain ⟨h_48, e_49, k⟩ := k
              refine wq_putI fl_X10_192 rfl rfl dX10_terms_61 e_49 ?_
              refine wp_goto 91 dX10_terms_64 (by decide) ?_
              refine wp_aload_n dX10_terms_91 rfl ?_
              replace k := ok_bind k
              obtain ⟨p_50, e_51, k⟩ := k
              refine wq_getR fl_X10_27 (Or.inl ⟨_, rfl⟩) dX10_terms_92 e_51 ?_
              replace k := ok_bind k
              obtain ⟨u, e_52, k⟩ := k
              refine wp_callV0 (N := M_X5_clear) (ci := 5) mf_X5_clear mi_X5_clear me_X5_clear ml_X10_103 dX10_terms_95 (ckO_e e_52) mv_X5_clear (by exact Nat.le_of_ble_eq_true rfl) (c_X5_clear (Nat.le_trans (by decide) he) (ok_mono (ok_bind2 k) fun _ h_53 k => ?_))
              try dsimp only at k
              refine wp_aload_n dX10_terms_98 rfl ?_
              refine wp_iload_n dX10_terms_99 rfl ?_
              replace k := ok_bind k
              obtain ⟨u, e_55, k⟩ := k
              refine wp_callV1 (N := M_X10_accept) (ci := 10) mf_X10_accept mi_X10_accept me_X10_accept ml_X10_110 dX10_terms_100 (ckO_e e_55) mv_X10_accept (by exact Nat.le_of_ble_eq_true rfl) (c_X10_accept (Nat.le_trans (by decide) he) (ok_mono (ok_bind2 k) fun z_57 h_56 k => ?_))
              try dsimp only at k
              refine wp_iret rfl rfl dX10_terms_103 ?_
              exact (ok_some k :)
          · replace k := ok_t c_19 k
            refine wp_aload_n dX10_terms_37 rfl ?_
            replace k := ok_bind k
            obtain ⟨p_58, e_59, k⟩ := k
            refine wq_getR fl_X10_16 (Or.inl ⟨_, rfl⟩) dX10_terms_38 e_59 ?_
            replace k := ok_bind k
            obtain ⟨p_60, e_61, k⟩ := k
            refine wq_getR fl_X10_120 (Or.inl ⟨_, rfl⟩) dX10_terms_41 e_61 ?_
            refine wp_iload_n dX10_terms_44 rfl ?_
            replace k := ok_bind k
            obtain ⟨h_62, e_63, k⟩ := k
            refine wq_putI fl_X10_189 rfl rfl dX10_terms_45 e_63 ?_
            refine wp_goto 91 dX10_terms_48 (by decide) ?_
            refine wp_aload_n dX10_terms_91 rfl ?_
            replace k := ok_bind k
            obtain ⟨p_64, e_65, k⟩ := k
            refine wq_getR fl_X10_27 (Or.inl ⟨_, rfl⟩) dX10_terms_92 e_65 ?_
            replace k := ok_bind k
            obtain ⟨u, e_66, k⟩ := k
            refine wp_callV0 (N := M_X5_clear) (ci := 5) mf_X5_clear mi_X5_clear me_X5_clear ml_X10_103 dX10_terms_95 (ckO_e e_66) mv_X5_clear (by exact Nat.le_of_ble_eq_true rfl) (c_X5_clear (Nat.le_trans (by decide) he) (ok_mono (ok_bind2 k) fun _ h_67 k => ?_))
            try dsimp only at k
            refine wp_aload_n dX10_terms_98 rfl ?_
            refine wp_iload_n dX10_terms_99 rfl ?_
            replace k := ok_bind k
            obtain ⟨u, e_69, k⟩ := k
            refine wp_callV1 (N := M_X10_accept) (ci := 10) mf_X10_accept mi_X10_accept me_X10_accept ml_X10_110 dX10_terms_100 (ckO_e e_69) mv_X10_accept (by exact Nat.le_of_ble_eq_true rfl) (c_X10_accept (Nat.le_trans (by decide) he) (ok_mono (ok_bind2 k) fun z_71 h_70 k => ?_))
            try dsimp only at k
            refine wp_iret rfl rfl dX10_terms_103 ?_
            exact (ok_some k :)
        · replace k := ok_f c_15 k
          refine wp_aload_n dX10_terms_21 rfl ?_
          refine wp_iconst dX10_terms_22 ic_m1 ?_
          replace k := ok_bind k
          obtain ⟨u, e_72, k⟩ := k
          refine wp_callV1 (N := M_X10_refuse) (ci := 10) mf_X10_refuse mi_X10_refuse me_X10_refuse ml_X10_96 dX10_terms_23 (ckO_e e_72) mv_X10_refuse (by exact Nat.le_of_ble_eq_true rfl) (c_X10_refuse (Nat.le_trans (by decide) he) (ok_mono (ok_bind2 k) fun z_74 h_73 k => ?_))
          try dsimp only at k
          refine wp_iret rfl rfl dX10_terms_26 ?_
          exact (ok_some k :)
theorem c_X10_terms {S : SH} {d : Nat} {K : Option Value → AH → Prop} (hd : 1 ≤ d)  {r0 : Nat} {x1 : Int32} {x2 : Int32} {h : AH} (k : ok (f_X10_terms S r0 x1 x2 h) (fun w h' => K (some (.int w)) h')) : CP S M_X10_terms d 0 0 [.ref r0, .int x1, .int x2] h K := cp_of (by decide) (fun _ _ => trivial) (fun _ => Nat.le_of_ble_eq_true rfl) (s_X10_terms hd  k)
def f_X10_feedFour_l3b (S : SH) (rc : Nat → Int32 → Int32 → AH → Option (Unit × AH)) (r0 : Nat) (x1 : Int32) (x2 : Int32) (h : AH) : Option (Unit × AH) :=
  if x2 < (0 : Int32) then
    some ((), h)
  else
    (gI S h r0 10 1).bind fun v_2 =>
    if v_2 < (0 : Int32) then
      some ((), h)
    else
      (gI S h r0 10 1).bind fun v_5 =>
      if (400 : Int32) ≤ v_5 then
        some ((), h)
      else
        (gR S h r0 10 0).bind fun p_8 =>
        (gI S h r0 10 1).bind fun v_10 =>
        (sI S h p_8 v_10 ((shrU x1 x2) &&& (255 : Int32))).bind fun h_12 =>
        (gI S h_12 r0 10 1).bind fun v_14 =>
        (pI S h_12 r0 10 1 (v_14 + (1 : Int32))).bind fun h_16 =>
        lt (x2 + (-8 : Int32)) fun y_18 =>
        rc r0 x1 y_18 h_16
set_option maxHeartbeats 8000000 in
set_option maxRecDepth 20000 in
theorem s_X10_feedFour_l3b {S : SH} {d cb sb : Nat} {Q : Option Value → AH → Prop} (hd : 0 ≤ d) {K : Unit → AH → Prop} (hex : ∀  (h' : AH), K () h' → WP S M_X10_feedFour d cb sb Q 56 [JK, JK, JK] [] h') {rc : Nat → Int32 → Int32 → AH → Option (Unit × AH)} (hrec : ∀ (r0 : Nat) (x1 : Int32) (x2 : Int32) (h' : AH), ok (rc r0 x1 x2 h') K → WP S M_X10_feedFour d cb sb Q 3 [.ref r0, .int x1, .int x2] [] h') {r0 : Nat} {x1 : Int32} {x2 : Int32} {h : AH} (k : ok (f_X10_feedFour_l3b S rc r0 x1 x2 h) K) : WP S M_X10_feedFour d cb sb Q 3 [.ref r0, .int x1, .int x2] [] h := by
  unfold f_X10_feedFour_l3b at k
  refine wp_iload_n dX10_feedFour_3 rfl ?_
  refine wp_if_lt 56 dX10_feedFour_4 (by decide) (fun c_1 => ?_) (fun c_1 => ?_)
  · replace k := ok_t c_1 k
    exact wp_wk (wkJ <| wkJ <| wkJ <| wkN) (hex  _ (ok_some k))
  · replace k := ok_f c_1 k
    refine wp_aload_n dX10_feedFour_7 rfl ?_
    replace k := ok_bind k
    obtain ⟨v_2, e_3, k⟩ := k
    refine wq_getI fl_X10_201 (Or.inl rfl) dX10_feedFour_8 e_3 ?_
    refine wp_if_lt 56 dX10_feedFour_11 (by decide) (fun c_4 => ?_) (fun c_4 => ?_)
    · replace k := ok_t c_4 k
      exact wp_wk (wkJ <| wkJ <| wkJ <| wkN) (hex  _ (ok_some k))
    · replace k := ok_f c_4 k
      refine wp_aload_n dX10_feedFour_14 rfl ?_
      replace k := ok_bind k
      obtain ⟨v_5, e_6, k⟩ := k
      refine wq_getI fl_X10_201 (Or.inl rfl) dX10_feedFour_15 e_6 ?_
      refine wp_sipush dX10_feedFour_18 sp_400 ?_
      refine wp_icmp_ge 56 dX10_feedFour_21 (by decide) (fun c_7 => ?_) (fun c_7 => ?_)
      · replace k := ok_t c_7 k
        exact wp_wk (wkJ <| wkJ <| wkJ <| wkN) (hex  _ (ok_some k))
      · replace k := ok_f c_7 k
        refine wp_aload_n dX10_feedFour_24 rfl ?_
        replace k := ok_bind k
        obtain ⟨p_8, e_9, k⟩ := k
        refine wq_getR fl_X10_9 (Or.inr ⟨_, rfl⟩) dX10_feedFour_25 e_9 ?_
        refine wp_aload_n dX10_feedFour_28 rfl ?_
        replace k := ok_bind k
        obtain ⟨v_10, e_11, k⟩ := k
        refine wq_getI fl_X10_201 (Or.inl rfl) dX10_feedFour_29 e_11 ?_
        refine wp_iload_n dX10_feedFour_32 rfl ?_
        refine wp_iload_n dX10_feedFour_33 rfl ?_
        refine wp_iushr dX10_feedFour_34 ?_
        refine wp_sipush dX10_feedFour_35 sp_255 ?_
        refine wp_iand dX10_feedFour_38 ?_
        replace k := ok_bind k
        obtain ⟨h_12, e_13, k⟩ := k
        refine wq_sI dX10_feedFour_39 e_13 ?_
        refine wp_aload_n dX10_feedFour_40 rfl ?_
        refine wp_dupR dX10_feedFour_41 ?_
        replace k := ok_bind k
        obtain ⟨v_14, e_15, k⟩ := k
        refine wq_getI fl_X10_201 (Or.inl rfl) dX10_feedFour_42 e_15 ?_
        refine wp_iconst dX10_feedFour_45 ic_1 ?_
        refine wp_iadd dX10_feedFour_46 ?_
        replace k := ok_bind k
        obtain ⟨h_16, e_17, k⟩ := k
        refine wq_putI fl_X10_201 rfl rfl dX10_feedFour_47 e_17 ?_
        replace k := ok_lt k
        refine wp_iinc dX10_feedFour_50 rfl ic_m8 (by decide) (L1 := [_, _, _]) rfl ?_
        refine wp_goto 3 dX10_feedFour_53 (by decide) ?_
        exact wp_wk (wkE <| wkE <| wkE <| wkN) (hrec _ _ _ _ k)
def f_X10_feedFour_l3 (S : SH) : Nat → Nat → Int32 → Int32 → AH → Option (Unit × AH)
  | 0, _, _, _, _ => none
  | n + 1, r0, x1, x2, h => f_X10_feedFour_l3b S (f_X10_feedFour_l3 S n) r0 x1 x2 h
theorem s_X10_feedFour_l3 {S : SH} {d cb sb : Nat} {Q : Option Value → AH → Prop} (hd : 0 ≤ d) {K : Unit → AH → Prop} (hex : ∀  (h' : AH), K () h' → WP S M_X10_feedFour d cb sb Q 56 [JK, JK, JK] [] h') : ∀ (n : Nat) (r0 : Nat) (x1 : Int32) (x2 : Int32) (h : AH), ok (f_X10_feedFour_l3 S n r0 x1 x2 h) K → WP S M_X10_feedFour d cb sb Q 3 [.ref r0, .int x1, .int x2] [] h := by
  intro n
  induction n with
  | zero => intro r0 x1 x2 h k; exact ok_none k
  | succ n ih => intro r0 x1 x2 h k; exact s_X10_feedFour_l3b hd hex (fun r0 x1 x2 h k => ih r0 x1 x2 h k) k
def f_X10_feedFour (S : SH) (r0 : Nat) (x1 : Int32) (h : AH) : Option (Unit × AH) :=
  (f_X10_feedFour_l3 S FU r0 x1 (24 : Int32) h).bind fun z => match z with
  | ((), h_1) =>
  some ((), h_1)
set_option maxHeartbeats 8000000 in
set_option maxRecDepth 20000 in
theorem s_X10_feedFour {S : SH} {d cb sb : Nat} {Q : Option Value → AH → Prop} (hd : 0 ≤ d)  {r0 : Nat} {x1 : Int32} {h : AH} (k : ok (f_X10_feedFour S r0 x1 h) (fun _ h' => Q none h')) : WP S M_X10_feedFour d cb sb Q 0 [.ref r0, .int x1, JK] [] h := by
  unfold f_X10_feedFour at k
  refine wp_bipush dX10_feedFour_0 bp_24 ?_
  refine wp_istore_n dX10_feedFour_2 (by decide) (L1 := [_, _, _]) rfl ?_
  refine wp_wk (wkE <| wkE <| wkE <| wkN) ?_
  refine s_X10_feedFour_l3 hd (fun  h_1 k => ?_) FU _ _ _ _ (ok_bind2 k)
  try dsimp only at k
  refine wp_vret rfl dX10_feedFour_56 ?_
  exact (ok_some k :)
theorem c_X10_feedFour {S : SH} {d : Nat} {K : Option Value → AH → Prop} (hd : 0 ≤ d)  {r0 : Nat} {x1 : Int32} {h : AH} (k : ok (f_X10_feedFour S r0 x1 h) (fun _ h' => K none h')) : CP S M_X10_feedFour d 0 0 [.ref r0, .int x1] h K := cp_of (by decide) (fun _ _ => trivial) (fun _ => Nat.le_of_ble_eq_true rfl) (s_X10_feedFour hd  k)
def f_X10_feed (S : SH) (r0 : Nat) (x1 : Int32) (x2 : Int32) (x3 : Int32) (x4 : Int32) (x5 : Int32) (h : AH) : Option (Int32 × AH) :=
  (gI S h r0 10 1).bind fun v_1 =>
  if (v_1 + (20 : Int32)) ≤ (400 : Int32) then
    (ckO S h r0 10).bind fun _ =>
    (f_X10_feedFour S r0 x1 h).bind fun z => match z with
    | (_, h_5) =>
    (ckO S h_5 r0 10).bind fun _ =>
    (f_X10_feedFour S r0 x2 h_5).bind fun z => match z with
    | (_, h_8) =>
    (ckO S h_8 r0 10).bind fun _ =>
    (f_X10_feedFour S r0 x3 h_8).bind fun z => match z with
    | (_, h_11) =>
    (ckO S h_11 r0 10).bind fun _ =>
    (f_X10_feedFour S r0 x4 h_11).bind fun z => match z with
    | (_, h_14) =>
    (ckO S h_14 r0 10).bind fun _ =>
    (f_X10_feedFour S r0 x5 h_14).bind fun z => match z with
    | (_, h_17) =>
    (gI S h_17 r0 10 1).bind fun v_19 =>
    some (v_19, h_17)
  else
    some ((-1 : Int32), h)
set_option maxHeartbeats 8000000 in
set_option maxRecDepth 20000 in
theorem s_X10_feed {S : SH} {d cb sb : Nat} {Q : Option Value → AH → Prop} (hd : 1 ≤ d)  {r0 : Nat} {x1 : Int32} {x2 : Int32} {x3 : Int32} {x4 : Int32} {x5 : Int32} {h : AH} (k : ok (f_X10_feed S r0 x1 x2 x3 x4 x5 h) (fun w h' => Q (some (.int w)) h')) : WP S M_X10_feed d cb sb Q 0 [.ref r0, .int x1, .int x2, .int x3, .int x4, .int x5] [] h := by
  obtain ⟨d, rfl, he⟩ := dp (L := 0) hd
  unfold f_X10_feed at k
  refine wp_aload_n dX10_feed_0 rfl ?_
  replace k := ok_bind k
  obtain ⟨v_1, e_2, k⟩ := k
  refine wq_getI fl_X10_201 (Or.inl rfl) dX10_feed_1 e_2 ?_
  refine wp_bipush dX10_feed_4 bp_20 ?_
  refine wp_iadd dX10_feed_6 ?_
  refine wp_sipush dX10_feed_7 sp_400 ?_
  refine wp_icmp_le 15 dX10_feed_10 (by decide) (fun c_3 => ?_) (fun c_3 => ?_)
  · replace k := ok_t c_3 k
    refine wp_aload_n dX10_feed_15 rfl ?_
    refine wp_iload_n dX10_feed_16 rfl ?_
    replace k := ok_bind k
    obtain ⟨u, e_4, k⟩ := k
    refine wp_callV1 (N := M_X10_feedFour) (ci := 10) mf_X10_feedFour mi_X10_feedFour me_X10_feedFour ml_X10_204 dX10_feed_17 (ckO_e e_4) mv_X10_feedFour (by exact Nat.le_of_ble_eq_true rfl) (c_X10_feedFour (Nat.le_trans (by decide) he) (ok_mono (ok_bind2 k) fun _ h_5 k => ?_))
    try dsimp only at k
    refine wp_aload_n dX10_feed_20 rfl ?_
    refine wp_iload_n dX10_feed_21 rfl ?_
    replace k := ok_bind k
    obtain ⟨u, e_7, k⟩ := k
    refine wp_callV1 (N := M_X10_feedFour) (ci := 10) mf_X10_feedFour mi_X10_feedFour me_X10_feedFour ml_X10_204 dX10_feed_22 (ckO_e e_7) mv_X10_feedFour (by exact Nat.le_of_ble_eq_true rfl) (c_X10_feedFour (Nat.le_trans (by decide) he) (ok_mono (ok_bind2 k) fun _ h_8 k => ?_))
    try dsimp only at k
    refine wp_aload_n dX10_feed_25 rfl ?_
    refine wp_iload_n dX10_feed_26 rfl ?_
    replace k := ok_bind k
    obtain ⟨u, e_10, k⟩ := k
    refine wp_callV1 (N := M_X10_feedFour) (ci := 10) mf_X10_feedFour mi_X10_feedFour me_X10_feedFour ml_X10_204 dX10_feed_27 (ckO_e e_10) mv_X10_feedFour (by exact Nat.le_of_ble_eq_true rfl) (c_X10_feedFour (Nat.le_trans (by decide) he) (ok_mono (ok_bind2 k) fun _ h_11 k => ?_))
    try dsimp only at k
    refine wp_aload_n dX10_feed_30 rfl ?_
    refine wp_iload dX10_feed_31 rfl ?_
    replace k := ok_bind k
    obtain ⟨u, e_13, k⟩ := k
    refine wp_callV1 (N := M_X10_feedFour) (ci := 10) mf_X10_feedFour mi_X10_feedFour me_X10_feedFour ml_X10_204 dX10_feed_33 (ckO_e e_13) mv_X10_feedFour (by exact Nat.le_of_ble_eq_true rfl) (c_X10_feedFour (Nat.le_trans (by decide) he) (ok_mono (ok_bind2 k) fun _ h_14 k => ?_))
    try dsimp only at k
    refine wp_aload_n dX10_feed_36 rfl ?_
    refine wp_iload dX10_feed_37 rfl ?_
    replace k := ok_bind k
    obtain ⟨u, e_16, k⟩ := k
    refine wp_callV1 (N := M_X10_feedFour) (ci := 10) mf_X10_feedFour mi_X10_feedFour me_X10_feedFour ml_X10_204 dX10_feed_39 (ckO_e e_16) mv_X10_feedFour (by exact Nat.le_of_ble_eq_true rfl) (c_X10_feedFour (Nat.le_trans (by decide) he) (ok_mono (ok_bind2 k) fun _ h_17 k => ?_))
    try dsimp only at k
    refine wp_aload_n dX10_feed_42 rfl ?_
    replace k := ok_bind k
    obtain ⟨v_19, e_20, k⟩ := k
    refine wq_getI fl_X10_201 (Or.inl rfl) dX10_feed_43 e_20 ?_
    refine wp_iret rfl rfl dX10_feed_46 ?_
    exact (ok_some k :)
  · replace k := ok_f c_3 k
    refine wp_iconst dX10_feed_13 ic_m1 ?_
    refine wp_iret rfl rfl dX10_feed_14 ?_
    exact (ok_some k :)
theorem c_X10_feed {S : SH} {d : Nat} {K : Option Value → AH → Prop} (hd : 1 ≤ d)  {r0 : Nat} {x1 : Int32} {x2 : Int32} {x3 : Int32} {x4 : Int32} {x5 : Int32} {h : AH} (k : ok (f_X10_feed S r0 x1 x2 x3 x4 x5 h) (fun w h' => K (some (.int w)) h')) : CP S M_X10_feed d 0 0 [.ref r0, .int x1, .int x2, .int x3, .int x4, .int x5] h K := cp_of (by decide) (fun _ _ => trivial) (fun _ => Nat.le_of_ble_eq_true rfl) (s_X10_feed hd  k)
def f_X10_end (S : SH) (r0 : Nat) (x1 : Int32) (h : AH) : Option (Int32 × AH) :=
  if x1 < (0 : Int32) then
    some ((-1 : Int32), h)
  else
    (gI S h r0 10 1).bind fun v_2 =>
    if x1 ≤ v_2 then
      (pI S h r0 10 1 x1).bind fun h_5 =>
      some (x1, h_5)
    else
      some ((-1 : Int32), h)
set_option maxHeartbeats 8000000 in
set_option maxRecDepth 20000 in
theorem s_X10_end {S : SH} {d cb sb : Nat} {Q : Option Value → AH → Prop} (hd : 0 ≤ d)  {r0 : Nat} {x1 : Int32} {h : AH} (k : ok (f_X10_end S r0 x1 h) (fun w h' => Q (some (.int w)) h')) : WP S M_X10_end d cb sb Q 0 [.ref r0, .int x1] [] h := by
  unfold f_X10_end at k
  refine wp_iload_n dX10_end_0 rfl ?_
  refine wp_if_lt 12 dX10_end_1 (by decide) (fun c_1 => ?_) (fun c_1 => ?_)
  · replace k := ok_t c_1 k
    refine wp_iconst dX10_end_12 ic_m1 ?_
    refine wp_iret rfl rfl dX10_end_13 ?_
    exact (ok_some k :)
  · replace k := ok_f c_1 k
    refine wp_iload_n dX10_end_4 rfl ?_
    refine wp_aload_n dX10_end_5 rfl ?_
    replace k := ok_bind k
    obtain ⟨v_2, e_3, k⟩ := k
    refine wq_getI fl_X10_201 (Or.inl rfl) dX10_end_6 e_3 ?_
    refine wp_icmp_le 14 dX10_end_9 (by decide) (fun c_4 => ?_) (fun c_4 => ?_)
    · replace k := ok_t c_4 k
      refine wp_aload_n dX10_end_14 rfl ?_
      refine wp_iload_n dX10_end_15 rfl ?_
      replace k := ok_bind k
      obtain ⟨h_5, e_6, k⟩ := k
      refine wq_putI fl_X10_201 rfl rfl dX10_end_16 e_6 ?_
      refine wp_iload_n dX10_end_19 rfl ?_
      refine wp_iret rfl rfl dX10_end_20 ?_
      exact (ok_some k :)
    · replace k := ok_f c_4 k
      refine wp_iconst dX10_end_12 ic_m1 ?_
      refine wp_iret rfl rfl dX10_end_13 ?_
      exact (ok_some k :)
theorem c_X10_end {S : SH} {d : Nat} {K : Option Value → AH → Prop} (hd : 0 ≤ d)  {r0 : Nat} {x1 : Int32} {h : AH} (k : ok (f_X10_end S r0 x1 h) (fun w h' => K (some (.int w)) h')) : CP S M_X10_end d 0 0 [.ref r0, .int x1] h K := cp_of (by decide) (fun _ _ => trivial) (fun _ => Nat.le_of_ble_eq_true rfl) (s_X10_end hd  k)
def f_X10_canBeBird_l54b (S : SH) (rc : Nat → Int32 → Int32 → AH → Option ((Int32 ⊕ Unit) × AH)) (r0 : Nat) (x1 : Int32) (x2 : Int32) (h : AH) : Option ((Int32 ⊕ Unit) × AH) :=
  if (x1 + (8 : Int32)) ≤ x2 then
    some (.inr (), h)
  else
    (gR S h r0 10 0).bind fun p_2 =>
    (aI S h p_2 x2).bind fun v_4 =>
    if v_4 ≤ (9 : Int32) then
      lt (x2 + (1 : Int32)) fun y_7 =>
      rc r0 x1 y_7 h
    else
      some (.inl (0 : Int32), h)
set_option maxHeartbeats 8000000 in
set_option maxRecDepth 20000 in
theorem s_X10_canBeBird_l54b {S : SH} {d cb sb : Nat} {Q : Option Value → AH → Prop} (hd : 0 ≤ d) {K : (Int32 ⊕ Unit) → AH → Prop} (hret : ∀ (w : Int32) (h' : AH), K (.inl w) h' → Q (some (.int w)) h') (hex : ∀  (h' : AH), K (.inr ()) h' → WP S M_X10_canBeBird d cb sb Q 81 [JK, JK, JK] [] h') {rc : Nat → Int32 → Int32 → AH → Option ((Int32 ⊕ Unit) × AH)} (hrec : ∀ (r0 : Nat) (x1 : Int32) (x2 : Int32) (h' : AH), ok (rc r0 x1 x2 h') K → WP S M_X10_canBeBird d cb sb Q 54 [.ref r0, .int x1, .int x2] [] h') {r0 : Nat} {x1 : Int32} {x2 : Int32} {h : AH} (k : ok (f_X10_canBeBird_l54b S rc r0 x1 x2 h) K) : WP S M_X10_canBeBird d cb sb Q 54 [.ref r0, .int x1, .int x2] [] h := by
  unfold f_X10_canBeBird_l54b at k
  refine wp_iload_n dX10_canBeBird_54 rfl ?_
  refine wp_iload_n dX10_canBeBird_55 rfl ?_
  refine wp_bipush dX10_canBeBird_56 bp_8 ?_
  refine wp_iadd dX10_canBeBird_58 ?_
  refine wp_icmp_ge 81 dX10_canBeBird_59 (by decide) (fun c_1 => ?_) (fun c_1 => ?_)
  · replace k := ok_t c_1 k
    exact wp_wk (wkJ <| wkJ <| wkJ <| wkN) (hex  _ (ok_some k))
  · replace k := ok_f c_1 k
    refine wp_aload_n dX10_canBeBird_62 rfl ?_
    replace k := ok_bind k
    obtain ⟨p_2, e_3, k⟩ := k
    refine wq_getR fl_X10_9 (Or.inr ⟨_, rfl⟩) dX10_canBeBird_63 e_3 ?_
    refine wp_iload_n dX10_canBeBird_66 rfl ?_
    replace k := ok_bind k
    obtain ⟨v_4, e_5, k⟩ := k
    refine wq_aI dX10_canBeBird_67 e_5 ?_
    refine wp_bipush dX10_canBeBird_68 bp_9 ?_
    refine wp_icmp_le 75 dX10_canBeBird_70 (by decide) (fun c_6 => ?_) (fun c_6 => ?_)
    · replace k := ok_t c_6 k
      replace k := ok_lt k
      refine wp_iinc dX10_canBeBird_75 rfl ic_1 (by decide) (L1 := [_, _, _]) rfl ?_
      refine wp_goto 54 dX10_canBeBird_78 (by decide) ?_
      exact wp_wk (wkE <| wkE <| wkE <| wkN) (hrec _ _ _ _ k)
    · replace k := ok_f c_6 k
      refine wp_iconst dX10_canBeBird_73 ic_0 ?_
      refine wp_iret rfl rfl dX10_canBeBird_74 ?_
      exact hret _ _ (ok_some k)
def f_X10_canBeBird_l54 (S : SH) : Nat → Nat → Int32 → Int32 → AH → Option ((Int32 ⊕ Unit) × AH)
  | 0, _, _, _, _ => none
  | n + 1, r0, x1, x2, h => f_X10_canBeBird_l54b S (f_X10_canBeBird_l54 S n) r0 x1 x2 h
theorem s_X10_canBeBird_l54 {S : SH} {d cb sb : Nat} {Q : Option Value → AH → Prop} (hd : 0 ≤ d) {K : (Int32 ⊕ Unit) → AH → Prop} (hret : ∀ (w : Int32) (h' : AH), K (.inl w) h' → Q (some (.int w)) h') (hex : ∀  (h' : AH), K (.inr ()) h' → WP S M_X10_canBeBird d cb sb Q 81 [JK, JK, JK] [] h') : ∀ (n : Nat) (r0 : Nat) (x1 : Int32) (x2 : Int32) (h : AH), ok (f_X10_canBeBird_l54 S n r0 x1 x2 h) K → WP S M_X10_canBeBird d cb sb Q 54 [.ref r0, .int x1, .int x2] [] h := by
  intro n
  induction n with
  | zero => intro r0 x1 x2 h k; exact ok_none k
  | succ n ih => intro r0 x1 x2 h k; exact s_X10_canBeBird_l54b hd hret hex (fun r0 x1 x2 h k => ih r0 x1 x2 h k) k
def f_X10_canBeBird (S : SH) (r0 : Nat) (x1 : Int32) (h : AH) : Option (Int32 × AH) :=
  if x1 < (0 : Int32) then
    some ((0 : Int32), h)
  else
    (gI S h r0 10 1).bind fun v_2 =>
    if v_2 < (x1 + (8 : Int32)) then
      some ((0 : Int32), h)
    else
      (gI S h r0 10 1).bind fun v_5 =>
      if (400 : Int32) < v_5 then
        some ((0 : Int32), h)
      else
        (gR S h r0 10 2).bind fun p_8 =>
        (gI S h p_8 6 1).bind fun v_10 =>
        if (7 : Int32) ≤ v_10 then
          some ((0 : Int32), h)
        else
          (gR S h r0 10 0).bind fun p_13 =>
          (aI S h p_13 x1).bind fun v_15 =>
          if v_15 < (20 : Int32) then
            lt ((x1 + (1 : Int32))) fun y_18 =>
            (f_X10_canBeBird_l54 S FU r0 x1 y_18 h).bind fun z => match z with
            | (.inl w, h') => some (w, h')
            | (.inr (), h_19) =>
              some ((1 : Int32), h_19)
          else
            some ((0 : Int32), h)
set_option maxHeartbeats 8000000 in
set_option maxRecDepth 20000 in
theorem s_X10_canBeBird {S : SH} {d cb sb : Nat} {Q : Option Value → AH → Prop} (hd : 0 ≤ d)  {r0 : Nat} {x1 : Int32} {h : AH} (k : ok (f_X10_canBeBird S r0 x1 h) (fun w h' => Q (some (.int w)) h')) : WP S M_X10_canBeBird d cb sb Q 0 [.ref r0, .int x1, JK] [] h := by
  unfold f_X10_canBeBird at k
  refine wp_iload_n dX10_canBeBird_0 rfl ?_
  refine wp_if_lt 48 dX10_canBeBird_1 (by decide) (fun c_1 => ?_) (fun c_1 => ?_)
  · replace k := ok_t c_1 k
    refine wp_iconst dX10_canBeBird_48 ic_0 ?_
    refine wp_iret rfl rfl dX10_canBeBird_49 ?_
    exact (ok_some k :)
  · replace k := ok_f c_1 k
    refine wp_iload_n dX10_canBeBird_4 rfl ?_
    refine wp_bipush dX10_canBeBird_5 bp_8 ?_
    refine wp_iadd dX10_canBeBird_7 ?_
    refine wp_aload_n dX10_canBeBird_8 rfl ?_
    replace k := ok_bind k
    obtain ⟨v_2, e_3, k⟩ := k
    refine wq_getI fl_X10_201 (Or.inl rfl) dX10_canBeBird_9 e_3 ?_
    refine wp_icmp_gt 48 dX10_canBeBird_12 (by decide) (fun c_4 => ?_) (fun c_4 => ?_)
    · replace k := ok_t c_4 k
      refine wp_iconst dX10_canBeBird_48 ic_0 ?_
      refine wp_iret rfl rfl dX10_canBeBird_49 ?_
      exact (ok_some k :)
    · replace k := ok_f c_4 k
      refine wp_aload_n dX10_canBeBird_15 rfl ?_
      replace k := ok_bind k
      obtain ⟨v_5, e_6, k⟩ := k
      refine wq_getI fl_X10_201 (Or.inl rfl) dX10_canBeBird_16 e_6 ?_
      refine wp_sipush dX10_canBeBird_19 sp_400 ?_
      refine wp_icmp_gt 48 dX10_canBeBird_22 (by decide) (fun c_7 => ?_) (fun c_7 => ?_)
      · replace k := ok_t c_7 k
        refine wp_iconst dX10_canBeBird_48 ic_0 ?_
        refine wp_iret rfl rfl dX10_canBeBird_49 ?_
        exact (ok_some k :)
      · replace k := ok_f c_7 k
        refine wp_aload_n dX10_canBeBird_25 rfl ?_
        replace k := ok_bind k
        obtain ⟨p_8, e_9, k⟩ := k
        refine wq_getR fl_X10_16 (Or.inl ⟨_, rfl⟩) dX10_canBeBird_26 e_9 ?_
        replace k := ok_bind k
        obtain ⟨v_10, e_11, k⟩ := k
        refine wq_getI fl_X10_100 (Or.inl rfl) dX10_canBeBird_29 e_11 ?_
        refine wp_bipush dX10_canBeBird_32 bp_7 ?_
        refine wp_icmp_ge 48 dX10_canBeBird_34 (by decide) (fun c_12 => ?_) (fun c_12 => ?_)
        · replace k := ok_t c_12 k
          refine wp_iconst dX10_canBeBird_48 ic_0 ?_
          refine wp_iret rfl rfl dX10_canBeBird_49 ?_
          exact (ok_some k :)
        · replace k := ok_f c_12 k
          refine wp_aload_n dX10_canBeBird_37 rfl ?_
          replace k := ok_bind k
          obtain ⟨p_13, e_14, k⟩ := k
          refine wq_getR fl_X10_9 (Or.inr ⟨_, rfl⟩) dX10_canBeBird_38 e_14 ?_
          refine wp_iload_n dX10_canBeBird_41 rfl ?_
          replace k := ok_bind k
          obtain ⟨v_15, e_16, k⟩ := k
          refine wq_aI dX10_canBeBird_42 e_16 ?_
          refine wp_bipush dX10_canBeBird_43 bp_20 ?_
          refine wp_icmp_lt 50 dX10_canBeBird_45 (by decide) (fun c_17 => ?_) (fun c_17 => ?_)
          · replace k := ok_t c_17 k
            refine wp_iload_n dX10_canBeBird_50 rfl ?_
            refine wp_iconst dX10_canBeBird_51 ic_1 ?_
            refine wp_iadd dX10_canBeBird_52 ?_
            replace k := ok_lt k
            refine wp_istore_n dX10_canBeBird_53 (by decide) (L1 := [_, _, _]) rfl ?_
            refine wp_wk (wkE <| wkE <| wkE <| wkN) ?_
            refine s_X10_canBeBird_l54 hd (fun w h' k => ?_) (fun  h_19 k => ?_) FU _ _ _ _ (ok_bind2 k)
            · try dsimp only at k
              exact (ok_some k :)
            · try dsimp only at k
              refine wp_iconst dX10_canBeBird_81 ic_1 ?_
              refine wp_iret rfl rfl dX10_canBeBird_82 ?_
              exact (ok_some k :)
          · replace k := ok_f c_17 k
            refine wp_iconst dX10_canBeBird_48 ic_0 ?_
            refine wp_iret rfl rfl dX10_canBeBird_49 ?_
            exact (ok_some k :)
theorem c_X10_canBeBird {S : SH} {d : Nat} {K : Option Value → AH → Prop} (hd : 0 ≤ d)  {r0 : Nat} {x1 : Int32} {h : AH} (k : ok (f_X10_canBeBird S r0 x1 h) (fun w h' => K (some (.int w)) h')) : CP S M_X10_canBeBird d 0 0 [.ref r0, .int x1] h K := cp_of (by decide) (fun _ _ => trivial) (fun _ => Nat.le_of_ble_eq_true rfl) (s_X10_canBeBird hd  k)
def f_X10_addBirdOfRow_l24b (S : SH) (rc : Nat → Int32 → Int32 → Int32 → AH → Option (Unit × AH)) (r0 : Nat) (x1 : Int32) (x2 : Int32) (x3 : Int32) (h : AH) : Option (Unit × AH) :=
  if (6 : Int32) ≤ x3 then
    some ((), h)
  else
    (gR S h r0 10 2).bind fun p_2 =>
    (gR S h p_2 6 3).bind fun p_4 =>
    (gR S h r0 10 0).bind fun p_6 =>
    (aI S h p_6 ((x1 + (2 : Int32)) + x3)).bind fun v_8 =>
    (sI S h p_4 ((x2 * (6 : Int32)) + x3) v_8).bind fun h_10 =>
    lt (x3 + (1 : Int32)) fun y_12 =>
    rc r0 x1 x2 y_12 h_10
set_option maxHeartbeats 8000000 in
set_option maxRecDepth 20000 in
theorem s_X10_addBirdOfRow_l24b {S : SH} {d cb sb : Nat} {Q : Option Value → AH → Prop} (hd : 2 ≤ d) {K : Unit → AH → Prop} (hex : ∀  (h' : AH), K () h' → WP S M_X10_addBirdOfRow d cb sb Q 60 [JK, JK, JK, JK] [] h') {rc : Nat → Int32 → Int32 → Int32 → AH → Option (Unit × AH)} (hrec : ∀ (r0 : Nat) (x1 : Int32) (x2 : Int32) (x3 : Int32) (h' : AH), ok (rc r0 x1 x2 x3 h') K → WP S M_X10_addBirdOfRow d cb sb Q 24 [.ref r0, .int x1, .int x2, .int x3] [] h') {r0 : Nat} {x1 : Int32} {x2 : Int32} {x3 : Int32} {h : AH} (k : ok (f_X10_addBirdOfRow_l24b S rc r0 x1 x2 x3 h) K) : WP S M_X10_addBirdOfRow d cb sb Q 24 [.ref r0, .int x1, .int x2, .int x3] [] h := by
  obtain ⟨d, rfl, he⟩ := dp (L := 1) hd
  unfold f_X10_addBirdOfRow_l24b at k
  refine wp_iload_n dX10_addBirdOfRow_24 rfl ?_
  refine wp_bipush dX10_addBirdOfRow_25 bp_6 ?_
  refine wp_icmp_ge 60 dX10_addBirdOfRow_27 (by decide) (fun c_1 => ?_) (fun c_1 => ?_)
  · replace k := ok_t c_1 k
    exact wp_wk (wkJ <| wkJ <| wkJ <| wkJ <| wkN) (hex  _ (ok_some k))
  · replace k := ok_f c_1 k
    refine wp_aload_n dX10_addBirdOfRow_30 rfl ?_
    replace k := ok_bind k
    obtain ⟨p_2, e_3, k⟩ := k
    refine wq_getR fl_X10_16 (Or.inl ⟨_, rfl⟩) dX10_addBirdOfRow_31 e_3 ?_
    replace k := ok_bind k
    obtain ⟨p_4, e_5, k⟩ := k
    refine wq_getR fl_X10_117 (Or.inr ⟨_, rfl⟩) dX10_addBirdOfRow_34 e_5 ?_
    refine wp_iload_n dX10_addBirdOfRow_37 rfl ?_
    refine wp_bipush dX10_addBirdOfRow_38 bp_6 ?_
    refine wp_imul dX10_addBirdOfRow_40 ?_
    refine wp_iload_n dX10_addBirdOfRow_41 rfl ?_
    refine wp_iadd dX10_addBirdOfRow_42 ?_
    refine wp_aload_n dX10_addBirdOfRow_43 rfl ?_
    replace k := ok_bind k
    obtain ⟨p_6, e_7, k⟩ := k
    refine wq_getR fl_X10_9 (Or.inr ⟨_, rfl⟩) dX10_addBirdOfRow_44 e_7 ?_
    refine wp_iload_n dX10_addBirdOfRow_47 rfl ?_
    refine wp_iconst dX10_addBirdOfRow_48 ic_2 ?_
    refine wp_iadd dX10_addBirdOfRow_49 ?_
    refine wp_iload_n dX10_addBirdOfRow_50 rfl ?_
    refine wp_iadd dX10_addBirdOfRow_51 ?_
    replace k := ok_bind k
    obtain ⟨v_8, e_9, k⟩ := k
    refine wq_aI dX10_addBirdOfRow_52 e_9 ?_
    replace k := ok_bind k
    obtain ⟨h_10, e_11, k⟩ := k
    refine wq_sI dX10_addBirdOfRow_53 e_11 ?_
    replace k := ok_lt k
    refine wp_iinc dX10_addBirdOfRow_54 rfl ic_1 (by decide) (L1 := [_, _, _, _]) rfl ?_
    refine wp_goto 24 dX10_addBirdOfRow_57 (by decide) ?_
    exact wp_wk (wkE <| wkE <| wkE <| wkE <| wkN) (hrec _ _ _ _ _ k)
def f_X10_addBirdOfRow_l24 (S : SH) : Nat → Nat → Int32 → Int32 → Int32 → AH → Option (Unit × AH)
  | 0, _, _, _, _, _ => none
  | n + 1, r0, x1, x2, x3, h => f_X10_addBirdOfRow_l24b S (f_X10_addBirdOfRow_l24 S n) r0 x1 x2 x3 h
theorem s_X10_addBirdOfRow_l24 {S : SH} {d cb sb : Nat} {Q : Option Value → AH → Prop} (hd : 2 ≤ d) {K : Unit → AH → Prop} (hex : ∀  (h' : AH), K () h' → WP S M_X10_addBirdOfRow d cb sb Q 60 [JK, JK, JK, JK] [] h') : ∀ (n : Nat) (r0 : Nat) (x1 : Int32) (x2 : Int32) (x3 : Int32) (h : AH), ok (f_X10_addBirdOfRow_l24 S n r0 x1 x2 x3 h) K → WP S M_X10_addBirdOfRow d cb sb Q 24 [.ref r0, .int x1, .int x2, .int x3] [] h := by
  intro n
  induction n with
  | zero => intro r0 x1 x2 x3 h k; exact ok_none k
  | succ n ih => intro r0 x1 x2 x3 h k; exact s_X10_addBirdOfRow_l24b hd hex (fun r0 x1 x2 x3 h k => ih r0 x1 x2 x3 h k) k
def f_X10_addBirdOfRow (S : SH) (r0 : Nat) (x1 : Int32) (h : AH) : Option (Unit × AH) :=
  (gR S h r0 10 2).bind fun p_1 =>
  (gR S h r0 10 0).bind fun p_3 =>
  (aI S h p_3 x1).bind fun v_5 =>
  (gR S h r0 10 0).bind fun p_7 =>
  (aI S h p_7 (x1 + (1 : Int32))).bind fun v_9 =>
  (ckO S h p_1 6).bind fun _ =>
  (f_X6_addBird S p_1 v_5 v_9 h).bind fun z => match z with
  | (z_13, h_12) =>
  (f_X10_addBirdOfRow_l24 S FU r0 x1 z_13 (0 : Int32) h_12).bind fun z => match z with
  | ((), h_14) =>
  some ((), h_14)
set_option maxHeartbeats 8000000 in
set_option maxRecDepth 20000 in
theorem s_X10_addBirdOfRow {S : SH} {d cb sb : Nat} {Q : Option Value → AH → Prop} (hd : 2 ≤ d)  {r0 : Nat} {x1 : Int32} {h : AH} (k : ok (f_X10_addBirdOfRow S r0 x1 h) (fun _ h' => Q none h')) : WP S M_X10_addBirdOfRow d cb sb Q 0 [.ref r0, .int x1, JK, JK] [] h := by
  obtain ⟨d, rfl, he⟩ := dp (L := 1) hd
  unfold f_X10_addBirdOfRow at k
  refine wp_aload_n dX10_addBirdOfRow_0 rfl ?_
  replace k := ok_bind k
  obtain ⟨p_1, e_2, k⟩ := k
  refine wq_getR fl_X10_16 (Or.inl ⟨_, rfl⟩) dX10_addBirdOfRow_1 e_2 ?_
  refine wp_aload_n dX10_addBirdOfRow_4 rfl ?_
  replace k := ok_bind k
  obtain ⟨p_3, e_4, k⟩ := k
  refine wq_getR fl_X10_9 (Or.inr ⟨_, rfl⟩) dX10_addBirdOfRow_5 e_4 ?_
  refine wp_iload_n dX10_addBirdOfRow_8 rfl ?_
  replace k := ok_bind k
  obtain ⟨v_5, e_6, k⟩ := k
  refine wq_aI dX10_addBirdOfRow_9 e_6 ?_
  refine wp_aload_n dX10_addBirdOfRow_10 rfl ?_
  replace k := ok_bind k
  obtain ⟨p_7, e_8, k⟩ := k
  refine wq_getR fl_X10_9 (Or.inr ⟨_, rfl⟩) dX10_addBirdOfRow_11 e_8 ?_
  refine wp_iload_n dX10_addBirdOfRow_14 rfl ?_
  refine wp_iconst dX10_addBirdOfRow_15 ic_1 ?_
  refine wp_iadd dX10_addBirdOfRow_16 ?_
  replace k := ok_bind k
  obtain ⟨v_9, e_10, k⟩ := k
  refine wq_aI dX10_addBirdOfRow_17 e_10 ?_
  replace k := ok_bind k
  obtain ⟨u, e_11, k⟩ := k
  refine wp_callV2 (N := M_X6_addBird) (ci := 6) mf_X6_addBird mi_X6_addBird me_X6_addBird ml_X10_106 dX10_addBirdOfRow_18 (ckO_e e_11) mv_X6_addBird (by exact Nat.le_of_ble_eq_true rfl) (c_X6_addBird (Nat.le_trans (by decide) he) (ok_mono (ok_bind2 k) fun z_13 h_12 k => ?_))
  try dsimp only at k
  refine wp_istore_n dX10_addBirdOfRow_21 (by decide) (L1 := [_, _, _, _]) rfl ?_
  refine wp_iconst dX10_addBirdOfRow_22 ic_0 ?_
  refine wp_istore_n dX10_addBirdOfRow_23 (by decide) (L1 := [_, _, _, _]) rfl ?_
  refine wp_wk (wkE <| wkE <| wkE <| wkE <| wkN) ?_
  refine s_X10_addBirdOfRow_l24 (Nat.succ_le_succ he) (fun  h_14 k => ?_) FU _ _ _ _ _ (ok_bind2 k)
  try dsimp only at k
  refine wp_vret rfl dX10_addBirdOfRow_60 ?_
  exact (ok_some k :)
theorem c_X10_addBirdOfRow {S : SH} {d : Nat} {K : Option Value → AH → Prop} (hd : 2 ≤ d)  {r0 : Nat} {x1 : Int32} {h : AH} (k : ok (f_X10_addBirdOfRow S r0 x1 h) (fun _ h' => K none h')) : CP S M_X10_addBirdOfRow d 0 0 [.ref r0, .int x1] h K := cp_of (by decide) (fun _ _ => trivial) (fun _ => Nat.le_of_ble_eq_true rfl) (s_X10_addBirdOfRow hd  k)
def f_X10_row_l26b (S : SH) (rc : Nat → Int32 → Int32 → Int32 → AH → Option ((Nat × Int32 × Int32) × AH)) (r0 : Nat) (x1 : Int32) (x2 : Int32) (x3 : Int32) (h : AH) : Option ((Nat × Int32 × Int32) × AH) :=
  (gI S h r0 10 1).bind fun v_1 =>
  if v_1 ≤ x3 then
    some ((r0, x1, x2), h)
  else
    (ckO S h r0 10).bind fun _ =>
    (f_X10_canBeBird S r0 x3 h).bind fun z => match z with
    | (z_6, h_5) =>
    if z_6 = (0 : Int32) then
      lt (x2 + (1 : Int32)) fun y_8 =>
      lt (x3 + (8 : Int32)) fun y_9 =>
      rc r0 x1 y_8 y_9 h_5
    else
      (ckO S h_5 r0 10).bind fun _ =>
      (f_X10_addBirdOfRow S r0 x3 h_5).bind fun z => match z with
      | (_, h_11) =>
      lt (x2 + (1 : Int32)) fun y_13 =>
      lt (x3 + (8 : Int32)) fun y_14 =>
      rc r0 x1 y_13 y_14 h_11
set_option maxHeartbeats 8000000 in
set_option maxRecDepth 20000 in
theorem s_X10_row_l26b {S : SH} {d cb sb : Nat} {Q : Option Value → AH → Prop} (hd : 3 ≤ d) {K : (Nat × Int32 × Int32) → AH → Prop} (hex : ∀ (r0 : Nat) (x1 : Int32) (x2 : Int32) (h' : AH), K (r0, x1, x2) h' → WP S M_X10_row d cb sb Q 56 [.ref r0, .int x1, .int x2, JK] [] h') {rc : Nat → Int32 → Int32 → Int32 → AH → Option ((Nat × Int32 × Int32) × AH)} (hrec : ∀ (r0 : Nat) (x1 : Int32) (x2 : Int32) (x3 : Int32) (h' : AH), ok (rc r0 x1 x2 x3 h') K → WP S M_X10_row d cb sb Q 26 [.ref r0, .int x1, .int x2, .int x3] [] h') {r0 : Nat} {x1 : Int32} {x2 : Int32} {x3 : Int32} {h : AH} (k : ok (f_X10_row_l26b S rc r0 x1 x2 x3 h) K) : WP S M_X10_row d cb sb Q 26 [.ref r0, .int x1, .int x2, .int x3] [] h := by
  obtain ⟨d, rfl, he⟩ := dp (L := 2) hd
  unfold f_X10_row_l26b at k
  refine wp_iload_n dX10_row_26 rfl ?_
  refine wp_aload_n dX10_row_27 rfl ?_
  replace k := ok_bind k
  obtain ⟨v_1, e_2, k⟩ := k
  refine wq_getI fl_X10_201 (Or.inl rfl) dX10_row_28 e_2 ?_
  refine wp_icmp_ge 56 dX10_row_31 (by decide) (fun c_3 => ?_) (fun c_3 => ?_)
  · replace k := ok_t c_3 k
    exact wp_wk (wkE <| wkE <| wkE <| wkJ <| wkN) (hex _ _ _ _ (ok_some k))
  · replace k := ok_f c_3 k
    refine wp_aload_n dX10_row_34 rfl ?_
    refine wp_iload_n dX10_row_35 rfl ?_
    replace k := ok_bind k
    obtain ⟨u, e_4, k⟩ := k
    refine wp_callV1 (N := M_X10_canBeBird) (ci := 10) mf_X10_canBeBird mi_X10_canBeBird me_X10_canBeBird ml_X10_208 dX10_row_36 (ckO_e e_4) mv_X10_canBeBird (by exact Nat.le_of_ble_eq_true rfl) (c_X10_canBeBird (Nat.le_trans (by decide) he) (ok_mono (ok_bind2 k) fun z_6 h_5 k => ?_))
    try dsimp only at k
    refine wp_if_eq 47 dX10_row_39 (by decide) (fun c_7 => ?_) (fun c_7 => ?_)
    · replace k := ok_t c_7 k
      replace k := ok_lt k
      refine wp_iinc dX10_row_47 rfl ic_1 (by decide) (L1 := [_, _, _, _]) rfl ?_
      replace k := ok_lt k
      refine wp_iinc dX10_row_50 rfl ic_8 (by decide) (L1 := [_, _, _, _]) rfl ?_
      refine wp_goto 26 dX10_row_53 (by decide) ?_
      exact wp_wk (wkE <| wkE <| wkE <| wkE <| wkN) (hrec _ _ _ _ _ k)
    · replace k := ok_f c_7 k
      refine wp_aload_n dX10_row_42 rfl ?_
      refine wp_iload_n dX10_row_43 rfl ?_
      replace k := ok_bind k
      obtain ⟨u, e_10, k⟩ := k
      refine wp_callV1 (N := M_X10_addBirdOfRow) (ci := 10) mf_X10_addBirdOfRow mi_X10_addBirdOfRow me_X10_addBirdOfRow ml_X10_211 dX10_row_44 (ckO_e e_10) mv_X10_addBirdOfRow (by exact Nat.le_of_ble_eq_true rfl) (c_X10_addBirdOfRow (Nat.le_trans (by decide) he) (ok_mono (ok_bind2 k) fun _ h_11 k => ?_))
      try dsimp only at k
      replace k := ok_lt k
      refine wp_iinc dX10_row_47 rfl ic_1 (by decide) (L1 := [_, _, _, _]) rfl ?_
      replace k := ok_lt k
      refine wp_iinc dX10_row_50 rfl ic_8 (by decide) (L1 := [_, _, _, _]) rfl ?_
      refine wp_goto 26 dX10_row_53 (by decide) ?_
      exact wp_wk (wkE <| wkE <| wkE <| wkE <| wkN) (hrec _ _ _ _ _ k)
def f_X10_row_l26 (S : SH) : Nat → Nat → Int32 → Int32 → Int32 → AH → Option ((Nat × Int32 × Int32) × AH)
  | 0, _, _, _, _, _ => none
  | n + 1, r0, x1, x2, x3, h => f_X10_row_l26b S (f_X10_row_l26 S n) r0 x1 x2 x3 h
theorem s_X10_row_l26 {S : SH} {d cb sb : Nat} {Q : Option Value → AH → Prop} (hd : 3 ≤ d) {K : (Nat × Int32 × Int32) → AH → Prop} (hex : ∀ (r0 : Nat) (x1 : Int32) (x2 : Int32) (h' : AH), K (r0, x1, x2) h' → WP S M_X10_row d cb sb Q 56 [.ref r0, .int x1, .int x2, JK] [] h') : ∀ (n : Nat) (r0 : Nat) (x1 : Int32) (x2 : Int32) (x3 : Int32) (h : AH), ok (f_X10_row_l26 S n r0 x1 x2 x3 h) K → WP S M_X10_row d cb sb Q 26 [.ref r0, .int x1, .int x2, .int x3] [] h := by
  intro n
  induction n with
  | zero => intro r0 x1 x2 x3 h k; exact ok_none k
  | succ n ih => intro r0 x1 x2 x3 h k; exact s_X10_row_l26b hd hex (fun r0 x1 x2 x3 h k => ih r0 x1 x2 x3 h k) k
def f_X10_row (S : SH) (r0 : Nat) (h : AH) : Option (Int32 × AH) :=
  (gI S h r0 10 1).bind fun v_1 =>
  if v_1 = (0 : Int32) then
    (ckO S h r0 10).bind fun _ =>
    (f_X10_refuse S r0 (-6 : Int32) h).bind fun z => match z with
    | (z_31, h_30) =>
    some (z_31, h_30)
  else
    (gR S h r0 10 2).bind fun p_4 =>
    (gI S h p_4 6 1).bind fun v_6 =>
    (f_X10_row_l26 S FU r0 v_6 (0 : Int32) (0 : Int32) h).bind fun z => match z with
    | ((r0_9, x1_10, x2_11), h_8) =>
    (gR S h_8 r0_9 10 2).bind fun p_12 =>
    (gI S h_8 p_12 6 1).bind fun v_14 =>
    lt ((v_14 - x1_10)) fun y_16 =>
    (pI S h_8 r0_9 10 16 (x2_11 - y_16)).bind fun h_17 =>
    (pI S h_17 r0_9 10 1 (0 : Int32)).bind fun h_19 =>
    (gR S h_19 r0_9 10 4).bind fun p_21 =>
    (ckO S h_19 p_21 5).bind fun _ =>
    (f_X5_clear S p_21 h_19).bind fun z => match z with
    | (_, h_24) =>
    (ckO S h_24 r0_9 10).bind fun _ =>
    (f_X10_accept S r0_9 y_16 h_24).bind fun z => match z with
    | (z_28, h_27) =>
    some (z_28, h_27)
set_option maxHeartbeats 8000000 in
set_option maxRecDepth 20000 in
theorem s_X10_row {S : SH} {d cb sb : Nat} {Q : Option Value → AH → Prop} (hd : 3 ≤ d)  {r0 : Nat} {h : AH} (k : ok (f_X10_row S r0 h) (fun w h' => Q (some (.int w)) h')) : WP S M_X10_row d cb sb Q 0 [.ref r0, JK, JK, JK] [] h := by
  obtain ⟨d, rfl, he⟩ := dp (L := 2) hd
  unfold f_X10_row at k
  refine wp_aload_n dX10_row_0 rfl ?_
  replace k := ok_bind k
  obtain ⟨v_1, e_2, k⟩ := k
  refine wq_getI fl_X10_201 (Or.inl rfl) dX10_row_1 e_2 ?_
  refine wp_if_ne 14 dX10_row_4 (by decide) (fun c_3 => ?_) (fun c_3 => ?_)
  · replace k := ok_f c_3 k
    refine wp_aload_n dX10_row_14 rfl ?_
    replace k := ok_bind k
    obtain ⟨p_4, e_5, k⟩ := k
    refine wq_getR fl_X10_16 (Or.inl ⟨_, rfl⟩) dX10_row_15 e_5 ?_
    replace k := ok_bind k
    obtain ⟨v_6, e_7, k⟩ := k
    refine wq_getI fl_X10_100 (Or.inl rfl) dX10_row_18 e_7 ?_
    refine wp_istore_n dX10_row_21 (by decide) (L1 := [_, _, _, _]) rfl ?_
    refine wp_iconst dX10_row_22 ic_0 ?_
    refine wp_istore_n dX10_row_23 (by decide) (L1 := [_, _, _, _]) rfl ?_
    refine wp_iconst dX10_row_24 ic_0 ?_
    refine wp_istore_n dX10_row_25 (by decide) (L1 := [_, _, _, _]) rfl ?_
    refine wp_wk (wkE <| wkE <| wkE <| wkE <| wkN) ?_
    refine s_X10_row_l26 (Nat.succ_le_succ he) (fun r0_9 x1_10 x2_11 h_8 k => ?_) FU _ _ _ _ _ (ok_bind2 k)
    try dsimp only at k
    refine wp_aload_n dX10_row_56 rfl ?_
    replace k := ok_bind k
    obtain ⟨p_12, e_13, k⟩ := k
    refine wq_getR fl_X10_16 (Or.inl ⟨_, rfl⟩) dX10_row_57 e_13 ?_
    replace k := ok_bind k
    obtain ⟨v_14, e_15, k⟩ := k
    refine wq_getI fl_X10_100 (Or.inl rfl) dX10_row_60 e_15 ?_
    refine wp_iload_n dX10_row_63 rfl ?_
    refine wp_isub dX10_row_64 ?_
    replace k := ok_lt k
    refine wp_istore_n dX10_row_65 (by decide) (L1 := [_, _, _, _]) rfl ?_
    refine wp_aload_n dX10_row_66 rfl ?_
    refine wp_iload_n dX10_row_67 rfl ?_
    refine wp_iload_n dX10_row_68 rfl ?_
    refine wp_isub dX10_row_69 ?_
    replace k := ok_bind k
    obtain ⟨h_17, e_18, k⟩ := k
    refine wq_putI fl_X10_214 rfl rfl dX10_row_70 e_18 ?_
    refine wp_aload_n dX10_row_73 rfl ?_
    refine wp_iconst dX10_row_74 ic_0 ?_
    replace k := ok_bind k
    obtain ⟨h_19, e_20, k⟩ := k
    refine wq_putI fl_X10_201 rfl rfl dX10_row_75 e_20 ?_
    refine wp_aload_n dX10_row_78 rfl ?_
    replace k := ok_bind k
    obtain ⟨p_21, e_22, k⟩ := k
    refine wq_getR fl_X10_27 (Or.inl ⟨_, rfl⟩) dX10_row_79 e_22 ?_
    replace k := ok_bind k
    obtain ⟨u, e_23, k⟩ := k
    refine wp_callV0 (N := M_X5_clear) (ci := 5) mf_X5_clear mi_X5_clear me_X5_clear ml_X10_103 dX10_row_82 (ckO_e e_23) mv_X5_clear (by exact Nat.le_of_ble_eq_true rfl) (c_X5_clear (Nat.le_trans (by decide) he) (ok_mono (ok_bind2 k) fun _ h_24 k => ?_))
    try dsimp only at k
    refine wp_aload_n dX10_row_85 rfl ?_
    refine wp_iload_n dX10_row_86 rfl ?_
    replace k := ok_bind k
    obtain ⟨u, e_26, k⟩ := k
    refine wp_callV1 (N := M_X10_accept) (ci := 10) mf_X10_accept mi_X10_accept me_X10_accept ml_X10_110 dX10_row_87 (ckO_e e_26) mv_X10_accept (by exact Nat.le_of_ble_eq_true rfl) (c_X10_accept (Nat.le_trans (by decide) he) (ok_mono (ok_bind2 k) fun z_28 h_27 k => ?_))
    try dsimp only at k
    refine wp_iret rfl rfl dX10_row_90 ?_
    exact (ok_some k :)
  · replace k := ok_t c_3 k
    refine wp_aload_n dX10_row_7 rfl ?_
    refine wp_bipush dX10_row_8 bp_m6 ?_
    replace k := ok_bind k
    obtain ⟨u, e_29, k⟩ := k
    refine wp_callV1 (N := M_X10_refuse) (ci := 10) mf_X10_refuse mi_X10_refuse me_X10_refuse ml_X10_96 dX10_row_10 (ckO_e e_29) mv_X10_refuse (by exact Nat.le_of_ble_eq_true rfl) (c_X10_refuse (Nat.le_trans (by decide) he) (ok_mono (ok_bind2 k) fun z_31 h_30 k => ?_))
    try dsimp only at k
    refine wp_iret rfl rfl dX10_row_13 ?_
    exact (ok_some k :)
theorem c_X10_row {S : SH} {d : Nat} {K : Option Value → AH → Prop} (hd : 3 ≤ d)  {r0 : Nat} {h : AH} (k : ok (f_X10_row S r0 h) (fun w h' => K (some (.int w)) h')) : CP S M_X10_row d 0 0 [.ref r0] h K := cp_of (by decide) (fun _ _ => trivial) (fun _ => Nat.le_of_ble_eq_true rfl) (s_X10_row hd  k)
def f_X10_cats (S : SH) (r0 : Nat) (h : AH) : Option (Int32 × AH) :=
  (gI S h r0 10 16).bind fun v_1 =>
  some (v_1, h)
set_option maxHeartbeats 8000000 in
set_option maxRecDepth 20000 in
theorem s_X10_cats {S : SH} {d cb sb : Nat} {Q : Option Value → AH → Prop} (hd : 0 ≤ d)  {r0 : Nat} {h : AH} (k : ok (f_X10_cats S r0 h) (fun w h' => Q (some (.int w)) h')) : WP S M_X10_cats d cb sb Q 0 [.ref r0] [] h := by
  unfold f_X10_cats at k
  refine wp_aload_n dX10_cats_0 rfl ?_
  replace k := ok_bind k
  obtain ⟨v_1, e_2, k⟩ := k
  refine wq_getI fl_X10_214 (Or.inl rfl) dX10_cats_1 e_2 ?_
  refine wp_iret rfl rfl dX10_cats_4 ?_
  exact (ok_some k :)
theorem c_X10_cats {S : SH} {d : Nat} {K : Option Value → AH → Prop} (hd : 0 ≤ d)  {r0 : Nat} {h : AH} (k : ok (f_X10_cats S r0 h) (fun w h' => K (some (.int w)) h')) : CP S M_X10_cats d 0 0 [.ref r0] h K := cp_of (by decide) (fun _ _ => trivial) (fun _ => Nat.le_of_ble_eq_true rfl) (s_X10_cats hd  k)
def f_X10_tellOrders_l75b (S : SH) (rc : Nat → Nat → Int32 → AH → Option ((Nat × Nat) × AH)) (r0 : Nat) (r1 : Nat) (x2 : Int32) (h : AH) : Option ((Nat × Nat) × AH) :=
  if (6 : Int32) ≤ x2 then
    some ((r0, r1), h)
  else
    (gR S h r0 10 2).bind fun p_2 =>
    (gI S h p_2 6 4).bind fun v_4 =>
    if v_4 ≤ x2 then
      (sI S h r1 ((12 : Int32) + x2) (-1 : Int32)).bind fun h_7 =>
      lt (x2 + (1 : Int32)) fun y_9 =>
      rc r0 r1 y_9 h_7
    else
      (gR S h r0 10 2).bind fun p_10 =>
      (gR S h p_10 6 0).bind fun p_12 =>
      (gR S h p_12 7 1).bind fun p_14 =>
      (aI S h p_14 x2).bind fun v_16 =>
      (sI S h r1 ((12 : Int32) + x2) v_16).bind fun h_18 =>
      lt (x2 + (1 : Int32)) fun y_20 =>
      rc r0 r1 y_20 h_18
set_option maxHeartbeats 8000000 in
set_option maxRecDepth 20000 in
theorem s_X10_tellOrders_l75b {S : SH} {d cb sb : Nat} {Q : Option Value → AH → Prop} (hd : 1 ≤ d) {K : (Nat × Nat) → AH → Prop} (hex : ∀ (r0 : Nat) (r1 : Nat) (h' : AH), K (r0, r1) h' → WP S M_X10_tellOrders d cb sb Q 120 [.ref r0, .ref r1, JK] [] h') {rc : Nat → Nat → Int32 → AH → Option ((Nat × Nat) × AH)} (hrec : ∀ (r0 : Nat) (r1 : Nat) (x2 : Int32) (h' : AH), ok (rc r0 r1 x2 h') K → WP S M_X10_tellOrders d cb sb Q 75 [.ref r0, .ref r1, .int x2] [] h') {r0 : Nat} {r1 : Nat} {x2 : Int32} {h : AH} (k : ok (f_X10_tellOrders_l75b S rc r0 r1 x2 h) K) : WP S M_X10_tellOrders d cb sb Q 75 [.ref r0, .ref r1, .int x2] [] h := by
  obtain ⟨d, rfl, he⟩ := dp (L := 0) hd
  unfold f_X10_tellOrders_l75b at k
  refine wp_iload_n dX10_tellOrders_75 rfl ?_
  refine wp_bipush dX10_tellOrders_76 bp_6 ?_
  refine wp_icmp_ge 120 dX10_tellOrders_78 (by decide) (fun c_1 => ?_) (fun c_1 => ?_)
  · replace k := ok_t c_1 k
    exact wp_wk (wkE <| wkE <| wkJ <| wkN) (hex _ _ _ (ok_some k))
  · replace k := ok_f c_1 k
    refine wp_aload_n dX10_tellOrders_81 rfl ?_
    refine wp_bipush dX10_tellOrders_82 bp_12 ?_
    refine wp_iload_n dX10_tellOrders_84 rfl ?_
    refine wp_iadd dX10_tellOrders_85 ?_
    refine wp_iload_n dX10_tellOrders_86 rfl ?_
    refine wp_aload_n dX10_tellOrders_87 rfl ?_
    replace k := ok_bind k
    obtain ⟨p_2, e_3, k⟩ := k
    refine wq_getR fl_X10_16 (Or.inl ⟨_, rfl⟩) dX10_tellOrders_88 e_3 ?_
    replace k := ok_bind k
    obtain ⟨v_4, e_5, k⟩ := k
    refine wq_getI fl_X10_148 (Or.inl rfl) dX10_tellOrders_91 e_5 ?_
    refine wp_icmp_ge 112 dX10_tellOrders_94 (by decide) (fun c_6 => ?_) (fun c_6 => ?_)
    · replace k := ok_t c_6 k
      refine wp_iconst dX10_tellOrders_112 ic_m1 ?_
      replace k := ok_bind k
      obtain ⟨h_7, e_8, k⟩ := k
      refine wq_sI dX10_tellOrders_113 e_8 ?_
      replace k := ok_lt k
      refine wp_iinc dX10_tellOrders_114 rfl ic_1 (by decide) (L1 := [_, _, _]) rfl ?_
      refine wp_goto 75 dX10_tellOrders_117 (by decide) ?_
      exact wp_wk (wkE <| wkE <| wkE <| wkN) (hrec _ _ _ _ k)
    · replace k := ok_f c_6 k
      refine wp_aload_n dX10_tellOrders_97 rfl ?_
      replace k := ok_bind k
      obtain ⟨p_10, e_11, k⟩ := k
      refine wq_getR fl_X10_16 (Or.inl ⟨_, rfl⟩) dX10_tellOrders_98 e_11 ?_
      replace k := ok_bind k
      obtain ⟨p_12, e_13, k⟩ := k
      refine wq_getR fl_X10_120 (Or.inl ⟨_, rfl⟩) dX10_tellOrders_101 e_13 ?_
      replace k := ok_bind k
      obtain ⟨p_14, e_15, k⟩ := k
      refine wq_getR fl_X10_160 (Or.inr ⟨_, rfl⟩) dX10_tellOrders_104 e_15 ?_
      refine wp_iload_n dX10_tellOrders_107 rfl ?_
      replace k := ok_bind k
      obtain ⟨v_16, e_17, k⟩ := k
      refine wq_aI dX10_tellOrders_108 e_17 ?_
      refine wp_goto 113 dX10_tellOrders_109 (by decide) ?_
      replace k := ok_bind k
      obtain ⟨h_18, e_19, k⟩ := k
      refine wq_sI dX10_tellOrders_113 e_19 ?_
      replace k := ok_lt k
      refine wp_iinc dX10_tellOrders_114 rfl ic_1 (by decide) (L1 := [_, _, _]) rfl ?_
      refine wp_goto 75 dX10_tellOrders_117 (by decide) ?_
      exact wp_wk (wkE <| wkE <| wkE <| wkN) (hrec _ _ _ _ k)
def f_X10_tellOrders_l75 (S : SH) : Nat → Nat → Nat → Int32 → AH → Option ((Nat × Nat) × AH)
  | 0, _, _, _, _ => none
  | n + 1, r0, r1, x2, h => f_X10_tellOrders_l75b S (f_X10_tellOrders_l75 S n) r0 r1 x2 h
theorem s_X10_tellOrders_l75 {S : SH} {d cb sb : Nat} {Q : Option Value → AH → Prop} (hd : 1 ≤ d) {K : (Nat × Nat) → AH → Prop} (hex : ∀ (r0 : Nat) (r1 : Nat) (h' : AH), K (r0, r1) h' → WP S M_X10_tellOrders d cb sb Q 120 [.ref r0, .ref r1, JK] [] h') : ∀ (n : Nat) (r0 : Nat) (r1 : Nat) (x2 : Int32) (h : AH), ok (f_X10_tellOrders_l75 S n r0 r1 x2 h) K → WP S M_X10_tellOrders d cb sb Q 75 [.ref r0, .ref r1, .int x2] [] h := by
  intro n
  induction n with
  | zero => intro r0 r1 x2 h k; exact ok_none k
  | succ n ih => intro r0 r1 x2 h k; exact s_X10_tellOrders_l75b hd hex (fun r0 r1 x2 h k => ih r0 r1 x2 h k) k
def f_X10_tellOrders_l122b (S : SH) (rc : Nat → Nat → Int32 → AH → Option (Unit × AH)) (r0 : Nat) (r1 : Nat) (x2 : Int32) (h : AH) : Option (Unit × AH) :=
  if (7 : Int32) ≤ x2 then
    some ((), h)
  else
    (gR S h r0 10 2).bind fun p_2 =>
    (gI S h p_2 6 1).bind fun v_4 =>
    if v_4 ≤ x2 then
      (sI S h r1 ((18 : Int32) + x2) (-1 : Int32)).bind fun h_7 =>
      lt (x2 + (1 : Int32)) fun y_9 =>
      rc r0 r1 y_9 h_7
    else
      (gR S h r0 10 2).bind fun p_10 =>
      (gR S h p_10 6 0).bind fun p_12 =>
      (gR S h p_12 7 0).bind fun p_14 =>
      (aI S h p_14 x2).bind fun v_16 =>
      (sI S h r1 ((18 : Int32) + x2) v_16).bind fun h_18 =>
      lt (x2 + (1 : Int32)) fun y_20 =>
      rc r0 r1 y_20 h_18
set_option maxHeartbeats 8000000 in
set_option maxRecDepth 20000 in
theorem s_X10_tellOrders_l122b {S : SH} {d cb sb : Nat} {Q : Option Value → AH → Prop} (hd : 1 ≤ d) {K : Unit → AH → Prop} (hex : ∀  (h' : AH), K () h' → WP S M_X10_tellOrders d cb sb Q 167 [JK, JK, JK] [] h') {rc : Nat → Nat → Int32 → AH → Option (Unit × AH)} (hrec : ∀ (r0 : Nat) (r1 : Nat) (x2 : Int32) (h' : AH), ok (rc r0 r1 x2 h') K → WP S M_X10_tellOrders d cb sb Q 122 [.ref r0, .ref r1, .int x2] [] h') {r0 : Nat} {r1 : Nat} {x2 : Int32} {h : AH} (k : ok (f_X10_tellOrders_l122b S rc r0 r1 x2 h) K) : WP S M_X10_tellOrders d cb sb Q 122 [.ref r0, .ref r1, .int x2] [] h := by
  obtain ⟨d, rfl, he⟩ := dp (L := 0) hd
  unfold f_X10_tellOrders_l122b at k
  refine wp_iload_n dX10_tellOrders_122 rfl ?_
  refine wp_bipush dX10_tellOrders_123 bp_7 ?_
  refine wp_icmp_ge 167 dX10_tellOrders_125 (by decide) (fun c_1 => ?_) (fun c_1 => ?_)
  · replace k := ok_t c_1 k
    exact wp_wk (wkJ <| wkJ <| wkJ <| wkN) (hex  _ (ok_some k))
  · replace k := ok_f c_1 k
    refine wp_aload_n dX10_tellOrders_128 rfl ?_
    refine wp_bipush dX10_tellOrders_129 bp_18 ?_
    refine wp_iload_n dX10_tellOrders_131 rfl ?_
    refine wp_iadd dX10_tellOrders_132 ?_
    refine wp_iload_n dX10_tellOrders_133 rfl ?_
    refine wp_aload_n dX10_tellOrders_134 rfl ?_
    replace k := ok_bind k
    obtain ⟨p_2, e_3, k⟩ := k
    refine wq_getR fl_X10_16 (Or.inl ⟨_, rfl⟩) dX10_tellOrders_135 e_3 ?_
    replace k := ok_bind k
    obtain ⟨v_4, e_5, k⟩ := k
    refine wq_getI fl_X10_100 (Or.inl rfl) dX10_tellOrders_138 e_5 ?_
    refine wp_icmp_ge 159 dX10_tellOrders_141 (by decide) (fun c_6 => ?_) (fun c_6 => ?_)
    · replace k := ok_t c_6 k
      refine wp_iconst dX10_tellOrders_159 ic_m1 ?_
      replace k := ok_bind k
      obtain ⟨h_7, e_8, k⟩ := k
      refine wq_sI dX10_tellOrders_160 e_8 ?_
      replace k := ok_lt k
      refine wp_iinc dX10_tellOrders_161 rfl ic_1 (by decide) (L1 := [_, _, _]) rfl ?_
      refine wp_goto 122 dX10_tellOrders_164 (by decide) ?_
      exact wp_wk (wkE <| wkE <| wkE <| wkN) (hrec _ _ _ _ k)
    · replace k := ok_f c_6 k
      refine wp_aload_n dX10_tellOrders_144 rfl ?_
      replace k := ok_bind k
      obtain ⟨p_10, e_11, k⟩ := k
      refine wq_getR fl_X10_16 (Or.inl ⟨_, rfl⟩) dX10_tellOrders_145 e_11 ?_
      replace k := ok_bind k
      obtain ⟨p_12, e_13, k⟩ := k
      refine wq_getR fl_X10_120 (Or.inl ⟨_, rfl⟩) dX10_tellOrders_148 e_13 ?_
      replace k := ok_bind k
      obtain ⟨p_14, e_15, k⟩ := k
      refine wq_getR fl_X10_123 (Or.inr ⟨_, rfl⟩) dX10_tellOrders_151 e_15 ?_
      refine wp_iload_n dX10_tellOrders_154 rfl ?_
      replace k := ok_bind k
      obtain ⟨v_16, e_17, k⟩ := k
      refine wq_aI dX10_tellOrders_155 e_17 ?_
      refine wp_goto 160 dX10_tellOrders_156 (by decide) ?_
      replace k := ok_bind k
      obtain ⟨h_18, e_19, k⟩ := k
      refine wq_sI dX10_tellOrders_160 e_19 ?_
      replace k := ok_lt k
      refine wp_iinc dX10_tellOrders_161 rfl ic_1 (by decide) (L1 := [_, _, _]) rfl ?_
      refine wp_goto 122 dX10_tellOrders_164 (by decide) ?_
      exact wp_wk (wkE <| wkE <| wkE <| wkN) (hrec _ _ _ _ k)
def f_X10_tellOrders_l122 (S : SH) : Nat → Nat → Nat → Int32 → AH → Option (Unit × AH)
  | 0, _, _, _, _ => none
  | n + 1, r0, r1, x2, h => f_X10_tellOrders_l122b S (f_X10_tellOrders_l122 S n) r0 r1 x2 h
theorem s_X10_tellOrders_l122 {S : SH} {d cb sb : Nat} {Q : Option Value → AH → Prop} (hd : 1 ≤ d) {K : Unit → AH → Prop} (hex : ∀  (h' : AH), K () h' → WP S M_X10_tellOrders d cb sb Q 167 [JK, JK, JK] [] h') : ∀ (n : Nat) (r0 : Nat) (r1 : Nat) (x2 : Int32) (h : AH), ok (f_X10_tellOrders_l122 S n r0 r1 x2 h) K → WP S M_X10_tellOrders d cb sb Q 122 [.ref r0, .ref r1, .int x2] [] h := by
  intro n
  induction n with
  | zero => intro r0 r1 x2 h k; exact ok_none k
  | succ n ih => intro r0 r1 x2 h k; exact s_X10_tellOrders_l122b hd hex (fun r0 r1 x2 h k => ih r0 r1 x2 h k) k
def f_X10_tellOrders (S : SH) (r0 : Nat) (h : AH) : Option (Unit × AH) :=
  (gR S h r0 10 9).bind fun p_1 =>
  (gR S h p_1 4 0).bind fun p_3 =>
  (gR S h r0 10 2).bind fun p_5 =>
  (gR S h p_5 6 0).bind fun p_7 =>
  (gI S h p_7 7 3).bind fun v_9 =>
  (sI S h p_3 (7 : Int32) v_9).bind fun h_11 =>
  (gR S h_11 r0 10 2).bind fun p_13 =>
  (gR S h_11 p_13 6 0).bind fun p_15 =>
  (gI S h_11 p_15 7 2).bind fun v_17 =>
  (sI S h_11 p_3 (6 : Int32) v_17).bind fun h_19 =>
  (gI S h_19 r0 10 18).bind fun v_21 =>
  (sI S h_19 p_3 (9 : Int32) v_21).bind fun h_23 =>
  (gI S h_23 r0 10 19).bind fun v_25 =>
  (sI S h_23 p_3 (10 : Int32) v_25).bind fun h_27 =>
  (gR S h_27 r0 10 10).bind fun p_29 =>
  (gR S h_27 r0 10 2).bind fun p_31 =>
  (gR S h_27 p_31 6 0).bind fun p_33 =>
  (ckO S h_27 p_29 1).bind fun _ =>
  (f_X1_present S p_29 p_33 h_27).bind fun z => match z with
  | (z_37, h_36) =>
  (f_J6_bitCount_0f7a4 S z_37 h_36).bind fun z => match z with
  | (z_39, h_38) =>
  (sI S h_38 p_3 (11 : Int32) z_39).bind fun h_40 =>
  (f_X10_tellOrders_l75 S FU r0 p_3 (0 : Int32) h_40).bind fun z => match z with
  | ((r0_43, r1_44), h_42) =>
  (f_X10_tellOrders_l122 S FU r0_43 r1_44 (0 : Int32) h_42).bind fun z => match z with
  | ((), h_45) =>
  some ((), h_45)
set_option maxHeartbeats 8000000 in
set_option maxRecDepth 20000 in
theorem s_X10_tellOrders {S : SH} {d cb sb : Nat} {Q : Option Value → AH → Prop} (hd : 1 ≤ d)  {r0 : Nat} {h : AH} (k : ok (f_X10_tellOrders S r0 h) (fun _ h' => Q none h')) : WP S M_X10_tellOrders d cb sb Q 0 [.ref r0, JK, JK] [] h := by
  obtain ⟨d, rfl, he⟩ := dp (L := 0) hd
  unfold f_X10_tellOrders at k
  refine wp_aload_n dX10_tellOrders_0 rfl ?_
  replace k := ok_bind k
  obtain ⟨p_1, e_2, k⟩ := k
  refine wq_getR fl_X10_54 (Or.inl ⟨_, rfl⟩) dX10_tellOrders_1 e_2 ?_
  replace k := ok_bind k
  obtain ⟨p_3, e_4, k⟩ := k
  refine wq_getR fl_X10_274 (Or.inr ⟨_, rfl⟩) dX10_tellOrders_4 e_4 ?_
  refine wp_astore_n dX10_tellOrders_7 (by decide) (L1 := [_, _, _]) rfl ?_
  refine wp_aload_n dX10_tellOrders_8 rfl ?_
  refine wp_bipush dX10_tellOrders_9 bp_7 ?_
  refine wp_aload_n dX10_tellOrders_11 rfl ?_
  replace k := ok_bind k
  obtain ⟨p_5, e_6, k⟩ := k
  refine wq_getR fl_X10_16 (Or.inl ⟨_, rfl⟩) dX10_tellOrders_12 e_6 ?_
  replace k := ok_bind k
  obtain ⟨p_7, e_8, k⟩ := k
  refine wq_getR fl_X10_120 (Or.inl ⟨_, rfl⟩) dX10_tellOrders_15 e_8 ?_
  replace k := ok_bind k
  obtain ⟨v_9, e_10, k⟩ := k
  refine wq_getI fl_X10_189 (Or.inl rfl) dX10_tellOrders_18 e_10 ?_
  replace k := ok_bind k
  obtain ⟨h_11, e_12, k⟩ := k
  refine wq_sI dX10_tellOrders_21 e_12 ?_
  refine wp_aload_n dX10_tellOrders_22 rfl ?_
  refine wp_bipush dX10_tellOrders_23 bp_6 ?_
  refine wp_aload_n dX10_tellOrders_25 rfl ?_
  replace k := ok_bind k
  obtain ⟨p_13, e_14, k⟩ := k
  refine wq_getR fl_X10_16 (Or.inl ⟨_, rfl⟩) dX10_tellOrders_26 e_14 ?_
  replace k := ok_bind k
  obtain ⟨p_15, e_16, k⟩ := k
  refine wq_getR fl_X10_120 (Or.inl ⟨_, rfl⟩) dX10_tellOrders_29 e_16 ?_
  replace k := ok_bind k
  obtain ⟨v_17, e_18, k⟩ := k
  refine wq_getI fl_X10_277 (Or.inl rfl) dX10_tellOrders_32 e_18 ?_
  replace k := ok_bind k
  obtain ⟨h_19, e_20, k⟩ := k
  refine wq_sI dX10_tellOrders_35 e_20 ?_
  refine wp_aload_n dX10_tellOrders_36 rfl ?_
  refine wp_bipush dX10_tellOrders_37 bp_9 ?_
  refine wp_aload_n dX10_tellOrders_39 rfl ?_
  replace k := ok_bind k
  obtain ⟨v_21, e_22, k⟩ := k
  refine wq_getI fl_X10_244 (Or.inl rfl) dX10_tellOrders_40 e_22 ?_
  replace k := ok_bind k
  obtain ⟨h_23, e_24, k⟩ := k
  refine wq_sI dX10_tellOrders_43 e_24 ?_
  refine wp_aload_n dX10_tellOrders_44 rfl ?_
  refine wp_bipush dX10_tellOrders_45 bp_10 ?_
  refine wp_aload_n dX10_tellOrders_47 rfl ?_
  replace k := ok_bind k
  obtain ⟨v_25, e_26, k⟩ := k
  refine wq_getI fl_X10_93 (Or.inl rfl) dX10_tellOrders_48 e_26 ?_
  replace k := ok_bind k
  obtain ⟨h_27, e_28, k⟩ := k
  refine wq_sI dX10_tellOrders_51 e_28 ?_
  refine wp_aload_n dX10_tellOrders_52 rfl ?_
  refine wp_bipush dX10_tellOrders_53 bp_11 ?_
  refine wp_aload_n dX10_tellOrders_55 rfl ?_
  replace k := ok_bind k
  obtain ⟨p_29, e_30, k⟩ := k
  refine wq_getR fl_X10_63 (Or.inl ⟨_, rfl⟩) dX10_tellOrders_56 e_30 ?_
  refine wp_aload_n dX10_tellOrders_59 rfl ?_
  replace k := ok_bind k
  obtain ⟨p_31, e_32, k⟩ := k
  refine wq_getR fl_X10_16 (Or.inl ⟨_, rfl⟩) dX10_tellOrders_60 e_32 ?_
  replace k := ok_bind k
  obtain ⟨p_33, e_34, k⟩ := k
  refine wq_getR fl_X10_120 (Or.inl ⟨_, rfl⟩) dX10_tellOrders_63 e_34 ?_
  replace k := ok_bind k
  obtain ⟨u, e_35, k⟩ := k
  refine wp_callV1 (N := M_X1_present) (ci := 1) mf_X1_present mi_X1_present me_X1_present ml_X10_280 dX10_tellOrders_66 (ckO_e e_35) mv_X1_present (by exact Nat.le_of_ble_eq_true rfl) (c_X1_present (Nat.le_trans (by decide) he) (ok_mono (ok_bind2 k) fun z_37 h_36 k => ?_))
  try dsimp only at k
  refine wp_callS1 (N := M_J6_bitCount_0f7a4) mf_J6_bitCount_0f7a4 ms_J6_bitCount_0f7a4 ml_X10_284 dX10_tellOrders_69 (by exact Nat.le_of_ble_eq_true rfl) (c_J6_bitCount_0f7a4 (Nat.le_trans (by decide) he) (ok_mono (ok_bind2 k) fun z_39 h_38 k => ?_))
  try dsimp only at k
  replace k := ok_bind k
  obtain ⟨h_40, e_41, k⟩ := k
  refine wq_sI dX10_tellOrders_72 e_41 ?_
  refine wp_iconst dX10_tellOrders_73 ic_0 ?_
  refine wp_istore_n dX10_tellOrders_74 (by decide) (L1 := [_, _, _]) rfl ?_
  refine wp_wk (wkE <| wkE <| wkE <| wkN) ?_
  refine s_X10_tellOrders_l75 (Nat.succ_le_succ he) (fun r0_43 r1_44 h_42 k => ?_) FU _ _ _ _ (ok_bind2 k)
  try dsimp only at k
  refine wp_iconst dX10_tellOrders_120 ic_0 ?_
  refine wp_istore_n dX10_tellOrders_121 (by decide) (L1 := [_, _, _]) rfl ?_
  refine wp_wk (wkE <| wkE <| wkE <| wkN) ?_
  refine s_X10_tellOrders_l122 (Nat.succ_le_succ he) (fun  h_45 k => ?_) FU _ _ _ _ (ok_bind2 k)
  try dsimp only at k
  refine wp_vret rfl dX10_tellOrders_167 ?_
  exact (ok_some k :)
theorem c_X10_tellOrders {S : SH} {d : Nat} {K : Option Value → AH → Prop} (hd : 1 ≤ d)  {r0 : Nat} {h : AH} (k : ok (f_X10_tellOrders S r0 h) (fun _ h' => K none h')) : CP S M_X10_tellOrders d 0 0 [.ref r0] h K := cp_of (by decide) (fun _ _ => trivial) (fun _ => Nat.le_of_ble_eq_true rfl) (s_X10_tellOrders hd  k)
def f_X10_act (S : SH) (r0 : Nat) (x1 : Int32) (x2 : Int32) (x3 : Int32) (h : AH) : Option (Int32 × AH) :=
  (gR S h r0 10 4).bind fun p_1 =>
  (gR S h r0 10 2).bind fun p_3 =>
  (gR S h p_3 6 0).bind fun p_5 =>
  (ckO S h p_1 5).bind fun _ =>
  (f_X5_note S p_1 p_5 h).bind fun z => match z with
  | (_, h_8) =>
  if x1 = (266 : Int32) then
    (gR S h_8 r0 10 10).bind fun p_11 =>
    (gR S h_8 r0 10 2).bind fun p_13 =>
    (gR S h_8 p_13 6 0).bind fun p_15 =>
    (ckO S h_8 p_11 1).bind fun _ =>
    (f_X1_moving S p_11 p_15 x2 x3 h_8).bind fun z => match z with
    | (z_19, h_18) =>
    if z_19 < (0 : Int32) then
      some (z_19, h_18)
    else
      (gR S h_18 r0 10 4).bind fun p_21 =>
      (ckO S h_18 p_21 5).bind fun _ =>
      (f_X5_keep S p_21 ((x1 - (266 : Int32))) h_18).bind fun z => match z with
      | (_, h_24) =>
      some (z_19, h_24)
  else
  if x1 = (267 : Int32) then
    (gR S h_8 r0 10 10).bind fun p_27 =>
    (gR S h_8 r0 10 2).bind fun p_29 =>
    (gR S h_8 p_29 6 0).bind fun p_31 =>
    (ckO S h_8 p_27 1).bind fun _ =>
    (f_X1_dividing S p_27 p_31 x2 h_8).bind fun z => match z with
    | (z_35, h_34) =>
    if z_35 < (0 : Int32) then
      some (z_35, h_34)
    else
      (gR S h_34 r0 10 4).bind fun p_37 =>
      (ckO S h_34 p_37 5).bind fun _ =>
      (f_X5_keep S p_37 ((x1 - (266 : Int32))) h_34).bind fun z => match z with
      | (_, h_40) =>
      some (z_35, h_40)
  else
  if x1 = (268 : Int32) then
    (gR S h_8 r0 10 10).bind fun p_43 =>
    (gR S h_8 r0 10 2).bind fun p_45 =>
    (gR S h_8 p_45 6 0).bind fun p_47 =>
    (ckO S h_8 p_43 1).bind fun _ =>
    (f_X1_flying S p_43 p_47 x2 x3 h_8).bind fun z => match z with
    | (z_51, h_50) =>
    if z_51 < (0 : Int32) then
      some (z_51, h_50)
    else
      (gR S h_50 r0 10 4).bind fun p_53 =>
      (ckO S h_50 p_53 5).bind fun _ =>
      (f_X5_keep S p_53 ((x1 - (266 : Int32))) h_50).bind fun z => match z with
      | (_, h_56) =>
      some (z_51, h_56)
  else
  (gR S h_8 r0 10 10).bind fun p_58 =>
  (gR S h_8 r0 10 2).bind fun p_60 =>
  (gR S h_8 p_60 6 0).bind fun p_62 =>
  (ckO S h_8 p_58 1).bind fun _ =>
  (f_X1_passing S p_58 p_62 h_8).bind fun z => match z with
  | (z_66, h_65) =>
  if z_66 < (0 : Int32) then
    some (z_66, h_65)
  else
    (gR S h_65 r0 10 4).bind fun p_68 =>
    (ckO S h_65 p_68 5).bind fun _ =>
    (f_X5_keep S p_68 ((x1 - (266 : Int32))) h_65).bind fun z => match z with
    | (_, h_71) =>
    some (z_66, h_71)
set_option maxHeartbeats 8000000 in
set_option maxRecDepth 20000 in
theorem s_X10_act {S : SH} {d cb sb : Nat} {Q : Option Value → AH → Prop} (hd : 5 ≤ d)  {r0 : Nat} {x1 : Int32} {x2 : Int32} {x3 : Int32} {h : AH} (k : ok (f_X10_act S r0 x1 x2 x3 h) (fun w h' => Q (some (.int w)) h')) : WP S M_X10_act d cb sb Q 0 [.ref r0, .int x1, .int x2, .int x3, JK] [] h := by
  obtain ⟨d, rfl, he⟩ := dp (L := 4) hd
  unfold f_X10_act at k
  refine wp_aload_n dX10_act_0 rfl ?_
  replace k := ok_bind k
  obtain ⟨p_1, e_2, k⟩ := k
  refine wq_getR fl_X10_27 (Or.inl ⟨_, rfl⟩) dX10_act_1 e_2 ?_
  refine wp_aload_n dX10_act_4 rfl ?_
  replace k := ok_bind k
  obtain ⟨p_3, e_4, k⟩ := k
  refine wq_getR fl_X10_16 (Or.inl ⟨_, rfl⟩) dX10_act_5 e_4 ?_
  replace k := ok_bind k
  obtain ⟨p_5, e_6, k⟩ := k
  refine wq_getR fl_X10_120 (Or.inl ⟨_, rfl⟩) dX10_act_8 e_6 ?_
  replace k := ok_bind k
  obtain ⟨u, e_7, k⟩ := k
  refine wp_callV1 (N := M_X5_note) (ci := 5) mf_X5_note mi_X5_note me_X5_note ml_X10_295 dX10_act_11 (ckO_e e_7) mv_X5_note (by exact Nat.le_of_ble_eq_true rfl) (c_X5_note (Nat.le_trans (by decide) he) (ok_mono (ok_bind2 k) fun _ h_8 k => ?_))
  try dsimp only at k
  refine wp_iload_n dX10_act_14 rfl ?_
  refine wp_case (266 : Int32) (fun c_10 => ?_) (fun c_10 => ?_)
  · refine wp_tabIn 40 dX10_act_15 (by rw [c_10]; decide) (by rw [c_10]; decide) (by rw [c_10]; rfl) (by decide) ?_
    replace k := ok_t c_10 k
    refine wp_aload_n dX10_act_40 rfl ?_
    replace k := ok_bind k
    obtain ⟨p_11, e_12, k⟩ := k
    refine wq_getR fl_X10_63 (Or.inl ⟨_, rfl⟩) dX10_act_41 e_12 ?_
    refine wp_aload_n dX10_act_44 rfl ?_
    replace k := ok_bind k
    obtain ⟨p_13, e_14, k⟩ := k
    refine wq_getR fl_X10_16 (Or.inl ⟨_, rfl⟩) dX10_act_45 e_14 ?_
    replace k := ok_bind k
    obtain ⟨p_15, e_16, k⟩ := k
    refine wq_getR fl_X10_120 (Or.inl ⟨_, rfl⟩) dX10_act_48 e_16 ?_
    refine wp_iload_n dX10_act_51 rfl ?_
    refine wp_iload_n dX10_act_52 rfl ?_
    replace k := ok_bind k
    obtain ⟨u, e_17, k⟩ := k
    refine wp_callV3 (N := M_X1_moving) (ci := 1) mf_X1_moving mi_X1_moving me_X1_moving ml_X10_298 dX10_act_53 (ckO_e e_17) mv_X1_moving (by exact Nat.le_of_ble_eq_true rfl) (c_X1_moving (Nat.le_trans (by decide) he) (ok_mono (ok_bind2 k) fun z_19 h_18 k => ?_))
    try dsimp only at k
    refine wp_istore dX10_act_56 (by decide) (L1 := [_, _, _, _, _]) rfl ?_
    refine wp_goto 118 dX10_act_58 (by decide) ?_
    refine wp_iload dX10_act_118 rfl ?_
    refine wp_if_lt 135 dX10_act_120 (by decide) (fun c_20 => ?_) (fun c_20 => ?_)
    · replace k := ok_t c_20 k
      refine wp_iload dX10_act_135 rfl ?_
      refine wp_iret rfl rfl dX10_act_137 ?_
      exact (ok_some k :)
    · replace k := ok_f c_20 k
      refine wp_aload_n dX10_act_123 rfl ?_
      replace k := ok_bind k
      obtain ⟨p_21, e_22, k⟩ := k
      refine wq_getR fl_X10_27 (Or.inl ⟨_, rfl⟩) dX10_act_124 e_22 ?_
      refine wp_iload_n dX10_act_127 rfl ?_
      refine wp_sipush dX10_act_128 sp_266 ?_
      refine wp_isub dX10_act_131 ?_
      replace k := ok_bind k
      obtain ⟨u, e_23, k⟩ := k
      refine wp_callV1 (N := M_X5_keep) (ci := 5) mf_X5_keep mi_X5_keep me_X5_keep ml_X10_307 dX10_act_132 (ckO_e e_23) mv_X5_keep (by exact Nat.le_of_ble_eq_true rfl) (c_X5_keep (Nat.le_trans (by decide) he) (ok_mono (ok_bind2 k) fun _ h_24 k => ?_))
      try dsimp only at k
      refine wp_iload dX10_act_135 rfl ?_
      refine wp_iret rfl rfl dX10_act_137 ?_
      exact (ok_some k :)
  replace k := ok_f c_10 k
  refine wp_case (267 : Int32) (fun c_26 => ?_) (fun c_26 => ?_)
  · refine wp_tabIn 61 dX10_act_15 (by rw [c_26]; decide) (by rw [c_26]; decide) (by rw [c_26]; rfl) (by decide) ?_
    replace k := ok_t c_26 k
    refine wp_aload_n dX10_act_61 rfl ?_
    replace k := ok_bind k
    obtain ⟨p_27, e_28, k⟩ := k
    refine wq_getR fl_X10_63 (Or.inl ⟨_, rfl⟩) dX10_act_62 e_28 ?_
    refine wp_aload_n dX10_act_65 rfl ?_
    replace k := ok_bind k
    obtain ⟨p_29, e_30, k⟩ := k
    refine wq_getR fl_X10_16 (Or.inl ⟨_, rfl⟩) dX10_act_66 e_30 ?_
    replace k := ok_bind k
    obtain ⟨p_31, e_32, k⟩ := k
    refine wq_getR fl_X10_120 (Or.inl ⟨_, rfl⟩) dX10_act_69 e_32 ?_
    refine wp_iload_n dX10_act_72 rfl ?_
    replace k := ok_bind k
    obtain ⟨u, e_33, k⟩ := k
    refine wp_callV2 (N := M_X1_dividing) (ci := 1) mf_X1_dividing mi_X1_dividing me_X1_dividing ml_X10_180 dX10_act_73 (ckO_e e_33) mv_X1_dividing (by exact Nat.le_of_ble_eq_true rfl) (c_X1_dividing (Nat.le_trans (by decide) he) (ok_mono (ok_bind2 k) fun z_35 h_34 k => ?_))
    try dsimp only at k
    refine wp_istore dX10_act_76 (by decide) (L1 := [_, _, _, _, _]) rfl ?_
    refine wp_goto 118 dX10_act_78 (by decide) ?_
    refine wp_iload dX10_act_118 rfl ?_
    refine wp_if_lt 135 dX10_act_120 (by decide) (fun c_36 => ?_) (fun c_36 => ?_)
    · replace k := ok_t c_36 k
      refine wp_iload dX10_act_135 rfl ?_
      refine wp_iret rfl rfl dX10_act_137 ?_
      exact (ok_some k :)
    · replace k := ok_f c_36 k
      refine wp_aload_n dX10_act_123 rfl ?_
      replace k := ok_bind k
      obtain ⟨p_37, e_38, k⟩ := k
      refine wq_getR fl_X10_27 (Or.inl ⟨_, rfl⟩) dX10_act_124 e_38 ?_
      refine wp_iload_n dX10_act_127 rfl ?_
      refine wp_sipush dX10_act_128 sp_266 ?_
      refine wp_isub dX10_act_131 ?_
      replace k := ok_bind k
      obtain ⟨u, e_39, k⟩ := k
      refine wp_callV1 (N := M_X5_keep) (ci := 5) mf_X5_keep mi_X5_keep me_X5_keep ml_X10_307 dX10_act_132 (ckO_e e_39) mv_X5_keep (by exact Nat.le_of_ble_eq_true rfl) (c_X5_keep (Nat.le_trans (by decide) he) (ok_mono (ok_bind2 k) fun _ h_40 k => ?_))
      try dsimp only at k
      refine wp_iload dX10_act_135 rfl ?_
      refine wp_iret rfl rfl dX10_act_137 ?_
      exact (ok_some k :)
  replace k := ok_f c_26 k
  refine wp_case (268 : Int32) (fun c_42 => ?_) (fun c_42 => ?_)
  · refine wp_tabIn 81 dX10_act_15 (by rw [c_42]; decide) (by rw [c_42]; decide) (by rw [c_42]; rfl) (by decide) ?_
    replace k := ok_t c_42 k
    refine wp_aload_n dX10_act_81 rfl ?_
    replace k := ok_bind k
    obtain ⟨p_43, e_44, k⟩ := k
    refine wq_getR fl_X10_63 (Or.inl ⟨_, rfl⟩) dX10_act_82 e_44 ?_
    refine wp_aload_n dX10_act_85 rfl ?_
    replace k := ok_bind k
    obtain ⟨p_45, e_46, k⟩ := k
    refine wq_getR fl_X10_16 (Or.inl ⟨_, rfl⟩) dX10_act_86 e_46 ?_
    replace k := ok_bind k
    obtain ⟨p_47, e_48, k⟩ := k
    refine wq_getR fl_X10_120 (Or.inl ⟨_, rfl⟩) dX10_act_89 e_48 ?_
    refine wp_iload_n dX10_act_92 rfl ?_
    refine wp_iload_n dX10_act_93 rfl ?_
    replace k := ok_bind k
    obtain ⟨u, e_49, k⟩ := k
    refine wp_callV3 (N := M_X1_flying) (ci := 1) mf_X1_flying mi_X1_flying me_X1_flying ml_X10_301 dX10_act_94 (ckO_e e_49) mv_X1_flying (by exact Nat.le_of_ble_eq_true rfl) (c_X1_flying (Nat.le_trans (by decide) he) (ok_mono (ok_bind2 k) fun z_51 h_50 k => ?_))
    try dsimp only at k
    refine wp_istore dX10_act_97 (by decide) (L1 := [_, _, _, _, _]) rfl ?_
    refine wp_goto 118 dX10_act_99 (by decide) ?_
    refine wp_iload dX10_act_118 rfl ?_
    refine wp_if_lt 135 dX10_act_120 (by decide) (fun c_52 => ?_) (fun c_52 => ?_)
    · replace k := ok_t c_52 k
      refine wp_iload dX10_act_135 rfl ?_
      refine wp_iret rfl rfl dX10_act_137 ?_
      exact (ok_some k :)
    · replace k := ok_f c_52 k
      refine wp_aload_n dX10_act_123 rfl ?_
      replace k := ok_bind k
      obtain ⟨p_53, e_54, k⟩ := k
      refine wq_getR fl_X10_27 (Or.inl ⟨_, rfl⟩) dX10_act_124 e_54 ?_
      refine wp_iload_n dX10_act_127 rfl ?_
      refine wp_sipush dX10_act_128 sp_266 ?_
      refine wp_isub dX10_act_131 ?_
      replace k := ok_bind k
      obtain ⟨u, e_55, k⟩ := k
      refine wp_callV1 (N := M_X5_keep) (ci := 5) mf_X5_keep mi_X5_keep me_X5_keep ml_X10_307 dX10_act_132 (ckO_e e_55) mv_X5_keep (by exact Nat.le_of_ble_eq_true rfl) (c_X5_keep (Nat.le_trans (by decide) he) (ok_mono (ok_bind2 k) fun _ h_56 k => ?_))
      try dsimp only at k
      refine wp_iload dX10_act_135 rfl ?_
      refine wp_iret rfl rfl dX10_act_137 ?_
      exact (ok_some k :)
  replace k := ok_f c_42 k
  refine wp_tabOut 102 dX10_act_15 (tab_out (n := 3) (fun i hi => ?_)) (by decide) ?_
  · match i, hi with
    | 0, _ => exact ti_ne c_10 (by decide)
    | 1, _ => exact ti_ne c_26 (by decide)
    | 2, _ => exact ti_ne c_42 (by decide)
    | i + 3, hi => exact absurd hi (by omega)
  refine wp_aload_n dX10_act_102 rfl ?_
  replace k := ok_bind k
  obtain ⟨p_58, e_59, k⟩ := k
  refine wq_getR fl_X10_63 (Or.inl ⟨_, rfl⟩) dX10_act_103 e_59 ?_
  refine wp_aload_n dX10_act_106 rfl ?_
  replace k := ok_bind k
  obtain ⟨p_60, e_61, k⟩ := k
  refine wq_getR fl_X10_16 (Or.inl ⟨_, rfl⟩) dX10_act_107 e_61 ?_
  replace k := ok_bind k
  obtain ⟨p_62, e_63, k⟩ := k
  refine wq_getR fl_X10_120 (Or.inl ⟨_, rfl⟩) dX10_act_110 e_63 ?_
  replace k := ok_bind k
  obtain ⟨u, e_64, k⟩ := k
  refine wp_callV1 (N := M_X1_passing) (ci := 1) mf_X1_passing mi_X1_passing me_X1_passing ml_X10_304 dX10_act_113 (ckO_e e_64) mv_X1_passing (by exact Nat.le_of_ble_eq_true rfl) (c_X1_passing (Nat.le_trans (by decide) he) (ok_mono (ok_bind2 k) fun z_66 h_65 k => ?_))
  try dsimp only at k
  refine wp_istore dX10_act_116 (by decide) (L1 := [_, _, _, _, _]) rfl ?_
  refine wp_iload dX10_act_118 rfl ?_
  refine wp_if_lt 135 dX10_act_120 (by decide) (fun c_67 => ?_) (fun c_67 => ?_)
  · replace k := ok_t c_67 k
    refine wp_iload dX10_act_135 rfl ?_
    refine wp_iret rfl rfl dX10_act_137 ?_
    exact (ok_some k :)
  · replace k := ok_f c_67 k
    refine wp_aload_n dX10_act_123 rfl ?_
    replace k := ok_bind k
    obtain ⟨p_68, e_69, k⟩ := k
    refine wq_getR fl_X10_27 (Or.inl ⟨_, rfl⟩) dX10_act_124 e_69 ?_
    refine wp_iload_n dX10_act_127 rfl ?_
    refine wp_sipush dX10_act_128 sp_266 ?_
    refine wp_isub dX10_act_131 ?_
    replace k := ok_bind k
    obtain ⟨u, e_70, k⟩ := k
    refine wp_callV1 (N := M_X5_keep) (ci := 5) mf_X5_keep mi_X5_keep me_X5_keep ml_X10_307 dX10_act_132 (ckO_e e_70) mv_X5_keep (by exact Nat.le_of_ble_eq_true rfl) (c_X5_keep (Nat.le_trans (by decide) he) (ok_mono (ok_bind2 k) fun _ h_71 k => ?_))
    try dsimp only at k
    refine wp_iload dX10_act_135 rfl ?_
    refine wp_iret rfl rfl dX10_act_137 ?_
    exact (ok_some k :)
theorem c_X10_act {S : SH} {d : Nat} {K : Option Value → AH → Prop} (hd : 5 ≤ d)  {r0 : Nat} {x1 : Int32} {x2 : Int32} {x3 : Int32} {h : AH} (k : ok (f_X10_act S r0 x1 x2 x3 h) (fun w h' => K (some (.int w)) h')) : CP S M_X10_act d 0 0 [.ref r0, .int x1, .int x2, .int x3] h K := cp_of (by decide) (fun _ _ => trivial) (fun _ => Nat.le_of_ble_eq_true rfl) (s_X10_act hd  k)
def f_X10_runClause_l42_j90 (S : SH) (rc : Nat → Nat → Int32 → Int32 → Int32 → Int32 → Int32 → Int32 → Int32 → AH → Option ((Int32 ⊕ Unit) × AH)) (r0 : Nat) (r1 : Nat) (x2 : Int32) (x3 : Int32) (x4 : Int32) (x5 : Int32) (x6 : Int32) (x7 : Int32) (x8 : Int32) (h : AH) : Option ((Int32 ⊕ Unit) × AH) :=
  (gR S h r0 10 9).bind fun p_1 =>
  (gR S h r1 8 0).bind fun p_3 =>
  (ckO S h p_1 4).bind fun _ =>
  (f_X4_reckon S p_1 p_3 x4 x5 h).bind fun z => match z with
  | (z_7, h_6) =>
  if z_7 = (0 : Int32) then
    some (.inl (0 : Int32), h_6)
  else
    (gR S h_6 r0 10 9).bind fun p_9 =>
    (gI S h_6 p_9 4 2).bind fun v_11 =>
    (gR S h_6 r0 10 9).bind fun p_13 =>
    (gR S h_6 r1 8 0).bind fun p_15 =>
    (ckO S h_6 p_13 4).bind fun _ =>
    (f_X4_reckon S p_13 p_15 x5 x6 h_6).bind fun z => match z with
    | (z_19, h_18) =>
    if z_19 = (0 : Int32) then
      some (.inl (0 : Int32), h_18)
    else
      (ckO S h_18 r1 8).bind fun _ =>
      (f_X8_head S r1 x2 (0 : Int32) h_18).bind fun z => match z with
      | (z_23, h_22) =>
      (gR S h_22 r0 10 9).bind fun p_24 =>
      (gI S h_22 p_24 4 2).bind fun v_26 =>
      (ckO S h_22 r0 10).bind fun _ =>
      (f_X10_act S r0 z_23 v_11 v_26 h_22).bind fun z => match z with
      | (z_30, h_29) =>
      if (0 : Int32) ≤ z_30 then
        (ckO S h_29 r1 8).bind fun _ =>
        (f_X8_head S r1 x2 (0 : Int32) h_29).bind fun z => match z with
        | (z_34, h_33) =>
        if z_34 = (267 : Int32) then
          (pI S h_33 r0 10 19 z_30).bind fun h_45 =>
          (gI S h_45 r0 10 18).bind fun v_47 =>
          (pI S h_45 r0 10 18 (v_47 + (1 : Int32))).bind fun h_49 =>
          lt (x8 + (1 : Int32)) fun y_51 =>
          rc r0 r1 x2 x3 x4 x5 x6 x7 y_51 h_49
        else
          (gI S h_33 r0 10 19).bind fun v_36 =>
          (pI S h_33 r0 10 19 v_36).bind fun h_38 =>
          (gI S h_38 r0 10 18).bind fun v_40 =>
          (pI S h_38 r0 10 18 (v_40 + (1 : Int32))).bind fun h_42 =>
          lt (x8 + (1 : Int32)) fun y_44 =>
          rc r0 r1 x2 x3 x4 x5 x6 x7 y_44 h_42
      else
        some (.inl (0 : Int32), h_29)
set_option maxHeartbeats 8000000 in
set_option maxRecDepth 20000 in
theorem s_X10_runClause_l42_j90 {S : SH} {d cb sb : Nat} {Q : Option Value → AH → Prop} (hd : 6 ≤ d) {K : (Int32 ⊕ Unit) → AH → Prop} (hret : ∀ (w : Int32) (h' : AH), K (.inl w) h' → Q (some (.int w)) h') (hex : ∀  (h' : AH), K (.inr ()) h' → WP S M_X10_runClause d cb sb Q 208 [JK, JK, JK, JK, JK, JK, JK, JK, JK, JK, JK] [] h') {rc : Nat → Nat → Int32 → Int32 → Int32 → Int32 → Int32 → Int32 → Int32 → AH → Option ((Int32 ⊕ Unit) × AH)} (hrec : ∀ (r0 : Nat) (r1 : Nat) (x2 : Int32) (x3 : Int32) (x4 : Int32) (x5 : Int32) (x6 : Int32) (x7 : Int32) (x8 : Int32) (h' : AH), ok (rc r0 r1 x2 x3 x4 x5 x6 x7 x8 h') K → WP S M_X10_runClause d cb sb Q 42 [.ref r0, .ref r1, .int x2, .int x3, .int x4, .int x5, .int x6, .int x7, .int x8, JK, JK] [] h') {r0 : Nat} {r1 : Nat} {x2 : Int32} {x3 : Int32} {x4 : Int32} {x5 : Int32} {x6 : Int32} {x7 : Int32} {x8 : Int32} {h : AH} (k : ok (f_X10_runClause_l42_j90 S rc r0 r1 x2 x3 x4 x5 x6 x7 x8 h) K) : WP S M_X10_runClause d cb sb Q 90 [.ref r0, .ref r1, .int x2, .int x3, .int x4, .int x5, .int x6, .int x7, .int x8, JK, JK] [] h := by
  obtain ⟨d, rfl, he⟩ := dp (L := 5) hd
  unfold f_X10_runClause_l42_j90 at k
  refine wp_aload_n dX10_runClause_90 rfl ?_
  replace k := ok_bind k
  obtain ⟨p_1, e_2, k⟩ := k
  refine wq_getR fl_X10_54 (Or.inl ⟨_, rfl⟩) dX10_runClause_91 e_2 ?_
  refine wp_aload_n dX10_runClause_94 rfl ?_
  replace k := ok_bind k
  obtain ⟨p_3, e_4, k⟩ := k
  refine wq_getR fl_X10_260 (Or.inr ⟨_, rfl⟩) dX10_runClause_95 e_4 ?_
  refine wp_iload dX10_runClause_98 rfl ?_
  refine wp_iload dX10_runClause_100 rfl ?_
  replace k := ok_bind k
  obtain ⟨u, e_5, k⟩ := k
  refine wp_callV3 (N := M_X4_reckon) (ci := 4) mf_X4_reckon mi_X4_reckon me_X4_reckon ml_X10_263 dX10_runClause_102 (ckO_e e_5) mv_X4_reckon (by exact Nat.le_of_ble_eq_true rfl) (c_X4_reckon (Nat.le_trans (by decide) he) (ok_mono (ok_bind2 k) fun z_7 h_6 k => ?_))
  try dsimp only at k
  refine wp_if_ne 110 dX10_runClause_105 (by decide) (fun c_8 => ?_) (fun c_8 => ?_)
  · replace k := ok_f c_8 k
    refine wp_aload_n dX10_runClause_110 rfl ?_
    replace k := ok_bind k
    obtain ⟨p_9, e_10, k⟩ := k
    refine wq_getR fl_X10_54 (Or.inl ⟨_, rfl⟩) dX10_runClause_111 e_10 ?_
    replace k := ok_bind k
    obtain ⟨v_11, e_12, k⟩ := k
    refine wq_getI fl_X10_267 (Or.inl rfl) dX10_runClause_114 e_12 ?_
    refine wp_istore dX10_runClause_117 (by decide) (L1 := [_, _, _, _, _, _, _, _, _, _, _]) rfl ?_
    refine wp_aload_n dX10_runClause_119 rfl ?_
    replace k := ok_bind k
    obtain ⟨p_13, e_14, k⟩ := k
    refine wq_getR fl_X10_54 (Or.inl ⟨_, rfl⟩) dX10_runClause_120 e_14 ?_
    refine wp_aload_n dX10_runClause_123 rfl ?_
    replace k := ok_bind k
    obtain ⟨p_15, e_16, k⟩ := k
    refine wq_getR fl_X10_260 (Or.inr ⟨_, rfl⟩) dX10_runClause_124 e_16 ?_
    refine wp_iload dX10_runClause_127 rfl ?_
    refine wp_iload dX10_runClause_129 rfl ?_
    replace k := ok_bind k
    obtain ⟨u, e_17, k⟩ := k
    refine wp_callV3 (N := M_X4_reckon) (ci := 4) mf_X4_reckon mi_X4_reckon me_X4_reckon ml_X10_263 dX10_runClause_131 (ckO_e e_17) mv_X4_reckon (by exact Nat.le_of_ble_eq_true rfl) (c_X4_reckon (Nat.le_trans (by decide) he) (ok_mono (ok_bind2 k) fun z_19 h_18 k => ?_))
    try dsimp only at k
    refine wp_if_ne 139 dX10_runClause_134 (by decide) (fun c_20 => ?_) (fun c_20 => ?_)
    · replace k := ok_f c_20 k
      refine wp_aload_n dX10_runClause_139 rfl ?_
      refine wp_aload_n dX10_runClause_140 rfl ?_
      refine wp_iload_n dX10_runClause_141 rfl ?_
      refine wp_iconst dX10_runClause_142 ic_0 ?_
      replace k := ok_bind k
      obtain ⟨u, e_21, k⟩ := k
      refine wp_callV2 (N := M_X8_head) (ci := 8) mf_X8_head mi_X8_head me_X8_head ml_X10_254 dX10_runClause_143 (ckO_e e_21) mv_X8_head (by exact Nat.le_of_ble_eq_true rfl) (c_X8_head (Nat.le_trans (by decide) he) (ok_mono (ok_bind2 k) fun z_23 h_22 k => ?_))
      try dsimp only at k
      refine wp_iload dX10_runClause_146 rfl ?_
      refine wp_aload_n dX10_runClause_148 rfl ?_
      replace k := ok_bind k
      obtain ⟨p_24, e_25, k⟩ := k
      refine wq_getR fl_X10_54 (Or.inl ⟨_, rfl⟩) dX10_runClause_149 e_25 ?_
      replace k := ok_bind k
      obtain ⟨v_26, e_27, k⟩ := k
      refine wq_getI fl_X10_267 (Or.inl rfl) dX10_runClause_152 e_27 ?_
      replace k := ok_bind k
      obtain ⟨u, e_28, k⟩ := k
      refine wp_callV3 (N := M_X10_act) (ci := 10) mf_X10_act mi_X10_act me_X10_act ml_X10_270 dX10_runClause_155 (ckO_e e_28) mv_X10_act (by exact Nat.le_of_ble_eq_true rfl) (c_X10_act (Nat.le_trans (by decide) he) (ok_mono (ok_bind2 k) fun z_30 h_29 k => ?_))
      try dsimp only at k
      refine wp_istore dX10_runClause_158 (by decide) (L1 := [_, _, _, _, _, _, _, _, _, _, _]) rfl ?_
      refine wp_iload dX10_runClause_160 rfl ?_
      refine wp_if_ge 167 dX10_runClause_162 (by decide) (fun c_31 => ?_) (fun c_31 => ?_)
      · replace k := ok_t c_31 k
        refine wp_aload_n dX10_runClause_167 rfl ?_
        refine wp_aload_n dX10_runClause_168 rfl ?_
        refine wp_iload_n dX10_runClause_169 rfl ?_
        refine wp_iconst dX10_runClause_170 ic_0 ?_
        replace k := ok_bind k
        obtain ⟨u, e_32, k⟩ := k
        refine wp_callV2 (N := M_X8_head) (ci := 8) mf_X8_head mi_X8_head me_X8_head ml_X10_254 dX10_runClause_171 (ckO_e e_32) mv_X8_head (by exact Nat.le_of_ble_eq_true rfl) (c_X8_head (Nat.le_trans (by decide) he) (ok_mono (ok_bind2 k) fun z_34 h_33 k => ?_))
        try dsimp only at k
        refine wp_sipush dX10_runClause_174 sp_267 ?_
        refine wp_icmp_ne 185 dX10_runClause_177 (by decide) (fun c_35 => ?_) (fun c_35 => ?_)
        · replace k := ok_f c_35 k
          refine wp_aload_n dX10_runClause_185 rfl ?_
          replace k := ok_bind k
          obtain ⟨v_36, e_37, k⟩ := k
          refine wq_getI fl_X10_93 (Or.inl rfl) dX10_runClause_186 e_37 ?_
          replace k := ok_bind k
          obtain ⟨h_38, e_39, k⟩ := k
          refine wq_putI fl_X10_93 rfl rfl dX10_runClause_189 e_39 ?_
          refine wp_aload_n dX10_runClause_192 rfl ?_
          refine wp_dupR dX10_runClause_193 ?_
          replace k := ok_bind k
          obtain ⟨v_40, e_41, k⟩ := k
          refine wq_getI fl_X10_244 (Or.inl rfl) dX10_runClause_194 e_41 ?_
          refine wp_iconst dX10_runClause_197 ic_1 ?_
          refine wp_iadd dX10_runClause_198 ?_
          replace k := ok_bind k
          obtain ⟨h_42, e_43, k⟩ := k
          refine wq_putI fl_X10_244 rfl rfl dX10_runClause_199 e_43 ?_
          replace k := ok_lt k
          refine wp_iinc dX10_runClause_202 rfl ic_1 (by decide) (L1 := [_, _, _, _, _, _, _, _, _, _, _]) rfl ?_
          refine wp_goto 42 dX10_runClause_205 (by decide) ?_
          exact wp_wk (wkE <| wkE <| wkE <| wkE <| wkE <| wkE <| wkE <| wkE <| wkE <| wkJ <| wkJ <| wkN) (hrec _ _ _ _ _ _ _ _ _ _ k)
        · replace k := ok_t c_35 k
          refine wp_iload dX10_runClause_180 rfl ?_
          refine wp_goto 189 dX10_runClause_182 (by decide) ?_
          replace k := ok_bind k
          obtain ⟨h_45, e_46, k⟩ := k
          refine wq_putI fl_X10_93 rfl rfl dX10_runClause_189 e_46 ?_
          refine wp_aload_n dX10_runClause_192 rfl ?_
          refine wp_dupR dX10_runClause_193 ?_
          replace k := ok_bind k
          obtain ⟨v_47, e_48, k⟩ := k
          refine wq_getI fl_X10_244 (Or.inl rfl) dX10_runClause_194 e_48 ?_
          refine wp_iconst dX10_runClause_197 ic_1 ?_
          refine wp_iadd dX10_runClause_198 ?_
          replace k := ok_bind k
          obtain ⟨h_49, e_50, k⟩ := k
          refine wq_putI fl_X10_244 rfl rfl dX10_runClause_199 e_50 ?_
          replace k := ok_lt k
          refine wp_iinc dX10_runClause_202 rfl ic_1 (by decide) (L1 := [_, _, _, _, _, _, _, _, _, _, _]) rfl ?_
          refine wp_goto 42 dX10_runClause_205 (by decide) ?_
          exact wp_wk (wkE <| wkE <| wkE <| wkE <| wkE <| wkE <| wkE <| wkE <| wkE <| wkJ <| wkJ <| wkN) (hrec _ _ _ _ _ _ _ _ _ _ k)
      · replace k := ok_f c_31 k
        refine wp_iconst dX10_runClause_165 ic_0 ?_
        refine wp_iret rfl rfl dX10_runClause_166 ?_
        exact hret _ _ (ok_some k)
    · replace k := ok_t c_20 k
      refine wp_iconst dX10_runClause_137 ic_0 ?_
      refine wp_iret rfl rfl dX10_runClause_138 ?_
      exact hret _ _ (ok_some k)
  · replace k := ok_t c_8 k
    refine wp_iconst dX10_runClause_108 ic_0 ?_
    refine wp_iret rfl rfl dX10_runClause_109 ?_
    exact hret _ _ (ok_some k)
def f_X10_runClause_l42b (S : SH) (rc : Nat → Nat → Int32 → Int32 → Int32 → Int32 → Int32 → Int32 → Int32 → AH → Option ((Int32 ⊕ Unit) × AH)) (r0 : Nat) (r1 : Nat) (x2 : Int32) (x3 : Int32) (x4 : Int32) (x5 : Int32) (x6 : Int32) (x7 : Int32) (x8 : Int32) (h : AH) : Option ((Int32 ⊕ Unit) × AH) :=
  if x3 ≤ x8 then
    some (.inr (), h)
  else
    (ckO S h r0 10).bind fun _ =>
    (f_X10_tellOrders S r0 h).bind fun z => match z with
    | (_, h_3) =>
    if x7 ≤ x6 then
      f_X10_runClause_l42_j90 S rc r0 r1 x2 x3 x4 x5 x6 x7 x8 h_3
    else
      (gR S h_3 r0 10 9).bind fun p_6 =>
      (gR S h_3 r1 8 0).bind fun p_8 =>
      (ckO S h_3 p_6 4).bind fun _ =>
      (f_X4_reckon S p_6 p_8 x6 x7 h_3).bind fun z => match z with
      | (z_12, h_11) =>
      if z_12 = (0 : Int32) then
        lt (x8 + (1 : Int32)) fun y_14 =>
        rc r0 r1 x2 x3 x4 x5 x6 x7 y_14 h_11
      else
        (gR S h_11 r0 10 9).bind fun p_15 =>
        (gI S h_11 p_15 4 2).bind fun v_17 =>
        if v_17 = (0 : Int32) then
          lt (x8 + (1 : Int32)) fun y_20 =>
          rc r0 r1 x2 x3 x4 x5 x6 x7 y_20 h_11
        else
          f_X10_runClause_l42_j90 S rc r0 r1 x2 x3 x4 x5 x6 x7 x8 h_11
set_option maxHeartbeats 8000000 in
set_option maxRecDepth 20000 in
theorem s_X10_runClause_l42b {S : SH} {d cb sb : Nat} {Q : Option Value → AH → Prop} (hd : 6 ≤ d) {K : (Int32 ⊕ Unit) → AH → Prop} (hret : ∀ (w : Int32) (h' : AH), K (.inl w) h' → Q (some (.int w)) h') (hex : ∀  (h' : AH), K (.inr ()) h' → WP S M_X10_runClause d cb sb Q 208 [JK, JK, JK, JK, JK, JK, JK, JK, JK, JK, JK] [] h') {rc : Nat → Nat → Int32 → Int32 → Int32 → Int32 → Int32 → Int32 → Int32 → AH → Option ((Int32 ⊕ Unit) × AH)} (hrec : ∀ (r0 : Nat) (r1 : Nat) (x2 : Int32) (x3 : Int32) (x4 : Int32) (x5 : Int32) (x6 : Int32) (x7 : Int32) (x8 : Int32) (h' : AH), ok (rc r0 r1 x2 x3 x4 x5 x6 x7 x8 h') K → WP S M_X10_runClause d cb sb Q 42 [.ref r0, .ref r1, .int x2, .int x3, .int x4, .int x5, .int x6, .int x7, .int x8, JK, JK] [] h') {r0 : Nat} {r1 : Nat} {x2 : Int32} {x3 : Int32} {x4 : Int32} {x5 : Int32} {x6 : Int32} {x7 : Int32} {x8 : Int32} {h : AH} (k : ok (f_X10_runClause_l42b S rc r0 r1 x2 x3 x4 x5 x6 x7 x8 h) K) : WP S M_X10_runClause d cb sb Q 42 [.ref r0, .ref r1, .int x2, .int x3, .int x4, .int x5, .int x6, .int x7, .int x8, JK, JK] [] h := by
  obtain ⟨d, rfl, he⟩ := dp (L := 5) hd
  unfold f_X10_runClause_l42b at k
  refine wp_iload dX10_runClause_42 rfl ?_
  refine wp_iload_n dX10_runClause_44 rfl ?_
  refine wp_icmp_ge 208 dX10_runClause_45 (by decide) (fun c_1 => ?_) (fun c_1 => ?_)
  · replace k := ok_t c_1 k
    exact wp_wk (wkJ <| wkJ <| wkJ <| wkJ <| wkJ <| wkJ <| wkJ <| wkJ <| wkJ <| wkJ <| wkJ <| wkN) (hex  _ (ok_some k))
  · replace k := ok_f c_1 k
    refine wp_aload_n dX10_runClause_48 rfl ?_
    replace k := ok_bind k
    obtain ⟨u, e_2, k⟩ := k
    refine wp_callV0 (N := M_X10_tellOrders) (ci := 10) mf_X10_tellOrders mi_X10_tellOrders me_X10_tellOrders ml_X10_257 dX10_runClause_49 (ckO_e e_2) mv_X10_tellOrders (by exact Nat.le_of_ble_eq_true rfl) (c_X10_tellOrders (Nat.le_trans (by decide) he) (ok_mono (ok_bind2 k) fun _ h_3 k => ?_))
    try dsimp only at k
    refine wp_iload dX10_runClause_52 rfl ?_
    refine wp_iload dX10_runClause_54 rfl ?_
    refine wp_icmp_ge 90 dX10_runClause_56 (by decide) (fun c_5 => ?_) (fun c_5 => ?_)
    · replace k := ok_t c_5 k
      exact wp_wk (wkE <| wkE <| wkE <| wkE <| wkE <| wkE <| wkE <| wkE <| wkE <| wkJ <| wkJ <| wkN) (s_X10_runClause_l42_j90 (Nat.succ_le_succ he) hret hex hrec k)
    · replace k := ok_f c_5 k
      refine wp_aload_n dX10_runClause_59 rfl ?_
      replace k := ok_bind k
      obtain ⟨p_6, e_7, k⟩ := k
      refine wq_getR fl_X10_54 (Or.inl ⟨_, rfl⟩) dX10_runClause_60 e_7 ?_
      refine wp_aload_n dX10_runClause_63 rfl ?_
      replace k := ok_bind k
      obtain ⟨p_8, e_9, k⟩ := k
      refine wq_getR fl_X10_260 (Or.inr ⟨_, rfl⟩) dX10_runClause_64 e_9 ?_
      refine wp_iload dX10_runClause_67 rfl ?_
      refine wp_iload dX10_runClause_69 rfl ?_
      replace k := ok_bind k
      obtain ⟨u, e_10, k⟩ := k
      refine wp_callV3 (N := M_X4_reckon) (ci := 4) mf_X4_reckon mi_X4_reckon me_X4_reckon ml_X10_263 dX10_runClause_71 (ckO_e e_10) mv_X4_reckon (by exact Nat.le_of_ble_eq_true rfl) (c_X4_reckon (Nat.le_trans (by decide) he) (ok_mono (ok_bind2 k) fun z_12 h_11 k => ?_))
      try dsimp only at k
      refine wp_if_eq 202 dX10_runClause_74 (by decide) (fun c_13 => ?_) (fun c_13 => ?_)
      · replace k := ok_t c_13 k
        replace k := ok_lt k
        refine wp_iinc dX10_runClause_202 rfl ic_1 (by decide) (L1 := [_, _, _, _, _, _, _, _, _, _, _]) rfl ?_
        refine wp_goto 42 dX10_runClause_205 (by decide) ?_
        exact wp_wk (wkE <| wkE <| wkE <| wkE <| wkE <| wkE <| wkE <| wkE <| wkE <| wkJ <| wkJ <| wkN) (hrec _ _ _ _ _ _ _ _ _ _ k)
      · replace k := ok_f c_13 k
        refine wp_aload_n dX10_runClause_77 rfl ?_
        replace k := ok_bind k
        obtain ⟨p_15, e_16, k⟩ := k
        refine wq_getR fl_X10_54 (Or.inl ⟨_, rfl⟩) dX10_runClause_78 e_16 ?_
        replace k := ok_bind k
        obtain ⟨v_17, e_18, k⟩ := k
        refine wq_getI fl_X10_267 (Or.inl rfl) dX10_runClause_81 e_18 ?_
        refine wp_if_ne 90 dX10_runClause_84 (by decide) (fun c_19 => ?_) (fun c_19 => ?_)
        · replace k := ok_f c_19 k
          exact wp_wk (wkE <| wkE <| wkE <| wkE <| wkE <| wkE <| wkE <| wkE <| wkE <| wkJ <| wkJ <| wkN) (s_X10_runClause_l42_j90 (Nat.succ_le_succ he) hret hex hrec k)
        · replace k := ok_t c_19 k
          refine wp_goto 202 dX10_runClause_87 (by decide) ?_
          replace k := ok_lt k
          refine wp_iinc dX10_runClause_202 rfl ic_1 (by decide) (L1 := [_, _, _, _, _, _, _, _, _, _, _]) rfl ?_
          refine wp_goto 42 dX10_runClause_205 (by decide) ?_
          exact wp_wk (wkE <| wkE <| wkE <| wkE <| wkE <| wkE <| wkE <| wkE <| wkE <| wkJ <| wkJ <| wkN) (hrec _ _ _ _ _ _ _ _ _ _ k)
def f_X10_runClause_l42 (S : SH) : Nat → Nat → Nat → Int32 → Int32 → Int32 → Int32 → Int32 → Int32 → Int32 → AH → Option ((Int32 ⊕ Unit) × AH)
  | 0, _, _, _, _, _, _, _, _, _, _ => none
  | n + 1, r0, r1, x2, x3, x4, x5, x6, x7, x8, h => f_X10_runClause_l42b S (f_X10_runClause_l42 S n) r0 r1 x2 x3 x4 x5 x6 x7 x8 h
theorem s_X10_runClause_l42 {S : SH} {d cb sb : Nat} {Q : Option Value → AH → Prop} (hd : 6 ≤ d) {K : (Int32 ⊕ Unit) → AH → Prop} (hret : ∀ (w : Int32) (h' : AH), K (.inl w) h' → Q (some (.int w)) h') (hex : ∀  (h' : AH), K (.inr ()) h' → WP S M_X10_runClause d cb sb Q 208 [JK, JK, JK, JK, JK, JK, JK, JK, JK, JK, JK] [] h') : ∀ (n : Nat) (r0 : Nat) (r1 : Nat) (x2 : Int32) (x3 : Int32) (x4 : Int32) (x5 : Int32) (x6 : Int32) (x7 : Int32) (x8 : Int32) (h : AH), ok (f_X10_runClause_l42 S n r0 r1 x2 x3 x4 x5 x6 x7 x8 h) K → WP S M_X10_runClause d cb sb Q 42 [.ref r0, .ref r1, .int x2, .int x3, .int x4, .int x5, .int x6, .int x7, .int x8, JK, JK] [] h := by
  intro n
  induction n with
  | zero => intro r0 r1 x2 x3 x4 x5 x6 x7 x8 h k; exact ok_none k
  | succ n ih => intro r0 r1 x2 x3 x4 x5 x6 x7 x8 h k; exact s_X10_runClause_l42b hd hret hex (fun r0 r1 x2 x3 x4 x5 x6 x7 x8 h k => ih r0 r1 x2 x3 x4 x5 x6 x7 x8 h k) k
def f_X10_runClause (S : SH) (r0 : Nat) (r1 : Nat) (x2 : Int32) (h : AH) : Option (Int32 × AH) :=
  (ckO S h r1 8).bind fun _ =>
  (f_X8_head S r1 x2 (1 : Int32) h).bind fun z => match z with
  | (z_3, h_2) =>
  (ckO S h_2 r1 8).bind fun _ =>
  (f_X8_head S r1 x2 (2 : Int32) h_2).bind fun z => match z with
  | (z_6, h_5) =>
  (ckO S h_5 r1 8).bind fun _ =>
  (f_X8_head S r1 x2 (3 : Int32) h_5).bind fun z => match z with
  | (z_9, h_8) =>
  (ckO S h_8 r1 8).bind fun _ =>
  (f_X8_head S r1 x2 (4 : Int32) h_8).bind fun z => match z with
  | (z_12, h_11) =>
  (ckO S h_11 r1 8).bind fun _ =>
  (f_X8_head S r1 x2 (5 : Int32) h_11).bind fun z => match z with
  | (z_15, h_14) =>
  (f_X10_runClause_l42 S FU r0 r1 x2 z_3 z_6 z_9 z_12 z_15 (0 : Int32) h_14).bind fun z => match z with
  | (.inl w, h') => some (w, h')
  | (.inr (), h_16) =>
    some ((1 : Int32), h_16)
set_option maxHeartbeats 8000000 in
set_option maxRecDepth 20000 in
theorem s_X10_runClause {S : SH} {d cb sb : Nat} {Q : Option Value → AH → Prop} (hd : 6 ≤ d)  {r0 : Nat} {r1 : Nat} {x2 : Int32} {h : AH} (k : ok (f_X10_runClause S r0 r1 x2 h) (fun w h' => Q (some (.int w)) h')) : WP S M_X10_runClause d cb sb Q 0 [.ref r0, .ref r1, .int x2, JK, JK, JK, JK, JK, JK, JK, JK] [] h := by
  obtain ⟨d, rfl, he⟩ := dp (L := 5) hd
  unfold f_X10_runClause at k
  refine wp_aload_n dX10_runClause_0 rfl ?_
  refine wp_iload_n dX10_runClause_1 rfl ?_
  refine wp_iconst dX10_runClause_2 ic_1 ?_
  replace k := ok_bind k
  obtain ⟨u, e_1, k⟩ := k
  refine wp_callV2 (N := M_X8_head) (ci := 8) mf_X8_head mi_X8_head me_X8_head ml_X10_254 dX10_runClause_3 (ckO_e e_1) mv_X8_head (by exact Nat.le_of_ble_eq_true rfl) (c_X8_head (Nat.le_trans (by decide) he) (ok_mono (ok_bind2 k) fun z_3 h_2 k => ?_))
  try dsimp only at k
  refine wp_istore_n dX10_runClause_6 (by decide) (L1 := [_, _, _, _, _, _, _, _, _, _, _]) rfl ?_
  refine wp_aload_n dX10_runClause_7 rfl ?_
  refine wp_iload_n dX10_runClause_8 rfl ?_
  refine wp_iconst dX10_runClause_9 ic_2 ?_
  replace k := ok_bind k
  obtain ⟨u, e_4, k⟩ := k
  refine wp_callV2 (N := M_X8_head) (ci := 8) mf_X8_head mi_X8_head me_X8_head ml_X10_254 dX10_runClause_10 (ckO_e e_4) mv_X8_head (by exact Nat.le_of_ble_eq_true rfl) (c_X8_head (Nat.le_trans (by decide) he) (ok_mono (ok_bind2 k) fun z_6 h_5 k => ?_))
  try dsimp only at k
  refine wp_istore dX10_runClause_13 (by decide) (L1 := [_, _, _, _, _, _, _, _, _, _, _]) rfl ?_
  refine wp_aload_n dX10_runClause_15 rfl ?_
  refine wp_iload_n dX10_runClause_16 rfl ?_
  refine wp_iconst dX10_runClause_17 ic_3 ?_
  replace k := ok_bind k
  obtain ⟨u, e_7, k⟩ := k
  refine wp_callV2 (N := M_X8_head) (ci := 8) mf_X8_head mi_X8_head me_X8_head ml_X10_254 dX10_runClause_18 (ckO_e e_7) mv_X8_head (by exact Nat.le_of_ble_eq_true rfl) (c_X8_head (Nat.le_trans (by decide) he) (ok_mono (ok_bind2 k) fun z_9 h_8 k => ?_))
  try dsimp only at k
  refine wp_istore dX10_runClause_21 (by decide) (L1 := [_, _, _, _, _, _, _, _, _, _, _]) rfl ?_
  refine wp_aload_n dX10_runClause_23 rfl ?_
  refine wp_iload_n dX10_runClause_24 rfl ?_
  refine wp_iconst dX10_runClause_25 ic_4 ?_
  replace k := ok_bind k
  obtain ⟨u, e_10, k⟩ := k
  refine wp_callV2 (N := M_X8_head) (ci := 8) mf_X8_head mi_X8_head me_X8_head ml_X10_254 dX10_runClause_26 (ckO_e e_10) mv_X8_head (by exact Nat.le_of_ble_eq_true rfl) (c_X8_head (Nat.le_trans (by decide) he) (ok_mono (ok_bind2 k) fun z_12 h_11 k => ?_))
  try dsimp only at k
  refine wp_istore dX10_runClause_29 (by decide) (L1 := [_, _, _, _, _, _, _, _, _, _, _]) rfl ?_
  refine wp_aload_n dX10_runClause_31 rfl ?_
  refine wp_iload_n dX10_runClause_32 rfl ?_
  refine wp_iconst dX10_runClause_33 ic_5 ?_
  replace k := ok_bind k
  obtain ⟨u, e_13, k⟩ := k
  refine wp_callV2 (N := M_X8_head) (ci := 8) mf_X8_head mi_X8_head me_X8_head ml_X10_254 dX10_runClause_34 (ckO_e e_13) mv_X8_head (by exact Nat.le_of_ble_eq_true rfl) (c_X8_head (Nat.le_trans (by decide) he) (ok_mono (ok_bind2 k) fun z_15 h_14 k => ?_))
  try dsimp only at k
  refine wp_istore dX10_runClause_37 (by decide) (L1 := [_, _, _, _, _, _, _, _, _, _, _]) rfl ?_
  refine wp_iconst dX10_runClause_39 ic_0 ?_
  refine wp_istore dX10_runClause_40 (by decide) (L1 := [_, _, _, _, _, _, _, _, _, _, _]) rfl ?_
  refine wp_wk (wkE <| wkE <| wkE <| wkE <| wkE <| wkE <| wkE <| wkE <| wkE <| wkJ <| wkJ <| wkN) ?_
  refine s_X10_runClause_l42 (Nat.succ_le_succ he) (fun w h' k => ?_) (fun  h_16 k => ?_) FU _ _ _ _ _ _ _ _ _ _ (ok_bind2 k)
  · try dsimp only at k
    exact (ok_some k :)
  · try dsimp only at k
    refine wp_iconst dX10_runClause_208 ic_1 ?_
    refine wp_iret rfl rfl dX10_runClause_209 ?_
    exact (ok_some k :)
theorem c_X10_runClause {S : SH} {d : Nat} {K : Option Value → AH → Prop} (hd : 6 ≤ d)  {r0 : Nat} {r1 : Nat} {x2 : Int32} {h : AH} (k : ok (f_X10_runClause S r0 r1 x2 h) (fun w h' => K (some (.int w)) h')) : CP S M_X10_runClause d 0 0 [.ref r0, .ref r1, .int x2] h K := cp_of (by decide) (fun _ _ => trivial) (fun _ => Nat.le_of_ble_eq_true rfl) (s_X10_runClause hd  k)
def f_X10_fault (S : SH) (r0 : Nat) (h : AH) : Option (Int32 × AH) :=
  (gI S h r0 10 15).bind fun v_1 =>
  some (v_1, h)
set_option maxHeartbeats 8000000 in
set_option maxRecDepth 20000 in
theorem s_X10_fault {S : SH} {d cb sb : Nat} {Q : Option Value → AH → Prop} (hd : 0 ≤ d)  {r0 : Nat} {h : AH} (k : ok (f_X10_fault S r0 h) (fun w h' => Q (some (.int w)) h')) : WP S M_X10_fault d cb sb Q 0 [.ref r0] [] h := by
  unfold f_X10_fault at k
  refine wp_aload_n dX10_fault_0 rfl ?_
  replace k := ok_bind k
  obtain ⟨v_1, e_2, k⟩ := k
  refine wq_getI fl_X10_86 (Or.inl rfl) dX10_fault_1 e_2 ?_
  refine wp_iret rfl rfl dX10_fault_4 ?_
  exact (ok_some k :)
theorem c_X10_fault {S : SH} {d : Nat} {K : Option Value → AH → Prop} (hd : 0 ≤ d)  {r0 : Nat} {h : AH} (k : ok (f_X10_fault S r0 h) (fun w h' => K (some (.int w)) h')) : CP S M_X10_fault d 0 0 [.ref r0] h K := cp_of (by decide) (fun _ _ => trivial) (fun _ => Nat.le_of_ble_eq_true rfl) (s_X10_fault hd  k)
def f_X10_stopped (S : SH) (r0 : Nat) (h : AH) : Option (Int32 × AH) :=
  (gI S h r0 10 17).bind fun v_1 =>
  some (v_1, h)
set_option maxHeartbeats 8000000 in
set_option maxRecDepth 20000 in
theorem s_X10_stopped {S : SH} {d cb sb : Nat} {Q : Option Value → AH → Prop} (hd : 0 ≤ d)  {r0 : Nat} {h : AH} (k : ok (f_X10_stopped S r0 h) (fun w h' => Q (some (.int w)) h')) : WP S M_X10_stopped d cb sb Q 0 [.ref r0] [] h := by
  unfold f_X10_stopped at k
  refine wp_aload_n dX10_stopped_0 rfl ?_
  replace k := ok_bind k
  obtain ⟨v_1, e_2, k⟩ := k
  refine wq_getI fl_X10_90 (Or.inl rfl) dX10_stopped_1 e_2 ?_
  refine wp_iret rfl rfl dX10_stopped_4 ?_
  exact (ok_some k :)
theorem c_X10_stopped {S : SH} {d : Nat} {K : Option Value → AH → Prop} (hd : 0 ≤ d)  {r0 : Nat} {h : AH} (k : ok (f_X10_stopped S r0 h) (fun w h' => K (some (.int w)) h')) : CP S M_X10_stopped d 0 0 [.ref r0] h K := cp_of (by decide) (fun _ _ => trivial) (fun _ => Nat.le_of_ble_eq_true rfl) (s_X10_stopped hd  k)
def f_X10_force (S : SH) (r0 : Nat) (x1 : Int32) (h : AH) : Option (Int32 × AH) :=
  if x1 = (-1 : Int32) then
    (gR S h r0 10 2).bind fun p_2 =>
    (gI S h p_2 6 15).bind fun v_4 =>
    (gR S h r0 10 2).bind fun p_6 =>
    (pI S h p_6 6 15 x1).bind fun h_8 =>
    (ckO S h_8 r0 10).bind fun _ =>
    (f_X10_accept S r0 v_4 h_8).bind fun z => match z with
    | (z_12, h_11) =>
    some (z_12, h_11)
  else
    (gR S h r0 10 2).bind fun p_13 =>
    (ckO S h p_13 6).bind fun _ =>
    (f_X6_hasLaw S p_13 x1 h).bind fun z => match z with
    | (z_17, h_16) =>
    if z_17 = (0 : Int32) then
      (ckO S h_16 r0 10).bind fun _ =>
      (f_X10_refuse S r0 (-2 : Int32) h_16).bind fun z => match z with
      | (z_32, h_31) =>
      some (z_32, h_31)
    else
      (gR S h_16 r0 10 2).bind fun p_19 =>
      (gI S h_16 p_19 6 15).bind fun v_21 =>
      (gR S h_16 r0 10 2).bind fun p_23 =>
      (pI S h_16 p_23 6 15 x1).bind fun h_25 =>
      (ckO S h_25 r0 10).bind fun _ =>
      (f_X10_accept S r0 v_21 h_25).bind fun z => match z with
      | (z_29, h_28) =>
      some (z_29, h_28)
set_option maxHeartbeats 8000000 in
set_option maxRecDepth 20000 in
theorem s_X10_force {S : SH} {d cb sb : Nat} {Q : Option Value → AH → Prop} (hd : 1 ≤ d)  {r0 : Nat} {x1 : Int32} {h : AH} (k : ok (f_X10_force S r0 x1 h) (fun w h' => Q (some (.int w)) h')) : WP S M_X10_force d cb sb Q 0 [.ref r0, .int x1, JK] [] h := by
  obtain ⟨d, rfl, he⟩ := dp (L := 0) hd
  unfold f_X10_force at k
  refine wp_iload_n dX10_force_0 rfl ?_
  refine wp_iconst dX10_force_1 ic_m1 ?_
  refine wp_icmp_eq 23 dX10_force_2 (by decide) (fun c_1 => ?_) (fun c_1 => ?_)
  · replace k := ok_t c_1 k
    refine wp_aload_n dX10_force_23 rfl ?_
    replace k := ok_bind k
    obtain ⟨p_2, e_3, k⟩ := k
    refine wq_getR fl_X10_16 (Or.inl ⟨_, rfl⟩) dX10_force_24 e_3 ?_
    replace k := ok_bind k
    obtain ⟨v_4, e_5, k⟩ := k
    refine wq_getI fl_X10_292 (Or.inl rfl) dX10_force_27 e_5 ?_
    refine wp_istore_n dX10_force_30 (by decide) (L1 := [_, _, _]) rfl ?_
    refine wp_aload_n dX10_force_31 rfl ?_
    replace k := ok_bind k
    obtain ⟨p_6, e_7, k⟩ := k
    refine wq_getR fl_X10_16 (Or.inl ⟨_, rfl⟩) dX10_force_32 e_7 ?_
    refine wp_iload_n dX10_force_35 rfl ?_
    replace k := ok_bind k
    obtain ⟨h_8, e_9, k⟩ := k
    refine wq_putI fl_X10_292 rfl rfl dX10_force_36 e_9 ?_
    refine wp_aload_n dX10_force_39 rfl ?_
    refine wp_iload_n dX10_force_40 rfl ?_
    replace k := ok_bind k
    obtain ⟨u, e_10, k⟩ := k
    refine wp_callV1 (N := M_X10_accept) (ci := 10) mf_X10_accept mi_X10_accept me_X10_accept ml_X10_110 dX10_force_41 (ckO_e e_10) mv_X10_accept (by exact Nat.le_of_ble_eq_true rfl) (c_X10_accept (Nat.le_trans (by decide) he) (ok_mono (ok_bind2 k) fun z_12 h_11 k => ?_))
    try dsimp only at k
    refine wp_iret rfl rfl dX10_force_44 ?_
    exact (ok_some k :)
  · replace k := ok_f c_1 k
    refine wp_aload_n dX10_force_5 rfl ?_
    replace k := ok_bind k
    obtain ⟨p_13, e_14, k⟩ := k
    refine wq_getR fl_X10_16 (Or.inl ⟨_, rfl⟩) dX10_force_6 e_14 ?_
    refine wp_iload_n dX10_force_9 rfl ?_
    replace k := ok_bind k
    obtain ⟨u, e_15, k⟩ := k
    refine wp_callV1 (N := M_X6_hasLaw) (ci := 6) mf_X6_hasLaw mi_X6_hasLaw me_X6_hasLaw ml_X10_289 dX10_force_10 (ckO_e e_15) mv_X6_hasLaw (by exact Nat.le_of_ble_eq_true rfl) (c_X6_hasLaw (Nat.le_trans (by decide) he) (ok_mono (ok_bind2 k) fun z_17 h_16 k => ?_))
    try dsimp only at k
    refine wp_if_ne 23 dX10_force_13 (by decide) (fun c_18 => ?_) (fun c_18 => ?_)
    · replace k := ok_f c_18 k
      refine wp_aload_n dX10_force_23 rfl ?_
      replace k := ok_bind k
      obtain ⟨p_19, e_20, k⟩ := k
      refine wq_getR fl_X10_16 (Or.inl ⟨_, rfl⟩) dX10_force_24 e_20 ?_
      replace k := ok_bind k
      obtain ⟨v_21, e_22, k⟩ := k
      refine wq_getI fl_X10_292 (Or.inl rfl) dX10_force_27 e_22 ?_
      refine wp_istore_n dX10_force_30 (by decide) (L1 := [_, _, _]) rfl ?_
      refine wp_aload_n dX10_force_31 rfl ?_
      replace k := ok_bind k
      obtain ⟨p_23, e_24, k⟩ := k
      refine wq_getR fl_X10_16 (Or.inl ⟨_, rfl⟩) dX10_force_32 e_24 ?_
      refine wp_iload_n dX10_force_35 rfl ?_
      replace k := ok_bind k
      obtain ⟨h_25, e_26, k⟩ := k
      refine wq_putI fl_X10_292 rfl rfl dX10_force_36 e_26 ?_
      refine wp_aload_n dX10_force_39 rfl ?_
      refine wp_iload_n dX10_force_40 rfl ?_
      replace k := ok_bind k
      obtain ⟨u, e_27, k⟩ := k
      refine wp_callV1 (N := M_X10_accept) (ci := 10) mf_X10_accept mi_X10_accept me_X10_accept ml_X10_110 dX10_force_41 (ckO_e e_27) mv_X10_accept (by exact Nat.le_of_ble_eq_true rfl) (c_X10_accept (Nat.le_trans (by decide) he) (ok_mono (ok_bind2 k) fun z_29 h_28 k => ?_))
      try dsimp only at k
      refine wp_iret rfl rfl dX10_force_44 ?_
      exact (ok_some k :)
    · replace k := ok_t c_18 k
      refine wp_aload_n dX10_force_16 rfl ?_
      refine wp_bipush dX10_force_17 bp_m2 ?_
      replace k := ok_bind k
      obtain ⟨u, e_30, k⟩ := k
      refine wp_callV1 (N := M_X10_refuse) (ci := 10) mf_X10_refuse mi_X10_refuse me_X10_refuse ml_X10_96 dX10_force_19 (ckO_e e_30) mv_X10_refuse (by exact Nat.le_of_ble_eq_true rfl) (c_X10_refuse (Nat.le_trans (by decide) he) (ok_mono (ok_bind2 k) fun z_32 h_31 k => ?_))
      try dsimp only at k
      refine wp_iret rfl rfl dX10_force_22 ?_
      exact (ok_some k :)
theorem c_X10_force {S : SH} {d : Nat} {K : Option Value → AH → Prop} (hd : 1 ≤ d)  {r0 : Nat} {x1 : Int32} {h : AH} (k : ok (f_X10_force S r0 x1 h) (fun w h' => K (some (.int w)) h')) : CP S M_X10_force d 0 0 [.ref r0, .int x1] h K := cp_of (by decide) (fun _ _ => trivial) (fun _ => Nat.le_of_ble_eq_true rfl) (s_X10_force hd  k)
def f_X10_answer (S : SH) (r0 : Nat) (x1 : Int32) (h : AH) : Option (Int32 × AH) :=
  if (0 : Int32) ≤ x1 then
    (ckO S h r0 10).bind fun _ =>
    (f_X10_accept S r0 x1 h).bind fun z => match z with
    | (z_4, h_3) =>
    some (z_4, h_3)
  else
    (ckO S h r0 10).bind fun _ =>
    (f_X10_refuse S r0 x1 h).bind fun z => match z with
    | (z_7, h_6) =>
    some (z_7, h_6)
set_option maxHeartbeats 8000000 in
set_option maxRecDepth 20000 in
theorem s_X10_answer {S : SH} {d cb sb : Nat} {Q : Option Value → AH → Prop} (hd : 1 ≤ d)  {r0 : Nat} {x1 : Int32} {h : AH} (k : ok (f_X10_answer S r0 x1 h) (fun w h' => Q (some (.int w)) h')) : WP S M_X10_answer d cb sb Q 0 [.ref r0, .int x1] [] h := by
  obtain ⟨d, rfl, he⟩ := dp (L := 0) hd
  unfold f_X10_answer at k
  refine wp_iload_n dX10_answer_0 rfl ?_
  refine wp_if_ge 12 dX10_answer_1 (by decide) (fun c_1 => ?_) (fun c_1 => ?_)
  · replace k := ok_t c_1 k
    refine wp_aload_n dX10_answer_12 rfl ?_
    refine wp_iload_n dX10_answer_13 rfl ?_
    replace k := ok_bind k
    obtain ⟨u, e_2, k⟩ := k
    refine wp_callV1 (N := M_X10_accept) (ci := 10) mf_X10_accept mi_X10_accept me_X10_accept ml_X10_110 dX10_answer_14 (ckO_e e_2) mv_X10_accept (by exact Nat.le_of_ble_eq_true rfl) (c_X10_accept (Nat.le_trans (by decide) he) (ok_mono (ok_bind2 k) fun z_4 h_3 k => ?_))
    try dsimp only at k
    refine wp_iret rfl rfl dX10_answer_17 ?_
    exact (ok_some k :)
  · replace k := ok_f c_1 k
    refine wp_aload_n dX10_answer_4 rfl ?_
    refine wp_iload_n dX10_answer_5 rfl ?_
    replace k := ok_bind k
    obtain ⟨u, e_5, k⟩ := k
    refine wp_callV1 (N := M_X10_refuse) (ci := 10) mf_X10_refuse mi_X10_refuse me_X10_refuse ml_X10_96 dX10_answer_6 (ckO_e e_5) mv_X10_refuse (by exact Nat.le_of_ble_eq_true rfl) (c_X10_refuse (Nat.le_trans (by decide) he) (ok_mono (ok_bind2 k) fun z_7 h_6 k => ?_))
    try dsimp only at k
    refine wp_goto 17 dX10_answer_9 (by decide) ?_
    refine wp_iret rfl rfl dX10_answer_17 ?_
    exact (ok_some k :)
theorem c_X10_answer {S : SH} {d : Nat} {K : Option Value → AH → Prop} (hd : 1 ≤ d)  {r0 : Nat} {x1 : Int32} {h : AH} (k : ok (f_X10_answer S r0 x1 h) (fun w h' => K (some (.int w)) h')) : CP S M_X10_answer d 0 0 [.ref r0, .int x1] h K := cp_of (by decide) (fun _ _ => trivial) (fun _ => Nat.le_of_ble_eq_true rfl) (s_X10_answer hd  k)
def f_X10_move (S : SH) (r0 : Nat) (x1 : Int32) (x2 : Int32) (h : AH) : Option (Int32 × AH) :=
  (ckO S h r0 10).bind fun _ =>
  (f_X10_act S r0 (266 : Int32) x1 x2 h).bind fun z => match z with
  | (z_3, h_2) =>
  (ckO S h_2 r0 10).bind fun _ =>
  (f_X10_answer S r0 z_3 h_2).bind fun z => match z with
  | (z_6, h_5) =>
  some (z_6, h_5)
set_option maxHeartbeats 8000000 in
set_option maxRecDepth 20000 in
theorem s_X10_move {S : SH} {d cb sb : Nat} {Q : Option Value → AH → Prop} (hd : 6 ≤ d)  {r0 : Nat} {x1 : Int32} {x2 : Int32} {h : AH} (k : ok (f_X10_move S r0 x1 x2 h) (fun w h' => Q (some (.int w)) h')) : WP S M_X10_move d cb sb Q 0 [.ref r0, .int x1, .int x2] [] h := by
  obtain ⟨d, rfl, he⟩ := dp (L := 5) hd
  unfold f_X10_move at k
  refine wp_aload_n dX10_move_0 rfl ?_
  refine wp_aload_n dX10_move_1 rfl ?_
  refine wp_sipush dX10_move_2 sp_266 ?_
  refine wp_iload_n dX10_move_5 rfl ?_
  refine wp_iload_n dX10_move_6 rfl ?_
  replace k := ok_bind k
  obtain ⟨u, e_1, k⟩ := k
  refine wp_callV3 (N := M_X10_act) (ci := 10) mf_X10_act mi_X10_act me_X10_act ml_X10_270 dX10_move_7 (ckO_e e_1) mv_X10_act (by exact Nat.le_of_ble_eq_true rfl) (c_X10_act (Nat.le_trans (by decide) he) (ok_mono (ok_bind2 k) fun z_3 h_2 k => ?_))
  try dsimp only at k
  replace k := ok_bind k
  obtain ⟨u, e_4, k⟩ := k
  refine wp_callV1 (N := M_X10_answer) (ci := 10) mf_X10_answer mi_X10_answer me_X10_answer ml_X10_310 dX10_move_10 (ckO_e e_4) mv_X10_answer (by exact Nat.le_of_ble_eq_true rfl) (c_X10_answer (Nat.le_trans (by decide) he) (ok_mono (ok_bind2 k) fun z_6 h_5 k => ?_))
  try dsimp only at k
  refine wp_iret rfl rfl dX10_move_13 ?_
  exact (ok_some k :)
theorem c_X10_move {S : SH} {d : Nat} {K : Option Value → AH → Prop} (hd : 6 ≤ d)  {r0 : Nat} {x1 : Int32} {x2 : Int32} {h : AH} (k : ok (f_X10_move S r0 x1 x2 h) (fun w h' => K (some (.int w)) h')) : CP S M_X10_move d 0 0 [.ref r0, .int x1, .int x2] h K := cp_of (by decide) (fun _ _ => trivial) (fun _ => Nat.le_of_ble_eq_true rfl) (s_X10_move hd  k)
def f_X10_divide (S : SH) (r0 : Nat) (x1 : Int32) (h : AH) : Option (Int32 × AH) :=
  (ckO S h r0 10).bind fun _ =>
  (f_X10_act S r0 (267 : Int32) x1 (-1 : Int32) h).bind fun z => match z with
  | (z_3, h_2) =>
  (ckO S h_2 r0 10).bind fun _ =>
  (f_X10_answer S r0 z_3 h_2).bind fun z => match z with
  | (z_6, h_5) =>
  some (z_6, h_5)
set_option maxHeartbeats 8000000 in
set_option maxRecDepth 20000 in
theorem s_X10_divide {S : SH} {d cb sb : Nat} {Q : Option Value → AH → Prop} (hd : 6 ≤ d)  {r0 : Nat} {x1 : Int32} {h : AH} (k : ok (f_X10_divide S r0 x1 h) (fun w h' => Q (some (.int w)) h')) : WP S M_X10_divide d cb sb Q 0 [.ref r0, .int x1] [] h := by
  obtain ⟨d, rfl, he⟩ := dp (L := 5) hd
  unfold f_X10_divide at k
  refine wp_aload_n dX10_divide_0 rfl ?_
  refine wp_aload_n dX10_divide_1 rfl ?_
  refine wp_sipush dX10_divide_2 sp_267 ?_
  refine wp_iload_n dX10_divide_5 rfl ?_
  refine wp_iconst dX10_divide_6 ic_m1 ?_
  replace k := ok_bind k
  obtain ⟨u, e_1, k⟩ := k
  refine wp_callV3 (N := M_X10_act) (ci := 10) mf_X10_act mi_X10_act me_X10_act ml_X10_270 dX10_divide_7 (ckO_e e_1) mv_X10_act (by exact Nat.le_of_ble_eq_true rfl) (c_X10_act (Nat.le_trans (by decide) he) (ok_mono (ok_bind2 k) fun z_3 h_2 k => ?_))
  try dsimp only at k
  replace k := ok_bind k
  obtain ⟨u, e_4, k⟩ := k
  refine wp_callV1 (N := M_X10_answer) (ci := 10) mf_X10_answer mi_X10_answer me_X10_answer ml_X10_310 dX10_divide_10 (ckO_e e_4) mv_X10_answer (by exact Nat.le_of_ble_eq_true rfl) (c_X10_answer (Nat.le_trans (by decide) he) (ok_mono (ok_bind2 k) fun z_6 h_5 k => ?_))
  try dsimp only at k
  refine wp_iret rfl rfl dX10_divide_13 ?_
  exact (ok_some k :)
theorem c_X10_divide {S : SH} {d : Nat} {K : Option Value → AH → Prop} (hd : 6 ≤ d)  {r0 : Nat} {x1 : Int32} {h : AH} (k : ok (f_X10_divide S r0 x1 h) (fun w h' => K (some (.int w)) h')) : CP S M_X10_divide d 0 0 [.ref r0, .int x1] h K := cp_of (by decide) (fun _ _ => trivial) (fun _ => Nat.le_of_ble_eq_true rfl) (s_X10_divide hd  k)
def f_X10_fly (S : SH) (r0 : Nat) (x1 : Int32) (x2 : Int32) (h : AH) : Option (Int32 × AH) :=
  (ckO S h r0 10).bind fun _ =>
  (f_X10_act S r0 (268 : Int32) x1 x2 h).bind fun z => match z with
  | (z_3, h_2) =>
  (ckO S h_2 r0 10).bind fun _ =>
  (f_X10_answer S r0 z_3 h_2).bind fun z => match z with
  | (z_6, h_5) =>
  some (z_6, h_5)
set_option maxHeartbeats 8000000 in
set_option maxRecDepth 20000 in
theorem s_X10_fly {S : SH} {d cb sb : Nat} {Q : Option Value → AH → Prop} (hd : 6 ≤ d)  {r0 : Nat} {x1 : Int32} {x2 : Int32} {h : AH} (k : ok (f_X10_fly S r0 x1 x2 h) (fun w h' => Q (some (.int w)) h')) : WP S M_X10_fly d cb sb Q 0 [.ref r0, .int x1, .int x2] [] h := by
  obtain ⟨d, rfl, he⟩ := dp (L := 5) hd
  unfold f_X10_fly at k
  refine wp_aload_n dX10_fly_0 rfl ?_
  refine wp_aload_n dX10_fly_1 rfl ?_
  refine wp_sipush dX10_fly_2 sp_268 ?_
  refine wp_iload_n dX10_fly_5 rfl ?_
  refine wp_iload_n dX10_fly_6 rfl ?_
  replace k := ok_bind k
  obtain ⟨u, e_1, k⟩ := k
  refine wp_callV3 (N := M_X10_act) (ci := 10) mf_X10_act mi_X10_act me_X10_act ml_X10_270 dX10_fly_7 (ckO_e e_1) mv_X10_act (by exact Nat.le_of_ble_eq_true rfl) (c_X10_act (Nat.le_trans (by decide) he) (ok_mono (ok_bind2 k) fun z_3 h_2 k => ?_))
  try dsimp only at k
  replace k := ok_bind k
  obtain ⟨u, e_4, k⟩ := k
  refine wp_callV1 (N := M_X10_answer) (ci := 10) mf_X10_answer mi_X10_answer me_X10_answer ml_X10_310 dX10_fly_10 (ckO_e e_4) mv_X10_answer (by exact Nat.le_of_ble_eq_true rfl) (c_X10_answer (Nat.le_trans (by decide) he) (ok_mono (ok_bind2 k) fun z_6 h_5 k => ?_))
  try dsimp only at k
  refine wp_iret rfl rfl dX10_fly_13 ?_
  exact (ok_some k :)
theorem c_X10_fly {S : SH} {d : Nat} {K : Option Value → AH → Prop} (hd : 6 ≤ d)  {r0 : Nat} {x1 : Int32} {x2 : Int32} {h : AH} (k : ok (f_X10_fly S r0 x1 x2 h) (fun w h' => K (some (.int w)) h')) : CP S M_X10_fly d 0 0 [.ref r0, .int x1, .int x2] h K := cp_of (by decide) (fun _ _ => trivial) (fun _ => Nat.le_of_ble_eq_true rfl) (s_X10_fly hd  k)
def f_X10_pass (S : SH) (r0 : Nat) (h : AH) : Option (Int32 × AH) :=
  (ckO S h r0 10).bind fun _ =>
  (f_X10_act S r0 (269 : Int32) (-1 : Int32) (-1 : Int32) h).bind fun z => match z with
  | (z_3, h_2) =>
  (ckO S h_2 r0 10).bind fun _ =>
  (f_X10_answer S r0 z_3 h_2).bind fun z => match z with
  | (z_6, h_5) =>
  some (z_6, h_5)
set_option maxHeartbeats 8000000 in
set_option maxRecDepth 20000 in
theorem s_X10_pass {S : SH} {d cb sb : Nat} {Q : Option Value → AH → Prop} (hd : 6 ≤ d)  {r0 : Nat} {h : AH} (k : ok (f_X10_pass S r0 h) (fun w h' => Q (some (.int w)) h')) : WP S M_X10_pass d cb sb Q 0 [.ref r0] [] h := by
  obtain ⟨d, rfl, he⟩ := dp (L := 5) hd
  unfold f_X10_pass at k
  refine wp_aload_n dX10_pass_0 rfl ?_
  refine wp_aload_n dX10_pass_1 rfl ?_
  refine wp_sipush dX10_pass_2 sp_269 ?_
  refine wp_iconst dX10_pass_5 ic_m1 ?_
  refine wp_iconst dX10_pass_6 ic_m1 ?_
  replace k := ok_bind k
  obtain ⟨u, e_1, k⟩ := k
  refine wp_callV3 (N := M_X10_act) (ci := 10) mf_X10_act mi_X10_act me_X10_act ml_X10_270 dX10_pass_7 (ckO_e e_1) mv_X10_act (by exact Nat.le_of_ble_eq_true rfl) (c_X10_act (Nat.le_trans (by decide) he) (ok_mono (ok_bind2 k) fun z_3 h_2 k => ?_))
  try dsimp only at k
  replace k := ok_bind k
  obtain ⟨u, e_4, k⟩ := k
  refine wp_callV1 (N := M_X10_answer) (ci := 10) mf_X10_answer mi_X10_answer me_X10_answer ml_X10_310 dX10_pass_10 (ckO_e e_4) mv_X10_answer (by exact Nat.le_of_ble_eq_true rfl) (c_X10_answer (Nat.le_trans (by decide) he) (ok_mono (ok_bind2 k) fun z_6 h_5 k => ?_))
  try dsimp only at k
  refine wp_iret rfl rfl dX10_pass_13 ?_
  exact (ok_some k :)
theorem c_X10_pass {S : SH} {d : Nat} {K : Option Value → AH → Prop} (hd : 6 ≤ d)  {r0 : Nat} {h : AH} (k : ok (f_X10_pass S r0 h) (fun w h' => K (some (.int w)) h')) : CP S M_X10_pass d 0 0 [.ref r0] h K := cp_of (by decide) (fun _ _ => trivial) (fun _ => Nat.le_of_ble_eq_true rfl) (s_X10_pass hd  k)
def f_X10_undo (S : SH) (r0 : Nat) (h : AH) : Option (Int32 × AH) :=
  (gR S h r0 10 4).bind fun p_1 =>
  (gR S h r0 10 2).bind fun p_3 =>
  (gR S h p_3 6 0).bind fun p_5 =>
  (ckO S h p_1 5).bind fun _ =>
  (f_X5_takeBack S p_1 p_5 h).bind fun z => match z with
  | (z_9, h_8) =>
  if z_9 = (-1 : Int32) then
    (ckO S h_8 r0 10).bind fun _ =>
    (f_X10_answer S r0 (-3 : Int32) h_8).bind fun z => match z with
    | (z_16, h_15) =>
    some (z_16, h_15)
  else
    (ckO S h_8 r0 10).bind fun _ =>
    (f_X10_answer S r0 z_9 h_8).bind fun z => match z with
    | (z_13, h_12) =>
    some (z_13, h_12)
set_option maxHeartbeats 8000000 in
set_option maxRecDepth 20000 in
theorem s_X10_undo {S : SH} {d cb sb : Nat} {Q : Option Value → AH → Prop} (hd : 3 ≤ d)  {r0 : Nat} {h : AH} (k : ok (f_X10_undo S r0 h) (fun w h' => Q (some (.int w)) h')) : WP S M_X10_undo d cb sb Q 0 [.ref r0, JK] [] h := by
  obtain ⟨d, rfl, he⟩ := dp (L := 2) hd
  unfold f_X10_undo at k
  refine wp_aload_n dX10_undo_0 rfl ?_
  replace k := ok_bind k
  obtain ⟨p_1, e_2, k⟩ := k
  refine wq_getR fl_X10_27 (Or.inl ⟨_, rfl⟩) dX10_undo_1 e_2 ?_
  refine wp_aload_n dX10_undo_4 rfl ?_
  replace k := ok_bind k
  obtain ⟨p_3, e_4, k⟩ := k
  refine wq_getR fl_X10_16 (Or.inl ⟨_, rfl⟩) dX10_undo_5 e_4 ?_
  replace k := ok_bind k
  obtain ⟨p_5, e_6, k⟩ := k
  refine wq_getR fl_X10_120 (Or.inl ⟨_, rfl⟩) dX10_undo_8 e_6 ?_
  replace k := ok_bind k
  obtain ⟨u, e_7, k⟩ := k
  refine wp_callV1 (N := M_X5_takeBack) (ci := 5) mf_X5_takeBack mi_X5_takeBack me_X5_takeBack ml_X10_313 dX10_undo_11 (ckO_e e_7) mv_X5_takeBack (by exact Nat.le_of_ble_eq_true rfl) (c_X5_takeBack (Nat.le_trans (by decide) he) (ok_mono (ok_bind2 k) fun z_9 h_8 k => ?_))
  try dsimp only at k
  refine wp_istore_n dX10_undo_14 (by decide) (L1 := [_, _]) rfl ?_
  refine wp_aload_n dX10_undo_15 rfl ?_
  refine wp_iload_n dX10_undo_16 rfl ?_
  refine wp_iconst dX10_undo_17 ic_m1 ?_
  refine wp_icmp_ne 26 dX10_undo_18 (by decide) (fun c_10 => ?_) (fun c_10 => ?_)
  · replace k := ok_f c_10 k
    refine wp_iload_n dX10_undo_26 rfl ?_
    replace k := ok_bind k
    obtain ⟨u, e_11, k⟩ := k
    refine wp_callV1 (N := M_X10_answer) (ci := 10) mf_X10_answer mi_X10_answer me_X10_answer ml_X10_310 dX10_undo_27 (ckO_e e_11) mv_X10_answer (by exact Nat.le_of_ble_eq_true rfl) (c_X10_answer (Nat.le_trans (by decide) he) (ok_mono (ok_bind2 k) fun z_13 h_12 k => ?_))
    try dsimp only at k
    refine wp_iret rfl rfl dX10_undo_30 ?_
    exact (ok_some k :)
  · replace k := ok_t c_10 k
    refine wp_bipush dX10_undo_21 bp_m3 ?_
    refine wp_goto 27 dX10_undo_23 (by decide) ?_
    replace k := ok_bind k
    obtain ⟨u, e_14, k⟩ := k
    refine wp_callV1 (N := M_X10_answer) (ci := 10) mf_X10_answer mi_X10_answer me_X10_answer ml_X10_310 dX10_undo_27 (ckO_e e_14) mv_X10_answer (by exact Nat.le_of_ble_eq_true rfl) (c_X10_answer (Nat.le_trans (by decide) he) (ok_mono (ok_bind2 k) fun z_16 h_15 k => ?_))
    try dsimp only at k
    refine wp_iret rfl rfl dX10_undo_30 ?_
    exact (ok_some k :)
theorem c_X10_undo {S : SH} {d : Nat} {K : Option Value → AH → Prop} (hd : 3 ≤ d)  {r0 : Nat} {h : AH} (k : ok (f_X10_undo S r0 h) (fun w h' => K (some (.int w)) h')) : CP S M_X10_undo d 0 0 [.ref r0] h K := cp_of (by decide) (fun _ _ => trivial) (fun _ => Nat.le_of_ble_eq_true rfl) (s_X10_undo hd  k)
def f_X10_second (S : SH) (r0 : Nat) (x1 : Int32) (x2 : Int32) (h : AH) : Option (Int32 × AH) :=
  (gR S h r0 10 2).bind fun p_1 =>
  (ckO S h p_1 6).bind fun _ =>
  (f_X6_hasMatter S p_1 x1 h).bind fun z => match z with
  | (z_5, h_4) =>
  if z_5 = (0 : Int32) then
    some ((-1 : Int32), h_4)
  else
    (gR S h_4 r0 10 2).bind fun p_7 =>
    (ckO S h_4 p_7 6).bind fun _ =>
    (f_X6_hasBird S p_7 x2 h_4).bind fun z => match z with
    | (z_11, h_10) =>
    if z_11 = (0 : Int32) then
      some ((-1 : Int32), h_10)
    else
      (gR S h_10 r0 10 10).bind fun p_13 =>
      (gR S h_10 r0 10 2).bind fun p_15 =>
      (gR S h_10 p_15 6 0).bind fun p_17 =>
      (ckO S h_10 p_13 1).bind fun _ =>
      (f_X1_seconder S p_13 p_17 x1 x2 h_10).bind fun z => match z with
      | (z_21, h_20) =>
      some (z_21, h_20)
set_option maxHeartbeats 8000000 in
set_option maxRecDepth 20000 in
theorem s_X10_second {S : SH} {d cb sb : Nat} {Q : Option Value → AH → Prop} (hd : 4 ≤ d)  {r0 : Nat} {x1 : Int32} {x2 : Int32} {h : AH} (k : ok (f_X10_second S r0 x1 x2 h) (fun w h' => Q (some (.int w)) h')) : WP S M_X10_second d cb sb Q 0 [.ref r0, .int x1, .int x2] [] h := by
  obtain ⟨d, rfl, he⟩ := dp (L := 3) hd
  unfold f_X10_second at k
  refine wp_aload_n dX10_second_0 rfl ?_
  replace k := ok_bind k
  obtain ⟨p_1, e_2, k⟩ := k
  refine wq_getR fl_X10_16 (Or.inl ⟨_, rfl⟩) dX10_second_1 e_2 ?_
  refine wp_iload_n dX10_second_4 rfl ?_
  replace k := ok_bind k
  obtain ⟨u, e_3, k⟩ := k
  refine wp_callV1 (N := M_X6_hasMatter) (ci := 6) mf_X6_hasMatter mi_X6_hasMatter me_X6_hasMatter ml_X10_133 dX10_second_5 (ckO_e e_3) mv_X6_hasMatter (by exact Nat.le_of_ble_eq_true rfl) (c_X6_hasMatter (Nat.le_trans (by decide) he) (ok_mono (ok_bind2 k) fun z_5 h_4 k => ?_))
  try dsimp only at k
  refine wp_if_eq 22 dX10_second_8 (by decide) (fun c_6 => ?_) (fun c_6 => ?_)
  · replace k := ok_t c_6 k
    refine wp_iconst dX10_second_22 ic_m1 ?_
    refine wp_iret rfl rfl dX10_second_23 ?_
    exact (ok_some k :)
  · replace k := ok_f c_6 k
    refine wp_aload_n dX10_second_11 rfl ?_
    replace k := ok_bind k
    obtain ⟨p_7, e_8, k⟩ := k
    refine wq_getR fl_X10_16 (Or.inl ⟨_, rfl⟩) dX10_second_12 e_8 ?_
    refine wp_iload_n dX10_second_15 rfl ?_
    replace k := ok_bind k
    obtain ⟨u, e_9, k⟩ := k
    refine wp_callV1 (N := M_X6_hasBird) (ci := 6) mf_X6_hasBird mi_X6_hasBird me_X6_hasBird ml_X10_113 dX10_second_16 (ckO_e e_9) mv_X6_hasBird (by exact Nat.le_of_ble_eq_true rfl) (c_X6_hasBird (Nat.le_trans (by decide) he) (ok_mono (ok_bind2 k) fun z_11 h_10 k => ?_))
    try dsimp only at k
    refine wp_if_ne 24 dX10_second_19 (by decide) (fun c_12 => ?_) (fun c_12 => ?_)
    · replace k := ok_f c_12 k
      refine wp_aload_n dX10_second_24 rfl ?_
      replace k := ok_bind k
      obtain ⟨p_13, e_14, k⟩ := k
      refine wq_getR fl_X10_63 (Or.inl ⟨_, rfl⟩) dX10_second_25 e_14 ?_
      refine wp_aload_n dX10_second_28 rfl ?_
      replace k := ok_bind k
      obtain ⟨p_15, e_16, k⟩ := k
      refine wq_getR fl_X10_16 (Or.inl ⟨_, rfl⟩) dX10_second_29 e_16 ?_
      replace k := ok_bind k
      obtain ⟨p_17, e_18, k⟩ := k
      refine wq_getR fl_X10_120 (Or.inl ⟨_, rfl⟩) dX10_second_32 e_18 ?_
      refine wp_iload_n dX10_second_35 rfl ?_
      refine wp_iload_n dX10_second_36 rfl ?_
      replace k := ok_bind k
      obtain ⟨u, e_19, k⟩ := k
      refine wp_callV3 (N := M_X1_seconder) (ci := 1) mf_X1_seconder mi_X1_seconder me_X1_seconder ml_X10_316 dX10_second_37 (ckO_e e_19) mv_X1_seconder (by exact Nat.le_of_ble_eq_true rfl) (c_X1_seconder (Nat.le_trans (by decide) he) (ok_mono (ok_bind2 k) fun z_21 h_20 k => ?_))
      try dsimp only at k
      refine wp_iret rfl rfl dX10_second_40 ?_
      exact (ok_some k :)
    · replace k := ok_t c_12 k
      refine wp_iconst dX10_second_22 ic_m1 ?_
      refine wp_iret rfl rfl dX10_second_23 ?_
      exact (ok_some k :)
theorem c_X10_second {S : SH} {d : Nat} {K : Option Value → AH → Prop} (hd : 4 ≤ d)  {r0 : Nat} {x1 : Int32} {x2 : Int32} {h : AH} (k : ok (f_X10_second S r0 x1 x2 h) (fun w h' => K (some (.int w)) h')) : CP S M_X10_second d 0 0 [.ref r0, .int x1, .int x2] h K := cp_of (by decide) (fun _ _ => trivial) (fun _ => Nat.le_of_ble_eq_true rfl) (s_X10_second hd  k)
def f_X10_richest (S : SH) (r0 : Nat) (x1 : Int32) (h : AH) : Option (Int32 × AH) :=
  (gR S h r0 10 11).bind fun p_1 =>
  (gR S h r0 10 2).bind fun p_3 =>
  (gR S h p_3 6 0).bind fun p_5 =>
  (ckO S h p_1 0).bind fun _ =>
  (f_X0_begin S p_1 p_5 h).bind fun z => match z with
  | (_, h_8) =>
  (gR S h_8 r0 10 11).bind fun p_10 =>
  (gR S h_8 r0 10 2).bind fun p_12 =>
  (gR S h_8 p_12 6 0).bind fun p_14 =>
  (gI S h_8 p_14 7 2).bind fun v_16 =>
  (gR S h_8 r0 10 10).bind fun p_18 =>
  (gR S h_8 r0 10 2).bind fun p_20 =>
  (gR S h_8 p_20 6 0).bind fun p_22 =>
  (ckO S h_8 p_18 1).bind fun _ =>
  (f_X1_moved S p_18 p_22 h_8).bind fun z => match z with
  | (z_26, h_25) =>
  (ckO S h_25 p_10 0).bind fun _ =>
  (f_Go S 10 p_10 v_16 (0 : Int32) (0 : Int32) z_26 h_25).bind fun z => match z with
  | (_, h_28) =>
  if x1 = (-1 : Int32) then
    (gR S h_28 r0 10 11).bind fun p_44 =>
    (gI S h_28 p_44 0 6).bind fun v_46 =>
    some (v_46, h_28)
  else
    if x1 < (0 : Int32) then
      some ((-1 : Int32), h_28)
    else
      (gR S h_28 r0 10 11).bind fun p_32 =>
      (gI S h_28 p_32 0 5).bind fun v_34 =>
      if v_34 ≤ x1 then
        some ((-1 : Int32), h_28)
      else
        if (6 : Int32) ≤ x1 then
          some ((-1 : Int32), h_28)
        else
          (gR S h_28 r0 10 11).bind fun p_38 =>
          (gR S h_28 p_38 0 4).bind fun p_40 =>
          (aI S h_28 p_40 x1).bind fun v_42 =>
          some (v_42, h_28)
set_option maxHeartbeats 8000000 in
set_option maxRecDepth 20000 in
theorem s_X10_richest {S : SH} {d cb sb : Nat} {Q : Option Value → AH → Prop} (hd : 17 ≤ d)  {r0 : Nat} {x1 : Int32} {h : AH} (k : ok (f_X10_richest S r0 x1 h) (fun w h' => Q (some (.int w)) h')) : WP S M_X10_richest d cb sb Q 0 [.ref r0, .int x1] [] h := by
  obtain ⟨d, rfl, he⟩ := dp (L := 16) hd
  unfold f_X10_richest at k
  refine wp_aload_n dX10_richest_0 rfl ?_
  replace k := ok_bind k
  obtain ⟨p_1, e_2, k⟩ := k
  refine wq_getR fl_X10_72 (Or.inl ⟨_, rfl⟩) dX10_richest_1 e_2 ?_
  refine wp_aload_n dX10_richest_4 rfl ?_
  replace k := ok_bind k
  obtain ⟨p_3, e_4, k⟩ := k
  refine wq_getR fl_X10_16 (Or.inl ⟨_, rfl⟩) dX10_richest_5 e_4 ?_
  replace k := ok_bind k
  obtain ⟨p_5, e_6, k⟩ := k
  refine wq_getR fl_X10_120 (Or.inl ⟨_, rfl⟩) dX10_richest_8 e_6 ?_
  replace k := ok_bind k
  obtain ⟨u, e_7, k⟩ := k
  refine wp_callV1 (N := M_X0_begin) (ci := 0) mf_X0_begin mi_X0_begin me_X0_begin ml_X10_319 dX10_richest_11 (ckO_e e_7) mv_X0_begin (by exact Nat.le_of_ble_eq_true rfl) (c_X0_begin (Nat.le_trans (by decide) he) (ok_mono (ok_bind2 k) fun _ h_8 k => ?_))
  try dsimp only at k
  refine wp_aload_n dX10_richest_14 rfl ?_
  replace k := ok_bind k
  obtain ⟨p_10, e_11, k⟩ := k
  refine wq_getR fl_X10_72 (Or.inl ⟨_, rfl⟩) dX10_richest_15 e_11 ?_
  refine wp_aload_n dX10_richest_18 rfl ?_
  replace k := ok_bind k
  obtain ⟨p_12, e_13, k⟩ := k
  refine wq_getR fl_X10_16 (Or.inl ⟨_, rfl⟩) dX10_richest_19 e_13 ?_
  replace k := ok_bind k
  obtain ⟨p_14, e_15, k⟩ := k
  refine wq_getR fl_X10_120 (Or.inl ⟨_, rfl⟩) dX10_richest_22 e_15 ?_
  replace k := ok_bind k
  obtain ⟨v_16, e_17, k⟩ := k
  refine wq_getI fl_X10_277 (Or.inl rfl) dX10_richest_25 e_17 ?_
  refine wp_iconst dX10_richest_28 ic_0 ?_
  refine wp_iconst dX10_richest_29 ic_0 ?_
  refine wp_aload_n dX10_richest_30 rfl ?_
  replace k := ok_bind k
  obtain ⟨p_18, e_19, k⟩ := k
  refine wq_getR fl_X10_63 (Or.inl ⟨_, rfl⟩) dX10_richest_31 e_19 ?_
  refine wp_aload_n dX10_richest_34 rfl ?_
  replace k := ok_bind k
  obtain ⟨p_20, e_21, k⟩ := k
  refine wq_getR fl_X10_16 (Or.inl ⟨_, rfl⟩) dX10_richest_35 e_21 ?_
  replace k := ok_bind k
  obtain ⟨p_22, e_23, k⟩ := k
  refine wq_getR fl_X10_120 (Or.inl ⟨_, rfl⟩) dX10_richest_38 e_23 ?_
  replace k := ok_bind k
  obtain ⟨u, e_24, k⟩ := k
  refine wp_callV1 (N := M_X1_moved) (ci := 1) mf_X1_moved mi_X1_moved me_X1_moved ml_X10_322 dX10_richest_41 (ckO_e e_24) mv_X1_moved (by exact Nat.le_of_ble_eq_true rfl) (c_X1_moved (Nat.le_trans (by decide) he) (ok_mono (ok_bind2 k) fun z_26 h_25 k => ?_))
  try dsimp only at k
  replace k := ok_bind k
  obtain ⟨u, e_27, k⟩ := k
  refine wp_callVN4 (host := RX10) (N := M_X0_goOn) (ci := 0) mf_X0_goOn mi_X0_goOn me_X0_goOn (List.mem_of_getElem? (i := 10) rfl) dX10_richest_44 (ckO_e e_27) mv_X0_goOn (by exact Nat.le_of_ble_eq_true rfl) (c_X0_goOn (Nat.le_trans (by decide) he) (ok_mono (ok_bind2 k) fun _ h_28 k => ?_))
  try dsimp only at k
  refine wp_iload_n dX10_richest_47 rfl ?_
  refine wp_iconst dX10_richest_48 ic_m1 ?_
  refine wp_icmp_ne 60 dX10_richest_49 (by decide) (fun c_30 => ?_) (fun c_30 => ?_)
  · replace k := ok_f c_30 k
    refine wp_iload_n dX10_richest_60 rfl ?_
    refine wp_if_lt 93 dX10_richest_61 (by decide) (fun c_31 => ?_) (fun c_31 => ?_)
    · replace k := ok_t c_31 k
      refine wp_iconst dX10_richest_93 ic_m1 ?_
      refine wp_iret rfl rfl dX10_richest_94 ?_
      exact (ok_some k :)
    · replace k := ok_f c_31 k
      refine wp_iload_n dX10_richest_64 rfl ?_
      refine wp_aload_n dX10_richest_65 rfl ?_
      replace k := ok_bind k
      obtain ⟨p_32, e_33, k⟩ := k
      refine wq_getR fl_X10_72 (Or.inl ⟨_, rfl⟩) dX10_richest_66 e_33 ?_
      replace k := ok_bind k
      obtain ⟨v_34, e_35, k⟩ := k
      refine wq_getI fl_X10_332 (Or.inl rfl) dX10_richest_69 e_35 ?_
      refine wp_icmp_ge 93 dX10_richest_72 (by decide) (fun c_36 => ?_) (fun c_36 => ?_)
      · replace k := ok_t c_36 k
        refine wp_iconst dX10_richest_93 ic_m1 ?_
        refine wp_iret rfl rfl dX10_richest_94 ?_
        exact (ok_some k :)
      · replace k := ok_f c_36 k
        refine wp_iload_n dX10_richest_75 rfl ?_
        refine wp_bipush dX10_richest_76 bp_6 ?_
        refine wp_icmp_ge 93 dX10_richest_78 (by decide) (fun c_37 => ?_) (fun c_37 => ?_)
        · replace k := ok_t c_37 k
          refine wp_iconst dX10_richest_93 ic_m1 ?_
          refine wp_iret rfl rfl dX10_richest_94 ?_
          exact (ok_some k :)
        · replace k := ok_f c_37 k
          refine wp_aload_n dX10_richest_81 rfl ?_
          replace k := ok_bind k
          obtain ⟨p_38, e_39, k⟩ := k
          refine wq_getR fl_X10_72 (Or.inl ⟨_, rfl⟩) dX10_richest_82 e_39 ?_
          replace k := ok_bind k
          obtain ⟨p_40, e_41, k⟩ := k
          refine wq_getR fl_X10_335 (Or.inr ⟨_, rfl⟩) dX10_richest_85 e_41 ?_
          refine wp_iload_n dX10_richest_88 rfl ?_
          replace k := ok_bind k
          obtain ⟨v_42, e_43, k⟩ := k
          refine wq_aI dX10_richest_89 e_43 ?_
          refine wp_goto 94 dX10_richest_90 (by decide) ?_
          refine wp_iret rfl rfl dX10_richest_94 ?_
          exact (ok_some k :)
  · replace k := ok_t c_30 k
    refine wp_aload_n dX10_richest_52 rfl ?_
    replace k := ok_bind k
    obtain ⟨p_44, e_45, k⟩ := k
    refine wq_getR fl_X10_72 (Or.inl ⟨_, rfl⟩) dX10_richest_53 e_45 ?_
    replace k := ok_bind k
    obtain ⟨v_46, e_47, k⟩ := k
    refine wq_getI fl_X10_329 (Or.inl rfl) dX10_richest_56 e_47 ?_
    refine wp_iret rfl rfl dX10_richest_59 ?_
    exact (ok_some k :)
theorem c_X10_richest {S : SH} {d : Nat} {K : Option Value → AH → Prop} (hd : 17 ≤ d)  {r0 : Nat} {x1 : Int32} {h : AH} (k : ok (f_X10_richest S r0 x1 h) (fun w h' => K (some (.int w)) h')) : CP S M_X10_richest d 0 0 [.ref r0, .int x1] h K := cp_of (by decide) (fun _ _ => trivial) (fun _ => Nat.le_of_ble_eq_true rfl) (s_X10_richest hd  k)
def f_X10_byClock_l30_j74 (S : SH) (rc : Nat → Int32 → Int32 → Int32 → AH → Option (Int32 × AH)) (r0 : Nat) (x1 : Int32) (x2 : Int32) (x3 : Int32) (sx0 : Int32) (h : AH) : Option (Int32 × AH) :=
  if sx0 = (0 : Int32) then
    lt (x3 + (1 : Int32)) fun y_2 =>
    rc r0 x1 x2 y_2 h
  else
    (gR S h r0 10 7).bind fun p_3 =>
    (gI S h p_3 7 2).bind fun v_5 =>
    if x1 < v_5 then
      lt (x3 + (1 : Int32)) fun y_8 =>
      rc r0 x1 x2 y_8 h
    else
      (gR S h r0 10 2).bind fun p_9 =>
      (gR S h p_9 6 6).bind fun p_11 =>
      (aI S h p_11 x3).bind fun v_13 =>
      lt ((x2 + v_13)) fun y_15 =>
      lt (x3 + (1 : Int32)) fun y_16 =>
      rc r0 x1 y_15 y_16 h
set_option maxHeartbeats 8000000 in
set_option maxRecDepth 20000 in
theorem s_X10_byClock_l30_j74 {S : SH} {d cb sb : Nat} {Q : Option Value → AH → Prop} (hd : 5 ≤ d) {K : Int32 → AH → Prop} (hex : ∀ (x2 : Int32) (h' : AH), K x2 h' → WP S M_X10_byClock d cb sb Q 110 [JK, JK, .int x2, JK, JK] [] h') {rc : Nat → Int32 → Int32 → Int32 → AH → Option (Int32 × AH)} (hrec : ∀ (r0 : Nat) (x1 : Int32) (x2 : Int32) (x3 : Int32) (h' : AH), ok (rc r0 x1 x2 x3 h') K → WP S M_X10_byClock d cb sb Q 30 [.ref r0, .int x1, .int x2, .int x3, JK] [] h') {r0 : Nat} {x1 : Int32} {x2 : Int32} {x3 : Int32} {sx0 : Int32} {h : AH} (k : ok (f_X10_byClock_l30_j74 S rc r0 x1 x2 x3 sx0 h) K) : WP S M_X10_byClock d cb sb Q 74 [.ref r0, .int x1, .int x2, .int x3, JK] [.int sx0] h := by
  obtain ⟨d, rfl, he⟩ := dp (L := 4) hd
  unfold f_X10_byClock_l30_j74 at k
  refine wp_istore dX10_byClock_74 (by decide) (L1 := [_, _, _, _, _]) rfl ?_
  refine wp_iload dX10_byClock_76 rfl ?_
  refine wp_if_eq 104 dX10_byClock_78 (by decide) (fun c_1 => ?_) (fun c_1 => ?_)
  · replace k := ok_t c_1 k
    replace k := ok_lt k
    refine wp_iinc dX10_byClock_104 rfl ic_1 (by decide) (L1 := [_, _, _, _, _]) rfl ?_
    refine wp_goto 30 dX10_byClock_107 (by decide) ?_
    exact wp_wk (wkE <| wkE <| wkE <| wkE <| wkJ <| wkN) (hrec _ _ _ _ _ k)
  · replace k := ok_f c_1 k
    refine wp_aload_n dX10_byClock_81 rfl ?_
    replace k := ok_bind k
    obtain ⟨p_3, e_4, k⟩ := k
    refine wq_getR fl_X10_41 (Or.inl ⟨_, rfl⟩) dX10_byClock_82 e_4 ?_
    replace k := ok_bind k
    obtain ⟨v_5, e_6, k⟩ := k
    refine wq_getI fl_X10_277 (Or.inl rfl) dX10_byClock_85 e_6 ?_
    refine wp_iload_n dX10_byClock_88 rfl ?_
    refine wp_icmp_gt 104 dX10_byClock_89 (by decide) (fun c_7 => ?_) (fun c_7 => ?_)
    · replace k := ok_t c_7 k
      replace k := ok_lt k
      refine wp_iinc dX10_byClock_104 rfl ic_1 (by decide) (L1 := [_, _, _, _, _]) rfl ?_
      refine wp_goto 30 dX10_byClock_107 (by decide) ?_
      exact wp_wk (wkE <| wkE <| wkE <| wkE <| wkJ <| wkN) (hrec _ _ _ _ _ k)
    · replace k := ok_f c_7 k
      refine wp_iload_n dX10_byClock_92 rfl ?_
      refine wp_aload_n dX10_byClock_93 rfl ?_
      replace k := ok_bind k
      obtain ⟨p_9, e_10, k⟩ := k
      refine wq_getR fl_X10_16 (Or.inl ⟨_, rfl⟩) dX10_byClock_94 e_10 ?_
      replace k := ok_bind k
      obtain ⟨p_11, e_12, k⟩ := k
      refine wq_getR fl_X10_157 (Or.inr ⟨_, rfl⟩) dX10_byClock_97 e_12 ?_
      refine wp_iload_n dX10_byClock_100 rfl ?_
      replace k := ok_bind k
      obtain ⟨v_13, e_14, k⟩ := k
      refine wq_aI dX10_byClock_101 e_14 ?_
      refine wp_iadd dX10_byClock_102 ?_
      replace k := ok_lt k
      refine wp_istore_n dX10_byClock_103 (by decide) (L1 := [_, _, _, _, _]) rfl ?_
      replace k := ok_lt k
      refine wp_iinc dX10_byClock_104 rfl ic_1 (by decide) (L1 := [_, _, _, _, _]) rfl ?_
      refine wp_goto 30 dX10_byClock_107 (by decide) ?_
      exact wp_wk (wkE <| wkE <| wkE <| wkE <| wkJ <| wkN) (hrec _ _ _ _ _ k)
def f_X10_byClock_l30_j73 (S : SH) (rc : Nat → Int32 → Int32 → Int32 → AH → Option (Int32 × AH)) (r0 : Nat) (x1 : Int32) (x2 : Int32) (x3 : Int32) (h : AH) : Option (Int32 × AH) :=
  f_X10_byClock_l30_j74 S rc r0 x1 x2 x3 (0 : Int32) h
set_option maxHeartbeats 8000000 in
set_option maxRecDepth 20000 in
theorem s_X10_byClock_l30_j73 {S : SH} {d cb sb : Nat} {Q : Option Value → AH → Prop} (hd : 5 ≤ d) {K : Int32 → AH → Prop} (hex : ∀ (x2 : Int32) (h' : AH), K x2 h' → WP S M_X10_byClock d cb sb Q 110 [JK, JK, .int x2, JK, JK] [] h') {rc : Nat → Int32 → Int32 → Int32 → AH → Option (Int32 × AH)} (hrec : ∀ (r0 : Nat) (x1 : Int32) (x2 : Int32) (x3 : Int32) (h' : AH), ok (rc r0 x1 x2 x3 h') K → WP S M_X10_byClock d cb sb Q 30 [.ref r0, .int x1, .int x2, .int x3, JK] [] h') {r0 : Nat} {x1 : Int32} {x2 : Int32} {x3 : Int32} {h : AH} (k : ok (f_X10_byClock_l30_j73 S rc r0 x1 x2 x3 h) K) : WP S M_X10_byClock d cb sb Q 73 [.ref r0, .int x1, .int x2, .int x3, JK] [] h := by
  obtain ⟨d, rfl, he⟩ := dp (L := 4) hd
  unfold f_X10_byClock_l30_j73 at k
  refine wp_iconst dX10_byClock_73 ic_0 ?_
  exact wp_wk (wkE <| wkE <| wkE <| wkE <| wkJ <| wkN) (s_X10_byClock_l30_j74 (Nat.succ_le_succ he) hex hrec k)
def f_X10_byClock_l30b (S : SH) (rc : Nat → Int32 → Int32 → Int32 → AH → Option (Int32 × AH)) (r0 : Nat) (x1 : Int32) (x2 : Int32) (x3 : Int32) (h : AH) : Option (Int32 × AH) :=
  (gR S h r0 10 2).bind fun p_1 =>
  (gI S h p_1 6 4).bind fun v_3 =>
  if v_3 ≤ x3 then
    some (x2, h)
  else
    (gR S h r0 10 10).bind fun p_6 =>
    (gR S h r0 10 7).bind fun p_8 =>
    (ckO S h p_6 1).bind fun _ =>
    (f_X1_dividing S p_6 p_8 x3 h).bind fun z => match z with
    | (z_12, h_11) =>
    if z_12 < (0 : Int32) then
      f_X10_byClock_l30_j73 S rc r0 x1 x2 x3 h_11
    else
      (gR S h_11 r0 10 7).bind fun p_14 =>
      (gR S h_11 p_14 7 1).bind fun p_16 =>
      (aI S h_11 p_16 x3).bind fun v_18 =>
      if v_18 = (2 : Int32) then
        f_X10_byClock_l30_j74 S rc r0 x1 x2 x3 (1 : Int32) h_11
      else
        f_X10_byClock_l30_j73 S rc r0 x1 x2 x3 h_11
set_option maxHeartbeats 8000000 in
set_option maxRecDepth 20000 in
theorem s_X10_byClock_l30b {S : SH} {d cb sb : Nat} {Q : Option Value → AH → Prop} (hd : 5 ≤ d) {K : Int32 → AH → Prop} (hex : ∀ (x2 : Int32) (h' : AH), K x2 h' → WP S M_X10_byClock d cb sb Q 110 [JK, JK, .int x2, JK, JK] [] h') {rc : Nat → Int32 → Int32 → Int32 → AH → Option (Int32 × AH)} (hrec : ∀ (r0 : Nat) (x1 : Int32) (x2 : Int32) (x3 : Int32) (h' : AH), ok (rc r0 x1 x2 x3 h') K → WP S M_X10_byClock d cb sb Q 30 [.ref r0, .int x1, .int x2, .int x3, JK] [] h') {r0 : Nat} {x1 : Int32} {x2 : Int32} {x3 : Int32} {h : AH} (k : ok (f_X10_byClock_l30b S rc r0 x1 x2 x3 h) K) : WP S M_X10_byClock d cb sb Q 30 [.ref r0, .int x1, .int x2, .int x3, JK] [] h := by
  obtain ⟨d, rfl, he⟩ := dp (L := 4) hd
  unfold f_X10_byClock_l30b at k
  refine wp_iload_n dX10_byClock_30 rfl ?_
  refine wp_aload_n dX10_byClock_31 rfl ?_
  replace k := ok_bind k
  obtain ⟨p_1, e_2, k⟩ := k
  refine wq_getR fl_X10_16 (Or.inl ⟨_, rfl⟩) dX10_byClock_32 e_2 ?_
  replace k := ok_bind k
  obtain ⟨v_3, e_4, k⟩ := k
  refine wq_getI fl_X10_148 (Or.inl rfl) dX10_byClock_35 e_4 ?_
  refine wp_icmp_ge 110 dX10_byClock_38 (by decide) (fun c_5 => ?_) (fun c_5 => ?_)
  · replace k := ok_t c_5 k
    exact wp_wk (wkJ <| wkJ <| wkE <| wkJ <| wkJ <| wkN) (hex _ _ (ok_some k))
  · replace k := ok_f c_5 k
    refine wp_aload_n dX10_byClock_41 rfl ?_
    replace k := ok_bind k
    obtain ⟨p_6, e_7, k⟩ := k
    refine wq_getR fl_X10_63 (Or.inl ⟨_, rfl⟩) dX10_byClock_42 e_7 ?_
    refine wp_aload_n dX10_byClock_45 rfl ?_
    replace k := ok_bind k
    obtain ⟨p_8, e_9, k⟩ := k
    refine wq_getR fl_X10_41 (Or.inl ⟨_, rfl⟩) dX10_byClock_46 e_9 ?_
    refine wp_iload_n dX10_byClock_49 rfl ?_
    replace k := ok_bind k
    obtain ⟨u, e_10, k⟩ := k
    refine wp_callV2 (N := M_X1_dividing) (ci := 1) mf_X1_dividing mi_X1_dividing me_X1_dividing ml_X10_180 dX10_byClock_50 (ckO_e e_10) mv_X1_dividing (by exact Nat.le_of_ble_eq_true rfl) (c_X1_dividing (Nat.le_trans (by decide) he) (ok_mono (ok_bind2 k) fun z_12 h_11 k => ?_))
    try dsimp only at k
    refine wp_if_lt 73 dX10_byClock_53 (by decide) (fun c_13 => ?_) (fun c_13 => ?_)
    · replace k := ok_t c_13 k
      exact wp_wk (wkE <| wkE <| wkE <| wkE <| wkJ <| wkN) (s_X10_byClock_l30_j73 (Nat.succ_le_succ he) hex hrec k)
    · replace k := ok_f c_13 k
      refine wp_aload_n dX10_byClock_56 rfl ?_
      replace k := ok_bind k
      obtain ⟨p_14, e_15, k⟩ := k
      refine wq_getR fl_X10_41 (Or.inl ⟨_, rfl⟩) dX10_byClock_57 e_15 ?_
      replace k := ok_bind k
      obtain ⟨p_16, e_17, k⟩ := k
      refine wq_getR fl_X10_160 (Or.inr ⟨_, rfl⟩) dX10_byClock_60 e_17 ?_
      refine wp_iload_n dX10_byClock_63 rfl ?_
      replace k := ok_bind k
      obtain ⟨v_18, e_19, k⟩ := k
      refine wq_aI dX10_byClock_64 e_19 ?_
      refine wp_iconst dX10_byClock_65 ic_2 ?_
      refine wp_icmp_ne 73 dX10_byClock_66 (by decide) (fun c_20 => ?_) (fun c_20 => ?_)
      · replace k := ok_f c_20 k
        exact wp_wk (wkE <| wkE <| wkE <| wkE <| wkJ <| wkN) (s_X10_byClock_l30_j73 (Nat.succ_le_succ he) hex hrec k)
      · replace k := ok_t c_20 k
        refine wp_iconst dX10_byClock_69 ic_1 ?_
        refine wp_goto 74 dX10_byClock_70 (by decide) ?_
        exact wp_wk (wkE <| wkE <| wkE <| wkE <| wkJ <| wkN) (s_X10_byClock_l30_j74 (Nat.succ_le_succ he) hex hrec k)
def f_X10_byClock_l30 (S : SH) : Nat → Nat → Int32 → Int32 → Int32 → AH → Option (Int32 × AH)
  | 0, _, _, _, _, _ => none
  | n + 1, r0, x1, x2, x3, h => f_X10_byClock_l30b S (f_X10_byClock_l30 S n) r0 x1 x2 x3 h
theorem s_X10_byClock_l30 {S : SH} {d cb sb : Nat} {Q : Option Value → AH → Prop} (hd : 5 ≤ d) {K : Int32 → AH → Prop} (hex : ∀ (x2 : Int32) (h' : AH), K x2 h' → WP S M_X10_byClock d cb sb Q 110 [JK, JK, .int x2, JK, JK] [] h') : ∀ (n : Nat) (r0 : Nat) (x1 : Int32) (x2 : Int32) (x3 : Int32) (h : AH), ok (f_X10_byClock_l30 S n r0 x1 x2 x3 h) K → WP S M_X10_byClock d cb sb Q 30 [.ref r0, .int x1, .int x2, .int x3, JK] [] h := by
  intro n
  induction n with
  | zero => intro r0 x1 x2 x3 h k; exact ok_none k
  | succ n ih => intro r0 x1 x2 x3 h k; exact s_X10_byClock_l30b hd hex (fun r0 x1 x2 x3 h k => ih r0 x1 x2 x3 h k) k
def f_X10_byClock (S : SH) (r0 : Nat) (x1 : Int32) (h : AH) : Option (Int32 × AH) :=
  if x1 < (0 : Int32) then
    some ((-1 : Int32), h)
  else
    if x1 ≤ (48 : Int32) then
      (gR S h r0 10 7).bind fun p_3 =>
      (gR S h r0 10 2).bind fun p_5 =>
      (gR S h p_5 6 0).bind fun p_7 =>
      (ckO S h p_3 7).bind fun _ =>
      (f_X7_become S p_3 p_7 h).bind fun z => match z with
      | (_, h_10) =>
      (f_X10_byClock_l30 S FU r0 x1 (0 : Int32) (0 : Int32) h_10).bind fun z => match z with
      | (x2_13, h_12) =>
      some (x2_13, h_12)
    else
      some ((-1 : Int32), h)
set_option maxHeartbeats 8000000 in
set_option maxRecDepth 20000 in
theorem s_X10_byClock {S : SH} {d cb sb : Nat} {Q : Option Value → AH → Prop} (hd : 5 ≤ d)  {r0 : Nat} {x1 : Int32} {h : AH} (k : ok (f_X10_byClock S r0 x1 h) (fun w h' => Q (some (.int w)) h')) : WP S M_X10_byClock d cb sb Q 0 [.ref r0, .int x1, JK, JK, JK] [] h := by
  obtain ⟨d, rfl, he⟩ := dp (L := 4) hd
  unfold f_X10_byClock at k
  refine wp_iload_n dX10_byClock_0 rfl ?_
  refine wp_if_lt 10 dX10_byClock_1 (by decide) (fun c_1 => ?_) (fun c_1 => ?_)
  · replace k := ok_t c_1 k
    refine wp_iconst dX10_byClock_10 ic_m1 ?_
    refine wp_iret rfl rfl dX10_byClock_11 ?_
    exact (ok_some k :)
  · replace k := ok_f c_1 k
    refine wp_iload_n dX10_byClock_4 rfl ?_
    refine wp_bipush dX10_byClock_5 bp_48 ?_
    refine wp_icmp_le 12 dX10_byClock_7 (by decide) (fun c_2 => ?_) (fun c_2 => ?_)
    · replace k := ok_t c_2 k
      refine wp_aload_n dX10_byClock_12 rfl ?_
      replace k := ok_bind k
      obtain ⟨p_3, e_4, k⟩ := k
      refine wq_getR fl_X10_41 (Or.inl ⟨_, rfl⟩) dX10_byClock_13 e_4 ?_
      refine wp_aload_n dX10_byClock_16 rfl ?_
      replace k := ok_bind k
      obtain ⟨p_5, e_6, k⟩ := k
      refine wq_getR fl_X10_16 (Or.inl ⟨_, rfl⟩) dX10_byClock_17 e_6 ?_
      replace k := ok_bind k
      obtain ⟨p_7, e_8, k⟩ := k
      refine wq_getR fl_X10_120 (Or.inl ⟨_, rfl⟩) dX10_byClock_20 e_8 ?_
      replace k := ok_bind k
      obtain ⟨u, e_9, k⟩ := k
      refine wp_callV1 (N := M_X7_become) (ci := 7) mf_X7_become mi_X7_become me_X7_become ml_X10_176 dX10_byClock_23 (ckO_e e_9) mv_X7_become (by exact Nat.le_of_ble_eq_true rfl) (c_X7_become (Nat.le_trans (by decide) he) (ok_mono (ok_bind2 k) fun _ h_10 k => ?_))
      try dsimp only at k
      refine wp_iconst dX10_byClock_26 ic_0 ?_
      refine wp_istore_n dX10_byClock_27 (by decide) (L1 := [_, _, _, _, _]) rfl ?_
      refine wp_iconst dX10_byClock_28 ic_0 ?_
      refine wp_istore_n dX10_byClock_29 (by decide) (L1 := [_, _, _, _, _]) rfl ?_
      refine wp_wk (wkE <| wkE <| wkE <| wkE <| wkJ <| wkN) ?_
      refine s_X10_byClock_l30 (Nat.succ_le_succ he) (fun x2_13 h_12 k => ?_) FU _ _ _ _ _ (ok_bind2 k)
      try dsimp only at k
      refine wp_iload_n dX10_byClock_110 rfl ?_
      refine wp_iret rfl rfl dX10_byClock_111 ?_
      exact (ok_some k :)
    · replace k := ok_f c_2 k
      refine wp_iconst dX10_byClock_10 ic_m1 ?_
      refine wp_iret rfl rfl dX10_byClock_11 ?_
      exact (ok_some k :)
theorem c_X10_byClock {S : SH} {d : Nat} {K : Option Value → AH → Prop} (hd : 5 ≤ d)  {r0 : Nat} {x1 : Int32} {h : AH} (k : ok (f_X10_byClock S r0 x1 h) (fun w h' => K (some (.int w)) h')) : CP S M_X10_byClock d 0 0 [.ref r0, .int x1] h K := cp_of (by decide) (fun _ _ => trivial) (fun _ => Nat.le_of_ble_eq_true rfl) (s_X10_byClock hd  k)

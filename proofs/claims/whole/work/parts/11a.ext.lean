def f_X7_become (S : SH) (r0 : Nat) (r1 : Nat) (h : AH) : Option (Unit × AH) :=
  (gR S h r1 7 0).bind fun p_1 =>
  (gR S h r0 7 0).bind fun p_3 =>
  (cpI S h p_1 (0 : Int32) p_3 (0 : Int32) (7 : Int32)).bind fun h_5 =>
  (gR S h_5 r1 7 1).bind fun p_7 =>
  (gR S h_5 r0 7 1).bind fun p_9 =>
  (cpI S h_5 p_7 (0 : Int32) p_9 (0 : Int32) (6 : Int32)).bind fun h_11 =>
  (gI S h_11 r1 7 2).bind fun v_13 =>
  (pI S h_11 r0 7 2 v_13).bind fun h_15 =>
  (gI S h_15 r1 7 3).bind fun v_17 =>
  (pI S h_15 r0 7 3 v_17).bind fun h_19 =>
  some ((), h_19)
set_option maxHeartbeats 8000000 in
set_option maxRecDepth 20000 in
theorem s_X7_become {S : SH} {d cb sb : Nat} {Q : Option Value → AH → Prop} (hd : 1 ≤ d)  {r0 : Nat} {r1 : Nat} {h : AH} (k : ok (f_X7_become S r0 r1 h) (fun _ h' => Q none h')) : WP S M_X7_become d cb sb Q 0 [.ref r0, .ref r1] [] h := by
  obtain ⟨d, rfl, he⟩ := dp (L := 0) hd
  unfold f_X7_become at k
  refine wp_aload_n dX7_become_0 rfl ?_
  replace k := ok_bind k
  obtain ⟨p_1, e_2, k⟩ := k
  refine wq_getR fl_X7_9 (Or.inr ⟨_, rfl⟩) dX7_become_1 e_2 ?_
  refine wp_iconst dX7_become_4 ic_0 ?_
  refine wp_aload_n dX7_become_5 rfl ?_
  replace k := ok_bind k
  obtain ⟨p_3, e_4, k⟩ := k
  refine wq_getR fl_X7_9 (Or.inr ⟨_, rfl⟩) dX7_become_6 e_4 ?_
  refine wp_iconst dX7_become_9 ic_0 ?_
  refine wp_bipush dX7_become_10 bp_7 ?_
  replace k := ok_bind k
  obtain ⟨h_5, e_6, k⟩ := k
  refine wq_cpI ml_X7_18 acn acs aci (by exact Nat.le_of_ble_eq_true rfl) dX7_become_12 e_6 ?_
  refine wp_aload_n dX7_become_15 rfl ?_
  replace k := ok_bind k
  obtain ⟨p_7, e_8, k⟩ := k
  refine wq_getR fl_X7_15 (Or.inr ⟨_, rfl⟩) dX7_become_16 e_8 ?_
  refine wp_iconst dX7_become_19 ic_0 ?_
  refine wp_aload_n dX7_become_20 rfl ?_
  replace k := ok_bind k
  obtain ⟨p_9, e_10, k⟩ := k
  refine wq_getR fl_X7_15 (Or.inr ⟨_, rfl⟩) dX7_become_21 e_10 ?_
  refine wp_iconst dX7_become_24 ic_0 ?_
  refine wp_bipush dX7_become_25 bp_6 ?_
  replace k := ok_bind k
  obtain ⟨h_11, e_12, k⟩ := k
  refine wq_cpI ml_X7_18 acn acs aci (by exact Nat.le_of_ble_eq_true rfl) dX7_become_27 e_12 ?_
  refine wp_aload_n dX7_become_30 rfl ?_
  refine wp_aload_n dX7_become_31 rfl ?_
  replace k := ok_bind k
  obtain ⟨v_13, e_14, k⟩ := k
  refine wq_getI fl_X7_24 (Or.inl rfl) dX7_become_32 e_14 ?_
  replace k := ok_bind k
  obtain ⟨h_15, e_16, k⟩ := k
  refine wq_putI fl_X7_24 rfl rfl dX7_become_35 e_16 ?_
  refine wp_aload_n dX7_become_38 rfl ?_
  refine wp_aload_n dX7_become_39 rfl ?_
  replace k := ok_bind k
  obtain ⟨v_17, e_18, k⟩ := k
  refine wq_getI fl_X7_28 (Or.inl rfl) dX7_become_40 e_18 ?_
  replace k := ok_bind k
  obtain ⟨h_19, e_20, k⟩ := k
  refine wq_putI fl_X7_28 rfl rfl dX7_become_43 e_20 ?_
  refine wp_vret rfl dX7_become_46 ?_
  exact (ok_some k :)
theorem c_X7_become {S : SH} {d : Nat} {K : Option Value → AH → Prop} (hd : 1 ≤ d)  {r0 : Nat} {r1 : Nat} {h : AH} (k : ok (f_X7_become S r0 r1 h) (fun _ h' => K none h')) : CP S M_X7_become d 0 0 [.ref r0, .ref r1] h K := cp_of (by decide) (fun _ _ => trivial) (fun _ => Nat.le_of_ble_eq_true rfl) (s_X7_become hd  k)
def f_X0_begin_l10b (S : SH) (rc : Nat → Int32 → AH → Option (Nat × AH)) (r0 : Nat) (x2 : Int32) (h : AH) : Option (Nat × AH) :=
  (gR S h r0 0 2).bind fun p_1 =>
  (lnA S h p_1).bind fun v_3 =>
  if v_3 ≤ x2 then
    some (r0, h)
  else
    (gR S h r0 0 2).bind fun p_6 =>
    (sI S h p_6 x2 (0 : Int32)).bind fun h_8 =>
    lt (x2 + (1 : Int32)) fun y_10 =>
    rc r0 y_10 h_8
set_option maxHeartbeats 8000000 in
set_option maxRecDepth 20000 in
theorem s_X0_begin_l10b {S : SH} {d cb sb : Nat} {Q : Option Value → AH → Prop} (hd : 2 ≤ d) {K : Nat → AH → Prop} (hex : ∀ (r0 : Nat) (h' : AH), K r0 h' → WP S M_X0_begin d cb sb Q 32 [.ref r0, JK, JK] [] h') {rc : Nat → Int32 → AH → Option (Nat × AH)} (hrec : ∀ (r0 : Nat) (x2 : Int32) (h' : AH), ok (rc r0 x2 h') K → WP S M_X0_begin d cb sb Q 10 [.ref r0, JK, .int x2] [] h') {r0 : Nat} {x2 : Int32} {h : AH} (k : ok (f_X0_begin_l10b S rc r0 x2 h) K) : WP S M_X0_begin d cb sb Q 10 [.ref r0, JK, .int x2] [] h := by
  obtain ⟨d, rfl, he⟩ := dp (L := 1) hd
  unfold f_X0_begin_l10b at k
  refine wp_iload_n dX0_begin_10 rfl ?_
  refine wp_aload_n dX0_begin_11 rfl ?_
  replace k := ok_bind k
  obtain ⟨p_1, e_2, k⟩ := k
  refine wq_getR fl_X0_18 (Or.inr ⟨_, rfl⟩) dX0_begin_12 e_2 ?_
  replace k := ok_bind k
  obtain ⟨v_3, e_4, k⟩ := k
  refine wq_len dX0_begin_15 e_4 ?_
  refine wp_icmp_ge 32 dX0_begin_16 (by decide) (fun c_5 => ?_) (fun c_5 => ?_)
  · replace k := ok_t c_5 k
    exact wp_wk (wkE <| wkJ <| wkJ <| wkN) (hex _ _ (ok_some k))
  · replace k := ok_f c_5 k
    refine wp_aload_n dX0_begin_19 rfl ?_
    replace k := ok_bind k
    obtain ⟨p_6, e_7, k⟩ := k
    refine wq_getR fl_X0_18 (Or.inr ⟨_, rfl⟩) dX0_begin_20 e_7 ?_
    refine wp_iload_n dX0_begin_23 rfl ?_
    refine wp_iconst dX0_begin_24 ic_0 ?_
    replace k := ok_bind k
    obtain ⟨h_8, e_9, k⟩ := k
    refine wq_sI dX0_begin_25 e_9 ?_
    replace k := ok_lt k
    refine wp_iinc dX0_begin_26 rfl ic_1 (by decide) (L1 := [_, _, _]) rfl ?_
    refine wp_goto 10 dX0_begin_29 (by decide) ?_
    exact wp_wk (wkE <| wkJ <| wkE <| wkN) (hrec _ _ _ k)
def f_X0_begin_l10 (S : SH) : Nat → Nat → Int32 → AH → Option (Nat × AH)
  | 0, _, _, _ => none
  | n + 1, r0, x2, h => f_X0_begin_l10b S (f_X0_begin_l10 S n) r0 x2 h
theorem s_X0_begin_l10 {S : SH} {d cb sb : Nat} {Q : Option Value → AH → Prop} (hd : 2 ≤ d) {K : Nat → AH → Prop} (hex : ∀ (r0 : Nat) (h' : AH), K r0 h' → WP S M_X0_begin d cb sb Q 32 [.ref r0, JK, JK] [] h') : ∀ (n : Nat) (r0 : Nat) (x2 : Int32) (h : AH), ok (f_X0_begin_l10 S n r0 x2 h) K → WP S M_X0_begin d cb sb Q 10 [.ref r0, JK, .int x2] [] h := by
  intro n
  induction n with
  | zero => intro r0 x2 h k; exact ok_none k
  | succ n ih => intro r0 x2 h k; exact s_X0_begin_l10b hd hex (fun r0 x2 h k => ih r0 x2 h k) k
def f_X0_begin (S : SH) (r0 : Nat) (r1 : Nat) (h : AH) : Option (Unit × AH) :=
  (gR S h r0 0 1).bind fun p_1 =>
  (ckO S h p_1 7).bind fun _ =>
  (f_X7_become S p_1 r1 h).bind fun z => match z with
  | (_, h_4) =>
  (f_X0_begin_l10 S FU r0 (0 : Int32) h_4).bind fun z => match z with
  | (r0_7, h_6) =>
  (pI S h_6 r0_7 0 5 (0 : Int32)).bind fun h_8 =>
  (pI S h_8 r0_7 0 6 (0 : Int32)).bind fun h_10 =>
  some ((), h_10)
set_option maxHeartbeats 8000000 in
set_option maxRecDepth 20000 in
theorem s_X0_begin {S : SH} {d cb sb : Nat} {Q : Option Value → AH → Prop} (hd : 2 ≤ d)  {r0 : Nat} {r1 : Nat} {h : AH} (k : ok (f_X0_begin S r0 r1 h) (fun _ h' => Q none h')) : WP S M_X0_begin d cb sb Q 0 [.ref r0, .ref r1, JK] [] h := by
  obtain ⟨d, rfl, he⟩ := dp (L := 1) hd
  unfold f_X0_begin at k
  refine wp_aload_n dX0_begin_0 rfl ?_
  replace k := ok_bind k
  obtain ⟨p_1, e_2, k⟩ := k
  refine wq_getR fl_X0_12 (Or.inl ⟨_, rfl⟩) dX0_begin_1 e_2 ?_
  refine wp_aload_n dX0_begin_4 rfl ?_
  replace k := ok_bind k
  obtain ⟨u, e_3, k⟩ := k
  refine wp_callV1 (N := M_X7_become) (ci := 7) mf_X7_become mi_X7_become me_X7_become ml_X0_32 dX0_begin_5 (ckO_e e_3) mv_X7_become (by exact Nat.le_of_ble_eq_true rfl) (c_X7_become (Nat.le_trans (by decide) he) (ok_mono (ok_bind2 k) fun _ h_4 k => ?_))
  try dsimp only at k
  refine wp_iconst dX0_begin_8 ic_0 ?_
  refine wp_istore_n dX0_begin_9 (by decide) (L1 := [_, _, _]) rfl ?_
  refine wp_wk (wkE <| wkJ <| wkE <| wkN) ?_
  refine s_X0_begin_l10 (Nat.succ_le_succ he) (fun r0_7 h_6 k => ?_) FU _ _ _ (ok_bind2 k)
  try dsimp only at k
  refine wp_aload_n dX0_begin_32 rfl ?_
  refine wp_iconst dX0_begin_33 ic_0 ?_
  replace k := ok_bind k
  obtain ⟨h_8, e_9, k⟩ := k
  refine wq_putI fl_X0_36 rfl rfl dX0_begin_34 e_9 ?_
  refine wp_aload_n dX0_begin_37 rfl ?_
  refine wp_iconst dX0_begin_38 ic_0 ?_
  replace k := ok_bind k
  obtain ⟨h_10, e_11, k⟩ := k
  refine wq_putI fl_X0_40 rfl rfl dX0_begin_39 e_11 ?_
  refine wp_vret rfl dX0_begin_42 ?_
  exact (ok_some k :)
theorem c_X0_begin {S : SH} {d : Nat} {K : Option Value → AH → Prop} (hd : 2 ≤ d)  {r0 : Nat} {r1 : Nat} {h : AH} (k : ok (f_X0_begin S r0 r1 h) (fun _ h' => K none h')) : CP S M_X0_begin d 0 0 [.ref r0, .ref r1] h K := cp_of (by decide) (fun _ _ => trivial) (fun _ => Nat.le_of_ble_eq_true rfl) (s_X0_begin hd  k)
def f_X6_hasMatter (S : SH) (r0 : Nat) (x1 : Int32) (h : AH) : Option (Int32 × AH) :=
  if x1 < (0 : Int32) then
    some ((0 : Int32), h)
  else
    (gI S h r0 6 4).bind fun v_2 =>
    if v_2 ≤ x1 then
      some ((0 : Int32), h)
    else
      if (6 : Int32) ≤ x1 then
        some ((0 : Int32), h)
      else
        some ((1 : Int32), h)
set_option maxHeartbeats 8000000 in
set_option maxRecDepth 20000 in
theorem s_X6_hasMatter {S : SH} {d cb sb : Nat} {Q : Option Value → AH → Prop} (hd : 0 ≤ d)  {r0 : Nat} {x1 : Int32} {h : AH} (k : ok (f_X6_hasMatter S r0 x1 h) (fun w h' => Q (some (.int w)) h')) : WP S M_X6_hasMatter d cb sb Q 0 [.ref r0, .int x1] [] h := by
  unfold f_X6_hasMatter at k
  refine wp_iload_n dX6_hasMatter_0 rfl ?_
  refine wp_if_lt 22 dX6_hasMatter_1 (by decide) (fun c_1 => ?_) (fun c_1 => ?_)
  · replace k := ok_t c_1 k
    refine wp_iconst dX6_hasMatter_22 ic_0 ?_
    refine wp_iret rfl rfl dX6_hasMatter_23 ?_
    exact (ok_some k :)
  · replace k := ok_f c_1 k
    refine wp_iload_n dX6_hasMatter_4 rfl ?_
    refine wp_aload_n dX6_hasMatter_5 rfl ?_
    replace k := ok_bind k
    obtain ⟨v_2, e_3, k⟩ := k
    refine wq_getI fl_X6_70 (Or.inl rfl) dX6_hasMatter_6 e_3 ?_
    refine wp_icmp_ge 22 dX6_hasMatter_9 (by decide) (fun c_4 => ?_) (fun c_4 => ?_)
    · replace k := ok_t c_4 k
      refine wp_iconst dX6_hasMatter_22 ic_0 ?_
      refine wp_iret rfl rfl dX6_hasMatter_23 ?_
      exact (ok_some k :)
    · replace k := ok_f c_4 k
      refine wp_iload_n dX6_hasMatter_12 rfl ?_
      refine wp_bipush dX6_hasMatter_13 bp_6 ?_
      refine wp_icmp_ge 22 dX6_hasMatter_15 (by decide) (fun c_5 => ?_) (fun c_5 => ?_)
      · replace k := ok_t c_5 k
        refine wp_iconst dX6_hasMatter_22 ic_0 ?_
        refine wp_iret rfl rfl dX6_hasMatter_23 ?_
        exact (ok_some k :)
      · replace k := ok_f c_5 k
        refine wp_iconst dX6_hasMatter_18 ic_1 ?_
        refine wp_goto 23 dX6_hasMatter_19 (by decide) ?_
        refine wp_iret rfl rfl dX6_hasMatter_23 ?_
        exact (ok_some k :)
theorem c_X6_hasMatter {S : SH} {d : Nat} {K : Option Value → AH → Prop} (hd : 0 ≤ d)  {r0 : Nat} {x1 : Int32} {h : AH} (k : ok (f_X6_hasMatter S r0 x1 h) (fun w h' => K (some (.int w)) h')) : CP S M_X6_hasMatter d 0 0 [.ref r0, .int x1] h K := cp_of (by decide) (fun _ _ => trivial) (fun _ => Nat.le_of_ble_eq_true rfl) (s_X6_hasMatter hd  k)
def f_X6_hasLaw (S : SH) (r0 : Nat) (x1 : Int32) (h : AH) : Option (Int32 × AH) :=
  if x1 < (0 : Int32) then
    some ((0 : Int32), h)
  else
    (gI S h r0 6 12).bind fun v_2 =>
    if v_2 ≤ x1 then
      some ((0 : Int32), h)
    else
      if (6 : Int32) ≤ x1 then
        some ((0 : Int32), h)
      else
        some ((1 : Int32), h)
set_option maxHeartbeats 8000000 in
set_option maxRecDepth 20000 in
theorem s_X6_hasLaw {S : SH} {d cb sb : Nat} {Q : Option Value → AH → Prop} (hd : 0 ≤ d)  {r0 : Nat} {x1 : Int32} {h : AH} (k : ok (f_X6_hasLaw S r0 x1 h) (fun w h' => Q (some (.int w)) h')) : WP S M_X6_hasLaw d cb sb Q 0 [.ref r0, .int x1] [] h := by
  unfold f_X6_hasLaw at k
  refine wp_iload_n dX6_hasLaw_0 rfl ?_
  refine wp_if_lt 22 dX6_hasLaw_1 (by decide) (fun c_1 => ?_) (fun c_1 => ?_)
  · replace k := ok_t c_1 k
    refine wp_iconst dX6_hasLaw_22 ic_0 ?_
    refine wp_iret rfl rfl dX6_hasLaw_23 ?_
    exact (ok_some k :)
  · replace k := ok_f c_1 k
    refine wp_iload_n dX6_hasLaw_4 rfl ?_
    refine wp_aload_n dX6_hasLaw_5 rfl ?_
    replace k := ok_bind k
    obtain ⟨v_2, e_3, k⟩ := k
    refine wq_getI fl_X6_79 (Or.inl rfl) dX6_hasLaw_6 e_3 ?_
    refine wp_icmp_ge 22 dX6_hasLaw_9 (by decide) (fun c_4 => ?_) (fun c_4 => ?_)
    · replace k := ok_t c_4 k
      refine wp_iconst dX6_hasLaw_22 ic_0 ?_
      refine wp_iret rfl rfl dX6_hasLaw_23 ?_
      exact (ok_some k :)
    · replace k := ok_f c_4 k
      refine wp_iload_n dX6_hasLaw_12 rfl ?_
      refine wp_bipush dX6_hasLaw_13 bp_6 ?_
      refine wp_icmp_ge 22 dX6_hasLaw_15 (by decide) (fun c_5 => ?_) (fun c_5 => ?_)
      · replace k := ok_t c_5 k
        refine wp_iconst dX6_hasLaw_22 ic_0 ?_
        refine wp_iret rfl rfl dX6_hasLaw_23 ?_
        exact (ok_some k :)
      · replace k := ok_f c_5 k
        refine wp_iconst dX6_hasLaw_18 ic_1 ?_
        refine wp_goto 23 dX6_hasLaw_19 (by decide) ?_
        refine wp_iret rfl rfl dX6_hasLaw_23 ?_
        exact (ok_some k :)
theorem c_X6_hasLaw {S : SH} {d : Nat} {K : Option Value → AH → Prop} (hd : 0 ≤ d)  {r0 : Nat} {x1 : Int32} {h : AH} (k : ok (f_X6_hasLaw S r0 x1 h) (fun w h' => K (some (.int w)) h')) : CP S M_X6_hasLaw d 0 0 [.ref r0, .int x1] h K := cp_of (by decide) (fun _ _ => trivial) (fun _ => Nat.le_of_ble_eq_true rfl) (s_X6_hasLaw hd  k)
def f_X6_lawOf (S : SH) (r0 : Nat) (x1 : Int32) (h : AH) : Option (Nat × AH) :=
  (ckO S h r0 6).bind fun _ =>
  (f_X6_hasLaw S r0 x1 h).bind fun z => match z with
  | (z_3, h_2) =>
  if z_3 = (0 : Int32) then
    (gR S h_2 r0 6 14).bind fun p_5 =>
    some (p_5, h_2)
  else
    (gR S h_2 r0 6 13).bind fun p_7 =>
    (aR S h_2 p_7 x1).bind fun o_9 =>
    match o_9 with
    | none => (
      (gR S h_2 r0 6 14).bind fun p_12 =>
      some (p_12, h_2))
    | some p_11 => (
      some (p_11, h_2))
set_option maxHeartbeats 8000000 in
set_option maxRecDepth 20000 in
theorem s_X6_lawOf {S : SH} {d cb sb : Nat} {Q : Option Value → AH → Prop} (hd : 1 ≤ d)  {r0 : Nat} {x1 : Int32} {h : AH} (k : ok (f_X6_lawOf S r0 x1 h) (fun w h' => Q (some (.ref w)) h')) : WP S M_X6_lawOf d cb sb Q 0 [.ref r0, .int x1, JK] [] h := by
  obtain ⟨d, rfl, he⟩ := dp (L := 0) hd
  unfold f_X6_lawOf at k
  refine wp_aload_n dX6_lawOf_0 rfl ?_
  refine wp_iload_n dX6_lawOf_1 rfl ?_
  replace k := ok_bind k
  obtain ⟨u, e_1, k⟩ := k
  refine wp_callV1 (N := M_X6_hasLaw) (ci := 6) mf_X6_hasLaw mi_X6_hasLaw me_X6_hasLaw ml_X6_98 dX6_lawOf_2 (ckO_e e_1) mv_X6_hasLaw (by exact Nat.le_of_ble_eq_true rfl) (c_X6_hasLaw (Nat.le_trans (by decide) he) (ok_mono (ok_bind2 k) fun z_3 h_2 k => ?_))
  try dsimp only at k
  refine wp_if_eq 17 dX6_lawOf_5 (by decide) (fun c_4 => ?_) (fun c_4 => ?_)
  · replace k := ok_t c_4 k
    refine wp_null dX6_lawOf_17 ?_
    refine wp_astoreN_n dX6_lawOf_18 (by decide) (L1 := [_, _, _]) rfl ?_
    refine wp_aloadN_n dX6_lawOf_19 rfl ?_
    refine wp_ifnonnullN dX6_lawOf_20 ?_
    refine wp_aload_n dX6_lawOf_23 rfl ?_
    replace k := ok_bind k
    obtain ⟨p_5, e_6, k⟩ := k
    refine wq_getR fl_X6_50 (Or.inl ⟨_, rfl⟩) dX6_lawOf_24 e_6 ?_
    refine wp_goto 31 dX6_lawOf_27 (by decide) ?_
    refine wp_aret rfl (Or.inl ⟨_, rfl⟩) dX6_lawOf_31 ?_
    exact (ok_some k :)
  · replace k := ok_f c_4 k
    refine wp_aload_n dX6_lawOf_8 rfl ?_
    replace k := ok_bind k
    obtain ⟨p_7, e_8, k⟩ := k
    refine wq_getR fl_X6_43 (Or.inr ⟨_, rfl⟩) dX6_lawOf_9 e_8 ?_
    refine wp_iload_n dX6_lawOf_12 rfl ?_
    replace k := ok_bind k
    obtain ⟨o_9, e_10, k⟩ := k
    refine wq_aR dX6_lawOf_13 e_10 ?_
    rcases o_9 with _ | p_11
    · try dsimp only at k
      refine wp_goto 18 dX6_lawOf_14 (by decide) ?_
      refine wp_astoreN_n dX6_lawOf_18 (by decide) (L1 := [_, _, _]) rfl ?_
      refine wp_aloadN_n dX6_lawOf_19 rfl ?_
      refine wp_ifnonnullN dX6_lawOf_20 ?_
      refine wp_aload_n dX6_lawOf_23 rfl ?_
      replace k := ok_bind k
      obtain ⟨p_12, e_13, k⟩ := k
      refine wq_getR fl_X6_50 (Or.inl ⟨_, rfl⟩) dX6_lawOf_24 e_13 ?_
      refine wp_goto 31 dX6_lawOf_27 (by decide) ?_
      refine wp_aret rfl (Or.inl ⟨_, rfl⟩) dX6_lawOf_31 ?_
      exact (ok_some k :)
    · try dsimp only at k
      refine wp_goto 18 dX6_lawOf_14 (by decide) ?_
      refine wp_astore_n dX6_lawOf_18 (by decide) (L1 := [_, _, _]) rfl ?_
      refine wp_aload_n dX6_lawOf_19 rfl ?_
      refine wp_ifnonnull 30 dX6_lawOf_20 (by decide) ?_
      refine wp_aload_n dX6_lawOf_30 rfl ?_
      refine wp_aret rfl (Or.inl ⟨_, rfl⟩) dX6_lawOf_31 ?_
      exact (ok_some k :)
theorem c_X6_lawOf {S : SH} {d : Nat} {K : Option Value → AH → Prop} (hd : 1 ≤ d)  {r0 : Nat} {x1 : Int32} {h : AH} (k : ok (f_X6_lawOf S r0 x1 h) (fun w h' => K (some (.ref w)) h')) : CP S M_X6_lawOf d 0 0 [.ref r0, .int x1] h K := cp_of (by decide) (fun _ _ => trivial) (fun _ => Nat.le_of_ble_eq_true rfl) (s_X6_lawOf hd  k)
def f_X6_lawInForce (S : SH) (r0 : Nat) (h : AH) : Option (Nat × AH) :=
  (gI S h r0 6 15).bind fun v_1 =>
  (ckO S h r0 6).bind fun _ =>
  (f_X6_lawOf S r0 v_1 h).bind fun z => match z with
  | (z_5, h_4) =>
  some (z_5, h_4)
set_option maxHeartbeats 8000000 in
set_option maxRecDepth 20000 in
theorem s_X6_lawInForce {S : SH} {d cb sb : Nat} {Q : Option Value → AH → Prop} (hd : 2 ≤ d)  {r0 : Nat} {h : AH} (k : ok (f_X6_lawInForce S r0 h) (fun w h' => Q (some (.ref w)) h')) : WP S M_X6_lawInForce d cb sb Q 0 [.ref r0] [] h := by
  obtain ⟨d, rfl, he⟩ := dp (L := 1) hd
  unfold f_X6_lawInForce at k
  refine wp_aload_n dX6_lawInForce_0 rfl ?_
  refine wp_aload_n dX6_lawInForce_1 rfl ?_
  replace k := ok_bind k
  obtain ⟨v_1, e_2, k⟩ := k
  refine wq_getI fl_X6_54 (Or.inl rfl) dX6_lawInForce_2 e_2 ?_
  replace k := ok_bind k
  obtain ⟨u, e_3, k⟩ := k
  refine wp_callV1 (N := M_X6_lawOf) (ci := 6) mf_X6_lawOf mi_X6_lawOf me_X6_lawOf ml_X6_94 dX6_lawInForce_5 (ckO_e e_3) mv_X6_lawOf (by exact Nat.le_of_ble_eq_true rfl) (c_X6_lawOf (Nat.le_trans (by decide) he) (ok_mono (ok_bind2 k) fun z_5 h_4 k => ?_))
  try dsimp only at k
  refine wp_aret rfl (Or.inl ⟨_, rfl⟩) dX6_lawInForce_8 ?_
  exact (ok_some k :)
theorem c_X6_lawInForce {S : SH} {d : Nat} {K : Option Value → AH → Prop} (hd : 2 ≤ d)  {r0 : Nat} {h : AH} (k : ok (f_X6_lawInForce S r0 h) (fun w h' => K (some (.ref w)) h')) : CP S M_X6_lawInForce d 0 0 [.ref r0] h K := cp_of (by decide) (fun _ _ => trivial) (fun _ => Nat.le_of_ble_eq_true rfl) (s_X6_lawInForce hd  k)
def f_X1_tellLaw (S : SH) (r0 : Nat) (r1 : Nat) (x2 : Int32) (x3 : Int32) (x4 : Int32) (x5 : Int32) (h : AH) : Option (Unit × AH) :=
  (gR S h r0 1 1).bind fun p_1 =>
  (gR S h p_1 4 0).bind fun p_3 =>
  (sI S h p_3 (0 : Int32) x2).bind fun h_5 =>
  (sI S h_5 p_3 (1 : Int32) x3).bind fun h_7 =>
  (sI S h_7 p_3 (2 : Int32) x4).bind fun h_9 =>
  (sI S h_9 p_3 (3 : Int32) x5).bind fun h_11 =>
  (gR S h_11 r0 1 0).bind fun p_13 =>
  (gR S h_11 p_13 6 5).bind fun p_15 =>
  (aI S h_11 p_15 x5).bind fun v_17 =>
  (sI S h_11 p_3 (4 : Int32) v_17).bind fun h_19 =>
  (gR S h_19 r0 1 0).bind fun p_21 =>
  (gR S h_19 p_21 6 6).bind fun p_23 =>
  (aI S h_19 p_23 x5).bind fun v_25 =>
  (sI S h_19 p_3 (5 : Int32) v_25).bind fun h_27 =>
  (gI S h_27 r1 7 2).bind fun v_29 =>
  (sI S h_27 p_3 (6 : Int32) v_29).bind fun h_31 =>
  (gI S h_31 r1 7 3).bind fun v_33 =>
  (sI S h_31 p_3 (7 : Int32) v_33).bind fun h_35 =>
  (gR S h_35 r0 1 0).bind fun p_37 =>
  (gI S h_35 p_37 6 8).bind fun v_39 =>
  (sI S h_35 p_3 (8 : Int32) v_39).bind fun h_41 =>
  some ((), h_41)
set_option maxHeartbeats 8000000 in
set_option maxRecDepth 20000 in
theorem s_X1_tellLaw {S : SH} {d cb sb : Nat} {Q : Option Value → AH → Prop} (hd : 0 ≤ d)  {r0 : Nat} {r1 : Nat} {x2 : Int32} {x3 : Int32} {x4 : Int32} {x5 : Int32} {h : AH} (k : ok (f_X1_tellLaw S r0 r1 x2 x3 x4 x5 h) (fun _ h' => Q none h')) : WP S M_X1_tellLaw d cb sb Q 0 [.ref r0, .ref r1, .int x2, .int x3, .int x4, .int x5, JK] [] h := by
  unfold f_X1_tellLaw at k
  refine wp_aload_n dX1_tellLaw_0 rfl ?_
  replace k := ok_bind k
  obtain ⟨p_1, e_2, k⟩ := k
  refine wq_getR fl_X1_22 (Or.inl ⟨_, rfl⟩) dX1_tellLaw_1 e_2 ?_
  replace k := ok_bind k
  obtain ⟨p_3, e_4, k⟩ := k
  refine wq_getR fl_X1_26 (Or.inr ⟨_, rfl⟩) dX1_tellLaw_4 e_4 ?_
  refine wp_astore dX1_tellLaw_7 (by decide) (L1 := [_, _, _, _, _, _, _]) rfl ?_
  refine wp_aload dX1_tellLaw_9 rfl ?_
  refine wp_iconst dX1_tellLaw_11 ic_0 ?_
  refine wp_iload_n dX1_tellLaw_12 rfl ?_
  replace k := ok_bind k
  obtain ⟨h_5, e_6, k⟩ := k
  refine wq_sI dX1_tellLaw_13 e_6 ?_
  refine wp_aload dX1_tellLaw_14 rfl ?_
  refine wp_iconst dX1_tellLaw_16 ic_1 ?_
  refine wp_iload_n dX1_tellLaw_17 rfl ?_
  replace k := ok_bind k
  obtain ⟨h_7, e_8, k⟩ := k
  refine wq_sI dX1_tellLaw_18 e_8 ?_
  refine wp_aload dX1_tellLaw_19 rfl ?_
  refine wp_iconst dX1_tellLaw_21 ic_2 ?_
  refine wp_iload dX1_tellLaw_22 rfl ?_
  replace k := ok_bind k
  obtain ⟨h_9, e_10, k⟩ := k
  refine wq_sI dX1_tellLaw_24 e_10 ?_
  refine wp_aload dX1_tellLaw_25 rfl ?_
  refine wp_iconst dX1_tellLaw_27 ic_3 ?_
  refine wp_iload dX1_tellLaw_28 rfl ?_
  replace k := ok_bind k
  obtain ⟨h_11, e_12, k⟩ := k
  refine wq_sI dX1_tellLaw_30 e_12 ?_
  refine wp_aload dX1_tellLaw_31 rfl ?_
  refine wp_iconst dX1_tellLaw_33 ic_4 ?_
  refine wp_aload_n dX1_tellLaw_34 rfl ?_
  replace k := ok_bind k
  obtain ⟨p_13, e_14, k⟩ := k
  refine wq_getR fl_X1_18 (Or.inl ⟨_, rfl⟩) dX1_tellLaw_35 e_14 ?_
  replace k := ok_bind k
  obtain ⟨p_15, e_16, k⟩ := k
  refine wq_getR fl_X1_31 (Or.inr ⟨_, rfl⟩) dX1_tellLaw_38 e_16 ?_
  refine wp_iload dX1_tellLaw_41 rfl ?_
  replace k := ok_bind k
  obtain ⟨v_17, e_18, k⟩ := k
  refine wq_aI dX1_tellLaw_43 e_18 ?_
  replace k := ok_bind k
  obtain ⟨h_19, e_20, k⟩ := k
  refine wq_sI dX1_tellLaw_44 e_20 ?_
  refine wp_aload dX1_tellLaw_45 rfl ?_
  refine wp_iconst dX1_tellLaw_47 ic_5 ?_
  refine wp_aload_n dX1_tellLaw_48 rfl ?_
  replace k := ok_bind k
  obtain ⟨p_21, e_22, k⟩ := k
  refine wq_getR fl_X1_18 (Or.inl ⟨_, rfl⟩) dX1_tellLaw_49 e_22 ?_
  replace k := ok_bind k
  obtain ⟨p_23, e_24, k⟩ := k
  refine wq_getR fl_X1_36 (Or.inr ⟨_, rfl⟩) dX1_tellLaw_52 e_24 ?_
  refine wp_iload dX1_tellLaw_55 rfl ?_
  replace k := ok_bind k
  obtain ⟨v_25, e_26, k⟩ := k
  refine wq_aI dX1_tellLaw_57 e_26 ?_
  replace k := ok_bind k
  obtain ⟨h_27, e_28, k⟩ := k
  refine wq_sI dX1_tellLaw_58 e_28 ?_
  refine wp_aload dX1_tellLaw_59 rfl ?_
  refine wp_bipush dX1_tellLaw_61 bp_6 ?_
  refine wp_aload_n dX1_tellLaw_63 rfl ?_
  replace k := ok_bind k
  obtain ⟨v_29, e_30, k⟩ := k
  refine wq_getI fl_X1_39 (Or.inl rfl) dX1_tellLaw_64 e_30 ?_
  replace k := ok_bind k
  obtain ⟨h_31, e_32, k⟩ := k
  refine wq_sI dX1_tellLaw_67 e_32 ?_
  refine wp_aload dX1_tellLaw_68 rfl ?_
  refine wp_bipush dX1_tellLaw_70 bp_7 ?_
  refine wp_aload_n dX1_tellLaw_72 rfl ?_
  replace k := ok_bind k
  obtain ⟨v_33, e_34, k⟩ := k
  refine wq_getI fl_X1_45 (Or.inl rfl) dX1_tellLaw_73 e_34 ?_
  replace k := ok_bind k
  obtain ⟨h_35, e_36, k⟩ := k
  refine wq_sI dX1_tellLaw_76 e_36 ?_
  refine wp_aload dX1_tellLaw_77 rfl ?_
  refine wp_bipush dX1_tellLaw_79 bp_8 ?_
  refine wp_aload_n dX1_tellLaw_81 rfl ?_
  replace k := ok_bind k
  obtain ⟨p_37, e_38, k⟩ := k
  refine wq_getR fl_X1_18 (Or.inl ⟨_, rfl⟩) dX1_tellLaw_82 e_38 ?_
  replace k := ok_bind k
  obtain ⟨v_39, e_40, k⟩ := k
  refine wq_getI fl_X1_48 (Or.inl rfl) dX1_tellLaw_85 e_40 ?_
  replace k := ok_bind k
  obtain ⟨h_41, e_42, k⟩ := k
  refine wq_sI dX1_tellLaw_88 e_42 ?_
  refine wp_vret rfl dX1_tellLaw_89 ?_
  exact (ok_some k :)
theorem c_X1_tellLaw {S : SH} {d : Nat} {K : Option Value → AH → Prop} (hd : 0 ≤ d)  {r0 : Nat} {r1 : Nat} {x2 : Int32} {x3 : Int32} {x4 : Int32} {x5 : Int32} {h : AH} (k : ok (f_X1_tellLaw S r0 r1 x2 x3 x4 x5 h) (fun _ h' => K none h')) : CP S M_X1_tellLaw d 0 0 [.ref r0, .ref r1, .int x2, .int x3, .int x4, .int x5] h K := cp_of (by decide) (fun _ _ => trivial) (fun _ => Nat.le_of_ble_eq_true rfl) (s_X1_tellLaw hd  k)
def f_X1_tellBird (S : SH) (r0 : Nat) (r1 : Nat) (x2 : Int32) (x3 : Int32) (h : AH) : Option (Unit × AH) :=
  (gR S h r1 7 0).bind fun p_1 =>
  (aI S h p_1 x2).bind fun v_3 =>
  (gR S h r0 1 0).bind fun p_5 =>
  (gR S h p_5 6 3).bind fun p_7 =>
  (aI S h p_7 ((x2 * (6 : Int32)) + x3)).bind fun v_9 =>
  (ckO S h r0 1).bind fun _ =>
  (f_X1_tellLaw S r0 r1 x2 v_3 v_9 x3 h).bind fun z => match z with
  | (_, h_12) =>
  some ((), h_12)
set_option maxHeartbeats 8000000 in
set_option maxRecDepth 20000 in
theorem s_X1_tellBird {S : SH} {d cb sb : Nat} {Q : Option Value → AH → Prop} (hd : 1 ≤ d)  {r0 : Nat} {r1 : Nat} {x2 : Int32} {x3 : Int32} {h : AH} (k : ok (f_X1_tellBird S r0 r1 x2 x3 h) (fun _ h' => Q none h')) : WP S M_X1_tellBird d cb sb Q 0 [.ref r0, .ref r1, .int x2, .int x3] [] h := by
  obtain ⟨d, rfl, he⟩ := dp (L := 0) hd
  unfold f_X1_tellBird at k
  refine wp_aload_n dX1_tellBird_0 rfl ?_
  refine wp_aload_n dX1_tellBird_1 rfl ?_
  refine wp_iload_n dX1_tellBird_2 rfl ?_
  refine wp_aload_n dX1_tellBird_3 rfl ?_
  replace k := ok_bind k
  obtain ⟨p_1, e_2, k⟩ := k
  refine wq_getR fl_X1_51 (Or.inr ⟨_, rfl⟩) dX1_tellBird_4 e_2 ?_
  refine wp_iload_n dX1_tellBird_7 rfl ?_
  replace k := ok_bind k
  obtain ⟨v_3, e_4, k⟩ := k
  refine wq_aI dX1_tellBird_8 e_4 ?_
  refine wp_aload_n dX1_tellBird_9 rfl ?_
  replace k := ok_bind k
  obtain ⟨p_5, e_6, k⟩ := k
  refine wq_getR fl_X1_18 (Or.inl ⟨_, rfl⟩) dX1_tellBird_10 e_6 ?_
  replace k := ok_bind k
  obtain ⟨p_7, e_8, k⟩ := k
  refine wq_getR fl_X1_54 (Or.inr ⟨_, rfl⟩) dX1_tellBird_13 e_8 ?_
  refine wp_iload_n dX1_tellBird_16 rfl ?_
  refine wp_bipush dX1_tellBird_17 bp_6 ?_
  refine wp_imul dX1_tellBird_19 ?_
  refine wp_iload_n dX1_tellBird_20 rfl ?_
  refine wp_iadd dX1_tellBird_21 ?_
  replace k := ok_bind k
  obtain ⟨v_9, e_10, k⟩ := k
  refine wq_aI dX1_tellBird_22 e_10 ?_
  refine wp_iload_n dX1_tellBird_23 rfl ?_
  replace k := ok_bind k
  obtain ⟨u, e_11, k⟩ := k
  refine wp_callV5 (N := M_X1_tellLaw) (ci := 1) mf_X1_tellLaw mi_X1_tellLaw me_X1_tellLaw ml_X1_57 dX1_tellBird_24 (ckO_e e_11) mv_X1_tellLaw (by exact Nat.le_of_ble_eq_true rfl) (c_X1_tellLaw (Nat.le_trans (by decide) he) (ok_mono (ok_bind2 k) fun _ h_12 k => ?_))
  try dsimp only at k
  refine wp_vret rfl dX1_tellBird_27 ?_
  exact (ok_some k :)
theorem c_X1_tellBird {S : SH} {d : Nat} {K : Option Value → AH → Prop} (hd : 1 ≤ d)  {r0 : Nat} {r1 : Nat} {x2 : Int32} {x3 : Int32} {h : AH} (k : ok (f_X1_tellBird S r0 r1 x2 x3 h) (fun _ h' => K none h')) : CP S M_X1_tellBird d 0 0 [.ref r0, .ref r1, .int x2, .int x3] h K := cp_of (by decide) (fun _ _ => trivial) (fun _ => Nat.le_of_ble_eq_true rfl) (s_X1_tellBird hd  k)
def f_X8_head (S : SH) (r0 : Nat) (x1 : Int32) (x2 : Int32) (h : AH) : Option (Int32 × AH) :=
  lt (((x1 * (6 : Int32)) + x2)) fun y_1 =>
  if y_1 < (0 : Int32) then
    some ((0 : Int32), h)
  else
    (gR S h r0 8 1).bind fun p_3 =>
    (lnA S h p_3).bind fun v_5 =>
    if v_5 ≤ y_1 then
      some ((0 : Int32), h)
    else
      (gR S h r0 8 1).bind fun p_8 =>
      (aI S h p_8 y_1).bind fun v_10 =>
      some (v_10, h)
set_option maxHeartbeats 8000000 in
set_option maxRecDepth 20000 in
theorem s_X8_head {S : SH} {d cb sb : Nat} {Q : Option Value → AH → Prop} (hd : 0 ≤ d)  {r0 : Nat} {x1 : Int32} {x2 : Int32} {h : AH} (k : ok (f_X8_head S r0 x1 x2 h) (fun w h' => Q (some (.int w)) h')) : WP S M_X8_head d cb sb Q 0 [.ref r0, .int x1, .int x2, JK] [] h := by
  unfold f_X8_head at k
  refine wp_iload_n dX8_head_0 rfl ?_
  refine wp_bipush dX8_head_1 bp_6 ?_
  refine wp_imul dX8_head_3 ?_
  refine wp_iload_n dX8_head_4 rfl ?_
  refine wp_iadd dX8_head_5 ?_
  replace k := ok_lt k
  refine wp_istore_n dX8_head_6 (by decide) (L1 := [_, _, _, _]) rfl ?_
  refine wp_iload_n dX8_head_7 rfl ?_
  refine wp_if_lt 29 dX8_head_8 (by decide) (fun c_2 => ?_) (fun c_2 => ?_)
  · replace k := ok_t c_2 k
    refine wp_iconst dX8_head_29 ic_0 ?_
    refine wp_iret rfl rfl dX8_head_30 ?_
    exact (ok_some k :)
  · replace k := ok_f c_2 k
    refine wp_iload_n dX8_head_11 rfl ?_
    refine wp_aload_n dX8_head_12 rfl ?_
    replace k := ok_bind k
    obtain ⟨p_3, e_4, k⟩ := k
    refine wq_getR fl_X8_21 (Or.inr ⟨_, rfl⟩) dX8_head_13 e_4 ?_
    replace k := ok_bind k
    obtain ⟨v_5, e_6, k⟩ := k
    refine wq_len dX8_head_16 e_6 ?_
    refine wp_icmp_ge 29 dX8_head_17 (by decide) (fun c_7 => ?_) (fun c_7 => ?_)
    · replace k := ok_t c_7 k
      refine wp_iconst dX8_head_29 ic_0 ?_
      refine wp_iret rfl rfl dX8_head_30 ?_
      exact (ok_some k :)
    · replace k := ok_f c_7 k
      refine wp_aload_n dX8_head_20 rfl ?_
      replace k := ok_bind k
      obtain ⟨p_8, e_9, k⟩ := k
      refine wq_getR fl_X8_21 (Or.inr ⟨_, rfl⟩) dX8_head_21 e_9 ?_
      refine wp_iload_n dX8_head_24 rfl ?_
      replace k := ok_bind k
      obtain ⟨v_10, e_11, k⟩ := k
      refine wq_aI dX8_head_25 e_11 ?_
      refine wp_goto 30 dX8_head_26 (by decide) ?_
      refine wp_iret rfl rfl dX8_head_30 ?_
      exact (ok_some k :)
theorem c_X8_head {S : SH} {d : Nat} {K : Option Value → AH → Prop} (hd : 0 ≤ d)  {r0 : Nat} {x1 : Int32} {x2 : Int32} {h : AH} (k : ok (f_X8_head S r0 x1 x2 h) (fun w h' => K (some (.int w)) h')) : CP S M_X8_head d 0 0 [.ref r0, .int x1, .int x2] h K := cp_of (by decide) (fun _ _ => trivial) (fun _ => Nat.le_of_ble_eq_true rfl) (s_X8_head hd  k)
def f_X4_reckon_l9_j224 (S : SH) (rc : Nat → Nat → Int32 → Int32 → Int32 → Int32 → AH → Option ((Int32 ⊕ (Nat × Int32)) × AH)) (r0 : Nat) (r1 : Nat) (x3 : Int32) (x4 : Int32) (x5 : Int32) (x6 : Int32) (x7 : Int32) (x8 : Int32) (sx0 : Int32) (h : AH) : Option ((Int32 ⊕ (Nat × Int32)) × AH) :=
  if x7 = (256 : Int32) then
    if sx0 = (1 : Int32) then
      lt (x6 + (1 : Int32)) fun y_9 =>
      rc r0 r1 x3 x4 x8 y_9 h
    else
      lt (x4 + (-1 : Int32)) fun y_7 =>
      lt (x6 + (1 : Int32)) fun y_8 =>
      rc r0 r1 x3 y_7 x5 y_8 h
  else
    if sx0 = (0 : Int32) then
      lt (x6 + (1 : Int32)) fun y_5 =>
      rc r0 r1 x3 x4 x8 y_5 h
    else
      lt (x4 + (-1 : Int32)) fun y_3 =>
      lt (x6 + (1 : Int32)) fun y_4 =>
      rc r0 r1 x3 y_3 x5 y_4 h
set_option maxHeartbeats 8000000 in
set_option maxRecDepth 20000 in
theorem s_X4_reckon_l9_j224 {S : SH} {d cb sb : Nat} {Q : Option Value → AH → Prop} (hd : 0 ≤ d) {K : (Int32 ⊕ (Nat × Int32)) → AH → Prop} (hret : ∀ (w : Int32) (h' : AH), K (.inl w) h' → Q (some (.int w)) h') (hex : ∀ (r0 : Nat) (x4 : Int32) (h' : AH), K (.inr (r0, x4)) h' → WP S M_X4_reckon d cb sb Q 470 [.ref r0, JK, JK, JK, .int x4, JK, JK, JK, JK, JK, JK, JK, JK, JK, JK] [] h') {rc : Nat → Nat → Int32 → Int32 → Int32 → Int32 → AH → Option ((Int32 ⊕ (Nat × Int32)) × AH)} (hrec : ∀ (r0 : Nat) (r1 : Nat) (x3 : Int32) (x4 : Int32) (x5 : Int32) (x6 : Int32) (h' : AH), ok (rc r0 r1 x3 x4 x5 x6 h') K → WP S M_X4_reckon d cb sb Q 9 [.ref r0, .ref r1, JK, .int x3, .int x4, .int x5, .int x6, JK, JK, JK, JK, JK, JK, JK, JK] [] h') {r0 : Nat} {r1 : Nat} {x3 : Int32} {x4 : Int32} {x5 : Int32} {x6 : Int32} {x7 : Int32} {x8 : Int32} {sx0 : Int32} {h : AH} (k : ok (f_X4_reckon_l9_j224 S rc r0 r1 x3 x4 x5 x6 x7 x8 sx0 h) K) : WP S M_X4_reckon d cb sb Q 224 [.ref r0, .ref r1, JK, .int x3, .int x4, .int x5, .int x6, .int x7, .int x8, JK, JK, JK, JK, JK, JK] [.int sx0] h := by
  unfold f_X4_reckon_l9_j224 at k
  refine wp_iload dX4_reckon_224 rfl ?_
  refine wp_sipush dX4_reckon_226 sp_256 ?_
  refine wp_icmp_ne 236 dX4_reckon_229 (by decide) (fun c_1 => ?_) (fun c_1 => ?_)
  · replace k := ok_f c_1 k
    refine wp_iconst dX4_reckon_236 ic_0 ?_
    refine wp_icmp_ne 247 dX4_reckon_237 (by decide) (fun c_2 => ?_) (fun c_2 => ?_)
    · replace k := ok_f c_2 k
      replace k := ok_lt k
      refine wp_iinc dX4_reckon_247 rfl ic_m1 (by decide) (L1 := [_, _, _, _, _, _, _, _, _, _, _, _, _, _, _]) rfl ?_
      refine wp_goto 464 dX4_reckon_250 (by decide) ?_
      replace k := ok_lt k
      refine wp_iinc dX4_reckon_464 rfl ic_1 (by decide) (L1 := [_, _, _, _, _, _, _, _, _, _, _, _, _, _, _]) rfl ?_
      refine wp_goto 9 dX4_reckon_467 (by decide) ?_
      exact wp_wk (wkE <| wkE <| wkJ <| wkE <| wkE <| wkE <| wkE <| wkJ <| wkJ <| wkJ <| wkJ <| wkJ <| wkJ <| wkJ <| wkJ <| wkN) (hrec _ _ _ _ _ _ _ k)
    · replace k := ok_t c_2 k
      refine wp_iload dX4_reckon_240 rfl ?_
      refine wp_istore dX4_reckon_242 (by decide) (L1 := [_, _, _, _, _, _, _, _, _, _, _, _, _, _, _]) rfl ?_
      refine wp_goto 464 dX4_reckon_244 (by decide) ?_
      replace k := ok_lt k
      refine wp_iinc dX4_reckon_464 rfl ic_1 (by decide) (L1 := [_, _, _, _, _, _, _, _, _, _, _, _, _, _, _]) rfl ?_
      refine wp_goto 9 dX4_reckon_467 (by decide) ?_
      exact wp_wk (wkE <| wkE <| wkJ <| wkE <| wkE <| wkE <| wkE <| wkJ <| wkJ <| wkJ <| wkJ <| wkJ <| wkJ <| wkJ <| wkJ <| wkN) (hrec _ _ _ _ _ _ _ k)
  · replace k := ok_t c_1 k
    refine wp_iconst dX4_reckon_232 ic_1 ?_
    refine wp_goto 237 dX4_reckon_233 (by decide) ?_
    refine wp_icmp_ne 247 dX4_reckon_237 (by decide) (fun c_6 => ?_) (fun c_6 => ?_)
    · replace k := ok_f c_6 k
      replace k := ok_lt k
      refine wp_iinc dX4_reckon_247 rfl ic_m1 (by decide) (L1 := [_, _, _, _, _, _, _, _, _, _, _, _, _, _, _]) rfl ?_
      refine wp_goto 464 dX4_reckon_250 (by decide) ?_
      replace k := ok_lt k
      refine wp_iinc dX4_reckon_464 rfl ic_1 (by decide) (L1 := [_, _, _, _, _, _, _, _, _, _, _, _, _, _, _]) rfl ?_
      refine wp_goto 9 dX4_reckon_467 (by decide) ?_
      exact wp_wk (wkE <| wkE <| wkJ <| wkE <| wkE <| wkE <| wkE <| wkJ <| wkJ <| wkJ <| wkJ <| wkJ <| wkJ <| wkJ <| wkJ <| wkN) (hrec _ _ _ _ _ _ _ k)
    · replace k := ok_t c_6 k
      refine wp_iload dX4_reckon_240 rfl ?_
      refine wp_istore dX4_reckon_242 (by decide) (L1 := [_, _, _, _, _, _, _, _, _, _, _, _, _, _, _]) rfl ?_
      refine wp_goto 464 dX4_reckon_244 (by decide) ?_
      replace k := ok_lt k
      refine wp_iinc dX4_reckon_464 rfl ic_1 (by decide) (L1 := [_, _, _, _, _, _, _, _, _, _, _, _, _, _, _]) rfl ?_
      refine wp_goto 9 dX4_reckon_467 (by decide) ?_
      exact wp_wk (wkE <| wkE <| wkJ <| wkE <| wkE <| wkE <| wkE <| wkJ <| wkJ <| wkJ <| wkJ <| wkJ <| wkJ <| wkJ <| wkJ <| wkN) (hrec _ _ _ _ _ _ _ k)
def f_X4_reckon_l9_j205 (S : SH) (rc : Nat → Nat → Int32 → Int32 → Int32 → Int32 → AH → Option ((Int32 ⊕ (Nat × Int32)) × AH)) (r0 : Nat) (r1 : Nat) (x3 : Int32) (x4 : Int32) (x5 : Int32) (x6 : Int32) (x7 : Int32) (x8 : Int32) (h : AH) : Option ((Int32 ⊕ (Nat × Int32)) × AH) :=
  (gR S h r0 4 1).bind fun p_1 =>
  (aJ S h p_1 (x4 - (1 : Int32))).bind fun w_3 =>
  if (lg_cmp w_3 (0 : Int64)) = (0 : Int32) then
    f_X4_reckon_l9_j224 S rc r0 r1 x3 x4 x5 x6 x7 x8 (0 : Int32) h
  else
    f_X4_reckon_l9_j224 S rc r0 r1 x3 x4 x5 x6 x7 x8 (1 : Int32) h
set_option maxHeartbeats 8000000 in
set_option maxRecDepth 20000 in
theorem s_X4_reckon_l9_j205 {S : SH} {d cb sb : Nat} {Q : Option Value → AH → Prop} (hd : 0 ≤ d) {K : (Int32 ⊕ (Nat × Int32)) → AH → Prop} (hret : ∀ (w : Int32) (h' : AH), K (.inl w) h' → Q (some (.int w)) h') (hex : ∀ (r0 : Nat) (x4 : Int32) (h' : AH), K (.inr (r0, x4)) h' → WP S M_X4_reckon d cb sb Q 470 [.ref r0, JK, JK, JK, .int x4, JK, JK, JK, JK, JK, JK, JK, JK, JK, JK] [] h') {rc : Nat → Nat → Int32 → Int32 → Int32 → Int32 → AH → Option ((Int32 ⊕ (Nat × Int32)) × AH)} (hrec : ∀ (r0 : Nat) (r1 : Nat) (x3 : Int32) (x4 : Int32) (x5 : Int32) (x6 : Int32) (h' : AH), ok (rc r0 r1 x3 x4 x5 x6 h') K → WP S M_X4_reckon d cb sb Q 9 [.ref r0, .ref r1, JK, .int x3, .int x4, .int x5, .int x6, JK, JK, JK, JK, JK, JK, JK, JK] [] h') {r0 : Nat} {r1 : Nat} {x3 : Int32} {x4 : Int32} {x5 : Int32} {x6 : Int32} {x7 : Int32} {x8 : Int32} {h : AH} (k : ok (f_X4_reckon_l9_j205 S rc r0 r1 x3 x4 x5 x6 x7 x8 h) K) : WP S M_X4_reckon d cb sb Q 205 [.ref r0, .ref r1, JK, .int x3, .int x4, .int x5, .int x6, .int x7, .int x8, JK, JK, JK, JK, JK, JK] [] h := by
  unfold f_X4_reckon_l9_j205 at k
  refine wp_aload_n dX4_reckon_205 rfl ?_
  replace k := ok_bind k
  obtain ⟨p_1, e_2, k⟩ := k
  refine wq_getR fl_X4_15 (Or.inr ⟨_, rfl⟩) dX4_reckon_206 e_2 ?_
  refine wp_iload dX4_reckon_209 rfl ?_
  refine wp_iconst dX4_reckon_211 ic_1 ?_
  refine wp_isub dX4_reckon_212 ?_
  replace k := ok_bind k
  obtain ⟨w_3, e_4, k⟩ := k
  refine wq_aJ dX4_reckon_213 e_4 ?_
  refine wp_lconst dX4_reckon_214 lc_0 ?_
  refine wp_lcmp dX4_reckon_215 ?_
  refine wp_if_eq 223 dX4_reckon_216 (by decide) (fun c_5 => ?_) (fun c_5 => ?_)
  · replace k := ok_t c_5 k
    refine wp_iconst dX4_reckon_223 ic_0 ?_
    exact wp_wk (wkE <| wkE <| wkJ <| wkE <| wkE <| wkE <| wkE <| wkE <| wkE <| wkJ <| wkJ <| wkJ <| wkJ <| wkJ <| wkJ <| wkN) (s_X4_reckon_l9_j224 hd hret hex hrec k)
  · replace k := ok_f c_5 k
    refine wp_iconst dX4_reckon_219 ic_1 ?_
    refine wp_goto 224 dX4_reckon_220 (by decide) ?_
    exact wp_wk (wkE <| wkE <| wkJ <| wkE <| wkE <| wkE <| wkE <| wkE <| wkE <| wkJ <| wkJ <| wkJ <| wkJ <| wkJ <| wkJ <| wkN) (s_X4_reckon_l9_j224 hd hret hex hrec k)
def f_X4_reckon_l9_j431 (S : SH) (rc : Nat → Nat → Int32 → Int32 → Int32 → Int32 → AH → Option ((Int32 ⊕ (Nat × Int32)) × AH)) (r0 : Nat) (r1 : Nat) (x3 : Int32) (x4 : Int32) (x5 : Int32) (x6 : Int32) (sl0 : Int64) (h : AH) : Option ((Int32 ⊕ (Nat × Int32)) × AH) :=
  if (0 : Int32) < (lg_cmp sl0 (1000000000 : Int64)) then
    some (.inl (0 : Int32), h)
  else
    if (0 : Int32) ≤ (lg_cmp sl0 (-1000000000 : Int64)) then
      (gR S h r0 4 1).bind fun p_3 =>
      (sJ S h p_3 (x4 - (1 : Int32)) sl0).bind fun h_5 =>
      lt (x6 + (1 : Int32)) fun y_7 =>
      rc r0 r1 x3 x4 x5 y_7 h_5
    else
      some (.inl (0 : Int32), h)
set_option maxHeartbeats 8000000 in
set_option maxRecDepth 20000 in
theorem s_X4_reckon_l9_j431 {S : SH} {d cb sb : Nat} {Q : Option Value → AH → Prop} (hd : 0 ≤ d) {K : (Int32 ⊕ (Nat × Int32)) → AH → Prop} (hret : ∀ (w : Int32) (h' : AH), K (.inl w) h' → Q (some (.int w)) h') (hex : ∀ (r0 : Nat) (x4 : Int32) (h' : AH), K (.inr (r0, x4)) h' → WP S M_X4_reckon d cb sb Q 470 [.ref r0, JK, JK, JK, .int x4, JK, JK, JK, JK, JK, JK, JK, JK, JK, JK] [] h') {rc : Nat → Nat → Int32 → Int32 → Int32 → Int32 → AH → Option ((Int32 ⊕ (Nat × Int32)) × AH)} (hrec : ∀ (r0 : Nat) (r1 : Nat) (x3 : Int32) (x4 : Int32) (x5 : Int32) (x6 : Int32) (h' : AH), ok (rc r0 r1 x3 x4 x5 x6 h') K → WP S M_X4_reckon d cb sb Q 9 [.ref r0, .ref r1, JK, .int x3, .int x4, .int x5, .int x6, JK, JK, JK, JK, JK, JK, JK, JK] [] h') {r0 : Nat} {r1 : Nat} {x3 : Int32} {x4 : Int32} {x5 : Int32} {x6 : Int32} {sl0 : Int64} {h : AH} (k : ok (f_X4_reckon_l9_j431 S rc r0 r1 x3 x4 x5 x6 sl0 h) K) : WP S M_X4_reckon d cb sb Q 431 [.ref r0, .ref r1, JK, .int x3, .int x4, .int x5, .int x6, JK, JK, JK, JK, JK, JK, JK, JK] [.long sl0] h := by
  unfold f_X4_reckon_l9_j431 at k
  refine wp_lstore dX4_reckon_431 (by decide) (L1 := [_, _, _, _, _, _, _, _, _, _, _, _, _, _, _]) rfl ?_
  refine wp_lload dX4_reckon_433 rfl ?_
  refine wp_ldc2 ct_X4_41 dX4_reckon_435 ?_
  refine wp_lcmp dX4_reckon_438 ?_
  refine wp_if_gt 451 dX4_reckon_439 (by decide) (fun c_1 => ?_) (fun c_1 => ?_)
  · replace k := ok_t c_1 k
    refine wp_iconst dX4_reckon_451 ic_0 ?_
    refine wp_iret rfl rfl dX4_reckon_452 ?_
    exact hret _ _ (ok_some k)
  · replace k := ok_f c_1 k
    refine wp_lload dX4_reckon_442 rfl ?_
    refine wp_ldc2 ct_X4_43 dX4_reckon_444 ?_
    refine wp_lcmp dX4_reckon_447 ?_
    refine wp_if_ge 453 dX4_reckon_448 (by decide) (fun c_2 => ?_) (fun c_2 => ?_)
    · replace k := ok_t c_2 k
      refine wp_aload_n dX4_reckon_453 rfl ?_
      replace k := ok_bind k
      obtain ⟨p_3, e_4, k⟩ := k
      refine wq_getR fl_X4_15 (Or.inr ⟨_, rfl⟩) dX4_reckon_454 e_4 ?_
      refine wp_iload dX4_reckon_457 rfl ?_
      refine wp_iconst dX4_reckon_459 ic_1 ?_
      refine wp_isub dX4_reckon_460 ?_
      refine wp_lload dX4_reckon_461 rfl ?_
      replace k := ok_bind k
      obtain ⟨h_5, e_6, k⟩ := k
      refine wq_sJ dX4_reckon_463 e_6 ?_
      replace k := ok_lt k
      refine wp_iinc dX4_reckon_464 rfl ic_1 (by decide) (L1 := [_, _, _, _, _, _, _, _, _, _, _, _, _, _, _]) rfl ?_
      refine wp_goto 9 dX4_reckon_467 (by decide) ?_
      exact wp_wk (wkE <| wkE <| wkJ <| wkE <| wkE <| wkE <| wkE <| wkJ <| wkJ <| wkJ <| wkJ <| wkJ <| wkJ <| wkJ <| wkJ <| wkN) (hrec _ _ _ _ _ _ _ k)
    · replace k := ok_f c_2 k
      refine wp_iconst dX4_reckon_451 ic_0 ?_
      refine wp_iret rfl rfl dX4_reckon_452 ?_
      exact hret _ _ (ok_some k)
def f_X4_reckon_l9_j430 (S : SH) (rc : Nat → Nat → Int32 → Int32 → Int32 → Int32 → AH → Option ((Int32 ⊕ (Nat × Int32)) × AH)) (r0 : Nat) (r1 : Nat) (x3 : Int32) (x4 : Int32) (x5 : Int32) (x6 : Int32) (h : AH) : Option ((Int32 ⊕ (Nat × Int32)) × AH) :=
  f_X4_reckon_l9_j431 S rc r0 r1 x3 x4 x5 x6 (0 : Int64) h
set_option maxHeartbeats 8000000 in
set_option maxRecDepth 20000 in
theorem s_X4_reckon_l9_j430 {S : SH} {d cb sb : Nat} {Q : Option Value → AH → Prop} (hd : 0 ≤ d) {K : (Int32 ⊕ (Nat × Int32)) → AH → Prop} (hret : ∀ (w : Int32) (h' : AH), K (.inl w) h' → Q (some (.int w)) h') (hex : ∀ (r0 : Nat) (x4 : Int32) (h' : AH), K (.inr (r0, x4)) h' → WP S M_X4_reckon d cb sb Q 470 [.ref r0, JK, JK, JK, .int x4, JK, JK, JK, JK, JK, JK, JK, JK, JK, JK] [] h') {rc : Nat → Nat → Int32 → Int32 → Int32 → Int32 → AH → Option ((Int32 ⊕ (Nat × Int32)) × AH)} (hrec : ∀ (r0 : Nat) (r1 : Nat) (x3 : Int32) (x4 : Int32) (x5 : Int32) (x6 : Int32) (h' : AH), ok (rc r0 r1 x3 x4 x5 x6 h') K → WP S M_X4_reckon d cb sb Q 9 [.ref r0, .ref r1, JK, .int x3, .int x4, .int x5, .int x6, JK, JK, JK, JK, JK, JK, JK, JK] [] h') {r0 : Nat} {r1 : Nat} {x3 : Int32} {x4 : Int32} {x5 : Int32} {x6 : Int32} {h : AH} (k : ok (f_X4_reckon_l9_j430 S rc r0 r1 x3 x4 x5 x6 h) K) : WP S M_X4_reckon d cb sb Q 430 [.ref r0, .ref r1, JK, .int x3, .int x4, .int x5, .int x6, JK, JK, JK, JK, JK, JK, JK, JK] [] h := by
  unfold f_X4_reckon_l9_j430 at k
  refine wp_lconst dX4_reckon_430 lc_0 ?_
  exact wp_wk (wkE <| wkE <| wkJ <| wkE <| wkE <| wkE <| wkE <| wkJ <| wkJ <| wkJ <| wkJ <| wkJ <| wkJ <| wkJ <| wkJ <| wkN) (s_X4_reckon_l9_j431 hd hret hex hrec k)
def f_X4_reckon_l9_j426 (S : SH) (rc : Nat → Nat → Int32 → Int32 → Int32 → Int32 → AH → Option ((Int32 ⊕ (Nat × Int32)) × AH)) (r0 : Nat) (r1 : Nat) (x3 : Int32) (x4 : Int32) (x5 : Int32) (x6 : Int32) (h : AH) : Option ((Int32 ⊕ (Nat × Int32)) × AH) :=
  f_X4_reckon_l9_j431 S rc r0 r1 x3 x4 x5 x6 (1 : Int64) h
set_option maxHeartbeats 8000000 in
set_option maxRecDepth 20000 in
theorem s_X4_reckon_l9_j426 {S : SH} {d cb sb : Nat} {Q : Option Value → AH → Prop} (hd : 0 ≤ d) {K : (Int32 ⊕ (Nat × Int32)) → AH → Prop} (hret : ∀ (w : Int32) (h' : AH), K (.inl w) h' → Q (some (.int w)) h') (hex : ∀ (r0 : Nat) (x4 : Int32) (h' : AH), K (.inr (r0, x4)) h' → WP S M_X4_reckon d cb sb Q 470 [.ref r0, JK, JK, JK, .int x4, JK, JK, JK, JK, JK, JK, JK, JK, JK, JK] [] h') {rc : Nat → Nat → Int32 → Int32 → Int32 → Int32 → AH → Option ((Int32 ⊕ (Nat × Int32)) × AH)} (hrec : ∀ (r0 : Nat) (r1 : Nat) (x3 : Int32) (x4 : Int32) (x5 : Int32) (x6 : Int32) (h' : AH), ok (rc r0 r1 x3 x4 x5 x6 h') K → WP S M_X4_reckon d cb sb Q 9 [.ref r0, .ref r1, JK, .int x3, .int x4, .int x5, .int x6, JK, JK, JK, JK, JK, JK, JK, JK] [] h') {r0 : Nat} {r1 : Nat} {x3 : Int32} {x4 : Int32} {x5 : Int32} {x6 : Int32} {h : AH} (k : ok (f_X4_reckon_l9_j426 S rc r0 r1 x3 x4 x5 x6 h) K) : WP S M_X4_reckon d cb sb Q 426 [.ref r0, .ref r1, JK, .int x3, .int x4, .int x5, .int x6, JK, JK, JK, JK, JK, JK, JK, JK] [] h := by
  unfold f_X4_reckon_l9_j426 at k
  refine wp_lconst dX4_reckon_426 lc_1 ?_
  refine wp_goto 431 dX4_reckon_427 (by decide) ?_
  exact wp_wk (wkE <| wkE <| wkJ <| wkE <| wkE <| wkE <| wkE <| wkJ <| wkJ <| wkJ <| wkJ <| wkJ <| wkJ <| wkJ <| wkJ <| wkN) (s_X4_reckon_l9_j431 hd hret hex hrec k)
def f_X4_reckon_l9_j307 (S : SH) (rc : Nat → Nat → Int32 → Int32 → Int32 → Int32 → AH → Option ((Int32 ⊕ (Nat × Int32)) × AH)) (r0 : Nat) (r1 : Nat) (x3 : Int32) (x4 : Int32) (x5 : Int32) (x6 : Int32) (x7 : Int32) (l9 : Int64) (l11 : Int64) (h : AH) : Option ((Int32 ⊕ (Nat × Int32)) × AH) :=
  if x7 = (43 : Int32) then
    f_X4_reckon_l9_j431 S rc r0 r1 x3 x4 x5 x6 (l9 + l11) h
  else
    if x7 = (45 : Int32) then
      f_X4_reckon_l9_j431 S rc r0 r1 x3 x4 x5 x6 (l9 - l11) h
    else
      if x7 = (42 : Int32) then
        f_X4_reckon_l9_j431 S rc r0 r1 x3 x4 x5 x6 (l9 * l11) h
      else
        if x7 = (47 : Int32) then
          (nzJ l11).bind fun _ =>
          f_X4_reckon_l9_j431 S rc r0 r1 x3 x4 x5 x6 (l9 / l11) h
        else
          if x7 = (37 : Int32) then
            (nzJ l11).bind fun _ =>
            f_X4_reckon_l9_j431 S rc r0 r1 x3 x4 x5 x6 (rmJ l9 l11) h
          else
            if x7 = (60 : Int32) then
              if (0 : Int32) ≤ (lg_cmp l9 l11) then
                f_X4_reckon_l9_j430 S rc r0 r1 x3 x4 x5 x6 h
              else
                f_X4_reckon_l9_j426 S rc r0 r1 x3 x4 x5 x6 h
            else
              if x7 = (62 : Int32) then
                if (lg_cmp l9 l11) ≤ (0 : Int32) then
                  f_X4_reckon_l9_j430 S rc r0 r1 x3 x4 x5 x6 h
                else
                  f_X4_reckon_l9_j426 S rc r0 r1 x3 x4 x5 x6 h
              else
                if (lg_cmp l9 l11) = (0 : Int32) then
                  f_X4_reckon_l9_j426 S rc r0 r1 x3 x4 x5 x6 h
                else
                  f_X4_reckon_l9_j430 S rc r0 r1 x3 x4 x5 x6 h
set_option maxHeartbeats 8000000 in
set_option maxRecDepth 20000 in
theorem s_X4_reckon_l9_j307 {S : SH} {d cb sb : Nat} {Q : Option Value → AH → Prop} (hd : 0 ≤ d) {K : (Int32 ⊕ (Nat × Int32)) → AH → Prop} (hret : ∀ (w : Int32) (h' : AH), K (.inl w) h' → Q (some (.int w)) h') (hex : ∀ (r0 : Nat) (x4 : Int32) (h' : AH), K (.inr (r0, x4)) h' → WP S M_X4_reckon d cb sb Q 470 [.ref r0, JK, JK, JK, .int x4, JK, JK, JK, JK, JK, JK, JK, JK, JK, JK] [] h') {rc : Nat → Nat → Int32 → Int32 → Int32 → Int32 → AH → Option ((Int32 ⊕ (Nat × Int32)) × AH)} (hrec : ∀ (r0 : Nat) (r1 : Nat) (x3 : Int32) (x4 : Int32) (x5 : Int32) (x6 : Int32) (h' : AH), ok (rc r0 r1 x3 x4 x5 x6 h') K → WP S M_X4_reckon d cb sb Q 9 [.ref r0, .ref r1, JK, .int x3, .int x4, .int x5, .int x6, JK, JK, JK, JK, JK, JK, JK, JK] [] h') {r0 : Nat} {r1 : Nat} {x3 : Int32} {x4 : Int32} {x5 : Int32} {x6 : Int32} {x7 : Int32} {l9 : Int64} {l11 : Int64} {h : AH} (k : ok (f_X4_reckon_l9_j307 S rc r0 r1 x3 x4 x5 x6 x7 l9 l11 h) K) : WP S M_X4_reckon d cb sb Q 307 [.ref r0, .ref r1, JK, .int x3, .int x4, .int x5, .int x6, .int x7, JK, .long l9, JK, .long l11, JK, JK, JK] [] h := by
  unfold f_X4_reckon_l9_j307 at k
  refine wp_iload dX4_reckon_307 rfl ?_
  refine wp_bipush dX4_reckon_309 bp_43 ?_
  refine wp_icmp_ne 322 dX4_reckon_311 (by decide) (fun c_1 => ?_) (fun c_1 => ?_)
  · replace k := ok_f c_1 k
    refine wp_iload dX4_reckon_322 rfl ?_
    refine wp_bipush dX4_reckon_324 bp_45 ?_
    refine wp_icmp_ne 337 dX4_reckon_326 (by decide) (fun c_2 => ?_) (fun c_2 => ?_)
    · replace k := ok_f c_2 k
      refine wp_iload dX4_reckon_337 rfl ?_
      refine wp_bipush dX4_reckon_339 bp_42 ?_
      refine wp_icmp_ne 352 dX4_reckon_341 (by decide) (fun c_3 => ?_) (fun c_3 => ?_)
      · replace k := ok_f c_3 k
        refine wp_iload dX4_reckon_352 rfl ?_
        refine wp_bipush dX4_reckon_354 bp_47 ?_
        refine wp_icmp_ne 367 dX4_reckon_356 (by decide) (fun c_4 => ?_) (fun c_4 => ?_)
        · replace k := ok_f c_4 k
          refine wp_iload dX4_reckon_367 rfl ?_
          refine wp_bipush dX4_reckon_369 bp_37 ?_
          refine wp_icmp_ne 382 dX4_reckon_371 (by decide) (fun c_5 => ?_) (fun c_5 => ?_)
          · replace k := ok_f c_5 k
            refine wp_iload dX4_reckon_382 rfl ?_
            refine wp_bipush dX4_reckon_384 bp_60 ?_
            refine wp_icmp_ne 400 dX4_reckon_386 (by decide) (fun c_6 => ?_) (fun c_6 => ?_)
            · replace k := ok_f c_6 k
              refine wp_iload dX4_reckon_400 rfl ?_
              refine wp_bipush dX4_reckon_402 bp_62 ?_
              refine wp_icmp_ne 418 dX4_reckon_404 (by decide) (fun c_7 => ?_) (fun c_7 => ?_)
              · replace k := ok_f c_7 k
                refine wp_lload dX4_reckon_418 rfl ?_
                refine wp_lload dX4_reckon_420 rfl ?_
                refine wp_lcmp dX4_reckon_422 ?_
                refine wp_if_ne 430 dX4_reckon_423 (by decide) (fun c_8 => ?_) (fun c_8 => ?_)
                · replace k := ok_f c_8 k
                  exact wp_wk (wkE <| wkE <| wkJ <| wkE <| wkE <| wkE <| wkE <| wkJ <| wkJ <| wkJ <| wkJ <| wkJ <| wkJ <| wkJ <| wkJ <| wkN) (s_X4_reckon_l9_j430 hd hret hex hrec k)
                · replace k := ok_t c_8 k
                  exact wp_wk (wkE <| wkE <| wkJ <| wkE <| wkE <| wkE <| wkE <| wkJ <| wkJ <| wkJ <| wkJ <| wkJ <| wkJ <| wkJ <| wkJ <| wkN) (s_X4_reckon_l9_j426 hd hret hex hrec k)
              · replace k := ok_t c_7 k
                refine wp_lload dX4_reckon_407 rfl ?_
                refine wp_lload dX4_reckon_409 rfl ?_
                refine wp_lcmp dX4_reckon_411 ?_
                refine wp_if_le 430 dX4_reckon_412 (by decide) (fun c_9 => ?_) (fun c_9 => ?_)
                · replace k := ok_t c_9 k
                  exact wp_wk (wkE <| wkE <| wkJ <| wkE <| wkE <| wkE <| wkE <| wkJ <| wkJ <| wkJ <| wkJ <| wkJ <| wkJ <| wkJ <| wkJ <| wkN) (s_X4_reckon_l9_j430 hd hret hex hrec k)
                · replace k := ok_f c_9 k
                  refine wp_goto 426 dX4_reckon_415 (by decide) ?_
                  exact wp_wk (wkE <| wkE <| wkJ <| wkE <| wkE <| wkE <| wkE <| wkJ <| wkJ <| wkJ <| wkJ <| wkJ <| wkJ <| wkJ <| wkJ <| wkN) (s_X4_reckon_l9_j426 hd hret hex hrec k)
            · replace k := ok_t c_6 k
              refine wp_lload dX4_reckon_389 rfl ?_
              refine wp_lload dX4_reckon_391 rfl ?_
              refine wp_lcmp dX4_reckon_393 ?_
              refine wp_if_ge 430 dX4_reckon_394 (by decide) (fun c_10 => ?_) (fun c_10 => ?_)
              · replace k := ok_t c_10 k
                exact wp_wk (wkE <| wkE <| wkJ <| wkE <| wkE <| wkE <| wkE <| wkJ <| wkJ <| wkJ <| wkJ <| wkJ <| wkJ <| wkJ <| wkJ <| wkN) (s_X4_reckon_l9_j430 hd hret hex hrec k)
              · replace k := ok_f c_10 k
                refine wp_goto 426 dX4_reckon_397 (by decide) ?_
                exact wp_wk (wkE <| wkE <| wkJ <| wkE <| wkE <| wkE <| wkE <| wkJ <| wkJ <| wkJ <| wkJ <| wkJ <| wkJ <| wkJ <| wkJ <| wkN) (s_X4_reckon_l9_j426 hd hret hex hrec k)
          · replace k := ok_t c_5 k
            refine wp_lload dX4_reckon_374 rfl ?_
            refine wp_lload dX4_reckon_376 rfl ?_
            replace k := ok_bind k
            obtain ⟨u, e_11, k⟩ := k
            refine wp_lrem dX4_reckon_378 (nzJ_e e_11) ?_
            refine wp_goto 431 dX4_reckon_379 (by decide) ?_
            exact wp_wk (wkE <| wkE <| wkJ <| wkE <| wkE <| wkE <| wkE <| wkJ <| wkJ <| wkJ <| wkJ <| wkJ <| wkJ <| wkJ <| wkJ <| wkN) (s_X4_reckon_l9_j431 hd hret hex hrec k)
        · replace k := ok_t c_4 k
          refine wp_lload dX4_reckon_359 rfl ?_
          refine wp_lload dX4_reckon_361 rfl ?_
          replace k := ok_bind k
          obtain ⟨u, e_12, k⟩ := k
          refine wp_ldiv dX4_reckon_363 (nzJ_e e_12) ?_
          refine wp_goto 431 dX4_reckon_364 (by decide) ?_
          exact wp_wk (wkE <| wkE <| wkJ <| wkE <| wkE <| wkE <| wkE <| wkJ <| wkJ <| wkJ <| wkJ <| wkJ <| wkJ <| wkJ <| wkJ <| wkN) (s_X4_reckon_l9_j431 hd hret hex hrec k)
      · replace k := ok_t c_3 k
        refine wp_lload dX4_reckon_344 rfl ?_
        refine wp_lload dX4_reckon_346 rfl ?_
        refine wp_lmul dX4_reckon_348 ?_
        refine wp_goto 431 dX4_reckon_349 (by decide) ?_
        exact wp_wk (wkE <| wkE <| wkJ <| wkE <| wkE <| wkE <| wkE <| wkJ <| wkJ <| wkJ <| wkJ <| wkJ <| wkJ <| wkJ <| wkJ <| wkN) (s_X4_reckon_l9_j431 hd hret hex hrec k)
    · replace k := ok_t c_2 k
      refine wp_lload dX4_reckon_329 rfl ?_
      refine wp_lload dX4_reckon_331 rfl ?_
      refine wp_lsub dX4_reckon_333 ?_
      refine wp_goto 431 dX4_reckon_334 (by decide) ?_
      exact wp_wk (wkE <| wkE <| wkJ <| wkE <| wkE <| wkE <| wkE <| wkJ <| wkJ <| wkJ <| wkJ <| wkJ <| wkJ <| wkJ <| wkJ <| wkN) (s_X4_reckon_l9_j431 hd hret hex hrec k)
  · replace k := ok_t c_1 k
    refine wp_lload dX4_reckon_314 rfl ?_
    refine wp_lload dX4_reckon_316 rfl ?_
    refine wp_ladd dX4_reckon_318 ?_
    refine wp_goto 431 dX4_reckon_319 (by decide) ?_
    exact wp_wk (wkE <| wkE <| wkJ <| wkE <| wkE <| wkE <| wkE <| wkJ <| wkJ <| wkJ <| wkJ <| wkJ <| wkJ <| wkJ <| wkJ <| wkN) (s_X4_reckon_l9_j431 hd hret hex hrec k)
def f_X4_reckon_l9b (S : SH) (rc : Nat → Nat → Int32 → Int32 → Int32 → Int32 → AH → Option ((Int32 ⊕ (Nat × Int32)) × AH)) (r0 : Nat) (r1 : Nat) (x3 : Int32) (x4 : Int32) (x5 : Int32) (x6 : Int32) (h : AH) : Option ((Int32 ⊕ (Nat × Int32)) × AH) :=
  if x3 ≤ x6 then
    some (.inr (r0, x4), h)
  else
    if x5 ≤ x6 then
      if x6 < (0 : Int32) then
        some (.inl (0 : Int32), h)
      else
        (lnA S h r1).bind fun v_4 =>
        if v_4 ≤ x6 then
          some (.inl (0 : Int32), h)
        else
          if x4 < (0 : Int32) then
            some (.inl (0 : Int32), h)
          else
            (gR S h r0 4 1).bind fun p_8 =>
            (lnA S h p_8).bind fun v_10 =>
            if x4 < v_10 then
              (aI S h r1 x6).bind fun v_13 =>
              lt ((v_13 >>> ((10 : Int32) &&& (31 : Int32)))) fun y_15 =>
              (aI S h r1 x6).bind fun v_16 =>
              lt ((v_16 &&& (1023 : Int32))) fun y_18 =>
              if y_15 = (284 : Int32) then
                (gR S h r0 4 1).bind fun p_70 =>
                (sJ S h p_70 x4 (Int32.toInt64 y_18)).bind fun h_72 =>
                lt (x4 + (1 : Int32)) fun y_74 =>
                lt (x6 + (1 : Int32)) fun y_75 =>
                rc r0 r1 x3 y_74 x5 y_75 h_72
              else
                if y_15 = (283 : Int32) then
                  (gR S h r0 4 1).bind fun p_51 =>
                  (gR S h r0 4 0).bind fun p_53 =>
                  (lnA S h p_53).bind fun v_55 =>
                  if v_55 ≤ y_18 then
                    (sJ S h p_51 x4 (-1 : Int64)).bind fun h_58 =>
                    lt (x4 + (1 : Int32)) fun y_60 =>
                    lt (x6 + (1 : Int32)) fun y_61 =>
                    rc r0 r1 x3 y_60 x5 y_61 h_58
                  else
                    (gR S h r0 4 0).bind fun p_62 =>
                    (aI S h p_62 y_18).bind fun v_64 =>
                    (sJ S h p_51 x4 (Int32.toInt64 v_64)).bind fun h_66 =>
                    lt (x4 + (1 : Int32)) fun y_68 =>
                    lt (x6 + (1 : Int32)) fun y_69 =>
                    rc r0 r1 x3 y_68 x5 y_69 h_66
                else
                  if (1 : Int32) ≤ x4 then
                    if y_15 = (258 : Int32) then
                      (gR S h r0 4 1).bind fun p_38 =>
                      (gR S h r0 4 1).bind fun p_40 =>
                      (aJ S h p_40 (x4 - (1 : Int32))).bind fun w_42 =>
                      if (lg_cmp w_42 (0 : Int64)) = (0 : Int32) then
                        (sJ S h p_38 (x4 - (1 : Int32)) (1 : Int64)).bind fun h_48 =>
                        lt (x6 + (1 : Int32)) fun y_50 =>
                        rc r0 r1 x3 x4 x5 y_50 h_48
                      else
                        (sJ S h p_38 (x4 - (1 : Int32)) (0 : Int64)).bind fun h_45 =>
                        lt (x6 + (1 : Int32)) fun y_47 =>
                        rc r0 r1 x3 x4 x5 y_47 h_45
                    else
                      if y_15 = (256 : Int32) then
                        f_X4_reckon_l9_j205 S rc r0 r1 x3 x4 x5 x6 y_15 y_18 h
                      else
                        if y_15 = (257 : Int32) then
                          f_X4_reckon_l9_j205 S rc r0 r1 x3 x4 x5 x6 y_15 y_18 h
                        else
                          if (2 : Int32) ≤ x4 then
                            lt (x4 + (-1 : Int32)) fun y_26 =>
                            (gR S h r0 4 1).bind fun p_27 =>
                            (aJ S h p_27 (y_26 - (1 : Int32))).bind fun w_29 =>
                            (gR S h r0 4 1).bind fun p_31 =>
                            (aJ S h p_31 y_26).bind fun w_33 =>
                            if (lg_cmp w_33 (0 : Int64)) = (0 : Int32) then
                              if y_15 = (47 : Int32) then
                                some (.inl (0 : Int32), h)
                              else
                                if y_15 = (37 : Int32) then
                                  some (.inl (0 : Int32), h)
                                else
                                  f_X4_reckon_l9_j307 S rc r0 r1 x3 y_26 x5 x6 y_15 w_29 w_33 h
                            else
                              f_X4_reckon_l9_j307 S rc r0 r1 x3 y_26 x5 x6 y_15 w_29 w_33 h
                          else
                            some (.inl (0 : Int32), h)
                  else
                    some (.inl (0 : Int32), h)
            else
              some (.inl (0 : Int32), h)
    else
      lt (x6 + (1 : Int32)) fun y_76 =>
      rc r0 r1 x3 x4 x5 y_76 h
set_option maxHeartbeats 8000000 in
set_option maxRecDepth 20000 in
theorem s_X4_reckon_l9b {S : SH} {d cb sb : Nat} {Q : Option Value → AH → Prop} (hd : 0 ≤ d) {K : (Int32 ⊕ (Nat × Int32)) → AH → Prop} (hret : ∀ (w : Int32) (h' : AH), K (.inl w) h' → Q (some (.int w)) h') (hex : ∀ (r0 : Nat) (x4 : Int32) (h' : AH), K (.inr (r0, x4)) h' → WP S M_X4_reckon d cb sb Q 470 [.ref r0, JK, JK, JK, .int x4, JK, JK, JK, JK, JK, JK, JK, JK, JK, JK] [] h') {rc : Nat → Nat → Int32 → Int32 → Int32 → Int32 → AH → Option ((Int32 ⊕ (Nat × Int32)) × AH)} (hrec : ∀ (r0 : Nat) (r1 : Nat) (x3 : Int32) (x4 : Int32) (x5 : Int32) (x6 : Int32) (h' : AH), ok (rc r0 r1 x3 x4 x5 x6 h') K → WP S M_X4_reckon d cb sb Q 9 [.ref r0, .ref r1, JK, .int x3, .int x4, .int x5, .int x6, JK, JK, JK, JK, JK, JK, JK, JK] [] h') {r0 : Nat} {r1 : Nat} {x3 : Int32} {x4 : Int32} {x5 : Int32} {x6 : Int32} {h : AH} (k : ok (f_X4_reckon_l9b S rc r0 r1 x3 x4 x5 x6 h) K) : WP S M_X4_reckon d cb sb Q 9 [.ref r0, .ref r1, JK, .int x3, .int x4, .int x5, .int x6, JK, JK, JK, JK, JK, JK, JK, JK] [] h := by
  unfold f_X4_reckon_l9b at k
  refine wp_iload dX4_reckon_9 rfl ?_
  refine wp_iload_n dX4_reckon_11 rfl ?_
  refine wp_icmp_ge 470 dX4_reckon_12 (by decide) (fun c_1 => ?_) (fun c_1 => ?_)
  · replace k := ok_t c_1 k
    exact wp_wk (wkE <| wkJ <| wkJ <| wkJ <| wkE <| wkJ <| wkJ <| wkJ <| wkJ <| wkJ <| wkJ <| wkJ <| wkJ <| wkJ <| wkJ <| wkN) (hex _ _ _ (ok_some k))
  · replace k := ok_f c_1 k
    refine wp_iload dX4_reckon_15 rfl ?_
    refine wp_iload dX4_reckon_17 rfl ?_
    refine wp_icmp_ge 25 dX4_reckon_19 (by decide) (fun c_2 => ?_) (fun c_2 => ?_)
    · replace k := ok_t c_2 k
      refine wp_iload dX4_reckon_25 rfl ?_
      refine wp_if_lt 52 dX4_reckon_27 (by decide) (fun c_3 => ?_) (fun c_3 => ?_)
      · replace k := ok_t c_3 k
        refine wp_iconst dX4_reckon_52 ic_0 ?_
        refine wp_iret rfl rfl dX4_reckon_53 ?_
        exact hret _ _ (ok_some k)
      · replace k := ok_f c_3 k
        refine wp_iload dX4_reckon_30 rfl ?_
        refine wp_aload_n dX4_reckon_32 rfl ?_
        replace k := ok_bind k
        obtain ⟨v_4, e_5, k⟩ := k
        refine wq_len dX4_reckon_33 e_5 ?_
        refine wp_icmp_ge 52 dX4_reckon_34 (by decide) (fun c_6 => ?_) (fun c_6 => ?_)
        · replace k := ok_t c_6 k
          refine wp_iconst dX4_reckon_52 ic_0 ?_
          refine wp_iret rfl rfl dX4_reckon_53 ?_
          exact hret _ _ (ok_some k)
        · replace k := ok_f c_6 k
          refine wp_iload dX4_reckon_37 rfl ?_
          refine wp_if_lt 52 dX4_reckon_39 (by decide) (fun c_7 => ?_) (fun c_7 => ?_)
          · replace k := ok_t c_7 k
            refine wp_iconst dX4_reckon_52 ic_0 ?_
            refine wp_iret rfl rfl dX4_reckon_53 ?_
            exact hret _ _ (ok_some k)
          · replace k := ok_f c_7 k
            refine wp_iload dX4_reckon_42 rfl ?_
            refine wp_aload_n dX4_reckon_44 rfl ?_
            replace k := ok_bind k
            obtain ⟨p_8, e_9, k⟩ := k
            refine wq_getR fl_X4_15 (Or.inr ⟨_, rfl⟩) dX4_reckon_45 e_9 ?_
            replace k := ok_bind k
            obtain ⟨v_10, e_11, k⟩ := k
            refine wq_len dX4_reckon_48 e_11 ?_
            refine wp_icmp_lt 54 dX4_reckon_49 (by decide) (fun c_12 => ?_) (fun c_12 => ?_)
            · replace k := ok_t c_12 k
              refine wp_aload_n dX4_reckon_54 rfl ?_
              refine wp_iload dX4_reckon_55 rfl ?_
              replace k := ok_bind k
              obtain ⟨v_13, e_14, k⟩ := k
              refine wq_aI dX4_reckon_57 e_14 ?_
              refine wp_bipush dX4_reckon_58 bp_10 ?_
              refine wp_ishr dX4_reckon_60 ?_
              replace k := ok_lt k
              refine wp_istore dX4_reckon_61 (by decide) (L1 := [_, _, _, _, _, _, _, _, _, _, _, _, _, _, _]) rfl ?_
              refine wp_aload_n dX4_reckon_63 rfl ?_
              refine wp_iload dX4_reckon_64 rfl ?_
              replace k := ok_bind k
              obtain ⟨v_16, e_17, k⟩ := k
              refine wq_aI dX4_reckon_66 e_17 ?_
              refine wp_sipush dX4_reckon_67 sp_1023 ?_
              refine wp_iand dX4_reckon_70 ?_
              replace k := ok_lt k
              refine wp_istore dX4_reckon_71 (by decide) (L1 := [_, _, _, _, _, _, _, _, _, _, _, _, _, _, _]) rfl ?_
              refine wp_iload dX4_reckon_73 rfl ?_
              refine wp_sipush dX4_reckon_75 sp_284 ?_
              refine wp_icmp_ne 97 dX4_reckon_78 (by decide) (fun c_19 => ?_) (fun c_19 => ?_)
              · replace k := ok_f c_19 k
                refine wp_iload dX4_reckon_97 rfl ?_
                refine wp_sipush dX4_reckon_99 sp_283 ?_
                refine wp_icmp_ne 142 dX4_reckon_102 (by decide) (fun c_20 => ?_) (fun c_20 => ?_)
                · replace k := ok_f c_20 k
                  refine wp_iload dX4_reckon_142 rfl ?_
                  refine wp_iconst dX4_reckon_144 ic_1 ?_
                  refine wp_icmp_ge 150 dX4_reckon_145 (by decide) (fun c_21 => ?_) (fun c_21 => ?_)
                  · replace k := ok_t c_21 k
                    refine wp_iload dX4_reckon_150 rfl ?_
                    refine wp_sipush dX4_reckon_152 sp_258 ?_
                    refine wp_icmp_ne 189 dX4_reckon_155 (by decide) (fun c_22 => ?_) (fun c_22 => ?_)
                    · replace k := ok_f c_22 k
                      refine wp_iload dX4_reckon_189 rfl ?_
                      refine wp_sipush dX4_reckon_191 sp_256 ?_
                      refine wp_icmp_eq 205 dX4_reckon_194 (by decide) (fun c_23 => ?_) (fun c_23 => ?_)
                      · replace k := ok_t c_23 k
                        exact wp_wk (wkE <| wkE <| wkJ <| wkE <| wkE <| wkE <| wkE <| wkE <| wkE <| wkJ <| wkJ <| wkJ <| wkJ <| wkJ <| wkJ <| wkN) (s_X4_reckon_l9_j205 hd hret hex hrec k)
                      · replace k := ok_f c_23 k
                        refine wp_iload dX4_reckon_197 rfl ?_
                        refine wp_sipush dX4_reckon_199 sp_257 ?_
                        refine wp_icmp_ne 253 dX4_reckon_202 (by decide) (fun c_24 => ?_) (fun c_24 => ?_)
                        · replace k := ok_f c_24 k
                          refine wp_iload dX4_reckon_253 rfl ?_
                          refine wp_iconst dX4_reckon_255 ic_2 ?_
                          refine wp_icmp_ge 261 dX4_reckon_256 (by decide) (fun c_25 => ?_) (fun c_25 => ?_)
                          · replace k := ok_t c_25 k
                            replace k := ok_lt k
                            refine wp_iinc dX4_reckon_261 rfl ic_m1 (by decide) (L1 := [_, _, _, _, _, _, _, _, _, _, _, _, _, _, _]) rfl ?_
                            refine wp_aload_n dX4_reckon_264 rfl ?_
                            replace k := ok_bind k
                            obtain ⟨p_27, e_28, k⟩ := k
                            refine wq_getR fl_X4_15 (Or.inr ⟨_, rfl⟩) dX4_reckon_265 e_28 ?_
                            refine wp_iload dX4_reckon_268 rfl ?_
                            refine wp_iconst dX4_reckon_270 ic_1 ?_
                            refine wp_isub dX4_reckon_271 ?_
                            replace k := ok_bind k
                            obtain ⟨w_29, e_30, k⟩ := k
                            refine wq_aJ dX4_reckon_272 e_30 ?_
                            refine wp_lstore dX4_reckon_273 (by decide) (L1 := [_, _, _, _, _, _, _, _, _, _, _, _, _, _, _]) rfl ?_
                            refine wp_aload_n dX4_reckon_275 rfl ?_
                            replace k := ok_bind k
                            obtain ⟨p_31, e_32, k⟩ := k
                            refine wq_getR fl_X4_15 (Or.inr ⟨_, rfl⟩) dX4_reckon_276 e_32 ?_
                            refine wp_iload dX4_reckon_279 rfl ?_
                            replace k := ok_bind k
                            obtain ⟨w_33, e_34, k⟩ := k
                            refine wq_aJ dX4_reckon_281 e_34 ?_
                            refine wp_lstore dX4_reckon_282 (by decide) (L1 := [_, _, _, _, _, _, _, _, _, _, _, _, _, _, _]) rfl ?_
                            refine wp_lload dX4_reckon_284 rfl ?_
                            refine wp_lconst dX4_reckon_286 lc_0 ?_
                            refine wp_lcmp dX4_reckon_287 ?_
                            refine wp_if_ne 307 dX4_reckon_288 (by decide) (fun c_35 => ?_) (fun c_35 => ?_)
                            · replace k := ok_f c_35 k
                              exact wp_wk (wkE <| wkE <| wkJ <| wkE <| wkE <| wkE <| wkE <| wkE <| wkJ <| wkE <| wkJ <| wkE <| wkJ <| wkJ <| wkJ <| wkN) (s_X4_reckon_l9_j307 hd hret hex hrec k)
                            · replace k := ok_t c_35 k
                              refine wp_iload dX4_reckon_291 rfl ?_
                              refine wp_bipush dX4_reckon_293 bp_47 ?_
                              refine wp_icmp_eq 305 dX4_reckon_295 (by decide) (fun c_36 => ?_) (fun c_36 => ?_)
                              · replace k := ok_t c_36 k
                                refine wp_iconst dX4_reckon_305 ic_0 ?_
                                refine wp_iret rfl rfl dX4_reckon_306 ?_
                                exact hret _ _ (ok_some k)
                              · replace k := ok_f c_36 k
                                refine wp_iload dX4_reckon_298 rfl ?_
                                refine wp_bipush dX4_reckon_300 bp_37 ?_
                                refine wp_icmp_ne 307 dX4_reckon_302 (by decide) (fun c_37 => ?_) (fun c_37 => ?_)
                                · replace k := ok_f c_37 k
                                  exact wp_wk (wkE <| wkE <| wkJ <| wkE <| wkE <| wkE <| wkE <| wkE <| wkJ <| wkE <| wkJ <| wkE <| wkJ <| wkJ <| wkJ <| wkN) (s_X4_reckon_l9_j307 hd hret hex hrec k)
                                · replace k := ok_t c_37 k
                                  refine wp_iconst dX4_reckon_305 ic_0 ?_
                                  refine wp_iret rfl rfl dX4_reckon_306 ?_
                                  exact hret _ _ (ok_some k)
                          · replace k := ok_f c_25 k
                            refine wp_iconst dX4_reckon_259 ic_0 ?_
                            refine wp_iret rfl rfl dX4_reckon_260 ?_
                            exact hret _ _ (ok_some k)
                        · replace k := ok_t c_24 k
                          exact wp_wk (wkE <| wkE <| wkJ <| wkE <| wkE <| wkE <| wkE <| wkE <| wkE <| wkJ <| wkJ <| wkJ <| wkJ <| wkJ <| wkJ <| wkN) (s_X4_reckon_l9_j205 hd hret hex hrec k)
                    · replace k := ok_t c_22 k
                      refine wp_aload_n dX4_reckon_158 rfl ?_
                      replace k := ok_bind k
                      obtain ⟨p_38, e_39, k⟩ := k
                      refine wq_getR fl_X4_15 (Or.inr ⟨_, rfl⟩) dX4_reckon_159 e_39 ?_
                      refine wp_iload dX4_reckon_162 rfl ?_
                      refine wp_iconst dX4_reckon_164 ic_1 ?_
                      refine wp_isub dX4_reckon_165 ?_
                      refine wp_aload_n dX4_reckon_166 rfl ?_
                      replace k := ok_bind k
                      obtain ⟨p_40, e_41, k⟩ := k
                      refine wq_getR fl_X4_15 (Or.inr ⟨_, rfl⟩) dX4_reckon_167 e_41 ?_
                      refine wp_iload dX4_reckon_170 rfl ?_
                      refine wp_iconst dX4_reckon_172 ic_1 ?_
                      refine wp_isub dX4_reckon_173 ?_
                      replace k := ok_bind k
                      obtain ⟨w_42, e_43, k⟩ := k
                      refine wq_aJ dX4_reckon_174 e_43 ?_
                      refine wp_lconst dX4_reckon_175 lc_0 ?_
                      refine wp_lcmp dX4_reckon_176 ?_
                      refine wp_if_ne 184 dX4_reckon_177 (by decide) (fun c_44 => ?_) (fun c_44 => ?_)
                      · replace k := ok_f c_44 k
                        refine wp_lconst dX4_reckon_184 lc_0 ?_
                        replace k := ok_bind k
                        obtain ⟨h_45, e_46, k⟩ := k
                        refine wq_sJ dX4_reckon_185 e_46 ?_
                        refine wp_goto 464 dX4_reckon_186 (by decide) ?_
                        replace k := ok_lt k
                        refine wp_iinc dX4_reckon_464 rfl ic_1 (by decide) (L1 := [_, _, _, _, _, _, _, _, _, _, _, _, _, _, _]) rfl ?_
                        refine wp_goto 9 dX4_reckon_467 (by decide) ?_
                        exact wp_wk (wkE <| wkE <| wkJ <| wkE <| wkE <| wkE <| wkE <| wkJ <| wkJ <| wkJ <| wkJ <| wkJ <| wkJ <| wkJ <| wkJ <| wkN) (hrec _ _ _ _ _ _ _ k)
                      · replace k := ok_t c_44 k
                        refine wp_lconst dX4_reckon_180 lc_1 ?_
                        refine wp_goto 185 dX4_reckon_181 (by decide) ?_
                        replace k := ok_bind k
                        obtain ⟨h_48, e_49, k⟩ := k
                        refine wq_sJ dX4_reckon_185 e_49 ?_
                        refine wp_goto 464 dX4_reckon_186 (by decide) ?_
                        replace k := ok_lt k
                        refine wp_iinc dX4_reckon_464 rfl ic_1 (by decide) (L1 := [_, _, _, _, _, _, _, _, _, _, _, _, _, _, _]) rfl ?_
                        refine wp_goto 9 dX4_reckon_467 (by decide) ?_
                        exact wp_wk (wkE <| wkE <| wkJ <| wkE <| wkE <| wkE <| wkE <| wkJ <| wkJ <| wkJ <| wkJ <| wkJ <| wkJ <| wkJ <| wkJ <| wkN) (hrec _ _ _ _ _ _ _ k)
                  · replace k := ok_f c_21 k
                    refine wp_iconst dX4_reckon_148 ic_0 ?_
                    refine wp_iret rfl rfl dX4_reckon_149 ?_
                    exact hret _ _ (ok_some k)
                · replace k := ok_t c_20 k
                  refine wp_aload_n dX4_reckon_105 rfl ?_
                  replace k := ok_bind k
                  obtain ⟨p_51, e_52, k⟩ := k
                  refine wq_getR fl_X4_15 (Or.inr ⟨_, rfl⟩) dX4_reckon_106 e_52 ?_
                  refine wp_iload dX4_reckon_109 rfl ?_
                  refine wp_iload dX4_reckon_111 rfl ?_
                  refine wp_aload_n dX4_reckon_113 rfl ?_
                  replace k := ok_bind k
                  obtain ⟨p_53, e_54, k⟩ := k
                  refine wq_getR fl_X4_9 (Or.inr ⟨_, rfl⟩) dX4_reckon_114 e_54 ?_
                  replace k := ok_bind k
                  obtain ⟨v_55, e_56, k⟩ := k
                  refine wq_len dX4_reckon_117 e_56 ?_
                  refine wp_icmp_ge 132 dX4_reckon_118 (by decide) (fun c_57 => ?_) (fun c_57 => ?_)
                  · replace k := ok_t c_57 k
                    refine wp_ldc2 ct_X4_39 dX4_reckon_132 ?_
                    replace k := ok_bind k
                    obtain ⟨h_58, e_59, k⟩ := k
                    refine wq_sJ dX4_reckon_135 e_59 ?_
                    replace k := ok_lt k
                    refine wp_iinc dX4_reckon_136 rfl ic_1 (by decide) (L1 := [_, _, _, _, _, _, _, _, _, _, _, _, _, _, _]) rfl ?_
                    refine wp_goto 464 dX4_reckon_139 (by decide) ?_
                    replace k := ok_lt k
                    refine wp_iinc dX4_reckon_464 rfl ic_1 (by decide) (L1 := [_, _, _, _, _, _, _, _, _, _, _, _, _, _, _]) rfl ?_
                    refine wp_goto 9 dX4_reckon_467 (by decide) ?_
                    exact wp_wk (wkE <| wkE <| wkJ <| wkE <| wkE <| wkE <| wkE <| wkJ <| wkJ <| wkJ <| wkJ <| wkJ <| wkJ <| wkJ <| wkJ <| wkN) (hrec _ _ _ _ _ _ _ k)
                  · replace k := ok_f c_57 k
                    refine wp_aload_n dX4_reckon_121 rfl ?_
                    replace k := ok_bind k
                    obtain ⟨p_62, e_63, k⟩ := k
                    refine wq_getR fl_X4_9 (Or.inr ⟨_, rfl⟩) dX4_reckon_122 e_63 ?_
                    refine wp_iload dX4_reckon_125 rfl ?_
                    replace k := ok_bind k
                    obtain ⟨v_64, e_65, k⟩ := k
                    refine wq_aI dX4_reckon_127 e_65 ?_
                    refine wp_i2l dX4_reckon_128 ?_
                    refine wp_goto 135 dX4_reckon_129 (by decide) ?_
                    replace k := ok_bind k
                    obtain ⟨h_66, e_67, k⟩ := k
                    refine wq_sJ dX4_reckon_135 e_67 ?_
                    replace k := ok_lt k
                    refine wp_iinc dX4_reckon_136 rfl ic_1 (by decide) (L1 := [_, _, _, _, _, _, _, _, _, _, _, _, _, _, _]) rfl ?_
                    refine wp_goto 464 dX4_reckon_139 (by decide) ?_
                    replace k := ok_lt k
                    refine wp_iinc dX4_reckon_464 rfl ic_1 (by decide) (L1 := [_, _, _, _, _, _, _, _, _, _, _, _, _, _, _]) rfl ?_
                    refine wp_goto 9 dX4_reckon_467 (by decide) ?_
                    exact wp_wk (wkE <| wkE <| wkJ <| wkE <| wkE <| wkE <| wkE <| wkJ <| wkJ <| wkJ <| wkJ <| wkJ <| wkJ <| wkJ <| wkJ <| wkN) (hrec _ _ _ _ _ _ _ k)
              · replace k := ok_t c_19 k
                refine wp_aload_n dX4_reckon_81 rfl ?_
                replace k := ok_bind k
                obtain ⟨p_70, e_71, k⟩ := k
                refine wq_getR fl_X4_15 (Or.inr ⟨_, rfl⟩) dX4_reckon_82 e_71 ?_
                refine wp_iload dX4_reckon_85 rfl ?_
                refine wp_iload dX4_reckon_87 rfl ?_
                refine wp_i2l dX4_reckon_89 ?_
                replace k := ok_bind k
                obtain ⟨h_72, e_73, k⟩ := k
                refine wq_sJ dX4_reckon_90 e_73 ?_
                replace k := ok_lt k
                refine wp_iinc dX4_reckon_91 rfl ic_1 (by decide) (L1 := [_, _, _, _, _, _, _, _, _, _, _, _, _, _, _]) rfl ?_
                refine wp_goto 464 dX4_reckon_94 (by decide) ?_
                replace k := ok_lt k
                refine wp_iinc dX4_reckon_464 rfl ic_1 (by decide) (L1 := [_, _, _, _, _, _, _, _, _, _, _, _, _, _, _]) rfl ?_
                refine wp_goto 9 dX4_reckon_467 (by decide) ?_
                exact wp_wk (wkE <| wkE <| wkJ <| wkE <| wkE <| wkE <| wkE <| wkJ <| wkJ <| wkJ <| wkJ <| wkJ <| wkJ <| wkJ <| wkJ <| wkN) (hrec _ _ _ _ _ _ _ k)
            · replace k := ok_f c_12 k
              refine wp_iconst dX4_reckon_52 ic_0 ?_
              refine wp_iret rfl rfl dX4_reckon_53 ?_
              exact hret _ _ (ok_some k)
    · replace k := ok_f c_2 k
      refine wp_goto 464 dX4_reckon_22 (by decide) ?_
      replace k := ok_lt k
      refine wp_iinc dX4_reckon_464 rfl ic_1 (by decide) (L1 := [_, _, _, _, _, _, _, _, _, _, _, _, _, _, _]) rfl ?_
      refine wp_goto 9 dX4_reckon_467 (by decide) ?_
      exact wp_wk (wkE <| wkE <| wkJ <| wkE <| wkE <| wkE <| wkE <| wkJ <| wkJ <| wkJ <| wkJ <| wkJ <| wkJ <| wkJ <| wkJ <| wkN) (hrec _ _ _ _ _ _ _ k)
def f_X4_reckon_l9 (S : SH) : Nat → Nat → Nat → Int32 → Int32 → Int32 → Int32 → AH → Option ((Int32 ⊕ (Nat × Int32)) × AH)
  | 0, _, _, _, _, _, _, _ => none
  | n + 1, r0, r1, x3, x4, x5, x6, h => f_X4_reckon_l9b S (f_X4_reckon_l9 S n) r0 r1 x3 x4 x5 x6 h
theorem s_X4_reckon_l9 {S : SH} {d cb sb : Nat} {Q : Option Value → AH → Prop} (hd : 0 ≤ d) {K : (Int32 ⊕ (Nat × Int32)) → AH → Prop} (hret : ∀ (w : Int32) (h' : AH), K (.inl w) h' → Q (some (.int w)) h') (hex : ∀ (r0 : Nat) (x4 : Int32) (h' : AH), K (.inr (r0, x4)) h' → WP S M_X4_reckon d cb sb Q 470 [.ref r0, JK, JK, JK, .int x4, JK, JK, JK, JK, JK, JK, JK, JK, JK, JK] [] h') : ∀ (n : Nat) (r0 : Nat) (r1 : Nat) (x3 : Int32) (x4 : Int32) (x5 : Int32) (x6 : Int32) (h : AH), ok (f_X4_reckon_l9 S n r0 r1 x3 x4 x5 x6 h) K → WP S M_X4_reckon d cb sb Q 9 [.ref r0, .ref r1, JK, .int x3, .int x4, .int x5, .int x6, JK, JK, JK, JK, JK, JK, JK, JK] [] h := by
  intro n
  induction n with
  | zero => intro r0 r1 x3 x4 x5 x6 h k; exact ok_none k
  | succ n ih => intro r0 r1 x3 x4 x5 x6 h k; exact s_X4_reckon_l9b hd hret hex (fun r0 r1 x3 x4 x5 x6 h k => ih r0 r1 x3 x4 x5 x6 h k) k
def f_X4_reckon (S : SH) (r0 : Nat) (r1 : Nat) (x2 : Int32) (x3 : Int32) (h : AH) : Option (Int32 × AH) :=
  (f_X4_reckon_l9 S FU r0 r1 x3 (0 : Int32) x2 x2 h).bind fun z => match z with
  | (.inl w, h') => some (w, h')
  | (.inr (r0_2, x4_3), h_1) =>
    if x4_3 ≤ (0 : Int32) then
      (pI S h_1 r0_2 4 2 (0 : Int32)).bind fun h_5 =>
      some ((1 : Int32), h_5)
    else
      (gR S h_1 r0_2 4 1).bind fun p_7 =>
      (aJ S h_1 p_7 (0 : Int32)).bind fun w_9 =>
      (pI S h_1 r0_2 4 2 (Int64.toInt32 w_9)).bind fun h_11 =>
      some ((1 : Int32), h_11)
set_option maxHeartbeats 8000000 in
set_option maxRecDepth 20000 in
theorem s_X4_reckon {S : SH} {d cb sb : Nat} {Q : Option Value → AH → Prop} (hd : 0 ≤ d)  {r0 : Nat} {r1 : Nat} {x2 : Int32} {x3 : Int32} {h : AH} (k : ok (f_X4_reckon S r0 r1 x2 x3 h) (fun w h' => Q (some (.int w)) h')) : WP S M_X4_reckon d cb sb Q 0 [.ref r0, .ref r1, .int x2, .int x3, JK, JK, JK, JK, JK, JK, JK, JK, JK, JK, JK] [] h := by
  unfold f_X4_reckon at k
  refine wp_iconst dX4_reckon_0 ic_0 ?_
  refine wp_istore dX4_reckon_1 (by decide) (L1 := [_, _, _, _, _, _, _, _, _, _, _, _, _, _, _]) rfl ?_
  refine wp_iload_n dX4_reckon_3 rfl ?_
  refine wp_istore dX4_reckon_4 (by decide) (L1 := [_, _, _, _, _, _, _, _, _, _, _, _, _, _, _]) rfl ?_
  refine wp_iload_n dX4_reckon_6 rfl ?_
  refine wp_istore dX4_reckon_7 (by decide) (L1 := [_, _, _, _, _, _, _, _, _, _, _, _, _, _, _]) rfl ?_
  refine wp_wk (wkE <| wkE <| wkJ <| wkE <| wkE <| wkE <| wkE <| wkJ <| wkJ <| wkJ <| wkJ <| wkJ <| wkJ <| wkJ <| wkJ <| wkN) ?_
  refine s_X4_reckon_l9 hd (fun w h' k => ?_) (fun r0_2 x4_3 h_1 k => ?_) FU _ _ _ _ _ _ _ (ok_bind2 k)
  · try dsimp only at k
    exact (ok_some k :)
  · try dsimp only at k
    refine wp_aload_n dX4_reckon_470 rfl ?_
    refine wp_iload dX4_reckon_471 rfl ?_
    refine wp_if_le 486 dX4_reckon_473 (by decide) (fun c_4 => ?_) (fun c_4 => ?_)
    · replace k := ok_t c_4 k
      refine wp_iconst dX4_reckon_486 ic_0 ?_
      replace k := ok_bind k
      obtain ⟨h_5, e_6, k⟩ := k
      refine wq_putI fl_X4_36 rfl rfl dX4_reckon_487 e_6 ?_
      refine wp_iconst dX4_reckon_490 ic_1 ?_
      refine wp_iret rfl rfl dX4_reckon_491 ?_
      exact (ok_some k :)
    · replace k := ok_f c_4 k
      refine wp_aload_n dX4_reckon_476 rfl ?_
      replace k := ok_bind k
      obtain ⟨p_7, e_8, k⟩ := k
      refine wq_getR fl_X4_15 (Or.inr ⟨_, rfl⟩) dX4_reckon_477 e_8 ?_
      refine wp_iconst dX4_reckon_480 ic_0 ?_
      replace k := ok_bind k
      obtain ⟨w_9, e_10, k⟩ := k
      refine wq_aJ dX4_reckon_481 e_10 ?_
      refine wp_l2i dX4_reckon_482 ?_
      refine wp_goto 487 dX4_reckon_483 (by decide) ?_
      replace k := ok_bind k
      obtain ⟨h_11, e_12, k⟩ := k
      refine wq_putI fl_X4_36 rfl rfl dX4_reckon_487 e_12 ?_
      refine wp_iconst dX4_reckon_490 ic_1 ?_
      refine wp_iret rfl rfl dX4_reckon_491 ?_
      exact (ok_some k :)
theorem c_X4_reckon {S : SH} {d : Nat} {K : Option Value → AH → Prop} (hd : 0 ≤ d)  {r0 : Nat} {r1 : Nat} {x2 : Int32} {x3 : Int32} {h : AH} (k : ok (f_X4_reckon S r0 r1 x2 x3 h) (fun w h' => K (some (.int w)) h')) : CP S M_X4_reckon d 0 0 [.ref r0, .ref r1, .int x2, .int x3] h K := cp_of (by decide) (fun _ _ => trivial) (fun _ => Nat.le_of_ble_eq_true rfl) (s_X4_reckon hd  k)
def f_X4_holds_l7_j71 (S : SH) (rc : Nat → Nat → Int32 → Int32 → AH → Option ((Int32 ⊕ Unit) × AH)) (r0 : Nat) (r1 : Nat) (x2 : Int32) (x3 : Int32) (x4 : Int32) (sx0 : Int32) (h : AH) : Option ((Int32 ⊕ Unit) × AH) :=
  if sx0 = (0 : Int32) then
    lt (x3 + (-1 : Int32)) fun y_2 =>
    rc r0 r1 x2 y_2 h
  else
    (gR S h r1 8 0).bind fun p_3 =>
    (ckO S h r1 8).bind fun _ =>
    (f_X8_head S r1 x3 (2 : Int32) h).bind fun z => match z with
    | (z_7, h_6) =>
    (ckO S h_6 r0 4).bind fun _ =>
    (f_X4_reckon S r0 p_3 z_7 x4 h_6).bind fun z => match z with
    | (z_10, h_9) =>
    if z_10 = (0 : Int32) then
      lt (x3 + (-1 : Int32)) fun y_12 =>
      rc r0 r1 x2 y_12 h_9
    else
      some (.inl (1 : Int32), h_9)
set_option maxHeartbeats 8000000 in
set_option maxRecDepth 20000 in
theorem s_X4_holds_l7_j71 {S : SH} {d cb sb : Nat} {Q : Option Value → AH → Prop} (hd : 1 ≤ d) {K : (Int32 ⊕ Unit) → AH → Prop} (hret : ∀ (w : Int32) (h' : AH), K (.inl w) h' → Q (some (.int w)) h') (hex : ∀  (h' : AH), K (.inr ()) h' → WP S M_X4_holds d cb sb Q 105 [JK, JK, JK, JK, JK, JK, JK] [] h') {rc : Nat → Nat → Int32 → Int32 → AH → Option ((Int32 ⊕ Unit) × AH)} (hrec : ∀ (r0 : Nat) (r1 : Nat) (x2 : Int32) (x3 : Int32) (h' : AH), ok (rc r0 r1 x2 x3 h') K → WP S M_X4_holds d cb sb Q 7 [.ref r0, .ref r1, .int x2, .int x3, JK, JK, JK] [] h') {r0 : Nat} {r1 : Nat} {x2 : Int32} {x3 : Int32} {x4 : Int32} {sx0 : Int32} {h : AH} (k : ok (f_X4_holds_l7_j71 S rc r0 r1 x2 x3 x4 sx0 h) K) : WP S M_X4_holds d cb sb Q 71 [.ref r0, .ref r1, .int x2, .int x3, .int x4, JK, JK] [.int sx0] h := by
  obtain ⟨d, rfl, he⟩ := dp (L := 0) hd
  unfold f_X4_holds_l7_j71 at k
  refine wp_istore dX4_holds_71 (by decide) (L1 := [_, _, _, _, _, _, _]) rfl ?_
  refine wp_iload dX4_holds_73 rfl ?_
  refine wp_if_eq 99 dX4_holds_75 (by decide) (fun c_1 => ?_) (fun c_1 => ?_)
  · replace k := ok_t c_1 k
    replace k := ok_lt k
    refine wp_iinc dX4_holds_99 rfl ic_m1 (by decide) (L1 := [_, _, _, _, _, _, _]) rfl ?_
    refine wp_goto 7 dX4_holds_102 (by decide) ?_
    exact wp_wk (wkE <| wkE <| wkE <| wkE <| wkJ <| wkJ <| wkJ <| wkN) (hrec _ _ _ _ _ k)
  · replace k := ok_f c_1 k
    refine wp_aload_n dX4_holds_78 rfl ?_
    refine wp_aload_n dX4_holds_79 rfl ?_
    replace k := ok_bind k
    obtain ⟨p_3, e_4, k⟩ := k
    refine wq_getR fl_X4_29 (Or.inr ⟨_, rfl⟩) dX4_holds_80 e_4 ?_
    refine wp_aload_n dX4_holds_83 rfl ?_
    refine wp_iload_n dX4_holds_84 rfl ?_
    refine wp_iconst dX4_holds_85 ic_2 ?_
    replace k := ok_bind k
    obtain ⟨u, e_5, k⟩ := k
    refine wp_callV2 (N := M_X8_head) (ci := 8) mf_X8_head mi_X8_head me_X8_head ml_X4_25 dX4_holds_86 (ckO_e e_5) mv_X8_head (by exact Nat.le_of_ble_eq_true rfl) (c_X8_head (Nat.le_trans (by decide) he) (ok_mono (ok_bind2 k) fun z_7 h_6 k => ?_))
    try dsimp only at k
    refine wp_iload dX4_holds_89 rfl ?_
    replace k := ok_bind k
    obtain ⟨u, e_8, k⟩ := k
    refine wp_callV3 (N := M_X4_reckon) (ci := 4) mf_X4_reckon mi_X4_reckon me_X4_reckon ml_X4_32 dX4_holds_91 (ckO_e e_8) mv_X4_reckon (by exact Nat.le_of_ble_eq_true rfl) (c_X4_reckon (Nat.le_trans (by decide) he) (ok_mono (ok_bind2 k) fun z_10 h_9 k => ?_))
    try dsimp only at k
    refine wp_if_eq 99 dX4_holds_94 (by decide) (fun c_11 => ?_) (fun c_11 => ?_)
    · replace k := ok_t c_11 k
      replace k := ok_lt k
      refine wp_iinc dX4_holds_99 rfl ic_m1 (by decide) (L1 := [_, _, _, _, _, _, _]) rfl ?_
      refine wp_goto 7 dX4_holds_102 (by decide) ?_
      exact wp_wk (wkE <| wkE <| wkE <| wkE <| wkJ <| wkJ <| wkJ <| wkN) (hrec _ _ _ _ _ k)
    · replace k := ok_f c_11 k
      refine wp_iconst dX4_holds_97 ic_1 ?_
      refine wp_iret rfl rfl dX4_holds_98 ?_
      exact hret _ _ (ok_some k)
def f_X4_holds_l7_j66 (S : SH) (rc : Nat → Nat → Int32 → Int32 → AH → Option ((Int32 ⊕ Unit) × AH)) (r0 : Nat) (r1 : Nat) (x2 : Int32) (x3 : Int32) (x4 : Int32) (h : AH) : Option ((Int32 ⊕ Unit) × AH) :=
  f_X4_holds_l7_j71 S rc r0 r1 x2 x3 x4 (1 : Int32) h
set_option maxHeartbeats 8000000 in
set_option maxRecDepth 20000 in
theorem s_X4_holds_l7_j66 {S : SH} {d cb sb : Nat} {Q : Option Value → AH → Prop} (hd : 1 ≤ d) {K : (Int32 ⊕ Unit) → AH → Prop} (hret : ∀ (w : Int32) (h' : AH), K (.inl w) h' → Q (some (.int w)) h') (hex : ∀  (h' : AH), K (.inr ()) h' → WP S M_X4_holds d cb sb Q 105 [JK, JK, JK, JK, JK, JK, JK] [] h') {rc : Nat → Nat → Int32 → Int32 → AH → Option ((Int32 ⊕ Unit) × AH)} (hrec : ∀ (r0 : Nat) (r1 : Nat) (x2 : Int32) (x3 : Int32) (h' : AH), ok (rc r0 r1 x2 x3 h') K → WP S M_X4_holds d cb sb Q 7 [.ref r0, .ref r1, .int x2, .int x3, JK, JK, JK] [] h') {r0 : Nat} {r1 : Nat} {x2 : Int32} {x3 : Int32} {x4 : Int32} {h : AH} (k : ok (f_X4_holds_l7_j66 S rc r0 r1 x2 x3 x4 h) K) : WP S M_X4_holds d cb sb Q 66 [.ref r0, .ref r1, .int x2, .int x3, .int x4, JK, JK] [] h := by
  obtain ⟨d, rfl, he⟩ := dp (L := 0) hd
  unfold f_X4_holds_l7_j66 at k
  refine wp_iconst dX4_holds_66 ic_1 ?_
  refine wp_goto 71 dX4_holds_67 (by decide) ?_
  exact wp_wk (wkE <| wkE <| wkE <| wkE <| wkE <| wkJ <| wkJ <| wkN) (s_X4_holds_l7_j71 (Nat.succ_le_succ he) hret hex hrec k)
def f_X4_holds_l7_j70 (S : SH) (rc : Nat → Nat → Int32 → Int32 → AH → Option ((Int32 ⊕ Unit) × AH)) (r0 : Nat) (r1 : Nat) (x2 : Int32) (x3 : Int32) (x4 : Int32) (h : AH) : Option ((Int32 ⊕ Unit) × AH) :=
  f_X4_holds_l7_j71 S rc r0 r1 x2 x3 x4 (0 : Int32) h
set_option maxHeartbeats 8000000 in
set_option maxRecDepth 20000 in
theorem s_X4_holds_l7_j70 {S : SH} {d cb sb : Nat} {Q : Option Value → AH → Prop} (hd : 1 ≤ d) {K : (Int32 ⊕ Unit) → AH → Prop} (hret : ∀ (w : Int32) (h' : AH), K (.inl w) h' → Q (some (.int w)) h') (hex : ∀  (h' : AH), K (.inr ()) h' → WP S M_X4_holds d cb sb Q 105 [JK, JK, JK, JK, JK, JK, JK] [] h') {rc : Nat → Nat → Int32 → Int32 → AH → Option ((Int32 ⊕ Unit) × AH)} (hrec : ∀ (r0 : Nat) (r1 : Nat) (x2 : Int32) (x3 : Int32) (h' : AH), ok (rc r0 r1 x2 x3 h') K → WP S M_X4_holds d cb sb Q 7 [.ref r0, .ref r1, .int x2, .int x3, JK, JK, JK] [] h') {r0 : Nat} {r1 : Nat} {x2 : Int32} {x3 : Int32} {x4 : Int32} {h : AH} (k : ok (f_X4_holds_l7_j70 S rc r0 r1 x2 x3 x4 h) K) : WP S M_X4_holds d cb sb Q 70 [.ref r0, .ref r1, .int x2, .int x3, .int x4, JK, JK] [] h := by
  obtain ⟨d, rfl, he⟩ := dp (L := 0) hd
  unfold f_X4_holds_l7_j70 at k
  refine wp_iconst dX4_holds_70 ic_0 ?_
  exact wp_wk (wkE <| wkE <| wkE <| wkE <| wkE <| wkJ <| wkJ <| wkN) (s_X4_holds_l7_j71 (Nat.succ_le_succ he) hret hex hrec k)
def f_X4_holds_l7b (S : SH) (rc : Nat → Nat → Int32 → Int32 → AH → Option ((Int32 ⊕ Unit) × AH)) (r0 : Nat) (r1 : Nat) (x2 : Int32) (x3 : Int32) (h : AH) : Option ((Int32 ⊕ Unit) × AH) :=
  if x3 < (0 : Int32) then
    some (.inr (), h)
  else
    (ckO S h r1 8).bind fun _ =>
    (f_X8_head S r1 x3 (0 : Int32) h).bind fun z => match z with
    | (z_4, h_3) =>
    if z_4 = x2 then
      (ckO S h_3 r1 8).bind fun _ =>
      (f_X8_head S r1 x3 (4 : Int32) h_3).bind fun z => match z with
      | (z_9, h_8) =>
      (ckO S h_8 r1 8).bind fun _ =>
      (f_X8_head S r1 x3 (5 : Int32) h_8).bind fun z => match z with
      | (z_12, h_11) =>
      if z_12 ≤ z_9 then
        f_X4_holds_l7_j66 S rc r0 r1 x2 x3 z_9 h_11
      else
        (gR S h_11 r1 8 0).bind fun p_14 =>
        (ckO S h_11 r0 4).bind fun _ =>
        (f_X4_reckon S r0 p_14 z_9 z_12 h_11).bind fun z => match z with
        | (z_18, h_17) =>
        if z_18 = (0 : Int32) then
          f_X4_holds_l7_j70 S rc r0 r1 x2 x3 z_9 h_17
        else
          (gI S h_17 r0 4 2).bind fun v_20 =>
          if v_20 = (0 : Int32) then
            f_X4_holds_l7_j70 S rc r0 r1 x2 x3 z_9 h_17
          else
            f_X4_holds_l7_j66 S rc r0 r1 x2 x3 z_9 h_17
    else
      lt (x3 + (-1 : Int32)) fun y_6 =>
      rc r0 r1 x2 y_6 h_3
set_option maxHeartbeats 8000000 in
set_option maxRecDepth 20000 in
theorem s_X4_holds_l7b {S : SH} {d cb sb : Nat} {Q : Option Value → AH → Prop} (hd : 1 ≤ d) {K : (Int32 ⊕ Unit) → AH → Prop} (hret : ∀ (w : Int32) (h' : AH), K (.inl w) h' → Q (some (.int w)) h') (hex : ∀  (h' : AH), K (.inr ()) h' → WP S M_X4_holds d cb sb Q 105 [JK, JK, JK, JK, JK, JK, JK] [] h') {rc : Nat → Nat → Int32 → Int32 → AH → Option ((Int32 ⊕ Unit) × AH)} (hrec : ∀ (r0 : Nat) (r1 : Nat) (x2 : Int32) (x3 : Int32) (h' : AH), ok (rc r0 r1 x2 x3 h') K → WP S M_X4_holds d cb sb Q 7 [.ref r0, .ref r1, .int x2, .int x3, JK, JK, JK] [] h') {r0 : Nat} {r1 : Nat} {x2 : Int32} {x3 : Int32} {h : AH} (k : ok (f_X4_holds_l7b S rc r0 r1 x2 x3 h) K) : WP S M_X4_holds d cb sb Q 7 [.ref r0, .ref r1, .int x2, .int x3, JK, JK, JK] [] h := by
  obtain ⟨d, rfl, he⟩ := dp (L := 0) hd
  unfold f_X4_holds_l7b at k
  refine wp_iload_n dX4_holds_7 rfl ?_
  refine wp_if_lt 105 dX4_holds_8 (by decide) (fun c_1 => ?_) (fun c_1 => ?_)
  · replace k := ok_t c_1 k
    exact wp_wk (wkJ <| wkJ <| wkJ <| wkJ <| wkJ <| wkJ <| wkJ <| wkN) (hex  _ (ok_some k))
  · replace k := ok_f c_1 k
    refine wp_aload_n dX4_holds_11 rfl ?_
    refine wp_iload_n dX4_holds_12 rfl ?_
    refine wp_iconst dX4_holds_13 ic_0 ?_
    replace k := ok_bind k
    obtain ⟨u, e_2, k⟩ := k
    refine wp_callV2 (N := M_X8_head) (ci := 8) mf_X8_head mi_X8_head me_X8_head ml_X4_25 dX4_holds_14 (ckO_e e_2) mv_X8_head (by exact Nat.le_of_ble_eq_true rfl) (c_X8_head (Nat.le_trans (by decide) he) (ok_mono (ok_bind2 k) fun z_4 h_3 k => ?_))
    try dsimp only at k
    refine wp_iload_n dX4_holds_17 rfl ?_
    refine wp_icmp_ne 99 dX4_holds_18 (by decide) (fun c_5 => ?_) (fun c_5 => ?_)
    · replace k := ok_f c_5 k
      replace k := ok_lt k
      refine wp_iinc dX4_holds_99 rfl ic_m1 (by decide) (L1 := [_, _, _, _, _, _, _]) rfl ?_
      refine wp_goto 7 dX4_holds_102 (by decide) ?_
      exact wp_wk (wkE <| wkE <| wkE <| wkE <| wkJ <| wkJ <| wkJ <| wkN) (hrec _ _ _ _ _ k)
    · replace k := ok_t c_5 k
      refine wp_aload_n dX4_holds_21 rfl ?_
      refine wp_iload_n dX4_holds_22 rfl ?_
      refine wp_iconst dX4_holds_23 ic_4 ?_
      replace k := ok_bind k
      obtain ⟨u, e_7, k⟩ := k
      refine wp_callV2 (N := M_X8_head) (ci := 8) mf_X8_head mi_X8_head me_X8_head ml_X4_25 dX4_holds_24 (ckO_e e_7) mv_X8_head (by exact Nat.le_of_ble_eq_true rfl) (c_X8_head (Nat.le_trans (by decide) he) (ok_mono (ok_bind2 k) fun z_9 h_8 k => ?_))
      try dsimp only at k
      refine wp_istore dX4_holds_27 (by decide) (L1 := [_, _, _, _, _, _, _]) rfl ?_
      refine wp_aload_n dX4_holds_29 rfl ?_
      refine wp_iload_n dX4_holds_30 rfl ?_
      refine wp_iconst dX4_holds_31 ic_5 ?_
      replace k := ok_bind k
      obtain ⟨u, e_10, k⟩ := k
      refine wp_callV2 (N := M_X8_head) (ci := 8) mf_X8_head mi_X8_head me_X8_head ml_X4_25 dX4_holds_32 (ckO_e e_10) mv_X8_head (by exact Nat.le_of_ble_eq_true rfl) (c_X8_head (Nat.le_trans (by decide) he) (ok_mono (ok_bind2 k) fun z_12 h_11 k => ?_))
      try dsimp only at k
      refine wp_istore dX4_holds_35 (by decide) (L1 := [_, _, _, _, _, _, _]) rfl ?_
      refine wp_iload dX4_holds_37 rfl ?_
      refine wp_iload dX4_holds_39 rfl ?_
      refine wp_icmp_ge 66 dX4_holds_41 (by decide) (fun c_13 => ?_) (fun c_13 => ?_)
      · replace k := ok_t c_13 k
        exact wp_wk (wkE <| wkE <| wkE <| wkE <| wkE <| wkJ <| wkJ <| wkN) (s_X4_holds_l7_j66 (Nat.succ_le_succ he) hret hex hrec k)
      · replace k := ok_f c_13 k
        refine wp_aload_n dX4_holds_44 rfl ?_
        refine wp_aload_n dX4_holds_45 rfl ?_
        replace k := ok_bind k
        obtain ⟨p_14, e_15, k⟩ := k
        refine wq_getR fl_X4_29 (Or.inr ⟨_, rfl⟩) dX4_holds_46 e_15 ?_
        refine wp_iload dX4_holds_49 rfl ?_
        refine wp_iload dX4_holds_51 rfl ?_
        replace k := ok_bind k
        obtain ⟨u, e_16, k⟩ := k
        refine wp_callV3 (N := M_X4_reckon) (ci := 4) mf_X4_reckon mi_X4_reckon me_X4_reckon ml_X4_32 dX4_holds_53 (ckO_e e_16) mv_X4_reckon (by exact Nat.le_of_ble_eq_true rfl) (c_X4_reckon (Nat.le_trans (by decide) he) (ok_mono (ok_bind2 k) fun z_18 h_17 k => ?_))
        try dsimp only at k
        refine wp_if_eq 70 dX4_holds_56 (by decide) (fun c_19 => ?_) (fun c_19 => ?_)
        · replace k := ok_t c_19 k
          exact wp_wk (wkE <| wkE <| wkE <| wkE <| wkE <| wkJ <| wkJ <| wkN) (s_X4_holds_l7_j70 (Nat.succ_le_succ he) hret hex hrec k)
        · replace k := ok_f c_19 k
          refine wp_aload_n dX4_holds_59 rfl ?_
          replace k := ok_bind k
          obtain ⟨v_20, e_21, k⟩ := k
          refine wq_getI fl_X4_36 (Or.inl rfl) dX4_holds_60 e_21 ?_
          refine wp_if_eq 70 dX4_holds_63 (by decide) (fun c_22 => ?_) (fun c_22 => ?_)
          · replace k := ok_t c_22 k
            exact wp_wk (wkE <| wkE <| wkE <| wkE <| wkE <| wkJ <| wkJ <| wkN) (s_X4_holds_l7_j70 (Nat.succ_le_succ he) hret hex hrec k)
          · replace k := ok_f c_22 k
            exact wp_wk (wkE <| wkE <| wkE <| wkE <| wkE <| wkJ <| wkJ <| wkN) (s_X4_holds_l7_j66 (Nat.succ_le_succ he) hret hex hrec k)
def f_X4_holds_l7 (S : SH) : Nat → Nat → Nat → Int32 → Int32 → AH → Option ((Int32 ⊕ Unit) × AH)
  | 0, _, _, _, _, _ => none
  | n + 1, r0, r1, x2, x3, h => f_X4_holds_l7b S (f_X4_holds_l7 S n) r0 r1 x2 x3 h
theorem s_X4_holds_l7 {S : SH} {d cb sb : Nat} {Q : Option Value → AH → Prop} (hd : 1 ≤ d) {K : (Int32 ⊕ Unit) → AH → Prop} (hret : ∀ (w : Int32) (h' : AH), K (.inl w) h' → Q (some (.int w)) h') (hex : ∀  (h' : AH), K (.inr ()) h' → WP S M_X4_holds d cb sb Q 105 [JK, JK, JK, JK, JK, JK, JK] [] h') : ∀ (n : Nat) (r0 : Nat) (r1 : Nat) (x2 : Int32) (x3 : Int32) (h : AH), ok (f_X4_holds_l7 S n r0 r1 x2 x3 h) K → WP S M_X4_holds d cb sb Q 7 [.ref r0, .ref r1, .int x2, .int x3, JK, JK, JK] [] h := by
  intro n
  induction n with
  | zero => intro r0 r1 x2 x3 h k; exact ok_none k
  | succ n ih => intro r0 r1 x2 x3 h k; exact s_X4_holds_l7b hd hret hex (fun r0 r1 x2 x3 h k => ih r0 r1 x2 x3 h k) k
def f_X4_holds (S : SH) (r0 : Nat) (r1 : Nat) (x2 : Int32) (h : AH) : Option (Int32 × AH) :=
  (gI S h r1 8 3).bind fun v_1 =>
  lt ((v_1 - (1 : Int32))) fun y_3 =>
  (f_X4_holds_l7 S FU r0 r1 x2 y_3 h).bind fun z => match z with
  | (.inl w, h') => some (w, h')
  | (.inr (), h_4) =>
    some ((0 : Int32), h_4)
set_option maxHeartbeats 8000000 in
set_option maxRecDepth 20000 in
theorem s_X4_holds {S : SH} {d cb sb : Nat} {Q : Option Value → AH → Prop} (hd : 1 ≤ d)  {r0 : Nat} {r1 : Nat} {x2 : Int32} {h : AH} (k : ok (f_X4_holds S r0 r1 x2 h) (fun w h' => Q (some (.int w)) h')) : WP S M_X4_holds d cb sb Q 0 [.ref r0, .ref r1, .int x2, JK, JK, JK, JK] [] h := by
  obtain ⟨d, rfl, he⟩ := dp (L := 0) hd
  unfold f_X4_holds at k
  refine wp_aload_n dX4_holds_0 rfl ?_
  replace k := ok_bind k
  obtain ⟨v_1, e_2, k⟩ := k
  refine wq_getI fl_X4_19 (Or.inl rfl) dX4_holds_1 e_2 ?_
  refine wp_iconst dX4_holds_4 ic_1 ?_
  refine wp_isub dX4_holds_5 ?_
  replace k := ok_lt k
  refine wp_istore_n dX4_holds_6 (by decide) (L1 := [_, _, _, _, _, _, _]) rfl ?_
  refine wp_wk (wkE <| wkE <| wkE <| wkE <| wkJ <| wkJ <| wkJ <| wkN) ?_
  refine s_X4_holds_l7 (Nat.succ_le_succ he) (fun w h' k => ?_) (fun  h_4 k => ?_) FU _ _ _ _ _ (ok_bind2 k)
  · try dsimp only at k
    exact (ok_some k :)
  · try dsimp only at k
    refine wp_iconst dX4_holds_105 ic_0 ?_
    refine wp_iret rfl rfl dX4_holds_106 ?_
    exact (ok_some k :)
theorem c_X4_holds {S : SH} {d : Nat} {K : Option Value → AH → Prop} (hd : 1 ≤ d)  {r0 : Nat} {r1 : Nat} {x2 : Int32} {h : AH} (k : ok (f_X4_holds S r0 r1 x2 h) (fun w h' => K (some (.int w)) h')) : CP S M_X4_holds d 0 0 [.ref r0, .ref r1, .int x2] h K := cp_of (by decide) (fun _ _ => trivial) (fun _ => Nat.le_of_ble_eq_true rfl) (s_X4_holds hd  k)
def f_X1_vote (S : SH) (r0 : Nat) (r1 : Nat) (x2 : Int32) (x3 : Int32) (r4 : Nat) (h : AH) : Option (Int32 × AH) :=
  (gR S h r1 7 0).bind fun p_1 =>
  (aI S h p_1 x2).bind fun v_3 =>
  if v_3 = (-1 : Int32) then
    some ((0 : Int32), h)
  else
    (ckO S h r0 1).bind fun _ =>
    (f_X1_tellBird S r0 r1 x2 x3 h).bind fun z => match z with
    | (_, h_7) =>
    (gR S h_7 r0 1 1).bind fun p_9 =>
    (ckO S h_7 p_9 4).bind fun _ =>
    (f_X4_holds S p_9 r4 (265 : Int32) h_7).bind fun z => match z with
    | (z_13, h_12) =>
    if z_13 = (0 : Int32) then
      (gR S h_12 r0 1 1).bind fun p_15 =>
      (ckO S h_12 p_15 4).bind fun _ =>
      (f_X4_holds S p_15 r4 (263 : Int32) h_12).bind fun z => match z with
      | (z_19, h_18) =>
      if z_19 = (0 : Int32) then
        (gR S h_18 r0 1 0).bind fun p_21 =>
        (gR S h_18 p_21 6 3).bind fun p_23 =>
        (aI S h_18 p_23 ((x2 * (6 : Int32)) + x3)).bind fun v_25 =>
        if v_25 < (5 : Int32) then
          some ((1 : Int32), h_18)
        else
          some ((2 : Int32), h_18)
      else
        (gR S h_18 r0 1 1).bind fun p_28 =>
        (gI S h_18 p_28 4 2).bind fun v_30 =>
        if v_30 < (5 : Int32) then
          some ((1 : Int32), h_18)
        else
          some ((2 : Int32), h_18)
    else
      some ((0 : Int32), h_12)
set_option maxHeartbeats 8000000 in
set_option maxRecDepth 20000 in
theorem s_X1_vote {S : SH} {d cb sb : Nat} {Q : Option Value → AH → Prop} (hd : 2 ≤ d)  {r0 : Nat} {r1 : Nat} {x2 : Int32} {x3 : Int32} {r4 : Nat} {h : AH} (k : ok (f_X1_vote S r0 r1 x2 x3 r4 h) (fun w h' => Q (some (.int w)) h')) : WP S M_X1_vote d cb sb Q 0 [.ref r0, .ref r1, .int x2, .int x3, .ref r4, JK, JK] [] h := by
  obtain ⟨d, rfl, he⟩ := dp (L := 1) hd
  unfold f_X1_vote at k
  refine wp_aload_n dX1_vote_0 rfl ?_
  replace k := ok_bind k
  obtain ⟨p_1, e_2, k⟩ := k
  refine wq_getR fl_X1_51 (Or.inr ⟨_, rfl⟩) dX1_vote_1 e_2 ?_
  refine wp_iload_n dX1_vote_4 rfl ?_
  replace k := ok_bind k
  obtain ⟨v_3, e_4, k⟩ := k
  refine wq_aI dX1_vote_5 e_4 ?_
  refine wp_iconst dX1_vote_6 ic_m1 ?_
  refine wp_icmp_ne 12 dX1_vote_7 (by decide) (fun c_5 => ?_) (fun c_5 => ?_)
  · replace k := ok_f c_5 k
    refine wp_aload_n dX1_vote_12 rfl ?_
    refine wp_aload_n dX1_vote_13 rfl ?_
    refine wp_iload_n dX1_vote_14 rfl ?_
    refine wp_iload_n dX1_vote_15 rfl ?_
    replace k := ok_bind k
    obtain ⟨u, e_6, k⟩ := k
    refine wp_callV3 (N := M_X1_tellBird) (ci := 1) mf_X1_tellBird mi_X1_tellBird me_X1_tellBird ml_X1_70 dX1_vote_16 (ckO_e e_6) mv_X1_tellBird (by exact Nat.le_of_ble_eq_true rfl) (c_X1_tellBird (Nat.le_trans (by decide) he) (ok_mono (ok_bind2 k) fun _ h_7 k => ?_))
    try dsimp only at k
    refine wp_aload_n dX1_vote_19 rfl ?_
    replace k := ok_bind k
    obtain ⟨p_9, e_10, k⟩ := k
    refine wq_getR fl_X1_22 (Or.inl ⟨_, rfl⟩) dX1_vote_20 e_10 ?_
    refine wp_aload dX1_vote_23 rfl ?_
    refine wp_sipush dX1_vote_25 sp_265 ?_
    replace k := ok_bind k
    obtain ⟨u, e_11, k⟩ := k
    refine wp_callV2 (N := M_X4_holds) (ci := 4) mf_X4_holds mi_X4_holds me_X4_holds ml_X1_78 dX1_vote_28 (ckO_e e_11) mv_X4_holds (by exact Nat.le_of_ble_eq_true rfl) (c_X4_holds (Nat.le_trans (by decide) he) (ok_mono (ok_bind2 k) fun z_13 h_12 k => ?_))
    try dsimp only at k
    refine wp_if_eq 36 dX1_vote_31 (by decide) (fun c_14 => ?_) (fun c_14 => ?_)
    · replace k := ok_t c_14 k
      refine wp_aload_n dX1_vote_36 rfl ?_
      replace k := ok_bind k
      obtain ⟨p_15, e_16, k⟩ := k
      refine wq_getR fl_X1_22 (Or.inl ⟨_, rfl⟩) dX1_vote_37 e_16 ?_
      refine wp_aload dX1_vote_40 rfl ?_
      refine wp_sipush dX1_vote_42 sp_263 ?_
      replace k := ok_bind k
      obtain ⟨u, e_17, k⟩ := k
      refine wp_callV2 (N := M_X4_holds) (ci := 4) mf_X4_holds mi_X4_holds me_X4_holds ml_X1_78 dX1_vote_45 (ckO_e e_17) mv_X4_holds (by exact Nat.le_of_ble_eq_true rfl) (c_X4_holds (Nat.le_trans (by decide) he) (ok_mono (ok_bind2 k) fun z_19 h_18 k => ?_))
      try dsimp only at k
      refine wp_istore dX1_vote_48 (by decide) (L1 := [_, _, _, _, _, _, _]) rfl ?_
      refine wp_iload dX1_vote_50 rfl ?_
      refine wp_if_eq 65 dX1_vote_52 (by decide) (fun c_20 => ?_) (fun c_20 => ?_)
      · replace k := ok_t c_20 k
        refine wp_aload_n dX1_vote_65 rfl ?_
        replace k := ok_bind k
        obtain ⟨p_21, e_22, k⟩ := k
        refine wq_getR fl_X1_18 (Or.inl ⟨_, rfl⟩) dX1_vote_66 e_22 ?_
        replace k := ok_bind k
        obtain ⟨p_23, e_24, k⟩ := k
        refine wq_getR fl_X1_54 (Or.inr ⟨_, rfl⟩) dX1_vote_69 e_24 ?_
        refine wp_iload_n dX1_vote_72 rfl ?_
        refine wp_bipush dX1_vote_73 bp_6 ?_
        refine wp_imul dX1_vote_75 ?_
        refine wp_iload_n dX1_vote_76 rfl ?_
        refine wp_iadd dX1_vote_77 ?_
        replace k := ok_bind k
        obtain ⟨v_25, e_26, k⟩ := k
        refine wq_aI dX1_vote_78 e_26 ?_
        refine wp_istore dX1_vote_79 (by decide) (L1 := [_, _, _, _, _, _, _]) rfl ?_
        refine wp_iload dX1_vote_81 rfl ?_
        refine wp_iconst dX1_vote_83 ic_5 ?_
        refine wp_icmp_lt 91 dX1_vote_84 (by decide) (fun c_27 => ?_) (fun c_27 => ?_)
        · replace k := ok_t c_27 k
          refine wp_iconst dX1_vote_91 ic_1 ?_
          refine wp_iret rfl rfl dX1_vote_92 ?_
          exact (ok_some k :)
        · replace k := ok_f c_27 k
          refine wp_iconst dX1_vote_87 ic_2 ?_
          refine wp_goto 92 dX1_vote_88 (by decide) ?_
          refine wp_iret rfl rfl dX1_vote_92 ?_
          exact (ok_some k :)
      · replace k := ok_f c_20 k
        refine wp_aload_n dX1_vote_55 rfl ?_
        replace k := ok_bind k
        obtain ⟨p_28, e_29, k⟩ := k
        refine wq_getR fl_X1_22 (Or.inl ⟨_, rfl⟩) dX1_vote_56 e_29 ?_
        replace k := ok_bind k
        obtain ⟨v_30, e_31, k⟩ := k
        refine wq_getI fl_X1_82 (Or.inl rfl) dX1_vote_59 e_31 ?_
        refine wp_goto 79 dX1_vote_62 (by decide) ?_
        refine wp_istore dX1_vote_79 (by decide) (L1 := [_, _, _, _, _, _, _]) rfl ?_
        refine wp_iload dX1_vote_81 rfl ?_
        refine wp_iconst dX1_vote_83 ic_5 ?_
        refine wp_icmp_lt 91 dX1_vote_84 (by decide) (fun c_32 => ?_) (fun c_32 => ?_)
        · replace k := ok_t c_32 k
          refine wp_iconst dX1_vote_91 ic_1 ?_
          refine wp_iret rfl rfl dX1_vote_92 ?_
          exact (ok_some k :)
        · replace k := ok_f c_32 k
          refine wp_iconst dX1_vote_87 ic_2 ?_
          refine wp_goto 92 dX1_vote_88 (by decide) ?_
          refine wp_iret rfl rfl dX1_vote_92 ?_
          exact (ok_some k :)
    · replace k := ok_f c_14 k
      refine wp_iconst dX1_vote_34 ic_0 ?_
      refine wp_iret rfl rfl dX1_vote_35 ?_
      exact (ok_some k :)
  · replace k := ok_t c_5 k
    refine wp_iconst dX1_vote_10 ic_0 ?_
    refine wp_iret rfl rfl dX1_vote_11 ?_
    exact (ok_some k :)
theorem c_X1_vote {S : SH} {d : Nat} {K : Option Value → AH → Prop} (hd : 2 ≤ d)  {r0 : Nat} {r1 : Nat} {x2 : Int32} {x3 : Int32} {r4 : Nat} {h : AH} (k : ok (f_X1_vote S r0 r1 x2 x3 r4 h) (fun w h' => K (some (.int w)) h')) : CP S M_X1_vote d 0 0 [.ref r0, .ref r1, .int x2, .int x3, .ref r4] h K := cp_of (by decide) (fun _ _ => trivial) (fun _ => Nat.le_of_ble_eq_true rfl) (s_X1_vote hd  k)
def f_X1_poll_l13_j54 (S : SH) (rc : Nat → Nat → Int32 → Nat → Int32 → AH → Option (Unit × AH)) (r0 : Nat) (r1 : Nat) (x2 : Int32) (r3 : Nat) (x4 : Int32) (x5 : Int32) (sr0 : Nat) (sx1 : Int32) (sx2 : Int32) (h : AH) : Option (Unit × AH) :=
  (pI S h sr0 1 2 (sx1 ||| sx2)).bind fun h_1 =>
  (gI S h_1 r0 1 3).bind fun v_3 =>
  if x5 = (2 : Int32) then
    (pI S h_1 r0 1 3 (v_3 ||| ((1 : Int32) <<< (x4 &&& (31 : Int32))))).bind fun h_9 =>
    lt (x4 + (1 : Int32)) fun y_11 =>
    rc r0 r1 x2 r3 y_11 h_9
  else
    (pI S h_1 r0 1 3 (v_3 ||| (0 : Int32))).bind fun h_6 =>
    lt (x4 + (1 : Int32)) fun y_8 =>
    rc r0 r1 x2 r3 y_8 h_6
set_option maxHeartbeats 8000000 in
set_option maxRecDepth 20000 in
theorem s_X1_poll_l13_j54 {S : SH} {d cb sb : Nat} {Q : Option Value → AH → Prop} (hd : 3 ≤ d) {K : Unit → AH → Prop} (hex : ∀  (h' : AH), K () h' → WP S M_X1_poll d cb sb Q 87 [JK, JK, JK, JK, JK, JK] [] h') {rc : Nat → Nat → Int32 → Nat → Int32 → AH → Option (Unit × AH)} (hrec : ∀ (r0 : Nat) (r1 : Nat) (x2 : Int32) (r3 : Nat) (x4 : Int32) (h' : AH), ok (rc r0 r1 x2 r3 x4 h') K → WP S M_X1_poll d cb sb Q 13 [.ref r0, .ref r1, .int x2, .ref r3, .int x4, JK] [] h') {r0 : Nat} {r1 : Nat} {x2 : Int32} {r3 : Nat} {x4 : Int32} {x5 : Int32} {sr0 : Nat} {sx1 : Int32} {sx2 : Int32} {h : AH} (k : ok (f_X1_poll_l13_j54 S rc r0 r1 x2 r3 x4 x5 sr0 sx1 sx2 h) K) : WP S M_X1_poll d cb sb Q 54 [.ref r0, .ref r1, .int x2, .ref r3, .int x4, .int x5] [.int sx2, .int sx1, .ref sr0] h := by
  obtain ⟨d, rfl, he⟩ := dp (L := 2) hd
  unfold f_X1_poll_l13_j54 at k
  refine wp_ior dX1_poll_54 ?_
  replace k := ok_bind k
  obtain ⟨h_1, e_2, k⟩ := k
  refine wq_putI fl_X1_89 rfl rfl dX1_poll_55 e_2 ?_
  refine wp_aload_n dX1_poll_58 rfl ?_
  refine wp_dupR dX1_poll_59 ?_
  replace k := ok_bind k
  obtain ⟨v_3, e_4, k⟩ := k
  refine wq_getI fl_X1_92 (Or.inl rfl) dX1_poll_60 e_4 ?_
  refine wp_iload dX1_poll_63 rfl ?_
  refine wp_iconst dX1_poll_65 ic_2 ?_
  refine wp_icmp_ne 76 dX1_poll_66 (by decide) (fun c_5 => ?_) (fun c_5 => ?_)
  · replace k := ok_f c_5 k
    refine wp_iconst dX1_poll_76 ic_0 ?_
    refine wp_ior dX1_poll_77 ?_
    replace k := ok_bind k
    obtain ⟨h_6, e_7, k⟩ := k
    refine wq_putI fl_X1_92 rfl rfl dX1_poll_78 e_7 ?_
    replace k := ok_lt k
    refine wp_iinc dX1_poll_81 rfl ic_1 (by decide) (L1 := [_, _, _, _, _, _]) rfl ?_
    refine wp_goto 13 dX1_poll_84 (by decide) ?_
    exact wp_wk (wkE <| wkE <| wkE <| wkE <| wkE <| wkJ <| wkN) (hrec _ _ _ _ _ _ k)
  · replace k := ok_t c_5 k
    refine wp_iconst dX1_poll_69 ic_1 ?_
    refine wp_iload dX1_poll_70 rfl ?_
    refine wp_ishl dX1_poll_72 ?_
    refine wp_goto 77 dX1_poll_73 (by decide) ?_
    refine wp_ior dX1_poll_77 ?_
    replace k := ok_bind k
    obtain ⟨h_9, e_10, k⟩ := k
    refine wq_putI fl_X1_92 rfl rfl dX1_poll_78 e_10 ?_
    replace k := ok_lt k
    refine wp_iinc dX1_poll_81 rfl ic_1 (by decide) (L1 := [_, _, _, _, _, _]) rfl ?_
    refine wp_goto 13 dX1_poll_84 (by decide) ?_
    exact wp_wk (wkE <| wkE <| wkE <| wkE <| wkE <| wkJ <| wkN) (hrec _ _ _ _ _ _ k)
def f_X1_poll_l13b (S : SH) (rc : Nat → Nat → Int32 → Nat → Int32 → AH → Option (Unit × AH)) (r0 : Nat) (r1 : Nat) (x2 : Int32) (r3 : Nat) (x4 : Int32) (h : AH) : Option (Unit × AH) :=
  (gR S h r0 1 0).bind fun p_1 =>
  (gI S h p_1 6 1).bind fun v_3 =>
  if v_3 ≤ x4 then
    some ((), h)
  else
    (ckO S h r0 1).bind fun _ =>
    (f_X1_vote S r0 r1 x4 x2 r3 h).bind fun z => match z with
    | (z_8, h_7) =>
    (gI S h_7 r0 1 2).bind fun v_9 =>
    if z_8 = (0 : Int32) then
      f_X1_poll_l13_j54 S rc r0 r1 x2 r3 x4 z_8 r0 v_9 (0 : Int32) h_7
    else
      f_X1_poll_l13_j54 S rc r0 r1 x2 r3 x4 z_8 r0 v_9 ((1 : Int32) <<< (x4 &&& (31 : Int32))) h_7
set_option maxHeartbeats 8000000 in
set_option maxRecDepth 20000 in
theorem s_X1_poll_l13b {S : SH} {d cb sb : Nat} {Q : Option Value → AH → Prop} (hd : 3 ≤ d) {K : Unit → AH → Prop} (hex : ∀  (h' : AH), K () h' → WP S M_X1_poll d cb sb Q 87 [JK, JK, JK, JK, JK, JK] [] h') {rc : Nat → Nat → Int32 → Nat → Int32 → AH → Option (Unit × AH)} (hrec : ∀ (r0 : Nat) (r1 : Nat) (x2 : Int32) (r3 : Nat) (x4 : Int32) (h' : AH), ok (rc r0 r1 x2 r3 x4 h') K → WP S M_X1_poll d cb sb Q 13 [.ref r0, .ref r1, .int x2, .ref r3, .int x4, JK] [] h') {r0 : Nat} {r1 : Nat} {x2 : Int32} {r3 : Nat} {x4 : Int32} {h : AH} (k : ok (f_X1_poll_l13b S rc r0 r1 x2 r3 x4 h) K) : WP S M_X1_poll d cb sb Q 13 [.ref r0, .ref r1, .int x2, .ref r3, .int x4, JK] [] h := by
  obtain ⟨d, rfl, he⟩ := dp (L := 2) hd
  unfold f_X1_poll_l13b at k
  refine wp_iload dX1_poll_13 rfl ?_
  refine wp_aload_n dX1_poll_15 rfl ?_
  replace k := ok_bind k
  obtain ⟨p_1, e_2, k⟩ := k
  refine wq_getR fl_X1_18 (Or.inl ⟨_, rfl⟩) dX1_poll_16 e_2 ?_
  replace k := ok_bind k
  obtain ⟨v_3, e_4, k⟩ := k
  refine wq_getI fl_X1_95 (Or.inl rfl) dX1_poll_19 e_4 ?_
  refine wp_icmp_ge 87 dX1_poll_22 (by decide) (fun c_5 => ?_) (fun c_5 => ?_)
  · replace k := ok_t c_5 k
    exact wp_wk (wkJ <| wkJ <| wkJ <| wkJ <| wkJ <| wkJ <| wkN) (hex  _ (ok_some k))
  · replace k := ok_f c_5 k
    refine wp_aload_n dX1_poll_25 rfl ?_
    refine wp_aload_n dX1_poll_26 rfl ?_
    refine wp_iload dX1_poll_27 rfl ?_
    refine wp_iload_n dX1_poll_29 rfl ?_
    refine wp_aload_n dX1_poll_30 rfl ?_
    replace k := ok_bind k
    obtain ⟨u, e_6, k⟩ := k
    refine wp_callV4 (N := M_X1_vote) (ci := 1) mf_X1_vote mi_X1_vote me_X1_vote ml_X1_98 dX1_poll_31 (ckO_e e_6) mv_X1_vote (by exact Nat.le_of_ble_eq_true rfl) (c_X1_vote (Nat.le_trans (by decide) he) (ok_mono (ok_bind2 k) fun z_8 h_7 k => ?_))
    try dsimp only at k
    refine wp_istore dX1_poll_34 (by decide) (L1 := [_, _, _, _, _, _]) rfl ?_
    refine wp_aload_n dX1_poll_36 rfl ?_
    refine wp_dupR dX1_poll_37 ?_
    replace k := ok_bind k
    obtain ⟨v_9, e_10, k⟩ := k
    refine wq_getI fl_X1_89 (Or.inl rfl) dX1_poll_38 e_10 ?_
    refine wp_iload dX1_poll_41 rfl ?_
    refine wp_if_ne 50 dX1_poll_43 (by decide) (fun c_11 => ?_) (fun c_11 => ?_)
    · replace k := ok_f c_11 k
      refine wp_iconst dX1_poll_50 ic_1 ?_
      refine wp_iload dX1_poll_51 rfl ?_
      refine wp_ishl dX1_poll_53 ?_
      exact wp_wk (wkE <| wkE <| wkE <| wkE <| wkE <| wkE <| wkN) (s_X1_poll_l13_j54 (Nat.succ_le_succ he) hex hrec k)
    · replace k := ok_t c_11 k
      refine wp_iconst dX1_poll_46 ic_0 ?_
      refine wp_goto 54 dX1_poll_47 (by decide) ?_
      exact wp_wk (wkE <| wkE <| wkE <| wkE <| wkE <| wkE <| wkN) (s_X1_poll_l13_j54 (Nat.succ_le_succ he) hex hrec k)
def f_X1_poll_l13 (S : SH) : Nat → Nat → Nat → Int32 → Nat → Int32 → AH → Option (Unit × AH)
  | 0, _, _, _, _, _, _ => none
  | n + 1, r0, r1, x2, r3, x4, h => f_X1_poll_l13b S (f_X1_poll_l13 S n) r0 r1 x2 r3 x4 h
theorem s_X1_poll_l13 {S : SH} {d cb sb : Nat} {Q : Option Value → AH → Prop} (hd : 3 ≤ d) {K : Unit → AH → Prop} (hex : ∀  (h' : AH), K () h' → WP S M_X1_poll d cb sb Q 87 [JK, JK, JK, JK, JK, JK] [] h') : ∀ (n : Nat) (r0 : Nat) (r1 : Nat) (x2 : Int32) (r3 : Nat) (x4 : Int32) (h : AH), ok (f_X1_poll_l13 S n r0 r1 x2 r3 x4 h) K → WP S M_X1_poll d cb sb Q 13 [.ref r0, .ref r1, .int x2, .ref r3, .int x4, JK] [] h := by
  intro n
  induction n with
  | zero => intro r0 r1 x2 r3 x4 h k; exact ok_none k
  | succ n ih => intro r0 r1 x2 r3 x4 h k; exact s_X1_poll_l13b hd hex (fun r0 r1 x2 r3 x4 h k => ih r0 r1 x2 r3 x4 h k) k
def f_X1_poll (S : SH) (r0 : Nat) (r1 : Nat) (x2 : Int32) (r3 : Nat) (h : AH) : Option (Unit × AH) :=
  (pI S h r0 1 2 (0 : Int32)).bind fun h_1 =>
  (pI S h_1 r0 1 3 (0 : Int32)).bind fun h_3 =>
  (f_X1_poll_l13 S FU r0 r1 x2 r3 (0 : Int32) h_3).bind fun z => match z with
  | ((), h_5) =>
  some ((), h_5)
set_option maxHeartbeats 8000000 in
set_option maxRecDepth 20000 in
theorem s_X1_poll {S : SH} {d cb sb : Nat} {Q : Option Value → AH → Prop} (hd : 3 ≤ d)  {r0 : Nat} {r1 : Nat} {x2 : Int32} {r3 : Nat} {h : AH} (k : ok (f_X1_poll S r0 r1 x2 r3 h) (fun _ h' => Q none h')) : WP S M_X1_poll d cb sb Q 0 [.ref r0, .ref r1, .int x2, .ref r3, JK, JK] [] h := by
  obtain ⟨d, rfl, he⟩ := dp (L := 2) hd
  unfold f_X1_poll at k
  refine wp_aload_n dX1_poll_0 rfl ?_
  refine wp_iconst dX1_poll_1 ic_0 ?_
  replace k := ok_bind k
  obtain ⟨h_1, e_2, k⟩ := k
  refine wq_putI fl_X1_89 rfl rfl dX1_poll_2 e_2 ?_
  refine wp_aload_n dX1_poll_5 rfl ?_
  refine wp_iconst dX1_poll_6 ic_0 ?_
  replace k := ok_bind k
  obtain ⟨h_3, e_4, k⟩ := k
  refine wq_putI fl_X1_92 rfl rfl dX1_poll_7 e_4 ?_
  refine wp_iconst dX1_poll_10 ic_0 ?_
  refine wp_istore dX1_poll_11 (by decide) (L1 := [_, _, _, _, _, _]) rfl ?_
  refine wp_wk (wkE <| wkE <| wkE <| wkE <| wkE <| wkJ <| wkN) ?_
  refine s_X1_poll_l13 (Nat.succ_le_succ he) (fun  h_5 k => ?_) FU _ _ _ _ _ _ (ok_bind2 k)
  try dsimp only at k
  refine wp_vret rfl dX1_poll_87 ?_
  exact (ok_some k :)
theorem c_X1_poll {S : SH} {d : Nat} {K : Option Value → AH → Prop} (hd : 3 ≤ d)  {r0 : Nat} {r1 : Nat} {x2 : Int32} {r3 : Nat} {h : AH} (k : ok (f_X1_poll S r0 r1 x2 r3 h) (fun _ h' => K none h')) : CP S M_X1_poll d 0 0 [.ref r0, .ref r1, .int x2, .ref r3] h K := cp_of (by decide) (fun _ _ => trivial) (fun _ => Nat.le_of_ble_eq_true rfl) (s_X1_poll hd  k)
def f_X1_within (S : SH) (x0 : Int32) (x1 : Int32) (x2 : Int32) (h : AH) : Option (Int32 × AH) :=
  some ((mxI x0 (mnI x1 x2)), h)
set_option maxHeartbeats 8000000 in
set_option maxRecDepth 20000 in
theorem s_X1_within {S : SH} {d cb sb : Nat} {Q : Option Value → AH → Prop} (hd : 1 ≤ d)  {x0 : Int32} {x1 : Int32} {x2 : Int32} {h : AH} (k : ok (f_X1_within S x0 x1 x2 h) (fun w h' => Q (some (.int w)) h')) : WP S M_X1_within d cb sb Q 0 [.int x0, .int x1, .int x2] [] h := by
  obtain ⟨d, rfl, he⟩ := dp (L := 0) hd
  unfold f_X1_within at k
  refine wp_iload_n dX1_within_0 rfl ?_
  refine wp_iload_n dX1_within_1 rfl ?_
  refine wp_iload_n dX1_within_2 rfl ?_
  refine wp_mmin ml_X1_61 mm_min mini mc_min (by exact Nat.le_of_ble_eq_true rfl) dX1_within_3 ?_
  refine wp_mmax ml_X1_67 mm_max mini mc_max (by exact Nat.le_of_ble_eq_true rfl) dX1_within_6 ?_
  refine wp_iret rfl rfl dX1_within_9 ?_
  exact (ok_some k :)
theorem c_X1_within {S : SH} {d : Nat} {K : Option Value → AH → Prop} (hd : 1 ≤ d)  {x0 : Int32} {x1 : Int32} {x2 : Int32} {h : AH} (k : ok (f_X1_within S x0 x1 x2 h) (fun w h' => K (some (.int w)) h')) : CP S M_X1_within d 0 0 [.int x0, .int x1, .int x2] h K := cp_of (by decide) (fun _ _ => trivial) (fun _ => Nat.le_of_ble_eq_true rfl) (s_X1_within hd  k)
def f_X1_timeTaken (S : SH) (r0 : Nat) (r1 : Nat) (x2 : Int32) (h : AH) : Option (Int32 × AH) :=
  (ckO S h r0 1).bind fun _ =>
  (f_X1_tellLaw S r0 r1 (-1 : Int32) (-1 : Int32) (-1 : Int32) x2 h).bind fun z => match z with
  | (_, h_2) =>
  (gR S h_2 r0 1 1).bind fun p_4 =>
  (gR S h_2 r0 1 0).bind fun p_6 =>
  (ckO S h_2 p_6 6).bind fun _ =>
  (f_X6_lawInForce S p_6 h_2).bind fun z => match z with
  | (z_10, h_9) =>
  (ckO S h_9 p_4 4).bind fun _ =>
  (f_X4_holds S p_4 z_10 (264 : Int32) h_9).bind fun z => match z with
  | (z_13, h_12) =>
  if z_13 = (0 : Int32) then
    (gR S h_12 r0 1 0).bind fun p_15 =>
    (gR S h_12 p_15 6 5).bind fun p_17 =>
    (aI S h_12 p_17 x2).bind fun v_19 =>
    some (v_19, h_12)
  else
    (gR S h_12 r0 1 1).bind fun p_21 =>
    (gI S h_12 p_21 4 2).bind fun v_23 =>
    (f_X1_within S (1 : Int32) v_23 (9 : Int32) h_12).bind fun z => match z with
    | (z_26, h_25) =>
    some (z_26, h_25)
set_option maxHeartbeats 8000000 in
set_option maxRecDepth 20000 in
theorem s_X1_timeTaken {S : SH} {d cb sb : Nat} {Q : Option Value → AH → Prop} (hd : 3 ≤ d)  {r0 : Nat} {r1 : Nat} {x2 : Int32} {h : AH} (k : ok (f_X1_timeTaken S r0 r1 x2 h) (fun w h' => Q (some (.int w)) h')) : WP S M_X1_timeTaken d cb sb Q 0 [.ref r0, .ref r1, .int x2, JK] [] h := by
  obtain ⟨d, rfl, he⟩ := dp (L := 2) hd
  unfold f_X1_timeTaken at k
  refine wp_aload_n dX1_timeTaken_0 rfl ?_
  refine wp_aload_n dX1_timeTaken_1 rfl ?_
  refine wp_iconst dX1_timeTaken_2 ic_m1 ?_
  refine wp_iconst dX1_timeTaken_3 ic_m1 ?_
  refine wp_iconst dX1_timeTaken_4 ic_m1 ?_
  refine wp_iload_n dX1_timeTaken_5 rfl ?_
  replace k := ok_bind k
  obtain ⟨u, e_1, k⟩ := k
  refine wp_callV5 (N := M_X1_tellLaw) (ci := 1) mf_X1_tellLaw mi_X1_tellLaw me_X1_tellLaw ml_X1_57 dX1_timeTaken_6 (ckO_e e_1) mv_X1_tellLaw (by exact Nat.le_of_ble_eq_true rfl) (c_X1_tellLaw (Nat.le_trans (by decide) he) (ok_mono (ok_bind2 k) fun _ h_2 k => ?_))
  try dsimp only at k
  refine wp_aload_n dX1_timeTaken_9 rfl ?_
  replace k := ok_bind k
  obtain ⟨p_4, e_5, k⟩ := k
  refine wq_getR fl_X1_22 (Or.inl ⟨_, rfl⟩) dX1_timeTaken_10 e_5 ?_
  refine wp_aload_n dX1_timeTaken_13 rfl ?_
  replace k := ok_bind k
  obtain ⟨p_6, e_7, k⟩ := k
  refine wq_getR fl_X1_18 (Or.inl ⟨_, rfl⟩) dX1_timeTaken_14 e_7 ?_
  replace k := ok_bind k
  obtain ⟨u, e_8, k⟩ := k
  refine wp_callV0 (N := M_X6_lawInForce) (ci := 6) mf_X6_lawInForce mi_X6_lawInForce me_X6_lawInForce ml_X1_74 dX1_timeTaken_17 (ckO_e e_8) mv_X6_lawInForce (by exact Nat.le_of_ble_eq_true rfl) (c_X6_lawInForce (Nat.le_trans (by decide) he) (ok_mono (ok_bind2 k) fun z_10 h_9 k => ?_))
  try dsimp only at k
  refine wp_sipush dX1_timeTaken_20 sp_264 ?_
  replace k := ok_bind k
  obtain ⟨u, e_11, k⟩ := k
  refine wp_callV2 (N := M_X4_holds) (ci := 4) mf_X4_holds mi_X4_holds me_X4_holds ml_X1_78 dX1_timeTaken_23 (ckO_e e_11) mv_X4_holds (by exact Nat.le_of_ble_eq_true rfl) (c_X4_holds (Nat.le_trans (by decide) he) (ok_mono (ok_bind2 k) fun z_13 h_12 k => ?_))
  try dsimp only at k
  refine wp_istore_n dX1_timeTaken_26 (by decide) (L1 := [_, _, _, _]) rfl ?_
  refine wp_iload_n dX1_timeTaken_27 rfl ?_
  refine wp_if_eq 47 dX1_timeTaken_28 (by decide) (fun c_14 => ?_) (fun c_14 => ?_)
  · replace k := ok_t c_14 k
    refine wp_aload_n dX1_timeTaken_47 rfl ?_
    replace k := ok_bind k
    obtain ⟨p_15, e_16, k⟩ := k
    refine wq_getR fl_X1_18 (Or.inl ⟨_, rfl⟩) dX1_timeTaken_48 e_16 ?_
    replace k := ok_bind k
    obtain ⟨p_17, e_18, k⟩ := k
    refine wq_getR fl_X1_31 (Or.inr ⟨_, rfl⟩) dX1_timeTaken_51 e_18 ?_
    refine wp_iload_n dX1_timeTaken_54 rfl ?_
    replace k := ok_bind k
    obtain ⟨v_19, e_20, k⟩ := k
    refine wq_aI dX1_timeTaken_55 e_20 ?_
    refine wp_iret rfl rfl dX1_timeTaken_56 ?_
    exact (ok_some k :)
  · replace k := ok_f c_14 k
    refine wp_iconst dX1_timeTaken_31 ic_1 ?_
    refine wp_aload_n dX1_timeTaken_32 rfl ?_
    replace k := ok_bind k
    obtain ⟨p_21, e_22, k⟩ := k
    refine wq_getR fl_X1_22 (Or.inl ⟨_, rfl⟩) dX1_timeTaken_33 e_22 ?_
    replace k := ok_bind k
    obtain ⟨v_23, e_24, k⟩ := k
    refine wq_getI fl_X1_82 (Or.inl rfl) dX1_timeTaken_36 e_24 ?_
    refine wp_bipush dX1_timeTaken_39 bp_9 ?_
    refine wp_callS3 (N := M_X1_within) mf_X1_within ms_X1_within ml_X1_85 dX1_timeTaken_41 (by exact Nat.le_of_ble_eq_true rfl) (c_X1_within (Nat.le_trans (by decide) he) (ok_mono (ok_bind2 k) fun z_26 h_25 k => ?_))
    try dsimp only at k
    refine wp_goto 56 dX1_timeTaken_44 (by decide) ?_
    refine wp_iret rfl rfl dX1_timeTaken_56 ?_
    exact (ok_some k :)
theorem c_X1_timeTaken {S : SH} {d : Nat} {K : Option Value → AH → Prop} (hd : 3 ≤ d)  {r0 : Nat} {r1 : Nat} {x2 : Int32} {h : AH} (k : ok (f_X1_timeTaken S r0 r1 x2 h) (fun w h' => K (some (.int w)) h')) : CP S M_X1_timeTaken d 0 0 [.ref r0, .ref r1, .int x2] h K := cp_of (by decide) (fun _ _ => trivial) (fun _ => Nat.le_of_ble_eq_true rfl) (s_X1_timeTaken hd  k)
def f_J6_bitCount_0f7a4 (S : SH) (x0 : Int32) (h : AH) : Option (Int32 × AH) :=
  lt ((x0 - ((shrU x0 (1 : Int32)) &&& (1431655765 : Int32)))) fun y_1 =>
  lt (((y_1 &&& (858993459 : Int32)) + ((shrU y_1 (2 : Int32)) &&& (858993459 : Int32)))) fun y_2 =>
  lt (((y_2 + (shrU y_2 (4 : Int32))) &&& (252645135 : Int32))) fun y_3 =>
  lt ((y_3 + (shrU y_3 (8 : Int32)))) fun y_4 =>
  lt ((y_4 + (shrU y_4 (16 : Int32)))) fun y_5 =>
  some ((y_5 &&& (63 : Int32)), h)
set_option maxHeartbeats 8000000 in
set_option maxRecDepth 20000 in
theorem s_J6_bitCount_0f7a4 {S : SH} {d cb sb : Nat} {Q : Option Value → AH → Prop} (hd : 0 ≤ d)  {x0 : Int32} {h : AH} (k : ok (f_J6_bitCount_0f7a4 S x0 h) (fun w h' => Q (some (.int w)) h')) : WP S M_J6_bitCount_0f7a4 d cb sb Q 0 [.int x0] [] h := by
  unfold f_J6_bitCount_0f7a4 at k
  refine wp_iload_n dJ6_bitCount_0f7a4_0 rfl ?_
  refine wp_iload_n dJ6_bitCount_0f7a4_1 rfl ?_
  refine wp_iconst dJ6_bitCount_0f7a4_2 ic_1 ?_
  refine wp_iushr dJ6_bitCount_0f7a4_3 ?_
  refine wp_ldcw ct_J6_265 dJ6_bitCount_0f7a4_4 ?_
  refine wp_iand dJ6_bitCount_0f7a4_7 ?_
  refine wp_isub dJ6_bitCount_0f7a4_8 ?_
  replace k := ok_lt k
  refine wp_istore_n dJ6_bitCount_0f7a4_9 (by decide) (L1 := [_]) rfl ?_
  refine wp_iload_n dJ6_bitCount_0f7a4_10 rfl ?_
  refine wp_ldcw ct_J6_266 dJ6_bitCount_0f7a4_11 ?_
  refine wp_iand dJ6_bitCount_0f7a4_14 ?_
  refine wp_iload_n dJ6_bitCount_0f7a4_15 rfl ?_
  refine wp_iconst dJ6_bitCount_0f7a4_16 ic_2 ?_
  refine wp_iushr dJ6_bitCount_0f7a4_17 ?_
  refine wp_ldcw ct_J6_266 dJ6_bitCount_0f7a4_18 ?_
  refine wp_iand dJ6_bitCount_0f7a4_21 ?_
  refine wp_iadd dJ6_bitCount_0f7a4_22 ?_
  replace k := ok_lt k
  refine wp_istore_n dJ6_bitCount_0f7a4_23 (by decide) (L1 := [_]) rfl ?_
  refine wp_iload_n dJ6_bitCount_0f7a4_24 rfl ?_
  refine wp_iload_n dJ6_bitCount_0f7a4_25 rfl ?_
  refine wp_iconst dJ6_bitCount_0f7a4_26 ic_4 ?_
  refine wp_iushr dJ6_bitCount_0f7a4_27 ?_
  refine wp_iadd dJ6_bitCount_0f7a4_28 ?_
  refine wp_ldcw ct_J6_267 dJ6_bitCount_0f7a4_29 ?_
  refine wp_iand dJ6_bitCount_0f7a4_32 ?_
  replace k := ok_lt k
  refine wp_istore_n dJ6_bitCount_0f7a4_33 (by decide) (L1 := [_]) rfl ?_
  refine wp_iload_n dJ6_bitCount_0f7a4_34 rfl ?_
  refine wp_iload_n dJ6_bitCount_0f7a4_35 rfl ?_
  refine wp_bipush dJ6_bitCount_0f7a4_36 bp_8 ?_
  refine wp_iushr dJ6_bitCount_0f7a4_38 ?_
  refine wp_iadd dJ6_bitCount_0f7a4_39 ?_
  replace k := ok_lt k
  refine wp_istore_n dJ6_bitCount_0f7a4_40 (by decide) (L1 := [_]) rfl ?_
  refine wp_iload_n dJ6_bitCount_0f7a4_41 rfl ?_
  refine wp_iload_n dJ6_bitCount_0f7a4_42 rfl ?_
  refine wp_bipush dJ6_bitCount_0f7a4_43 bp_16 ?_
  refine wp_iushr dJ6_bitCount_0f7a4_45 ?_
  refine wp_iadd dJ6_bitCount_0f7a4_46 ?_
  replace k := ok_lt k
  refine wp_istore_n dJ6_bitCount_0f7a4_47 (by decide) (L1 := [_]) rfl ?_
  refine wp_iload_n dJ6_bitCount_0f7a4_48 rfl ?_
  refine wp_bipush dJ6_bitCount_0f7a4_49 bp_63 ?_
  refine wp_iand dJ6_bitCount_0f7a4_51 ?_
  refine wp_iret rfl rfl dJ6_bitCount_0f7a4_52 ?_
  exact (ok_some k :)
theorem c_J6_bitCount_0f7a4 {S : SH} {d : Nat} {K : Option Value → AH → Prop} (hd : 0 ≤ d)  {x0 : Int32} {h : AH} (k : ok (f_J6_bitCount_0f7a4 S x0 h) (fun w h' => K (some (.int w)) h')) : CP S M_J6_bitCount_0f7a4 d 0 0 [.int x0] h K := cp_of (by decide) (fun _ _ => trivial) (fun _ => Nat.le_of_ble_eq_true rfl) (s_J6_bitCount_0f7a4 hd  k)
def f_X1_wouldCarry (S : SH) (r0 : Nat) (x1 : Int32) (x2 : Int32) (h : AH) : Option (Int32 × AH) :=
  (f_J6_bitCount_0f7a4 S x1 h).bind fun z => match z with
  | (z_2, h_1) =>
  (gR S h_1 r0 1 0).bind fun p_3 =>
  (gI S h_1 p_3 6 9).bind fun v_5 =>
  if z_2 < v_5 then
    some ((0 : Int32), h_1)
  else
    (f_J6_bitCount_0f7a4 S x2 h_1).bind fun z => match z with
    | (z_9, h_8) =>
    if ((2 : Int32) * z_9) ≤ z_2 then
      some ((0 : Int32), h_8)
    else
      some ((1 : Int32), h_8)
set_option maxHeartbeats 8000000 in
set_option maxRecDepth 20000 in
theorem s_X1_wouldCarry {S : SH} {d cb sb : Nat} {Q : Option Value → AH → Prop} (hd : 1 ≤ d)  {r0 : Nat} {x1 : Int32} {x2 : Int32} {h : AH} (k : ok (f_X1_wouldCarry S r0 x1 x2 h) (fun w h' => Q (some (.int w)) h')) : WP S M_X1_wouldCarry d cb sb Q 0 [.ref r0, .int x1, .int x2, JK] [] h := by
  obtain ⟨d, rfl, he⟩ := dp (L := 0) hd
  unfold f_X1_wouldCarry at k
  refine wp_iload_n dX1_wouldCarry_0 rfl ?_
  refine wp_callS1 (N := M_J6_bitCount_0f7a4) mf_J6_bitCount_0f7a4 ms_J6_bitCount_0f7a4 ml_X1_138 dX1_wouldCarry_1 (by exact Nat.le_of_ble_eq_true rfl) (c_J6_bitCount_0f7a4 (Nat.le_trans (by decide) he) (ok_mono (ok_bind2 k) fun z_2 h_1 k => ?_))
  try dsimp only at k
  refine wp_istore_n dX1_wouldCarry_4 (by decide) (L1 := [_, _, _, _]) rfl ?_
  refine wp_iload_n dX1_wouldCarry_5 rfl ?_
  refine wp_aload_n dX1_wouldCarry_6 rfl ?_
  replace k := ok_bind k
  obtain ⟨p_3, e_4, k⟩ := k
  refine wq_getR fl_X1_18 (Or.inl ⟨_, rfl⟩) dX1_wouldCarry_7 e_4 ?_
  replace k := ok_bind k
  obtain ⟨v_5, e_6, k⟩ := k
  refine wq_getI fl_X1_143 (Or.inl rfl) dX1_wouldCarry_10 e_6 ?_
  refine wp_icmp_lt 30 dX1_wouldCarry_13 (by decide) (fun c_7 => ?_) (fun c_7 => ?_)
  · replace k := ok_t c_7 k
    refine wp_iconst dX1_wouldCarry_30 ic_0 ?_
    refine wp_iret rfl rfl dX1_wouldCarry_31 ?_
    exact (ok_some k :)
  · replace k := ok_f c_7 k
    refine wp_iconst dX1_wouldCarry_16 ic_2 ?_
    refine wp_iload_n dX1_wouldCarry_17 rfl ?_
    refine wp_callS1 (N := M_J6_bitCount_0f7a4) mf_J6_bitCount_0f7a4 ms_J6_bitCount_0f7a4 ml_X1_138 dX1_wouldCarry_18 (by exact Nat.le_of_ble_eq_true rfl) (c_J6_bitCount_0f7a4 (Nat.le_trans (by decide) he) (ok_mono (ok_bind2 k) fun z_9 h_8 k => ?_))
    try dsimp only at k
    refine wp_imul dX1_wouldCarry_21 ?_
    refine wp_iload_n dX1_wouldCarry_22 rfl ?_
    refine wp_icmp_le 30 dX1_wouldCarry_23 (by decide) (fun c_10 => ?_) (fun c_10 => ?_)
    · replace k := ok_t c_10 k
      refine wp_iconst dX1_wouldCarry_30 ic_0 ?_
      refine wp_iret rfl rfl dX1_wouldCarry_31 ?_
      exact (ok_some k :)
    · replace k := ok_f c_10 k
      refine wp_iconst dX1_wouldCarry_26 ic_1 ?_
      refine wp_goto 31 dX1_wouldCarry_27 (by decide) ?_
      refine wp_iret rfl rfl dX1_wouldCarry_31 ?_
      exact (ok_some k :)
theorem c_X1_wouldCarry {S : SH} {d : Nat} {K : Option Value → AH → Prop} (hd : 1 ≤ d)  {r0 : Nat} {x1 : Int32} {x2 : Int32} {h : AH} (k : ok (f_X1_wouldCarry S r0 x1 x2 h) (fun w h' => K (some (.int w)) h')) : CP S M_X1_wouldCarry d 0 0 [.ref r0, .int x1, .int x2] h K := cp_of (by decide) (fun _ _ => trivial) (fun _ => Nat.le_of_ble_eq_true rfl) (s_X1_wouldCarry hd  k)
def f_X1_dividing (S : SH) (r0 : Nat) (r1 : Nat) (x2 : Int32) (h : AH) : Option (Int32 × AH) :=
  (gR S h r0 1 0).bind fun p_1 =>
  (ckO S h p_1 6).bind fun _ =>
  (f_X6_hasMatter S p_1 x2 h).bind fun z => match z with
  | (z_5, h_4) =>
  if z_5 = (0 : Int32) then
    some ((-2 : Int32), h_4)
  else
    (gR S h_4 r1 7 1).bind fun p_7 =>
    (aI S h_4 p_7 x2).bind fun v_9 =>
    if v_9 = (1 : Int32) then
      (gR S h_4 r0 1 0).bind fun p_12 =>
      (ckO S h_4 p_12 6).bind fun _ =>
      (f_X6_lawInForce S p_12 h_4).bind fun z => match z with
      | (z_16, h_15) =>
      (ckO S h_15 r0 1).bind fun _ =>
      (f_X1_poll S r0 r1 x2 z_16 h_15).bind fun z => match z with
      | (_, h_18) =>
      (ckO S h_18 r0 1).bind fun _ =>
      (f_X1_timeTaken S r0 r1 x2 h_18).bind fun z => match z with
      | (z_22, h_21) =>
      (gI S h_21 r0 1 2).bind fun v_23 =>
      (f_J6_bitCount_0f7a4 S v_23 h_21).bind fun z => match z with
      | (z_26, h_25) =>
      (gR S h_25 r0 1 0).bind fun p_27 =>
      (gI S h_25 p_27 6 9).bind fun v_29 =>
      if z_26 < v_29 then
        some ((-3 : Int32), h_25)
      else
        (gI S h_25 r1 7 2).bind fun v_32 =>
        if (v_32 + z_22) ≤ (48 : Int32) then
          (gR S h_25 r1 7 1).bind fun p_35 =>
          (gI S h_25 r0 1 2).bind fun v_37 =>
          (gI S h_25 r0 1 3).bind fun v_39 =>
          (ckO S h_25 r0 1).bind fun _ =>
          (f_X1_wouldCarry S r0 v_37 v_39 h_25).bind fun z => match z with
          | (z_43, h_42) =>
          if z_43 = (0 : Int32) then
            (sI S h_42 p_35 x2 (3 : Int32)).bind fun h_45 =>
            (gI S h_45 r1 7 2).bind fun v_47 =>
            (pI S h_45 r1 7 2 (v_47 + z_22)).bind fun h_49 =>
            (gI S h_49 r0 1 3).bind fun v_51 =>
            (f_J6_bitCount_0f7a4 S v_51 h_49).bind fun z => match z with
            | (z_54, h_53) =>
            some (z_54, h_53)
          else
            (sI S h_42 p_35 x2 (2 : Int32)).bind fun h_55 =>
            (gI S h_55 r1 7 2).bind fun v_57 =>
            (pI S h_55 r1 7 2 (v_57 + z_22)).bind fun h_59 =>
            (gI S h_59 r0 1 3).bind fun v_61 =>
            (f_J6_bitCount_0f7a4 S v_61 h_59).bind fun z => match z with
            | (z_64, h_63) =>
            some (z_64, h_63)
        else
          some ((-3 : Int32), h_25)
    else
      some ((-3 : Int32), h_4)
set_option maxHeartbeats 8000000 in
set_option maxRecDepth 20000 in
theorem s_X1_dividing {S : SH} {d cb sb : Nat} {Q : Option Value → AH → Prop} (hd : 4 ≤ d)  {r0 : Nat} {r1 : Nat} {x2 : Int32} {h : AH} (k : ok (f_X1_dividing S r0 r1 x2 h) (fun w h' => Q (some (.int w)) h')) : WP S M_X1_dividing d cb sb Q 0 [.ref r0, .ref r1, .int x2, JK] [] h := by
  obtain ⟨d, rfl, he⟩ := dp (L := 3) hd
  unfold f_X1_dividing at k
  refine wp_aload_n dX1_dividing_0 rfl ?_
  replace k := ok_bind k
  obtain ⟨p_1, e_2, k⟩ := k
  refine wq_getR fl_X1_18 (Or.inl ⟨_, rfl⟩) dX1_dividing_1 e_2 ?_
  refine wp_iload_n dX1_dividing_4 rfl ?_
  replace k := ok_bind k
  obtain ⟨u, e_3, k⟩ := k
  refine wp_callV1 (N := M_X6_hasMatter) (ci := 6) mf_X6_hasMatter mi_X6_hasMatter me_X6_hasMatter ml_X1_119 dX1_dividing_5 (ckO_e e_3) mv_X6_hasMatter (by exact Nat.le_of_ble_eq_true rfl) (c_X6_hasMatter (Nat.le_trans (by decide) he) (ok_mono (ok_bind2 k) fun z_5 h_4 k => ?_))
  try dsimp only at k
  refine wp_if_ne 14 dX1_dividing_8 (by decide) (fun c_6 => ?_) (fun c_6 => ?_)
  · replace k := ok_f c_6 k
    refine wp_aload_n dX1_dividing_14 rfl ?_
    replace k := ok_bind k
    obtain ⟨p_7, e_8, k⟩ := k
    refine wq_getR fl_X1_105 (Or.inr ⟨_, rfl⟩) dX1_dividing_15 e_8 ?_
    refine wp_iload_n dX1_dividing_18 rfl ?_
    replace k := ok_bind k
    obtain ⟨v_9, e_10, k⟩ := k
    refine wq_aI dX1_dividing_19 e_10 ?_
    refine wp_iconst dX1_dividing_20 ic_1 ?_
    refine wp_icmp_eq 27 dX1_dividing_21 (by decide) (fun c_11 => ?_) (fun c_11 => ?_)
    · replace k := ok_t c_11 k
      refine wp_aload_n dX1_dividing_27 rfl ?_
      refine wp_aload_n dX1_dividing_28 rfl ?_
      refine wp_iload_n dX1_dividing_29 rfl ?_
      refine wp_aload_n dX1_dividing_30 rfl ?_
      replace k := ok_bind k
      obtain ⟨p_12, e_13, k⟩ := k
      refine wq_getR fl_X1_18 (Or.inl ⟨_, rfl⟩) dX1_dividing_31 e_13 ?_
      replace k := ok_bind k
      obtain ⟨u, e_14, k⟩ := k
      refine wp_callV0 (N := M_X6_lawInForce) (ci := 6) mf_X6_lawInForce mi_X6_lawInForce me_X6_lawInForce ml_X1_74 dX1_dividing_34 (ckO_e e_14) mv_X6_lawInForce (by exact Nat.le_of_ble_eq_true rfl) (c_X6_lawInForce (Nat.le_trans (by decide) he) (ok_mono (ok_bind2 k) fun z_16 h_15 k => ?_))
      try dsimp only at k
      replace k := ok_bind k
      obtain ⟨u, e_17, k⟩ := k
      refine wp_callV3 (N := M_X1_poll) (ci := 1) mf_X1_poll mi_X1_poll me_X1_poll ml_X1_130 dX1_dividing_37 (ckO_e e_17) mv_X1_poll (by exact Nat.le_of_ble_eq_true rfl) (c_X1_poll (Nat.le_trans (by decide) he) (ok_mono (ok_bind2 k) fun _ h_18 k => ?_))
      try dsimp only at k
      refine wp_aload_n dX1_dividing_40 rfl ?_
      refine wp_aload_n dX1_dividing_41 rfl ?_
      refine wp_iload_n dX1_dividing_42 rfl ?_
      replace k := ok_bind k
      obtain ⟨u, e_20, k⟩ := k
      refine wp_callV2 (N := M_X1_timeTaken) (ci := 1) mf_X1_timeTaken mi_X1_timeTaken me_X1_timeTaken ml_X1_134 dX1_dividing_43 (ckO_e e_20) mv_X1_timeTaken (by exact Nat.le_of_ble_eq_true rfl) (c_X1_timeTaken (Nat.le_trans (by decide) he) (ok_mono (ok_bind2 k) fun z_22 h_21 k => ?_))
      try dsimp only at k
      refine wp_istore_n dX1_dividing_46 (by decide) (L1 := [_, _, _, _]) rfl ?_
      refine wp_aload_n dX1_dividing_47 rfl ?_
      replace k := ok_bind k
      obtain ⟨v_23, e_24, k⟩ := k
      refine wq_getI fl_X1_89 (Or.inl rfl) dX1_dividing_48 e_24 ?_
      refine wp_callS1 (N := M_J6_bitCount_0f7a4) mf_J6_bitCount_0f7a4 ms_J6_bitCount_0f7a4 ml_X1_138 dX1_dividing_51 (by exact Nat.le_of_ble_eq_true rfl) (c_J6_bitCount_0f7a4 (Nat.le_trans (by decide) he) (ok_mono (ok_bind2 k) fun z_26 h_25 k => ?_))
      try dsimp only at k
      refine wp_aload_n dX1_dividing_54 rfl ?_
      replace k := ok_bind k
      obtain ⟨p_27, e_28, k⟩ := k
      refine wq_getR fl_X1_18 (Or.inl ⟨_, rfl⟩) dX1_dividing_55 e_28 ?_
      replace k := ok_bind k
      obtain ⟨v_29, e_30, k⟩ := k
      refine wq_getI fl_X1_143 (Or.inl rfl) dX1_dividing_58 e_30 ?_
      refine wp_icmp_lt 75 dX1_dividing_61 (by decide) (fun c_31 => ?_) (fun c_31 => ?_)
      · replace k := ok_t c_31 k
        refine wp_bipush dX1_dividing_75 bp_m3 ?_
        refine wp_iret rfl rfl dX1_dividing_77 ?_
        exact (ok_some k :)
      · replace k := ok_f c_31 k
        refine wp_aload_n dX1_dividing_64 rfl ?_
        replace k := ok_bind k
        obtain ⟨v_32, e_33, k⟩ := k
        refine wq_getI fl_X1_39 (Or.inl rfl) dX1_dividing_65 e_33 ?_
        refine wp_iload_n dX1_dividing_68 rfl ?_
        refine wp_iadd dX1_dividing_69 ?_
        refine wp_bipush dX1_dividing_70 bp_48 ?_
        refine wp_icmp_le 78 dX1_dividing_72 (by decide) (fun c_34 => ?_) (fun c_34 => ?_)
        · replace k := ok_t c_34 k
          refine wp_aload_n dX1_dividing_78 rfl ?_
          replace k := ok_bind k
          obtain ⟨p_35, e_36, k⟩ := k
          refine wq_getR fl_X1_105 (Or.inr ⟨_, rfl⟩) dX1_dividing_79 e_36 ?_
          refine wp_iload_n dX1_dividing_82 rfl ?_
          refine wp_aload_n dX1_dividing_83 rfl ?_
          refine wp_aload_n dX1_dividing_84 rfl ?_
          replace k := ok_bind k
          obtain ⟨v_37, e_38, k⟩ := k
          refine wq_getI fl_X1_89 (Or.inl rfl) dX1_dividing_85 e_38 ?_
          refine wp_aload_n dX1_dividing_88 rfl ?_
          replace k := ok_bind k
          obtain ⟨v_39, e_40, k⟩ := k
          refine wq_getI fl_X1_92 (Or.inl rfl) dX1_dividing_89 e_40 ?_
          replace k := ok_bind k
          obtain ⟨u, e_41, k⟩ := k
          refine wp_callV2 (N := M_X1_wouldCarry) (ci := 1) mf_X1_wouldCarry mi_X1_wouldCarry me_X1_wouldCarry ml_X1_146 dX1_dividing_92 (ckO_e e_41) mv_X1_wouldCarry (by exact Nat.le_of_ble_eq_true rfl) (c_X1_wouldCarry (Nat.le_trans (by decide) he) (ok_mono (ok_bind2 k) fun z_43 h_42 k => ?_))
          try dsimp only at k
          refine wp_if_eq 102 dX1_dividing_95 (by decide) (fun c_44 => ?_) (fun c_44 => ?_)
          · replace k := ok_t c_44 k
            refine wp_iconst dX1_dividing_102 ic_3 ?_
            replace k := ok_bind k
            obtain ⟨h_45, e_46, k⟩ := k
            refine wq_sI dX1_dividing_103 e_46 ?_
            refine wp_aload_n dX1_dividing_104 rfl ?_
            refine wp_dupR dX1_dividing_105 ?_
            replace k := ok_bind k
            obtain ⟨v_47, e_48, k⟩ := k
            refine wq_getI fl_X1_39 (Or.inl rfl) dX1_dividing_106 e_48 ?_
            refine wp_iload_n dX1_dividing_109 rfl ?_
            refine wp_iadd dX1_dividing_110 ?_
            replace k := ok_bind k
            obtain ⟨h_49, e_50, k⟩ := k
            refine wq_putI fl_X1_39 rfl rfl dX1_dividing_111 e_50 ?_
            refine wp_aload_n dX1_dividing_114 rfl ?_
            replace k := ok_bind k
            obtain ⟨v_51, e_52, k⟩ := k
            refine wq_getI fl_X1_92 (Or.inl rfl) dX1_dividing_115 e_52 ?_
            refine wp_callS1 (N := M_J6_bitCount_0f7a4) mf_J6_bitCount_0f7a4 ms_J6_bitCount_0f7a4 ml_X1_138 dX1_dividing_118 (by exact Nat.le_of_ble_eq_true rfl) (c_J6_bitCount_0f7a4 (Nat.le_trans (by decide) he) (ok_mono (ok_bind2 k) fun z_54 h_53 k => ?_))
            try dsimp only at k
            refine wp_iret rfl rfl dX1_dividing_121 ?_
            exact (ok_some k :)
          · replace k := ok_f c_44 k
            refine wp_iconst dX1_dividing_98 ic_2 ?_
            refine wp_goto 103 dX1_dividing_99 (by decide) ?_
            replace k := ok_bind k
            obtain ⟨h_55, e_56, k⟩ := k
            refine wq_sI dX1_dividing_103 e_56 ?_
            refine wp_aload_n dX1_dividing_104 rfl ?_
            refine wp_dupR dX1_dividing_105 ?_
            replace k := ok_bind k
            obtain ⟨v_57, e_58, k⟩ := k
            refine wq_getI fl_X1_39 (Or.inl rfl) dX1_dividing_106 e_58 ?_
            refine wp_iload_n dX1_dividing_109 rfl ?_
            refine wp_iadd dX1_dividing_110 ?_
            replace k := ok_bind k
            obtain ⟨h_59, e_60, k⟩ := k
            refine wq_putI fl_X1_39 rfl rfl dX1_dividing_111 e_60 ?_
            refine wp_aload_n dX1_dividing_114 rfl ?_
            replace k := ok_bind k
            obtain ⟨v_61, e_62, k⟩ := k
            refine wq_getI fl_X1_92 (Or.inl rfl) dX1_dividing_115 e_62 ?_
            refine wp_callS1 (N := M_J6_bitCount_0f7a4) mf_J6_bitCount_0f7a4 ms_J6_bitCount_0f7a4 ml_X1_138 dX1_dividing_118 (by exact Nat.le_of_ble_eq_true rfl) (c_J6_bitCount_0f7a4 (Nat.le_trans (by decide) he) (ok_mono (ok_bind2 k) fun z_64 h_63 k => ?_))
            try dsimp only at k
            refine wp_iret rfl rfl dX1_dividing_121 ?_
            exact (ok_some k :)
        · replace k := ok_f c_34 k
          refine wp_bipush dX1_dividing_75 bp_m3 ?_
          refine wp_iret rfl rfl dX1_dividing_77 ?_
          exact (ok_some k :)
    · replace k := ok_f c_11 k
      refine wp_bipush dX1_dividing_24 bp_m3 ?_
      refine wp_iret rfl rfl dX1_dividing_26 ?_
      exact (ok_some k :)
  · replace k := ok_t c_6 k
    refine wp_bipush dX1_dividing_11 bp_m2 ?_
    refine wp_iret rfl rfl dX1_dividing_13 ?_
    exact (ok_some k :)
theorem c_X1_dividing {S : SH} {d : Nat} {K : Option Value → AH → Prop} (hd : 4 ≤ d)  {r0 : Nat} {r1 : Nat} {x2 : Int32} {h : AH} (k : ok (f_X1_dividing S r0 r1 x2 h) (fun w h' => K (some (.int w)) h')) : CP S M_X1_dividing d 0 0 [.ref r0, .ref r1, .int x2] h K := cp_of (by decide) (fun _ _ => trivial) (fun _ => Nat.le_of_ble_eq_true rfl) (s_X1_dividing hd  k)

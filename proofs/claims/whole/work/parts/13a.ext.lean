def f_X7_init (S : SH) (r0 : Nat) (h : AH) : Option (Unit × AH) :=
  (nwA S h 1 (7 : Int32) 7).bind fun z => match z with
  | (p_3, h_1) =>
  (pR S h_1 r0 7 0 p_3).bind fun h_4 =>
  (nwA S h_4 1 (6 : Int32) 6).bind fun z => match z with
  | (p_8, h_6) =>
  (pR S h_6 r0 7 1 p_8).bind fun h_9 =>
  some ((), h_9)
set_option maxHeartbeats 8000000 in
set_option maxRecDepth 20000 in
theorem s_X7_init {S : SH} {d cb sb : Nat} {Q : Option Value → AH → Prop} (hd : 1 ≤ d)  {r0 : Nat} {h : AH} (k : ok (f_X7_init S r0 h) (fun _ h' => Q none h')) : WP S M_X7_init d (cb + 2) (sb + 13) Q 0 [.ref r0] [] h := by
  obtain ⟨d, rfl, he⟩ := dp (L := 0) hd
  unfold f_X7_init at k
  refine wp_aload_n dX7_init_0 rfl ?_
  refine wp_objInit ml_X7_3 oin oco (by exact Nat.le_of_ble_eq_true rfl) dX7_init_1 ?_
  refine wp_aload_n dX7_init_4 rfl ?_
  refine wp_bipush dX7_init_5 bp_7 ?_
  replace k := ok_bind k
  obtain ⟨⟨p_3, h_1⟩, e_2, k⟩ := k
  try dsimp only at k
  refine wq_newaI (cb := (cb + 1)) (sb := (sb + 6)) (mx := 7) ac_int (by decide) dX7_init_7 e_2 ?_
  replace k := ok_bind k
  obtain ⟨h_4, e_5, k⟩ := k
  refine wq_putR fl_X7_9 (Or.inr ⟨rfl, fun _ _ _ z => by cases z; rfl⟩) (Or.inr ⟨_, rfl⟩) dX7_init_9 e_5 ?_
  refine wp_aload_n dX7_init_12 rfl ?_
  refine wp_bipush dX7_init_13 bp_6 ?_
  replace k := ok_bind k
  obtain ⟨⟨p_8, h_6⟩, e_7, k⟩ := k
  try dsimp only at k
  refine wq_newaI (cb := cb) (sb := sb) (mx := 6) ac_int (by decide) dX7_init_15 e_7 ?_
  replace k := ok_bind k
  obtain ⟨h_9, e_10, k⟩ := k
  refine wq_putR fl_X7_15 (Or.inr ⟨rfl, fun _ _ _ z => by cases z; rfl⟩) (Or.inr ⟨_, rfl⟩) dX7_init_17 e_10 ?_
  refine wp_vret rfl dX7_init_20 ?_
  exact (ok_some k :)
theorem c_X7_init {S : SH} {d : Nat} {K : Option Value → AH → Prop} (hd : 1 ≤ d)  {r0 : Nat} {h : AH} (k : ok (f_X7_init S r0 h) (fun _ h' => K none h')) : CP S M_X7_init d 2 13 [.ref r0] h K := cp_of (by decide) (fun _ _ => trivial) (fun _ => Nat.le_of_ble_eq_true rfl) (s_X7_init (cb := 0) (sb := 0) hd  k)
def f_X0_init (S : SH) (r0 : Nat) (r1 : Nat) (h : AH) : Option (Unit × AH) :=
  (nwO S h (0, 7)).bind fun z => match z with
  | (p_3, h_1) =>
  (f_X7_init S p_3 h_1).bind fun z => match z with
  | (_, h_4) =>
  (pR S h_4 r0 0 1 p_3).bind fun h_6 =>
  (nwA S h_6 1 (294 : Int32) 294).bind fun z => match z with
  | (p_10, h_8) =>
  (pR S h_8 r0 0 2 p_10).bind fun h_11 =>
  (nwA S h_11 1 (6 : Int32) 6).bind fun z => match z with
  | (p_15, h_13) =>
  (pR S h_13 r0 0 3 p_15).bind fun h_16 =>
  (nwA S h_16 1 (6 : Int32) 6).bind fun z => match z with
  | (p_20, h_18) =>
  (pR S h_18 r0 0 4 p_20).bind fun h_21 =>
  (pR S h_21 r0 0 0 r1).bind fun h_23 =>
  some ((), h_23)
set_option maxHeartbeats 8000000 in
set_option maxRecDepth 20000 in
theorem s_X0_init {S : SH} {d cb sb : Nat} {Q : Option Value → AH → Prop} (hd : 2 ≤ d)  {r0 : Nat} {r1 : Nat} {h : AH} (k : ok (f_X0_init S r0 r1 h) (fun _ h' => Q none h')) : WP S M_X0_init d (cb + 6) (sb + 323) Q 0 [.ref r0, .ref r1] [] h := by
  obtain ⟨d, rfl, he⟩ := dp (L := 1) hd
  unfold f_X0_init at k
  refine wp_aload_n dX0_init_0 rfl ?_
  refine wp_objInit ml_X0_3 oin oco (by exact Nat.le_of_ble_eq_true rfl) dX0_init_1 ?_
  refine wp_aload_n dX0_init_4 rfl ?_
  replace k := ok_bind k
  obtain ⟨⟨p_3, h_1⟩, e_2, k⟩ := k
  try dsimp only at k
  refine wq_new (cb := (cb + 5)) (sb := (sb + 319)) nw_X0_9 (n := 4) rfl dX0_init_5 e_2 ?_
  refine wp_dupR dX0_init_8 ?_
  refine wp_callIN0 (N := M_X7_init) (cb := (cb + 3)) (sb := (sb + 306)) (host := RX10) mf_X7_init rfl mi_X7_init rfl (List.mem_of_getElem? (i := 7) rfl) dX0_init_9 (by exact Nat.le_of_ble_eq_true rfl) (c_X7_init (Nat.le_trans (by decide) he) (ok_mono (ok_bind2 k) fun _ h_4 k => ?_))
  try dsimp only at k
  replace k := ok_bind k
  obtain ⟨h_6, e_7, k⟩ := k
  refine wq_putR fl_X0_12 (Or.inr ⟨rfl, fun _ _ _ z => by cases z; rfl⟩) (Or.inl ⟨_, rfl⟩) dX0_init_12 e_7 ?_
  refine wp_aload_n dX0_init_15 rfl ?_
  refine wp_sipush dX0_init_16 sp_294 ?_
  replace k := ok_bind k
  obtain ⟨⟨p_10, h_8⟩, e_9, k⟩ := k
  try dsimp only at k
  refine wq_newaI (cb := (cb + 2)) (sb := (sb + 12)) (mx := 294) ac_int (by decide) dX0_init_19 e_9 ?_
  replace k := ok_bind k
  obtain ⟨h_11, e_12, k⟩ := k
  refine wq_putR fl_X0_18 (Or.inr ⟨rfl, fun _ _ _ z => by cases z; rfl⟩) (Or.inr ⟨_, rfl⟩) dX0_init_21 e_12 ?_
  refine wp_aload_n dX0_init_24 rfl ?_
  refine wp_bipush dX0_init_25 bp_6 ?_
  replace k := ok_bind k
  obtain ⟨⟨p_15, h_13⟩, e_14, k⟩ := k
  try dsimp only at k
  refine wq_newaI (cb := (cb + 1)) (sb := (sb + 6)) (mx := 6) ac_int (by decide) dX0_init_27 e_14 ?_
  replace k := ok_bind k
  obtain ⟨h_16, e_17, k⟩ := k
  refine wq_putR fl_X0_22 (Or.inr ⟨rfl, fun _ _ _ z => by cases z; rfl⟩) (Or.inr ⟨_, rfl⟩) dX0_init_29 e_17 ?_
  refine wp_aload_n dX0_init_32 rfl ?_
  refine wp_bipush dX0_init_33 bp_6 ?_
  replace k := ok_bind k
  obtain ⟨⟨p_20, h_18⟩, e_19, k⟩ := k
  try dsimp only at k
  refine wq_newaI (cb := cb) (sb := sb) (mx := 6) ac_int (by decide) dX0_init_35 e_19 ?_
  replace k := ok_bind k
  obtain ⟨h_21, e_22, k⟩ := k
  refine wq_putR fl_X0_25 (Or.inr ⟨rfl, fun _ _ _ z => by cases z; rfl⟩) (Or.inr ⟨_, rfl⟩) dX0_init_37 e_22 ?_
  refine wp_aload_n dX0_init_40 rfl ?_
  refine wp_aload_n dX0_init_41 rfl ?_
  replace k := ok_bind k
  obtain ⟨h_23, e_24, k⟩ := k
  refine wq_putR fl_X0_28 (Or.inr ⟨rfl, fun _ _ _ z => by cases z; rfl⟩) (Or.inl ⟨_, rfl⟩) dX0_init_42 e_24 ?_
  refine wp_vret rfl dX0_init_45 ?_
  exact (ok_some k :)
theorem c_X0_init {S : SH} {d : Nat} {K : Option Value → AH → Prop} (hd : 2 ≤ d)  {r0 : Nat} {r1 : Nat} {h : AH} (k : ok (f_X0_init S r0 r1 h) (fun _ h' => K none h')) : CP S M_X0_init d 6 323 [.ref r0, .ref r1] h K := cp_of (by decide) (fun _ _ => trivial) (fun _ => Nat.le_of_ble_eq_true rfl) (s_X0_init (cb := 0) (sb := 0) hd  k)
def f_X1_init (S : SH) (r0 : Nat) (r1 : Nat) (r2 : Nat) (h : AH) : Option (Unit × AH) :=
  (nwA S h 1 (7 : Int32) 7).bind fun z => match z with
  | (p_3, h_1) =>
  (pR S h_1 r0 1 4 p_3).bind fun h_4 =>
  (nwA S h_4 1 (7 : Int32) 7).bind fun z => match z with
  | (p_8, h_6) =>
  (pR S h_6 r0 1 5 p_8).bind fun h_9 =>
  (pR S h_9 r0 1 0 r1).bind fun h_11 =>
  (pR S h_11 r0 1 1 r2).bind fun h_13 =>
  some ((), h_13)
set_option maxHeartbeats 8000000 in
set_option maxRecDepth 20000 in
theorem s_X1_init {S : SH} {d cb sb : Nat} {Q : Option Value → AH → Prop} (hd : 1 ≤ d)  {r0 : Nat} {r1 : Nat} {r2 : Nat} {h : AH} (k : ok (f_X1_init S r0 r1 r2 h) (fun _ h' => Q none h')) : WP S M_X1_init d (cb + 2) (sb + 14) Q 0 [.ref r0, .ref r1, .ref r2] [] h := by
  obtain ⟨d, rfl, he⟩ := dp (L := 0) hd
  unfold f_X1_init at k
  refine wp_aload_n dX1_init_0 rfl ?_
  refine wp_objInit ml_X1_3 oin oco (by exact Nat.le_of_ble_eq_true rfl) dX1_init_1 ?_
  refine wp_aload_n dX1_init_4 rfl ?_
  refine wp_bipush dX1_init_5 bp_7 ?_
  replace k := ok_bind k
  obtain ⟨⟨p_3, h_1⟩, e_2, k⟩ := k
  try dsimp only at k
  refine wq_newaI (cb := (cb + 1)) (sb := (sb + 7)) (mx := 7) ac_int (by decide) dX1_init_7 e_2 ?_
  replace k := ok_bind k
  obtain ⟨h_4, e_5, k⟩ := k
  refine wq_putR fl_X1_9 (Or.inr ⟨rfl, fun _ _ _ z => by cases z; rfl⟩) (Or.inr ⟨_, rfl⟩) dX1_init_9 e_5 ?_
  refine wp_aload_n dX1_init_12 rfl ?_
  refine wp_bipush dX1_init_13 bp_7 ?_
  replace k := ok_bind k
  obtain ⟨⟨p_8, h_6⟩, e_7, k⟩ := k
  try dsimp only at k
  refine wq_newaI (cb := cb) (sb := sb) (mx := 7) ac_int (by decide) dX1_init_15 e_7 ?_
  replace k := ok_bind k
  obtain ⟨h_9, e_10, k⟩ := k
  refine wq_putR fl_X1_15 (Or.inr ⟨rfl, fun _ _ _ z => by cases z; rfl⟩) (Or.inr ⟨_, rfl⟩) dX1_init_17 e_10 ?_
  refine wp_aload_n dX1_init_20 rfl ?_
  refine wp_aload_n dX1_init_21 rfl ?_
  replace k := ok_bind k
  obtain ⟨h_11, e_12, k⟩ := k
  refine wq_putR fl_X1_18 (Or.inr ⟨rfl, fun _ _ _ z => by cases z; rfl⟩) (Or.inl ⟨_, rfl⟩) dX1_init_22 e_12 ?_
  refine wp_aload_n dX1_init_25 rfl ?_
  refine wp_aload_n dX1_init_26 rfl ?_
  replace k := ok_bind k
  obtain ⟨h_13, e_14, k⟩ := k
  refine wq_putR fl_X1_22 (Or.inr ⟨rfl, fun _ _ _ z => by cases z; rfl⟩) (Or.inl ⟨_, rfl⟩) dX1_init_27 e_14 ?_
  refine wp_vret rfl dX1_init_30 ?_
  exact (ok_some k :)
theorem c_X1_init {S : SH} {d : Nat} {K : Option Value → AH → Prop} (hd : 1 ≤ d)  {r0 : Nat} {r1 : Nat} {r2 : Nat} {h : AH} (k : ok (f_X1_init S r0 r1 r2 h) (fun _ h' => K none h')) : CP S M_X1_init d 2 14 [.ref r0, .ref r1, .ref r2] h K := cp_of (by decide) (fun _ _ => trivial) (fun _ => Nat.le_of_ble_eq_true rfl) (s_X1_init (cb := 0) (sb := 0) hd  k)
def f_X2_init (S : SH) (r0 : Nat) (h : AH) : Option (Unit × AH) :=
  (nwO S h (0, 7)).bind fun z => match z with
  | (p_3, h_1) =>
  (f_X7_init S p_3 h_1).bind fun z => match z with
  | (_, h_4) =>
  (pR S h_4 r0 2 0 p_3).bind fun h_6 =>
  some ((), h_6)
set_option maxHeartbeats 8000000 in
set_option maxRecDepth 20000 in
theorem s_X2_init {S : SH} {d cb sb : Nat} {Q : Option Value → AH → Prop} (hd : 2 ≤ d)  {r0 : Nat} {h : AH} (k : ok (f_X2_init S r0 h) (fun _ h' => Q none h')) : WP S M_X2_init d (cb + 3) (sb + 17) Q 0 [.ref r0] [] h := by
  obtain ⟨d, rfl, he⟩ := dp (L := 1) hd
  unfold f_X2_init at k
  refine wp_aload_n dX2_init_0 rfl ?_
  refine wp_objInit ml_X2_3 oin oco (by exact Nat.le_of_ble_eq_true rfl) dX2_init_1 ?_
  refine wp_aload_n dX2_init_4 rfl ?_
  replace k := ok_bind k
  obtain ⟨⟨p_3, h_1⟩, e_2, k⟩ := k
  try dsimp only at k
  refine wq_new (cb := (cb + 2)) (sb := (sb + 13)) nw_X2_9 (n := 4) rfl dX2_init_5 e_2 ?_
  refine wp_dupR dX2_init_8 ?_
  refine wp_callIN0 (N := M_X7_init) (cb := cb) (sb := sb) (host := RX10) mf_X7_init rfl mi_X7_init rfl (List.mem_of_getElem? (i := 5) rfl) dX2_init_9 (by exact Nat.le_of_ble_eq_true rfl) (c_X7_init (Nat.le_trans (by decide) he) (ok_mono (ok_bind2 k) fun _ h_4 k => ?_))
  try dsimp only at k
  replace k := ok_bind k
  obtain ⟨h_6, e_7, k⟩ := k
  refine wq_putR fl_X2_12 (Or.inr ⟨rfl, fun _ _ _ z => by cases z; rfl⟩) (Or.inl ⟨_, rfl⟩) dX2_init_12 e_7 ?_
  refine wp_vret rfl dX2_init_15 ?_
  exact (ok_some k :)
theorem c_X2_init {S : SH} {d : Nat} {K : Option Value → AH → Prop} (hd : 2 ≤ d)  {r0 : Nat} {h : AH} (k : ok (f_X2_init S r0 h) (fun _ h' => K none h')) : CP S M_X2_init d 3 17 [.ref r0] h K := cp_of (by decide) (fun _ _ => trivial) (fun _ => Nat.le_of_ble_eq_true rfl) (s_X2_init (cb := 0) (sb := 0) hd  k)
def f_X9_init (S : SH) (r0 : Nat) (h : AH) : Option (Unit × AH) :=
  (nwA S h 1 (401 : Int32) 401).bind fun z => match z with
  | (p_3, h_1) =>
  (pR S h_1 r0 9 0 p_3).bind fun h_4 =>
  (nwA S h_4 1 (401 : Int32) 401).bind fun z => match z with
  | (p_8, h_6) =>
  (pR S h_6 r0 9 1 p_8).bind fun h_9 =>
  (nwA S h_9 1 (401 : Int32) 401).bind fun z => match z with
  | (p_13, h_11) =>
  (pR S h_11 r0 9 2 p_13).bind fun h_14 =>
  some ((), h_14)
set_option maxHeartbeats 8000000 in
set_option maxRecDepth 20000 in
theorem s_X9_init {S : SH} {d cb sb : Nat} {Q : Option Value → AH → Prop} (hd : 1 ≤ d)  {r0 : Nat} {h : AH} (k : ok (f_X9_init S r0 h) (fun _ h' => Q none h')) : WP S M_X9_init d (cb + 3) (sb + 1203) Q 0 [.ref r0] [] h := by
  obtain ⟨d, rfl, he⟩ := dp (L := 0) hd
  unfold f_X9_init at k
  refine wp_aload_n dX9_init_0 rfl ?_
  refine wp_objInit ml_X9_3 oin oco (by exact Nat.le_of_ble_eq_true rfl) dX9_init_1 ?_
  refine wp_aload_n dX9_init_4 rfl ?_
  refine wp_sipush dX9_init_5 sp_401 ?_
  replace k := ok_bind k
  obtain ⟨⟨p_3, h_1⟩, e_2, k⟩ := k
  try dsimp only at k
  refine wq_newaI (cb := (cb + 2)) (sb := (sb + 802)) (mx := 401) ac_int (by decide) dX9_init_8 e_2 ?_
  replace k := ok_bind k
  obtain ⟨h_4, e_5, k⟩ := k
  refine wq_putR fl_X9_9 (Or.inr ⟨rfl, fun _ _ _ z => by cases z; rfl⟩) (Or.inr ⟨_, rfl⟩) dX9_init_10 e_5 ?_
  refine wp_aload_n dX9_init_13 rfl ?_
  refine wp_sipush dX9_init_14 sp_401 ?_
  replace k := ok_bind k
  obtain ⟨⟨p_8, h_6⟩, e_7, k⟩ := k
  try dsimp only at k
  refine wq_newaI (cb := (cb + 1)) (sb := (sb + 401)) (mx := 401) ac_int (by decide) dX9_init_17 e_7 ?_
  replace k := ok_bind k
  obtain ⟨h_9, e_10, k⟩ := k
  refine wq_putR fl_X9_15 (Or.inr ⟨rfl, fun _ _ _ z => by cases z; rfl⟩) (Or.inr ⟨_, rfl⟩) dX9_init_19 e_10 ?_
  refine wp_aload_n dX9_init_22 rfl ?_
  refine wp_sipush dX9_init_23 sp_401 ?_
  replace k := ok_bind k
  obtain ⟨⟨p_13, h_11⟩, e_12, k⟩ := k
  try dsimp only at k
  refine wq_newaI (cb := cb) (sb := sb) (mx := 401) ac_int (by decide) dX9_init_26 e_12 ?_
  replace k := ok_bind k
  obtain ⟨h_14, e_15, k⟩ := k
  refine wq_putR fl_X9_18 (Or.inr ⟨rfl, fun _ _ _ z => by cases z; rfl⟩) (Or.inr ⟨_, rfl⟩) dX9_init_28 e_15 ?_
  refine wp_vret rfl dX9_init_31 ?_
  exact (ok_some k :)
theorem c_X9_init {S : SH} {d : Nat} {K : Option Value → AH → Prop} (hd : 1 ≤ d)  {r0 : Nat} {h : AH} (k : ok (f_X9_init S r0 h) (fun _ h' => K none h')) : CP S M_X9_init d 3 1203 [.ref r0] h K := cp_of (by decide) (fun _ _ => trivial) (fun _ => Nat.le_of_ble_eq_true rfl) (s_X9_init (cb := 0) (sb := 0) hd  k)
def f_X8_init (S : SH) (r0 : Nat) (x1 : Int32) (x2 : Int32) (h : AH) : Option (Unit × AH) :=
  (nwA S h 1 (mxI (0 : Int32) x1) 400).bind fun z => match z with
  | (p_3, h_1) =>
  (pR S h_1 r0 8 0 p_3).bind fun h_4 =>
  (nwA S h_4 1 ((mxI (0 : Int32) x2) * (6 : Int32)) 72).bind fun z => match z with
  | (p_8, h_6) =>
  (pR S h_6 r0 8 1 p_8).bind fun h_9 =>
  some ((), h_9)
set_option maxHeartbeats 8000000 in
set_option maxRecDepth 20000 in
theorem s_X8_init {S : SH} {d cb sb : Nat} {Q : Option Value → AH → Prop} (hd : 1 ≤ d)  {r0 : Nat} {x1 : Int32} {x2 : Int32} {h : AH} (k : ok (f_X8_init S r0 x1 x2 h) (fun _ h' => Q none h')) : WP S M_X8_init d (cb + 2) (sb + 472) Q 0 [.ref r0, .int x1, .int x2] [] h := by
  obtain ⟨d, rfl, he⟩ := dp (L := 0) hd
  unfold f_X8_init at k
  refine wp_aload_n dX8_init_0 rfl ?_
  refine wp_objInit ml_X8_3 oin oco (by exact Nat.le_of_ble_eq_true rfl) dX8_init_1 ?_
  refine wp_aload_n dX8_init_4 rfl ?_
  refine wp_iconst dX8_init_5 ic_0 ?_
  refine wp_iload_n dX8_init_6 rfl ?_
  refine wp_mmax ml_X8_9 mm_max mini mc_max (by exact Nat.le_of_ble_eq_true rfl) dX8_init_7 ?_
  replace k := ok_bind k
  obtain ⟨⟨p_3, h_1⟩, e_2, k⟩ := k
  try dsimp only at k
  refine wq_newaI (cb := (cb + 1)) (sb := (sb + 72)) (mx := 400) ac_int (by decide) dX8_init_10 e_2 ?_
  replace k := ok_bind k
  obtain ⟨h_4, e_5, k⟩ := k
  refine wq_putR fl_X8_15 (Or.inr ⟨rfl, fun _ _ _ z => by cases z; rfl⟩) (Or.inr ⟨_, rfl⟩) dX8_init_12 e_5 ?_
  refine wp_aload_n dX8_init_15 rfl ?_
  refine wp_iconst dX8_init_16 ic_0 ?_
  refine wp_iload_n dX8_init_17 rfl ?_
  refine wp_mmax ml_X8_9 mm_max mini mc_max (by exact Nat.le_of_ble_eq_true rfl) dX8_init_18 ?_
  refine wp_bipush dX8_init_21 bp_6 ?_
  refine wp_imul dX8_init_23 ?_
  replace k := ok_bind k
  obtain ⟨⟨p_8, h_6⟩, e_7, k⟩ := k
  try dsimp only at k
  refine wq_newaI (cb := cb) (sb := sb) (mx := 72) ac_int (by decide) dX8_init_24 e_7 ?_
  replace k := ok_bind k
  obtain ⟨h_9, e_10, k⟩ := k
  refine wq_putR fl_X8_21 (Or.inr ⟨rfl, fun _ _ _ z => by cases z; rfl⟩) (Or.inr ⟨_, rfl⟩) dX8_init_26 e_10 ?_
  refine wp_vret rfl dX8_init_29 ?_
  exact (ok_some k :)
theorem c_X8_init {S : SH} {d : Nat} {K : Option Value → AH → Prop} (hd : 1 ≤ d)  {r0 : Nat} {x1 : Int32} {x2 : Int32} {h : AH} (k : ok (f_X8_init S r0 x1 x2 h) (fun _ h' => K none h')) : CP S M_X8_init d 2 472 [.ref r0, .int x1, .int x2] h K := cp_of (by decide) (fun _ _ => trivial) (fun _ => Nat.le_of_ble_eq_true rfl) (s_X8_init (cb := 0) (sb := 0) hd  k)
def f_X3_init (S : SH) (r0 : Nat) (h : AH) : Option (Unit × AH) :=
  (nwO S h (0, 9)).bind fun z => match z with
  | (p_3, h_1) =>
  (f_X9_init S p_3 h_1).bind fun z => match z with
  | (_, h_4) =>
  (pR S h_4 r0 3 0 p_3).bind fun h_6 =>
  (nwO S h_6 (0, 8)).bind fun z => match z with
  | (p_10, h_8) =>
  (f_X8_init S p_10 (400 : Int32) (12 : Int32) h_8).bind fun z => match z with
  | (_, h_11) =>
  (pR S h_11 r0 3 1 p_10).bind fun h_13 =>
  some ((), h_13)
set_option maxHeartbeats 8000000 in
set_option maxRecDepth 20000 in
theorem s_X3_init {S : SH} {d cb sb : Nat} {Q : Option Value → AH → Prop} (hd : 2 ≤ d)  {r0 : Nat} {h : AH} (k : ok (f_X3_init S r0 h) (fun _ h' => Q none h')) : WP S M_X3_init d (cb + 7) (sb + 1683) Q 0 [.ref r0] [] h := by
  obtain ⟨d, rfl, he⟩ := dp (L := 1) hd
  unfold f_X3_init at k
  refine wp_aload_n dX3_init_0 rfl ?_
  refine wp_objInit ml_X3_3 oin oco (by exact Nat.le_of_ble_eq_true rfl) dX3_init_1 ?_
  refine wp_aload_n dX3_init_4 rfl ?_
  replace k := ok_bind k
  obtain ⟨⟨p_3, h_1⟩, e_2, k⟩ := k
  try dsimp only at k
  refine wq_new (cb := (cb + 6)) (sb := (sb + 1679)) nw_X3_9 (n := 4) rfl dX3_init_5 e_2 ?_
  refine wp_dupR dX3_init_8 ?_
  refine wp_callIN0 (N := M_X9_init) (cb := (cb + 3)) (sb := (sb + 476)) (host := RX10) mf_X9_init rfl mi_X9_init rfl (List.mem_of_getElem? (i := 9) rfl) dX3_init_9 (by exact Nat.le_of_ble_eq_true rfl) (c_X9_init (Nat.le_trans (by decide) he) (ok_mono (ok_bind2 k) fun _ h_4 k => ?_))
  try dsimp only at k
  replace k := ok_bind k
  obtain ⟨h_6, e_7, k⟩ := k
  refine wq_putR fl_X3_12 (Or.inr ⟨rfl, fun _ _ _ z => by cases z; rfl⟩) (Or.inl ⟨_, rfl⟩) dX3_init_12 e_7 ?_
  refine wp_aload_n dX3_init_15 rfl ?_
  replace k := ok_bind k
  obtain ⟨⟨p_10, h_8⟩, e_9, k⟩ := k
  try dsimp only at k
  refine wq_new (cb := (cb + 2)) (sb := (sb + 472)) nw_X3_18 (n := 4) rfl dX3_init_16 e_9 ?_
  refine wp_dupR dX3_init_19 ?_
  refine wp_sipush dX3_init_20 sp_400 ?_
  refine wp_bipush dX3_init_23 bp_12 ?_
  refine wp_callI2 (N := M_X8_init) (cb := cb) (sb := sb) mf_X8_init rfl mi_X8_init rfl ml_X3_20 dX3_init_25 (by exact Nat.le_of_ble_eq_true rfl) (c_X8_init (Nat.le_trans (by decide) he) (ok_mono (ok_bind2 k) fun _ h_11 k => ?_))
  try dsimp only at k
  replace k := ok_bind k
  obtain ⟨h_13, e_14, k⟩ := k
  refine wq_putR fl_X3_23 (Or.inr ⟨rfl, fun _ _ _ z => by cases z; rfl⟩) (Or.inl ⟨_, rfl⟩) dX3_init_28 e_14 ?_
  refine wp_vret rfl dX3_init_31 ?_
  exact (ok_some k :)
theorem c_X3_init {S : SH} {d : Nat} {K : Option Value → AH → Prop} (hd : 2 ≤ d)  {r0 : Nat} {h : AH} (k : ok (f_X3_init S r0 h) (fun _ h' => K none h')) : CP S M_X3_init d 7 1683 [.ref r0] h K := cp_of (by decide) (fun _ _ => trivial) (fun _ => Nat.le_of_ble_eq_true rfl) (s_X3_init (cb := 0) (sb := 0) hd  k)
def f_X9_wordOf_l10b (S : SH) (rc : Nat → Int32 → Int32 → Int32 → Int32 → Int32 → AH → Option ((Int32 ⊕ Unit) × AH)) (r0 : Nat) (x1 : Int32) (x2 : Int32) (x3 : Int32) (x4 : Int32) (x5 : Int32) (h : AH) : Option ((Int32 ⊕ Unit) × AH) :=
  if strLen ≤ x5 then
    some (.inr (), h)
  else
    (strAt x5).bind fun v_2 =>
    if v_2 = (32 : Int32) then
      if x4 = (x2 - x1) then
        some (.inl x3, h)
      else
        lt (x3 + (1 : Int32)) fun y_21 =>
        lt (x5 + (1 : Int32)) fun y_22 =>
        rc r0 x1 x2 y_21 (0 : Int32) y_22 h
    else
      if x4 = (-1 : Int32) then
        lt (x5 + (1 : Int32)) fun y_6 =>
        rc r0 x1 x2 x3 x4 y_6 h
      else
        lt ((x1 + x4)) fun y_7 =>
        if x2 ≤ y_7 then
          lt (x5 + (1 : Int32)) fun y_9 =>
          rc r0 x1 x2 x3 (-1 : Int32) y_9 h
        else
          (lnA S h r0).bind fun v_10 =>
          if v_10 ≤ y_7 then
            lt (x5 + (1 : Int32)) fun y_13 =>
            rc r0 x1 x2 x3 (-1 : Int32) y_13 h
          else
            (aI S h r0 y_7).bind fun v_14 =>
            if v_14 = v_2 then
              lt ((x4 + (1 : Int32))) fun y_18 =>
              lt (x5 + (1 : Int32)) fun y_19 =>
              rc r0 x1 x2 x3 y_18 y_19 h
            else
              lt (x5 + (1 : Int32)) fun y_17 =>
              rc r0 x1 x2 x3 (-1 : Int32) y_17 h
set_option maxHeartbeats 8000000 in
set_option maxRecDepth 20000 in
theorem s_X9_wordOf_l10b {S : SH} {d cb sb : Nat} {Q : Option Value → AH → Prop} (hd : 4 ≤ d) {K : (Int32 ⊕ Unit) → AH → Prop} (hret : ∀ (w : Int32) (h' : AH), K (.inl w) h' → Q (some (.int w)) h') (hex : ∀  (h' : AH), K (.inr ()) h' → WP S M_X9_wordOf d cb sb Q 105 [JK, JK, JK, JK, JK, JK, JK, JK] [] h') {rc : Nat → Int32 → Int32 → Int32 → Int32 → Int32 → AH → Option ((Int32 ⊕ Unit) × AH)} (hrec : ∀ (r0 : Nat) (x1 : Int32) (x2 : Int32) (x3 : Int32) (x4 : Int32) (x5 : Int32) (h' : AH), ok (rc r0 x1 x2 x3 x4 x5 h') K → WP S M_X9_wordOf d cb sb Q 10 [.ref r0, .int x1, .int x2, .int x3, .int x4, .int x5, JK, JK] [] h') {r0 : Nat} {x1 : Int32} {x2 : Int32} {x3 : Int32} {x4 : Int32} {x5 : Int32} {h : AH} (k : ok (f_X9_wordOf_l10b S rc r0 x1 x2 x3 x4 x5 h) K) : WP S M_X9_wordOf d cb sb Q 10 [.ref r0, .int x1, .int x2, .int x3, .int x4, .int x5, JK, JK] [] h := by
  obtain ⟨d, rfl, he⟩ := dp (L := 3) hd
  unfold f_X9_wordOf_l10b at k
  refine wp_iload dX9_wordOf_10 rfl ?_
  refine wp_ldcS rfl dX9_wordOf_12 ?_
  refine wp_strlen (Nat.le_trans (by decide) he) rfl (by exact Nat.le_of_ble_eq_true rfl) dX9_wordOf_14 ?_
  refine wp_icmp_ge 105 dX9_wordOf_17 (by decide) (fun c_1 => ?_) (fun c_1 => ?_)
  · replace k := ok_t c_1 k
    exact wp_wk (wkJ <| wkJ <| wkJ <| wkJ <| wkJ <| wkJ <| wkJ <| wkJ <| wkN) (hex  _ (ok_some k))
  · replace k := ok_f c_1 k
    refine wp_ldcS rfl dX9_wordOf_20 ?_
    refine wp_iload dX9_wordOf_22 rfl ?_
    replace k := ok_bind k
    obtain ⟨v_2, e_3, k⟩ := k
    refine wq_charAt (Nat.le_trans (by decide) he) rfl (by exact Nat.le_of_ble_eq_true rfl) dX9_wordOf_24 e_3 ?_
    refine wp_istore dX9_wordOf_27 (by decide) (L1 := [_, _, _, _, _, _, _, _]) rfl ?_
    refine wp_iload dX9_wordOf_29 rfl ?_
    refine wp_bipush dX9_wordOf_31 bp_32 ?_
    refine wp_icmp_ne 55 dX9_wordOf_33 (by decide) (fun c_4 => ?_) (fun c_4 => ?_)
    · replace k := ok_f c_4 k
      refine wp_iload dX9_wordOf_55 rfl ?_
      refine wp_iconst dX9_wordOf_57 ic_m1 ?_
      refine wp_icmp_eq 99 dX9_wordOf_58 (by decide) (fun c_5 => ?_) (fun c_5 => ?_)
      · replace k := ok_t c_5 k
        replace k := ok_lt k
        refine wp_iinc dX9_wordOf_99 rfl ic_1 (by decide) (L1 := [_, _, _, _, _, _, _, _]) rfl ?_
        refine wp_goto 10 dX9_wordOf_102 (by decide) ?_
        exact wp_wk (wkE <| wkE <| wkE <| wkE <| wkE <| wkE <| wkJ <| wkJ <| wkN) (hrec _ _ _ _ _ _ _ k)
      · replace k := ok_f c_5 k
        refine wp_iload_n dX9_wordOf_61 rfl ?_
        refine wp_iload dX9_wordOf_62 rfl ?_
        refine wp_iadd dX9_wordOf_64 ?_
        replace k := ok_lt k
        refine wp_istore dX9_wordOf_65 (by decide) (L1 := [_, _, _, _, _, _, _, _]) rfl ?_
        refine wp_iload dX9_wordOf_67 rfl ?_
        refine wp_iload_n dX9_wordOf_69 rfl ?_
        refine wp_icmp_ge 96 dX9_wordOf_70 (by decide) (fun c_8 => ?_) (fun c_8 => ?_)
        · replace k := ok_t c_8 k
          refine wp_iconst dX9_wordOf_96 ic_m1 ?_
          refine wp_istore dX9_wordOf_97 (by decide) (L1 := [_, _, _, _, _, _, _, _]) rfl ?_
          replace k := ok_lt k
          refine wp_iinc dX9_wordOf_99 rfl ic_1 (by decide) (L1 := [_, _, _, _, _, _, _, _]) rfl ?_
          refine wp_goto 10 dX9_wordOf_102 (by decide) ?_
          exact wp_wk (wkE <| wkE <| wkE <| wkE <| wkE <| wkE <| wkJ <| wkJ <| wkN) (hrec _ _ _ _ _ _ _ k)
        · replace k := ok_f c_8 k
          refine wp_iload dX9_wordOf_73 rfl ?_
          refine wp_aload_n dX9_wordOf_75 rfl ?_
          replace k := ok_bind k
          obtain ⟨v_10, e_11, k⟩ := k
          refine wq_len dX9_wordOf_76 e_11 ?_
          refine wp_icmp_ge 96 dX9_wordOf_77 (by decide) (fun c_12 => ?_) (fun c_12 => ?_)
          · replace k := ok_t c_12 k
            refine wp_iconst dX9_wordOf_96 ic_m1 ?_
            refine wp_istore dX9_wordOf_97 (by decide) (L1 := [_, _, _, _, _, _, _, _]) rfl ?_
            replace k := ok_lt k
            refine wp_iinc dX9_wordOf_99 rfl ic_1 (by decide) (L1 := [_, _, _, _, _, _, _, _]) rfl ?_
            refine wp_goto 10 dX9_wordOf_102 (by decide) ?_
            exact wp_wk (wkE <| wkE <| wkE <| wkE <| wkE <| wkE <| wkJ <| wkJ <| wkN) (hrec _ _ _ _ _ _ _ k)
          · replace k := ok_f c_12 k
            refine wp_aload_n dX9_wordOf_80 rfl ?_
            refine wp_iload dX9_wordOf_81 rfl ?_
            replace k := ok_bind k
            obtain ⟨v_14, e_15, k⟩ := k
            refine wq_aI dX9_wordOf_83 e_15 ?_
            refine wp_iload dX9_wordOf_84 rfl ?_
            refine wp_icmp_ne 96 dX9_wordOf_86 (by decide) (fun c_16 => ?_) (fun c_16 => ?_)
            · replace k := ok_f c_16 k
              refine wp_iconst dX9_wordOf_96 ic_m1 ?_
              refine wp_istore dX9_wordOf_97 (by decide) (L1 := [_, _, _, _, _, _, _, _]) rfl ?_
              replace k := ok_lt k
              refine wp_iinc dX9_wordOf_99 rfl ic_1 (by decide) (L1 := [_, _, _, _, _, _, _, _]) rfl ?_
              refine wp_goto 10 dX9_wordOf_102 (by decide) ?_
              exact wp_wk (wkE <| wkE <| wkE <| wkE <| wkE <| wkE <| wkJ <| wkJ <| wkN) (hrec _ _ _ _ _ _ _ k)
            · replace k := ok_t c_16 k
              refine wp_iload dX9_wordOf_89 rfl ?_
              refine wp_iconst dX9_wordOf_91 ic_1 ?_
              refine wp_iadd dX9_wordOf_92 ?_
              refine wp_goto 97 dX9_wordOf_93 (by decide) ?_
              replace k := ok_lt k
              refine wp_istore dX9_wordOf_97 (by decide) (L1 := [_, _, _, _, _, _, _, _]) rfl ?_
              replace k := ok_lt k
              refine wp_iinc dX9_wordOf_99 rfl ic_1 (by decide) (L1 := [_, _, _, _, _, _, _, _]) rfl ?_
              refine wp_goto 10 dX9_wordOf_102 (by decide) ?_
              exact wp_wk (wkE <| wkE <| wkE <| wkE <| wkE <| wkE <| wkJ <| wkJ <| wkN) (hrec _ _ _ _ _ _ _ k)
    · replace k := ok_t c_4 k
      refine wp_iload dX9_wordOf_36 rfl ?_
      refine wp_iload_n dX9_wordOf_38 rfl ?_
      refine wp_iload_n dX9_wordOf_39 rfl ?_
      refine wp_isub dX9_wordOf_40 ?_
      refine wp_icmp_ne 46 dX9_wordOf_41 (by decide) (fun c_20 => ?_) (fun c_20 => ?_)
      · replace k := ok_f c_20 k
        replace k := ok_lt k
        refine wp_iinc dX9_wordOf_46 rfl ic_1 (by decide) (L1 := [_, _, _, _, _, _, _, _]) rfl ?_
        refine wp_iconst dX9_wordOf_49 ic_0 ?_
        refine wp_istore dX9_wordOf_50 (by decide) (L1 := [_, _, _, _, _, _, _, _]) rfl ?_
        refine wp_goto 99 dX9_wordOf_52 (by decide) ?_
        replace k := ok_lt k
        refine wp_iinc dX9_wordOf_99 rfl ic_1 (by decide) (L1 := [_, _, _, _, _, _, _, _]) rfl ?_
        refine wp_goto 10 dX9_wordOf_102 (by decide) ?_
        exact wp_wk (wkE <| wkE <| wkE <| wkE <| wkE <| wkE <| wkJ <| wkJ <| wkN) (hrec _ _ _ _ _ _ _ k)
      · replace k := ok_t c_20 k
        refine wp_iload_n dX9_wordOf_44 rfl ?_
        refine wp_iret rfl rfl dX9_wordOf_45 ?_
        exact hret _ _ (ok_some k)
def f_X9_wordOf_l10 (S : SH) : Nat → Nat → Int32 → Int32 → Int32 → Int32 → Int32 → AH → Option ((Int32 ⊕ Unit) × AH)
  | 0, _, _, _, _, _, _, _ => none
  | n + 1, r0, x1, x2, x3, x4, x5, h => f_X9_wordOf_l10b S (f_X9_wordOf_l10 S n) r0 x1 x2 x3 x4 x5 h
theorem s_X9_wordOf_l10 {S : SH} {d cb sb : Nat} {Q : Option Value → AH → Prop} (hd : 4 ≤ d) {K : (Int32 ⊕ Unit) → AH → Prop} (hret : ∀ (w : Int32) (h' : AH), K (.inl w) h' → Q (some (.int w)) h') (hex : ∀  (h' : AH), K (.inr ()) h' → WP S M_X9_wordOf d cb sb Q 105 [JK, JK, JK, JK, JK, JK, JK, JK] [] h') : ∀ (n : Nat) (r0 : Nat) (x1 : Int32) (x2 : Int32) (x3 : Int32) (x4 : Int32) (x5 : Int32) (h : AH), ok (f_X9_wordOf_l10 S n r0 x1 x2 x3 x4 x5 h) K → WP S M_X9_wordOf d cb sb Q 10 [.ref r0, .int x1, .int x2, .int x3, .int x4, .int x5, JK, JK] [] h := by
  intro n
  induction n with
  | zero => intro r0 x1 x2 x3 x4 x5 h k; exact ok_none k
  | succ n ih => intro r0 x1 x2 x3 x4 x5 h k; exact s_X9_wordOf_l10b hd hret hex (fun r0 x1 x2 x3 x4 x5 h k => ih r0 x1 x2 x3 x4 x5 h k) k
def f_X9_wordOf (S : SH) (r0 : Nat) (x1 : Int32) (x2 : Int32) (h : AH) : Option (Int32 × AH) :=
  (f_X9_wordOf_l10 S FU r0 x1 x2 (256 : Int32) (0 : Int32) (0 : Int32) h).bind fun z => match z with
  | (.inl w, h') => some (w, h')
  | (.inr (), h_1) =>
    some ((283 : Int32), h_1)
set_option maxHeartbeats 8000000 in
set_option maxRecDepth 20000 in
theorem s_X9_wordOf {S : SH} {d cb sb : Nat} {Q : Option Value → AH → Prop} (hd : 4 ≤ d)  {r0 : Nat} {x1 : Int32} {x2 : Int32} {h : AH} (k : ok (f_X9_wordOf S r0 x1 x2 h) (fun w h' => Q (some (.int w)) h')) : WP S M_X9_wordOf d cb sb Q 0 [.ref r0, .int x1, .int x2, JK, JK, JK, JK, JK] [] h := by
  obtain ⟨d, rfl, he⟩ := dp (L := 3) hd
  unfold f_X9_wordOf at k
  refine wp_sipush dX9_wordOf_0 sp_256 ?_
  refine wp_istore_n dX9_wordOf_3 (by decide) (L1 := [_, _, _, _, _, _, _, _]) rfl ?_
  refine wp_iconst dX9_wordOf_4 ic_0 ?_
  refine wp_istore dX9_wordOf_5 (by decide) (L1 := [_, _, _, _, _, _, _, _]) rfl ?_
  refine wp_iconst dX9_wordOf_7 ic_0 ?_
  refine wp_istore dX9_wordOf_8 (by decide) (L1 := [_, _, _, _, _, _, _, _]) rfl ?_
  refine wp_wk (wkE <| wkE <| wkE <| wkE <| wkE <| wkE <| wkJ <| wkJ <| wkN) ?_
  refine s_X9_wordOf_l10 (Nat.succ_le_succ he) (fun w h' k => ?_) (fun  h_1 k => ?_) FU _ _ _ _ _ _ _ (ok_bind2 k)
  · try dsimp only at k
    exact (ok_some k :)
  · try dsimp only at k
    refine wp_sipush dX9_wordOf_105 sp_283 ?_
    refine wp_iret rfl rfl dX9_wordOf_108 ?_
    exact (ok_some k :)
theorem c_X9_wordOf {S : SH} {d : Nat} {K : Option Value → AH → Prop} (hd : 4 ≤ d)  {r0 : Nat} {x1 : Int32} {x2 : Int32} {h : AH} (k : ok (f_X9_wordOf S r0 x1 x2 h) (fun w h' => K (some (.int w)) h')) : CP S M_X9_wordOf d 0 0 [.ref r0, .int x1, .int x2] h K := cp_of (by decide) (fun _ _ => trivial) (fun _ => Nat.le_of_ble_eq_true rfl) (s_X9_wordOf hd  k)
def f_X9_kindOf (S : SH) (r0 : Nat) (x1 : Int32) (x2 : Int32) (h : AH) : Option (Int32 × AH) :=
  (aI S h r0 x1).bind fun v_1 =>
  (f_X9_sortOf S v_1 h).bind fun z => match z with
  | (z_4, h_3) =>
  if z_4 = (285 : Int32) then
    (aI S h_3 r0 x1).bind fun v_9 =>
    some (v_9, h_3)
  else
    if z_4 = (283 : Int32) then
      (f_X9_wordOf S r0 x1 x2 h_3).bind fun z => match z with
      | (z_8, h_7) =>
      some (z_8, h_7)
    else
      some ((284 : Int32), h_3)
set_option maxHeartbeats 8000000 in
set_option maxRecDepth 20000 in
theorem s_X9_kindOf {S : SH} {d cb sb : Nat} {Q : Option Value → AH → Prop} (hd : 5 ≤ d)  {r0 : Nat} {x1 : Int32} {x2 : Int32} {h : AH} (k : ok (f_X9_kindOf S r0 x1 x2 h) (fun w h' => Q (some (.int w)) h')) : WP S M_X9_kindOf d cb sb Q 0 [.ref r0, .int x1, .int x2, JK] [] h := by
  obtain ⟨d, rfl, he⟩ := dp (L := 4) hd
  unfold f_X9_kindOf at k
  refine wp_aload_n dX9_kindOf_0 rfl ?_
  refine wp_iload_n dX9_kindOf_1 rfl ?_
  replace k := ok_bind k
  obtain ⟨v_1, e_2, k⟩ := k
  refine wq_aI dX9_kindOf_2 e_2 ?_
  refine wp_callS1 (N := M_X9_sortOf) mf_X9_sortOf ms_X9_sortOf ml_X9_39 dX9_kindOf_3 (by exact Nat.le_of_ble_eq_true rfl) (c_X9_sortOf (Nat.le_trans (by decide) he) (ok_mono (ok_bind2 k) fun z_4 h_3 k => ?_))
  try dsimp only at k
  refine wp_istore_n dX9_kindOf_6 (by decide) (L1 := [_, _, _, _]) rfl ?_
  refine wp_iload_n dX9_kindOf_7 rfl ?_
  refine wp_sipush dX9_kindOf_8 sp_285 ?_
  refine wp_icmp_ne 18 dX9_kindOf_11 (by decide) (fun c_5 => ?_) (fun c_5 => ?_)
  · replace k := ok_f c_5 k
    refine wp_iload_n dX9_kindOf_18 rfl ?_
    refine wp_sipush dX9_kindOf_19 sp_283 ?_
    refine wp_icmp_ne 34 dX9_kindOf_22 (by decide) (fun c_6 => ?_) (fun c_6 => ?_)
    · replace k := ok_f c_6 k
      refine wp_sipush dX9_kindOf_34 sp_284 ?_
      refine wp_iret rfl rfl dX9_kindOf_37 ?_
      exact (ok_some k :)
    · replace k := ok_t c_6 k
      refine wp_aload_n dX9_kindOf_25 rfl ?_
      refine wp_iload_n dX9_kindOf_26 rfl ?_
      refine wp_iload_n dX9_kindOf_27 rfl ?_
      refine wp_callS3 (N := M_X9_wordOf) mf_X9_wordOf ms_X9_wordOf ml_X9_43 dX9_kindOf_28 (by exact Nat.le_of_ble_eq_true rfl) (c_X9_wordOf (Nat.le_trans (by decide) he) (ok_mono (ok_bind2 k) fun z_8 h_7 k => ?_))
      try dsimp only at k
      refine wp_goto 37 dX9_kindOf_31 (by decide) ?_
      refine wp_iret rfl rfl dX9_kindOf_37 ?_
      exact (ok_some k :)
  · replace k := ok_t c_5 k
    refine wp_aload_n dX9_kindOf_14 rfl ?_
    refine wp_iload_n dX9_kindOf_15 rfl ?_
    replace k := ok_bind k
    obtain ⟨v_9, e_10, k⟩ := k
    refine wq_aI dX9_kindOf_16 e_10 ?_
    refine wp_iret rfl rfl dX9_kindOf_17 ?_
    exact (ok_some k :)
theorem c_X9_kindOf {S : SH} {d : Nat} {K : Option Value → AH → Prop} (hd : 5 ≤ d)  {r0 : Nat} {x1 : Int32} {x2 : Int32} {h : AH} (k : ok (f_X9_kindOf S r0 x1 x2 h) (fun w h' => K (some (.int w)) h')) : CP S M_X9_kindOf d 0 0 [.ref r0, .int x1, .int x2] h K := cp_of (by decide) (fun _ _ => trivial) (fun _ => Nat.le_of_ble_eq_true rfl) (s_X9_kindOf hd  k)
def f_X9_cut_l10b (S : SH) (rc : Nat → Nat → Int32 → Int32 → Int32 → AH → Option ((Nat × Int32) × AH)) (r0 : Nat) (r1 : Nat) (x2 : Int32) (x3 : Int32) (x4 : Int32) (h : AH) : Option ((Nat × Int32) × AH) :=
  if x2 ≤ x4 then
    some ((r0, x2), h)
  else
    (lnA S h r1).bind fun v_2 =>
    if v_2 ≤ x4 then
      some ((r0, x2), h)
    else
      if x4 < x3 then
        lt (x4 + (1 : Int32)) fun y_6 =>
        rc r0 r1 x2 x3 y_6 h
      else
        (aI S h r1 x4).bind fun v_7 =>
        if v_7 = (32 : Int32) then
          lt (x4 + (1 : Int32)) fun y_10 =>
          rc r0 r1 x2 x3 y_10 h
        else
          (f_X9_endOf S r1 x4 x2 h).bind fun z => match z with
          | (z_12, h_11) =>
          (f_X9_kindOf S r1 x4 z_12 h_11).bind fun z => match z with
          | (z_14, h_13) =>
          (f_X9_numberOf S r1 x4 z_12 h_13).bind fun z => match z with
          | (z_16, h_15) =>
          (ckO S h_15 r0 9).bind fun _ =>
          (f_X9_add S r0 z_14 x4 z_16 h_15).bind fun z => match z with
          | (_, h_18) =>
          lt (x4 + (1 : Int32)) fun y_20 =>
          rc r0 r1 x2 z_12 y_20 h_18
set_option maxHeartbeats 8000000 in
set_option maxRecDepth 20000 in
theorem s_X9_cut_l10b {S : SH} {d cb sb : Nat} {Q : Option Value → AH → Prop} (hd : 6 ≤ d) {K : (Nat × Int32) → AH → Prop} (hex : ∀ (r0 : Nat) (x2 : Int32) (h' : AH), K (r0, x2) h' → WP S M_X9_cut d cb sb Q 72 [.ref r0, JK, .int x2, JK, JK] [] h') {rc : Nat → Nat → Int32 → Int32 → Int32 → AH → Option ((Nat × Int32) × AH)} (hrec : ∀ (r0 : Nat) (r1 : Nat) (x2 : Int32) (x3 : Int32) (x4 : Int32) (h' : AH), ok (rc r0 r1 x2 x3 x4 h') K → WP S M_X9_cut d cb sb Q 10 [.ref r0, .ref r1, .int x2, .int x3, .int x4] [] h') {r0 : Nat} {r1 : Nat} {x2 : Int32} {x3 : Int32} {x4 : Int32} {h : AH} (k : ok (f_X9_cut_l10b S rc r0 r1 x2 x3 x4 h) K) : WP S M_X9_cut d cb sb Q 10 [.ref r0, .ref r1, .int x2, .int x3, .int x4] [] h := by
  obtain ⟨d, rfl, he⟩ := dp (L := 5) hd
  unfold f_X9_cut_l10b at k
  refine wp_iload dX9_cut_10 rfl ?_
  refine wp_iload_n dX9_cut_12 rfl ?_
  refine wp_icmp_ge 72 dX9_cut_13 (by decide) (fun c_1 => ?_) (fun c_1 => ?_)
  · replace k := ok_t c_1 k
    exact wp_wk (wkE <| wkJ <| wkE <| wkJ <| wkJ <| wkN) (hex _ _ _ (ok_some k))
  · replace k := ok_f c_1 k
    refine wp_iload dX9_cut_16 rfl ?_
    refine wp_aload_n dX9_cut_18 rfl ?_
    replace k := ok_bind k
    obtain ⟨v_2, e_3, k⟩ := k
    refine wq_len dX9_cut_19 e_3 ?_
    refine wp_icmp_ge 72 dX9_cut_20 (by decide) (fun c_4 => ?_) (fun c_4 => ?_)
    · replace k := ok_t c_4 k
      exact wp_wk (wkE <| wkJ <| wkE <| wkJ <| wkJ <| wkN) (hex _ _ _ (ok_some k))
    · replace k := ok_f c_4 k
      refine wp_iload dX9_cut_23 rfl ?_
      refine wp_iload_n dX9_cut_25 rfl ?_
      refine wp_icmp_lt 66 dX9_cut_26 (by decide) (fun c_5 => ?_) (fun c_5 => ?_)
      · replace k := ok_t c_5 k
        replace k := ok_lt k
        refine wp_iinc dX9_cut_66 rfl ic_1 (by decide) (L1 := [_, _, _, _, _]) rfl ?_
        refine wp_goto 10 dX9_cut_69 (by decide) ?_
        exact wp_wk (wkE <| wkE <| wkE <| wkE <| wkE <| wkN) (hrec _ _ _ _ _ _ k)
      · replace k := ok_f c_5 k
        refine wp_aload_n dX9_cut_29 rfl ?_
        refine wp_iload dX9_cut_30 rfl ?_
        replace k := ok_bind k
        obtain ⟨v_7, e_8, k⟩ := k
        refine wq_aI dX9_cut_32 e_8 ?_
        refine wp_bipush dX9_cut_33 bp_32 ?_
        refine wp_icmp_eq 66 dX9_cut_35 (by decide) (fun c_9 => ?_) (fun c_9 => ?_)
        · replace k := ok_t c_9 k
          replace k := ok_lt k
          refine wp_iinc dX9_cut_66 rfl ic_1 (by decide) (L1 := [_, _, _, _, _]) rfl ?_
          refine wp_goto 10 dX9_cut_69 (by decide) ?_
          exact wp_wk (wkE <| wkE <| wkE <| wkE <| wkE <| wkN) (hrec _ _ _ _ _ _ k)
        · replace k := ok_f c_9 k
          refine wp_aload_n dX9_cut_38 rfl ?_
          refine wp_iload dX9_cut_39 rfl ?_
          refine wp_iload_n dX9_cut_41 rfl ?_
          refine wp_callS3 (N := M_X9_endOf) mf_X9_endOf ms_X9_endOf ml_X9_25 dX9_cut_42 (by exact Nat.le_of_ble_eq_true rfl) (c_X9_endOf (Nat.le_trans (by decide) he) (ok_mono (ok_bind2 k) fun z_12 h_11 k => ?_))
          try dsimp only at k
          refine wp_istore_n dX9_cut_45 (by decide) (L1 := [_, _, _, _, _]) rfl ?_
          refine wp_aload_n dX9_cut_46 rfl ?_
          refine wp_aload_n dX9_cut_47 rfl ?_
          refine wp_iload dX9_cut_48 rfl ?_
          refine wp_iload_n dX9_cut_50 rfl ?_
          refine wp_callS3 (N := M_X9_kindOf) mf_X9_kindOf ms_X9_kindOf ml_X9_29 dX9_cut_51 (by exact Nat.le_of_ble_eq_true rfl) (c_X9_kindOf (Nat.le_trans (by decide) he) (ok_mono (ok_bind2 k) fun z_14 h_13 k => ?_))
          try dsimp only at k
          refine wp_iload dX9_cut_54 rfl ?_
          refine wp_aload_n dX9_cut_56 rfl ?_
          refine wp_iload dX9_cut_57 rfl ?_
          refine wp_iload_n dX9_cut_59 rfl ?_
          refine wp_callS3 (N := M_X9_numberOf) mf_X9_numberOf ms_X9_numberOf ml_X9_32 dX9_cut_60 (by exact Nat.le_of_ble_eq_true rfl) (c_X9_numberOf (Nat.le_trans (by decide) he) (ok_mono (ok_bind2 k) fun z_16 h_15 k => ?_))
          try dsimp only at k
          replace k := ok_bind k
          obtain ⟨u, e_17, k⟩ := k
          refine wp_callV3 (N := M_X9_add) (ci := 9) mf_X9_add mi_X9_add me_X9_add ml_X9_35 dX9_cut_63 (ckO_e e_17) mv_X9_add (by exact Nat.le_of_ble_eq_true rfl) (c_X9_add (Nat.le_trans (by decide) he) (ok_mono (ok_bind2 k) fun _ h_18 k => ?_))
          try dsimp only at k
          replace k := ok_lt k
          refine wp_iinc dX9_cut_66 rfl ic_1 (by decide) (L1 := [_, _, _, _, _]) rfl ?_
          refine wp_goto 10 dX9_cut_69 (by decide) ?_
          exact wp_wk (wkE <| wkE <| wkE <| wkE <| wkE <| wkN) (hrec _ _ _ _ _ _ k)
def f_X9_cut_l10 (S : SH) : Nat → Nat → Nat → Int32 → Int32 → Int32 → AH → Option ((Nat × Int32) × AH)
  | 0, _, _, _, _, _, _ => none
  | n + 1, r0, r1, x2, x3, x4, h => f_X9_cut_l10b S (f_X9_cut_l10 S n) r0 r1 x2 x3 x4 h
theorem s_X9_cut_l10 {S : SH} {d cb sb : Nat} {Q : Option Value → AH → Prop} (hd : 6 ≤ d) {K : (Nat × Int32) → AH → Prop} (hex : ∀ (r0 : Nat) (x2 : Int32) (h' : AH), K (r0, x2) h' → WP S M_X9_cut d cb sb Q 72 [.ref r0, JK, .int x2, JK, JK] [] h') : ∀ (n : Nat) (r0 : Nat) (r1 : Nat) (x2 : Int32) (x3 : Int32) (x4 : Int32) (h : AH), ok (f_X9_cut_l10 S n r0 r1 x2 x3 x4 h) K → WP S M_X9_cut d cb sb Q 10 [.ref r0, .ref r1, .int x2, .int x3, .int x4] [] h := by
  intro n
  induction n with
  | zero => intro r0 r1 x2 x3 x4 h k; exact ok_none k
  | succ n ih => intro r0 r1 x2 x3 x4 h k; exact s_X9_cut_l10b hd hex (fun r0 r1 x2 x3 x4 h k => ih r0 r1 x2 x3 x4 h k) k
def f_X9_cut (S : SH) (r0 : Nat) (r1 : Nat) (x2 : Int32) (h : AH) : Option (Unit × AH) :=
  (pI S h r0 9 3 (0 : Int32)).bind fun h_1 =>
  (f_X9_cut_l10 S FU r0 r1 x2 (0 : Int32) (0 : Int32) h_1).bind fun z => match z with
  | ((r0_4, x2_5), h_3) =>
  (ckO S h_3 r0_4 9).bind fun _ =>
  (f_X9_add S r0_4 (285 : Int32) x2_5 (0 : Int32) h_3).bind fun z => match z with
  | (_, h_7) =>
  some ((), h_7)
set_option maxHeartbeats 8000000 in
set_option maxRecDepth 20000 in
theorem s_X9_cut {S : SH} {d cb sb : Nat} {Q : Option Value → AH → Prop} (hd : 6 ≤ d)  {r0 : Nat} {r1 : Nat} {x2 : Int32} {h : AH} (k : ok (f_X9_cut S r0 r1 x2 h) (fun _ h' => Q none h')) : WP S M_X9_cut d cb sb Q 0 [.ref r0, .ref r1, .int x2, JK, JK] [] h := by
  obtain ⟨d, rfl, he⟩ := dp (L := 5) hd
  unfold f_X9_cut at k
  refine wp_aload_n dX9_cut_0 rfl ?_
  refine wp_iconst dX9_cut_1 ic_0 ?_
  replace k := ok_bind k
  obtain ⟨h_1, e_2, k⟩ := k
  refine wq_putI fl_X9_21 rfl rfl dX9_cut_2 e_2 ?_
  refine wp_iconst dX9_cut_5 ic_0 ?_
  refine wp_istore_n dX9_cut_6 (by decide) (L1 := [_, _, _, _, _]) rfl ?_
  refine wp_iconst dX9_cut_7 ic_0 ?_
  refine wp_istore dX9_cut_8 (by decide) (L1 := [_, _, _, _, _]) rfl ?_
  refine wp_wk (wkE <| wkE <| wkE <| wkE <| wkE <| wkN) ?_
  refine s_X9_cut_l10 (Nat.succ_le_succ he) (fun r0_4 x2_5 h_3 k => ?_) FU _ _ _ _ _ _ (ok_bind2 k)
  try dsimp only at k
  refine wp_aload_n dX9_cut_72 rfl ?_
  refine wp_sipush dX9_cut_73 sp_285 ?_
  refine wp_iload_n dX9_cut_76 rfl ?_
  refine wp_iconst dX9_cut_77 ic_0 ?_
  replace k := ok_bind k
  obtain ⟨u, e_6, k⟩ := k
  refine wp_callV3 (N := M_X9_add) (ci := 9) mf_X9_add mi_X9_add me_X9_add ml_X9_35 dX9_cut_78 (ckO_e e_6) mv_X9_add (by exact Nat.le_of_ble_eq_true rfl) (c_X9_add (Nat.le_trans (by decide) he) (ok_mono (ok_bind2 k) fun _ h_7 k => ?_))
  try dsimp only at k
  refine wp_vret rfl dX9_cut_81 ?_
  exact (ok_some k :)
theorem c_X9_cut {S : SH} {d : Nat} {K : Option Value → AH → Prop} (hd : 6 ≤ d)  {r0 : Nat} {r1 : Nat} {x2 : Int32} {h : AH} (k : ok (f_X9_cut S r0 r1 x2 h) (fun _ h' => K none h')) : CP S M_X9_cut d 0 0 [.ref r0, .ref r1, .int x2] h K := cp_of (by decide) (fun _ _ => trivial) (fun _ => Nat.le_of_ble_eq_true rfl) (s_X9_cut hd  k)
def f_X3_read_l43_j127 (S : SH) (rc : Nat → Int32 → AH → Option ((Int32 ⊕ Unit) × AH)) (r0 : Nat) (x4 : Int32) (h : AH) : Option ((Int32 ⊕ Unit) × AH) :=
  (gR S h r0 3 1).bind fun p_1 =>
  (gI S h p_1 8 2).bind fun v_3 =>
  (ckO S h r0 3).bind fun _ =>
  (f_X3_setHead S r0 (5 : Int32) v_3 h).bind fun z => match z with
  | (_, h_6) =>
  (gR S h_6 r0 3 1).bind fun p_8 =>
  (gI S h_6 p_8 8 3).bind fun v_10 =>
  (pI S h_6 p_8 8 3 (v_10 + (1 : Int32))).bind fun h_12 =>
  (ckO S h_12 r0 3).bind fun _ =>
  (f_X3_kind S r0 h_12).bind fun z => match z with
  | (z_16, h_15) =>
  if z_16 = (59 : Int32) then
    (ckO S h_15 r0 3).bind fun _ =>
    (f_X3_next S r0 h_15).bind fun z => match z with
    | (_, h_19) =>
    lt (x4 + (1 : Int32)) fun y_21 =>
    rc r0 y_21 h_19
  else
    (ckO S h_15 r0 3).bind fun _ =>
    (f_X3_kind S r0 h_15).bind fun z => match z with
    | (z_24, h_23) =>
    if z_24 = (285 : Int32) then
      some (.inl (1 : Int32), h_23)
    else
      some (.inl (0 : Int32), h_23)
set_option maxHeartbeats 8000000 in
set_option maxRecDepth 20000 in
theorem s_X3_read_l43_j127 {S : SH} {d cb sb : Nat} {Q : Option Value → AH → Prop} (hd : 84 ≤ d) {K : (Int32 ⊕ Unit) → AH → Prop} (hret : ∀ (w : Int32) (h' : AH), K (.inl w) h' → Q (some (.int w)) h') (hex : ∀  (h' : AH), K (.inr ()) h' → WP S M_X3_read d cb sb Q 187 [JK, JK, JK, JK, JK] [] h') {rc : Nat → Int32 → AH → Option ((Int32 ⊕ Unit) × AH)} (hrec : ∀ (r0 : Nat) (x4 : Int32) (h' : AH), ok (rc r0 x4 h') K → WP S M_X3_read d cb sb Q 43 [.ref r0, JK, JK, JK, .int x4] [] h') {r0 : Nat} {x4 : Int32} {h : AH} (k : ok (f_X3_read_l43_j127 S rc r0 x4 h) K) : WP S M_X3_read d cb sb Q 127 [.ref r0, JK, JK, JK, .int x4] [] h := by
  obtain ⟨d, rfl, he⟩ := dp (L := 83) hd
  unfold f_X3_read_l43_j127 at k
  refine wp_aload_n dX3_read_127 rfl ?_
  refine wp_iconst dX3_read_128 ic_5 ?_
  refine wp_aload_n dX3_read_129 rfl ?_
  replace k := ok_bind k
  obtain ⟨p_1, e_2, k⟩ := k
  refine wq_getR fl_X3_23 (Or.inl ⟨_, rfl⟩) dX3_read_130 e_2 ?_
  replace k := ok_bind k
  obtain ⟨v_3, e_4, k⟩ := k
  refine wq_getI fl_X3_42 (Or.inl rfl) dX3_read_133 e_4 ?_
  replace k := ok_bind k
  obtain ⟨u, e_5, k⟩ := k
  refine wp_callV2 (N := M_X3_setHead) (ci := 3) mf_X3_setHead mi_X3_setHead me_X3_setHead ml_X3_52 dX3_read_136 (ckO_e e_5) mv_X3_setHead (by exact Nat.le_of_ble_eq_true rfl) (c_X3_setHead (Nat.le_trans (by decide) he) (ok_mono (ok_bind2 k) fun _ h_6 k => ?_))
  try dsimp only at k
  refine wp_aload_n dX3_read_139 rfl ?_
  replace k := ok_bind k
  obtain ⟨p_8, e_9, k⟩ := k
  refine wq_getR fl_X3_23 (Or.inl ⟨_, rfl⟩) dX3_read_140 e_9 ?_
  refine wp_dupR dX3_read_143 ?_
  replace k := ok_bind k
  obtain ⟨v_10, e_11, k⟩ := k
  refine wq_getI fl_X3_45 (Or.inl rfl) dX3_read_144 e_11 ?_
  refine wp_iconst dX3_read_147 ic_1 ?_
  refine wp_iadd dX3_read_148 ?_
  replace k := ok_bind k
  obtain ⟨h_12, e_13, k⟩ := k
  refine wq_putI fl_X3_45 rfl rfl dX3_read_149 e_13 ?_
  refine wp_aload_n dX3_read_152 rfl ?_
  replace k := ok_bind k
  obtain ⟨u, e_14, k⟩ := k
  refine wp_callV0 (N := M_X3_kind) (ci := 3) mf_X3_kind mi_X3_kind me_X3_kind ml_X3_48 dX3_read_153 (ckO_e e_14) mv_X3_kind (by exact Nat.le_of_ble_eq_true rfl) (c_X3_kind (Nat.le_trans (by decide) he) (ok_mono (ok_bind2 k) fun z_16 h_15 k => ?_))
  try dsimp only at k
  refine wp_bipush dX3_read_156 bp_59 ?_
  refine wp_icmp_eq 177 dX3_read_158 (by decide) (fun c_17 => ?_) (fun c_17 => ?_)
  · replace k := ok_t c_17 k
    refine wp_aload_n dX3_read_177 rfl ?_
    replace k := ok_bind k
    obtain ⟨u, e_18, k⟩ := k
    refine wp_callV0 (N := M_X3_next) (ci := 3) mf_X3_next mi_X3_next me_X3_next ml_X3_62 dX3_read_178 (ckO_e e_18) mv_X3_next (by exact Nat.le_of_ble_eq_true rfl) (c_X3_next (Nat.le_trans (by decide) he) (ok_mono (ok_bind2 k) fun _ h_19 k => ?_))
    try dsimp only at k
    replace k := ok_lt k
    refine wp_iinc dX3_read_181 rfl ic_1 (by decide) (L1 := [_, _, _, _, _]) rfl ?_
    refine wp_goto 43 dX3_read_184 (by decide) ?_
    exact wp_wk (wkE <| wkJ <| wkJ <| wkJ <| wkE <| wkN) (hrec _ _ _ k)
  · replace k := ok_f c_17 k
    refine wp_aload_n dX3_read_161 rfl ?_
    replace k := ok_bind k
    obtain ⟨u, e_22, k⟩ := k
    refine wp_callV0 (N := M_X3_kind) (ci := 3) mf_X3_kind mi_X3_kind me_X3_kind ml_X3_48 dX3_read_162 (ckO_e e_22) mv_X3_kind (by exact Nat.le_of_ble_eq_true rfl) (c_X3_kind (Nat.le_trans (by decide) he) (ok_mono (ok_bind2 k) fun z_24 h_23 k => ?_))
    try dsimp only at k
    refine wp_sipush dX3_read_165 sp_285 ?_
    refine wp_icmp_ne 175 dX3_read_168 (by decide) (fun c_25 => ?_) (fun c_25 => ?_)
    · replace k := ok_f c_25 k
      refine wp_iconst dX3_read_175 ic_0 ?_
      refine wp_iret rfl rfl dX3_read_176 ?_
      exact hret _ _ (ok_some k)
    · replace k := ok_t c_25 k
      refine wp_iconst dX3_read_171 ic_1 ?_
      refine wp_goto 176 dX3_read_172 (by decide) ?_
      refine wp_iret rfl rfl dX3_read_176 ?_
      exact hret _ _ (ok_some k)
def f_X3_read_l43_j103 (S : SH) (rc : Nat → Int32 → AH → Option ((Int32 ⊕ Unit) × AH)) (r0 : Nat) (x4 : Int32) (h : AH) : Option ((Int32 ⊕ Unit) × AH) :=
  (ckO S h r0 3).bind fun _ =>
  (f_X3_kind S r0 h).bind fun z => match z with
  | (z_3, h_2) =>
  if z_3 = (259 : Int32) then
    (ckO S h_2 r0 3).bind fun _ =>
    (f_X3_next S r0 h_2).bind fun z => match z with
    | (_, h_6) =>
    (ckO S h_6 r0 3).bind fun _ =>
    (f_P S 80 0 r0 (0 : Int32) h_6).bind fun z => match z with
    | (z_10, h_9) =>
    if z_10 = (0 : Int32) then
      some (.inl (0 : Int32), h_9)
    else
      f_X3_read_l43_j127 S rc r0 x4 h_9
  else
    f_X3_read_l43_j127 S rc r0 x4 h_2
set_option maxHeartbeats 8000000 in
set_option maxRecDepth 20000 in
theorem s_X3_read_l43_j103 {S : SH} {d cb sb : Nat} {Q : Option Value → AH → Prop} (hd : 84 ≤ d) {K : (Int32 ⊕ Unit) → AH → Prop} (hret : ∀ (w : Int32) (h' : AH), K (.inl w) h' → Q (some (.int w)) h') (hex : ∀  (h' : AH), K (.inr ()) h' → WP S M_X3_read d cb sb Q 187 [JK, JK, JK, JK, JK] [] h') {rc : Nat → Int32 → AH → Option ((Int32 ⊕ Unit) × AH)} (hrec : ∀ (r0 : Nat) (x4 : Int32) (h' : AH), ok (rc r0 x4 h') K → WP S M_X3_read d cb sb Q 43 [.ref r0, JK, JK, JK, .int x4] [] h') {r0 : Nat} {x4 : Int32} {h : AH} (k : ok (f_X3_read_l43_j103 S rc r0 x4 h) K) : WP S M_X3_read d cb sb Q 103 [.ref r0, JK, JK, JK, .int x4] [] h := by
  obtain ⟨d, rfl, he⟩ := dp (L := 83) hd
  unfold f_X3_read_l43_j103 at k
  refine wp_aload_n dX3_read_103 rfl ?_
  replace k := ok_bind k
  obtain ⟨u, e_1, k⟩ := k
  refine wp_callV0 (N := M_X3_kind) (ci := 3) mf_X3_kind mi_X3_kind me_X3_kind ml_X3_48 dX3_read_104 (ckO_e e_1) mv_X3_kind (by exact Nat.le_of_ble_eq_true rfl) (c_X3_kind (Nat.le_trans (by decide) he) (ok_mono (ok_bind2 k) fun z_3 h_2 k => ?_))
  try dsimp only at k
  refine wp_sipush dX3_read_107 sp_259 ?_
  refine wp_icmp_ne 127 dX3_read_110 (by decide) (fun c_4 => ?_) (fun c_4 => ?_)
  · replace k := ok_f c_4 k
    exact wp_wk (wkE <| wkJ <| wkJ <| wkJ <| wkE <| wkN) (s_X3_read_l43_j127 (Nat.succ_le_succ he) hret hex hrec k)
  · replace k := ok_t c_4 k
    refine wp_aload_n dX3_read_113 rfl ?_
    replace k := ok_bind k
    obtain ⟨u, e_5, k⟩ := k
    refine wp_callV0 (N := M_X3_next) (ci := 3) mf_X3_next mi_X3_next me_X3_next ml_X3_62 dX3_read_114 (ckO_e e_5) mv_X3_next (by exact Nat.le_of_ble_eq_true rfl) (c_X3_next (Nat.le_trans (by decide) he) (ok_mono (ok_bind2 k) fun _ h_6 k => ?_))
    try dsimp only at k
    refine wp_aload_n dX3_read_117 rfl ?_
    refine wp_iconst dX3_read_118 ic_0 ?_
    replace k := ok_bind k
    obtain ⟨u, e_8, k⟩ := k
    refine wp_callV1 (N := M_X3_test) (ci := 3) mf_X3_test mi_X3_test me_X3_test ml_X3_65 dX3_read_119 (ckO_e e_8) mv_X3_test (by exact Nat.le_of_ble_eq_true rfl) (c_X3_test (Nat.le_trans (by decide) he) (ok_mono (ok_bind2 k) fun z_10 h_9 k => ?_))
    try dsimp only at k
    refine wp_if_ne 127 dX3_read_122 (by decide) (fun c_11 => ?_) (fun c_11 => ?_)
    · replace k := ok_f c_11 k
      exact wp_wk (wkE <| wkJ <| wkJ <| wkJ <| wkE <| wkN) (s_X3_read_l43_j127 (Nat.succ_le_succ he) hret hex hrec k)
    · replace k := ok_t c_11 k
      refine wp_iconst dX3_read_125 ic_0 ?_
      refine wp_iret rfl rfl dX3_read_126 ?_
      exact hret _ _ (ok_some k)
def f_X3_read_l43b (S : SH) (rc : Nat → Int32 → AH → Option ((Int32 ⊕ Unit) × AH)) (r0 : Nat) (x4 : Int32) (h : AH) : Option ((Int32 ⊕ Unit) × AH) :=
  if (12 : Int32) ≤ x4 then
    some (.inr (), h)
  else
    (ckO S h r0 3).bind fun _ =>
    (f_X3_kind S r0 h).bind fun z => match z with
    | (z_4, h_3) =>
    (ckO S h_3 r0 3).bind fun _ =>
    (f_X3_setHead S r0 (0 : Int32) z_4 h_3).bind fun z => match z with
    | (_, h_6) =>
    (ckO S h_6 r0 3).bind fun _ =>
    (f_X3_setHead S r0 (1 : Int32) (1 : Int32) h_6).bind fun z => match z with
    | (_, h_9) =>
    (gR S h_9 r0 3 1).bind fun p_11 =>
    (gI S h_9 p_11 8 2).bind fun v_13 =>
    (ckO S h_9 r0 3).bind fun _ =>
    (f_X3_setHead S r0 (2 : Int32) v_13 h_9).bind fun z => match z with
    | (_, h_16) =>
    (gI S h_16 r0 3 2).bind fun v_18 =>
    if v_18 = (0 : Int32) then
      (ckO S h_16 r0 3).bind fun _ =>
      (f_X3_orderClause S r0 h_16).bind fun z => match z with
      | (z_23, h_22) =>
      if z_23 = (0 : Int32) then
        some (.inl (0 : Int32), h_22)
      else
        f_X3_read_l43_j103 S rc r0 x4 h_22
    else
      (ckO S h_16 r0 3).bind fun _ =>
      (f_X3_lawClause S r0 h_16).bind fun z => match z with
      | (z_27, h_26) =>
      if z_27 = (0 : Int32) then
        some (.inl (0 : Int32), h_26)
      else
        f_X3_read_l43_j103 S rc r0 x4 h_26
set_option maxHeartbeats 8000000 in
set_option maxRecDepth 20000 in
theorem s_X3_read_l43b {S : SH} {d cb sb : Nat} {Q : Option Value → AH → Prop} (hd : 84 ≤ d) {K : (Int32 ⊕ Unit) → AH → Prop} (hret : ∀ (w : Int32) (h' : AH), K (.inl w) h' → Q (some (.int w)) h') (hex : ∀  (h' : AH), K (.inr ()) h' → WP S M_X3_read d cb sb Q 187 [JK, JK, JK, JK, JK] [] h') {rc : Nat → Int32 → AH → Option ((Int32 ⊕ Unit) × AH)} (hrec : ∀ (r0 : Nat) (x4 : Int32) (h' : AH), ok (rc r0 x4 h') K → WP S M_X3_read d cb sb Q 43 [.ref r0, JK, JK, JK, .int x4] [] h') {r0 : Nat} {x4 : Int32} {h : AH} (k : ok (f_X3_read_l43b S rc r0 x4 h) K) : WP S M_X3_read d cb sb Q 43 [.ref r0, JK, JK, JK, .int x4] [] h := by
  obtain ⟨d, rfl, he⟩ := dp (L := 83) hd
  unfold f_X3_read_l43b at k
  refine wp_iload dX3_read_43 rfl ?_
  refine wp_bipush dX3_read_45 bp_12 ?_
  refine wp_icmp_ge 187 dX3_read_47 (by decide) (fun c_1 => ?_) (fun c_1 => ?_)
  · replace k := ok_t c_1 k
    exact wp_wk (wkJ <| wkJ <| wkJ <| wkJ <| wkJ <| wkN) (hex  _ (ok_some k))
  · replace k := ok_f c_1 k
    refine wp_aload_n dX3_read_50 rfl ?_
    refine wp_iconst dX3_read_51 ic_0 ?_
    refine wp_aload_n dX3_read_52 rfl ?_
    replace k := ok_bind k
    obtain ⟨u, e_2, k⟩ := k
    refine wp_callV0 (N := M_X3_kind) (ci := 3) mf_X3_kind mi_X3_kind me_X3_kind ml_X3_48 dX3_read_53 (ckO_e e_2) mv_X3_kind (by exact Nat.le_of_ble_eq_true rfl) (c_X3_kind (Nat.le_trans (by decide) he) (ok_mono (ok_bind2 k) fun z_4 h_3 k => ?_))
    try dsimp only at k
    replace k := ok_bind k
    obtain ⟨u, e_5, k⟩ := k
    refine wp_callV2 (N := M_X3_setHead) (ci := 3) mf_X3_setHead mi_X3_setHead me_X3_setHead ml_X3_52 dX3_read_56 (ckO_e e_5) mv_X3_setHead (by exact Nat.le_of_ble_eq_true rfl) (c_X3_setHead (Nat.le_trans (by decide) he) (ok_mono (ok_bind2 k) fun _ h_6 k => ?_))
    try dsimp only at k
    refine wp_aload_n dX3_read_59 rfl ?_
    refine wp_iconst dX3_read_60 ic_1 ?_
    refine wp_iconst dX3_read_61 ic_1 ?_
    replace k := ok_bind k
    obtain ⟨u, e_8, k⟩ := k
    refine wp_callV2 (N := M_X3_setHead) (ci := 3) mf_X3_setHead mi_X3_setHead me_X3_setHead ml_X3_52 dX3_read_62 (ckO_e e_8) mv_X3_setHead (by exact Nat.le_of_ble_eq_true rfl) (c_X3_setHead (Nat.le_trans (by decide) he) (ok_mono (ok_bind2 k) fun _ h_9 k => ?_))
    try dsimp only at k
    refine wp_aload_n dX3_read_65 rfl ?_
    refine wp_iconst dX3_read_66 ic_2 ?_
    refine wp_aload_n dX3_read_67 rfl ?_
    replace k := ok_bind k
    obtain ⟨p_11, e_12, k⟩ := k
    refine wq_getR fl_X3_23 (Or.inl ⟨_, rfl⟩) dX3_read_68 e_12 ?_
    replace k := ok_bind k
    obtain ⟨v_13, e_14, k⟩ := k
    refine wq_getI fl_X3_42 (Or.inl rfl) dX3_read_71 e_14 ?_
    replace k := ok_bind k
    obtain ⟨u, e_15, k⟩ := k
    refine wp_callV2 (N := M_X3_setHead) (ci := 3) mf_X3_setHead mi_X3_setHead me_X3_setHead ml_X3_52 dX3_read_74 (ckO_e e_15) mv_X3_setHead (by exact Nat.le_of_ble_eq_true rfl) (c_X3_setHead (Nat.le_trans (by decide) he) (ok_mono (ok_bind2 k) fun _ h_16 k => ?_))
    try dsimp only at k
    refine wp_aload_n dX3_read_77 rfl ?_
    replace k := ok_bind k
    obtain ⟨v_18, e_19, k⟩ := k
    refine wq_getI fl_X3_31 (Or.inr rfl) dX3_read_78 e_19 ?_
    refine wp_if_eq 94 dX3_read_81 (by decide) (fun c_20 => ?_) (fun c_20 => ?_)
    · replace k := ok_t c_20 k
      refine wp_aload_n dX3_read_94 rfl ?_
      replace k := ok_bind k
      obtain ⟨u, e_21, k⟩ := k
      refine wp_callV0 (N := M_X3_orderClause) (ci := 3) mf_X3_orderClause mi_X3_orderClause me_X3_orderClause ml_X3_59 dX3_read_95 (ckO_e e_21) mv_X3_orderClause (by exact Nat.le_of_ble_eq_true rfl) (c_X3_orderClause (Nat.le_trans (by decide) he) (ok_mono (ok_bind2 k) fun z_23 h_22 k => ?_))
      try dsimp only at k
      refine wp_if_ne 103 dX3_read_98 (by decide) (fun c_24 => ?_) (fun c_24 => ?_)
      · replace k := ok_f c_24 k
        exact wp_wk (wkE <| wkJ <| wkJ <| wkJ <| wkE <| wkN) (s_X3_read_l43_j103 (Nat.succ_le_succ he) hret hex hrec k)
      · replace k := ok_t c_24 k
        refine wp_iconst dX3_read_101 ic_0 ?_
        refine wp_iret rfl rfl dX3_read_102 ?_
        exact hret _ _ (ok_some k)
    · replace k := ok_f c_20 k
      refine wp_aload_n dX3_read_84 rfl ?_
      replace k := ok_bind k
      obtain ⟨u, e_25, k⟩ := k
      refine wp_callV0 (N := M_X3_lawClause) (ci := 3) mf_X3_lawClause mi_X3_lawClause me_X3_lawClause ml_X3_55 dX3_read_85 (ckO_e e_25) mv_X3_lawClause (by exact Nat.le_of_ble_eq_true rfl) (c_X3_lawClause (Nat.le_trans (by decide) he) (ok_mono (ok_bind2 k) fun z_27 h_26 k => ?_))
      try dsimp only at k
      refine wp_if_eq 101 dX3_read_88 (by decide) (fun c_28 => ?_) (fun c_28 => ?_)
      · replace k := ok_t c_28 k
        refine wp_iconst dX3_read_101 ic_0 ?_
        refine wp_iret rfl rfl dX3_read_102 ?_
        exact hret _ _ (ok_some k)
      · replace k := ok_f c_28 k
        refine wp_goto 103 dX3_read_91 (by decide) ?_
        exact wp_wk (wkE <| wkJ <| wkJ <| wkJ <| wkE <| wkN) (s_X3_read_l43_j103 (Nat.succ_le_succ he) hret hex hrec k)
def f_X3_read_l43 (S : SH) : Nat → Nat → Int32 → AH → Option ((Int32 ⊕ Unit) × AH)
  | 0, _, _, _ => none
  | n + 1, r0, x4, h => f_X3_read_l43b S (f_X3_read_l43 S n) r0 x4 h
theorem s_X3_read_l43 {S : SH} {d cb sb : Nat} {Q : Option Value → AH → Prop} (hd : 84 ≤ d) {K : (Int32 ⊕ Unit) → AH → Prop} (hret : ∀ (w : Int32) (h' : AH), K (.inl w) h' → Q (some (.int w)) h') (hex : ∀  (h' : AH), K (.inr ()) h' → WP S M_X3_read d cb sb Q 187 [JK, JK, JK, JK, JK] [] h') : ∀ (n : Nat) (r0 : Nat) (x4 : Int32) (h : AH), ok (f_X3_read_l43 S n r0 x4 h) K → WP S M_X3_read d cb sb Q 43 [.ref r0, JK, JK, JK, .int x4] [] h := by
  intro n
  induction n with
  | zero => intro r0 x4 h k; exact ok_none k
  | succ n ih => intro r0 x4 h k; exact s_X3_read_l43b hd hret hex (fun r0 x4 h k => ih r0 x4 h k) k
def f_X3_read (S : SH) (r0 : Nat) (r1 : Nat) (x2 : Int32) (x3 : Int32) (h : AH) : Option (Int32 × AH) :=
  (gR S h r0 3 0).bind fun p_1 =>
  (ckO S h p_1 9).bind fun _ =>
  (f_X9_cut S p_1 r1 x2 h).bind fun z => match z with
  | (_, h_4) =>
  (pZ S h_4 r0 3 2 x3).bind fun h_6 =>
  (pI S h_6 r0 3 3 (0 : Int32)).bind fun h_8 =>
  (pI S h_8 r0 3 4 (0 : Int32)).bind fun h_10 =>
  (gR S h_10 r0 3 1).bind fun p_12 =>
  (pI S h_10 p_12 8 2 (0 : Int32)).bind fun h_14 =>
  (gR S h_14 r0 3 1).bind fun p_16 =>
  (pI S h_14 p_16 8 3 (0 : Int32)).bind fun h_18 =>
  (f_X3_read_l43 S FU r0 (0 : Int32) h_18).bind fun z => match z with
  | (.inl w, h') => some (w, h')
  | (.inr (), h_20) =>
    some ((0 : Int32), h_20)
set_option maxHeartbeats 8000000 in
set_option maxRecDepth 20000 in
theorem s_X3_read {S : SH} {d cb sb : Nat} {Q : Option Value → AH → Prop} (hd : 84 ≤ d)  {r0 : Nat} {r1 : Nat} {x2 : Int32} {x3 : Int32} {h : AH} (k : ok (f_X3_read S r0 r1 x2 x3 h) (fun w h' => Q (some (.int w)) h')) : WP S M_X3_read d cb sb Q 0 [.ref r0, .ref r1, .int x2, .int x3, JK] [] h := by
  obtain ⟨d, rfl, he⟩ := dp (L := 83) hd
  unfold f_X3_read at k
  refine wp_aload_n dX3_read_0 rfl ?_
  replace k := ok_bind k
  obtain ⟨p_1, e_2, k⟩ := k
  refine wq_getR fl_X3_12 (Or.inl ⟨_, rfl⟩) dX3_read_1 e_2 ?_
  refine wp_aload_n dX3_read_4 rfl ?_
  refine wp_iload_n dX3_read_5 rfl ?_
  replace k := ok_bind k
  obtain ⟨u, e_3, k⟩ := k
  refine wp_callV2 (N := M_X9_cut) (ci := 9) mf_X9_cut mi_X9_cut me_X9_cut ml_X3_27 dX3_read_6 (ckO_e e_3) mv_X9_cut (by exact Nat.le_of_ble_eq_true rfl) (c_X9_cut (Nat.le_trans (by decide) he) (ok_mono (ok_bind2 k) fun _ h_4 k => ?_))
  try dsimp only at k
  refine wp_aload_n dX3_read_9 rfl ?_
  refine wp_iload_n dX3_read_10 rfl ?_
  replace k := ok_bind k
  obtain ⟨h_6, e_7, k⟩ := k
  refine wq_putZ fl_X3_31 rfl rfl dX3_read_11 e_7 ?_
  refine wp_aload_n dX3_read_14 rfl ?_
  refine wp_iconst dX3_read_15 ic_0 ?_
  replace k := ok_bind k
  obtain ⟨h_8, e_9, k⟩ := k
  refine wq_putI fl_X3_35 rfl rfl dX3_read_16 e_9 ?_
  refine wp_aload_n dX3_read_19 rfl ?_
  refine wp_iconst dX3_read_20 ic_0 ?_
  replace k := ok_bind k
  obtain ⟨h_10, e_11, k⟩ := k
  refine wq_putI fl_X3_39 rfl rfl dX3_read_21 e_11 ?_
  refine wp_aload_n dX3_read_24 rfl ?_
  replace k := ok_bind k
  obtain ⟨p_12, e_13, k⟩ := k
  refine wq_getR fl_X3_23 (Or.inl ⟨_, rfl⟩) dX3_read_25 e_13 ?_
  refine wp_iconst dX3_read_28 ic_0 ?_
  replace k := ok_bind k
  obtain ⟨h_14, e_15, k⟩ := k
  refine wq_putI fl_X3_42 rfl rfl dX3_read_29 e_15 ?_
  refine wp_aload_n dX3_read_32 rfl ?_
  replace k := ok_bind k
  obtain ⟨p_16, e_17, k⟩ := k
  refine wq_getR fl_X3_23 (Or.inl ⟨_, rfl⟩) dX3_read_33 e_17 ?_
  refine wp_iconst dX3_read_36 ic_0 ?_
  replace k := ok_bind k
  obtain ⟨h_18, e_19, k⟩ := k
  refine wq_putI fl_X3_45 rfl rfl dX3_read_37 e_19 ?_
  refine wp_iconst dX3_read_40 ic_0 ?_
  refine wp_istore dX3_read_41 (by decide) (L1 := [_, _, _, _, _]) rfl ?_
  refine wp_wk (wkE <| wkJ <| wkJ <| wkJ <| wkE <| wkN) ?_
  refine s_X3_read_l43 (Nat.succ_le_succ he) (fun w h' k => ?_) (fun  h_20 k => ?_) FU _ _ _ (ok_bind2 k)
  · try dsimp only at k
    exact (ok_some k :)
  · try dsimp only at k
    refine wp_iconst dX3_read_187 ic_0 ?_
    refine wp_iret rfl rfl dX3_read_188 ?_
    exact (ok_some k :)
theorem c_X3_read {S : SH} {d : Nat} {K : Option Value → AH → Prop} (hd : 84 ≤ d)  {r0 : Nat} {r1 : Nat} {x2 : Int32} {x3 : Int32} {h : AH} (k : ok (f_X3_read S r0 r1 x2 x3 h) (fun w h' => K (some (.int w)) h')) : CP S M_X3_read d 0 0 [.ref r0, .ref r1, .int x2, .int x3] h K := cp_of (by decide) (fun _ _ => trivial) (fun _ => Nat.le_of_ble_eq_true rfl) (s_X3_read hd  k)
def f_X4_init (S : SH) (r0 : Nat) (h : AH) : Option (Unit × AH) :=
  (nwA S h 1 (25 : Int32) 25).bind fun z => match z with
  | (p_3, h_1) =>
  (pR S h_1 r0 4 0 p_3).bind fun h_4 =>
  (nwA S h_4 2 (52 : Int32) 52).bind fun z => match z with
  | (p_8, h_6) =>
  (pR S h_6 r0 4 1 p_8).bind fun h_9 =>
  some ((), h_9)
set_option maxHeartbeats 8000000 in
set_option maxRecDepth 20000 in
theorem s_X4_init {S : SH} {d cb sb : Nat} {Q : Option Value → AH → Prop} (hd : 1 ≤ d)  {r0 : Nat} {h : AH} (k : ok (f_X4_init S r0 h) (fun _ h' => Q none h')) : WP S M_X4_init d (cb + 2) (sb + 77) Q 0 [.ref r0] [] h := by
  obtain ⟨d, rfl, he⟩ := dp (L := 0) hd
  unfold f_X4_init at k
  refine wp_aload_n dX4_init_0 rfl ?_
  refine wp_objInit ml_X4_3 oin oco (by exact Nat.le_of_ble_eq_true rfl) dX4_init_1 ?_
  refine wp_aload_n dX4_init_4 rfl ?_
  refine wp_bipush dX4_init_5 bp_25 ?_
  replace k := ok_bind k
  obtain ⟨⟨p_3, h_1⟩, e_2, k⟩ := k
  try dsimp only at k
  refine wq_newaI (cb := (cb + 1)) (sb := (sb + 52)) (mx := 25) ac_int (by decide) dX4_init_7 e_2 ?_
  replace k := ok_bind k
  obtain ⟨h_4, e_5, k⟩ := k
  refine wq_putR fl_X4_9 (Or.inr ⟨rfl, fun _ _ _ z => by cases z; rfl⟩) (Or.inr ⟨_, rfl⟩) dX4_init_9 e_5 ?_
  refine wp_aload_n dX4_init_12 rfl ?_
  refine wp_bipush dX4_init_13 bp_52 ?_
  replace k := ok_bind k
  obtain ⟨⟨p_8, h_6⟩, e_7, k⟩ := k
  try dsimp only at k
  refine wq_newaJ (cb := cb) (sb := sb) (mx := 52) ac_long (by decide) dX4_init_15 e_7 ?_
  replace k := ok_bind k
  obtain ⟨h_9, e_10, k⟩ := k
  refine wq_putR fl_X4_15 (Or.inr ⟨rfl, fun _ _ _ z => by cases z; rfl⟩) (Or.inr ⟨_, rfl⟩) dX4_init_17 e_10 ?_
  refine wp_vret rfl dX4_init_20 ?_
  exact (ok_some k :)
theorem c_X4_init {S : SH} {d : Nat} {K : Option Value → AH → Prop} (hd : 1 ≤ d)  {r0 : Nat} {h : AH} (k : ok (f_X4_init S r0 h) (fun _ h' => K none h')) : CP S M_X4_init d 2 77 [.ref r0] h K := cp_of (by decide) (fun _ _ => trivial) (fun _ => Nat.le_of_ble_eq_true rfl) (s_X4_init (cb := 0) (sb := 0) hd  k)
def f_X5_init (S : SH) (r0 : Nat) (h : AH) : Option (Unit × AH) :=
  (nwA S h 1 (255 : Int32) 255).bind fun z => match z with
  | (p_3, h_1) =>
  (pR S h_1 r0 5 0 p_3).bind fun h_4 =>
  (nwA S h_4 1 (17 : Int32) 17).bind fun z => match z with
  | (p_8, h_6) =>
  (pR S h_6 r0 5 1 p_8).bind fun h_9 =>
  some ((), h_9)
set_option maxHeartbeats 8000000 in
set_option maxRecDepth 20000 in
theorem s_X5_init {S : SH} {d cb sb : Nat} {Q : Option Value → AH → Prop} (hd : 1 ≤ d)  {r0 : Nat} {h : AH} (k : ok (f_X5_init S r0 h) (fun _ h' => Q none h')) : WP S M_X5_init d (cb + 2) (sb + 272) Q 0 [.ref r0] [] h := by
  obtain ⟨d, rfl, he⟩ := dp (L := 0) hd
  unfold f_X5_init at k
  refine wp_aload_n dX5_init_0 rfl ?_
  refine wp_objInit ml_X5_5 oin oco (by exact Nat.le_of_ble_eq_true rfl) dX5_init_1 ?_
  refine wp_aload_n dX5_init_4 rfl ?_
  refine wp_sipush dX5_init_5 sp_255 ?_
  replace k := ok_bind k
  obtain ⟨⟨p_3, h_1⟩, e_2, k⟩ := k
  try dsimp only at k
  refine wq_newaI (cb := (cb + 1)) (sb := (sb + 17)) (mx := 255) ac_int (by decide) dX5_init_8 e_2 ?_
  replace k := ok_bind k
  obtain ⟨h_4, e_5, k⟩ := k
  refine wq_putR fl_X5_13 (Or.inr ⟨rfl, fun _ _ _ z => by cases z; rfl⟩) (Or.inr ⟨_, rfl⟩) dX5_init_10 e_5 ?_
  refine wp_aload_n dX5_init_13 rfl ?_
  refine wp_bipush dX5_init_14 bp_17 ?_
  replace k := ok_bind k
  obtain ⟨⟨p_8, h_6⟩, e_7, k⟩ := k
  try dsimp only at k
  refine wq_newaI (cb := cb) (sb := sb) (mx := 17) ac_int (by decide) dX5_init_16 e_7 ?_
  replace k := ok_bind k
  obtain ⟨h_9, e_10, k⟩ := k
  refine wq_putR fl_X5_17 (Or.inr ⟨rfl, fun _ _ _ z => by cases z; rfl⟩) (Or.inr ⟨_, rfl⟩) dX5_init_18 e_10 ?_
  refine wp_vret rfl dX5_init_21 ?_
  exact (ok_some k :)
theorem c_X5_init {S : SH} {d : Nat} {K : Option Value → AH → Prop} (hd : 1 ≤ d)  {r0 : Nat} {h : AH} (k : ok (f_X5_init S r0 h) (fun _ h' => K none h')) : CP S M_X5_init d 2 272 [.ref r0] h K := cp_of (by decide) (fun _ _ => trivial) (fun _ => Nat.le_of_ble_eq_true rfl) (s_X5_init (cb := 0) (sb := 0) hd  k)
def f_X6_init (S : SH) (r0 : Nat) (h : AH) : Option (Unit × AH) :=
  (nwO S h (0, 7)).bind fun z => match z with
  | (p_3, h_1) =>
  (f_X7_init S p_3 h_1).bind fun z => match z with
  | (_, h_4) =>
  (pR S h_4 r0 6 0 p_3).bind fun h_6 =>
  (nwA S h_6 1 (7 : Int32) 7).bind fun z => match z with
  | (p_10, h_8) =>
  (pR S h_8 r0 6 2 p_10).bind fun h_11 =>
  (nwA S h_11 1 (42 : Int32) 42).bind fun z => match z with
  | (p_15, h_13) =>
  (pR S h_13 r0 6 3 p_15).bind fun h_16 =>
  (nwA S h_16 1 (6 : Int32) 6).bind fun z => match z with
  | (p_20, h_18) =>
  (pR S h_18 r0 6 5 p_20).bind fun h_21 =>
  (nwA S h_21 1 (6 : Int32) 6).bind fun z => match z with
  | (p_25, h_23) =>
  (pR S h_23 r0 6 6 p_25).bind fun h_26 =>
  (pI S h_26 r0 6 7 (1 : Int32)).bind fun h_28 =>
  (pI S h_28 r0 6 9 (1 : Int32)).bind fun h_30 =>
  (nwA S h_30 1 (6 : Int32) 6).bind fun z => match z with
  | (p_34, h_32) =>
  (pR S h_32 r0 6 11 p_34).bind fun h_35 =>
  (nwA S h_35 5 (6 : Int32) 6).bind fun z => match z with
  | (p_39, h_37) =>
  (pR S h_37 r0 6 13 p_39).bind fun h_40 =>
  (nwO S h_40 (0, 8)).bind fun z => match z with
  | (p_44, h_42) =>
  (f_X8_init S p_44 (0 : Int32) (0 : Int32) h_42).bind fun z => match z with
  | (_, h_45) =>
  (pR S h_45 r0 6 14 p_44).bind fun h_47 =>
  (pI S h_47 r0 6 15 (-1 : Int32)).bind fun h_49 =>
  some ((), h_49)
set_option maxHeartbeats 8000000 in
set_option maxRecDepth 20000 in
theorem s_X6_init {S : SH} {d cb sb : Nat} {Q : Option Value → AH → Prop} (hd : 2 ≤ d)  {r0 : Nat} {h : AH} (k : ok (f_X6_init S r0 h) (fun _ h' => Q none h')) : WP S M_X6_init d (cb + 12) (sb + 566) Q 0 [.ref r0] [] h := by
  obtain ⟨d, rfl, he⟩ := dp (L := 1) hd
  unfold f_X6_init at k
  refine wp_aload_n dX6_init_0 rfl ?_
  refine wp_objInit ml_X6_3 oin oco (by exact Nat.le_of_ble_eq_true rfl) dX6_init_1 ?_
  refine wp_aload_n dX6_init_4 rfl ?_
  replace k := ok_bind k
  obtain ⟨⟨p_3, h_1⟩, e_2, k⟩ := k
  try dsimp only at k
  refine wq_new (cb := (cb + 11)) (sb := (sb + 562)) nw_X6_9 (n := 4) rfl dX6_init_5 e_2 ?_
  refine wp_dupR dX6_init_8 ?_
  refine wp_callIN0 (N := M_X7_init) (cb := (cb + 9)) (sb := (sb + 549)) (host := RX10) mf_X7_init rfl mi_X7_init rfl (List.mem_of_getElem? (i := 1) rfl) dX6_init_9 (by exact Nat.le_of_ble_eq_true rfl) (c_X7_init (Nat.le_trans (by decide) he) (ok_mono (ok_bind2 k) fun _ h_4 k => ?_))
  try dsimp only at k
  replace k := ok_bind k
  obtain ⟨h_6, e_7, k⟩ := k
  refine wq_putR fl_X6_12 (Or.inr ⟨rfl, fun _ _ _ z => by cases z; rfl⟩) (Or.inl ⟨_, rfl⟩) dX6_init_12 e_7 ?_
  refine wp_aload_n dX6_init_15 rfl ?_
  refine wp_bipush dX6_init_16 bp_7 ?_
  replace k := ok_bind k
  obtain ⟨⟨p_10, h_8⟩, e_9, k⟩ := k
  try dsimp only at k
  refine wq_newaI (cb := (cb + 8)) (sb := (sb + 542)) (mx := 7) ac_int (by decide) dX6_init_18 e_9 ?_
  replace k := ok_bind k
  obtain ⟨h_11, e_12, k⟩ := k
  refine wq_putR fl_X6_18 (Or.inr ⟨rfl, fun _ _ _ z => by cases z; rfl⟩) (Or.inr ⟨_, rfl⟩) dX6_init_20 e_12 ?_
  refine wp_aload_n dX6_init_23 rfl ?_
  refine wp_bipush dX6_init_24 bp_42 ?_
  replace k := ok_bind k
  obtain ⟨⟨p_15, h_13⟩, e_14, k⟩ := k
  try dsimp only at k
  refine wq_newaI (cb := (cb + 7)) (sb := (sb + 500)) (mx := 42) ac_int (by decide) dX6_init_26 e_14 ?_
  replace k := ok_bind k
  obtain ⟨h_16, e_17, k⟩ := k
  refine wq_putR fl_X6_22 (Or.inr ⟨rfl, fun _ _ _ z => by cases z; rfl⟩) (Or.inr ⟨_, rfl⟩) dX6_init_28 e_17 ?_
  refine wp_aload_n dX6_init_31 rfl ?_
  refine wp_bipush dX6_init_32 bp_6 ?_
  replace k := ok_bind k
  obtain ⟨⟨p_20, h_18⟩, e_19, k⟩ := k
  try dsimp only at k
  refine wq_newaI (cb := (cb + 6)) (sb := (sb + 494)) (mx := 6) ac_int (by decide) dX6_init_34 e_19 ?_
  replace k := ok_bind k
  obtain ⟨h_21, e_22, k⟩ := k
  refine wq_putR fl_X6_25 (Or.inr ⟨rfl, fun _ _ _ z => by cases z; rfl⟩) (Or.inr ⟨_, rfl⟩) dX6_init_36 e_22 ?_
  refine wp_aload_n dX6_init_39 rfl ?_
  refine wp_bipush dX6_init_40 bp_6 ?_
  replace k := ok_bind k
  obtain ⟨⟨p_25, h_23⟩, e_24, k⟩ := k
  try dsimp only at k
  refine wq_newaI (cb := (cb + 5)) (sb := (sb + 488)) (mx := 6) ac_int (by decide) dX6_init_42 e_24 ?_
  replace k := ok_bind k
  obtain ⟨h_26, e_27, k⟩ := k
  refine wq_putR fl_X6_28 (Or.inr ⟨rfl, fun _ _ _ z => by cases z; rfl⟩) (Or.inr ⟨_, rfl⟩) dX6_init_44 e_27 ?_
  refine wp_aload_n dX6_init_47 rfl ?_
  refine wp_iconst dX6_init_48 ic_1 ?_
  replace k := ok_bind k
  obtain ⟨h_28, e_29, k⟩ := k
  refine wq_putI fl_X6_31 rfl rfl dX6_init_49 e_29 ?_
  refine wp_aload_n dX6_init_52 rfl ?_
  refine wp_iconst dX6_init_53 ic_1 ?_
  replace k := ok_bind k
  obtain ⟨h_30, e_31, k⟩ := k
  refine wq_putI fl_X6_35 rfl rfl dX6_init_54 e_31 ?_
  refine wp_aload_n dX6_init_57 rfl ?_
  refine wp_bipush dX6_init_58 bp_6 ?_
  replace k := ok_bind k
  obtain ⟨⟨p_34, h_32⟩, e_33, k⟩ := k
  try dsimp only at k
  refine wq_newaI (cb := (cb + 4)) (sb := (sb + 482)) (mx := 6) ac_int (by decide) dX6_init_60 e_33 ?_
  replace k := ok_bind k
  obtain ⟨h_35, e_36, k⟩ := k
  refine wq_putR fl_X6_38 (Or.inr ⟨rfl, fun _ _ _ z => by cases z; rfl⟩) (Or.inr ⟨_, rfl⟩) dX6_init_62 e_36 ?_
  refine wp_aload_n dX6_init_65 rfl ?_
  refine wp_bipush dX6_init_66 bp_6 ?_
  replace k := ok_bind k
  obtain ⟨⟨p_39, h_37⟩, e_38, k⟩ := k
  try dsimp only at k
  refine wq_newaB (cb := (cb + 3)) (sb := (sb + 476)) (mx := 6) cl_X6_41 (by decide) dX6_init_68 e_38 ?_
  replace k := ok_bind k
  obtain ⟨h_40, e_41, k⟩ := k
  refine wq_putR fl_X6_43 (Or.inr ⟨rfl, fun _ _ _ z => by cases z; rfl⟩) (Or.inr ⟨_, rfl⟩) dX6_init_71 e_41 ?_
  refine wp_aload_n dX6_init_74 rfl ?_
  replace k := ok_bind k
  obtain ⟨⟨p_44, h_42⟩, e_43, k⟩ := k
  try dsimp only at k
  refine wq_new (cb := (cb + 2)) (sb := (sb + 472)) nw_X6_41 (n := 4) rfl dX6_init_75 e_43 ?_
  refine wp_dupR dX6_init_78 ?_
  refine wp_iconst dX6_init_79 ic_0 ?_
  refine wp_iconst dX6_init_80 ic_0 ?_
  refine wp_callI2 (N := M_X8_init) (cb := cb) (sb := sb) mf_X8_init rfl mi_X8_init rfl ml_X6_47 dX6_init_81 (by exact Nat.le_of_ble_eq_true rfl) (c_X8_init (Nat.le_trans (by decide) he) (ok_mono (ok_bind2 k) fun _ h_45 k => ?_))
  try dsimp only at k
  replace k := ok_bind k
  obtain ⟨h_47, e_48, k⟩ := k
  refine wq_putR fl_X6_50 (Or.inr ⟨rfl, fun _ _ _ z => by cases z; rfl⟩) (Or.inl ⟨_, rfl⟩) dX6_init_84 e_48 ?_
  refine wp_aload_n dX6_init_87 rfl ?_
  refine wp_iconst dX6_init_88 ic_m1 ?_
  replace k := ok_bind k
  obtain ⟨h_49, e_50, k⟩ := k
  refine wq_putI fl_X6_54 rfl rfl dX6_init_89 e_50 ?_
  refine wp_vret rfl dX6_init_92 ?_
  exact (ok_some k :)
theorem c_X6_init {S : SH} {d : Nat} {K : Option Value → AH → Prop} (hd : 2 ≤ d)  {r0 : Nat} {h : AH} (k : ok (f_X6_init S r0 h) (fun _ h' => K none h')) : CP S M_X6_init d 12 566 [.ref r0] h K := cp_of (by decide) (fun _ _ => trivial) (fun _ => Nat.le_of_ble_eq_true rfl) (s_X6_init (cb := 0) (sb := 0) hd  k)
def f_X8_copied (S : SH) (r0 : Nat) (h : AH) : Option (Nat × AH) :=
  (nwO S h (0, 8)).bind fun z => match z with
  | (p_3, h_1) =>
  (gI S h_1 r0 8 2).bind fun v_4 =>
  (gI S h_1 r0 8 3).bind fun v_6 =>
  (f_X8_init S p_3 v_4 v_6 h_1).bind fun z => match z with
  | (_, h_8) =>
  (gR S h_8 r0 8 0).bind fun p_10 =>
  (gR S h_8 p_3 8 0).bind fun p_12 =>
  (gR S h_8 p_3 8 0).bind fun p_14 =>
  (lnA S h_8 p_14).bind fun v_16 =>
  (cpI S h_8 p_10 (0 : Int32) p_12 (0 : Int32) v_16).bind fun h_18 =>
  (gR S h_18 r0 8 1).bind fun p_20 =>
  (gR S h_18 p_3 8 1).bind fun p_22 =>
  (gR S h_18 p_3 8 1).bind fun p_24 =>
  (lnA S h_18 p_24).bind fun v_26 =>
  (cpI S h_18 p_20 (0 : Int32) p_22 (0 : Int32) v_26).bind fun h_28 =>
  (gI S h_28 r0 8 2).bind fun v_30 =>
  (pI S h_28 p_3 8 2 v_30).bind fun h_32 =>
  (gI S h_32 r0 8 3).bind fun v_34 =>
  (pI S h_32 p_3 8 3 v_34).bind fun h_36 =>
  some (p_3, h_36)
set_option maxHeartbeats 8000000 in
set_option maxRecDepth 20000 in
theorem s_X8_copied {S : SH} {d cb sb : Nat} {Q : Option Value → AH → Prop} (hd : 2 ≤ d)  {r0 : Nat} {h : AH} (k : ok (f_X8_copied S r0 h) (fun w h' => Q (some (.ref w)) h')) : WP S M_X8_copied d (cb + 3) (sb + 476) Q 0 [.ref r0, JK] [] h := by
  obtain ⟨d, rfl, he⟩ := dp (L := 1) hd
  unfold f_X8_copied at k
  replace k := ok_bind k
  obtain ⟨⟨p_3, h_1⟩, e_2, k⟩ := k
  try dsimp only at k
  refine wq_new (cb := (cb + 2)) (sb := (sb + 472)) nw_X8_16 (n := 4) rfl dX8_copied_0 e_2 ?_
  refine wp_dupR dX8_copied_3 ?_
  refine wp_aload_n dX8_copied_4 rfl ?_
  replace k := ok_bind k
  obtain ⟨v_4, e_5, k⟩ := k
  refine wq_getI fl_X8_24 (Or.inl rfl) dX8_copied_5 e_5 ?_
  refine wp_aload_n dX8_copied_8 rfl ?_
  replace k := ok_bind k
  obtain ⟨v_6, e_7, k⟩ := k
  refine wq_getI fl_X8_28 (Or.inl rfl) dX8_copied_9 e_7 ?_
  refine wp_callI2 (N := M_X8_init) (cb := cb) (sb := sb) mf_X8_init rfl mi_X8_init rfl ml_X8_31 dX8_copied_12 (by exact Nat.le_of_ble_eq_true rfl) (c_X8_init (Nat.le_trans (by decide) he) (ok_mono (ok_bind2 k) fun _ h_8 k => ?_))
  try dsimp only at k
  refine wp_astore_n dX8_copied_15 (by decide) (L1 := [_, _]) rfl ?_
  refine wp_aload_n dX8_copied_16 rfl ?_
  replace k := ok_bind k
  obtain ⟨p_10, e_11, k⟩ := k
  refine wq_getR fl_X8_15 (Or.inr ⟨_, rfl⟩) dX8_copied_17 e_11 ?_
  refine wp_iconst dX8_copied_20 ic_0 ?_
  refine wp_aload_n dX8_copied_21 rfl ?_
  replace k := ok_bind k
  obtain ⟨p_12, e_13, k⟩ := k
  refine wq_getR fl_X8_15 (Or.inr ⟨_, rfl⟩) dX8_copied_22 e_13 ?_
  refine wp_iconst dX8_copied_25 ic_0 ?_
  refine wp_aload_n dX8_copied_26 rfl ?_
  replace k := ok_bind k
  obtain ⟨p_14, e_15, k⟩ := k
  refine wq_getR fl_X8_15 (Or.inr ⟨_, rfl⟩) dX8_copied_27 e_15 ?_
  replace k := ok_bind k
  obtain ⟨v_16, e_17, k⟩ := k
  refine wq_len dX8_copied_30 e_17 ?_
  replace k := ok_bind k
  obtain ⟨h_18, e_19, k⟩ := k
  refine wq_cpI ml_X8_34 acn acs aci (by exact Nat.le_of_ble_eq_true rfl) dX8_copied_31 e_19 ?_
  refine wp_aload_n dX8_copied_34 rfl ?_
  replace k := ok_bind k
  obtain ⟨p_20, e_21, k⟩ := k
  refine wq_getR fl_X8_21 (Or.inr ⟨_, rfl⟩) dX8_copied_35 e_21 ?_
  refine wp_iconst dX8_copied_38 ic_0 ?_
  refine wp_aload_n dX8_copied_39 rfl ?_
  replace k := ok_bind k
  obtain ⟨p_22, e_23, k⟩ := k
  refine wq_getR fl_X8_21 (Or.inr ⟨_, rfl⟩) dX8_copied_40 e_23 ?_
  refine wp_iconst dX8_copied_43 ic_0 ?_
  refine wp_aload_n dX8_copied_44 rfl ?_
  replace k := ok_bind k
  obtain ⟨p_24, e_25, k⟩ := k
  refine wq_getR fl_X8_21 (Or.inr ⟨_, rfl⟩) dX8_copied_45 e_25 ?_
  replace k := ok_bind k
  obtain ⟨v_26, e_27, k⟩ := k
  refine wq_len dX8_copied_48 e_27 ?_
  replace k := ok_bind k
  obtain ⟨h_28, e_29, k⟩ := k
  refine wq_cpI ml_X8_34 acn acs aci (by exact Nat.le_of_ble_eq_true rfl) dX8_copied_49 e_29 ?_
  refine wp_aload_n dX8_copied_52 rfl ?_
  refine wp_aload_n dX8_copied_53 rfl ?_
  replace k := ok_bind k
  obtain ⟨v_30, e_31, k⟩ := k
  refine wq_getI fl_X8_24 (Or.inl rfl) dX8_copied_54 e_31 ?_
  replace k := ok_bind k
  obtain ⟨h_32, e_33, k⟩ := k
  refine wq_putI fl_X8_24 rfl rfl dX8_copied_57 e_33 ?_
  refine wp_aload_n dX8_copied_60 rfl ?_
  refine wp_aload_n dX8_copied_61 rfl ?_
  replace k := ok_bind k
  obtain ⟨v_34, e_35, k⟩ := k
  refine wq_getI fl_X8_28 (Or.inl rfl) dX8_copied_62 e_35 ?_
  replace k := ok_bind k
  obtain ⟨h_36, e_37, k⟩ := k
  refine wq_putI fl_X8_28 rfl rfl dX8_copied_65 e_37 ?_
  refine wp_aload_n dX8_copied_68 rfl ?_
  refine wp_aret rfl (Or.inl ⟨_, rfl⟩) dX8_copied_69 ?_
  exact (ok_some k :)
theorem c_X8_copied {S : SH} {d : Nat} {K : Option Value → AH → Prop} (hd : 2 ≤ d)  {r0 : Nat} {h : AH} (k : ok (f_X8_copied S r0 h) (fun w h' => K (some (.ref w)) h')) : CP S M_X8_copied d 3 476 [.ref r0] h K := cp_of (by decide) (fun _ _ => trivial) (fun _ => Nat.le_of_ble_eq_true rfl) (s_X8_copied (cb := 0) (sb := 0) hd  k)
def f_X10_init (S : SH) (r0 : Nat) (h : AH) : Option (Unit × AH) :=
  (nwA S h 1 (400 : Int32) 400).bind fun z => match z with
  | (p_3, h_1) =>
  (pR S h_1 r0 10 0 p_3).bind fun h_4 =>
  (nwO S h_4 (0, 6)).bind fun z => match z with
  | (p_8, h_6) =>
  (f_X6_init S p_8 h_6).bind fun z => match z with
  | (_, h_9) =>
  (pR S h_9 r0 10 2 p_8).bind fun h_11 =>
  (nwA S h_11 4 (2 : Int32) 2).bind fun z => match z with
  | (p_15, h_13) =>
  (pR S h_13 r0 10 3 p_15).bind fun h_16 =>
  (nwO S h_16 (0, 5)).bind fun z => match z with
  | (p_20, h_18) =>
  (f_X5_init S p_20 h_18).bind fun z => match z with
  | (_, h_21) =>
  (pR S h_21 r0 10 4 p_20).bind fun h_23 =>
  (nwO S h_23 (0, 5)).bind fun z => match z with
  | (p_27, h_25) =>
  (f_X5_init S p_27 h_25).bind fun z => match z with
  | (_, h_28) =>
  (pR S h_28 r0 10 5 p_27).bind fun h_30 =>
  (nwO S h_30 (0, 7)).bind fun z => match z with
  | (p_34, h_32) =>
  (f_X7_init S p_34 h_32).bind fun z => match z with
  | (_, h_35) =>
  (pR S h_35 r0 10 6 p_34).bind fun h_37 =>
  (nwO S h_37 (0, 7)).bind fun z => match z with
  | (p_41, h_39) =>
  (f_X7_init S p_41 h_39).bind fun z => match z with
  | (_, h_42) =>
  (pR S h_42 r0 10 7 p_41).bind fun h_44 =>
  (nwO S h_44 (0, 2)).bind fun z => match z with
  | (p_48, h_46) =>
  (f_X2_init S p_48 h_46).bind fun z => match z with
  | (_, h_49) =>
  (pR S h_49 r0 10 8 p_48).bind fun h_51 =>
  (nwO S h_51 (0, 4)).bind fun z => match z with
  | (p_55, h_53) =>
  (f_X4_init S p_55 h_53).bind fun z => match z with
  | (_, h_56) =>
  (pR S h_56 r0 10 9 p_55).bind fun h_58 =>
  (nwO S h_58 (0, 1)).bind fun z => match z with
  | (p_62, h_60) =>
  (gR S h_60 r0 10 2).bind fun p_63 =>
  (gR S h_60 r0 10 9).bind fun p_65 =>
  (f_X1_init S p_62 p_63 p_65 h_60).bind fun z => match z with
  | (_, h_67) =>
  (pR S h_67 r0 10 10 p_62).bind fun h_69 =>
  (nwO S h_69 (0, 0)).bind fun z => match z with
  | (p_73, h_71) =>
  (gR S h_71 r0 10 10).bind fun p_74 =>
  (f_X0_init S p_73 p_74 h_71).bind fun z => match z with
  | (_, h_76) =>
  (pR S h_76 r0 10 11 p_73).bind fun h_78 =>
  (nwO S h_78 (0, 3)).bind fun z => match z with
  | (p_82, h_80) =>
  (f_X3_init S p_82 h_80).bind fun z => match z with
  | (_, h_83) =>
  (pR S h_83 r0 10 12 p_82).bind fun h_85 =>
  (nwA S h_85 1 (7 : Int32) 7).bind fun z => match z with
  | (p_89, h_87) =>
  (pR S h_87 r0 10 13 p_89).bind fun h_90 =>
  (pI S h_90 r0 10 15 (-1 : Int32)).bind fun h_92 =>
  (pI S h_92 r0 10 17 (-1 : Int32)).bind fun h_94 =>
  (pI S h_94 r0 10 19 (-1 : Int32)).bind fun h_96 =>
  (gR S h_96 r0 10 3).bind fun p_98 =>
  (nwO S h_96 (0, 6)).bind fun z => match z with
  | (p_102, h_100) =>
  (f_X6_init S p_102 h_100).bind fun z => match z with
  | (_, h_103) =>
  (sR S h_103 p_98 (0 : Int32) p_102).bind fun h_105 =>
  (gR S h_105 r0 10 3).bind fun p_107 =>
  (nwO S h_105 (0, 6)).bind fun z => match z with
  | (p_111, h_109) =>
  (f_X6_init S p_111 h_109).bind fun z => match z with
  | (_, h_112) =>
  (sR S h_112 p_107 (1 : Int32) p_111).bind fun h_114 =>
  some ((), h_114)
set_option maxHeartbeats 8000000 in
set_option maxRecDepth 20000 in
theorem s_X10_init {S : SH} {d cb sb : Nat} {Q : Option Value → AH → Prop} (hd : 3 ≤ d)  {r0 : Nat} {h : AH} (k : ok (f_X10_init S r0 h) (fun _ h' => Q none h')) : WP S M_X10_init d (cb + 79) (sb + 4883) Q 0 [.ref r0, JK] [] h := by
  obtain ⟨d, rfl, he⟩ := dp (L := 2) hd
  unfold f_X10_init at k
  refine wp_aload_n dX10_init_0 rfl ?_
  refine wp_objInit ml_X10_3 oin oco (by exact Nat.le_of_ble_eq_true rfl) dX10_init_1 ?_
  refine wp_aload_n dX10_init_4 rfl ?_
  refine wp_sipush dX10_init_5 sp_400 ?_
  replace k := ok_bind k
  obtain ⟨⟨p_3, h_1⟩, e_2, k⟩ := k
  try dsimp only at k
  refine wq_newaI (cb := (cb + 78)) (sb := (sb + 4483)) (mx := 400) ac_int (by decide) dX10_init_8 e_2 ?_
  replace k := ok_bind k
  obtain ⟨h_4, e_5, k⟩ := k
  refine wq_putR fl_X10_9 (Or.inr ⟨rfl, fun _ _ _ z => by cases z; rfl⟩) (Or.inr ⟨_, rfl⟩) dX10_init_10 e_5 ?_
  refine wp_aload_n dX10_init_13 rfl ?_
  replace k := ok_bind k
  obtain ⟨⟨p_8, h_6⟩, e_7, k⟩ := k
  try dsimp only at k
  refine wq_new (cb := (cb + 77)) (sb := (sb + 4466)) nw_X10_13 (n := 17) rfl dX10_init_14 e_7 ?_
  refine wp_dupR dX10_init_17 ?_
  refine wp_callIN0 (N := M_X6_init) (cb := (cb + 65)) (sb := (sb + 3900)) (host := RX10) mf_X6_init rfl mi_X6_init rfl (List.mem_of_getElem? (i := 0) rfl) dX10_init_18 (by exact Nat.le_of_ble_eq_true rfl) (c_X6_init (Nat.le_trans (by decide) he) (ok_mono (ok_bind2 k) fun _ h_9 k => ?_))
  try dsimp only at k
  replace k := ok_bind k
  obtain ⟨h_11, e_12, k⟩ := k
  refine wq_putR fl_X10_16 (Or.inr ⟨rfl, fun _ _ _ z => by cases z; rfl⟩) (Or.inl ⟨_, rfl⟩) dX10_init_21 e_12 ?_
  refine wp_aload_n dX10_init_24 rfl ?_
  refine wp_iconst dX10_init_25 ic_2 ?_
  replace k := ok_bind k
  obtain ⟨⟨p_15, h_13⟩, e_14, k⟩ := k
  try dsimp only at k
  refine wq_newaA (cb := (cb + 64)) (sb := (sb + 3898)) (mx := 2) cl_X10_13 (by decide) dX10_init_26 e_14 ?_
  replace k := ok_bind k
  obtain ⟨h_16, e_17, k⟩ := k
  refine wq_putR fl_X10_20 (Or.inr ⟨rfl, fun _ _ _ z => by cases z; rfl⟩) (Or.inr ⟨_, rfl⟩) dX10_init_29 e_17 ?_
  refine wp_aload_n dX10_init_32 rfl ?_
  replace k := ok_bind k
  obtain ⟨⟨p_20, h_18⟩, e_19, k⟩ := k
  try dsimp only at k
  refine wq_new (cb := (cb + 63)) (sb := (sb + 3894)) nw_X10_24 (n := 4) rfl dX10_init_33 e_19 ?_
  refine wp_dupR dX10_init_36 ?_
  refine wp_callIN0 (N := M_X5_init) (cb := (cb + 61)) (sb := (sb + 3622)) (host := RX10) mf_X5_init rfl mi_X5_init rfl (List.mem_of_getElem? (i := 2) rfl) dX10_init_37 (by exact Nat.le_of_ble_eq_true rfl) (c_X5_init (Nat.le_trans (by decide) he) (ok_mono (ok_bind2 k) fun _ h_21 k => ?_))
  try dsimp only at k
  replace k := ok_bind k
  obtain ⟨h_23, e_24, k⟩ := k
  refine wq_putR fl_X10_27 (Or.inr ⟨rfl, fun _ _ _ z => by cases z; rfl⟩) (Or.inl ⟨_, rfl⟩) dX10_init_40 e_24 ?_
  refine wp_aload_n dX10_init_43 rfl ?_
  replace k := ok_bind k
  obtain ⟨⟨p_27, h_25⟩, e_26, k⟩ := k
  try dsimp only at k
  refine wq_new (cb := (cb + 60)) (sb := (sb + 3618)) nw_X10_24 (n := 4) rfl dX10_init_44 e_26 ?_
  refine wp_dupR dX10_init_47 ?_
  refine wp_callIN0 (N := M_X5_init) (cb := (cb + 58)) (sb := (sb + 3346)) (host := RX10) mf_X5_init rfl mi_X5_init rfl (List.mem_of_getElem? (i := 2) rfl) dX10_init_48 (by exact Nat.le_of_ble_eq_true rfl) (c_X5_init (Nat.le_trans (by decide) he) (ok_mono (ok_bind2 k) fun _ h_28 k => ?_))
  try dsimp only at k
  replace k := ok_bind k
  obtain ⟨h_30, e_31, k⟩ := k
  refine wq_putR fl_X10_31 (Or.inr ⟨rfl, fun _ _ _ z => by cases z; rfl⟩) (Or.inl ⟨_, rfl⟩) dX10_init_51 e_31 ?_
  refine wp_aload_n dX10_init_54 rfl ?_
  replace k := ok_bind k
  obtain ⟨⟨p_34, h_32⟩, e_33, k⟩ := k
  try dsimp only at k
  refine wq_new (cb := (cb + 57)) (sb := (sb + 3342)) nw_X10_34 (n := 4) rfl dX10_init_55 e_33 ?_
  refine wp_dupR dX10_init_58 ?_
  refine wp_callIN0 (N := M_X7_init) (cb := (cb + 55)) (sb := (sb + 3329)) (host := RX10) mf_X7_init rfl mi_X7_init rfl (List.mem_of_getElem? (i := 3) rfl) dX10_init_59 (by exact Nat.le_of_ble_eq_true rfl) (c_X7_init (Nat.le_trans (by decide) he) (ok_mono (ok_bind2 k) fun _ h_35 k => ?_))
  try dsimp only at k
  replace k := ok_bind k
  obtain ⟨h_37, e_38, k⟩ := k
  refine wq_putR fl_X10_37 (Or.inr ⟨rfl, fun _ _ _ z => by cases z; rfl⟩) (Or.inl ⟨_, rfl⟩) dX10_init_62 e_38 ?_
  refine wp_aload_n dX10_init_65 rfl ?_
  replace k := ok_bind k
  obtain ⟨⟨p_41, h_39⟩, e_40, k⟩ := k
  try dsimp only at k
  refine wq_new (cb := (cb + 54)) (sb := (sb + 3325)) nw_X10_34 (n := 4) rfl dX10_init_66 e_40 ?_
  refine wp_dupR dX10_init_69 ?_
  refine wp_callIN0 (N := M_X7_init) (cb := (cb + 52)) (sb := (sb + 3312)) (host := RX10) mf_X7_init rfl mi_X7_init rfl (List.mem_of_getElem? (i := 3) rfl) dX10_init_70 (by exact Nat.le_of_ble_eq_true rfl) (c_X7_init (Nat.le_trans (by decide) he) (ok_mono (ok_bind2 k) fun _ h_42 k => ?_))
  try dsimp only at k
  replace k := ok_bind k
  obtain ⟨h_44, e_45, k⟩ := k
  refine wq_putR fl_X10_41 (Or.inr ⟨rfl, fun _ _ _ z => by cases z; rfl⟩) (Or.inl ⟨_, rfl⟩) dX10_init_73 e_45 ?_
  refine wp_aload_n dX10_init_76 rfl ?_
  replace k := ok_bind k
  obtain ⟨⟨p_48, h_46⟩, e_47, k⟩ := k
  try dsimp only at k
  refine wq_new (cb := (cb + 51)) (sb := (sb + 3308)) nw_X10_44 (n := 4) rfl dX10_init_77 e_47 ?_
  refine wp_dupR dX10_init_80 ?_
  refine wp_callIN0 (N := M_X2_init) (cb := (cb + 48)) (sb := (sb + 3291)) (host := RX10) mf_X2_init rfl mi_X2_init rfl (List.mem_of_getElem? (i := 4) rfl) dX10_init_81 (by exact Nat.le_of_ble_eq_true rfl) (c_X2_init (Nat.le_trans (by decide) he) (ok_mono (ok_bind2 k) fun _ h_49 k => ?_))
  try dsimp only at k
  replace k := ok_bind k
  obtain ⟨h_51, e_52, k⟩ := k
  refine wq_putR fl_X10_47 (Or.inr ⟨rfl, fun _ _ _ z => by cases z; rfl⟩) (Or.inl ⟨_, rfl⟩) dX10_init_84 e_52 ?_
  refine wp_aload_n dX10_init_87 rfl ?_
  replace k := ok_bind k
  obtain ⟨⟨p_55, h_53⟩, e_54, k⟩ := k
  try dsimp only at k
  refine wq_new (cb := (cb + 47)) (sb := (sb + 3288)) nw_X10_51 (n := 3) rfl dX10_init_88 e_54 ?_
  refine wp_dupR dX10_init_91 ?_
  refine wp_callIN0 (N := M_X4_init) (cb := (cb + 45)) (sb := (sb + 3211)) (host := RX10) mf_X4_init rfl mi_X4_init rfl (List.mem_of_getElem? (i := 6) rfl) dX10_init_92 (by exact Nat.le_of_ble_eq_true rfl) (c_X4_init (Nat.le_trans (by decide) he) (ok_mono (ok_bind2 k) fun _ h_56 k => ?_))
  try dsimp only at k
  replace k := ok_bind k
  obtain ⟨h_58, e_59, k⟩ := k
  refine wq_putR fl_X10_54 (Or.inr ⟨rfl, fun _ _ _ z => by cases z; rfl⟩) (Or.inl ⟨_, rfl⟩) dX10_init_95 e_59 ?_
  refine wp_aload_n dX10_init_98 rfl ?_
  replace k := ok_bind k
  obtain ⟨⟨p_62, h_60⟩, e_61, k⟩ := k
  try dsimp only at k
  refine wq_new (cb := (cb + 44)) (sb := (sb + 3205)) nw_X10_58 (n := 6) rfl dX10_init_99 e_61 ?_
  refine wp_dupR dX10_init_102 ?_
  refine wp_aload_n dX10_init_103 rfl ?_
  replace k := ok_bind k
  obtain ⟨p_63, e_64, k⟩ := k
  refine wq_getR fl_X10_16 (Or.inl ⟨_, rfl⟩) dX10_init_104 e_64 ?_
  refine wp_aload_n dX10_init_107 rfl ?_
  replace k := ok_bind k
  obtain ⟨p_65, e_66, k⟩ := k
  refine wq_getR fl_X10_54 (Or.inl ⟨_, rfl⟩) dX10_init_108 e_66 ?_
  refine wp_callI2 (N := M_X1_init) (cb := (cb + 42)) (sb := (sb + 3191)) mf_X1_init rfl mi_X1_init rfl ml_X10_60 dX10_init_111 (by exact Nat.le_of_ble_eq_true rfl) (c_X1_init (Nat.le_trans (by decide) he) (ok_mono (ok_bind2 k) fun _ h_67 k => ?_))
  try dsimp only at k
  replace k := ok_bind k
  obtain ⟨h_69, e_70, k⟩ := k
  refine wq_putR fl_X10_63 (Or.inr ⟨rfl, fun _ _ _ z => by cases z; rfl⟩) (Or.inl ⟨_, rfl⟩) dX10_init_114 e_70 ?_
  refine wp_aload_n dX10_init_117 rfl ?_
  replace k := ok_bind k
  obtain ⟨⟨p_73, h_71⟩, e_72, k⟩ := k
  try dsimp only at k
  refine wq_new (cb := (cb + 41)) (sb := (sb + 3184)) nw_X10_67 (n := 7) rfl dX10_init_118 e_72 ?_
  refine wp_dupR dX10_init_121 ?_
  refine wp_aload_n dX10_init_122 rfl ?_
  replace k := ok_bind k
  obtain ⟨p_74, e_75, k⟩ := k
  refine wq_getR fl_X10_63 (Or.inl ⟨_, rfl⟩) dX10_init_123 e_75 ?_
  refine wp_callI1 (N := M_X0_init) (cb := (cb + 35)) (sb := (sb + 2861)) mf_X0_init rfl mi_X0_init rfl ml_X10_69 dX10_init_126 (by exact Nat.le_of_ble_eq_true rfl) (c_X0_init (Nat.le_trans (by decide) he) (ok_mono (ok_bind2 k) fun _ h_76 k => ?_))
  try dsimp only at k
  replace k := ok_bind k
  obtain ⟨h_78, e_79, k⟩ := k
  refine wq_putR fl_X10_72 (Or.inr ⟨rfl, fun _ _ _ z => by cases z; rfl⟩) (Or.inl ⟨_, rfl⟩) dX10_init_129 e_79 ?_
  refine wp_aload_n dX10_init_132 rfl ?_
  replace k := ok_bind k
  obtain ⟨⟨p_82, h_80⟩, e_81, k⟩ := k
  try dsimp only at k
  refine wq_new (cb := (cb + 34)) (sb := (sb + 2856)) nw_X10_76 (n := 5) rfl dX10_init_133 e_81 ?_
  refine wp_dupR dX10_init_136 ?_
  refine wp_callIN0 (N := M_X3_init) (cb := (cb + 27)) (sb := (sb + 1173)) (host := RX10) mf_X3_init rfl mi_X3_init rfl (List.mem_of_getElem? (i := 8) rfl) dX10_init_137 (by exact Nat.le_of_ble_eq_true rfl) (c_X3_init (Nat.le_trans (by decide) he) (ok_mono (ok_bind2 k) fun _ h_83 k => ?_))
  try dsimp only at k
  replace k := ok_bind k
  obtain ⟨h_85, e_86, k⟩ := k
  refine wq_putR fl_X10_79 (Or.inr ⟨rfl, fun _ _ _ z => by cases z; rfl⟩) (Or.inl ⟨_, rfl⟩) dX10_init_140 e_86 ?_
  refine wp_aload_n dX10_init_143 rfl ?_
  refine wp_bipush dX10_init_144 bp_7 ?_
  replace k := ok_bind k
  obtain ⟨⟨p_89, h_87⟩, e_88, k⟩ := k
  try dsimp only at k
  refine wq_newaI (cb := (cb + 26)) (sb := (sb + 1166)) (mx := 7) ac_int (by decide) dX10_init_146 e_88 ?_
  replace k := ok_bind k
  obtain ⟨h_90, e_91, k⟩ := k
  refine wq_putR fl_X10_83 (Or.inr ⟨rfl, fun _ _ _ z => by cases z; rfl⟩) (Or.inr ⟨_, rfl⟩) dX10_init_148 e_91 ?_
  refine wp_aload_n dX10_init_151 rfl ?_
  refine wp_iconst dX10_init_152 ic_m1 ?_
  replace k := ok_bind k
  obtain ⟨h_92, e_93, k⟩ := k
  refine wq_putI fl_X10_86 rfl rfl dX10_init_153 e_93 ?_
  refine wp_aload_n dX10_init_156 rfl ?_
  refine wp_iconst dX10_init_157 ic_m1 ?_
  replace k := ok_bind k
  obtain ⟨h_94, e_95, k⟩ := k
  refine wq_putI fl_X10_90 rfl rfl dX10_init_158 e_95 ?_
  refine wp_aload_n dX10_init_161 rfl ?_
  refine wp_iconst dX10_init_162 ic_m1 ?_
  replace k := ok_bind k
  obtain ⟨h_96, e_97, k⟩ := k
  refine wq_putI fl_X10_93 rfl rfl dX10_init_163 e_97 ?_
  refine wp_iconst dX10_init_166 ic_0 ?_
  refine wp_istore_n dX10_init_167 (by decide) (L1 := [_, _]) rfl ?_
  refine wp_iload_n dX10_init_168 rfl ?_
  refine wp_iconst dX10_init_169 ic_2 ?_
  refine wp_icmp_ge 192 dX10_init_170 (by decide) (fun c => absurd c (by decide)) (fun _ => ?_)
  refine wp_aload_n dX10_init_173 rfl ?_
  replace k := ok_bind k
  obtain ⟨p_98, e_99, k⟩ := k
  refine wq_getR fl_X10_20 (Or.inr ⟨_, rfl⟩) dX10_init_174 e_99 ?_
  refine wp_iload_n dX10_init_177 rfl ?_
  replace k := ok_bind k
  obtain ⟨⟨p_102, h_100⟩, e_101, k⟩ := k
  try dsimp only at k
  refine wq_new (cb := (cb + 25)) (sb := (sb + 1149)) nw_X10_13 (n := 17) rfl dX10_init_178 e_101 ?_
  refine wp_dupR dX10_init_181 ?_
  refine wp_callIN0 (N := M_X6_init) (cb := (cb + 13)) (sb := (sb + 583)) (host := RX10) mf_X6_init rfl mi_X6_init rfl (List.mem_of_getElem? (i := 0) rfl) dX10_init_182 (by exact Nat.le_of_ble_eq_true rfl) (c_X6_init (Nat.le_trans (by decide) he) (ok_mono (ok_bind2 k) fun _ h_103 k => ?_))
  try dsimp only at k
  replace k := ok_bind k
  obtain ⟨h_105, e_106, k⟩ := k
  refine wq_sR dX10_init_185 e_106 ?_
  refine wp_iinc dX10_init_186 rfl ic_1 (by decide) (L1 := [_, _]) rfl ?_
  refine wp_goto 168 dX10_init_189 (by decide) ?_
  refine wp_iload_n dX10_init_168 rfl ?_
  refine wp_iconst dX10_init_169 ic_2 ?_
  refine wp_icmp_ge 192 dX10_init_170 (by decide) (fun c => absurd c (by decide)) (fun _ => ?_)
  refine wp_aload_n dX10_init_173 rfl ?_
  replace k := ok_bind k
  obtain ⟨p_107, e_108, k⟩ := k
  refine wq_getR fl_X10_20 (Or.inr ⟨_, rfl⟩) dX10_init_174 e_108 ?_
  refine wp_iload_n dX10_init_177 rfl ?_
  replace k := ok_bind k
  obtain ⟨⟨p_111, h_109⟩, e_110, k⟩ := k
  try dsimp only at k
  refine wq_new (cb := (cb + 12)) (sb := (sb + 566)) nw_X10_13 (n := 17) rfl dX10_init_178 e_110 ?_
  refine wp_dupR dX10_init_181 ?_
  refine wp_callIN0 (N := M_X6_init) (cb := cb) (sb := sb) (host := RX10) mf_X6_init rfl mi_X6_init rfl (List.mem_of_getElem? (i := 0) rfl) dX10_init_182 (by exact Nat.le_of_ble_eq_true rfl) (c_X6_init (Nat.le_trans (by decide) he) (ok_mono (ok_bind2 k) fun _ h_112 k => ?_))
  try dsimp only at k
  replace k := ok_bind k
  obtain ⟨h_114, e_115, k⟩ := k
  refine wq_sR dX10_init_185 e_115 ?_
  refine wp_iinc dX10_init_186 rfl ic_1 (by decide) (L1 := [_, _]) rfl ?_
  refine wp_goto 168 dX10_init_189 (by decide) ?_
  refine wp_iload_n dX10_init_168 rfl ?_
  refine wp_iconst dX10_init_169 ic_2 ?_
  refine wp_icmp_ge 192 dX10_init_170 (by decide) (fun _ => ?_) (fun c => absurd c (by decide))
  refine wp_vret rfl dX10_init_192 ?_
  exact (ok_some k :)
theorem c_X10_init {S : SH} {d : Nat} {K : Option Value → AH → Prop} (hd : 3 ≤ d)  {r0 : Nat} {h : AH} (k : ok (f_X10_init S r0 h) (fun _ h' => K none h')) : CP S M_X10_init d 79 4883 [.ref r0] h K := cp_of (by decide) (fun _ _ => trivial) (fun _ => Nat.le_of_ble_eq_true rfl) (s_X10_init (cb := 0) (sb := 0) hd  k)
def f_X10_law (S : SH) (r0 : Nat) (h : AH) : Option (Int32 × AH) :=
  (gR S h r0 10 2).bind fun p_1 =>
  (gI S h p_1 6 12).bind fun v_3 =>
  if v_3 < (6 : Int32) then
    (gR S h r0 10 12).bind fun p_6 =>
    (gR S h r0 10 0).bind fun p_8 =>
    (gI S h r0 10 1).bind fun v_10 =>
    (ckO S h p_6 3).bind fun _ =>
    (f_X3_read S p_6 p_8 v_10 (1 : Int32) h).bind fun z => match z with
    | (z_14, h_13) =>
    (pI S h_13 r0 10 1 (0 : Int32)).bind fun h_15 =>
    if z_14 = (0 : Int32) then
      (gR S h_15 r0 10 12).bind fun p_18 =>
      (ckO S h_15 p_18 3).bind fun _ =>
      (f_X3_place S p_18 h_15).bind fun z => match z with
      | (z_22, h_21) =>
      (pI S h_21 r0 10 15 z_22).bind fun h_23 =>
      if z_14 = (0 : Int32) then
        (ckO S h_23 r0 10).bind fun _ =>
        (f_X10_refuse S r0 (-6 : Int32) h_23).bind fun z => match z with
        | (z_54, h_53) =>
        some (z_54, h_53)
      else
        (gR S h_23 r0 10 2).bind fun p_26 =>
        (gI S h_23 p_26 6 12).bind fun v_28 =>
        (gR S h_23 r0 10 2).bind fun p_30 =>
        (gR S h_23 p_30 6 13).bind fun p_32 =>
        (gR S h_23 r0 10 12).bind fun p_34 =>
        (gR S h_23 p_34 3 1).bind fun p_36 =>
        (ckO S h_23 p_36 8).bind fun _ =>
        (f_X8_copied S p_36 h_23).bind fun z => match z with
        | (z_39, h_38) =>
        (sR S h_38 p_32 v_28 z_39).bind fun h_41 =>
        (gR S h_41 r0 10 2).bind fun p_43 =>
        (gI S h_41 p_43 6 12).bind fun v_45 =>
        (pI S h_41 p_43 6 12 (v_45 + (1 : Int32))).bind fun h_47 =>
        (ckO S h_47 r0 10).bind fun _ =>
        (f_X10_accept S r0 v_28 h_47).bind fun z => match z with
        | (z_51, h_50) =>
        some (z_51, h_50)
    else
      (pI S h_15 r0 10 15 (-1 : Int32)).bind fun h_55 =>
      if z_14 = (0 : Int32) then
        (ckO S h_55 r0 10).bind fun _ =>
        (f_X10_refuse S r0 (-6 : Int32) h_55).bind fun z => match z with
        | (z_86, h_85) =>
        some (z_86, h_85)
      else
        (gR S h_55 r0 10 2).bind fun p_58 =>
        (gI S h_55 p_58 6 12).bind fun v_60 =>
        (gR S h_55 r0 10 2).bind fun p_62 =>
        (gR S h_55 p_62 6 13).bind fun p_64 =>
        (gR S h_55 r0 10 12).bind fun p_66 =>
        (gR S h_55 p_66 3 1).bind fun p_68 =>
        (ckO S h_55 p_68 8).bind fun _ =>
        (f_X8_copied S p_68 h_55).bind fun z => match z with
        | (z_71, h_70) =>
        (sR S h_70 p_64 v_60 z_71).bind fun h_73 =>
        (gR S h_73 r0 10 2).bind fun p_75 =>
        (gI S h_73 p_75 6 12).bind fun v_77 =>
        (pI S h_73 p_75 6 12 (v_77 + (1 : Int32))).bind fun h_79 =>
        (ckO S h_79 r0 10).bind fun _ =>
        (f_X10_accept S r0 v_60 h_79).bind fun z => match z with
        | (z_83, h_82) =>
        some (z_83, h_82)
  else
    (pI S h r0 10 1 (0 : Int32)).bind fun h_87 =>
    (ckO S h_87 r0 10).bind fun _ =>
    (f_X10_refuse S r0 (-5 : Int32) h_87).bind fun z => match z with
    | (z_91, h_90) =>
    some (z_91, h_90)
set_option maxHeartbeats 8000000 in
set_option maxRecDepth 20000 in
theorem s_X10_law {S : SH} {d cb sb : Nat} {Q : Option Value → AH → Prop} (hd : 85 ≤ d)  {r0 : Nat} {h : AH} (k : ok (f_X10_law S r0 h) (fun w h' => Q (some (.int w)) h')) : WP S M_X10_law d (cb + 3) (sb + 476) Q 0 [.ref r0, JK, JK] [] h := by
  obtain ⟨d, rfl, he⟩ := dp (L := 84) hd
  unfold f_X10_law at k
  refine wp_aload_n dX10_law_0 rfl ?_
  replace k := ok_bind k
  obtain ⟨p_1, e_2, k⟩ := k
  refine wq_getR fl_X10_16 (Or.inl ⟨_, rfl⟩) dX10_law_1 e_2 ?_
  replace k := ok_bind k
  obtain ⟨v_3, e_4, k⟩ := k
  refine wq_getI fl_X10_217 (Or.inl rfl) dX10_law_4 e_4 ?_
  refine wp_bipush dX10_law_7 bp_6 ?_
  refine wp_icmp_lt 24 dX10_law_9 (by decide) (fun c_5 => ?_) (fun c_5 => ?_)
  · replace k := ok_t c_5 k
    refine wp_aload_n dX10_law_24 rfl ?_
    replace k := ok_bind k
    obtain ⟨p_6, e_7, k⟩ := k
    refine wq_getR fl_X10_79 (Or.inl ⟨_, rfl⟩) dX10_law_25 e_7 ?_
    refine wp_aload_n dX10_law_28 rfl ?_
    replace k := ok_bind k
    obtain ⟨p_8, e_9, k⟩ := k
    refine wq_getR fl_X10_9 (Or.inr ⟨_, rfl⟩) dX10_law_29 e_9 ?_
    refine wp_aload_n dX10_law_32 rfl ?_
    replace k := ok_bind k
    obtain ⟨v_10, e_11, k⟩ := k
    refine wq_getI fl_X10_201 (Or.inl rfl) dX10_law_33 e_11 ?_
    refine wp_iconst dX10_law_36 ic_1 ?_
    replace k := ok_bind k
    obtain ⟨u, e_12, k⟩ := k
    refine wp_callV3 (N := M_X3_read) (ci := 3) mf_X3_read mi_X3_read me_X3_read ml_X10_220 dX10_law_37 (ckO_e e_12) mv_X3_read (by exact Nat.le_of_ble_eq_true rfl) (c_X3_read (Nat.le_trans (by decide) he) (ok_mono (ok_bind2 k) fun z_14 h_13 k => ?_))
    try dsimp only at k
    refine wp_istore_n dX10_law_40 (by decide) (L1 := [_, _, _]) rfl ?_
    refine wp_aload_n dX10_law_41 rfl ?_
    refine wp_iconst dX10_law_42 ic_0 ?_
    replace k := ok_bind k
    obtain ⟨h_15, e_16, k⟩ := k
    refine wq_putI fl_X10_201 rfl rfl dX10_law_43 e_16 ?_
    refine wp_aload_n dX10_law_46 rfl ?_
    refine wp_iload_n dX10_law_47 rfl ?_
    refine wp_if_eq 55 dX10_law_48 (by decide) (fun c_17 => ?_) (fun c_17 => ?_)
    · replace k := ok_t c_17 k
      refine wp_aload_n dX10_law_55 rfl ?_
      replace k := ok_bind k
      obtain ⟨p_18, e_19, k⟩ := k
      refine wq_getR fl_X10_79 (Or.inl ⟨_, rfl⟩) dX10_law_56 e_19 ?_
      replace k := ok_bind k
      obtain ⟨u, e_20, k⟩ := k
      refine wp_callV0 (N := M_X3_place) (ci := 3) mf_X3_place mi_X3_place me_X3_place ml_X10_224 dX10_law_59 (ckO_e e_20) mv_X3_place (by exact Nat.le_of_ble_eq_true rfl) (c_X3_place (Nat.le_trans (by decide) he) (ok_mono (ok_bind2 k) fun z_22 h_21 k => ?_))
      try dsimp only at k
      replace k := ok_bind k
      obtain ⟨h_23, e_24, k⟩ := k
      refine wq_putI fl_X10_86 rfl rfl dX10_law_62 e_24 ?_
      refine wp_iload_n dX10_law_65 rfl ?_
      refine wp_if_ne 76 dX10_law_66 (by decide) (fun c_25 => ?_) (fun c_25 => ?_)
      · replace k := ok_f c_25 k
        refine wp_aload_n dX10_law_76 rfl ?_
        replace k := ok_bind k
        obtain ⟨p_26, e_27, k⟩ := k
        refine wq_getR fl_X10_16 (Or.inl ⟨_, rfl⟩) dX10_law_77 e_27 ?_
        replace k := ok_bind k
        obtain ⟨v_28, e_29, k⟩ := k
        refine wq_getI fl_X10_217 (Or.inl rfl) dX10_law_80 e_29 ?_
        refine wp_istore_n dX10_law_83 (by decide) (L1 := [_, _, _]) rfl ?_
        refine wp_aload_n dX10_law_84 rfl ?_
        replace k := ok_bind k
        obtain ⟨p_30, e_31, k⟩ := k
        refine wq_getR fl_X10_16 (Or.inl ⟨_, rfl⟩) dX10_law_85 e_31 ?_
        replace k := ok_bind k
        obtain ⟨p_32, e_33, k⟩ := k
        refine wq_getR fl_X10_228 (Or.inr ⟨_, rfl⟩) dX10_law_88 e_33 ?_
        refine wp_iload_n dX10_law_91 rfl ?_
        refine wp_aload_n dX10_law_92 rfl ?_
        replace k := ok_bind k
        obtain ⟨p_34, e_35, k⟩ := k
        refine wq_getR fl_X10_79 (Or.inl ⟨_, rfl⟩) dX10_law_93 e_35 ?_
        replace k := ok_bind k
        obtain ⟨p_36, e_37, k⟩ := k
        refine wq_getR fl_X10_232 (Or.inl ⟨_, rfl⟩) dX10_law_96 e_37 ?_
        replace k := ok_bind k
        obtain ⟨u, e_40, k⟩ := k
        refine wp_callVA0 (N := M_X8_copied) (ci := 8) (cb := cb) (sb := sb) mf_X8_copied mi_X8_copied me_X8_copied ml_X10_236 dX10_law_99 (ckO_e e_40) mv_X8_copied (by exact Nat.le_of_ble_eq_true rfl) (c_X8_copied (Nat.le_trans (by decide) he) (ok_mono (ok_bind2 k) fun z_39 h_38 k => ?_))
        try dsimp only at k
        replace k := ok_bind k
        obtain ⟨h_41, e_42, k⟩ := k
        refine wq_sR dX10_law_102 e_42 ?_
        refine wp_aload_n dX10_law_103 rfl ?_
        replace k := ok_bind k
        obtain ⟨p_43, e_44, k⟩ := k
        refine wq_getR fl_X10_16 (Or.inl ⟨_, rfl⟩) dX10_law_104 e_44 ?_
        refine wp_dupR dX10_law_107 ?_
        replace k := ok_bind k
        obtain ⟨v_45, e_46, k⟩ := k
        refine wq_getI fl_X10_217 (Or.inl rfl) dX10_law_108 e_46 ?_
        refine wp_iconst dX10_law_111 ic_1 ?_
        refine wp_iadd dX10_law_112 ?_
        replace k := ok_bind k
        obtain ⟨h_47, e_48, k⟩ := k
        refine wq_putI fl_X10_217 rfl rfl dX10_law_113 e_48 ?_
        refine wp_aload_n dX10_law_116 rfl ?_
        refine wp_iload_n dX10_law_117 rfl ?_
        replace k := ok_bind k
        obtain ⟨u, e_49, k⟩ := k
        refine wp_callV1 (N := M_X10_accept) (ci := 10) mf_X10_accept mi_X10_accept me_X10_accept ml_X10_110 dX10_law_118 (ckO_e e_49) mv_X10_accept (by exact Nat.le_of_ble_eq_true rfl) (c_X10_accept (Nat.le_trans (by decide) he) (ok_mono (ok_bind2 k) fun z_51 h_50 k => ?_))
        try dsimp only at k
        refine wp_iret rfl rfl dX10_law_121 ?_
        exact (ok_some k :)
      · replace k := ok_t c_25 k
        refine wp_aload_n dX10_law_69 rfl ?_
        refine wp_bipush dX10_law_70 bp_m6 ?_
        replace k := ok_bind k
        obtain ⟨u, e_52, k⟩ := k
        refine wp_callV1 (N := M_X10_refuse) (ci := 10) mf_X10_refuse mi_X10_refuse me_X10_refuse ml_X10_96 dX10_law_72 (ckO_e e_52) mv_X10_refuse (by exact Nat.le_of_ble_eq_true rfl) (c_X10_refuse (Nat.le_trans (by decide) he) (ok_mono (ok_bind2 k) fun z_54 h_53 k => ?_))
        try dsimp only at k
        refine wp_iret rfl rfl dX10_law_75 ?_
        exact (ok_some k :)
    · replace k := ok_f c_17 k
      refine wp_iconst dX10_law_51 ic_m1 ?_
      refine wp_goto 62 dX10_law_52 (by decide) ?_
      replace k := ok_bind k
      obtain ⟨h_55, e_56, k⟩ := k
      refine wq_putI fl_X10_86 rfl rfl dX10_law_62 e_56 ?_
      refine wp_iload_n dX10_law_65 rfl ?_
      refine wp_if_ne 76 dX10_law_66 (by decide) (fun c_57 => ?_) (fun c_57 => ?_)
      · replace k := ok_f c_57 k
        refine wp_aload_n dX10_law_76 rfl ?_
        replace k := ok_bind k
        obtain ⟨p_58, e_59, k⟩ := k
        refine wq_getR fl_X10_16 (Or.inl ⟨_, rfl⟩) dX10_law_77 e_59 ?_
        replace k := ok_bind k
        obtain ⟨v_60, e_61, k⟩ := k
        refine wq_getI fl_X10_217 (Or.inl rfl) dX10_law_80 e_61 ?_
        refine wp_istore_n dX10_law_83 (by decide) (L1 := [_, _, _]) rfl ?_
        refine wp_aload_n dX10_law_84 rfl ?_
        replace k := ok_bind k
        obtain ⟨p_62, e_63, k⟩ := k
        refine wq_getR fl_X10_16 (Or.inl ⟨_, rfl⟩) dX10_law_85 e_63 ?_
        replace k := ok_bind k
        obtain ⟨p_64, e_65, k⟩ := k
        refine wq_getR fl_X10_228 (Or.inr ⟨_, rfl⟩) dX10_law_88 e_65 ?_
        refine wp_iload_n dX10_law_91 rfl ?_
        refine wp_aload_n dX10_law_92 rfl ?_
        replace k := ok_bind k
        obtain ⟨p_66, e_67, k⟩ := k
        refine wq_getR fl_X10_79 (Or.inl ⟨_, rfl⟩) dX10_law_93 e_67 ?_
        replace k := ok_bind k
        obtain ⟨p_68, e_69, k⟩ := k
        refine wq_getR fl_X10_232 (Or.inl ⟨_, rfl⟩) dX10_law_96 e_69 ?_
        replace k := ok_bind k
        obtain ⟨u, e_72, k⟩ := k
        refine wp_callVA0 (N := M_X8_copied) (ci := 8) (cb := cb) (sb := sb) mf_X8_copied mi_X8_copied me_X8_copied ml_X10_236 dX10_law_99 (ckO_e e_72) mv_X8_copied (by exact Nat.le_of_ble_eq_true rfl) (c_X8_copied (Nat.le_trans (by decide) he) (ok_mono (ok_bind2 k) fun z_71 h_70 k => ?_))
        try dsimp only at k
        replace k := ok_bind k
        obtain ⟨h_73, e_74, k⟩ := k
        refine wq_sR dX10_law_102 e_74 ?_
        refine wp_aload_n dX10_law_103 rfl ?_
        replace k := ok_bind k
        obtain ⟨p_75, e_76, k⟩ := k
        refine wq_getR fl_X10_16 (Or.inl ⟨_, rfl⟩) dX10_law_104 e_76 ?_
        refine wp_dupR dX10_law_107 ?_
        replace k := ok_bind k
        obtain ⟨v_77, e_78, k⟩ := k
        refine wq_getI fl_X10_217 (Or.inl rfl) dX10_law_108 e_78 ?_
        refine wp_iconst dX10_law_111 ic_1 ?_
        refine wp_iadd dX10_law_112 ?_
        replace k := ok_bind k
        obtain ⟨h_79, e_80, k⟩ := k
        refine wq_putI fl_X10_217 rfl rfl dX10_law_113 e_80 ?_
        refine wp_aload_n dX10_law_116 rfl ?_
        refine wp_iload_n dX10_law_117 rfl ?_
        replace k := ok_bind k
        obtain ⟨u, e_81, k⟩ := k
        refine wp_callV1 (N := M_X10_accept) (ci := 10) mf_X10_accept mi_X10_accept me_X10_accept ml_X10_110 dX10_law_118 (ckO_e e_81) mv_X10_accept (by exact Nat.le_of_ble_eq_true rfl) (c_X10_accept (Nat.le_trans (by decide) he) (ok_mono (ok_bind2 k) fun z_83 h_82 k => ?_))
        try dsimp only at k
        refine wp_iret rfl rfl dX10_law_121 ?_
        exact (ok_some k :)
      · replace k := ok_t c_57 k
        refine wp_aload_n dX10_law_69 rfl ?_
        refine wp_bipush dX10_law_70 bp_m6 ?_
        replace k := ok_bind k
        obtain ⟨u, e_84, k⟩ := k
        refine wp_callV1 (N := M_X10_refuse) (ci := 10) mf_X10_refuse mi_X10_refuse me_X10_refuse ml_X10_96 dX10_law_72 (ckO_e e_84) mv_X10_refuse (by exact Nat.le_of_ble_eq_true rfl) (c_X10_refuse (Nat.le_trans (by decide) he) (ok_mono (ok_bind2 k) fun z_86 h_85 k => ?_))
        try dsimp only at k
        refine wp_iret rfl rfl dX10_law_75 ?_
        exact (ok_some k :)
  · replace k := ok_f c_5 k
    refine wp_aload_n dX10_law_12 rfl ?_
    refine wp_iconst dX10_law_13 ic_0 ?_
    replace k := ok_bind k
    obtain ⟨h_87, e_88, k⟩ := k
    refine wq_putI fl_X10_201 rfl rfl dX10_law_14 e_88 ?_
    refine wp_aload_n dX10_law_17 rfl ?_
    refine wp_bipush dX10_law_18 bp_m5 ?_
    replace k := ok_bind k
    obtain ⟨u, e_89, k⟩ := k
    refine wp_callV1 (N := M_X10_refuse) (ci := 10) mf_X10_refuse mi_X10_refuse me_X10_refuse ml_X10_96 dX10_law_20 (ckO_e e_89) mv_X10_refuse (by exact Nat.le_of_ble_eq_true rfl) (c_X10_refuse (Nat.le_trans (by decide) he) (ok_mono (ok_bind2 k) fun z_91 h_90 k => ?_))
    try dsimp only at k
    refine wp_iret rfl rfl dX10_law_23 ?_
    exact (ok_some k :)
theorem c_X10_law {S : SH} {d : Nat} {K : Option Value → AH → Prop} (hd : 85 ≤ d)  {r0 : Nat} {h : AH} (k : ok (f_X10_law S r0 h) (fun w h' => K (some (.int w)) h')) : CP S M_X10_law d 3 476 [.ref r0] h K := cp_of (by decide) (fun _ _ => trivial) (fun _ => Nat.le_of_ble_eq_true rfl) (s_X10_law (cb := 0) (sb := 0) hd  k)
def f_X10_orders_l102b (S : SH) (rc : Nat → Nat → Int32 → AH → Option ((Int32 ⊕ Nat) × AH)) (r0 : Nat) (r2 : Nat) (x3 : Int32) (h : AH) : Option ((Int32 ⊕ Nat) × AH) :=
  (gI S h r2 8 3).bind fun v_1 =>
  if v_1 ≤ x3 then
    some (.inr r0, h)
  else
    (ckO S h r0 10).bind fun _ =>
    (f_X10_runClause S r0 r2 x3 h).bind fun z => match z with
    | (z_6, h_5) =>
    if z_6 = (0 : Int32) then
      (gR S h_5 r0 10 2).bind fun p_9 =>
      (gR S h_5 p_9 6 0).bind fun p_11 =>
      (gR S h_5 r0 10 6).bind fun p_13 =>
      (ckO S h_5 p_11 7).bind fun _ =>
      (f_X7_become S p_11 p_13 h_5).bind fun z => match z with
      | (_, h_16) =>
      (gR S h_16 r0 10 4).bind fun p_18 =>
      (gR S h_16 r0 10 5).bind fun p_20 =>
      (ckO S h_16 p_18 5).bind fun _ =>
      (f_X5_become S p_18 p_20 h_16).bind fun z => match z with
      | (_, h_23) =>
      (pI S h_23 r0 10 17 x3).bind fun h_25 =>
      (ckO S h_25 r0 10).bind fun _ =>
      (f_X10_refuse S r0 (-3 : Int32) h_25).bind fun z => match z with
      | (z_29, h_28) =>
      some (.inl z_29, h_28)
    else
      lt (x3 + (1 : Int32)) fun y_8 =>
      rc r0 r2 y_8 h_5
set_option maxHeartbeats 8000000 in
set_option maxRecDepth 20000 in
theorem s_X10_orders_l102b {S : SH} {d cb sb : Nat} {Q : Option Value → AH → Prop} (hd : 85 ≤ d) {K : (Int32 ⊕ Nat) → AH → Prop} (hret : ∀ (w : Int32) (h' : AH), K (.inl w) h' → Q (some (.int w)) h') (hex : ∀ (r0 : Nat) (h' : AH), K (.inr r0) h' → WP S M_X10_orders d cb sb Q 162 [.ref r0, JK, JK, JK] [] h') {rc : Nat → Nat → Int32 → AH → Option ((Int32 ⊕ Nat) × AH)} (hrec : ∀ (r0 : Nat) (r2 : Nat) (x3 : Int32) (h' : AH), ok (rc r0 r2 x3 h') K → WP S M_X10_orders d cb sb Q 102 [.ref r0, JK, .ref r2, .int x3] [] h') {r0 : Nat} {r2 : Nat} {x3 : Int32} {h : AH} (k : ok (f_X10_orders_l102b S rc r0 r2 x3 h) K) : WP S M_X10_orders d cb sb Q 102 [.ref r0, JK, .ref r2, .int x3] [] h := by
  obtain ⟨d, rfl, he⟩ := dp (L := 84) hd
  unfold f_X10_orders_l102b at k
  refine wp_iload_n dX10_orders_102 rfl ?_
  refine wp_aload_n dX10_orders_103 rfl ?_
  replace k := ok_bind k
  obtain ⟨v_1, e_2, k⟩ := k
  refine wq_getI fl_X10_247 (Or.inl rfl) dX10_orders_104 e_2 ?_
  refine wp_icmp_ge 162 dX10_orders_107 (by decide) (fun c_3 => ?_) (fun c_3 => ?_)
  · replace k := ok_t c_3 k
    exact wp_wk (wkE <| wkJ <| wkJ <| wkJ <| wkN) (hex _ _ (ok_some k))
  · replace k := ok_f c_3 k
    refine wp_aload_n dX10_orders_110 rfl ?_
    refine wp_aload_n dX10_orders_111 rfl ?_
    refine wp_iload_n dX10_orders_112 rfl ?_
    replace k := ok_bind k
    obtain ⟨u, e_4, k⟩ := k
    refine wp_callV2 (N := M_X10_runClause) (ci := 10) mf_X10_runClause mi_X10_runClause me_X10_runClause ml_X10_250 dX10_orders_113 (ckO_e e_4) mv_X10_runClause (by exact Nat.le_of_ble_eq_true rfl) (c_X10_runClause (Nat.le_trans (by decide) he) (ok_mono (ok_bind2 k) fun z_6 h_5 k => ?_))
    try dsimp only at k
    refine wp_if_ne 156 dX10_orders_116 (by decide) (fun c_7 => ?_) (fun c_7 => ?_)
    · replace k := ok_f c_7 k
      replace k := ok_lt k
      refine wp_iinc dX10_orders_156 rfl ic_1 (by decide) (L1 := [_, _, _, _]) rfl ?_
      refine wp_goto 102 dX10_orders_159 (by decide) ?_
      exact wp_wk (wkE <| wkJ <| wkE <| wkE <| wkN) (hrec _ _ _ _ k)
    · replace k := ok_t c_7 k
      refine wp_aload_n dX10_orders_119 rfl ?_
      replace k := ok_bind k
      obtain ⟨p_9, e_10, k⟩ := k
      refine wq_getR fl_X10_16 (Or.inl ⟨_, rfl⟩) dX10_orders_120 e_10 ?_
      replace k := ok_bind k
      obtain ⟨p_11, e_12, k⟩ := k
      refine wq_getR fl_X10_120 (Or.inl ⟨_, rfl⟩) dX10_orders_123 e_12 ?_
      refine wp_aload_n dX10_orders_126 rfl ?_
      replace k := ok_bind k
      obtain ⟨p_13, e_14, k⟩ := k
      refine wq_getR fl_X10_37 (Or.inl ⟨_, rfl⟩) dX10_orders_127 e_14 ?_
      replace k := ok_bind k
      obtain ⟨u, e_15, k⟩ := k
      refine wp_callV1 (N := M_X7_become) (ci := 7) mf_X7_become mi_X7_become me_X7_become ml_X10_176 dX10_orders_130 (ckO_e e_15) mv_X7_become (by exact Nat.le_of_ble_eq_true rfl) (c_X7_become (Nat.le_trans (by decide) he) (ok_mono (ok_bind2 k) fun _ h_16 k => ?_))
      try dsimp only at k
      refine wp_aload_n dX10_orders_133 rfl ?_
      replace k := ok_bind k
      obtain ⟨p_18, e_19, k⟩ := k
      refine wq_getR fl_X10_27 (Or.inl ⟨_, rfl⟩) dX10_orders_134 e_19 ?_
      refine wp_aload_n dX10_orders_137 rfl ?_
      replace k := ok_bind k
      obtain ⟨p_20, e_21, k⟩ := k
      refine wq_getR fl_X10_31 (Or.inl ⟨_, rfl⟩) dX10_orders_138 e_21 ?_
      replace k := ok_bind k
      obtain ⟨u, e_22, k⟩ := k
      refine wp_callV1 (N := M_X5_become) (ci := 5) mf_X5_become mi_X5_become me_X5_become ml_X10_241 dX10_orders_141 (ckO_e e_22) mv_X5_become (by exact Nat.le_of_ble_eq_true rfl) (c_X5_become (Nat.le_trans (by decide) he) (ok_mono (ok_bind2 k) fun _ h_23 k => ?_))
      try dsimp only at k
      refine wp_aload_n dX10_orders_144 rfl ?_
      refine wp_iload_n dX10_orders_145 rfl ?_
      replace k := ok_bind k
      obtain ⟨h_25, e_26, k⟩ := k
      refine wq_putI fl_X10_90 rfl rfl dX10_orders_146 e_26 ?_
      refine wp_aload_n dX10_orders_149 rfl ?_
      refine wp_bipush dX10_orders_150 bp_m3 ?_
      replace k := ok_bind k
      obtain ⟨u, e_27, k⟩ := k
      refine wp_callV1 (N := M_X10_refuse) (ci := 10) mf_X10_refuse mi_X10_refuse me_X10_refuse ml_X10_96 dX10_orders_152 (ckO_e e_27) mv_X10_refuse (by exact Nat.le_of_ble_eq_true rfl) (c_X10_refuse (Nat.le_trans (by decide) he) (ok_mono (ok_bind2 k) fun z_29 h_28 k => ?_))
      try dsimp only at k
      refine wp_iret rfl rfl dX10_orders_155 ?_
      exact hret _ _ (ok_some k)
def f_X10_orders_l102 (S : SH) : Nat → Nat → Nat → Int32 → AH → Option ((Int32 ⊕ Nat) × AH)
  | 0, _, _, _, _ => none
  | n + 1, r0, r2, x3, h => f_X10_orders_l102b S (f_X10_orders_l102 S n) r0 r2 x3 h
theorem s_X10_orders_l102 {S : SH} {d cb sb : Nat} {Q : Option Value → AH → Prop} (hd : 85 ≤ d) {K : (Int32 ⊕ Nat) → AH → Prop} (hret : ∀ (w : Int32) (h' : AH), K (.inl w) h' → Q (some (.int w)) h') (hex : ∀ (r0 : Nat) (h' : AH), K (.inr r0) h' → WP S M_X10_orders d cb sb Q 162 [.ref r0, JK, JK, JK] [] h') : ∀ (n : Nat) (r0 : Nat) (r2 : Nat) (x3 : Int32) (h : AH), ok (f_X10_orders_l102 S n r0 r2 x3 h) K → WP S M_X10_orders d cb sb Q 102 [.ref r0, JK, .ref r2, .int x3] [] h := by
  intro n
  induction n with
  | zero => intro r0 r2 x3 h k; exact ok_none k
  | succ n ih => intro r0 r2 x3 h k; exact s_X10_orders_l102b hd hret hex (fun r0 r2 x3 h k => ih r0 r2 x3 h k) k
def f_X10_orders_j38 (S : SH) (r0 : Nat) (x1 : Int32) (sr0 : Nat) (sx1 : Int32) (h : AH) : Option (Int32 × AH) :=
  (pI S h sr0 10 15 sx1).bind fun h_1 =>
  (pI S h_1 r0 10 17 (-1 : Int32)).bind fun h_3 =>
  if x1 = (0 : Int32) then
    (ckO S h_3 r0 10).bind fun _ =>
    (f_X10_refuse S r0 (-6 : Int32) h_3).bind fun z => match z with
    | (z_39, h_38) =>
    some (z_39, h_38)
  else
    (gR S h_3 r0 10 6).bind fun p_6 =>
    (gR S h_3 r0 10 2).bind fun p_8 =>
    (gR S h_3 p_8 6 0).bind fun p_10 =>
    (ckO S h_3 p_6 7).bind fun _ =>
    (f_X7_become S p_6 p_10 h_3).bind fun z => match z with
    | (_, h_13) =>
    (gR S h_13 r0 10 5).bind fun p_15 =>
    (gR S h_13 r0 10 4).bind fun p_17 =>
    (ckO S h_13 p_15 5).bind fun _ =>
    (f_X5_become S p_15 p_17 h_13).bind fun z => match z with
    | (_, h_20) =>
    (pI S h_20 r0 10 18 (0 : Int32)).bind fun h_22 =>
    (pI S h_22 r0 10 19 (-1 : Int32)).bind fun h_24 =>
    (gR S h_24 r0 10 12).bind fun p_26 =>
    (gR S h_24 p_26 3 1).bind fun p_28 =>
    (f_X10_orders_l102 S FU r0 p_28 (0 : Int32) h_24).bind fun z => match z with
    | (.inl w, h') => some (w, h')
    | (.inr r0_31, h_30) =>
      (gI S h_30 r0_31 10 18).bind fun v_32 =>
      (ckO S h_30 r0_31 10).bind fun _ =>
      (f_X10_accept S r0_31 v_32 h_30).bind fun z => match z with
      | (z_36, h_35) =>
      some (z_36, h_35)
set_option maxHeartbeats 8000000 in
set_option maxRecDepth 20000 in
theorem s_X10_orders_j38 {S : SH} {d cb sb : Nat} {Q : Option Value → AH → Prop} (hd : 85 ≤ d)  {r0 : Nat} {x1 : Int32} {sr0 : Nat} {sx1 : Int32} {h : AH} (k : ok (f_X10_orders_j38 S r0 x1 sr0 sx1 h) (fun w h' => Q (some (.int w)) h')) : WP S M_X10_orders d cb sb Q 38 [.ref r0, .int x1, JK, JK] [.int sx1, .ref sr0] h := by
  obtain ⟨d, rfl, he⟩ := dp (L := 84) hd
  unfold f_X10_orders_j38 at k
  replace k := ok_bind k
  obtain ⟨h_1, e_2, k⟩ := k
  refine wq_putI fl_X10_86 rfl rfl dX10_orders_38 e_2 ?_
  refine wp_aload_n dX10_orders_41 rfl ?_
  refine wp_iconst dX10_orders_42 ic_m1 ?_
  replace k := ok_bind k
  obtain ⟨h_3, e_4, k⟩ := k
  refine wq_putI fl_X10_90 rfl rfl dX10_orders_43 e_4 ?_
  refine wp_iload_n dX10_orders_46 rfl ?_
  refine wp_if_ne 57 dX10_orders_47 (by decide) (fun c_5 => ?_) (fun c_5 => ?_)
  · replace k := ok_f c_5 k
    refine wp_aload_n dX10_orders_57 rfl ?_
    replace k := ok_bind k
    obtain ⟨p_6, e_7, k⟩ := k
    refine wq_getR fl_X10_37 (Or.inl ⟨_, rfl⟩) dX10_orders_58 e_7 ?_
    refine wp_aload_n dX10_orders_61 rfl ?_
    replace k := ok_bind k
    obtain ⟨p_8, e_9, k⟩ := k
    refine wq_getR fl_X10_16 (Or.inl ⟨_, rfl⟩) dX10_orders_62 e_9 ?_
    replace k := ok_bind k
    obtain ⟨p_10, e_11, k⟩ := k
    refine wq_getR fl_X10_120 (Or.inl ⟨_, rfl⟩) dX10_orders_65 e_11 ?_
    replace k := ok_bind k
    obtain ⟨u, e_12, k⟩ := k
    refine wp_callV1 (N := M_X7_become) (ci := 7) mf_X7_become mi_X7_become me_X7_become ml_X10_176 dX10_orders_68 (ckO_e e_12) mv_X7_become (by exact Nat.le_of_ble_eq_true rfl) (c_X7_become (Nat.le_trans (by decide) he) (ok_mono (ok_bind2 k) fun _ h_13 k => ?_))
    try dsimp only at k
    refine wp_aload_n dX10_orders_71 rfl ?_
    replace k := ok_bind k
    obtain ⟨p_15, e_16, k⟩ := k
    refine wq_getR fl_X10_31 (Or.inl ⟨_, rfl⟩) dX10_orders_72 e_16 ?_
    refine wp_aload_n dX10_orders_75 rfl ?_
    replace k := ok_bind k
    obtain ⟨p_17, e_18, k⟩ := k
    refine wq_getR fl_X10_27 (Or.inl ⟨_, rfl⟩) dX10_orders_76 e_18 ?_
    replace k := ok_bind k
    obtain ⟨u, e_19, k⟩ := k
    refine wp_callV1 (N := M_X5_become) (ci := 5) mf_X5_become mi_X5_become me_X5_become ml_X10_241 dX10_orders_79 (ckO_e e_19) mv_X5_become (by exact Nat.le_of_ble_eq_true rfl) (c_X5_become (Nat.le_trans (by decide) he) (ok_mono (ok_bind2 k) fun _ h_20 k => ?_))
    try dsimp only at k
    refine wp_aload_n dX10_orders_82 rfl ?_
    refine wp_iconst dX10_orders_83 ic_0 ?_
    replace k := ok_bind k
    obtain ⟨h_22, e_23, k⟩ := k
    refine wq_putI fl_X10_244 rfl rfl dX10_orders_84 e_23 ?_
    refine wp_aload_n dX10_orders_87 rfl ?_
    refine wp_iconst dX10_orders_88 ic_m1 ?_
    replace k := ok_bind k
    obtain ⟨h_24, e_25, k⟩ := k
    refine wq_putI fl_X10_93 rfl rfl dX10_orders_89 e_25 ?_
    refine wp_aload_n dX10_orders_92 rfl ?_
    replace k := ok_bind k
    obtain ⟨p_26, e_27, k⟩ := k
    refine wq_getR fl_X10_79 (Or.inl ⟨_, rfl⟩) dX10_orders_93 e_27 ?_
    replace k := ok_bind k
    obtain ⟨p_28, e_29, k⟩ := k
    refine wq_getR fl_X10_232 (Or.inl ⟨_, rfl⟩) dX10_orders_96 e_29 ?_
    refine wp_astore_n dX10_orders_99 (by decide) (L1 := [_, _, _, _]) rfl ?_
    refine wp_iconst dX10_orders_100 ic_0 ?_
    refine wp_istore_n dX10_orders_101 (by decide) (L1 := [_, _, _, _]) rfl ?_
    refine wp_wk (wkE <| wkJ <| wkE <| wkE <| wkN) ?_
    refine s_X10_orders_l102 (Nat.succ_le_succ he) (fun w h' k => ?_) (fun r0_31 h_30 k => ?_) FU _ _ _ _ (ok_bind2 k)
    · try dsimp only at k
      exact (ok_some k :)
    · try dsimp only at k
      refine wp_aload_n dX10_orders_162 rfl ?_
      refine wp_aload_n dX10_orders_163 rfl ?_
      replace k := ok_bind k
      obtain ⟨v_32, e_33, k⟩ := k
      refine wq_getI fl_X10_244 (Or.inl rfl) dX10_orders_164 e_33 ?_
      replace k := ok_bind k
      obtain ⟨u, e_34, k⟩ := k
      refine wp_callV1 (N := M_X10_accept) (ci := 10) mf_X10_accept mi_X10_accept me_X10_accept ml_X10_110 dX10_orders_167 (ckO_e e_34) mv_X10_accept (by exact Nat.le_of_ble_eq_true rfl) (c_X10_accept (Nat.le_trans (by decide) he) (ok_mono (ok_bind2 k) fun z_36 h_35 k => ?_))
      try dsimp only at k
      refine wp_iret rfl rfl dX10_orders_170 ?_
      exact (ok_some k :)
  · replace k := ok_t c_5 k
    refine wp_aload_n dX10_orders_50 rfl ?_
    refine wp_bipush dX10_orders_51 bp_m6 ?_
    replace k := ok_bind k
    obtain ⟨u, e_37, k⟩ := k
    refine wp_callV1 (N := M_X10_refuse) (ci := 10) mf_X10_refuse mi_X10_refuse me_X10_refuse ml_X10_96 dX10_orders_53 (ckO_e e_37) mv_X10_refuse (by exact Nat.le_of_ble_eq_true rfl) (c_X10_refuse (Nat.le_trans (by decide) he) (ok_mono (ok_bind2 k) fun z_39 h_38 k => ?_))
    try dsimp only at k
    refine wp_iret rfl rfl dX10_orders_56 ?_
    exact (ok_some k :)
def f_X10_orders (S : SH) (r0 : Nat) (h : AH) : Option (Int32 × AH) :=
  (gR S h r0 10 12).bind fun p_1 =>
  (gR S h r0 10 0).bind fun p_3 =>
  (gI S h r0 10 1).bind fun v_5 =>
  (ckO S h p_1 3).bind fun _ =>
  (f_X3_read S p_1 p_3 v_5 (0 : Int32) h).bind fun z => match z with
  | (z_9, h_8) =>
  (pI S h_8 r0 10 1 (0 : Int32)).bind fun h_10 =>
  if z_9 = (0 : Int32) then
    (gR S h_10 r0 10 12).bind fun p_13 =>
    (ckO S h_10 p_13 3).bind fun _ =>
    (f_X3_place S p_13 h_10).bind fun z => match z with
    | (z_17, h_16) =>
    f_X10_orders_j38 S r0 z_9 r0 z_17 h_16
  else
    f_X10_orders_j38 S r0 z_9 r0 (-1 : Int32) h_10
set_option maxHeartbeats 8000000 in
set_option maxRecDepth 20000 in
theorem s_X10_orders {S : SH} {d cb sb : Nat} {Q : Option Value → AH → Prop} (hd : 85 ≤ d)  {r0 : Nat} {h : AH} (k : ok (f_X10_orders S r0 h) (fun w h' => Q (some (.int w)) h')) : WP S M_X10_orders d cb sb Q 0 [.ref r0, JK, JK, JK] [] h := by
  obtain ⟨d, rfl, he⟩ := dp (L := 84) hd
  unfold f_X10_orders at k
  refine wp_aload_n dX10_orders_0 rfl ?_
  replace k := ok_bind k
  obtain ⟨p_1, e_2, k⟩ := k
  refine wq_getR fl_X10_79 (Or.inl ⟨_, rfl⟩) dX10_orders_1 e_2 ?_
  refine wp_aload_n dX10_orders_4 rfl ?_
  replace k := ok_bind k
  obtain ⟨p_3, e_4, k⟩ := k
  refine wq_getR fl_X10_9 (Or.inr ⟨_, rfl⟩) dX10_orders_5 e_4 ?_
  refine wp_aload_n dX10_orders_8 rfl ?_
  replace k := ok_bind k
  obtain ⟨v_5, e_6, k⟩ := k
  refine wq_getI fl_X10_201 (Or.inl rfl) dX10_orders_9 e_6 ?_
  refine wp_iconst dX10_orders_12 ic_0 ?_
  replace k := ok_bind k
  obtain ⟨u, e_7, k⟩ := k
  refine wp_callV3 (N := M_X3_read) (ci := 3) mf_X3_read mi_X3_read me_X3_read ml_X10_220 dX10_orders_13 (ckO_e e_7) mv_X3_read (by exact Nat.le_of_ble_eq_true rfl) (c_X3_read (Nat.le_trans (by decide) he) (ok_mono (ok_bind2 k) fun z_9 h_8 k => ?_))
  try dsimp only at k
  refine wp_istore_n dX10_orders_16 (by decide) (L1 := [_, _, _, _]) rfl ?_
  refine wp_aload_n dX10_orders_17 rfl ?_
  refine wp_iconst dX10_orders_18 ic_0 ?_
  replace k := ok_bind k
  obtain ⟨h_10, e_11, k⟩ := k
  refine wq_putI fl_X10_201 rfl rfl dX10_orders_19 e_11 ?_
  refine wp_aload_n dX10_orders_22 rfl ?_
  refine wp_iload_n dX10_orders_23 rfl ?_
  refine wp_if_eq 31 dX10_orders_24 (by decide) (fun c_12 => ?_) (fun c_12 => ?_)
  · replace k := ok_t c_12 k
    refine wp_aload_n dX10_orders_31 rfl ?_
    replace k := ok_bind k
    obtain ⟨p_13, e_14, k⟩ := k
    refine wq_getR fl_X10_79 (Or.inl ⟨_, rfl⟩) dX10_orders_32 e_14 ?_
    replace k := ok_bind k
    obtain ⟨u, e_15, k⟩ := k
    refine wp_callV0 (N := M_X3_place) (ci := 3) mf_X3_place mi_X3_place me_X3_place ml_X10_224 dX10_orders_35 (ckO_e e_15) mv_X3_place (by exact Nat.le_of_ble_eq_true rfl) (c_X3_place (Nat.le_trans (by decide) he) (ok_mono (ok_bind2 k) fun z_17 h_16 k => ?_))
    try dsimp only at k
    exact wp_wk (wkE <| wkE <| wkJ <| wkJ <| wkN) (s_X10_orders_j38 (Nat.succ_le_succ he)  k)
  · replace k := ok_f c_12 k
    refine wp_iconst dX10_orders_27 ic_m1 ?_
    refine wp_goto 38 dX10_orders_28 (by decide) ?_
    exact wp_wk (wkE <| wkE <| wkJ <| wkJ <| wkN) (s_X10_orders_j38 (Nat.succ_le_succ he)  k)
theorem c_X10_orders {S : SH} {d : Nat} {K : Option Value → AH → Prop} (hd : 85 ≤ d)  {r0 : Nat} {h : AH} (k : ok (f_X10_orders S r0 h) (fun w h' => K (some (.int w)) h')) : CP S M_X10_orders d 0 0 [.ref r0] h K := cp_of (by decide) (fun _ _ => trivial) (fun _ => Nat.le_of_ble_eq_true rfl) (s_X10_orders hd  k)
def f_X10_few_l50b (S : SH) (rc : Nat → Int32 → Int32 → Nat → Int32 → Int32 → AH → Option ((Nat × Int32 × Int32 × Nat × Int32) × AH)) (r0 : Nat) (x1 : Int32) (x2 : Int32) (r3 : Nat) (x4 : Int32) (x5 : Int32) (h : AH) : Option ((Nat × Int32 × Int32 × Nat × Int32) × AH) :=
  if x5 < (0 : Int32) then
    some ((r0, x1, x2, r3, x4), h)
  else
    if x5 ≤ (0 : Int32) then
      (aJ S h r3 x5).bind fun w_3 =>
      (gR S h r0 10 2).bind fun p_5 =>
      (gI S h p_5 6 7).bind fun v_7 =>
      (sJ S h r3 x5 (((w_3 * (Int32.toInt64 ((10 : Int32) - v_7))) / (10 : Int64)) + (0 : Int64))).bind fun h_9 =>
      lt (x5 + (-1 : Int32)) fun y_11 =>
      rc r0 x1 x2 r3 x4 y_11 h_9
    else
      (aJ S h r3 (x5 - (1 : Int32))).bind fun w_12 =>
      (gR S h r0 10 2).bind fun p_14 =>
      (gI S h p_14 6 7).bind fun v_16 =>
      lt (((w_12 * (Int32.toInt64 v_16)) / (10 : Int64))) fun y_18 =>
      (aJ S h r3 x5).bind fun w_19 =>
      (gR S h r0 10 2).bind fun p_21 =>
      (gI S h p_21 6 7).bind fun v_23 =>
      (sJ S h r3 x5 (((w_19 * (Int32.toInt64 ((10 : Int32) - v_23))) / (10 : Int64)) + y_18)).bind fun h_25 =>
      lt (x5 + (-1 : Int32)) fun y_27 =>
      rc r0 x1 x2 r3 x4 y_27 h_25
set_option maxHeartbeats 8000000 in
set_option maxRecDepth 20000 in
theorem s_X10_few_l50b {S : SH} {d cb sb : Nat} {Q : Option Value → AH → Prop} (hd : 0 ≤ d) {K : (Nat × Int32 × Int32 × Nat × Int32) → AH → Prop} (hex : ∀ (r0 : Nat) (x1 : Int32) (x2 : Int32) (r3 : Nat) (x4 : Int32) (h' : AH), K (r0, x1, x2, r3, x4) h' → WP S M_X10_few d cb sb Q 118 [.ref r0, .int x1, .int x2, .ref r3, .int x4, JK, JK, JK] [] h') {rc : Nat → Int32 → Int32 → Nat → Int32 → Int32 → AH → Option ((Nat × Int32 × Int32 × Nat × Int32) × AH)} (hrec : ∀ (r0 : Nat) (x1 : Int32) (x2 : Int32) (r3 : Nat) (x4 : Int32) (x5 : Int32) (h' : AH), ok (rc r0 x1 x2 r3 x4 x5 h') K → WP S M_X10_few d cb sb Q 50 [.ref r0, .int x1, .int x2, .ref r3, .int x4, .int x5, JK, JK] [] h') {r0 : Nat} {x1 : Int32} {x2 : Int32} {r3 : Nat} {x4 : Int32} {x5 : Int32} {h : AH} (k : ok (f_X10_few_l50b S rc r0 x1 x2 r3 x4 x5 h) K) : WP S M_X10_few d cb sb Q 50 [.ref r0, .int x1, .int x2, .ref r3, .int x4, .int x5, JK, JK] [] h := by
  unfold f_X10_few_l50b at k
  refine wp_iload dX10_few_50 rfl ?_
  refine wp_if_lt 118 dX10_few_52 (by decide) (fun c_1 => ?_) (fun c_1 => ?_)
  · replace k := ok_t c_1 k
    exact wp_wk (wkE <| wkE <| wkE <| wkE <| wkE <| wkJ <| wkJ <| wkJ <| wkN) (hex _ _ _ _ _ _ (ok_some k))
  · replace k := ok_f c_1 k
    refine wp_iload dX10_few_55 rfl ?_
    refine wp_if_le 82 dX10_few_57 (by decide) (fun c_2 => ?_) (fun c_2 => ?_)
    · replace k := ok_t c_2 k
      refine wp_lconst dX10_few_82 lc_0 ?_
      refine wp_lstore dX10_few_83 (by decide) (L1 := [_, _, _, _, _, _, _, _]) rfl ?_
      refine wp_aload_n dX10_few_85 rfl ?_
      refine wp_iload dX10_few_86 rfl ?_
      refine wp_aload_n dX10_few_88 rfl ?_
      refine wp_iload dX10_few_89 rfl ?_
      replace k := ok_bind k
      obtain ⟨w_3, e_4, k⟩ := k
      refine wq_aJ dX10_few_91 e_4 ?_
      refine wp_bipush dX10_few_92 bp_10 ?_
      refine wp_aload_n dX10_few_94 rfl ?_
      replace k := ok_bind k
      obtain ⟨p_5, e_6, k⟩ := k
      refine wq_getR fl_X10_16 (Or.inl ⟨_, rfl⟩) dX10_few_95 e_6 ?_
      replace k := ok_bind k
      obtain ⟨v_7, e_8, k⟩ := k
      refine wq_getI fl_X10_192 (Or.inl rfl) dX10_few_98 e_8 ?_
      refine wp_isub dX10_few_101 ?_
      refine wp_i2l dX10_few_102 ?_
      refine wp_lmul dX10_few_103 ?_
      refine wp_ldc2 ct_X10_384 dX10_few_104 ?_
      refine wp_ldiv dX10_few_107 (by decide) ?_
      refine wp_lload dX10_few_108 rfl ?_
      refine wp_ladd dX10_few_110 ?_
      replace k := ok_bind k
      obtain ⟨h_9, e_10, k⟩ := k
      refine wq_sJ dX10_few_111 e_10 ?_
      replace k := ok_lt k
      refine wp_iinc dX10_few_112 rfl ic_m1 (by decide) (L1 := [_, _, _, _, _, _, _, _]) rfl ?_
      refine wp_goto 50 dX10_few_115 (by decide) ?_
      exact wp_wk (wkE <| wkE <| wkE <| wkE <| wkE <| wkE <| wkJ <| wkJ <| wkN) (hrec _ _ _ _ _ _ _ k)
    · replace k := ok_f c_2 k
      refine wp_aload_n dX10_few_60 rfl ?_
      refine wp_iload dX10_few_61 rfl ?_
      refine wp_iconst dX10_few_63 ic_1 ?_
      refine wp_isub dX10_few_64 ?_
      replace k := ok_bind k
      obtain ⟨w_12, e_13, k⟩ := k
      refine wq_aJ dX10_few_65 e_13 ?_
      refine wp_aload_n dX10_few_66 rfl ?_
      replace k := ok_bind k
      obtain ⟨p_14, e_15, k⟩ := k
      refine wq_getR fl_X10_16 (Or.inl ⟨_, rfl⟩) dX10_few_67 e_15 ?_
      replace k := ok_bind k
      obtain ⟨v_16, e_17, k⟩ := k
      refine wq_getI fl_X10_192 (Or.inl rfl) dX10_few_70 e_17 ?_
      refine wp_i2l dX10_few_73 ?_
      refine wp_lmul dX10_few_74 ?_
      refine wp_ldc2 ct_X10_384 dX10_few_75 ?_
      refine wp_ldiv dX10_few_78 (by decide) ?_
      refine wp_goto 83 dX10_few_79 (by decide) ?_
      replace k := ok_lt k
      refine wp_lstore dX10_few_83 (by decide) (L1 := [_, _, _, _, _, _, _, _]) rfl ?_
      refine wp_aload_n dX10_few_85 rfl ?_
      refine wp_iload dX10_few_86 rfl ?_
      refine wp_aload_n dX10_few_88 rfl ?_
      refine wp_iload dX10_few_89 rfl ?_
      replace k := ok_bind k
      obtain ⟨w_19, e_20, k⟩ := k
      refine wq_aJ dX10_few_91 e_20 ?_
      refine wp_bipush dX10_few_92 bp_10 ?_
      refine wp_aload_n dX10_few_94 rfl ?_
      replace k := ok_bind k
      obtain ⟨p_21, e_22, k⟩ := k
      refine wq_getR fl_X10_16 (Or.inl ⟨_, rfl⟩) dX10_few_95 e_22 ?_
      replace k := ok_bind k
      obtain ⟨v_23, e_24, k⟩ := k
      refine wq_getI fl_X10_192 (Or.inl rfl) dX10_few_98 e_24 ?_
      refine wp_isub dX10_few_101 ?_
      refine wp_i2l dX10_few_102 ?_
      refine wp_lmul dX10_few_103 ?_
      refine wp_ldc2 ct_X10_384 dX10_few_104 ?_
      refine wp_ldiv dX10_few_107 (by decide) ?_
      refine wp_lload dX10_few_108 rfl ?_
      refine wp_ladd dX10_few_110 ?_
      replace k := ok_bind k
      obtain ⟨h_25, e_26, k⟩ := k
      refine wq_sJ dX10_few_111 e_26 ?_
      replace k := ok_lt k
      refine wp_iinc dX10_few_112 rfl ic_m1 (by decide) (L1 := [_, _, _, _, _, _, _, _]) rfl ?_
      refine wp_goto 50 dX10_few_115 (by decide) ?_
      exact wp_wk (wkE <| wkE <| wkE <| wkE <| wkE <| wkE <| wkJ <| wkJ <| wkN) (hrec _ _ _ _ _ _ _ k)
def f_X10_few_l50 (S : SH) : Nat → Nat → Int32 → Int32 → Nat → Int32 → Int32 → AH → Option ((Nat × Int32 × Int32 × Nat × Int32) × AH)
  | 0, _, _, _, _, _, _, _ => none
  | n + 1, r0, x1, x2, r3, x4, x5, h => f_X10_few_l50b S (f_X10_few_l50 S n) r0 x1 x2 r3 x4 x5 h
theorem s_X10_few_l50 {S : SH} {d cb sb : Nat} {Q : Option Value → AH → Prop} (hd : 0 ≤ d) {K : (Nat × Int32 × Int32 × Nat × Int32) → AH → Prop} (hex : ∀ (r0 : Nat) (x1 : Int32) (x2 : Int32) (r3 : Nat) (x4 : Int32) (h' : AH), K (r0, x1, x2, r3, x4) h' → WP S M_X10_few d cb sb Q 118 [.ref r0, .int x1, .int x2, .ref r3, .int x4, JK, JK, JK] [] h') : ∀ (n : Nat) (r0 : Nat) (x1 : Int32) (x2 : Int32) (r3 : Nat) (x4 : Int32) (x5 : Int32) (h : AH), ok (f_X10_few_l50 S n r0 x1 x2 r3 x4 x5 h) K → WP S M_X10_few d cb sb Q 50 [.ref r0, .int x1, .int x2, .ref r3, .int x4, .int x5, JK, JK] [] h := by
  intro n
  induction n with
  | zero => intro r0 x1 x2 r3 x4 x5 h k; exact ok_none k
  | succ n ih => intro r0 x1 x2 r3 x4 x5 h k; exact s_X10_few_l50b hd hex (fun r0 x1 x2 r3 x4 x5 h k => ih r0 x1 x2 r3 x4 x5 h k) k
def f_X10_few_l39b (S : SH) (rc : Nat → Int32 → Int32 → Nat → Int32 → AH → Option ((Int32 × Nat) × AH)) (r0 : Nat) (x1 : Int32) (x2 : Int32) (r3 : Nat) (x4 : Int32) (h : AH) : Option ((Int32 × Nat) × AH) :=
  if x2 ≤ x4 then
    some ((x1, r3), h)
  else
    lt ((x1 - (1 : Int32))) fun y_2 =>
    (f_X10_few_l50 S FU r0 x1 x2 r3 x4 y_2 h).bind fun z => match z with
    | ((r0_4, x1_5, x2_6, r3_7, x4_8), h_3) =>
    lt (x4_8 + (1 : Int32)) fun y_9 =>
    rc r0_4 x1_5 x2_6 r3_7 y_9 h_3
set_option maxHeartbeats 8000000 in
set_option maxRecDepth 20000 in
theorem s_X10_few_l39b {S : SH} {d cb sb : Nat} {Q : Option Value → AH → Prop} (hd : 0 ≤ d) {K : (Int32 × Nat) → AH → Prop} (hex : ∀ (x1 : Int32) (r3 : Nat) (h' : AH), K (x1, r3) h' → WP S M_X10_few d cb sb Q 124 [JK, .int x1, JK, .ref r3, JK, JK, JK, JK] [] h') {rc : Nat → Int32 → Int32 → Nat → Int32 → AH → Option ((Int32 × Nat) × AH)} (hrec : ∀ (r0 : Nat) (x1 : Int32) (x2 : Int32) (r3 : Nat) (x4 : Int32) (h' : AH), ok (rc r0 x1 x2 r3 x4 h') K → WP S M_X10_few d cb sb Q 39 [.ref r0, .int x1, .int x2, .ref r3, .int x4, JK, JK, JK] [] h') {r0 : Nat} {x1 : Int32} {x2 : Int32} {r3 : Nat} {x4 : Int32} {h : AH} (k : ok (f_X10_few_l39b S rc r0 x1 x2 r3 x4 h) K) : WP S M_X10_few d cb sb Q 39 [.ref r0, .int x1, .int x2, .ref r3, .int x4, JK, JK, JK] [] h := by
  unfold f_X10_few_l39b at k
  refine wp_iload dX10_few_39 rfl ?_
  refine wp_iload_n dX10_few_41 rfl ?_
  refine wp_icmp_ge 124 dX10_few_42 (by decide) (fun c_1 => ?_) (fun c_1 => ?_)
  · replace k := ok_t c_1 k
    exact wp_wk (wkJ <| wkE <| wkJ <| wkE <| wkJ <| wkJ <| wkJ <| wkJ <| wkN) (hex _ _ _ (ok_some k))
  · replace k := ok_f c_1 k
    refine wp_iload_n dX10_few_45 rfl ?_
    refine wp_iconst dX10_few_46 ic_1 ?_
    refine wp_isub dX10_few_47 ?_
    replace k := ok_lt k
    refine wp_istore dX10_few_48 (by decide) (L1 := [_, _, _, _, _, _, _, _]) rfl ?_
    refine wp_wk (wkE <| wkE <| wkE <| wkE <| wkE <| wkE <| wkJ <| wkJ <| wkN) ?_
    refine s_X10_few_l50 hd (fun r0_4 x1_5 x2_6 r3_7 x4_8 h_3 k => ?_) FU _ _ _ _ _ _ _ (ok_bind2 k)
    try dsimp only at k
    replace k := ok_lt k
    refine wp_iinc dX10_few_118 rfl ic_1 (by decide) (L1 := [_, _, _, _, _, _, _, _]) rfl ?_
    refine wp_goto 39 dX10_few_121 (by decide) ?_
    exact wp_wk (wkE <| wkE <| wkE <| wkE <| wkE <| wkJ <| wkJ <| wkJ <| wkN) (hrec _ _ _ _ _ _ k)
def f_X10_few_l39 (S : SH) : Nat → Nat → Int32 → Int32 → Nat → Int32 → AH → Option ((Int32 × Nat) × AH)
  | 0, _, _, _, _, _, _ => none
  | n + 1, r0, x1, x2, r3, x4, h => f_X10_few_l39b S (f_X10_few_l39 S n) r0 x1 x2 r3 x4 h
theorem s_X10_few_l39 {S : SH} {d cb sb : Nat} {Q : Option Value → AH → Prop} (hd : 0 ≤ d) {K : (Int32 × Nat) → AH → Prop} (hex : ∀ (x1 : Int32) (r3 : Nat) (h' : AH), K (x1, r3) h' → WP S M_X10_few d cb sb Q 124 [JK, .int x1, JK, .ref r3, JK, JK, JK, JK] [] h') : ∀ (n : Nat) (r0 : Nat) (x1 : Int32) (x2 : Int32) (r3 : Nat) (x4 : Int32) (h : AH), ok (f_X10_few_l39 S n r0 x1 x2 r3 x4 h) K → WP S M_X10_few d cb sb Q 39 [.ref r0, .int x1, .int x2, .ref r3, .int x4, JK, JK, JK] [] h := by
  intro n
  induction n with
  | zero => intro r0 x1 x2 r3 x4 h k; exact ok_none k
  | succ n ih => intro r0 x1 x2 r3 x4 h k; exact s_X10_few_l39b hd hex (fun r0 x1 x2 r3 x4 h k => ih r0 x1 x2 r3 x4 h k) k
def f_X10_few_l130b (S : SH) (rc : Int32 → Nat → Int64 → Int32 → AH → Option (Int64 × AH)) (x1 : Int32) (r3 : Nat) (l4 : Int64) (x6 : Int32) (h : AH) : Option (Int64 × AH) :=
  if x1 ≤ x6 then
    some (l4, h)
  else
    (aJ S h r3 x6).bind fun w_2 =>
    lt ((l4 + w_2)) fun y_4 =>
    lt (x6 + (1 : Int32)) fun y_5 =>
    rc x1 r3 y_4 y_5 h
set_option maxHeartbeats 8000000 in
set_option maxRecDepth 20000 in
theorem s_X10_few_l130b {S : SH} {d cb sb : Nat} {Q : Option Value → AH → Prop} (hd : 0 ≤ d) {K : Int64 → AH → Prop} (hex : ∀ (l4 : Int64) (h' : AH), K l4 h' → WP S M_X10_few d cb sb Q 151 [JK, JK, JK, JK, .long l4, JK, JK, JK] [] h') {rc : Int32 → Nat → Int64 → Int32 → AH → Option (Int64 × AH)} (hrec : ∀ (x1 : Int32) (r3 : Nat) (l4 : Int64) (x6 : Int32) (h' : AH), ok (rc x1 r3 l4 x6 h') K → WP S M_X10_few d cb sb Q 130 [JK, .int x1, JK, .ref r3, .long l4, JK, .int x6, JK] [] h') {x1 : Int32} {r3 : Nat} {l4 : Int64} {x6 : Int32} {h : AH} (k : ok (f_X10_few_l130b S rc x1 r3 l4 x6 h) K) : WP S M_X10_few d cb sb Q 130 [JK, .int x1, JK, .ref r3, .long l4, JK, .int x6, JK] [] h := by
  unfold f_X10_few_l130b at k
  refine wp_iload dX10_few_130 rfl ?_
  refine wp_iload_n dX10_few_132 rfl ?_
  refine wp_icmp_ge 151 dX10_few_133 (by decide) (fun c_1 => ?_) (fun c_1 => ?_)
  · replace k := ok_t c_1 k
    exact wp_wk (wkJ <| wkJ <| wkJ <| wkJ <| wkE <| wkJ <| wkJ <| wkJ <| wkN) (hex _ _ (ok_some k))
  · replace k := ok_f c_1 k
    refine wp_lload dX10_few_136 rfl ?_
    refine wp_aload_n dX10_few_138 rfl ?_
    refine wp_iload dX10_few_139 rfl ?_
    replace k := ok_bind k
    obtain ⟨w_2, e_3, k⟩ := k
    refine wq_aJ dX10_few_141 e_3 ?_
    refine wp_ladd dX10_few_142 ?_
    replace k := ok_lt k
    refine wp_lstore dX10_few_143 (by decide) (L1 := [_, _, _, _, _, _, _, _]) rfl ?_
    replace k := ok_lt k
    refine wp_iinc dX10_few_145 rfl ic_1 (by decide) (L1 := [_, _, _, _, _, _, _, _]) rfl ?_
    refine wp_goto 130 dX10_few_148 (by decide) ?_
    exact wp_wk (wkJ <| wkE <| wkJ <| wkE <| wkE <| wkJ <| wkE <| wkJ <| wkN) (hrec _ _ _ _ _ k)
def f_X10_few_l130 (S : SH) : Nat → Int32 → Nat → Int64 → Int32 → AH → Option (Int64 × AH)
  | 0, _, _, _, _, _ => none
  | n + 1, x1, r3, l4, x6, h => f_X10_few_l130b S (f_X10_few_l130 S n) x1 r3 l4 x6 h
theorem s_X10_few_l130 {S : SH} {d cb sb : Nat} {Q : Option Value → AH → Prop} (hd : 0 ≤ d) {K : Int64 → AH → Prop} (hex : ∀ (l4 : Int64) (h' : AH), K l4 h' → WP S M_X10_few d cb sb Q 151 [JK, JK, JK, JK, .long l4, JK, JK, JK] [] h') : ∀ (n : Nat) (x1 : Int32) (r3 : Nat) (l4 : Int64) (x6 : Int32) (h : AH), ok (f_X10_few_l130 S n x1 r3 l4 x6 h) K → WP S M_X10_few d cb sb Q 130 [JK, .int x1, JK, .ref r3, .long l4, JK, .int x6, JK] [] h := by
  intro n
  induction n with
  | zero => intro x1 r3 l4 x6 h k; exact ok_none k
  | succ n ih => intro x1 r3 l4 x6 h k; exact s_X10_few_l130b hd hex (fun x1 r3 l4 x6 h k => ih x1 r3 l4 x6 h k) k
def f_X10_few (S : SH) (r0 : Nat) (x1 : Int32) (x2 : Int32) (h : AH) : Option (Int64 × AH) :=
  if x1 < (1 : Int32) then
    some ((-1 : Int64), h)
  else
    if (20 : Int32) < x1 then
      some ((-1 : Int64), h)
    else
      if x2 < (0 : Int32) then
        some ((-1 : Int64), h)
      else
        if x2 ≤ (99 : Int32) then
          (nwA S h 2 (20 : Int32) 20).bind fun z => match z with
          | (p_7, h_5) =>
          (sJ S h_5 p_7 (0 : Int32) (1000000000000 : Int64)).bind fun h_8 =>
          (f_X10_few_l39 S FU r0 x1 x2 p_7 (0 : Int32) h_8).bind fun z => match z with
          | ((x1_11, r3_12), h_10) =>
          (f_X10_few_l130 S FU x1_11 r3_12 (0 : Int64) (0 : Int32) h_10).bind fun z => match z with
          | (l4_14, h_13) =>
          some (l4_14, h_13)
        else
          some ((-1 : Int64), h)
set_option maxHeartbeats 8000000 in
set_option maxRecDepth 20000 in
theorem s_X10_few {S : SH} {d cb sb : Nat} {Q : Option Value → AH → Prop} (hd : 0 ≤ d)  {r0 : Nat} {x1 : Int32} {x2 : Int32} {h : AH} (k : ok (f_X10_few S r0 x1 x2 h) (fun w h' => Q (some (.long w)) h')) : WP S M_X10_few d (cb + 1) (sb + 20) Q 0 [.ref r0, .int x1, .int x2, JK, JK, JK, JK, JK] [] h := by
  unfold f_X10_few at k
  refine wp_iload_n dX10_few_0 rfl ?_
  refine wp_iconst dX10_few_1 ic_1 ?_
  refine wp_icmp_lt 21 dX10_few_2 (by decide) (fun c_1 => ?_) (fun c_1 => ?_)
  · replace k := ok_t c_1 k
    refine wp_ldc2 ct_X10_380 dX10_few_21 ?_
    refine wp_lret rfl dX10_few_24 ?_
    exact (ok_some k :)
  · replace k := ok_f c_1 k
    refine wp_iload_n dX10_few_5 rfl ?_
    refine wp_bipush dX10_few_6 bp_20 ?_
    refine wp_icmp_gt 21 dX10_few_8 (by decide) (fun c_2 => ?_) (fun c_2 => ?_)
    · replace k := ok_t c_2 k
      refine wp_ldc2 ct_X10_380 dX10_few_21 ?_
      refine wp_lret rfl dX10_few_24 ?_
      exact (ok_some k :)
    · replace k := ok_f c_2 k
      refine wp_iload_n dX10_few_11 rfl ?_
      refine wp_if_lt 21 dX10_few_12 (by decide) (fun c_3 => ?_) (fun c_3 => ?_)
      · replace k := ok_t c_3 k
        refine wp_ldc2 ct_X10_380 dX10_few_21 ?_
        refine wp_lret rfl dX10_few_24 ?_
        exact (ok_some k :)
      · replace k := ok_f c_3 k
        refine wp_iload_n dX10_few_15 rfl ?_
        refine wp_bipush dX10_few_16 bp_99 ?_
        refine wp_icmp_le 25 dX10_few_18 (by decide) (fun c_4 => ?_) (fun c_4 => ?_)
        · replace k := ok_t c_4 k
          refine wp_bipush dX10_few_25 bp_20 ?_
          replace k := ok_bind k
          obtain ⟨⟨p_7, h_5⟩, e_6, k⟩ := k
          try dsimp only at k
          refine wq_newaJ (cb := cb) (sb := sb) (mx := 20) ac_long (by decide) dX10_few_27 e_6 ?_
          refine wp_astore_n dX10_few_29 (by decide) (L1 := [_, _, _, _, _, _, _, _]) rfl ?_
          refine wp_aload_n dX10_few_30 rfl ?_
          refine wp_iconst dX10_few_31 ic_0 ?_
          refine wp_ldc2 ct_X10_382 dX10_few_32 ?_
          replace k := ok_bind k
          obtain ⟨h_8, e_9, k⟩ := k
          refine wq_sJ dX10_few_35 e_9 ?_
          refine wp_iconst dX10_few_36 ic_0 ?_
          refine wp_istore dX10_few_37 (by decide) (L1 := [_, _, _, _, _, _, _, _]) rfl ?_
          refine wp_wk (wkE <| wkE <| wkE <| wkE <| wkE <| wkJ <| wkJ <| wkJ <| wkN) ?_
          refine s_X10_few_l39 hd (fun x1_11 r3_12 h_10 k => ?_) FU _ _ _ _ _ _ (ok_bind2 k)
          try dsimp only at k
          refine wp_lconst dX10_few_124 lc_0 ?_
          refine wp_lstore dX10_few_125 (by decide) (L1 := [_, _, _, _, _, _, _, _]) rfl ?_
          refine wp_iconst dX10_few_127 ic_0 ?_
          refine wp_istore dX10_few_128 (by decide) (L1 := [_, _, _, _, _, _, _, _]) rfl ?_
          refine wp_wk (wkJ <| wkE <| wkJ <| wkE <| wkE <| wkJ <| wkE <| wkJ <| wkN) ?_
          refine s_X10_few_l130 hd (fun l4_14 h_13 k => ?_) FU _ _ _ _ _ (ok_bind2 k)
          try dsimp only at k
          refine wp_lload dX10_few_151 rfl ?_
          refine wp_lret rfl dX10_few_153 ?_
          exact (ok_some k :)
        · replace k := ok_f c_4 k
          refine wp_ldc2 ct_X10_380 dX10_few_21 ?_
          refine wp_lret rfl dX10_few_24 ?_
          exact (ok_some k :)
theorem c_X10_few {S : SH} {d : Nat} {K : Option Value → AH → Prop} (hd : 0 ≤ d)  {r0 : Nat} {x1 : Int32} {x2 : Int32} {h : AH} (k : ok (f_X10_few S r0 x1 x2 h) (fun w h' => K (some (.long w)) h')) : CP S M_X10_few d 1 20 [.ref r0, .int x1, .int x2] h K := cp_of (by decide) (fun _ _ => trivial) (fun _ => Nat.le_of_ble_eq_true rfl) (s_X10_few (cb := 0) (sb := 0) hd  k)
def f_X11_init (S : SH) (r0 : Nat) (h : AH) : Option (Unit × AH) :=
  (nwA S h 1 (7 : Int32) 7).bind fun z => match z with
  | (p_3, h_1) =>
  (pR S h_1 r0 11 2 p_3).bind fun h_4 =>
  (nwA S h_4 1 (5490 : Int32) 5490).bind fun z => match z with
  | (p_8, h_6) =>
  (pR S h_6 r0 11 3 p_8).bind fun h_9 =>
  (nwA S h_9 1 (10980 : Int32) 10980).bind fun z => match z with
  | (p_13, h_11) =>
  (pR S h_11 r0 11 4 p_13).bind fun h_14 =>
  (nwA S h_14 3 (2 : Int32) 2).bind fun z => match z with
  | (p_18, h_16) =>
  (pR S h_16 r0 11 5 p_18).bind fun h_19 =>
  (nwA S h_19 1 (324 : Int32) 324).bind fun z => match z with
  | (p_23, h_21) =>
  (pR S h_21 r0 11 6 p_23).bind fun h_24 =>
  (nwA S h_24 1 (16 : Int32) 16).bind fun z => match z with
  | (p_28, h_26) =>
  (pR S h_26 r0 11 7 p_28).bind fun h_29 =>
  (nwA S h_29 1 (288 : Int32) 288).bind fun z => match z with
  | (p_33, h_31) =>
  (pR S h_31 r0 11 9 p_33).bind fun h_34 =>
  (nwA S h_34 1 (16 : Int32) 16).bind fun z => match z with
  | (p_38, h_36) =>
  (pR S h_36 r0 11 10 p_38).bind fun h_39 =>
  (nwA S h_39 1 (400 : Int32) 400).bind fun z => match z with
  | (p_43, h_41) =>
  (pR S h_41 r0 11 12 p_43).bind fun h_44 =>
  (pI S h_44 r0 11 18 (-1 : Int32)).bind fun h_46 =>
  (nwA S h_46 1 (96 : Int32) 96).bind fun z => match z with
  | (p_50, h_48) =>
  (pR S h_48 r0 11 22 p_50).bind fun h_51 =>
  (nwA S h_51 1 (400 : Int32) 400).bind fun z => match z with
  | (p_55, h_53) =>
  (pR S h_53 r0 11 24 p_55).bind fun h_56 =>
  (nwA S h_56 1 (400 : Int32) 400).bind fun z => match z with
  | (p_60, h_58) =>
  (pR S h_58 r0 11 25 p_60).bind fun h_61 =>
  (nwA S h_61 1 (400 : Int32) 400).bind fun z => match z with
  | (p_65, h_63) =>
  (pR S h_63 r0 11 27 p_65).bind fun h_66 =>
  (nwA S h_66 1 (400 : Int32) 400).bind fun z => match z with
  | (p_70, h_68) =>
  (pR S h_68 r0 11 28 p_70).bind fun h_71 =>
  (nwA S h_71 2 (9 : Int32) 9).bind fun z => match z with
  | (p_75, h_73) =>
  (sJ S h_73 p_75 (0 : Int32) (75332 : Int64)).bind fun h_76 =>
  (sJ S h_76 p_75 (1 : Int32) (673957 : Int64)).bind fun h_78 =>
  (sJ S h_78 p_75 (2 : Int32) (203112114 : Int64)).bind fun h_80 =>
  (sJ S h_80 p_75 (3 : Int32) (437932210 : Int64)).bind fun h_82 =>
  (sJ S h_82 p_75 (4 : Int32) (3625634995 : Int64)).bind fun h_84 =>
  (sJ S h_84 p_75 (5 : Int32) (599144 : Int64)).bind fun h_86 =>
  (sJ S h_86 p_75 (6 : Int32) (3554411 : Int64)).bind fun h_88 =>
  (sJ S h_88 p_75 (7 : Int32) (14982420 : Int64)).bind fun h_90 =>
  (sJ S h_90 p_75 (8 : Int32) (441828 : Int64)).bind fun h_92 =>
  (pR S h_92 r0 11 31 p_75).bind fun h_94 =>
  (nwA S h_94 2 (7 : Int32) 7).bind fun z => match z with
  | (p_98, h_96) =>
  (sJ S h_96 p_98 (0 : Int32) (14982420 : Int64)).bind fun h_99 =>
  (sJ S h_99 p_98 (1 : Int32) (146885 : Int64)).bind fun h_101 =>
  (sJ S h_101 p_98 (2 : Int32) (404362868 : Int64)).bind fun h_103 =>
  (sJ S h_103 p_98 (3 : Int32) (3554411 : Int64)).bind fun h_105 =>
  (sJ S h_105 p_98 (4 : Int32) (17789720020 : Int64)).bind fun h_107 =>
  (sJ S h_107 p_98 (5 : Int32) (673957 : Int64)).bind fun h_109 =>
  (sJ S h_109 p_98 (6 : Int32) (658552979 : Int64)).bind fun h_111 =>
  (pR S h_111 r0 11 32 p_98).bind fun h_113 =>
  (nwA S h_113 2 (3 : Int32) 3).bind fun z => match z with
  | (p_117, h_115) =>
  (sJ S h_115 p_117 (0 : Int32) (20678451 : Int64)).bind fun h_118 =>
  (sJ S h_118 p_117 (1 : Int32) (21015731 : Int64)).bind fun h_120 =>
  (sJ S h_120 p_117 (2 : Int32) (67155 : Int64)).bind fun h_122 =>
  (pR S h_122 r0 11 33 p_117).bind fun h_124 =>
  (nwA S h_124 2 (13 : Int32) 13).bind fun z => match z with
  | (p_128, h_126) =>
  (pR S h_126 r0 11 35 p_128).bind fun h_129 =>
  (nwA S h_129 2 (13 : Int32) 13).bind fun z => match z with
  | (p_133, h_131) =>
  (pR S h_131 r0 11 36 p_133).bind fun h_134 =>
  (nwA S h_134 2 (400 : Int32) 400).bind fun z => match z with
  | (p_138, h_136) =>
  (pR S h_136 r0 11 37 p_138).bind fun h_139 =>
  (nwA S h_139 1 (7 : Int32) 7).bind fun z => match z with
  | (p_143, h_141) =>
  (pR S h_141 r0 11 41 p_143).bind fun h_144 =>
  (nwA S h_144 1 (7 : Int32) 7).bind fun z => match z with
  | (p_148, h_146) =>
  (pR S h_146 r0 11 42 p_148).bind fun h_149 =>
  (nwA S h_149 1 (7 : Int32) 7).bind fun z => match z with
  | (p_153, h_151) =>
  (pR S h_151 r0 11 43 p_153).bind fun h_154 =>
  (nwA S h_154 1 (6 : Int32) 6).bind fun z => match z with
  | (p_158, h_156) =>
  (pR S h_156 r0 11 44 p_158).bind fun h_159 =>
  (nwA S h_159 1 (7 : Int32) 7).bind fun z => match z with
  | (p_163, h_161) =>
  (pR S h_161 r0 11 46 p_163).bind fun h_164 =>
  (nwA S h_164 2 (21 : Int32) 21).bind fun z => match z with
  | (p_168, h_166) =>
  (pR S h_166 r0 11 47 p_168).bind fun h_169 =>
  (nwA S h_169 2 (4 : Int32) 4).bind fun z => match z with
  | (p_173, h_171) =>
  (sJ S h_171 p_173 (0 : Int32) (442053 : Int64)).bind fun h_174 =>
  (sJ S h_174 p_173 (1 : Int32) (144385157 : Int64)).bind fun h_176 =>
  (sJ S h_176 p_173 (2 : Int32) (6553 : Int64)).bind fun h_178 =>
  (sJ S h_178 p_173 (3 : Int32) (525939 : Int64)).bind fun h_180 =>
  (pR S h_180 r0 11 48 p_173).bind fun h_182 =>
  (nwA S h_182 1 (96 : Int32) 96).bind fun z => match z with
  | (p_186, h_184) =>
  (pR S h_184 r0 11 49 p_186).bind fun h_187 =>
  (pI S h_187 r0 11 52 (-1 : Int32)).bind fun h_189 =>
  (nwA S h_189 1 (18 : Int32) 18).bind fun z => match z with
  | (p_193, h_191) =>
  (pR S h_191 r0 11 55 p_193).bind fun h_194 =>
  (pI S h_194 r0 11 56 (-1 : Int32)).bind fun h_196 =>
  (pI S h_196 r0 11 57 (-1 : Int32)).bind fun h_198 =>
  (gR S h_198 r0 11 3).bind fun p_200 =>
  (sI S h_198 p_200 (4 : Int32) (-1 : Int32)).bind fun h_202 =>
  (gR S h_202 r0 11 3).bind fun p_204 =>
  (sI S h_202 p_204 (6 : Int32) (1 : Int32)).bind fun h_206 =>
  (gR S h_206 r0 11 3).bind fun p_208 =>
  (sI S h_206 p_208 (8 : Int32) (1 : Int32)).bind fun h_210 =>
  some ((), h_210)
set_option maxHeartbeats 8000000 in
set_option maxRecDepth 20000 in
theorem s_X11_init {S : SH} {d cb sb : Nat} {Q : Option Value → AH → Prop} (hd : 1 ≤ d)  {r0 : Nat} {h : AH} (k : ok (f_X11_init S r0 h) (fun _ h' => Q none h')) : WP S M_X11_init d (cb + 29) (sb + 19837) Q 0 [.ref r0] [] h := by
  obtain ⟨d, rfl, he⟩ := dp (L := 0) hd
  unfold f_X11_init at k
  refine wp_aload_n dX11_init_0 rfl ?_
  refine wp_objInit ml_X11_1 oin oco (by exact Nat.le_of_ble_eq_true rfl) dX11_init_1 ?_
  refine wp_aload_n dX11_init_4 rfl ?_
  refine wp_bipush dX11_init_5 bp_7 ?_
  replace k := ok_bind k
  obtain ⟨⟨p_3, h_1⟩, e_2, k⟩ := k
  try dsimp only at k
  refine wq_newaI (cb := (cb + 28)) (sb := (sb + 19830)) (mx := 7) ac_int (by decide) dX11_init_7 e_2 ?_
  replace k := ok_bind k
  obtain ⟨h_4, e_5, k⟩ := k
  refine wq_putR fl_X11_7 (Or.inr ⟨rfl, fun _ _ _ z => by cases z; rfl⟩) (Or.inr ⟨_, rfl⟩) dX11_init_9 e_5 ?_
  refine wp_aload_n dX11_init_12 rfl ?_
  refine wp_sipush dX11_init_13 sp_5490 ?_
  replace k := ok_bind k
  obtain ⟨⟨p_8, h_6⟩, e_7, k⟩ := k
  try dsimp only at k
  refine wq_newaI (cb := (cb + 27)) (sb := (sb + 14340)) (mx := 5490) ac_int (by decide) dX11_init_16 e_7 ?_
  replace k := ok_bind k
  obtain ⟨h_9, e_10, k⟩ := k
  refine wq_putR fl_X11_13 (Or.inr ⟨rfl, fun _ _ _ z => by cases z; rfl⟩) (Or.inr ⟨_, rfl⟩) dX11_init_18 e_10 ?_
  refine wp_aload_n dX11_init_21 rfl ?_
  refine wp_sipush dX11_init_22 sp_10980 ?_
  replace k := ok_bind k
  obtain ⟨⟨p_13, h_11⟩, e_12, k⟩ := k
  try dsimp only at k
  refine wq_newaI (cb := (cb + 26)) (sb := (sb + 3360)) (mx := 10980) ac_int (by decide) dX11_init_25 e_12 ?_
  replace k := ok_bind k
  obtain ⟨h_14, e_15, k⟩ := k
  refine wq_putR fl_X11_16 (Or.inr ⟨rfl, fun _ _ _ z => by cases z; rfl⟩) (Or.inr ⟨_, rfl⟩) dX11_init_27 e_15 ?_
  refine wp_aload_n dX11_init_30 rfl ?_
  refine wp_iconst dX11_init_31 ic_2 ?_
  replace k := ok_bind k
  obtain ⟨⟨p_18, h_16⟩, e_17, k⟩ := k
  try dsimp only at k
  refine wq_newaZ (cb := (cb + 25)) (sb := (sb + 3358)) (mx := 2) ac_boolean (by decide) dX11_init_32 e_17 ?_
  replace k := ok_bind k
  obtain ⟨h_19, e_20, k⟩ := k
  refine wq_putR fl_X11_19 (Or.inr ⟨rfl, fun _ _ _ z => by cases z; rfl⟩) (Or.inr ⟨_, rfl⟩) dX11_init_34 e_20 ?_
  refine wp_aload_n dX11_init_37 rfl ?_
  refine wp_sipush dX11_init_38 sp_324 ?_
  replace k := ok_bind k
  obtain ⟨⟨p_23, h_21⟩, e_22, k⟩ := k
  try dsimp only at k
  refine wq_newaI (cb := (cb + 24)) (sb := (sb + 3034)) (mx := 324) ac_int (by decide) dX11_init_41 e_22 ?_
  replace k := ok_bind k
  obtain ⟨h_24, e_25, k⟩ := k
  refine wq_putR fl_X11_23 (Or.inr ⟨rfl, fun _ _ _ z => by cases z; rfl⟩) (Or.inr ⟨_, rfl⟩) dX11_init_43 e_25 ?_
  refine wp_aload_n dX11_init_46 rfl ?_
  refine wp_bipush dX11_init_47 bp_16 ?_
  replace k := ok_bind k
  obtain ⟨⟨p_28, h_26⟩, e_27, k⟩ := k
  try dsimp only at k
  refine wq_newaI (cb := (cb + 23)) (sb := (sb + 3018)) (mx := 16) ac_int (by decide) dX11_init_49 e_27 ?_
  replace k := ok_bind k
  obtain ⟨h_29, e_30, k⟩ := k
  refine wq_putR fl_X11_26 (Or.inr ⟨rfl, fun _ _ _ z => by cases z; rfl⟩) (Or.inr ⟨_, rfl⟩) dX11_init_51 e_30 ?_
  refine wp_aload_n dX11_init_54 rfl ?_
  refine wp_sipush dX11_init_55 sp_288 ?_
  replace k := ok_bind k
  obtain ⟨⟨p_33, h_31⟩, e_32, k⟩ := k
  try dsimp only at k
  refine wq_newaI (cb := (cb + 22)) (sb := (sb + 2730)) (mx := 288) ac_int (by decide) dX11_init_58 e_32 ?_
  replace k := ok_bind k
  obtain ⟨h_34, e_35, k⟩ := k
  refine wq_putR fl_X11_29 (Or.inr ⟨rfl, fun _ _ _ z => by cases z; rfl⟩) (Or.inr ⟨_, rfl⟩) dX11_init_60 e_35 ?_
  refine wp_aload_n dX11_init_63 rfl ?_
  refine wp_bipush dX11_init_64 bp_16 ?_
  replace k := ok_bind k
  obtain ⟨⟨p_38, h_36⟩, e_37, k⟩ := k
  try dsimp only at k
  refine wq_newaI (cb := (cb + 21)) (sb := (sb + 2714)) (mx := 16) ac_int (by decide) dX11_init_66 e_37 ?_
  replace k := ok_bind k
  obtain ⟨h_39, e_40, k⟩ := k
  refine wq_putR fl_X11_32 (Or.inr ⟨rfl, fun _ _ _ z => by cases z; rfl⟩) (Or.inr ⟨_, rfl⟩) dX11_init_68 e_40 ?_
  refine wp_aload_n dX11_init_71 rfl ?_
  refine wp_sipush dX11_init_72 sp_400 ?_
  replace k := ok_bind k
  obtain ⟨⟨p_43, h_41⟩, e_42, k⟩ := k
  try dsimp only at k
  refine wq_newaI (cb := (cb + 20)) (sb := (sb + 2314)) (mx := 400) ac_int (by decide) dX11_init_75 e_42 ?_
  replace k := ok_bind k
  obtain ⟨h_44, e_45, k⟩ := k
  refine wq_putR fl_X11_35 (Or.inr ⟨rfl, fun _ _ _ z => by cases z; rfl⟩) (Or.inr ⟨_, rfl⟩) dX11_init_77 e_45 ?_
  refine wp_aload_n dX11_init_80 rfl ?_
  refine wp_iconst dX11_init_81 ic_m1 ?_
  replace k := ok_bind k
  obtain ⟨h_46, e_47, k⟩ := k
  refine wq_putI fl_X11_38 rfl rfl dX11_init_82 e_47 ?_
  refine wp_aload_n dX11_init_85 rfl ?_
  refine wp_bipush dX11_init_86 bp_96 ?_
  replace k := ok_bind k
  obtain ⟨⟨p_50, h_48⟩, e_49, k⟩ := k
  try dsimp only at k
  refine wq_newaI (cb := (cb + 19)) (sb := (sb + 2218)) (mx := 96) ac_int (by decide) dX11_init_88 e_49 ?_
  replace k := ok_bind k
  obtain ⟨h_51, e_52, k⟩ := k
  refine wq_putR fl_X11_42 (Or.inr ⟨rfl, fun _ _ _ z => by cases z; rfl⟩) (Or.inr ⟨_, rfl⟩) dX11_init_90 e_52 ?_
  refine wp_aload_n dX11_init_93 rfl ?_
  refine wp_sipush dX11_init_94 sp_400 ?_
  replace k := ok_bind k
  obtain ⟨⟨p_55, h_53⟩, e_54, k⟩ := k
  try dsimp only at k
  refine wq_newaI (cb := (cb + 18)) (sb := (sb + 1818)) (mx := 400) ac_int (by decide) dX11_init_97 e_54 ?_
  replace k := ok_bind k
  obtain ⟨h_56, e_57, k⟩ := k
  refine wq_putR fl_X11_45 (Or.inr ⟨rfl, fun _ _ _ z => by cases z; rfl⟩) (Or.inr ⟨_, rfl⟩) dX11_init_99 e_57 ?_
  refine wp_aload_n dX11_init_102 rfl ?_
  refine wp_sipush dX11_init_103 sp_400 ?_
  replace k := ok_bind k
  obtain ⟨⟨p_60, h_58⟩, e_59, k⟩ := k
  try dsimp only at k
  refine wq_newaI (cb := (cb + 17)) (sb := (sb + 1418)) (mx := 400) ac_int (by decide) dX11_init_106 e_59 ?_
  replace k := ok_bind k
  obtain ⟨h_61, e_62, k⟩ := k
  refine wq_putR fl_X11_48 (Or.inr ⟨rfl, fun _ _ _ z => by cases z; rfl⟩) (Or.inr ⟨_, rfl⟩) dX11_init_108 e_62 ?_
  refine wp_aload_n dX11_init_111 rfl ?_
  refine wp_sipush dX11_init_112 sp_400 ?_
  replace k := ok_bind k
  obtain ⟨⟨p_65, h_63⟩, e_64, k⟩ := k
  try dsimp only at k
  refine wq_newaI (cb := (cb + 16)) (sb := (sb + 1018)) (mx := 400) ac_int (by decide) dX11_init_115 e_64 ?_
  replace k := ok_bind k
  obtain ⟨h_66, e_67, k⟩ := k
  refine wq_putR fl_X11_51 (Or.inr ⟨rfl, fun _ _ _ z => by cases z; rfl⟩) (Or.inr ⟨_, rfl⟩) dX11_init_117 e_67 ?_
  refine wp_aload_n dX11_init_120 rfl ?_
  refine wp_sipush dX11_init_121 sp_400 ?_
  replace k := ok_bind k
  obtain ⟨⟨p_70, h_68⟩, e_69, k⟩ := k
  try dsimp only at k
  refine wq_newaI (cb := (cb + 15)) (sb := (sb + 618)) (mx := 400) ac_int (by decide) dX11_init_124 e_69 ?_
  replace k := ok_bind k
  obtain ⟨h_71, e_72, k⟩ := k
  refine wq_putR fl_X11_54 (Or.inr ⟨rfl, fun _ _ _ z => by cases z; rfl⟩) (Or.inr ⟨_, rfl⟩) dX11_init_126 e_72 ?_
  refine wp_aload_n dX11_init_129 rfl ?_
  refine wp_bipush dX11_init_130 bp_9 ?_
  replace k := ok_bind k
  obtain ⟨⟨p_75, h_73⟩, e_74, k⟩ := k
  try dsimp only at k
  refine wq_newaJ (cb := (cb + 14)) (sb := (sb + 609)) (mx := 9) ac_long (by decide) dX11_init_132 e_74 ?_
  refine wp_dupR dX11_init_134 ?_
  refine wp_iconst dX11_init_135 ic_0 ?_
  refine wp_ldc2 ct_X11_57 dX11_init_136 ?_
  replace k := ok_bind k
  obtain ⟨h_76, e_77, k⟩ := k
  refine wq_sJ dX11_init_139 e_77 ?_
  refine wp_dupR dX11_init_140 ?_
  refine wp_iconst dX11_init_141 ic_1 ?_
  refine wp_ldc2 ct_X11_59 dX11_init_142 ?_
  replace k := ok_bind k
  obtain ⟨h_78, e_79, k⟩ := k
  refine wq_sJ dX11_init_145 e_79 ?_
  refine wp_dupR dX11_init_146 ?_
  refine wp_iconst dX11_init_147 ic_2 ?_
  refine wp_ldc2 ct_X11_61 dX11_init_148 ?_
  replace k := ok_bind k
  obtain ⟨h_80, e_81, k⟩ := k
  refine wq_sJ dX11_init_151 e_81 ?_
  refine wp_dupR dX11_init_152 ?_
  refine wp_iconst dX11_init_153 ic_3 ?_
  refine wp_ldc2 ct_X11_63 dX11_init_154 ?_
  replace k := ok_bind k
  obtain ⟨h_82, e_83, k⟩ := k
  refine wq_sJ dX11_init_157 e_83 ?_
  refine wp_dupR dX11_init_158 ?_
  refine wp_iconst dX11_init_159 ic_4 ?_
  refine wp_ldc2 ct_X11_65 dX11_init_160 ?_
  replace k := ok_bind k
  obtain ⟨h_84, e_85, k⟩ := k
  refine wq_sJ dX11_init_163 e_85 ?_
  refine wp_dupR dX11_init_164 ?_
  refine wp_iconst dX11_init_165 ic_5 ?_
  refine wp_ldc2 ct_X11_67 dX11_init_166 ?_
  replace k := ok_bind k
  obtain ⟨h_86, e_87, k⟩ := k
  refine wq_sJ dX11_init_169 e_87 ?_
  refine wp_dupR dX11_init_170 ?_
  refine wp_bipush dX11_init_171 bp_6 ?_
  refine wp_ldc2 ct_X11_69 dX11_init_173 ?_
  replace k := ok_bind k
  obtain ⟨h_88, e_89, k⟩ := k
  refine wq_sJ dX11_init_176 e_89 ?_
  refine wp_dupR dX11_init_177 ?_
  refine wp_bipush dX11_init_178 bp_7 ?_
  refine wp_ldc2 ct_X11_71 dX11_init_180 ?_
  replace k := ok_bind k
  obtain ⟨h_90, e_91, k⟩ := k
  refine wq_sJ dX11_init_183 e_91 ?_
  refine wp_dupR dX11_init_184 ?_
  refine wp_bipush dX11_init_185 bp_8 ?_
  refine wp_ldc2 ct_X11_73 dX11_init_187 ?_
  replace k := ok_bind k
  obtain ⟨h_92, e_93, k⟩ := k
  refine wq_sJ dX11_init_190 e_93 ?_
  replace k := ok_bind k
  obtain ⟨h_94, e_95, k⟩ := k
  refine wq_putR fl_X11_75 (Or.inr ⟨rfl, fun _ _ _ z => by cases z; rfl⟩) (Or.inr ⟨_, rfl⟩) dX11_init_191 e_95 ?_
  refine wp_aload_n dX11_init_194 rfl ?_
  refine wp_bipush dX11_init_195 bp_7 ?_
  replace k := ok_bind k
  obtain ⟨⟨p_98, h_96⟩, e_97, k⟩ := k
  try dsimp only at k
  refine wq_newaJ (cb := (cb + 13)) (sb := (sb + 602)) (mx := 7) ac_long (by decide) dX11_init_197 e_97 ?_
  refine wp_dupR dX11_init_199 ?_
  refine wp_iconst dX11_init_200 ic_0 ?_
  refine wp_ldc2 ct_X11_71 dX11_init_201 ?_
  replace k := ok_bind k
  obtain ⟨h_99, e_100, k⟩ := k
  refine wq_sJ dX11_init_204 e_100 ?_
  refine wp_dupR dX11_init_205 ?_
  refine wp_iconst dX11_init_206 ic_1 ?_
  refine wp_ldc2 ct_X11_79 dX11_init_207 ?_
  replace k := ok_bind k
  obtain ⟨h_101, e_102, k⟩ := k
  refine wq_sJ dX11_init_210 e_102 ?_
  refine wp_dupR dX11_init_211 ?_
  refine wp_iconst dX11_init_212 ic_2 ?_
  refine wp_ldc2 ct_X11_81 dX11_init_213 ?_
  replace k := ok_bind k
  obtain ⟨h_103, e_104, k⟩ := k
  refine wq_sJ dX11_init_216 e_104 ?_
  refine wp_dupR dX11_init_217 ?_
  refine wp_iconst dX11_init_218 ic_3 ?_
  refine wp_ldc2 ct_X11_69 dX11_init_219 ?_
  replace k := ok_bind k
  obtain ⟨h_105, e_106, k⟩ := k
  refine wq_sJ dX11_init_222 e_106 ?_
  refine wp_dupR dX11_init_223 ?_
  refine wp_iconst dX11_init_224 ic_4 ?_
  refine wp_ldc2 ct_X11_83 dX11_init_225 ?_
  replace k := ok_bind k
  obtain ⟨h_107, e_108, k⟩ := k
  refine wq_sJ dX11_init_228 e_108 ?_
  refine wp_dupR dX11_init_229 ?_
  refine wp_iconst dX11_init_230 ic_5 ?_
  refine wp_ldc2 ct_X11_59 dX11_init_231 ?_
  replace k := ok_bind k
  obtain ⟨h_109, e_110, k⟩ := k
  refine wq_sJ dX11_init_234 e_110 ?_
  refine wp_dupR dX11_init_235 ?_
  refine wp_bipush dX11_init_236 bp_6 ?_
  refine wp_ldc2 ct_X11_85 dX11_init_238 ?_
  replace k := ok_bind k
  obtain ⟨h_111, e_112, k⟩ := k
  refine wq_sJ dX11_init_241 e_112 ?_
  replace k := ok_bind k
  obtain ⟨h_113, e_114, k⟩ := k
  refine wq_putR fl_X11_87 (Or.inr ⟨rfl, fun _ _ _ z => by cases z; rfl⟩) (Or.inr ⟨_, rfl⟩) dX11_init_242 e_114 ?_
  refine wp_aload_n dX11_init_245 rfl ?_
  refine wp_iconst dX11_init_246 ic_3 ?_
  replace k := ok_bind k
  obtain ⟨⟨p_117, h_115⟩, e_116, k⟩ := k
  try dsimp only at k
  refine wq_newaJ (cb := (cb + 12)) (sb := (sb + 599)) (mx := 3) ac_long (by decide) dX11_init_247 e_116 ?_
  refine wp_dupR dX11_init_249 ?_
  refine wp_iconst dX11_init_250 ic_0 ?_
  refine wp_ldc2 ct_X11_90 dX11_init_251 ?_
  replace k := ok_bind k
  obtain ⟨h_118, e_119, k⟩ := k
  refine wq_sJ dX11_init_254 e_119 ?_
  refine wp_dupR dX11_init_255 ?_
  refine wp_iconst dX11_init_256 ic_1 ?_
  refine wp_ldc2 ct_X11_92 dX11_init_257 ?_
  replace k := ok_bind k
  obtain ⟨h_120, e_121, k⟩ := k
  refine wq_sJ dX11_init_260 e_121 ?_
  refine wp_dupR dX11_init_261 ?_
  refine wp_iconst dX11_init_262 ic_2 ?_
  refine wp_ldc2 ct_X11_94 dX11_init_263 ?_
  replace k := ok_bind k
  obtain ⟨h_122, e_123, k⟩ := k
  refine wq_sJ dX11_init_266 e_123 ?_
  replace k := ok_bind k
  obtain ⟨h_124, e_125, k⟩ := k
  refine wq_putR fl_X11_96 (Or.inr ⟨rfl, fun _ _ _ z => by cases z; rfl⟩) (Or.inr ⟨_, rfl⟩) dX11_init_267 e_125 ?_
  refine wp_aload_n dX11_init_270 rfl ?_
  refine wp_bipush dX11_init_271 bp_13 ?_
  replace k := ok_bind k
  obtain ⟨⟨p_128, h_126⟩, e_127, k⟩ := k
  try dsimp only at k
  refine wq_newaJ (cb := (cb + 11)) (sb := (sb + 586)) (mx := 13) ac_long (by decide) dX11_init_273 e_127 ?_
  replace k := ok_bind k
  obtain ⟨h_129, e_130, k⟩ := k
  refine wq_putR fl_X11_99 (Or.inr ⟨rfl, fun _ _ _ z => by cases z; rfl⟩) (Or.inr ⟨_, rfl⟩) dX11_init_275 e_130 ?_
  refine wp_aload_n dX11_init_278 rfl ?_
  refine wp_bipush dX11_init_279 bp_13 ?_
  replace k := ok_bind k
  obtain ⟨⟨p_133, h_131⟩, e_132, k⟩ := k
  try dsimp only at k
  refine wq_newaJ (cb := (cb + 10)) (sb := (sb + 573)) (mx := 13) ac_long (by decide) dX11_init_281 e_132 ?_
  replace k := ok_bind k
  obtain ⟨h_134, e_135, k⟩ := k
  refine wq_putR fl_X11_102 (Or.inr ⟨rfl, fun _ _ _ z => by cases z; rfl⟩) (Or.inr ⟨_, rfl⟩) dX11_init_283 e_135 ?_
  refine wp_aload_n dX11_init_286 rfl ?_
  refine wp_sipush dX11_init_287 sp_400 ?_
  replace k := ok_bind k
  obtain ⟨⟨p_138, h_136⟩, e_137, k⟩ := k
  try dsimp only at k
  refine wq_newaJ (cb := (cb + 9)) (sb := (sb + 173)) (mx := 400) ac_long (by decide) dX11_init_290 e_137 ?_
  replace k := ok_bind k
  obtain ⟨h_139, e_140, k⟩ := k
  refine wq_putR fl_X11_105 (Or.inr ⟨rfl, fun _ _ _ z => by cases z; rfl⟩) (Or.inr ⟨_, rfl⟩) dX11_init_292 e_140 ?_
  refine wp_aload_n dX11_init_295 rfl ?_
  refine wp_bipush dX11_init_296 bp_7 ?_
  replace k := ok_bind k
  obtain ⟨⟨p_143, h_141⟩, e_142, k⟩ := k
  try dsimp only at k
  refine wq_newaI (cb := (cb + 8)) (sb := (sb + 166)) (mx := 7) ac_int (by decide) dX11_init_298 e_142 ?_
  replace k := ok_bind k
  obtain ⟨h_144, e_145, k⟩ := k
  refine wq_putR fl_X11_108 (Or.inr ⟨rfl, fun _ _ _ z => by cases z; rfl⟩) (Or.inr ⟨_, rfl⟩) dX11_init_300 e_145 ?_
  refine wp_aload_n dX11_init_303 rfl ?_
  refine wp_bipush dX11_init_304 bp_7 ?_
  replace k := ok_bind k
  obtain ⟨⟨p_148, h_146⟩, e_147, k⟩ := k
  try dsimp only at k
  refine wq_newaI (cb := (cb + 7)) (sb := (sb + 159)) (mx := 7) ac_int (by decide) dX11_init_306 e_147 ?_
  replace k := ok_bind k
  obtain ⟨h_149, e_150, k⟩ := k
  refine wq_putR fl_X11_111 (Or.inr ⟨rfl, fun _ _ _ z => by cases z; rfl⟩) (Or.inr ⟨_, rfl⟩) dX11_init_308 e_150 ?_
  refine wp_aload_n dX11_init_311 rfl ?_
  refine wp_bipush dX11_init_312 bp_7 ?_
  replace k := ok_bind k
  obtain ⟨⟨p_153, h_151⟩, e_152, k⟩ := k
  try dsimp only at k
  refine wq_newaI (cb := (cb + 6)) (sb := (sb + 152)) (mx := 7) ac_int (by decide) dX11_init_314 e_152 ?_
  replace k := ok_bind k
  obtain ⟨h_154, e_155, k⟩ := k
  refine wq_putR fl_X11_114 (Or.inr ⟨rfl, fun _ _ _ z => by cases z; rfl⟩) (Or.inr ⟨_, rfl⟩) dX11_init_316 e_155 ?_
  refine wp_aload_n dX11_init_319 rfl ?_
  refine wp_bipush dX11_init_320 bp_6 ?_
  replace k := ok_bind k
  obtain ⟨⟨p_158, h_156⟩, e_157, k⟩ := k
  try dsimp only at k
  refine wq_newaI (cb := (cb + 5)) (sb := (sb + 146)) (mx := 6) ac_int (by decide) dX11_init_322 e_157 ?_
  replace k := ok_bind k
  obtain ⟨h_159, e_160, k⟩ := k
  refine wq_putR fl_X11_117 (Or.inr ⟨rfl, fun _ _ _ z => by cases z; rfl⟩) (Or.inr ⟨_, rfl⟩) dX11_init_324 e_160 ?_
  refine wp_aload_n dX11_init_327 rfl ?_
  refine wp_bipush dX11_init_328 bp_7 ?_
  replace k := ok_bind k
  obtain ⟨⟨p_163, h_161⟩, e_162, k⟩ := k
  try dsimp only at k
  refine wq_newaI (cb := (cb + 4)) (sb := (sb + 139)) (mx := 7) ac_int (by decide) dX11_init_330 e_162 ?_
  replace k := ok_bind k
  obtain ⟨h_164, e_165, k⟩ := k
  refine wq_putR fl_X11_120 (Or.inr ⟨rfl, fun _ _ _ z => by cases z; rfl⟩) (Or.inr ⟨_, rfl⟩) dX11_init_332 e_165 ?_
  refine wp_aload_n dX11_init_335 rfl ?_
  refine wp_bipush dX11_init_336 bp_21 ?_
  replace k := ok_bind k
  obtain ⟨⟨p_168, h_166⟩, e_167, k⟩ := k
  try dsimp only at k
  refine wq_newaJ (cb := (cb + 3)) (sb := (sb + 118)) (mx := 21) ac_long (by decide) dX11_init_338 e_167 ?_
  replace k := ok_bind k
  obtain ⟨h_169, e_170, k⟩ := k
  refine wq_putR fl_X11_123 (Or.inr ⟨rfl, fun _ _ _ z => by cases z; rfl⟩) (Or.inr ⟨_, rfl⟩) dX11_init_340 e_170 ?_
  refine wp_aload_n dX11_init_343 rfl ?_
  refine wp_iconst dX11_init_344 ic_4 ?_
  replace k := ok_bind k
  obtain ⟨⟨p_173, h_171⟩, e_172, k⟩ := k
  try dsimp only at k
  refine wq_newaJ (cb := (cb + 2)) (sb := (sb + 114)) (mx := 4) ac_long (by decide) dX11_init_345 e_172 ?_
  refine wp_dupR dX11_init_347 ?_
  refine wp_iconst dX11_init_348 ic_0 ?_
  refine wp_ldc2 ct_X11_126 dX11_init_349 ?_
  replace k := ok_bind k
  obtain ⟨h_174, e_175, k⟩ := k
  refine wq_sJ dX11_init_352 e_175 ?_
  refine wp_dupR dX11_init_353 ?_
  refine wp_iconst dX11_init_354 ic_1 ?_
  refine wp_ldc2 ct_X11_128 dX11_init_355 ?_
  replace k := ok_bind k
  obtain ⟨h_176, e_177, k⟩ := k
  refine wq_sJ dX11_init_358 e_177 ?_
  refine wp_dupR dX11_init_359 ?_
  refine wp_iconst dX11_init_360 ic_2 ?_
  refine wp_ldc2 ct_X11_130 dX11_init_361 ?_
  replace k := ok_bind k
  obtain ⟨h_178, e_179, k⟩ := k
  refine wq_sJ dX11_init_364 e_179 ?_
  refine wp_dupR dX11_init_365 ?_
  refine wp_iconst dX11_init_366 ic_3 ?_
  refine wp_ldc2 ct_X11_132 dX11_init_367 ?_
  replace k := ok_bind k
  obtain ⟨h_180, e_181, k⟩ := k
  refine wq_sJ dX11_init_370 e_181 ?_
  replace k := ok_bind k
  obtain ⟨h_182, e_183, k⟩ := k
  refine wq_putR fl_X11_134 (Or.inr ⟨rfl, fun _ _ _ z => by cases z; rfl⟩) (Or.inr ⟨_, rfl⟩) dX11_init_371 e_183 ?_
  refine wp_aload_n dX11_init_374 rfl ?_
  refine wp_bipush dX11_init_375 bp_96 ?_
  replace k := ok_bind k
  obtain ⟨⟨p_186, h_184⟩, e_185, k⟩ := k
  try dsimp only at k
  refine wq_newaI (cb := (cb + 1)) (sb := (sb + 18)) (mx := 96) ac_int (by decide) dX11_init_377 e_185 ?_
  replace k := ok_bind k
  obtain ⟨h_187, e_188, k⟩ := k
  refine wq_putR fl_X11_137 (Or.inr ⟨rfl, fun _ _ _ z => by cases z; rfl⟩) (Or.inr ⟨_, rfl⟩) dX11_init_379 e_188 ?_
  refine wp_aload_n dX11_init_382 rfl ?_
  refine wp_iconst dX11_init_383 ic_m1 ?_
  replace k := ok_bind k
  obtain ⟨h_189, e_190, k⟩ := k
  refine wq_putI fl_X11_140 rfl rfl dX11_init_384 e_190 ?_
  refine wp_aload_n dX11_init_387 rfl ?_
  refine wp_bipush dX11_init_388 bp_18 ?_
  replace k := ok_bind k
  obtain ⟨⟨p_193, h_191⟩, e_192, k⟩ := k
  try dsimp only at k
  refine wq_newaI (cb := cb) (sb := sb) (mx := 18) ac_int (by decide) dX11_init_390 e_192 ?_
  replace k := ok_bind k
  obtain ⟨h_194, e_195, k⟩ := k
  refine wq_putR fl_X11_143 (Or.inr ⟨rfl, fun _ _ _ z => by cases z; rfl⟩) (Or.inr ⟨_, rfl⟩) dX11_init_392 e_195 ?_
  refine wp_aload_n dX11_init_395 rfl ?_
  refine wp_iconst dX11_init_396 ic_m1 ?_
  replace k := ok_bind k
  obtain ⟨h_196, e_197, k⟩ := k
  refine wq_putI fl_X11_146 rfl rfl dX11_init_397 e_197 ?_
  refine wp_aload_n dX11_init_400 rfl ?_
  refine wp_iconst dX11_init_401 ic_m1 ?_
  replace k := ok_bind k
  obtain ⟨h_198, e_199, k⟩ := k
  refine wq_putI fl_X11_149 rfl rfl dX11_init_402 e_199 ?_
  refine wp_aload_n dX11_init_405 rfl ?_
  replace k := ok_bind k
  obtain ⟨p_200, e_201, k⟩ := k
  refine wq_getR fl_X11_13 (Or.inr ⟨_, rfl⟩) dX11_init_406 e_201 ?_
  refine wp_iconst dX11_init_409 ic_4 ?_
  refine wp_iconst dX11_init_410 ic_m1 ?_
  replace k := ok_bind k
  obtain ⟨h_202, e_203, k⟩ := k
  refine wq_sI dX11_init_411 e_203 ?_
  refine wp_aload_n dX11_init_412 rfl ?_
  replace k := ok_bind k
  obtain ⟨p_204, e_205, k⟩ := k
  refine wq_getR fl_X11_13 (Or.inr ⟨_, rfl⟩) dX11_init_413 e_205 ?_
  refine wp_bipush dX11_init_416 bp_6 ?_
  refine wp_iconst dX11_init_418 ic_1 ?_
  replace k := ok_bind k
  obtain ⟨h_206, e_207, k⟩ := k
  refine wq_sI dX11_init_419 e_207 ?_
  refine wp_aload_n dX11_init_420 rfl ?_
  replace k := ok_bind k
  obtain ⟨p_208, e_209, k⟩ := k
  refine wq_getR fl_X11_13 (Or.inr ⟨_, rfl⟩) dX11_init_421 e_209 ?_
  refine wp_bipush dX11_init_424 bp_8 ?_
  refine wp_iconst dX11_init_426 ic_1 ?_
  replace k := ok_bind k
  obtain ⟨h_210, e_211, k⟩ := k
  refine wq_sI dX11_init_427 e_211 ?_
  refine wp_vret rfl dX11_init_428 ?_
  exact (ok_some k :)
theorem c_X11_init {S : SH} {d : Nat} {K : Option Value → AH → Prop} (hd : 1 ≤ d)  {r0 : Nat} {h : AH} (k : ok (f_X11_init S r0 h) (fun _ h' => K none h')) : CP S M_X11_init d 29 19837 [.ref r0] h K := cp_of (by decide) (fun _ _ => trivial) (fun _ => Nat.le_of_ble_eq_true rfl) (s_X11_init (cb := 0) (sb := 0) hd  k)

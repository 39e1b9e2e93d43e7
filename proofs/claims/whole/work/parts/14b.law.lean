def f_L_law (S : SH) (Ls : Nat) (xs : Nat → Int32) (h : AH) : Option (Int32 × AH) :=
  (nwO S h (0, 10)).bind fun z => match z with
  | (p_3, h_1) =>
  (f_X10_init S p_3 h_1).bind fun z => match z with
  | (_, h_4) =>
  (nwO S h_4 (0, 11)).bind fun z => match z with
  | (p_8, h_6) =>
  (f_X11_init S p_8 h_6).bind fun z => match z with
  | (_, h_9) =>
  (f_L_loop S Ls xs 514 p_3 p_8 (0 : Int32) h_9).bind fun z => match z with
  | (.inl w, h') => some (w, h')
  | (.inr (), h') =>
    some ((1 : Int32), h')
set_option maxHeartbeats 8000000 in
set_option maxRecDepth 20000 in
theorem s_L_law {S : SH} {Ls : Nat} {xs : Nat → Int32} {d cb sb : Nat} {Q : Option Value → AH → Prop} (hd : 86 ≤ d)  {h : AH} (k : ok (f_L_law S Ls xs  h) (fun w h' => Q (some (.int w)) h')) : WP S (M_law Ls xs) d (cb + 1652) (sb + 269462) Q 0 [.double 0, JK, JK, JK] [] h := by
  obtain ⟨d, rfl, he⟩ := dp (L := 85) hd
  unfold f_L_law at k
  replace k := ok_bind k
  obtain ⟨⟨p_3, h_1⟩, e_2, k⟩ := k
  try dsimp only at k
  refine wq_new (cb := (cb + 1651)) (sb := (sb + 269442)) nw_L_7 (n := 20) rfl dL_law_0 e_2 ?_
  refine wp_dupR dL_law_3 ?_
  refine wp_callI0 (N := M_X10_init) (cb := (cb + 1572)) (sb := (sb + 264559)) mf_X10_init rfl mi_X10_init rfl ml_L_9 dL_law_4 (by exact Nat.le_of_ble_eq_true rfl) (c_X10_init (Nat.le_trans (by decide) he) (ok_mono (ok_bind2 k) fun _ h_4 k => ?_))
  try dsimp only at k
  refine wp_astore_n dL_law_7 (by exact Nat.le_of_ble_eq_true rfl) (L1 := [_, _, _, _]) rfl ?_
  replace k := ok_bind k
  obtain ⟨⟨p_8, h_6⟩, e_7, k⟩ := k
  try dsimp only at k
  refine wq_new (cb := (cb + 1571)) (sb := (sb + 264501)) nw_L_10 (n := 58) rfl dL_law_8 e_7 ?_
  refine wp_dupR dL_law_11 ?_
  refine wp_callI0 (N := M_X11_init) (cb := (cb + 1542)) (sb := (sb + 244664)) mf_X11_init rfl mi_X11_init rfl ml_L_12 dL_law_12 (by exact Nat.le_of_ble_eq_true rfl) (c_X11_init (Nat.le_trans (by decide) he) (ok_mono (ok_bind2 k) fun _ h_9 k => ?_))
  try dsimp only at k
  refine wp_astore_n dL_law_15 (by exact Nat.le_of_ble_eq_true rfl) (L1 := [_, _, _, _]) rfl ?_
  refine wp_iconst dL_law_16 ic_0 ?_
  refine wp_istore_n dL_law_17 (by exact Nat.le_of_ble_eq_true rfl) (L1 := [_, _, _, _]) rfl ?_
  refine wp_wk (wkE <| wkE <| wkE <| wkE <| wkN) ?_
  refine s_L_loop (cb := cb) (sb := sb) (Nat.succ_le_succ he) (fun w h' k => ?_) (fun h' k => ?_) 514 _ _ _ _ (ok_bind2 k)
  · try dsimp only at k
    exact (ok_some k :)
  · try dsimp only at k
    refine wp_iconst dL_law_1282 ic_1 ?_
    refine wp_iret rfl rfl dL_law_1283 ?_
    exact (ok_some k :)

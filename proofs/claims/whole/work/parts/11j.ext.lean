def f_X11_readPlain (S : SH) (r0 : Nat) (h : AH) : Option (Int32 × AH) :=
  (ckO S h r0 11).bind fun _ =>
  (f_X11_isWord S r0 (14836 : Int64) h).bind fun z => match z with
  | (z_3, h_2) =>
  if z_3 = (0 : Int32) then
    (ckO S h_2 r0 11).bind fun _ =>
    (f_X11_isSign S r0 (40 : Int32) h_2).bind fun z => match z with
    | (z_7, h_6) =>
    if z_7 = (0 : Int32) then
      (ckO S h_6 r0 11).bind fun _ =>
      (f_X11_readPart S r0 h_6).bind fun z => match z with
      | (z_11, h_10) =>
      some (z_11, h_10)
    else
      (ckO S h_6 r0 11).bind fun _ =>
      (f_X11_openBracket S r0 (31 : Int32) h_6).bind fun z => match z with
      | (_, h_13) =>
      some ((0 : Int32), h_13)
  else
    (ckO S h_2 r0 11).bind fun _ =>
    (f_X11_push S r0 (28 : Int32) (0 : Int32) h_2).bind fun z => match z with
    | (_, h_16) =>
    (ckO S h_16 r0 11).bind fun _ =>
    (f_X11_next S r0 h_16).bind fun z => match z with
    | (_, h_19) =>
    some ((0 : Int32), h_19)
set_option maxHeartbeats 8000000 in
set_option maxRecDepth 20000 in
theorem s_X11_readPlain {S : SH} {d cb sb : Nat} {Q : Option Value → AH → Prop} (hd : 5 ≤ d)  {r0 : Nat} {h : AH} (k : ok (f_X11_readPlain S r0 h) (fun w h' => Q (some (.int w)) h')) : WP S M_X11_readPlain d cb sb Q 0 [.ref r0] [] h := by
  obtain ⟨d, rfl, he⟩ := dp (L := 4) hd
  unfold f_X11_readPlain at k
  refine wp_aload_n dX11_readPlain_0 rfl ?_
  refine wp_ldc2 ct_X11_353 dX11_readPlain_1 ?_
  replace k := ok_bind k
  obtain ⟨u, e_1, k⟩ := k
  refine wp_callV1 (N := M_X11_isWord) (ci := 11) mf_X11_isWord mi_X11_isWord me_X11_isWord ml_X11_312 dX11_readPlain_4 (ckO_e e_1) mv_X11_isWord (by exact Nat.le_of_ble_eq_true rfl) (c_X11_isWord (Nat.le_trans (by decide) he) (ok_mono (ok_bind2 k) fun z_3 h_2 k => ?_))
  try dsimp only at k
  refine wp_if_eq 23 dX11_readPlain_7 (by decide) (fun c_4 => ?_) (fun c_4 => ?_)
  · replace k := ok_t c_4 k
    refine wp_aload_n dX11_readPlain_23 rfl ?_
    refine wp_bipush dX11_readPlain_24 bp_40 ?_
    replace k := ok_bind k
    obtain ⟨u, e_5, k⟩ := k
    refine wp_callV1 (N := M_X11_isSign) (ci := 11) mf_X11_isSign mi_X11_isSign me_X11_isSign ml_X11_325 dX11_readPlain_26 (ckO_e e_5) mv_X11_isSign (by exact Nat.le_of_ble_eq_true rfl) (c_X11_isSign (Nat.le_trans (by decide) he) (ok_mono (ok_bind2 k) fun z_7 h_6 k => ?_))
    try dsimp only at k
    refine wp_if_eq 40 dX11_readPlain_29 (by decide) (fun c_8 => ?_) (fun c_8 => ?_)
    · replace k := ok_t c_8 k
      refine wp_aload_n dX11_readPlain_40 rfl ?_
      replace k := ok_bind k
      obtain ⟨u, e_9, k⟩ := k
      refine wp_callV0 (N := M_X11_readPart) (ci := 11) mf_X11_readPart mi_X11_readPart me_X11_readPart ml_X11_355 dX11_readPlain_41 (ckO_e e_9) mv_X11_readPart (by exact Nat.le_of_ble_eq_true rfl) (c_X11_readPart (Nat.le_trans (by decide) he) (ok_mono (ok_bind2 k) fun z_11 h_10 k => ?_))
      try dsimp only at k
      refine wp_iret rfl rfl dX11_readPlain_44 ?_
      exact (ok_some k :)
    · replace k := ok_f c_8 k
      refine wp_aload_n dX11_readPlain_32 rfl ?_
      refine wp_bipush dX11_readPlain_33 bp_31 ?_
      replace k := ok_bind k
      obtain ⟨u, e_12, k⟩ := k
      refine wp_callV1 (N := M_X11_openBracket) (ci := 11) mf_X11_openBracket mi_X11_openBracket me_X11_openBracket ml_X11_328 dX11_readPlain_35 (ckO_e e_12) mv_X11_openBracket (by exact Nat.le_of_ble_eq_true rfl) (c_X11_openBracket (Nat.le_trans (by decide) he) (ok_mono (ok_bind2 k) fun _ h_13 k => ?_))
      try dsimp only at k
      refine wp_iconst dX11_readPlain_38 ic_0 ?_
      refine wp_iret rfl rfl dX11_readPlain_39 ?_
      exact (ok_some k :)
  · replace k := ok_f c_4 k
    refine wp_aload_n dX11_readPlain_10 rfl ?_
    refine wp_bipush dX11_readPlain_11 bp_28 ?_
    refine wp_iconst dX11_readPlain_13 ic_0 ?_
    replace k := ok_bind k
    obtain ⟨u, e_15, k⟩ := k
    refine wp_callV2 (N := M_X11_push) (ci := 11) mf_X11_push mi_X11_push me_X11_push ml_X11_319 dX11_readPlain_14 (ckO_e e_15) mv_X11_push (by exact Nat.le_of_ble_eq_true rfl) (c_X11_push (Nat.le_trans (by decide) he) (ok_mono (ok_bind2 k) fun _ h_16 k => ?_))
    try dsimp only at k
    refine wp_aload_n dX11_readPlain_17 rfl ?_
    replace k := ok_bind k
    obtain ⟨u, e_18, k⟩ := k
    refine wp_callV0 (N := M_X11_next) (ci := 11) mf_X11_next mi_X11_next me_X11_next ml_X11_262 dX11_readPlain_18 (ckO_e e_18) mv_X11_next (by exact Nat.le_of_ble_eq_true rfl) (c_X11_next (Nat.le_trans (by decide) he) (ok_mono (ok_bind2 k) fun _ h_19 k => ?_))
    try dsimp only at k
    refine wp_iconst dX11_readPlain_21 ic_0 ?_
    refine wp_iret rfl rfl dX11_readPlain_22 ?_
    exact (ok_some k :)
theorem c_X11_readPlain {S : SH} {d : Nat} {K : Option Value → AH → Prop} (hd : 5 ≤ d)  {r0 : Nat} {h : AH} (k : ok (f_X11_readPlain S r0 h) (fun w h' => K (some (.int w)) h')) : CP S M_X11_readPlain d 0 0 [.ref r0] h K := cp_of (by decide) (fun _ _ => trivial) (fun _ => Nat.le_of_ble_eq_true rfl) (s_X11_readPlain hd  k)
def f_X11_behindSum_j224 (S : SH) (r0 : Nat) (x2 : Int32) (sr0 : Nat) (sx1 : Int32) (h : AH) : Option (Int32 × AH) :=
  (ckO S h sr0 11).bind fun _ =>
  (f_X11_must S sr0 sx1 h).bind fun z => match z with
  | (_, h_2) =>
  (gI S h_2 r0 11 19).bind fun v_4 =>
  if v_4 = (0 : Int32) then
    (ckO S h_2 r0 11).bind fun _ =>
    (f_X11_settle S r0 (5 : Int32) h_2).bind fun z => match z with
    | (_, h_8) =>
    (ckO S h_8 r0 11).bind fun _ =>
    (f_X11_push S r0 x2 (0 : Int32) h_8).bind fun z => match z with
    | (_, h_11) =>
    some ((1 : Int32), h_11)
  else
    some ((1 : Int32), h_2)
set_option maxHeartbeats 8000000 in
set_option maxRecDepth 20000 in
theorem s_X11_behindSum_j224 {S : SH} {d cb sb : Nat} {Q : Option Value → AH → Prop} (hd : 3 ≤ d)  {r0 : Nat} {x2 : Int32} {sr0 : Nat} {sx1 : Int32} {h : AH} (k : ok (f_X11_behindSum_j224 S r0 x2 sr0 sx1 h) (fun w h' => Q (some (.int w)) h')) : WP S M_X11_behindSum d cb sb Q 224 [.ref r0, JK, .int x2, JK] [.int sx1, .ref sr0] h := by
  obtain ⟨d, rfl, he⟩ := dp (L := 2) hd
  unfold f_X11_behindSum_j224 at k
  replace k := ok_bind k
  obtain ⟨u, e_1, k⟩ := k
  refine wp_callV1 (N := M_X11_must) (ci := 11) mf_X11_must mi_X11_must me_X11_must ml_X11_289 dX11_behindSum_224 (ckO_e e_1) mv_X11_must (by exact Nat.le_of_ble_eq_true rfl) (c_X11_must (Nat.le_trans (by decide) he) (ok_mono (ok_bind2 k) fun _ h_2 k => ?_))
  try dsimp only at k
  refine wp_aload_n dX11_behindSum_227 rfl ?_
  replace k := ok_bind k
  obtain ⟨v_4, e_5, k⟩ := k
  refine wq_getI fl_X11_258 (Or.inr rfl) dX11_behindSum_228 e_5 ?_
  refine wp_if_ne 245 dX11_behindSum_231 (by decide) (fun c_6 => ?_) (fun c_6 => ?_)
  · replace k := ok_f c_6 k
    refine wp_iconst dX11_behindSum_245 ic_1 ?_
    refine wp_iret rfl rfl dX11_behindSum_246 ?_
    exact (ok_some k :)
  · replace k := ok_t c_6 k
    refine wp_aload_n dX11_behindSum_234 rfl ?_
    refine wp_iconst dX11_behindSum_235 ic_5 ?_
    replace k := ok_bind k
    obtain ⟨u, e_7, k⟩ := k
    refine wp_callV1 (N := M_X11_settle) (ci := 11) mf_X11_settle mi_X11_settle me_X11_settle ml_X11_358 dX11_behindSum_236 (ckO_e e_7) mv_X11_settle (by exact Nat.le_of_ble_eq_true rfl) (c_X11_settle (Nat.le_trans (by decide) he) (ok_mono (ok_bind2 k) fun _ h_8 k => ?_))
    try dsimp only at k
    refine wp_aload_n dX11_behindSum_239 rfl ?_
    refine wp_iload_n dX11_behindSum_240 rfl ?_
    refine wp_iconst dX11_behindSum_241 ic_0 ?_
    replace k := ok_bind k
    obtain ⟨u, e_10, k⟩ := k
    refine wp_callV2 (N := M_X11_push) (ci := 11) mf_X11_push mi_X11_push me_X11_push ml_X11_319 dX11_behindSum_242 (ckO_e e_10) mv_X11_push (by exact Nat.le_of_ble_eq_true rfl) (c_X11_push (Nat.le_trans (by decide) he) (ok_mono (ok_bind2 k) fun _ h_11 k => ?_))
    try dsimp only at k
    refine wp_iconst dX11_behindSum_245 ic_1 ?_
    refine wp_iret rfl rfl dX11_behindSum_246 ?_
    exact (ok_some k :)
def f_X11_behindSum_j219 (S : SH) (r0 : Nat) (x2 : Int32) (sr0 : Nat) (h : AH) : Option (Int32 × AH) :=
  f_X11_behindSum_j224 S r0 x2 sr0 (1 : Int32) h
set_option maxHeartbeats 8000000 in
set_option maxRecDepth 20000 in
theorem s_X11_behindSum_j219 {S : SH} {d cb sb : Nat} {Q : Option Value → AH → Prop} (hd : 3 ≤ d)  {r0 : Nat} {x2 : Int32} {sr0 : Nat} {h : AH} (k : ok (f_X11_behindSum_j219 S r0 x2 sr0 h) (fun w h' => Q (some (.int w)) h')) : WP S M_X11_behindSum d cb sb Q 219 [.ref r0, JK, .int x2, JK] [.ref sr0] h := by
  obtain ⟨d, rfl, he⟩ := dp (L := 2) hd
  unfold f_X11_behindSum_j219 at k
  refine wp_iconst dX11_behindSum_219 ic_1 ?_
  refine wp_goto 224 dX11_behindSum_220 (by decide) ?_
  exact wp_wk (wkE <| wkJ <| wkE <| wkJ <| wkN) (s_X11_behindSum_j224 (Nat.succ_le_succ he)  k)
def f_X11_behindSum_j202 (S : SH) (r0 : Nat) (sx0 : Int32) (h : AH) : Option (Int32 × AH) :=
  if sx0 = (27 : Int32) then
    (ckO S h r0 11).bind fun _ =>
    (f_X11_isSign S r0 (61 : Int32) h).bind fun z => match z with
    | (z_4, h_3) =>
    if z_4 = (0 : Int32) then
      f_X11_behindSum_j224 S r0 sx0 r0 (0 : Int32) h_3
    else
      f_X11_behindSum_j219 S r0 sx0 r0 h_3
  else
    f_X11_behindSum_j219 S r0 sx0 r0 h
set_option maxHeartbeats 8000000 in
set_option maxRecDepth 20000 in
theorem s_X11_behindSum_j202 {S : SH} {d cb sb : Nat} {Q : Option Value → AH → Prop} (hd : 3 ≤ d)  {r0 : Nat} {sx0 : Int32} {h : AH} (k : ok (f_X11_behindSum_j202 S r0 sx0 h) (fun w h' => Q (some (.int w)) h')) : WP S M_X11_behindSum d cb sb Q 202 [.ref r0, JK, JK, JK] [.int sx0] h := by
  obtain ⟨d, rfl, he⟩ := dp (L := 2) hd
  unfold f_X11_behindSum_j202 at k
  refine wp_istore_n dX11_behindSum_202 (by decide) (L1 := [_, _, _, _]) rfl ?_
  refine wp_aload_n dX11_behindSum_203 rfl ?_
  refine wp_iload_n dX11_behindSum_204 rfl ?_
  refine wp_bipush dX11_behindSum_205 bp_27 ?_
  refine wp_icmp_ne 219 dX11_behindSum_207 (by decide) (fun c_1 => ?_) (fun c_1 => ?_)
  · replace k := ok_f c_1 k
    exact wp_wk (wkE <| wkJ <| wkE <| wkJ <| wkN) (s_X11_behindSum_j219 (Nat.succ_le_succ he)  k)
  · replace k := ok_t c_1 k
    refine wp_aload_n dX11_behindSum_210 rfl ?_
    refine wp_bipush dX11_behindSum_211 bp_61 ?_
    replace k := ok_bind k
    obtain ⟨u, e_2, k⟩ := k
    refine wp_callV1 (N := M_X11_isSign) (ci := 11) mf_X11_isSign mi_X11_isSign me_X11_isSign ml_X11_325 dX11_behindSum_213 (ckO_e e_2) mv_X11_isSign (by exact Nat.le_of_ble_eq_true rfl) (c_X11_isSign (Nat.le_trans (by decide) he) (ok_mono (ok_bind2 k) fun z_4 h_3 k => ?_))
    try dsimp only at k
    refine wp_if_eq 223 dX11_behindSum_216 (by decide) (fun c_5 => ?_) (fun c_5 => ?_)
    · replace k := ok_t c_5 k
      refine wp_iconst dX11_behindSum_223 ic_0 ?_
      exact wp_wk (wkE <| wkJ <| wkE <| wkJ <| wkN) (s_X11_behindSum_j224 (Nat.succ_le_succ he)  k)
    · replace k := ok_f c_5 k
      exact wp_wk (wkE <| wkJ <| wkE <| wkJ <| wkN) (s_X11_behindSum_j219 (Nat.succ_le_succ he)  k)
def f_X11_behindSum_j163 (S : SH) (r0 : Nat) (h : AH) : Option (Int32 × AH) :=
  (ckO S h r0 11).bind fun _ =>
  (f_X11_isCompared S r0 h).bind fun z => match z with
  | (z_3, h_2) =>
  if z_3 = (0 : Int32) then
    (ckO S h_2 r0 11).bind fun _ =>
    (f_X11_isSign S r0 (60 : Int32) h_2).bind fun z => match z with
    | (z_7, h_6) =>
    if z_7 = (0 : Int32) then
      (ckO S h_6 r0 11).bind fun _ =>
      (f_X11_isSign S r0 (62 : Int32) h_6).bind fun z => match z with
      | (z_11, h_10) =>
      if z_11 = (0 : Int32) then
        f_X11_behindSum_j202 S r0 (27 : Int32) h_10
      else
        f_X11_behindSum_j202 S r0 (26 : Int32) h_10
    else
      f_X11_behindSum_j202 S r0 (25 : Int32) h_6
  else
    some ((2 : Int32), h_2)
set_option maxHeartbeats 8000000 in
set_option maxRecDepth 20000 in
theorem s_X11_behindSum_j163 {S : SH} {d cb sb : Nat} {Q : Option Value → AH → Prop} (hd : 3 ≤ d)  {r0 : Nat} {h : AH} (k : ok (f_X11_behindSum_j163 S r0 h) (fun w h' => Q (some (.int w)) h')) : WP S M_X11_behindSum d cb sb Q 163 [.ref r0, JK, JK, JK] [] h := by
  obtain ⟨d, rfl, he⟩ := dp (L := 2) hd
  unfold f_X11_behindSum_j163 at k
  refine wp_aload_n dX11_behindSum_163 rfl ?_
  replace k := ok_bind k
  obtain ⟨u, e_1, k⟩ := k
  refine wp_callV0 (N := M_X11_isCompared) (ci := 11) mf_X11_isCompared mi_X11_isCompared me_X11_isCompared ml_X11_364 dX11_behindSum_164 (ckO_e e_1) mv_X11_isCompared (by exact Nat.le_of_ble_eq_true rfl) (c_X11_isCompared (Nat.le_trans (by decide) he) (ok_mono (ok_bind2 k) fun z_3 h_2 k => ?_))
  try dsimp only at k
  refine wp_if_eq 172 dX11_behindSum_167 (by decide) (fun c_4 => ?_) (fun c_4 => ?_)
  · replace k := ok_t c_4 k
    refine wp_aload_n dX11_behindSum_172 rfl ?_
    refine wp_bipush dX11_behindSum_173 bp_60 ?_
    replace k := ok_bind k
    obtain ⟨u, e_5, k⟩ := k
    refine wp_callV1 (N := M_X11_isSign) (ci := 11) mf_X11_isSign mi_X11_isSign me_X11_isSign ml_X11_325 dX11_behindSum_175 (ckO_e e_5) mv_X11_isSign (by exact Nat.le_of_ble_eq_true rfl) (c_X11_isSign (Nat.le_trans (by decide) he) (ok_mono (ok_bind2 k) fun z_7 h_6 k => ?_))
    try dsimp only at k
    refine wp_if_eq 186 dX11_behindSum_178 (by decide) (fun c_8 => ?_) (fun c_8 => ?_)
    · replace k := ok_t c_8 k
      refine wp_aload_n dX11_behindSum_186 rfl ?_
      refine wp_bipush dX11_behindSum_187 bp_62 ?_
      replace k := ok_bind k
      obtain ⟨u, e_9, k⟩ := k
      refine wp_callV1 (N := M_X11_isSign) (ci := 11) mf_X11_isSign mi_X11_isSign me_X11_isSign ml_X11_325 dX11_behindSum_189 (ckO_e e_9) mv_X11_isSign (by exact Nat.le_of_ble_eq_true rfl) (c_X11_isSign (Nat.le_trans (by decide) he) (ok_mono (ok_bind2 k) fun z_11 h_10 k => ?_))
      try dsimp only at k
      refine wp_if_eq 200 dX11_behindSum_192 (by decide) (fun c_12 => ?_) (fun c_12 => ?_)
      · replace k := ok_t c_12 k
        refine wp_bipush dX11_behindSum_200 bp_27 ?_
        exact wp_wk (wkE <| wkJ <| wkJ <| wkJ <| wkN) (s_X11_behindSum_j202 (Nat.succ_le_succ he)  k)
      · replace k := ok_f c_12 k
        refine wp_bipush dX11_behindSum_195 bp_26 ?_
        refine wp_goto 202 dX11_behindSum_197 (by decide) ?_
        exact wp_wk (wkE <| wkJ <| wkJ <| wkJ <| wkN) (s_X11_behindSum_j202 (Nat.succ_le_succ he)  k)
    · replace k := ok_f c_8 k
      refine wp_bipush dX11_behindSum_181 bp_25 ?_
      refine wp_goto 202 dX11_behindSum_183 (by decide) ?_
      exact wp_wk (wkE <| wkJ <| wkJ <| wkJ <| wkN) (s_X11_behindSum_j202 (Nat.succ_le_succ he)  k)
  · replace k := ok_f c_4 k
    refine wp_iconst dX11_behindSum_170 ic_2 ?_
    refine wp_iret rfl rfl dX11_behindSum_171 ?_
    exact (ok_some k :)
def f_X11_behindSum_j71 (S : SH) (r0 : Nat) (x1 : Int32) (sx0 : Int32) (h : AH) : Option (Int32 × AH) :=
  if sx0 = (-1 : Int32) then
    (ckO S h r0 11).bind fun _ =>
    (f_X11_inner S r0 h).bind fun z => match z with
    | (z_4, h_3) =>
    if z_4 = (32 : Int32) then
      (ckO S h_3 r0 11).bind fun _ =>
      (f_X11_isSign S r0 (93 : Int32) h_3).bind fun z => match z with
      | (z_10, h_9) =>
      (ckO S h_9 r0 11).bind fun _ =>
      (f_X11_must S r0 z_10 h_9).bind fun z => match z with
      | (_, h_12) =>
      (gI S h_12 r0 11 19).bind fun v_14 =>
      if v_14 = (0 : Int32) then
        (ckO S h_12 r0 11).bind fun _ =>
        (f_X11_settle S r0 (5 : Int32) h_12).bind fun z => match z with
        | (_, h_18) =>
        (gI S h_18 r0 11 29).bind fun v_20 =>
        (pI S h_18 r0 11 29 (v_20 - (1 : Int32))).bind fun h_22 =>
        (gI S h_22 r0 11 30).bind fun v_24 =>
        (pI S h_22 r0 11 30 (v_24 - (1 : Int32))).bind fun h_26 =>
        some ((3 : Int32), h_26)
      else
        some ((3 : Int32), h_12)
    else
      if z_4 = (-1 : Int32) then
        if x1 = (0 : Int32) then
          some ((4 : Int32), h_3)
        else
          f_X11_behindSum_j163 S r0 h_3
      else
        f_X11_behindSum_j163 S r0 h_3
  else
    (f_X11_binds S sx0 h).bind fun z => match z with
    | (z_29, h_28) =>
    (ckO S h_28 r0 11).bind fun _ =>
    (f_X11_settle S r0 z_29 h_28).bind fun z => match z with
    | (_, h_31) =>
    (ckO S h_31 r0 11).bind fun _ =>
    (f_X11_push S r0 sx0 (0 : Int32) h_31).bind fun z => match z with
    | (_, h_34) =>
    (ckO S h_34 r0 11).bind fun _ =>
    (f_X11_next S r0 h_34).bind fun z => match z with
    | (_, h_37) =>
    some ((1 : Int32), h_37)
set_option maxHeartbeats 8000000 in
set_option maxRecDepth 20000 in
theorem s_X11_behindSum_j71 {S : SH} {d cb sb : Nat} {Q : Option Value → AH → Prop} (hd : 3 ≤ d)  {r0 : Nat} {x1 : Int32} {sx0 : Int32} {h : AH} (k : ok (f_X11_behindSum_j71 S r0 x1 sx0 h) (fun w h' => Q (some (.int w)) h')) : WP S M_X11_behindSum d cb sb Q 71 [.ref r0, .int x1, JK, JK] [.int sx0] h := by
  obtain ⟨d, rfl, he⟩ := dp (L := 2) hd
  unfold f_X11_behindSum_j71 at k
  refine wp_istore_n dX11_behindSum_71 (by decide) (L1 := [_, _, _, _]) rfl ?_
  refine wp_iload_n dX11_behindSum_72 rfl ?_
  refine wp_iconst dX11_behindSum_73 ic_m1 ?_
  refine wp_icmp_eq 97 dX11_behindSum_74 (by decide) (fun c_1 => ?_) (fun c_1 => ?_)
  · replace k := ok_t c_1 k
    refine wp_aload_n dX11_behindSum_97 rfl ?_
    replace k := ok_bind k
    obtain ⟨u, e_2, k⟩ := k
    refine wp_callV0 (N := M_X11_inner) (ci := 11) mf_X11_inner mi_X11_inner me_X11_inner ml_X11_361 dX11_behindSum_98 (ckO_e e_2) mv_X11_inner (by exact Nat.le_of_ble_eq_true rfl) (c_X11_inner (Nat.le_trans (by decide) he) (ok_mono (ok_bind2 k) fun z_4 h_3 k => ?_))
    try dsimp only at k
    refine wp_istore_n dX11_behindSum_101 (by decide) (L1 := [_, _, _, _]) rfl ?_
    refine wp_iload_n dX11_behindSum_102 rfl ?_
    refine wp_bipush dX11_behindSum_103 bp_32 ?_
    refine wp_icmp_ne 152 dX11_behindSum_105 (by decide) (fun c_5 => ?_) (fun c_5 => ?_)
    · replace k := ok_f c_5 k
      refine wp_iload_n dX11_behindSum_152 rfl ?_
      refine wp_iconst dX11_behindSum_153 ic_m1 ?_
      refine wp_icmp_ne 163 dX11_behindSum_154 (by decide) (fun c_6 => ?_) (fun c_6 => ?_)
      · replace k := ok_f c_6 k
        exact wp_wk (wkE <| wkJ <| wkJ <| wkJ <| wkN) (s_X11_behindSum_j163 (Nat.succ_le_succ he)  k)
      · replace k := ok_t c_6 k
        refine wp_iload_n dX11_behindSum_157 rfl ?_
        refine wp_if_ne 163 dX11_behindSum_158 (by decide) (fun c_7 => ?_) (fun c_7 => ?_)
        · replace k := ok_f c_7 k
          exact wp_wk (wkE <| wkJ <| wkJ <| wkJ <| wkN) (s_X11_behindSum_j163 (Nat.succ_le_succ he)  k)
        · replace k := ok_t c_7 k
          refine wp_iconst dX11_behindSum_161 ic_4 ?_
          refine wp_iret rfl rfl dX11_behindSum_162 ?_
          exact (ok_some k :)
    · replace k := ok_t c_5 k
      refine wp_aload_n dX11_behindSum_108 rfl ?_
      refine wp_aload_n dX11_behindSum_109 rfl ?_
      refine wp_bipush dX11_behindSum_110 bp_93 ?_
      replace k := ok_bind k
      obtain ⟨u, e_8, k⟩ := k
      refine wp_callV1 (N := M_X11_isSign) (ci := 11) mf_X11_isSign mi_X11_isSign me_X11_isSign ml_X11_325 dX11_behindSum_112 (ckO_e e_8) mv_X11_isSign (by exact Nat.le_of_ble_eq_true rfl) (c_X11_isSign (Nat.le_trans (by decide) he) (ok_mono (ok_bind2 k) fun z_10 h_9 k => ?_))
      try dsimp only at k
      replace k := ok_bind k
      obtain ⟨u, e_11, k⟩ := k
      refine wp_callV1 (N := M_X11_must) (ci := 11) mf_X11_must mi_X11_must me_X11_must ml_X11_289 dX11_behindSum_115 (ckO_e e_11) mv_X11_must (by exact Nat.le_of_ble_eq_true rfl) (c_X11_must (Nat.le_trans (by decide) he) (ok_mono (ok_bind2 k) fun _ h_12 k => ?_))
      try dsimp only at k
      refine wp_aload_n dX11_behindSum_118 rfl ?_
      replace k := ok_bind k
      obtain ⟨v_14, e_15, k⟩ := k
      refine wq_getI fl_X11_258 (Or.inr rfl) dX11_behindSum_119 e_15 ?_
      refine wp_if_ne 150 dX11_behindSum_122 (by decide) (fun c_16 => ?_) (fun c_16 => ?_)
      · replace k := ok_f c_16 k
        refine wp_iconst dX11_behindSum_150 ic_3 ?_
        refine wp_iret rfl rfl dX11_behindSum_151 ?_
        exact (ok_some k :)
      · replace k := ok_t c_16 k
        refine wp_aload_n dX11_behindSum_125 rfl ?_
        refine wp_iconst dX11_behindSum_126 ic_5 ?_
        replace k := ok_bind k
        obtain ⟨u, e_17, k⟩ := k
        refine wp_callV1 (N := M_X11_settle) (ci := 11) mf_X11_settle mi_X11_settle me_X11_settle ml_X11_358 dX11_behindSum_127 (ckO_e e_17) mv_X11_settle (by exact Nat.le_of_ble_eq_true rfl) (c_X11_settle (Nat.le_trans (by decide) he) (ok_mono (ok_bind2 k) fun _ h_18 k => ?_))
        try dsimp only at k
        refine wp_aload_n dX11_behindSum_130 rfl ?_
        refine wp_dupR dX11_behindSum_131 ?_
        replace k := ok_bind k
        obtain ⟨v_20, e_21, k⟩ := k
        refine wq_getI fl_X11_296 (Or.inl rfl) dX11_behindSum_132 e_21 ?_
        refine wp_iconst dX11_behindSum_135 ic_1 ?_
        refine wp_isub dX11_behindSum_136 ?_
        replace k := ok_bind k
        obtain ⟨h_22, e_23, k⟩ := k
        refine wq_putI fl_X11_296 rfl rfl dX11_behindSum_137 e_23 ?_
        refine wp_aload_n dX11_behindSum_140 rfl ?_
        refine wp_dupR dX11_behindSum_141 ?_
        replace k := ok_bind k
        obtain ⟨v_24, e_25, k⟩ := k
        refine wq_getI fl_X11_316 (Or.inl rfl) dX11_behindSum_142 e_25 ?_
        refine wp_iconst dX11_behindSum_145 ic_1 ?_
        refine wp_isub dX11_behindSum_146 ?_
        replace k := ok_bind k
        obtain ⟨h_26, e_27, k⟩ := k
        refine wq_putI fl_X11_316 rfl rfl dX11_behindSum_147 e_27 ?_
        refine wp_iconst dX11_behindSum_150 ic_3 ?_
        refine wp_iret rfl rfl dX11_behindSum_151 ?_
        exact (ok_some k :)
  · replace k := ok_f c_1 k
    refine wp_aload_n dX11_behindSum_77 rfl ?_
    refine wp_iload_n dX11_behindSum_78 rfl ?_
    refine wp_callS1 (N := M_X11_binds) mf_X11_binds ms_X11_binds ml_X11_299 dX11_behindSum_79 (by exact Nat.le_of_ble_eq_true rfl) (c_X11_binds (Nat.le_trans (by decide) he) (ok_mono (ok_bind2 k) fun z_29 h_28 k => ?_))
    try dsimp only at k
    replace k := ok_bind k
    obtain ⟨u, e_30, k⟩ := k
    refine wp_callV1 (N := M_X11_settle) (ci := 11) mf_X11_settle mi_X11_settle me_X11_settle ml_X11_358 dX11_behindSum_82 (ckO_e e_30) mv_X11_settle (by exact Nat.le_of_ble_eq_true rfl) (c_X11_settle (Nat.le_trans (by decide) he) (ok_mono (ok_bind2 k) fun _ h_31 k => ?_))
    try dsimp only at k
    refine wp_aload_n dX11_behindSum_85 rfl ?_
    refine wp_iload_n dX11_behindSum_86 rfl ?_
    refine wp_iconst dX11_behindSum_87 ic_0 ?_
    replace k := ok_bind k
    obtain ⟨u, e_33, k⟩ := k
    refine wp_callV2 (N := M_X11_push) (ci := 11) mf_X11_push mi_X11_push me_X11_push ml_X11_319 dX11_behindSum_88 (ckO_e e_33) mv_X11_push (by exact Nat.le_of_ble_eq_true rfl) (c_X11_push (Nat.le_trans (by decide) he) (ok_mono (ok_bind2 k) fun _ h_34 k => ?_))
    try dsimp only at k
    refine wp_aload_n dX11_behindSum_91 rfl ?_
    replace k := ok_bind k
    obtain ⟨u, e_36, k⟩ := k
    refine wp_callV0 (N := M_X11_next) (ci := 11) mf_X11_next mi_X11_next me_X11_next ml_X11_262 dX11_behindSum_92 (ckO_e e_36) mv_X11_next (by exact Nat.le_of_ble_eq_true rfl) (c_X11_next (Nat.le_trans (by decide) he) (ok_mono (ok_bind2 k) fun _ h_37 k => ?_))
    try dsimp only at k
    refine wp_iconst dX11_behindSum_95 ic_1 ?_
    refine wp_iret rfl rfl dX11_behindSum_96 ?_
    exact (ok_some k :)
def f_X11_behindSum (S : SH) (r0 : Nat) (x1 : Int32) (h : AH) : Option (Int32 × AH) :=
  (ckO S h r0 11).bind fun _ =>
  (f_X11_isSign S r0 (43 : Int32) h).bind fun z => match z with
  | (z_3, h_2) =>
  if z_3 = (0 : Int32) then
    (ckO S h_2 r0 11).bind fun _ =>
    (f_X11_isSign S r0 (45 : Int32) h_2).bind fun z => match z with
    | (z_7, h_6) =>
    if z_7 = (0 : Int32) then
      (ckO S h_6 r0 11).bind fun _ =>
      (f_X11_isSign S r0 (42 : Int32) h_6).bind fun z => match z with
      | (z_11, h_10) =>
      if z_11 = (0 : Int32) then
        (ckO S h_10 r0 11).bind fun _ =>
        (f_X11_isSign S r0 (47 : Int32) h_10).bind fun z => match z with
        | (z_15, h_14) =>
        if z_15 = (0 : Int32) then
          (ckO S h_14 r0 11).bind fun _ =>
          (f_X11_isSign S r0 (37 : Int32) h_14).bind fun z => match z with
          | (z_19, h_18) =>
          if z_19 = (0 : Int32) then
            f_X11_behindSum_j71 S r0 x1 (-1 : Int32) h_18
          else
            f_X11_behindSum_j71 S r0 x1 (24 : Int32) h_18
        else
          f_X11_behindSum_j71 S r0 x1 (23 : Int32) h_14
      else
        f_X11_behindSum_j71 S r0 x1 (22 : Int32) h_10
    else
      f_X11_behindSum_j71 S r0 x1 (21 : Int32) h_6
  else
    f_X11_behindSum_j71 S r0 x1 (20 : Int32) h_2
set_option maxHeartbeats 8000000 in
set_option maxRecDepth 20000 in
theorem s_X11_behindSum {S : SH} {d cb sb : Nat} {Q : Option Value → AH → Prop} (hd : 3 ≤ d)  {r0 : Nat} {x1 : Int32} {h : AH} (k : ok (f_X11_behindSum S r0 x1 h) (fun w h' => Q (some (.int w)) h')) : WP S M_X11_behindSum d cb sb Q 0 [.ref r0, .int x1, JK, JK] [] h := by
  obtain ⟨d, rfl, he⟩ := dp (L := 2) hd
  unfold f_X11_behindSum at k
  refine wp_aload_n dX11_behindSum_0 rfl ?_
  refine wp_bipush dX11_behindSum_1 bp_43 ?_
  replace k := ok_bind k
  obtain ⟨u, e_1, k⟩ := k
  refine wp_callV1 (N := M_X11_isSign) (ci := 11) mf_X11_isSign mi_X11_isSign me_X11_isSign ml_X11_325 dX11_behindSum_3 (ckO_e e_1) mv_X11_isSign (by exact Nat.le_of_ble_eq_true rfl) (c_X11_isSign (Nat.le_trans (by decide) he) (ok_mono (ok_bind2 k) fun z_3 h_2 k => ?_))
  try dsimp only at k
  refine wp_if_eq 14 dX11_behindSum_6 (by decide) (fun c_4 => ?_) (fun c_4 => ?_)
  · replace k := ok_t c_4 k
    refine wp_aload_n dX11_behindSum_14 rfl ?_
    refine wp_bipush dX11_behindSum_15 bp_45 ?_
    replace k := ok_bind k
    obtain ⟨u, e_5, k⟩ := k
    refine wp_callV1 (N := M_X11_isSign) (ci := 11) mf_X11_isSign mi_X11_isSign me_X11_isSign ml_X11_325 dX11_behindSum_17 (ckO_e e_5) mv_X11_isSign (by exact Nat.le_of_ble_eq_true rfl) (c_X11_isSign (Nat.le_trans (by decide) he) (ok_mono (ok_bind2 k) fun z_7 h_6 k => ?_))
    try dsimp only at k
    refine wp_if_eq 28 dX11_behindSum_20 (by decide) (fun c_8 => ?_) (fun c_8 => ?_)
    · replace k := ok_t c_8 k
      refine wp_aload_n dX11_behindSum_28 rfl ?_
      refine wp_bipush dX11_behindSum_29 bp_42 ?_
      replace k := ok_bind k
      obtain ⟨u, e_9, k⟩ := k
      refine wp_callV1 (N := M_X11_isSign) (ci := 11) mf_X11_isSign mi_X11_isSign me_X11_isSign ml_X11_325 dX11_behindSum_31 (ckO_e e_9) mv_X11_isSign (by exact Nat.le_of_ble_eq_true rfl) (c_X11_isSign (Nat.le_trans (by decide) he) (ok_mono (ok_bind2 k) fun z_11 h_10 k => ?_))
      try dsimp only at k
      refine wp_if_eq 42 dX11_behindSum_34 (by decide) (fun c_12 => ?_) (fun c_12 => ?_)
      · replace k := ok_t c_12 k
        refine wp_aload_n dX11_behindSum_42 rfl ?_
        refine wp_bipush dX11_behindSum_43 bp_47 ?_
        replace k := ok_bind k
        obtain ⟨u, e_13, k⟩ := k
        refine wp_callV1 (N := M_X11_isSign) (ci := 11) mf_X11_isSign mi_X11_isSign me_X11_isSign ml_X11_325 dX11_behindSum_45 (ckO_e e_13) mv_X11_isSign (by exact Nat.le_of_ble_eq_true rfl) (c_X11_isSign (Nat.le_trans (by decide) he) (ok_mono (ok_bind2 k) fun z_15 h_14 k => ?_))
        try dsimp only at k
        refine wp_if_eq 56 dX11_behindSum_48 (by decide) (fun c_16 => ?_) (fun c_16 => ?_)
        · replace k := ok_t c_16 k
          refine wp_aload_n dX11_behindSum_56 rfl ?_
          refine wp_bipush dX11_behindSum_57 bp_37 ?_
          replace k := ok_bind k
          obtain ⟨u, e_17, k⟩ := k
          refine wp_callV1 (N := M_X11_isSign) (ci := 11) mf_X11_isSign mi_X11_isSign me_X11_isSign ml_X11_325 dX11_behindSum_59 (ckO_e e_17) mv_X11_isSign (by exact Nat.le_of_ble_eq_true rfl) (c_X11_isSign (Nat.le_trans (by decide) he) (ok_mono (ok_bind2 k) fun z_19 h_18 k => ?_))
          try dsimp only at k
          refine wp_if_eq 70 dX11_behindSum_62 (by decide) (fun c_20 => ?_) (fun c_20 => ?_)
          · replace k := ok_t c_20 k
            refine wp_iconst dX11_behindSum_70 ic_m1 ?_
            exact wp_wk (wkE <| wkE <| wkJ <| wkJ <| wkN) (s_X11_behindSum_j71 (Nat.succ_le_succ he)  k)
          · replace k := ok_f c_20 k
            refine wp_bipush dX11_behindSum_65 bp_24 ?_
            refine wp_goto 71 dX11_behindSum_67 (by decide) ?_
            exact wp_wk (wkE <| wkE <| wkJ <| wkJ <| wkN) (s_X11_behindSum_j71 (Nat.succ_le_succ he)  k)
        · replace k := ok_f c_16 k
          refine wp_bipush dX11_behindSum_51 bp_23 ?_
          refine wp_goto 71 dX11_behindSum_53 (by decide) ?_
          exact wp_wk (wkE <| wkE <| wkJ <| wkJ <| wkN) (s_X11_behindSum_j71 (Nat.succ_le_succ he)  k)
      · replace k := ok_f c_12 k
        refine wp_bipush dX11_behindSum_37 bp_22 ?_
        refine wp_goto 71 dX11_behindSum_39 (by decide) ?_
        exact wp_wk (wkE <| wkE <| wkJ <| wkJ <| wkN) (s_X11_behindSum_j71 (Nat.succ_le_succ he)  k)
    · replace k := ok_f c_8 k
      refine wp_bipush dX11_behindSum_23 bp_21 ?_
      refine wp_goto 71 dX11_behindSum_25 (by decide) ?_
      exact wp_wk (wkE <| wkE <| wkJ <| wkJ <| wkN) (s_X11_behindSum_j71 (Nat.succ_le_succ he)  k)
  · replace k := ok_f c_4 k
    refine wp_bipush dX11_behindSum_9 bp_20 ?_
    refine wp_goto 71 dX11_behindSum_11 (by decide) ?_
    exact wp_wk (wkE <| wkE <| wkJ <| wkJ <| wkN) (s_X11_behindSum_j71 (Nat.succ_le_succ he)  k)
theorem c_X11_behindSum {S : SH} {d : Nat} {K : Option Value → AH → Prop} (hd : 3 ≤ d)  {r0 : Nat} {x1 : Int32} {h : AH} (k : ok (f_X11_behindSum S r0 x1 h) (fun w h' => K (some (.int w)) h')) : CP S M_X11_behindSum d 0 0 [.ref r0, .int x1] h K := cp_of (by decide) (fun _ _ => trivial) (fun _ => Nat.le_of_ble_eq_true rfl) (s_X11_behindSum hd  k)
def f_X11_behindTest_j47 (S : SH) (r0 : Nat) (x1 : Int32) (sr0 : Nat) (sx1 : Int32) (h : AH) : Option (Int32 × AH) :=
  (gI S h r0 11 23).bind fun v_1 =>
  (ckO S h sr0 11).bind fun _ =>
  (f_X11_push S sr0 sx1 v_1 h).bind fun z => match z with
  | (_, h_4) =>
  if x1 = (0 : Int32) then
    (ckO S h_4 r0 11).bind fun _ =>
    (f_X11_emit S r0 (30 : Int32) (0 : Int32) h_4).bind fun z => match z with
    | (_, h_8) =>
    (ckO S h_8 r0 11).bind fun _ =>
    (f_X11_next S r0 h_8).bind fun z => match z with
    | (_, h_11) =>
    some ((0 : Int32), h_11)
  else
    (ckO S h_4 r0 11).bind fun _ =>
    (f_X11_emit S r0 (29 : Int32) (0 : Int32) h_4).bind fun z => match z with
    | (_, h_14) =>
    (ckO S h_14 r0 11).bind fun _ =>
    (f_X11_next S r0 h_14).bind fun z => match z with
    | (_, h_17) =>
    some ((0 : Int32), h_17)
set_option maxHeartbeats 8000000 in
set_option maxRecDepth 20000 in
theorem s_X11_behindTest_j47 {S : SH} {d cb sb : Nat} {Q : Option Value → AH → Prop} (hd : 3 ≤ d)  {r0 : Nat} {x1 : Int32} {sr0 : Nat} {sx1 : Int32} {h : AH} (k : ok (f_X11_behindTest_j47 S r0 x1 sr0 sx1 h) (fun w h' => Q (some (.int w)) h')) : WP S M_X11_behindTest d cb sb Q 47 [.ref r0, .int x1] [.int sx1, .ref sr0] h := by
  obtain ⟨d, rfl, he⟩ := dp (L := 2) hd
  unfold f_X11_behindTest_j47 at k
  refine wp_aload_n dX11_behindTest_47 rfl ?_
  replace k := ok_bind k
  obtain ⟨v_1, e_2, k⟩ := k
  refine wq_getI fl_X11_293 (Or.inl rfl) dX11_behindTest_48 e_2 ?_
  replace k := ok_bind k
  obtain ⟨u, e_3, k⟩ := k
  refine wp_callV2 (N := M_X11_push) (ci := 11) mf_X11_push mi_X11_push me_X11_push ml_X11_319 dX11_behindTest_51 (ckO_e e_3) mv_X11_push (by exact Nat.le_of_ble_eq_true rfl) (c_X11_push (Nat.le_trans (by decide) he) (ok_mono (ok_bind2 k) fun _ h_4 k => ?_))
  try dsimp only at k
  refine wp_aload_n dX11_behindTest_54 rfl ?_
  refine wp_iload_n dX11_behindTest_55 rfl ?_
  refine wp_if_eq 64 dX11_behindTest_56 (by decide) (fun c_6 => ?_) (fun c_6 => ?_)
  · replace k := ok_t c_6 k
    refine wp_bipush dX11_behindTest_64 bp_30 ?_
    refine wp_iconst dX11_behindTest_66 ic_0 ?_
    replace k := ok_bind k
    obtain ⟨u, e_7, k⟩ := k
    refine wp_callV2 (N := M_X11_emit) (ci := 11) mf_X11_emit mi_X11_emit me_X11_emit ml_X11_302 dX11_behindTest_67 (ckO_e e_7) mv_X11_emit (by exact Nat.le_of_ble_eq_true rfl) (c_X11_emit (Nat.le_trans (by decide) he) (ok_mono (ok_bind2 k) fun _ h_8 k => ?_))
    try dsimp only at k
    refine wp_aload_n dX11_behindTest_70 rfl ?_
    replace k := ok_bind k
    obtain ⟨u, e_10, k⟩ := k
    refine wp_callV0 (N := M_X11_next) (ci := 11) mf_X11_next mi_X11_next me_X11_next ml_X11_262 dX11_behindTest_71 (ckO_e e_10) mv_X11_next (by exact Nat.le_of_ble_eq_true rfl) (c_X11_next (Nat.le_trans (by decide) he) (ok_mono (ok_bind2 k) fun _ h_11 k => ?_))
    try dsimp only at k
    refine wp_iconst dX11_behindTest_74 ic_0 ?_
    refine wp_iret rfl rfl dX11_behindTest_75 ?_
    exact (ok_some k :)
  · replace k := ok_f c_6 k
    refine wp_bipush dX11_behindTest_59 bp_29 ?_
    refine wp_goto 66 dX11_behindTest_61 (by decide) ?_
    refine wp_iconst dX11_behindTest_66 ic_0 ?_
    replace k := ok_bind k
    obtain ⟨u, e_13, k⟩ := k
    refine wp_callV2 (N := M_X11_emit) (ci := 11) mf_X11_emit mi_X11_emit me_X11_emit ml_X11_302 dX11_behindTest_67 (ckO_e e_13) mv_X11_emit (by exact Nat.le_of_ble_eq_true rfl) (c_X11_emit (Nat.le_trans (by decide) he) (ok_mono (ok_bind2 k) fun _ h_14 k => ?_))
    try dsimp only at k
    refine wp_aload_n dX11_behindTest_70 rfl ?_
    replace k := ok_bind k
    obtain ⟨u, e_16, k⟩ := k
    refine wp_callV0 (N := M_X11_next) (ci := 11) mf_X11_next mi_X11_next me_X11_next ml_X11_262 dX11_behindTest_71 (ckO_e e_16) mv_X11_next (by exact Nat.le_of_ble_eq_true rfl) (c_X11_next (Nat.le_trans (by decide) he) (ok_mono (ok_bind2 k) fun _ h_17 k => ?_))
    try dsimp only at k
    refine wp_iconst dX11_behindTest_74 ic_0 ?_
    refine wp_iret rfl rfl dX11_behindTest_75 ?_
    exact (ok_some k :)
def f_X11_behindTest_j32 (S : SH) (r0 : Nat) (x1 : Int32) (sr0 : Nat) (sx1 : Int32) (h : AH) : Option (Int32 × AH) :=
  (ckO S h sr0 11).bind fun _ =>
  (f_X11_settle S sr0 sx1 h).bind fun z => match z with
  | (_, h_2) =>
  if x1 = (0 : Int32) then
    f_X11_behindTest_j47 S r0 x1 r0 (30 : Int32) h_2
  else
    f_X11_behindTest_j47 S r0 x1 r0 (29 : Int32) h_2
set_option maxHeartbeats 8000000 in
set_option maxRecDepth 20000 in
theorem s_X11_behindTest_j32 {S : SH} {d cb sb : Nat} {Q : Option Value → AH → Prop} (hd : 3 ≤ d)  {r0 : Nat} {x1 : Int32} {sr0 : Nat} {sx1 : Int32} {h : AH} (k : ok (f_X11_behindTest_j32 S r0 x1 sr0 sx1 h) (fun w h' => Q (some (.int w)) h')) : WP S M_X11_behindTest d cb sb Q 32 [.ref r0, .int x1] [.int sx1, .ref sr0] h := by
  obtain ⟨d, rfl, he⟩ := dp (L := 2) hd
  unfold f_X11_behindTest_j32 at k
  replace k := ok_bind k
  obtain ⟨u, e_1, k⟩ := k
  refine wp_callV1 (N := M_X11_settle) (ci := 11) mf_X11_settle mi_X11_settle me_X11_settle ml_X11_358 dX11_behindTest_32 (ckO_e e_1) mv_X11_settle (by exact Nat.le_of_ble_eq_true rfl) (c_X11_settle (Nat.le_trans (by decide) he) (ok_mono (ok_bind2 k) fun _ h_2 k => ?_))
  try dsimp only at k
  refine wp_aload_n dX11_behindTest_35 rfl ?_
  refine wp_iload_n dX11_behindTest_36 rfl ?_
  refine wp_if_eq 45 dX11_behindTest_37 (by decide) (fun c_4 => ?_) (fun c_4 => ?_)
  · replace k := ok_t c_4 k
    refine wp_bipush dX11_behindTest_45 bp_30 ?_
    exact wp_wk (wkE <| wkE <| wkN) (s_X11_behindTest_j47 (Nat.succ_le_succ he)  k)
  · replace k := ok_f c_4 k
    refine wp_bipush dX11_behindTest_40 bp_29 ?_
    refine wp_goto 47 dX11_behindTest_42 (by decide) ?_
    exact wp_wk (wkE <| wkE <| wkN) (s_X11_behindTest_j47 (Nat.succ_le_succ he)  k)
def f_X11_behindTest_j22 (S : SH) (r0 : Nat) (x1 : Int32) (h : AH) : Option (Int32 × AH) :=
  if x1 = (0 : Int32) then
    f_X11_behindTest_j32 S r0 x1 r0 (1 : Int32) h
  else
    f_X11_behindTest_j32 S r0 x1 r0 (2 : Int32) h
set_option maxHeartbeats 8000000 in
set_option maxRecDepth 20000 in
theorem s_X11_behindTest_j22 {S : SH} {d cb sb : Nat} {Q : Option Value → AH → Prop} (hd : 3 ≤ d)  {r0 : Nat} {x1 : Int32} {h : AH} (k : ok (f_X11_behindTest_j22 S r0 x1 h) (fun w h' => Q (some (.int w)) h')) : WP S M_X11_behindTest d cb sb Q 22 [.ref r0, .int x1] [] h := by
  obtain ⟨d, rfl, he⟩ := dp (L := 2) hd
  unfold f_X11_behindTest_j22 at k
  refine wp_aload_n dX11_behindTest_22 rfl ?_
  refine wp_iload_n dX11_behindTest_23 rfl ?_
  refine wp_if_eq 31 dX11_behindTest_24 (by decide) (fun c_1 => ?_) (fun c_1 => ?_)
  · replace k := ok_t c_1 k
    refine wp_iconst dX11_behindTest_31 ic_1 ?_
    exact wp_wk (wkE <| wkE <| wkN) (s_X11_behindTest_j32 (Nat.succ_le_succ he)  k)
  · replace k := ok_f c_1 k
    refine wp_iconst dX11_behindTest_27 ic_2 ?_
    refine wp_goto 32 dX11_behindTest_28 (by decide) ?_
    exact wp_wk (wkE <| wkE <| wkN) (s_X11_behindTest_j32 (Nat.succ_le_succ he)  k)
def f_X11_behindTest (S : SH) (r0 : Nat) (h : AH) : Option (Int32 × AH) :=
  (ckO S h r0 11).bind fun _ =>
  (f_X11_isWord S r0 (1476 : Int64) h).bind fun z => match z with
  | (z_3, h_2) =>
  if z_3 = (0 : Int32) then
    (ckO S h_2 r0 11).bind fun _ =>
    (f_X11_isWord S r0 (498 : Int64) h_2).bind fun z => match z with
    | (z_7, h_6) =>
    if z_7 = (0 : Int32) then
      (ckO S h_6 r0 11).bind fun _ =>
      (f_X11_inner S r0 h_6).bind fun z => match z with
      | (z_11, h_10) =>
      if z_11 = (-1 : Int32) then
        some ((4 : Int32), h_10)
      else
        (ckO S h_10 r0 11).bind fun _ =>
        (f_X11_isSign S r0 (41 : Int32) h_10).bind fun z => match z with
        | (z_15, h_14) =>
        (ckO S h_14 r0 11).bind fun _ =>
        (f_X11_must S r0 z_15 h_14).bind fun z => match z with
        | (_, h_17) =>
        (gI S h_17 r0 11 19).bind fun v_19 =>
        if v_19 = (0 : Int32) then
          (ckO S h_17 r0 11).bind fun _ =>
          (f_X11_settle S r0 (1 : Int32) h_17).bind fun z => match z with
          | (_, h_23) =>
          (gI S h_23 r0 11 29).bind fun v_25 =>
          (pI S h_23 r0 11 29 (v_25 - (1 : Int32))).bind fun h_27 =>
          (gI S h_27 r0 11 30).bind fun v_29 =>
          (pI S h_27 r0 11 30 (v_29 - (1 : Int32))).bind fun h_31 =>
          some ((2 : Int32), h_31)
        else
          some ((2 : Int32), h_17)
    else
      f_X11_behindTest_j22 S r0 z_3 h_6
  else
    f_X11_behindTest_j22 S r0 z_3 h_2
set_option maxHeartbeats 8000000 in
set_option maxRecDepth 20000 in
theorem s_X11_behindTest {S : SH} {d cb sb : Nat} {Q : Option Value → AH → Prop} (hd : 3 ≤ d)  {r0 : Nat} {h : AH} (k : ok (f_X11_behindTest S r0 h) (fun w h' => Q (some (.int w)) h')) : WP S M_X11_behindTest d cb sb Q 0 [.ref r0, JK] [] h := by
  obtain ⟨d, rfl, he⟩ := dp (L := 2) hd
  unfold f_X11_behindTest at k
  refine wp_aload_n dX11_behindTest_0 rfl ?_
  refine wp_ldc2 ct_X11_368 dX11_behindTest_1 ?_
  replace k := ok_bind k
  obtain ⟨u, e_1, k⟩ := k
  refine wp_callV1 (N := M_X11_isWord) (ci := 11) mf_X11_isWord mi_X11_isWord me_X11_isWord ml_X11_312 dX11_behindTest_4 (ckO_e e_1) mv_X11_isWord (by exact Nat.le_of_ble_eq_true rfl) (c_X11_isWord (Nat.le_trans (by decide) he) (ok_mono (ok_bind2 k) fun z_3 h_2 k => ?_))
  try dsimp only at k
  refine wp_istore_n dX11_behindTest_7 (by decide) (L1 := [_, _]) rfl ?_
  refine wp_iload_n dX11_behindTest_8 rfl ?_
  refine wp_if_ne 22 dX11_behindTest_9 (by decide) (fun c_4 => ?_) (fun c_4 => ?_)
  · replace k := ok_f c_4 k
    exact wp_wk (wkE <| wkE <| wkN) (s_X11_behindTest_j22 (Nat.succ_le_succ he)  k)
  · replace k := ok_t c_4 k
    refine wp_aload_n dX11_behindTest_12 rfl ?_
    refine wp_ldc2 ct_X11_370 dX11_behindTest_13 ?_
    replace k := ok_bind k
    obtain ⟨u, e_5, k⟩ := k
    refine wp_callV1 (N := M_X11_isWord) (ci := 11) mf_X11_isWord mi_X11_isWord me_X11_isWord ml_X11_312 dX11_behindTest_16 (ckO_e e_5) mv_X11_isWord (by exact Nat.le_of_ble_eq_true rfl) (c_X11_isWord (Nat.le_trans (by decide) he) (ok_mono (ok_bind2 k) fun z_7 h_6 k => ?_))
    try dsimp only at k
    refine wp_if_eq 76 dX11_behindTest_19 (by decide) (fun c_8 => ?_) (fun c_8 => ?_)
    · replace k := ok_t c_8 k
      refine wp_aload_n dX11_behindTest_76 rfl ?_
      replace k := ok_bind k
      obtain ⟨u, e_9, k⟩ := k
      refine wp_callV0 (N := M_X11_inner) (ci := 11) mf_X11_inner mi_X11_inner me_X11_inner ml_X11_361 dX11_behindTest_77 (ckO_e e_9) mv_X11_inner (by exact Nat.le_of_ble_eq_true rfl) (c_X11_inner (Nat.le_trans (by decide) he) (ok_mono (ok_bind2 k) fun z_11 h_10 k => ?_))
      try dsimp only at k
      refine wp_iconst dX11_behindTest_80 ic_m1 ?_
      refine wp_icmp_ne 86 dX11_behindTest_81 (by decide) (fun c_12 => ?_) (fun c_12 => ?_)
      · replace k := ok_f c_12 k
        refine wp_aload_n dX11_behindTest_86 rfl ?_
        refine wp_aload_n dX11_behindTest_87 rfl ?_
        refine wp_bipush dX11_behindTest_88 bp_41 ?_
        replace k := ok_bind k
        obtain ⟨u, e_13, k⟩ := k
        refine wp_callV1 (N := M_X11_isSign) (ci := 11) mf_X11_isSign mi_X11_isSign me_X11_isSign ml_X11_325 dX11_behindTest_90 (ckO_e e_13) mv_X11_isSign (by exact Nat.le_of_ble_eq_true rfl) (c_X11_isSign (Nat.le_trans (by decide) he) (ok_mono (ok_bind2 k) fun z_15 h_14 k => ?_))
        try dsimp only at k
        replace k := ok_bind k
        obtain ⟨u, e_16, k⟩ := k
        refine wp_callV1 (N := M_X11_must) (ci := 11) mf_X11_must mi_X11_must me_X11_must ml_X11_289 dX11_behindTest_93 (ckO_e e_16) mv_X11_must (by exact Nat.le_of_ble_eq_true rfl) (c_X11_must (Nat.le_trans (by decide) he) (ok_mono (ok_bind2 k) fun _ h_17 k => ?_))
        try dsimp only at k
        refine wp_aload_n dX11_behindTest_96 rfl ?_
        replace k := ok_bind k
        obtain ⟨v_19, e_20, k⟩ := k
        refine wq_getI fl_X11_258 (Or.inr rfl) dX11_behindTest_97 e_20 ?_
        refine wp_if_ne 128 dX11_behindTest_100 (by decide) (fun c_21 => ?_) (fun c_21 => ?_)
        · replace k := ok_f c_21 k
          refine wp_iconst dX11_behindTest_128 ic_2 ?_
          refine wp_iret rfl rfl dX11_behindTest_129 ?_
          exact (ok_some k :)
        · replace k := ok_t c_21 k
          refine wp_aload_n dX11_behindTest_103 rfl ?_
          refine wp_iconst dX11_behindTest_104 ic_1 ?_
          replace k := ok_bind k
          obtain ⟨u, e_22, k⟩ := k
          refine wp_callV1 (N := M_X11_settle) (ci := 11) mf_X11_settle mi_X11_settle me_X11_settle ml_X11_358 dX11_behindTest_105 (ckO_e e_22) mv_X11_settle (by exact Nat.le_of_ble_eq_true rfl) (c_X11_settle (Nat.le_trans (by decide) he) (ok_mono (ok_bind2 k) fun _ h_23 k => ?_))
          try dsimp only at k
          refine wp_aload_n dX11_behindTest_108 rfl ?_
          refine wp_dupR dX11_behindTest_109 ?_
          replace k := ok_bind k
          obtain ⟨v_25, e_26, k⟩ := k
          refine wq_getI fl_X11_296 (Or.inl rfl) dX11_behindTest_110 e_26 ?_
          refine wp_iconst dX11_behindTest_113 ic_1 ?_
          refine wp_isub dX11_behindTest_114 ?_
          replace k := ok_bind k
          obtain ⟨h_27, e_28, k⟩ := k
          refine wq_putI fl_X11_296 rfl rfl dX11_behindTest_115 e_28 ?_
          refine wp_aload_n dX11_behindTest_118 rfl ?_
          refine wp_dupR dX11_behindTest_119 ?_
          replace k := ok_bind k
          obtain ⟨v_29, e_30, k⟩ := k
          refine wq_getI fl_X11_316 (Or.inl rfl) dX11_behindTest_120 e_30 ?_
          refine wp_iconst dX11_behindTest_123 ic_1 ?_
          refine wp_isub dX11_behindTest_124 ?_
          replace k := ok_bind k
          obtain ⟨h_31, e_32, k⟩ := k
          refine wq_putI fl_X11_316 rfl rfl dX11_behindTest_125 e_32 ?_
          refine wp_iconst dX11_behindTest_128 ic_2 ?_
          refine wp_iret rfl rfl dX11_behindTest_129 ?_
          exact (ok_some k :)
      · replace k := ok_t c_12 k
        refine wp_iconst dX11_behindTest_84 ic_4 ?_
        refine wp_iret rfl rfl dX11_behindTest_85 ?_
        exact (ok_some k :)
    · replace k := ok_f c_8 k
      exact wp_wk (wkE <| wkE <| wkN) (s_X11_behindTest_j22 (Nat.succ_le_succ he)  k)
theorem c_X11_behindTest {S : SH} {d : Nat} {K : Option Value → AH → Prop} (hd : 3 ≤ d)  {r0 : Nat} {h : AH} (k : ok (f_X11_behindTest S r0 h) (fun w h' => K (some (.int w)) h')) : CP S M_X11_behindTest d 0 0 [.ref r0] h K := cp_of (by decide) (fun _ _ => trivial) (fun _ => Nat.le_of_ble_eq_true rfl) (s_X11_behindTest hd  k)
def f_X11_readExpression_l20b (S : SH) (rc : Nat → Int32 → Int32 → AH → Option (Nat × AH)) (r0 : Nat) (x1 : Int32) (x2 : Int32) (h : AH) : Option (Nat × AH) :=
  (gI S h r0 11 19).bind fun v_1 =>
  if v_1 = (0 : Int32) then
    if x2 = (4 : Int32) then
      some (r0, h)
    else
      if x2 = (0 : Int32) then
        (ckO S h r0 11).bind fun _ =>
        (f_X11_readPlain S r0 h).bind fun z => match z with
        | (z_19, h_18) =>
        rc r0 x1 z_19 h_18
      else
        if x2 = (1 : Int32) then
          (ckO S h r0 11).bind fun _ =>
          (f_X11_readPart S r0 h).bind fun z => match z with
          | (z_16, h_15) =>
          rc r0 x1 z_16 h_15
        else
          if x2 = (3 : Int32) then
            (ckO S h r0 11).bind fun _ =>
            (f_X11_behindSum S r0 x1 h).bind fun z => match z with
            | (z_13, h_12) =>
            rc r0 x1 z_13 h_12
          else
            (ckO S h r0 11).bind fun _ =>
            (f_X11_behindTest S r0 h).bind fun z => match z with
            | (z_10, h_9) =>
            rc r0 x1 z_10 h_9
  else
    some (r0, h)
set_option maxHeartbeats 8000000 in
set_option maxRecDepth 20000 in
theorem s_X11_readExpression_l20b {S : SH} {d cb sb : Nat} {Q : Option Value → AH → Prop} (hd : 6 ≤ d) {K : Nat → AH → Prop} (hex : ∀ (r0 : Nat) (h' : AH), K r0 h' → WP S M_X11_readExpression d cb sb Q 76 [.ref r0, JK, JK] [] h') {rc : Nat → Int32 → Int32 → AH → Option (Nat × AH)} (hrec : ∀ (r0 : Nat) (x1 : Int32) (x2 : Int32) (h' : AH), ok (rc r0 x1 x2 h') K → WP S M_X11_readExpression d cb sb Q 20 [.ref r0, .int x1, .int x2] [] h') {r0 : Nat} {x1 : Int32} {x2 : Int32} {h : AH} (k : ok (f_X11_readExpression_l20b S rc r0 x1 x2 h) K) : WP S M_X11_readExpression d cb sb Q 20 [.ref r0, .int x1, .int x2] [] h := by
  obtain ⟨d, rfl, he⟩ := dp (L := 5) hd
  unfold f_X11_readExpression_l20b at k
  refine wp_aload_n dX11_readExpression_20 rfl ?_
  replace k := ok_bind k
  obtain ⟨v_1, e_2, k⟩ := k
  refine wq_getI fl_X11_258 (Or.inr rfl) dX11_readExpression_21 e_2 ?_
  refine wp_if_ne 76 dX11_readExpression_24 (by decide) (fun c_3 => ?_) (fun c_3 => ?_)
  · replace k := ok_f c_3 k
    exact wp_wk (wkE <| wkJ <| wkJ <| wkN) (hex _ _ (ok_some k))
  · replace k := ok_t c_3 k
    refine wp_iload_n dX11_readExpression_27 rfl ?_
    refine wp_iconst dX11_readExpression_28 ic_4 ?_
    refine wp_icmp_eq 76 dX11_readExpression_29 (by decide) (fun c_4 => ?_) (fun c_4 => ?_)
    · replace k := ok_t c_4 k
      exact wp_wk (wkE <| wkJ <| wkJ <| wkN) (hex _ _ (ok_some k))
    · replace k := ok_f c_4 k
      refine wp_iload_n dX11_readExpression_32 rfl ?_
      refine wp_if_ne 43 dX11_readExpression_33 (by decide) (fun c_5 => ?_) (fun c_5 => ?_)
      · replace k := ok_f c_5 k
        refine wp_iload_n dX11_readExpression_43 rfl ?_
        refine wp_iconst dX11_readExpression_44 ic_1 ?_
        refine wp_icmp_ne 55 dX11_readExpression_45 (by decide) (fun c_6 => ?_) (fun c_6 => ?_)
        · replace k := ok_f c_6 k
          refine wp_iload_n dX11_readExpression_55 rfl ?_
          refine wp_iconst dX11_readExpression_56 ic_3 ?_
          refine wp_icmp_ne 68 dX11_readExpression_57 (by decide) (fun c_7 => ?_) (fun c_7 => ?_)
          · replace k := ok_f c_7 k
            refine wp_aload_n dX11_readExpression_68 rfl ?_
            replace k := ok_bind k
            obtain ⟨u, e_8, k⟩ := k
            refine wp_callV0 (N := M_X11_behindTest) (ci := 11) mf_X11_behindTest mi_X11_behindTest me_X11_behindTest ml_X11_379 dX11_readExpression_69 (ckO_e e_8) mv_X11_behindTest (by exact Nat.le_of_ble_eq_true rfl) (c_X11_behindTest (Nat.le_trans (by decide) he) (ok_mono (ok_bind2 k) fun z_10 h_9 k => ?_))
            try dsimp only at k
            refine wp_istore_n dX11_readExpression_72 (by decide) (L1 := [_, _, _]) rfl ?_
            refine wp_goto 20 dX11_readExpression_73 (by decide) ?_
            exact wp_wk (wkE <| wkE <| wkE <| wkN) (hrec _ _ _ _ k)
          · replace k := ok_t c_7 k
            refine wp_aload_n dX11_readExpression_60 rfl ?_
            refine wp_iload_n dX11_readExpression_61 rfl ?_
            replace k := ok_bind k
            obtain ⟨u, e_11, k⟩ := k
            refine wp_callV1 (N := M_X11_behindSum) (ci := 11) mf_X11_behindSum mi_X11_behindSum me_X11_behindSum ml_X11_375 dX11_readExpression_62 (ckO_e e_11) mv_X11_behindSum (by exact Nat.le_of_ble_eq_true rfl) (c_X11_behindSum (Nat.le_trans (by decide) he) (ok_mono (ok_bind2 k) fun z_13 h_12 k => ?_))
            try dsimp only at k
            refine wp_goto 72 dX11_readExpression_65 (by decide) ?_
            refine wp_istore_n dX11_readExpression_72 (by decide) (L1 := [_, _, _]) rfl ?_
            refine wp_goto 20 dX11_readExpression_73 (by decide) ?_
            exact wp_wk (wkE <| wkE <| wkE <| wkN) (hrec _ _ _ _ k)
        · replace k := ok_t c_6 k
          refine wp_aload_n dX11_readExpression_48 rfl ?_
          replace k := ok_bind k
          obtain ⟨u, e_14, k⟩ := k
          refine wp_callV0 (N := M_X11_readPart) (ci := 11) mf_X11_readPart mi_X11_readPart me_X11_readPart ml_X11_355 dX11_readExpression_49 (ckO_e e_14) mv_X11_readPart (by exact Nat.le_of_ble_eq_true rfl) (c_X11_readPart (Nat.le_trans (by decide) he) (ok_mono (ok_bind2 k) fun z_16 h_15 k => ?_))
          try dsimp only at k
          refine wp_goto 72 dX11_readExpression_52 (by decide) ?_
          refine wp_istore_n dX11_readExpression_72 (by decide) (L1 := [_, _, _]) rfl ?_
          refine wp_goto 20 dX11_readExpression_73 (by decide) ?_
          exact wp_wk (wkE <| wkE <| wkE <| wkN) (hrec _ _ _ _ k)
      · replace k := ok_t c_5 k
        refine wp_aload_n dX11_readExpression_36 rfl ?_
        replace k := ok_bind k
        obtain ⟨u, e_17, k⟩ := k
        refine wp_callV0 (N := M_X11_readPlain) (ci := 11) mf_X11_readPlain mi_X11_readPlain me_X11_readPlain ml_X11_372 dX11_readExpression_37 (ckO_e e_17) mv_X11_readPlain (by exact Nat.le_of_ble_eq_true rfl) (c_X11_readPlain (Nat.le_trans (by decide) he) (ok_mono (ok_bind2 k) fun z_19 h_18 k => ?_))
        try dsimp only at k
        refine wp_goto 72 dX11_readExpression_40 (by decide) ?_
        refine wp_istore_n dX11_readExpression_72 (by decide) (L1 := [_, _, _]) rfl ?_
        refine wp_goto 20 dX11_readExpression_73 (by decide) ?_
        exact wp_wk (wkE <| wkE <| wkE <| wkN) (hrec _ _ _ _ k)
def f_X11_readExpression_l20 (S : SH) : Nat → Nat → Int32 → Int32 → AH → Option (Nat × AH)
  | 0, _, _, _, _ => none
  | n + 1, r0, x1, x2, h => f_X11_readExpression_l20b S (f_X11_readExpression_l20 S n) r0 x1 x2 h
theorem s_X11_readExpression_l20 {S : SH} {d cb sb : Nat} {Q : Option Value → AH → Prop} (hd : 6 ≤ d) {K : Nat → AH → Prop} (hex : ∀ (r0 : Nat) (h' : AH), K r0 h' → WP S M_X11_readExpression d cb sb Q 76 [.ref r0, JK, JK] [] h') : ∀ (n : Nat) (r0 : Nat) (x1 : Int32) (x2 : Int32) (h : AH), ok (f_X11_readExpression_l20 S n r0 x1 x2 h) K → WP S M_X11_readExpression d cb sb Q 20 [.ref r0, .int x1, .int x2] [] h := by
  intro n
  induction n with
  | zero => intro r0 x1 x2 h k; exact ok_none k
  | succ n ih => intro r0 x1 x2 h k; exact s_X11_readExpression_l20b hd hex (fun r0 x1 x2 h k => ih r0 x1 x2 h k) k
def f_X11_readExpression (S : SH) (r0 : Nat) (x1 : Int32) (h : AH) : Option (Unit × AH) :=
  (pI S h r0 11 29 (0 : Int32)).bind fun h_1 =>
  (pI S h_1 r0 11 30 (0 : Int32)).bind fun h_3 =>
  if x1 = (0 : Int32) then
    (f_X11_readExpression_l20 S FU r0 x1 (1 : Int32) h_3).bind fun z => match z with
    | (r0_7, h_6) =>
    (ckO S h_6 r0_7 11).bind fun _ =>
    (f_X11_settle S r0_7 (1 : Int32) h_6).bind fun z => match z with
    | (_, h_9) =>
    some ((), h_9)
  else
    (f_X11_readExpression_l20 S FU r0 x1 (0 : Int32) h_3).bind fun z => match z with
    | (r0_12, h_11) =>
    (ckO S h_11 r0_12 11).bind fun _ =>
    (f_X11_settle S r0_12 (1 : Int32) h_11).bind fun z => match z with
    | (_, h_14) =>
    some ((), h_14)
set_option maxHeartbeats 8000000 in
set_option maxRecDepth 20000 in
theorem s_X11_readExpression {S : SH} {d cb sb : Nat} {Q : Option Value → AH → Prop} (hd : 6 ≤ d)  {r0 : Nat} {x1 : Int32} {h : AH} (k : ok (f_X11_readExpression S r0 x1 h) (fun _ h' => Q none h')) : WP S M_X11_readExpression d cb sb Q 0 [.ref r0, .int x1, JK] [] h := by
  obtain ⟨d, rfl, he⟩ := dp (L := 5) hd
  unfold f_X11_readExpression at k
  refine wp_aload_n dX11_readExpression_0 rfl ?_
  refine wp_iconst dX11_readExpression_1 ic_0 ?_
  replace k := ok_bind k
  obtain ⟨h_1, e_2, k⟩ := k
  refine wq_putI fl_X11_296 rfl rfl dX11_readExpression_2 e_2 ?_
  refine wp_aload_n dX11_readExpression_5 rfl ?_
  refine wp_iconst dX11_readExpression_6 ic_0 ?_
  replace k := ok_bind k
  obtain ⟨h_3, e_4, k⟩ := k
  refine wq_putI fl_X11_316 rfl rfl dX11_readExpression_7 e_4 ?_
  refine wp_iload_n dX11_readExpression_10 rfl ?_
  refine wp_if_eq 18 dX11_readExpression_11 (by decide) (fun c_5 => ?_) (fun c_5 => ?_)
  · replace k := ok_t c_5 k
    refine wp_iconst dX11_readExpression_18 ic_1 ?_
    refine wp_istore_n dX11_readExpression_19 (by decide) (L1 := [_, _, _]) rfl ?_
    refine wp_wk (wkE <| wkE <| wkE <| wkN) ?_
    refine s_X11_readExpression_l20 (Nat.succ_le_succ he) (fun r0_7 h_6 k => ?_) FU _ _ _ _ (ok_bind2 k)
    try dsimp only at k
    refine wp_aload_n dX11_readExpression_76 rfl ?_
    refine wp_iconst dX11_readExpression_77 ic_1 ?_
    replace k := ok_bind k
    obtain ⟨u, e_8, k⟩ := k
    refine wp_callV1 (N := M_X11_settle) (ci := 11) mf_X11_settle mi_X11_settle me_X11_settle ml_X11_358 dX11_readExpression_78 (ckO_e e_8) mv_X11_settle (by exact Nat.le_of_ble_eq_true rfl) (c_X11_settle (Nat.le_trans (by decide) he) (ok_mono (ok_bind2 k) fun _ h_9 k => ?_))
    try dsimp only at k
    refine wp_vret rfl dX11_readExpression_81 ?_
    exact (ok_some k :)
  · replace k := ok_f c_5 k
    refine wp_iconst dX11_readExpression_14 ic_0 ?_
    refine wp_goto 19 dX11_readExpression_15 (by decide) ?_
    refine wp_istore_n dX11_readExpression_19 (by decide) (L1 := [_, _, _]) rfl ?_
    refine wp_wk (wkE <| wkE <| wkE <| wkN) ?_
    refine s_X11_readExpression_l20 (Nat.succ_le_succ he) (fun r0_12 h_11 k => ?_) FU _ _ _ _ (ok_bind2 k)
    try dsimp only at k
    refine wp_aload_n dX11_readExpression_76 rfl ?_
    refine wp_iconst dX11_readExpression_77 ic_1 ?_
    replace k := ok_bind k
    obtain ⟨u, e_13, k⟩ := k
    refine wp_callV1 (N := M_X11_settle) (ci := 11) mf_X11_settle mi_X11_settle me_X11_settle ml_X11_358 dX11_readExpression_78 (ckO_e e_13) mv_X11_settle (by exact Nat.le_of_ble_eq_true rfl) (c_X11_settle (Nat.le_trans (by decide) he) (ok_mono (ok_bind2 k) fun _ h_14 k => ?_))
    try dsimp only at k
    refine wp_vret rfl dX11_readExpression_81 ?_
    exact (ok_some k :)
theorem c_X11_readExpression {S : SH} {d : Nat} {K : Option Value → AH → Prop} (hd : 6 ≤ d)  {r0 : Nat} {x1 : Int32} {h : AH} (k : ok (f_X11_readExpression S r0 x1 h) (fun _ h' => K none h')) : CP S M_X11_readExpression d 0 0 [.ref r0, .int x1] h K := cp_of (by decide) (fun _ _ => trivial) (fun _ => Nat.le_of_ble_eq_true rfl) (s_X11_readExpression hd  k)
def f_X11_beginText (S : SH) (r0 : Nat) (x1 : Int32) (h : AH) : Option (Unit × AH) :=
  (pZ S h r0 11 20 x1).bind fun h_1 =>
  (ckO S h_1 r0 11).bind fun _ =>
  (f_X11_begin S r0 h_1).bind fun z => match z with
  | (_, h_4) =>
  (pI S h_4 r0 11 21 (0 : Int32)).bind fun h_6 =>
  (pI S h_6 r0 11 23 (0 : Int32)).bind fun h_8 =>
  (pI S h_8 r0 11 26 (0 : Int32)).bind fun h_10 =>
  some ((), h_10)
set_option maxHeartbeats 8000000 in
set_option maxRecDepth 20000 in
theorem s_X11_beginText {S : SH} {d cb sb : Nat} {Q : Option Value → AH → Prop} (hd : 3 ≤ d)  {r0 : Nat} {x1 : Int32} {h : AH} (k : ok (f_X11_beginText S r0 x1 h) (fun _ h' => Q none h')) : WP S M_X11_beginText d cb sb Q 0 [.ref r0, .int x1] [] h := by
  obtain ⟨d, rfl, he⟩ := dp (L := 2) hd
  unfold f_X11_beginText at k
  refine wp_aload_n dX11_beginText_0 rfl ?_
  refine wp_iload_n dX11_beginText_1 rfl ?_
  replace k := ok_bind k
  obtain ⟨h_1, e_2, k⟩ := k
  refine wq_putZ fl_X11_331 rfl rfl dX11_beginText_2 e_2 ?_
  refine wp_aload_n dX11_beginText_5 rfl ?_
  replace k := ok_bind k
  obtain ⟨u, e_3, k⟩ := k
  refine wp_callV0 (N := M_X11_begin) (ci := 11) mf_X11_begin mi_X11_begin me_X11_begin ml_X11_382 dX11_beginText_6 (ckO_e e_3) mv_X11_begin (by exact Nat.le_of_ble_eq_true rfl) (c_X11_begin (Nat.le_trans (by decide) he) (ok_mono (ok_bind2 k) fun _ h_4 k => ?_))
  try dsimp only at k
  refine wp_aload_n dX11_beginText_9 rfl ?_
  refine wp_iconst dX11_beginText_10 ic_0 ?_
  replace k := ok_bind k
  obtain ⟨h_6, e_7, k⟩ := k
  refine wq_putI fl_X11_385 rfl rfl dX11_beginText_11 e_7 ?_
  refine wp_aload_n dX11_beginText_14 rfl ?_
  refine wp_iconst dX11_beginText_15 ic_0 ?_
  replace k := ok_bind k
  obtain ⟨h_8, e_9, k⟩ := k
  refine wq_putI fl_X11_293 rfl rfl dX11_beginText_16 e_9 ?_
  refine wp_aload_n dX11_beginText_19 rfl ?_
  refine wp_iconst dX11_beginText_20 ic_0 ?_
  replace k := ok_bind k
  obtain ⟨h_10, e_11, k⟩ := k
  refine wq_putI fl_X11_322 rfl rfl dX11_beginText_21 e_11 ?_
  refine wp_vret rfl dX11_beginText_24 ?_
  exact (ok_some k :)
theorem c_X11_beginText {S : SH} {d : Nat} {K : Option Value → AH → Prop} (hd : 3 ≤ d)  {r0 : Nat} {x1 : Int32} {h : AH} (k : ok (f_X11_beginText S r0 x1 h) (fun _ h' => K none h')) : CP S M_X11_beginText d 0 0 [.ref r0, .int x1] h K := cp_of (by decide) (fun _ _ => trivial) (fun _ => Nat.le_of_ble_eq_true rfl) (s_X11_beginText hd  k)
def f_X11_endText (S : SH) (r0 : Nat) (h : AH) : Option (Unit × AH) :=
  (gI S h r0 11 19).bind fun v_1 =>
  if v_1 = (0 : Int32) then
    (gI S h r0 11 16).bind fun v_8 =>
    if v_8 = (0 : Int32) then
      (pZ S h r0 11 20 (0 : Int32)).bind fun h_11 =>
      (pI S h_11 r0 11 13 (0 : Int32)).bind fun h_13 =>
      some ((), h_13)
    else
      (ckO S h r0 11).bind fun _ =>
      (f_X11_must S r0 (0 : Int32) h).bind fun z => match z with
      | (_, h_16) =>
      (pZ S h_16 r0 11 20 (0 : Int32)).bind fun h_18 =>
      (pI S h_18 r0 11 13 (0 : Int32)).bind fun h_20 =>
      some ((), h_20)
  else
    (pZ S h r0 11 20 (0 : Int32)).bind fun h_4 =>
    (pI S h_4 r0 11 13 (0 : Int32)).bind fun h_6 =>
    some ((), h_6)
set_option maxHeartbeats 8000000 in
set_option maxRecDepth 20000 in
theorem s_X11_endText {S : SH} {d cb sb : Nat} {Q : Option Value → AH → Prop} (hd : 3 ≤ d)  {r0 : Nat} {h : AH} (k : ok (f_X11_endText S r0 h) (fun _ h' => Q none h')) : WP S M_X11_endText d cb sb Q 0 [.ref r0] [] h := by
  obtain ⟨d, rfl, he⟩ := dp (L := 2) hd
  unfold f_X11_endText at k
  refine wp_aload_n dX11_endText_0 rfl ?_
  replace k := ok_bind k
  obtain ⟨v_1, e_2, k⟩ := k
  refine wq_getI fl_X11_258 (Or.inr rfl) dX11_endText_1 e_2 ?_
  refine wp_if_ne 19 dX11_endText_4 (by decide) (fun c_3 => ?_) (fun c_3 => ?_)
  · replace k := ok_f c_3 k
    refine wp_aload_n dX11_endText_19 rfl ?_
    refine wp_iconst dX11_endText_20 ic_0 ?_
    replace k := ok_bind k
    obtain ⟨h_4, e_5, k⟩ := k
    refine wq_putZ fl_X11_331 rfl rfl dX11_endText_21 e_5 ?_
    refine wp_aload_n dX11_endText_24 rfl ?_
    refine wp_iconst dX11_endText_25 ic_0 ?_
    replace k := ok_bind k
    obtain ⟨h_6, e_7, k⟩ := k
    refine wq_putI fl_X11_243 rfl rfl dX11_endText_26 e_7 ?_
    refine wp_vret rfl dX11_endText_29 ?_
    exact (ok_some k :)
  · replace k := ok_t c_3 k
    refine wp_aload_n dX11_endText_7 rfl ?_
    replace k := ok_bind k
    obtain ⟨v_8, e_9, k⟩ := k
    refine wq_getI fl_X11_278 (Or.inl rfl) dX11_endText_8 e_9 ?_
    refine wp_if_eq 19 dX11_endText_11 (by decide) (fun c_10 => ?_) (fun c_10 => ?_)
    · replace k := ok_t c_10 k
      refine wp_aload_n dX11_endText_19 rfl ?_
      refine wp_iconst dX11_endText_20 ic_0 ?_
      replace k := ok_bind k
      obtain ⟨h_11, e_12, k⟩ := k
      refine wq_putZ fl_X11_331 rfl rfl dX11_endText_21 e_12 ?_
      refine wp_aload_n dX11_endText_24 rfl ?_
      refine wp_iconst dX11_endText_25 ic_0 ?_
      replace k := ok_bind k
      obtain ⟨h_13, e_14, k⟩ := k
      refine wq_putI fl_X11_243 rfl rfl dX11_endText_26 e_14 ?_
      refine wp_vret rfl dX11_endText_29 ?_
      exact (ok_some k :)
    · replace k := ok_f c_10 k
      refine wp_aload_n dX11_endText_14 rfl ?_
      refine wp_iconst dX11_endText_15 ic_0 ?_
      replace k := ok_bind k
      obtain ⟨u, e_15, k⟩ := k
      refine wp_callV1 (N := M_X11_must) (ci := 11) mf_X11_must mi_X11_must me_X11_must ml_X11_289 dX11_endText_16 (ckO_e e_15) mv_X11_must (by exact Nat.le_of_ble_eq_true rfl) (c_X11_must (Nat.le_trans (by decide) he) (ok_mono (ok_bind2 k) fun _ h_16 k => ?_))
      try dsimp only at k
      refine wp_aload_n dX11_endText_19 rfl ?_
      refine wp_iconst dX11_endText_20 ic_0 ?_
      replace k := ok_bind k
      obtain ⟨h_18, e_19, k⟩ := k
      refine wq_putZ fl_X11_331 rfl rfl dX11_endText_21 e_19 ?_
      refine wp_aload_n dX11_endText_24 rfl ?_
      refine wp_iconst dX11_endText_25 ic_0 ?_
      replace k := ok_bind k
      obtain ⟨h_20, e_21, k⟩ := k
      refine wq_putI fl_X11_243 rfl rfl dX11_endText_26 e_21 ?_
      refine wp_vret rfl dX11_endText_29 ?_
      exact (ok_some k :)
theorem c_X11_endText {S : SH} {d : Nat} {K : Option Value → AH → Prop} (hd : 3 ≤ d)  {r0 : Nat} {h : AH} (k : ok (f_X11_endText S r0 h) (fun _ h' => K none h')) : CP S M_X11_endText d 0 0 [.ref r0] h K := cp_of (by decide) (fun _ _ => trivial) (fun _ => Nat.le_of_ble_eq_true rfl) (s_X11_endText hd  k)
def f_X11_readLaw_l4b (S : SH) (rc : Nat → Int32 → Int32 → AH → Option ((Nat × Int32) × AH)) (r0 : Nat) (x1 : Int32) (x2 : Int32) (h : AH) : Option ((Nat × Int32) × AH) :=
  if (3 : Int32) ≤ x2 then
    some ((r0, x1), h)
  else
    (gR S h r0 11 33).bind fun p_2 =>
    (aJ S h p_2 x2).bind fun w_4 =>
    (ckO S h r0 11).bind fun _ =>
    (f_X11_isWord S r0 w_4 h).bind fun z => match z with
    | (z_8, h_7) =>
    if z_8 = (0 : Int32) then
      lt (x2 + (1 : Int32)) fun y_10 =>
      rc r0 x1 y_10 h_7
    else
      lt (x2 + (1 : Int32)) fun y_11 =>
      rc r0 x2 y_11 h_7
set_option maxHeartbeats 8000000 in
set_option maxRecDepth 20000 in
theorem s_X11_readLaw_l4b {S : SH} {d cb sb : Nat} {Q : Option Value → AH → Prop} (hd : 7 ≤ d) {K : (Nat × Int32) → AH → Prop} (hex : ∀ (r0 : Nat) (x1 : Int32) (h' : AH), K (r0, x1) h' → WP S M_X11_readLaw d cb sb Q 34 [.ref r0, .int x1, JK, JK] [] h') {rc : Nat → Int32 → Int32 → AH → Option ((Nat × Int32) × AH)} (hrec : ∀ (r0 : Nat) (x1 : Int32) (x2 : Int32) (h' : AH), ok (rc r0 x1 x2 h') K → WP S M_X11_readLaw d cb sb Q 4 [.ref r0, .int x1, .int x2, JK] [] h') {r0 : Nat} {x1 : Int32} {x2 : Int32} {h : AH} (k : ok (f_X11_readLaw_l4b S rc r0 x1 x2 h) K) : WP S M_X11_readLaw d cb sb Q 4 [.ref r0, .int x1, .int x2, JK] [] h := by
  obtain ⟨d, rfl, he⟩ := dp (L := 6) hd
  unfold f_X11_readLaw_l4b at k
  refine wp_iload_n dX11_readLaw_4 rfl ?_
  refine wp_iconst dX11_readLaw_5 ic_3 ?_
  refine wp_icmp_ge 34 dX11_readLaw_6 (by decide) (fun c_1 => ?_) (fun c_1 => ?_)
  · replace k := ok_t c_1 k
    exact wp_wk (wkE <| wkE <| wkJ <| wkJ <| wkN) (hex _ _ _ (ok_some k))
  · replace k := ok_f c_1 k
    refine wp_aload_n dX11_readLaw_9 rfl ?_
    refine wp_aload_n dX11_readLaw_10 rfl ?_
    replace k := ok_bind k
    obtain ⟨p_2, e_3, k⟩ := k
    refine wq_getR fl_X11_96 (Or.inr ⟨_, rfl⟩) dX11_readLaw_11 e_3 ?_
    refine wp_iload_n dX11_readLaw_14 rfl ?_
    replace k := ok_bind k
    obtain ⟨w_4, e_5, k⟩ := k
    refine wq_aJ dX11_readLaw_15 e_5 ?_
    replace k := ok_bind k
    obtain ⟨u, e_6, k⟩ := k
    refine wp_callV1 (N := M_X11_isWord) (ci := 11) mf_X11_isWord mi_X11_isWord me_X11_isWord ml_X11_312 dX11_readLaw_16 (ckO_e e_6) mv_X11_isWord (by exact Nat.le_of_ble_eq_true rfl) (c_X11_isWord (Nat.le_trans (by decide) he) (ok_mono (ok_bind2 k) fun z_8 h_7 k => ?_))
    try dsimp only at k
    refine wp_if_eq 26 dX11_readLaw_19 (by decide) (fun c_9 => ?_) (fun c_9 => ?_)
    · replace k := ok_t c_9 k
      refine wp_iload_n dX11_readLaw_26 rfl ?_
      refine wp_istore_n dX11_readLaw_27 (by decide) (L1 := [_, _, _, _]) rfl ?_
      replace k := ok_lt k
      refine wp_iinc dX11_readLaw_28 rfl ic_1 (by decide) (L1 := [_, _, _, _]) rfl ?_
      refine wp_goto 4 dX11_readLaw_31 (by decide) ?_
      exact wp_wk (wkE <| wkE <| wkE <| wkJ <| wkN) (hrec _ _ _ _ k)
    · replace k := ok_f c_9 k
      refine wp_iload_n dX11_readLaw_22 rfl ?_
      refine wp_goto 27 dX11_readLaw_23 (by decide) ?_
      refine wp_istore_n dX11_readLaw_27 (by decide) (L1 := [_, _, _, _]) rfl ?_
      replace k := ok_lt k
      refine wp_iinc dX11_readLaw_28 rfl ic_1 (by decide) (L1 := [_, _, _, _]) rfl ?_
      refine wp_goto 4 dX11_readLaw_31 (by decide) ?_
      exact wp_wk (wkE <| wkE <| wkE <| wkJ <| wkN) (hrec _ _ _ _ k)
def f_X11_readLaw_l4 (S : SH) : Nat → Nat → Int32 → Int32 → AH → Option ((Nat × Int32) × AH)
  | 0, _, _, _, _ => none
  | n + 1, r0, x1, x2, h => f_X11_readLaw_l4b S (f_X11_readLaw_l4 S n) r0 x1 x2 h
theorem s_X11_readLaw_l4 {S : SH} {d cb sb : Nat} {Q : Option Value → AH → Prop} (hd : 7 ≤ d) {K : (Nat × Int32) → AH → Prop} (hex : ∀ (r0 : Nat) (x1 : Int32) (h' : AH), K (r0, x1) h' → WP S M_X11_readLaw d cb sb Q 34 [.ref r0, .int x1, JK, JK] [] h') : ∀ (n : Nat) (r0 : Nat) (x1 : Int32) (x2 : Int32) (h : AH), ok (f_X11_readLaw_l4 S n r0 x1 x2 h) K → WP S M_X11_readLaw d cb sb Q 4 [.ref r0, .int x1, .int x2, JK] [] h := by
  intro n
  induction n with
  | zero => intro r0 x1 x2 h k; exact ok_none k
  | succ n ih => intro r0 x1 x2 h k; exact s_X11_readLaw_l4b hd hex (fun r0 x1 x2 h k => ih r0 x1 x2 h k) k
def f_X11_readLaw_l75b (S : SH) (rc : Nat → Int32 → Int32 → Int32 → AH → Option ((Nat × Int32 × Int32) × AH)) (r0 : Nat) (x1 : Int32) (x2 : Int32) (x3 : Int32) (h : AH) : Option ((Nat × Int32 × Int32) × AH) :=
  if (8 : Int32) ≤ x3 then
    some ((r0, x1, x2), h)
  else
    (gR S h r0 11 22).bind fun p_2 =>
    (sI S h p_2 (x2 + x3) (0 : Int32)).bind fun h_4 =>
    lt (x3 + (1 : Int32)) fun y_6 =>
    rc r0 x1 x2 y_6 h_4
set_option maxHeartbeats 8000000 in
set_option maxRecDepth 20000 in
theorem s_X11_readLaw_l75b {S : SH} {d cb sb : Nat} {Q : Option Value → AH → Prop} (hd : 7 ≤ d) {K : (Nat × Int32 × Int32) → AH → Prop} (hex : ∀ (r0 : Nat) (x1 : Int32) (x2 : Int32) (h' : AH), K (r0, x1, x2) h' → WP S M_X11_readLaw d cb sb Q 96 [.ref r0, .int x1, .int x2, JK] [] h') {rc : Nat → Int32 → Int32 → Int32 → AH → Option ((Nat × Int32 × Int32) × AH)} (hrec : ∀ (r0 : Nat) (x1 : Int32) (x2 : Int32) (x3 : Int32) (h' : AH), ok (rc r0 x1 x2 x3 h') K → WP S M_X11_readLaw d cb sb Q 75 [.ref r0, .int x1, .int x2, .int x3] [] h') {r0 : Nat} {x1 : Int32} {x2 : Int32} {x3 : Int32} {h : AH} (k : ok (f_X11_readLaw_l75b S rc r0 x1 x2 x3 h) K) : WP S M_X11_readLaw d cb sb Q 75 [.ref r0, .int x1, .int x2, .int x3] [] h := by
  obtain ⟨d, rfl, he⟩ := dp (L := 6) hd
  unfold f_X11_readLaw_l75b at k
  refine wp_iload_n dX11_readLaw_75 rfl ?_
  refine wp_bipush dX11_readLaw_76 bp_8 ?_
  refine wp_icmp_ge 96 dX11_readLaw_78 (by decide) (fun c_1 => ?_) (fun c_1 => ?_)
  · replace k := ok_t c_1 k
    exact wp_wk (wkE <| wkE <| wkE <| wkJ <| wkN) (hex _ _ _ _ (ok_some k))
  · replace k := ok_f c_1 k
    refine wp_aload_n dX11_readLaw_81 rfl ?_
    replace k := ok_bind k
    obtain ⟨p_2, e_3, k⟩ := k
    refine wq_getR fl_X11_42 (Or.inr ⟨_, rfl⟩) dX11_readLaw_82 e_3 ?_
    refine wp_iload_n dX11_readLaw_85 rfl ?_
    refine wp_iload_n dX11_readLaw_86 rfl ?_
    refine wp_iadd dX11_readLaw_87 ?_
    refine wp_iconst dX11_readLaw_88 ic_0 ?_
    replace k := ok_bind k
    obtain ⟨h_4, e_5, k⟩ := k
    refine wq_sI dX11_readLaw_89 e_5 ?_
    replace k := ok_lt k
    refine wp_iinc dX11_readLaw_90 rfl ic_1 (by decide) (L1 := [_, _, _, _]) rfl ?_
    refine wp_goto 75 dX11_readLaw_93 (by decide) ?_
    exact wp_wk (wkE <| wkE <| wkE <| wkE <| wkN) (hrec _ _ _ _ _ k)
def f_X11_readLaw_l75 (S : SH) : Nat → Nat → Int32 → Int32 → Int32 → AH → Option ((Nat × Int32 × Int32) × AH)
  | 0, _, _, _, _, _ => none
  | n + 1, r0, x1, x2, x3, h => f_X11_readLaw_l75b S (f_X11_readLaw_l75 S n) r0 x1 x2 x3 h
theorem s_X11_readLaw_l75 {S : SH} {d cb sb : Nat} {Q : Option Value → AH → Prop} (hd : 7 ≤ d) {K : (Nat × Int32 × Int32) → AH → Prop} (hex : ∀ (r0 : Nat) (x1 : Int32) (x2 : Int32) (h' : AH), K (r0, x1, x2) h' → WP S M_X11_readLaw d cb sb Q 96 [.ref r0, .int x1, .int x2, JK] [] h') : ∀ (n : Nat) (r0 : Nat) (x1 : Int32) (x2 : Int32) (x3 : Int32) (h : AH), ok (f_X11_readLaw_l75 S n r0 x1 x2 x3 h) K → WP S M_X11_readLaw d cb sb Q 75 [.ref r0, .int x1, .int x2, .int x3] [] h := by
  intro n
  induction n with
  | zero => intro r0 x1 x2 x3 h k; exact ok_none k
  | succ n ih => intro r0 x1 x2 x3 h k; exact s_X11_readLaw_l75b hd hex (fun r0 x1 x2 x3 h k => ih r0 x1 x2 x3 h k) k
def f_X11_readLaw_j135 (S : SH) (r0 : Nat) (x2 : Int32) (h : AH) : Option (Unit × AH) :=
  (gR S h r0 11 22).bind fun p_1 =>
  (gI S h r0 11 23).bind fun v_3 =>
  (sI S h p_1 (x2 + (4 : Int32)) v_3).bind fun h_5 =>
  (gR S h_5 r0 11 22).bind fun p_7 =>
  (gI S h_5 r0 11 23).bind fun v_9 =>
  (sI S h_5 p_7 (x2 + (5 : Int32)) v_9).bind fun h_11 =>
  (gI S h_11 r0 11 19).bind fun v_13 =>
  if v_13 = (0 : Int32) then
    (ckO S h_11 r0 11).bind fun _ =>
    (f_X11_isWord S r0 (294 : Int64) h_11).bind fun z => match z with
    | (z_24, h_23) =>
    if z_24 = (0 : Int32) then
      (gR S h_23 r0 11 22).bind fun p_26 =>
      (gI S h_23 r0 11 23).bind fun v_28 =>
      (sI S h_23 p_26 (x2 + (6 : Int32)) v_28).bind fun h_30 =>
      some ((), h_30)
    else
      (ckO S h_23 r0 11).bind fun _ =>
      (f_X11_next S r0 h_23).bind fun z => match z with
      | (_, h_33) =>
      (ckO S h_33 r0 11).bind fun _ =>
      (f_X11_readExpression S r0 (1 : Int32) h_33).bind fun z => match z with
      | (_, h_36) =>
      (gR S h_36 r0 11 22).bind fun p_38 =>
      (gI S h_36 r0 11 23).bind fun v_40 =>
      (sI S h_36 p_38 (x2 + (6 : Int32)) v_40).bind fun h_42 =>
      some ((), h_42)
  else
    (gR S h_11 r0 11 22).bind fun p_16 =>
    (gI S h_11 r0 11 23).bind fun v_18 =>
    (sI S h_11 p_16 (x2 + (6 : Int32)) v_18).bind fun h_20 =>
    some ((), h_20)
set_option maxHeartbeats 8000000 in
set_option maxRecDepth 20000 in
theorem s_X11_readLaw_j135 {S : SH} {d cb sb : Nat} {Q : Option Value → AH → Prop} (hd : 7 ≤ d)  {r0 : Nat} {x2 : Int32} {h : AH} (k : ok (f_X11_readLaw_j135 S r0 x2 h) (fun _ h' => Q none h')) : WP S M_X11_readLaw d cb sb Q 135 [.ref r0, JK, .int x2, JK] [] h := by
  obtain ⟨d, rfl, he⟩ := dp (L := 6) hd
  unfold f_X11_readLaw_j135 at k
  refine wp_aload_n dX11_readLaw_135 rfl ?_
  replace k := ok_bind k
  obtain ⟨p_1, e_2, k⟩ := k
  refine wq_getR fl_X11_42 (Or.inr ⟨_, rfl⟩) dX11_readLaw_136 e_2 ?_
  refine wp_iload_n dX11_readLaw_139 rfl ?_
  refine wp_iconst dX11_readLaw_140 ic_4 ?_
  refine wp_iadd dX11_readLaw_141 ?_
  refine wp_aload_n dX11_readLaw_142 rfl ?_
  replace k := ok_bind k
  obtain ⟨v_3, e_4, k⟩ := k
  refine wq_getI fl_X11_293 (Or.inl rfl) dX11_readLaw_143 e_4 ?_
  replace k := ok_bind k
  obtain ⟨h_5, e_6, k⟩ := k
  refine wq_sI dX11_readLaw_146 e_6 ?_
  refine wp_aload_n dX11_readLaw_147 rfl ?_
  replace k := ok_bind k
  obtain ⟨p_7, e_8, k⟩ := k
  refine wq_getR fl_X11_42 (Or.inr ⟨_, rfl⟩) dX11_readLaw_148 e_8 ?_
  refine wp_iload_n dX11_readLaw_151 rfl ?_
  refine wp_iconst dX11_readLaw_152 ic_5 ?_
  refine wp_iadd dX11_readLaw_153 ?_
  refine wp_aload_n dX11_readLaw_154 rfl ?_
  replace k := ok_bind k
  obtain ⟨v_9, e_10, k⟩ := k
  refine wq_getI fl_X11_293 (Or.inl rfl) dX11_readLaw_155 e_10 ?_
  replace k := ok_bind k
  obtain ⟨h_11, e_12, k⟩ := k
  refine wq_sI dX11_readLaw_158 e_12 ?_
  refine wp_aload_n dX11_readLaw_159 rfl ?_
  replace k := ok_bind k
  obtain ⟨v_13, e_14, k⟩ := k
  refine wq_getI fl_X11_258 (Or.inr rfl) dX11_readLaw_160 e_14 ?_
  refine wp_if_ne 185 dX11_readLaw_163 (by decide) (fun c_15 => ?_) (fun c_15 => ?_)
  · replace k := ok_f c_15 k
    refine wp_aload_n dX11_readLaw_185 rfl ?_
    replace k := ok_bind k
    obtain ⟨p_16, e_17, k⟩ := k
    refine wq_getR fl_X11_42 (Or.inr ⟨_, rfl⟩) dX11_readLaw_186 e_17 ?_
    refine wp_iload_n dX11_readLaw_189 rfl ?_
    refine wp_bipush dX11_readLaw_190 bp_6 ?_
    refine wp_iadd dX11_readLaw_192 ?_
    refine wp_aload_n dX11_readLaw_193 rfl ?_
    replace k := ok_bind k
    obtain ⟨v_18, e_19, k⟩ := k
    refine wq_getI fl_X11_293 (Or.inl rfl) dX11_readLaw_194 e_19 ?_
    replace k := ok_bind k
    obtain ⟨h_20, e_21, k⟩ := k
    refine wq_sI dX11_readLaw_197 e_21 ?_
    refine wp_vret rfl dX11_readLaw_198 ?_
    exact (ok_some k :)
  · replace k := ok_t c_15 k
    refine wp_aload_n dX11_readLaw_166 rfl ?_
    refine wp_ldc2 ct_X11_391 dX11_readLaw_167 ?_
    replace k := ok_bind k
    obtain ⟨u, e_22, k⟩ := k
    refine wp_callV1 (N := M_X11_isWord) (ci := 11) mf_X11_isWord mi_X11_isWord me_X11_isWord ml_X11_312 dX11_readLaw_170 (ckO_e e_22) mv_X11_isWord (by exact Nat.le_of_ble_eq_true rfl) (c_X11_isWord (Nat.le_trans (by decide) he) (ok_mono (ok_bind2 k) fun z_24 h_23 k => ?_))
    try dsimp only at k
    refine wp_if_eq 185 dX11_readLaw_173 (by decide) (fun c_25 => ?_) (fun c_25 => ?_)
    · replace k := ok_t c_25 k
      refine wp_aload_n dX11_readLaw_185 rfl ?_
      replace k := ok_bind k
      obtain ⟨p_26, e_27, k⟩ := k
      refine wq_getR fl_X11_42 (Or.inr ⟨_, rfl⟩) dX11_readLaw_186 e_27 ?_
      refine wp_iload_n dX11_readLaw_189 rfl ?_
      refine wp_bipush dX11_readLaw_190 bp_6 ?_
      refine wp_iadd dX11_readLaw_192 ?_
      refine wp_aload_n dX11_readLaw_193 rfl ?_
      replace k := ok_bind k
      obtain ⟨v_28, e_29, k⟩ := k
      refine wq_getI fl_X11_293 (Or.inl rfl) dX11_readLaw_194 e_29 ?_
      replace k := ok_bind k
      obtain ⟨h_30, e_31, k⟩ := k
      refine wq_sI dX11_readLaw_197 e_31 ?_
      refine wp_vret rfl dX11_readLaw_198 ?_
      exact (ok_some k :)
    · replace k := ok_f c_25 k
      refine wp_aload_n dX11_readLaw_176 rfl ?_
      replace k := ok_bind k
      obtain ⟨u, e_32, k⟩ := k
      refine wp_callV0 (N := M_X11_next) (ci := 11) mf_X11_next mi_X11_next me_X11_next ml_X11_262 dX11_readLaw_177 (ckO_e e_32) mv_X11_next (by exact Nat.le_of_ble_eq_true rfl) (c_X11_next (Nat.le_trans (by decide) he) (ok_mono (ok_bind2 k) fun _ h_33 k => ?_))
      try dsimp only at k
      refine wp_aload_n dX11_readLaw_180 rfl ?_
      refine wp_iconst dX11_readLaw_181 ic_1 ?_
      replace k := ok_bind k
      obtain ⟨u, e_35, k⟩ := k
      refine wp_callV1 (N := M_X11_readExpression) (ci := 11) mf_X11_readExpression mi_X11_readExpression me_X11_readExpression ml_X11_388 dX11_readLaw_182 (ckO_e e_35) mv_X11_readExpression (by exact Nat.le_of_ble_eq_true rfl) (c_X11_readExpression (Nat.le_trans (by decide) he) (ok_mono (ok_bind2 k) fun _ h_36 k => ?_))
      try dsimp only at k
      refine wp_aload_n dX11_readLaw_185 rfl ?_
      replace k := ok_bind k
      obtain ⟨p_38, e_39, k⟩ := k
      refine wq_getR fl_X11_42 (Or.inr ⟨_, rfl⟩) dX11_readLaw_186 e_39 ?_
      refine wp_iload_n dX11_readLaw_189 rfl ?_
      refine wp_bipush dX11_readLaw_190 bp_6 ?_
      refine wp_iadd dX11_readLaw_192 ?_
      refine wp_aload_n dX11_readLaw_193 rfl ?_
      replace k := ok_bind k
      obtain ⟨v_40, e_41, k⟩ := k
      refine wq_getI fl_X11_293 (Or.inl rfl) dX11_readLaw_194 e_41 ?_
      replace k := ok_bind k
      obtain ⟨h_42, e_43, k⟩ := k
      refine wq_sI dX11_readLaw_197 e_43 ?_
      refine wp_vret rfl dX11_readLaw_198 ?_
      exact (ok_some k :)
def f_X11_readLaw_j54 (S : SH) (r0 : Nat) (x1 : Int32) (sr0 : Nat) (sx1 : Int32) (h : AH) : Option (Unit × AH) :=
  (ckO S h sr0 11).bind fun _ =>
  (f_X11_must S sr0 sx1 h).bind fun z => match z with
  | (_, h_2) =>
  (gI S h_2 r0 11 19).bind fun v_4 =>
  if v_4 = (0 : Int32) then
    (gI S h_2 r0 11 21).bind fun v_7 =>
    lt (((8 : Int32) * v_7)) fun y_9 =>
    (f_X11_readLaw_l75 S FU r0 x1 y_9 (0 : Int32) h_2).bind fun z => match z with
    | ((r0_11, x1_12, x2_13), h_10) =>
    (gR S h_10 r0_11 11 22).bind fun p_14 =>
    (sI S h_10 p_14 x2_13 x1_12).bind fun h_16 =>
    (gI S h_16 r0_11 11 21).bind fun v_18 =>
    (pI S h_16 r0_11 11 21 (v_18 + (1 : Int32))).bind fun h_20 =>
    (gR S h_20 r0_11 11 22).bind fun p_22 =>
    (gI S h_20 r0_11 11 23).bind fun v_24 =>
    (sI S h_20 p_22 (x2_13 + (3 : Int32)) v_24).bind fun h_26 =>
    if x1_12 = (2 : Int32) then
      f_X11_readLaw_j135 S r0_11 x2_13 h_26
    else
      (ckO S h_26 r0_11 11).bind fun _ =>
      (f_X11_readExpression S r0_11 (0 : Int32) h_26).bind fun z => match z with
      | (_, h_30) =>
      f_X11_readLaw_j135 S r0_11 x2_13 h_30
  else
    some ((), h_2)
set_option maxHeartbeats 8000000 in
set_option maxRecDepth 20000 in
theorem s_X11_readLaw_j54 {S : SH} {d cb sb : Nat} {Q : Option Value → AH → Prop} (hd : 7 ≤ d)  {r0 : Nat} {x1 : Int32} {sr0 : Nat} {sx1 : Int32} {h : AH} (k : ok (f_X11_readLaw_j54 S r0 x1 sr0 sx1 h) (fun _ h' => Q none h')) : WP S M_X11_readLaw d cb sb Q 54 [.ref r0, .int x1, JK, JK] [.int sx1, .ref sr0] h := by
  obtain ⟨d, rfl, he⟩ := dp (L := 6) hd
  unfold f_X11_readLaw_j54 at k
  replace k := ok_bind k
  obtain ⟨u, e_1, k⟩ := k
  refine wp_callV1 (N := M_X11_must) (ci := 11) mf_X11_must mi_X11_must me_X11_must ml_X11_289 dX11_readLaw_54 (ckO_e e_1) mv_X11_must (by exact Nat.le_of_ble_eq_true rfl) (c_X11_must (Nat.le_trans (by decide) he) (ok_mono (ok_bind2 k) fun _ h_2 k => ?_))
  try dsimp only at k
  refine wp_aload_n dX11_readLaw_57 rfl ?_
  replace k := ok_bind k
  obtain ⟨v_4, e_5, k⟩ := k
  refine wq_getI fl_X11_258 (Or.inr rfl) dX11_readLaw_58 e_5 ?_
  refine wp_if_eq 65 dX11_readLaw_61 (by decide) (fun c_6 => ?_) (fun c_6 => ?_)
  · replace k := ok_t c_6 k
    refine wp_bipush dX11_readLaw_65 bp_8 ?_
    refine wp_aload_n dX11_readLaw_67 rfl ?_
    replace k := ok_bind k
    obtain ⟨v_7, e_8, k⟩ := k
    refine wq_getI fl_X11_385 (Or.inl rfl) dX11_readLaw_68 e_8 ?_
    refine wp_imul dX11_readLaw_71 ?_
    replace k := ok_lt k
    refine wp_istore_n dX11_readLaw_72 (by decide) (L1 := [_, _, _, _]) rfl ?_
    refine wp_iconst dX11_readLaw_73 ic_0 ?_
    refine wp_istore_n dX11_readLaw_74 (by decide) (L1 := [_, _, _, _]) rfl ?_
    refine wp_wk (wkE <| wkE <| wkE <| wkE <| wkN) ?_
    refine s_X11_readLaw_l75 (Nat.succ_le_succ he) (fun r0_11 x1_12 x2_13 h_10 k => ?_) FU _ _ _ _ _ (ok_bind2 k)
    try dsimp only at k
    refine wp_aload_n dX11_readLaw_96 rfl ?_
    replace k := ok_bind k
    obtain ⟨p_14, e_15, k⟩ := k
    refine wq_getR fl_X11_42 (Or.inr ⟨_, rfl⟩) dX11_readLaw_97 e_15 ?_
    refine wp_iload_n dX11_readLaw_100 rfl ?_
    refine wp_iload_n dX11_readLaw_101 rfl ?_
    replace k := ok_bind k
    obtain ⟨h_16, e_17, k⟩ := k
    refine wq_sI dX11_readLaw_102 e_17 ?_
    refine wp_aload_n dX11_readLaw_103 rfl ?_
    refine wp_dupR dX11_readLaw_104 ?_
    replace k := ok_bind k
    obtain ⟨v_18, e_19, k⟩ := k
    refine wq_getI fl_X11_385 (Or.inl rfl) dX11_readLaw_105 e_19 ?_
    refine wp_iconst dX11_readLaw_108 ic_1 ?_
    refine wp_iadd dX11_readLaw_109 ?_
    replace k := ok_bind k
    obtain ⟨h_20, e_21, k⟩ := k
    refine wq_putI fl_X11_385 rfl rfl dX11_readLaw_110 e_21 ?_
    refine wp_aload_n dX11_readLaw_113 rfl ?_
    replace k := ok_bind k
    obtain ⟨p_22, e_23, k⟩ := k
    refine wq_getR fl_X11_42 (Or.inr ⟨_, rfl⟩) dX11_readLaw_114 e_23 ?_
    refine wp_iload_n dX11_readLaw_117 rfl ?_
    refine wp_iconst dX11_readLaw_118 ic_3 ?_
    refine wp_iadd dX11_readLaw_119 ?_
    refine wp_aload_n dX11_readLaw_120 rfl ?_
    replace k := ok_bind k
    obtain ⟨v_24, e_25, k⟩ := k
    refine wq_getI fl_X11_293 (Or.inl rfl) dX11_readLaw_121 e_25 ?_
    replace k := ok_bind k
    obtain ⟨h_26, e_27, k⟩ := k
    refine wq_sI dX11_readLaw_124 e_27 ?_
    refine wp_iload_n dX11_readLaw_125 rfl ?_
    refine wp_iconst dX11_readLaw_126 ic_2 ?_
    refine wp_icmp_eq 135 dX11_readLaw_127 (by decide) (fun c_28 => ?_) (fun c_28 => ?_)
    · replace k := ok_t c_28 k
      exact wp_wk (wkE <| wkJ <| wkE <| wkJ <| wkN) (s_X11_readLaw_j135 (Nat.succ_le_succ he)  k)
    · replace k := ok_f c_28 k
      refine wp_aload_n dX11_readLaw_130 rfl ?_
      refine wp_iconst dX11_readLaw_131 ic_0 ?_
      replace k := ok_bind k
      obtain ⟨u, e_29, k⟩ := k
      refine wp_callV1 (N := M_X11_readExpression) (ci := 11) mf_X11_readExpression mi_X11_readExpression me_X11_readExpression ml_X11_388 dX11_readLaw_132 (ckO_e e_29) mv_X11_readExpression (by exact Nat.le_of_ble_eq_true rfl) (c_X11_readExpression (Nat.le_trans (by decide) he) (ok_mono (ok_bind2 k) fun _ h_30 k => ?_))
      try dsimp only at k
      exact wp_wk (wkE <| wkJ <| wkE <| wkJ <| wkN) (s_X11_readLaw_j135 (Nat.succ_le_succ he)  k)
  · replace k := ok_f c_6 k
    refine wp_vret rfl dX11_readLaw_64 ?_
    exact (ok_some k :)
def f_X11_readLaw_j53 (S : SH) (r0 : Nat) (x1 : Int32) (sr0 : Nat) (h : AH) : Option (Unit × AH) :=
  f_X11_readLaw_j54 S r0 x1 sr0 (0 : Int32) h
set_option maxHeartbeats 8000000 in
set_option maxRecDepth 20000 in
theorem s_X11_readLaw_j53 {S : SH} {d cb sb : Nat} {Q : Option Value → AH → Prop} (hd : 7 ≤ d)  {r0 : Nat} {x1 : Int32} {sr0 : Nat} {h : AH} (k : ok (f_X11_readLaw_j53 S r0 x1 sr0 h) (fun _ h' => Q none h')) : WP S M_X11_readLaw d cb sb Q 53 [.ref r0, .int x1, JK, JK] [.ref sr0] h := by
  obtain ⟨d, rfl, he⟩ := dp (L := 6) hd
  unfold f_X11_readLaw_j53 at k
  refine wp_iconst dX11_readLaw_53 ic_0 ?_
  exact wp_wk (wkE <| wkE <| wkJ <| wkJ <| wkN) (s_X11_readLaw_j54 (Nat.succ_le_succ he)  k)
def f_X11_readLaw (S : SH) (r0 : Nat) (h : AH) : Option (Unit × AH) :=
  (f_X11_readLaw_l4 S FU r0 (-1 : Int32) (0 : Int32) h).bind fun z => match z with
  | ((r0_2, x1_3), h_1) =>
  if x1_3 = (-1 : Int32) then
    f_X11_readLaw_j53 S r0_2 x1_3 r0_2 h_1
  else
    (gI S h_1 r0_2 11 21).bind fun v_5 =>
    if (12 : Int32) ≤ v_5 then
      f_X11_readLaw_j53 S r0_2 x1_3 r0_2 h_1
    else
      f_X11_readLaw_j54 S r0_2 x1_3 r0_2 (1 : Int32) h_1
set_option maxHeartbeats 8000000 in
set_option maxRecDepth 20000 in
theorem s_X11_readLaw {S : SH} {d cb sb : Nat} {Q : Option Value → AH → Prop} (hd : 7 ≤ d)  {r0 : Nat} {h : AH} (k : ok (f_X11_readLaw S r0 h) (fun _ h' => Q none h')) : WP S M_X11_readLaw d cb sb Q 0 [.ref r0, JK, JK, JK] [] h := by
  obtain ⟨d, rfl, he⟩ := dp (L := 6) hd
  unfold f_X11_readLaw at k
  refine wp_iconst dX11_readLaw_0 ic_m1 ?_
  refine wp_istore_n dX11_readLaw_1 (by decide) (L1 := [_, _, _, _]) rfl ?_
  refine wp_iconst dX11_readLaw_2 ic_0 ?_
  refine wp_istore_n dX11_readLaw_3 (by decide) (L1 := [_, _, _, _]) rfl ?_
  refine wp_wk (wkE <| wkE <| wkE <| wkJ <| wkN) ?_
  refine s_X11_readLaw_l4 (Nat.succ_le_succ he) (fun r0_2 x1_3 h_1 k => ?_) FU _ _ _ _ (ok_bind2 k)
  try dsimp only at k
  refine wp_aload_n dX11_readLaw_34 rfl ?_
  refine wp_iload_n dX11_readLaw_35 rfl ?_
  refine wp_iconst dX11_readLaw_36 ic_m1 ?_
  refine wp_icmp_eq 53 dX11_readLaw_37 (by decide) (fun c_4 => ?_) (fun c_4 => ?_)
  · replace k := ok_t c_4 k
    exact wp_wk (wkE <| wkE <| wkJ <| wkJ <| wkN) (s_X11_readLaw_j53 (Nat.succ_le_succ he)  k)
  · replace k := ok_f c_4 k
    refine wp_aload_n dX11_readLaw_40 rfl ?_
    replace k := ok_bind k
    obtain ⟨v_5, e_6, k⟩ := k
    refine wq_getI fl_X11_385 (Or.inl rfl) dX11_readLaw_41 e_6 ?_
    refine wp_bipush dX11_readLaw_44 bp_12 ?_
    refine wp_icmp_ge 53 dX11_readLaw_46 (by decide) (fun c_7 => ?_) (fun c_7 => ?_)
    · replace k := ok_t c_7 k
      exact wp_wk (wkE <| wkE <| wkJ <| wkJ <| wkN) (s_X11_readLaw_j53 (Nat.succ_le_succ he)  k)
    · replace k := ok_f c_7 k
      refine wp_iconst dX11_readLaw_49 ic_1 ?_
      refine wp_goto 54 dX11_readLaw_50 (by decide) ?_
      exact wp_wk (wkE <| wkE <| wkJ <| wkJ <| wkN) (s_X11_readLaw_j54 (Nat.succ_le_succ he)  k)
theorem c_X11_readLaw {S : SH} {d : Nat} {K : Option Value → AH → Prop} (hd : 7 ≤ d)  {r0 : Nat} {h : AH} (k : ok (f_X11_readLaw S r0 h) (fun _ h' => K none h')) : CP S M_X11_readLaw d 0 0 [.ref r0] h K := cp_of (by decide) (fun _ _ => trivial) (fun _ => Nat.le_of_ble_eq_true rfl) (s_X11_readLaw hd  k)
def f_X11_law_l37b (S : SH) (rc : Nat → AH → Option (Nat × AH)) (r0 : Nat) (h : AH) : Option (Nat × AH) :=
  (gI S h r0 11 19).bind fun v_1 =>
  if v_1 = (0 : Int32) then
    (ckO S h r0 11).bind fun _ =>
    (f_X11_isSign S r0 (59 : Int32) h).bind fun z => match z with
    | (z_6, h_5) =>
    if z_6 = (0 : Int32) then
      some (r0, h_5)
    else
      (ckO S h_5 r0 11).bind fun _ =>
      (f_X11_next S r0 h_5).bind fun z => match z with
      | (_, h_9) =>
      (ckO S h_9 r0 11).bind fun _ =>
      (f_X11_readLaw S r0 h_9).bind fun z => match z with
      | (_, h_12) =>
      rc r0 h_12
  else
    some (r0, h)
set_option maxHeartbeats 8000000 in
set_option maxRecDepth 20000 in
theorem s_X11_law_l37b {S : SH} {d cb sb : Nat} {Q : Option Value → AH → Prop} (hd : 8 ≤ d) {K : Nat → AH → Prop} (hex : ∀ (r0 : Nat) (h' : AH), K r0 h' → WP S M_X11_law d cb sb Q 64 [.ref r0, JK, JK] [] h') {rc : Nat → AH → Option (Nat × AH)} (hrec : ∀ (r0 : Nat) (h' : AH), ok (rc r0 h') K → WP S M_X11_law d cb sb Q 37 [.ref r0, JK, JK] [] h') {r0 : Nat} {h : AH} (k : ok (f_X11_law_l37b S rc r0 h) K) : WP S M_X11_law d cb sb Q 37 [.ref r0, JK, JK] [] h := by
  obtain ⟨d, rfl, he⟩ := dp (L := 7) hd
  unfold f_X11_law_l37b at k
  refine wp_aload_n dX11_law_37 rfl ?_
  replace k := ok_bind k
  obtain ⟨v_1, e_2, k⟩ := k
  refine wq_getI fl_X11_258 (Or.inr rfl) dX11_law_38 e_2 ?_
  refine wp_if_ne 64 dX11_law_41 (by decide) (fun c_3 => ?_) (fun c_3 => ?_)
  · replace k := ok_f c_3 k
    exact wp_wk (wkE <| wkJ <| wkJ <| wkN) (hex _ _ (ok_some k))
  · replace k := ok_t c_3 k
    refine wp_aload_n dX11_law_44 rfl ?_
    refine wp_bipush dX11_law_45 bp_59 ?_
    replace k := ok_bind k
    obtain ⟨u, e_4, k⟩ := k
    refine wp_callV1 (N := M_X11_isSign) (ci := 11) mf_X11_isSign mi_X11_isSign me_X11_isSign ml_X11_325 dX11_law_47 (ckO_e e_4) mv_X11_isSign (by exact Nat.le_of_ble_eq_true rfl) (c_X11_isSign (Nat.le_trans (by decide) he) (ok_mono (ok_bind2 k) fun z_6 h_5 k => ?_))
    try dsimp only at k
    refine wp_if_eq 64 dX11_law_50 (by decide) (fun c_7 => ?_) (fun c_7 => ?_)
    · replace k := ok_t c_7 k
      exact wp_wk (wkE <| wkJ <| wkJ <| wkN) (hex _ _ (ok_some k))
    · replace k := ok_f c_7 k
      refine wp_aload_n dX11_law_53 rfl ?_
      replace k := ok_bind k
      obtain ⟨u, e_8, k⟩ := k
      refine wp_callV0 (N := M_X11_next) (ci := 11) mf_X11_next mi_X11_next me_X11_next ml_X11_262 dX11_law_54 (ckO_e e_8) mv_X11_next (by exact Nat.le_of_ble_eq_true rfl) (c_X11_next (Nat.le_trans (by decide) he) (ok_mono (ok_bind2 k) fun _ h_9 k => ?_))
      try dsimp only at k
      refine wp_aload_n dX11_law_57 rfl ?_
      replace k := ok_bind k
      obtain ⟨u, e_11, k⟩ := k
      refine wp_callV0 (N := M_X11_readLaw) (ci := 11) mf_X11_readLaw mi_X11_readLaw me_X11_readLaw ml_X11_396 dX11_law_58 (ckO_e e_11) mv_X11_readLaw (by exact Nat.le_of_ble_eq_true rfl) (c_X11_readLaw (Nat.le_trans (by decide) he) (ok_mono (ok_bind2 k) fun _ h_12 k => ?_))
      try dsimp only at k
      refine wp_goto 37 dX11_law_61 (by decide) ?_
      exact wp_wk (wkE <| wkJ <| wkJ <| wkN) (hrec _ _ k)
def f_X11_law_l37 (S : SH) : Nat → Nat → AH → Option (Nat × AH)
  | 0, _, _ => none
  | n + 1, r0, h => f_X11_law_l37b S (f_X11_law_l37 S n) r0 h
theorem s_X11_law_l37 {S : SH} {d cb sb : Nat} {Q : Option Value → AH → Prop} (hd : 8 ≤ d) {K : Nat → AH → Prop} (hex : ∀ (r0 : Nat) (h' : AH), K r0 h' → WP S M_X11_law d cb sb Q 64 [.ref r0, JK, JK] [] h') : ∀ (n : Nat) (r0 : Nat) (h : AH), ok (f_X11_law_l37 S n r0 h) K → WP S M_X11_law d cb sb Q 37 [.ref r0, JK, JK] [] h := by
  intro n
  induction n with
  | zero => intro r0 h k; exact ok_none k
  | succ n ih => intro r0 h k; exact s_X11_law_l37b hd hex (fun r0 h k => ih r0 h k) k
def f_X11_law_l110b (S : SH) (rc : Nat → Int32 → Int32 → AH → Option ((Nat × Int32) × AH)) (r0 : Nat) (x1 : Int32) (x2 : Int32) (h : AH) : Option ((Nat × Int32) × AH) :=
  (gI S h r0 11 21).bind fun v_1 =>
  if ((8 : Int32) * v_1) ≤ x2 then
    some ((r0, x1), h)
  else
    (gR S h r0 11 3).bind fun p_4 =>
    (gR S h r0 11 22).bind fun p_6 =>
    (aI S h p_6 x2).bind fun v_8 =>
    (sI S h p_4 ((x1 + (2 : Int32)) + x2) v_8).bind fun h_10 =>
    lt (x2 + (1 : Int32)) fun y_12 =>
    rc r0 x1 y_12 h_10
set_option maxHeartbeats 8000000 in
set_option maxRecDepth 20000 in
theorem s_X11_law_l110b {S : SH} {d cb sb : Nat} {Q : Option Value → AH → Prop} (hd : 8 ≤ d) {K : (Nat × Int32) → AH → Prop} (hex : ∀ (r0 : Nat) (x1 : Int32) (h' : AH), K (r0, x1) h' → WP S M_X11_law d cb sb Q 143 [.ref r0, .int x1, JK] [] h') {rc : Nat → Int32 → Int32 → AH → Option ((Nat × Int32) × AH)} (hrec : ∀ (r0 : Nat) (x1 : Int32) (x2 : Int32) (h' : AH), ok (rc r0 x1 x2 h') K → WP S M_X11_law d cb sb Q 110 [.ref r0, .int x1, .int x2] [] h') {r0 : Nat} {x1 : Int32} {x2 : Int32} {h : AH} (k : ok (f_X11_law_l110b S rc r0 x1 x2 h) K) : WP S M_X11_law d cb sb Q 110 [.ref r0, .int x1, .int x2] [] h := by
  obtain ⟨d, rfl, he⟩ := dp (L := 7) hd
  unfold f_X11_law_l110b at k
  refine wp_iload_n dX11_law_110 rfl ?_
  refine wp_bipush dX11_law_111 bp_8 ?_
  refine wp_aload_n dX11_law_113 rfl ?_
  replace k := ok_bind k
  obtain ⟨v_1, e_2, k⟩ := k
  refine wq_getI fl_X11_385 (Or.inl rfl) dX11_law_114 e_2 ?_
  refine wp_imul dX11_law_117 ?_
  refine wp_icmp_ge 143 dX11_law_118 (by decide) (fun c_3 => ?_) (fun c_3 => ?_)
  · replace k := ok_t c_3 k
    exact wp_wk (wkE <| wkE <| wkJ <| wkN) (hex _ _ _ (ok_some k))
  · replace k := ok_f c_3 k
    refine wp_aload_n dX11_law_121 rfl ?_
    replace k := ok_bind k
    obtain ⟨p_4, e_5, k⟩ := k
    refine wq_getR fl_X11_13 (Or.inr ⟨_, rfl⟩) dX11_law_122 e_5 ?_
    refine wp_iload_n dX11_law_125 rfl ?_
    refine wp_iconst dX11_law_126 ic_2 ?_
    refine wp_iadd dX11_law_127 ?_
    refine wp_iload_n dX11_law_128 rfl ?_
    refine wp_iadd dX11_law_129 ?_
    refine wp_aload_n dX11_law_130 rfl ?_
    replace k := ok_bind k
    obtain ⟨p_6, e_7, k⟩ := k
    refine wq_getR fl_X11_42 (Or.inr ⟨_, rfl⟩) dX11_law_131 e_7 ?_
    refine wp_iload_n dX11_law_134 rfl ?_
    replace k := ok_bind k
    obtain ⟨v_8, e_9, k⟩ := k
    refine wq_aI dX11_law_135 e_9 ?_
    replace k := ok_bind k
    obtain ⟨h_10, e_11, k⟩ := k
    refine wq_sI dX11_law_136 e_11 ?_
    replace k := ok_lt k
    refine wp_iinc dX11_law_137 rfl ic_1 (by decide) (L1 := [_, _, _]) rfl ?_
    refine wp_goto 110 dX11_law_140 (by decide) ?_
    exact wp_wk (wkE <| wkE <| wkE <| wkN) (hrec _ _ _ _ k)
def f_X11_law_l110 (S : SH) : Nat → Nat → Int32 → Int32 → AH → Option ((Nat × Int32) × AH)
  | 0, _, _, _, _ => none
  | n + 1, r0, x1, x2, h => f_X11_law_l110b S (f_X11_law_l110 S n) r0 x1 x2 h
theorem s_X11_law_l110 {S : SH} {d cb sb : Nat} {Q : Option Value → AH → Prop} (hd : 8 ≤ d) {K : (Nat × Int32) → AH → Prop} (hex : ∀ (r0 : Nat) (x1 : Int32) (h' : AH), K (r0, x1) h' → WP S M_X11_law d cb sb Q 143 [.ref r0, .int x1, JK] [] h') : ∀ (n : Nat) (r0 : Nat) (x1 : Int32) (x2 : Int32) (h : AH), ok (f_X11_law_l110 S n r0 x1 x2 h) K → WP S M_X11_law d cb sb Q 110 [.ref r0, .int x1, .int x2] [] h := by
  intro n
  induction n with
  | zero => intro r0 x1 x2 h k; exact ok_none k
  | succ n ih => intro r0 x1 x2 h k; exact s_X11_law_l110b hd hex (fun r0 x1 x2 h k => ih r0 x1 x2 h k) k
def f_X11_law_l145b (S : SH) (rc : Nat → Int32 → Int32 → AH → Option (Nat × AH)) (r0 : Nat) (x1 : Int32) (x2 : Int32) (h : AH) : Option (Nat × AH) :=
  (gI S h r0 11 23).bind fun v_1 =>
  if v_1 ≤ x2 then
    some (r0, h)
  else
    (gR S h r0 11 3).bind fun p_4 =>
    (gR S h r0 11 24).bind fun p_6 =>
    (aI S h p_6 x2).bind fun v_8 =>
    (sI S h p_4 ((x1 + (98 : Int32)) + ((2 : Int32) * x2)) v_8).bind fun h_10 =>
    (gR S h_10 r0 11 3).bind fun p_12 =>
    (gR S h_10 r0 11 25).bind fun p_14 =>
    (aI S h_10 p_14 x2).bind fun v_16 =>
    (sI S h_10 p_12 (((x1 + (98 : Int32)) + ((2 : Int32) * x2)) + (1 : Int32)) v_16).bind fun h_18 =>
    lt (x2 + (1 : Int32)) fun y_20 =>
    rc r0 x1 y_20 h_18
set_option maxHeartbeats 8000000 in
set_option maxRecDepth 20000 in
theorem s_X11_law_l145b {S : SH} {d cb sb : Nat} {Q : Option Value → AH → Prop} (hd : 8 ≤ d) {K : Nat → AH → Prop} (hex : ∀ (r0 : Nat) (h' : AH), K r0 h' → WP S M_X11_law d cb sb Q 199 [.ref r0, JK, JK] [] h') {rc : Nat → Int32 → Int32 → AH → Option (Nat × AH)} (hrec : ∀ (r0 : Nat) (x1 : Int32) (x2 : Int32) (h' : AH), ok (rc r0 x1 x2 h') K → WP S M_X11_law d cb sb Q 145 [.ref r0, .int x1, .int x2] [] h') {r0 : Nat} {x1 : Int32} {x2 : Int32} {h : AH} (k : ok (f_X11_law_l145b S rc r0 x1 x2 h) K) : WP S M_X11_law d cb sb Q 145 [.ref r0, .int x1, .int x2] [] h := by
  obtain ⟨d, rfl, he⟩ := dp (L := 7) hd
  unfold f_X11_law_l145b at k
  refine wp_iload_n dX11_law_145 rfl ?_
  refine wp_aload_n dX11_law_146 rfl ?_
  replace k := ok_bind k
  obtain ⟨v_1, e_2, k⟩ := k
  refine wq_getI fl_X11_293 (Or.inl rfl) dX11_law_147 e_2 ?_
  refine wp_icmp_ge 199 dX11_law_150 (by decide) (fun c_3 => ?_) (fun c_3 => ?_)
  · replace k := ok_t c_3 k
    exact wp_wk (wkE <| wkJ <| wkJ <| wkN) (hex _ _ (ok_some k))
  · replace k := ok_f c_3 k
    refine wp_aload_n dX11_law_153 rfl ?_
    replace k := ok_bind k
    obtain ⟨p_4, e_5, k⟩ := k
    refine wq_getR fl_X11_13 (Or.inr ⟨_, rfl⟩) dX11_law_154 e_5 ?_
    refine wp_iload_n dX11_law_157 rfl ?_
    refine wp_bipush dX11_law_158 bp_98 ?_
    refine wp_iadd dX11_law_160 ?_
    refine wp_iconst dX11_law_161 ic_2 ?_
    refine wp_iload_n dX11_law_162 rfl ?_
    refine wp_imul dX11_law_163 ?_
    refine wp_iadd dX11_law_164 ?_
    refine wp_aload_n dX11_law_165 rfl ?_
    replace k := ok_bind k
    obtain ⟨p_6, e_7, k⟩ := k
    refine wq_getR fl_X11_45 (Or.inr ⟨_, rfl⟩) dX11_law_166 e_7 ?_
    refine wp_iload_n dX11_law_169 rfl ?_
    replace k := ok_bind k
    obtain ⟨v_8, e_9, k⟩ := k
    refine wq_aI dX11_law_170 e_9 ?_
    replace k := ok_bind k
    obtain ⟨h_10, e_11, k⟩ := k
    refine wq_sI dX11_law_171 e_11 ?_
    refine wp_aload_n dX11_law_172 rfl ?_
    replace k := ok_bind k
    obtain ⟨p_12, e_13, k⟩ := k
    refine wq_getR fl_X11_13 (Or.inr ⟨_, rfl⟩) dX11_law_173 e_13 ?_
    refine wp_iload_n dX11_law_176 rfl ?_
    refine wp_bipush dX11_law_177 bp_98 ?_
    refine wp_iadd dX11_law_179 ?_
    refine wp_iconst dX11_law_180 ic_2 ?_
    refine wp_iload_n dX11_law_181 rfl ?_
    refine wp_imul dX11_law_182 ?_
    refine wp_iadd dX11_law_183 ?_
    refine wp_iconst dX11_law_184 ic_1 ?_
    refine wp_iadd dX11_law_185 ?_
    refine wp_aload_n dX11_law_186 rfl ?_
    replace k := ok_bind k
    obtain ⟨p_14, e_15, k⟩ := k
    refine wq_getR fl_X11_48 (Or.inr ⟨_, rfl⟩) dX11_law_187 e_15 ?_
    refine wp_iload_n dX11_law_190 rfl ?_
    replace k := ok_bind k
    obtain ⟨v_16, e_17, k⟩ := k
    refine wq_aI dX11_law_191 e_17 ?_
    replace k := ok_bind k
    obtain ⟨h_18, e_19, k⟩ := k
    refine wq_sI dX11_law_192 e_19 ?_
    replace k := ok_lt k
    refine wp_iinc dX11_law_193 rfl ic_1 (by decide) (L1 := [_, _, _]) rfl ?_
    refine wp_goto 145 dX11_law_196 (by decide) ?_
    exact wp_wk (wkE <| wkE <| wkE <| wkN) (hrec _ _ _ _ k)
def f_X11_law_l145 (S : SH) : Nat → Nat → Int32 → Int32 → AH → Option (Nat × AH)
  | 0, _, _, _, _ => none
  | n + 1, r0, x1, x2, h => f_X11_law_l145b S (f_X11_law_l145 S n) r0 x1 x2 h
theorem s_X11_law_l145 {S : SH} {d cb sb : Nat} {Q : Option Value → AH → Prop} (hd : 8 ≤ d) {K : Nat → AH → Prop} (hex : ∀ (r0 : Nat) (h' : AH), K r0 h' → WP S M_X11_law d cb sb Q 199 [.ref r0, JK, JK] [] h') : ∀ (n : Nat) (r0 : Nat) (x1 : Int32) (x2 : Int32) (h : AH), ok (f_X11_law_l145 S n r0 x1 x2 h) K → WP S M_X11_law d cb sb Q 145 [.ref r0, .int x1, .int x2] [] h := by
  intro n
  induction n with
  | zero => intro r0 x1 x2 h k; exact ok_none k
  | succ n ih => intro r0 x1 x2 h k; exact s_X11_law_l145b hd hex (fun r0 x1 x2 h k => ih r0 x1 x2 h k) k
def f_X11_law_j64 (S : SH) (r0 : Nat) (h : AH) : Option (Int32 × AH) :=
  (ckO S h r0 11).bind fun _ =>
  (f_X11_endText S r0 h).bind fun z => match z with
  | (_, h_2) =>
  (gI S h_2 r0 11 19).bind fun v_4 =>
  if v_4 = (0 : Int32) then
    (gR S h_2 r0 11 3).bind fun p_7 =>
    (aI S h_2 p_7 (3 : Int32)).bind fun v_9 =>
    lt (((90 : Int32) + ((900 : Int32) * v_9))) fun y_11 =>
    (gR S h_2 r0 11 3).bind fun p_12 =>
    (gI S h_2 r0 11 21).bind fun v_14 =>
    (sI S h_2 p_12 (y_11 + (1 : Int32)) v_14).bind fun h_16 =>
    (f_X11_law_l110 S FU r0 y_11 (0 : Int32) h_16).bind fun z => match z with
    | ((r0_19, x1_20), h_18) =>
    (f_X11_law_l145 S FU r0_19 x1_20 (0 : Int32) h_18).bind fun z => match z with
    | (r0_22, h_21) =>
    (gR S h_21 r0_22 11 3).bind fun p_23 =>
    (aI S h_21 p_23 (3 : Int32)).bind fun v_25 =>
    (sI S h_21 p_23 (3 : Int32) (v_25 + (1 : Int32))).bind fun h_27 =>
    (gR S h_27 r0_22 11 3).bind fun p_29 =>
    (aI S h_27 p_29 (3 : Int32)).bind fun v_31 =>
    (ckO S h_27 r0_22 11).bind fun _ =>
    (f_X11_tell S r0_22 ((v_31 - (1 : Int32))) h_27).bind fun z => match z with
    | (z_35, h_34) =>
    some (z_35, h_34)
  else
    (ckO S h_2 r0 11).bind fun _ =>
    (f_X11_tell S r0 (-6 : Int32) h_2).bind fun z => match z with
    | (z_38, h_37) =>
    some (z_38, h_37)
set_option maxHeartbeats 8000000 in
set_option maxRecDepth 20000 in
theorem s_X11_law_j64 {S : SH} {d cb sb : Nat} {Q : Option Value → AH → Prop} (hd : 8 ≤ d)  {r0 : Nat} {h : AH} (k : ok (f_X11_law_j64 S r0 h) (fun w h' => Q (some (.int w)) h')) : WP S M_X11_law d cb sb Q 64 [.ref r0, JK, JK] [] h := by
  obtain ⟨d, rfl, he⟩ := dp (L := 7) hd
  unfold f_X11_law_j64 at k
  refine wp_aload_n dX11_law_64 rfl ?_
  replace k := ok_bind k
  obtain ⟨u, e_1, k⟩ := k
  refine wp_callV0 (N := M_X11_endText) (ci := 11) mf_X11_endText mi_X11_endText me_X11_endText ml_X11_399 dX11_law_65 (ckO_e e_1) mv_X11_endText (by exact Nat.le_of_ble_eq_true rfl) (c_X11_endText (Nat.le_trans (by decide) he) (ok_mono (ok_bind2 k) fun _ h_2 k => ?_))
  try dsimp only at k
  refine wp_aload_n dX11_law_68 rfl ?_
  replace k := ok_bind k
  obtain ⟨v_4, e_5, k⟩ := k
  refine wq_getI fl_X11_258 (Or.inr rfl) dX11_law_69 e_5 ?_
  refine wp_if_eq 82 dX11_law_72 (by decide) (fun c_6 => ?_) (fun c_6 => ?_)
  · replace k := ok_t c_6 k
    refine wp_bipush dX11_law_82 bp_90 ?_
    refine wp_sipush dX11_law_84 sp_900 ?_
    refine wp_aload_n dX11_law_87 rfl ?_
    replace k := ok_bind k
    obtain ⟨p_7, e_8, k⟩ := k
    refine wq_getR fl_X11_13 (Or.inr ⟨_, rfl⟩) dX11_law_88 e_8 ?_
    refine wp_iconst dX11_law_91 ic_3 ?_
    replace k := ok_bind k
    obtain ⟨v_9, e_10, k⟩ := k
    refine wq_aI dX11_law_92 e_10 ?_
    refine wp_imul dX11_law_93 ?_
    refine wp_iadd dX11_law_94 ?_
    replace k := ok_lt k
    refine wp_istore_n dX11_law_95 (by decide) (L1 := [_, _, _]) rfl ?_
    refine wp_aload_n dX11_law_96 rfl ?_
    replace k := ok_bind k
    obtain ⟨p_12, e_13, k⟩ := k
    refine wq_getR fl_X11_13 (Or.inr ⟨_, rfl⟩) dX11_law_97 e_13 ?_
    refine wp_iload_n dX11_law_100 rfl ?_
    refine wp_iconst dX11_law_101 ic_1 ?_
    refine wp_iadd dX11_law_102 ?_
    refine wp_aload_n dX11_law_103 rfl ?_
    replace k := ok_bind k
    obtain ⟨v_14, e_15, k⟩ := k
    refine wq_getI fl_X11_385 (Or.inl rfl) dX11_law_104 e_15 ?_
    replace k := ok_bind k
    obtain ⟨h_16, e_17, k⟩ := k
    refine wq_sI dX11_law_107 e_17 ?_
    refine wp_iconst dX11_law_108 ic_0 ?_
    refine wp_istore_n dX11_law_109 (by decide) (L1 := [_, _, _]) rfl ?_
    refine wp_wk (wkE <| wkE <| wkE <| wkN) ?_
    refine s_X11_law_l110 (Nat.succ_le_succ he) (fun r0_19 x1_20 h_18 k => ?_) FU _ _ _ _ (ok_bind2 k)
    try dsimp only at k
    refine wp_iconst dX11_law_143 ic_0 ?_
    refine wp_istore_n dX11_law_144 (by decide) (L1 := [_, _, _]) rfl ?_
    refine wp_wk (wkE <| wkE <| wkE <| wkN) ?_
    refine s_X11_law_l145 (Nat.succ_le_succ he) (fun r0_22 h_21 k => ?_) FU _ _ _ _ (ok_bind2 k)
    try dsimp only at k
    refine wp_aload_n dX11_law_199 rfl ?_
    replace k := ok_bind k
    obtain ⟨p_23, e_24, k⟩ := k
    refine wq_getR fl_X11_13 (Or.inr ⟨_, rfl⟩) dX11_law_200 e_24 ?_
    refine wp_iconst dX11_law_203 ic_3 ?_
    refine wp_dup2 dX11_law_204 ?_
    replace k := ok_bind k
    obtain ⟨v_25, e_26, k⟩ := k
    refine wq_aI dX11_law_205 e_26 ?_
    refine wp_iconst dX11_law_206 ic_1 ?_
    refine wp_iadd dX11_law_207 ?_
    replace k := ok_bind k
    obtain ⟨h_27, e_28, k⟩ := k
    refine wq_sI dX11_law_208 e_28 ?_
    refine wp_aload_n dX11_law_209 rfl ?_
    refine wp_aload_n dX11_law_210 rfl ?_
    replace k := ok_bind k
    obtain ⟨p_29, e_30, k⟩ := k
    refine wq_getR fl_X11_13 (Or.inr ⟨_, rfl⟩) dX11_law_211 e_30 ?_
    refine wp_iconst dX11_law_214 ic_3 ?_
    replace k := ok_bind k
    obtain ⟨v_31, e_32, k⟩ := k
    refine wq_aI dX11_law_215 e_32 ?_
    refine wp_iconst dX11_law_216 ic_1 ?_
    refine wp_isub dX11_law_217 ?_
    replace k := ok_bind k
    obtain ⟨u, e_33, k⟩ := k
    refine wp_callV1 (N := M_X11_tell) (ci := 11) mf_X11_tell mi_X11_tell me_X11_tell ml_X11_161 dX11_law_218 (ckO_e e_33) mv_X11_tell (by exact Nat.le_of_ble_eq_true rfl) (c_X11_tell (Nat.le_trans (by decide) he) (ok_mono (ok_bind2 k) fun z_35 h_34 k => ?_))
    try dsimp only at k
    refine wp_iret rfl rfl dX11_law_221 ?_
    exact (ok_some k :)
  · replace k := ok_f c_6 k
    refine wp_aload_n dX11_law_75 rfl ?_
    refine wp_bipush dX11_law_76 bp_m6 ?_
    replace k := ok_bind k
    obtain ⟨u, e_36, k⟩ := k
    refine wp_callV1 (N := M_X11_tell) (ci := 11) mf_X11_tell mi_X11_tell me_X11_tell ml_X11_161 dX11_law_78 (ckO_e e_36) mv_X11_tell (by exact Nat.le_of_ble_eq_true rfl) (c_X11_tell (Nat.le_trans (by decide) he) (ok_mono (ok_bind2 k) fun z_38 h_37 k => ?_))
    try dsimp only at k
    refine wp_iret rfl rfl dX11_law_81 ?_
    exact (ok_some k :)
def f_X11_law (S : SH) (r0 : Nat) (h : AH) : Option (Int32 × AH) :=
  (pI S h r0 11 0 (0 : Int32)).bind fun h_1 =>
  (gR S h_1 r0 11 3).bind fun p_3 =>
  (aI S h_1 p_3 (3 : Int32)).bind fun v_5 =>
  if v_5 = (6 : Int32) then
    (pI S h_1 r0 11 13 (0 : Int32)).bind fun h_16 =>
    (ckO S h_16 r0 11).bind fun _ =>
    (f_X11_tell S r0 (-5 : Int32) h_16).bind fun z => match z with
    | (z_20, h_19) =>
    some (z_20, h_19)
  else
    (ckO S h_1 r0 11).bind fun _ =>
    (f_X11_beginText S r0 (0 : Int32) h_1).bind fun z => match z with
    | (_, h_9) =>
    (ckO S h_9 r0 11).bind fun _ =>
    (f_X11_readLaw S r0 h_9).bind fun z => match z with
    | (_, h_12) =>
    (f_X11_law_l37 S FU r0 h_12).bind fun z => match z with
    | (r0_15, h_14) =>
    f_X11_law_j64 S r0_15 h_14
set_option maxHeartbeats 8000000 in
set_option maxRecDepth 20000 in
theorem s_X11_law {S : SH} {d cb sb : Nat} {Q : Option Value → AH → Prop} (hd : 8 ≤ d)  {r0 : Nat} {h : AH} (k : ok (f_X11_law S r0 h) (fun w h' => Q (some (.int w)) h')) : WP S M_X11_law d cb sb Q 0 [.ref r0, JK, JK] [] h := by
  obtain ⟨d, rfl, he⟩ := dp (L := 7) hd
  unfold f_X11_law at k
  refine wp_aload_n dX11_law_0 rfl ?_
  refine wp_iconst dX11_law_1 ic_0 ?_
  replace k := ok_bind k
  obtain ⟨h_1, e_2, k⟩ := k
  refine wq_putI fl_X11_152 rfl rfl dX11_law_2 e_2 ?_
  refine wp_aload_n dX11_law_5 rfl ?_
  replace k := ok_bind k
  obtain ⟨p_3, e_4, k⟩ := k
  refine wq_getR fl_X11_13 (Or.inr ⟨_, rfl⟩) dX11_law_6 e_4 ?_
  refine wp_iconst dX11_law_9 ic_3 ?_
  replace k := ok_bind k
  obtain ⟨v_5, e_6, k⟩ := k
  refine wq_aI dX11_law_10 e_6 ?_
  refine wp_bipush dX11_law_11 bp_6 ?_
  refine wp_icmp_ne 28 dX11_law_13 (by decide) (fun c_7 => ?_) (fun c_7 => ?_)
  · replace k := ok_f c_7 k
    refine wp_aload_n dX11_law_28 rfl ?_
    refine wp_iconst dX11_law_29 ic_0 ?_
    replace k := ok_bind k
    obtain ⟨u, e_8, k⟩ := k
    refine wp_callV1 (N := M_X11_beginText) (ci := 11) mf_X11_beginText mi_X11_beginText me_X11_beginText ml_X11_393 dX11_law_30 (ckO_e e_8) mv_X11_beginText (by exact Nat.le_of_ble_eq_true rfl) (c_X11_beginText (Nat.le_trans (by decide) he) (ok_mono (ok_bind2 k) fun _ h_9 k => ?_))
    try dsimp only at k
    refine wp_aload_n dX11_law_33 rfl ?_
    replace k := ok_bind k
    obtain ⟨u, e_11, k⟩ := k
    refine wp_callV0 (N := M_X11_readLaw) (ci := 11) mf_X11_readLaw mi_X11_readLaw me_X11_readLaw ml_X11_396 dX11_law_34 (ckO_e e_11) mv_X11_readLaw (by exact Nat.le_of_ble_eq_true rfl) (c_X11_readLaw (Nat.le_trans (by decide) he) (ok_mono (ok_bind2 k) fun _ h_12 k => ?_))
    try dsimp only at k
    refine wp_wk (wkE <| wkJ <| wkJ <| wkN) ?_
    refine s_X11_law_l37 (Nat.succ_le_succ he) (fun r0_15 h_14 k => ?_) FU _ _ (ok_bind2 k)
    try dsimp only at k
    exact wp_wk (wkE <| wkJ <| wkJ <| wkN) (s_X11_law_j64 (Nat.succ_le_succ he)  k)
  · replace k := ok_t c_7 k
    refine wp_aload_n dX11_law_16 rfl ?_
    refine wp_iconst dX11_law_17 ic_0 ?_
    replace k := ok_bind k
    obtain ⟨h_16, e_17, k⟩ := k
    refine wq_putI fl_X11_243 rfl rfl dX11_law_18 e_17 ?_
    refine wp_aload_n dX11_law_21 rfl ?_
    refine wp_bipush dX11_law_22 bp_m5 ?_
    replace k := ok_bind k
    obtain ⟨u, e_18, k⟩ := k
    refine wp_callV1 (N := M_X11_tell) (ci := 11) mf_X11_tell mi_X11_tell me_X11_tell ml_X11_161 dX11_law_24 (ckO_e e_18) mv_X11_tell (by exact Nat.le_of_ble_eq_true rfl) (c_X11_tell (Nat.le_trans (by decide) he) (ok_mono (ok_bind2 k) fun z_20 h_19 k => ?_))
    try dsimp only at k
    refine wp_iret rfl rfl dX11_law_27 ?_
    exact (ok_some k :)
theorem c_X11_law {S : SH} {d : Nat} {K : Option Value → AH → Prop} (hd : 8 ≤ d)  {r0 : Nat} {h : AH} (k : ok (f_X11_law S r0 h) (fun w h' => K (some (.int w)) h')) : CP S M_X11_law d 0 0 [.ref r0] h K := cp_of (by decide) (fun _ _ => trivial) (fun _ => Nat.le_of_ble_eq_true rfl) (s_X11_law hd  k)
def f_X11_isLaw (S : SH) (r0 : Nat) (x1 : Int32) (h : AH) : Option (Int32 × AH) :=
  if x1 = (-1 : Int32) then
    some ((1 : Int32), h)
  else
    (gR S h r0 11 3).bind fun p_2 =>
    (aI S h p_2 (3 : Int32)).bind fun v_4 =>
    (f_X11_in S (Int32.toInt64 x1) (0 : Int64) (((Int32.toInt64 v_4) - (1 : Int64))) h).bind fun z => match z with
    | (z_7, h_6) =>
    if z_7 = (0 : Int32) then
      some ((0 : Int32), h_6)
    else
      some ((1 : Int32), h_6)
set_option maxHeartbeats 8000000 in
set_option maxRecDepth 20000 in
theorem s_X11_isLaw {S : SH} {d cb sb : Nat} {Q : Option Value → AH → Prop} (hd : 1 ≤ d)  {r0 : Nat} {x1 : Int32} {h : AH} (k : ok (f_X11_isLaw S r0 x1 h) (fun w h' => Q (some (.int w)) h')) : WP S M_X11_isLaw d cb sb Q 0 [.ref r0, .int x1] [] h := by
  obtain ⟨d, rfl, he⟩ := dp (L := 0) hd
  unfold f_X11_isLaw at k
  refine wp_iload_n dX11_isLaw_0 rfl ?_
  refine wp_iconst dX11_isLaw_1 ic_m1 ?_
  refine wp_icmp_eq 23 dX11_isLaw_2 (by decide) (fun c_1 => ?_) (fun c_1 => ?_)
  · replace k := ok_t c_1 k
    refine wp_iconst dX11_isLaw_23 ic_1 ?_
    refine wp_goto 28 dX11_isLaw_24 (by decide) ?_
    refine wp_iret rfl rfl dX11_isLaw_28 ?_
    exact (ok_some k :)
  · replace k := ok_f c_1 k
    refine wp_iload_n dX11_isLaw_5 rfl ?_
    refine wp_i2l dX11_isLaw_6 ?_
    refine wp_lconst dX11_isLaw_7 lc_0 ?_
    refine wp_aload_n dX11_isLaw_8 rfl ?_
    replace k := ok_bind k
    obtain ⟨p_2, e_3, k⟩ := k
    refine wq_getR fl_X11_13 (Or.inr ⟨_, rfl⟩) dX11_isLaw_9 e_3 ?_
    refine wp_iconst dX11_isLaw_12 ic_3 ?_
    replace k := ok_bind k
    obtain ⟨v_4, e_5, k⟩ := k
    refine wq_aI dX11_isLaw_13 e_5 ?_
    refine wp_i2l dX11_isLaw_14 ?_
    refine wp_lconst dX11_isLaw_15 lc_1 ?_
    refine wp_lsub dX11_isLaw_16 ?_
    refine wp_callS3 (N := M_X11_in) mf_X11_in ms_X11_in ml_X11_172 dX11_isLaw_17 (by exact Nat.le_of_ble_eq_true rfl) (c_X11_in (Nat.le_trans (by decide) he) (ok_mono (ok_bind2 k) fun z_7 h_6 k => ?_))
    try dsimp only at k
    refine wp_if_eq 27 dX11_isLaw_20 (by decide) (fun c_8 => ?_) (fun c_8 => ?_)
    · replace k := ok_t c_8 k
      refine wp_iconst dX11_isLaw_27 ic_0 ?_
      refine wp_iret rfl rfl dX11_isLaw_28 ?_
      exact (ok_some k :)
    · replace k := ok_f c_8 k
      refine wp_iconst dX11_isLaw_23 ic_1 ?_
      refine wp_goto 28 dX11_isLaw_24 (by decide) ?_
      refine wp_iret rfl rfl dX11_isLaw_28 ?_
      exact (ok_some k :)
theorem c_X11_isLaw {S : SH} {d : Nat} {K : Option Value → AH → Prop} (hd : 1 ≤ d)  {r0 : Nat} {x1 : Int32} {h : AH} (k : ok (f_X11_isLaw S r0 x1 h) (fun w h' => K (some (.int w)) h')) : CP S M_X11_isLaw d 0 0 [.ref r0, .int x1] h K := cp_of (by decide) (fun _ _ => trivial) (fun _ => Nat.le_of_ble_eq_true rfl) (s_X11_isLaw hd  k)
def f_X11_force (S : SH) (r0 : Nat) (x1 : Int32) (h : AH) : Option (Int32 × AH) :=
  (pI S h r0 11 0 (0 : Int32)).bind fun h_1 =>
  (ckO S h_1 r0 11).bind fun _ =>
  (f_X11_isLaw S r0 x1 h_1).bind fun z => match z with
  | (z_5, h_4) =>
  if z_5 = (0 : Int32) then
    (ckO S h_4 r0 11).bind fun _ =>
    (f_X11_tell S r0 (-2 : Int32) h_4).bind fun z => match z with
    | (z_9, h_8) =>
    some (z_9, h_8)
  else
    (ckO S h_4 r0 11).bind fun _ =>
    (f_X11_change S r0 (4 : Int32) x1 h_4).bind fun z => match z with
    | (z_12, h_11) =>
    some (z_12, h_11)
set_option maxHeartbeats 8000000 in
set_option maxRecDepth 20000 in
theorem s_X11_force {S : SH} {d cb sb : Nat} {Q : Option Value → AH → Prop} (hd : 2 ≤ d)  {r0 : Nat} {x1 : Int32} {h : AH} (k : ok (f_X11_force S r0 x1 h) (fun w h' => Q (some (.int w)) h')) : WP S M_X11_force d cb sb Q 0 [.ref r0, .int x1] [] h := by
  obtain ⟨d, rfl, he⟩ := dp (L := 1) hd
  unfold f_X11_force at k
  refine wp_aload_n dX11_force_0 rfl ?_
  refine wp_iconst dX11_force_1 ic_0 ?_
  replace k := ok_bind k
  obtain ⟨h_1, e_2, k⟩ := k
  refine wq_putI fl_X11_152 rfl rfl dX11_force_2 e_2 ?_
  refine wp_aload_n dX11_force_5 rfl ?_
  refine wp_iload_n dX11_force_6 rfl ?_
  replace k := ok_bind k
  obtain ⟨u, e_3, k⟩ := k
  refine wp_callV1 (N := M_X11_isLaw) (ci := 11) mf_X11_isLaw mi_X11_isLaw me_X11_isLaw ml_X11_402 dX11_force_7 (ckO_e e_3) mv_X11_isLaw (by exact Nat.le_of_ble_eq_true rfl) (c_X11_isLaw (Nat.le_trans (by decide) he) (ok_mono (ok_bind2 k) fun z_5 h_4 k => ?_))
  try dsimp only at k
  refine wp_if_eq 22 dX11_force_10 (by decide) (fun c_6 => ?_) (fun c_6 => ?_)
  · replace k := ok_t c_6 k
    refine wp_aload_n dX11_force_22 rfl ?_
    refine wp_bipush dX11_force_23 bp_m2 ?_
    replace k := ok_bind k
    obtain ⟨u, e_7, k⟩ := k
    refine wp_callV1 (N := M_X11_tell) (ci := 11) mf_X11_tell mi_X11_tell me_X11_tell ml_X11_161 dX11_force_25 (ckO_e e_7) mv_X11_tell (by exact Nat.le_of_ble_eq_true rfl) (c_X11_tell (Nat.le_trans (by decide) he) (ok_mono (ok_bind2 k) fun z_9 h_8 k => ?_))
    try dsimp only at k
    refine wp_iret rfl rfl dX11_force_28 ?_
    exact (ok_some k :)
  · replace k := ok_f c_6 k
    refine wp_aload_n dX11_force_13 rfl ?_
    refine wp_iconst dX11_force_14 ic_4 ?_
    refine wp_iload_n dX11_force_15 rfl ?_
    replace k := ok_bind k
    obtain ⟨u, e_10, k⟩ := k
    refine wp_callV2 (N := M_X11_change) (ci := 11) mf_X11_change mi_X11_change me_X11_change ml_X11_201 dX11_force_16 (ckO_e e_10) mv_X11_change (by exact Nat.le_of_ble_eq_true rfl) (c_X11_change (Nat.le_trans (by decide) he) (ok_mono (ok_bind2 k) fun z_12 h_11 k => ?_))
    try dsimp only at k
    refine wp_goto 28 dX11_force_19 (by decide) ?_
    refine wp_iret rfl rfl dX11_force_28 ?_
    exact (ok_some k :)
theorem c_X11_force {S : SH} {d : Nat} {K : Option Value → AH → Prop} (hd : 2 ≤ d)  {r0 : Nat} {x1 : Int32} {h : AH} (k : ok (f_X11_force S r0 x1 h) (fun w h' => K (some (.int w)) h')) : CP S M_X11_force d 0 0 [.ref r0, .int x1] h K := cp_of (by decide) (fun _ _ => trivial) (fun _ => Nat.le_of_ble_eq_true rfl) (s_X11_force hd  k)
def f_X11_carries (S : SH) (r0 : Nat) (x1 : Int32) (x2 : Int32) (h : AH) : Option (Int32 × AH) :=
  (f_X11_ones S x1 h).bind fun z => match z with
  | (z_2, h_1) =>
  (gR S h_1 r0 11 3).bind fun p_3 =>
  (aI S h_1 p_3 (8 : Int32)).bind fun v_5 =>
  if z_2 < v_5 then
    some ((0 : Int32), h_1)
  else
    (f_X11_ones S x2 h_1).bind fun z => match z with
    | (z_9, h_8) =>
    (f_X11_ones S x1 h_8).bind fun z => match z with
    | (z_11, h_10) =>
    if ((2 : Int32) * z_9) ≤ z_11 then
      some ((0 : Int32), h_10)
    else
      some ((1 : Int32), h_10)
set_option maxHeartbeats 8000000 in
set_option maxRecDepth 20000 in
theorem s_X11_carries {S : SH} {d cb sb : Nat} {Q : Option Value → AH → Prop} (hd : 1 ≤ d)  {r0 : Nat} {x1 : Int32} {x2 : Int32} {h : AH} (k : ok (f_X11_carries S r0 x1 x2 h) (fun w h' => Q (some (.int w)) h')) : WP S M_X11_carries d cb sb Q 0 [.ref r0, .int x1, .int x2] [] h := by
  obtain ⟨d, rfl, he⟩ := dp (L := 0) hd
  unfold f_X11_carries at k
  refine wp_iload_n dX11_carries_0 rfl ?_
  refine wp_callS1 (N := M_X11_ones) mf_X11_ones ms_X11_ones ml_X11_439 dX11_carries_1 (by exact Nat.le_of_ble_eq_true rfl) (c_X11_ones (Nat.le_trans (by decide) he) (ok_mono (ok_bind2 k) fun z_2 h_1 k => ?_))
  try dsimp only at k
  refine wp_aload_n dX11_carries_4 rfl ?_
  replace k := ok_bind k
  obtain ⟨p_3, e_4, k⟩ := k
  refine wq_getR fl_X11_13 (Or.inr ⟨_, rfl⟩) dX11_carries_5 e_4 ?_
  refine wp_bipush dX11_carries_8 bp_8 ?_
  replace k := ok_bind k
  obtain ⟨v_5, e_6, k⟩ := k
  refine wq_aI dX11_carries_10 e_6 ?_
  refine wp_icmp_lt 31 dX11_carries_11 (by decide) (fun c_7 => ?_) (fun c_7 => ?_)
  · replace k := ok_t c_7 k
    refine wp_iconst dX11_carries_31 ic_0 ?_
    refine wp_iret rfl rfl dX11_carries_32 ?_
    exact (ok_some k :)
  · replace k := ok_f c_7 k
    refine wp_iconst dX11_carries_14 ic_2 ?_
    refine wp_iload_n dX11_carries_15 rfl ?_
    refine wp_callS1 (N := M_X11_ones) mf_X11_ones ms_X11_ones ml_X11_439 dX11_carries_16 (by exact Nat.le_of_ble_eq_true rfl) (c_X11_ones (Nat.le_trans (by decide) he) (ok_mono (ok_bind2 k) fun z_9 h_8 k => ?_))
    try dsimp only at k
    refine wp_imul dX11_carries_19 ?_
    refine wp_iload_n dX11_carries_20 rfl ?_
    refine wp_callS1 (N := M_X11_ones) mf_X11_ones ms_X11_ones ml_X11_439 dX11_carries_21 (by exact Nat.le_of_ble_eq_true rfl) (c_X11_ones (Nat.le_trans (by decide) he) (ok_mono (ok_bind2 k) fun z_11 h_10 k => ?_))
    try dsimp only at k
    refine wp_icmp_le 31 dX11_carries_24 (by decide) (fun c_12 => ?_) (fun c_12 => ?_)
    · replace k := ok_t c_12 k
      refine wp_iconst dX11_carries_31 ic_0 ?_
      refine wp_iret rfl rfl dX11_carries_32 ?_
      exact (ok_some k :)
    · replace k := ok_f c_12 k
      refine wp_iconst dX11_carries_27 ic_1 ?_
      refine wp_goto 32 dX11_carries_28 (by decide) ?_
      refine wp_iret rfl rfl dX11_carries_32 ?_
      exact (ok_some k :)
theorem c_X11_carries {S : SH} {d : Nat} {K : Option Value → AH → Prop} (hd : 1 ≤ d)  {r0 : Nat} {x1 : Int32} {x2 : Int32} {h : AH} (k : ok (f_X11_carries S r0 x1 x2 h) (fun w h' => K (some (.int w)) h')) : CP S M_X11_carries d 0 0 [.ref r0, .int x1, .int x2] h K := cp_of (by decide) (fun _ _ => trivial) (fun _ => Nat.le_of_ble_eq_true rfl) (s_X11_carries hd  k)
def f_X11_seconder_l12b (S : SH) (rc : Nat → Int32 → Int32 → Int32 → Int32 → AH → Option (Int32 × AH)) (r0 : Nat) (x1 : Int32) (x2 : Int32) (x3 : Int32) (x4 : Int32) (h : AH) : Option (Int32 × AH) :=
  if x4 < (0 : Int32) then
    some (x3, h)
  else
    (ckO S h r0 11).bind fun _ =>
    (f_X11_hears S r0 x4 x2 h).bind fun z => match z with
    | (z_4, h_3) =>
    if z_4 = (0 : Int32) then
      lt (x4 + (-1 : Int32)) fun y_6 =>
      rc r0 x1 x2 x3 y_6 h_3
    else
      (ckO S h_3 r0 11).bind fun _ =>
      (f_X11_isAye S r0 x4 x1 h_3).bind fun z => match z with
      | (z_9, h_8) =>
      if z_9 = (0 : Int32) then
        lt (x4 + (-1 : Int32)) fun y_11 =>
        rc r0 x1 x2 x3 y_11 h_8
      else
        lt (x4 + (-1 : Int32)) fun y_12 =>
        rc r0 x1 x2 x4 y_12 h_8
set_option maxHeartbeats 8000000 in
set_option maxRecDepth 20000 in
theorem s_X11_seconder_l12b {S : SH} {d cb sb : Nat} {Q : Option Value → AH → Prop} (hd : 7 ≤ d) {K : Int32 → AH → Prop} (hex : ∀ (x3 : Int32) (h' : AH), K x3 h' → WP S M_X11_seconder d cb sb Q 50 [JK, JK, JK, .int x3, JK] [] h') {rc : Nat → Int32 → Int32 → Int32 → Int32 → AH → Option (Int32 × AH)} (hrec : ∀ (r0 : Nat) (x1 : Int32) (x2 : Int32) (x3 : Int32) (x4 : Int32) (h' : AH), ok (rc r0 x1 x2 x3 x4 h') K → WP S M_X11_seconder d cb sb Q 12 [.ref r0, .int x1, .int x2, .int x3, .int x4] [] h') {r0 : Nat} {x1 : Int32} {x2 : Int32} {x3 : Int32} {x4 : Int32} {h : AH} (k : ok (f_X11_seconder_l12b S rc r0 x1 x2 x3 x4 h) K) : WP S M_X11_seconder d cb sb Q 12 [.ref r0, .int x1, .int x2, .int x3, .int x4] [] h := by
  obtain ⟨d, rfl, he⟩ := dp (L := 6) hd
  unfold f_X11_seconder_l12b at k
  refine wp_iload dX11_seconder_12 rfl ?_
  refine wp_if_lt 50 dX11_seconder_14 (by decide) (fun c_1 => ?_) (fun c_1 => ?_)
  · replace k := ok_t c_1 k
    exact wp_wk (wkJ <| wkJ <| wkJ <| wkE <| wkJ <| wkN) (hex _ _ (ok_some k))
  · replace k := ok_f c_1 k
    refine wp_aload_n dX11_seconder_17 rfl ?_
    refine wp_iload dX11_seconder_18 rfl ?_
    refine wp_iload_n dX11_seconder_20 rfl ?_
    replace k := ok_bind k
    obtain ⟨u, e_2, k⟩ := k
    refine wp_callV2 (N := M_X11_hears) (ci := 11) mf_X11_hears mi_X11_hears me_X11_hears ml_X11_204 dX11_seconder_21 (ckO_e e_2) mv_X11_hears (by exact Nat.le_of_ble_eq_true rfl) (c_X11_hears (Nat.le_trans (by decide) he) (ok_mono (ok_bind2 k) fun z_4 h_3 k => ?_))
    try dsimp only at k
    refine wp_if_eq 42 dX11_seconder_24 (by decide) (fun c_5 => ?_) (fun c_5 => ?_)
    · replace k := ok_t c_5 k
      refine wp_iload_n dX11_seconder_42 rfl ?_
      refine wp_istore_n dX11_seconder_43 (by decide) (L1 := [_, _, _, _, _]) rfl ?_
      replace k := ok_lt k
      refine wp_iinc dX11_seconder_44 rfl ic_m1 (by decide) (L1 := [_, _, _, _, _]) rfl ?_
      refine wp_goto 12 dX11_seconder_47 (by decide) ?_
      exact wp_wk (wkE <| wkE <| wkE <| wkE <| wkE <| wkN) (hrec _ _ _ _ _ _ k)
    · replace k := ok_f c_5 k
      refine wp_aload_n dX11_seconder_27 rfl ?_
      refine wp_iload dX11_seconder_28 rfl ?_
      refine wp_iload_n dX11_seconder_30 rfl ?_
      replace k := ok_bind k
      obtain ⟨u, e_7, k⟩ := k
      refine wp_callV2 (N := M_X11_isAye) (ci := 11) mf_X11_isAye mi_X11_isAye me_X11_isAye ml_X11_222 dX11_seconder_31 (ckO_e e_7) mv_X11_isAye (by exact Nat.le_of_ble_eq_true rfl) (c_X11_isAye (Nat.le_trans (by decide) he) (ok_mono (ok_bind2 k) fun z_9 h_8 k => ?_))
      try dsimp only at k
      refine wp_if_eq 42 dX11_seconder_34 (by decide) (fun c_10 => ?_) (fun c_10 => ?_)
      · replace k := ok_t c_10 k
        refine wp_iload_n dX11_seconder_42 rfl ?_
        refine wp_istore_n dX11_seconder_43 (by decide) (L1 := [_, _, _, _, _]) rfl ?_
        replace k := ok_lt k
        refine wp_iinc dX11_seconder_44 rfl ic_m1 (by decide) (L1 := [_, _, _, _, _]) rfl ?_
        refine wp_goto 12 dX11_seconder_47 (by decide) ?_
        exact wp_wk (wkE <| wkE <| wkE <| wkE <| wkE <| wkN) (hrec _ _ _ _ _ _ k)
      · replace k := ok_f c_10 k
        refine wp_iload dX11_seconder_37 rfl ?_
        refine wp_goto 43 dX11_seconder_39 (by decide) ?_
        refine wp_istore_n dX11_seconder_43 (by decide) (L1 := [_, _, _, _, _]) rfl ?_
        replace k := ok_lt k
        refine wp_iinc dX11_seconder_44 rfl ic_m1 (by decide) (L1 := [_, _, _, _, _]) rfl ?_
        refine wp_goto 12 dX11_seconder_47 (by decide) ?_
        exact wp_wk (wkE <| wkE <| wkE <| wkE <| wkE <| wkN) (hrec _ _ _ _ _ _ k)
def f_X11_seconder_l12 (S : SH) : Nat → Nat → Int32 → Int32 → Int32 → Int32 → AH → Option (Int32 × AH)
  | 0, _, _, _, _, _, _ => none
  | n + 1, r0, x1, x2, x3, x4, h => f_X11_seconder_l12b S (f_X11_seconder_l12 S n) r0 x1 x2 x3 x4 h
theorem s_X11_seconder_l12 {S : SH} {d cb sb : Nat} {Q : Option Value → AH → Prop} (hd : 7 ≤ d) {K : Int32 → AH → Prop} (hex : ∀ (x3 : Int32) (h' : AH), K x3 h' → WP S M_X11_seconder d cb sb Q 50 [JK, JK, JK, .int x3, JK] [] h') : ∀ (n : Nat) (r0 : Nat) (x1 : Int32) (x2 : Int32) (x3 : Int32) (x4 : Int32) (h : AH), ok (f_X11_seconder_l12 S n r0 x1 x2 x3 x4 h) K → WP S M_X11_seconder d cb sb Q 12 [.ref r0, .int x1, .int x2, .int x3, .int x4] [] h := by
  intro n
  induction n with
  | zero => intro r0 x1 x2 x3 x4 h k; exact ok_none k
  | succ n ih => intro r0 x1 x2 x3 x4 h k; exact s_X11_seconder_l12b hd hex (fun r0 x1 x2 x3 x4 h k => ih r0 x1 x2 x3 x4 h k) k
def f_X11_seconder (S : SH) (r0 : Nat) (x1 : Int32) (x2 : Int32) (h : AH) : Option (Int32 × AH) :=
  (gR S h r0 11 3).bind fun p_1 =>
  (aI S h p_1 (0 : Int32)).bind fun v_3 =>
  lt ((v_3 - (1 : Int32))) fun y_5 =>
  (f_X11_seconder_l12 S FU r0 x1 x2 (-1 : Int32) y_5 h).bind fun z => match z with
  | (x3_7, h_6) =>
  some (x3_7, h_6)
set_option maxHeartbeats 8000000 in
set_option maxRecDepth 20000 in
theorem s_X11_seconder {S : SH} {d cb sb : Nat} {Q : Option Value → AH → Prop} (hd : 7 ≤ d)  {r0 : Nat} {x1 : Int32} {x2 : Int32} {h : AH} (k : ok (f_X11_seconder S r0 x1 x2 h) (fun w h' => Q (some (.int w)) h')) : WP S M_X11_seconder d cb sb Q 0 [.ref r0, .int x1, .int x2, JK, JK] [] h := by
  obtain ⟨d, rfl, he⟩ := dp (L := 6) hd
  unfold f_X11_seconder at k
  refine wp_iconst dX11_seconder_0 ic_m1 ?_
  refine wp_istore_n dX11_seconder_1 (by decide) (L1 := [_, _, _, _, _]) rfl ?_
  refine wp_aload_n dX11_seconder_2 rfl ?_
  replace k := ok_bind k
  obtain ⟨p_1, e_2, k⟩ := k
  refine wq_getR fl_X11_13 (Or.inr ⟨_, rfl⟩) dX11_seconder_3 e_2 ?_
  refine wp_iconst dX11_seconder_6 ic_0 ?_
  replace k := ok_bind k
  obtain ⟨v_3, e_4, k⟩ := k
  refine wq_aI dX11_seconder_7 e_4 ?_
  refine wp_iconst dX11_seconder_8 ic_1 ?_
  refine wp_isub dX11_seconder_9 ?_
  replace k := ok_lt k
  refine wp_istore dX11_seconder_10 (by decide) (L1 := [_, _, _, _, _]) rfl ?_
  refine wp_wk (wkE <| wkE <| wkE <| wkE <| wkE <| wkN) ?_
  refine s_X11_seconder_l12 (Nat.succ_le_succ he) (fun x3_7 h_6 k => ?_) FU _ _ _ _ _ _ (ok_bind2 k)
  try dsimp only at k
  refine wp_iload_n dX11_seconder_50 rfl ?_
  refine wp_iret rfl rfl dX11_seconder_51 ?_
  exact (ok_some k :)
theorem c_X11_seconder {S : SH} {d : Nat} {K : Option Value → AH → Prop} (hd : 7 ≤ d)  {r0 : Nat} {x1 : Int32} {x2 : Int32} {h : AH} (k : ok (f_X11_seconder S r0 x1 x2 h) (fun w h' => K (some (.int w)) h')) : CP S M_X11_seconder d 0 0 [.ref r0, .int x1, .int x2] h K := cp_of (by decide) (fun _ _ => trivial) (fun _ => Nat.le_of_ble_eq_true rfl) (s_X11_seconder hd  k)
def f_X11_divideIt (S : SH) (r0 : Nat) (x1 : Int32) (h : AH) : Option (Unit × AH) :=
  (ckO S h r0 11).bind fun _ =>
  (f_X11_takesOf S r0 x1 h).bind fun z => match z with
  | (z_3, h_2) =>
  (gR S h_2 r0 11 3).bind fun p_4 =>
  (ckO S h_2 r0 11).bind fun _ =>
  (f_X11_sitting S r0 x1 h_2).bind fun z => match z with
  | (z_8, h_7) =>
  (ckO S h_7 r0 11).bind fun _ =>
  (f_X11_ayes S r0 x1 h_7).bind fun z => match z with
  | (z_11, h_10) =>
  (ckO S h_10 r0 11).bind fun _ =>
  (f_X11_carries S r0 z_8 z_11 h_10).bind fun z => match z with
  | (z_14, h_13) =>
  if z_14 = (0 : Int32) then
    (sI S h_13 p_4 ((17 : Int32) + x1) (3 : Int32)).bind fun h_16 =>
    (gR S h_16 r0 11 3).bind fun p_18 =>
    (aI S h_16 p_18 (9 : Int32)).bind fun v_20 =>
    (sI S h_16 p_18 (9 : Int32) (v_20 + z_3)).bind fun h_22 =>
    some ((), h_22)
  else
    (sI S h_13 p_4 ((17 : Int32) + x1) (2 : Int32)).bind fun h_24 =>
    (gR S h_24 r0 11 3).bind fun p_26 =>
    (aI S h_24 p_26 (9 : Int32)).bind fun v_28 =>
    (sI S h_24 p_26 (9 : Int32) (v_28 + z_3)).bind fun h_30 =>
    some ((), h_30)
set_option maxHeartbeats 8000000 in
set_option maxRecDepth 20000 in
theorem s_X11_divideIt {S : SH} {d cb sb : Nat} {Q : Option Value → AH → Prop} (hd : 8 ≤ d)  {r0 : Nat} {x1 : Int32} {h : AH} (k : ok (f_X11_divideIt S r0 x1 h) (fun _ h' => Q none h')) : WP S M_X11_divideIt d cb sb Q 0 [.ref r0, .int x1, JK] [] h := by
  obtain ⟨d, rfl, he⟩ := dp (L := 7) hd
  unfold f_X11_divideIt at k
  refine wp_aload_n dX11_divideIt_0 rfl ?_
  refine wp_iload_n dX11_divideIt_1 rfl ?_
  replace k := ok_bind k
  obtain ⟨u, e_1, k⟩ := k
  refine wp_callV1 (N := M_X11_takesOf) (ci := 11) mf_X11_takesOf mi_X11_takesOf me_X11_takesOf ml_X11_225 dX11_divideIt_2 (ckO_e e_1) mv_X11_takesOf (by exact Nat.le_of_ble_eq_true rfl) (c_X11_takesOf (Nat.le_trans (by decide) he) (ok_mono (ok_bind2 k) fun z_3 h_2 k => ?_))
  try dsimp only at k
  refine wp_istore_n dX11_divideIt_5 (by decide) (L1 := [_, _, _]) rfl ?_
  refine wp_aload_n dX11_divideIt_6 rfl ?_
  replace k := ok_bind k
  obtain ⟨p_4, e_5, k⟩ := k
  refine wq_getR fl_X11_13 (Or.inr ⟨_, rfl⟩) dX11_divideIt_7 e_5 ?_
  refine wp_bipush dX11_divideIt_10 bp_17 ?_
  refine wp_iload_n dX11_divideIt_12 rfl ?_
  refine wp_iadd dX11_divideIt_13 ?_
  refine wp_aload_n dX11_divideIt_14 rfl ?_
  refine wp_aload_n dX11_divideIt_15 rfl ?_
  refine wp_iload_n dX11_divideIt_16 rfl ?_
  replace k := ok_bind k
  obtain ⟨u, e_6, k⟩ := k
  refine wp_callV1 (N := M_X11_sitting) (ci := 11) mf_X11_sitting mi_X11_sitting me_X11_sitting ml_X11_228 dX11_divideIt_17 (ckO_e e_6) mv_X11_sitting (by exact Nat.le_of_ble_eq_true rfl) (c_X11_sitting (Nat.le_trans (by decide) he) (ok_mono (ok_bind2 k) fun z_8 h_7 k => ?_))
  try dsimp only at k
  refine wp_aload_n dX11_divideIt_20 rfl ?_
  refine wp_iload_n dX11_divideIt_21 rfl ?_
  replace k := ok_bind k
  obtain ⟨u, e_9, k⟩ := k
  refine wp_callV1 (N := M_X11_ayes) (ci := 11) mf_X11_ayes mi_X11_ayes me_X11_ayes ml_X11_231 dX11_divideIt_22 (ckO_e e_9) mv_X11_ayes (by exact Nat.le_of_ble_eq_true rfl) (c_X11_ayes (Nat.le_trans (by decide) he) (ok_mono (ok_bind2 k) fun z_11 h_10 k => ?_))
  try dsimp only at k
  replace k := ok_bind k
  obtain ⟨u, e_12, k⟩ := k
  refine wp_callV2 (N := M_X11_carries) (ci := 11) mf_X11_carries mi_X11_carries me_X11_carries ml_X11_442 dX11_divideIt_25 (ckO_e e_12) mv_X11_carries (by exact Nat.le_of_ble_eq_true rfl) (c_X11_carries (Nat.le_trans (by decide) he) (ok_mono (ok_bind2 k) fun z_14 h_13 k => ?_))
  try dsimp only at k
  refine wp_if_eq 35 dX11_divideIt_28 (by decide) (fun c_15 => ?_) (fun c_15 => ?_)
  · replace k := ok_t c_15 k
    refine wp_iconst dX11_divideIt_35 ic_3 ?_
    replace k := ok_bind k
    obtain ⟨h_16, e_17, k⟩ := k
    refine wq_sI dX11_divideIt_36 e_17 ?_
    refine wp_aload_n dX11_divideIt_37 rfl ?_
    replace k := ok_bind k
    obtain ⟨p_18, e_19, k⟩ := k
    refine wq_getR fl_X11_13 (Or.inr ⟨_, rfl⟩) dX11_divideIt_38 e_19 ?_
    refine wp_bipush dX11_divideIt_41 bp_9 ?_
    refine wp_dup2 dX11_divideIt_43 ?_
    replace k := ok_bind k
    obtain ⟨v_20, e_21, k⟩ := k
    refine wq_aI dX11_divideIt_44 e_21 ?_
    refine wp_iload_n dX11_divideIt_45 rfl ?_
    refine wp_iadd dX11_divideIt_46 ?_
    replace k := ok_bind k
    obtain ⟨h_22, e_23, k⟩ := k
    refine wq_sI dX11_divideIt_47 e_23 ?_
    refine wp_vret rfl dX11_divideIt_48 ?_
    exact (ok_some k :)
  · replace k := ok_f c_15 k
    refine wp_iconst dX11_divideIt_31 ic_2 ?_
    refine wp_goto 36 dX11_divideIt_32 (by decide) ?_
    replace k := ok_bind k
    obtain ⟨h_24, e_25, k⟩ := k
    refine wq_sI dX11_divideIt_36 e_25 ?_
    refine wp_aload_n dX11_divideIt_37 rfl ?_
    replace k := ok_bind k
    obtain ⟨p_26, e_27, k⟩ := k
    refine wq_getR fl_X11_13 (Or.inr ⟨_, rfl⟩) dX11_divideIt_38 e_27 ?_
    refine wp_bipush dX11_divideIt_41 bp_9 ?_
    refine wp_dup2 dX11_divideIt_43 ?_
    replace k := ok_bind k
    obtain ⟨v_28, e_29, k⟩ := k
    refine wq_aI dX11_divideIt_44 e_29 ?_
    refine wp_iload_n dX11_divideIt_45 rfl ?_
    refine wp_iadd dX11_divideIt_46 ?_
    replace k := ok_bind k
    obtain ⟨h_30, e_31, k⟩ := k
    refine wq_sI dX11_divideIt_47 e_31 ?_
    refine wp_vret rfl dX11_divideIt_48 ?_
    exact (ok_some k :)
theorem c_X11_divideIt {S : SH} {d : Nat} {K : Option Value → AH → Prop} (hd : 8 ≤ d)  {r0 : Nat} {x1 : Int32} {h : AH} (k : ok (f_X11_divideIt S r0 x1 h) (fun _ h' => K none h')) : CP S M_X11_divideIt d 0 0 [.ref r0, .int x1] h K := cp_of (by decide) (fun _ _ => trivial) (fun _ => Nat.le_of_ble_eq_true rfl) (s_X11_divideIt hd  k)
def f_X11_canMove (S : SH) (r0 : Nat) (x1 : Int32) (x2 : Int32) (h : AH) : Option (Int32 × AH) :=
  (gR S h r0 11 3).bind fun p_1 =>
  (aI S h p_1 ((17 : Int32) + x1)).bind fun v_3 =>
  if v_3 = (0 : Int32) then
    (ckO S h r0 11).bind fun _ =>
    (f_X11_sits S r0 x2 x1 h).bind fun z => match z with
    | (z_8, h_7) =>
    if z_8 = (0 : Int32) then
      some ((0 : Int32), h_7)
    else
      (ckO S h_7 r0 11).bind fun _ =>
      (f_X11_seconder S r0 x1 x2 h_7).bind fun z => match z with
      | (z_12, h_11) =>
      if z_12 = (-1 : Int32) then
        some ((0 : Int32), h_11)
      else
        some ((1 : Int32), h_11)
  else
    some ((0 : Int32), h)
set_option maxHeartbeats 8000000 in
set_option maxRecDepth 20000 in
theorem s_X11_canMove {S : SH} {d cb sb : Nat} {Q : Option Value → AH → Prop} (hd : 8 ≤ d)  {r0 : Nat} {x1 : Int32} {x2 : Int32} {h : AH} (k : ok (f_X11_canMove S r0 x1 x2 h) (fun w h' => Q (some (.int w)) h')) : WP S M_X11_canMove d cb sb Q 0 [.ref r0, .int x1, .int x2] [] h := by
  obtain ⟨d, rfl, he⟩ := dp (L := 7) hd
  unfold f_X11_canMove at k
  refine wp_aload_n dX11_canMove_0 rfl ?_
  replace k := ok_bind k
  obtain ⟨p_1, e_2, k⟩ := k
  refine wq_getR fl_X11_13 (Or.inr ⟨_, rfl⟩) dX11_canMove_1 e_2 ?_
  refine wp_bipush dX11_canMove_4 bp_17 ?_
  refine wp_iload_n dX11_canMove_6 rfl ?_
  refine wp_iadd dX11_canMove_7 ?_
  replace k := ok_bind k
  obtain ⟨v_3, e_4, k⟩ := k
  refine wq_aI dX11_canMove_8 e_4 ?_
  refine wp_if_ne 35 dX11_canMove_9 (by decide) (fun c_5 => ?_) (fun c_5 => ?_)
  · replace k := ok_f c_5 k
    refine wp_iconst dX11_canMove_35 ic_0 ?_
    refine wp_iret rfl rfl dX11_canMove_36 ?_
    exact (ok_some k :)
  · replace k := ok_t c_5 k
    refine wp_aload_n dX11_canMove_12 rfl ?_
    refine wp_iload_n dX11_canMove_13 rfl ?_
    refine wp_iload_n dX11_canMove_14 rfl ?_
    replace k := ok_bind k
    obtain ⟨u, e_6, k⟩ := k
    refine wp_callV2 (N := M_X11_sits) (ci := 11) mf_X11_sits mi_X11_sits me_X11_sits ml_X11_219 dX11_canMove_15 (ckO_e e_6) mv_X11_sits (by exact Nat.le_of_ble_eq_true rfl) (c_X11_sits (Nat.le_trans (by decide) he) (ok_mono (ok_bind2 k) fun z_8 h_7 k => ?_))
    try dsimp only at k
    refine wp_if_eq 35 dX11_canMove_18 (by decide) (fun c_9 => ?_) (fun c_9 => ?_)
    · replace k := ok_t c_9 k
      refine wp_iconst dX11_canMove_35 ic_0 ?_
      refine wp_iret rfl rfl dX11_canMove_36 ?_
      exact (ok_some k :)
    · replace k := ok_f c_9 k
      refine wp_aload_n dX11_canMove_21 rfl ?_
      refine wp_iload_n dX11_canMove_22 rfl ?_
      refine wp_iload_n dX11_canMove_23 rfl ?_
      replace k := ok_bind k
      obtain ⟨u, e_10, k⟩ := k
      refine wp_callV2 (N := M_X11_seconder) (ci := 11) mf_X11_seconder mi_X11_seconder me_X11_seconder ml_X11_445 dX11_canMove_24 (ckO_e e_10) mv_X11_seconder (by exact Nat.le_of_ble_eq_true rfl) (c_X11_seconder (Nat.le_trans (by decide) he) (ok_mono (ok_bind2 k) fun z_12 h_11 k => ?_))
      try dsimp only at k
      refine wp_iconst dX11_canMove_27 ic_m1 ?_
      refine wp_icmp_eq 35 dX11_canMove_28 (by decide) (fun c_13 => ?_) (fun c_13 => ?_)
      · replace k := ok_t c_13 k
        refine wp_iconst dX11_canMove_35 ic_0 ?_
        refine wp_iret rfl rfl dX11_canMove_36 ?_
        exact (ok_some k :)
      · replace k := ok_f c_13 k
        refine wp_iconst dX11_canMove_31 ic_1 ?_
        refine wp_goto 36 dX11_canMove_32 (by decide) ?_
        refine wp_iret rfl rfl dX11_canMove_36 ?_
        exact (ok_some k :)
theorem c_X11_canMove {S : SH} {d : Nat} {K : Option Value → AH → Prop} (hd : 8 ≤ d)  {r0 : Nat} {x1 : Int32} {x2 : Int32} {h : AH} (k : ok (f_X11_canMove S r0 x1 x2 h) (fun w h' => K (some (.int w)) h')) : CP S M_X11_canMove d 0 0 [.ref r0, .int x1, .int x2] h K := cp_of (by decide) (fun _ _ => trivial) (fun _ => Nat.le_of_ble_eq_true rfl) (s_X11_canMove hd  k)
def f_X11_moveNow (S : SH) (r0 : Nat) (x1 : Int32) (x2 : Int32) (h : AH) : Option (Int32 × AH) :=
  (ckO S h r0 11).bind fun _ =>
  (f_X11_isMatter S r0 x1 h).bind fun z => match z with
  | (z_3, h_2) =>
  if z_3 = (0 : Int32) then
    some ((-2 : Int32), h_2)
  else
    (ckO S h_2 r0 11).bind fun _ =>
    (f_X11_isBird S r0 x2 h_2).bind fun z => match z with
    | (z_7, h_6) =>
    if z_7 = (0 : Int32) then
      some ((-2 : Int32), h_6)
    else
      (ckO S h_6 r0 11).bind fun _ =>
      (f_X11_canMove S r0 x1 x2 h_6).bind fun z => match z with
      | (z_11, h_10) =>
      if z_11 = (0 : Int32) then
        some ((-3 : Int32), h_10)
      else
        (ckO S h_10 r0 11).bind fun _ =>
        (f_X11_seconder S r0 x1 x2 h_10).bind fun z => match z with
        | (z_15, h_14) =>
        (ckO S h_14 r0 11).bind fun _ =>
        (f_X11_remember S r0 (0 : Int32) h_14).bind fun z => match z with
        | (_, h_17) =>
        (gR S h_17 r0 11 3).bind fun p_19 =>
        (sI S h_17 p_19 ((17 : Int32) + x1) (1 : Int32)).bind fun h_21 =>
        some (z_15, h_21)
set_option maxHeartbeats 8000000 in
set_option maxRecDepth 20000 in
theorem s_X11_moveNow {S : SH} {d cb sb : Nat} {Q : Option Value → AH → Prop} (hd : 9 ≤ d)  {r0 : Nat} {x1 : Int32} {x2 : Int32} {h : AH} (k : ok (f_X11_moveNow S r0 x1 x2 h) (fun w h' => Q (some (.int w)) h')) : WP S M_X11_moveNow d cb sb Q 0 [.ref r0, .int x1, .int x2, JK] [] h := by
  obtain ⟨d, rfl, he⟩ := dp (L := 8) hd
  unfold f_X11_moveNow at k
  refine wp_aload_n dX11_moveNow_0 rfl ?_
  refine wp_iload_n dX11_moveNow_1 rfl ?_
  replace k := ok_bind k
  obtain ⟨u, e_1, k⟩ := k
  refine wp_callV1 (N := M_X11_isMatter) (ci := 11) mf_X11_isMatter mi_X11_isMatter me_X11_isMatter ml_X11_213 dX11_moveNow_2 (ckO_e e_1) mv_X11_isMatter (by exact Nat.le_of_ble_eq_true rfl) (c_X11_isMatter (Nat.le_trans (by decide) he) (ok_mono (ok_bind2 k) fun z_3 h_2 k => ?_))
  try dsimp only at k
  refine wp_if_eq 16 dX11_moveNow_5 (by decide) (fun c_4 => ?_) (fun c_4 => ?_)
  · replace k := ok_t c_4 k
    refine wp_bipush dX11_moveNow_16 bp_m2 ?_
    refine wp_iret rfl rfl dX11_moveNow_18 ?_
    exact (ok_some k :)
  · replace k := ok_f c_4 k
    refine wp_aload_n dX11_moveNow_8 rfl ?_
    refine wp_iload_n dX11_moveNow_9 rfl ?_
    replace k := ok_bind k
    obtain ⟨u, e_5, k⟩ := k
    refine wp_callV1 (N := M_X11_isBird) (ci := 11) mf_X11_isBird mi_X11_isBird me_X11_isBird ml_X11_198 dX11_moveNow_10 (ckO_e e_5) mv_X11_isBird (by exact Nat.le_of_ble_eq_true rfl) (c_X11_isBird (Nat.le_trans (by decide) he) (ok_mono (ok_bind2 k) fun z_7 h_6 k => ?_))
    try dsimp only at k
    refine wp_if_ne 19 dX11_moveNow_13 (by decide) (fun c_8 => ?_) (fun c_8 => ?_)
    · replace k := ok_f c_8 k
      refine wp_aload_n dX11_moveNow_19 rfl ?_
      refine wp_iload_n dX11_moveNow_20 rfl ?_
      refine wp_iload_n dX11_moveNow_21 rfl ?_
      replace k := ok_bind k
      obtain ⟨u, e_9, k⟩ := k
      refine wp_callV2 (N := M_X11_canMove) (ci := 11) mf_X11_canMove mi_X11_canMove me_X11_canMove ml_X11_448 dX11_moveNow_22 (ckO_e e_9) mv_X11_canMove (by exact Nat.le_of_ble_eq_true rfl) (c_X11_canMove (Nat.le_trans (by decide) he) (ok_mono (ok_bind2 k) fun z_11 h_10 k => ?_))
      try dsimp only at k
      refine wp_if_ne 31 dX11_moveNow_25 (by decide) (fun c_12 => ?_) (fun c_12 => ?_)
      · replace k := ok_f c_12 k
        refine wp_aload_n dX11_moveNow_31 rfl ?_
        refine wp_iload_n dX11_moveNow_32 rfl ?_
        refine wp_iload_n dX11_moveNow_33 rfl ?_
        replace k := ok_bind k
        obtain ⟨u, e_13, k⟩ := k
        refine wp_callV2 (N := M_X11_seconder) (ci := 11) mf_X11_seconder mi_X11_seconder me_X11_seconder ml_X11_445 dX11_moveNow_34 (ckO_e e_13) mv_X11_seconder (by exact Nat.le_of_ble_eq_true rfl) (c_X11_seconder (Nat.le_trans (by decide) he) (ok_mono (ok_bind2 k) fun z_15 h_14 k => ?_))
        try dsimp only at k
        refine wp_istore_n dX11_moveNow_37 (by decide) (L1 := [_, _, _, _]) rfl ?_
        refine wp_aload_n dX11_moveNow_38 rfl ?_
        refine wp_iconst dX11_moveNow_39 ic_0 ?_
        replace k := ok_bind k
        obtain ⟨u, e_16, k⟩ := k
        refine wp_callV1 (N := M_X11_remember) (ci := 11) mf_X11_remember mi_X11_remember me_X11_remember ml_X11_451 dX11_moveNow_40 (ckO_e e_16) mv_X11_remember (by exact Nat.le_of_ble_eq_true rfl) (c_X11_remember (Nat.le_trans (by decide) he) (ok_mono (ok_bind2 k) fun _ h_17 k => ?_))
        try dsimp only at k
        refine wp_aload_n dX11_moveNow_43 rfl ?_
        replace k := ok_bind k
        obtain ⟨p_19, e_20, k⟩ := k
        refine wq_getR fl_X11_13 (Or.inr ⟨_, rfl⟩) dX11_moveNow_44 e_20 ?_
        refine wp_bipush dX11_moveNow_47 bp_17 ?_
        refine wp_iload_n dX11_moveNow_49 rfl ?_
        refine wp_iadd dX11_moveNow_50 ?_
        refine wp_iconst dX11_moveNow_51 ic_1 ?_
        replace k := ok_bind k
        obtain ⟨h_21, e_22, k⟩ := k
        refine wq_sI dX11_moveNow_52 e_22 ?_
        refine wp_iload_n dX11_moveNow_53 rfl ?_
        refine wp_iret rfl rfl dX11_moveNow_54 ?_
        exact (ok_some k :)
      · replace k := ok_t c_12 k
        refine wp_bipush dX11_moveNow_28 bp_m3 ?_
        refine wp_iret rfl rfl dX11_moveNow_30 ?_
        exact (ok_some k :)
    · replace k := ok_t c_8 k
      refine wp_bipush dX11_moveNow_16 bp_m2 ?_
      refine wp_iret rfl rfl dX11_moveNow_18 ?_
      exact (ok_some k :)
theorem c_X11_moveNow {S : SH} {d : Nat} {K : Option Value → AH → Prop} (hd : 9 ≤ d)  {r0 : Nat} {x1 : Int32} {x2 : Int32} {h : AH} (k : ok (f_X11_moveNow S r0 x1 x2 h) (fun w h' => K (some (.int w)) h')) : CP S M_X11_moveNow d 0 0 [.ref r0, .int x1, .int x2] h K := cp_of (by decide) (fun _ _ => trivial) (fun _ => Nat.le_of_ble_eq_true rfl) (s_X11_moveNow hd  k)

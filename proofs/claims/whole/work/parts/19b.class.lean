theorem bs_ {α β : Type} {x : Option α} {v : α} (e : x = some v) {f : α → Option β} : x.bind f = f v := by rw [e]; rfl
theorem pX_skip (h : AH) {fu q to dp g i : Nat} (hs : to < 2 ^ 31) (hi : i < to) (hg : i < g) (hg2 : g < 2 ^ 31) : f_X4_reckon_l9 S_1 (fu + 1) 32 q (nI to) (nI dp) (nI g) (nI i) h = f_X4_reckon_l9 S_1 fu 32 q (nI to) (nI dp) (nI g) (nI (i + 1)) h := by
  rw [f_X4_reckon_l9]
  unfold f_X4_reckon_l9b
  have c1 : ¬ nI to ≤ nI i := by rw [nn_le (by omega) (by omega)]; omega
  have c2 : ¬ nI g ≤ nI i := by rw [nn_le (by omega) (by omega)]; omega
  rw [if_neg c1, if_neg c2, lt_e, nI_1]
theorem pX_num (h : AH) {fu q n to dp g i : Nat} (hq : KD S_1 h q = some (1, n)) (hn : n ≤ 400) (ht : to ≤ n) (hi : i < to) (hg : g ≤ i) (hd : dp < 52) {v : Nat} (hv : v < 1024) (hw : wh (h.2.1 q i) = 284) (hb : bs (h.2.1 q i) = nI v) : f_X4_reckon_l9 S_1 (fu + 1) 32 q (nI to) (nI dp) (nI g) (nI i) h = f_X4_reckon_l9 S_1 fu 32 q (nI to) (nI (dp + 1)) (nI g) (nI (i + 1)) (stJ h 34 dp (Int32.toInt64 (nI v))) := by
  rw [f_X4_reckon_l9]
  unfold f_X4_reckon_l9b
  have hl : lnA S_1 h q = some (nI n) := by unfold lnA; rw [hq]; rfl
  have ha : aI S_1 h q (nI i) = some (h.2.1 q i) := aI_of hq (by omega) (by omega)
  have c1 : ¬ nI to ≤ nI i := by rw [nn_le (by omega) (by omega)]; omega
  have c2 : nI g ≤ nI i := by rw [nn_le (by omega) (by omega)]; exact hg
  have c3 : ¬ nI i < 0 := by rw [z_lt (by omega)]; exact id
  have c4 : ¬ nI n ≤ nI i := by rw [nn_le (by omega) (by omega)]; omega
  have c5 : ¬ nI (dp) < 0 := by rw [z_lt (by omega)]; exact id
  have c6 : nI (dp) < nI 52 := by rw [nn_lt (by omega) (by omega)]; omega
  rw [if_neg c1, if_pos c2, if_neg c3, bs_ hl, if_neg c4, if_neg c5, bs_ (yr_32_1 h), bs_ (ln_34 h), if_pos c6, bs_ ha, lt_e, bs_ ha, lt_e]
  rw [show h.2.1 q i >>> ((10 : Int32) &&& (31 : Int32)) = wh (h.2.1 q i) from rfl, show h.2.1 q i &&& (1023 : Int32) = bs (h.2.1 q i) from rfl]
  rw [hw, hb]
  rw [if_pos rfl, bs_ (yr_32_1 h), bs_ (si_34 h _ hd), lt_e, lt_e, nI_1, nI_1]
theorem pX_word (h : AH) {fu q n to dp g i : Nat} (hq : KD S_1 h q = some (1, n)) (hn : n ≤ 400) (ht : to ≤ n) (hi : i < to) (hg : g ≤ i) (hd : dp < 52) {k : Nat} (hk : k < 25) (hw : wh (h.2.1 q i) = 283) (hb : bs (h.2.1 q i) = nI k) : f_X4_reckon_l9 S_1 (fu + 1) 32 q (nI to) (nI dp) (nI g) (nI i) h = f_X4_reckon_l9 S_1 fu 32 q (nI to) (nI (dp + 1)) (nI g) (nI (i + 1)) (stJ h 34 dp (Int32.toInt64 (h.2.1 33 k))) := by
  have d1 : ¬ nI 25 ≤ nI k := by rw [nn_le (by omega) (by omega)]; omega
  rw [f_X4_reckon_l9]
  unfold f_X4_reckon_l9b
  have hl : lnA S_1 h q = some (nI n) := by unfold lnA; rw [hq]; rfl
  have ha : aI S_1 h q (nI i) = some (h.2.1 q i) := aI_of hq (by omega) (by omega)
  have c1 : ¬ nI to ≤ nI i := by rw [nn_le (by omega) (by omega)]; omega
  have c2 : nI g ≤ nI i := by rw [nn_le (by omega) (by omega)]; exact hg
  have c3 : ¬ nI i < 0 := by rw [z_lt (by omega)]; exact id
  have c4 : ¬ nI n ≤ nI i := by rw [nn_le (by omega) (by omega)]; omega
  have c5 : ¬ nI (dp) < 0 := by rw [z_lt (by omega)]; exact id
  have c6 : nI (dp) < nI 52 := by rw [nn_lt (by omega) (by omega)]; omega
  rw [if_neg c1, if_pos c2, if_neg c3, bs_ hl, if_neg c4, if_neg c5, bs_ (yr_32_1 h), bs_ (ln_34 h), if_pos c6, bs_ ha, lt_e, bs_ ha, lt_e]
  rw [show h.2.1 q i >>> ((10 : Int32) &&& (31 : Int32)) = wh (h.2.1 q i) from rfl, show h.2.1 q i &&& (1023 : Int32) = bs (h.2.1 q i) from rfl]
  rw [hw, hb]
  rw [if_neg (by decide), if_pos rfl, bs_ (yr_32_1 h), bs_ (yr_32_0 h), bs_ (ln_33 h), if_neg d1, bs_ (yr_32_0 h), bs_ (ai_33 h hk), bs_ (si_34 h _ hd), lt_e, lt_e, nI_1, nI_1]
theorem nI_m1 {n : Nat} : nI (n + 1) - 1 = nI n := nI_pred n
theorem nI_p1 {n : Nat} : nI (n + 1) + (-1 : Int32) = nI n := by
  rw [← nI_pred n, Int32.sub_eq_add_neg]
theorem cmp_eq0 (x y : Int64) : (lg_cmp x y = 0) = (x = y) := propext (lg_cmp_eq x y)
theorem cmp_ge0 (x y : Int64) : ((0 : Int32) ≤ lg_cmp x y) = (y ≤ x) := propext (lg_cmp_ge x y)
theorem cmp_le0 (x y : Int64) : (lg_cmp x y ≤ (0 : Int32)) = (x ≤ y) := propext (lg_cmp_le x y)
theorem cmp_gt0 (x y : Int64) : ((0 : Int32) < lg_cmp x y) = (y < x) := propext (lg_cmp_gt x y)
theorem one_le {n : Nat} (hn : n < 1000) : (1 : Int32) ≤ nI (n + 1) := by
  rw [show (1 : Int32) = nI 1 from rfl, nn_le (by decide) (by omega)]; omega
theorem two_le {n : Nat} (hn : n < 1000) : (2 : Int32) ≤ nI (n + 2) := by
  rw [show (2 : Int32) = nI 2 from rfl, nn_le (by decide) (by omega)]; omega
theorem pX_not (h : AH) {fu q n to dp g i : Nat} (hq : KD S_1 h q = some (1, n)) (hn : n ≤ 400) (ht : to ≤ n) (hi : i < to) (hg : g ≤ i) (hd : dp + 1 < 52) (hw : wh (h.2.1 q i) = 258) : f_X4_reckon_l9 S_1 (fu + 1) 32 q (nI to) (nI (dp + 1)) (nI g) (nI i) h = f_X4_reckon_l9 S_1 fu 32 q (nI to) (nI (dp + 1)) (nI g) (nI (i + 1)) (stJ h 34 dp (if h.2.2.1 34 dp = 0 then 1 else 0)) := by
  have d1 := one_le (n := dp) (by omega)
  have a1 : aJ S_1 h 34 (nI (dp + 1) - 1) = some (h.2.2.1 34 dp) := by rw [nI_m1]; exact ai_34 h (by omega)
  rw [f_X4_reckon_l9]
  unfold f_X4_reckon_l9b
  have hl : lnA S_1 h q = some (nI n) := by unfold lnA; rw [hq]; rfl
  have ha : aI S_1 h q (nI i) = some (h.2.1 q i) := aI_of hq (by omega) (by omega)
  have c1 : ¬ nI to ≤ nI i := by rw [nn_le (by omega) (by omega)]; omega
  have c2 : nI g ≤ nI i := by rw [nn_le (by omega) (by omega)]; exact hg
  have c3 : ¬ nI i < 0 := by rw [z_lt (by omega)]; exact id
  have c4 : ¬ nI n ≤ nI i := by rw [nn_le (by omega) (by omega)]; omega
  have c5 : ¬ nI (dp + 1) < 0 := by rw [z_lt (by omega)]; exact id
  have c6 : nI (dp + 1) < nI 52 := by rw [nn_lt (by omega) (by omega)]; omega
  rw [if_neg c1, if_pos c2, if_neg c3, bs_ hl, if_neg c4, if_neg c5, bs_ (yr_32_1 h), bs_ (ln_34 h), if_pos c6, bs_ ha, lt_e, bs_ ha, lt_e]
  rw [show h.2.1 q i >>> ((10 : Int32) &&& (31 : Int32)) = wh (h.2.1 q i) from rfl, show h.2.1 q i &&& (1023 : Int32) = bs (h.2.1 q i) from rfl]
  rw [hw]
  rw [if_neg (by decide), if_neg (by decide), if_pos d1, if_pos rfl, bs_ (yr_32_1 h), bs_ (yr_32_1 h), bs_ a1]
  by_cases e : h.2.2.1 34 dp = 0
  · rw [if_pos (by rw [cmp_eq0]; exact e), nI_m1, bs_ (si_34 h _ (by omega)), lt_e, nI_1, if_pos e]
  · rw [if_neg (by rw [cmp_eq0]; exact e), nI_m1, bs_ (si_34 h _ (by omega)), lt_e, nI_1, if_neg e]
theorem pX_and (h : AH) {fu q n to dp g i : Nat} (hq : KD S_1 h q = some (1, n)) (hn : n ≤ 400) (ht : to ≤ n) (hi : i < to) (hg : g ≤ i) (hd : dp + 1 < 52) {t : Nat} (hb : bs (h.2.1 q i) = nI t) (hw : wh (h.2.1 q i) = 257) : f_X4_reckon_l9 S_1 (fu + 1) 32 q (nI to) (nI (dp + 1)) (nI g) (nI i) h = if h.2.2.1 34 dp = 0 then f_X4_reckon_l9 S_1 fu 32 q (nI to) (nI (dp + 1)) (nI t) (nI (i + 1)) h else f_X4_reckon_l9 S_1 fu 32 q (nI to) (nI dp) (nI g) (nI (i + 1)) h := by
  have d1 := one_le (n := dp) (by omega)
  have a1 : aJ S_1 h 34 (nI (dp + 1) - 1) = some (h.2.2.1 34 dp) := by rw [nI_m1]; exact ai_34 h (by omega)
  rw [f_X4_reckon_l9]
  unfold f_X4_reckon_l9b
  have hl : lnA S_1 h q = some (nI n) := by unfold lnA; rw [hq]; rfl
  have ha : aI S_1 h q (nI i) = some (h.2.1 q i) := aI_of hq (by omega) (by omega)
  have c1 : ¬ nI to ≤ nI i := by rw [nn_le (by omega) (by omega)]; omega
  have c2 : nI g ≤ nI i := by rw [nn_le (by omega) (by omega)]; exact hg
  have c3 : ¬ nI i < 0 := by rw [z_lt (by omega)]; exact id
  have c4 : ¬ nI n ≤ nI i := by rw [nn_le (by omega) (by omega)]; omega
  have c5 : ¬ nI (dp + 1) < 0 := by rw [z_lt (by omega)]; exact id
  have c6 : nI (dp + 1) < nI 52 := by rw [nn_lt (by omega) (by omega)]; omega
  rw [if_neg c1, if_pos c2, if_neg c3, bs_ hl, if_neg c4, if_neg c5, bs_ (yr_32_1 h), bs_ (ln_34 h), if_pos c6, bs_ ha, lt_e, bs_ ha, lt_e]
  rw [show h.2.1 q i >>> ((10 : Int32) &&& (31 : Int32)) = wh (h.2.1 q i) from rfl, show h.2.1 q i &&& (1023 : Int32) = bs (h.2.1 q i) from rfl]
  rw [hw, hb]
  rw [if_neg (by decide), if_neg (by decide), if_pos d1, if_neg (by decide), if_neg (by decide), if_pos rfl]
  unfold f_X4_reckon_l9_j205 f_X4_reckon_l9_j224
  rw [bs_ (yr_32_1 h), bs_ a1]
  by_cases e : h.2.2.1 34 dp = 0
  · rw [if_pos (by rw [cmp_eq0]; exact e), if_neg (by decide), if_pos rfl, lt_e, nI_1, if_pos e]
  · rw [if_neg (by rw [cmp_eq0]; exact e), if_neg (by decide), if_neg (by decide), lt_e, lt_e, nI_1, nI_p1, if_neg e]
theorem pX_or (h : AH) {fu q n to dp g i : Nat} (hq : KD S_1 h q = some (1, n)) (hn : n ≤ 400) (ht : to ≤ n) (hi : i < to) (hg : g ≤ i) (hd : dp + 1 < 52) {t : Nat} (hb : bs (h.2.1 q i) = nI t) (hw : wh (h.2.1 q i) = 256) : f_X4_reckon_l9 S_1 (fu + 1) 32 q (nI to) (nI (dp + 1)) (nI g) (nI i) h = if h.2.2.1 34 dp = 0 then f_X4_reckon_l9 S_1 fu 32 q (nI to) (nI dp) (nI g) (nI (i + 1)) h else f_X4_reckon_l9 S_1 fu 32 q (nI to) (nI (dp + 1)) (nI t) (nI (i + 1)) h := by
  have d1 := one_le (n := dp) (by omega)
  have a1 : aJ S_1 h 34 (nI (dp + 1) - 1) = some (h.2.2.1 34 dp) := by rw [nI_m1]; exact ai_34 h (by omega)
  rw [f_X4_reckon_l9]
  unfold f_X4_reckon_l9b
  have hl : lnA S_1 h q = some (nI n) := by unfold lnA; rw [hq]; rfl
  have ha : aI S_1 h q (nI i) = some (h.2.1 q i) := aI_of hq (by omega) (by omega)
  have c1 : ¬ nI to ≤ nI i := by rw [nn_le (by omega) (by omega)]; omega
  have c2 : nI g ≤ nI i := by rw [nn_le (by omega) (by omega)]; exact hg
  have c3 : ¬ nI i < 0 := by rw [z_lt (by omega)]; exact id
  have c4 : ¬ nI n ≤ nI i := by rw [nn_le (by omega) (by omega)]; omega
  have c5 : ¬ nI (dp + 1) < 0 := by rw [z_lt (by omega)]; exact id
  have c6 : nI (dp + 1) < nI 52 := by rw [nn_lt (by omega) (by omega)]; omega
  rw [if_neg c1, if_pos c2, if_neg c3, bs_ hl, if_neg c4, if_neg c5, bs_ (yr_32_1 h), bs_ (ln_34 h), if_pos c6, bs_ ha, lt_e, bs_ ha, lt_e]
  rw [show h.2.1 q i >>> ((10 : Int32) &&& (31 : Int32)) = wh (h.2.1 q i) from rfl, show h.2.1 q i &&& (1023 : Int32) = bs (h.2.1 q i) from rfl]
  rw [hw, hb]
  rw [if_neg (by decide), if_neg (by decide), if_pos d1, if_neg (by decide), if_pos rfl]
  unfold f_X4_reckon_l9_j205 f_X4_reckon_l9_j224
  rw [bs_ (yr_32_1 h), bs_ a1]
  by_cases e : h.2.2.1 34 dp = 0
  · rw [if_pos (by rw [cmp_eq0]; exact e), if_pos rfl, if_neg (by decide), lt_e, lt_e, nI_1, nI_p1, if_pos e]
  · rw [if_neg (by rw [cmp_eq0]; exact e), if_pos rfl, if_pos rfl, lt_e, nI_1, if_neg e]
theorem j431 (rc : Nat → Nat → Int32 → Int32 → Int32 → Int32 → AH → Option ((Int32 ⊕ (Nat × Int32)) × AH)) (h : AH) {q to dp g i : Nat} (v : Int64) (hd : dp + 1 < 52) : f_X4_reckon_l9_j431 S_1 rc 32 q (nI to) (nI (dp + 1)) (nI g) (nI i) v h = match bd9 v with
    | some v => rc 32 q (nI to) (nI (dp + 1)) (nI g) (nI (i + 1)) (stJ h 34 dp v)
    | none => some (.inl 0, h) := by
  unfold f_X4_reckon_l9_j431 bd9
  by_cases e : (1000000000 : Int64) < v
  · rw [if_pos (by rw [cmp_gt0]; exact e), if_neg (fun x => Int64.not_le.mpr e x.2)]
  · rw [if_neg (by rw [cmp_gt0]; exact e)]
    by_cases e2 : (-1000000000 : Int64) ≤ v
    · rw [if_pos (by rw [cmp_ge0]; exact e2), if_pos ⟨e2, Int64.not_lt.mp e⟩, bs_ (yr_32_1 h), nI_m1, bs_ (si_34 h _ (by omega)), lt_e, nI_1]
    · rw [if_neg (by rw [cmp_ge0]; exact e2), if_neg (fun x => e2 x.1)]
theorem j307 (rc : Nat → Nat → Int32 → Int32 → Int32 → Int32 → AH → Option ((Int32 ⊕ (Nat × Int32)) × AH)) (h : AH) {q to dp g i op : Nat} (x y : Int64) (hd : dp + 1 < 52) (ho : 20 ≤ op) (ho2 : op < 28) (hy : y = 0 → op ≠ 23 ∧ op ≠ 24) : f_X4_reckon_l9_j307 S_1 rc 32 q (nI to) (nI (dp + 1)) (nI g) (nI i) (sgn op) x y h = match opS op x y with
    | some v => rc 32 q (nI to) (nI (dp + 1)) (nI g) (nI (i + 1)) (stJ h 34 dp v)
    | none => some (.inl 0, h) := by
  unfold f_X4_reckon_l9_j307 f_X4_reckon_l9_j430 f_X4_reckon_l9_j426
  have b0 : bd9 0 = some 0 := by decide
  have b1 : bd9 1 = some 1 := by decide
  have oo : op = 20 ∨ op = 21 ∨ op = 22 ∨ op = 23 ∨ op = 24 ∨ op = 25 ∨ op = 26 ∨ op = 27 := by omega
  rcases oo with rfl | rfl | rfl | rfl | rfl | rfl | rfl | rfl
  · rw [if_pos (by decide), j431 _ _ _ hd]; rfl
  · rw [if_neg (by decide), if_pos (by decide), j431 _ _ _ hd]; rfl
  · rw [if_neg (by decide), if_neg (by decide), if_pos (by decide), j431 _ _ _ hd]; rfl
  · have hy0 : y ≠ 0 := fun e => absurd rfl (hy e).1
    rw [if_neg (by decide), if_neg (by decide), if_neg (by decide), if_pos (by decide), bs_ (show nzJ y = some () from if_neg hy0), j431 _ _ _ hd]
    rw [show opS 23 x y = bd9 (x / y) from by simp [opS, hy0]]
  · have hy0 : y ≠ 0 := fun e => absurd rfl (hy e).2
    rw [if_neg (by decide), if_neg (by decide), if_neg (by decide), if_neg (by decide), if_pos (by decide), bs_ (show nzJ y = some () from if_neg hy0), j431 _ _ _ hd]
    rw [show opS 24 x y = bd9 (rmJ x y) from by simp [opS, hy0]]
  · rw [if_neg (by decide), if_neg (by decide), if_neg (by decide), if_neg (by decide), if_neg (by decide), if_pos (by decide)]
    rw [j431 _ _ _ hd, j431 _ _ _ hd, b0, b1, show opS 25 x y = some (if x < y then 1 else 0) from rfl]
    by_cases e : y ≤ x
    · rw [if_pos (by rw [cmp_ge0]; exact e), if_neg (Int64.not_lt.mpr e)]
    · rw [if_neg (by rw [cmp_ge0]; exact e), if_pos (Int64.not_le.mp e)]
  · rw [if_neg (by decide), if_neg (by decide), if_neg (by decide), if_neg (by decide), if_neg (by decide), if_neg (by decide), if_pos (by decide)]
    rw [j431 _ _ _ hd, j431 _ _ _ hd, b0, b1, show opS 26 x y = some (if y < x then 1 else 0) from rfl]
    by_cases e : x ≤ y
    · rw [if_pos (by rw [cmp_le0]; exact e), if_neg (Int64.not_lt.mpr e)]
    · rw [if_neg (by rw [cmp_le0]; exact e), if_pos (Int64.not_le.mp e)]
  · rw [if_neg (by decide), if_neg (by decide), if_neg (by decide), if_neg (by decide), if_neg (by decide), if_neg (by decide), if_neg (by decide)]
    rw [j431 _ _ _ hd, j431 _ _ _ hd, b0, b1, show opS 27 x y = some (if x = y then 1 else 0) from rfl]
    by_cases e : x = y
    · rw [if_pos (by rw [cmp_eq0]; exact e), if_pos e]
    · rw [if_neg (by rw [cmp_eq0]; exact e), if_neg e]
theorem pX_bin (h : AH) {fu q n to dp g i : Nat} (hq : KD S_1 h q = some (1, n)) (hn : n ≤ 400) (ht : to ≤ n) (hi : i < to) (hg : g ≤ i) (hd : dp + 2 < 52) {op : Nat} (ho : 20 ≤ op) (ho2 : op < 28) (hw : wh (h.2.1 q i) = sgn op) : f_X4_reckon_l9 S_1 (fu + 1) 32 q (nI to) (nI (dp + 2)) (nI g) (nI i) h = match opS op (h.2.2.1 34 dp) (h.2.2.1 34 (dp + 1)) with
    | some v => f_X4_reckon_l9 S_1 fu 32 q (nI to) (nI (dp + 1)) (nI g) (nI (i + 1)) (stJ h 34 dp v)
    | none => some (.inl 0, h) := by
  have d1 := one_le (n := dp + 1) (by omega)
  have d2 := two_le (n := dp) (by omega)
  have hs : ∀ op, op < 28 → sgn op ≠ 284 ∧ sgn op ≠ 283 ∧ sgn op ≠ 258 ∧ sgn op ≠ 256 ∧ sgn op ≠ 257 := by decide
  obtain ⟨s1, s2, s3, s4, s5⟩ := hs op ho2
  have p1 : nI (dp + 2) + (-1 : Int32) = nI (dp + 1) := nI_p1
  have a1 : aJ S_1 h 34 (nI (dp + 1) - 1) = some (h.2.2.1 34 dp) := by rw [nI_m1]; exact ai_34 h (by omega)
  have a2 : aJ S_1 h 34 (nI (dp + 1)) = some (h.2.2.1 34 (dp + 1)) := ai_34 h (by omega)
  rw [f_X4_reckon_l9]
  unfold f_X4_reckon_l9b
  have hl : lnA S_1 h q = some (nI n) := by unfold lnA; rw [hq]; rfl
  have ha : aI S_1 h q (nI i) = some (h.2.1 q i) := aI_of hq (by omega) (by omega)
  have c1 : ¬ nI to ≤ nI i := by rw [nn_le (by omega) (by omega)]; omega
  have c2 : nI g ≤ nI i := by rw [nn_le (by omega) (by omega)]; exact hg
  have c3 : ¬ nI i < 0 := by rw [z_lt (by omega)]; exact id
  have c4 : ¬ nI n ≤ nI i := by rw [nn_le (by omega) (by omega)]; omega
  have c5 : ¬ nI (dp + 2) < 0 := by rw [z_lt (by omega)]; exact id
  have c6 : nI (dp + 2) < nI 52 := by rw [nn_lt (by omega) (by omega)]; omega
  rw [if_neg c1, if_pos c2, if_neg c3, bs_ hl, if_neg c4, if_neg c5, bs_ (yr_32_1 h), bs_ (ln_34 h), if_pos c6, bs_ ha, lt_e, bs_ ha, lt_e]
  rw [show h.2.1 q i >>> ((10 : Int32) &&& (31 : Int32)) = wh (h.2.1 q i) from rfl, show h.2.1 q i &&& (1023 : Int32) = bs (h.2.1 q i) from rfl]
  rw [hw]
  rw [if_neg s1, if_neg s2, if_pos d1, if_neg s3, if_neg s4, if_neg s5, if_pos d2, lt_e, p1, bs_ (yr_32_1 h), bs_ a1, bs_ (yr_32_1 h), bs_ a2]
  by_cases e0 : h.2.2.1 34 (dp + 1) = 0
  · rw [if_pos (by rw [cmp_eq0]; exact e0)]
    by_cases e1 : op = 23
    · subst e1
      rw [if_pos (by decide)]
      simp [opS, e0]
    · by_cases e2 : op = 24
      · subst e2
        rw [if_neg (by decide), if_pos (by decide)]
        simp [opS, e0]
      · have t0 : ∀ op, op < 28 → 20 ≤ op → op ≠ 23 → sgn op ≠ 47 := by decide
        have t1 : ∀ op, op < 28 → 20 ≤ op → op ≠ 24 → sgn op ≠ 37 := by decide
        rw [if_neg (t0 op ho2 ho e1), if_neg (t1 op ho2 ho e2)]
        exact j307 _ h _ _ (by omega) ho ho2 fun _ => ⟨e1, e2⟩
  · rw [if_neg (by rw [cmp_eq0]; exact e0)]
    exact j307 _ h _ _ (by omega) ho ho2 fun e => absurd e e0

theorem bs_ {α β : Type} {x : Option α} {v : α} (e : x = some v) {f : α → Option β} : x.bind f = f v := by rw [e]; rfl
theorem pX_skip (h : AH) {fu q to dp g i : Nat} (hs : to < 2 ^ 31) (hi : i < to) (hg : i < g) (hg2 : g < 2 ^ 31) : f_X4_reckon_l9 S_1 (fu + 1) 32 q (nI to) (nI dp) (nI g) (nI i) h = f_X4_reckon_l9 S_1 fu 32 q (nI to) (nI dp) (nI g) (nI (i + 1)) h := by
  rw [f_X4_reckon_l9]
  unfold f_X4_reckon_l9b
  have c1 : ¬ nI to ≤ nI i := by rw [nn_le (by omega) (by omega)]; omega
  have c2 : ¬ nI g ≤ nI i := by rw [nn_le (by omega) (by omega)]; omega
  rw [if_neg c1, if_neg c2, lt_e, nI_1]
theorem pX_num (h : AH) {fu q n to dp g i : Nat} (hq : KD S_1 h q = some (1, n)) (hn : n ≤ 400) (ht : to ≤ n) (hi : i < to) (hg : g ≤ i) (hd : dp < 52) {v : Nat} (hv : v < 1024) (hw : wh (h.2.1 q i) = 284) (hb : bs (h.2.1 q i) = nI v) : f_X4_reckon_l9 S_1 (fu + 1) 32 q (nI to) (nI dp) (nI g) (nI i) h = f_X4_reckon_l9 S_1 fu 32 q (nI to) (nI (dp + 1)) (nI g) (nI (i + 1)) (stJ h 34 dp (Int32.toInt64 (nI v))) := by
  rw [f_X4_reckon_l9]
  unfold f_X4_reckon_l9b
  have hl : lnA S_1 h q = some (nI n) := by unfold lnA; rw [hq]; rfl
  have ha : aI S_1 h q (nI i) = some (h.2.1 q i) := aI_of hq (by omega) (by omega)
  have c1 : ¬ nI to ≤ nI i := by rw [nn_le (by omega) (by omega)]; omega
  have c2 : nI g ≤ nI i := by rw [nn_le (by omega) (by omega)]; exact hg
  have c3 : ¬ nI i < 0 := by rw [z_lt (by omega)]; exact id
  have c4 : ¬ nI n ≤ nI i := by rw [nn_le (by omega) (by omega)]; omega
  have c5 : ¬ nI (dp) < 0 := by rw [z_lt (by omega)]; exact id
  have c6 : nI (dp) < nI 52 := by rw [nn_lt (by omega) (by omega)]; omega
  rw [if_neg c1, if_pos c2, if_neg c3, bs_ hl, if_neg c4, if_neg c5, bs_ (yr_32_1 h), bs_ (ln_34 h), if_pos c6, bs_ ha, lt_e, bs_ ha, lt_e]
  rw [show h.2.1 q i >>> ((10 : Int32) &&& (31 : Int32)) = wh (h.2.1 q i) from rfl, show h.2.1 q i &&& (1023 : Int32) = bs (h.2.1 q i) from rfl]
  rw [hw, hb]
  rw [if_pos rfl, bs_ (yr_32_1 h), bs_ (si_34 h _ hd), lt_e, lt_e, nI_1, nI_1]

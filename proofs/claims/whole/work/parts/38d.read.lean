/-! reading: the class's tests -/
theorem q_nots {K U : Nat → Nat} {n : Nat} {ord : Bool} (rs : Nat → Nat → Int32 → AH → Option (Int32 × AH)) (x1 : Int32) : ∀ (m i w lv c fu : Nat) (h : AH), CS h K U n ord i lv c → n < m + i → n < fu + i → w ≤ i → ∃ h', f_X3_plain_l2 S_1 rs fu 45 x1 (nI w) h = some ((45, x1, nI (w + notsS K m i)), h') ∧ Eqv PCr h h' ∧ h'.2.1 45 3 = nI (i + notsS K m i) ∧ h'.2.1 45 4 = nI lv ∧ h'.2.1 50 2 = nI c ∧ ∀ j, h'.2.1 51 j = h.2.1 51 j := by
  intro m
  induction m with
  | zero =>
    intro i w lv c fu h cs hm
    have := cs.2.2.2.2.1
    omega
  | succ m ih =>
    intro i w lv c fu h cs hm hfu hw
    obtain ⟨tk, tn, v2, v3, hi, v4, hlv5, v5, hci⟩ := id cs
    have n4 := tk.2.1
    obtain ⟨fu, rfl⟩ : ∃ x, fu = x + 1 := ⟨fu - 1, by omega⟩
    rw [f_X3_plain_l2]
    unfold f_X3_plain_l2b
    by_cases c400 : 400 ≤ w
    · have e : i = n := by omega
      have : notsS K (m + 1) i = 0 := by
        rw [notsS, e, tn.2.1]
        rfl
      rw [if_pos (show (400 : Int32) ≤ nI w by rw [show (400 : Int32) = nI 400 from rfl, nn_le (by decide) (by omega)]; exact c400), this]
      exact ⟨h, rfl, Eqv.refl h, v3, v4, v5, fun _ => rfl⟩
    · rw [if_neg (show ¬ (400 : Int32) ≤ nI w by rw [show (400 : Int32) = nI 400 from rfl, nn_le (by decide) (by omega)]; exact c400), bs_ (ck_45' h), bs_ (q_kind tk hi v3)]
      dsimp only
      have ki := (tk.2.2 i hi).2.2
      rw [notsS]
      by_cases e : K i = 258
      · have hl := tn.lt hi (by omega)
        rw [if_pos e, if_pos (show nI (K i) = (258 : Int32) by rw [e]; rfl), lt_e, nI_1, bs_ (ck_45' h), bs_ (q_next3 v3)]
        dsimp only
        have e1 : Eqv PCr h (stI h 45 3 (nI (i + 1))) := (Eqv.refl h).si (PCr_o (by omega))
        obtain ⟨h', r, x0, x1', x2, x3, x4⟩ := ih (i + 1) (w + 1) lv c fu _ (cs.to e1 (stI_s _ _ _ _) (by omega) ((ri_k (by decide)).trans v4) hlv5 ((ri_p (by decide)).trans v5) (by omega)) (by omega) (by omega) (by omega)
        refine ⟨h', ?_, e1.trans x0, ?_, x2, x3, fun j => (x4 j).trans (ri_p (by decide))⟩
        · rw [r, show w + 1 + notsS K m (i + 1) = w + (notsS K m (i + 1) + 1) by omega]
        · rw [x1', show i + 1 + notsS K m (i + 1) = i + (notsS K m (i + 1) + 1) by omega]
      · rw [if_neg e, if_neg (show ¬ nI (K i) = (258 : Int32) by rw [show (258 : Int32) = nI 258 from rfl, nn_eq (by omega) (by decide)]; exact e)]
        exact ⟨h, rfl, Eqv.refl h, v3, v4, v5, fun _ => rfl⟩
theorem rm_2 : ∀ x, x < 402 → (rmI (nI x) 2 = 0 ↔ x % 2 = 0) := by decide +kernel
theorem em_258 : wh (emV 258 0) = 258 := by decide
/-- the sign of a not, if it is one -/
theorem q_notE {h g : AH} {K U : Nat → Nat} {n i i2 i' lv lv' c c' cnt N : Nat} {ord : Bool} {d : DD} (cs : CS h K U n ord i lv c) (e : Eqv PCr h g) (g3 : g.2.1 45 3 = nI i') (hi' : i' ≤ n) (g4 : g.2.1 45 4 = nI lv') (g5 : g.2.1 50 2 = nI c') (hc : c' + i2 ≤ c + i') (h2 : i2 = i + cnt) (hlt : i2 < i') (o : ∀ j, j < c → g.2.1 51 j = h.2.1 51 j) (q : TstX (g.2.1 51) N c c' d (lv' - lv)) : RX TstX h i lv c (.inr (i', lv', parN cnt d)) (if rmI (nI cnt) 2 = 0 then some ((1 : Int32), g) else (ckO S_1 g 45 3).bind fun _ => (f_X3_emit S_1 45 258 0 g).bind fun z => match z with
    | (_, h_13) => some ((1 : Int32), h_13)) := by
  have n4 := cs.1.2.1
  have hci := cs.2.2.2.2.2.2.2.2
  have ql := q.lt
  unfold parN
  by_cases c2 : cnt % 2 = 0
  · rw [if_pos c2, if_pos ((rm_2 cnt (by omega)).mpr c2)]
    exact ⟨g, c', rfl, e, g3, g4, g5, by omega, o, N, q⟩
  · rw [if_neg c2, if_neg (fun z => c2 ((rm_2 cnt (by omega)).mp z)), bs_ (ck_45' g), bs_ (q_emit g5 (by omega) _ _)]
    refine ⟨_, c' + 1, rfl, (e.si (PCr_o (by omega))).si (PCr_o (by omega)), ?_, ?_, stI_s _ _ _ _, by omega, fun j hj => ?_, N + 1, Or.inr (Or.inl ⟨c', d, ?_, rfl, ?_, rfl⟩)⟩
    · rw [ri_p (by decide), ri_p (by decide)]; exact g3
    · rw [ri_p (by decide), ri_p (by decide)]; exact g4
    · rw [ri_p (by decide), ri_k (by omega)]; exact o j hj
    · refine q.cong fun k _ hk => ?_
      rw [ri_p (by decide), ri_k (by omega)]
    · rw [ri_p (by decide), stI_s]
      exact em_258
theorem q_plain {h : AH} {K U : Nat → Nat} {n i lv c : Nat} {ord : Bool} {sm br : Nat → Nat → Rs} {rs : Nat → Nat → Int32 → AH → Option (Int32 × AH)} {dp : Int32} (GS : ∀ i lv, i ≤ n → Go1 n i lv (sm i lv)) (HS : ∀ h i lv c, CS h K U n ord i lv c → RX SumX h i lv c (sm i lv) (rs 3 45 dp h)) (GB : ∀ i lv, i ≤ n → K i = 40 → Go1 n i lv (br i lv)) (HB : ∀ h i lv c, CS h K U n ord i lv c → K i = 40 → RX TstX h i lv c (br i lv) (rs 1 45 dp h)) (cs : CS h K U n ord i lv c) : RX TstX h i lv c (plainS K sm br i lv) (f_X3_plain S_1 rs 45 dp h) := by
  obtain ⟨tk, tn, v2, v3, hi, v4, hlv5, v5, hci⟩ := id cs
  have n4 := tk.2.1
  obtain ⟨h1, r1, e1, u3, u4, u5, o1⟩ := q_nots rs dp 402 i 0 lv c FU h cs (by omega) (by unfold FU; omega) (by omega)
  have hc := nots_le (m := 402) tn hi
  unfold f_X3_plain plainS
  rw [bs_ (show f_X3_plain_l2 S_1 rs FU 45 dp (0 : Int32) h = _ from r1)]
  dsimp only
  rw [Nat.zero_add]
  generalize notsS K 402 i = cnt at hc u3
  obtain ⟨i2, hi2⟩ : ∃ i2, i2 = i + cnt := ⟨_, rfl⟩
  rw [← hi2] at hc u3 ⊢
  have cs1 : CS h1 K U n ord i2 lv c := cs.to e1 u3 hc u4 hlv5 u5 (by omega)
  have ki := (cs1.1.2.2 i2 hc).2.2
  unfold f_X3_plain_j29
  rw [bs_ (ck_45' h1), bs_ (q_kind cs1.1 hc u3)]
  dsimp only
  have oo : ∀ {g : AH}, (∀ j, j < c → g.2.1 51 j = h1.2.1 51 j) → ∀ j, j < c → g.2.1 51 j = h.2.1 51 j := fun k j hj => (k j hj).trans (o1 j)
  by_cases c40 : K i2 = 40
  · have go := GB i2 lv hc c40
    have hb := HB h1 i2 lv c cs1 c40
    rw [if_pos c40, if_pos (show nI (K i2) = (40 : Int32) by rw [c40]; rfl), bs_ (ck_45' h1)]
    revert go hb
    rcases br i2 lv with j | ⟨i', lv', d⟩
    · rintro - ⟨g, r, e, v⟩
      rw [bs_ r]
      dsimp only
      rw [if_pos rfl]
      exact ⟨g, rfl, e1.trans e, v⟩
    · rintro ⟨a1, a2, a3, a4⟩ ⟨g, c', r, e, w3, w4, w5, w6, w7, N, q⟩
      rw [bs_ r]
      dsimp only
      rw [if_neg (show ¬ (1 : Int32) = 0 by decide)]
      exact q_notE cs (e1.trans e) w3 a2 w4 w5 w6 hi2 a1 (oo w7) q
  · rw [if_neg c40, if_neg (show ¬ nI (K i2) = (40 : Int32) by rw [show (40 : Int32) = nI 40 from rfl, nn_eq (by omega) (by decide)]; exact c40), bs_ (ck_45' h1)]
    unfold cmpS
    have go := GS i2 lv hc
    have hs := HS h1 i2 lv c cs1
    revert go hs
    rcases sm i2 lv with j | ⟨i3, lv3, d1⟩
    · rintro - ⟨g, r, e, v⟩
      rw [bs_ r]
      dsimp only
      rw [if_pos rfl]
      exact ⟨g, rfl, e1.trans e, v⟩
    · rintro ⟨a1, a2, a3, a4⟩ ⟨g, c1, r, e, w3, w4, w5, w6, w7, N1, q1⟩
      have E1 := e1.trans e
      have cs2 : CS g K U n ord i3 lv3 c1 := cs.to E1 w3 a2 w4 a4 w5 (by omega)
      have k3 := (cs2.1.2.2 i3 a2).2.2
      rw [bs_ r]
      dsimp only
      rw [if_neg (show ¬ (1 : Int32) = 0 by decide), bs_ (ck_45' g), bs_ (q_kind cs2.1 a2 w3)]
      dsimp only
      have nk : ∀ x : Nat, x < 300 → (nI (K i3) = nI x) = (K i3 = x) := fun x hx => nn_eq (by omega) (by omega)
      have cmp : (K i3 = 60 ∨ K i3 = 62 ∨ K i3 = 61) → RX TstX h i lv c (parR cnt (if K i3 = 60 ∨ K i3 = 62 ∨ K i3 = 61 then (match sm (i3 + 1) lv3 with
          | .inl j => .inl j
          | .inr (i2, lv2, d2) => .inr (i2, lv2, binD (opN (K i3)) d1 d2)) else .inl i3)) (f_X3_plain_j83 S_1 rs 45 dp (nI cnt) (nI (K i3)) g) := fun hk => by
        have hl := tn.lt a2 (by omega)
        rw [if_pos hk]
        have e2 : Eqv PCr g (stI g 45 3 (nI (i3 + 1))) := (Eqv.refl g).si (PCr_o (by omega))
        have cs3 : CS (stI g 45 3 (nI (i3 + 1))) K U n ord (i3 + 1) lv3 c1 := cs2.to e2 (stI_s _ _ _ _) (by omega) ((ri_k (by decide)).trans w4) a4 ((ri_p (by decide)).trans w5) (by omega)
        have go2 := GS (i3 + 1) lv3 (by omega)
        have hs2 := HS _ (i3 + 1) lv3 c1 cs3
        unfold f_X3_plain_j83
        rw [bs_ (ck_45' g), bs_ (q_next3 w3)]
        dsimp only
        rw [bs_ (ck_45' _)]
        revert go2 hs2
        rcases sm (i3 + 1) lv3 with j | ⟨i4, lv4, d2⟩
        · rintro - ⟨g2, r2, f2, y⟩
          rw [bs_ r2]
          dsimp only
          rw [if_pos rfl]
          exact ⟨g2, rfl, E1.trans (e2.trans f2), y⟩
        · rintro ⟨b1, b2, b3, b4⟩ ⟨g2, c2, r2, f2, y3, y4, y5, y6, y7, N2, q2⟩
          rw [bs_ r2]
          dsimp only
          rw [if_neg (show ¬ (1 : Int32) = 0 by decide), bs_ (ck_45' g2), bs_ (q_emit y5 (by omega) _ _)]
          dsimp only
          obtain ⟨g3, hg3⟩ : ∃ g3, g3 = stI (stI g2 51 c2 (emV (nI (K i3)) 0)) 50 2 (nI (c2 + 1)) := ⟨_, rfl⟩
          rw [← hg3]
          have E3 : Eqv PCr h g3 := by rw [hg3]; exact ((E1.trans (e2.trans f2)).si (PCr_o (by omega))).si (PCr_o (by omega))
          have o2 : ∀ j, j < c1 → g3.2.1 51 j = g.2.1 51 j := fun j hj => by
            have l2 := q2.lt
            rw [hg3, ri_p (by decide), ri_k (by omega), y7 j hj, ri_p (by decide)]
          have l1 := q1.lt
          have l2 := q2.lt
          obtain ⟨m1, m2⟩ := op_cmp hk
          have T : TstX (g3.2.1 51) (N1 + N2 + 1) c (c2 + 1) (binD (opN (K i3)) d1 d2) (lv4 - lv) := by
            refine Or.inl ⟨c1, c2, d1, d2, lv3 - lv, lv4 - lv3, opN (K i3), ?_, ?_, rfl, m1, m2, ?_, rfl, by omega⟩
            · exact (q1.cong fun k _ hk => o2 k hk).le (by omega)
            · refine (q2.cong fun k h1 hk => ?_).le (by omega)
              rw [hg3, ri_p (by decide), ri_k (by omega)]
            · rw [hg3, ri_p (by decide), stI_s, sg_op (by omega)]
              exact (em_ok (y := 0) (by omega) (by decide)).1
          refine q_notE (i2 := i2) (c' := c2 + 1) cs E3 ?_ b2 ?_ ?_ (by omega) hi2 (by omega) (fun j hj => (o2 j (by omega)).trans (oo w7 j hj)) T
          · rw [hg3, ri_p (by decide), ri_p (by decide)]; exact y3
          · rw [hg3, ri_p (by decide), ri_p (by decide)]; exact y4
          · rw [hg3, stI_s]
      by_cases c60 : K i3 = 60
      · rw [if_pos (show nI (K i3) = (60 : Int32) by rw [c60]; rfl)]
        exact cmp (by omega)
      · rw [if_neg (show ¬ nI (K i3) = (60 : Int32) by rw [show (60 : Int32) = nI 60 from rfl, nk 60 (by decide)]; exact c60)]
        by_cases c62 : K i3 = 62
        · rw [if_pos (show nI (K i3) = (62 : Int32) by rw [c62]; rfl)]
          exact cmp (by omega)
        · rw [if_neg (show ¬ nI (K i3) = (62 : Int32) by rw [show (62 : Int32) = nI 62 from rfl, nk 62 (by decide)]; exact c62)]
          by_cases c61 : K i3 = 61
          · rw [if_pos (show nI (K i3) = (61 : Int32) by rw [c61]; rfl)]
            exact cmp (by omega)
          · rw [if_neg (show ¬ nI (K i3) = (61 : Int32) by rw [show (61 : Int32) = nI 61 from rfl, nk 61 (by decide)]; exact c61), if_neg (show ¬ (K i3 = 60 ∨ K i3 = 62 ∨ K i3 = 61) by omega)]
            exact ⟨g, rfl, E1, w3⟩
/-- a test so far: what waits for what stands behind -/
def P1T (cd : Nat → Int32) (x : Nat) (p : Option DD) (a : Int32) (c0 m L : Nat) : Prop := match p with
  | none => a = -1 ∧ m = c0 ∧ L = 0
  | some d => ∃ s N, a = nI s ∧ m = s + 1 ∧ cd s = emV (nI x) 0 ∧ TstX cd N c0 s d L
theorem P1T.cong {cd cd' : Nat → Int32} {x c0 m L : Nat} {p : Option DD} {a : Int32} (k : P1T cd x p a c0 m L) (e : ∀ j, c0 ≤ j → j < m → cd' j = cd j) : P1T cd' x p a c0 m L := by
  rcases p with _ | d
  · exact k
  · obtain ⟨s, N, k1, k2, k3, k4⟩ := k
    have := k4.lt
    exact ⟨s, N, k1, k2, (e s (by omega) (by omega)).trans k3, k4.cong fun j h1 h2 => e j h1 (by omega)⟩
theorem P1T.le {cd : Nat → Int32} {x c0 m L : Nat} {p : Option DD} {a : Int32} (k : P1T cd x p a c0 m L) : c0 ≤ m := by
  rcases p with _ | d
  · obtain ⟨_, k, _⟩ := k
    omega
  · obtain ⟨s, N, k1, k2, k3, k4⟩ := k
    have := k4.lt
    omega
/-- it leaps: what waited, and what stands behind, are one -/
theorem q_join {h : AH} {x c0 m c L L2 N : Nat} {p : Option DD} {a : Int32} {d : DD} {J : Option DD → DD → DD} (hx : x = 257 ∧ J = joinA ∨ x = 256 ∧ J = joinO) (k : P1T (h.2.1 51) x p a c0 m L) (v5 : h.2.1 50 2 = nI c) (hc : c ≤ 400) (q : TstX (h.2.1 51) N m c d L2) : ∃ h', f_X3_leapHere S_1 45 a h = some ((), h') ∧ Eqv PCr h h' ∧ h'.2.1 45 3 = h.2.1 45 3 ∧ h'.2.1 45 4 = h.2.1 45 4 ∧ h'.2.1 50 2 = nI c ∧ (∀ j, j < c0 → h'.2.1 51 j = h.2.1 51 j) ∧ ∃ N, TstX (h'.2.1 51) N c0 c (J p d) (L + L2) := by
  have ql := q.lt
  rcases p with _ | d0
  · obtain ⟨rfl, rfl, rfl⟩ := k
    refine ⟨h, q_leap0 h, Eqv.refl h, rfl, rfl, v5, fun _ _ => rfl, N, ?_⟩
    rw [Nat.zero_add]
    rcases hx with ⟨_, rfl⟩ | ⟨_, rfl⟩ <;> exact q
  · obtain ⟨s, N1, rfl, rfl, k3, k4⟩ := k
    have kl := k4.lt
    refine ⟨_, q_leap v5 (by omega), (Eqv.refl h).si (PCr_o (by omega)), ri_p (by decide), ri_p (by decide), (ri_p (by decide)).trans v5, fun j hj => ri_k (by omega), N1 + N + 1, ?_⟩
    have e : (stI h 51 s (h.2.1 51 s ||| (nI c &&& 1023))).2.1 51 s = emV (nI x) (nI c) := by
      rw [stI_s, k3, em_leap (by omega) (by omega)]
    obtain ⟨w1, w2⟩ := em_ok (x := x) (y := c) (by omega) (by omega)
    have t1 : TstX ((stI h 51 s (h.2.1 51 s ||| (nI c &&& 1023))).2.1 51) (N1 + N) c0 s d0 L := (k4.cong fun j _ hj => ri_k (by omega)).le (by omega)
    have t2 : TstX ((stI h 51 s (h.2.1 51 s ||| (nI c &&& 1023))).2.1 51) (N1 + N) (s + 1) c d L2 := (q.cong fun j h1 _ => ri_k (by omega)).le (by omega)
    rcases hx with ⟨rfl, rfl⟩ | ⟨rfl, rfl⟩
    · exact Or.inr (Or.inr (Or.inl ⟨s, d0, d, L, L2, t1, t2, by rw [e, w1]; rfl, by rw [e, w2], rfl, rfl⟩))
    · exact Or.inr (Or.inr (Or.inr ⟨s, d0, d, L, L2, t1, t2, by rw [e, w1]; rfl, by rw [e, w2], rfl, rfl⟩))
theorem q_testL {K U : Nat → Nat} {n : Nat} {ord : Bool} {pl : Nat → Nat → Rs} {rs : Nat → Nat → Int32 → AH → Option (Int32 × AH)} {dp : Int32} {i0 lv0 c0 : Nat} (HG : ∀ i lv, i ≤ n → Go1 n i lv (pl i lv)) (HP : ∀ h i lv c, CS h K U n ord i lv c → RX TstX h i lv c (pl i lv) (rs 2 45 dp h)) : ∀ f p q i lv c h fu w a o m L1 L2, CS h K U n ord i lv c → n < f + i → n < fu + i → 2 * w ≤ i → lv0 ≤ lv → i0 ≤ i → c + i0 ≤ c0 + i → c0 ≤ i0 → P1T (h.2.1 51) 256 p o c0 m L1 → P1T (h.2.1 51) 257 q a m c L2 → lv - lv0 = L1 + L2 → RXL TstX h i0 lv0 c0 (testL pl K f p q i lv) (f_X3_test_l7 S_1 rs fu 45 dp a o (nI w) h) := by
  intro f
  induction f with
  | zero =>
    intro p q i lv c h fu w a o m L1 L2 cs hf
    have := cs.2.2.2.2.1
    omega
  | succ f ih =>
    intro p q i lv c h fu w a o m L1 L2 cs hf hfu hw hlv hi0 hc hc0 pp pq eL
    obtain ⟨tk, tn, v2, v3, hi, v4, hlv5, v5, hci⟩ := id cs
    have n4 := tk.2.1
    have le1 := pp.le
    have le2 := pq.le
    obtain ⟨fu, rfl⟩ : ∃ x, fu = x + 1 := ⟨fu - 1, by omega⟩
    have go := HG i lv hi
    have hp := HP h i lv c cs
    rw [f_X3_test_l7]
    unfold f_X3_test_l7b
    rw [if_neg (show ¬ (400 : Int32) ≤ nI w by rw [show (400 : Int32) = nI 400 from rfl, nn_le (by decide) (by omega)]; omega), bs_ (ck_45' h), testL]
    revert go hp
    rcases pl i lv with j | ⟨i', lv', d⟩
    · rintro - ⟨h1, r1, e1, u3⟩
      rw [bs_ r1]
      dsimp only
      rw [if_pos rfl]
      exact ⟨h1, rfl, e1, u3⟩
    · rintro ⟨g1, g2, g3, g4⟩ ⟨h1, c1, r1, e1, u3, u4, u5, u6, u7, N3, s3⟩
      have s3l := s3.lt
      rw [bs_ r1]
      dsimp only
      rw [if_neg (show ¬ (1 : Int32) = 0 by decide), bs_ (ck_45' h1)]
      obtain ⟨h2, r2, e2, w3, w4, w5, o2, N4, s4⟩ := q_join (Or.inl ⟨rfl, rfl⟩) (pq.cong fun j _ hj => u7 j hj) u5 (by omega) s3
      have E2 := e1.trans e2
      rw [u3] at w3
      rw [u4] at w4
      have cs2 : CS h2 K U n ord i' lv' c1 := cs.to E2 w3 g2 w4 g4 w5 (by omega)
      have ki := (cs2.1.2.2 i' g2).2.2
      have pp2 : P1T (h2.2.1 51) 256 p o c0 m L1 := pp.cong fun j _ hj => (o2 j hj).trans (u7 j (by omega))
      have nk : ∀ x : Nat, x < 300 → (nI (K i') = nI x) = (K i' = x) := fun x hx => nn_eq (by omega) (by omega)
      rw [bs_ r2]
      dsimp only
      rw [bs_ (ck_45' h2), bs_ (q_kind cs2.1 g2 w3)]
      dsimp only
      -- the sign is put down, and it goes on
      have on' : ∀ (g : AH) (x : Nat), x < 300 → i' < n → Eqv PCr h g → g.2.1 45 3 = nI i' → g.2.1 45 4 = nI lv' → g.2.1 50 2 = nI c1 → ∀ g', g' = stI (stI (stI g 51 c1 (emV (nI x) 0)) 50 2 (nI (c1 + 1))) 45 3 (nI (i' + 1)) → CS g' K U n ord (i' + 1) lv' (c1 + 1) ∧ Eqv PCr h g' ∧ g'.2.1 51 c1 = emV (nI x) 0 ∧ ∀ j, j < c1 → g'.2.1 51 j = g.2.1 51 j := fun g x hx hl eg y3 y4 y5 g' hg' => by
        have e' : Eqv PCr h g' := by
          rw [hg']
          exact ((eg.si (PCr_o (by omega))).si (PCr_o (by omega))).si (PCr_o (by omega))
        refine ⟨cs.to e' (by rw [hg', stI_s]) (by omega) ?_ g4 ?_ (by omega), e', ?_, fun j hj => ?_⟩
        · rw [hg', ri_k (by decide), ri_p (by decide), ri_p (by decide)]; exact y4
        · rw [hg', ri_p (by decide), stI_s]
        · rw [hg', ri_p (by decide), ri_p (by decide), stI_s]
        · rw [hg', ri_p (by decide), ri_p (by decide), ri_k (by omega)]
      by_cases c257 : K i' = 257
      · have hl := tn.lt g2 (by omega)
        rw [if_pos c257, if_pos (show nI (K i') = (257 : Int32) by rw [c257]; rfl), bs_ (yr_45_1' h2), bs_ (gi50 h2 2), w5]
        unfold f_X3_test_l7_j70
        rw [if_pos (show nI (K i') = (257 : Int32) by rw [c257]; rfl), bs_ (ck_45' h2), bs_ (q_emit w5 (by omega) _ _)]
        dsimp only
        rw [bs_ (ck_45' _), bs_ (q_next3 (i := i') (by rw [ri_p (by decide), ri_p (by decide)]; exact w3))]
        dsimp only
        rw [lt_e, nI_1]
        obtain ⟨cs3, e3, x1, x2⟩ := on' h2 257 (by decide) hl E2 w3 w4 w5 _ rfl
        rw [c257]
        refine RXL.from e3 (fun j hj => ?_) (ih p _ (i' + 1) lv' (c1 + 1) _ fu (w + 1) (nI c1) o m L1 (L2 + (lv' - lv)) cs3 (by omega) (by omega) (by omega) (by omega) (by omega) (by omega) hc0 (pp2.cong fun j _ hj => x2 j (by omega)) ⟨c1, N4, rfl, rfl, x1, s4.cong fun j _ hj => x2 j hj⟩ (by omega))
        rw [x2 j (by omega), o2 j (by omega), u7 j (by omega)]
      · rw [if_neg c257, if_neg (show ¬ nI (K i') = (257 : Int32) by rw [show (257 : Int32) = nI 257 from rfl, nk 257 (by decide)]; exact c257), bs_ (ck_45' h2)]
        obtain ⟨h3, r3, e3, y3, y4, y5, o3, N5, s5⟩ := q_join (Or.inr ⟨rfl, rfl⟩) pp2 w5 (by omega) s4
        have E3 := E2.trans e3
        rw [w3] at y3
        rw [w4] at y4
        rw [bs_ r3]
        dsimp only
        rw [bs_ (yr_45_1' h3), bs_ (gi50 h3 2), y5]
        unfold f_X3_test_l7_j70
        rw [if_neg (show ¬ nI (K i') = (257 : Int32) by rw [show (257 : Int32) = nI 257 from rfl, nk 257 (by decide)]; exact c257)]
        have oo : ∀ j, j < c0 → h3.2.1 51 j = h.2.1 51 j := fun j hj => (o3 j hj).trans ((o2 j (by omega)).trans (u7 j (by omega)))
        by_cases c256 : K i' = 256
        · have hl := tn.lt g2 (by omega)
          rw [if_pos c256, if_pos (show nI (K i') = (256 : Int32) by rw [c256]; rfl), bs_ (ck_45' h3), bs_ (q_emit y5 (by omega) _ _)]
          dsimp only
          rw [bs_ (ck_45' _), bs_ (q_next3 (i := i') (by rw [ri_p (by decide), ri_p (by decide)]; exact y3))]
          dsimp only
          rw [lt_e, nI_1]
          obtain ⟨cs3, e4, x1, x2⟩ := on' h3 256 (by decide) hl E3 y3 y4 y5 _ rfl
          rw [c256]
          refine RXL.from e4 (fun j hj => ?_) (ih _ none (i' + 1) lv' (c1 + 1) _ fu (w + 1) (-1) (nI c1) (c1 + 1) (L1 + (L2 + (lv' - lv))) 0 cs3 (by omega) (by omega) (by omega) (by omega) (by omega) (by omega) hc0 ⟨c1, N5, rfl, rfl, x1, s5.cong fun j _ hj => x2 j hj⟩ ⟨rfl, rfl, rfl⟩ (by omega))
          rw [x2 j (by omega), oo j hj]
        · rw [if_neg c256, if_neg (show ¬ nI (K i') = (256 : Int32) by rw [show (256 : Int32) = nI 256 from rfl, nk 256 (by decide)]; exact c256)]
          refine ⟨h3, c1, rfl, E3, y3, y4, y5, by omega, oo, N5, ?_⟩
          rwa [show lv' - lv0 = L1 + (L2 + (lv' - lv)) by omega]
theorem q_test1 {h : AH} {K U : Nat → Nat} {n i lv c : Nat} {ord : Bool} {pl : Nat → Nat → Rs} {rs : Nat → Nat → Int32 → AH → Option (Int32 × AH)} {dp : Int32} (HG : ∀ i lv, i ≤ n → Go1 n i lv (pl i lv)) (HP : ∀ h i lv c, CS h K U n ord i lv c → RX TstX h i lv c (pl i lv) (rs 2 45 dp h)) (cs : CS h K U n ord i lv c) : RX TstX h i lv c (testL pl K 402 none none i lv) (f_X3_test S_1 rs 45 dp h) := by
  have n4 := cs.1.2.1
  have q := q_testL (i0 := i) (lv0 := lv) (c0 := c) HG HP 402 none none i lv c h FU 0 (-1) (-1) c 0 0 cs (by omega) (by unfold FU; omega) (by omega) (Nat.le_refl _) (Nat.le_refl _) (Nat.le_refl _) cs.2.2.2.2.2.2.2.2 ⟨rfl, rfl, rfl⟩ ⟨rfl, rfl, rfl⟩ (by omega)
  unfold f_X3_test
  revert q
  rcases testL pl K 402 none none i lv with j | ⟨i', lv', d⟩
  · rintro ⟨h', r, x⟩
    rw [bs_ (show f_X3_test_l7 S_1 rs FU 45 dp (-1 : Int32) (-1 : Int32) (0 : Int32) h = _ from r)]
    exact ⟨h', rfl, x⟩
  · rintro ⟨h', c', r, x⟩
    rw [bs_ (show f_X3_test_l7 S_1 rs FU 45 dp (-1 : Int32) (-1 : Int32) (0 : Int32) h = _ from r)]
    exact ⟨h', c', rfl, x⟩
theorem q_test {K U : Nat → Nat} {n : Nat} {ord : Bool} : ∀ (k F dp : Nat) (h : AH) (i lv c : Nat), dp + k = 8 → 3 * k + 5 ≤ F → CS h K U n ord i lv c → RX TstX h i lv c (testS K U ord k i lv) (f_P S_1 F 0 45 (nI dp) h) := by
  intro k
  induction k with
  | zero =>
    intro F dp h i lv c hd hF cs
    obtain ⟨F, rfl⟩ : ∃ x, F = x + 3 := ⟨F - 3, by omega⟩
    have : dp = 8 := by omega
    subst this
    refine q_test1 (pl := plainS K (sumS K U ord 0) fun i _ => .inl i) (plain_go (br := fun i _ => .inl i) cs.2.1 (sum_go cs.2.1 0) fun i lv hi _ => ⟨Nat.le_refl _, hi⟩) (fun h i lv c cs => ?_) cs
    refine q_plain (rs := f_P S_1 (F + 1)) (br := fun i _ => .inl i) (sum_go cs.2.1 0) (fun h i lv c cs => q_sum 0 (F + 1) 8 h i lv c rfl (by omega) cs) (fun i lv hi _ => ⟨Nat.le_refl _, hi⟩) (fun h i lv c cs e => ?_) cs
    show RX TstX h i lv c (.inl i) (f_X3_testInBrackets S_1 (f_P S_1 F) 45 (nI 8) h)
    unfold f_X3_testInBrackets
    rw [if_neg (show ¬ nI 8 < (8 : Int32) by decide)]
    exact ⟨h, rfl, Eqv.refl h, cs.2.2.2.1⟩
  | succ k IH =>
    intro F dp h i lv c hd hF cs
    obtain ⟨F, rfl⟩ : ∃ x, F = x + 3 := ⟨F - 3, by omega⟩
    refine q_test1 (pl := plainS K (sumS K U ord (k + 1)) fun i lv => brS K 41 (testS K U ord k (i + 1) lv)) (plain_go (br := fun i lv => brS K 41 (testS K U ord k (i + 1) lv)) cs.2.1 (sum_go cs.2.1 (k + 1)) fun i lv hi e => by
      have := cs.2.1.lt hi (by omega)
      exact br_go cs.2.1 (by decide) (test_go cs.2.1 k (i + 1) lv (by omega))) (fun h i lv c cs => ?_) cs
    refine q_plain (rs := f_P S_1 (F + 1)) (br := fun i lv => brS K 41 (testS K U ord k (i + 1) lv)) (sum_go cs.2.1 (k + 1)) (fun h i lv c cs => q_sum (k + 1) (F + 1) dp h i lv c hd (by omega) cs) (fun i lv hi e => by
      have := cs.2.1.lt hi (by omega)
      exact br_go cs.2.1 (by decide) (test_go cs.2.1 k (i + 1) lv (by omega))) (fun h i lv c cs e => ?_) cs
    have hl := cs.2.1.lt cs.2.2.2.2.1 (by omega)
    have e1 : Eqv PCr h (stI h 45 3 (nI (i + 1))) := (Eqv.refl h).si (PCr_o (by omega))
    have cs1 : CS (stI h 45 3 (nI (i + 1))) K U n ord (i + 1) lv c := cs.to e1 (stI_s _ _ _ _) (by omega) ((ri_k (by decide)).trans cs.2.2.2.2.2.1) cs.2.2.2.2.2.2.1 ((ri_p (by decide)).trans cs.2.2.2.2.2.2.2.1) (by have := cs.2.2.2.2.2.2.2.2; omega)
    have q := RX.br (x := 41) cs (by decide) (test_go cs.2.1 k (i + 1) lv (by omega)) e1 (fun j _ => ri_p (by decide)) (IH F (dp + 1) _ (i + 1) lv c (by omega) (by omega) cs1)
    show RX TstX h i lv c (brS K 41 (testS K U ord k (i + 1) lv)) (f_X3_testInBrackets S_1 (f_P S_1 F) 45 (nI dp) h)
    unfold f_X3_testInBrackets
    rw [if_pos (show nI dp < (8 : Int32) by rw [show (8 : Int32) = nI 8 from rfl, nn_lt (by omega) (by decide)]; omega), bs_ (ck_45' h), bs_ (q_next3 cs.2.2.2.1)]
    dsimp only
    rw [bs_ (ck_45' _), nI_1]
    exact q

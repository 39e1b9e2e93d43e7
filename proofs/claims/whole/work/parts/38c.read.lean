/-! reading: the class's sums -/
theorem sg_em : ∀ op, op < 28 → 20 ≤ op → wh (emV (sgn op) 0) = sgn op ∧ ¬ sgn op = -1 := by decide
theorem sg_op {x : Nat} (h : x = 43 ∨ x = 45 ∨ x = 42 ∨ x = 47 ∨ x = 37 ∨ x = 60 ∨ x = 62 ∨ x = 61) : sgn (opN x) = nI x := by
  rcases h with rfl | rfl | rfl | rfl | rfl | rfl | rfl | rfl <;> decide
theorem op_mul {x : Nat} (h : x = 42 ∨ x = 47 ∨ x = 37) : 22 ≤ opN x ∧ opN x < 25 := by
  rcases h with rfl | rfl | rfl <;> decide
theorem op_add {x : Nat} (h : x = 43 ∨ x = 45) : 20 ≤ opN x ∧ opN x < 22 := by
  rcases h with rfl | rfl <;> decide
theorem op_cmp {x : Nat} (h : x = 60 ∨ x = 62 ∨ x = 61) : 25 ≤ opN x ∧ opN x < 28 := by
  rcases h with rfl | rfl | rfl <;> decide
theorem SumX.opX {cd cd' : Nat → Int32} {N1 N2 m c1 c2 L1 L2 op : Nat} {d1 d2 : DD} (h1 : SumX cd N1 m c1 d1 L1) (h2 : SumX cd N2 c1 c2 d2 L2) (e : ∀ j, j < c2 → cd' j = cd j) (ho : 20 ≤ op ∧ op < 25) (eo : wh (cd' c2) = sgn op) : ∃ N, SumX cd' N m (c2 + 1) (binD op d1 d2) (L1 + L2) := by
  have l1 := h1.lt
  have l2 := h2.lt
  refine ⟨(N1 + N2) + 1, Or.inr ⟨c1, c2, d1, d2, L1, L2, op, ?_, ?_, rfl, ho.1, ho.2, eo, rfl, rfl⟩⟩
  · exact (h1.cong fun k a b => e k (by omega)).le (by omega)
  · exact (h2.cong fun k a b => e k b).le (by omega)
def pnV (p : Option (Nat × DD)) : Int32 := match p with
  | none => -1
  | some (op, _) => sgn op
def pcn (p : Option (Nat × DD)) : Nat := match p with
  | none => 0
  | some _ => 1
def P1X (cd : Nat → Int32) (lo hi : Nat) (p : Option (Nat × DD)) (c0 m L : Nat) : Prop := match p with
  | none => m = c0 ∧ L = 0
  | some (op, d) => lo ≤ op ∧ op < hi ∧ ∃ N, SumX cd N c0 m d L
def PdX (cd : Nat → Int32) (p q : Option (Nat × DD)) (c0 c L : Nat) : Prop := ∃ m L1 L2, L = L1 + L2 ∧ P1X cd 20 22 p c0 m L1 ∧ P1X cd 22 25 q m c L2
/-- from the start on -/
def RXL (Q : (Nat → Int32) → Nat → Nat → Nat → DD → Nat → Prop) (h : AH) (i0 lv0 c0 : Nat) (r : Rs) (res : Option ((Int32 ⊕ Unit) × AH)) : Prop := match r with
  | .inl j => ∃ h', res = some (.inl 0, h') ∧ Eqv PCr h h' ∧ h'.2.1 45 3 = nI j
  | .inr (i', lv', d) => ∃ h' c', res = some (.inl 1, h') ∧ Eqv PCr h h' ∧ h'.2.1 45 3 = nI i' ∧ h'.2.1 45 4 = nI lv' ∧ h'.2.1 50 2 = nI c' ∧ c' + i0 ≤ c0 + i' ∧ (∀ j, j < c0 → h'.2.1 51 j = h.2.1 51 j) ∧ ∃ N, Q (h'.2.1 51) N c0 c' d (lv' - lv0)
theorem RXL.from {Q : (Nat → Int32) → Nat → Nat → Nat → DD → Nat → Prop} {h h1 : AH} {i0 lv0 c0 : Nat} {r : Rs} {res : Option ((Int32 ⊕ Unit) × AH)} (e : Eqv PCr h h1) (o : ∀ j, j < c0 → h1.2.1 51 j = h.2.1 51 j) (k : RXL Q h1 i0 lv0 c0 r res) : RXL Q h i0 lv0 c0 r res := by
  rcases r with j | ⟨i', lv', d⟩
  · obtain ⟨h', a, b, c⟩ := k
    exact ⟨h', a, e.trans b, c⟩
  · obtain ⟨h', c', a, b, k1, k2, k3, k4, k5, k6⟩ := k
    exact ⟨h', c', a, e.trans b, k1, k2, k3, k4, fun j hj => (k5 j hj).trans (o j hj), k6⟩
theorem q_sumL {K U : Nat → Nat} {n : Nat} {ord : Bool} {pt : Nat → Nat → Rs} {rs : Nat → Nat → Int32 → AH → Option (Int32 × AH)} {dp : Int32} {i0 lv0 c0 : Nat} (HG : ∀ i lv, i ≤ n → Go1 n i lv (pt i lv)) (HP : ∀ h i lv c, CS h K U n ord i lv c → RX SumX h i lv c (pt i lv) (rs 5 45 dp h)) : ∀ f p q i lv c h fu w, CS h K U n ord i lv c → n < f + i → n < fu + i → 2 * w ≤ i → lv0 ≤ lv → i0 ≤ i → c + pcn p + pcn q + i0 ≤ c0 + i → c0 ≤ i0 → PdX (h.2.1 51) p q c0 c (lv - lv0) → RXL SumX h i0 lv0 c0 (sumL pt K f p q i lv) (f_X3_sum_l7 S_1 rs fu 45 dp (pnV p) (pnV q) (nI w) h) := by
  intro f
  induction f with
  | zero =>
    intro p q i lv c h fu w cs hf
    have := cs.2.2.2.2.1
    omega
  | succ f ih =>
    intro p q i lv c h fu w cs hf hfu hw hlv hi0 hc hc0 pd
    have cs' := id cs
    obtain ⟨tk, tn, v2, v3, hi, v4, hlv5, v5, hci⟩ := cs'
    have n4 := tk.2.1
    obtain ⟨fu, rfl⟩ : ∃ x, fu = x + 1 := ⟨fu - 1, by omega⟩
    have go := HG i lv hi
    have hp := HP h i lv c cs
    rw [f_X3_sum_l7]
    unfold f_X3_sum_l7b
    rw [if_neg (show ¬ (400 : Int32) ≤ nI w by rw [show (400 : Int32) = nI 400 from rfl, nn_le (by decide) (by omega)]; omega), bs_ (ck_45' h), sumL]
    revert go hp
    rcases pt i lv with j | ⟨i', lv', d⟩
    · rintro - ⟨h1, r1, e1, u3⟩
      rw [bs_ r1]
      dsimp only
      rw [if_pos rfl]
      exact ⟨h1, rfl, e1, u3⟩
    · rintro ⟨g1, g2, g3, g4⟩ ⟨h1, c1, r1, e1, u3, u4, u5, u6, u7, N3, s3⟩
      obtain ⟨m, L1, L2, eL, pp, pq⟩ := pd
      rw [bs_ r1]
      dsimp only
      rw [if_neg (show ¬ (1 : Int32) = 0 by decide)]
      have tk1 := tk.c e1
      have ki := (tk1.2.2 i' g2).2.2
      have hmc : m ≤ c := by
        rcases q with _ | ⟨op, dq⟩
        · obtain ⟨a, b⟩ := pq
          omega
        · obtain ⟨a, b, N2, s2⟩ := pq
          have := s2.lt
          omega
      have hcm : c0 ≤ m := by
        rcases p with _ | ⟨op, dq⟩
        · obtain ⟨a, b⟩ := pp
          omega
        · obtain ⟨a, b, N2, s2⟩ := pp
          have := s2.lt
          omega
      -- behind the product
      have J36 : ∀ (h2 : AH) (c2 : Nat), Eqv PCr h h2 → h2.2.1 45 3 = nI i' → h2.2.1 45 4 = nI lv' → h2.2.1 50 2 = nI c2 → (∀ j, j < m → h2.2.1 51 j = h.2.1 51 j) → c2 + pcn p + i0 ≤ c0 + i' → (∃ N, SumX (h2.2.1 51) N m c2 (joinD q d) (L2 + (lv' - lv))) → RXL SumX h i0 lv0 c0 (if K i' = 42 ∨ K i' = 47 ∨ K i' = 37 then sumL pt K f p (some (opN (K i'), joinD q d)) (i' + 1) lv' else if K i' = 43 ∨ K i' = 45 then sumL pt K f (some (opN (K i'), joinD p (joinD q d))) none (i' + 1) lv' else .inr (i', lv', joinD p (joinD q d))) (f_X3_sum_l7_j36 S_1 rs (f_X3_sum_l7 S_1 rs fu) 45 dp (pnV p) (nI w) h2) := fun h2 c2 e2 w3 w4 w5 o2 hc2 ⟨N, s⟩ => by
        have cs2 : CS h2 K U n ord i' lv' c2 := cs.to e2 w3 g2 w4 g4 w5 (by omega)
        have sl := s.lt
        have ppX : ∀ cd : Nat → Int32, (∀ j, j < m → cd j = h.2.1 51 j) → P1X cd 20 22 p c0 m L1 := fun cd ecd => by
          rcases p with _ | ⟨op, dq⟩
          · exact pp
          · obtain ⟨a, b, N2, s2⟩ := pp
            exact ⟨a, b, N2, s2.cong fun k _ hk => ecd k hk⟩
        unfold f_X3_sum_l7_j36
        rw [bs_ (ck_45' h2), bs_ (q_kind cs2.1 g2 w3)]
        dsimp only
        have nk : ∀ x : Nat, x < 300 → (nI (K i') = nI x) = (K i' = x) := fun x hx => nn_eq (by omega) (by omega)
        have mul : (K i' = 42 ∨ K i' = 47 ∨ K i' = 37) → RXL SumX h i0 lv0 c0 (if K i' = 42 ∨ K i' = 47 ∨ K i' = 37 then sumL pt K f p (some (opN (K i'), joinD q d)) (i' + 1) lv' else if K i' = 43 ∨ K i' = 45 then sumL pt K f (some (opN (K i'), joinD p (joinD q d))) none (i' + 1) lv' else .inr (i', lv', joinD p (joinD q d))) (f_X3_sum_l7_j63 S_1 rs (f_X3_sum_l7 S_1 rs fu) 45 dp (pnV p) (nI w) (nI (K i')) h2) := fun hk => by
          have hl := tn.lt g2 (by omega)
          rw [if_pos hk]
          unfold f_X3_sum_l7_j63 f_X3_sum_l7_j69
          rw [if_neg (show ¬ nI (K i') = (-1 : Int32) by rw [nl_m1 (by omega)]; exact id), bs_ (ck_45' h2), bs_ (q_next3 w3)]
          dsimp only
          rw [lt_e, nI_1, show nI (K i') = pnV (some (opN (K i'), joinD q d)) from (sg_op (by omega)).symm]
          have e3 : Eqv PCr h2 (stI h2 45 3 (nI (i' + 1))) := (Eqv.refl h2).si (PCr_o (by omega))
          have cs3 : CS (stI h2 45 3 (nI (i' + 1))) K U n ord (i' + 1) lv' c2 := cs2.to e3 (stI_s _ _ _ _) (by omega) ((ri_k (by decide)).trans w4) g4 ((ri_p (by decide)).trans w5) (by omega)
          have o3 : ∀ j, (stI h2 45 3 (nI (i' + 1))).2.1 51 j = h2.2.1 51 j := fun j => ri_p (by decide)
          refine RXL.from (e2.trans e3) (fun j hj => (o3 j).trans (o2 j (by omega))) (ih p _ (i' + 1) lv' c2 _ fu (w + 1) cs3 (by omega) (by omega) (by omega) (by omega) (by omega) ?_ hc0 ?_)
          · show c2 + pcn p + 1 + i0 ≤ c0 + (i' + 1)
            omega
          · refine ⟨m, L1, L2 + (lv' - lv), by omega, ppX _ fun j hj => (o3 j).trans (o2 j hj), ?_⟩
            obtain ⟨m1, m2⟩ := op_mul hk
            exact ⟨m1, m2, N, s.cong fun k _ _ => o3 k⟩
        have nomul : ¬ (K i' = 42 ∨ K i' = 47 ∨ K i' = 37) → RXL SumX h i0 lv0 c0 (if K i' = 42 ∨ K i' = 47 ∨ K i' = 37 then sumL pt K f p (some (opN (K i'), joinD q d)) (i' + 1) lv' else if K i' = 43 ∨ K i' = 45 then sumL pt K f (some (opN (K i'), joinD p (joinD q d))) none (i' + 1) lv' else .inr (i', lv', joinD p (joinD q d))) (f_X3_sum_l7_j69 S_1 rs (f_X3_sum_l7 S_1 rs fu) 45 dp (pnV p) (nI w) (nI (K i')) (-1) h2) := fun hk => by
          rw [if_neg hk]
          unfold f_X3_sum_l7_j69
          rw [if_pos (show (-1 : Int32) = -1 from rfl)]
          have J86 : ∀ (h3 : AH) (c3 : Nat), Eqv PCr h h3 → h3.2.1 45 3 = nI i' → h3.2.1 45 4 = nI lv' → h3.2.1 50 2 = nI c3 → (∀ j, j < c0 → h3.2.1 51 j = h.2.1 51 j) → c3 + i0 ≤ c0 + i' → (∃ N, SumX (h3.2.1 51) N c0 c3 (joinD p (joinD q d)) (lv' - lv0)) → RXL SumX h i0 lv0 c0 (if K i' = 43 ∨ K i' = 45 then sumL pt K f (some (opN (K i'), joinD p (joinD q d))) none (i' + 1) lv' else .inr (i', lv', joinD p (joinD q d))) (f_X3_sum_l7_j86 S_1 rs (f_X3_sum_l7 S_1 rs fu) 45 dp (-1) (nI w) (nI (K i')) h3) := fun h3 c3 e3 x3 x4 x5 o3 hc3 ⟨N', s'⟩ => by
            have cs3 : CS h3 K U n ord i' lv' c3 := cs.to e3 x3 g2 x4 g4 x5 (by omega)
            have add : (K i' = 43 ∨ K i' = 45) → RXL SumX h i0 lv0 c0 (sumL pt K f (some (opN (K i'), joinD p (joinD q d))) none (i' + 1) lv') (f_X3_sum_l7 S_1 rs fu 45 dp (nI (K i')) (-1) (nI (w + 1)) (stI h3 45 3 (nI (i' + 1)))) := fun hk => by
              have hl := tn.lt g2 (by omega)
              have e4 : Eqv PCr h3 (stI h3 45 3 (nI (i' + 1))) := (Eqv.refl h3).si (PCr_o (by omega))
              have cs4 : CS (stI h3 45 3 (nI (i' + 1))) K U n ord (i' + 1) lv' c3 := cs3.to e4 (stI_s _ _ _ _) (by omega) ((ri_k (by decide)).trans x4) g4 ((ri_p (by decide)).trans x5) (by omega)
              have o4 : ∀ j, (stI h3 45 3 (nI (i' + 1))).2.1 51 j = h3.2.1 51 j := fun j => ri_p (by decide)
              rw [show nI (K i') = pnV (some (opN (K i'), joinD p (joinD q d))) from (sg_op (by omega)).symm]
              refine RXL.from (e3.trans e4) (fun j hj => (o4 j).trans (o3 j hj)) (ih _ none (i' + 1) lv' c3 _ fu (w + 1) cs4 (by omega) (by omega) (by omega) (by omega) (by omega) ?_ hc0 ?_)
              · show c3 + 1 + 0 + i0 ≤ c0 + (i' + 1)
                omega
              · obtain ⟨m1, m2⟩ := op_add hk
                exact ⟨c3, lv' - lv0, 0, by omega, ⟨m1, m2, N', s'.cong fun k _ _ => o4 k⟩, rfl, rfl⟩
            unfold f_X3_sum_l7_j86
            by_cases c43 : K i' = 43
            · rw [if_pos (show K i' = 43 ∨ K i' = 45 from Or.inl c43), if_pos (show nI (K i') = (43 : Int32) by rw [c43]; rfl), bs_ (ck_45' h3), bs_ (q_next3 x3)]
              dsimp only
              rw [lt_e, nI_1]
              exact add (Or.inl c43)
            · rw [if_neg (show ¬ nI (K i') = (43 : Int32) by rw [show (43 : Int32) = nI 43 from rfl, nk 43 (by decide)]; exact c43)]
              by_cases c45 : K i' = 45
              · rw [if_pos (show K i' = 43 ∨ K i' = 45 from Or.inr c45), if_pos (show nI (K i') = (45 : Int32) by rw [c45]; rfl), bs_ (ck_45' h3), bs_ (q_next3 x3)]
                dsimp only
                rw [lt_e, nI_1]
                exact add (Or.inr c45)
              · rw [if_neg (show ¬ (K i' = 43 ∨ K i' = 45) by omega), if_neg (show ¬ nI (K i') = (45 : Int32) by rw [show (45 : Int32) = nI 45 from rfl, nk 45 (by decide)]; exact c45)]
                exact ⟨h3, c3, rfl, e3, x3, x4, x5, hc3, o3, N', s'⟩
          rcases p with _ | ⟨op, dp'⟩
          · rw [if_pos (show pnV none = -1 from rfl)]
            obtain ⟨rfl, rfl⟩ := pp
            refine J86 h2 c2 e2 w3 w4 w5 o2 (by show c2 + i0 ≤ _; have : pcn none = 0 := rfl; omega) ⟨N, ?_⟩
            rwa [show lv' - lv0 = L2 + (lv' - lv) by omega]
          · obtain ⟨p1, p2, N1, s1⟩ := pp
            obtain ⟨g5, g6⟩ := sg_em op (by omega) p1
            have c4 : c2 < 400 := by
              have : pcn (some (op, dp')) = 1 := rfl
              omega
            rw [if_neg (show ¬ pnV (some (op, dp')) = -1 from g6), bs_ (ck_45' h2), bs_ (q_emit w5 c4 _ _)]
            dsimp only
            obtain ⟨h3, hh3⟩ : ∃ h3, h3 = stI (stI h2 51 c2 (emV (pnV (some (op, dp'))) 0)) 50 2 (nI (c2 + 1)) := ⟨_, rfl⟩
            rw [← hh3]
            have o3 : ∀ j, j < c2 → h3.2.1 51 j = h2.2.1 51 j := fun j hj => by rw [hh3, ri_p (by decide), ri_k (by omega)]
            obtain ⟨N', s'⟩ := (s1.cong fun k _ hk => o2 k hk).opX (cd' := h3.2.1 51) s o3 (show 20 ≤ op ∧ op < 25 by omega) (by rw [hh3, ri_p (by decide), stI_s]; exact g5)
            refine J86 h3 (c2 + 1) ?_ ?_ ?_ ?_ (fun j hj => (o3 j (by omega)).trans (o2 j (by omega))) ?_ ⟨N', ?_⟩
            · rw [hh3]; exact (e2.si (PCr_o (by omega))).si (PCr_o (by omega))
            · rw [hh3, ri_p (by decide), ri_p (by decide)]; exact w3
            · rw [hh3, ri_p (by decide), ri_p (by decide)]; exact w4
            · rw [hh3, stI_s]
            · have : pcn (some (op, dp')) = 1 := rfl
              omega
            · rw [show lv' - lv0 = L1 + (L2 + (lv' - lv)) by omega]
              exact s'
        by_cases c42 : K i' = 42
        · rw [if_pos (show nI (K i') = (42 : Int32) by rw [c42]; rfl)]
          exact mul (by omega)
        · rw [if_neg (show ¬ nI (K i') = (42 : Int32) by rw [show (42 : Int32) = nI 42 from rfl, nk 42 (by decide)]; exact c42)]
          by_cases c47 : K i' = 47
          · rw [if_pos (show nI (K i') = (47 : Int32) by rw [c47]; rfl)]
            exact mul (by omega)
          · rw [if_neg (show ¬ nI (K i') = (47 : Int32) by rw [show (47 : Int32) = nI 47 from rfl, nk 47 (by decide)]; exact c47)]
            by_cases c37 : K i' = 37
            · rw [if_pos (show nI (K i') = (37 : Int32) by rw [c37]; rfl)]
              exact mul (by omega)
            · rw [if_neg (show ¬ nI (K i') = (37 : Int32) by rw [show (37 : Int32) = nI 37 from rfl, nk 37 (by decide)]; exact c37)]
              exact nomul (by omega)
      rcases q with _ | ⟨op, dq⟩
      · rw [if_pos (show pnV none = -1 from rfl)]
        obtain ⟨rfl, rfl⟩ := pq
        refine J36 h1 c1 e1 u3 u4 u5 (fun j hj => u7 j (by omega)) (by have : pcn none = 0 := rfl; omega) ⟨N3, ?_⟩
        rwa [show 0 + (lv' - lv) = lv' - lv by omega]
      · obtain ⟨p1, p2, N1, s1⟩ := pq
        obtain ⟨g5, g6⟩ := sg_em op (by omega) (by omega)
        have q1 : pcn (some (op, dq)) = 1 := rfl
        have c4 : c1 < 400 := by omega
        rw [if_neg (show ¬ pnV (some (op, dq)) = -1 from g6), bs_ (ck_45' h1), bs_ (q_emit u5 c4 _ _)]
        dsimp only
        obtain ⟨h2, hh2⟩ : ∃ h2, h2 = stI (stI h1 51 c1 (emV (pnV (some (op, dq))) 0)) 50 2 (nI (c1 + 1)) := ⟨_, rfl⟩
        rw [← hh2]
        have o2 : ∀ j, j < c1 → h2.2.1 51 j = h1.2.1 51 j := fun j hj => by rw [hh2, ri_p (by decide), ri_k (by omega)]
        have s3l := s3.lt
        obtain ⟨N', s'⟩ := (s1.cong fun k _ hk => u7 k hk).opX (cd' := h2.2.1 51) s3 o2 (show 20 ≤ op ∧ op < 25 by omega) (by rw [hh2, ri_p (by decide), stI_s]; exact g5)
        refine J36 h2 (c1 + 1) ?_ ?_ ?_ ?_ (fun j hj => (o2 j (by omega)).trans (u7 j (by omega))) (by omega) ⟨N', s'⟩
        · rw [hh2]; exact (e1.si (PCr_o (by omega))).si (PCr_o (by omega))
        · rw [hh2, ri_p (by decide), ri_p (by decide)]; exact u3
        · rw [hh2, ri_p (by decide), ri_p (by decide)]; exact u4
        · rw [hh2, stI_s]
theorem q_sum1 {h : AH} {K U : Nat → Nat} {n i lv c : Nat} {ord : Bool} {pt : Nat → Nat → Rs} {rs : Nat → Nat → Int32 → AH → Option (Int32 × AH)} {dp : Int32} (HG : ∀ i lv, i ≤ n → Go1 n i lv (pt i lv)) (HP : ∀ h i lv c, CS h K U n ord i lv c → RX SumX h i lv c (pt i lv) (rs 5 45 dp h)) (cs : CS h K U n ord i lv c) : RX SumX h i lv c (sumL pt K 402 none none i lv) (f_X3_sum S_1 rs 45 dp h) := by
  have n4 := cs.1.2.1
  have q := q_sumL (i0 := i) (lv0 := lv) (c0 := c) HG HP 402 none none i lv c h FU 0 cs (by omega) (by unfold FU; omega) (by omega) (Nat.le_refl _) (Nat.le_refl _) (by show c + 0 + 0 + i ≤ c + i; omega) cs.2.2.2.2.2.2.2.2 ⟨c, 0, 0, by omega, ⟨rfl, rfl⟩, rfl, rfl⟩
  unfold f_X3_sum
  revert q
  rcases sumL pt K 402 none none i lv with j | ⟨i', lv', d⟩
  · rintro ⟨h', r, x⟩
    rw [bs_ (show f_X3_sum_l7 S_1 rs FU 45 dp (-1 : Int32) (-1 : Int32) (0 : Int32) h = _ from r)]
    exact ⟨h', rfl, x⟩
  · rintro ⟨h', c', r, x⟩
    rw [bs_ (show f_X3_sum_l7 S_1 rs FU 45 dp (-1 : Int32) (-1 : Int32) (0 : Int32) h = _ from r)]
    exact ⟨h', c', rfl, x⟩
/-- brackets: what stands within, and the sign behind -/
theorem RX.br {Q : (Nat → Int32) → Nat → Nat → Nat → DD → Nat → Prop} {h h1 : AH} {K U : Nat → Nat} {n i lv c x : Nat} {ord : Bool} {r : Rs} {res : Option (Int32 × AH)} (cs : CS h K U n ord i lv c) (hx : x < 256) (go : Go1 n (i + 1) lv r) (e : Eqv PCr h h1) (o : ∀ j, j < c → h1.2.1 51 j = h.2.1 51 j) (k : RX Q h1 (i + 1) lv c r res) : RX Q h i lv c (brS K x r) (res.bind fun z => match z with
    | (z_7, h_6) => if z_7 = (0 : Int32) then some ((0 : Int32), h_6) else (ckO S_1 h_6 45 3).bind fun _ => (f_X3_kind S_1 45 h_6).bind fun z => match z with
      | (z_11, h_10) => if z_11 = nI x then (ckO S_1 h_10 45 3).bind fun _ => (f_X3_next S_1 45 h_10).bind fun z => match z with
        | (_, h_14) => some ((1 : Int32), h_14) else some ((0 : Int32), h_10)) := by
  unfold brS
  rcases r with j | ⟨i', lv', d⟩
  · obtain ⟨h', r, e', v⟩ := k
    rw [bs_ r]
    dsimp only
    rw [if_pos rfl]
    exact ⟨h', rfl, e.trans e', v⟩
  · obtain ⟨h', c', r, e', u3, u4, u5, u6, u7, u8⟩ := k
    obtain ⟨g1, g2, g3, g4⟩ := go
    have E := e.trans e'
    have tk := cs.1.c E
    have ki := (tk.2.2 i' g2).2.2
    rw [bs_ r]
    dsimp only
    rw [if_neg (show ¬ (1 : Int32) = 0 by decide), bs_ (ck_45' h'), bs_ (q_kind tk g2 u3)]
    dsimp only
    by_cases ek : K i' = x
    · rw [if_pos ek, if_pos (show nI (K i') = nI x by rw [ek]), bs_ (ck_45' h'), bs_ (q_next3 u3)]
      refine ⟨_, c', rfl, E.si (PCr_o (by omega)), stI_s _ _ _ _, (ri_k (by decide)).trans u4, (ri_p (by decide)).trans u5, by omega, fun j hj => (ri_p (by decide)).trans ((u7 j hj).trans (o j hj)), ?_⟩
      obtain ⟨N, q⟩ := u8
      refine ⟨N, ?_⟩
      rwa [show (stI h' 45 3 (nI (i' + 1))).2.1 51 = h'.2.1 51 from funext fun j => ri_p (by decide)]
    · rw [if_neg ek, if_neg (show ¬ nI (K i') = nI x by rw [nn_eq (by omega) (by omega)]; exact ek)]
      exact ⟨h', rfl, E, u3⟩
theorem q_sum {K U : Nat → Nat} {n : Nat} {ord : Bool} : ∀ (k F dp : Nat) (h : AH) (i lv c : Nat), dp + k = 8 → 3 * k + 3 ≤ F → CS h K U n ord i lv c → RX SumX h i lv c (sumS K U ord k i lv) (f_P S_1 F 3 45 (nI dp) h) := by
  intro k
  induction k with
  | zero =>
    intro F dp h i lv c hd hF cs
    obtain ⟨F, rfl⟩ : ∃ x, F = x + 3 := ⟨F - 3, by omega⟩
    have : dp = 8 := by omega
    subst this
    refine q_sum1 (pt := partS K U ord fun i _ => .inl i) (part_go (br := fun i _ => .inl i) cs.2.1 fun i lv hi _ => ⟨Nat.le_refl _, hi⟩) (fun h i lv c cs => ?_) cs
    show RX SumX h i lv c (partS K U ord (fun i _ => .inl i) i lv) (f_X3_part S_1 (f_P S_1 (F + 1)) 45 (nI 8) h)
    unfold partS
    by_cases e : K i = 91
    · rw [if_pos e]
      unfold f_X3_part
      rw [bs_ (ck_45' h), bs_ (q_kind cs.1 cs.2.2.2.2.1 cs.2.2.2.1)]
      dsimp only
      rw [if_pos (show nI (K i) = (91 : Int32) by rw [e]; rfl), bs_ (ck_45' h)]
      show RX SumX h i lv c (.inl i) ((f_X3_sumInBrackets S_1 (f_P S_1 F) 45 (nI 8) h).bind _)
      unfold f_X3_sumInBrackets
      rw [if_neg (show ¬ nI 8 < (8 : Int32) by decide), ob]
      exact ⟨h, rfl, Eqv.refl h, cs.2.2.2.1⟩
    · rw [if_neg e]
      exact q_leaf cs _ _ e
  | succ k IH =>
    intro F dp h i lv c hd hF cs
    obtain ⟨F, rfl⟩ : ∃ x, F = x + 3 := ⟨F - 3, by omega⟩
    refine q_sum1 (pt := partS K U ord fun i lv => brS K 93 (sumS K U ord k (i + 1) lv)) (part_go (br := fun i lv => brS K 93 (sumS K U ord k (i + 1) lv)) cs.2.1 fun i lv hi e => by
      have := cs.2.1.lt hi (by omega)
      exact br_go cs.2.1 (by decide) (sum_go cs.2.1 k (i + 1) lv (by omega))) (fun h i lv c cs => ?_) cs
    show RX SumX h i lv c (partS K U ord (fun i lv => brS K 93 (sumS K U ord k (i + 1) lv)) i lv) (f_X3_part S_1 (f_P S_1 (F + 1)) 45 (nI dp) h)
    unfold partS
    by_cases e : K i = 91
    · have hl := cs.2.1.lt cs.2.2.2.2.1 (by omega)
      rw [if_pos e]
      unfold f_X3_part
      rw [bs_ (ck_45' h), bs_ (q_kind cs.1 cs.2.2.2.2.1 cs.2.2.2.1)]
      dsimp only
      rw [if_pos (show nI (K i) = (91 : Int32) by rw [e]; rfl), bs_ (ck_45' h)]
      have e1 : Eqv PCr h (stI h 45 3 (nI (i + 1))) := (Eqv.refl h).si (PCr_o (by omega))
      have cs1 : CS (stI h 45 3 (nI (i + 1))) K U n ord (i + 1) lv c := cs.to e1 (stI_s _ _ _ _) (by omega) ((ri_k (by decide)).trans cs.2.2.2.2.2.1) cs.2.2.2.2.2.2.1 ((ri_p (by decide)).trans cs.2.2.2.2.2.2.2.1) (by have := cs.2.2.2.2.2.2.2.2; omega)
      have q := RX.br (x := 93) cs (by decide) (sum_go cs.2.1 k (i + 1) lv (by omega)) e1 (fun j _ => ri_p (by decide)) (IH F (dp + 1) _ (i + 1) lv c (by omega) (by omega) cs1)
      have q2 : RX SumX h i lv c (brS K 93 (sumS K U ord k (i + 1) lv)) (f_X3_sumInBrackets S_1 (f_P S_1 F) 45 (nI dp) h) := by
        unfold f_X3_sumInBrackets
        rw [if_pos (show nI dp < (8 : Int32) by rw [show (8 : Int32) = nI 8 from rfl, nn_lt (by omega) (by decide)]; omega), bs_ (ck_45' h), bs_ (q_next3 cs.2.2.2.1)]
        dsimp only
        rw [bs_ (ck_45' _), nI_1]
        exact q
      show RX SumX h i lv c (brS K 93 (sumS K U ord k (i + 1) lv)) ((f_X3_sumInBrackets S_1 (f_P S_1 F) 45 (nI dp) h).bind _)
      revert q2
      rcases brS K 93 (sumS K U ord k (i + 1) lv) with j | ⟨i', lv', d⟩
      · rintro ⟨h', r, x⟩
        rw [bs_ r]
        exact ⟨h', rfl, x⟩
      · rintro ⟨h', c', r, x⟩
        rw [bs_ r]
        exact ⟨h', c', rfl, x⟩
    · rw [if_neg e]
      exact q_leaf cs _ _ e

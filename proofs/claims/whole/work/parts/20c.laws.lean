theorem q_holdsL {p n : Nat} {f : Nat → Cl} {k : Nat} (hk : k ≤ 2) (hz : ∀ c, c < n → (f c).2.1 = none → (f c).1 = 2) : ∀ (c fu : Nat) (h : AH), LawX h p n f → c ≤ n →
    ∃ h', Eqv P4 h h' ∧ match toldS f k (EV h) c with
      | some v => f_X4_holds_l7 S_1 (fu + c + 1) 32 p (nI (263 + k)) (nI c - 1) h = some (.inl 1, h') ∧ (k ≠ 2 → h'.2.1 32 2 = Int64.toInt32 v)
      | none => f_X4_holds_l7 S_1 (fu + c + 1) 32 p (nI (263 + k)) (nI c - 1) h = some (.inr (), h')
  | 0, fu, h, H, _ => by
    refine ⟨h, Eqv.refl h, ?_⟩
    show f_X4_holds_l7 S_1 (fu + 0 + 1) 32 p (nI (263 + k)) (nI 0 - 1) h = some (.inr (), h)
    rw [f_X4_holds_l7]
    unfold f_X4_holds_l7b
    rw [if_pos (by decide)]
  | c + 1, fu, h, H, hc => by
    obtain ⟨k1, k2, k3, qc, qh, len, k4, k5, k6, k7, k8, k9⟩ := id H
    obtain ⟨a1, a2, i, m, j, b1, b2, b3, b4, b5, b6, b7⟩ := k9 c (by omega)
    have next : ∀ h1, Eqv P4 h h1 → ∃ h', Eqv P4 h h' ∧ match toldS f k (EV h) c with
        | some v => lt (nI c + (-1 : Int32)) (fun y => f_X4_holds_l7 S_1 (fu + c + 1) 32 p (nI (263 + k)) y h1) = some (.inl 1, h') ∧ (k ≠ 2 → h'.2.1 32 2 = Int64.toInt32 v)
        | none => lt (nI c + (-1 : Int32)) (fun y => f_X4_holds_l7 S_1 (fu + c + 1) 32 p (nI (263 + k)) y h1) = some (.inr (), h') := fun h1 e1 => by
      obtain ⟨h', e2, r⟩ := q_holdsL hk hz c fu h1 (H.e4 e1) (by omega)
      rw [EV_4 e1] at r
      rw [← Int32.sub_eq_add_neg]
      exact ⟨h', e1.trans e2, r⟩
    rw [show fu + (c + 1) + 1 = (fu + c + 1) + 1 by omega, f_X4_holds_l7, nI_m1]
    unfold f_X4_holds_l7b
    rw [if_neg (show ¬ nI c < 0 by rw [z_lt (by omega)]; exact id), bs_ (show ckO S_1 h p 8 = some () by unfold ckO; rw [if_pos k2]), bs_ (show f_X8_head S_1 p (nI c) (0 : Int32) h = some (h.2.1 qh (6 * c + 0), h) from q_head (w := 0) h k2 k5 k8 (by omega) (by omega))]
    dsimp only
    rw [show 6 * c + 0 = 6 * c from rfl, a2]
    unfold toldS
    by_cases ek : (f c).1 = k
    · rw [if_pos ek, if_pos (show nI (263 + (f c).1) = nI (263 + k) by rw [ek]), bs_ (show ckO S_1 h p 8 = some () by unfold ckO; rw [if_pos k2]), bs_ (show f_X8_head S_1 p (nI c) (4 : Int32) h = some (h.2.1 qh (6 * c + 4), h) from q_head (w := 4) h k2 k5 k8 (by omega) (by omega))]
      dsimp only
      rw [bs_ (show ckO S_1 h p 8 = some () by unfold ckO; rw [if_pos k2]), bs_ (show f_X8_head S_1 p (nI c) (5 : Int32) h = some (h.2.1 qh (6 * c + 5), h) from q_head (w := 5) h k2 k5 k8 (by omega) (by omega))]
      dsimp only
      rw [b2, b3]
      have sumPart : ∀ h1, Eqv P4 h h1 → ((f c).2.2 = none ∨ ∃ t v, (f c).2.2 = some t ∧ t (EV h) = some v ∧ v ≠ 0) → ∃ h', Eqv P4 h h' ∧ match (match clV (f c) (EV h) with
            | some v => some v
            | none => toldS f k (EV h) c) with
          | some v => f_X4_holds_l7_j71 S_1 (f_X4_holds_l7 S_1 (fu + c + 1)) 32 p (nI (263 + k)) (nI c) (nI m) 1 h1 = some (.inl 1, h') ∧ (k ≠ 2 → h'.2.1 32 2 = Int64.toInt32 v)
          | none => f_X4_holds_l7_j71 S_1 (f_X4_holds_l7 S_1 (fu + c + 1)) 32 p (nI (263 + k)) (nI c) (nI m) 1 h1 = some (.inr (), h') := fun h1 e1 so => by
        rw [clV_so so]
        unfold f_X4_holds_l7_j71
        have kd : KD S_1 h1 p = some (0, 8) := (e1.kd p).trans k2
        rw [if_neg (by decide), bs_ ((e1.gr p 8 0).trans k4), bs_ (show ckO S_1 h1 p 8 = some () by unfold ckO; rw [if_pos kd]), bs_ (show f_X8_head S_1 p (nI c) (2 : Int32) h1 = some (h1.2.1 qh (6 * c + 2), h1) from q_head (w := 2) h1 kd ((e1.gr p 8 1).trans k5) ((e1.kd qh).trans k8) (by omega) (by omega))]
        dsimp only
        rw [(P4_q k8 e1 _).trans b1, bs_ (ck_32 h1)]
        cases es : (f c).2.1 with
        | none =>
          rw [es] at b6
          subst b6
          rw [bs_ (q_reckon0 h1 qc)]
          dsimp only
          rw [if_neg (by decide)]
          exact ⟨_, e1.si rfl, rfl, fun n2 => absurd (ek.symm.trans (hz c (by omega) es)) n2⟩
        | some s =>
          rw [es] at b6
          obtain ⟨L, hL, hs⟩ := b6
          obtain ⟨h', e2, r⟩ := q_reckon hs h1 ((e1.kd qc).trans k6) k7 b4 hL (fun t _ => P4_q k6 e1 t)
          rw [EV_4 e1] at r
          dsimp only
          cases ev : s (EV h) with
          | none =>
            rw [ev] at r
            rw [bs_ r]
            dsimp only
            rw [if_pos rfl]
            exact next h' (e1.trans e2)
          | some v =>
            rw [ev] at r
            rw [bs_ r.1]
            dsimp only
            rw [if_neg (by decide)]
            exact ⟨h', e1.trans e2, rfl, fun _ => r.2⟩
      cases et : (f c).2.2 with
      | none =>
        rw [et] at b7
        rw [if_pos (show nI j ≤ nI m by rw [nn_le (by omega) (by omega)]; exact b7)]
        exact sumPart h (Eqv.refl h) (Or.inl et)
      | some t =>
        rw [et] at b7
        obtain ⟨L, N, hL, ht⟩ := b7
        have hlt := ht.lt.1
        obtain ⟨h1, e1, r⟩ := q_reckon (Or.inr ⟨N, ht⟩) h k6 k7 b5 hL (fun t _ => rfl)
        rw [if_neg (show ¬ nI j ≤ nI m by rw [nn_le (by omega) (by omega)]; omega), bs_ k4, bs_ (ck_32 h)]
        have no : ∀ (hx : t (EV h) = none ∨ t (EV h) = some 0), ∃ h', Eqv P4 h h' ∧ match (match clV (f c) (EV h) with
            | some v => some v
            | none => toldS f k (EV h) c) with
          | some v => f_X4_holds_l7_j70 S_1 (f_X4_holds_l7 S_1 (fu + c + 1)) 32 p (nI (263 + k)) (nI c) (nI m) h1 = some (.inl 1, h') ∧ (k ≠ 2 → h'.2.1 32 2 = Int64.toInt32 v)
          | none => f_X4_holds_l7_j70 S_1 (f_X4_holds_l7 S_1 (fu + c + 1)) 32 p (nI (263 + k)) (nI c) (nI m) h1 = some (.inr (), h') := fun hx => by
          rw [clV_no ⟨t, et, hx⟩]
          unfold f_X4_holds_l7_j70 f_X4_holds_l7_j71
          rw [if_pos rfl]
          exact next h1 e1
        cases ev : t (EV h) with
        | none =>
          rw [ev] at r
          rw [bs_ r]
          dsimp only
          rw [if_pos rfl]
          exact no (Or.inl ev)
        | some v =>
          rw [ev] at r
          rw [bs_ r.1]
          dsimp only
          rw [if_neg (by decide), bs_ (yi_32 h1 2), r.2]
          rcases ht.d01 _ _ ev with rfl | rfl
          · rw [if_pos (by decide)]
            exact no (Or.inr ev)
          · rw [if_neg (by decide)]
            exact sumPart h1 e1 (Or.inr ⟨t, 1, et, ev, by decide⟩)
    · have ne : ¬ nI (263 + (f c).1) = nI (263 + k) := by
        rw [nn_eq (by omega) (by omega)]
        omega
      rw [if_neg ek, if_neg ne]
      exact next h (Eqv.refl h)

theorem x_max (x y : Int32) : mxI x y = if x < y then y else x := rfl
theorem q_tellBird (h : AH) {s : Nat} {r : Nat → Int32} (hs : s = 3 ∨ s = 25 ∨ s = 29 ∨ s = 39) (hS : StX h s r) (hR : RoX h 2 r) {b m : Nat} (hb : b < 7) (hm : m < 6) :
    ∃ h', Eqv P33 h h' ∧ f_X1_tellBird S_1 35 s (nI b) (nI m) h = some ((), h') ∧ ∀ k, k < 9 → EV h' k = evB r b m k := by
  obtain ⟨h', e1, r1, v1⟩ := q_tellLaw h hs hS hR (nI b) (r (10 + b)) (r (30 + 6 * b + m)) hm
  have f7 : h.2.1 7 (6 * b + m) = r (30 + 6 * b + m) := by
    rw [show 30 + 6 * b + m = 30 + (6 * b + m) by omega]
    exact hR.2.2.1 (6 * b + m) (by omega)
  refine ⟨h', e1, ?_, v1⟩
  unfold f_X1_tellBird
  rw [bs_ (sd_t h hs), bs_ (sd_a h hs hb), hS.1 b hb, bs_ (yr_35_0 h), bs_ (yr_2_3 h), show nI b * (6 : Int32) + nI m = nI (6 * b + m) by rw [show (6 : Int32) = nI 6 from rfl, pk_mul, nI_add, Nat.mul_comm], bs_ (ai_7 h (by omega)), f7, bs_ (ck_35 h), bs_ r1]

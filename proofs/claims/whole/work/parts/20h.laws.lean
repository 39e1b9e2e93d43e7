theorem told2 {f : Nat → Cl} {e : Nat → Int64} : ∀ {n : Nat} {v : Int64}, (∀ c, c < n → (f c).1 = 2 → (f c).2.1 = none) → toldS f 2 e n = some v → v = 1
  | 0, v, _, h => by cases h
  | n + 1, v, hn, h => by
    rw [toldS] at h
    by_cases ek : (f n).1 = 2
    · rw [if_pos ek] at h
      cases ev : clV (f n) e with
      | none =>
        rw [ev] at h
        exact told2 (fun c hc => hn c (by omega)) h
      | some x =>
        rw [ev] at h
        injection h with h
        rw [← h]
        exact clV_bars (hn n (by omega) ek) ev
    · rw [if_neg ek] at h
      exact told2 (fun c hc => hn c (by omega)) h
theorem InM.bars {h : AH} {n : Nat} {f : Nat → Cl} (H : InM h n f) : ∀ c, c < n → (f c).1 = 2 → (f c).2.1 = none := by
  intro c hc h2
  rcases H with ⟨-, rfl⟩ | ⟨i, -, -, k1, k2, k3, k4⟩
  · omega
  · obtain ⟨a1, a2, i, m, j, b1, b2, b3, b4, b5, b6, b7, b8⟩ := k4 c hc
    cases es : (f c).2.1 with
    | none => rfl
    | some s =>
      rw [es] at b7
      exact absurd h2 b7.1
def evB (r : Nat → Int32) (b m : Nat) : Nat → Int64 := evL r (nI b) (r (10 + b)) (r (30 + 6 * b + m)) m
def siS (r : Nat → Int32) (n : Nat) (f : Nat → Cl) (b m : Nat) : Bool := ! awS r b && (toldS f 2 (evB r b m) n).isNone
def bndI (v : Int64) (lo hi : Int32) : Int32 := if v < Int32.toInt64 lo then lo else if Int32.toInt64 hi < v then hi else Int64.toInt32 v
def swS (r : Nat → Int32) (n : Nat) (f : Nat → Cl) (b m : Nat) : Int32 := bndI ((toldS f 0 (evB r b m) n).getD (Int32.toInt64 (r (30 + 6 * b + m)))) 0 9
def ayS (r : Nat → Int32) (n : Nat) (f : Nat → Cl) (b m : Nat) : Bool := siS r n f b m && decide (5 ≤ swS r n f b m)
def taS (r : Nat → Int32) (n : Nat) (f : Nat → Cl) (m : Nat) : Int32 := bndI ((toldS f 1 (evL r (-1) (-1) (-1) m) n).getD (Int32.toInt64 (r (72 + m)))) 1 9
theorem m_sits {n : Nat} {f : Nat → Cl} {b m : Nat} (hb : b < 7) (hm : m < 6) (h : AH) (H : InM h n f) (h20 : h.2.1 80 20 = 0) : Qy PT h (f_X11_sits S_1 80 (nI b) (nI m) h) (bI (siS (h.2.1 82) n f b m)) := by
  unfold f_X11_sits siS
  rw [bs_ (ck_80 h), bs_ (m_away h hb)]
  dsimp only
  cases ea : awS (h.2.1 82) b with
  | true =>
    rw [if_neg (by decide)]
    exact Qy.ret (Eqv.refl h)
  | false =>
    rw [if_pos (show bI false = 0 from rfl), bs_ (ck_80 h)]
    obtain ⟨h', e1, r1⟩ := m_tellsB (k := 2) (by omega) hb hm h 0 H h20
    rw [bs_ (show f_X11_tells S_1 80 (2 : Int32) (nI b) (nI m) 0 h = _ from r1)]
    dsimp only
    have ee : evL (h.2.1 82) (nI b) (h.2.1 82 (10 + b)) (h.2.1 82 (30 + 6 * b + m)) m = evB (h.2.1 82) b m := rfl
    rw [ee]
    cases et : toldS f 2 (evB (h.2.1 82) b m) n with
    | none =>
      rw [if_pos (by rw [cmp_eq0]; rfl)]
      exact Qy.ret e1
    | some v =>
      rw [told2 H.bars et, if_neg (by rw [cmp_eq0]; decide)]
      exact Qy.ret e1
theorem m_swayOf {n : Nat} {f : Nat → Cl} {b m : Nat} (hb : b < 7) (hm : m < 6) (h : AH) (H : InM h n f) (h20 : h.2.1 80 20 = 0) : Qy PT h (f_X11_swayOf S_1 80 (nI b) (nI m) h) (swS (h.2.1 82) n f b m) := by
  unfold f_X11_swayOf
  obtain ⟨h', e1, r1⟩ := m_tellsB (k := 0) (by omega) hb hm h (Int32.toInt64 (h.2.1 82 (30 + 6 * b + m))) H h20
  rw [bs_ (yr_80_3 h), show (30 : Int32) + (6 : Int32) * nI b + nI m = nI (30 + 6 * b + m) by rw [show (6 : Int32) = nI 6 from rfl, show (30 : Int32) = nI 30 from rfl, pk_mul, nI_add, nI_add], bs_ (ai_82 h (by omega)), bs_ (ck_80 h), bs_ (show f_X11_tells S_1 80 (0 : Int32) (nI b) (nI m) _ h = _ from r1)]
  dsimp only
  rw [bs_ (x_bounded _ _ _ _ _)]
  exact Qy.ret e1
theorem m_takesOf {n : Nat} {f : Nat → Cl} {m : Nat} (hm : m < 6) (h : AH) (H : InM h n f) (h20 : h.2.1 80 20 = 0) : Qy PT h (f_X11_takesOf S_1 80 (nI m) h) (taS (h.2.1 82) n f m) := by
  unfold f_X11_takesOf
  obtain ⟨h', e1, r1⟩ := m_tellsN (k := 1) (by omega) hm h (Int32.toInt64 (h.2.1 82 (72 + m))) H h20
  rw [bs_ (yr_80_3 h), show (72 : Int32) + nI m = nI (72 + m) from nI_add 72 m, bs_ (ai_82 h (by omega)), bs_ (ck_80 h), bs_ (show f_X11_tells S_1 80 (1 : Int32) (-1 : Int32) (nI m) _ h = _ from r1)]
  dsimp only
  rw [bs_ (x_bounded _ _ _ _ _)]
  exact Qy.ret e1

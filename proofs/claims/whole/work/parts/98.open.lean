theorem law_fun (L : Nat) (hL : L ≤ 3072) (xs : Nat → Int32) : ok (f_L_law S_0 L xs h_0) (fun w _ => w = 1) := by
  sorry

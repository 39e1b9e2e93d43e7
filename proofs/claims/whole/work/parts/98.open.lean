theorem law_fun (L : Nat) (hL : L ≤ 3072) (xs : Nat → Int32) : ok (f_L_loop S_1 L xs 514 0 80 0 H_5) (fun z _ => z = .inr ()) := by
  sorry

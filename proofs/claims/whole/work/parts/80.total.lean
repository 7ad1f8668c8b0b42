theorem law_total (b : Nat) (xs : Nat → Int32) (L : Nat) (hL : L ≤ 2560) : L_law b xs L = some () := sorry

theorem law_ok (L : Nat) (xs : Nat → Int32) (hL : L ≤ 260) : f_law L xs = some (1 : Int32) := sorry

theorem op_union {z y : Int} (hz : -2147483648 ≤ z ∧ z < 2147483648) (hy : -2147483648 ≤ y ∧ y < 2147483648) : Op2 (f_X7_union 0 (I z) (I y)) (f_X8_union 139 (I z) (I y)) := by
  sorry

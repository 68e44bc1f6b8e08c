theorem mxN {n m : Nat} (hn : n ≤ 75) (hm : m ≤ 75) : ∃ N : Nat, (if I n < I m then I m else I n) = I N ∧ n ≤ N ∧ m ≤ N ∧ N ≤ 75 := by
  have e : (I n < I m) = ((n : Int) < m) := I_lt (by omega) (by omega) (by omega) (by omega)
  by_cases c : (n : Int) < m
  · exact ⟨m, if_pos (by rw [e]; exact c), by omega, by omega, by omega⟩
  · exact ⟨n, if_neg (by rw [e]; exact c), by omega, by omega, by omega⟩

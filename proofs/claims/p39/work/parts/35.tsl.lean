theorem tsum_len {s : Nat → Int} {W : Int} (hs : Gs s W) : tsum s (len s) = W := by
  have hl := len_b s
  have key : ∀ d, tsum s (len s + d) = tsum s (len s) := fun d => by
    induction d with
    | zero => rfl
    | succ d ih =>
      show tsum s (len s + d) + s (len s + d) = _
      rw [ih, len_z hs (by omega)]
      omega
  rw [← key (75 - len s), show len s + (75 - len s) = 75 by omega]
  exact hs.2.2.2

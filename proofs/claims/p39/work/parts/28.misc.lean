theorem if_or {P Q : Prop} [Decidable P] [Decidable Q] {α : Type} {A B : α} (h : P ∨ Q) : (if P then A else if Q then A else B) = A := by
  by_cases c : P
  · rw [if_pos c]
  · rw [if_neg c, if_pos (by cases h with | inl h => exact absurd h c | inr h => exact h)]

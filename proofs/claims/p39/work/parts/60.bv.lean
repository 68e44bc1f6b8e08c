/-! best rows over any weights that are not below 0 -/
theorem bv_0 {st : Bool} {V : Nat → Nat → Int} (hV : ∀ x y, 0 ≤ V x y) : ∀ x y, 0 ≤ BR st V x y := by
  intro x
  induction x with
  | zero => exact fun y => Int.le_refl _
  | succ x ih =>
    intro y
    induction y with
    | zero => exact Int.le_refl _
    | succ y ihy =>
      have h2 := BR_s st V x y
      have v := hV x y
      have i1 := ih (y + 1)
      have m1 := mx_b (BR st V x (y + 1)) (BR st V (x + 1) y)
      have m2 := mx_b (mx (BR st V x (y + 1)) (BR st V (x + 1) y)) (BR st V x y + V x y)
      cases st
      · rw [if_neg (by decide)] at h2
        omega
      · rw [if_pos rfl] at h2
        omega
theorem bv_m {st : Bool} {V : Nat → Nat → Int} (hV : ∀ x y, 0 ≤ V x y) (x y : Nat) : BR st V x (y + 1) ≤ BR st V (x + 1) (y + 1) ∧ BR st V (x + 1) y ≤ BR st V (x + 1) (y + 1) := by
  have h2 := BR_s st V x y
  have v := hV x y
  have m1 := mx_b (BR st V x (y + 1)) (BR st V (x + 1) y)
  have m2 := mx_b (mx (BR st V x (y + 1)) (BR st V (x + 1) y)) (BR st V x y + V x y)
  cases st
  · rw [if_neg (by decide)] at h2
    omega
  · rw [if_pos rfl] at h2
    omega
theorem bv_mx {st : Bool} {V : Nat → Nat → Int} (hV : ∀ x y, 0 ≤ V x y) (x y : Nat) : ∀ d, BR st V x y ≤ BR st V (x + d) y
  | 0 => Int.le_refl _
  | d + 1 => by
    have h1 := bv_mx (st := st) hV x y d
    cases y with
    | zero => rw [BR_y0, BR_y0]; exact Int.le_refl _
    | succ y => exact Int.le_trans h1 (bv_m hV (x + d) y).1
theorem bv_my {st : Bool} {V : Nat → Nat → Int} (hV : ∀ x y, 0 ≤ V x y) (x y : Nat) : ∀ d, BR st V x y ≤ BR st V x (y + d)
  | 0 => Int.le_refl _
  | d + 1 => by
    have h1 := bv_my (st := st) hV x y d
    cases x with
    | zero => exact Int.le_refl _
    | succ x => exact Int.le_trans h1 (bv_m hV x (y + d)).2
theorem bv_mm {st : Bool} {V : Nat → Nat → Int} (hV : ∀ x y, 0 ≤ V x y) {a b x y : Nat} (h1 : a ≤ x) (h2 : b ≤ y) : BR st V a b ≤ BR st V x y := by
  have e1 := bv_mx (st := st) hV a b (x - a)
  have e2 := bv_my (st := st) hV (a + (x - a)) b (y - b)
  rw [show a + (x - a) = x by omega, show b + (y - b) = y by omega] at e2
  rw [show a + (x - a) = x by omega] at e1
  exact Int.le_trans e1 e2
/-- where a best row ends, that isn't empty -/
theorem bv_t {V : Nat → Nat → Int} (hV : ∀ x y, 0 ≤ V x y) : ∀ x y, BR true V x y = 0 ∨ ∃ a b, a < x ∧ b < y ∧ 0 < V a b ∧ BR true V x y = BR true V a b + V a b := by
  intro x
  induction x with
  | zero => exact fun y => Or.inl rfl
  | succ x ih =>
    intro y
    induction y with
    | zero => exact Or.inl rfl
    | succ y ihy =>
      have h2 := BR_s true V x y
      rw [if_pos rfl] at h2
      have v := hV x y
      have i1 := bv_my (st := true) hV x y 1
      have m1 := mx_b (BR true V x (y + 1)) (BR true V (x + 1) y)
      have m2 := mx_b (mx (BR true V x (y + 1)) (BR true V (x + 1) y)) (BR true V x y + V x y)
      rcases (show BR true V (x + 1) (y + 1) = BR true V x (y + 1) ∨ BR true V (x + 1) (y + 1) = BR true V (x + 1) y ∨ (0 < V x y ∧ BR true V (x + 1) (y + 1) = BR true V x y + V x y) by omega) with e | e | ⟨e1, e2⟩
      · rw [e]
        obtain h | ⟨a, b, q1, q2, q3, q4⟩ := ih (y + 1)
        · exact Or.inl h
        · exact Or.inr ⟨a, b, by omega, q2, q3, q4⟩
      · rw [e]
        obtain h | ⟨a, b, q1, q2, q3, q4⟩ := ihy
        · exact Or.inl h
        · exact Or.inr ⟨a, b, q1, by omega, q3, q4⟩
      · exact Or.inr ⟨x, y, by omega, by omega, e1, e2⟩
theorem bv_f {V : Nat → Nat → Int} (hV : ∀ x y, 0 ≤ V x y) : ∀ x y, BR false V x y = 0 ∨ ∃ a b, a < x ∧ b < y ∧ 0 < V a b ∧ BR false V x y = BR false V (a + 1) (b + 1) := by
  intro x
  induction x with
  | zero => exact fun y => Or.inl rfl
  | succ x ih =>
    intro y
    induction y with
    | zero => exact Or.inl rfl
    | succ y ihy =>
      have h2 := BR_s false V x y
      rw [if_neg (by decide)] at h2
      have v := hV x y
      have m1 := mx_b (BR false V x (y + 1)) (BR false V (x + 1) y)
      rcases (show 0 < V x y ∨ BR false V (x + 1) (y + 1) = BR false V x (y + 1) ∨ BR false V (x + 1) (y + 1) = BR false V (x + 1) y by omega) with e | e | e
      · exact Or.inr ⟨x, y, by omega, by omega, e, rfl⟩
      · rw [e]
        obtain h | ⟨a, b, q1, q2, q3, q4⟩ := ih (y + 1)
        · exact Or.inl h
        · exact Or.inr ⟨a, b, by omega, q2, q3, q4⟩
      · rw [e]
        obtain h | ⟨a, b, q1, q2, q3, q4⟩ := ihy
        · exact Or.inl h
        · exact Or.inr ⟨a, b, q1, by omega, q3, q4⟩
theorem bf_x {V : Nat → Nat → Int} (x y : Nat) : BR false V x (y + 1) + V x y ≤ BR false V (x + 1) (y + 1) ∧ BR false V (x + 1) y + V x y ≤ BR false V (x + 1) (y + 1) ∧ (BR false V (x + 1) (y + 1) = BR false V x (y + 1) + V x y ∨ BR false V (x + 1) (y + 1) = BR false V (x + 1) y + V x y) := by
  have h2 := BR_s false V x y
  rw [if_neg (by decide)] at h2
  have m1 := mx_b (BR false V x (y + 1)) (BR false V (x + 1) y)
  omega
/-- chains, the last cell first -/
def hCh (S : Nat → Nat → Prop) : Nat → Nat → Nat → Prop
  | 0, _, _ => True
  | n + 1, X, Y => ∃ a b, a < X ∧ b < Y ∧ S a b ∧ hCh S n a b
theorem hCh_m {S : Nat → Nat → Prop} {n X Y X' Y' : Nat} (h : hCh S n X Y) (h1 : X ≤ X') (h2 : Y ≤ Y') : hCh S n X' Y' := by
  cases n with
  | zero => trivial
  | succ n =>
    obtain ⟨a, b, q1, q2, q3, q4⟩ := h
    exact ⟨a, b, by omega, by omega, q3, q4⟩
theorem hCh_b {V : Nat → Nat → Int} (hV : ∀ x y, V x y = 0 ∨ V x y = 1) : ∀ n X Y, hCh (fun a b => V a b = 1) n X Y ↔ (n : Int) ≤ BR true V X Y := by
  have h0 : ∀ x y, 0 ≤ V x y := fun x y => by have := hV x y; omega
  intro n
  induction n with
  | zero => exact fun X Y => ⟨fun _ => bv_0 h0 X Y, fun _ => trivial⟩
  | succ n ih =>
    intro X Y
    constructor
    · rintro ⟨a, b, q1, q2, q3, q4⟩
      have e1 := (ih a b).1 q4
      have h2 := BR_s true V a b
      rw [if_pos rfl] at h2
      have m2 := mx_b (mx (BR true V a (b + 1)) (BR true V (a + 1) b)) (BR true V a b + V a b)
      have e2 := bv_mm (st := true) h0 (show a + 1 ≤ X by omega) (show b + 1 ≤ Y by omega)
      have q3 : V a b = 1 := q3
      omega
    · intro h
      obtain e | ⟨a, b, q1, q2, q3, q4⟩ := bv_t h0 X Y
      · omega
      · have q5 : V a b = 1 := by have := hV a b; omega
        exact ⟨a, b, q1, q2, q5, (ih a b).2 (by omega)⟩

/-! longest: the best rows -/
def brow (st : Bool) (V prev : Nat → Int) : Nat → Int
  | 0 => 0
  | y + 1 => if st = true then mx (mx (prev (y + 1)) (brow st V prev y)) (prev y + V y) else mx (prev (y + 1)) (brow st V prev y) + V y
def BR (st : Bool) (V : Nat → Nat → Int) : Nat → Nat → Int
  | 0 => fun _ => 0
  | x + 1 => brow st (V x) (BR st V x)
theorem BR_y0 (st : Bool) (V : Nat → Nat → Int) : ∀ x, BR st V x 0 = 0
  | 0 => rfl
  | _ + 1 => rfl
theorem BR_s (st : Bool) (V : Nat → Nat → Int) (x y : Nat) : BR st V (x + 1) (y + 1) = if st = true then mx (mx (BR st V x (y + 1)) (BR st V (x + 1) y)) (BR st V x y + V x y) else mx (BR st V x (y + 1)) (BR st V (x + 1) y) + V x y := rfl
theorem mx_b (a b : Int) : a ≤ mx a b ∧ b ≤ mx a b ∧ (mx a b = a ∨ mx a b = b) := by
  unfold mx
  split <;> omega
theorem BR_b {st : Bool} {V : Nat → Nat → Int} (hV : ∀ x y, 0 ≤ V x y ∧ V x y ≤ 3) : ∀ x y, 0 ≤ BR st V x y ∧ BR st V x y ≤ 3 * ((x : Int) + y) := by
  intro x
  induction x with
  | zero =>
    intro y
    have h0 : BR st V 0 y = 0 := rfl
    omega
  | succ x ih =>
    intro y
    induction y with
    | zero =>
      have h0 : BR st V (x + 1) 0 = 0 := rfl
      omega
    | succ y ihy =>
      have h2 := BR_s st V x y
      have v := hV x y
      have i1 := ih (y + 1)
      have i2 := ih y
      have m1 := mx_b (BR st V x (y + 1)) (BR st V (x + 1) y)
      have m2 := mx_b (mx (BR st V x (y + 1)) (BR st V (x + 1) y)) (BR st V x y + V x y)
      cases st
      · rw [if_neg (by decide)] at h2
        omega
      · rw [if_pos rfl] at h2
        omega
theorem BR_m {st : Bool} {V : Nat → Nat → Int} (hV : ∀ x y, 0 ≤ V x y ∧ V x y ≤ 3) (x y : Nat) : BR st V x (y + 1) ≤ BR st V (x + 1) (y + 1) ∧ BR st V (x + 1) y ≤ BR st V (x + 1) (y + 1) := by
  have h2 := BR_s st V x y
  have v := hV x y
  have m1 := mx_b (BR st V x (y + 1)) (BR st V (x + 1) y)
  have m2 := mx_b (mx (BR st V x (y + 1)) (BR st V (x + 1) y)) (BR st V x y + V x y)
  cases st
  · rw [if_neg (by decide)] at h2
    omega
  · rw [if_pos rfl] at h2
    omega
theorem BR_mx {st : Bool} {V : Nat → Nat → Int} (hV : ∀ x y, 0 ≤ V x y ∧ V x y ≤ 3) (x y : Nat) : ∀ d, BR st V x y ≤ BR st V (x + d) y
  | 0 => Int.le_refl _
  | d + 1 => by
    have h1 := BR_mx (st := st) hV x y d
    cases y with
    | zero => rw [BR_y0, BR_y0]; exact Int.le_refl _
    | succ y => exact Int.le_trans h1 (BR_m hV (x + d) y).1
theorem BR_my {st : Bool} {V : Nat → Nat → Int} (hV : ∀ x y, 0 ≤ V x y ∧ V x y ≤ 3) (x y : Nat) : ∀ d, BR st V x y ≤ BR st V x (y + d)
  | 0 => Int.le_refl _
  | d + 1 => by
    have h1 := BR_my (st := st) hV x y d
    cases x with
    | zero => exact Int.le_refl _
    | succ x => exact Int.le_trans h1 (BR_m hV x (y + d)).2
theorem BR_mm {st : Bool} {V : Nat → Nat → Int} (hV : ∀ x y, 0 ≤ V x y ∧ V x y ≤ 3) {a b x y : Nat} (h1 : a ≤ x) (h2 : b ≤ y) : BR st V a b ≤ BR st V x y := by
  have e1 := BR_mx (st := st) hV a b (x - a)
  have e2 := BR_my (st := st) hV (a + (x - a)) b (y - b)
  rw [show a + (x - a) = x by omega, show b + (y - b) = y by omega] at e2
  rw [show a + (x - a) = x by omega] at e1
  exact Int.le_trans e1 e2
/-- the best row that ends at a cell -/
def Sx (st : Bool) (V : Nat → Nat → Int) (x k : Nat) : Int := if st = true then BR st V x k + V x k else BR st V (x + 1) (k + 1)
theorem Sx_b {st : Bool} {V : Nat → Nat → Int} (hV : ∀ x y, 0 ≤ V x y ∧ V x y ≤ 3) (x k : Nat) : 0 ≤ Sx st V x k ∧ Sx st V x k ≤ BR st V (x + 1) (k + 1) := by
  have h2 := BR_s st V x k
  have v := hV x k
  have i1 := BR_b (st := st) hV x k
  have i2 := BR_b (st := st) hV (x + 1) (k + 1)
  have m2 := mx_b (mx (BR st V x (k + 1)) (BR st V (x + 1) k)) (BR st V x k + V x k)
  unfold Sx
  cases st
  · rw [if_neg (by decide)]
    omega
  · rw [if_pos rfl] at h2 ⊢
    omega
def IsMx (S : Nat → Nat → Int) (P : Nat → Nat → Prop) (m : Int) : Prop := 0 ≤ m ∧ (∀ a b, P a b → S a b ≤ m) ∧ (m = 0 ∨ ∃ a b, P a b ∧ S a b = m)
theorem IsMx_u {S : Nat → Nat → Int} {P : Nat → Nat → Prop} {m m' : Int} (h : IsMx S P m) (h' : IsMx S P m') : m = m' := by
  obtain ⟨h0, h1, h2⟩ := h
  obtain ⟨g0, g1, g2⟩ := h'
  obtain h2 | ⟨a, b, h2, h3⟩ := h2
  · obtain g2 | ⟨c, d, g2, g3⟩ := g2
    · omega
    · have := h1 c d g2; omega
  · have e1 := g1 a b h2
    obtain g2 | ⟨c, d, g2, g3⟩ := g2
    · omega
    · have := h1 c d g2; omega
theorem IsMx_c {S : Nat → Nat → Int} {P P' : Nat → Nat → Prop} {m : Int} (h : IsMx S P m) (e : ∀ a b, P' a b ↔ P a b) : IsMx S P' m :=
  ⟨h.1, fun a b q => h.2.1 a b ((e a b).1 q), h.2.2.elim Or.inl (fun ⟨a, b, q, r⟩ => Or.inr ⟨a, b, (e a b).2 q, r⟩)⟩
theorem IsMx_a {S : Nat → Nat → Int} {P P' : Nat → Nat → Prop} {m : Int} (h : IsMx S P m) (a0 b0 : Nat) (e : ∀ a b, P' a b ↔ P a b ∨ (a = a0 ∧ b = b0)) : IsMx S P' (if S a0 b0 ≤ m then m else S a0 b0) := by
  obtain ⟨h0, h1, h2⟩ := h
  by_cases c : S a0 b0 ≤ m
  · rw [if_pos c]
    refine ⟨h0, fun a b q => ?_, h2.elim Or.inl (fun ⟨a, b, q, r⟩ => Or.inr ⟨a, b, (e a b).2 (Or.inl q), r⟩)⟩
    obtain q | ⟨rfl, rfl⟩ := (e a b).1 q
    · exact h1 a b q
    · exact c
  · rw [if_neg c]
    refine ⟨by omega, fun a b q => ?_, Or.inr ⟨a0, b0, (e a0 b0).2 (Or.inr ⟨rfl, rfl⟩), rfl⟩⟩
    obtain q | ⟨rfl, rfl⟩ := (e a b).1 q
    · have := h1 a b q; omega
    · exact Int.le_refl _
theorem BR_is {st : Bool} {V : Nat → Nat → Int} (hV : ∀ x y, 0 ≤ V x y ∧ V x y ≤ 3) : ∀ x y, IsMx (Sx st V) (fun a b => a < x ∧ b < y) (BR st V x y) := by
  intro x
  induction x with
  | zero => exact fun y => ⟨Int.le_refl _, fun a b h => absurd h.1 (by omega), Or.inl rfl⟩
  | succ x ih =>
    intro y
    induction y with
    | zero => exact ⟨Int.le_refl _, fun a b h => absurd h.2 (by omega), Or.inl rfl⟩
    | succ y ihy =>
      refine ⟨(BR_b hV _ _).1, fun a b h => Int.le_trans (Sx_b hV a b).2 (BR_mm hV (by omega) (by omega)), ?_⟩
      have h2 := BR_s st V x y
      have m1 := mx_b (BR st V x (y + 1)) (BR st V (x + 1) y)
      have up : ∀ z, BR st V (x + 1) (y + 1) = z → (z = BR st V x (y + 1) ∨ z = BR st V (x + 1) y ∨ z = Sx st V x y) → (BR st V (x + 1) (y + 1) = 0 ∨ ∃ a b, (a < x + 1 ∧ b < y + 1) ∧ Sx st V a b = BR st V (x + 1) (y + 1)) := fun z hz h => by
        rw [hz]
        obtain h | h | h := h
        · obtain q | ⟨a, b, q, r⟩ := (ih (y + 1)).2.2
          · exact Or.inl (h.trans q)
          · exact Or.inr ⟨a, b, ⟨by omega, by omega⟩, r.trans h.symm⟩
        · obtain q | ⟨a, b, q, r⟩ := ihy.2.2
          · exact Or.inl (h.trans q)
          · exact Or.inr ⟨a, b, ⟨by omega, by omega⟩, r.trans h.symm⟩
        · exact Or.inr ⟨x, y, ⟨by omega, by omega⟩, h.symm⟩
      cases st
      · exact up _ rfl (Or.inr (Or.inr (by unfold Sx; rw [if_neg (by decide)])))
      · have m2 := mx_b (mx (BR true V x (y + 1)) (BR true V (x + 1) y)) (BR true V x y + V x y)
        rw [if_pos rfl] at h2
        have es : Sx true V x y = BR true V x y + V x y := if_pos rfl
        exact up _ rfl (by omega)
def pv (st : Bool) (x k a b : Nat) : Prop := if st = true then a < x ∧ b < k else (a ≤ x ∧ b ≤ k ∧ ¬ (a = x ∧ b = k))
def pm (st : Bool) (V : Nat → Nat → Int) (x k : Nat) : Int := if st = true then BR st V x k else mx (BR st V x (k + 1)) (BR st V (x + 1) k)
theorem pm_S (st : Bool) (V : Nat → Nat → Int) (x k : Nat) : Sx st V x k = pm st V x k + V x k := by
  have h2 := BR_s st V x k
  unfold Sx pm
  cases st
  · rw [if_neg (by decide)] at h2 ⊢
    rw [if_neg (by decide)]
    exact h2
  · rw [if_pos rfl, if_pos rfl]
theorem pm_is {st : Bool} {V : Nat → Nat → Int} (hV : ∀ x y, 0 ≤ V x y ∧ V x y ≤ 3) (x k : Nat) : IsMx (Sx st V) (pv st x k) (pm st V x k) := by
  unfold pm
  cases st
  · rw [if_neg (by decide)]
    have i1 := BR_is (st := false) hV x (k + 1)
    have i2 := BR_is (st := false) hV (x + 1) k
    have m1 := mx_b (BR false V x (k + 1)) (BR false V (x + 1) k)
    have e : ∀ a b, pv false x k a b ↔ ((a < x ∧ b < k + 1) ∨ (a < x + 1 ∧ b < k)) := fun a b => by
      unfold pv
      rw [if_neg (by decide)]
      omega
    refine ⟨by have := i1.1; omega, fun a b h => ?_, ?_⟩
    · obtain h | h := (e a b).1 h
      · have := i1.2.1 a b h; omega
      · have := i2.2.1 a b h; omega
    · obtain m | m := m1.2.2
      · rw [m]
        obtain q | ⟨a, b, q, r⟩ := i1.2.2
        · exact Or.inl q
        · exact Or.inr ⟨a, b, (e a b).2 (Or.inl q), r⟩
      · rw [m]
        obtain q | ⟨a, b, q, r⟩ := i2.2.2
        · exact Or.inl q
        · exact Or.inr ⟨a, b, (e a b).2 (Or.inr q), r⟩
  · rw [if_pos rfl]
    exact IsMx_c (BR_is hV x k) (fun a b => by unfold pv; rw [if_pos rfl])


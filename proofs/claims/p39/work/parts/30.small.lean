/-! the order of corners; what always holds between calls -/
/-- s stands before t, by shape -/
def big (s t : Nat → Int) : Prop := tsum t 75 < tsum s 75 ∨ (tsum s 75 = tsum t 75 ∧ ∃ k, t k < s k ∧ ∀ j, j < k → s j = t j)
def alike (s t : Nat → Int) : Prop := ∀ k, s k = t k
def nR (g : Gd) : Nat := (g 1).toNat + 1
def nc (g : Gd) : Nat := ((g 0).toNat + 1) * nR g
def sh (g : Gd) (i : Nat) : Nat → Int := Sg g (i / nR g) (i % nR g)
def cod (g : Gd) (i : Nat) : Int := 10 * ((i / nR g : Nat) : Int) + ((i % nR g : Nat) : Int)
def bef (g : Gd) (i j : Nat) : Prop := big (sh g i) (sh g j) ∨ (alike (sh g i) (sh g j) ∧ i < j)
noncomputable def nb (P : Nat → Prop) : Nat → Nat
  | 0 => 0
  | n + 1 => nb P n + @ite Nat (P n) (Classical.propDecidable (P n)) 1 0
noncomputable def rk (g : Gd) (m i : Nat) : Nat := nb (fun k => bef g k i) m
def Rs (w : Wd) : Prop := (∀ y, y < 6 → w.1 86 y = I 0) ∧ ∀ x, x < 6 → w.1 (86 + x) 0 = I 0
theorem Rs.of {w w' : Wd} (H : Rs w) (f : ∀ a b, (86 ≤ a ∧ a < 92) → w'.1 a b = w.1 a b) : Rs w' := ⟨fun y hy => (f _ _ (by omega)).trans (H.1 y hy), fun x hx => (f _ _ (by omega)).trans (H.2 x hx)⟩
theorem pshG_V {p : Nat} {G : Nat → Gd} {g : Gd} (h : ∀ k, GV (G k)) (hg : GV g) : ∀ k, GV (pshG p G g k) := fun k => by
  unfold pshG
  split
  · show GV (if k = p then g else G k)
    split
    · exact hg
    · exact h k
  · show GV (if k = 7 then g else G (k + 1))
    split
    · exact hg
    · exact h _
theorem n10 : ¬ (I 1 = 0) := by decide
theorem z00 : I 0 = 0 := rfl
/-! small checks -/
theorem zb_c {c : Prop} [Decidable c] {z : Int} (h : z = if c then 1 else 0) : zb (I z) (some (I z)) = some (I (if c then 1 else 0)) := by
  rw [h, zb_i]
theorem s_isSide {z : Int} (h : -2147483648 ≤ z ∧ z < 2147483648) : f_X7_isSide (I z) = some (I (if 1 ≤ z ∧ z ≤ 5 then 1 else 0)) := by
  unfold f_X7_isSide
  simp (disch := omega) only [lt_d, i0, i1, i2, i3, i4, i5, i6, i7, i8, i9, i10, i12, i14, i20, i25, i26, i28, i30, i36, i48, i49, i50, i53, i57, i59, i60, i63, i75, i80, i99, i100, i196, i255, i1000, im1, im2, im3, im5, im6, im11, im12, im13, im14, im1000, I_lt, I_le, I_eq, I_ite]
  exact zb_c (by (repeat' split) <;> omega)
theorem s_isNumber {z : Int} (h : -2147483648 ≤ z ∧ z < 2147483648) : f_X7_isNumber (I z) = some (I (if 0 ≤ z ∧ z ≤ 3 then 1 else 0)) := by
  unfold f_X7_isNumber
  simp (disch := omega) only [lt_d, i0, i1, i2, i3, i4, i5, i6, i7, i8, i9, i10, i12, i14, i20, i25, i26, i28, i30, i36, i48, i49, i50, i53, i57, i59, i60, i63, i75, i80, i99, i100, i196, i255, i1000, im1, im2, im3, im5, im6, im11, im12, im13, im14, im1000, I_lt, I_le, I_eq, I_ite]
  exact zb_c (by (repeat' split) <;> omega)
theorem s_isRule {z : Int} (h : -2147483648 ≤ z ∧ z < 2147483648) : f_X7_isRule (I z) = some (I (if 0 ≤ z ∧ z ≤ 3 then 1 else 0)) := by
  unfold f_X7_isRule
  simp (disch := omega) only [lt_d, i0, i1, i2, i3, i4, i5, i6, i7, i8, i9, i10, i12, i14, i20, i25, i26, i28, i30, i36, i48, i49, i50, i53, i57, i59, i60, i63, i75, i80, i99, i100, i196, i255, i1000, im1, im2, im3, im5, im6, im11, im12, im13, im14, im1000, I_lt, I_le, I_eq, I_ite]
  exact zb_c (by (repeat' split) <;> omega)
theorem s_isPlace {z : Int} (h : -2147483648 ≤ z ∧ z < 2147483648) : f_X7_isPlace (I z) = some (I (if 0 ≤ z ∧ z ≤ 99 then 1 else 0)) := by
  unfold f_X7_isPlace
  simp (disch := omega) only [lt_d, i0, i1, i2, i3, i4, i5, i6, i7, i8, i9, i10, i12, i14, i20, i25, i26, i28, i30, i36, i48, i49, i50, i53, i57, i59, i60, i63, i75, i80, i99, i100, i196, i255, i1000, im1, im2, im3, im5, im6, im11, im12, im13, im14, im1000, I_lt, I_le, I_eq, I_ite]
  exact zb_c (by (repeat' split) <;> omega)

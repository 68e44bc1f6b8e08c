/-! the order of corners; what always holds between calls -/
/-- s stands before t, by shape -/
def big (s t : Nat → Int) : Prop := tsum t 75 < tsum s 75 ∨ (tsum s 75 = tsum t 75 ∧ ∃ k, t k < s k ∧ ∀ j, j < k → s j = t j)
def alike (s t : Nat → Int) : Prop := ∀ k, s k = t k
def nR (g : Gd) : Nat := (g 1).toNat + 1
def nc (g : Gd) : Nat := ((g 0).toNat + 1) * nR g
def sh (g : Gd) (i : Nat) : Nat → Int := Sg g (i / nR g) (i % nR g)
def cod (g : Gd) (i : Nat) : Int := 10 * ((i / nR g : Nat) : Int) + ((i % nR g : Nat) : Int)
def bef (g : Gd) (i j : Nat) : Prop := big (sh g i) (sh g j) ∨ (alike (sh g i) (sh g j) ∧ i < j)
noncomputable def nb (P : Nat → Prop) : Nat → Nat
  | 0 => 0
  | n + 1 => nb P n + @ite Nat (P n) (Classical.propDecidable (P n)) 1 0
noncomputable def rk (g : Gd) (m i : Nat) : Nat := nb (fun k => bef g k i) m
def OrM (w : Wd) (g : Gd) (m : Nat) : Prop := w.1 7 5 = I m ∧ ∃ σ : Nat → Nat, ∀ j, j < m → σ j < m ∧ rk g m (σ j) = j ∧ w.1 83 j = I (cod g (σ j))
def OrC (w : Wd) (g : Gd) : Prop := OrM w g (nc g)
def Rg (w : Wd) (g : Gd) : Prop := GV g ∧ CG w 1 g ∧ MG w g
def Rc (w : Wd) (g : Gd) : Prop := w.1 0 5 = I 0 ∨ (w.1 0 5 = I 1 ∧ GrC w g ∧ (w.1 7 5 = I 0 ∨ OrC w g))
def Rd (w : Wd) (g : Gd) (p u : Nat) (G : Nat → Gd) : Prop := (∀ k, GV (G k)) ∧ (0 < u → G p = g) ∧ p + u ≤ 8 ∧ DC w p u G ∧ DM w p u G
def Ri (w : Wd) : Prop := (w.1 0 3 = I 0 ∧ w.1 139 19 = I 0) ∨ (w.1 0 3 = I 1 ∧ w.1 139 19 = I 1 ∧ ∃ f, GV f ∧ CG w 5 f ∧ ∀ j, j < 28 → w.1 152 j = I (f j))
def Rt (w : Wd) : Prop := ∃ (T : Nat) (s : Nat → Int), T ≤ 60 ∧ w.1 112 1 = I T ∧ w.1 139 14 = I T ∧ ∀ j, j < T → (0 ≤ s j ∧ s j ≤ 255) ∧ w.1 113 j = I (s j) ∧ w.1 148 j = I (s j)
def Hd (w : Wd) (h : Nat) : Prop := (w.1 (115 + 4 * h) 0 = I 0 ∧ w.1 149 h = I 0) ∨
  (∃ s W, Gs s W ∧ W ≤ 75 ∧ ShC w (116 + 4 * h) s ∧ w.1 (115 + 4 * h) 0 = I (if 1 < len s then 2 else 1) ∧ w.1 149 h = I 1 ∧ ∀ k, k < 80 → w.1 151 (80 * h + k) = I (s k)) ∨
  (∃ n : Nat, n ≤ 30 ∧ w.1 (115 + 4 * h) 0 = I 3 ∧ w.1 149 h = I 2 ∧ w.1 (115 + 4 * h) 3 = I n ∧ w.1 150 h = I n ∧ ∀ k, k < 80 → w.1 151 (80 * h + k) = if k < n then w.1 (118 + 4 * h) k else I 0)
def Rh (w : Wd) : Prop := ∀ h, h < 6 → Hd w h
def Rs (w : Wd) : Prop := (∀ y, y < 6 → w.1 86 y = I 0) ∧ ∀ x, x < 6 → w.1 (86 + x) 0 = I 0
def Ig (w : Wd) (g : Gd) (p u : Nat) (G : Nat → Gd) : Prop := Wi w.2 ∧ Rg w g ∧ Rc w g ∧ Rd w g p u G ∧ Ri w ∧ Rt w ∧ Rh w ∧ Rs w
def In (w : Wd) : Prop := ∃ g p u G, Ig w g p u G
theorem Rg.of {w w' : Wd} {g : Gd} (h : Rg w g) (f : ∀ a b, (a = 1 ∨ a = 2 ∨ (a = 139 ∧ b < 3) ∨ a = 140) → w'.1 a b = w.1 a b) : Rg w' g :=
  ⟨h.1, h.2.1.of (fun b => f _ _ (by omega)) (fun b => f _ _ (by omega)), h.2.2.of (fun b hb => f _ _ (by omega)) (fun b => f _ _ (by omega))⟩
theorem OrM.of {w w' : Wd} {g : Gd} {m : Nat} (h : OrM w g m) (f : ∀ a b, (a = 7 ∧ b = 5) ∨ a = 83 → w'.1 a b = w.1 a b) : OrM w' g m := by
  obtain ⟨h1, σ, h2⟩ := h
  exact ⟨(f _ _ (by omega)).trans h1, σ, fun j hj => ⟨(h2 j hj).1, (h2 j hj).2.1, (f _ _ (by omega)).trans (h2 j hj).2.2⟩⟩
theorem Rc.of {w w' : Wd} {g : Gd} (hv : GV g) (h : Rc w g) (f : ∀ a b, ((a = 0 ∧ b = 5) ∨ (7 ≤ a ∧ a < 84)) → w'.1 a b = w.1 a b) : Rc w' g := by
  obtain h | ⟨h1, h2, h3⟩ := h
  · exact Or.inl ((f _ _ (by omega)).trans h)
  · refine Or.inr ⟨(f _ _ (by omega)).trans h1, h2.of hv (fun b _ => f _ _ (by omega)) (fun a b _ _ _ => f _ _ (by omega)), ?_⟩
    obtain h3 | h3 := h3
    · exact Or.inl ((f _ _ (by omega)).trans h3)
    · exact Or.inr (OrM.of h3 (fun a b h => f _ _ (by omega)))
theorem Rd.of {w w' : Wd} {g : Gd} {p u : Nat} {G : Nat → Gd} (h : Rd w g p u G) (f : ∀ a b, (a = 92 ∨ (94 ≤ a ∧ a < 112) ∨ (a = 139 ∧ 6 ≤ b ∧ b < 8) ∨ a = 141 ∨ a = 142) → w'.1 a b = w.1 a b) (f2 : ∀ b, w'.2 93 b = w.2 93 b) : Rd w' g p u G :=
  ⟨h.1, h.2.1, h.2.2.1, h.2.2.2.1.of (fun b => f _ _ (by omega)) (fun a b _ _ => f _ _ (by omega)) f2, h.2.2.2.2.of (fun b _ _ => f _ _ (by omega)) (fun b => f _ _ (by omega)) (fun b => f _ _ (by omega))⟩
theorem Ri.of {w w' : Wd} (h : Ri w) (f : ∀ a b, ((a = 0 ∧ b = 3) ∨ a = 5 ∨ a = 6 ∨ (a = 139 ∧ b = 19) ∨ a = 152) → w'.1 a b = w.1 a b) : Ri w' := by
  obtain ⟨h1, h2⟩ | ⟨h1, h2, g, h3, h4, h5⟩ := h
  · exact Or.inl ⟨(f _ _ (by omega)).trans h1, (f _ _ (by omega)).trans h2⟩
  · exact Or.inr ⟨(f _ _ (by omega)).trans h1, (f _ _ (by omega)).trans h2, g, h3, h4.of (fun b => f _ _ (by omega)) (fun b => f _ _ (by omega)), fun j hj => (f _ _ (by omega)).trans (h5 j hj)⟩
theorem Rt.of {w w' : Wd} (h : Rt w) (f : ∀ a b, ((a = 112 ∧ b = 1) ∨ a = 113 ∨ (a = 139 ∧ b = 14) ∨ a = 148) → w'.1 a b = w.1 a b) : Rt w' := by
  obtain ⟨T, s, h1, h2, h3, h4⟩ := h
  exact ⟨T, s, h1, (f _ _ (by omega)).trans h2, (f _ _ (by omega)).trans h3, fun j hj => ⟨(h4 j hj).1, (f _ _ (by omega)).trans (h4 j hj).2.1, (f _ _ (by omega)).trans (h4 j hj).2.2⟩⟩
theorem Hd.of {w w' : Wd} {h : Nat} (hh : h < 6) (H : Hd w h) (f : ∀ a b, ((115 + 4 * h ≤ a ∧ a < 119 + 4 * h) ∨ (149 ≤ a ∧ a ≤ 150 ∧ b = h) ∨ (a = 151 ∧ 80 * h ≤ b ∧ b < 80 * h + 80)) → w'.1 a b = w.1 a b) : Hd w' h := by
  obtain ⟨h1, h2⟩ | ⟨s, W, h1, h2, h3, h4, h5, h6⟩ | ⟨n, h1, h2, h3, h4, h5, h6⟩ := H
  · exact Or.inl ⟨(f _ _ (by omega)).trans h1, (f _ _ (by omega)).trans h2⟩
  · exact Or.inr (Or.inl ⟨s, W, h1, h2, h3.of (fun b _ => f _ _ (by omega)) (fun b => f _ _ (by omega)), (f _ _ (by omega)).trans h4, (f _ _ (by omega)).trans h5, fun k hk => (f _ _ (by omega)).trans (h6 k hk)⟩)
  · refine Or.inr (Or.inr ⟨n, h1, (f _ _ (by omega)).trans h2, (f _ _ (by omega)).trans h3, (f _ _ (by omega)).trans h4, (f _ _ (by omega)).trans h5, fun k hk => ?_⟩)
    rw [f _ _ (by omega), h6 k hk, f (118 + 4 * h) k (by omega)]
theorem Rh.of {w w' : Wd} (H : Rh w) (f : ∀ a b, ((115 ≤ a ∧ a < 139) ∨ (149 ≤ a ∧ a ≤ 151)) → w'.1 a b = w.1 a b) : Rh w' := fun h hh => (H h hh).of hh (fun a b _ => f _ _ (by omega))
theorem Rs.of {w w' : Wd} (H : Rs w) (f : ∀ a b, (86 ≤ a ∧ a < 92) → w'.1 a b = w.1 a b) : Rs w' := ⟨fun y hy => (f _ _ (by omega)).trans (H.1 y hy), fun x hx => (f _ _ (by omega)).trans (H.2 x hx)⟩
/-- nothing but scratch has changed -/
theorem Ig.of {w w' : Wd} {g : Gd} {p u : Nat} {G : Nat → Gd} (h : Ig w g p u G) (h2 : w'.2 = w.2) (hc : Rc w' g) (f : ∀ a b, ((a = 0 ∧ b ≠ 5) ∨ a = 1 ∨ a = 2 ∨ a = 5 ∨ a = 6 ∨ (84 ≤ a ∧ a < 143) ∨ 148 ≤ a) → w'.1 a b = w.1 a b) : Ig w' g p u G := by
  obtain ⟨a1, a2, a3, a4, a5, a6, a7, a8⟩ := h
  exact ⟨by rw [h2]; exact a1, a2.of (fun a b h => f _ _ (by omega)), hc, a4.of (fun a b h => f _ _ (by omega)) (fun b => by rw [h2]), a5.of (fun a b h => f _ _ (by omega)), a6.of (fun a b h => f _ _ (by omega)), a7.of (fun a b h => f _ _ (by omega)), a8.of (fun a b h => f _ _ (by omega))⟩
theorem pshG_V {p : Nat} {G : Nat → Gd} {g : Gd} (h : ∀ k, GV (G k)) (hg : GV g) : ∀ k, GV (pshG p G g k) := fun k => by
  unfold pshG
  split
  · show GV (if k = p then g else G k)
    split
    · exact hg
    · exact h k
  · show GV (if k = 7 then g else G (k + 1))
    split
    · exact hg
    · exact h _
/-- a deed, from its beginning to its end -/
theorem Ig.begin {w : Wd} {g : Gd} {p u : Nat} {G : Nat → Gd} (h : Ig w g p u G) : ∃ w1, f_X7_beginDeed 0 w = some w1 ∧ Wi w1.2 ∧ CG w1 1 g ∧ MG w1 g ∧ (∀ a b, a ≠ 92 → (a < 94 ∨ 112 ≤ a) → ¬ (a = 0 ∧ b = 5) → w1.1 a b = w.1 a b) ∧
    ∀ w2, w2.2 = w1.2 → (∀ a b, ¬ (1 ≤ a ∧ a ≤ 4) → ¬ (143 ≤ a ∧ a ≤ 147) → ¬ (a = 112 ∧ b = 1) → ¬ (a = 139 ∧ b = 14) → w2.1 a b = w1.1 a b) → Wi w2.2 ∧ MG w2 g ∧ ∃ w3, f_X8_does 139 w2 = some w3 ∧ Wi w3.2 ∧ MG w3 g ∧ (∀ a b, a ≠ 141 → ¬ (a = 139 ∧ 6 ≤ b ∧ b < 8) → w3.1 a b = w2.1 a b) ∧
      ∀ w4 g', w4.2 = w3.2 → (∀ a b, (a < 139 ∨ (a = 139 ∧ 3 ≤ b) ∨ a = 141 ∨ a = 142 ∨ 148 ≤ a) → w4.1 a b = w3.1 a b) → GV g' → CG w2 1 g' → MG w4 g' → Rt w4 → In w4 := by
  obtain ⟨a1, a2, a3, a4, a5, a6, a7, a8⟩ := id h
  obtain ⟨w1, b1, b2, b3, b4, b5, b6⟩ := s_begin a1 a4.2.2.2.1 a2.2.1
  have hm1 : MG w1 g := a2.2.2.of (fun b hb => b6 _ _ (by omega) (by omega) (by omega)) (fun b => b6 _ _ (by omega) (by omega) (by omega))
  refine ⟨w1, b1, b2, b3, hm1, b6, fun w2 e2 f2 => ?_⟩
  have hm2 : MG w2 g := hm1.of (fun b hb => f2 _ _ (by omega) (by omega) (by omega) (by omega)) (fun b => f2 _ _ (by omega) (by omega) (by omega) (by omega))
  have hd2 : DM w2 p u G := a4.2.2.2.2.of (fun b _ _ => by rw [f2 _ _ (by omega) (by omega) (by omega) (by omega), b6 _ _ (by omega) (by omega) (by omega)]) (fun b => by rw [f2 _ _ (by omega) (by omega) (by omega) (by omega), b6 _ _ (by omega) (by omega) (by omega)]) (fun b => by rw [f2 _ _ (by omega) (by omega) (by omega) (by omega), b6 _ _ (by omega) (by omega) (by omega)])
  have hW2 : Wi w2.2 := by rw [e2]; exact b2
  obtain ⟨w3, d1, d2, d3, d4⟩ := m_does hW2 hd2 hm2 (by have := a4.2.2.1; omega)
  refine ⟨hW2, hm2, w3, d1, by rw [d2]; exact hW2, hm2.of (fun b hb => d4 _ _ (by omega) (by omega)) (fun b => d4 _ _ (by omega) (by omega)), d4, fun w4 g' e4 f4 hv hc hm ht => ?_⟩
  have f : ∀ a b, ((a = 0 ∧ b = 3) ∨ a = 5 ∨ a = 6 ∨ (86 ≤ a ∧ a < 92) ∨ a = 113 ∨ (115 ≤ a ∧ a < 139) ∨ (a = 139 ∧ b = 19) ∨ 148 ≤ a) → w4.1 a b = w.1 a b := fun a b h => by
    rw [f4 _ _ (by omega), d4 _ _ (by omega) (by omega), f2 _ _ (by omega) (by omega) (by omega) (by omega), b6 _ _ (by omega) (by omega) (by omega)]
  refine ⟨g', pshP p, 0, pshG p G g, by rw [e4, d2]; exact hW2, ⟨hv, hc.of (fun b => ?_) (fun b => ?_), hm⟩, Or.inl ?_, ⟨pshG_V a4.1 a2.1, fun h => absurd h (by decide), ?_, b4.of (fun b => ?_) (fun a b _ _ => ?_) (fun b => by rw [e4, d2, e2]), d3.of (fun b _ _ => f4 _ _ (by omega)) (fun b => f4 _ _ (by omega)) (fun b => f4 _ _ (by omega))⟩, a5.of (fun a b h => f _ _ (by omega)), ht, a7.of (fun a b h => f _ _ (by omega)), a8.of (fun a b h => f _ _ (by omega))⟩
  · rw [f4 _ _ (by omega), d4 _ _ (by omega) (by omega)]
  · rw [f4 _ _ (by omega), d4 _ _ (by omega) (by omega)]
  · rw [f4 _ _ (by omega), d4 _ _ (by omega) (by omega), f2 _ _ (by omega) (by omega) (by omega) (by omega), b5]; rfl
  · have := a4.2.2.1
    unfold pshP
    split <;> omega
  · rw [f4 _ _ (by omega), d4 _ _ (by omega) (by omega), f2 _ _ (by omega) (by omega) (by omega) (by omega)]
  · rw [f4 _ _ (by omega), d4 _ _ (by omega) (by omega), f2 _ _ (by omega) (by omega) (by omega) (by omega)]
def Op1 {α : Type} (f7 f8 : Wd → Option α) : Prop := ∀ w, In w → ∃ v, f7 w = some v ∧ f8 w = some v
def Op2 {α : Type} (f7 f8 : Wd → Option (α × Wd)) : Prop := ∀ w, In w → ∃ v w1 w2, f7 w = some (v, w1) ∧ f8 w1 = some (v, w2) ∧ In w2
theorem n10 : ¬ (I 1 = 0) := by decide
theorem z00 : I 0 = 0 := rfl
/-! small checks -/
theorem zb_c {c : Prop} [Decidable c] {z : Int} (h : z = if c then 1 else 0) : zb (I z) (some (I z)) = some (I (if c then 1 else 0)) := by
  rw [h, zb_i]
theorem s_isSide {z : Int} (h : -2147483648 ≤ z ∧ z < 2147483648) : f_X7_isSide (I z) = some (I (if 1 ≤ z ∧ z ≤ 5 then 1 else 0)) := by
  unfold f_X7_isSide
  simp (disch := omega) only [lt_d, i0, i1, i2, i3, i4, i5, i6, i7, i8, i9, i10, i12, i14, i20, i25, i26, i28, i30, i36, i48, i49, i50, i53, i57, i59, i60, i63, i75, i80, i99, i100, i196, i255, i1000, im1, im2, im3, im5, im6, im11, im12, im13, im14, im1000, I_lt, I_le, I_eq, I_ite]
  exact zb_c (by (repeat' split) <;> omega)
theorem s_isNumber {z : Int} (h : -2147483648 ≤ z ∧ z < 2147483648) : f_X7_isNumber (I z) = some (I (if 0 ≤ z ∧ z ≤ 3 then 1 else 0)) := by
  unfold f_X7_isNumber
  simp (disch := omega) only [lt_d, i0, i1, i2, i3, i4, i5, i6, i7, i8, i9, i10, i12, i14, i20, i25, i26, i28, i30, i36, i48, i49, i50, i53, i57, i59, i60, i63, i75, i80, i99, i100, i196, i255, i1000, im1, im2, im3, im5, im6, im11, im12, im13, im14, im1000, I_lt, I_le, I_eq, I_ite]
  exact zb_c (by (repeat' split) <;> omega)
theorem s_isRule {z : Int} (h : -2147483648 ≤ z ∧ z < 2147483648) : f_X7_isRule (I z) = some (I (if 0 ≤ z ∧ z ≤ 3 then 1 else 0)) := by
  unfold f_X7_isRule
  simp (disch := omega) only [lt_d, i0, i1, i2, i3, i4, i5, i6, i7, i8, i9, i10, i12, i14, i20, i25, i26, i28, i30, i36, i48, i49, i50, i53, i57, i59, i60, i63, i75, i80, i99, i100, i196, i255, i1000, im1, im2, im3, im5, im6, im11, im12, im13, im14, im1000, I_lt, I_le, I_eq, I_ite]
  exact zb_c (by (repeat' split) <;> omega)
theorem s_isPlace {z : Int} (h : -2147483648 ≤ z ∧ z < 2147483648) : f_X7_isPlace (I z) = some (I (if 0 ≤ z ∧ z ≤ 99 then 1 else 0)) := by
  unfold f_X7_isPlace
  simp (disch := omega) only [lt_d, i0, i1, i2, i3, i4, i5, i6, i7, i8, i9, i10, i12, i14, i20, i25, i26, i28, i30, i36, i48, i49, i50, i53, i57, i59, i60, i63, i75, i80, i99, i100, i196, i255, i1000, im1, im2, im3, im5, im6, im11, im12, im13, im14, im1000, I_lt, I_le, I_eq, I_ite]
  exact zb_c (by (repeat' split) <;> omega)
theorem s_isHolder {z : Int} (h : -2147483648 ≤ z ∧ z < 2147483648) : f_X7_isHolder (I z) = some (I (if 0 ≤ z ∧ z ≤ 5 then 1 else 0)) := by
  unfold f_X7_isHolder
  simp (disch := omega) only [lt_d, i0, i1, i2, i3, i4, i5, i6, i7, i8, i9, i10, i12, i14, i20, i25, i26, i28, i30, i36, i48, i49, i50, i53, i57, i59, i60, i63, i75, i80, i99, i100, i196, i255, i1000, im1, im2, im3, im5, im6, im11, im12, im13, im14, im1000, I_lt, I_le, I_eq, I_ite]
  exact zb_c (by (repeat' split) <;> omega)
theorem m_chk {z lo hi : Int} (h : -2147483648 ≤ z ∧ z < 2147483648) (h1 : -2147483648 ≤ lo ∧ lo < 2147483648) (h2 : -2147483648 ≤ hi ∧ hi < 2147483648) : f_X8_in (I z).toInt64 (LI lo) (LI hi) = some (I (if lo ≤ z ∧ z ≤ hi then 1 else 0)) := m_inI h h1 h2
theorem m_isHolder {z : Int} (h : -2147483648 ≤ z ∧ z < 2147483648) : f_X8_isHolder (I z) = some (I (if 0 ≤ z ∧ z ≤ 5 then 1 else 0)) := by
  unfold f_X8_isHolder
  rw [l0, l5, c1_r (m_chk h (by omega) (by omega)), zb_i]
theorem m_empties {w : Wd} (hW : Wi w.2) : f_X8_empties 139 w = some (fill w 140 25 (fun _ => I 0)) := by
  unfold f_X8_empties
  refine wl2_for 25 (fun i => I i) (fun i => fill w 140 i (fun _ => I 0)) (by decide) rfl (fill_0 _ _ _).symm (fun i hi k => ?_) (fun k => ?_)
  · simp (disch := omega) only [i0, i1, i2, i3, i4, i5, i6, i7, i8, i9, i10, i12, i14, i20, i25, i26, i28, i30, i36, i48, i49, i50, i53, i57, i59, i60, i63, i75, i80, i99, i100, i196, i255, i1000, im1, im2, im3, im5, im6, im11, im12, im13, im14, im1000, I_le]
    rw [if_neg (by omega), fill_2, rfc hW.m3 kd_140 (by decide), ln_140, ix_d (by omega) (by omega) (by decide), lt_d, lt_d, Int.toNat_natCast, I_add, nS, fill_s _ _ i (fun _ => I 0)]
  · rw [if_pos (by decide)]
theorem m_filled {w : Wd} {g : Gd} (hW : Wi w.2) (h : MG w g) (hv : GV g) : f_X8_filled 139 w = some (I (fld g 25)) := by
  unfold f_X8_filled
  refine wl2_for 25 (fun i => I (fld g i)) (fun i => I i) (by decide) rfl rfl (fun i hi k => ?_) (fun k => ?_)
  · have hb := hv.2.2.2.1 i hi
    simp (disch := omega) only [i0, i1, i2, i3, i4, i5, i6, i7, i8, i9, i10, i12, i14, i20, i25, i26, i28, i30, i36, i48, i49, i50, i53, i57, i59, i60, i63, i75, i80, i99, i100, i196, i255, i1000, im1, im2, im3, im5, im6, im11, im12, im13, im14, im1000, I_le]
    rw [if_neg (by omega), rfc hW.m3 kd_140 (by decide), ln_140, ix_d (by omega) (by omega) (by decide), Int.toNat_natCast, h.2.2.2 i hi]
    simp (disch := omega) only [lt_d, I_le, I_ite, I_add, nS]
    rw [show fld g (i + 1) = fld g i + (if 0 < g (3 + i) then 1 else 0) from rfl]
    congr 3
    (repeat' split) <;> omega
  · rw [if_pos (by decide)]

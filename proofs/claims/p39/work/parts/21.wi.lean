/-! the wiring, which never changes but in the row of states; a grid as 28 numbers -/
abbrev Gd : Type := Nat → Int
theorem nS (i : Nat) : I ((i : Int) + 1) = I ((i + 1 : Nat) : Int) := congrArg I (by omega)
def Wi (r : Nat → Nat → Option Nat) : Prop :=
  (r 0 0 = some 1 ∧ r 0 1 = some 3 ∧ r 0 2 = some 5 ∧ r 0 4 = some 7 ∧ r 0 6 = some 84 ∧ r 0 7 = some 92 ∧ r 0 8 = some 112 ∧ r 0 9 = some 114) ∧
  (∀ t, kd t = 0 → r t 3 = some (t + 1)) ∧ (∀ t, kd t = 5 → r t 0 = some (t + 1)) ∧
  (r 7 0 = some 8 ∧ r 7 1 = some 81 ∧ r 7 4 = some 83) ∧ (∀ k, k < 36 → r 8 k = some (9 + 2 * k)) ∧
  (r 84 0 = some 85 ∧ ∀ k, k < 6 → r 85 k = some (86 + k)) ∧ r 92 0 = some 93 ∧ r 112 0 = some 113 ∧
  (∀ h, h < 6 → r 114 h = some (115 + 4 * h) ∧ r (115 + 4 * h) 1 = some (116 + 4 * h) ∧ r (115 + 4 * h) 2 = some (118 + 4 * h)) ∧ True
theorem kd_l0 : ∀ t, t < 143 → (139 ≤ t → kd t = 9 ∧ ln t = 36) := by decide +kernel
theorem kd_c : ∀ t, t < 143 → kd t = 0 → t + 1 < 139 ∧ kd (t + 1) = 9 ∧ ln (t + 1) = 25 := by decide +kernel
theorem kd_s : ∀ t, t < 143 → kd t = 5 → t + 1 < 139 ∧ kd (t + 1) = 9 ∧ ln (t + 1) = 75 := by decide +kernel
theorem kdC {t : Nat} (h : kd t = 0) : t + 1 < 139 ∧ kd (t + 1) = 9 ∧ ln (t + 1) = 25 := kd_c t (kd_b (by rw [h]; decide)) h
theorem kdS {t : Nat} (h : kd t = 5) : t + 1 < 139 ∧ kd (t + 1) = 9 ∧ ln (t + 1) = 75 := kd_s t (kd_b (by rw [h]; decide)) h
/-- what isn't an array of ints lies among the class's own -/
theorem kd_lt {t k : Nat} (h : kd t = k) (hk : k < 99) (h9 : k ≠ 9) : t < 139 := by
  have h1 := kd_b (t := t) (by omega)
  have h2 := kd_l0 t h1
  omega
theorem nums {t : Nat} {w : Wd} {ρ : Type} (hk : kd t = 0) (hr : w.2 t 3 = some (t + 1)) (K : Nat → Option ρ) : rf 139 (w.2 t 3) 9 K = K (t + 1) := rf_d hr (kdC hk).1 (kdC hk).2.1 K
def GV (g : Gd) : Prop := (1 ≤ g 0 ∧ g 0 ≤ 5) ∧ (1 ≤ g 1 ∧ g 1 ≤ 5) ∧ (0 ≤ g 2 ∧ g 2 ≤ 3) ∧ (∀ j, j < 25 → 0 ≤ g (3 + j) ∧ g (3 + j) ≤ 3) ∧ ∀ j : Nat, j < 25 → (g 0 ≤ ((j / 5 : Nat) : Int) ∨ g 1 ≤ ((j % 5 : Nat) : Int)) → g (3 + j) = 0
/-- class Cells at t hold g -/
def CG (w : Wd) (t : Nat) (g : Gd) : Prop := w.1 t 0 = I (g 0) ∧ w.1 t 1 = I (g 1) ∧ w.1 t 2 = I (g 2) ∧ ∀ j, j < 25 → w.1 (t + 1) j = I (g (3 + j))
theorem CG.of {w w' : Wd} {t : Nat} {g : Gd} (h : CG w t g) (h1 : ∀ b, w'.1 t b = w.1 t b) (h2 : ∀ b, w'.1 (t + 1) b = w.1 (t + 1) b) : CG w' t g := ⟨(h1 0).trans h.1, (h1 1).trans h.2.1, (h1 2).trans h.2.2.1, fun j hj => (h2 j).trans (h.2.2.2 j hj)⟩
theorem s_hasCell {w : Wd} {t : Nat} {g : Gd} {x y : Int} (h : CG w t g) (hv : GV g) (hx : -2147483648 ≤ x ∧ x < 2147483648) (hy : -2147483648 ≤ y ∧ y < 2147483648) :
    f_X0_hasCell t (I x) (I y) w = some (I (if 1 ≤ x ∧ x ≤ g 0 ∧ 1 ≤ y ∧ y ≤ g 1 then 1 else 0)) := by
  obtain ⟨v1, v2, -⟩ := hv
  unfold f_X0_hasCell
  rw [h.1, h.2.1]
  simp (disch := omega) only [lt_d, i0, i1, i2, i3, i4, i5, i6, i7, i8, i9, i10, i12, i14, i20, i25, i26, i28, i30, i36, i48, i49, i50, i53, i57, i59, i60, i63, i75, i80, i99, i100, i196, i255, i1000, im1, im2, im3, im5, im6, im11, im12, im13, im14, im1000, I_lt, I_le, I_eq]
  by_cases c : 1 ≤ x ∧ x ≤ g 0 ∧ 1 ≤ y ∧ y ≤ g 1
  · rw [if_pos c, if_neg (by omega), if_neg (by omega), if_neg (by omega), if_neg (by omega), zb_1]
  · rw [if_neg c]
    have e : (if x < 1 then I 0 else if g 0 < x then I 0 else if y < 1 then I 0 else if g 1 < y then I 0 else I 1) = I 0 := by
      split
      · rfl
      · split
        · rfl
        · split
          · rfl
          · rw [if_pos (by omega)]
    rw [e, zb_0]
theorem s_hasCorner {w : Wd} {t : Nat} {g : Gd} {x y : Int} (h : CG w t g) (hv : GV g) (hx : -2147483648 ≤ x ∧ x < 2147483648) (hy : -2147483648 ≤ y ∧ y < 2147483648) :
    f_X0_hasCorner t (I x) (I y) w = some (I (if 0 ≤ x ∧ x ≤ g 0 ∧ 0 ≤ y ∧ y ≤ g 1 then 1 else 0)) := by
  obtain ⟨v1, v2, -⟩ := hv
  unfold f_X0_hasCorner
  rw [h.1, h.2.1]
  simp (disch := omega) only [lt_d, i0, i1, i2, i3, i4, i5, i6, i7, i8, i9, i10, i12, i14, i20, i25, i26, i28, i30, i36, i48, i49, i50, i53, i57, i59, i60, i63, i75, i80, i99, i100, i196, i255, i1000, im1, im2, im3, im5, im6, im11, im12, im13, im14, im1000, I_lt, I_le, I_eq]
  by_cases c : 0 ≤ x ∧ x ≤ g 0 ∧ 0 ≤ y ∧ y ≤ g 1
  · rw [if_pos c, if_neg (by omega), if_neg (by omega), if_neg (by omega), if_neg (by omega), zb_1]
  · rw [if_neg c]
    have e : (if x < 0 then I 0 else if g 0 < x then I 0 else if y < 0 then I 0 else if g 1 < y then I 0 else I 1) = I 0 := by
      split
      · rfl
      · split
        · rfl
        · split
          · rfl
          · rw [if_pos (by omega)]
    rw [e, zb_0]
/-- the number at column x, row y -/
def num (g : Gd) (x y : Int) : Int := if 1 ≤ x ∧ x ≤ g 0 ∧ 1 ≤ y ∧ y ≤ g 1 then g (3 + (5 * (x - 1) + (y - 1)).toNat) else 0
theorem s_numberAt {w : Wd} {t : Nat} {g : Gd} {x y : Int} (hk : kd t = 0) (hr : w.2 t 3 = some (t + 1)) (h : CG w t g) (hv : GV g) (hx : -2147483648 ≤ x ∧ x < 2147483648) (hy : -2147483648 ≤ y ∧ y < 2147483648) :
    f_X0_numberAt t (I x) (I y) w = some (I (num g x y)) := by
  unfold f_X0_numberAt f_X0_placeOf num
  rw [c1_r (s_hasCell h hv hx hy)]
  obtain ⟨v1, v2, -⟩ := hv
  by_cases c : 1 ≤ x ∧ x ≤ g 0 ∧ 1 ≤ y ∧ y ≤ g 1
  · rw [if_pos c, if_pos c, if_neg (by decide), nums hk hr, c1_d]
    simp only [i0, i1, i2, i3, i4, i5, i6, i7, i8, i9, i10, i12, i14, i20, i25, i26, i28, i30, i36, i48, i49, i50, i53, i57, i59, i60, i63, i75, i80, i99, i100, i196, i255, i1000, im1, im2, im3, im5, im6, im11, im12, im13, im14, im1000, I_add, I_sub, I_mul, I_nat]
    rw [(kdC hk).2.2, ix_d (by omega) (by omega) (by decide), lt_d, h.2.2.2 _ (by omega)]
    congr 4
    omega
  · rw [if_neg c, if_neg c, if_pos (show I 0 = 0 from rfl)]; rfl
theorem s_setNumber {w : Wd} {t : Nat} {g : Gd} {x y : Int} (v : Int32) (hk : kd t = 0) (hr : w.2 t 3 = some (t + 1)) (h : CG w t g) (hv : GV g) (hx : 1 ≤ x ∧ x ≤ g 0) (hy : 1 ≤ y ∧ y ≤ g 1) :
    f_X0_setNumber t (I x) (I y) v w = some (upI w (t + 1) (5 * (x - 1) + (y - 1)).toNat v) := by
  unfold f_X0_setNumber f_X0_placeOf
  have hv2 := hv
  obtain ⟨v1, v2, -⟩ := hv
  have c : 1 ≤ x ∧ x ≤ g 0 ∧ 1 ≤ y ∧ y ≤ g 1 := by omega
  rw [c1_r (s_hasCell h hv2 (by omega) (by omega)), if_pos c, if_neg (by decide), nums hk hr, c1_d]
  simp only [i0, i1, i2, i3, i4, i5, i6, i7, i8, i9, i10, i12, i14, i20, i25, i26, i28, i30, i36, i48, i49, i50, i53, i57, i59, i60, i63, i75, i80, i99, i100, i196, i255, i1000, im1, im2, im3, im5, im6, im11, im12, im13, im14, im1000, I_add, I_sub, I_mul, I_nat]
  rw [(kdC hk).2.2, ix_d (by omega) (by omega) (by decide), lt_d]
  congr 3
  omega
/-- setNumber outside the grid does nothing -/
theorem s_setNumberO {w : Wd} {t : Nat} {g : Gd} {x y : Int} (v : Int32) (h : CG w t g) (hv : GV g) (hx : -2147483648 ≤ x ∧ x < 2147483648) (hy : -2147483648 ≤ y ∧ y < 2147483648) (c : ¬ (1 ≤ x ∧ x ≤ g 0 ∧ 1 ≤ y ∧ y ≤ g 1)) :
    f_X0_setNumber t (I x) (I y) v w = some w := by
  unfold f_X0_setNumber
  rw [c1_r (s_hasCell h hv hx hy), if_neg c, if_pos (show I 0 = 0 from rfl)]
def clg (w : Wd) (t : Nat) (a b : Int32) : Wd := fill (upI (upI w t 0 a) t 1 b) (t + 1) 25 (fun _ => I 0)
theorem s_clearTo {w : Wd} {t : Nat} (a b : Int32) (hk : kd t = 0) (hr : w.2 t 3 = some (t + 1)) : f_X0_clearTo t a b w = some (clg w t a b) := by
  unfold f_X0_clearTo
  rw [lt_d, lt_d]
  refine wl2_for 25 (fun i => I i) (fun i => fill (upI (upI w t 0 a) t 1 b) (t + 1) i (fun _ => I 0)) (by decide) rfl (fill_0 _ _ _).symm (fun i hi k => ?_) (fun k => ?_)
  · rw [fill_2, upI_2, upI_2, nums hk hr, (kdC hk).2.2, nums hk hr, I_nat]
    simp (disch := omega) only [i0, i1, i2, i3, i4, i5, i6, i7, i8, i9, i10, i12, i14, i20, i25, i26, i28, i30, i36, i48, i49, i50, i53, i57, i59, i60, i63, i75, i80, i99, i100, i196, i255, i1000, im1, im2, im3, im5, im6, im11, im12, im13, im14, im1000, I_add, I_sub, I_mul, I_nat, I_le]
    rw [if_neg (by omega), (kdC hk).2.2, ix_d (by omega) (by omega) (by decide)]
    simp only [Int.toNat_natCast, fill_s _ _ i (fun _ => I 0), lt_d, nS]
  · rw [fill_2, upI_2, upI_2, nums hk hr, (kdC hk).2.2, I_nat, if_pos (by decide)]
    rfl
def cpg (w : Wd) (t u : Nat) : Wd := fill (upI (upI (upI w t 0 (w.1 u 0)) t 1 (w.1 u 1)) t 2 (w.1 u 2)) (t + 1) 25 (fun j => w.1 (u + 1) j)
theorem s_copyFrom {w : Wd} {t u : Nat} (hk : kd t = 0) (hr : w.2 t 3 = some (t + 1)) (hk2 : kd u = 0) (hr2 : w.2 u 3 = some (u + 1)) (hne : t ≠ u) : f_X0_copyFrom t u w = some (cpg w t u) := by
  have n1 : t ≠ u + 1 := fun e => by have := (kdC hk2).2.1; rw [← e, hk] at this; cases this
  have n2 : u ≠ t + 1 := fun e => by have := (kdC hk).2.1; rw [← e, hk2] at this; cases this
  unfold f_X0_copyFrom
  rw [lt_d, lt_d, lt_d]
  have e1 : (upI w t 0 (w.1 u 0)).1 u 1 = w.1 u 1 := by rw [upI_1, if_neg (by omega)]
  have e2 : (upI (upI w t 0 (w.1 u 0)) t 1 (w.1 u 1)).1 u 2 = w.1 u 2 := by rw [upI_1, if_neg (by omega), upI_1, if_neg (by omega)]
  rw [e1, e2]
  refine wl2_for 25 (fun i => I i) (fun i => fill (upI (upI (upI w t 0 (w.1 u 0)) t 1 (w.1 u 1)) t 2 (w.1 u 2)) (t + 1) i (fun j => w.1 (u + 1) j)) (by decide) rfl (fill_0 _ _ _).symm (fun i hi k => ?_) (fun k => ?_)
  · rw [fill_2, upI_2, upI_2, upI_2, nums hk hr, (kdC hk).2.2, nums hk hr, nums hk2 hr2, I_nat]
    simp (disch := omega) only [i0, i1, i2, i3, i4, i5, i6, i7, i8, i9, i10, i12, i14, i20, i25, i26, i28, i30, i36, i48, i49, i50, i53, i57, i59, i60, i63, i75, i80, i99, i100, i196, i255, i1000, im1, im2, im3, im5, im6, im11, im12, im13, im14, im1000, I_add, I_sub, I_mul, I_nat, I_le]
    rw [if_neg (by omega), (kdC hk2).2.2, ix_d (by omega) (by omega) (by decide), (kdC hk).2.2, ix_d (by omega) (by omega) (by decide)]
    have e : (fill (upI (upI (upI w t 0 (w.1 u 0)) t 1 (w.1 u 1)) t 2 (w.1 u 2)) (t + 1) i (fun j => w.1 (u + 1) j)).1 (u + 1) i = w.1 (u + 1) i := by
      simp only [upI_1, upI_2, fill_1, fill_2, upR_1, upR_2]
      rw [if_neg (by omega), if_neg (by omega), if_neg (by omega), if_neg (by omega)]
    simp only [Int.toNat_natCast, lt_d]
    rw [e, fill_s _ _ i (fun j => w.1 (u + 1) j), nS]
  · rw [fill_2, upI_2, upI_2, upI_2, nums hk hr, (kdC hk).2.2, I_nat, if_pos (by decide)]
    rfl
theorem upI_s (w : Wd) (k j : Nat) (v : Int32) : (upI w k j v).1 k j = v := if_pos ⟨rfl, rfl⟩
theorem upI_n {w : Wd} {k j a b : Nat} {v : Int32} (h : ¬ (a = k ∧ b = j)) : (upI w k j v).1 a b = w.1 a b := if_neg h
theorem fill_i {w : Wd} {k n b : Nat} {f : Nat → Int32} (h : b < n) : (fill w k n f).1 k b = f b := if_pos ⟨rfl, h⟩
theorem fill_n {w : Wd} {k n a b : Nat} {f : Nat → Int32} (h : ¬ (a = k ∧ b < n)) : (fill w k n f).1 a b = w.1 a b := if_neg h
theorem cpg_2 (w : Wd) (t u : Nat) : (cpg w t u).2 = w.2 := rfl
theorem cpg_o {w : Wd} {t u a b : Nat} (h1 : a ≠ t) (h2 : a ≠ t + 1) : (cpg w t u).1 a b = w.1 a b := by
  unfold cpg
  rw [fill_n (fun h => h2 h.1), upI_n (fun h => h1 h.1), upI_n (fun h => h1 h.1), upI_n (fun h => h1 h.1)]
theorem cpg_CG {w : Wd} {t u : Nat} {g : Gd} (h : CG w u g) : CG (cpg w t u) t g := by
  unfold cpg
  refine ⟨?_, ?_, ?_, fun j hj => ?_⟩
  · rw [fill_n (by omega), upI_n (by omega), upI_n (by omega), upI_s]; exact h.1
  · rw [fill_n (by omega), upI_n (by omega), upI_s]; exact h.2.1
  · rw [fill_n (by omega), upI_s]; exact h.2.2.1
  · rw [fill_i hj]; exact h.2.2.2 j hj
theorem clg_2 (w : Wd) (t : Nat) (a b : Int32) : (clg w t a b).2 = w.2 := rfl
theorem clg_o {w : Wd} {t a b : Nat} {x y : Int32} (h1 : a ≠ t) (h2 : a ≠ t + 1) : (clg w t x y).1 a b = w.1 a b := by
  unfold clg
  rw [fill_n (fun h => h2 h.1), upI_n (fun h => h1 h.1), upI_n (fun h => h1 h.1)]
/-- how many of the first n numbers are above 0; their sum -/
def fld (g : Gd) : Nat → Int
  | 0 => 0
  | n + 1 => fld g n + if 0 < g (3 + n) then 1 else 0
def tot (g : Gd) : Nat → Int
  | 0 => 0
  | n + 1 => tot g n + g (3 + n)
theorem fld_b (g : Gd) : ∀ n, 0 ≤ fld g n ∧ fld g n ≤ n
  | 0 => by simp [fld]
  | n + 1 => by
    have := fld_b g n
    unfold fld
    split <;> omega
theorem tot_b {g : Gd} (hv : GV g) : ∀ n, n ≤ 25 → 0 ≤ tot g n ∧ tot g n ≤ 3 * n
  | 0, _ => by simp [tot]
  | n + 1, h => by
    have h1 := tot_b hv n (by omega)
    have h2 := hv.2.2.2.1 n (by omega)
    unfold tot
    omega
theorem s_filled {w : Wd} {t : Nat} {g : Gd} (hk : kd t = 0) (hr : w.2 t 3 = some (t + 1)) (h : CG w t g) (hv : GV g) : f_X0_filled t w = some (I (fld g 25)) := by
  unfold f_X0_filled
  refine wl2_for 25 (fun i => I (fld g i)) (fun i => I i) (by decide) rfl rfl (fun i hi k => ?_) (fun k => ?_)
  · have hb := hv.2.2.2.1 i hi
    rw [nums hk hr, (kdC hk).2.2, nums hk hr, I_nat]
    simp (disch := omega) only [i0, i1, i2, i3, i4, i5, i6, i7, i8, i9, i10, i12, i14, i20, i25, i26, i28, i30, i36, i48, i49, i50, i53, i57, i59, i60, i63, i75, i80, i99, i100, i196, i255, i1000, im1, im2, im3, im5, im6, im11, im12, im13, im14, im1000, I_add, I_sub, I_mul, I_nat, I_le]
    rw [if_neg (by omega), (kdC hk).2.2, ix_d (by omega) (by omega) (by decide)]
    simp only [Int.toNat_natCast, lt_d]
    simp (disch := omega) only [h.2.2.2 i hi, I_le, I_ite, I_add, nS]
    rw [show fld g (i + 1) = fld g i + (if 0 < g (3 + i) then 1 else 0) from rfl]
    congr 3
    split <;> split <;> omega
  · rw [nums hk hr, (kdC hk).2.2, I_nat, if_pos (by decide)]
theorem s_total {w : Wd} {t : Nat} {g : Gd} (hk : kd t = 0) (hr : w.2 t 3 = some (t + 1)) (h : CG w t g) : f_X0_total t w = some (I (tot g 25)) := by
  unfold f_X0_total
  refine wl2_for 25 (fun i => I (tot g i)) (fun i => I i) (by decide) rfl rfl (fun i hi k => ?_) (fun k => ?_)
  · rw [nums hk hr, (kdC hk).2.2, nums hk hr, I_nat]
    simp (disch := omega) only [i0, i1, i2, i3, i4, i5, i6, i7, i8, i9, i10, i12, i14, i20, i25, i26, i28, i30, i36, i48, i49, i50, i53, i57, i59, i60, i63, i75, i80, i99, i100, i196, i255, i1000, im1, im2, im3, im5, im6, im11, im12, im13, im14, im1000, I_add, I_sub, I_mul, I_nat, I_le]
    rw [if_neg (by omega), (kdC hk).2.2, ix_d (by omega) (by omega) (by decide)]
    simp only [Int.toNat_natCast, lt_d]
    simp only [h.2.2.2 i hi, I_add, nS]
    rfl
  · rw [nums hk hr, (kdC hk).2.2, I_nat, if_pos (by decide)]
def dif (g f : Gd) : Nat → Int
  | 0 => 0
  | n + 1 => dif g f n + if g (3 + n) = f (3 + n) then 0 else 1
theorem s_differing {w : Wd} {t u : Nat} {g f : Gd} (hk : kd t = 0) (hr : w.2 t 3 = some (t + 1)) (hk2 : kd u = 0) (hr2 : w.2 u 3 = some (u + 1)) (h : CG w t g) (h2 : CG w u f) (hb : ∀ j, j < 25 → (-2147483648 ≤ g (3 + j) ∧ g (3 + j) < 2147483648) ∧ (-2147483648 ≤ f (3 + j) ∧ f (3 + j) < 2147483648)) : f_X0_differing t u w = some (I (dif g f 25)) := by
  unfold f_X0_differing
  refine wl2_for 25 (fun i => I (dif g f i)) (fun i => I i) (by decide) rfl rfl (fun i hi k => ?_) (fun k => ?_)
  · have hb1 := hb i hi
    rw [nums hk hr, (kdC hk).2.2, nums hk hr, I_nat]
    simp (disch := omega) only [i0, i1, i2, i3, i4, i5, i6, i7, i8, i9, i10, i12, i14, i20, i25, i26, i28, i30, i36, i48, i49, i50, i53, i57, i59, i60, i63, i75, i80, i99, i100, i196, i255, i1000, im1, im2, im3, im5, im6, im11, im12, im13, im14, im1000, I_add, I_sub, I_mul, I_nat, I_le]
    rw [if_neg (by omega), (kdC hk).2.2, ix_d (by omega) (by omega) (by decide), nums hk2 hr2, (kdC hk2).2.2, ix_d (by omega) (by omega) (by decide)]
    simp only [Int.toNat_natCast, lt_d]
    simp (disch := omega) only [h.2.2.2 i hi, h2.2.2.2 i hi, I_eq, I_ite, I_add, nS]
    rfl
  · rw [nums hk hr, (kdC hk).2.2, I_nat, if_pos (by decide)]


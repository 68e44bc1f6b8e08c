/-- how many parts are above j -/
def abv (s : Nat → Int) (j : Int) : Nat → Nat
  | 0 => 0
  | n + 1 => abv s j n + if j < s n then 1 else 0
theorem abv_s (s : Nat → Int) (j : Int) (i : Nat) : ((abv s j (i + 1) : Nat) : Int) = (abv s j i : Int) + (if j < s i then 1 else 0) := by
  show ((abv s j i + (if j < s i then 1 else 0) : Nat) : Int) = _
  (repeat' split) <;> omega
theorem abv_le (s : Nat → Int) (j : Int) : ∀ n, abv s j n ≤ n
  | 0 => Nat.le_refl _
  | n + 1 => by
    have := abv_le s j n
    show abv s j n + (if j < s n then 1 else 0) ≤ _
    split <;> omega
theorem abv_len {s : Nat → Int} {W : Int} (hs : Gs s W) {j : Int} (hj : 0 ≤ j) : ∀ d, abv s j (len s + d) = abv s j (len s)
  | 0 => rfl
  | d + 1 => by
    have h1 := abv_len hs hj d
    have h2 := len_z hs (k := len s + d) (by omega)
    show abv s j (len s + d) + (if j < s (len s + d) then 1 else 0) = _
    rw [if_neg (by omega)]; omega
theorem s_partsAbove {w : Wd} {t : Nat} {s : Nat → Int} {W j : Int} (hk : kd t = 5) (hr : w.2 t 0 = some (t + 1)) (h : ShC w t s) (hs : Gs s W) (hb : W ≤ 75) (hj : 0 ≤ j ∧ j < 2147483648) : f_X5_partsAbove t (I j) w = some (I (abv s j (len s))) := by
  have hl := len_b s
  unfold f_X5_partsAbove
  rw [h.1]
  refine wl2_for (len s) (fun i => I (abv s j i)) (fun i => I i) (fu_lt (by omega)) rfl rfl (fun i hi k => ?_) (fun k => ?_)
  · have x1 := hs.1 i; have x2 := hs.b i
    simp (disch := omega) only [↓j_m1, ↓j_m2, ↓j_m3, ↓j_m5, ↓j_m6, ↓j_m11, ↓j_m12, ↓j_m13, ↓j_m14, ↓j_m1000, j_0, j_1, j_2, j_3, j_4, j_5, j_6, j_7, j_8, j_9, j_10, j_12, j_14, j_20, j_25, j_26, j_28, j_30, j_36, j_48, j_49, j_50, j_53, j_57, j_59, j_60, j_63, j_75, j_80, j_99, j_100, j_196, j_255, j_1000, I_le]
    rw [if_neg (by omega), rf9 hr (kdS hk), (kdS hk).2.2, ix_d (by omega) (by omega) (by decide), Int.toNat_natCast, h.2.2 i hi]
    simp (disch := omega) only [lt_d, I_le, I_ite, I_add, nS]
    rw [abv_s]
    congr 3
    (repeat' split) <;> omega
  · simp (disch := omega) only [I_le]
    rw [if_pos (by omega)]

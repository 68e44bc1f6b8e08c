/-! shapes in the class -/
def ShC (w : Wd) (t : Nat) (s : Nat → Int) : Prop := w.1 t 1 = I (len s) ∧ w.1 t 2 = I (tsum s 75) ∧ ∀ k, k < len s → w.1 (t + 1) k = I (s k)
theorem ShC.of {w w' : Wd} {t : Nat} {s : Nat → Int} (h : ShC w t s) (h1 : ∀ b, 0 < b → w'.1 t b = w.1 t b) (h2 : ∀ b, w'.1 (t + 1) b = w.1 (t + 1) b) : ShC w' t s := ⟨(h1 1 (by decide)).trans h.1, (h1 2 (by decide)).trans h.2.1, fun k hk => (h2 k).trans (h.2.2 k hk)⟩
theorem s_partAt {w : Wd} {t : Nat} {s : Nat → Int} {W : Int} (hk : kd t = 5) (hr : w.2 t 0 = some (t + 1)) (h : ShC w t s) (hs : Gs s W) {i : Nat} (hi : i < 2147483648) : f_X5_partAt t (I i) w = some (I (s i)) := by
  have hl := len_b s
  unfold f_X5_partAt
  rw [jn_d, h.1]
  simp (disch := omega) only [i0, i1, i2, i3, i4, i5, i6, i7, i8, i9, i10, i12, i14, i20, i25, i26, i28, i30, i36, i48, i49, i50, i53, i57, i59, i60, i63, i75, i80, i99, i100, i196, i255, i1000, im1, im2, im3, im5, im6, im11, im12, im13, im14, im1000, I_lt, I_le, I_eq]
  rw [if_neg (by omega)]
  by_cases c : i < len s
  · rw [if_neg (by omega), rf9 hr (kdS hk), (kdS hk).2.2, ix_d (by omega) (by omega) (by decide), lt_d, Int.toNat_natCast, h.2.2 i c]
  · rw [if_pos (by omega), len_z hs (by omega)]
theorem s_grownPart {r o a b c : Int} (hr : 0 ≤ r ∧ r ≤ 3) (ho : 0 ≤ o ∧ o < 1000) (ha : 0 ≤ a ∧ a < 1000) (hb : 0 ≤ b ∧ b < 1000) (hc : 0 ≤ c ∧ c < 1000) : f_X5_grownPart (I r) (I o) (I a) (I b) (I c) = some (I (gN r o a b c)) := by
  unfold f_X5_grownPart gN
  rw [I_toInt (by omega) (by omega)]
  by_cases h0 : r = 0
  · rw [if_pos h0, if_pos h0, lt_d]
    simp (disch := omega) only [I_lt, I_le, I_eq, I_ite, I_add]
    rfl
  · rw [if_neg h0, if_neg h0]
    by_cases h1 : r = 1
    · rw [if_pos h1, if_pos h1, lt_d]
      simp (disch := omega) only [I_add, I_lt, I_le, I_eq, I_ite]
      rfl
    · rw [if_neg h1, if_neg h1]
      by_cases h2 : r = 2
      · rw [if_pos h2, if_pos h2, lt_d]
        simp (disch := omega) only [I_add, I_lt, I_le, I_eq, I_ite]
        rfl
      · rw [if_neg h2, if_neg h2, lt_d, lt_d, lt_d]
        simp (disch := omega) only [i0, i1, i2, i3, i4, i5, i6, i7, i8, i9, i10, i12, i14, i20, i25, i26, i28, i30, i36, i48, i49, i50, i53, i57, i59, i60, i63, i75, i80, i99, i100, i196, i255, i1000, im1, im2, im3, im5, im6, im11, im12, im13, im14, im1000, I_lt, I_le, I_eq, I_ite, I_add]
        rfl
/-- the world when i parts of s have been written at t -/
def shw (w : Wd) (t : Nat) (s : Nat → Int) (i : Nat) : Wd := (fun a b => if a = t ∧ b = 1 then I i else if a = t ∧ b = 2 then I (tsum s i) else if a = t + 1 ∧ b < i then I (s b) else w.1 a b, w.2)
theorem shw_1 (w : Wd) (t : Nat) (s : Nat → Int) (i : Nat) : (shw w t s i).1 t 1 = I i := if_pos ⟨rfl, rfl⟩
theorem shw_2 (w : Wd) (t : Nat) (s : Nat → Int) (i : Nat) : (shw w t s i).1 t 2 = I (tsum s i) := (if_neg (by omega)).trans (if_pos ⟨rfl, rfl⟩)
theorem shw_i {w : Wd} {t : Nat} {s : Nat → Int} {i b : Nat} (h : b < i) : (shw w t s i).1 (t + 1) b = I (s b) := (if_neg (by omega)).trans ((if_neg (by omega)).trans (if_pos ⟨rfl, h⟩))
theorem shw_n {w : Wd} {t : Nat} {s : Nat → Int} {i a b : Nat} (h1 : ¬ (a = t ∧ (b = 1 ∨ b = 2))) (h2 : a ≠ t + 1) : (shw w t s i).1 a b = w.1 a b := (if_neg (by omega)).trans ((if_neg (by omega)).trans (if_neg (by omega)))
theorem shw_m {w : Wd} {t : Nat} {s : Nat → Int} {i b : Nat} (h2 : ¬ b < i) : (shw w t s i).1 (t + 1) b = w.1 (t + 1) b := (if_neg (by omega)).trans ((if_neg (by omega)).trans (if_neg (by omega)))
theorem shw_s {w : Wd} {t : Nat} {s : Nat → Int} {i : Nat} : upI (upI (upI (shw w t s i) (t + 1) i (I (s i))) t 1 (I ((i + 1 : Nat) : Int))) t 2 (I (tsum s (i + 1))) = shw w t s (i + 1) := by
  refine W_ext (fun a b => ?_) rfl
  by_cases h1 : a = t ∧ b = 1
  · obtain ⟨rfl, rfl⟩ := h1
    rw [shw_1, upI_n (by omega), upI_s]
  · by_cases h2 : a = t ∧ b = 2
    · obtain ⟨rfl, rfl⟩ := h2
      rw [shw_2, upI_s]
    · rw [upI_n h2, upI_n h1]
      by_cases h3 : a = t + 1
      · subst h3
        by_cases h4 : b = i
        · subst h4; rw [upI_s, shw_i (by omega)]
        · rw [upI_n (by omega)]
          by_cases h5 : b < i
          · rw [shw_i h5, shw_i (by omega)]
          · rw [shw_m h5, shw_m (by omega)]
      · rw [upI_n (by omega), shw_n (by omega) h3, shw_n (by omega) h3]
theorem s_makeEmpty (w : Wd) (t : Nat) (s : Nat → Int) : f_X5_makeEmpty t w = some (shw w t s 0) := by
  unfold f_X5_makeEmpty
  rw [lt_d, lt_d]
  refine congrArg some (W_ext (fun a b => ?_) rfl)
  by_cases h1 : a = t ∧ b = 1
  · obtain ⟨rfl, rfl⟩ := h1
    rw [shw_1, upI_n (by omega), upI_s]; rfl
  · by_cases h2 : a = t ∧ b = 2
    · obtain ⟨rfl, rfl⟩ := h2
      rw [shw_2, upI_s]; rfl
    · rw [upI_n h2, upI_n h1]
      by_cases h3 : a = t + 1
      · subst h3; rw [shw_m (by omega)]
      · rw [shw_n (by omega) h3]
theorem shw_len {w : Wd} {t : Nat} {s : Nat → Int} {W : Int} (hs : Gs s W) : ShC (shw w t s (len s)) t s := by
  refine ⟨shw_1 _ _ _ _, ?_, fun k hk => shw_i hk⟩
  rw [shw_2]
  have key : ∀ d, tsum s (len s + d) = tsum s (len s) := fun d => by
    induction d with
    | zero => rfl
    | succ d ih =>
      show tsum s (len s + d) + s (len s + d) = _
      rw [ih, len_z hs (by omega)]
      omega
  have hl := len_b s
  rw [← key (75 - len s), show len s + (75 - len s) = 75 by omega]
theorem s_growFrom {w : Wd} {t o a b : Nat} {r wt : Int} {so sa sb : Nat → Int} {Wo Wa Wb : Int} (hW : Wi w.2) (kt : kd t = 5) (ko : kd o = 5) (ka : kd a = 5) (kb : kd b = 5) (no : o ≠ t) (na : a ≠ t) (nb : b ≠ t) (Co : ShC w o so) (Ca : ShC w a sa) (Cb : ShC w b sb)
    (hr : 0 ≤ r ∧ r ≤ 3) (hw : 0 ≤ wt ∧ wt ≤ 3) (Ho : Gs so Wo) (Ha : Gs sa Wa) (Hb : Gs sb Wb) (h1 : ∀ k, so k ≤ sa k) (h2 : ∀ k, so k ≤ sb k) (hT : wt + Wa + Wb - Wo ≤ 75) (hG : Gs (gp r wt so sa sb) (wt + Wa + Wb - Wo)) (bo : Wo ≤ 75) (ba : Wa ≤ 75) (bb : Wb ≤ 75) :
    f_X5_growFrom t o a b (I wt) (I r) w = some (shw w t (gp r wt so sa sb) (len (gp r wt so sa sb))) := by
  have hsh := hW.2.2.1
  have hl := len_b (gp r wt so sa sb)
  have fr : ∀ i u, kd u = 5 → u ≠ t → (∀ q, 0 < q → (shw w t (gp r wt so sa sb) i).1 u q = w.1 u q) ∧ ∀ q, (shw w t (gp r wt so sa sb) i).1 (u + 1) q = w.1 (u + 1) q := fun i u hu hne => by
    have n1 : u ≠ t + 1 := fun e => by have := (kdS kt).2.1; rw [← e, hu] at this; cases this
    have n2 : u + 1 ≠ t := fun e => by have := (kdS hu).2.1; rw [e, kt] at this; cases this
    exact ⟨fun q _ => shw_n (by omega) n1, fun q => shw_n (by omega) (by omega)⟩
  unfold f_X5_growFrom
  rw [c1_r (s_makeEmpty w t (gp r wt so sa sb))]
  refine wl3_for (len (gp r wt so sa sb)) (fun i => I (gc r wt so sa sb i)) (fun i => I i) (fun i => shw w t (gp r wt so sa sb) i) (fu_lt (by omega)) rfl rfl rfl (fun i hi k => ?_) (fun k => ?_)
  · obtain ⟨f1, f2⟩ := fr i o ko no
    obtain ⟨f3, f4⟩ := fr i a ka na
    obtain ⟨f5, f6⟩ := fr i b kb nb
    have x1 := Ho.1 i; have x2 := Ho.b i; have x3 := Ha.1 i; have x4 := Ha.b i; have x5 := Hb.1 i; have x6 := Hb.b i
    have x7 := gc_b hr hw.1 Ho.1 h1 h2 i
    have x8 := gc_le hr hw.1 Ho Ha Hb h1 h2 i (by omega)
    have x9 := (len_p hG i).1 hi
    have x10 := hG.b i
    have x11 := hG.tb i
    have x12 := h1 i
    have x13 := h2 i
    simp (disch := omega) only [i0, i1, i2, i3, i4, i5, i6, i7, i8, i9, i10, i12, i14, i20, i25, i26, i28, i30, i36, i48, i49, i50, i53, i57, i59, i60, i63, i75, i80, i99, i100, i196, i255, i1000, im1, im2, im3, im5, im6, im11, im12, im13, im14, im1000, I_le]
    rw [if_neg (by omega), c1_r (s_partAt (w := shw w t (gp r wt so sa sb) i) ko (hsh _ ko) (Co.of f1 f2) Ho (by omega)), c1_r (s_partAt (w := shw w t (gp r wt so sa sb) i) ka (hsh _ ka) (Ca.of f3 f4) Ha (by omega)), c1_r (s_partAt (w := shw w t (gp r wt so sa sb) i) kb (hsh _ kb) (Cb.of f5 f6) Hb (by omega)), c1_r (s_grownPart hr (by omega) (by omega) (by omega) (by omega))]
    rw [show gN r (so i) (sa i) (sb i) (gc r wt so sa sb i) = gp r wt so sa sb i from rfl]
    simp (disch := omega) only [I_lt]
    rw [if_pos x9, show (shw w t (gp r wt so sa sb) i).2 = w.2 from rfl, rf9 (hsh _ kt) (kdS kt), (kdS kt).2.2, ix_d (by omega) (by omega) (by decide), lt_d, lt_d, lt_d, lt_d, lt_d, Int.toNat_natCast]
    have e1 : t ≠ t + 1 := by omega
    rw [upI_n (by omega), upI_n (by omega), shw_2]
    simp only [I_add, I_sub, I_mul, I_nat]
    have e2 := shw_s (w := w) (t := t) (s := gp r wt so sa sb) (i := i)
    rw [show tsum (gp r wt so sa sb) (i + 1) = tsum (gp r wt so sa sb) i + gp r wt so sa sb i from rfl] at e2
    rw [nS, e2]
    congr 2
  · have e0 := len_z hG (Nat.le_refl _)
    simp (disch := omega) only [i0, i1, i2, i3, i4, i5, i6, i7, i8, i9, i10, i12, i14, i20, i25, i26, i28, i30, i36, i48, i49, i50, i53, i57, i59, i60, i63, i75, i80, i99, i100, i196, i255, i1000, im1, im2, im3, im5, im6, im11, im12, im13, im14, im1000, I_le]
    by_cases c : len (gp r wt so sa sb) = 75
    · rw [if_pos (by omega)]
    · rw [if_neg (by omega)]
      generalize hn : len (gp r wt so sa sb) = n at *
      obtain ⟨f1, f2⟩ := fr n o ko no
      obtain ⟨f3, f4⟩ := fr n a ka na
      obtain ⟨f5, f6⟩ := fr n b kb nb
      have x1 := Ho.1 n; have x2 := Ho.b n; have x3 := Ha.1 n; have x4 := Ha.b n; have x5 := Hb.1 n; have x6 := Hb.b n
      have x7 := gc_b hr hw.1 Ho.1 h1 h2 n
      have x8 := gc_le hr hw.1 Ho Ha Hb h1 h2 n (by omega)
      have x12 := h1 n
      have x13 := h2 n
      rw [c1_r (s_partAt (w := shw w t (gp r wt so sa sb) n) ko (hsh _ ko) (Co.of f1 f2) Ho (by omega)), c1_r (s_partAt (w := shw w t (gp r wt so sa sb) n) ka (hsh _ ka) (Ca.of f3 f4) Ha (by omega)), c1_r (s_partAt (w := shw w t (gp r wt so sa sb) n) kb (hsh _ kb) (Cb.of f5 f6) Hb (by omega)), c1_r (s_grownPart hr (by omega) (by omega) (by omega) (by omega))]
      rw [show gN r (so n) (sa n) (sb n) (gc r wt so sa sb n) = gp r wt so sa sb n from rfl, e0]
      rfl


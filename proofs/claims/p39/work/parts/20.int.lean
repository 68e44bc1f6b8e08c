/-! whole numbers behind ints -/
def I (z : Int) : Int32 := Int32.ofInt z
def LI (z : Int) : Int64 := Int64.ofInt z
theorem I_toInt {z : Int} (h1 : -2147483648 ≤ z) (h2 : z < 2147483648) : (I z).toInt = z := Int32.toInt_ofInt_of_le (by simpa using h1) (by simpa using h2)
theorem I_of (x : Int32) : ∃ z : Int, (-2147483648 ≤ z ∧ z < 2147483648) ∧ x = I z := ⟨x.toInt, ⟨Int32.le_toInt x, Int32.toInt_lt x⟩, (Int32.ofInt_toInt x).symm⟩
theorem I_add (a b : Int) : I a + I b = I (a + b) := (Int32.ofInt_add a b).symm
theorem I_sub (a b : Int) : I a - I b = I (a - b) := (Int32.ofInt_sub a b).symm
theorem I_mul (a b : Int) : I a * I b = I (a * b) := (Int32.ofInt_mul a b).symm
theorem I_lt {a b : Int} (h1 : -2147483648 ≤ a) (h2 : a < 2147483648) (h3 : -2147483648 ≤ b) (h4 : b < 2147483648) : (I a < I b) = (a < b) := by
  rw [Int32.lt_iff_toInt_lt, I_toInt h1 h2, I_toInt h3 h4]
theorem I_le {a b : Int} (h1 : -2147483648 ≤ a) (h2 : a < 2147483648) (h3 : -2147483648 ≤ b) (h4 : b < 2147483648) : (I a ≤ I b) = (a ≤ b) := by
  rw [Int32.le_iff_toInt_le, I_toInt h1 h2, I_toInt h3 h4]
theorem I_eq {a b : Int} (h1 : -2147483648 ≤ a) (h2 : a < 2147483648) (h3 : -2147483648 ≤ b) (h4 : b < 2147483648) : (I a = I b) = (a = b) := by
  rw [← Int32.toInt_inj, I_toInt h1 h2, I_toInt h3 h4]
theorem I_nat (n : Nat) : Int32.ofNat n = I n := Int32.ofInt_eq_ofNat.symm
theorem I_clamp {z : Int} (h1 : -2147483648 ≤ z) (h2 : z < 2147483648) : (I z).toNatClampNeg = z.toNat := Int32.toNatClampNeg_ofInt_of_le (by simpa using h1) (by simpa using h2)
theorem I_div {a b : Int} (h1 : 0 ≤ a) (h2 : a < 2147483648) (h3 : 0 < b) (h4 : b < 2147483648) : I a / I b = I (a / b) := by
  have := Int32.ofInt_tdiv (a := a) (b := b) (by have : Int32.minValue.toInt = -2147483648 := rfl; omega) (by have : Int32.maxValue.toInt = 2147483647 := rfl; omega) (by have : Int32.minValue.toInt = -2147483648 := rfl; omega) (by have : Int32.maxValue.toInt = 2147483647 := rfl; omega)
  rw [Int.tdiv_eq_ediv_of_nonneg h1] at this
  exact this.symm
theorem I_long {z : Int} (h1 : -2147483648 ≤ z) (h2 : z < 2147483648) : (I z).toInt64 = LI z := Int32.toInt64_ofInt (by simpa using h1) (by have : Int32.maxValue.toInt = 2147483647 := rfl; omega)
theorem LI_toInt {z : Int} (h1 : -9223372036854775808 ≤ z) (h2 : z < 9223372036854775808) : (LI z).toInt = z := Int64.toInt_ofInt_of_le (by simpa using h1) (by simpa using h2)
theorem LI_add (a b : Int) : LI a + LI b = LI (a + b) := (Int64.ofInt_add a b).symm
theorem LI_mul (a b : Int) : LI a * LI b = LI (a * b) := (Int64.ofInt_mul a b).symm
theorem LI_lt {a b : Int} (h1 : -9223372036854775808 ≤ a) (h2 : a < 9223372036854775808) (h3 : -9223372036854775808 ≤ b) (h4 : b < 9223372036854775808) : (LI a < LI b) = (a < b) := by
  rw [Int64.lt_iff_toInt_lt, LI_toInt h1 h2, LI_toInt h3 h4]
theorem LI_eq {a b : Int} (h1 : -9223372036854775808 ≤ a) (h2 : a < 9223372036854775808) (h3 : -9223372036854775808 ≤ b) (h4 : b < 9223372036854775808) : (LI a = LI b) = (a = b) := by
  rw [← Int64.toInt_inj, LI_toInt h1 h2, LI_toInt h3 h4]
theorem LI_div {a b : Int} (h1 : 0 ≤ a) (h2 : a < 9223372036854775808) (h3 : 0 < b) (h4 : b < 9223372036854775808) : LI a / LI b = LI (a / b) := by
  have := Int64.ofInt_tdiv (a := a) (b := b) (by have : Int64.minValue.toInt = -9223372036854775808 := rfl; omega) (by have : Int64.maxValue.toInt = 9223372036854775807 := rfl; omega) (by have : Int64.minValue.toInt = -9223372036854775808 := rfl; omega) (by have : Int64.maxValue.toInt = 9223372036854775807 := rfl; omega)
  rw [Int.tdiv_eq_ediv_of_nonneg h1] at this
  exact this.symm
theorem LI_int (z : Int) : (LI z).toInt32 = I z := by
  unfold LI I
  exact Int64.toInt32_ofInt
theorem LI_cmp {a b : Int} (h1 : -9223372036854775808 ≤ a) (h2 : a < 9223372036854775808) (h3 : -9223372036854775808 ≤ b) (h4 : b < 9223372036854775808) : lg_cmp (LI a) (LI b) = I (if b < a then 1 else if a = b then 0 else -1) := by
  unfold lg_cmp
  simp only [gt_iff_lt, LI_lt h3 h4 h1 h2, LI_eq h1 h2 h3 h4]
  by_cases c1 : b < a
  · rw [if_pos c1, if_pos c1]; rfl
  · rw [if_neg c1, if_neg c1]
    by_cases c2 : a = b
    · rw [if_pos c2, if_pos c2]; rfl
    · rw [if_neg c2, if_neg c2]; rfl

theorem i0 : (0 : Int32) = I 0 := rfl
theorem i1 : (1 : Int32) = I 1 := rfl
theorem i2 : (2 : Int32) = I 2 := rfl
theorem i3 : (3 : Int32) = I 3 := rfl
theorem i4 : (4 : Int32) = I 4 := rfl
theorem i5 : (5 : Int32) = I 5 := rfl
theorem i6 : (6 : Int32) = I 6 := rfl
theorem i7 : (7 : Int32) = I 7 := rfl
theorem i8 : (8 : Int32) = I 8 := rfl
theorem i9 : (9 : Int32) = I 9 := rfl
theorem i10 : (10 : Int32) = I 10 := rfl
theorem i12 : (12 : Int32) = I 12 := rfl
theorem i14 : (14 : Int32) = I 14 := rfl
theorem i20 : (20 : Int32) = I 20 := rfl
theorem i25 : (25 : Int32) = I 25 := rfl
theorem i26 : (26 : Int32) = I 26 := rfl
theorem i28 : (28 : Int32) = I 28 := rfl
theorem i30 : (30 : Int32) = I 30 := rfl
theorem i36 : (36 : Int32) = I 36 := rfl
theorem i48 : (48 : Int32) = I 48 := rfl
theorem i50 : (50 : Int32) = I 50 := rfl
theorem i53 : (53 : Int32) = I 53 := rfl
theorem i57 : (57 : Int32) = I 57 := rfl
theorem i59 : (59 : Int32) = I 59 := rfl
theorem i49 : (49 : Int32) = I 49 := rfl
theorem i60 : (60 : Int32) = I 60 := rfl
theorem i63 : (63 : Int32) = I 63 := rfl
theorem i75 : (75 : Int32) = I 75 := rfl
theorem i80 : (80 : Int32) = I 80 := rfl
theorem i99 : (99 : Int32) = I 99 := rfl
theorem i100 : (100 : Int32) = I 100 := rfl
theorem i196 : (196 : Int32) = I 196 := rfl
theorem i255 : (255 : Int32) = I 255 := rfl
theorem i1000 : (1000 : Int32) = I 1000 := rfl
theorem im1 : (-1 : Int32) = I (-1) := rfl
theorem im2 : (-2 : Int32) = I (-2) := rfl
theorem im3 : (-3 : Int32) = I (-3) := rfl
theorem im5 : (-5 : Int32) = I (-5) := rfl
theorem im6 : (-6 : Int32) = I (-6) := rfl
theorem im11 : (-11 : Int32) = I (-11) := rfl
theorem im12 : (-12 : Int32) = I (-12) := rfl
theorem im13 : (-13 : Int32) = I (-13) := rfl
theorem im14 : (-14 : Int32) = I (-14) := rfl
theorem im1000 : (-1000 : Int32) = I (-1000) := rfl
theorem l0 : (0 : Int64) = LI 0 := rfl
theorem l1 : (1 : Int64) = LI 1 := rfl
theorem l2 : (2 : Int64) = LI 2 := rfl
theorem l3 : (3 : Int64) = LI 3 := rfl
theorem l4 : (4 : Int64) = LI 4 := rfl
theorem l5 : (5 : Int64) = LI 5 := rfl
theorem l8 : (8 : Int64) = LI 8 := rfl
theorem l30 : (30 : Int64) = LI 30 := rfl
theorem l99 : (99 : Int64) = LI 99 := rfl
theorem l2147483647 : (2147483647 : Int64) = LI 2147483647 := rfl
theorem lm1 : (-9223372036854775808 : Int64) = LI (-9223372036854775808) := rfl
/-! the words of the functions -/
theorem lt_d {α β : Type} (a : α) (f : α → β) : lt a f = f a := rfl
theorem lt2_d {α α2 β : Type} (a : α) (b : α2) (f : α → α2 → β) : lt2 a b f = f a b := rfl
theorem lt3_d {α α2 α3 β : Type} (a : α) (b : α2) (c : α3) (f : α → α2 → α3 → β) : lt3 a b c f = f a b c := rfl
theorem jn_d {κ β : Type} (K : κ) (f : κ → β) : jn K f = f K := rfl
theorem c1_d {α ρ : Type} (a : α) (K : α → Option ρ) : c1 (some a) K = K a := rfl
theorem c2_d {α ρ : Type} (a : α) (w : Wd) (K : α → Wd → Option ρ) : c2 (some (a, w)) K = K a w := rfl
theorem c1_r {α ρ : Type} {x : Option α} {a : α} (h : x = some a) (K : α → Option ρ) : c1 x K = K a := by rw [h]; rfl
theorem c2_r {α ρ : Type} {x : Option (α × Wd)} {a : α} {w : Wd} (h : x = some (a, w)) (K : α → Wd → Option ρ) : c2 x K = K a w := by rw [h]; rfl
theorem ix_d {ρ : Type} {z : Int} {n : Nat} (h1 : 0 ≤ z) (h2 : z < n) (hn : n < 2147483648) (K : Nat → Option ρ) : ix (I z) n K = K z.toNat := by
  unfold ix
  rw [I_toInt (by omega) (by omega), if_pos ⟨h1, h2⟩, I_clamp (by omega) (by omega)]
theorem ck_d {ρ : Type} {n r P : Nat} (h1 : r < n) (h2 : kd r = P) (K : Option ρ) : ck n r P K = K := if_pos ⟨h1, h2⟩
theorem rf_d {ρ : Type} {n P r : Nat} {o : Option Nat} (h : o = some r) (h1 : r < n) (h2 : kd r = P) (K : Nat → Option ρ) : rf n o P K = K r := by
  rw [h]; exact if_pos ⟨h1, h2⟩
theorem nz_d {ρ : Type} {y : Int32} (h : ¬ y = 0) (K : Option ρ) : nz y K = K := if_neg h
theorem nzl_d {ρ : Type} {y : Int64} (h : ¬ y = 0) (K : Option ρ) : nzl y K = K := if_neg h
theorem zb_0 {ρ : Type} (K : Option ρ) : zb (I 0) K = K := if_pos (Or.inl rfl)
theorem zb_1 {ρ : Type} (K : Option ρ) : zb (I 1) K = K := if_pos (Or.inr rfl)
theorem zb_i {ρ : Type} {c : Prop} [Decidable c] (K : Option ρ) : zb (I (if c then 1 else 0)) K = K := by by_cases h : c <;> simp [h, zb_0, zb_1]
theorem I_ite {c : Prop} [Decidable c] (a b : Int) : (if c then I a else I b) = I (if c then a else b) := by by_cases h : c <;> simp [h]
/-! worlds -/
def fill (w : Wd) (k n : Nat) (f : Nat → Int32) : Wd := (fun a b => if a = k ∧ b < n then f b else w.1 a b, w.2)
theorem fill_1 (w : Wd) (k n : Nat) (f : Nat → Int32) (a b : Nat) : (fill w k n f).1 a b = if a = k ∧ b < n then f b else w.1 a b := rfl
theorem fill_2 (w : Wd) (k n : Nat) (f : Nat → Int32) : (fill w k n f).2 = w.2 := rfl
theorem upI_1 (w : Wd) (k j : Nat) (v : Int32) (a b : Nat) : (upI w k j v).1 a b = if a = k ∧ b = j then v else w.1 a b := rfl
theorem upI_2 (w : Wd) (k j : Nat) (v : Int32) : (upI w k j v).2 = w.2 := rfl
theorem upR_1 (w : Wd) (k j v : Nat) : (upR w k j v).1 = w.1 := rfl
theorem upR_2 (w : Wd) (k j v a b : Nat) : (upR w k j v).2 a b = if a = k ∧ b = j then some v else w.2 a b := rfl
theorem W_ext {w v : Wd} (h1 : ∀ a b, w.1 a b = v.1 a b) (h2 : w.2 = v.2) : w = v := by
  obtain ⟨w1, w2⟩ := w
  obtain ⟨v1, v2⟩ := v
  have e1 : w1 = v1 := funext fun a => funext fun b => h1 a b
  have e2 : w2 = v2 := h2
  rw [e1, e2]
theorem fill_0 (w : Wd) (k : Nat) (f : Nat → Int32) : fill w k 0 f = w := W_ext (fun a b => by rw [fill_1, if_neg (by omega)]) rfl
theorem fill_s (w : Wd) (k i : Nat) (f : Nat → Int32) : upI (fill w k i f) k i (f i) = fill w k (i + 1) f := W_ext (fun a b => by
  rw [upI_1, fill_1, fill_1]
  by_cases h : a = k ∧ b = i
  · obtain ⟨rfl, rfl⟩ := h
    rw [if_pos ⟨rfl, rfl⟩, if_pos ⟨rfl, Nat.lt_succ_self _⟩]
  · rw [if_neg h]
    by_cases h2 : a = k ∧ b < i
    · rw [if_pos h2, if_pos ⟨h2.1, by omega⟩]
    · rw [if_neg h2, if_neg (by omega)]) rfl

theorem wl1_for {α0 ρ : Type} {body : α0 → (α0 → Option ρ) → Option ρ} {E : Option ρ} (N : Nat) (s0 : Nat → α0) {n : Nat} {a0 : α0} (hn : N < n) (h0 : a0 = s0 0) (step : ∀ i, i < N → ∀ k, body (s0 i) k = k (s0 (i + 1))) (fin : ∀ k, body (s0 N) k = E) : wl1 body n a0 = E := by
  rw [h0]
  have key : ∀ d i m, i + d = N → d < m → wl1 body m (s0 i) = E := by
    intro d
    induction d with
    | zero =>
      intro i m hi hm
      obtain ⟨m, rfl⟩ : ∃ q, m = q + 1 := ⟨m - 1, by omega⟩
      obtain rfl : i = N := by omega
      exact fin _
    | succ d ih =>
      intro i m hi hm
      obtain ⟨m, rfl⟩ : ∃ q, m = q + 1 := ⟨m - 1, by omega⟩
      exact (step i (by omega) _).trans (ih (i + 1) m (by omega) (by omega))
  exact key N 0 n (by omega) hn
theorem wl2_for {α0 α1 ρ : Type} {body : α0 → α1 → (α0 → α1 → Option ρ) → Option ρ} {E : Option ρ} (N : Nat) (s0 : Nat → α0) (s1 : Nat → α1) {n : Nat} {a0 : α0} {a1 : α1} (hn : N < n) (h0 : a0 = s0 0) (h1 : a1 = s1 0) (step : ∀ i, i < N → ∀ k, body (s0 i) (s1 i) k = k (s0 (i + 1)) (s1 (i + 1))) (fin : ∀ k, body (s0 N) (s1 N) k = E) : wl2 body n a0 a1 = E := by
  rw [h0, h1]
  have key : ∀ d i m, i + d = N → d < m → wl2 body m (s0 i) (s1 i) = E := by
    intro d
    induction d with
    | zero =>
      intro i m hi hm
      obtain ⟨m, rfl⟩ : ∃ q, m = q + 1 := ⟨m - 1, by omega⟩
      obtain rfl : i = N := by omega
      exact fin _
    | succ d ih =>
      intro i m hi hm
      obtain ⟨m, rfl⟩ : ∃ q, m = q + 1 := ⟨m - 1, by omega⟩
      exact (step i (by omega) _).trans (ih (i + 1) m (by omega) (by omega))
  exact key N 0 n (by omega) hn
theorem wl3_for {α0 α1 α2 ρ : Type} {body : α0 → α1 → α2 → (α0 → α1 → α2 → Option ρ) → Option ρ} {E : Option ρ} (N : Nat) (s0 : Nat → α0) (s1 : Nat → α1) (s2 : Nat → α2) {n : Nat} {a0 : α0} {a1 : α1} {a2 : α2} (hn : N < n) (h0 : a0 = s0 0) (h1 : a1 = s1 0) (h2 : a2 = s2 0) (step : ∀ i, i < N → ∀ k, body (s0 i) (s1 i) (s2 i) k = k (s0 (i + 1)) (s1 (i + 1)) (s2 (i + 1))) (fin : ∀ k, body (s0 N) (s1 N) (s2 N) k = E) : wl3 body n a0 a1 a2 = E := by
  rw [h0, h1, h2]
  have key : ∀ d i m, i + d = N → d < m → wl3 body m (s0 i) (s1 i) (s2 i) = E := by
    intro d
    induction d with
    | zero =>
      intro i m hi hm
      obtain ⟨m, rfl⟩ : ∃ q, m = q + 1 := ⟨m - 1, by omega⟩
      obtain rfl : i = N := by omega
      exact fin _
    | succ d ih =>
      intro i m hi hm
      obtain ⟨m, rfl⟩ : ∃ q, m = q + 1 := ⟨m - 1, by omega⟩
      exact (step i (by omega) _).trans (ih (i + 1) m (by omega) (by omega))
  exact key N 0 n (by omega) hn
theorem wl4_for {α0 α1 α2 α3 ρ : Type} {body : α0 → α1 → α2 → α3 → (α0 → α1 → α2 → α3 → Option ρ) → Option ρ} {E : Option ρ} (N : Nat) (s0 : Nat → α0) (s1 : Nat → α1) (s2 : Nat → α2) (s3 : Nat → α3) {n : Nat} {a0 : α0} {a1 : α1} {a2 : α2} {a3 : α3} (hn : N < n) (h0 : a0 = s0 0) (h1 : a1 = s1 0) (h2 : a2 = s2 0) (h3 : a3 = s3 0) (step : ∀ i, i < N → ∀ k, body (s0 i) (s1 i) (s2 i) (s3 i) k = k (s0 (i + 1)) (s1 (i + 1)) (s2 (i + 1)) (s3 (i + 1))) (fin : ∀ k, body (s0 N) (s1 N) (s2 N) (s3 N) k = E) : wl4 body n a0 a1 a2 a3 = E := by
  rw [h0, h1, h2, h3]
  have key : ∀ d i m, i + d = N → d < m → wl4 body m (s0 i) (s1 i) (s2 i) (s3 i) = E := by
    intro d
    induction d with
    | zero =>
      intro i m hi hm
      obtain ⟨m, rfl⟩ : ∃ q, m = q + 1 := ⟨m - 1, by omega⟩
      obtain rfl : i = N := by omega
      exact fin _
    | succ d ih =>
      intro i m hi hm
      obtain ⟨m, rfl⟩ : ∃ q, m = q + 1 := ⟨m - 1, by omega⟩
      exact (step i (by omega) _).trans (ih (i + 1) m (by omega) (by omega))
  exact key N 0 n (by omega) hn
theorem wl5_for {α0 α1 α2 α3 α4 ρ : Type} {body : α0 → α1 → α2 → α3 → α4 → (α0 → α1 → α2 → α3 → α4 → Option ρ) → Option ρ} {E : Option ρ} (N : Nat) (s0 : Nat → α0) (s1 : Nat → α1) (s2 : Nat → α2) (s3 : Nat → α3) (s4 : Nat → α4) {n : Nat} {a0 : α0} {a1 : α1} {a2 : α2} {a3 : α3} {a4 : α4} (hn : N < n) (h0 : a0 = s0 0) (h1 : a1 = s1 0) (h2 : a2 = s2 0) (h3 : a3 = s3 0) (h4 : a4 = s4 0) (step : ∀ i, i < N → ∀ k, body (s0 i) (s1 i) (s2 i) (s3 i) (s4 i) k = k (s0 (i + 1)) (s1 (i + 1)) (s2 (i + 1)) (s3 (i + 1)) (s4 (i + 1))) (fin : ∀ k, body (s0 N) (s1 N) (s2 N) (s3 N) (s4 N) k = E) : wl5 body n a0 a1 a2 a3 a4 = E := by
  rw [h0, h1, h2, h3, h4]
  have key : ∀ d i m, i + d = N → d < m → wl5 body m (s0 i) (s1 i) (s2 i) (s3 i) (s4 i) = E := by
    intro d
    induction d with
    | zero =>
      intro i m hi hm
      obtain ⟨m, rfl⟩ : ∃ q, m = q + 1 := ⟨m - 1, by omega⟩
      obtain rfl : i = N := by omega
      exact fin _
    | succ d ih =>
      intro i m hi hm
      obtain ⟨m, rfl⟩ : ∃ q, m = q + 1 := ⟨m - 1, by omega⟩
      exact (step i (by omega) _).trans (ih (i + 1) m (by omega) (by omega))
  exact key N 0 n (by omega) hn
theorem fu_lt {n : Nat} (h : n < 3000) : n < fu := h

/-! standard -/
def fac : Nat → Nat
  | 0 => 1
  | n + 1 => fac n * (n + 1)
theorem fac_b : ∀ n, n ≤ 20 → 1 ≤ fac n ∧ fac n ≤ 2432902008176640000 := by decide +kernel
theorem fac_p (n : Nat) : 1 ≤ fac n := by
  induction n with
  | zero => exact Nat.le_refl _
  | succ n ih => exact Nat.mul_pos ih (Nat.succ_pos n)
def hkN (s : Nat → Int) (i j : Nat) : Nat := (s i - j + (abv s j (len s) : Int) - i - 1).toNat
def hrow (s : Nat → Int) (i : Nat) : Nat → Nat
  | 0 => 1
  | j + 1 => hrow s i j * hkN s i j
def hall (s : Nat → Int) : Nat → Nat
  | 0 => 1
  | i + 1 => hall s i * hrow s i (s i).toNat
theorem abv_lo {s : Nat → Int} {W : Int} (hs : Gs s W) {i j : Nat} (h : (j : Int) < s i) : ∀ n, n ≤ i + 1 → abv s j n = n
  | 0, _ => rfl
  | n + 1, hn => by
    have h1 := abv_lo hs h n (by omega)
    have h2 := hs.dn (k := n) (j := i) (by omega)
    show abv s j n + (if (j : Int) < s n then 1 else 0) = n + 1
    rw [h1, if_pos (by omega)]
theorem abv_up {s : Nat → Int} {W : Int} (hs : Gs s W) (i j : Nat) : ∀ d, (abv s j (i + d) : Int) - abv s j i ≤ tsum s (i + d) - tsum s i
  | 0 => by show (abv s j i : Int) - abv s j i ≤ tsum s i - tsum s i; omega
  | d + 1 => by
    have h1 := abv_up hs i j d
    have h2 := abv_s s j (i + d)
    have h3 := hs.1 (i + d)
    have h4 : tsum s (i + d + 1) = tsum s (i + d) + s (i + d) := rfl
    show (abv s j (i + d + 1) : Int) - abv s j i ≤ tsum s (i + d + 1) - tsum s i
    rw [h2, h4]
    split <;> omega
theorem abv_mono (s : Nat → Int) (j : Int) (i : Nat) : ∀ d, abv s j i ≤ abv s j (i + d)
  | 0 => Nat.le_refl _
  | d + 1 => Nat.le_trans (abv_mono s j i d) (Nat.le_add_right _ _)
theorem tsum_len {s : Nat → Int} {W : Int} (hs : Gs s W) : tsum s (len s) = W := by
  have hl := len_b s
  have key : ∀ d, tsum s (len s + d) = tsum s (len s) := fun d => by
    induction d with
    | zero => rfl
    | succ d ih =>
      show tsum s (len s + d) + s (len s + d) = _
      rw [ih, len_z hs (by omega)]
      omega
  rw [← key (75 - len s), show len s + (75 - len s) = 75 by omega]
  exact hs.2.2.2
theorem hk_b {s : Nat → Int} {W : Int} (hs : Gs s W) {i j : Nat} (h : (j : Int) < s i) : (1 ≤ hkN s i j ∧ (hkN s i j : Int) ≤ W - tsum s i - j) ∧ s i - j + (abv s j (len s) : Int) - i - 1 = hkN s i j := by
  have hil : i < len s := (len_p hs i).2 (by omega)
  have h1 := abv_lo hs h (i + 1) (Nat.le_refl _)
  have h2 := abv_mono s j (i + 1) (len s - (i + 1))
  have h3 := abv_up hs (i + 1) j (len s - (i + 1))
  have h4 := tsum_len hs
  have h5 : tsum s (i + 1) = tsum s i + s i := rfl
  rw [show i + 1 + (len s - (i + 1)) = len s by omega] at h2 h3
  have e : (s i - j + (abv s j (len s) : Int) - i - 1).toNat = hkN s i j := rfl
  omega
theorem hook_b {s : Nat → Int} {W : Int} (hs : Gs s W) : ∀ i, (∀ j : Nat, (j : Int) ≤ s i → hall s i * hrow s i j * fac (W - tsum s i - j).toNat ≤ fac W.toNat) := by
  have stp : ∀ i j : Nat, (j : Int) < s i → hall s i * hrow s i (j + 1) * fac (W - tsum s i - (j + 1 : Nat)).toNat ≤ hall s i * hrow s i j * fac (W - tsum s i - j).toNat := fun i j h => by
    obtain ⟨⟨h1, h2⟩, -⟩ := hk_b hs h
    obtain ⟨r, hr⟩ : ∃ r : Nat, W - tsum s i - j = (r : Int) + 1 := ⟨(W - tsum s i - j - 1).toNat, by omega⟩
    rw [show (W - tsum s i - (j + 1 : Nat)).toNat = r by omega, show (W - tsum s i - j).toNat = r + 1 by omega]
    show hall s i * (hrow s i j * hkN s i j) * fac r ≤ hall s i * hrow s i j * (fac r * (r + 1))
    have h3 : hkN s i j ≤ r + 1 := by omega
    calc hall s i * (hrow s i j * hkN s i j) * fac r = (hall s i * hrow s i j) * (fac r * hkN s i j) := by rw [← Nat.mul_assoc, Nat.mul_assoc, Nat.mul_comm (hkN s i j)]
      _ ≤ (hall s i * hrow s i j) * (fac r * (r + 1)) := Nat.mul_le_mul_left _ (Nat.mul_le_mul_left _ h3)
  have row : ∀ i, hall s i * hrow s i 0 * fac (W - tsum s i - (0 : Nat)).toNat ≤ fac W.toNat → ∀ j : Nat, (j : Int) ≤ s i → hall s i * hrow s i j * fac (W - tsum s i - j).toNat ≤ fac W.toNat := fun i h j => by
    induction j with
    | zero => exact fun _ => h
    | succ j ih => exact fun hj => Nat.le_trans (stp i j (by omega)) (ih (by omega))
  intro i
  induction i with
  | zero =>
    refine row 0 ?_
    show 1 * 1 * fac (W - 0 - (0 : Nat)).toNat ≤ _
    rw [show (W - 0 - ((0 : Nat) : Int)).toNat = W.toNat by omega]
    omega
  | succ i ih =>
    refine row (i + 1) ?_
    have h0 := hs.1 i
    have h1 := ih (s i).toNat (by omega)
    have h5 : tsum s (i + 1) = tsum s i + s i := rfl
    rw [show (W - tsum s i - ((s i).toNat : Int)).toNat = (W - tsum s (i + 1) - ((0 : Nat) : Int)).toNat by omega] at h1
    show hall s i * hrow s i (s i).toNat * 1 * _ ≤ _
    rw [Nat.mul_one]
    exact h1
theorem hr_p {s : Nat → Int} {W : Int} (hs : Gs s W) (i : Nat) : ∀ j : Nat, (j : Int) ≤ s i → 1 ≤ hrow s i j
  | 0, _ => Nat.le_refl _
  | j + 1, h => Nat.mul_pos (hr_p hs i j (by omega)) (hk_b hs (i := i) (j := j) (by omega)).1.1
theorem ha_p {s : Nat → Int} {W : Int} (hs : Gs s W) : ∀ i, 1 ≤ hall s i
  | 0 => Nat.le_refl _
  | i + 1 => Nat.mul_pos (ha_p hs i) (hr_p hs i _ (by have := hs.1 i; omega))
theorem hp_b {s : Nat → Int} {W : Int} (hs : Gs s W) (hW : 0 ≤ W ∧ W ≤ 20) (i j : Nat) (h : (j : Int) ≤ s i) : 1 ≤ hall s i * hrow s i j ∧ hall s i * hrow s i j ≤ 2432902008176640000 := by
  have h1 := hook_b hs i j h
  have h2 := fac_p (W - tsum s i - j).toNat
  have h3 := (fac_b W.toNat (by omega)).2
  refine ⟨Nat.mul_pos (ha_p hs i) (hr_p hs i j h), ?_⟩
  exact Nat.le_trans (Nat.le_trans (Nat.le_mul_of_pos_right _ h2) h1) h3
theorem hall_z {s : Nat → Int} {W : Int} (hs : Gs s W) : ∀ d, hall s (len s + d) = hall s (len s)
  | 0 => rfl
  | d + 1 => by
    have h1 := hall_z hs d
    have h2 := len_z hs (k := len s + d) (by omega)
    show hall s (len s + d) * hrow s (len s + d) (s (len s + d)).toNat = _
    rw [h1, h2]
    exact Nat.mul_one _
theorem len_W {s : Nat → Int} {W : Int} (hs : Gs s W) : (len s : Int) ≤ W := by
  have key : ∀ n, n ≤ len s → (n : Int) ≤ tsum s n := fun n => by
    induction n with
    | zero => exact fun _ => Int.le_refl _
    | succ n ih =>
      intro h
      have h1 := ih (by omega)
      have h2 := (len_p hs n).1 (by omega)
      have h3 : tsum s (n + 1) = tsum s n + s n := rfl
      omega
  have := key (len s) (Nat.le_refl _)
  rw [tsum_len hs] at this
  exact this
theorem s_standard {w : Wd} {t : Nat} {s : Nat → Int} {W : Int} (hk : kd t = 5) (hr : w.2 t 0 = some (t + 1)) (h : ShC w t s) (hs : Gs s W) (hb : 0 ≤ W ∧ W ≤ 20) : f_X5_standardFillings t w = some (LI ((fac W.toNat / hall s (len s) : Nat) : Int)) := by
  have hl := len_b s
  have hlW := len_W hs
  unfold f_X5_standardFillings
  rw [h.1, h.2.1, hs.2.2.2]
  refine wl2_inv (Q := fun r => r = some (LI ((fac W.toNat / hall s (len s) : Nat) : Int))) (W.toNat - 1) (fun i x y => x = LI ((fac (i + 1) : Nat) : Int) ∧ y = I ((i : Int) + 2)) (fu_lt (by omega)) ⟨rfl, rfl⟩ ?_ ?_
  · rintro i hi x y ⟨rfl, rfl⟩ k
    left
    rw [if_neg (show ¬ (I W < I ((i : Int) + 2)) by rw [I_lt (by omega) (by omega) (by omega) (by omega)]; omega), I_long (by omega) (by omega), LI_mul, lt_d, lt_d, i1, I_add]
    refine ⟨_, _, ⟨rfl, rfl⟩, ?_⟩
    have e : ((fac (i + 1) : Nat) : Int) * ((i : Int) + 2) = ((fac (i + 1 + 1) : Nat) : Int) := by
      show _ = ((fac (i + 1) * (i + 1 + 1) : Nat) : Int)
      rw [Int.natCast_mul]
      rfl
    rw [e]
    exact congrArg (k _) (congrArg I (by omega))
  · rintro x y ⟨rfl, rfl⟩ k
    have ef : fac (W.toNat - 1 + 1) = fac W.toNat := by
      by_cases e : W.toNat = 0
      · rw [e]; rfl
      · rw [show W.toNat - 1 + 1 = W.toNat by omega]
    rw [if_pos (show I W < I (((W.toNat - 1 : Nat) : Int) + 2) by rw [I_lt (by omega) (by omega) (by omega) (by omega)]; omega), ef]
    have fb := fac_b W.toNat (by omega)
    refine wl2_inv (Q := fun r => r = some (LI ((fac W.toNat / hall s (len s) : Nat) : Int))) (len s) (fun i x y => x = LI ((hall s i : Nat) : Int) ∧ y = I i) (fu_lt (by omega)) ⟨rfl, rfl⟩ ?_ ?_
    · rintro i hi x y ⟨rfl, rfl⟩ k
      have x1 := (len_p hs i).1 hi
      have x2 := hs.b i
      rw [if_neg (show ¬ (I (len s : Int) ≤ I (i : Int)) by rw [I_le (by omega) (by omega) (by omega) (by omega)]; omega)]
      left
      refine wl2_inv (Q := fun r => ∃ t0 t1, (t0 = LI ((hall s (i + 1) : Nat) : Int) ∧ t1 = I ((i + 1 : Nat) : Int)) ∧ r = k t0 t1) (s i).toNat (fun j x y => x = LI ((hall s i * hrow s i j : Nat) : Int) ∧ y = I j) (fu_lt (by omega)) ?_ ?_ ?_
      · exact ⟨by show _ = LI ((hall s i * 1 : Nat) : Int); rw [Nat.mul_one], rfl⟩
      · rintro j hj x y ⟨rfl, rfl⟩ k2
        left
        obtain ⟨⟨h1, h2⟩, h3⟩ := hk_b hs (i := i) (j := j) (by omega)
        have h4 := hs.tb i
        rw [rfc hr (kdS hk).2.1 (by decide), (kdS hk).2.2, ix_d (by omega) (by omega) (by decide), Int.toNat_natCast, h.2.2 i hi, if_neg (show ¬ (I (s i) ≤ I (j : Int)) by rw [I_le (by omega) (by omega) (by omega) (by omega)]; omega), rfc hr (kdS hk).2.1 (by decide), (kdS hk).2.2, ix_d (by omega) (by omega) (by decide), Int.toNat_natCast, h.2.2 i hi, c1_r (s_partsAbove (j := (j : Int)) hk hr h hs (by omega) (by omega)), I_sub, I_add, I_sub, i1, I_sub, h3, I_long (by omega) (by omega), LI_mul, lt_d, lt_d, I_add, nS]
        refine ⟨_, _, ⟨rfl, rfl⟩, ?_⟩
        have e : ((hall s i * hrow s i j : Nat) : Int) * ((hkN s i j : Nat) : Int) = ((hall s i * hrow s i (j + 1) : Nat) : Int) := by
          show _ = ((hall s i * (hrow s i j * hkN s i j) : Nat) : Int)
          rw [← Nat.mul_assoc, Int.natCast_mul (hall s i * hrow s i j)]
        rw [e]
      · rintro x y ⟨rfl, rfl⟩ k2
        rw [rfc hr (kdS hk).2.1 (by decide), (kdS hk).2.2, ix_d (by omega) (by omega) (by decide), Int.toNat_natCast, h.2.2 i hi, if_pos (show I (s i) ≤ I ((s i).toNat : Int) by rw [I_le (by omega) (by omega) (by omega) (by omega)]; omega), lt_d, i1, I_add, nS]
        exact ⟨_, _, ⟨rfl, rfl⟩, rfl⟩
    · rintro x y ⟨rfl, rfl⟩ k
      have hp := hp_b hs hb (len s) 0 (by have := hs.1 (len s); omega)
      have e0 : hall s (len s) * hrow s (len s) 0 = hall s (len s) := Nat.mul_one _
      rw [e0] at hp
      have nz0 : ¬ LI ((hall s (len s) : Nat) : Int) = 0 := by
        rw [l0, LI_eq (by omega) (by omega) (by omega) (by omega)]
        omega
      rw [if_pos (show I (len s : Int) ≤ I (len s : Int) by rw [I_le (by omega) (by omega) (by omega) (by omega)]; omega), l0, i0, if_neg (show ¬ (lg_cmp (LI ((hall s (len s) : Nat) : Int)) (LI 0) ≤ I 0) by rw [lg_le (by omega) (by omega)]; omega), nzl_d nz0, LI_div (by omega) (by omega) (by omega) (by omega), ← Int.natCast_ediv]
theorem m_standard {w : Wd} {g : Gd} {a b : Nat} (hW : Wi w.2) (hv : GV g) (hm : MwC w g) (ha : (a : Int) ≤ g 0) (hb : (b : Int) ≤ g 1) {W : Int} (hs : Gs (Sg g a b) W) (hb2 : 0 ≤ W ∧ W ≤ 20) :
    wl2 (fun (x9 : Int64) (x10 : Int32) k11 => (if I W < x10 then wl2 (fun (x14 : Int64) (x15 : Int32) k16 => (if I W ≤ x15 then some (x14, w) else wl2 (fun (x19 : Int64) (x20 : Int32) k21 => c1 (f_X8_partOf 139 (I a) (I b) x15 w) (fun v24 => (if v24 ≤ x20 then lt (x15 + (1 : Int32)) (fun x26 => k16 x19 x26) else c1 (f_X8_partOf 139 (I a) (I b) x15 w) (fun v29 => c1 (f_X8_turnedOf 139 (I a) (I b) x20 w) (fun v31 => nzl ((((v29 - x20) + v31) - x15) - (1 : Int32)).toInt64 (lt (x19 / ((((v29 - x20) + v31) - x15) - (1 : Int32)).toInt64) (fun x32 => lt (x20 + (1 : Int32)) (fun x34 => k21 x32 x34)))))))) fu x14 (0 : Int32))) fu x9 (0 : Int32) else lt (x9 * x10.toInt64) (fun x36 => lt (x10 + (1 : Int32)) (fun x38 => k11 x36 x38)))) fu (1 : Int64) (2 : Int32) = some (LI ((fac W.toNat / hall (Sg g a b) (len (Sg g a b)) : Nat) : Int), w) := by
  have v1 := hv.1; have v2 := hv.2.1
  have hl := len_b (Sg g a b)
  have hlW := len_W hs
  refine wl2_inv (Q := fun r => r = some (LI ((fac W.toNat / hall (Sg g a b) (len (Sg g a b)) : Nat) : Int), w)) (W.toNat - 1) (fun i x y => x = LI ((fac (i + 1) : Nat) : Int) ∧ y = I ((i : Int) + 2)) (fu_lt (by omega)) ⟨rfl, rfl⟩ ?_ ?_
  · rintro i hi x y ⟨rfl, rfl⟩ k
    left
    rw [if_neg (show ¬ (I W < I ((i : Int) + 2)) by rw [I_lt (by omega) (by omega) (by omega) (by omega)]; omega), I_long (by omega) (by omega), LI_mul, lt_d, lt_d, i1, I_add]
    refine ⟨_, _, ⟨rfl, rfl⟩, ?_⟩
    have e : ((fac (i + 1) : Nat) : Int) * ((i : Int) + 2) = ((fac (i + 1 + 1) : Nat) : Int) := by
      show _ = ((fac (i + 1) * (i + 1 + 1) : Nat) : Int)
      rw [Int.natCast_mul]
      rfl
    rw [e]
    exact congrArg (k _) (congrArg I (by omega))
  · rintro x y ⟨rfl, rfl⟩ k
    have ef : fac (W.toNat - 1 + 1) = fac W.toNat := by
      by_cases e : W.toNat = 0
      · rw [e]; rfl
      · rw [show W.toNat - 1 + 1 = W.toNat by omega]
    rw [if_pos (show I W < I (((W.toNat - 1 : Nat) : Int) + 2) by rw [I_lt (by omega) (by omega) (by omega) (by omega)]; omega), ef]
    have fb := fac_b W.toNat (by omega)
    have he : hall (Sg g a b) W.toNat = hall (Sg g a b) (len (Sg g a b)) := by
      rw [show W.toNat = len (Sg g a b) + (W.toNat - len (Sg g a b)) by omega, hall_z hs]
    rw [← he]
    refine wl2_inv (Q := fun r => r = some (LI ((fac W.toNat / hall (Sg g a b) W.toNat : Nat) : Int), w)) W.toNat (fun i x y => x = LI ((fac W.toNat / hall (Sg g a b) i : Nat) : Int) ∧ y = I i) (fu_lt (by omega)) ?_ ?_ ?_
    · exact ⟨by show _ = LI ((fac W.toNat / 1 : Nat) : Int); rw [Nat.div_one], rfl⟩
    · rintro i hi x y ⟨rfl, rfl⟩ k
      have x1 := hs.1 i
      have x2 := hs.b i
      rw [if_neg (show ¬ (I W ≤ I (i : Int)) by rw [I_le (by omega) (by omega) (by omega) (by omega)]; omega)]
      left
      refine wl2_inv (Q := fun r => ∃ t0 t1, (t0 = LI ((fac W.toNat / hall (Sg g a b) (i + 1) : Nat) : Int) ∧ t1 = I ((i + 1 : Nat) : Int)) ∧ r = k t0 t1) (Sg g a b i).toNat (fun j x y => x = LI ((fac W.toNat / (hall (Sg g a b) i * hrow (Sg g a b) i j) : Nat) : Int) ∧ y = I j) (fu_lt (by omega)) ?_ ?_ ?_
      · exact ⟨by show _ = LI ((fac W.toNat / (hall (Sg g a b) i * 1) : Nat) : Int); rw [Nat.mul_one], rfl⟩
      · rintro j hj x y ⟨rfl, rfl⟩ k2
        left
        obtain ⟨⟨h1, h2⟩, h3⟩ := hk_b hs (i := i) (j := j) (by omega)
        have h4 := hs.tb i
        have h5 := Nat.div_le_self (fac W.toNat) (hall (Sg g a b) i * hrow (Sg g a b) i j)
        have h6 := Nat.div_div_eq_div_mul (fac W.toNat) (hall (Sg g a b) i * hrow (Sg g a b) i j) (hkN (Sg g a b) i j)
        have nz0 : ¬ LI ((hkN (Sg g a b) i j : Nat) : Int) = 0 := by
          rw [l0, LI_eq (by omega) (by omega) (by omega) (by omega)]
          omega
        rw [c1_r (m_partOf hW hv hm ha hb (by omega)), if_neg (show ¬ (I (Sg g a b i) ≤ I (j : Int)) by rw [I_le (by omega) (by omega) (by omega) (by omega)]; omega), c1_r (m_partOf hW hv hm ha hb (by omega)), c1_r (m_turnedOf (j := (j : Int)) hW hv hm ha hb (by omega)), I_sub, I_add, I_sub, i1, I_sub, h3, I_long (by omega) (by omega), nzl_d nz0, LI_div (Int.natCast_nonneg _) (by omega) (by omega) (by omega), ← Int.natCast_ediv, lt_d, lt_d, I_add, nS, h6]
        refine ⟨_, _, ⟨rfl, rfl⟩, ?_⟩
        rw [show hall (Sg g a b) i * hrow (Sg g a b) i (j + 1) = hall (Sg g a b) i * hrow (Sg g a b) i j * hkN (Sg g a b) i j by show hall (Sg g a b) i * (hrow (Sg g a b) i j * hkN (Sg g a b) i j) = _; rw [Nat.mul_assoc]]
      · rintro x y ⟨rfl, rfl⟩ k2
        rw [c1_r (m_partOf hW hv hm ha hb (by omega)), if_pos (show I (Sg g a b i) ≤ I ((Sg g a b i).toNat : Int) by rw [I_le (by omega) (by omega) (by omega) (by omega)]; omega), lt_d, i1, I_add, nS]
        exact ⟨_, _, ⟨rfl, rfl⟩, rfl⟩
    · rintro x y ⟨rfl, rfl⟩ k
      rw [if_pos (show I W ≤ I (W.toNat : Int) by rw [I_le (by omega) (by omega) (by omega) (by omega)]; omega)]
theorem op_standard {x y : Int} (hx : -2147483648 ≤ x ∧ x < 2147483648) (hy : -2147483648 ≤ y ∧ y < 2147483648) : Op2 (f_X7_standard 0 (I x) (I y)) (f_X8_standard 139 (I x) (I y)) := by
  rintro w ⟨g, p, u, G, H⟩
  obtain ⟨hW, ⟨hv, hc, hm⟩, -⟩ := id H
  have e1 := hW.1.1
  unfold f_X7_standard f_X8_standard
  rw [rfc e1 kd_1 (by decide), c1_r (s_hasCorner hc hv hx hy)]
  by_cases c : 0 ≤ x ∧ x ≤ g 0 ∧ 0 ≤ y ∧ y ≤ g 1
  · rw [if_pos c, if_neg n10]
    obtain ⟨a, b, t, w1, w2, rfl, rfl, ha, hb, ha5, hb5, q1, kt, rt, hS, hs, hwb, q2, H1, q3, H2, q4, q5, -⟩ := askC H c
    have hsz := m_sizeOf H2.1 hv q4 ha hb
    have eT := hs.2.2.2
    by_cases d : Wg g a b ≤ 20
    · refine ⟨LI ((fac (Wg g a b).toNat / hall (Sg g a b) (len (Sg g a b)) : Nat) : Int), w1, w2, ?_, ?_, ⟨g, p, u, G, H2⟩⟩
      · rw [c2_r q1, ckc kt (by decide), hS.2.1, eT, if_pos (show I (Wg g a b) ≤ (20 : Int32) by rw [i20, I_le (by omega) (by omega) (by omega) (by omega)]; omega), c1_r (s_standard kt rt hS hs ⟨hwb.1, d⟩)]
      · rw [c1_r (m_isCorner H1.2.1.2.2 hv hx hy), if_pos c, if_neg n10, c1_r q3, c1_r hsz, eT, if_pos (show I (Wg g a b) ≤ (20 : Int32) by rw [i20, I_le (by omega) (by omega) (by omega) (by omega)]; omega)]
        exact m_standard H2.1 hv q4 ha hb hs ⟨hwb.1, d⟩
    · refine ⟨(-9223372036854775808 : Int64), w1, w2, ?_, ?_, ⟨g, p, u, G, H2⟩⟩
      · rw [c2_r q1, ckc kt (by decide), hS.2.1, eT, if_neg (show ¬ I (Wg g a b) ≤ (20 : Int32) by rw [i20, I_le (by omega) (by omega) (by omega) (by omega)]; omega)]
      · rw [c1_r (m_isCorner H1.2.1.2.2 hv hx hy), if_pos c, if_neg n10, c1_r q3, c1_r hsz, eT, if_neg (show ¬ I (Wg g a b) ≤ (20 : Int32) by rw [i20, I_le (by omega) (by omega) (by omega) (by omega)]; omega)]
  · rw [if_neg c, if_pos z00]
    refine ⟨_, _, w, rfl, ?_, ⟨g, p, u, G, H⟩⟩
    rw [c1_r (m_isCorner hm hv hx hy), if_neg c, if_pos z00]

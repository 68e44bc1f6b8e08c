/-! word -/
def grd (a b r : Int) (T : Nat → Int) : Gd := fun j => if j = 0 then a else if j = 1 then b else if j = 2 then r else T (j - 3)
theorem grd_0 (a b r : Int) (T : Nat → Int) : grd a b r T 0 = a := rfl
theorem grd_1 (a b r : Int) (T : Nat → Int) : grd a b r T 1 = b := rfl
theorem grd_2 (a b r : Int) (T : Nat → Int) : grd a b r T 2 = r := rfl
theorem grd_n (a b r : Int) (T : Nat → Int) (q : Nat) : grd a b r T (3 + q) = T q := by
  unfold grd
  rw [if_neg (by omega), if_neg (by omega), if_neg (by omega), show 3 + q - 3 = q by omega]
theorem p10 : ∀ i, i ≤ 5 → 1 ≤ 10 ^ i ∧ 10 ^ i ≤ 100000 := by decide
def dig (a i : Nat) : Nat := a / 10 ^ i % 10
theorem dv_s (a i : Nat) : a / 10 ^ i / 10 = a / 10 ^ (i + 1) := by rw [Nat.div_div_eq_div_mul, ← Nat.pow_succ]
def okw (a C R : Nat) : Prop := a < 10 ^ C ∧ ∀ i, i < C → dig a i ≤ R
theorem s_canSpell {w : Wd} {a C R : Nat} (h0 : w.1 1 0 = I C) (h1 : w.1 1 1 = I R) (hC : C ≤ 5) (hR : R ≤ 5) (ha : (a : Int) < 2147483648) : (f_X0_canSpell 1 (I a) w = some (I 1) ∧ okw a C R) ∨ (f_X0_canSpell 1 (I a) w = some (I 0) ∧ ¬ okw a C R) := by
  unfold f_X0_canSpell
  rw [if_pos (by rw [i0, I_le (by omega) (by omega) (by omega) (by omega)]; omega), lt_d, h0, h1]
  refine wl2_inv (Q := fun r => (r = some (I 1) ∧ okw a C R) ∨ (r = some (I 0) ∧ ¬ okw a C R)) C (fun i x y => x = I ((a / 10 ^ i : Nat) : Int) ∧ y = I ((C : Int) - i) ∧ ∀ j, j < i → dig a j ≤ R) (fu_lt (by omega)) ⟨by rw [Nat.pow_zero, Nat.div_one], congrArg I (by omega), fun j hj => absurd hj (by omega)⟩ ?_ ?_
  · rintro i hi x y ⟨rfl, rfl, hd⟩ k
    have hle := Nat.div_le_self a (10 ^ i)
    have hds := dv_s a i
    have hdg : dig a i = a / 10 ^ i % 10 := rfl
    generalize a / 10 ^ i = n at *
    simp (disch := omega) only [↓j_m1, ↓j_m2, ↓j_m3, ↓j_m5, ↓j_m6, ↓j_m11, ↓j_m12, ↓j_m13, ↓j_m14, ↓j_m1000, j_0, j_1, j_2, j_3, j_4, j_5, j_6, j_7, j_8, j_9, j_10, j_12, j_14, j_20, j_25, j_26, j_28, j_30, j_36, j_48, j_49, j_50, j_53, j_57, j_59, j_60, j_63, j_75, j_80, j_99, j_100, j_196, j_255, j_1000, I_lt, I_div, I_mul, I_sub, I_add, I_le]
    rw [if_neg (by omega), lt_d, lt_d]
    by_cases c : (n : Int) - (n : Int) / 10 * 10 ≤ R
    · left
      refine ⟨_, _, ⟨?_, ?_, fun j hj => ?_⟩, by rw [if_pos c]⟩
      · rw [← hds]; exact congrArg I (by omega)
      · exact congrArg I (by omega)
      · by_cases e : j = i
        · subst e; rw [hdg]; omega
        · exact hd j (by omega)
    · right; right
      rw [if_neg c]
      refine ⟨rfl, fun h => ?_⟩
      have := h.2 i hi
      rw [hdg] at this
      omega
  · rintro x y ⟨rfl, rfl, hd⟩ k
    have hle := Nat.div_le_self a (10 ^ C)
    have hp := (p10 C hC).1
    have hz : a / 10 ^ C = 0 ↔ a < 10 ^ C := Nat.div_eq_zero_iff_lt hp
    unfold okw
    generalize a / 10 ^ C = n at *
    simp (disch := omega) only [↓j_m1, ↓j_m2, ↓j_m3, ↓j_m5, ↓j_m6, ↓j_m11, ↓j_m12, ↓j_m13, ↓j_m14, ↓j_m1000, j_0, j_1, j_2, j_3, j_4, j_5, j_6, j_7, j_8, j_9, j_10, j_12, j_14, j_20, j_25, j_26, j_28, j_30, j_36, j_48, j_49, j_50, j_53, j_57, j_59, j_60, j_63, j_75, j_80, j_99, j_100, j_196, j_255, j_1000, I_lt, I_eq, lt_d, I_ite]
    rw [if_pos (by omega), zb_i]
    by_cases c : (n : Int) = 0
    · left
      rw [if_pos c]
      exact ⟨rfl, hz.1 (by omega), hd⟩
    · right
      rw [if_neg c]
      refine ⟨rfl, fun h => c ?_⟩
      have := hz.2 h.1
      omega
theorem m_power {n : Nat} (hn : n ≤ 5) : f_X8_power (I n) = some (I ((10 ^ n : Nat) : Int)) := by
  unfold f_X8_power
  refine wl2_for n (fun i => I ((10 ^ i : Nat) : Int)) (fun i => I i) (fu_lt (by omega)) rfl rfl (fun i hi k => ?_) (fun k => ?_)
  · simp (disch := omega) only [↓j_m1, ↓j_m2, ↓j_m3, ↓j_m5, ↓j_m6, ↓j_m11, ↓j_m12, ↓j_m13, ↓j_m14, ↓j_m1000, j_0, j_1, j_2, j_3, j_4, j_5, j_6, j_7, j_8, j_9, j_10, j_12, j_14, j_20, j_25, j_26, j_28, j_30, j_36, j_48, j_49, j_50, j_53, j_57, j_59, j_60, j_63, j_75, j_80, j_99, j_100, j_196, j_255, j_1000, I_le, I_mul, I_add, lt_d]
    rw [if_neg (by omega), nS]
    have e : ((10 ^ i : Nat) : Int) * 10 = ((10 ^ (i + 1) : Nat) : Int) := by rw [Nat.pow_succ, Int.natCast_mul]; rfl
    rw [e]
  · rw [if_pos (by rw [I_le (by omega) (by omega) (by omega) (by omega)]; omega)]
theorem m_digit {a C x : Nat} (hC : C ≤ 5) (hx : x < C) (ha : (a : Int) < 2147483648) {ρ : Type} (K : Int32 → Option ρ) : c1 (f_X8_power (I C - I ((x : Int) + 1))) (fun v => nz v (K ((I a / v) - (I a / v) / (10 : Int32) * (10 : Int32)))) = K (I (dig a (C - 1 - x))) := by
  have hp := p10 (C - 1 - x) (by omega)
  have hle := Nat.div_le_self a (10 ^ (C - 1 - x))
  rw [I_sub, show (C : Int) - ((x : Int) + 1) = ((C - 1 - x : Nat) : Int) by omega, c1_r (m_power (by omega)), nz_d (by rw [i0, I_eq (by omega) (by omega) (by omega) (by omega)]; omega), I_div (by omega) (by omega) (by omega) (by omega), ← Int.natCast_ediv]
  have hdg : dig a (C - 1 - x) = a / 10 ^ (C - 1 - x) % 10 := rfl
  rw [hdg]
  generalize a / 10 ^ (C - 1 - x) = n at *
  rw [i10, I_div (by omega) (by omega) (by omega) (by omega), I_mul, I_sub]
  congr 2
  omega
def tw (a C : Nat) (q : Nat) : Int := if q / 5 < C ∧ dig a (C - 1 - q / 5) = q % 5 + 1 then 1 else 0
theorem s_spell {w : Wd} {g : Gd} {a C R : Nat} (hW : Wi w.2) (hv : GV g) (hg : CG w 1 g) (hC : g 0 = C) (hR : g 1 = R) (ha : (a : Int) < 2147483648) (ok : okw a C R) : ∃ w', f_X0_spell 1 (I a) w = some w' ∧ w'.2 = w.2 ∧ CG w' 1 (grd C R (g 2) (tw a C)) ∧ ∀ x y, x ≠ 1 → x ≠ 2 → w'.1 x y = w.1 x y := by
  have v1 := hv.1; have v2 := hv.2.1
  unfold f_X0_spell
  have hc0 : CG (clg w 1 (w.1 1 0) (w.1 1 1)) 1 (gst (g 0) (g 1) (g 2)) := by rw [hg.1, hg.2.1]; exact clg_CG hg
  rw [c1_r (s_clearTo (w.1 1 0) (w.1 1 1) kd_1 (hW.2.1 _ kd_1)), lt_d, hc0.1, gst_0, hC]
  refine wl3_inv (Q := fun r => ∃ w', r = some w' ∧ w'.2 = w.2 ∧ CG w' 1 (grd C R (g 2) (tw a C)) ∧ ∀ x y, x ≠ 1 → x ≠ 2 → w'.1 x y = w.1 x y) C (fun i x y v => x = I ((a / 10 ^ i : Nat) : Int) ∧ y = I ((C : Int) - i) ∧ v.2 = w.2 ∧ (∃ g1, GV g1 ∧ g1 0 = g 0 ∧ g1 1 = g 1 ∧ g1 2 = g 2 ∧ CG v 1 g1 ∧ ∀ q, q < 25 → g1 (3 + q) = if C - i ≤ q / 5 then tw a C q else 0) ∧ ∀ x y, x ≠ 1 → x ≠ 2 → v.1 x y = w.1 x y) (fu_lt (by omega)) ⟨by rw [Nat.pow_zero, Nat.div_one], by show I (C : Int) = I ((C : Int) - ((0 : Nat) : Int)); exact congrArg I (by omega), rfl, ⟨gst (g 0) (g 1) (g 2), gst_V v1 v2 hv.2.2.1, rfl, rfl, rfl, hc0, fun q hq => ?_⟩, fun x y h1 h2 => clg_o h1 h2⟩ ?_ ?_
  · rw [gst_n]
    unfold tw
    (repeat' split) <;> omega
  · rintro i hi x y v ⟨rfl, rfl, hv2, ⟨g1, b1, b2, b3, b4, b5, b6⟩, hf⟩ k
    have hle := Nat.div_le_self a (10 ^ i)
    have hds := dv_s a i
    have hdg : dig a i = a / 10 ^ i % 10 := rfl
    have hok := ok.2 i hi
    generalize hn : a / 10 ^ i = n at *
    simp (disch := omega) only [↓j_m1, ↓j_m2, ↓j_m3, ↓j_m5, ↓j_m6, ↓j_m11, ↓j_m12, ↓j_m13, ↓j_m14, ↓j_m1000, j_0, j_1, j_2, j_3, j_4, j_5, j_6, j_7, j_8, j_9, j_10, j_12, j_14, j_20, j_25, j_26, j_28, j_30, j_36, j_48, j_49, j_50, j_53, j_57, j_59, j_60, j_63, j_75, j_80, j_99, j_100, j_196, j_255, j_1000, I_lt, I_div, I_mul, I_sub, I_add, lt_d]
    rw [if_neg (by omega), show (n : Int) - (n : Int) / 10 * 10 = (dig a i : Int) by omega]
    have hWv : Wi v.2 := by rw [hv2]; exact hW
    left
    have htw : ∀ q, q < 25 → q / 5 = C - 1 - i → tw a C q = if dig a i = q % 5 + 1 then 1 else 0 := fun q hq e => by
      unfold tw
      rw [e, show C - 1 - (C - 1 - i) = i by omega]
      by_cases c : dig a i = q % 5 + 1
      · rw [if_pos ⟨by omega, c⟩, if_pos c]
      · rw [if_neg (fun h => c h.2), if_neg c]
    by_cases d0 : dig a i = 0
    · refine ⟨I ((a / 10 ^ (i + 1) : Nat) : Int), I ((C : Int) - (i + 1 : Nat)), v, ⟨rfl, rfl, hv2, ⟨g1, b1, b2, b3, b4, b5, fun q hq => ?_⟩, hf⟩, ?_⟩
      · rw [b6 q hq]
        by_cases e : q / 5 = C - 1 - i
        · rw [if_neg (by omega), if_pos (by omega), htw q hq e, if_neg (by omega)]
        · by_cases e2 : C - i ≤ q / 5
          · rw [if_pos e2, if_pos (by omega)]
          · rw [if_neg e2, if_neg (by omega)]
      · rw [c1_r (s_setNumberO (I 1) b5 b1 (by omega) (by omega) (by omega))]
        rw [← hds]
        congr 2
        omega
    · refine ⟨I ((a / 10 ^ (i + 1) : Nat) : Int), I ((C : Int) - (i + 1 : Nat)), upI v (1 + 1) (5 * (C - 1 - i) + (dig a i - 1)) (I 1), ⟨rfl, rfl, ?_, ⟨gset g1 (5 * (C - 1 - i) + (dig a i - 1)) 1, ?_, by rw [gset_0]; exact b2, by rw [gset_1]; exact b3, by rw [gset_2]; exact b4, gset_CG b5, fun q hq => ?_⟩, ?_⟩, ?_⟩
      · exact hv2
      · have := gset_V (x := (C : Int) - i) (y := (dig a i : Int)) (v := 1) b1 (by omega) (by omega) (by omega)
        rw [show (5 * ((C : Int) - i - 1) + ((dig a i : Int) - 1)).toNat = 5 * (C - 1 - i) + (dig a i - 1) by omega] at this
        exact this
      · by_cases e3 : q = 5 * (C - 1 - i) + (dig a i - 1)
        · subst e3
          rw [gset_i, if_pos (by omega), htw _ hq (by omega), if_pos (by omega)]
        · rw [gset_n e3, b6 q hq]
          by_cases e : q / 5 = C - 1 - i
          · rw [if_neg (by omega), if_pos (by omega), htw q hq e, if_neg (by omega)]
          · by_cases e2 : C - i ≤ q / 5
            · rw [if_pos e2, if_pos (by omega)]
            · rw [if_neg e2, if_neg (by omega)]
      · intro x y h1 h2
        rw [upI_n (by omega)]; exact hf x y h1 h2
      · rw [c1_r (s_setNumber (I 1) kd_1 (hWv.2.1 _ kd_1) b5 b1 (by omega) (by omega)), show (5 * ((C : Int) - i - 1) + ((dig a i : Int) - 1)).toNat = 5 * (C - 1 - i) + (dig a i - 1) by omega, ← hds]
        congr 2
        omega
  · rintro x y v ⟨rfl, rfl, hv2, ⟨g1, b1, b2, b3, b4, b5, b6⟩, hf⟩ k
    rw [if_pos (by rw [i1, I_lt (by omega) (by omega) (by omega) (by omega)]; omega)]
    refine ⟨v, rfl, hv2, b5.congr (by rw [grd_0, b2, hC]) (by rw [grd_1, b3, hR]) (by rw [grd_2, b4]) (fun q hq => ?_), hf⟩
    rw [grd_n, b6 q hq, if_pos (by omega)]
theorem m_dig {a n : Nat} (hn : n ≤ 5) (ha : (a : Int) < 2147483648) : I a / I ((10 ^ n : Nat) : Int) - I a / I ((10 ^ n : Nat) : Int) / I 10 * I 10 = I (dig a n) := by
  have hp := p10 n hn
  have hle := Nat.div_le_self a (10 ^ n)
  have hdg : dig a n = a / 10 ^ n % 10 := rfl
  rw [I_div (by omega) (by omega) (by omega) (by omega), ← Int.natCast_ediv, hdg]
  generalize a / 10 ^ n = m at *
  rw [I_div (by omega) (by omega) (by omega) (by omega), I_mul, I_sub]
  congr 1
  omega
theorem pw_nz {n : Nat} (hn : n ≤ 5) : ¬ I ((10 ^ n : Nat) : Int) = 0 := by
  have hp := p10 n hn
  rw [i0, I_eq (by omega) (by omega) (by omega) (by omega)]
  omega
theorem dig9 (a n : Nat) : dig a n < 10 := Nat.mod_lt _ (by decide)
theorem m_word_ok {w : Wd} {g : Gd} {a C R : Nat} (hv : GV g) (hm : MG w g) (hC : g 0 = C) (hR : g 1 = R) (ha : (a : Int) < 2147483648) (ok : okw a C R) {w3 : Wd} (hd : f_X8_does 139 w = some w3) (hW3 : Wi w3.2) (hm3 : MG w3 g) (hgv : GV (grd C R (g 2) (tw a C))) :
    ∃ w4, f_X8_word 139 (I a) w = some (I (fld (grd C R (g 2) (tw a C)) 25), w4) ∧ w4.2 = w3.2 ∧ MG w4 (grd C R (g 2) (tw a C)) ∧ ∀ x y, x ≠ 140 → w4.1 x y = w3.1 x y := by
  have v1 := hv.1; have v2 := hv.2.1
  have hp := p10 C (by omega)
  have ok1 := ok.1
  unfold f_X8_word
  rw [hm.1, hm.2.1, hC, hR, c1_r (m_power (by omega)), i1, I_sub, I_long (z := ((10 ^ C : Nat) : Int) - 1) (by omega) (by omega), l0, c1_r (m_chk (by omega) (by omega) (by omega)), if_pos (show 0 ≤ (a : Int) ∧ (a : Int) ≤ ((10 ^ C : Nat) : Int) - 1 by omega), if_neg n10]
  refine wl1_inv (Q := fun r => ∃ w4, r = some (I (fld (grd C R (g 2) (tw a C)) 25), w4) ∧ w4.2 = w3.2 ∧ MG w4 (grd C R (g 2) (tw a C)) ∧ ∀ x y, x ≠ 140 → w4.1 x y = w3.1 x y) C (fun i x => x = I ((i : Int) + 1)) (fu_lt (by omega)) rfl ?_ ?_
  · rintro i hi x rfl k
    have hdi := ok.2 (C - 1 - i) (by omega)
    left
    refine ⟨I (((i + 1 : Nat) : Int) + 1), rfl, ?_⟩
    simp (disch := omega) only [↓j_m1, ↓j_m2, ↓j_m3, ↓j_m5, ↓j_m6, ↓j_m11, ↓j_m12, ↓j_m13, ↓j_m14, ↓j_m1000, j_0, j_1, j_2, j_3, j_4, j_5, j_6, j_7, j_8, j_9, j_10, j_12, j_14, j_20, j_25, j_26, j_28, j_30, j_36, j_48, j_49, j_50, j_53, j_57, j_59, j_60, j_63, j_75, j_80, j_99, j_100, j_196, j_255, j_1000, I_lt]
    rw [if_neg (by omega), I_sub, show (C : Int) - ((i : Int) + 1) = ((C - 1 - i : Nat) : Int) by omega, c1_r (m_power (by omega)), nz_d (pw_nz (by omega)), m_dig (by omega) ha, if_pos (by rw [I_le (by omega) (by omega) (by omega) (by omega)]; omega), lt_d, I_add]
    rfl
  · rintro x rfl k
    simp (disch := omega) only [↓j_m1, ↓j_m2, ↓j_m3, ↓j_m5, ↓j_m6, ↓j_m11, ↓j_m12, ↓j_m13, ↓j_m14, ↓j_m1000, j_0, j_1, j_2, j_3, j_4, j_5, j_6, j_7, j_8, j_9, j_10, j_12, j_14, j_20, j_25, j_26, j_28, j_30, j_36, j_48, j_49, j_50, j_53, j_57, j_59, j_60, j_63, j_75, j_80, j_99, j_100, j_196, j_255, j_1000, I_lt]
    rw [if_pos (by omega), c1_r hd, c1_r (m_empties hW3)]
    refine wl2_inv (Q := fun r => ∃ w4, r = some (I (fld (grd C R (g 2) (tw a C)) 25), w4) ∧ w4.2 = w3.2 ∧ MG w4 (grd C R (g 2) (tw a C)) ∧ ∀ x y, x ≠ 140 → w4.1 x y = w3.1 x y) C (fun i x (v : Wd) => x = I ((i : Int) + 1) ∧ v.2 = w3.2 ∧ (∀ b c, b ≠ 140 → v.1 b c = w3.1 b c) ∧ ∀ q, q < 25 → v.1 140 q = I (if q / 5 < i then tw a C q else 0)) (fu_lt (by omega)) ?_ ?_ ?_
    · exact ⟨rfl, rfl, fun b c h => fill_n (by omega), fun q hq => by rw [fill_i hq, if_neg (by omega)]⟩
    · rintro i hi x v ⟨rfl, hv2, hv3, hv4⟩ k
      have hdi := ok.2 (C - 1 - i) (by omega)
      have e0 : v.1 139 0 = I C := by rw [hv3 _ _ (by omega), hm3.1, hC]
      have hWv : Wi v.2 := by rw [hv2]; exact hW3
      left
      rw [e0]
      simp (disch := omega) only [↓j_m1, ↓j_m2, ↓j_m3, ↓j_m5, ↓j_m6, ↓j_m11, ↓j_m12, ↓j_m13, ↓j_m14, ↓j_m1000, j_0, j_1, j_2, j_3, j_4, j_5, j_6, j_7, j_8, j_9, j_10, j_12, j_14, j_20, j_25, j_26, j_28, j_30, j_36, j_48, j_49, j_50, j_53, j_57, j_59, j_60, j_63, j_75, j_80, j_99, j_100, j_196, j_255, j_1000, I_lt]
      rw [if_neg (by omega), I_sub, show (C : Int) - ((i : Int) + 1) = ((C - 1 - i : Nat) : Int) by omega, c1_r (m_power (by omega)), nz_d (pw_nz (by omega)), lt_d, m_dig (by omega) ha, jn_d]
      simp (disch := omega) only [I_le]
      by_cases d0 : dig a (C - 1 - i) = 0
      · refine ⟨I (((i + 1 : Nat) : Int) + 1), v, ⟨rfl, hv2, hv3, fun q hq => ?_⟩, ?_⟩
        · rw [hv4 q hq]
          congr 1
          by_cases e : q / 5 = i
          · rw [if_neg (by omega), if_pos (by omega)]
            unfold tw
            rw [if_neg (by rw [e]; omega)]
          · by_cases e2 : q / 5 < i
            · rw [if_pos e2, if_pos (by omega)]
            · rw [if_neg e2, if_neg (by omega)]
        · rw [if_pos (by omega), lt_d, I_add]
          rfl
      · refine ⟨I (((i + 1 : Nat) : Int) + 1), upI v 140 (5 * i + (dig a (C - 1 - i) - 1)) (I 1), ⟨rfl, hv2, fun b c h => ?_, fun q hq => ?_⟩, ?_⟩
        · rw [upI_n (by omega)]; exact hv3 b c h
        · by_cases e3 : q = 5 * i + (dig a (C - 1 - i) - 1)
          · subst e3
            rw [upI_s, if_pos (by omega)]
            congr 1
            unfold tw
            rw [if_pos]
            refine ⟨by omega, ?_⟩
            rw [show (5 * i + (dig a (C - 1 - i) - 1)) / 5 = i by omega]
            omega
          · rw [upI_n (by omega), hv4 q hq]
            congr 1
            by_cases e : q / 5 = i
            · rw [if_neg (by omega), if_pos (by omega)]
              unfold tw
              rw [if_neg (by rw [e]; omega)]
            · by_cases e2 : q / 5 < i
              · rw [if_pos e2, if_pos (by omega)]
              · rw [if_neg e2, if_neg (by omega)]
        · rw [if_neg (by omega), rfc hWv.m3 kd_140 (by decide), c1_r (m_at _ _), ln_140, ix_d (by omega) (by omega) (by decide), lt_d, lt_d, I_add, show (5 * ((i : Int) + 1 - 1) + (dig a (C - 1 - i) : Int) - 1).toNat = 5 * i + (dig a (C - 1 - i) - 1) by omega]
          rfl
    · rintro x v ⟨rfl, hv2, hv3, hv4⟩ k
      have e0 : v.1 139 0 = I C := by rw [hv3 _ _ (by omega), hm3.1, hC]
      have hWv : Wi v.2 := by rw [hv2]; exact hW3
      have hmv : MG v (grd C R (g 2) (tw a C)) := by
        refine ⟨by rw [e0, grd_0], by rw [hv3 _ _ (by omega), hm3.2.1, grd_1, hR], by rw [hv3 _ _ (by omega), hm3.2.2.1, grd_2], fun q hq => ?_⟩
        rw [hv4 q hq, grd_n]
        congr 1
        by_cases e : q / 5 < C
        · rw [if_pos e]
        · rw [if_neg e]
          unfold tw
          rw [if_neg (fun h => e h.1)]
      rw [e0]
      simp (disch := omega) only [I_lt]
      rw [if_pos (by omega), c1_r (m_filled hWv hmv hgv)]
      exact ⟨v, rfl, hv2, hmv, hv3⟩
theorem m_word_bad {w : Wd} {g : Gd} {z : Int} {C R : Nat} (hv : GV g) (hm : MG w g) (hC : g 0 = C) (hR : g 1 = R) (hz : -2147483648 ≤ z ∧ z < 2147483648) (h : ∀ a : Nat, z = a → ¬ okw a C R) : f_X8_word 139 (I z) w = some ((-1 : Int32), w) := by
  have v1 := hv.1; have v2 := hv.2.1
  have hp := p10 C (by omega)
  unfold f_X8_word
  rw [hm.1, hm.2.1, hC, hR, c1_r (m_power (by omega)), show I ((10 ^ C : Nat) : Int) - (1 : Int32) = I (((10 ^ C : Nat) : Int) - 1) from I_sub _ 1, I_long (z := ((10 ^ C : Nat) : Int) - 1) (by omega) (by omega), l0, c1_r (m_chk hz (by omega) (by omega))]
  by_cases c : 0 ≤ z ∧ z ≤ ((10 ^ C : Nat) : Int) - 1
  · rw [if_pos c, if_neg n10]
    obtain ⟨a, rfl⟩ : ∃ a : Nat, z = a := ⟨z.toNat, by omega⟩
    refine wl1_inv (Q := fun r => r = some ((-1 : Int32), w)) C (fun i x => x = I ((i : Int) + 1) ∧ ∀ j, j < i → dig a (C - 1 - j) ≤ R) (fu_lt (by omega)) ⟨rfl, fun j hj => absurd hj (by omega)⟩ ?_ ?_
    · rintro i hi x ⟨rfl, hd⟩ k
      have hd9 := dig9 a (C - 1 - i)
      simp (disch := omega) only [↓j_m1, ↓j_m2, ↓j_m3, ↓j_m5, ↓j_m6, ↓j_m11, ↓j_m12, ↓j_m13, ↓j_m14, ↓j_m1000, j_0, j_1, j_2, j_3, j_4, j_5, j_6, j_7, j_8, j_9, j_10, j_12, j_14, j_20, j_25, j_26, j_28, j_30, j_36, j_48, j_49, j_50, j_53, j_57, j_59, j_60, j_63, j_75, j_80, j_99, j_100, j_196, j_255, j_1000, I_lt]
      rw [if_neg (by omega), I_sub, show (C : Int) - ((i : Int) + 1) = ((C - 1 - i : Nat) : Int) by omega, c1_r (m_power (by omega)), nz_d (pw_nz (by omega)), m_dig (by omega) (by omega)]
      by_cases e : dig a (C - 1 - i) ≤ R
      · left
        refine ⟨I (((i + 1 : Nat) : Int) + 1), ⟨rfl, fun j hj => ?_⟩, by rw [if_pos (by rw [I_le (by omega) (by omega) (by omega) (by omega)]; omega), lt_d, I_add]; rfl⟩
        by_cases e2 : j = i
        · subst e2; exact e
        · exact hd j (by omega)
      · right
        rw [if_neg (by rw [I_le (by omega) (by omega) (by omega) (by omega)]; omega)]
    · rintro x ⟨rfl, hd⟩ k
      exact absurd ⟨by omega, fun i hi => by have := hd (C - 1 - i) (by omega); rwa [show C - 1 - (C - 1 - i) = i by omega] at this⟩ (h a rfl)
  · rw [if_neg c, if_pos z00]
theorem op_word {z : Int} (hz : -2147483648 ≤ z ∧ z < 2147483648) : Op2 (f_X7_word 0 (I z)) (f_X8_word 139 (I z)) := by
  rintro w ⟨g, p, u, G, H⟩
  obtain ⟨hW, ⟨hv, hc, hm⟩, hrc, hrd, hri, hrt, -⟩ := id H
  have e1 := hW.1.1
  have v1 := hv.1; have v2 := hv.2.1
  obtain ⟨C, hC⟩ : ∃ C : Nat, g 0 = C := ⟨(g 0).toNat, by omega⟩
  obtain ⟨R, hR⟩ : ∃ R : Nat, g 1 = R := ⟨(g 1).toNat, by omega⟩
  have bad : f_X0_canSpell 1 (I z) w = some (I 0) → (∀ a : Nat, z = a → ¬ okw a C R) → ∃ v w1 w2, f_X7_word 0 (I z) w = some (v, w1) ∧ f_X8_word 139 (I z) w1 = some (v, w2) ∧ In w2 := fun k1 h => by
    refine ⟨(-1 : Int32), w, w, ?_, m_word_bad hv hm hC hR hz h, ⟨g, p, u, G, H⟩⟩
    unfold f_X7_word
    rw [rfc e1 kd_1 (by decide), c1_r k1, if_pos z00]
  by_cases c : 0 ≤ z
  · obtain ⟨a, rfl⟩ : ∃ a : Nat, z = a := ⟨z.toNat, by omega⟩
    obtain ⟨k1, ok⟩ | ⟨k1, ok⟩ := s_canSpell (w := w) (a := a) (C := C) (R := R) (by rw [hc.1, hC]) (by rw [hc.2.1, hR]) (by omega) (by omega) (by omega)
    · have hgv : GV (grd C R (g 2) (tw a C)) := by
        refine ⟨by rw [grd_0]; omega, by rw [grd_1]; omega, by rw [grd_2]; exact hv.2.2.1, fun j hj => ?_, fun j hj h => ?_⟩
        · rw [grd_n]
          unfold tw
          split <;> omega
        · rw [grd_n]
          rw [grd_0, grd_1] at h
          unfold tw
          rw [if_neg]
          rintro ⟨x1, x2⟩
          have := ok.2 (C - 1 - j / 5) (by omega)
          omega
      obtain ⟨w1, b1, b2, b3, b4, b5, b6⟩ := H.begin
      obtain ⟨w2, s1, s2, s3, s4⟩ := s_spell b2 hv b3 hC hR (by omega) ok
      obtain ⟨d1, d2, w3, d3, d4, d5, d6, d7⟩ := b6 w2 s2 (fun a b h1 h2 _ _ => s4 a b (by omega) (by omega))
      obtain ⟨w4, t1, t2, t3, t4⟩ := m_word_ok hv d2 hC hR (by omega) ok d3 d4 d5 hgv
      have e2 : w2.2 0 0 = some 1 := d1.1.1
      refine ⟨_, w2, w4, ?_, t1, d7 w4 _ t2 (fun a b h => t4 a b (by omega)) hgv s3 t3 (hrt.of fun a b h => ?_)⟩
      · unfold f_X7_word
        rw [rfc e1 kd_1 (by decide), c1_r k1, if_neg n10, c1_r b1, rfc b2.1.1 kd_1 (by decide), c1_r s1, rfc e2 kd_1 (by decide), c1_r (s_filled kd_1 (d1.2.1 _ kd_1) s3 hgv)]
      · rw [t4 _ _ (by omega), d6 _ _ (by omega) (by omega), s4 _ _ (by omega) (by omega), b5 _ _ (by omega) (by omega) (by omega)]
    · exact bad k1 (fun b hb => by obtain rfl : a = b := by omega
                                   exact ok)
  · refine bad ?_ (fun a ha => absurd ha (by omega))
    unfold f_X0_canSpell
    rw [if_neg (by rw [i0, I_le (by omega) (by omega) (by omega) (by omega)]; omega)]
    rfl

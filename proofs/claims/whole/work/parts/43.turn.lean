/-! turn -/
theorem grd_V {a b r : Int} {T : Nat → Int} (ha : 1 ≤ a ∧ a ≤ 5) (hb : 1 ≤ b ∧ b ≤ 5) (hr : 0 ≤ r ∧ r ≤ 3) (h1 : ∀ q, q < 25 → 0 ≤ T q ∧ T q ≤ 3) (h2 : ∀ q : Nat, q < 25 → (a ≤ ((q / 5 : Nat) : Int) ∨ b ≤ ((q % 5 : Nat) : Int)) → T q = 0) : GV (grd a b r T) :=
  ⟨ha, hb, hr, fun j hj => by rw [grd_n]; exact h1 j hj, fun j hj h => by rw [grd_n]; exact h2 j hj h⟩
theorem grd_CG {w : Wd} {t : Nat} {a b r : Int} {T : Nat → Int} (h0 : w.1 t 0 = I a) (h1 : w.1 t 1 = I b) (h2 : w.1 t 2 = I r) (h3 : ∀ q, q < 25 → w.1 (t + 1) q = I (T q)) : CG w t (grd a b r T) :=
  ⟨h0, h1, h2, fun j hj => by rw [grd_n]; exact h3 j hj⟩
theorem grd_MG {w : Wd} {a b r : Int} {T : Nat → Int} (h0 : w.1 139 0 = I a) (h1 : w.1 139 1 = I b) (h2 : w.1 139 2 = I r) (h3 : ∀ q, q < 25 → w.1 140 q = I (T q)) : MG w (grd a b r T) :=
  ⟨h0, h1, h2, fun j hj => by rw [grd_n]; exact h3 j hj⟩
theorem CG.set {w : Wd} {t k : Nat} {a b r : Int} {T T' : Nat → Int} {v : Int} (h : CG w t (grd a b r T)) (h1 : T' k = v) (h2 : ∀ q, q < 25 → q ≠ k → T' q = T q) : CG (upI w (t + 1) k (I v)) t (grd a b r T') := by
  refine grd_CG (by rw [upI_n (by omega)]; exact h.1) (by rw [upI_n (by omega)]; exact h.2.1) (by rw [upI_n (by omega)]; exact h.2.2.1) (fun q hq => ?_)
  by_cases e : q = k
  · subst e; rw [upI_s, h1]
  · rw [upI_n (by omega), h.2.2.2 q hq, grd_n, h2 q hq e]
theorem GV.g0 {g : Gd} (hv : GV g) {q : Nat} (hq : q < 25) : 0 ≤ g (3 + q) ∧ g (3 + q) ≤ 3 := hv.2.2.2.1 q hq
/-- what place q holds when the cells up to (i, j) are turned -/
def tn0 (g : Gd) (C R i j : Nat) (q : Nat) : Int := if (q / 5 < R ∧ q % 5 < C) ∧ (q % 5 < i ∨ (q % 5 = i ∧ q / 5 < j)) then g (3 + (5 * (q % 5) + q / 5)) else 0
theorem tn0_b {g : Gd} {C R i j : Nat} (hv : GV g) (hC : g 0 = C) (hR : g 1 = R) (q : Nat) (hq : q < 25) : 0 ≤ tn0 g C R i j q ∧ tn0 g C R i j q ≤ 3 := by
  have v1 := hv.1; have v2 := hv.2.1
  unfold tn0
  split
  · exact hv.g0 (by omega)
  · omega
theorem tn0_V {g : Gd} {C R i j : Nat} (hv : GV g) (hC : g 0 = C) (hR : g 1 = R) : GV (grd (R : Int) (C : Int) (g 2) (tn0 g C R i j)) := by
  have v1 := hv.1; have v2 := hv.2.1
  refine grd_V (by omega) (by omega) hv.2.2.1 (tn0_b hv hC hR) (fun q hq h => ?_)
  unfold tn0
  rw [if_neg (by omega)]
  skip
theorem tn0_s {g : Gd} {C R i j : Nat} (hi : i < C) (hj : j < R) (hC : C ≤ 5) (hR : R ≤ 5) : tn0 g C R i (j + 1) (5 * j + i) = g (3 + (5 * i + j)) := by
  unfold tn0
  rw [if_pos (by omega), show 5 * ((5 * j + i) % 5) + (5 * j + i) / 5 = 5 * i + j by omega]
theorem tn0_n {g : Gd} {C R i j q : Nat} (hi : i < C) (hj : j < R) (hC : C ≤ 5) (hR : R ≤ 5) (hq : q < 25) (h : q ≠ 5 * j + i) : tn0 g C R i (j + 1) q = tn0 g C R i j q := by
  unfold tn0
  by_cases c : (q / 5 < R ∧ q % 5 < C) ∧ (q % 5 < i ∨ (q % 5 = i ∧ q / 5 < j))
  · rw [if_pos c, if_pos (by omega)]
  · rw [if_neg c, if_neg (by omega)]
theorem tn0_e {g : Gd} {C R i q : Nat} (hC : C ≤ 5) (hR : R ≤ 5) (hq : q < 25) : tn0 g C R i R q = tn0 g C R (i + 1) 0 q := by
  unfold tn0
  by_cases c : (q / 5 < R ∧ q % 5 < C) ∧ (q % 5 < i ∨ (q % 5 = i ∧ q / 5 < R))
  · rw [if_pos c, if_pos (by omega)]
  · rw [if_neg c, if_neg (by omega)]
theorem grd0_e {g : Gd} {C R i : Nat} {w : Wd} {t : Nat} (hC : C ≤ 5) (hR : R ≤ 5) (h : CG w t (grd (R : Int) (C : Int) (g 2) (tn0 g C R i R))) : CG w t (grd (R : Int) (C : Int) (g 2) (tn0 g C R (i + 1) 0)) :=
  grd_CG h.1 h.2.1 h.2.2.1 (fun q hq => by rw [h.2.2.2 q hq, grd_n, tn0_e hC hR hq])
theorem s_turn0 {w : Wd} {g : Gd} {C R : Nat} (hW : Wi w.2) (hv : GV g) (hC : g 0 = C) (hR : g 1 = R) (h3 : CG w 3 g) (h1 : CG w 1 (grd (R : Int) (C : Int) (g 2) (tn0 g C R 0 0))) :
    ∃ w', wl2 (fun (x14 : Int32) (w15 : Wd) k16 => rf 153 (w15.2 0 1) 0 (fun t18 => (if (w15.1 t18 0) < x14 then rf 153 (w15.2 0 0) 0 (fun t21 => c1 (f_X0_filled t21 w15) (fun v24 => some (v24, w15))) else wl2 (fun (x25 : Int32) (w26 : Wd) k27 => rf 153 (w26.2 0 1) 0 (fun t29 => (if (w26.1 t29 1) < x25 then lt (x14 + (1 : Int32)) (fun x32 => k16 x32 w26) else rf 153 (w26.2 0 1) 0 (fun t34 => c1 (f_X0_numberAt t34 x14 x25 w26) (fun v37 => jn (fun (w39 : Wd) => lt (x25 + (1 : Int32)) (fun x41 => k27 x41 w39)) (fun j40 => (if I 0 = 0 then rf 153 (w26.2 0 0) 0 (fun t56 => c1 (f_X0_setNumber t56 x25 x14 v37 w26) (fun w59 => j40 w59)) else (if I 0 = (1 : Int32) then rf 153 (w26.2 0 0) 0 (fun t50 => rf 153 (w26.2 0 1) 0 (fun t52 => c1 (f_X0_setNumber t50 (((w26.1 t52 0) + (1 : Int32)) - x14) x25 v37 w26) (fun w55 => j40 w55))) else rf 153 (w26.2 0 0) 0 (fun t44 => rf 153 (w26.2 0 1) 0 (fun t46 => c1 (f_X0_setNumber t44 x14 (((w26.1 t46 1) + (1 : Int32)) - x25) v37 w26) (fun w49 => j40 w49))))))))))) fu (1 : Int32) w15))) fu (1 : Int32) w = some (I (fld (grd (R : Int) (C : Int) (g 2) (tn0 g C R C 0)) 25), w') ∧ w'.2 = w.2 ∧ CG w' 1 (grd (R : Int) (C : Int) (g 2) (tn0 g C R C 0)) ∧ ∀ a b, a ≠ 2 → w'.1 a b = w.1 a b := by
  have v1 := hv.1; have v2 := hv.2.1
  refine wl2_inv (Q := fun r => ∃ w', r = some (I (fld (grd (R : Int) (C : Int) (g 2) (tn0 g C R C 0)) 25), w') ∧ w'.2 = w.2 ∧ CG w' 1 (grd (R : Int) (C : Int) (g 2) (tn0 g C R C 0)) ∧ ∀ a b, a ≠ 2 → w'.1 a b = w.1 a b) C (fun i x (v : Wd) => x = I ((i : Int) + 1) ∧ v.2 = w.2 ∧ CG v 1 (grd (R : Int) (C : Int) (g 2) (tn0 g C R i 0)) ∧ ∀ a b, a ≠ 2 → v.1 a b = w.1 a b) (fu_lt (by omega)) ?_ ?_ ?_
  · exact ⟨rfl, rfl, h1, fun _ _ _ => rfl⟩
  · rintro i hi x v ⟨rfl, hv2, hcv, hf⟩ k
    have hWv : Wi v.2 := by rw [hv2]; exact hW
    have e01 : v.2 0 1 = some 3 := hWv.1.2.1
    have e3 : CG v 3 g := h3.of (fun b => hf _ _ (by omega)) (fun b => hf _ _ (by omega))
    rw [rfc e01 kd_3 (by decide), e3.1, hC]
    simp (disch := omega) only [↓j_m1, ↓j_m2, ↓j_m3, ↓j_m5, ↓j_m6, ↓j_m11, ↓j_m12, ↓j_m13, ↓j_m14, ↓j_m1000, j_0, j_1, j_2, j_3, j_4, j_5, j_6, j_7, j_8, j_9, j_10, j_12, j_14, j_20, j_25, j_26, j_28, j_30, j_36, j_48, j_49, j_50, j_53, j_57, j_59, j_60, j_63, j_75, j_80, j_99, j_100, j_196, j_255, j_1000, I_lt]
    rw [if_neg (by omega)]
    left
    have inner : ∃ u : Wd, (wl2 (fun (x25 : Int32) (w26 : Wd) k27 => rf 153 (w26.2 0 1) 0 (fun t29 => (if (w26.1 t29 1) < x25 then lt (I ((i : Int) + 1) + I 1) (fun x32 => k x32 w26) else rf 153 (w26.2 0 1) 0 (fun t34 => c1 (f_X0_numberAt t34 (I ((i : Int) + 1)) x25 w26) (fun v37 => jn (fun (w39 : Wd) => lt (x25 + I 1) (fun x41 => k27 x41 w39)) (fun j40 => (if I 0 = I 0 then rf 153 (w26.2 0 0) 0 (fun t56 => c1 (f_X0_setNumber t56 x25 (I ((i : Int) + 1)) v37 w26) (fun w59 => j40 w59)) else (if I 0 = I 1 then rf 153 (w26.2 0 0) 0 (fun t50 => rf 153 (w26.2 0 1) 0 (fun t52 => c1 (f_X0_setNumber t50 (((w26.1 t52 0) + I 1) - I ((i : Int) + 1)) x25 v37 w26) (fun w55 => j40 w55))) else rf 153 (w26.2 0 0) 0 (fun t44 => rf 153 (w26.2 0 1) 0 (fun t46 => c1 (f_X0_setNumber t44 (I ((i : Int) + 1)) (((w26.1 t46 1) + I 1) - x25) v37 w26) (fun w49 => j40 w49))))))))))) fu (I 1) v) = k (I (((i + 1 : Nat) : Int) + 1)) u ∧ u.2 = w.2 ∧ CG u 1 (grd (R : Int) (C : Int) (g 2) (tn0 g C R (i + 1) 0)) ∧ ∀ a b, a ≠ 2 → u.1 a b = w.1 a b := by
      refine wl2_inv (Q := fun r => ∃ u : Wd, r = k (I (((i + 1 : Nat) : Int) + 1)) u ∧ u.2 = w.2 ∧ CG u 1 (grd (R : Int) (C : Int) (g 2) (tn0 g C R (i + 1) 0)) ∧ ∀ a b, a ≠ 2 → u.1 a b = w.1 a b) R (fun j x (v : Wd) => x = I ((j : Int) + 1) ∧ v.2 = w.2 ∧ CG v 1 (grd (R : Int) (C : Int) (g 2) (tn0 g C R i j)) ∧ ∀ a b, a ≠ 2 → v.1 a b = w.1 a b) (fu_lt (by omega)) ?_ ?_ ?_
      · exact ⟨rfl, hv2, hcv, hf⟩
      · rintro j hj x u ⟨rfl, hu2, hcu, hfu⟩ kk
        have hWu : Wi u.2 := by rw [hu2]; exact hW
        have f01 : u.2 0 1 = some 3 := hWu.1.2.1
        have f00 : u.2 0 0 = some 1 := hWu.1.1
        have f3 : CG u 3 g := h3.of (fun b => hfu _ _ (by omega)) (fun b => hfu _ _ (by omega))
        have en : num g ((i : Int) + 1) ((j : Int) + 1) = g (3 + (5 * i + j)) := by
          unfold num
          rw [if_pos (by omega), show (5 * ((i : Int) + 1 - 1) + ((j : Int) + 1 - 1)).toNat = 5 * i + j by omega]
        left
        refine ⟨I (((j + 1 : Nat) : Int) + 1), upI u 2 (5 * j + i) (I (g (3 + (5 * i + j)))), ⟨rfl, hu2, hcu.set (tn0_s hi hj (by omega) (by omega)) (fun q hq h => tn0_n hi hj (by omega) (by omega) hq h), fun a b h => by rw [upI_n (by omega)]; exact hfu a b h⟩, ?_⟩
        rw [rfc f01 kd_3 (by decide), f3.2.1, hR]
        simp (disch := omega) only [I_lt]
        rw [if_neg (by omega), rfc f01 kd_3 (by decide), c1_r (s_numberAt kd_3 (hWu.2.1 _ kd_3) f3 hv (by omega) (by omega)), en]
        simp only [jn_d]
        rw [if_pos trivial, rfc f00 kd_1 (by decide), c1_r (s_setNumber (I (g (3 + (5 * i + j)))) kd_1 (hWu.2.1 _ kd_1) hcu (tn0_V hv hC hR) (by rw [grd_0]; omega) (by rw [grd_1]; omega)), show (5 * (((j : Int) + 1) - 1) + (((i : Int) + 1) - 1)).toNat = 5 * j + i by omega, lt_d, I_add]
        rfl
      · rintro x u ⟨rfl, hu2, hcu, hfu⟩ kk
        have hWu : Wi u.2 := by rw [hu2]; exact hW
        have f01 : u.2 0 1 = some 3 := hWu.1.2.1
        have f3 : CG u 3 g := h3.of (fun b => hfu _ _ (by omega)) (fun b => hfu _ _ (by omega))
        rw [rfc f01 kd_3 (by decide), f3.2.1, hR]
        simp (disch := omega) only [I_lt]
        rw [if_pos (by omega), lt_d, I_add]
        exact ⟨u, rfl, hu2, grd0_e (by omega) (by omega) hcu, hfu⟩
    obtain ⟨u, i1, i2, i3, i4⟩ := inner
    exact ⟨_, u, ⟨rfl, i2, i3, i4⟩, i1⟩
  · rintro x v ⟨rfl, hv2, hcv, hf⟩ k
    have hWv : Wi v.2 := by rw [hv2]; exact hW
    have e01 : v.2 0 1 = some 3 := hWv.1.2.1
    have e3 : CG v 3 g := h3.of (fun b => hf _ _ (by omega)) (fun b => hf _ _ (by omega))
    rw [rfc e01 kd_3 (by decide), e3.1, hC, if_pos (by rw [I_lt (by omega) (by omega) (by omega) (by omega)]; omega), rfc hWv.1.1 kd_1 (by decide), c1_r (s_filled kd_1 (hWv.2.1 _ kd_1) hcv (tn0_V hv hC hR))]
    exact ⟨v, rfl, hv2, hcv, hf⟩
/-- the same, from an empty grid -/
def tm0 (g : Gd) (C R i j : Nat) (q : Nat) : Int := if (q / 5 < R ∧ q % 5 < C) ∧ (q % 5 < i ∨ (q % 5 = i ∧ q / 5 < j)) then g (3 + (5 * (q % 5) + q / 5)) else 0
theorem tm0_s {g : Gd} {C R i j : Nat} (hi : i < C) (hj : j < R) (hC : C ≤ 5) (hR : R ≤ 5) : tm0 g C R i (j + 1) (5 * j + i) = g (3 + (5 * i + j)) := by
  unfold tm0
  rw [if_pos (by omega), show 5 * ((5 * j + i) % 5) + (5 * j + i) / 5 = 5 * i + j by omega]
theorem tm0_n {g : Gd} {C R i j q : Nat} (hi : i < C) (hj : j < R) (hC : C ≤ 5) (hR : R ≤ 5) (hq : q < 25) (h : q ≠ 5 * j + i) : tm0 g C R i (j + 1) q = tm0 g C R i j q := by
  unfold tm0
  by_cases c : (q / 5 < R ∧ q % 5 < C) ∧ (q % 5 < i ∨ (q % 5 = i ∧ q / 5 < j))
  · rw [if_pos c, if_pos (by omega)]
  · rw [if_neg c, if_neg (by omega)]
theorem tm0_e {g : Gd} {C R i q : Nat} (hC : C ≤ 5) (hR : R ≤ 5) (hq : q < 25) : tm0 g C R i R q = tm0 g C R (i + 1) 0 q := by
  unfold tm0
  by_cases c : (q / 5 < R ∧ q % 5 < C) ∧ (q % 5 < i ∨ (q % 5 = i ∧ q / 5 < R))
  · rw [if_pos c, if_pos (by omega)]
  · rw [if_neg c, if_neg (by omega)]
theorem tm0_0 {g : Gd} {C R q : Nat} : tm0 g C R 0 0 q = 0 := by
  unfold tm0
  rw [if_neg (by omega)]
theorem tm0_t {g : Gd} {C R q : Nat} (hv : GV g) (hC : g 0 = C) (hR : g 1 = R) (hq : q < 25) : tm0 g C R C 0 q = tn0 g C R C 0 q := by
  have v1 := hv.1; have v2 := hv.2.1
  unfold tm0 tn0
  by_cases c : (q / 5 < R ∧ q % 5 < C) ∧ (q % 5 < C ∨ (q % 5 = C ∧ q / 5 < 0))
  · simp only [if_pos c]
  · simp only [if_neg c]
theorem m_turn0 {w : Wd} {g : Gd} {C R : Nat} (hv : GV g) (hC : g 0 = C) (hR : g 1 = R) {w3 : Wd} (hd : f_X8_does 139 w = some w3) (hW3 : Wi w3.2) (hm3 : MG w3 g) :
    ∃ w4, f_X8_turn 139 (I 0) w = some (I (fld (grd (R : Int) (C : Int) (g 2) (tn0 g C R C 0)) 25), w4) ∧ w4.2 = w3.2 ∧ MG w4 (grd (R : Int) (C : Int) (g 2) (tn0 g C R C 0)) ∧ ∀ a b, a ≠ 140 → a ≠ 143 → ¬ (a = 139 ∧ b < 2) → w4.1 a b = w3.1 a b := by
  have v1 := hv.1; have v2 := hv.2.1
  unfold f_X8_turn
  rw [l0, l2, c1_r (m_chk (by omega) (by omega) (by omega)), if_pos (show (0 : Int) ≤ 0 ∧ (0 : Int) ≤ 2 by omega), if_neg n10, c1_r hd]
  refine wl2_inv (Q := fun r => ∃ w4, r = some (I (fld (grd (R : Int) (C : Int) (g 2) (tn0 g C R C 0)) 25), w4) ∧ w4.2 = w3.2 ∧ MG w4 (grd (R : Int) (C : Int) (g 2) (tn0 g C R C 0)) ∧ ∀ a b, a ≠ 140 → a ≠ 143 → ¬ (a = 139 ∧ b < 2) → w4.1 a b = w3.1 a b) 25 (fun i x (v : Wd) => x = I i ∧ v = fill w3 143 i (fun _ => I 0)) (fu_lt (by omega)) ?_ ?_ ?_
  · exact ⟨rfl, (fill_0 _ _ _).symm⟩
  · rintro i hi x v ⟨rfl, rfl⟩ k
    left
    refine ⟨I ((i + 1 : Nat) : Int), fill w3 143 (i + 1) (fun _ => I 0), ⟨rfl, rfl⟩, ?_⟩
    rw [if_neg (by rw [i25, I_le (by omega) (by omega) (by omega) (by omega)]; omega), fill_2, rfc hW3.m8 kd_143 (by decide), ln_143, ix_d (by omega) (by omega) (by decide), lt_d, lt_d, Int.toNat_natCast, i1, I_add, nS, i0, fill_s _ _ i (fun _ => I 0)]
  · rintro x v ⟨rfl, rfl⟩ k
    rw [if_pos (by decide)]
    refine wl2_inv (Q := fun r => ∃ w4, r = some (I (fld (grd (R : Int) (C : Int) (g 2) (tn0 g C R C 0)) 25), w4) ∧ w4.2 = w3.2 ∧ MG w4 (grd (R : Int) (C : Int) (g 2) (tn0 g C R C 0)) ∧ ∀ a b, a ≠ 140 → a ≠ 143 → ¬ (a = 139 ∧ b < 2) → w4.1 a b = w3.1 a b) C (fun i x (v : Wd) => x = I ((i : Int) + 1) ∧ v.2 = w3.2 ∧ (∀ q, q < 25 → v.1 143 q = I (tm0 g C R i 0 q)) ∧ ∀ a b, a ≠ 143 → v.1 a b = w3.1 a b) (fu_lt (by omega)) ?_ ?_ ?_
    · exact ⟨rfl, rfl, fun q hq => by rw [fill_i hq, tm0_0], fun a b h => fill_n (by omega)⟩
    · rintro i hi x v ⟨rfl, hv2, hvq, hf⟩ k
      rw [hf 139 0 (by omega), hm3.1, hC]
      simp (disch := omega) only [↓j_m1, ↓j_m2, ↓j_m3, ↓j_m5, ↓j_m6, ↓j_m11, ↓j_m12, ↓j_m13, ↓j_m14, ↓j_m1000, j_0, j_1, j_2, j_3, j_4, j_5, j_6, j_7, j_8, j_9, j_10, j_12, j_14, j_20, j_25, j_26, j_28, j_30, j_36, j_48, j_49, j_50, j_53, j_57, j_59, j_60, j_63, j_75, j_80, j_99, j_100, j_196, j_255, j_1000, I_lt]
      rw [if_neg (by omega)]
      left
      refine wl2_inv (Q := fun r => ∃ t0 t1, (t0 = I (((i + 1 : Nat) : Int) + 1) ∧ t1.2 = w3.2 ∧ (∀ q, q < 25 → t1.1 143 q = I (tm0 g C R (i + 1) 0 q)) ∧ ∀ a b, a ≠ 143 → t1.1 a b = w3.1 a b) ∧ r = k t0 t1) R (fun j x (v : Wd) => x = I ((j : Int) + 1) ∧ v.2 = w3.2 ∧ (∀ q, q < 25 → v.1 143 q = I (tm0 g C R i j q)) ∧ ∀ a b, a ≠ 143 → v.1 a b = w3.1 a b) (fu_lt (by omega)) ?_ ?_ ?_
      · exact ⟨rfl, hv2, hvq, hf⟩
      · rintro j hj x u ⟨rfl, hu2, huq, hfu⟩ kk
        have hWu : Wi u.2 := by rw [hu2]; exact hW3
        have ev : u.1 140 (5 * i + j) = I (g (3 + (5 * i + j))) := by rw [hfu _ _ (by omega)]; exact hm3.2.2.2 _ (by omega)
        have ec : u.1 139 0 = I C := by rw [hfu _ _ (by omega), hm3.1, hC]
        have er : u.1 139 1 = I R := by rw [hfu _ _ (by omega), hm3.2.1, hR]
        left
        refine ⟨I (((j + 1 : Nat) : Int) + 1), upI u 143 (5 * j + i) (I (g (3 + (5 * i + j)))), ⟨rfl, hu2, fun q hq => ?_, fun a b h => by rw [upI_n (by omega)]; exact hfu a b h⟩, ?_⟩
        · by_cases e : q = 5 * j + i
          · subst e; rw [upI_s, tm0_s hi hj (by omega) (by omega)]
          · rw [upI_n (by omega), huq q hq, tm0_n hi hj (by omega) (by omega) hq e]
        · rw [er, ec]
          simp (disch := omega) only [I_lt]
          rw [if_neg (by omega)]
          simp only [jn_d]
          rw [if_pos trivial, c1_r (m_at _ _), rfc hWu.m8 kd_143 (by decide), rfc hWu.m3 kd_140 (by decide), c1_r (m_at _ _), ln_140, ix_d (by omega) (by omega) (by decide), ln_143, ix_d (by omega) (by omega) (by decide), show (5 * ((i : Int) + 1 - 1) + ((j : Int) + 1) - 1).toNat = 5 * i + j by omega, ev, lt_d, lt_d, I_add]
          exact congrArg (fun z => kk (I (((j + 1 : Nat) : Int) + 1)) (upI u 143 z (I (g (3 + (5 * i + j)))))) (show (5 * ((j : Int) + 1 - 1) + ((i : Int) + 1) - 1).toNat = 5 * j + i by omega)
      · rintro x u ⟨rfl, hu2, huq, hfu⟩ kk
        rw [hfu 139 1 (by omega), hm3.2.1, hR]
        simp (disch := omega) only [I_lt]
        rw [if_pos (by omega), lt_d, I_add]
        exact ⟨_, u, ⟨rfl, hu2, fun q hq => by rw [huq q hq, tm0_e (by omega) (by omega) hq], hfu⟩, rfl⟩
    · rintro x u ⟨rfl, hu2, huq, hfu⟩ k
      rw [hfu 139 0 (by omega), hm3.1, hC, if_pos (by rw [I_lt (by omega) (by omega) (by omega) (by omega)]; omega)]
      refine wl2_inv (Q := fun r => ∃ w4, r = some (I (fld (grd (R : Int) (C : Int) (g 2) (tn0 g C R C 0)) 25), w4) ∧ w4.2 = w3.2 ∧ MG w4 (grd (R : Int) (C : Int) (g 2) (tn0 g C R C 0)) ∧ ∀ a b, a ≠ 140 → a ≠ 143 → ¬ (a = 139 ∧ b < 2) → w4.1 a b = w3.1 a b) 25 (fun i x (v : Wd) => x = I i ∧ v.2 = w3.2 ∧ (∀ q, q < i → v.1 140 q = I (tn0 g C R C 0 q)) ∧ ∀ a b, a ≠ 140 → v.1 a b = u.1 a b) (fu_lt (by omega)) ?_ ?_ ?_
      · exact ⟨rfl, hu2, fun q hq => absurd hq (by omega), fun _ _ _ => rfl⟩
      · rintro i hi x v ⟨rfl, hv2, hvq, hf⟩ k
        have hWv : Wi v.2 := by rw [hv2]; exact hW3
        left
        refine ⟨I ((i + 1 : Nat) : Int), upI v 140 i (I (tn0 g C R C 0 i)), ⟨rfl, hv2, fun q hq => ?_, fun a b h => by rw [upI_n (by omega)]; exact hf a b h⟩, ?_⟩
        · by_cases e : q = i
          · subst e; rw [upI_s]
          · rw [upI_n (by omega), hvq q (by omega)]
        · rw [if_neg (by rw [i25, I_le (by omega) (by omega) (by omega) (by omega)]; omega), rfc hWv.m3 kd_140 (by decide), rfc hWv.m8 kd_143 (by decide), ln_143, ix_d (by omega) (by omega) (by decide), ln_140, ix_d (by omega) (by omega) (by decide), lt_d, lt_d, Int.toNat_natCast, hf 143 i (by omega), huq i hi, tm0_t hv hC hR hi, i1, I_add, nS]
      · rintro x v ⟨rfl, hv2, hvq, hf⟩ k
        have hWv : Wi v.2 := by rw [hv2]; exact hW3
        have ec : v.1 139 0 = I C := by rw [hf _ _ (by omega), hfu _ _ (by omega), hm3.1, hC]
        have er : v.1 139 1 = I R := by rw [hf _ _ (by omega), hfu _ _ (by omega), hm3.2.1, hR]
        have e2 : v.1 139 2 = I (g 2) := by rw [hf _ _ (by omega), hfu _ _ (by omega), hm3.2.2.1]
        rw [if_pos (by decide)]
        have hmg : MG (upI (upI v 139 0 (I R)) 139 1 (I C)) (grd (R : Int) (C : Int) (g 2) (tn0 g C R C 0)) := grd_MG (by rw [upI_n (by omega), upI_s]) (by rw [upI_s]) (by rw [upI_n (by omega), upI_n (by omega), e2]) (fun q hq => by rw [upI_n (by omega), upI_n (by omega), hvq q hq])
        rw [jn_d, if_pos z00, ec, er, lt_d, lt_d, lt_d]
        show ∃ w4, c1 (f_X8_filled 139 (upI (upI v 139 0 (I R)) 139 1 (I C))) _ = _ ∧ _
        rw [c1_r (m_filled (w := upI (upI v 139 0 (I R)) 139 1 (I C)) hWv hmg (tn0_V hv hC hR))]
        exact ⟨_, rfl, hv2, hmg, fun a b h1 h2 h3 => by rw [upI_n (by omega), upI_n (by omega), hf _ _ h1, hfu _ _ h2]⟩
/-- what place q holds when the cells up to (i, j) are turned -/
def tn1 (g : Gd) (C R i j : Nat) (q : Nat) : Int := if (q / 5 < C ∧ q % 5 < R) ∧ (C - 1 - q / 5 < i ∨ (C - 1 - q / 5 = i ∧ q % 5 < j)) then g (3 + (5 * (C - 1 - q / 5) + q % 5)) else g (3 + q)
theorem tn1_b {g : Gd} {C R i j : Nat} (hv : GV g) (hC : g 0 = C) (hR : g 1 = R) (q : Nat) (hq : q < 25) : 0 ≤ tn1 g C R i j q ∧ tn1 g C R i j q ≤ 3 := by
  have v1 := hv.1; have v2 := hv.2.1
  unfold tn1
  split
  · exact hv.g0 (by omega)
  · exact hv.g0 hq
theorem tn1_V {g : Gd} {C R i j : Nat} (hv : GV g) (hC : g 0 = C) (hR : g 1 = R) : GV (grd (C : Int) (R : Int) (g 2) (tn1 g C R i j)) := by
  have v1 := hv.1; have v2 := hv.2.1
  refine grd_V (by omega) (by omega) hv.2.2.1 (tn1_b hv hC hR) (fun q hq h => ?_)
  unfold tn1
  rw [if_neg (by omega)]
  exact hv.2.2.2.2 q hq (by omega)
theorem tn1_s {g : Gd} {C R i j : Nat} (hi : i < C) (hj : j < R) (hC : C ≤ 5) (hR : R ≤ 5) : tn1 g C R i (j + 1) (5 * (C - 1 - i) + j) = g (3 + (5 * i + j)) := by
  unfold tn1
  rw [if_pos (by omega), show 5 * (C - 1 - (5 * (C - 1 - i) + j) / 5) + (5 * (C - 1 - i) + j) % 5 = 5 * i + j by omega]
theorem tn1_n {g : Gd} {C R i j q : Nat} (hi : i < C) (hj : j < R) (hC : C ≤ 5) (hR : R ≤ 5) (hq : q < 25) (h : q ≠ 5 * (C - 1 - i) + j) : tn1 g C R i (j + 1) q = tn1 g C R i j q := by
  unfold tn1
  by_cases c : (q / 5 < C ∧ q % 5 < R) ∧ (C - 1 - q / 5 < i ∨ (C - 1 - q / 5 = i ∧ q % 5 < j))
  · rw [if_pos c, if_pos (by omega)]
  · rw [if_neg c, if_neg (by omega)]
theorem tn1_e {g : Gd} {C R i q : Nat} (hC : C ≤ 5) (hR : R ≤ 5) (hq : q < 25) : tn1 g C R i R q = tn1 g C R (i + 1) 0 q := by
  unfold tn1
  by_cases c : (q / 5 < C ∧ q % 5 < R) ∧ (C - 1 - q / 5 < i ∨ (C - 1 - q / 5 = i ∧ q % 5 < R))
  · rw [if_pos c, if_pos (by omega)]
  · rw [if_neg c, if_neg (by omega)]
theorem grd1_e {g : Gd} {C R i : Nat} {w : Wd} {t : Nat} (hC : C ≤ 5) (hR : R ≤ 5) (h : CG w t (grd (C : Int) (R : Int) (g 2) (tn1 g C R i R))) : CG w t (grd (C : Int) (R : Int) (g 2) (tn1 g C R (i + 1) 0)) :=
  grd_CG h.1 h.2.1 h.2.2.1 (fun q hq => by rw [h.2.2.2 q hq, grd_n, tn1_e hC hR hq])
theorem s_turn1 {w : Wd} {g : Gd} {C R : Nat} (hW : Wi w.2) (hv : GV g) (hC : g 0 = C) (hR : g 1 = R) (h3 : CG w 3 g) (h1 : CG w 1 (grd (C : Int) (R : Int) (g 2) (tn1 g C R 0 0))) :
    ∃ w', wl2 (fun (x14 : Int32) (w15 : Wd) k16 => rf 153 (w15.2 0 1) 0 (fun t18 => (if (w15.1 t18 0) < x14 then rf 153 (w15.2 0 0) 0 (fun t21 => c1 (f_X0_filled t21 w15) (fun v24 => some (v24, w15))) else wl2 (fun (x25 : Int32) (w26 : Wd) k27 => rf 153 (w26.2 0 1) 0 (fun t29 => (if (w26.1 t29 1) < x25 then lt (x14 + (1 : Int32)) (fun x32 => k16 x32 w26) else rf 153 (w26.2 0 1) 0 (fun t34 => c1 (f_X0_numberAt t34 x14 x25 w26) (fun v37 => jn (fun (w39 : Wd) => lt (x25 + (1 : Int32)) (fun x41 => k27 x41 w39)) (fun j40 => (if I 1 = 0 then rf 153 (w26.2 0 0) 0 (fun t56 => c1 (f_X0_setNumber t56 x25 x14 v37 w26) (fun w59 => j40 w59)) else (if I 1 = (1 : Int32) then rf 153 (w26.2 0 0) 0 (fun t50 => rf 153 (w26.2 0 1) 0 (fun t52 => c1 (f_X0_setNumber t50 (((w26.1 t52 0) + (1 : Int32)) - x14) x25 v37 w26) (fun w55 => j40 w55))) else rf 153 (w26.2 0 0) 0 (fun t44 => rf 153 (w26.2 0 1) 0 (fun t46 => c1 (f_X0_setNumber t44 x14 (((w26.1 t46 1) + (1 : Int32)) - x25) v37 w26) (fun w49 => j40 w49))))))))))) fu (1 : Int32) w15))) fu (1 : Int32) w = some (I (fld (grd (C : Int) (R : Int) (g 2) (tn1 g C R C 0)) 25), w') ∧ w'.2 = w.2 ∧ CG w' 1 (grd (C : Int) (R : Int) (g 2) (tn1 g C R C 0)) ∧ ∀ a b, a ≠ 2 → w'.1 a b = w.1 a b := by
  have v1 := hv.1; have v2 := hv.2.1
  refine wl2_inv (Q := fun r => ∃ w', r = some (I (fld (grd (C : Int) (R : Int) (g 2) (tn1 g C R C 0)) 25), w') ∧ w'.2 = w.2 ∧ CG w' 1 (grd (C : Int) (R : Int) (g 2) (tn1 g C R C 0)) ∧ ∀ a b, a ≠ 2 → w'.1 a b = w.1 a b) C (fun i x (v : Wd) => x = I ((i : Int) + 1) ∧ v.2 = w.2 ∧ CG v 1 (grd (C : Int) (R : Int) (g 2) (tn1 g C R i 0)) ∧ ∀ a b, a ≠ 2 → v.1 a b = w.1 a b) (fu_lt (by omega)) ?_ ?_ ?_
  · exact ⟨rfl, rfl, h1, fun _ _ _ => rfl⟩
  · rintro i hi x v ⟨rfl, hv2, hcv, hf⟩ k
    have hWv : Wi v.2 := by rw [hv2]; exact hW
    have e01 : v.2 0 1 = some 3 := hWv.1.2.1
    have e3 : CG v 3 g := h3.of (fun b => hf _ _ (by omega)) (fun b => hf _ _ (by omega))
    rw [rfc e01 kd_3 (by decide), e3.1, hC]
    simp (disch := omega) only [↓j_m1, ↓j_m2, ↓j_m3, ↓j_m5, ↓j_m6, ↓j_m11, ↓j_m12, ↓j_m13, ↓j_m14, ↓j_m1000, j_0, j_1, j_2, j_3, j_4, j_5, j_6, j_7, j_8, j_9, j_10, j_12, j_14, j_20, j_25, j_26, j_28, j_30, j_36, j_48, j_49, j_50, j_53, j_57, j_59, j_60, j_63, j_75, j_80, j_99, j_100, j_196, j_255, j_1000, I_lt]
    rw [if_neg (by omega)]
    left
    have inner : ∃ u : Wd, (wl2 (fun (x25 : Int32) (w26 : Wd) k27 => rf 153 (w26.2 0 1) 0 (fun t29 => (if (w26.1 t29 1) < x25 then lt (I ((i : Int) + 1) + I 1) (fun x32 => k x32 w26) else rf 153 (w26.2 0 1) 0 (fun t34 => c1 (f_X0_numberAt t34 (I ((i : Int) + 1)) x25 w26) (fun v37 => jn (fun (w39 : Wd) => lt (x25 + I 1) (fun x41 => k27 x41 w39)) (fun j40 => (if I 1 = I 0 then rf 153 (w26.2 0 0) 0 (fun t56 => c1 (f_X0_setNumber t56 x25 (I ((i : Int) + 1)) v37 w26) (fun w59 => j40 w59)) else (if I 1 = I 1 then rf 153 (w26.2 0 0) 0 (fun t50 => rf 153 (w26.2 0 1) 0 (fun t52 => c1 (f_X0_setNumber t50 (((w26.1 t52 0) + I 1) - I ((i : Int) + 1)) x25 v37 w26) (fun w55 => j40 w55))) else rf 153 (w26.2 0 0) 0 (fun t44 => rf 153 (w26.2 0 1) 0 (fun t46 => c1 (f_X0_setNumber t44 (I ((i : Int) + 1)) (((w26.1 t46 1) + I 1) - x25) v37 w26) (fun w49 => j40 w49))))))))))) fu (I 1) v) = k (I (((i + 1 : Nat) : Int) + 1)) u ∧ u.2 = w.2 ∧ CG u 1 (grd (C : Int) (R : Int) (g 2) (tn1 g C R (i + 1) 0)) ∧ ∀ a b, a ≠ 2 → u.1 a b = w.1 a b := by
      refine wl2_inv (Q := fun r => ∃ u : Wd, r = k (I (((i + 1 : Nat) : Int) + 1)) u ∧ u.2 = w.2 ∧ CG u 1 (grd (C : Int) (R : Int) (g 2) (tn1 g C R (i + 1) 0)) ∧ ∀ a b, a ≠ 2 → u.1 a b = w.1 a b) R (fun j x (v : Wd) => x = I ((j : Int) + 1) ∧ v.2 = w.2 ∧ CG v 1 (grd (C : Int) (R : Int) (g 2) (tn1 g C R i j)) ∧ ∀ a b, a ≠ 2 → v.1 a b = w.1 a b) (fu_lt (by omega)) ?_ ?_ ?_
      · exact ⟨rfl, hv2, hcv, hf⟩
      · rintro j hj x u ⟨rfl, hu2, hcu, hfu⟩ kk
        have hWu : Wi u.2 := by rw [hu2]; exact hW
        have f01 : u.2 0 1 = some 3 := hWu.1.2.1
        have f00 : u.2 0 0 = some 1 := hWu.1.1
        have f3 : CG u 3 g := h3.of (fun b => hfu _ _ (by omega)) (fun b => hfu _ _ (by omega))
        have en : num g ((i : Int) + 1) ((j : Int) + 1) = g (3 + (5 * i + j)) := by
          unfold num
          rw [if_pos (by omega), show (5 * ((i : Int) + 1 - 1) + ((j : Int) + 1 - 1)).toNat = 5 * i + j by omega]
        left
        refine ⟨I (((j + 1 : Nat) : Int) + 1), upI u 2 (5 * (C - 1 - i) + j) (I (g (3 + (5 * i + j)))), ⟨rfl, hu2, hcu.set (tn1_s hi hj (by omega) (by omega)) (fun q hq h => tn1_n hi hj (by omega) (by omega) hq h), fun a b h => by rw [upI_n (by omega)]; exact hfu a b h⟩, ?_⟩
        rw [rfc f01 kd_3 (by decide), f3.2.1, hR]
        simp (disch := omega) only [I_lt]
        rw [if_neg (by omega), rfc f01 kd_3 (by decide), c1_r (s_numberAt kd_3 (hWu.2.1 _ kd_3) f3 hv (by omega) (by omega)), en]
        simp only [jn_d]
        rw [if_neg (by decide), if_pos trivial, rfc f00 kd_1 (by decide), rfc f01 kd_3 (by decide), f3.1, hC, I_add, I_sub, c1_r (s_setNumber (I (g (3 + (5 * i + j)))) kd_1 (hWu.2.1 _ kd_1) hcu (tn1_V hv hC hR) (by rw [grd_0]; omega) (by rw [grd_1]; omega)), show (5 * (((C : Int) + 1 - ((i : Int) + 1)) - 1) + (((j : Int) + 1) - 1)).toNat = 5 * (C - 1 - i) + j by omega, lt_d, I_add]
        rfl
      · rintro x u ⟨rfl, hu2, hcu, hfu⟩ kk
        have hWu : Wi u.2 := by rw [hu2]; exact hW
        have f01 : u.2 0 1 = some 3 := hWu.1.2.1
        have f3 : CG u 3 g := h3.of (fun b => hfu _ _ (by omega)) (fun b => hfu _ _ (by omega))
        rw [rfc f01 kd_3 (by decide), f3.2.1, hR]
        simp (disch := omega) only [I_lt]
        rw [if_pos (by omega), lt_d, I_add]
        exact ⟨u, rfl, hu2, grd1_e (by omega) (by omega) hcu, hfu⟩
    obtain ⟨u, i1, i2, i3, i4⟩ := inner
    exact ⟨_, u, ⟨rfl, i2, i3, i4⟩, i1⟩
  · rintro x v ⟨rfl, hv2, hcv, hf⟩ k
    have hWv : Wi v.2 := by rw [hv2]; exact hW
    have e01 : v.2 0 1 = some 3 := hWv.1.2.1
    have e3 : CG v 3 g := h3.of (fun b => hf _ _ (by omega)) (fun b => hf _ _ (by omega))
    rw [rfc e01 kd_3 (by decide), e3.1, hC, if_pos (by rw [I_lt (by omega) (by omega) (by omega) (by omega)]; omega), rfc hWv.1.1 kd_1 (by decide), c1_r (s_filled kd_1 (hWv.2.1 _ kd_1) hcv (tn1_V hv hC hR))]
    exact ⟨v, rfl, hv2, hcv, hf⟩
/-- the same, from an empty grid -/
def tm1 (g : Gd) (C R i j : Nat) (q : Nat) : Int := if (q / 5 < C ∧ q % 5 < R) ∧ (C - 1 - q / 5 < i ∨ (C - 1 - q / 5 = i ∧ q % 5 < j)) then g (3 + (5 * (C - 1 - q / 5) + q % 5)) else 0
theorem tm1_s {g : Gd} {C R i j : Nat} (hi : i < C) (hj : j < R) (hC : C ≤ 5) (hR : R ≤ 5) : tm1 g C R i (j + 1) (5 * (C - 1 - i) + j) = g (3 + (5 * i + j)) := by
  unfold tm1
  rw [if_pos (by omega), show 5 * (C - 1 - (5 * (C - 1 - i) + j) / 5) + (5 * (C - 1 - i) + j) % 5 = 5 * i + j by omega]
theorem tm1_n {g : Gd} {C R i j q : Nat} (hi : i < C) (hj : j < R) (hC : C ≤ 5) (hR : R ≤ 5) (hq : q < 25) (h : q ≠ 5 * (C - 1 - i) + j) : tm1 g C R i (j + 1) q = tm1 g C R i j q := by
  unfold tm1
  by_cases c : (q / 5 < C ∧ q % 5 < R) ∧ (C - 1 - q / 5 < i ∨ (C - 1 - q / 5 = i ∧ q % 5 < j))
  · rw [if_pos c, if_pos (by omega)]
  · rw [if_neg c, if_neg (by omega)]
theorem tm1_e {g : Gd} {C R i q : Nat} (hC : C ≤ 5) (hR : R ≤ 5) (hq : q < 25) : tm1 g C R i R q = tm1 g C R (i + 1) 0 q := by
  unfold tm1
  by_cases c : (q / 5 < C ∧ q % 5 < R) ∧ (C - 1 - q / 5 < i ∨ (C - 1 - q / 5 = i ∧ q % 5 < R))
  · rw [if_pos c, if_pos (by omega)]
  · rw [if_neg c, if_neg (by omega)]
theorem tm1_0 {g : Gd} {C R q : Nat} : tm1 g C R 0 0 q = 0 := by
  unfold tm1
  rw [if_neg (by omega)]
theorem tm1_t {g : Gd} {C R q : Nat} (hv : GV g) (hC : g 0 = C) (hR : g 1 = R) (hq : q < 25) : tm1 g C R C 0 q = tn1 g C R C 0 q := by
  have v1 := hv.1; have v2 := hv.2.1
  unfold tm1 tn1
  by_cases c : (q / 5 < C ∧ q % 5 < R) ∧ (C - 1 - q / 5 < C ∨ (C - 1 - q / 5 = C ∧ q % 5 < 0))
  · simp only [if_pos c]
  · simp only [if_neg c]
    exact (hv.2.2.2.2 q hq (by omega)).symm
theorem m_turn1 {w : Wd} {g : Gd} {C R : Nat} (hv : GV g) (hC : g 0 = C) (hR : g 1 = R) {w3 : Wd} (hd : f_X8_does 139 w = some w3) (hW3 : Wi w3.2) (hm3 : MG w3 g) :
    ∃ w4, f_X8_turn 139 (I 1) w = some (I (fld (grd (C : Int) (R : Int) (g 2) (tn1 g C R C 0)) 25), w4) ∧ w4.2 = w3.2 ∧ MG w4 (grd (C : Int) (R : Int) (g 2) (tn1 g C R C 0)) ∧ ∀ a b, a ≠ 140 → a ≠ 143 → ¬ (a = 139 ∧ b < 2) → w4.1 a b = w3.1 a b := by
  have v1 := hv.1; have v2 := hv.2.1
  unfold f_X8_turn
  rw [l0, l2, c1_r (m_chk (by omega) (by omega) (by omega)), if_pos (show (0 : Int) ≤ 1 ∧ (1 : Int) ≤ 2 by omega), if_neg n10, c1_r hd]
  refine wl2_inv (Q := fun r => ∃ w4, r = some (I (fld (grd (C : Int) (R : Int) (g 2) (tn1 g C R C 0)) 25), w4) ∧ w4.2 = w3.2 ∧ MG w4 (grd (C : Int) (R : Int) (g 2) (tn1 g C R C 0)) ∧ ∀ a b, a ≠ 140 → a ≠ 143 → ¬ (a = 139 ∧ b < 2) → w4.1 a b = w3.1 a b) 25 (fun i x (v : Wd) => x = I i ∧ v = fill w3 143 i (fun _ => I 0)) (fu_lt (by omega)) ?_ ?_ ?_
  · exact ⟨rfl, (fill_0 _ _ _).symm⟩
  · rintro i hi x v ⟨rfl, rfl⟩ k
    left
    refine ⟨I ((i + 1 : Nat) : Int), fill w3 143 (i + 1) (fun _ => I 0), ⟨rfl, rfl⟩, ?_⟩
    rw [if_neg (by rw [i25, I_le (by omega) (by omega) (by omega) (by omega)]; omega), fill_2, rfc hW3.m8 kd_143 (by decide), ln_143, ix_d (by omega) (by omega) (by decide), lt_d, lt_d, Int.toNat_natCast, i1, I_add, nS, i0, fill_s _ _ i (fun _ => I 0)]
  · rintro x v ⟨rfl, rfl⟩ k
    rw [if_pos (by decide)]
    refine wl2_inv (Q := fun r => ∃ w4, r = some (I (fld (grd (C : Int) (R : Int) (g 2) (tn1 g C R C 0)) 25), w4) ∧ w4.2 = w3.2 ∧ MG w4 (grd (C : Int) (R : Int) (g 2) (tn1 g C R C 0)) ∧ ∀ a b, a ≠ 140 → a ≠ 143 → ¬ (a = 139 ∧ b < 2) → w4.1 a b = w3.1 a b) C (fun i x (v : Wd) => x = I ((i : Int) + 1) ∧ v.2 = w3.2 ∧ (∀ q, q < 25 → v.1 143 q = I (tm1 g C R i 0 q)) ∧ ∀ a b, a ≠ 143 → v.1 a b = w3.1 a b) (fu_lt (by omega)) ?_ ?_ ?_
    · exact ⟨rfl, rfl, fun q hq => by rw [fill_i hq, tm1_0], fun a b h => fill_n (by omega)⟩
    · rintro i hi x v ⟨rfl, hv2, hvq, hf⟩ k
      rw [hf 139 0 (by omega), hm3.1, hC]
      simp (disch := omega) only [↓j_m1, ↓j_m2, ↓j_m3, ↓j_m5, ↓j_m6, ↓j_m11, ↓j_m12, ↓j_m13, ↓j_m14, ↓j_m1000, j_0, j_1, j_2, j_3, j_4, j_5, j_6, j_7, j_8, j_9, j_10, j_12, j_14, j_20, j_25, j_26, j_28, j_30, j_36, j_48, j_49, j_50, j_53, j_57, j_59, j_60, j_63, j_75, j_80, j_99, j_100, j_196, j_255, j_1000, I_lt]
      rw [if_neg (by omega)]
      left
      refine wl2_inv (Q := fun r => ∃ t0 t1, (t0 = I (((i + 1 : Nat) : Int) + 1) ∧ t1.2 = w3.2 ∧ (∀ q, q < 25 → t1.1 143 q = I (tm1 g C R (i + 1) 0 q)) ∧ ∀ a b, a ≠ 143 → t1.1 a b = w3.1 a b) ∧ r = k t0 t1) R (fun j x (v : Wd) => x = I ((j : Int) + 1) ∧ v.2 = w3.2 ∧ (∀ q, q < 25 → v.1 143 q = I (tm1 g C R i j q)) ∧ ∀ a b, a ≠ 143 → v.1 a b = w3.1 a b) (fu_lt (by omega)) ?_ ?_ ?_
      · exact ⟨rfl, hv2, hvq, hf⟩
      · rintro j hj x u ⟨rfl, hu2, huq, hfu⟩ kk
        have hWu : Wi u.2 := by rw [hu2]; exact hW3
        have ev : u.1 140 (5 * i + j) = I (g (3 + (5 * i + j))) := by rw [hfu _ _ (by omega)]; exact hm3.2.2.2 _ (by omega)
        have ec : u.1 139 0 = I C := by rw [hfu _ _ (by omega), hm3.1, hC]
        have er : u.1 139 1 = I R := by rw [hfu _ _ (by omega), hm3.2.1, hR]
        left
        refine ⟨I (((j + 1 : Nat) : Int) + 1), upI u 143 (5 * (C - 1 - i) + j) (I (g (3 + (5 * i + j)))), ⟨rfl, hu2, fun q hq => ?_, fun a b h => by rw [upI_n (by omega)]; exact hfu a b h⟩, ?_⟩
        · by_cases e : q = 5 * (C - 1 - i) + j
          · subst e; rw [upI_s, tm1_s hi hj (by omega) (by omega)]
          · rw [upI_n (by omega), huq q hq, tm1_n hi hj (by omega) (by omega) hq e]
        · rw [er, ec]
          simp (disch := omega) only [I_lt]
          rw [if_neg (by omega)]
          simp only [jn_d]
          rw [if_neg (by decide), if_pos trivial, I_add, I_sub, c1_r (m_at _ _), rfc hWu.m8 kd_143 (by decide), rfc hWu.m3 kd_140 (by decide), c1_r (m_at _ _), ln_140, ix_d (by omega) (by omega) (by decide), ln_143, ix_d (by omega) (by omega) (by decide), show (5 * ((i : Int) + 1 - 1) + ((j : Int) + 1) - 1).toNat = 5 * i + j by omega, ev, lt_d, lt_d, I_add]
          exact congrArg (fun z => kk (I (((j + 1 : Nat) : Int) + 1)) (upI u 143 z (I (g (3 + (5 * i + j)))))) (show (5 * ((C : Int) + 1 - ((i : Int) + 1) - 1) + ((j : Int) + 1) - 1).toNat = 5 * (C - 1 - i) + j by omega)
      · rintro x u ⟨rfl, hu2, huq, hfu⟩ kk
        rw [hfu 139 1 (by omega), hm3.2.1, hR]
        simp (disch := omega) only [I_lt]
        rw [if_pos (by omega), lt_d, I_add]
        exact ⟨_, u, ⟨rfl, hu2, fun q hq => by rw [huq q hq, tm1_e (by omega) (by omega) hq], hfu⟩, rfl⟩
    · rintro x u ⟨rfl, hu2, huq, hfu⟩ k
      rw [hfu 139 0 (by omega), hm3.1, hC, if_pos (by rw [I_lt (by omega) (by omega) (by omega) (by omega)]; omega)]
      refine wl2_inv (Q := fun r => ∃ w4, r = some (I (fld (grd (C : Int) (R : Int) (g 2) (tn1 g C R C 0)) 25), w4) ∧ w4.2 = w3.2 ∧ MG w4 (grd (C : Int) (R : Int) (g 2) (tn1 g C R C 0)) ∧ ∀ a b, a ≠ 140 → a ≠ 143 → ¬ (a = 139 ∧ b < 2) → w4.1 a b = w3.1 a b) 25 (fun i x (v : Wd) => x = I i ∧ v.2 = w3.2 ∧ (∀ q, q < i → v.1 140 q = I (tn1 g C R C 0 q)) ∧ ∀ a b, a ≠ 140 → v.1 a b = u.1 a b) (fu_lt (by omega)) ?_ ?_ ?_
      · exact ⟨rfl, hu2, fun q hq => absurd hq (by omega), fun _ _ _ => rfl⟩
      · rintro i hi x v ⟨rfl, hv2, hvq, hf⟩ k
        have hWv : Wi v.2 := by rw [hv2]; exact hW3
        left
        refine ⟨I ((i + 1 : Nat) : Int), upI v 140 i (I (tn1 g C R C 0 i)), ⟨rfl, hv2, fun q hq => ?_, fun a b h => by rw [upI_n (by omega)]; exact hf a b h⟩, ?_⟩
        · by_cases e : q = i
          · subst e; rw [upI_s]
          · rw [upI_n (by omega), hvq q (by omega)]
        · rw [if_neg (by rw [i25, I_le (by omega) (by omega) (by omega) (by omega)]; omega), rfc hWv.m3 kd_140 (by decide), rfc hWv.m8 kd_143 (by decide), ln_143, ix_d (by omega) (by omega) (by decide), ln_140, ix_d (by omega) (by omega) (by decide), lt_d, lt_d, Int.toNat_natCast, hf 143 i (by omega), huq i hi, tm1_t hv hC hR hi, i1, I_add, nS]
      · rintro x v ⟨rfl, hv2, hvq, hf⟩ k
        have hWv : Wi v.2 := by rw [hv2]; exact hW3
        have ec : v.1 139 0 = I C := by rw [hf _ _ (by omega), hfu _ _ (by omega), hm3.1, hC]
        have er : v.1 139 1 = I R := by rw [hf _ _ (by omega), hfu _ _ (by omega), hm3.2.1, hR]
        have e2 : v.1 139 2 = I (g 2) := by rw [hf _ _ (by omega), hfu _ _ (by omega), hm3.2.2.1]
        rw [if_pos (by decide)]
        have hmg : MG v (grd (C : Int) (R : Int) (g 2) (tn1 g C R C 0)) := grd_MG ec er e2 (fun q hq => hvq q hq)
        rw [jn_d, if_neg (by decide)]
        show ∃ w4, c1 (f_X8_filled 139 v) _ = _ ∧ _
        rw [c1_r (m_filled hWv hmg (tn1_V hv hC hR))]
        exact ⟨_, rfl, hv2, hmg, fun a b h1 h2 h3 => by rw [hf _ _ h1, hfu _ _ h2]⟩
/-- what place q holds when the cells up to (i, j) are turned -/
def tn2 (g : Gd) (C R i j : Nat) (q : Nat) : Int := if (q / 5 < C ∧ q % 5 < R) ∧ (q / 5 < i ∨ (q / 5 = i ∧ (R - 1 - q % 5) < j)) then g (3 + (5 * (q / 5) + (R - 1 - q % 5))) else g (3 + q)
theorem tn2_b {g : Gd} {C R i j : Nat} (hv : GV g) (hC : g 0 = C) (hR : g 1 = R) (q : Nat) (hq : q < 25) : 0 ≤ tn2 g C R i j q ∧ tn2 g C R i j q ≤ 3 := by
  have v1 := hv.1; have v2 := hv.2.1
  unfold tn2
  split
  · exact hv.g0 (by omega)
  · exact hv.g0 hq
theorem tn2_V {g : Gd} {C R i j : Nat} (hv : GV g) (hC : g 0 = C) (hR : g 1 = R) : GV (grd (C : Int) (R : Int) (g 2) (tn2 g C R i j)) := by
  have v1 := hv.1; have v2 := hv.2.1
  refine grd_V (by omega) (by omega) hv.2.2.1 (tn2_b hv hC hR) (fun q hq h => ?_)
  unfold tn2
  rw [if_neg (by omega)]
  exact hv.2.2.2.2 q hq (by omega)
theorem tn2_s {g : Gd} {C R i j : Nat} (hi : i < C) (hj : j < R) (hC : C ≤ 5) (hR : R ≤ 5) : tn2 g C R i (j + 1) (5 * i + (R - 1 - j)) = g (3 + (5 * i + j)) := by
  unfold tn2
  rw [if_pos (by omega), show 5 * ((5 * i + (R - 1 - j)) / 5) + (R - 1 - (5 * i + (R - 1 - j)) % 5) = 5 * i + j by omega]
theorem tn2_n {g : Gd} {C R i j q : Nat} (hi : i < C) (hj : j < R) (hC : C ≤ 5) (hR : R ≤ 5) (hq : q < 25) (h : q ≠ 5 * i + (R - 1 - j)) : tn2 g C R i (j + 1) q = tn2 g C R i j q := by
  unfold tn2
  by_cases c : (q / 5 < C ∧ q % 5 < R) ∧ (q / 5 < i ∨ (q / 5 = i ∧ (R - 1 - q % 5) < j))
  · rw [if_pos c, if_pos (by omega)]
  · rw [if_neg c, if_neg (by omega)]
theorem tn2_e {g : Gd} {C R i q : Nat} (hC : C ≤ 5) (hR : R ≤ 5) (hq : q < 25) : tn2 g C R i R q = tn2 g C R (i + 1) 0 q := by
  unfold tn2
  by_cases c : (q / 5 < C ∧ q % 5 < R) ∧ (q / 5 < i ∨ (q / 5 = i ∧ (R - 1 - q % 5) < R))
  · rw [if_pos c, if_pos (by omega)]
  · rw [if_neg c, if_neg (by omega)]
theorem grd2_e {g : Gd} {C R i : Nat} {w : Wd} {t : Nat} (hC : C ≤ 5) (hR : R ≤ 5) (h : CG w t (grd (C : Int) (R : Int) (g 2) (tn2 g C R i R))) : CG w t (grd (C : Int) (R : Int) (g 2) (tn2 g C R (i + 1) 0)) :=
  grd_CG h.1 h.2.1 h.2.2.1 (fun q hq => by rw [h.2.2.2 q hq, grd_n, tn2_e hC hR hq])
theorem s_turn2 {w : Wd} {g : Gd} {C R : Nat} (hW : Wi w.2) (hv : GV g) (hC : g 0 = C) (hR : g 1 = R) (h3 : CG w 3 g) (h1 : CG w 1 (grd (C : Int) (R : Int) (g 2) (tn2 g C R 0 0))) :
    ∃ w', wl2 (fun (x14 : Int32) (w15 : Wd) k16 => rf 153 (w15.2 0 1) 0 (fun t18 => (if (w15.1 t18 0) < x14 then rf 153 (w15.2 0 0) 0 (fun t21 => c1 (f_X0_filled t21 w15) (fun v24 => some (v24, w15))) else wl2 (fun (x25 : Int32) (w26 : Wd) k27 => rf 153 (w26.2 0 1) 0 (fun t29 => (if (w26.1 t29 1) < x25 then lt (x14 + (1 : Int32)) (fun x32 => k16 x32 w26) else rf 153 (w26.2 0 1) 0 (fun t34 => c1 (f_X0_numberAt t34 x14 x25 w26) (fun v37 => jn (fun (w39 : Wd) => lt (x25 + (1 : Int32)) (fun x41 => k27 x41 w39)) (fun j40 => (if I 2 = 0 then rf 153 (w26.2 0 0) 0 (fun t56 => c1 (f_X0_setNumber t56 x25 x14 v37 w26) (fun w59 => j40 w59)) else (if I 2 = (1 : Int32) then rf 153 (w26.2 0 0) 0 (fun t50 => rf 153 (w26.2 0 1) 0 (fun t52 => c1 (f_X0_setNumber t50 (((w26.1 t52 0) + (1 : Int32)) - x14) x25 v37 w26) (fun w55 => j40 w55))) else rf 153 (w26.2 0 0) 0 (fun t44 => rf 153 (w26.2 0 1) 0 (fun t46 => c1 (f_X0_setNumber t44 x14 (((w26.1 t46 1) + (1 : Int32)) - x25) v37 w26) (fun w49 => j40 w49))))))))))) fu (1 : Int32) w15))) fu (1 : Int32) w = some (I (fld (grd (C : Int) (R : Int) (g 2) (tn2 g C R C 0)) 25), w') ∧ w'.2 = w.2 ∧ CG w' 1 (grd (C : Int) (R : Int) (g 2) (tn2 g C R C 0)) ∧ ∀ a b, a ≠ 2 → w'.1 a b = w.1 a b := by
  have v1 := hv.1; have v2 := hv.2.1
  refine wl2_inv (Q := fun r => ∃ w', r = some (I (fld (grd (C : Int) (R : Int) (g 2) (tn2 g C R C 0)) 25), w') ∧ w'.2 = w.2 ∧ CG w' 1 (grd (C : Int) (R : Int) (g 2) (tn2 g C R C 0)) ∧ ∀ a b, a ≠ 2 → w'.1 a b = w.1 a b) C (fun i x (v : Wd) => x = I ((i : Int) + 1) ∧ v.2 = w.2 ∧ CG v 1 (grd (C : Int) (R : Int) (g 2) (tn2 g C R i 0)) ∧ ∀ a b, a ≠ 2 → v.1 a b = w.1 a b) (fu_lt (by omega)) ?_ ?_ ?_
  · exact ⟨rfl, rfl, h1, fun _ _ _ => rfl⟩
  · rintro i hi x v ⟨rfl, hv2, hcv, hf⟩ k
    have hWv : Wi v.2 := by rw [hv2]; exact hW
    have e01 : v.2 0 1 = some 3 := hWv.1.2.1
    have e3 : CG v 3 g := h3.of (fun b => hf _ _ (by omega)) (fun b => hf _ _ (by omega))
    rw [rfc e01 kd_3 (by decide), e3.1, hC]
    simp (disch := omega) only [↓j_m1, ↓j_m2, ↓j_m3, ↓j_m5, ↓j_m6, ↓j_m11, ↓j_m12, ↓j_m13, ↓j_m14, ↓j_m1000, j_0, j_1, j_2, j_3, j_4, j_5, j_6, j_7, j_8, j_9, j_10, j_12, j_14, j_20, j_25, j_26, j_28, j_30, j_36, j_48, j_49, j_50, j_53, j_57, j_59, j_60, j_63, j_75, j_80, j_99, j_100, j_196, j_255, j_1000, I_lt]
    rw [if_neg (by omega)]
    left
    have inner : ∃ u : Wd, (wl2 (fun (x25 : Int32) (w26 : Wd) k27 => rf 153 (w26.2 0 1) 0 (fun t29 => (if (w26.1 t29 1) < x25 then lt (I ((i : Int) + 1) + I 1) (fun x32 => k x32 w26) else rf 153 (w26.2 0 1) 0 (fun t34 => c1 (f_X0_numberAt t34 (I ((i : Int) + 1)) x25 w26) (fun v37 => jn (fun (w39 : Wd) => lt (x25 + I 1) (fun x41 => k27 x41 w39)) (fun j40 => (if I 2 = I 0 then rf 153 (w26.2 0 0) 0 (fun t56 => c1 (f_X0_setNumber t56 x25 (I ((i : Int) + 1)) v37 w26) (fun w59 => j40 w59)) else (if I 2 = I 1 then rf 153 (w26.2 0 0) 0 (fun t50 => rf 153 (w26.2 0 1) 0 (fun t52 => c1 (f_X0_setNumber t50 (((w26.1 t52 0) + I 1) - I ((i : Int) + 1)) x25 v37 w26) (fun w55 => j40 w55))) else rf 153 (w26.2 0 0) 0 (fun t44 => rf 153 (w26.2 0 1) 0 (fun t46 => c1 (f_X0_setNumber t44 (I ((i : Int) + 1)) (((w26.1 t46 1) + I 1) - x25) v37 w26) (fun w49 => j40 w49))))))))))) fu (I 1) v) = k (I (((i + 1 : Nat) : Int) + 1)) u ∧ u.2 = w.2 ∧ CG u 1 (grd (C : Int) (R : Int) (g 2) (tn2 g C R (i + 1) 0)) ∧ ∀ a b, a ≠ 2 → u.1 a b = w.1 a b := by
      refine wl2_inv (Q := fun r => ∃ u : Wd, r = k (I (((i + 1 : Nat) : Int) + 1)) u ∧ u.2 = w.2 ∧ CG u 1 (grd (C : Int) (R : Int) (g 2) (tn2 g C R (i + 1) 0)) ∧ ∀ a b, a ≠ 2 → u.1 a b = w.1 a b) R (fun j x (v : Wd) => x = I ((j : Int) + 1) ∧ v.2 = w.2 ∧ CG v 1 (grd (C : Int) (R : Int) (g 2) (tn2 g C R i j)) ∧ ∀ a b, a ≠ 2 → v.1 a b = w.1 a b) (fu_lt (by omega)) ?_ ?_ ?_
      · exact ⟨rfl, hv2, hcv, hf⟩
      · rintro j hj x u ⟨rfl, hu2, hcu, hfu⟩ kk
        have hWu : Wi u.2 := by rw [hu2]; exact hW
        have f01 : u.2 0 1 = some 3 := hWu.1.2.1
        have f00 : u.2 0 0 = some 1 := hWu.1.1
        have f3 : CG u 3 g := h3.of (fun b => hfu _ _ (by omega)) (fun b => hfu _ _ (by omega))
        have en : num g ((i : Int) + 1) ((j : Int) + 1) = g (3 + (5 * i + j)) := by
          unfold num
          rw [if_pos (by omega), show (5 * ((i : Int) + 1 - 1) + ((j : Int) + 1 - 1)).toNat = 5 * i + j by omega]
        left
        refine ⟨I (((j + 1 : Nat) : Int) + 1), upI u 2 (5 * i + (R - 1 - j)) (I (g (3 + (5 * i + j)))), ⟨rfl, hu2, hcu.set (tn2_s hi hj (by omega) (by omega)) (fun q hq h => tn2_n hi hj (by omega) (by omega) hq h), fun a b h => by rw [upI_n (by omega)]; exact hfu a b h⟩, ?_⟩
        rw [rfc f01 kd_3 (by decide), f3.2.1, hR]
        simp (disch := omega) only [I_lt]
        rw [if_neg (by omega), rfc f01 kd_3 (by decide), c1_r (s_numberAt kd_3 (hWu.2.1 _ kd_3) f3 hv (by omega) (by omega)), en]
        simp only [jn_d]
        rw [if_neg (by decide), if_neg (by decide), rfc f00 kd_1 (by decide), rfc f01 kd_3 (by decide), f3.2.1, hR, I_add, I_sub, c1_r (s_setNumber (I (g (3 + (5 * i + j)))) kd_1 (hWu.2.1 _ kd_1) hcu (tn2_V hv hC hR) (by rw [grd_0]; omega) (by rw [grd_1]; omega)), show (5 * (((i : Int) + 1) - 1) + (((R : Int) + 1 - ((j : Int) + 1)) - 1)).toNat = 5 * i + (R - 1 - j) by omega, lt_d, I_add]
        rfl
      · rintro x u ⟨rfl, hu2, hcu, hfu⟩ kk
        have hWu : Wi u.2 := by rw [hu2]; exact hW
        have f01 : u.2 0 1 = some 3 := hWu.1.2.1
        have f3 : CG u 3 g := h3.of (fun b => hfu _ _ (by omega)) (fun b => hfu _ _ (by omega))
        rw [rfc f01 kd_3 (by decide), f3.2.1, hR]
        simp (disch := omega) only [I_lt]
        rw [if_pos (by omega), lt_d, I_add]
        exact ⟨u, rfl, hu2, grd2_e (by omega) (by omega) hcu, hfu⟩
    obtain ⟨u, i1, i2, i3, i4⟩ := inner
    exact ⟨_, u, ⟨rfl, i2, i3, i4⟩, i1⟩
  · rintro x v ⟨rfl, hv2, hcv, hf⟩ k
    have hWv : Wi v.2 := by rw [hv2]; exact hW
    have e01 : v.2 0 1 = some 3 := hWv.1.2.1
    have e3 : CG v 3 g := h3.of (fun b => hf _ _ (by omega)) (fun b => hf _ _ (by omega))
    rw [rfc e01 kd_3 (by decide), e3.1, hC, if_pos (by rw [I_lt (by omega) (by omega) (by omega) (by omega)]; omega), rfc hWv.1.1 kd_1 (by decide), c1_r (s_filled kd_1 (hWv.2.1 _ kd_1) hcv (tn2_V hv hC hR))]
    exact ⟨v, rfl, hv2, hcv, hf⟩
/-- the same, from an empty grid -/
def tm2 (g : Gd) (C R i j : Nat) (q : Nat) : Int := if (q / 5 < C ∧ q % 5 < R) ∧ (q / 5 < i ∨ (q / 5 = i ∧ (R - 1 - q % 5) < j)) then g (3 + (5 * (q / 5) + (R - 1 - q % 5))) else 0
theorem tm2_s {g : Gd} {C R i j : Nat} (hi : i < C) (hj : j < R) (hC : C ≤ 5) (hR : R ≤ 5) : tm2 g C R i (j + 1) (5 * i + (R - 1 - j)) = g (3 + (5 * i + j)) := by
  unfold tm2
  rw [if_pos (by omega), show 5 * ((5 * i + (R - 1 - j)) / 5) + (R - 1 - (5 * i + (R - 1 - j)) % 5) = 5 * i + j by omega]
theorem tm2_n {g : Gd} {C R i j q : Nat} (hi : i < C) (hj : j < R) (hC : C ≤ 5) (hR : R ≤ 5) (hq : q < 25) (h : q ≠ 5 * i + (R - 1 - j)) : tm2 g C R i (j + 1) q = tm2 g C R i j q := by
  unfold tm2
  by_cases c : (q / 5 < C ∧ q % 5 < R) ∧ (q / 5 < i ∨ (q / 5 = i ∧ (R - 1 - q % 5) < j))
  · rw [if_pos c, if_pos (by omega)]
  · rw [if_neg c, if_neg (by omega)]
theorem tm2_e {g : Gd} {C R i q : Nat} (hC : C ≤ 5) (hR : R ≤ 5) (hq : q < 25) : tm2 g C R i R q = tm2 g C R (i + 1) 0 q := by
  unfold tm2
  by_cases c : (q / 5 < C ∧ q % 5 < R) ∧ (q / 5 < i ∨ (q / 5 = i ∧ (R - 1 - q % 5) < R))
  · rw [if_pos c, if_pos (by omega)]
  · rw [if_neg c, if_neg (by omega)]
theorem tm2_0 {g : Gd} {C R q : Nat} : tm2 g C R 0 0 q = 0 := by
  unfold tm2
  rw [if_neg (by omega)]
theorem tm2_t {g : Gd} {C R q : Nat} (hv : GV g) (hC : g 0 = C) (hR : g 1 = R) (hq : q < 25) : tm2 g C R C 0 q = tn2 g C R C 0 q := by
  have v1 := hv.1; have v2 := hv.2.1
  unfold tm2 tn2
  by_cases c : (q / 5 < C ∧ q % 5 < R) ∧ (q / 5 < C ∨ (q / 5 = C ∧ (R - 1 - q % 5) < 0))
  · simp only [if_pos c]
  · simp only [if_neg c]
    exact (hv.2.2.2.2 q hq (by omega)).symm
theorem m_turn2 {w : Wd} {g : Gd} {C R : Nat} (hv : GV g) (hC : g 0 = C) (hR : g 1 = R) {w3 : Wd} (hd : f_X8_does 139 w = some w3) (hW3 : Wi w3.2) (hm3 : MG w3 g) :
    ∃ w4, f_X8_turn 139 (I 2) w = some (I (fld (grd (C : Int) (R : Int) (g 2) (tn2 g C R C 0)) 25), w4) ∧ w4.2 = w3.2 ∧ MG w4 (grd (C : Int) (R : Int) (g 2) (tn2 g C R C 0)) ∧ ∀ a b, a ≠ 140 → a ≠ 143 → ¬ (a = 139 ∧ b < 2) → w4.1 a b = w3.1 a b := by
  have v1 := hv.1; have v2 := hv.2.1
  unfold f_X8_turn
  rw [l0, l2, c1_r (m_chk (by omega) (by omega) (by omega)), if_pos (show (0 : Int) ≤ 2 ∧ (2 : Int) ≤ 2 by omega), if_neg n10, c1_r hd]
  refine wl2_inv (Q := fun r => ∃ w4, r = some (I (fld (grd (C : Int) (R : Int) (g 2) (tn2 g C R C 0)) 25), w4) ∧ w4.2 = w3.2 ∧ MG w4 (grd (C : Int) (R : Int) (g 2) (tn2 g C R C 0)) ∧ ∀ a b, a ≠ 140 → a ≠ 143 → ¬ (a = 139 ∧ b < 2) → w4.1 a b = w3.1 a b) 25 (fun i x (v : Wd) => x = I i ∧ v = fill w3 143 i (fun _ => I 0)) (fu_lt (by omega)) ?_ ?_ ?_
  · exact ⟨rfl, (fill_0 _ _ _).symm⟩
  · rintro i hi x v ⟨rfl, rfl⟩ k
    left
    refine ⟨I ((i + 1 : Nat) : Int), fill w3 143 (i + 1) (fun _ => I 0), ⟨rfl, rfl⟩, ?_⟩
    rw [if_neg (by rw [i25, I_le (by omega) (by omega) (by omega) (by omega)]; omega), fill_2, rfc hW3.m8 kd_143 (by decide), ln_143, ix_d (by omega) (by omega) (by decide), lt_d, lt_d, Int.toNat_natCast, i1, I_add, nS, i0, fill_s _ _ i (fun _ => I 0)]
  · rintro x v ⟨rfl, rfl⟩ k
    rw [if_pos (by decide)]
    refine wl2_inv (Q := fun r => ∃ w4, r = some (I (fld (grd (C : Int) (R : Int) (g 2) (tn2 g C R C 0)) 25), w4) ∧ w4.2 = w3.2 ∧ MG w4 (grd (C : Int) (R : Int) (g 2) (tn2 g C R C 0)) ∧ ∀ a b, a ≠ 140 → a ≠ 143 → ¬ (a = 139 ∧ b < 2) → w4.1 a b = w3.1 a b) C (fun i x (v : Wd) => x = I ((i : Int) + 1) ∧ v.2 = w3.2 ∧ (∀ q, q < 25 → v.1 143 q = I (tm2 g C R i 0 q)) ∧ ∀ a b, a ≠ 143 → v.1 a b = w3.1 a b) (fu_lt (by omega)) ?_ ?_ ?_
    · exact ⟨rfl, rfl, fun q hq => by rw [fill_i hq, tm2_0], fun a b h => fill_n (by omega)⟩
    · rintro i hi x v ⟨rfl, hv2, hvq, hf⟩ k
      rw [hf 139 0 (by omega), hm3.1, hC]
      simp (disch := omega) only [↓j_m1, ↓j_m2, ↓j_m3, ↓j_m5, ↓j_m6, ↓j_m11, ↓j_m12, ↓j_m13, ↓j_m14, ↓j_m1000, j_0, j_1, j_2, j_3, j_4, j_5, j_6, j_7, j_8, j_9, j_10, j_12, j_14, j_20, j_25, j_26, j_28, j_30, j_36, j_48, j_49, j_50, j_53, j_57, j_59, j_60, j_63, j_75, j_80, j_99, j_100, j_196, j_255, j_1000, I_lt]
      rw [if_neg (by omega)]
      left
      refine wl2_inv (Q := fun r => ∃ t0 t1, (t0 = I (((i + 1 : Nat) : Int) + 1) ∧ t1.2 = w3.2 ∧ (∀ q, q < 25 → t1.1 143 q = I (tm2 g C R (i + 1) 0 q)) ∧ ∀ a b, a ≠ 143 → t1.1 a b = w3.1 a b) ∧ r = k t0 t1) R (fun j x (v : Wd) => x = I ((j : Int) + 1) ∧ v.2 = w3.2 ∧ (∀ q, q < 25 → v.1 143 q = I (tm2 g C R i j q)) ∧ ∀ a b, a ≠ 143 → v.1 a b = w3.1 a b) (fu_lt (by omega)) ?_ ?_ ?_
      · exact ⟨rfl, hv2, hvq, hf⟩
      · rintro j hj x u ⟨rfl, hu2, huq, hfu⟩ kk
        have hWu : Wi u.2 := by rw [hu2]; exact hW3
        have ev : u.1 140 (5 * i + j) = I (g (3 + (5 * i + j))) := by rw [hfu _ _ (by omega)]; exact hm3.2.2.2 _ (by omega)
        have ec : u.1 139 0 = I C := by rw [hfu _ _ (by omega), hm3.1, hC]
        have er : u.1 139 1 = I R := by rw [hfu _ _ (by omega), hm3.2.1, hR]
        left
        refine ⟨I (((j + 1 : Nat) : Int) + 1), upI u 143 (5 * i + (R - 1 - j)) (I (g (3 + (5 * i + j)))), ⟨rfl, hu2, fun q hq => ?_, fun a b h => by rw [upI_n (by omega)]; exact hfu a b h⟩, ?_⟩
        · by_cases e : q = 5 * i + (R - 1 - j)
          · subst e; rw [upI_s, tm2_s hi hj (by omega) (by omega)]
          · rw [upI_n (by omega), huq q hq, tm2_n hi hj (by omega) (by omega) hq e]
        · rw [er, ec]
          simp (disch := omega) only [I_lt]
          rw [if_neg (by omega)]
          simp only [jn_d]
          rw [if_neg (by decide), if_neg (by decide), I_add, I_sub, c1_r (m_at _ _), rfc hWu.m8 kd_143 (by decide), rfc hWu.m3 kd_140 (by decide), c1_r (m_at _ _), ln_140, ix_d (by omega) (by omega) (by decide), ln_143, ix_d (by omega) (by omega) (by decide), show (5 * ((i : Int) + 1 - 1) + ((j : Int) + 1) - 1).toNat = 5 * i + j by omega, ev, lt_d, lt_d, I_add]
          exact congrArg (fun z => kk (I (((j + 1 : Nat) : Int) + 1)) (upI u 143 z (I (g (3 + (5 * i + j)))))) (show (5 * ((i : Int) + 1 - 1) + ((R : Int) + 1 - ((j : Int) + 1)) - 1).toNat = 5 * i + (R - 1 - j) by omega)
      · rintro x u ⟨rfl, hu2, huq, hfu⟩ kk
        rw [hfu 139 1 (by omega), hm3.2.1, hR]
        simp (disch := omega) only [I_lt]
        rw [if_pos (by omega), lt_d, I_add]
        exact ⟨_, u, ⟨rfl, hu2, fun q hq => by rw [huq q hq, tm2_e (by omega) (by omega) hq], hfu⟩, rfl⟩
    · rintro x u ⟨rfl, hu2, huq, hfu⟩ k
      rw [hfu 139 0 (by omega), hm3.1, hC, if_pos (by rw [I_lt (by omega) (by omega) (by omega) (by omega)]; omega)]
      refine wl2_inv (Q := fun r => ∃ w4, r = some (I (fld (grd (C : Int) (R : Int) (g 2) (tn2 g C R C 0)) 25), w4) ∧ w4.2 = w3.2 ∧ MG w4 (grd (C : Int) (R : Int) (g 2) (tn2 g C R C 0)) ∧ ∀ a b, a ≠ 140 → a ≠ 143 → ¬ (a = 139 ∧ b < 2) → w4.1 a b = w3.1 a b) 25 (fun i x (v : Wd) => x = I i ∧ v.2 = w3.2 ∧ (∀ q, q < i → v.1 140 q = I (tn2 g C R C 0 q)) ∧ ∀ a b, a ≠ 140 → v.1 a b = u.1 a b) (fu_lt (by omega)) ?_ ?_ ?_
      · exact ⟨rfl, hu2, fun q hq => absurd hq (by omega), fun _ _ _ => rfl⟩
      · rintro i hi x v ⟨rfl, hv2, hvq, hf⟩ k
        have hWv : Wi v.2 := by rw [hv2]; exact hW3
        left
        refine ⟨I ((i + 1 : Nat) : Int), upI v 140 i (I (tn2 g C R C 0 i)), ⟨rfl, hv2, fun q hq => ?_, fun a b h => by rw [upI_n (by omega)]; exact hf a b h⟩, ?_⟩
        · by_cases e : q = i
          · subst e; rw [upI_s]
          · rw [upI_n (by omega), hvq q (by omega)]
        · rw [if_neg (by rw [i25, I_le (by omega) (by omega) (by omega) (by omega)]; omega), rfc hWv.m3 kd_140 (by decide), rfc hWv.m8 kd_143 (by decide), ln_143, ix_d (by omega) (by omega) (by decide), ln_140, ix_d (by omega) (by omega) (by decide), lt_d, lt_d, Int.toNat_natCast, hf 143 i (by omega), huq i hi, tm2_t hv hC hR hi, i1, I_add, nS]
      · rintro x v ⟨rfl, hv2, hvq, hf⟩ k
        have hWv : Wi v.2 := by rw [hv2]; exact hW3
        have ec : v.1 139 0 = I C := by rw [hf _ _ (by omega), hfu _ _ (by omega), hm3.1, hC]
        have er : v.1 139 1 = I R := by rw [hf _ _ (by omega), hfu _ _ (by omega), hm3.2.1, hR]
        have e2 : v.1 139 2 = I (g 2) := by rw [hf _ _ (by omega), hfu _ _ (by omega), hm3.2.2.1]
        rw [if_pos (by decide)]
        have hmg : MG v (grd (C : Int) (R : Int) (g 2) (tn2 g C R C 0)) := grd_MG ec er e2 (fun q hq => hvq q hq)
        rw [jn_d, if_neg (by decide)]
        show ∃ w4, c1 (f_X8_filled 139 v) _ = _ ∧ _
        rw [c1_r (m_filled hWv hmg (tn2_V hv hC hR))]
        exact ⟨_, rfl, hv2, hmg, fun a b h1 h2 h3 => by rw [hf _ _ h1, hfu _ _ h2]⟩
theorem op_turn {z : Int} (hz : -2147483648 ≤ z ∧ z < 2147483648) : Op2 (f_X7_turn 0 (I z)) (f_X8_turn 139 (I z)) := by
  rintro w ⟨g, p, u, G, H⟩
  obtain ⟨hW, ⟨hv, hc, hm⟩, hrc, hrd, hri, hrt, -⟩ := id H
  have v1 := hv.1; have v2 := hv.2.1
  obtain ⟨C, hC⟩ : ∃ C : Nat, g 0 = C := ⟨(g 0).toNat, by omega⟩
  obtain ⟨R, hR⟩ : ∃ R : Nat, g 1 = R := ⟨(g 1).toNat, by omega⟩
  by_cases d : 0 ≤ z ∧ z ≤ 2
  · obtain ⟨w1, b1, b2, b3, b4, b5, b6⟩ := H.begin
    have cp : f_X0_copyFrom 3 1 w1 = some (cpg w1 3 1) := s_copyFrom kd_3 (b2.2.1 _ kd_3) kd_1 (b2.2.1 _ kd_1) (by decide)
    have c3 : CG (cpg w1 3 1) 3 g := cpg_CG b3
    have c1' : CG (cpg w1 3 1) 1 g := b3.of (fun b => cpg_o (by omega) (by omega)) (fun b => cpg_o (by omega) (by omega))
    have hf1 : ∀ a b, a ≠ 3 → a ≠ 4 → (cpg w1 3 1).1 a b = w1.1 a b := fun a b h1 h2 => cpg_o (by omega) (by omega)
    have hW2 : Wi (cpg w1 3 1).2 := b2
    have hq : (cpg w1 3 1).2 = w1.2 := rfl
    generalize cpg w1 3 1 = w2 at *
    have zz : z = 0 ∨ z = 1 ∨ z = 2 := by omega
    obtain rfl | rfl | rfl := zz
    · have cl : f_X0_clearTo 1 (I R) (I C) w2 = some (clg w2 1 (I R) (I C)) := s_clearTo (I R) (I C) kd_1 (hW2.2.1 _ kd_1)
      have hW3 : Wi (clg w2 1 (I R) (I C)).2 := hW2
      have hq2 : (clg w2 1 (I R) (I C)).2 = w1.2 := hq
      have hfr : ∀ a b, a ≠ 1 → a ≠ 2 → a ≠ 3 → a ≠ 4 → (clg w2 1 (I R) (I C)).1 a b = w2.1 a b := fun a b h1 h2 _ _ => clg_o h1 h2
      have h3 : CG (clg w2 1 (I R) (I C)) 3 g := c3.of (fun b => clg_o (by omega) (by omega)) (fun b => clg_o (by omega) (by omega))
      have h1 : CG (clg w2 1 (I R) (I C)) 1 (grd R C (g 2) (tn0 g C R 0 0)) := (clg_CG c1').congr rfl rfl rfl (fun q hq => by rw [gst_n, grd_n]; unfold tn0; rw [if_neg (by omega)])
      obtain ⟨w4, s1, s2, s3, s4⟩ := s_turn0 hW3 hv hC hR h3 h1
      obtain ⟨d1, d2, w5, d3, d4, d5, d6, d7⟩ := b6 w4 (by rw [s2]; exact hq2) (fun a b h1 h2 _ _ => by rw [s4 _ _ (by omega), hfr _ _ (by omega) (by omega) (by omega) (by omega), hf1 _ _ (by omega) (by omega)])
      obtain ⟨w6, t1, t2, t3, t4⟩ := m_turn0 hv hC hR d3 d4 d5
      refine ⟨_, w4, w6, ?_, t1, d7 w6 _ t2 (fun a b h => t4 a b (by omega) (by omega) (by omega)) (tn0_V hv hC hR) s3 t3 (hrt.of fun a b h => ?_)⟩
      · unfold f_X7_turn
        rw [if_neg (by decide), if_pos (by decide), c1_r b1, rfc b2.1.2.1 kd_3 (by decide), rfc b2.1.1 kd_1 (by decide), c1_r cp, jn_d, if_pos z00, rfc hW2.1.1 kd_1 (by decide), rfc hW2.1.2.1 kd_3 (by decide), rfc hW2.1.2.1 kd_3 (by decide), c3.1, c3.2.1, hC, hR, c1_r cl]
        exact s1
      · rw [t4 _ _ (by omega) (by omega) (by omega), d6 _ _ (by omega) (by omega), s4 _ _ (by omega), hfr _ _ (by omega) (by omega) (by omega) (by omega), hf1 _ _ (by omega) (by omega), b5 _ _ (by omega) (by omega) (by omega)]
    · have hW3 : Wi w2.2 := hW2
      have hq2 : w2.2 = w1.2 := hq
      have hfr : ∀ a b, a ≠ 1 → a ≠ 2 → a ≠ 3 → a ≠ 4 → w2.1 a b = w2.1 a b := fun _ _ _ _ _ _ => rfl
      have h3 := c3
      have h1 : CG w2 1 (grd C R (g 2) (tn1 g C R 0 0)) := c1'.congr (by rw [hC]; rfl) (by rw [hR]; rfl) rfl (fun q hq => by rw [grd_n]; unfold tn1; rw [if_neg (by omega)])
      obtain ⟨w4, s1, s2, s3, s4⟩ := s_turn1 hW3 hv hC hR h3 h1
      obtain ⟨d1, d2, w5, d3, d4, d5, d6, d7⟩ := b6 w4 (by rw [s2]; exact hq2) (fun a b h1 h2 _ _ => by rw [s4 _ _ (by omega), hfr _ _ (by omega) (by omega) (by omega) (by omega), hf1 _ _ (by omega) (by omega)])
      obtain ⟨w6, t1, t2, t3, t4⟩ := m_turn1 hv hC hR d3 d4 d5
      refine ⟨_, w4, w6, ?_, t1, d7 w6 _ t2 (fun a b h => t4 a b (by omega) (by omega) (by omega)) (tn1_V hv hC hR) s3 t3 (hrt.of fun a b h => ?_)⟩
      · unfold f_X7_turn
        rw [if_neg (by decide), if_pos (by decide), c1_r b1, rfc b2.1.2.1 kd_3 (by decide), rfc b2.1.1 kd_1 (by decide), c1_r cp, jn_d, if_neg (by decide)]
        exact s1
      · rw [t4 _ _ (by omega) (by omega) (by omega), d6 _ _ (by omega) (by omega), s4 _ _ (by omega), hfr _ _ (by omega) (by omega) (by omega) (by omega), hf1 _ _ (by omega) (by omega), b5 _ _ (by omega) (by omega) (by omega)]
    · have hW3 : Wi w2.2 := hW2
      have hq2 : w2.2 = w1.2 := hq
      have hfr : ∀ a b, a ≠ 1 → a ≠ 2 → a ≠ 3 → a ≠ 4 → w2.1 a b = w2.1 a b := fun _ _ _ _ _ _ => rfl
      have h3 := c3
      have h1 : CG w2 1 (grd C R (g 2) (tn2 g C R 0 0)) := c1'.congr (by rw [hC]; rfl) (by rw [hR]; rfl) rfl (fun q hq => by rw [grd_n]; unfold tn2; rw [if_neg (by omega)])
      obtain ⟨w4, s1, s2, s3, s4⟩ := s_turn2 hW3 hv hC hR h3 h1
      obtain ⟨d1, d2, w5, d3, d4, d5, d6, d7⟩ := b6 w4 (by rw [s2]; exact hq2) (fun a b h1 h2 _ _ => by rw [s4 _ _ (by omega), hfr _ _ (by omega) (by omega) (by omega) (by omega), hf1 _ _ (by omega) (by omega)])
      obtain ⟨w6, t1, t2, t3, t4⟩ := m_turn2 hv hC hR d3 d4 d5
      refine ⟨_, w4, w6, ?_, t1, d7 w6 _ t2 (fun a b h => t4 a b (by omega) (by omega) (by omega)) (tn2_V hv hC hR) s3 t3 (hrt.of fun a b h => ?_)⟩
      · unfold f_X7_turn
        rw [if_neg (by decide), if_pos (by decide), c1_r b1, rfc b2.1.2.1 kd_3 (by decide), rfc b2.1.1 kd_1 (by decide), c1_r cp, jn_d, if_neg (by decide)]
        exact s1
      · rw [t4 _ _ (by omega) (by omega) (by omega), d6 _ _ (by omega) (by omega), s4 _ _ (by omega), hfr _ _ (by omega) (by omega) (by omega) (by omega), hf1 _ _ (by omega) (by omega), b5 _ _ (by omega) (by omega) (by omega)]
  · refine ⟨(-1 : Int32), w, w, ?_, ?_, g, p, u, G, H⟩
    · unfold f_X7_turn
      by_cases e : z < 0
      · rw [if_pos (by rw [i0, I_lt (by omega) (by omega) (by omega) (by omega)]; omega)]
      · rw [if_neg (by rw [i0, I_lt (by omega) (by omega) (by omega) (by omega)]; omega), if_neg (by rw [i2, I_le (by omega) (by omega) (by omega) (by omega)]; omega)]
    · unfold f_X8_turn
      rw [l0, l2, c1_r (m_chk hz (by omega) (by omega)), if_neg d, if_pos z00]

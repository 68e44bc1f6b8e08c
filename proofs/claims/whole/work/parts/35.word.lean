/-! grids written cell by cell; spelled, word -/
theorem CG.congr {w : Wd} {t : Nat} {g g' : Gd} (h : CG w t g) (h0 : g 0 = g' 0) (h1 : g 1 = g' 1) (h2 : g 2 = g' 2) (h3 : ∀ q, q < 25 → g (3 + q) = g' (3 + q)) : CG w t g' :=
  ⟨h0 ▸ h.1, h1 ▸ h.2.1, h2 ▸ h.2.2.1, fun j hj => by rw [← h3 j hj]; exact h.2.2.2 j hj⟩
theorem MG.congr {w : Wd} {g g' : Gd} (h : MG w g) (h0 : g 0 = g' 0) (h1 : g 1 = g' 1) (h2 : g 2 = g' 2) (h3 : ∀ q, q < 25 → g (3 + q) = g' (3 + q)) : MG w g' :=
  ⟨h0 ▸ h.1, h1 ▸ h.2.1, h2 ▸ h.2.2.1, fun j hj => by rw [← h3 j hj]; exact h.2.2.2 j hj⟩
theorem gset_0 (g : Gd) (k : Nat) (v : Int) : gset g k v 0 = g 0 := if_neg (by omega)
theorem gset_1 (g : Gd) (k : Nat) (v : Int) : gset g k v 1 = g 1 := if_neg (by omega)
theorem gset_2 (g : Gd) (k : Nat) (v : Int) : gset g k v 2 = g 2 := if_neg (by omega)
theorem gset_i (g : Gd) (k : Nat) (v : Int) : gset g k v (3 + k) = v := if_pos rfl
theorem gset_n {g : Gd} {k q : Nat} {v : Int} (h : q ≠ k) : gset g k v (3 + q) = g (3 + q) := if_neg (by omega)
theorem op_spelled : Op1 (f_X7_spelled 0) (f_X8_spelled 139) := by
  rintro w ⟨g, p, u, G, H⟩
  obtain ⟨hW, ⟨hv, hc, hm⟩, hrc, hrd, hri, hrt, hrh, hrs⟩ := id H
  have e1 := hW.1.1
  have v1 := hv.1; have v2 := hv.2.1
  obtain ⟨C, hC⟩ : ∃ C : Nat, g 0 = C := ⟨(g 0).toNat, by omega⟩
  obtain ⟨R, hR⟩ : ∃ R : Nat, g 1 = R := ⟨(g 1).toNat, by omega⟩
  unfold f_X7_spelled f_X8_spelled f_X0_spelling
  rw [rfc e1 kd_1 (by decide), hc.1, hc.2.1, hm.1, hm.2.1, hC, hR]
  simp (disch := omega) only [↓j_m1, ↓j_m2, ↓j_m3, ↓j_m5, ↓j_m6, ↓j_m11, ↓j_m12, ↓j_m13, ↓j_m14, ↓j_m1000, j_0, j_1, j_2, j_3, j_4, j_5, j_6, j_7, j_8, j_9, j_10, j_12, j_14, j_20, j_25, j_26, j_28, j_30, j_36, j_48, j_49, j_50, j_53, j_57, j_59, j_60, j_63, j_75, j_80, j_99, j_100, j_196, j_255, j_1000]
  have key : ∃ v, wl2 (fun (x1 : Int32) (x2 : Int32) k3 => (if I C < x2 then some x1 else wl2 (fun (x6 : Int32) (x7 : Int32) k8 => (if I R < x7 then lt ((I 10 * x1) + x6) (fun x11 => lt (x2 + I 1) (fun x13 => k3 x11 x13)) else c1 (f_X0_numberAt 1 x2 x7 w) (fun v16 => (if I 1 < v16 then some (I (-2)) else jn (lt (if v16 = I 1 then x7 else x6) (fun x21 => lt (x7 + I 1) (fun x22 => k8 x21 x22))) (fun j19 => (if v16 = I 1 then (if x6 ≤ I 0 then j19 else some (I (-2))) else j19)))))) fu (I 0) (I 1))) fu (I 0) (I 1) = some v ∧
    wl2 (fun (x1 : Int32) (x2 : Int32) k3 => (if I C < x2 then some x1 else wl2 (fun (x6 : Int32) (x7 : Int32) k8 => (if I R < x7 then lt ((I 10 * x1) + x6) (fun x11 => lt (x2 + I 1) (fun x13 => k3 x11 x13)) else rf 153 (w.2 139 3) 9 (fun t15 => c1 (f_X8_at x2 x7) (fun v18 => ix v18 (ln t15) (fun j19 => lt (w.1 t15 j19) (fun x20 => jn (fun (x23 : Int32) => lt (x7 + I 1) (fun x25 => k8 x23 x25)) (fun j24 => (if x20 = I 0 then j24 x6 else (if I 1 < x20 then some (I (-2)) else (if x6 ≤ I 0 then j24 x7 else some (I (-2)))))))))))) fu (I 0) (I 1))) fu (I 0) (I 1) = some v := by
    refine sim22 (Q := fun r1 r2 => ∃ v, r1 = some v ∧ r2 = some v) C (fun i a b c d => a = c ∧ b = I ((i : Int) + 1) ∧ d = I ((i : Int) + 1)) (fu_lt (by omega)) (fu_lt (by omega)) ⟨rfl, rfl, rfl⟩ ?_ ?_
    · rintro i hi x1 x2 y1 y2 ⟨rfl, rfl, rfl⟩ k k'
      simp (disch := omega) only [I_lt]
      rw [if_neg (by omega), if_neg (by omega)]
      refine sim22 (Q := fun r1 r2 => (∃ t0 t1 q0 q1, (t0 = q0 ∧ t1 = I (((i + 1 : Nat) : Int) + 1) ∧ q1 = I (((i + 1 : Nat) : Int) + 1)) ∧ r1 = k t0 t1 ∧ r2 = k' q0 q1) ∨ ∃ v, r1 = some v ∧ r2 = some v) R (fun j a b c d => (∃ z : Int, (0 ≤ z ∧ z ≤ R) ∧ a = I z ∧ c = I z) ∧ b = I ((j : Int) + 1) ∧ d = I ((j : Int) + 1)) (fu_lt (by omega)) (fu_lt (by omega)) ⟨⟨0, by omega, rfl, rfl⟩, rfl, rfl⟩ ?_ ?_
      · rintro j hj a b c d ⟨⟨z, hz, rfl, rfl⟩, rfl, rfl⟩ k2 k2'
        have hn := hv.2.2.2.1 (5 * i + j) (by omega)
        rw [c1_r (s_numberAt kd_1 (hW.2.1 _ kd_1) hc hv (by omega) (by omega)), rfc hW.m3 kd_140 (by decide), c1_r (m_at _ _), ln_140, ix_d (by omega) (by omega) (by decide), show (5 * ((i : Int) + 1 - 1) + ((j : Int) + 1) - 1).toNat = 5 * i + j by omega, hm.2.2.2 _ (by omega)]
        have en : num g ((i : Int) + 1) ((j : Int) + 1) = g (3 + (5 * i + j)) := by
          unfold num
          rw [if_pos (by omega), show (5 * ((i : Int) + 1 - 1) + ((j : Int) + 1 - 1)).toNat = 5 * i + j by omega]
        rw [en]
        generalize g (3 + (5 * i + j)) = n at *
        simp (disch := omega) only [lt_d, jn_d, I_lt, I_eq, I_le, I_add]
        have hR' : ¬ ((R : Int) < (j : Int) + 1) := by omega
        simp only [if_neg hR']
        by_cases c1 : 1 < n
        · right; right
          have c0 : ¬ n = 0 := by omega
          simp only [if_pos c1, if_neg c0]
          exact ⟨_, rfl, rfl⟩
        · by_cases c0 : n = 0
          · left
            have c3 : ¬ n = 1 := by omega
            simp only [if_neg c1, if_pos c0, if_neg c3]
            exact ⟨I z, I (((j + 1 : Nat) : Int) + 1), I z, I (((j + 1 : Nat) : Int) + 1), ⟨⟨z, hz, rfl, rfl⟩, rfl, rfl⟩, rfl, rfl⟩
          · have c3 : n = 1 := by omega
            simp only [if_neg c1, if_neg c0, if_pos c3]
            by_cases cz : z ≤ 0
            · left
              simp only [if_pos cz]
              exact ⟨I ((j : Int) + 1), I (((j + 1 : Nat) : Int) + 1), I ((j : Int) + 1), I (((j + 1 : Nat) : Int) + 1), ⟨⟨(j : Int) + 1, by omega, rfl, rfl⟩, rfl, rfl⟩, rfl, rfl⟩
            · right; right
              simp only [if_neg cz]
              exact ⟨_, rfl, rfl⟩
      · rintro a b c d ⟨⟨z, hz, rfl, rfl⟩, rfl, rfl⟩ k2 k2'
        left
        simp (disch := omega) only [I_lt]
        rw [if_pos (by omega), if_pos (by omega), lt_d, lt_d, lt_d, lt_d, I_add]
        exact ⟨_, _, _, _, ⟨rfl, rfl, rfl⟩, rfl, rfl⟩
    · rintro x1 x2 y1 y2 ⟨rfl, rfl, rfl⟩ k k'
      simp (disch := omega) only [I_lt]
      rw [if_pos (by omega), if_pos (by omega)]
      exact ⟨_, rfl, rfl⟩
  obtain ⟨v, k1, k2⟩ := key
  exact ⟨v, by rw [c1_r k1], k2⟩

/-! the drawn grid -/
theorem sr3 (c : Int32) : ∃ z : Int, (0 ≤ z ∧ z < 536870912) ∧ (c.toUInt32 >>> ((3 : Int32).toUInt32 &&& Int32.toUInt32 31)).toInt32 = I z := by
  generalize hy : c.toUInt32 >>> ((3 : Int32).toUInt32 &&& Int32.toUInt32 31) = y
  have h1 : y.toNat = c.toUInt32.toNat >>> 3 := by rw [← hy, UInt32.toNat_shiftRight]; rfl
  have h2 := c.toUInt32.toNat_lt
  rw [Nat.shiftRight_eq_div_pow] at h1
  refine ⟨(y.toNat : Int), by omega, ?_⟩
  have h3 : y = UInt32.ofNat y.toNat := (UInt32.ofNat_toNat).symm
  rw [← I_nat]
  exact (congrArg UInt32.toInt32 h3).trans UInt32.toInt32_ofNat'
theorem t_some {L : Nat} {xs : Nat → Int32} (hL : L ≤ 260) {k n : Int} (hk : 0 ≤ k ∧ k ≤ 1000) (hn : 0 < n ∧ n < 100) (w : Wd) : ∃ v : Int, 0 ≤ v ∧ v < n ∧ f_L_some L xs (I k) (I n) w = some (I v) := by
  have hc : ∃ c, f_L_cell L xs (I k) w = some c := by
    unfold f_L_cell
    rw [I_nat]
    by_cases c : (L : Int) ≤ k
    · rw [if_pos (by rw [I_le (by omega) (by omega) (by omega) (by omega)]; exact c), lt_d]
      exact ⟨_, rfl⟩
    · rw [if_neg (by rw [I_le (by omega) (by omega) (by omega) (by omega)]; exact c), ix_d (by omega) (by omega) (by omega), lt_d]
      exact ⟨_, rfl⟩
  obtain ⟨c, hc⟩ := hc
  obtain ⟨z, hz, e⟩ := sr3 c
  unfold f_L_some
  rw [c1_r hc, e, nz_d (show ¬ I n = 0 by rw [i0, I_eq (by omega) (by omega) (by omega) (by omega)]; omega), I_div (by omega) (by omega) (by omega) (by omega), I_mul, I_sub]
  have m1 := Int.emod_nonneg z (show n ≠ 0 by omega)
  have m2 := Int.emod_lt_of_pos z hn.1
  have m3 := Int.emod_def z n
  rw [Int.mul_comm] at m3
  exact ⟨z - z / n * n, by omega, by omega, rfl⟩
theorem gset_0 (g : Gd) (k : Nat) (v : Int) : gset g k v 0 = g 0 := if_neg (by omega)
theorem gset_1 (g : Gd) (k : Nat) (v : Int) : gset g k v 1 = g 1 := if_neg (by omega)
theorem t_setUp {L : Nat} {xs : Nat → Int32} (hL : L ≤ 260) {w : Wd} {g : Gd} {p u : Nat} {G : Nat → Gd} (H : Iv w g p u G) : ∃ w' g' p' u' G', f_L_setUp L xs 0 (0 : Int32) w = some w' ∧ Iv w' g' p' u' G' := by
  obtain ⟨c, c1', c2', c3⟩ := t_some (xs := xs) hL (k := 0) (n := 5) (by omega) (by omega) w
  obtain ⟨r, r1, r2, r3⟩ := t_some (xs := xs) hL (k := 0 + 1) (n := 5) (by omega) (by omega) w
  obtain ⟨v, w1, e1, H1, -⟩ := t_grid H (x := 1 + c) (y := 1 + r) (by omega) (by omega)
  unfold f_L_setUp
  simp only [↓j_m1, ↓j_m2, ↓j_m3, ↓j_m5, ↓j_m6, ↓j_m11, ↓j_m12, ↓j_m13, ↓j_m14, ↓j_m1000, j_0, j_1, j_2, j_3, j_4, j_5, j_6, j_7, j_8, j_9, j_10, j_12, j_14, j_20, j_25, j_26, j_28, j_30, j_36, j_48, j_49, j_50, j_53, j_57, j_59, j_60, j_63, j_75, j_80, j_99, j_100, j_196, j_255, j_1000, I_add]
  rw [c1_r c3, lt_d, I_add, c1_r r3, lt_d, I_add, c2_r e1]
  obtain ⟨C, hC⟩ : ∃ C : Nat, 1 + c = C := ⟨(1 + c).toNat, by omega⟩
  obtain ⟨R, hR⟩ : ∃ R : Nat, 1 + r = R := ⟨(1 + r).toNat, by omega⟩
  have h0 : gst (1 + c) (1 + r) (g 2) 0 = C := hC
  have h1 : gst (1 + c) (1 + r) (g 2) 1 = R := hR
  rw [hC, hR]
  have hCb : C ≤ 5 := by omega
  have hRb : R ≤ 5 := by omega
  refine wl2_inv (Q := fun o => ∃ w' g' p' u' G', o = some w' ∧ Iv w' g' p' u' G') C (fun i x (v : Wd) => x = I ((i : Int) + 1) ∧ ∃ g p u G, Iv v g p u G ∧ g 0 = (C : Int) ∧ g 1 = (R : Int)) (fu_lt (by omega)) ⟨rfl, _, _, _, _, H1, h0, h1⟩ ?_ ?_
  · rintro i hi x v ⟨rfl, Hv⟩ k
    left
    rw [if_neg (show ¬ (I (C : Int) < I ((i : Int) + 1)) by rw [I_lt (by omega) (by omega) (by omega) (by omega)]; omega)]
    refine wl2_inv (Q := fun o => ∃ t0 t1, (t0 = I (((i + 1 : Nat) : Int) + 1) ∧ ∃ g p u G, Iv t1 g p u G ∧ g 0 = (C : Int) ∧ g 1 = (R : Int)) ∧ o = k t0 t1) R (fun j y (v : Wd) => y = I ((j : Int) + 1) ∧ ∃ g p u G, Iv v g p u G ∧ g 0 = (C : Int) ∧ g 1 = (R : Int)) (fu_lt (by omega)) ⟨rfl, Hv⟩ ?_ ?_
    · rintro j hj y v ⟨rfl, g2, p2, u2, G2, Hv, k0, k1⟩ kk
      left
      rw [if_neg (show ¬ (I (R : Int) < I ((j : Int) + 1)) by rw [I_lt (by omega) (by omega) (by omega) (by omega)]; omega)]
      simp only [I_add, I_mul, lt_d, jn_d]
      obtain ⟨a, a1, a2, a3⟩ := t_some (xs := xs) hL (k := 0 + 5 * ((i : Int) + 1) + ((j : Int) + 1)) (n := 3) (by omega) (by omega) v
      rw [c1_r a3]
      by_cases ca : a = 0
      · obtain ⟨z, z1, z2, z3⟩ := t_some (xs := xs) hL (k := 0 + 30 + 5 * ((i : Int) + 1) + ((j : Int) + 1)) (n := 4) (by omega) (by omega) v
        obtain ⟨q, w2, e2, H2, -⟩ := t_put Hv (x := (i : Int) + 1) (y := (j : Int) + 1) (z := z) (by omega) (by omega)
        rw [if_pos (show I a = I 0 by rw [ca]), c1_r z3, c2_r e2]
        exact ⟨_, w2, ⟨nS1 j, _, _, _, _, H2, (gset_0 _ _ _).trans k0, (gset_1 _ _ _).trans k1⟩, rfl⟩
      · rw [if_neg (show ¬ I a = I 0 by rw [I_eq (by omega) (by omega) (by omega) (by omega)]; exact ca)]
        exact ⟨_, v, ⟨nS1 j, _, _, _, _, Hv, k0, k1⟩, rfl⟩
    · rintro y v ⟨rfl, Hv⟩ kk
      rw [if_pos (show I (R : Int) < I ((R : Int) + 1) by rw [I_lt (by omega) (by omega) (by omega) (by omega)]; omega), lt_d, I_add, nS1]
      exact ⟨_, v, ⟨rfl, Hv⟩, rfl⟩
  · rintro x v ⟨rfl, g2, p2, u2, G2, Hv, k0, k1⟩ k
    obtain ⟨z, z1, z2, z3⟩ := t_some (xs := xs) hL (k := 0 + 2) (n := 4) (by omega) (by omega) v
    obtain ⟨w2, e2, H2, -⟩ := t_rule Hv (q := z) (by omega)
    rw [if_pos (show I (C : Int) < I ((C : Int) + 1) by rw [I_lt (by omega) (by omega) (by omega) (by omega)]; omega)]
    rw [c1_r z3, c2_r e2]
    exact ⟨w2, _, _, _, _, rfl, H2⟩

/-! holders: drop, taken, was, row, set, get -/
theorem cnt_75 {s : Nat → Int} {W : Int} (hs : Gs s W) : ∀ d, cnt s (75 + d) = len s
  | 0 => rfl
  | d + 1 => by
    have h1 := cnt_75 hs d
    have h2 := hs.z (k := 75 + d) (by omega)
    show cnt s (75 + d) + (if 0 < s (75 + d) then 1 else 0) = _
    rw [if_neg (by omega)]; omega
theorem cnt_s (s : Nat → Int) (i : Nat) : ((cnt s (i + 1) : Nat) : Int) = (cnt s i : Int) + (if 0 < s i then 1 else 0) := by
  show ((cnt s i + (if 0 < s i then 1 else 0) : Nat) : Int) = _
  (repeat' split) <;> omega
theorem m_heldLength {w : Wd} {h : Nat} {s : Nat → Int} {W : Int} (hW : Wi w.2) (hh : h < 6) (hs : Gs s W) (hb : W ≤ 75) (H : ∀ k, k < 80 → w.1 151 (80 * h + k) = I (s k)) : f_X8_heldLength 139 (I h) w = some (I (len s)) := by
  unfold f_X8_heldLength
  rw [← cnt_75 hs 5]
  refine wl2_for 80 (fun i => I (cnt s i)) (fun i => I i) (by decide) rfl rfl (fun i hi k => ?_) (fun k => ?_)
  · have x1 := hs.1 i; have x2 := hs.b i
    simp (disch := omega) only [i0, i1, i2, i3, i4, i5, i6, i7, i8, i9, i10, i12, i14, i20, i25, i26, i28, i30, i36, i48, i49, i50, i53, i57, i59, i60, i63, i75, i80, i99, i100, i196, i255, i1000, im1, im2, im3, im5, im6, im11, im12, im13, im14, im1000, I_le]
    rw [if_neg (by omega), rfc hW.m17 kd_151 (by decide), ln_151, I_mul, I_add, ix_d (by omega) (by omega) (by decide), show (80 * (h : Int) + (i : Int)).toNat = 80 * h + i by omega, H i hi]
    simp (disch := omega) only [lt_d, I_le, I_ite, I_add, nS]
    rw [cnt_s]
    congr 3
    (repeat' split) <;> omega
  · rw [if_pos (by decide)]
theorem op_drop {z : Int} (hz : -2147483648 ≤ z ∧ z < 2147483648) : Op2 (f_X7_drop 0 (I z)) (f_X8_drop 139 (I z)) := by
  rintro w ⟨g, p, u, G, H⟩
  obtain ⟨hW, ⟨hv, hc, hm⟩, hrc, hrd, hri, hrt, hrh, hrs⟩ := id H
  unfold f_X7_drop f_X8_drop
  rw [c1_r (s_isHolder hz)]
  by_cases c : 0 ≤ z ∧ z ≤ 5
  · obtain ⟨h, rfl⟩ : ∃ h : Nat, z = h := ⟨z.toNat, by omega⟩
    have hh : h < 6 := by omega
    obtain ⟨k1, k2, k3, k4⟩ := kd_hold h hh
    have e9 := hW.1.2.2.2.2.2.2.2
    obtain ⟨r1, r2, r3⟩ := hW.2.2.2.2.2.2.2.2.1 h hh
    rw [if_pos c, if_neg (by decide), rfc e9 kd_114 (by decide), ln_114, ix_d (by omega) (by omega) (by decide), Int.toNat_natCast, rfc r1 k1 (by decide), lt_d, rfc e9 kd_114 (by decide), ln_114, ix_d (by omega) (by omega) (by decide), Int.toNat_natCast, rfc r1 k1 (by decide), lt_d]
    generalize hw1 : upI w (115 + 4 * h) 0 0 = w1
    have q2 : w1.2 = w.2 := by rw [← hw1]; rfl
    have q1 : ∀ a b, ¬ (a = 115 + 4 * h ∧ b = 0) → w1.1 a b = w.1 a b := fun a b h => by rw [← hw1]; exact upI_n h
    have qz : w1.1 (115 + 4 * h) 0 = I 0 := by rw [← hw1, upI_s]; rfl
    have hW1 : Wi w1.2 := by rw [q2]; exact hW
    have fin : In (upI w1 149 h 0) := by
      refine ⟨g, p, u, G, hW1, ⟨hv, hc.of (fun b => ?_) (fun b => ?_), hm.of (fun b hb => ?_) (fun b => ?_)⟩, hrc.of hv (fun a b h => ?_), hrd.of (fun a b h => ?_) (fun b => by show w1.2 93 b = _; rw [q2]), hri.of (fun a b h => ?_), hrt.of (fun a b h => ?_), fun h' hh' => ?_, hrs.of (fun a b h => ?_)⟩
      case refine_9 =>
        by_cases e : h' = h
        · subst e
          refine Or.inl ⟨by rw [upI_n (by omega), qz], by rw [upI_s]; rfl⟩
        · exact (hrh h' hh').of hh' (fun a b hab => by rw [upI_n (by omega), q1 _ _ (by omega)])
      all_goals rw [upI_n (by omega), q1 _ _ (by omega)]
    have hB : f_X8_isHolder (I h) = some (I 1) := by rw [m_isHolder hz, if_pos c]
    obtain ⟨h1, h2⟩ | ⟨s, W, h1, h2, h3, h4, h5, h6⟩ | ⟨n, h1, h2, h3, h4, h5, h6⟩ := hrh h hh
    · refine ⟨_, _, _, rfl, ?_, fin⟩
      rw [c1_r hB, if_neg n10, rfc hW1.m15 kd_149 (by decide), ln_149, ix_d (by omega) (by omega) (by decide), Int.toNat_natCast, jn_d, q1 149 h (by omega), h2, if_pos z00]
      show rf _ _ _ _ = _
      rw [rfc hW1.m15 kd_149 (by decide), ln_149, ix_d (by omega) (by omega) (by decide), Int.toNat_natCast, lt_d, h1]; rfl
    · refine ⟨_, _, _, rfl, ?_, fin⟩
      have hl := len_b s
      rw [c1_r hB, if_neg n10, rfc hW1.m15 kd_149 (by decide), ln_149, ix_d (by omega) (by omega) (by decide), Int.toNat_natCast, jn_d, q1 149 h (by omega), h5, if_neg n10, rfc hW1.m15 kd_149 (by decide), ln_149, ix_d (by omega) (by omega) (by decide), Int.toNat_natCast, q1 149 h (by omega), h5, if_neg (by decide), c1_r (m_heldLength hW1 hh h1 h2 (fun k hk => by rw [q1 _ _ (by omega)]; exact h6 k hk)), h4]
      simp (disch := omega) only [i0, i1, i2, i3, i4, i5, i6, i7, i8, i9, i10, i12, i14, i20, i25, i26, i28, i30, i36, i48, i49, i50, i53, i57, i59, i60, i63, i75, i80, i99, i100, i196, i255, i1000, im1, im2, im3, im5, im6, im11, im12, im13, im14, im1000, I_le]
      by_cases d : (len s : Int) ≤ 1
      · rw [if_pos d, if_neg (by omega)]
        rw [rfc hW1.m15 kd_149 (by decide), ln_149, ix_d (by omega) (by omega) (by decide), Int.toNat_natCast, lt_d]
      · rw [if_neg d, if_pos (by omega)]
        rw [rfc hW1.m15 kd_149 (by decide), ln_149, ix_d (by omega) (by omega) (by decide), Int.toNat_natCast, lt_d]
    · refine ⟨_, _, _, rfl, ?_, fin⟩
      rw [c1_r hB, if_neg n10, rfc hW1.m15 kd_149 (by decide), ln_149, ix_d (by omega) (by omega) (by decide), Int.toNat_natCast, jn_d, q1 149 h (by omega), h3, if_neg (by decide), rfc hW1.m15 kd_149 (by decide), ln_149, ix_d (by omega) (by omega) (by decide), Int.toNat_natCast, q1 149 h (by omega), h3, if_pos (show I 2 = 2 from rfl)]
      show rf _ _ _ _ = _
      rw [rfc hW1.m15 kd_149 (by decide), ln_149, ix_d (by omega) (by omega) (by decide), Int.toNat_natCast, lt_d, h2]; rfl
  · rw [if_neg c, if_pos z00]
    refine ⟨_, _, w, rfl, ?_, ⟨g, p, u, G, H⟩⟩
    rw [c1_r (m_isHolder hz), if_neg c, if_pos z00]
theorem tsum_80 {s : Nat → Int} {W : Int} (hs : Gs s W) : tsum s 80 = tsum s 75 := (hs.t 5).trans (hs.t 0).symm
theorem s_hasShape {w : Wd} {t : Nat} {z : Int} (h : w.1 t 0 = I z) (hz : 0 ≤ z ∧ z ≤ 3) : f_X3_hasShape t w = some (I (if z = 1 ∨ z = 2 then 1 else 0)) := by
  unfold f_X3_hasShape
  rw [h]
  simp (disch := omega) only [lt_d, i0, i1, i2, i3, i4, i5, i6, i7, i8, i9, i10, i12, i14, i20, i25, i26, i28, i30, i36, i48, i49, i50, i53, i57, i59, i60, i63, i75, i80, i99, i100, i196, i255, i1000, im1, im2, im3, im5, im6, im11, im12, im13, im14, im1000, I_eq, I_ite]
  exact zb_c (by (repeat' split) <;> omega)
theorem s_refusal {w : Wd} {t : Nat} {z : Int} (h : w.1 t 0 = I z) (hz : 0 ≤ z ∧ z ≤ 3) : f_X3_refusal t w = some (I (if z = 0 then -11 else -12)) := by
  unfold f_X3_refusal
  rw [h]
  simp (disch := omega) only [lt_d, i0, i1, i2, i3, i4, i5, i6, i7, i8, i9, i10, i12, i14, i20, i25, i26, i28, i30, i36, i48, i49, i50, i53, i57, i59, i60, i63, i75, i80, i99, i100, i196, i255, i1000, im1, im2, im3, im5, im6, im11, im12, im13, im14, im1000, I_eq]
  by_cases c : z = 0
  · rw [if_pos c, if_pos c]
  · rw [if_neg c, if_neg c]; rfl
theorem s_hasRow {w : Wd} {t : Nat} {z : Int} (h : w.1 t 0 = I z) (hz : 0 ≤ z ∧ z ≤ 3) : f_X3_hasRow t w = some (I (if z = 3 then 1 else 0)) := by
  unfold f_X3_hasRow
  rw [h]
  simp (disch := omega) only [lt_d, i0, i1, i2, i3, i4, i5, i6, i7, i8, i9, i10, i12, i14, i20, i25, i26, i28, i30, i36, i48, i49, i50, i53, i57, i59, i60, i63, i75, i80, i99, i100, i196, i255, i1000, im1, im2, im3, im5, im6, im11, im12, im13, im14, im1000, I_eq, I_ite]
  exact zb_c (by (repeat' split) <;> omega)
theorem s_hasPlace {w : Wd} {t n : Nat} {z : Int} (h : w.1 t 3 = I n) (hz : -2147483648 ≤ z ∧ z < 2147483648) (hn : n ≤ 30) : f_X3_hasPlace t (I z) w = some (I (if 0 ≤ z ∧ z ≤ (n : Int) - 1 then 1 else 0)) := by
  unfold f_X3_hasPlace
  rw [h]
  simp (disch := omega) only [lt_d, i0, i1, i2, i3, i4, i5, i6, i7, i8, i9, i10, i12, i14, i20, i25, i26, i28, i30, i36, i48, i49, i50, i53, i57, i59, i60, i63, i75, i80, i99, i100, i196, i255, i1000, im1, im2, im3, im5, im6, im11, im12, im13, im14, im1000, I_lt, I_le, I_eq, I_ite]
  exact zb_c (by (repeat' split) <;> omega)
theorem m_rowless {w : Wd} {h : Nat} {z : Int} (hW : Wi w.2) (hh : h < 6) (e : w.1 149 h = I z) (hz : 0 ≤ z ∧ z ≤ 3) : f_X8_rowless 139 (I h) w = some (I (if z = 0 then -11 else if z = 1 then -12 else 0)) := by
  unfold f_X8_rowless
  rw [rfc hW.m15 kd_149 (by decide), ln_149, ix_d (by omega) (by omega) (by decide), Int.toNat_natCast, e, rfc hW.m15 kd_149 (by decide), ln_149, ix_d (by omega) (by omega) (by decide), Int.toNat_natCast, e]
  simp (disch := omega) only [i0, i1, i2, i3, i4, i5, i6, i7, i8, i9, i10, i12, i14, i20, i25, i26, i28, i30, i36, i48, i49, i50, i53, i57, i59, i60, i63, i75, i80, i99, i100, i196, i255, i1000, im1, im2, im3, im5, im6, im11, im12, im13, im14, im1000, I_eq]
  by_cases c : z = 0
  · rw [if_pos c, if_pos c]
  · rw [if_neg c, if_neg c]
    by_cases d : z = 1
    · rw [if_pos d, if_pos d]; rfl
    · rw [if_neg d, if_neg d]
theorem op_taken {z y : Int} (hz : -2147483648 ≤ z ∧ z < 2147483648) (hy : -2147483648 ≤ y ∧ y < 2147483648) : Op1 (f_X7_taken 0 (I z) (I y)) (f_X8_taken 139 (I z) (I y)) := by
  rintro w ⟨g, p, u, G, H⟩
  obtain ⟨hW, ⟨hv, hc, hm⟩, hrc, hrd, hri, hrt, hrh, hrs⟩ := id H
  unfold f_X7_taken f_X8_taken
  rw [c1_r (s_isHolder hz), c1_r (m_isHolder hz)]
  by_cases c : 0 ≤ z ∧ z ≤ 5
  · obtain ⟨h, rfl⟩ : ∃ h : Nat, z = h := ⟨z.toNat, by omega⟩
    have hh : h < 6 := by omega
    obtain ⟨k1, k2, k3, k4⟩ := kd_hold h hh
    have e9 := hW.1.2.2.2.2.2.2.2
    obtain ⟨r1, r2, r3⟩ := hW.2.2.2.2.2.2.2.2.1 h hh
    rw [if_pos c, if_neg n10, if_neg n10, l0, l2, c1_r (m_chk hy (by omega) (by omega))]
    by_cases d : 0 ≤ y ∧ y ≤ 2
    · rw [if_pos d, if_neg n10, rfc hW.m15 kd_149 (by decide), ln_149, ix_d (by omega) (by omega) (by decide), Int.toNat_natCast]
      have L : ∀ v : Int32, (c1 (f_X3_hasShape (115 + 4 * h) w) (fun v12 => (if v12 = 0 then c1 (f_X3_refusal (115 + 4 * h) w) (fun v28 => some v28) else (if I y = 0 then rf 153 (w.2 (115 + 4 * h) 1) 5 (fun t25 => some (w.1 t25 2)) else (if (w.1 (115 + 4 * h) 0) = I y then (if I y = (1 : Int32) then rf 153 (w.2 (115 + 4 * h) 1) 5 (fun t21 => c1 (f_X5_partAt t21 (0 : Int32) w) (fun v24 => some v24)) else rf 153 (w.2 (115 + 4 * h) 1) 5 (fun t17 => lt (w.1 t17 1) (fun x19 => some x19))) else some (-12 : Int32)))))) = some v → (if I y < 0 then some (-1 : Int32) else (if I y ≤ (2 : Int32) then rf 153 (w.2 0 9) 11 (fun t6 => ix (I h) (ln t6) (fun j8 => rf 153 (w.2 t6 j8) 3 (fun t9 => c1 (f_X3_hasShape t9 w) (fun v12 => (if v12 = 0 then c1 (f_X3_refusal t9 w) (fun v28 => some v28) else (if I y = 0 then rf 153 (w.2 t9 1) 5 (fun t25 => some (w.1 t25 2)) else (if (w.1 t9 0) = I y then (if I y = (1 : Int32) then rf 153 (w.2 t9 1) 5 (fun t21 => c1 (f_X5_partAt t21 (0 : Int32) w) (fun v24 => some v24)) else rf 153 (w.2 t9 1) 5 (fun t17 => lt (w.1 t17 1) (fun x19 => some x19))) else some (-12 : Int32)))))))) else some (-1 : Int32))) = some v := fun v hv => by
        rw [if_neg (by rw [i0, I_lt (by omega) (by omega) (by omega) (by omega)]; omega), if_pos (by rw [i2, I_le (by omega) (by omega) (by omega) (by omega)]; omega), rfc e9 kd_114 (by decide), ln_114, ix_d (by omega) (by omega) (by decide), Int.toNat_natCast, rfc r1 k1 (by decide)]
        exact hv
      obtain ⟨h1, h2⟩ | ⟨s, W, h1, h2, h3, h4, h5, h6⟩ | ⟨n, h1, h2, h3, h4, h5, h6⟩ := hrh h hh
      · refine ⟨I (-11), L _ ?_, ?_⟩
        · rw [c1_r (show f_X3_hasShape (115 + 4 * h) w = some (I 0) from s_hasShape h1 (by omega)), if_pos z00, c1_r (s_refusal h1 (by omega)), if_pos rfl]
        · rw [h2, if_pos z00]; rfl
      · have hl := len_b s
        have hx1 := h1.1 0; have hx2 := h1.b 0
        have hk2 : f_X3_hasShape (115 + 4 * h) w = some (I 1) := by
          rw [s_hasShape h4 (by (repeat' split) <;> omega), if_pos (by (repeat' split) <;> omega)]
        have hlen := m_heldLength hW hh h1 h2 h6
        rw [h5, if_neg n10, rfc hW.m15 kd_149 (by decide), ln_149, ix_d (by omega) (by omega) (by decide), Int.toNat_natCast, h5, if_neg (show ¬ I 1 = 2 by decide), jn_d]
        rw [c1_r hk2, if_neg n10, h4] at L
        have hy3 : y = 0 ∨ y = 1 ∨ y = 2 := by omega
        obtain rfl | rfl | rfl := hy3
        · refine ⟨I (tsum s 75), L _ ?_, ?_⟩
          · rw [if_pos z00, rfc r2 k2 (by decide), h3.2.1]
          · rw [if_pos (show I 0 ≤ 0 by decide), if_pos (show I 0 ≤ 0 by decide), ← tsum_80 h1]
            refine wl2_for 80 (fun i => I (tsum s i)) (fun i => I i) (by decide) rfl rfl (fun i hi k => ?_) (fun k => ?_)
            · simp (disch := omega) only [↓j_m1, ↓j_m2, ↓j_m3, ↓j_m5, ↓j_m6, ↓j_m11, ↓j_m12, ↓j_m13, ↓j_m14, ↓j_m1000, j_0, j_1, j_2, j_3, j_4, j_5, j_6, j_7, j_8, j_9, j_10, j_12, j_14, j_20, j_25, j_26, j_28, j_30, j_36, j_48, j_49, j_50, j_53, j_57, j_59, j_60, j_63, j_75, j_80, j_99, j_100, j_196, j_255, j_1000, I_le]
              rw [if_neg (by omega), rfc hW.m17 kd_151 (by decide), ln_151, I_mul, I_add, ix_d (by omega) (by omega) (by decide), show (80 * (h : Int) + (i : Int)).toNat = 80 * h + i by omega, h6 i hi, lt_d, lt_d, I_add, I_add, nS]
              rfl
            · rw [if_pos (by decide)]
        · by_cases e : 1 < len s
          · refine ⟨I (-12), L _ ?_, ?_⟩
            · rw [if_neg n10, if_pos e, if_neg (by decide)]; rfl
            · rw [if_neg (show ¬ I 1 ≤ 0 by decide), c1_r hlen]
              simp (disch := omega) only [↓j_m1, ↓j_m2, ↓j_m3, ↓j_m5, ↓j_m6, ↓j_m11, ↓j_m12, ↓j_m13, ↓j_m14, ↓j_m1000, j_0, j_1, j_2, j_3, j_4, j_5, j_6, j_7, j_8, j_9, j_10, j_12, j_14, j_20, j_25, j_26, j_28, j_30, j_36, j_48, j_49, j_50, j_53, j_57, j_59, j_60, j_63, j_75, j_80, j_99, j_100, j_196, j_255, j_1000, I_le]
              rw [if_neg (by omega), lt_d, lt_d, if_neg (by decide)]
          · refine ⟨I (s 0), L _ ?_, ?_⟩
            · rw [if_neg n10, if_neg e, if_pos rfl, if_pos (show I 1 = 1 from rfl), rfc r2 k2 (by decide), c1_r (show f_X5_partAt (116 + 4 * h) 0 w = some (I (s 0)) from s_partAt (i := 0) k2 (hW.2.2.1 _ k2) h3 h1 (by decide))]
            · rw [if_neg (show ¬ I 1 ≤ 0 by decide), if_neg (show ¬ I 1 ≤ 0 by decide), if_pos (show I 1 = 1 from rfl), c1_r hlen]
              simp (disch := omega) only [↓j_m1, ↓j_m2, ↓j_m3, ↓j_m5, ↓j_m6, ↓j_m11, ↓j_m12, ↓j_m13, ↓j_m14, ↓j_m1000, j_0, j_1, j_2, j_3, j_4, j_5, j_6, j_7, j_8, j_9, j_10, j_12, j_14, j_20, j_25, j_26, j_28, j_30, j_36, j_48, j_49, j_50, j_53, j_57, j_59, j_60, j_63, j_75, j_80, j_99, j_100, j_196, j_255, j_1000, I_le]
              rw [if_pos (by omega), lt_d, lt_d, if_neg (show ¬ I 1 = I 2 by decide), if_pos rfl, rfc hW.m17 kd_151 (by decide), ln_151, I_mul, ix_d (by omega) (by omega) (by decide), lt_d, show (80 * (h : Int)).toNat = 80 * h + 0 by omega, h6 0 (by decide)]
        · by_cases e : 1 < len s
          · refine ⟨I (len s), L _ ?_, ?_⟩
            · rw [if_neg (show ¬ I 2 = 0 by decide), if_pos e, if_pos rfl, if_neg (show ¬ I 2 = 1 by decide), rfc r2 k2 (by decide), lt_d, h3.1]
            · rw [if_neg (show ¬ I 2 ≤ 0 by decide), if_neg (show ¬ I 2 ≤ 0 by decide), if_neg (show ¬ I 2 = 1 by decide), c1_r hlen, c1_r hlen]
              simp (disch := omega) only [↓j_m1, ↓j_m2, ↓j_m3, ↓j_m5, ↓j_m6, ↓j_m11, ↓j_m12, ↓j_m13, ↓j_m14, ↓j_m1000, j_0, j_1, j_2, j_3, j_4, j_5, j_6, j_7, j_8, j_9, j_10, j_12, j_14, j_20, j_25, j_26, j_28, j_30, j_36, j_48, j_49, j_50, j_53, j_57, j_59, j_60, j_63, j_75, j_80, j_99, j_100, j_196, j_255, j_1000, I_le]
              rw [if_neg (by omega), lt_d, lt_d, if_pos trivial, if_pos rfl]
          · refine ⟨I (-12), L _ ?_, ?_⟩
            · rw [if_neg (show ¬ I 2 = 0 by decide), if_neg e, if_neg (by decide)]; rfl
            · rw [if_neg (show ¬ I 2 ≤ 0 by decide), c1_r hlen]
              simp (disch := omega) only [↓j_m1, ↓j_m2, ↓j_m3, ↓j_m5, ↓j_m6, ↓j_m11, ↓j_m12, ↓j_m13, ↓j_m14, ↓j_m1000, j_0, j_1, j_2, j_3, j_4, j_5, j_6, j_7, j_8, j_9, j_10, j_12, j_14, j_20, j_25, j_26, j_28, j_30, j_36, j_48, j_49, j_50, j_53, j_57, j_59, j_60, j_63, j_75, j_80, j_99, j_100, j_196, j_255, j_1000, I_le]
              rw [if_pos (by omega), lt_d, lt_d, if_pos trivial, if_neg (by decide)]
      · refine ⟨I (-12), L _ ?_, ?_⟩
        · rw [c1_r (show f_X3_hasShape (115 + 4 * h) w = some (I 0) from s_hasShape h2 (by omega)), if_pos z00, c1_r (s_refusal h2 (by omega)), if_neg (by omega)]
        · rw [h3, if_neg (by decide), rfc hW.m15 kd_149 (by decide), ln_149, ix_d (by omega) (by omega) (by decide), Int.toNat_natCast, h3, if_pos (show I 2 = 2 from rfl)]; rfl
    · rw [if_neg d, if_pos z00]
      by_cases e : y < 0
      · rw [if_pos (by rw [i0, I_lt (by omega) (by omega) (by omega) (by omega)]; omega)]
        exact ⟨_, rfl, rfl⟩
      · rw [if_neg (by rw [i0, I_lt (by omega) (by omega) (by omega) (by omega)]; omega), if_neg (by rw [i2, I_le (by omega) (by omega) (by omega) (by omega)]; omega)]
        exact ⟨_, rfl, rfl⟩
  · rw [if_neg c, if_pos z00, if_pos z00]
    exact ⟨_, rfl, rfl⟩
theorem op_was {z y : Int} (hz : -2147483648 ≤ z ∧ z < 2147483648) (hy : -2147483648 ≤ y ∧ y < 2147483648) : Op1 (f_X7_was 0 (I z) (I y)) (f_X8_was 139 (I z) (I y)) := by
  rintro w ⟨g, p, u, G, H⟩
  obtain ⟨hW, ⟨hv, hc, hm⟩, hrc, hrd, hri, hrt, hrh, hrs⟩ := id H
  unfold f_X7_was f_X8_was
  rw [c1_r (s_isHolder hz), c1_r (m_isHolder hz)]
  by_cases c : 0 ≤ z ∧ z ≤ 5
  · obtain ⟨h, rfl⟩ : ∃ h : Nat, z = h := ⟨z.toNat, by omega⟩
    have hh : h < 6 := by omega
    obtain ⟨k1, k2, k3, k4⟩ := kd_hold h hh
    have e9 := hW.1.2.2.2.2.2.2.2
    obtain ⟨r1, r2, r3⟩ := hW.2.2.2.2.2.2.2.2.1 h hh
    rw [if_pos c, if_neg n10, if_neg n10, l0, l99, c1_r (m_chk hy (by omega) (by omega)), c1_r (s_isPlace hy)]
    by_cases d : 0 ≤ y ∧ y ≤ 99
    · obtain ⟨k, rfl⟩ : ∃ k : Nat, y = k := ⟨y.toNat, by omega⟩
      rw [if_pos d, if_neg n10, if_neg n10, rfc e9 kd_114 (by decide), ln_114, ix_d (by omega) (by omega) (by decide), Int.toNat_natCast, rfc r1 k1 (by decide), rfc hW.m15 kd_149 (by decide), ln_149, ix_d (by omega) (by omega) (by decide), Int.toNat_natCast]
      obtain ⟨h1, h2⟩ | ⟨s, W, h1, h2, h3, h4, h5, h6⟩ | ⟨n, h1, h2, h3, h4, h5, h6⟩ := hrh h hh
      · rw [h2, if_pos z00, c1_r (show f_X3_hasShape (115 + 4 * h) w = some (I 0) from s_hasShape h1 (by omega)), if_pos z00, c1_r (s_refusal h1 (by omega)), if_pos rfl]
        exact ⟨_, rfl, rfl⟩
      · have hk2 : f_X3_hasShape (115 + 4 * h) w = some (I 1) := by
          rw [s_hasShape h4 (by (repeat' split) <;> omega), if_pos (by (repeat' split) <;> omega)]
        rw [h5, if_neg n10, c1_r hk2, if_neg n10, rfc hW.m15 kd_149 (by decide), ln_149, ix_d (by omega) (by omega) (by decide), Int.toNat_natCast, h5, if_neg (by decide), rfc r2 k2 (by decide), c1_r (s_partAt k2 (hW.2.2.1 _ k2) h3 h1 (by omega))]
        simp (disch := omega) only [↓j_m1, ↓j_m2, ↓j_m3, ↓j_m5, ↓j_m6, ↓j_m11, ↓j_m12, ↓j_m13, ↓j_m14, ↓j_m1000, j_0, j_1, j_2, j_3, j_4, j_5, j_6, j_7, j_8, j_9, j_10, j_12, j_14, j_20, j_25, j_26, j_28, j_30, j_36, j_48, j_49, j_50, j_53, j_57, j_59, j_60, j_63, j_75, j_80, j_99, j_100, j_196, j_255, j_1000, I_le, I_mul, I_add]
        by_cases e : (80 : Int) ≤ k
        · rw [if_pos e, h1.z (by omega)]
          exact ⟨_, rfl, rfl⟩
        · rw [if_neg e, rfc hW.m17 kd_151 (by decide), ln_151, ix_d (by omega) (by omega) (by decide), lt_d, show (80 * (h : Int) + (k : Int)).toNat = 80 * h + k by omega, h6 k (by omega)]
          exact ⟨_, rfl, rfl⟩
      · rw [h3, if_neg (by decide), c1_r (show f_X3_hasShape (115 + 4 * h) w = some (I 0) from s_hasShape h2 (by omega)), if_pos z00, c1_r (s_refusal h2 (by omega)), if_neg (by omega), rfc hW.m15 kd_149 (by decide), ln_149, ix_d (by omega) (by omega) (by decide), Int.toNat_natCast, h3, if_pos (show I 2 = 2 from rfl)]
        exact ⟨_, rfl, rfl⟩
    · rw [if_neg d, if_pos z00, if_pos z00]
      exact ⟨_, rfl, rfl⟩
  · rw [if_neg c, if_pos z00, if_pos z00]
    exact ⟨_, rfl, rfl⟩
theorem op_get {z y : Int} (hz : -2147483648 ≤ z ∧ z < 2147483648) (hy : -2147483648 ≤ y ∧ y < 2147483648) : Op1 (f_X7_get 0 (I z) (I y)) (f_X8_get 139 (I z) (I y)) := by
  rintro w ⟨g, p, u, G, H⟩
  obtain ⟨hW, ⟨hv, hc, hm⟩, hrc, hrd, hri, hrt, hrh, hrs⟩ := id H
  unfold f_X7_get f_X8_get
  rw [c1_r (s_isHolder hz), c1_r (m_isHolder hz), jn_d]
  by_cases c : 0 ≤ z ∧ z ≤ 5
  · obtain ⟨h, rfl⟩ : ∃ h : Nat, z = h := ⟨z.toNat, by omega⟩
    have hh : h < 6 := by omega
    obtain ⟨k1, k2, k3, k4⟩ := kd_hold h hh
    have e9 := hW.1.2.2.2.2.2.2.2
    obtain ⟨r1, r2, r3⟩ := hW.2.2.2.2.2.2.2.2.1 h hh
    rw [if_pos c, if_neg n10, if_neg n10, rfc e9 kd_114 (by decide), ln_114, ix_d (by omega) (by omega) (by decide), Int.toNat_natCast, rfc r1 k1 (by decide), rfc hW.m15 kd_149 (by decide), ln_149, ix_d (by omega) (by omega) (by decide), Int.toNat_natCast]
    obtain ⟨h1, h2⟩ | ⟨s, W, h1, h2, h3, h4, h5, h6⟩ | ⟨n, h1, h2, h3, h4, h5, h6⟩ := hrh h hh
    · rw [h2, if_neg (by decide), c1_r (show f_X3_hasRow (115 + 4 * h) w = some (I 0) from s_hasRow h1 (by omega)), if_pos z00]
      exact ⟨_, rfl, rfl⟩
    · rw [h5, if_neg (by decide), c1_r (show f_X3_hasRow (115 + 4 * h) w = some (I 0) by rw [s_hasRow h4 (by (repeat' split) <;> omega), if_neg (by (repeat' split) <;> omega)]), if_pos z00]
      exact ⟨_, rfl, rfl⟩
    · rw [h3, if_pos (show I 2 = 2 from rfl), c1_r (show f_X3_hasRow (115 + 4 * h) w = some (I 1) from s_hasRow h2 (by omega)), if_neg n10, rfc e9 kd_114 (by decide), ln_114, ix_d (by omega) (by omega) (by decide), Int.toNat_natCast, rfc r1 k1 (by decide), c1_r (s_hasPlace h4 hy h1), rfc hW.m16 kd_150 (by decide), ln_150, ix_d (by omega) (by omega) (by decide), Int.toNat_natCast, h5, i1, I_sub, l0, I_long (z := (n : Int) - 1) (by omega) (by omega), c1_r (m_chk hy (by omega) (by omega))]
      by_cases d : 0 ≤ y ∧ y ≤ (n : Int) - 1
      · obtain ⟨k, rfl⟩ : ∃ k : Nat, y = k := ⟨y.toNat, by omega⟩
        rw [if_pos d, if_neg n10, if_neg n10, rfc e9 kd_114 (by decide), ln_114, ix_d (by omega) (by omega) (by decide), Int.toNat_natCast, rfc r1 k1 (by decide), rfc r3 k3 (by decide), k4, ix_d (by omega) (by omega) (by decide), Int.toNat_natCast, rfc hW.m17 kd_151 (by decide), ln_151, i80, I_mul, I_add, ix_d (by omega) (by omega) (by decide), show (80 * (h : Int) + (k : Int)).toNat = 80 * h + k by omega, h6 k (by omega), if_pos (by omega)]
        exact ⟨_, rfl, rfl⟩
      · rw [if_neg d, if_pos z00, if_pos z00]
        exact ⟨_, rfl, rfl⟩
  · rw [if_neg c, if_pos z00, if_pos z00]
    exact ⟨_, rfl, rfl⟩
def lay (w : Wd) (t o : Nat) (s : Nat → Int32) (n : Nat) : Wd := (fun a b => if a = t ∧ o ≤ b ∧ b < o + n then s (b - o) else w.1 a b, w.2)
theorem lay_i {w : Wd} {t o n k : Nat} {s : Nat → Int32} (h : k < n) : (lay w t o s n).1 t (o + k) = s k := by
  show (if t = t ∧ o ≤ o + k ∧ o + k < o + n then s (o + k - o) else _) = _
  rw [if_pos ⟨rfl, by omega, by omega⟩, show o + k - o = k by omega]
theorem lay_n {w : Wd} {t o n a b : Nat} {s : Nat → Int32} (h : ¬ (a = t ∧ o ≤ b ∧ b < o + n)) : (lay w t o s n).1 a b = w.1 a b := if_neg h
theorem lay_0 (w : Wd) (t o : Nat) (s : Nat → Int32) : lay w t o s 0 = w := W_ext (fun a b => lay_n (by omega)) rfl
theorem lay_s {w : Wd} {t o n j : Nat} {s : Nat → Int32} {v : Int32} (hj : j = o + n) (hv : v = s n) : upI (lay w t o s n) t j v = lay w t o s (n + 1) := by
  subst hj hv
  refine W_ext (fun a b => ?_) rfl
  by_cases h : a = t ∧ b = o + n
  · obtain ⟨rfl, rfl⟩ := h
    rw [upI_s, lay_i (by omega)]
  · rw [upI_n h]
    by_cases h2 : a = t ∧ o ≤ b ∧ b < o + n
    · obtain ⟨rfl, h3, h4⟩ := h2
      obtain ⟨c, rfl⟩ : ∃ c, b = o + c := ⟨b - o, by omega⟩
      rw [lay_i (by omega), lay_i (by omega)]
    · rw [lay_n h2, lay_n (by omega)]
theorem op_row {z y : Int} (hz : -2147483648 ≤ z ∧ z < 2147483648) (hy : -2147483648 ≤ y ∧ y < 2147483648) : Op2 (f_X7_row 0 (I z) (I y)) (f_X8_row 139 (I z) (I y)) := by
  rintro w ⟨g, p, u, G, H⟩
  obtain ⟨hW, ⟨hv, hc, hm⟩, hrc, hrd, hri, hrt, hrh, hrs⟩ := id H
  unfold f_X7_row f_X8_row f_X3_beginRow
  rw [c1_r (s_isHolder hz)]
  simp (disch := omega) only [↓j_m1, ↓j_m2, ↓j_m3, ↓j_m5, ↓j_m6, ↓j_m11, ↓j_m12, ↓j_m13, ↓j_m14, ↓j_m1000, j_0, j_1, j_2, j_3, j_4, j_5, j_6, j_7, j_8, j_9, j_10, j_12, j_14, j_20, j_25, j_26, j_28, j_30, j_36, j_48, j_49, j_50, j_53, j_57, j_59, j_60, j_63, j_75, j_80, j_99, j_100, j_196, j_255, j_1000, I_le]
  have hB : 0 ≤ z ∧ z ≤ 5 → f_X8_isHolder (I z) = some (I 1) := fun c => by rw [m_isHolder hz, if_pos c]
  by_cases c : 0 ≤ z ∧ z ≤ 5
  · obtain ⟨h, rfl⟩ : ∃ h : Nat, z = h := ⟨z.toNat, by omega⟩
    have hh : h < 6 := by omega
    obtain ⟨k1, k2, k3, k4⟩ := kd_hold h hh
    have e9 := hW.1.2.2.2.2.2.2.2
    obtain ⟨r1, r2, r3⟩ := hW.2.2.2.2.2.2.2.2.1 h hh
    rw [if_pos c, if_neg (show ¬ I 1 = I 0 by decide)]
    by_cases d : y ≤ 30
    · rw [if_pos d]
      by_cases e : 0 ≤ y
      · obtain ⟨n, rfl⟩ : ∃ k : Nat, y = k := ⟨y.toNat, by omega⟩
        rw [if_pos e, rfc e9 kd_114 (by decide), ln_114, ix_d (by omega) (by omega) (by decide), Int.toNat_natCast, rfc r1 k1 (by decide), lt_d, lt_d]
        generalize hw0 : upI (upI w (115 + 4 * h) 0 (I 3)) (115 + 4 * h) 3 (I n) = w0
        have hW0 : Wi w0.2 := by rw [← hw0]; exact hW
        have f0 : ∀ a b, ¬ (a = 115 + 4 * h ∧ (b = 0 ∨ b = 3)) → w0.1 a b = w.1 a b := fun a b hab => by rw [← hw0, upI_n (by omega), upI_n (by omega)]
        have g0 : w0.1 (115 + 4 * h) 0 = I 3 := by rw [← hw0, upI_n (by omega), upI_s]
        have g3 : w0.1 (115 + 4 * h) 3 = I n := by rw [← hw0, upI_s]
        have hcl : wl2 (fun (x3 : Int32) (w4 : Wd) k5 => (if I 30 ≤ x3 then some w4 else rf 153 (w4.2 (115 + 4 * h) 2) 9 (fun t8 => ix x3 (ln t8) (fun j10 => lt (upI w4 t8 j10 (I 0)) (fun w11 => lt (x3 + I 1) (fun x12 => k5 x12 w11)))))) fu (I 0) w0 = some (fill w0 (118 + 4 * h) 30 (fun _ => I 0)) := by
          refine wl2_for 30 (fun i => I i) (fun i => fill w0 (118 + 4 * h) i (fun _ => I 0)) (by decide) rfl (fill_0 _ _ _).symm (fun i hi k => ?_) (fun k => ?_)
          · simp (disch := omega) only [↓j_m1, ↓j_m2, ↓j_m3, ↓j_m5, ↓j_m6, ↓j_m11, ↓j_m12, ↓j_m13, ↓j_m14, ↓j_m1000, j_0, j_1, j_2, j_3, j_4, j_5, j_6, j_7, j_8, j_9, j_10, j_12, j_14, j_20, j_25, j_26, j_28, j_30, j_36, j_48, j_49, j_50, j_53, j_57, j_59, j_60, j_63, j_75, j_80, j_99, j_100, j_196, j_255, j_1000, I_le]
            rw [if_neg (by omega), fill_2, rfc (hW0.2.2.2.2.2.2.2.2.1 h hh).2.2 k3 (by decide), k4, ix_d (by omega) (by omega) (by decide), lt_d, lt_d, Int.toNat_natCast, I_add, nS, fill_s _ _ i (fun _ => I 0)]
          · rw [if_pos (by decide)]
        rw [c1_r hcl]
        generalize hw1 : fill w0 (118 + 4 * h) 30 (fun _ => I 0) = w1
        have hW1 : Wi w1.2 := by rw [← hw1]; exact hW0
        have f1 : ∀ a b, ¬ (a = 115 + 4 * h ∧ (b = 0 ∨ b = 3)) → a ≠ 118 + 4 * h → w1.1 a b = w.1 a b := fun a b hab hab2 => by rw [← hw1, fill_n (by omega), f0 _ _ hab]
        have g10 : w1.1 (115 + 4 * h) 0 = I 3 := by rw [← hw1, fill_n (by omega), g0]
        have g13 : w1.1 (115 + 4 * h) 3 = I n := by rw [← hw1, fill_n (by omega), g3]
        have g1z : ∀ k, k < 30 → w1.1 (118 + 4 * h) k = I 0 := fun k hk => by rw [← hw1, fill_i hk]
        have e2 : w1.2 = w.2 := by rw [← hw1, fill_2, ← hw0]; rfl
        refine ⟨I n, w1, lay (upI (upI w1 149 h (I 2)) 150 h (I n)) 151 (80 * h) (fun _ => I 0) 80, rfl, ?_, ?_⟩
        · rw [c1_r (hB c), if_neg (show ¬ I 1 = I 0 by decide), if_pos d, if_pos e, rfc hW1.m15 kd_149 (by decide), ln_149, ix_d (by omega) (by omega) (by decide), lt_d, Int.toNat_natCast, rfc (show (upI w1 149 h (I 2)).2 139 16 = some 150 from hW1.m16) kd_150 (by decide), ln_150, ix_d (by omega) (by omega) (by decide), lt_d, Int.toNat_natCast]
          refine wl2_for 80 (fun i => I i) (fun i => lay (upI (upI w1 149 h (I 2)) 150 h (I n)) 151 (80 * h) (fun _ => I 0) i) (by decide) rfl (lay_0 _ _ _ _).symm (fun i hi k => ?_) (fun k => ?_)
          · simp (disch := omega) only [↓j_m1, ↓j_m2, ↓j_m3, ↓j_m5, ↓j_m6, ↓j_m11, ↓j_m12, ↓j_m13, ↓j_m14, ↓j_m1000, j_0, j_1, j_2, j_3, j_4, j_5, j_6, j_7, j_8, j_9, j_10, j_12, j_14, j_20, j_25, j_26, j_28, j_30, j_36, j_48, j_49, j_50, j_53, j_57, j_59, j_60, j_63, j_75, j_80, j_99, j_100, j_196, j_255, j_1000, I_le]
            rw [if_neg (by omega), rfc (show (lay (upI (upI w1 149 h (I 2)) 150 h (I n)) 151 (80 * h) (fun _ => I 0) i).2 139 17 = some 151 from hW1.m17) kd_151 (by decide), ln_151, I_mul, I_add, ix_d (by omega) (by omega) (by decide), lt_d, lt_d, show (80 * (h : Int) + (i : Int)).toNat = 80 * h + i by omega, lay_s rfl rfl, I_add, nS]
          · rw [if_pos (by decide)]
        · refine ⟨g, p, u, G, hW1, ⟨hv, hc.of (fun b => ?_) (fun b => ?_), hm.of (fun b hb => ?_) (fun b => ?_)⟩, hrc.of hv (fun a b h => ?_), hrd.of (fun a b h => ?_) (fun b => by show w1.2 93 b = _; rw [e2]), hri.of (fun a b h => ?_), hrt.of (fun a b h => ?_), fun h' hh' => ?_, hrs.of (fun a b h => ?_)⟩
          case refine_9 =>
            by_cases e : h' = h
            · subst e
              refine Or.inr (Or.inr ⟨n, by omega, ?_, ?_, ?_, ?_, fun k hk => ?_⟩)
              · rw [lay_n (by omega), upI_n (by omega), upI_n (by omega), g10]
              · rw [lay_n (by omega), upI_n (by omega), upI_s]
              · rw [lay_n (by omega), upI_n (by omega), upI_n (by omega), g13]
              · rw [lay_n (by omega), upI_s]
              · rw [lay_i hk, lay_n (by omega), upI_n (by omega), upI_n (by omega)]
                by_cases c : k < n
                · rw [if_pos c, g1z k (by omega)]
                · rw [if_neg c]
            · exact (hrh h' hh').of hh' (fun a b hab => by rw [lay_n (by omega), upI_n (by omega), upI_n (by omega), f1 _ _ (by omega) (by omega)])
          all_goals rw [lay_n (by omega), upI_n (by omega), upI_n (by omega), f1 _ _ (by omega) (by omega)]
      · rw [if_neg e]
        refine ⟨_, _, w, rfl, ?_, ⟨g, p, u, G, H⟩⟩
        rw [c1_r (hB c), if_neg (show ¬ I 1 = I 0 by decide), if_pos d, if_neg e]
    · rw [if_neg d]
      refine ⟨_, _, w, rfl, ?_, ⟨g, p, u, G, H⟩⟩
      rw [c1_r (hB c), if_neg (show ¬ I 1 = I 0 by decide), if_neg d]
  · rw [if_neg c, if_pos (show I 0 = I 0 from rfl)]
    refine ⟨_, _, w, rfl, ?_, ⟨g, p, u, G, H⟩⟩
    rw [c1_r (m_isHolder hz), if_neg c, if_pos (show I 0 = I 0 from rfl)]
theorem op_set {z y : Int} (v : Int32) (hz : -2147483648 ≤ z ∧ z < 2147483648) (hy : -2147483648 ≤ y ∧ y < 2147483648) : Op2 (f_X7_set 0 (I z) (I y) v) (f_X8_set 139 (I z) (I y) v) := by
  rintro w ⟨g, p, u, G, H⟩
  obtain ⟨hW, ⟨hv, hc, hm⟩, hrc, hrd, hri, hrt, hrh, hrs⟩ := id H
  have keep : ∀ x : Int32, ∃ v1 w1 w2, some (x, w) = some (v1, w1) ∧ some (x, w) = some (v1, w2) ∧ In w2 := fun x => ⟨x, w, w, rfl, rfl, g, p, u, G, H⟩
  unfold f_X7_set f_X8_set
  rw [c1_r (s_isHolder hz)]
  have hB : 0 ≤ z ∧ z ≤ 5 → f_X8_isHolder (I z) = some (I 1) := fun c => by rw [m_isHolder hz, if_pos c]
  by_cases c : 0 ≤ z ∧ z ≤ 5
  · obtain ⟨h, rfl⟩ : ∃ h : Nat, z = h := ⟨z.toNat, by omega⟩
    have hh : h < 6 := by omega
    obtain ⟨k1, k2, k3, k4⟩ := kd_hold h hh
    have e9 := hW.1.2.2.2.2.2.2.2
    obtain ⟨r1, r2, r3⟩ := hW.2.2.2.2.2.2.2.2.1 h hh
    rw [if_pos c, if_neg n10, rfc e9 kd_114 (by decide), ln_114, ix_d (by omega) (by omega) (by decide), Int.toNat_natCast, rfc r1 k1 (by decide)]
    obtain ⟨h1, h2⟩ | ⟨s, W, h1, h2, h3, h4, h5, h6⟩ | ⟨n, h1, h2, h3, h4, h5, h6⟩ := id (hrh h hh)
    · rw [c1_r (show f_X3_hasRow (115 + 4 * h) w = some (I 0) from s_hasRow h1 (by omega)), if_pos z00, c1_r (show f_X3_refusal (115 + 4 * h) w = some (I (-11)) from s_refusal h1 (by omega))]
      refine ⟨_, _, w, rfl, ?_, g, p, u, G, H⟩
      have hr : f_X8_rowless 139 (I h) w = some (I (-11)) := m_rowless hW hh h2 (by omega)
      rw [c1_r (hB c), if_neg n10, c1_r hr, if_neg (by decide), c1_r hr]
    · rw [c1_r (show f_X3_hasRow (115 + 4 * h) w = some (I 0) by rw [s_hasRow h4 (by (repeat' split) <;> omega), if_neg (by (repeat' split) <;> omega)]), if_pos z00, c1_r (show f_X3_refusal (115 + 4 * h) w = some (I (-12)) by rw [s_refusal h4 (by (repeat' split) <;> omega), if_neg (by (repeat' split) <;> omega)])]
      refine ⟨_, _, w, rfl, ?_, g, p, u, G, H⟩
      have hr : f_X8_rowless 139 (I h) w = some (I (-12)) := m_rowless hW hh h5 (by omega)
      rw [c1_r (hB c), if_neg n10, c1_r hr, if_neg (by decide), c1_r hr]
    · rw [c1_r (show f_X3_hasRow (115 + 4 * h) w = some (I 1) from s_hasRow h2 (by omega)), if_neg n10, c1_r (s_hasPlace h4 hy h1)]
      have hr : f_X8_rowless 139 (I h) w = some (I 0) := m_rowless hW hh h3 (by omega)
      have hn : f_X8_in (I y).toInt64 (0 : Int64) (I n - (1 : Int32)).toInt64 = some (I (if 0 ≤ y ∧ y ≤ (n : Int) - 1 then 1 else 0)) := by
        rw [i1, I_sub, l0, I_long (z := (n : Int) - 1) (by omega) (by omega)]
        exact m_chk hy (by omega) (by omega)
      by_cases d : 0 ≤ y ∧ y ≤ (n : Int) - 1
      · obtain ⟨k, rfl⟩ : ∃ k : Nat, y = k := ⟨y.toNat, by omega⟩
        rw [if_pos d, if_neg n10, rfc r3 k3 (by decide), k4, ix_d (by omega) (by omega) (by decide), Int.toNat_natCast, lt_d]
        refine ⟨_, _, upI (upI w (118 + 4 * h) k v) 151 (80 * h + k) v, rfl, ?_, ?_⟩
        · have hW1 : Wi (upI w (118 + 4 * h) k v).2 := hW
          have hr1 : f_X8_rowless 139 (I h) (upI w (118 + 4 * h) k v) = some (I 0) := m_rowless (w := upI w (118 + 4 * h) k v) (z := 2) hW1 hh (by rw [upI_n (by omega)]; exact h3) (by omega)
          rw [c1_r (hB c), if_neg n10, c1_r hr1, if_pos z00, rfc hW1.m16 kd_150 (by decide), ln_150, ix_d (by omega) (by omega) (by decide), Int.toNat_natCast, upI_n (by omega), h5, c1_r hn, if_pos d, if_neg n10, rfc hW1.m17 kd_151 (by decide), ln_151, i80, I_mul, I_add, ix_d (by omega) (by omega) (by decide), lt_d, show (80 * (h : Int) + (k : Int)).toNat = 80 * h + k by omega]
        · refine ⟨g, p, u, G, hW, ⟨hv, hc.of (fun b => ?_) (fun b => ?_), hm.of (fun b hb => ?_) (fun b => ?_)⟩, hrc.of hv (fun a b h => ?_), hrd.of (fun a b h => ?_) (fun b => rfl), hri.of (fun a b h => ?_), hrt.of (fun a b h => ?_), fun h' hh' => ?_, hrs.of (fun a b h => ?_)⟩
          case refine_9 =>
            by_cases e : h' = h
            · subst e
              refine Or.inr (Or.inr ⟨n, h1, ?_, ?_, ?_, ?_, fun j hj => ?_⟩)
              · rw [upI_n (by omega), upI_n (by omega), h2]
              · rw [upI_n (by omega), upI_n (by omega), h3]
              · rw [upI_n (by omega), upI_n (by omega), h4]
              · rw [upI_n (by omega), upI_n (by omega), h5]
              · by_cases e : j = k
                · subst e
                  rw [upI_s, if_pos (by omega), upI_n (by omega), upI_s]
                · rw [upI_n (by omega), upI_n (by omega), upI_n (by omega), upI_n (by omega)]
                  exact h6 j hj
            · exact (hrh h' hh').of hh' (fun a b hab => by rw [upI_n (by omega), upI_n (by omega)])
          all_goals rw [upI_n (by omega), upI_n (by omega)]
      · rw [if_neg d, if_pos z00]
        refine ⟨_, _, w, rfl, ?_, g, p, u, G, H⟩
        rw [c1_r (hB c), if_neg n10, c1_r hr, if_pos z00, rfc hW.m16 kd_150 (by decide), ln_150, ix_d (by omega) (by omega) (by decide), Int.toNat_natCast, h5, c1_r hn, if_neg d, if_pos z00]
  · rw [if_neg c, if_pos z00]
    refine ⟨_, _, w, rfl, ?_, ⟨g, p, u, G, H⟩⟩
    rw [c1_r (m_isHolder hz), if_neg c, if_pos z00]

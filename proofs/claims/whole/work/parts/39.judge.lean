/-! judge, filling -/
theorem op_judge {z x y : Int} (hz : -2147483648 ≤ z ∧ z < 2147483648) (hx : -2147483648 ≤ x ∧ x < 2147483648) (hy : -2147483648 ≤ y ∧ y < 2147483648) : Op2 (f_X7_judge 0 (I z) (I x) (I y)) (f_X8_judge 139 (I z) (I x) (I y)) := by
  rintro w ⟨g, p, u, G, H⟩
  obtain ⟨hW, ⟨hv, hc, hm⟩, hrc, hrd, hri, hrt, hrh, hrs⟩ := id H
  have e1 := hW.1.1
  have hB : 0 ≤ z ∧ z ≤ 5 → f_X8_isHolder (I z) = some (I 1) := fun c => by rw [m_isHolder hz, if_pos c]
  unfold f_X7_judge f_X8_judge
  rw [c1_r (s_isHolder hz)]
  by_cases d : 0 ≤ z ∧ z ≤ 5
  · rw [if_pos d, if_neg n10, rfc e1 kd_1 (by decide), c1_r (s_hasCorner hc hv hx hy)]
    by_cases c : 0 ≤ x ∧ x ≤ g 0 ∧ 0 ≤ y ∧ y ≤ g 1
    · obtain ⟨h, rfl⟩ : ∃ h : Nat, z = h := ⟨z.toNat, by omega⟩
      have hh : h < 6 := by omega
      obtain ⟨k1, k2, k3, k4⟩ := kd_hold h hh
      have e9 := hW.1.2.2.2.2.2.2.2
      obtain ⟨r1, r2, r3⟩ := hW.2.2.2.2.2.2.2.2.1 h hh
      rw [if_pos c, if_neg n10, rfc e9 kd_114 (by decide), ln_114, ix_d (by omega) (by omega) (by decide), Int.toNat_natCast, rfc r1 k1 (by decide)]
      obtain ⟨h1, h2⟩ | ⟨s, W, h1, h2, h3, h4, h5, h6⟩ | ⟨n, h1, h2, h3, h4, h5, h6⟩ := id (hrh h hh)
      · rw [c1_r (show f_X3_hasRow (115 + 4 * h) w = some (I 0) from s_hasRow h1 (by omega)), if_pos z00, c1_r (show f_X3_refusal (115 + 4 * h) w = some (I (-11)) from s_refusal h1 (by omega))]
        refine ⟨_, _, w, rfl, ?_, g, p, u, G, H⟩
        have hr : f_X8_rowless 139 (I h) w = some (I (-11)) := m_rowless hW hh h2 (by omega)
        rw [c1_r (hB d), if_neg n10, c1_r (m_isCorner hm hv hx hy), if_pos c, if_neg n10, c1_r hr, if_neg (by decide), c1_r hr]
      · rw [c1_r (show f_X3_hasRow (115 + 4 * h) w = some (I 0) by rw [s_hasRow h4 (by (repeat' split) <;> omega), if_neg (by (repeat' split) <;> omega)]), if_pos z00, c1_r (show f_X3_refusal (115 + 4 * h) w = some (I (-12)) by rw [s_refusal h4 (by (repeat' split) <;> omega), if_neg (by (repeat' split) <;> omega)])]
        refine ⟨_, _, w, rfl, ?_, g, p, u, G, H⟩
        have hr : f_X8_rowless 139 (I h) w = some (I (-12)) := m_rowless hW hh h5 (by omega)
        rw [c1_r (hB d), if_neg n10, c1_r (m_isCorner hm hv hx hy), if_pos c, if_neg n10, c1_r hr, if_neg (by decide), c1_r hr]
      · rw [c1_r (show f_X3_hasRow (115 + 4 * h) w = some (I 1) from s_hasRow h2 (by omega)), if_neg n10]
        obtain ⟨a, b, t, w1, w2, rfl, rfl, ha, hb, ha5, hb5, q1, kt, rt, hS, hs, hwb, q2, H1, q3, H2, q4, -, q5, -, fr⟩ := askC H c
        have hW1 := H1.1
        have hW2 := H2.1
        obtain ⟨v, f1, f2⟩ := s_firstOther hW1 hh kt rt hS hs h1 (n := n) (by rw [fr _ _ (by omega)]; exact h4)
        have hr : f_X8_rowless 139 (I h) w1 = some (I 0) := m_rowless (z := 2) hW1 hh (by rw [fr _ _ (by omega)]; exact h3) (by omega)
        have key : ∃ v', wl1 (fun (x12 : Int32) k13 => (if (80 : Int32) ≤ x12 then some ((-2 : Int32), w2) else rf 153 (w2.2 139 17) 9 (fun t16 => ix (((80 : Int32) * I h) + x12) (ln t16) (fun j18 => c1 (f_X8_partOf 139 (I a) (I b) x12 w2) (fun v20 => (if (w2.1 t16 j18) = v20 then lt (x12 + (1 : Int32)) (fun x22 => k13 x22) else some (x12, w2))))))) fu (0 : Int32) = some (v', w2) ∧ FO (fun k => if k < n then w1.1 (118 + 4 * h) k else I 0) (fun k => I (Sg g a b k)) v' := by
          refine wl1_inv (Q := fun r => ∃ v', r = some (v', w2) ∧ FO (fun k => if k < n then w1.1 (118 + 4 * h) k else I 0) (fun k => I (Sg g a b k)) v') 80 (fun i x => x = I i ∧ ∀ j, j < i → (if j < n then w1.1 (118 + 4 * h) j else I 0) = I (Sg g a b j)) (by decide) ⟨rfl, fun j hj => absurd hj (by omega)⟩ ?_ ?_
          · rintro i hi x ⟨rfl, hd⟩ k
            simp (disch := omega) only [↓j_m1, ↓j_m2, ↓j_m3, ↓j_m5, ↓j_m6, ↓j_m11, ↓j_m12, ↓j_m13, ↓j_m14, ↓j_m1000, j_0, j_1, j_2, j_3, j_4, j_5, j_6, j_7, j_8, j_9, j_10, j_12, j_14, j_20, j_25, j_26, j_28, j_30, j_36, j_48, j_49, j_50, j_53, j_57, j_59, j_60, j_63, j_75, j_80, j_99, j_100, j_196, j_255, j_1000, I_le]
            rw [if_neg (by omega), rfc hW2.m17 kd_151 (by decide), ln_151, I_mul, I_add, ix_d (by omega) (by omega) (by decide), c1_r (m_partOf hW2 hv q4 ha hb (by omega)), show (80 * (h : Int) + (i : Int)).toNat = 80 * h + i by omega, q5 _ _ (by omega), fr _ _ (by omega), h6 i hi, ← fr (118 + 4 * h) i (by omega), lt_d, I_add, nS]
            by_cases e : (if i < n then w1.1 (118 + 4 * h) i else I 0) = I (Sg g a b i)
            · left
              refine ⟨_, ⟨rfl, fun j hj => ?_⟩, by rw [if_pos e]⟩
              by_cases e2 : j = i
              · subst e2; exact e
              · exact hd j (by omega)
            · right
              rw [if_neg e]
              exact ⟨_, rfl, Or.inl ⟨i, hi, e, hd, rfl⟩⟩
          · rintro x ⟨rfl, hd⟩ k
            rw [if_pos (by decide)]
            exact ⟨_, rfl, Or.inr ⟨hd, rfl⟩⟩
        obtain ⟨v', f3, f4⟩ := key
        obtain rfl := FO_u f2 f4
        refine ⟨v, w1, w2, ?_, ?_, ⟨g, p, u, G, H2⟩⟩
        · rw [c2_r q1, ckc kt (by decide), c1_r f1]
        · rw [c1_r (hB d), if_neg n10, c1_r (m_isCorner H1.2.1.2.2 hv hx hy), if_pos c, if_neg n10, c1_r hr, if_pos z00, c1_r q3]
          exact f3
    · rw [if_neg c, if_pos z00]
      refine ⟨_, _, w, rfl, ?_, ⟨g, p, u, G, H⟩⟩
      rw [c1_r (hB d), if_neg n10, c1_r (m_isCorner hm hv hx hy), if_neg c, if_pos z00]
  · rw [if_neg d, if_pos z00]
    refine ⟨_, _, w, rfl, ?_, ⟨g, p, u, G, H⟩⟩
    rw [c1_r (m_isHolder hz), if_neg d, if_pos z00]

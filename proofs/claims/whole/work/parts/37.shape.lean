/-! shapes that are asked for: part, shape, turned, product, hold, judge -/
theorem grownC {w : Wd} {g : Gd} {p u : Nat} {G : Nat → Gd} (H : Ig w g p u G) : ∃ w1, f_X7_grownCorners 0 w = some (7, w1) ∧ Ig w1 g p u G ∧ w1.1 0 5 = I 1 ∧ GrC w1 g ∧ (w1.1 7 5 = I 0 ∨ OrC w1 g) ∧ w1.2 = w.2 ∧ ∀ a b, 84 ≤ a → w1.1 a b = w.1 a b := by
  obtain ⟨hW, ⟨hv, hc, hm⟩, hrc, -⟩ := id H
  have e1 := hW.1
  unfold f_X7_grownCorners
  obtain h0 | ⟨h1, h2, h3⟩ := hrc
  · obtain ⟨w', b1, b2, b3, b4, b5⟩ := s_growOver hW hv hc
    have hg : GrC (upI w' 0 5 (I 1)) g := b3.of hv (fun b _ => upI_n (by omega)) (fun a b _ _ _ => upI_n (by omega))
    have h75 : (upI w' 0 5 (I 1)).1 7 5 = I 0 := by rw [upI_n (by omega), b4]; rfl
    refine ⟨upI w' 0 5 (I 1), ?_, ?_, upI_s _ _ _ _, hg, Or.inl h75, b2, fun a b h => by rw [upI_n (by omega), b5 _ _ (by omega) (by omega)]⟩
    · rw [jn_d, h0, if_pos z00, rfc e1.2.2.2.1 kd_7 (by decide), rfc e1.1 kd_1 (by decide), c1_r b1, lt_d]
      show rf 153 (w'.2 0 4) 1 _ = _
      rw [b2, rfc e1.2.2.2.1 kd_7 (by decide)]
      rfl
    · exact H.of b2 (Or.inr ⟨upI_s _ _ _ _, hg, Or.inl h75⟩) (fun a b h => by rw [upI_n (by omega), b5 _ _ (by omega) (by omega)])
  · refine ⟨w, ?_, H, h1, h2, h3, rfl, fun _ _ _ => rfl⟩
    rw [jn_d, h1, if_neg n10]
    show rf 153 (w.2 0 4) 1 _ = _
    rw [rfc e1.2.2.2.1 kd_7 (by decide)]
theorem growsM {w : Wd} {g : Gd} {p u : Nat} {G : Nat → Gd} (H : Ig w g p u G) : ∃ w2, f_X8_growsAll 139 w = some w2 ∧ Ig w2 g p u G ∧ MwC w2 g ∧ w2.2 = w.2 ∧ ∀ a b, a ≠ 144 → w2.1 a b = w.1 a b := by
  obtain ⟨w2, b1, b2, b3, b4⟩ := m_growsAll H.1 H.2.1.1 H.2.1.2.2
  exact ⟨w2, b1, H.of b2 (H.2.2.1.of H.2.1.1 (fun a b h => b4 _ _ (by omega))) (fun a b h => b4 _ _ (by omega)), b3, b2, b4⟩
/-- the shape of a corner, by both -/
theorem askC {w : Wd} {g : Gd} {p u : Nat} {G : Nat → Gd} (H : Ig w g p u G) {x y : Int} (c : 0 ≤ x ∧ x ≤ g 0 ∧ 0 ≤ y ∧ y ≤ g 1) :
    ∃ (a b t : Nat) (w1 w2 : Wd), x = a ∧ y = b ∧ (a : Int) ≤ g 0 ∧ (b : Int) ≤ g 1 ∧ a ≤ 5 ∧ b ≤ 5 ∧ f_X7_shapeAt 0 (I x) (I y) w = some (t, w1) ∧ kd t = 5 ∧ w1.2 t 0 = some (t + 1) ∧ ShC w1 t (Sg g a b) ∧ Gs (Sg g a b) (Wg g a b) ∧ (0 ≤ Wg g a b ∧ Wg g a b ≤ 75) ∧ w1.2 = w.2 ∧ Ig w1 g p u G ∧
      f_X8_growsAll 139 w1 = some w2 ∧ Ig w2 g p u G ∧ MwC w2 g ∧ w2.2 = w.2 ∧ (∀ c d, c ≠ 144 → w2.1 c d = w1.1 c d) ∧ t = 9 + 2 * (6 * a + b) ∧ ∀ c d, 84 ≤ c → w1.1 c d = w.1 c d := by
  obtain ⟨w1, b1, b2, b3, b4, b5, b6, b7⟩ := grownC H
  obtain ⟨w2, g1, g2, g3, g4, g5⟩ := growsM b2
  have hv := H.2.1.1
  have v1 := hv.1; have v2 := hv.2.1
  obtain ⟨a, rfl⟩ : ∃ n : Nat, x = n := ⟨x.toNat, by omega⟩
  obtain ⟨b, rfl⟩ : ∃ n : Nat, y = n := ⟨y.toNat, by omega⟩
  have kt := kd_shape (6 * a + b) (by omega)
  refine ⟨a, b, 9 + 2 * (6 * a + b), w1, w2, rfl, rfl, c.2.1, c.2.2.2, by omega, by omega, ?_, kt, b2.1.2.2.1 _ kt, b4.2.2 a b c.2.1 c.2.2.2, (Sg_ok hv (by omega) (by omega)).1, Wg_b hv (by omega) (by omega), b6, b2, g1, g2, g3, g4.trans b6, g5, rfl, b7⟩
  unfold f_X7_shapeAt
  rw [c2_r b1, ckc kd_7 (by decide), c1_r (s_at b2.1 (by omega) (by omega)), ckc kt (by decide)]
theorem m_partOf {w : Wd} {g : Gd} {a b : Nat} (hW : Wi w.2) (hv : GV g) (h : MwC w g) (ha : (a : Int) ≤ g 0) (hb : (b : Int) ≤ g 1) {i : Nat} (hi : i < 2147483648) : f_X8_partOf 139 (I a) (I b) (I i) w = some (I (Sg g a b i)) := by
  have v1 := hv.1; have v2 := hv.2.1
  unfold f_X8_partOf
  by_cases c : i < 80
  · rw [if_neg (by rw [i80, I_le (by omega) (by omega) (by omega) (by omega)]; omega), rfc hW.m9 kd_144 (by decide), c1_r (m_from _ _), I_add, ln_144, ix_d (by omega) (by omega) (by decide), lt_d, show (80 * (6 * (a : Int) + (b : Int)) + (i : Int)).toNat = 80 * (6 * a + b) + i by omega, h a b ha hb i c]
  · rw [if_pos (by rw [i80, I_le (by omega) (by omega) (by omega) (by omega)]; omega), (Sg_ok hv (x := a) (y := b) (by omega) (by omega)).1.z (by omega)]
    rfl
theorem m_sizeOf {w : Wd} {g : Gd} {a b : Nat} (hW : Wi w.2) (hv : GV g) (h : MwC w g) (ha : (a : Int) ≤ g 0) (hb : (b : Int) ≤ g 1) : f_X8_sizeOf 139 (I a) (I b) w = some (I (tsum (Sg g a b) 75)) := by
  have v1 := hv.1; have v2 := hv.2.1
  have hs := (Sg_ok hv (x := a) (y := b) (by omega) (by omega)).1
  unfold f_X8_sizeOf
  refine wl2_for 80 (fun i => I (tsum (Sg g a b) i)) (fun i => I i) (by decide) rfl rfl (fun i hi k => ?_) (fun k => ?_)
  · simp (disch := omega) only [↓j_m1, ↓j_m2, ↓j_m3, ↓j_m5, ↓j_m6, ↓j_m11, ↓j_m12, ↓j_m13, ↓j_m14, ↓j_m1000, j_0, j_1, j_2, j_3, j_4, j_5, j_6, j_7, j_8, j_9, j_10, j_12, j_14, j_20, j_25, j_26, j_28, j_30, j_36, j_48, j_49, j_50, j_53, j_57, j_59, j_60, j_63, j_75, j_80, j_99, j_100, j_196, j_255, j_1000, I_le]
    rw [if_neg (by omega), c1_r (m_partOf hW hv h ha hb (by omega)), lt_d, lt_d, I_add, I_add, nS]
    rfl
  · rw [if_pos (by decide), hs.2.2.2, ← hs.t 5]
theorem m_lengthOf {w : Wd} {g : Gd} {a b : Nat} (hW : Wi w.2) (hv : GV g) (h : MwC w g) (ha : (a : Int) ≤ g 0) (hb : (b : Int) ≤ g 1) : f_X8_lengthOf 139 (I a) (I b) w = some (I (len (Sg g a b))) := by
  have v1 := hv.1; have v2 := hv.2.1
  have hs := (Sg_ok hv (x := a) (y := b) (by omega) (by omega)).1
  have hwb := Wg_b hv (x := a) (y := b) (by omega) (by omega)
  unfold f_X8_lengthOf
  rw [← cnt_75 hs 5]
  refine wl2_for 80 (fun i => I (cnt (Sg g a b) i)) (fun i => I i) (by decide) rfl rfl (fun i hi k => ?_) (fun k => ?_)
  · have x1 := hs.1 i; have x2 := hs.b i
    simp (disch := omega) only [↓j_m1, ↓j_m2, ↓j_m3, ↓j_m5, ↓j_m6, ↓j_m11, ↓j_m12, ↓j_m13, ↓j_m14, ↓j_m1000, j_0, j_1, j_2, j_3, j_4, j_5, j_6, j_7, j_8, j_9, j_10, j_12, j_14, j_20, j_25, j_26, j_28, j_30, j_36, j_48, j_49, j_50, j_53, j_57, j_59, j_60, j_63, j_75, j_80, j_99, j_100, j_196, j_255, j_1000, I_le]
    rw [if_neg (by omega), c1_r (m_partOf hW hv h ha hb (by omega))]
    simp (disch := omega) only [lt_d, I_le, I_ite, I_add, nS]
    rw [cnt_s]
    congr 3
    (repeat' split) <;> omega
  · rw [if_pos (by decide)]
/-- how many parts are above j -/
def abv (s : Nat → Int) (j : Int) : Nat → Nat
  | 0 => 0
  | n + 1 => abv s j n + if j < s n then 1 else 0
theorem abv_s (s : Nat → Int) (j : Int) (i : Nat) : ((abv s j (i + 1) : Nat) : Int) = (abv s j i : Int) + (if j < s i then 1 else 0) := by
  show ((abv s j i + (if j < s i then 1 else 0) : Nat) : Int) = _
  (repeat' split) <;> omega
theorem abv_le (s : Nat → Int) (j : Int) : ∀ n, abv s j n ≤ n
  | 0 => Nat.le_refl _
  | n + 1 => by
    have := abv_le s j n
    show abv s j n + (if j < s n then 1 else 0) ≤ _
    split <;> omega
theorem abv_len {s : Nat → Int} {W : Int} (hs : Gs s W) {j : Int} (hj : 0 ≤ j) : ∀ d, abv s j (len s + d) = abv s j (len s)
  | 0 => rfl
  | d + 1 => by
    have h1 := abv_len hs hj d
    have h2 := len_z hs (k := len s + d) (by omega)
    show abv s j (len s + d) + (if j < s (len s + d) then 1 else 0) = _
    rw [if_neg (by omega)]; omega
theorem s_partsAbove {w : Wd} {t : Nat} {s : Nat → Int} {W j : Int} (hk : kd t = 5) (hr : w.2 t 0 = some (t + 1)) (h : ShC w t s) (hs : Gs s W) (hb : W ≤ 75) (hj : 0 ≤ j ∧ j < 2147483648) : f_X5_partsAbove t (I j) w = some (I (abv s j (len s))) := by
  have hl := len_b s
  unfold f_X5_partsAbove
  rw [h.1]
  refine wl2_for (len s) (fun i => I (abv s j i)) (fun i => I i) (fu_lt (by omega)) rfl rfl (fun i hi k => ?_) (fun k => ?_)
  · have x1 := hs.1 i; have x2 := hs.b i
    simp (disch := omega) only [↓j_m1, ↓j_m2, ↓j_m3, ↓j_m5, ↓j_m6, ↓j_m11, ↓j_m12, ↓j_m13, ↓j_m14, ↓j_m1000, j_0, j_1, j_2, j_3, j_4, j_5, j_6, j_7, j_8, j_9, j_10, j_12, j_14, j_20, j_25, j_26, j_28, j_30, j_36, j_48, j_49, j_50, j_53, j_57, j_59, j_60, j_63, j_75, j_80, j_99, j_100, j_196, j_255, j_1000, I_le]
    rw [if_neg (by omega), rfc hr (kdS hk).2.1 (by decide), (kdS hk).2.2, ix_d (by omega) (by omega) (by decide), Int.toNat_natCast, h.2.2 i hi]
    simp (disch := omega) only [lt_d, I_le, I_ite, I_add, nS]
    rw [abv_s]
    congr 3
    (repeat' split) <;> omega
  · simp (disch := omega) only [I_le]
    rw [if_pos (by omega)]
theorem m_turnedOf {w : Wd} {g : Gd} {a b : Nat} {j : Int} (hW : Wi w.2) (hv : GV g) (h : MwC w g) (ha : (a : Int) ≤ g 0) (hb : (b : Int) ≤ g 1) (hj : 0 ≤ j ∧ j < 2147483648) : f_X8_turnedOf 139 (I a) (I b) (I j) w = some (I (abv (Sg g a b) j (len (Sg g a b)))) := by
  have v1 := hv.1; have v2 := hv.2.1
  have hs := (Sg_ok hv (x := a) (y := b) (by omega) (by omega)).1
  have hwb := Wg_b hv (x := a) (y := b) (by omega) (by omega)
  have hl := len_b (Sg g a b)
  unfold f_X8_turnedOf
  refine wl2_for 80 (fun i => I (abv (Sg g a b) j i)) (fun i => I i) (by decide) rfl rfl (fun i hi k => ?_) (fun k => ?_)
  · have x1 := hs.1 i; have x2 := hs.b i
    simp (disch := omega) only [↓j_m1, ↓j_m2, ↓j_m3, ↓j_m5, ↓j_m6, ↓j_m11, ↓j_m12, ↓j_m13, ↓j_m14, ↓j_m1000, j_0, j_1, j_2, j_3, j_4, j_5, j_6, j_7, j_8, j_9, j_10, j_12, j_14, j_20, j_25, j_26, j_28, j_30, j_36, j_48, j_49, j_50, j_53, j_57, j_59, j_60, j_63, j_75, j_80, j_99, j_100, j_196, j_255, j_1000, I_le]
    rw [if_neg (by omega), c1_r (m_partOf hW hv h ha hb (by omega))]
    simp (disch := omega) only [lt_d, I_le, I_ite, I_add, nS]
    rw [abv_s]
    congr 3
    (repeat' split) <;> omega
  · rw [if_pos (by decide), ← abv_len hs hj.1 (80 - len (Sg g a b)), show len (Sg g a b) + (80 - len (Sg g a b)) = 80 by omega]
theorem op_part {x y z : Int} (hx : -2147483648 ≤ x ∧ x < 2147483648) (hy : -2147483648 ≤ y ∧ y < 2147483648) (hz : -2147483648 ≤ z ∧ z < 2147483648) : Op2 (f_X7_part 0 (I x) (I y) (I z)) (f_X8_part 139 (I x) (I y) (I z)) := by
  rintro w ⟨g, p, u, G, H⟩
  obtain ⟨hW, ⟨hv, hc, hm⟩, -⟩ := id H
  have e1 := hW.1.1
  unfold f_X7_part f_X8_part
  rw [rfc e1 kd_1 (by decide), c1_r (s_hasCorner hc hv hx hy), l0, l99]
  by_cases c : 0 ≤ x ∧ x ≤ g 0 ∧ 0 ≤ y ∧ y ≤ g 1
  · rw [if_pos c, if_neg n10, c1_r (s_isPlace hz)]
    by_cases d : 0 ≤ z ∧ z ≤ 99
    · obtain ⟨a, b, t, w1, w2, rfl, rfl, ha, hb, ha5, hb5, q1, kt, rt, hS, hs, hwb, q2, H1, q3, H2, q4, q5, -⟩ := askC H c
      obtain ⟨i, rfl⟩ : ∃ n : Nat, z = n := ⟨z.toNat, by omega⟩
      refine ⟨I (Sg g a b i), w1, w2, ?_, ?_, ⟨g, p, u, G, H2⟩⟩
      · rw [if_pos d, if_neg n10, c2_r q1, ckc kt (by decide), c1_r (s_partAt kt rt hS hs (by omega))]
      · rw [c1_r (m_isCorner H1.2.1.2.2 hv hx hy), if_pos c, if_neg n10, c1_r (m_chk hz (by omega) (by omega)), if_pos d, if_neg n10, c1_r q3, c1_r (m_partOf H2.1 hv q4 ha hb (by omega))]
    · rw [if_neg d, if_pos z00]
      refine ⟨_, _, w, rfl, ?_, ⟨g, p, u, G, H⟩⟩
      rw [c1_r (m_isCorner hm hv hx hy), if_pos c, if_neg n10, c1_r (m_chk hz (by omega) (by omega)), if_neg d, if_pos z00]
  · rw [if_neg c, if_pos z00]
    refine ⟨_, _, w, rfl, ?_, ⟨g, p, u, G, H⟩⟩
    rw [c1_r (m_isCorner hm hv hx hy), if_neg c, if_pos z00]
theorem op_turned {x y z : Int} (hx : -2147483648 ≤ x ∧ x < 2147483648) (hy : -2147483648 ≤ y ∧ y < 2147483648) (hz : -2147483648 ≤ z ∧ z < 2147483648) : Op2 (f_X7_turned 0 (I x) (I y) (I z)) (f_X8_turned 139 (I x) (I y) (I z)) := by
  rintro w ⟨g, p, u, G, H⟩
  obtain ⟨hW, ⟨hv, hc, hm⟩, -⟩ := id H
  have e1 := hW.1.1
  unfold f_X7_turned f_X8_turned
  rw [rfc e1 kd_1 (by decide), c1_r (s_hasCorner hc hv hx hy), l0, l99]
  by_cases c : 0 ≤ x ∧ x ≤ g 0 ∧ 0 ≤ y ∧ y ≤ g 1
  · rw [if_pos c, if_neg n10, c1_r (s_isPlace hz)]
    by_cases d : 0 ≤ z ∧ z ≤ 99
    · obtain ⟨a, b, t, w1, w2, rfl, rfl, ha, hb, ha5, hb5, q1, kt, rt, hS, hs, hwb, q2, H1, q3, H2, q4, q5, -⟩ := askC H c
      refine ⟨I (abv (Sg g a b) z (len (Sg g a b))), w1, w2, ?_, ?_, ⟨g, p, u, G, H2⟩⟩
      · rw [if_pos d, if_neg n10, c2_r q1, ckc kt (by decide), c1_r (s_partsAbove kt rt hS hs hwb.2 (by omega))]
      · rw [c1_r (m_isCorner H1.2.1.2.2 hv hx hy), if_pos c, if_neg n10, c1_r (m_chk hz (by omega) (by omega)), if_pos d, if_neg n10, c1_r q3, c1_r (m_turnedOf H2.1 hv q4 ha hb (by omega))]
    · rw [if_neg d, if_pos z00]
      refine ⟨_, _, w, rfl, ?_, ⟨g, p, u, G, H⟩⟩
      rw [c1_r (m_isCorner hm hv hx hy), if_pos c, if_neg n10, c1_r (m_chk hz (by omega) (by omega)), if_neg d, if_pos z00]
  · rw [if_neg c, if_pos z00]
    refine ⟨_, _, w, rfl, ?_, ⟨g, p, u, G, H⟩⟩
    rw [c1_r (m_isCorner hm hv hx hy), if_neg c, if_pos z00]
theorem op_shape {x y z : Int} (hx : -2147483648 ≤ x ∧ x < 2147483648) (hy : -2147483648 ≤ y ∧ y < 2147483648) (hz : -2147483648 ≤ z ∧ z < 2147483648) : Op2 (f_X7_shape 0 (I x) (I y) (I z)) (f_X8_shape 139 (I x) (I y) (I z)) := by
  rintro w ⟨g, p, u, G, H⟩
  obtain ⟨hW, ⟨hv, hc, hm⟩, -⟩ := id H
  have e1 := hW.1.1
  have n1 : ((I z) < 0) = (z < 0) := by rw [i0, I_lt (by omega) (by omega) (by omega) (by omega)]
  have n2 : ((I z) ≤ (1 : Int32)) = (z ≤ 1) := by rw [i1, I_le (by omega) (by omega) (by omega) (by omega)]
  have n3 : ((I z) = 0) = (z = 0) := by rw [i0, I_eq (by omega) (by omega) (by omega) (by omega)]
  unfold f_X7_shape f_X8_shape
  rw [rfc e1 kd_1 (by decide), c1_r (s_hasCorner hc hv hx hy), l0, l1]
  by_cases c : 0 ≤ x ∧ x ≤ g 0 ∧ 0 ≤ y ∧ y ≤ g 1
  · rw [if_pos c, if_neg n10]
    simp only [n1, n2, n3]
    by_cases d : 0 ≤ z ∧ z ≤ 1
    · obtain ⟨a, b, t, w1, w2, rfl, rfl, ha, hb, ha5, hb5, q1, kt, rt, hS, hs, hwb, q2, H1, q3, H2, q4, q5, -⟩ := askC H c
      by_cases e : z = 0
      · refine ⟨I (tsum (Sg g a b) 75), w1, w2, ?_, ?_, ⟨g, p, u, G, H2⟩⟩
        · rw [if_neg (by omega), if_pos d.2, c2_r q1, ckc kt (by decide), lt_d, if_pos e, hS.2.1]
        · rw [c1_r (m_isCorner H1.2.1.2.2 hv hx hy), if_pos c, if_neg n10, c1_r (m_chk hz (by omega) (by omega)), if_pos d, if_neg n10, c1_r q3, if_pos e, c1_r (m_sizeOf H2.1 hv q4 ha hb)]
      · refine ⟨I (len (Sg g a b)), w1, w2, ?_, ?_, ⟨g, p, u, G, H2⟩⟩
        · rw [if_neg (by omega), if_pos d.2, c2_r q1, ckc kt (by decide), lt_d, if_neg e, hS.1]
        · rw [c1_r (m_isCorner H1.2.1.2.2 hv hx hy), if_pos c, if_neg n10, c1_r (m_chk hz (by omega) (by omega)), if_pos d, if_neg n10, c1_r q3, if_neg e, c1_r (m_lengthOf H2.1 hv q4 ha hb)]
    · refine ⟨(-1 : Int32), w, w, ?_, ?_, ⟨g, p, u, G, H⟩⟩
      · by_cases d0 : z < 0
        · rw [if_pos d0]
        · rw [if_neg d0, if_neg (by omega)]
      · rw [c1_r (m_isCorner hm hv hx hy), if_pos c, if_neg n10, c1_r (m_chk hz (by omega) (by omega)), if_neg d, if_pos z00]
  · rw [if_neg c, if_pos z00]
    refine ⟨_, _, w, rfl, ?_, ⟨g, p, u, G, H⟩⟩
    rw [c1_r (m_isCorner hm hv hx hy), if_neg c, if_pos z00]

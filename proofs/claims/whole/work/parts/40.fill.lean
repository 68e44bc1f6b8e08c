/-! filling, fits -/
/-- the first place below N at which P holds -/
def FS (P : Nat → Prop) (N : Nat) (v : Int32) : Prop := (∃ i : Nat, i < N ∧ P i ∧ (∀ j, j < i → ¬ P j) ∧ v = I i) ∨ ((∀ j, j < N → ¬ P j) ∧ v = I (-2))
theorem FS_u {P : Nat → Prop} {N : Nat} {v v' : Int32} (h : FS P N v) (h' : FS P N v') : v = v' := by
  obtain ⟨i, h1, h2, h3, h4⟩ | ⟨h1, h2⟩ := h <;> obtain ⟨j, g1, g2, g3, g4⟩ | ⟨g1, g2⟩ := h'
  · rw [h4, g4]
    obtain c | c | c := Nat.lt_trichotomy i j
    · exact absurd h2 (g3 i c)
    · rw [c]
    · exact absurd g2 (h3 j c)
  · exact absurd h2 (g1 i h1)
  · exact absurd g2 (h1 j g1)
  · rw [h2, g2]
theorem op_filling0 {i j : Int} (hi : -2147483648 ≤ i ∧ i < 2147483648) (hj : -2147483648 ≤ j ∧ j < 2147483648) (d1 : 0 ≤ i ∧ i ≤ 99) (d2 : 0 ≤ j ∧ j ≤ 99) : Op2 (f_X7_filling 0 (I 0) (I i) (I j)) (f_X8_filling 139 (I 0) (I i) (I j)) := by
  rintro w ⟨g, p, u, G, H⟩
  obtain ⟨hW, ⟨hv, hc, hm⟩, -⟩ := id H
  have e1 := hW.1.1
  have v1 := hv.1; have v2 := hv.2.1
  obtain ⟨C, hC⟩ : ∃ C : Nat, g 0 = C := ⟨(g 0).toNat, by omega⟩
  obtain ⟨R, hR⟩ : ∃ R : Nat, g 1 = R := ⟨(g 1).toNat, by omega⟩
  obtain ⟨i, rfl⟩ : ∃ n : Nat, i = n := ⟨i.toNat, by omega⟩
  have key1 : ∃ v w1, f_X7_filling 0 (I 0) (I i) (I j) w = some (v, w1) ∧ FS (fun k => j < Sg g C k i) (R + 1) v ∧ Ig w1 g p u G := by
    unfold f_X7_filling
    rw [if_neg (by decide), if_neg (by decide), c1_r (s_isPlace hi), if_pos d1, if_neg n10, c1_r (s_isPlace hj), if_pos d2, if_neg n10, jn_d, if_pos z00, rfc e1 kd_1 (by decide), lt_d, hc.2.1, hR]
    refine wl2_inv (Q := fun r => ∃ v w1, r = some (v, w1) ∧ FS (fun k => j < Sg g C k i) (R + 1) v ∧ Ig w1 g p u G) (R + 1) (fun m x v => x = I m ∧ Ig v g p u G ∧ ∀ k, k < m → ¬ j < Sg g C k i) (fu_lt (by omega)) (by exact ⟨rfl, H, fun q hq => absurd hq (by omega)⟩) ?_ ?_
    · rintro m hm x v ⟨rfl, Hv, hd⟩ k
      obtain ⟨a, b, t, w1, w2, ha', hb', ha, hb, ha5, hb5, q1, kt, rt, hS, hs, hwb, q2, H1, -⟩ := askC Hv (x := g 0) (y := m) (by omega)
      obtain rfl : C = a := by omega
      obtain rfl : m = b := by omega
      have x1 := hs.1 i; have x2 := hs.b i
      rw [if_neg (by rw [I_lt (by omega) (by omega) (by omega) (by omega)]; omega), jn_d, if_pos z00, rfc Hv.1.1.1 kd_1 (by decide), Hv.2.1.2.1.1, c2_r q1, ckc kt (by decide)]
      simp (disch := omega) only [c1_r (s_partAt kt rt hS hs (show i < 2147483648 by omega)), lt_d, i1, I_add, nS, I_le]
      by_cases e : Sg g C m i ≤ j
      · left
        refine ⟨_, w1, ⟨rfl, H1, fun q hq => ?_⟩, by rw [if_pos e]⟩
        by_cases e2 : q = m
        · subst e2; omega
        · exact hd q (by omega)
      · right
        rw [if_neg e]
        exact ⟨_, w1, rfl, Or.inl ⟨m, hm, by omega, hd, rfl⟩, H1⟩
    · rintro x v ⟨rfl, Hv, hd⟩ k
      rw [if_pos (by rw [I_lt (by omega) (by omega) (by omega) (by omega)]; omega)]
      exact ⟨_, v, rfl, Or.inr ⟨hd, rfl⟩, Hv⟩
  obtain ⟨v, w1, f1, f2, H1⟩ := key1
  obtain ⟨w2, g1, H2, g3, g4, g5⟩ := growsM H1
  have key2 : ∃ v', f_X8_filling 139 (I 0) (I i) (I j) w1 = some (v', w2) ∧ FS (fun k => j < Sg g C k i) (R + 1) v' := by
    unfold f_X8_filling
    rw [l0, l1, l99, c1_r (m_chk (by omega) (by omega) (by omega)), if_pos (show (0 : Int) ≤ 0 ∧ (0 : Int) ≤ 1 by omega), if_neg n10, c1_r (m_chk hi (by omega) (by omega)), if_pos d1, if_neg n10, c1_r (m_chk hj (by omega) (by omega)), if_pos d2, if_neg n10, c1_r g1]
    refine wl1_inv (Q := fun r => ∃ v', r = some (v', w2) ∧ FS (fun k => j < Sg g C k i) (R + 1) v') (R + 1) (fun m x => x = I m ∧ ∀ k, k < m → ¬ j < Sg g C k i) (fu_lt (by omega)) ⟨rfl, fun q hq => absurd hq (by omega)⟩ ?_ ?_
    · rintro m hm x ⟨rfl, hd⟩ k
      have hs := (Sg_ok hv (x := C) (y := m) (by omega) (by omega)).1
      have hwb := Wg_b hv (x := C) (y := m) (by omega) (by omega)
      have x1 := hs.1 i; have x2 := hs.b i
      rw [if_pos z00, H2.2.1.2.2.2.1, hR, lt_d, if_neg (by rw [I_lt (by omega) (by omega) (by omega) (by omega)]; omega), jn_d, if_pos z00, H2.2.1.2.2.1, hC, c1_r (m_partOf H2.1 hv g3 (by omega) (by omega) (by omega))]
      simp (disch := omega) only [lt_d, i1, I_add, nS, I_le]
      by_cases e : Sg g C m i ≤ j
      · left
        refine ⟨_, ⟨rfl, fun q hq => ?_⟩, by rw [if_pos e]⟩
        by_cases e2 : q = m
        · subst e2; omega
        · exact hd q (by omega)
      · right
        rw [if_neg e]
        exact ⟨_, rfl, Or.inl ⟨m, hm, by omega, hd, rfl⟩⟩
    · rintro x ⟨rfl, hd⟩ k
      rw [if_pos z00, H2.2.1.2.2.2.1, hR, lt_d, if_pos (by rw [I_lt (by omega) (by omega) (by omega) (by omega)]; omega)]
      exact ⟨_, rfl, Or.inr ⟨hd, rfl⟩⟩
  obtain ⟨v', f3, f4⟩ := key2
  obtain rfl := FS_u f2 f4
  exact ⟨v, w1, w2, f1, f3, g, p, u, G, H2⟩
theorem op_filling1 {i j : Int} (hi : -2147483648 ≤ i ∧ i < 2147483648) (hj : -2147483648 ≤ j ∧ j < 2147483648) (d1 : 0 ≤ i ∧ i ≤ 99) (d2 : 0 ≤ j ∧ j ≤ 99) : Op2 (f_X7_filling 0 (I 1) (I i) (I j)) (f_X8_filling 139 (I 1) (I i) (I j)) := by
  rintro w ⟨g, p, u, G, H⟩
  obtain ⟨hW, ⟨hv, hc, hm⟩, -⟩ := id H
  have e1 := hW.1.1
  have v1 := hv.1; have v2 := hv.2.1
  obtain ⟨C, hC⟩ : ∃ C : Nat, g 0 = C := ⟨(g 0).toNat, by omega⟩
  obtain ⟨R, hR⟩ : ∃ R : Nat, g 1 = R := ⟨(g 1).toNat, by omega⟩
  obtain ⟨i, rfl⟩ : ∃ n : Nat, i = n := ⟨i.toNat, by omega⟩
  have key1 : ∃ v w1, f_X7_filling 0 (I 1) (I i) (I j) w = some (v, w1) ∧ FS (fun k => j < Sg g k R i) (C + 1) v ∧ Ig w1 g p u G := by
    unfold f_X7_filling
    rw [if_neg (by decide), if_neg (by decide), c1_r (s_isPlace hi), if_pos d1, if_neg n10, c1_r (s_isPlace hj), if_pos d2, if_neg n10, jn_d, if_neg n10, rfc e1 kd_1 (by decide), lt_d, hc.1, hC]
    refine wl2_inv (Q := fun r => ∃ v w1, r = some (v, w1) ∧ FS (fun k => j < Sg g k R i) (C + 1) v ∧ Ig w1 g p u G) (C + 1) (fun m x v => x = I m ∧ Ig v g p u G ∧ ∀ k, k < m → ¬ j < Sg g k R i) (fu_lt (by omega)) (by exact ⟨rfl, H, fun q hq => absurd hq (by omega)⟩) ?_ ?_
    · rintro m hm x v ⟨rfl, Hv, hd⟩ k
      obtain ⟨a, b, t, w1, w2, ha', hb', ha, hb, ha5, hb5, q1, kt, rt, hS, hs, hwb, q2, H1, -⟩ := askC Hv (x := m) (y := g 1) (by omega)
      obtain rfl : m = a := by omega
      obtain rfl : R = b := by omega
      have x1 := hs.1 i; have x2 := hs.b i
      rw [if_neg (by rw [I_lt (by omega) (by omega) (by omega) (by omega)]; omega), jn_d, if_neg n10, rfc Hv.1.1.1 kd_1 (by decide), Hv.2.1.2.1.2.1, c2_r q1, ckc kt (by decide)]
      simp (disch := omega) only [c1_r (s_partAt kt rt hS hs (show i < 2147483648 by omega)), lt_d, i1, I_add, nS, I_le]
      by_cases e : Sg g m R i ≤ j
      · left
        refine ⟨_, w1, ⟨rfl, H1, fun q hq => ?_⟩, by rw [if_pos e]⟩
        by_cases e2 : q = m
        · subst e2; omega
        · exact hd q (by omega)
      · right
        rw [if_neg e]
        exact ⟨_, w1, rfl, Or.inl ⟨m, hm, by omega, hd, rfl⟩, H1⟩
    · rintro x v ⟨rfl, Hv, hd⟩ k
      rw [if_pos (by rw [I_lt (by omega) (by omega) (by omega) (by omega)]; omega)]
      exact ⟨_, v, rfl, Or.inr ⟨hd, rfl⟩, Hv⟩
  obtain ⟨v, w1, f1, f2, H1⟩ := key1
  obtain ⟨w2, g1, H2, g3, g4, g5⟩ := growsM H1
  have key2 : ∃ v', f_X8_filling 139 (I 1) (I i) (I j) w1 = some (v', w2) ∧ FS (fun k => j < Sg g k R i) (C + 1) v' := by
    unfold f_X8_filling
    rw [l0, l1, l99, c1_r (m_chk (by omega) (by omega) (by omega)), if_pos (show (0 : Int) ≤ 1 ∧ (1 : Int) ≤ 1 by omega), if_neg n10, c1_r (m_chk hi (by omega) (by omega)), if_pos d1, if_neg n10, c1_r (m_chk hj (by omega) (by omega)), if_pos d2, if_neg n10, c1_r g1]
    refine wl1_inv (Q := fun r => ∃ v', r = some (v', w2) ∧ FS (fun k => j < Sg g k R i) (C + 1) v') (C + 1) (fun m x => x = I m ∧ ∀ k, k < m → ¬ j < Sg g k R i) (fu_lt (by omega)) ⟨rfl, fun q hq => absurd hq (by omega)⟩ ?_ ?_
    · rintro m hm x ⟨rfl, hd⟩ k
      have hs := (Sg_ok hv (x := m) (y := R) (by omega) (by omega)).1
      have hwb := Wg_b hv (x := m) (y := R) (by omega) (by omega)
      have x1 := hs.1 i; have x2 := hs.b i
      rw [if_neg n10, H2.2.1.2.2.1, hC, lt_d, if_neg (by rw [I_lt (by omega) (by omega) (by omega) (by omega)]; omega), jn_d, if_neg n10, H2.2.1.2.2.2.1, hR, c1_r (m_partOf H2.1 hv g3 (by omega) (by omega) (by omega))]
      simp (disch := omega) only [lt_d, i1, I_add, nS, I_le]
      by_cases e : Sg g m R i ≤ j
      · left
        refine ⟨_, ⟨rfl, fun q hq => ?_⟩, by rw [if_pos e]⟩
        by_cases e2 : q = m
        · subst e2; omega
        · exact hd q (by omega)
      · right
        rw [if_neg e]
        exact ⟨_, rfl, Or.inl ⟨m, hm, by omega, hd, rfl⟩⟩
    · rintro x ⟨rfl, hd⟩ k
      rw [if_neg n10, H2.2.1.2.2.1, hC, lt_d, if_pos (by rw [I_lt (by omega) (by omega) (by omega) (by omega)]; omega)]
      exact ⟨_, rfl, Or.inr ⟨hd, rfl⟩⟩
  obtain ⟨v', f3, f4⟩ := key2
  obtain rfl := FS_u f2 f4
  exact ⟨v, w1, w2, f1, f3, g, p, u, G, H2⟩
theorem op_filling {z i j : Int} (hz : -2147483648 ≤ z ∧ z < 2147483648) (hi : -2147483648 ≤ i ∧ i < 2147483648) (hj : -2147483648 ≤ j ∧ j < 2147483648) : Op2 (f_X7_filling 0 (I z) (I i) (I j)) (f_X8_filling 139 (I z) (I i) (I j)) := by
  by_cases d0 : 0 ≤ z ∧ z ≤ 1
  · by_cases d1 : 0 ≤ i ∧ i ≤ 99
    · by_cases d2 : 0 ≤ j ∧ j ≤ 99
      · by_cases e : z = 0
        · subst e; exact op_filling0 hi hj d1 d2
        · obtain rfl : z = 1 := by omega
          exact op_filling1 hi hj d1 d2
      · intro w hw
        refine ⟨(-1 : Int32), w, w, ?_, ?_, hw⟩
        · unfold f_X7_filling
          rw [if_neg (by rw [i0, I_lt (by omega) (by omega) (by omega) (by omega)]; omega), if_neg (by rw [i1, I_lt (by omega) (by omega) (by omega) (by omega)]; omega), c1_r (s_isPlace hi), if_pos d1, if_neg n10, c1_r (s_isPlace hj), if_neg d2, if_pos z00]
        · unfold f_X8_filling
          rw [l0, l1, l99, c1_r (m_chk hz (by omega) (by omega)), if_pos d0, if_neg n10, c1_r (m_chk hi (by omega) (by omega)), if_pos d1, if_neg n10, c1_r (m_chk hj (by omega) (by omega)), if_neg d2, if_pos z00]
    · intro w hw
      refine ⟨(-1 : Int32), w, w, ?_, ?_, hw⟩
      · unfold f_X7_filling
        rw [if_neg (by rw [i0, I_lt (by omega) (by omega) (by omega) (by omega)]; omega), if_neg (by rw [i1, I_lt (by omega) (by omega) (by omega) (by omega)]; omega), c1_r (s_isPlace hi), if_neg d1, if_pos z00]
      · unfold f_X8_filling
        rw [l0, l1, l99, c1_r (m_chk hz (by omega) (by omega)), if_pos d0, if_neg n10, c1_r (m_chk hi (by omega) (by omega)), if_neg d1, if_pos z00]
  · intro w hw
    refine ⟨(-1 : Int32), w, w, ?_, ?_, hw⟩
    · unfold f_X7_filling
      by_cases e : z < 0
      · rw [if_pos (by rw [i0, I_lt (by omega) (by omega) (by omega) (by omega)]; omega)]
      · rw [if_neg (by rw [i0, I_lt (by omega) (by omega) (by omega) (by omega)]; omega), if_pos (by rw [i1, I_lt (by omega) (by omega) (by omega) (by omega)]; omega)]
    · unfold f_X8_filling
      rw [l0, l1, c1_r (m_chk hz (by omega) (by omega)), if_neg d0, if_pos z00]

/-! union, by both -/
theorem abv_cab {s : Nat → Int} {c : Nat} (h : RP s c) (i : Nat) : ∀ n, n ≤ 5 → abv s (i : Int) n = cab c i n
  | 0, _ => rfl
  | n + 1, hn => by
    have ih := abv_cab h i n (by omega)
    have e := h n (by omega)
    show abv s (i : Int) n + (if (i : Int) < s n then 1 else 0) = cab c i n + cond (Nat.ble (i + 1) (dg c n)) 1 0
    rw [ih, ble_c, e]
    by_cases q : i + 1 ≤ dg c n
    · rw [if_pos q, if_pos (by omega)]
    · rw [if_neg q, if_neg (by omega)]
theorem kd_y {κ : Type} {y : Int} (hy : -2147483648 ≤ y ∧ y < 2147483648) (F b : Option κ) : jn F (fun j => if I y = (1 : Int32) then j else if I y = (3 : Int32) then j else b) = if y = 1 ∨ y = 3 then F else b := by
  rw [jn_d]
  by_cases c1 : y = 1
  · rw [if_pos (show I y = (1 : Int32) by rw [c1]; rfl), if_pos (Or.inl c1)]
  · rw [if_neg (show ¬ (I y = (1 : Int32)) by rw [i1, I_eq (by omega) (by omega) (by omega) (by omega)]; exact c1)]
    by_cases c3 : y = 3
    · rw [if_pos (show I y = (3 : Int32) by rw [c3]; rfl), if_pos (Or.inr c3)]
    · rw [if_neg (show ¬ (I y = (3 : Int32)) by rw [i3, I_eq (by omega) (by omega) (by omega) (by omega)]; exact c3), if_neg (by omega)]
theorem op_union {z y : Int} (hz : -2147483648 ≤ z ∧ z < 2147483648) (hy : -2147483648 ≤ y ∧ y < 2147483648) : Op2 (f_X7_union 0 (I z) (I y)) (f_X8_union 139 (I z) (I y)) := by
  rintro w ⟨g, p, u, G, H⟩
  have hv := H.2.1.1
  have v1 := hv.1; have v2 := hv.2.1; have v3 := hv.2.2.1
  by_cases c : 1 ≤ z ∧ z ≤ 5
  case neg =>
    refine ⟨(-1 : Int32), w, w, ?_, ?_, g, p, u, G, H⟩
    · unfold f_X7_union
      by_cases e : z < 1
      · rw [if_pos (show I z < (1 : Int32) by rw [i1, I_lt (by omega) (by omega) (by omega) (by omega)]; omega)]
      · rw [if_neg (show ¬ (I z < (1 : Int32)) by rw [i1, I_lt (by omega) (by omega) (by omega) (by omega)]; omega), if_pos (show (5 : Int32) < I z by rw [i5, I_lt (by omega) (by omega) (by omega) (by omega)]; omega)]
    · unfold f_X8_union
      rw [l1, l5, c1_r (m_chk hz (by omega) (by omega)), if_neg c, if_pos z00]
  have s7 : ∀ {κ : Type} (A B K : Option κ), (if I z < (1 : Int32) then A else if (5 : Int32) < I z then B else K) = K := fun A B K => by
    rw [if_neg (show ¬ (I z < (1 : Int32)) by rw [i1, I_lt (by omega) (by omega) (by omega) (by omega)]; omega), if_neg (show ¬ ((5 : Int32) < I z) by rw [i5, I_lt (by omega) (by omega) (by omega) (by omega)]; omega)]
  by_cases d : y = 1 ∨ y = 3
  case neg =>
    refine ⟨(-1 : Int32), w, w, ?_, ?_, g, p, u, G, H⟩
    · unfold f_X7_union
      rw [s7, kd_y hy, if_neg d]
    · unfold f_X8_union
      rw [l1, l5, c1_r (m_chk hz (by omega) (by omega)), if_pos c, if_neg n10, kd_y hy, if_neg d]
  obtain ⟨C, hC⟩ : ∃ n : Nat, g 0 = n := ⟨(g 0).toNat, by omega⟩
  obtain ⟨R, hR⟩ : ∃ n : Nat, g 1 = n := ⟨(g 1).toNat, by omega⟩
  obtain ⟨r, hr⟩ : ∃ n : Nat, g 2 = n := ⟨(g 2).toNat, by omega⟩
  obtain ⟨k, rfl⟩ : ∃ n : Nat, z = n := ⟨z.toNat, by omega⟩
  obtain ⟨kd, rfl⟩ : ∃ n : Nat, y = n := ⟨y.toNat, by omega⟩
  have hkd : kd = 1 ∨ kd = 3 := by omega
  obtain ⟨q1, q2⟩ | ⟨q1, q2⟩ := s_isMarked H.1 hv H.2.1.2.1 hC hR
  case inr =>
    refine ⟨(-5 : Int32), w, w, ?_, ?_, g, p, u, G, H⟩
    · unfold f_X7_union
      rw [s7, kd_y hy, if_pos d, rfc H.1.1.1 kd_1 (by decide), c1_r q1, if_pos z00]
    · unfold f_X8_union
      rw [l1, l5, c1_r (m_chk hz (by omega) (by omega)), if_pos c, if_neg n10, kd_y hy, if_pos d]
      obtain ⟨-, e⟩ | ⟨e, -⟩ := m_isMarked H.1 hv H.2.1.2.2 hC hR
      · exact absurd e q2
      · rw [c1_r e, if_pos z00]
  obtain ⟨a, b, t, w1, w2, ea, eb, -, -, -, -, f1, f2, f3, f4, f5, f6, f7, f8, -⟩ := askC H (x := g 0) (y := g 1) ⟨by omega, by omega, by omega, by omega⟩
  obtain rfl : a = C := by omega
  obtain rfl : b = R := by omega
  obtain ⟨l, m1, m2, m3⟩ := mark_w hv hC hR q2
  obtain ⟨n1, n2, n3⟩ := marked_ok (C := a) (R := b) (by omega) (by omega) m1.1 m2 m3
  have rp := fin5_ok hv (by omega) (by omega) hr m1
  rw [n1 r (by omega)] at rp
  have hU : UBd kd l a (fin5 0 b l) := by
    obtain e | e := hkd
    · rw [e]; exact n2
    · rw [e]; exact n3
  obtain ⟨w3, u1, u2, u3⟩ := m_union (v := w1) (k := k) f8.1 hv f8.2.1.2.2 hC hR (by omega) hkd q2 m1 hU
  refine ⟨_, w1, w3, ?_, u1, g, p, u, G, f8.of u2 (f8.2.2.1.of f8.2.1.1 (fun a b h => u3 _ _ (by omega) (by omega))) (fun a b h => u3 _ _ (by omega) (by omega))⟩
  generalize fin5 0 b l = c0 at *
  have wl := len_W f5
  have wm := Wg_m hv m1 (y := b) (Nat.le_refl _) a (Nat.le_refl _)
  unfold f_X7_union
  rw [s7, kd_y hy, if_pos d, rfc H.1.1.1 kd_1 (by decide), c1_r q1, if_neg n10, rfc H.1.1.1 kd_1 (by decide), rfc H.1.1.1 kd_1 (by decide), H.2.1.2.1.1, H.2.1.2.1.2.1, c2_r f1, ckc f2 (by decide)]
  refine wl2_inv (Q := fun r => r = some (I ((PP kd c0 k : Nat) : Int), w1)) k (fun i x y => x = I ((PP kd c0 i : Nat) : Int) ∧ y = I (i : Int)) (fu_lt (by omega)) ?_ ?_ ?_
  · refine ⟨?_, rfl⟩
    obtain rfl | rfl := hkd
    · rfl
    · rfl
  · rintro i hi x y ⟨rfl, rfl⟩ k1
    left
    rw [if_neg (show ¬ (I (k : Int) ≤ I (i : Int)) by rw [I_le (by omega) (by omega) (by omega) (by omega)]; omega), jn_d]
    obtain rfl | rfl := hkd
    · rw [if_pos (show I ((1 : Nat) : Int) = (1 : Int32) from rfl), c1_r (s_partAt f2 f3 f4 f5 (by omega)), rp i (by omega)]
      exact ⟨_, _, ⟨rfl, rfl⟩, by show k1 (I ((PP 1 c0 i : Nat) : Int) + I ((dg c0 i : Nat) : Int)) (I (i : Int) + (1 : Int32)) = _; rw [i1, I_add, I_add]; rfl⟩
    · have al := abv_len f5 (j := (i : Int)) (by omega) (5 - len (Sg g a b))
      rw [show len (Sg g a b) + (5 - len (Sg g a b)) = 5 by omega, abv_cab rp i 5 (Nat.le_refl _)] at al
      rw [if_neg (show ¬ (I ((3 : Nat) : Int) = (1 : Int32)) by decide), c1_r (s_partsAbove f2 f3 f4 f5 f6.2 (show 0 ≤ (i : Int) ∧ (i : Int) < 2147483648 by omega)), ← al]
      exact ⟨_, _, ⟨rfl, rfl⟩, by show k1 (I ((PP 3 c0 i : Nat) : Int) + I ((cab c0 i 5 : Nat) : Int)) (I (i : Int) + (1 : Int32)) = _; rw [i1, I_add, I_add]; rfl⟩
  · rintro x y ⟨rfl, rfl⟩ k1
    rw [if_pos (show I (k : Int) ≤ I (k : Int) by rw [I_le (by omega) (by omega) (by omega) (by omega)]; omega)]

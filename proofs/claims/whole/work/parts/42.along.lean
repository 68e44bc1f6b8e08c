/-! along -/
def pcn (a : Nat) : Nat → Nat
  | 0 => 0
  | k + 1 => pcn a k + a / 2 ^ k % 2
theorem bit_a : ∀ a : Nat, a < 1024 → f_J6_bitCount_0f7a4 (I (a : Int)) = some (I ((pcn a 10 : Nat) : Int)) := by decide +kernel
theorem bit_b : ∀ a : Nat, a < 1024 → ∀ k : Nat, k < 11 → f_J6_bitCount_0f7a4 (I (a : Int) &&& (((1 : Int32) <<< (I (k : Int) &&& 31)) - (1 : Int32))) = some (I ((pcn a k : Nat) : Int)) := by decide +kernel
theorem bit_c : ∀ a : Nat, a < 1024 → ∀ s : Nat, s < 10 → (I (a : Int) >>> (I (s : Int) &&& 31)) &&& (1 : Int32) = I ((a / 2 ^ s % 2 : Nat) : Int) := by decide +kernel
theorem bit_d : ∀ n : Nat, n < 11 → ((1 : Int32) <<< (I (n : Int) &&& 31)) - (1 : Int32) = I (((2 ^ n : Nat) : Int) - 1) := by decide +kernel
theorem bit_e : ∀ n : Nat, n < 11 → ((I (n : Int) &&& 31 : Int32).toBitVec.smod 32).toNat = n := by decide +kernel
theorem bit_f : ∀ n : Nat, n < 11 → 2 ^ n ≤ 1024 := by decide +kernel
theorem shr_d {a n : Nat} (ha : a < 2147483648) (hn : n < 11) : (I (a : Int) >>> (I (n : Int) &&& 31)).toInt = ((a / 2 ^ n : Nat) : Int) := by
  show ((I (a : Int)).toBitVec.sshiftRight ((I (n : Int) &&& 31 : Int32).toBitVec.smod 32).toNat).toInt = _
  rw [BitVec.toInt_sshiftRight, bit_e n hn]
  show (I (a : Int)).toInt >>> n = _
  rw [I_toInt (by omega) (by omega), Int.shiftRight_eq_div_pow]
  exact (Int.natCast_ediv a (2 ^ n)).symm
theorem shr_z {a n : Nat} (ha : a < 2147483648) (hn : n < 11) : (I (a : Int) >>> (I (n : Int) &&& 31)) = 0 ↔ a < 2 ^ n := by
  have h1 := shr_d ha hn
  have h2 : a / 2 ^ n = 0 ↔ a < 2 ^ n := Nat.div_eq_zero_iff_lt (Nat.two_pow_pos n)
  constructor
  · intro h
    rw [h] at h1
    have : (0 : Int32).toInt = 0 := rfl
    exact h2.1 (by omega)
  · intro h
    have := h2.2 h
    rw [← Int32.toInt_inj, h1, this]
    rfl
theorem pcn_1 (a k : Nat) : pcn a k ≤ pcn a (k + 1) ∧ pcn a (k + 1) ≤ pcn a k + 1 := by
  show pcn a k ≤ pcn a k + a / 2 ^ k % 2 ∧ pcn a k + a / 2 ^ k % 2 ≤ pcn a k + 1
  omega
theorem pcn_m (a k : Nat) : ∀ d, pcn a k ≤ pcn a (k + d) ∧ pcn a (k + d) ≤ pcn a k + d
  | 0 => ⟨Nat.le_refl _, Nat.le_refl _⟩
  | d + 1 => by
    have h1 := pcn_m a k d
    have h2 := pcn_1 a (k + d)
    show pcn a k ≤ pcn a (k + d + 1) ∧ pcn a (k + d + 1) ≤ pcn a k + (d + 1)
    omega
theorem pcn_le (a k : Nat) : pcn a k ≤ k := by
  have := (pcn_m a 0 k).2
  rw [Nat.zero_add] at this
  have h0 : pcn a 0 = 0 := rfl
  omega
theorem pcn_z {a n : Nat} (h : a < 2 ^ n) : ∀ d, pcn a (n + d) = pcn a n
  | 0 => rfl
  | d + 1 => by
    have h1 := pcn_z h d
    have h2 : a / 2 ^ (n + d) = 0 := Nat.div_eq_of_lt (Nat.lt_of_lt_of_le h (Nat.pow_le_pow_right (by decide) (by omega)))
    show pcn a (n + d) + a / 2 ^ (n + d) % 2 = _
    rw [h1, h2]
    rfl
theorem m_walk {w : Wd} {g : Gd} {p u : Nat} {G : Nat → Gd} (H : Ig w g p u G) {C R a k : Nat} (hC : g 0 = C) (hR : g 1 = R) (ha : a < 2 ^ (C + R)) (hk : k ≤ C + R) {w2 : Wd} (hg : f_X8_growsAll 139 w = some w2) (hW2 : Wi w2.2) (hm2 : MwC w2 g) :
    (pcn a (C + R) = R → f_X8_along 139 (I a) (I k) w = some (I (tsum (Sg g (k - pcn a k) (R - pcn a k)) 75), w2)) ∧ (pcn a (C + R) ≠ R → f_X8_along 139 (I a) (I k) w = some ((-1 : Int32), w)) := by
  obtain ⟨hW, ⟨hv, hc, hm⟩, -⟩ := id H
  have v1 := hv.1; have v2 := hv.2.1
  have h24 := bit_f (C + R) (by omega)
  have h25 := Nat.two_pow_pos (C + R)
  have hn : I (C : Int) + I (R : Int) = I ((C + R : Nat) : Int) := I_add _ _
  have hpk := pcn_le a k
  have hpm := (pcn_m a k (C + R - k))
  rw [show k + (C + R - k) = C + R by omega] at hpm
  unfold f_X8_along
  rw [hm.1, hm.2.1, hC, hR, hn, bit_d _ (by omega), I_long (z := ((2 ^ (C + R) : Nat) : Int) - 1) (by omega) (by omega), I_long (z := ((C + R : Nat) : Int)) (by omega) (by omega), l0, c1_r (m_chk (by omega) (by omega) (by omega)), if_pos (show 0 ≤ (a : Int) ∧ (a : Int) ≤ ((2 ^ (C + R) : Nat) : Int) - 1 by omega), if_neg n10, c1_r (m_chk (by omega) (by omega) (by omega)), if_pos (show 0 ≤ (k : Int) ∧ (k : Int) ≤ ((C + R : Nat) : Int) by omega), if_neg n10, lt_d, lt_d]
  refine wl5_inv (Q := fun r => (pcn a (C + R) = R → r = some (I (tsum (Sg g (k - pcn a k) (R - pcn a k)) 75), w2)) ∧ (pcn a (C + R) ≠ R → r = some ((-1 : Int32), w))) (C + R)
    (fun s x1 x2 x3 x4 x5 => x1 = I ((s : Int) - (pcn a s : Int)) ∧ x2 = I ((R : Int) - (pcn a s : Int)) ∧ x3 = I (if k ≤ s then (k : Int) - (pcn a k : Int) else 0) ∧ x4 = I (if k ≤ s then (R : Int) - (pcn a k : Int) else (R : Int)) ∧ x5 = I s) (fu_lt (by omega)) ?_ ?_ ?_
  · refine ⟨rfl, ?_, ?_, ?_, rfl⟩
    · exact congrArg I (show (R : Int) = (R : Int) - ((0 : Nat) : Int) by omega)
    · by_cases e : k = 0
      · subst e; rfl
      · rw [if_neg (by omega)]; rfl
    · by_cases e : k = 0
      · subst e; exact congrArg I (show (R : Int) = (R : Int) - ((0 : Nat) : Int) by omega)
      · rw [if_neg (by omega)]
  · rintro s hs x1 x2 x3 x4 x5 ⟨rfl, rfl, rfl, rfl, rfl⟩ kk
    have q1 := pcn_le a s
    have q2 := pcn_1 a s
    have qs : pcn a (s + 1) = pcn a s + a / 2 ^ s % 2 := rfl
    left
    rw [if_neg (show ¬ (I ((C + R : Nat) : Int) ≤ I (s : Int)) by rw [I_le (by omega) (by omega) (by omega) (by omega)]; omega), bit_c a (by omega) s (by omega)]
    have fin : ∀ y1 y2 : Int32, y1 = I (((s + 1 : Nat) : Int) - (pcn a (s + 1) : Int)) → y2 = I ((R : Int) - (pcn a (s + 1) : Int)) →
      (∃ t0 t1 t2 t3 t4, (t0 = I (((s + 1 : Nat) : Int) - (pcn a (s + 1) : Int)) ∧ t1 = I ((R : Int) - (pcn a (s + 1) : Int)) ∧ t2 = I (if k ≤ s + 1 then (k : Int) - (pcn a k : Int) else 0) ∧ t3 = I (if k ≤ s + 1 then (R : Int) - (pcn a k : Int) else (R : Int)) ∧ t4 = I ((s + 1 : Nat) : Int)) ∧
        kk y1 y2 (if I ((s + 1 : Nat) : Int) = I k then y1 else I (if k ≤ s then (k : Int) - (pcn a k : Int) else 0)) (if I ((s + 1 : Nat) : Int) = I k then y2 else I (if k ≤ s then (R : Int) - (pcn a k : Int) else (R : Int))) (I ((s + 1 : Nat) : Int)) = kk t0 t1 t2 t3 t4) := by
      rintro y1 y2 rfl rfl
      refine ⟨_, _, _, _, _, ⟨rfl, rfl, ?_, ?_, rfl⟩, rfl⟩
      · simp (disch := omega) only [I_eq]
        by_cases e : ((s + 1 : Nat) : Int) = (k : Int)
        · obtain rfl : k = s + 1 := by omega
          rw [if_pos rfl, if_pos (by omega)]
        · rw [if_neg e]
          by_cases e2 : k ≤ s
          · rw [if_pos e2, if_pos (by omega)]
          · rw [if_neg e2, if_neg (by omega)]
      · simp (disch := omega) only [I_eq]
        by_cases e : ((s + 1 : Nat) : Int) = (k : Int)
        · obtain rfl : k = s + 1 := by omega
          rw [if_pos rfl, if_pos (by omega)]
        · rw [if_neg e]
          by_cases e2 : k ≤ s
          · rw [if_pos e2, if_pos (by omega)]
          · rw [if_neg e2, if_neg (by omega)]
    have e1 : I ((s : Int)) + (1 : Int32) = I ((s + 1 : Nat) : Int) := I_add _ 1
    rw [e1]
    by_cases b : a / 2 ^ s % 2 = 0
    · have E1 : I ((s : Int) - (pcn a s : Int)) + (1 : Int32) = I (((s + 1 : Nat) : Int) - (pcn a (s + 1) : Int)) := (I_add _ 1).trans (congrArg I (by omega))
      have E2 : I ((R : Int) - (pcn a s : Int)) = I ((R : Int) - (pcn a (s + 1) : Int)) := congrArg I (by omega)
      simp only [jn_d, lt_d, lt2_d]
      rw [if_pos (show I ((a / 2 ^ s % 2 : Nat) : Int) = 0 by rw [b]; rfl), E1, E2]
      exact fin _ _ rfl rfl
    · have E1 : I ((R : Int) - (pcn a s : Int)) + (-1 : Int32) = I ((R : Int) - (pcn a (s + 1) : Int)) := by rw [im1, I_add]; exact congrArg I (by omega)
      have E2 : I ((s : Int) - (pcn a s : Int)) = I (((s + 1 : Nat) : Int) - (pcn a (s + 1) : Int)) := congrArg I (by omega)
      simp only [jn_d, lt_d, lt2_d]
      rw [if_neg (show ¬ I ((a / 2 ^ s % 2 : Nat) : Int) = 0 by rw [show a / 2 ^ s % 2 = 1 by omega]; exact n10), E1, E2]
      exact fin _ _ rfl rfl
  · rintro x1 x2 x3 x4 x5 ⟨rfl, rfl, rfl, rfl, rfl⟩ kk
    have q1 := pcn_le a (C + R)
    rw [if_pos (show I ((C + R : Nat) : Int) ≤ I ((C + R : Nat) : Int) by rw [I_le (by omega) (by omega) (by omega) (by omega)]; omega)]
    refine ⟨fun e => ?_, fun e => ?_⟩
    · rw [if_pos (by rw [I_eq (by omega) (by omega) (by omega) (by omega)]; omega), c1_r hg, if_pos hk, if_pos hk, show (k : Int) - (pcn a k : Int) = ((k - pcn a k : Nat) : Int) by omega, show (R : Int) - (pcn a k : Int) = ((R - pcn a k : Nat) : Int) by omega, c1_r (m_sizeOf hW2 hv hm2 (by omega) (by omega))]
    · rw [if_neg (by rw [I_eq (by omega) (by omega) (by omega) (by omega)]; omega)]
theorem op_along {z y : Int} (hz : -2147483648 ≤ z ∧ z < 2147483648) (hy : -2147483648 ≤ y ∧ y < 2147483648) : Op2 (f_X7_along 0 (I z) (I y)) (f_X8_along 139 (I z) (I y)) := by
  rintro w ⟨g, p, u, G, H⟩
  obtain ⟨hW, ⟨hv, hc, hm⟩, -⟩ := id H
  have e1 := hW.1.1
  have v1 := hv.1; have v2 := hv.2.1
  obtain ⟨C, hC⟩ : ∃ C : Nat, g 0 = C := ⟨(g 0).toNat, by omega⟩
  obtain ⟨R, hR⟩ : ∃ R : Nat, g 1 = R := ⟨(g 1).toNat, by omega⟩
  have h24 := bit_f (C + R) (by omega)
  have h25 := Nat.two_pow_pos (C + R)
  have hn : I (C : Int) + I (R : Int) = I ((C + R : Nat) : Int) := I_add _ _
  have mbad : ¬ (0 ≤ z ∧ z ≤ ((2 ^ (C + R) : Nat) : Int) - 1) ∨ ¬ (0 ≤ y ∧ y ≤ ((C + R : Nat) : Int)) → f_X8_along 139 (I z) (I y) w = some ((-1 : Int32), w) := fun h => by
    unfold f_X8_along
    rw [hm.1, hm.2.1, hC, hR, hn, bit_d _ (by omega), I_long (z := ((2 ^ (C + R) : Nat) : Int) - 1) (by omega) (by omega), I_long (z := ((C + R : Nat) : Int)) (by omega) (by omega), l0, c1_r (m_chk hz (by omega) (by omega))]
    by_cases c : 0 ≤ z ∧ z ≤ ((2 ^ (C + R) : Nat) : Int) - 1
    · rw [if_pos c, if_neg n10, c1_r (m_chk hy (by omega) (by omega)), if_neg (h.resolve_left (fun f => f c)), if_pos z00]
    · rw [if_neg c, if_pos z00]
  by_cases c : 0 ≤ z ∧ z ≤ ((2 ^ (C + R) : Nat) : Int) - 1
  · obtain ⟨a, rfl⟩ : ∃ n : Nat, z = n := ⟨z.toNat, by omega⟩
    have ha : a < 2 ^ (C + R) := by omega
    have hb10 : f_J6_bitCount_0f7a4 (I (a : Int)) = some (I ((pcn a (C + R) : Nat) : Int)) := by
      rw [bit_a a (by omega), ← pcn_z ha (10 - (C + R)), show C + R + (10 - (C + R)) = 10 by omega]
    have q1 := pcn_le a (C + R)
    have x9 : (if I (a : Int) < 0 then (1 : Int32) else (if (I (a : Int) >>> (I ((C + R : Nat) : Int) &&& 31)) = 0 then (0 : Int32) else (1 : Int32))) = 0 := by
      rw [if_neg (by rw [i0, I_lt (by omega) (by omega) (by omega) (by omega)]; omega), if_pos ((shr_z (by omega) (by omega)).2 ha)]
    by_cases d : 0 ≤ y ∧ y ≤ ((C + R : Nat) : Int)
    · obtain ⟨k, rfl⟩ : ∃ n : Nat, y = n := ⟨y.toNat, by omega⟩
      have hk : k ≤ C + R := by omega
      have hpk := pcn_le a k
      have hpm := (pcn_m a k (C + R - k))
      rw [show k + (C + R - k) = C + R by omega] at hpm
      by_cases e : pcn a (C + R) = R
      · obtain ⟨x, y, t, w1, w2, hx, hy', hxa, hya, hx5, hy5, q1, kt, rt, hS, hs, hwb, q2, H1, q3, H2, q4, -⟩ := askC H (x := ((k - pcn a k : Nat) : Int)) (y := ((R - pcn a k : Nat) : Int)) (by omega)
        obtain rfl : x = k - pcn a k := by omega
        obtain rfl : y = R - pcn a k := by omega
        refine ⟨I (tsum (Sg g (k - pcn a k) (R - pcn a k)) 75), w1, w2, ?_, (m_walk H1 hC hR ha hk q3 H2.1 q4).1 e, g, p, u, G, H2⟩
        unfold f_X7_along
        rw [rfc e1 kd_1 (by decide), rfc e1 kd_1 (by decide), hc.1, hc.2.1, hC, hR, hn, lt_d, x9, lt_d, if_pos rfl, c1_r hb10, rfc e1 kd_1 (by decide), hc.2.1, hR, if_pos (by rw [e]), if_neg (by rw [i0, I_lt (by omega) (by omega) (by omega) (by omega)]; omega), if_pos (by rw [I_le (by omega) (by omega) (by omega) (by omega)]; omega), c1_r (bit_b a (by omega) k (by omega)), rfc e1 kd_1 (by decide), hc.2.1, hR, I_sub, I_sub, show (k : Int) - (pcn a k : Int) = ((k - pcn a k : Nat) : Int) by omega, show (R : Int) - (pcn a k : Int) = ((R - pcn a k : Nat) : Int) by omega, c2_r q1, ckc kt (by decide), hS.2.1]
      · obtain ⟨w2, g1, H2, g3, -⟩ := growsM H
        refine ⟨(-1 : Int32), w, w, ?_, (m_walk H hC hR ha hk g1 H2.1 g3).2 e, g, p, u, G, H⟩
        unfold f_X7_along
        rw [rfc e1 kd_1 (by decide), rfc e1 kd_1 (by decide), hc.1, hc.2.1, hC, hR, hn, lt_d, x9, lt_d, if_pos rfl, c1_r hb10, rfc e1 kd_1 (by decide), hc.2.1, hR, if_neg (by rw [I_eq (by omega) (by omega) (by omega) (by omega)]; omega)]
    · refine ⟨(-1 : Int32), w, w, ?_, mbad (Or.inr d), g, p, u, G, H⟩
      unfold f_X7_along
      rw [rfc e1 kd_1 (by decide), rfc e1 kd_1 (by decide), hc.1, hc.2.1, hC, hR, hn, lt_d, x9, lt_d, if_pos rfl, c1_r hb10, rfc e1 kd_1 (by decide)]
      split
      · by_cases f : y < 0
        · rw [if_pos (by rw [i0, I_lt (by omega) (by omega) (by omega) (by omega)]; omega)]
        · rw [if_neg (by rw [i0, I_lt (by omega) (by omega) (by omega) (by omega)]; omega), if_neg (by rw [I_le (by omega) (by omega) (by omega) (by omega)]; omega)]
      · rfl
  · refine ⟨(-1 : Int32), w, w, ?_, mbad (Or.inl c), g, p, u, G, H⟩
    have x9 : (if I z < 0 then (1 : Int32) else (if (I z >>> (I ((C + R : Nat) : Int) &&& 31)) = 0 then (0 : Int32) else (1 : Int32))) = 1 := by
      by_cases f : z < 0
      · rw [if_pos (by rw [i0, I_lt (by omega) (by omega) (by omega) (by omega)]; omega)]
      · obtain ⟨a, rfl⟩ : ∃ n : Nat, z = n := ⟨z.toNat, by omega⟩
        rw [if_neg (by rw [i0, I_lt (by omega) (by omega) (by omega) (by omega)]; omega), if_neg (fun h => c (by have := (shr_z (by omega) (by omega)).1 h; omega))]
    unfold f_X7_along
    rw [rfc e1 kd_1 (by decide), rfc e1 kd_1 (by decide), hc.1, hc.2.1, hC, hR, hn, lt_d, x9, lt_d, if_neg (by decide)]

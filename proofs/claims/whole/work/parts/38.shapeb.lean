/-! product, hold, judge -/
theorem lg_le {a b : Int} (ha : -9223372036854775808 ≤ a ∧ a < 9223372036854775808) (hb : -9223372036854775808 ≤ b ∧ b < 9223372036854775808) : (lg_cmp (LI a) (LI b) ≤ I 0) = (a ≤ b) := by
  rw [LI_cmp ha.1 ha.2 hb.1 hb.2]
  by_cases c : b < a
  · rw [if_pos c, I_le (by omega) (by omega) (by omega) (by omega)]
    exact propext (by omega)
  · rw [if_neg c]
    by_cases d : a = b
    · rw [if_pos d, I_le (by omega) (by omega) (by omega) (by omega)]
      exact propext (by omega)
    · rw [if_neg d, I_le (by omega) (by omega) (by omega) (by omega)]
      exact propext (by omega)
def prd (s : Nat → Int) : Nat → Int
  | 0 => 1
  | n + 1 => prd s n * (s n + 1)
theorem prd_1 {s : Nat → Int} (h : ∀ k, 0 ≤ s k) : ∀ n, 1 ≤ prd s n ∧ prd s n ≤ prd s (n + 1)
  | 0 => by
    have := h 0
    show 1 ≤ (1 : Int) ∧ 1 ≤ 1 * (s 0 + 1)
    omega
  | n + 1 => by
    have h1 := prd_1 h n
    have h2 := h (n + 1)
    have h3 : prd s (n + 1) * 1 ≤ prd s (n + 1) * (s (n + 1) + 1) := Int.mul_le_mul_of_nonneg_left (by omega) (by omega)
    show 1 ≤ prd s (n + 1) ∧ prd s (n + 1) ≤ prd s (n + 1) * (s (n + 1) + 1)
    omega
theorem prd_m {s : Nat → Int} (h : ∀ k, 0 ≤ s k) (i : Nat) : ∀ d, prd s i ≤ prd s (i + d)
  | 0 => Int.le_refl _
  | d + 1 => Int.le_trans (prd_m h i d) (prd_1 h (i + d)).2
theorem prd_z {s : Nat → Int} {W : Int} (hs : Gs s W) : ∀ d, prd s (len s + d) = prd s (len s)
  | 0 => rfl
  | d + 1 => by
    have h1 := prd_z hs d
    have h2 := len_z hs (k := len s + d) (by omega)
    show prd s (len s + d) * (s (len s + d) + 1) = _
    rw [h2, h1]
    omega
theorem prd_b {s : Nat → Int} {i : Nat} (h : 1 ≤ prd s i ∧ prd s i ≤ 2147483647) (h2 : 0 ≤ s i ∧ s i ≤ 75) : 0 ≤ prd s i * (s i + 1) ∧ prd s i * (s i + 1) ≤ 2147483647 * 76 :=
  ⟨Int.mul_nonneg (by omega) (by omega), Int.mul_le_mul h.2 (by omega) (by omega) (by omega)⟩
def PQ (s : Nat → Int) (v : Int32) : Prop := (v = I (prd s (len s)) ∧ prd s (len s) ≤ 2147483647) ∨ (v = I (-6) ∧ 2147483647 < prd s (len s))
theorem PQ_u {s : Nat → Int} {v v' : Int32} (h : PQ s v) (h' : PQ s v') : v = v' := by
  obtain ⟨h1, h2⟩ | ⟨h1, h2⟩ := h <;> obtain ⟨h3, h4⟩ | ⟨h3, h4⟩ := h'
  · rw [h1, h3]
  · omega
  · omega
  · rw [h1, h3]
theorem s_product {w : Wd} {t : Nat} {s : Nat → Int} {W : Int} (hk : kd t = 5) (hr : w.2 t 0 = some (t + 1)) (h : ShC w t s) (hs : Gs s W) (hb : W ≤ 75) : ∃ v, f_X5_productOrWide t w = some v ∧ PQ s v := by
  have hl := len_b s
  unfold f_X5_productOrWide
  rw [h.1]
  refine wl2_inv (Q := fun r => ∃ v, r = some v ∧ PQ s v) (len s) (fun i x y => x = LI (prd s i) ∧ y = I i ∧ prd s i ≤ 2147483647) (fu_lt (by omega)) ⟨rfl, rfl, by show (1 : Int) ≤ _; decide⟩ ?_ ?_
  · rintro i hi x y ⟨rfl, rfl, hp⟩ k
    have x1 := hs.1 i; have x2 := hs.b i
    have p1 := prd_1 hs.1 i
    have p2 := prd_b ⟨p1.1, hp⟩ ⟨x1, by omega⟩
    simp (disch := omega) only [↓j_m1, ↓j_m2, ↓j_m3, ↓j_m5, ↓j_m6, ↓j_m11, ↓j_m12, ↓j_m13, ↓j_m14, ↓j_m1000, j_0, j_1, j_2, j_3, j_4, j_5, j_6, j_7, j_8, j_9, j_10, j_12, j_14, j_20, j_25, j_26, j_28, j_30, j_36, j_48, j_49, j_50, j_53, j_57, j_59, j_60, j_63, j_75, j_80, j_99, j_100, j_196, j_255, j_1000, I_le]
    rw [if_neg (by omega), rfc hr (kdS hk).2.1 (by decide), (kdS hk).2.2, ix_d (by omega) (by omega) (by decide), Int.toNat_natCast, h.2.2 i hi, I_add, I_long (by omega) (by omega), LI_mul, lt_d, l2147483647]
    simp (disch := omega) only [lg_le, lt_d, I_add, nS]
    by_cases c : prd s i * (s i + 1) ≤ 2147483647
    · left
      exact ⟨_, _, ⟨rfl, rfl, c⟩, by rw [if_pos c]; rfl⟩
    · right
      rw [if_neg c]
      have p3 := prd_m hs.1 (i + 1) (len s - (i + 1))
      rw [show i + 1 + (len s - (i + 1)) = len s by omega] at p3
      have p4 : prd s (i + 1) = prd s i * (s i + 1) := rfl
      exact ⟨_, rfl, Or.inr ⟨rfl, by omega⟩⟩
  · rintro x y ⟨rfl, rfl, hp⟩ k
    simp (disch := omega) only [I_le]
    rw [if_pos (by omega), LI_int]
    exact ⟨_, rfl, Or.inl ⟨rfl, hp⟩⟩
theorem m_product {w : Wd} {g : Gd} {a b : Nat} (hW : Wi w.2) (hv : GV g) (h : MwC w g) (ha : (a : Int) ≤ g 0) (hb : (b : Int) ≤ g 1) : ∃ v, wl2 (fun (x6 : Int64) (x7 : Int32) k8 => (if (80 : Int32) ≤ x7 then some (x6.toInt32, w) else c1 (f_X8_partOf 139 (I a) (I b) x7 w) (fun v12 => lt (x6 * (v12 + (1 : Int32)).toInt64) (fun x13 => (if (lg_cmp x13 (2147483647 : Int64)) ≤ 0 then lt (x7 + (1 : Int32)) (fun x16 => k8 x13 x16) else some ((-6 : Int32), w)))))) fu (1 : Int64) (0 : Int32) = some (v, w) ∧ PQ (Sg g a b) v := by
  have v1 := hv.1; have v2 := hv.2.1
  have hs := (Sg_ok hv (x := a) (y := b) (by omega) (by omega)).1
  have hwb := Wg_b hv (x := a) (y := b) (by omega) (by omega)
  have hl := len_b (Sg g a b)
  refine wl2_inv (Q := fun r => ∃ v, r = some (v, w) ∧ PQ (Sg g a b) v) 80 (fun i x y => x = LI (prd (Sg g a b) i) ∧ y = I i ∧ prd (Sg g a b) i ≤ 2147483647) (by decide) ⟨rfl, rfl, by show (1 : Int) ≤ _; decide⟩ ?_ ?_
  · rintro i hi x y ⟨rfl, rfl, hp⟩ k
    have x1 := hs.1 i; have x2 := hs.b i
    have p1 := prd_1 hs.1 i
    have p2 := prd_b ⟨p1.1, hp⟩ ⟨x1, by omega⟩
    simp (disch := omega) only [↓j_m1, ↓j_m2, ↓j_m3, ↓j_m5, ↓j_m6, ↓j_m11, ↓j_m12, ↓j_m13, ↓j_m14, ↓j_m1000, j_0, j_1, j_2, j_3, j_4, j_5, j_6, j_7, j_8, j_9, j_10, j_12, j_14, j_20, j_25, j_26, j_28, j_30, j_36, j_48, j_49, j_50, j_53, j_57, j_59, j_60, j_63, j_75, j_80, j_99, j_100, j_196, j_255, j_1000, I_le]
    rw [if_neg (by omega), c1_r (m_partOf hW hv h ha hb (by omega)), I_add, I_long (by omega) (by omega), LI_mul, lt_d, l2147483647]
    simp (disch := omega) only [lg_le, lt_d, I_add, nS]
    by_cases c : prd (Sg g a b) i * (Sg g a b i + 1) ≤ 2147483647
    · left
      exact ⟨_, _, ⟨rfl, rfl, c⟩, by rw [if_pos c]; rfl⟩
    · right
      rw [if_neg c]
      have p4 : prd (Sg g a b) (i + 1) = prd (Sg g a b) i * (Sg g a b i + 1) := rfl
      have p3 : prd (Sg g a b) (i + 1) ≤ prd (Sg g a b) (len (Sg g a b)) := by
        have p3 := prd_m hs.1 (i + 1) (80 - (i + 1))
        rw [show i + 1 + (80 - (i + 1)) = len (Sg g a b) + (80 - len (Sg g a b)) by omega, prd_z hs] at p3
        exact p3
      exact ⟨_, rfl, Or.inr ⟨rfl, by omega⟩⟩
  · rintro x y ⟨rfl, rfl, hp⟩ k
    rw [if_pos (by decide), LI_int]
    rw [show 80 = len (Sg g a b) + (80 - len (Sg g a b)) by omega, prd_z hs] at hp ⊢
    exact ⟨_, rfl, Or.inl ⟨rfl, hp⟩⟩
theorem op_product {x y : Int} (hx : -2147483648 ≤ x ∧ x < 2147483648) (hy : -2147483648 ≤ y ∧ y < 2147483648) : Op2 (f_X7_product 0 (I x) (I y)) (f_X8_product 139 (I x) (I y)) := by
  rintro w ⟨g, p, u, G, H⟩
  obtain ⟨hW, ⟨hv, hc, hm⟩, -⟩ := id H
  have e1 := hW.1.1
  unfold f_X7_product f_X8_product
  rw [rfc e1 kd_1 (by decide), c1_r (s_hasCorner hc hv hx hy)]
  by_cases c : 0 ≤ x ∧ x ≤ g 0 ∧ 0 ≤ y ∧ y ≤ g 1
  · rw [if_pos c, if_neg n10]
    obtain ⟨a, b, t, w1, w2, rfl, rfl, ha, hb, ha5, hb5, q1, kt, rt, hS, hs, hwb, q2, H1, q3, H2, q4, q5, -⟩ := askC H c
    obtain ⟨v, f1, f2⟩ := s_product kt rt hS hs hwb.2
    obtain ⟨v', f3, f4⟩ := m_product H2.1 hv q4 ha hb
    obtain rfl := PQ_u f2 f4
    refine ⟨v, w1, w2, ?_, ?_, ⟨g, p, u, G, H2⟩⟩
    · rw [c2_r q1, ckc kt (by decide), c1_r f1]
    · rw [c1_r (m_isCorner H1.2.1.2.2 hv hx hy), if_pos c, if_neg n10, c1_r q3]
      exact f3
  · rw [if_neg c, if_pos z00]
    refine ⟨_, _, w, rfl, ?_, ⟨g, p, u, G, H⟩⟩
    rw [c1_r (m_isCorner hm hv hx hy), if_neg c, if_pos z00]
/-- t takes what is of the shape s, i parts of it -/
def cps (w : Wd) (t : Nat) (s : Nat → Int) (i : Nat) : Wd := fill (upI (upI w t 1 (I (len s))) t 2 (I (tsum s 75))) (t + 1) i (fun j => I (s j))
theorem cps_n {w : Wd} {t : Nat} {s : Nat → Int} {i a b : Nat} (h : ¬ (a = t ∧ (b = 1 ∨ b = 2))) (h2 : a ≠ t + 1) : (cps w t s i).1 a b = w.1 a b := by
  unfold cps
  rw [fill_n (by omega), upI_n (by omega), upI_n (by omega)]
theorem cps_S (w : Wd) (t : Nat) (s : Nat → Int) : ShC (cps w t s (len s)) t s := by
  unfold cps
  refine ⟨by rw [fill_n (by omega), upI_n (by omega), upI_s], by rw [fill_n (by omega), upI_s], fun k hk => by rw [fill_i hk]⟩
theorem s_copyShape {w : Wd} {t u : Nat} {s : Nat → Int} {W : Int} (kt : kd t = 5) (rt : w.2 t 0 = some (t + 1)) (ku : kd u = 5) (ru : w.2 u 0 = some (u + 1)) (hne : t ≠ u) (h : ShC w u s) (hs : Gs s W) : f_X5_copyFrom t u w = some (cps w t s (len s)) := by
  have n1 : t ≠ u + 1 := fun e => by have := (kdS ku).2.1; rw [← e, kt] at this; cases this
  have n2 : u ≠ t + 1 := fun e => by have := (kdS kt).2.1; rw [← e, ku] at this; cases this
  have hl := len_b s
  unfold f_X5_copyFrom
  rw [lt_d, lt_d, upI_n (show ¬ (u = t ∧ 2 = 1) by omega), h.1, h.2.1]
  refine wl2_for (len s) (fun i => I i) (fun i => cps w t s i) (fu_lt (by omega)) rfl (fill_0 _ _ _).symm (fun i hi k => ?_) (fun k => ?_)
  · have e1 : (cps w t s i).1 t 1 = I (len s) := by unfold cps; rw [fill_n (by omega), upI_n (by omega), upI_s]
    have e2 : (cps w t s i).1 (u + 1) i = I (s i) := by rw [cps_n (by omega) (by omega)]; exact h.2.2 i hi
    rw [e1]
    simp (disch := omega) only [↓j_m1, ↓j_m2, ↓j_m3, ↓j_m5, ↓j_m6, ↓j_m11, ↓j_m12, ↓j_m13, ↓j_m14, ↓j_m1000, j_0, j_1, j_2, j_3, j_4, j_5, j_6, j_7, j_8, j_9, j_10, j_12, j_14, j_20, j_25, j_26, j_28, j_30, j_36, j_48, j_49, j_50, j_53, j_57, j_59, j_60, j_63, j_75, j_80, j_99, j_100, j_196, j_255, j_1000, I_le]
    rw [if_neg (by omega), show (cps w t s i).2 = w.2 from rfl, rfc rt (kdS kt).2.1 (by decide), rfc ru (kdS ku).2.1 (by decide), (kdS ku).2.2, ix_d (by omega) (by omega) (by decide), (kdS kt).2.2, ix_d (by omega) (by omega) (by decide), Int.toNat_natCast, e2, lt_d, lt_d, I_add, nS]
    unfold cps
    rw [fill_s _ _ i (fun j => I (s j))]
  · have e1 : (cps w t s (len s)).1 t 1 = I (len s) := (cps_S w t s).1
    rw [e1]
    simp (disch := omega) only [I_le]
    rw [if_pos (by omega)]
theorem MwC.of {w w' : Wd} {g : Gd} (h : MwC w g) (f : ∀ b, w'.1 144 b = w.1 144 b) : MwC w' g := fun x y hx hy k hk => (f _).trans (h x y hx hy k hk)
theorem op_hold {z x y : Int} (hz : -2147483648 ≤ z ∧ z < 2147483648) (hx : -2147483648 ≤ x ∧ x < 2147483648) (hy : -2147483648 ≤ y ∧ y < 2147483648) : Op2 (f_X7_hold 0 (I z) (I x) (I y)) (f_X8_hold 139 (I z) (I x) (I y)) := by
  rintro w ⟨g, p, u, G, H⟩
  obtain ⟨hW, ⟨hv, hc, hm⟩, -⟩ := id H
  have e1 := hW.1.1
  have hB : 0 ≤ z ∧ z ≤ 5 → f_X8_isHolder (I z) = some (I 1) := fun c => by rw [m_isHolder hz, if_pos c]
  unfold f_X7_hold f_X8_hold f_X3_keepShape
  rw [c1_r (s_isHolder hz)]
  by_cases d : 0 ≤ z ∧ z ≤ 5
  · rw [if_pos d, if_neg n10, rfc e1 kd_1 (by decide), c1_r (s_hasCorner hc hv hx hy)]
    by_cases c : 0 ≤ x ∧ x ≤ g 0 ∧ 0 ≤ y ∧ y ≤ g 1
    · obtain ⟨a, b, t, w1, -, rfl, rfl, ha, hb, ha5, hb5, q1, kt, rt, hS, hs, hwb, q2, H1, -, -, -, -, -, ht, -⟩ := askC H c
      obtain ⟨h, rfl⟩ : ∃ h : Nat, z = h := ⟨z.toNat, by omega⟩
      have hh : h < 6 := by omega
      have v1 := hv.1; have v2 := hv.2.1
      obtain ⟨k1, k2, k3, k4⟩ := kd_hold h hh
      obtain ⟨hW1, ⟨-, hc1, hm1⟩, hrc, hrd, hri, hrt, hrh, hrs⟩ := id H1
      have e9 := hW1.1.2.2.2.2.2.2.2
      obtain ⟨r1, r2, r3⟩ := hW1.2.2.2.2.2.2.2.2.1 h hh
      have hl := len_b (Sg g a b)
      generalize hs' : Sg g a b = s at *
      have hcp : f_X5_copyFrom (116 + 4 * h) t w1 = some (cps w1 (116 + 4 * h) s (len s)) := s_copyShape k2 (hW1.2.2.1 _ k2) kt rt (by omega) hS hs
      generalize hu0 : cps w1 (116 + 4 * h) s (len s) = u0 at hcp
      have t0 : u0.1 t 1 = I (len s) := by rw [← hu0, cps_n (by omega) (by omega)]; exact hS.1
      generalize hu1 : upI u0 (115 + 4 * h) 0 (I (if 1 < len s then 2 else 1)) = u1
      have c2' : u1.2 = w1.2 := by rw [← hu1, ← hu0]; rfl
      have hWu : Wi u1.2 := by rw [c2']; exact hW1
      have f1 : ∀ a b, ¬ (115 + 4 * h ≤ a ∧ a < 118 + 4 * h) → u1.1 a b = w1.1 a b := fun a b hab => by rw [← hu1, upI_n (by omega), ← hu0, cps_n (by omega) (by omega)]
      have hmu : MG u1 g := hm1.of (fun b _ => f1 _ _ (by omega)) (fun b => f1 _ _ (by omega))
      obtain ⟨w2, m1, m2, m3, m4⟩ := m_growsAll hWu hv hmu
      have hW2 : Wi w2.2 := by rw [m2]; exact hWu
      have hSu : ShC u1 (116 + 4 * h) s := by
        rw [← hu1]
        exact (hu0 ▸ cps_S w1 (116 + 4 * h) s).of (fun b _ => upI_n (by omega)) (fun b => upI_n (by omega))
      have hl2 : ∀ i, MwC (lay (upI w2 149 h (I 1)) 151 (80 * h) (fun k => I (s k)) i) g := fun i => m3.of (fun b => by rw [lay_n (by omega), upI_n (by omega)])
      refine ⟨I (tsum s 75), u1, lay (upI w2 149 h (I 1)) 151 (80 * h) (fun k => I (s k)) 80, ?_, ?_, ?_⟩
      · rw [if_pos c, if_neg n10, c2_r q1, ckc kt (by decide), rfc e9 kd_114 (by decide), ln_114, ix_d (by omega) (by omega) (by decide), Int.toNat_natCast, rfc r1 k1 (by decide), rfc r2 k2 (by decide), c1_r hcp, t0, lt_d, lt_d]
        have e : (if (1 : Int32) < I (len s) then (2 : Int32) else 1) = I (if 1 < len s then 2 else 1) := by
          simp (disch := omega) only [↓j_m1, ↓j_m2, ↓j_m3, ↓j_m5, ↓j_m6, ↓j_m11, ↓j_m12, ↓j_m13, ↓j_m14, ↓j_m1000, j_0, j_1, j_2, j_3, j_4, j_5, j_6, j_7, j_8, j_9, j_10, j_12, j_14, j_20, j_25, j_26, j_28, j_30, j_36, j_48, j_49, j_50, j_53, j_57, j_59, j_60, j_63, j_75, j_80, j_99, j_100, j_196, j_255, j_1000, I_lt, I_ite]
          congr 1
          (repeat' split) <;> omega
        rw [e, hu1, c1_d]
        rw [f1 _ _ (by omega), hS.2.1]
      · rw [c1_r (hB d), if_neg n10, c1_r (m_isCorner hmu hv hx hy), if_pos c, if_neg n10, c1_r m1, rfc hW2.m15 kd_149 (by decide), ln_149, ix_d (by omega) (by omega) (by decide), lt_d, Int.toNat_natCast]
        refine wl2_for 80 (fun i => I i) (fun i => lay (upI w2 149 h (I 1)) 151 (80 * h) (fun k => I (s k)) i) (by decide) rfl (lay_0 _ _ _ _).symm (fun i hi k => ?_) (fun k => ?_)
        · simp (disch := omega) only [↓j_m1, ↓j_m2, ↓j_m3, ↓j_m5, ↓j_m6, ↓j_m11, ↓j_m12, ↓j_m13, ↓j_m14, ↓j_m1000, j_0, j_1, j_2, j_3, j_4, j_5, j_6, j_7, j_8, j_9, j_10, j_12, j_14, j_20, j_25, j_26, j_28, j_30, j_36, j_48, j_49, j_50, j_53, j_57, j_59, j_60, j_63, j_75, j_80, j_99, j_100, j_196, j_255, j_1000, I_le]
          have pp := m_partOf (w := lay (upI w2 149 h (I 1)) 151 (80 * h) (fun k => I (s k)) i) hW2 hv (hl2 i) ha hb (i := i) (by omega)
          rw [hs'] at pp
          rw [if_neg (by omega), rfc (show (lay (upI w2 149 h (I 1)) 151 (80 * h) (fun k => I (s k)) i).2 139 17 = some 151 from hW2.m17) kd_151 (by decide), c1_r pp, ln_151, I_mul, I_add, ix_d (by omega) (by omega) (by decide), lt_d, lt_d, show (80 * (h : Int) + (i : Int)).toNat = 80 * h + i by omega, lay_s rfl rfl, I_add, nS]
        · have pp := m_sizeOf (w := lay (upI w2 149 h (I 1)) 151 (80 * h) (fun k => I (s k)) 80) hW2 hv (hl2 80) ha hb
          rw [hs'] at pp
          rw [if_pos (by decide), c1_r pp]
      · refine ⟨g, p, u, G, hW2, ⟨hv, hc1.of (fun b => ?_) (fun b => ?_), hm1.of (fun b hb => ?_) (fun b => ?_)⟩, hrc.of hv (fun a b h => ?_), hrd.of (fun a b h => ?_) (fun b => by show w2.2 93 b = _; rw [m2, c2']), hri.of (fun a b h => ?_), hrt.of (fun a b h => ?_), fun h' hh' => ?_, hrs.of (fun a b h => ?_)⟩
        case refine_9 =>
          by_cases e : h' = h
          · subst e
            refine Or.inr (Or.inl ⟨s, _, hs, hwb.2, hSu.of (fun b _ => ?_) (fun b => ?_), ?_, ?_, fun k hk => ?_⟩)
            · rw [lay_n (by omega), upI_n (by omega), m4 _ _ (by omega)]
            · rw [lay_n (by omega), upI_n (by omega), m4 _ _ (by omega)]
            · rw [lay_n (by omega), upI_n (by omega), m4 _ _ (by omega), ← hu1, upI_s]
            · rw [lay_n (by omega), upI_s]
            · rw [lay_i hk]
          · exact (hrh h' hh').of hh' (fun a b hab => by rw [lay_n (by omega), upI_n (by omega), m4 _ _ (by omega), f1 _ _ (by omega)])
        all_goals rw [lay_n (by omega), upI_n (by omega), m4 _ _ (by omega), f1 _ _ (by omega)]
    · rw [if_neg c, if_pos z00]
      refine ⟨_, _, w, rfl, ?_, ⟨g, p, u, G, H⟩⟩
      rw [c1_r (hB d), if_neg n10, c1_r (m_isCorner hm hv hx hy), if_neg c, if_pos z00]
  · rw [if_neg d, if_pos z00]
    refine ⟨_, _, w, rfl, ?_, ⟨g, p, u, G, H⟩⟩
    rw [c1_r (m_isHolder hz), if_neg d, if_pos z00]
theorem mxN {n m : Nat} (hn : n ≤ 75) (hm : m ≤ 75) : ∃ N : Nat, (if I n < I m then I m else I n) = I N ∧ n ≤ N ∧ m ≤ N ∧ N ≤ 75 := by
  have e : (I n < I m) = ((n : Int) < m) := I_lt (by omega) (by omega) (by omega) (by omega)
  by_cases c : (n : Int) < m
  · exact ⟨m, if_pos (by rw [e]; exact c), by omega, by omega, by omega⟩
  · exact ⟨n, if_neg (by rw [e]; exact c), by omega, by omega, by omega⟩
/-- the first place at which two rows differ -/
def FO (T S : Nat → Int32) (v : Int32) : Prop := (∃ i : Nat, i < 80 ∧ T i ≠ S i ∧ (∀ j, j < i → T j = S j) ∧ v = I i) ∨ ((∀ j, j < 80 → T j = S j) ∧ v = I (-2))
theorem FO_u {T S : Nat → Int32} {v v' : Int32} (h : FO T S v) (h' : FO T S v') : v = v' := by
  obtain ⟨i, h1, h2, h3, h4⟩ | ⟨h1, h2⟩ := h <;> obtain ⟨j, g1, g2, g3, g4⟩ | ⟨g1, g2⟩ := h'
  · rw [h4, g4]
    obtain c | c | c := Nat.lt_trichotomy i j
    · exact absurd (g3 i c) h2
    · rw [c]
    · exact absurd (h3 j c) g2
  · exact absurd (g1 i h1) h2
  · exact absurd (h1 j g1) g2
  · rw [h2, g2]
theorem s_firstOther {w : Wd} {h t n : Nat} {s : Nat → Int} {W : Int} (hW : Wi w.2) (hh : h < 6) (kt : kd t = 5) (rt : w.2 t 0 = some (t + 1)) (hS : ShC w t s) (hs : Gs s W) (hn : n ≤ 30) (h3 : w.1 (115 + 4 * h) 3 = I n) : ∃ v, f_X3_firstOtherwise (115 + 4 * h) t w = some v ∧ FO (fun k => if k < n then w.1 (118 + 4 * h) k else I 0) (fun k => I (s k)) v := by
  have hl := len_b s
  obtain ⟨k1, k2, k3, k4⟩ := kd_hold h hh
  obtain ⟨r1, r2, r3⟩ := hW.2.2.2.2.2.2.2.2.1 h hh
  obtain ⟨N, hN, hN1, hN2, hN3⟩ := mxN (show n ≤ 75 by omega) hl
  unfold f_X3_firstOtherwise
  rw [h3, hS.1, hN, lt_d]
  refine wl1_inv (Q := fun r => ∃ v, r = some v ∧ FO (fun k => if k < n then w.1 (118 + 4 * h) k else I 0) (fun k => I (s k)) v) N (fun i x => x = I i ∧ ∀ j, j < i → (if j < n then w.1 (118 + 4 * h) j else I 0) = I (s j)) (fu_lt (by omega)) ⟨rfl, fun j hj => absurd hj (by omega)⟩ ?_ ?_
  · rintro i hi x ⟨rfl, hd⟩ k
    simp (disch := omega) only [↓j_m1, ↓j_m2, ↓j_m3, ↓j_m5, ↓j_m6, ↓j_m11, ↓j_m12, ↓j_m13, ↓j_m14, ↓j_m1000, j_0, j_1, j_2, j_3, j_4, j_5, j_6, j_7, j_8, j_9, j_10, j_12, j_14, j_20, j_25, j_26, j_28, j_30, j_36, j_48, j_49, j_50, j_53, j_57, j_59, j_60, j_63, j_75, j_80, j_99, j_100, j_196, j_255, j_1000, I_le]
    rw [if_neg (by omega), c1_r (s_hasPlace h3 (by omega) hn)]
    simp only [jn_d, lt_d, c1_r (s_partAt kt rt hS hs (show i < 2147483648 by omega)), I_add, nS]
    have fin : ∀ x : Int32, x = (if i < n then w.1 (118 + 4 * h) i else I 0) → ((∃ t0, (t0 = I ((i + 1 : Nat) : Int) ∧ ∀ j, j < i + 1 → (if j < n then w.1 (118 + 4 * h) j else I 0) = I (s j)) ∧ (if x = I (s i) then k (I ((i + 1 : Nat) : Int)) else some (I i)) = k t0) ∨ ∃ v, (if x = I (s i) then k (I ((i + 1 : Nat) : Int)) else some (I i)) = some v ∧ FO (fun k => if k < n then w.1 (118 + 4 * h) k else I 0) (fun k => I (s k)) v) := fun x hx => by
      by_cases e : x = I (s i)
      · left
        refine ⟨_, ⟨rfl, fun j hj => ?_⟩, by rw [if_pos e]⟩
        by_cases e2 : j = i
        · subst e2; rw [← hx]; exact e
        · exact hd j (by omega)
      · right
        rw [if_neg e]
        exact ⟨_, rfl, Or.inl ⟨i, by omega, fun h => e (hx.trans h), hd, rfl⟩⟩
    by_cases c : i < n
    · rw [if_pos (show 0 ≤ (i : Int) ∧ (i : Int) ≤ (n : Int) - 1 by omega), if_neg (show ¬ I 1 = I 0 by decide), rfc r3 k3 (by decide), k4, ix_d (by omega) (by omega) (by decide), Int.toNat_natCast]
      exact fin _ (by rw [if_pos c])
    · rw [if_neg (show ¬ (0 ≤ (i : Int) ∧ (i : Int) ≤ (n : Int) - 1) by omega), if_pos (show I 0 = I 0 from rfl)]
      exact fin _ (by rw [if_neg c])
  · rintro x ⟨rfl, hd⟩ k
    simp (disch := omega) only [I_le]
    rw [if_pos (by omega)]
    refine ⟨_, rfl, Or.inr ⟨fun j hj => ?_, rfl⟩⟩
    by_cases c : j < N
    · exact hd j c
    · show (if j < n then _ else I 0) = I (s j)
      rw [if_neg (by omega), len_z hs (by omega)]

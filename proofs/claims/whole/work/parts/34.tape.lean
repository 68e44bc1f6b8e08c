/-! feed -/
theorem and255 (x : Int32) : 0 ≤ (x &&& 255).toInt ∧ (x &&& 255).toInt ≤ 255 := by
  have e : (x &&& 255).toInt = (x.toBitVec &&& 255#32).toInt := rfl
  have h : (x.toBitVec &&& 255#32).toNat ≤ 255 := by
    rw [BitVec.toNat_and]
    exact Nat.and_le_right
  rw [e, BitVec.toInt_eq_toNat_of_lt (by omega)]
  omega
theorem I_self (x : Int32) : I x.toInt = x := Int32.ofInt_toInt x
def byt (a : Int32) (x8 : Int32) : Int32 := (a.toUInt32 >>> (((8 : Int32) * x8).toUInt32 &&& Int32.toUInt32 31)).toInt32 &&& (255 : Int32)
theorem byt_b (a x8 : Int32) : 0 ≤ (byt a x8).toInt ∧ (byt a x8).toInt ≤ 255 := and255 _
def fdw (w : Wd) (lc sl ar T : Nat) (s : Nat → Int32) (i : Nat) : Wd := upI (lay w ar T s i) lc sl (I ((T + i : Nat) : Int))
theorem fdw_l (w : Wd) (lc sl ar T : Nat) (s : Nat → Int32) (i : Nat) : (fdw w lc sl ar T s i).1 lc sl = I ((T + i : Nat) : Int) := upI_s _ _ _ _
theorem fdw_i {w : Wd} {lc sl ar T : Nat} {s : Nat → Int32} {i k : Nat} (hne : ar ≠ lc) (h : k < i) : (fdw w lc sl ar T s i).1 ar (T + k) = s k := by
  unfold fdw
  rw [upI_n (by omega), lay_i h]
theorem fdw_n {w : Wd} {lc sl ar T : Nat} {s : Nat → Int32} {i a b : Nat} (h1 : ¬ (a = lc ∧ b = sl)) (h2 : ¬ (a = ar ∧ T ≤ b ∧ b < T + i)) : (fdw w lc sl ar T s i).1 a b = w.1 a b := by
  unfold fdw
  rw [upI_n h1, lay_n h2]
theorem fdw_0 {w : Wd} {lc sl ar T : Nat} {s : Nat → Int32} (h : w.1 lc sl = I T) : fdw w lc sl ar T s 0 = w := by
  refine W_ext (fun a b => ?_) rfl
  by_cases c : a = lc ∧ b = sl
  · obtain ⟨rfl, rfl⟩ := c
    rw [fdw_l, h]; rfl
  · rw [fdw_n c (by omega)]
theorem fdw_s {w : Wd} {lc sl ar T : Nat} {s : Nat → Int32} {i : Nat} (hne : ar ≠ lc) : upI (upI (fdw w lc sl ar T s i) ar (T + i) (s i)) lc sl (I (((T + i : Nat) : Int) + 1)) = fdw w lc sl ar T s (i + 1) := by
  refine W_ext (fun a b => ?_) rfl
  by_cases c : a = lc ∧ b = sl
  · obtain ⟨rfl, rfl⟩ := c
    rw [fdw_l, upI_s]; exact congrArg I (by omega)
  · rw [upI_n c]
    by_cases d : a = ar ∧ b = T + i
    · obtain ⟨rfl, rfl⟩ := d
      rw [upI_s, fdw_i hne (by omega)]
    · rw [upI_n d]
      by_cases e : a = ar ∧ T ≤ b ∧ b < T + i
      · obtain ⟨rfl, h3, h4⟩ := e
        obtain ⟨q, rfl⟩ : ∃ q, b = T + q := ⟨b - T, by omega⟩
        rw [fdw_i hne (by omega), fdw_i hne (by omega)]
      · rw [fdw_n c e, fdw_n c (by omega)]
theorem op_feed {z : Int} (a : Int32) (hz : -2147483648 ≤ z ∧ z < 2147483648) : Op2 (f_X7_feed 0 a (I z)) (f_X8_feed 139 a (I z)) := by
  rintro w ⟨g, p, u, G, H⟩
  obtain ⟨hW, ⟨hv, hc, hm⟩, hrc, hrd, hri, ⟨T, s, t1, t2, t3, t4⟩, hrh, hrs⟩ := id H
  have e8 := hW.1.2.2.2.2.2.2.1
  have e80 := hW.2.2.2.2.2.2.2.1
  unfold f_X7_feed f_X8_feed
  by_cases c : 1 ≤ z ∧ z ≤ 4
  · obtain ⟨n, rfl⟩ : ∃ h : Nat, z = h := ⟨z.toNat, by omega⟩
    rw [if_neg (by rw [i1, I_lt (by omega) (by omega) (by omega) (by omega)]; omega), if_pos (by rw [i4, I_le (by omega) (by omega) (by omega) (by omega)]; omega), rfc e8 kd_112 (by decide), t2, I_add]
    by_cases d : T + n ≤ 60
    · rw [if_pos (by rw [i60, I_le (by omega) (by omega) (by omega) (by omega)]; omega), lt_d, im1, i1, I_sub]
      have key : wl2 (fun (x8 : Int32) (w9 : Wd) k10 => (if x8 < 0 then rf 153 (w9.2 0 8) 6 (fun t13 => some ((w9.1 t13 1), w9)) else rf 153 (w9.2 0 8) 6 (fun t15 => c1 (f_X6_append t15 ((a.toUInt32 >>> (((8 : Int32) * x8).toUInt32 &&& Int32.toUInt32 31)).toInt32 &&& (255 : Int32)) w9) (fun w18 => lt (x8 + I (-1)) (fun x19 => k10 x19 w18))))) fu (I ((n : Int) - 1)) w = some (I ((T + n : Nat) : Int), fdw w 112 1 113 T (fun i => byt a (I ((n : Int) - 1 - i))) n) := by
        refine wl2_for n (fun i => I ((n : Int) - 1 - i)) (fun i => fdw w 112 1 113 T (fun i => byt a (I ((n : Int) - 1 - i))) i) (fu_lt (by omega)) (congrArg I (by omega)) (fdw_0 t2).symm (fun i hi k => ?_) (fun k => ?_)
        · rw [if_neg (by rw [i0, I_lt (by omega) (by omega) (by omega) (by omega)]; omega), rfc (show (fdw w 112 1 113 T (fun i => byt a (I ((n : Int) - 1 - i))) i).2 0 8 = some 112 from e8) kd_112 (by decide)]
          unfold f_X6_append
          rw [fdw_l, if_neg (by rw [i60, I_le (by omega) (by omega) (by omega) (by omega)]; omega), rfc (show (fdw w 112 1 113 T (fun i => byt a (I ((n : Int) - 1 - i))) i).2 112 0 = some 113 from e80) kd_113 (by decide), ln_113, ix_d (by omega) (by omega) (by decide), Int.toNat_natCast, lt_d, lt_d, c1_d, lt_d, upI_n (by omega), fdw_l, i1, I_add, I_add]
          show k _ (upI (upI (fdw w 112 1 113 T (fun i => byt a (I ((n : Int) - 1 - i))) i) 113 (T + i) ((fun i => byt a (I ((n : Int) - 1 - i))) i)) 112 1 (I (((T + i : Nat) : Int) + 1))) = _
          rw [fdw_s (by decide)]
          congr 2
          omega
        · rw [if_pos (by rw [i0, I_lt (by omega) (by omega) (by omega) (by omega)]; omega), rfc (show (fdw w 112 1 113 T (fun i => byt a (I ((n : Int) - 1 - i))) n).2 0 8 = some 112 from e8) kd_112 (by decide), fdw_l]
      rw [key]
      generalize hw1 : fdw w 112 1 113 T (fun i => byt a (I ((n : Int) - 1 - i))) n = w1
      have q2 : w1.2 = w.2 := by rw [← hw1]; rfl
      have q1 : ∀ a b, ¬ (a = 112 ∧ b = 1) → ¬ (a = 113 ∧ T ≤ b ∧ b < T + n) → w1.1 a b = w.1 a b := fun a b h h2 => by rw [← hw1]; exact fdw_n h h2
      have qT : w1.1 112 1 = I ((T + n : Nat) : Int) := by rw [← hw1]; exact fdw_l _ _ _ _ _ _ _
      have qb : ∀ k, k < n → w1.1 113 (T + k) = byt a (I ((n : Int) - 1 - k)) := fun k hk => by rw [← hw1]; exact fdw_i (by decide) hk
      have hW1 : Wi w1.2 := by rw [q2]; exact hW
      have t3' : w1.1 139 14 = I T := by rw [q1 _ _ (by omega) (by omega)]; exact t3
      refine ⟨_, w1, fdw w1 139 14 148 T (fun i => byt a (I ((n : Int) - 1 - i))) n, rfl, ?_, ?_⟩
      · rw [l1, l4, c1_r (m_chk hz (by omega) (by omega)), if_pos c, if_neg n10, t3', I_add, if_pos (by rw [i60, I_le (by omega) (by omega) (by omega) (by omega)]; omega), lt_d]
        refine wl2_for n (fun i => I ((n : Int) - 1 - i)) (fun i => fdw w1 139 14 148 T (fun i => byt a (I ((n : Int) - 1 - i))) i) (fu_lt (by omega)) (congrArg I (by omega)) (fdw_0 t3').symm (fun i hi k => ?_) (fun k => ?_)
        · rw [if_neg (by rw [i0, I_lt (by omega) (by omega) (by omega) (by omega)]; omega), rfc (show (fdw w1 139 14 148 T (fun i => byt a (I ((n : Int) - 1 - i))) i).2 139 13 = some 148 from hW1.m13) kd_148 (by decide)]
          rw [fdw_l, ln_148, ix_d (by omega) (by omega) (by decide), Int.toNat_natCast, lt_d, lt_d, lt_d, upI_n (by omega), fdw_l, I_add, I_add]
          show k _ (upI (upI (fdw w1 139 14 148 T (fun i => byt a (I ((n : Int) - 1 - i))) i) 148 (T + i) ((fun i => byt a (I ((n : Int) - 1 - i))) i)) 139 14 (I (((T + i : Nat) : Int) + 1))) = _
          rw [fdw_s (by decide)]
          congr 2
          omega
        · rw [if_pos (by rw [i0, I_lt (by omega) (by omega) (by omega) (by omega)]; omega), fdw_l]
      · refine ⟨g, p, u, G, hW1, ⟨hv, hc.of (fun b => ?_) (fun b => ?_), hm.of (fun b hb => ?_) (fun b => ?_)⟩, hrc.of hv (fun a b h => ?_), hrd.of (fun a b h => ?_) (fun b => by show w1.2 93 b = _; rw [q2]), hri.of (fun a b h => ?_), ⟨T + n, fun j => if j < T then s j else (byt a (I ((n : Int) - 1 - ((j - T : Nat) : Int)))).toInt, by omega, ?_, ?_, fun j hj => ?_⟩, hrh.of (fun a b h => ?_), hrs.of (fun a b h => ?_)⟩
        case refine_8 => rw [fdw_n (by omega) (by omega), qT]
        case refine_9 => exact fdw_l _ _ _ _ _ _ _
        case refine_10 =>
          show (0 ≤ (if j < T then s j else _) ∧ (if j < T then s j else _) ≤ 255) ∧ _ = I (if j < T then s j else _) ∧ _ = I (if j < T then s j else _)
          by_cases e : j < T
          · rw [if_pos e, fdw_n (by omega) (by omega), fdw_n (by omega) (by omega), q1 _ _ (by omega) (by omega), q1 _ _ (by omega) (by omega)]
            exact t4 j e
          · obtain ⟨k, rfl⟩ : ∃ k, j = T + k := ⟨j - T, by omega⟩
            rw [if_neg e, show T + k - T = k by omega, I_self, fdw_n (by omega) (by omega), qb k (by omega), fdw_i (by decide) (by omega)]
            exact ⟨byt_b _ _, rfl, rfl⟩
        all_goals rw [fdw_n (by omega) (by omega), q1 _ _ (by omega) (by omega)]
    · rw [if_neg (by rw [i60, I_le (by omega) (by omega) (by omega) (by omega)]; omega)]
      refine ⟨_, _, w, rfl, ?_, g, p, u, G, H⟩
      rw [l1, l4, c1_r (m_chk hz (by omega) (by omega)), if_pos c, if_neg n10, t3, I_add, if_neg (by rw [i60, I_le (by omega) (by omega) (by omega) (by omega)]; omega)]
  · have hM : (c1 (f_X8_in (I z).toInt64 (1 : Int64) (4 : Int64)) (fun v2 => (if v2 = 0 then (some ((-1 : Int32), w) : Option (Int32 × Wd)) else (if ((w.1 139 14) + I z) ≤ (60 : Int32) then lt (I z - (1 : Int32)) (fun x5 => wl2 (fun (x7 : Int32) (w8 : Wd) k9 => (if x7 < 0 then some ((w8.1 139 14), w8) else rf 153 (w8.2 139 13) 9 (fun t12 => ix (w8.1 139 14) (ln t12) (fun j14 => lt (upI w8 t12 j14 ((a.toUInt32 >>> (((8 : Int32) * x7).toUInt32 &&& Int32.toUInt32 31)).toInt32 &&& (255 : Int32))) (fun w15 => lt (upI w15 139 14 ((w15.1 139 14) + (1 : Int32))) (fun w16 => lt (x7 + (-1 : Int32)) (fun x17 => k9 x17 w16))))))) fu x5 w) else some ((-3 : Int32), w))))) = some (-1, w) := by
      rw [l1, l4, c1_r (m_chk hz (by omega) (by omega)), if_neg c, if_pos z00]
    by_cases d : z < 1
    · rw [if_pos (by rw [i1, I_lt (by omega) (by omega) (by omega) (by omega)]; omega)]
      exact ⟨_, _, w, rfl, hM, g, p, u, G, H⟩
    · rw [if_neg (by rw [i1, I_lt (by omega) (by omega) (by omega) (by omega)]; omega), if_neg (by rw [i4, I_le (by omega) (by omega) (by omega) (by omega)]; omega)]
      exact ⟨_, _, w, rfl, hM, g, p, u, G, H⟩

/-! read, by the model -/
theorem l48 : (48 : Int64) = LI 48 := rfl
theorem l49 : (49 : Int64) = LI 49 := rfl
theorem l51 : (51 : Int64) = LI 51 := rfl
theorem l53 : (53 : Int64) = LI 53 := rfl
def TpM (w : Wd) (T : Nat) (s : Nat → Int) : Prop := ∀ j, j < T → (0 ≤ s j ∧ s j ≤ 255) ∧ w.1 148 j = I (s j)
theorem m_isRight {w : Wd} {T : Nat} {s : Nat → Int} (hW : Wi w.2) (hT : T ≤ 60) (h : TpM w T s) {p : Nat} (hp : p < T) (hd : ∀ q, q < p → okb s q) : (f_X8_isRight 139 (I p) w = some (I 1) ∧ okb s p) ∨ (f_X8_isRight 139 (I p) w = some (I 0) ∧ ¬ okb s p) := by
  have hs := h p hp
  unfold f_X8_isRight
  rw [rfc hW.m13 kd_148 (by decide), ln_148, ix_d (by omega) (by omega) (by decide), lt_d, Int.toNat_natCast, hs.2]
  by_cases c2 : 2 ≤ p
  · obtain ⟨⟨c0, c1', c2'⟩, r0, r1, r2⟩ := okb_cr (hd 0 (by omega)) (hd 1 (by omega))
    have hw : Wh s = 2 + rs s * (cs s + 1) := rfl
    have op : okb s p ↔ (p < Wh s ∧ (if (p - 2) % (cs s + 1) = 0 then s p = 59 else 48 ≤ s p ∧ s p ≤ 51)) := by
      unfold okb okp
      rw [if_neg (by omega)]
      rfl
    have hb := rc_b c2' r2
    have em : ((p - 2 : Nat) : Int) - ((p - 2 : Nat) : Int) / ((cs s + 1 : Nat) : Int) * ((cs s + 1 : Nat) : Int) = (((p - 2) % (cs s + 1) : Nat) : Int) := by
      rw [Int.natCast_emod, Int.emod_def, Int.mul_comm]
    have hml := Nat.mod_lt (p - 2) (Nat.succ_pos (cs s))
    rw [if_pos (show (2 : Int32) ≤ I (p : Int) by rw [i2, I_le (by omega) (by omega) (by omega) (by omega)]; omega), rfc hW.m13 kd_148 (by decide), ln_148, i0, ix_d (by omega) (by omega) (by decide), lt_d, show (0 : Int).toNat = 0 from rfl, (h 0 (by omega)).2, rfc hW.m13 kd_148 (by decide), ln_148, i1, ix_d (by omega) (by omega) (by decide), lt_d, show (1 : Int).toNat = 1 from rfl, (h 1 (by omega)).2, i48, I_sub, I_sub, show s 0 - 48 = (cs s : Int) by omega, show s 1 - 48 = (rs s : Int) by omega, I_add, nS, I_mul, i2, I_add, show (2 : Int) + (rs s : Int) * ((cs s + 1 : Nat) : Int) = ((2 + rs s * (cs s + 1) : Nat) : Int) by rw [← Int.natCast_mul]; omega, I_sub, show (p : Int) - 2 = ((p - 2 : Nat) : Int) by omega, nz_d (show ¬ I ((cs s + 1 : Nat) : Int) = 0 by rw [i0, I_eq (by omega) (by omega) (by omega) (by omega)]; omega), I_div (by omega) (by omega) (by omega) (by omega), I_mul, I_sub, em]
    generalize hN : rs s * (cs s + 1) = N at *
    generalize hm : (p - 2) % (cs s + 1) = m at *
    have hm9 : m < cs s + 1 := hml
    by_cases d : p < Wh s
    · rw [if_pos (show I (p : Int) < I ((2 + N : Nat) : Int) by rw [I_lt (by omega) (by omega) (by omega) (by omega)]; omega)]
      by_cases e : m = 0
      · rw [if_pos (show I (m : Int) = I 0 by rw [e]; rfl)]
        rw [if_pos e] at op
        by_cases f : s p = 59
        · rw [if_pos (show I (s p) = 59 by rw [f]; rfl)]
          exact Or.inl ⟨rfl, op.2 ⟨d, f⟩⟩
        · rw [if_neg (show ¬ I (s p) = 59 by rw [i59, I_eq (by omega) (by omega) (by omega) (by omega)]; exact f)]
          exact Or.inr ⟨rfl, fun g => f (op.1 g).2⟩
      · rw [if_neg (show ¬ I (m : Int) = I 0 by rw [I_eq (by omega) (by omega) (by omega) (by omega)]; omega), l48, l51, c1_r (m_chk (by omega) (by omega) (by omega))]
        rw [if_neg e] at op
        by_cases f : 48 ≤ s p ∧ s p ≤ 51
        · rw [if_pos f, zb_1]
          exact Or.inl ⟨rfl, op.2 ⟨d, f⟩⟩
        · rw [if_neg f, zb_0]
          exact Or.inr ⟨rfl, fun g => f (op.1 g).2⟩
    · rw [if_neg (show ¬ I (p : Int) < I ((2 + N : Nat) : Int) by rw [I_lt (by omega) (by omega) (by omega) (by omega)]; omega)]
      exact Or.inr ⟨rfl, fun g => d (op.1 g).1⟩
  · have op : okb s p ↔ (49 ≤ s p ∧ s p ≤ 53) := by
      unfold okb okp
      rw [if_pos (by omega)]
    rw [if_neg (show ¬ (2 : Int32) ≤ I (p : Int) by rw [i2, I_le (by omega) (by omega) (by omega) (by omega)]; omega), l49, l53, c1_r (m_chk (by omega) (by omega) (by omega))]
    by_cases f : 49 ≤ s p ∧ s p ≤ 53
    · rw [if_pos f, zb_1]
      exact Or.inl ⟨rfl, op.2 f⟩
    · rw [if_neg f, zb_0]
      exact Or.inr ⟨rfl, fun g => f (op.1 g)⟩
theorem m_read {w : Wd} {T : Nat} {s : Nat → Int} {g : Gd} (hW : Wi w.2) (hT : T ≤ 60) (ht : w.1 139 14 = I T) (h : TpM w T s) (hv : GV g) {w3 : Wd} (hd : f_X8_does 139 (upI w 139 14 (I 0)) = some w3) (hW3 : Wi w3.2) (hm3 : MG w3 g) (h3 : ∀ b, w3.1 148 b = w.1 148 b) :
    (∃ p, FTn s T p ∧ f_X8_read 139 w = some (I (-1000 - p), upI w 139 14 (I 0))) ∨
    (FTc s T ∧ ∃ w4, f_X8_read 139 w = some (I (fld (grd (cs s : Int) (rs s : Int) (g 2) (rdt s (cs s) (rs s) (rs s) 0)) 25), w4) ∧ w4.2 = w3.2 ∧ MG w4 (grd (cs s : Int) (rs s : Int) (g 2) (rdt s (cs s) (rs s) (rs s) 0)) ∧ ∀ a b, a ≠ 140 → ¬ (a = 139 ∧ b < 2) → w4.1 a b = w3.1 a b) := by
  unfold f_X8_read
  rw [ht, lt_d, lt_d, i0]
  have hW1 : Wi (upI w 139 14 (I 0)).2 := hW
  have h1 : TpM (upI w 139 14 (I 0)) T s := fun j hj => ⟨(h j hj).1, by rw [upI_n (by omega)]; exact (h j hj).2⟩
  generalize upI w 139 14 (I 0) = w1 at *
  refine wl1_inv (Q := fun r => (∃ p, FTn s T p ∧ r = some (I (-1000 - p), w1)) ∨ (FTc s T ∧ ∃ w4, r = some (I (fld (grd (cs s : Int) (rs s : Int) (g 2) (rdt s (cs s) (rs s) (rs s) 0)) 25), w4) ∧ w4.2 = w3.2 ∧ MG w4 (grd (cs s : Int) (rs s : Int) (g 2) (rdt s (cs s) (rs s) (rs s) 0)) ∧ ∀ a b, a ≠ 140 → ¬ (a = 139 ∧ b < 2) → w4.1 a b = w3.1 a b)) T (fun i x => x = I i ∧ ∀ q, q < i → okb s q) (fu_lt (by omega)) ?_ ?_ ?_
  · exact ⟨rfl, fun q hq => absurd hq (by omega)⟩
  · rintro i hi x ⟨rfl, hdi⟩ k
    simp only [jn_d]
    rw [if_neg (show ¬ (I (T : Int) ≤ I (i : Int)) by rw [I_le (by omega) (by omega) (by omega) (by omega)]; omega)]
    obtain ⟨z1, z2⟩ | ⟨z1, z2⟩ := m_isRight hW1 hT h1 hi hdi
    · left
      refine ⟨I ((i + 1 : Nat) : Int), ⟨rfl, fun q hq => ?_⟩, ?_⟩
      · by_cases e : q = i
        · subst e; exact z2
        · exact hdi q (by omega)
      · rw [c1_r z1, if_neg (by decide), lt_d, i1, I_add, nS]
    · right; left
      refine ⟨i, ⟨by omega, hdi, Or.inl ⟨hi, z2⟩⟩, ?_⟩
      rw [c1_r z1, if_pos rfl, if_pos (show I (i : Int) < I (T : Int) by rw [I_lt (by omega) (by omega) (by omega) (by omega)]; omega), im1000, I_sub]
  · rintro x ⟨rfl, hdi⟩ k
    simp only [jn_d]
    rw [if_pos (show I (T : Int) ≤ I (T : Int) by rw [I_le (by omega) (by omega) (by omega) (by omega)]; omega), if_neg (show ¬ (I (T : Int) < I (T : Int)) by rw [I_lt (by omega) (by omega) (by omega) (by omega)]; omega)]
    by_cases t2 : T < 2
    · left
      refine ⟨T, ⟨by omega, hdi, Or.inr ⟨rfl, Or.inl t2⟩⟩, ?_⟩
      rw [if_pos (show I (T : Int) < 2 by rw [i2, I_lt (by omega) (by omega) (by omega) (by omega)]; omega), im1000, I_sub]
    · obtain ⟨⟨c0, c1', c2'⟩, r0, r1, r2⟩ := okb_cr (hdi 0 (by omega)) (hdi 1 (by omega))
      have hw : Wh s = 2 + rs s * (cs s + 1) := rfl
      have hb := rc_b c2' r2
      rw [if_neg (show ¬ I (T : Int) < 2 by rw [i2, I_lt (by omega) (by omega) (by omega) (by omega)]; omega), rfc hW1.m13 kd_148 (by decide), ln_148, i1, ix_d (by omega) (by omega) (by decide), rfc hW1.m13 kd_148 (by decide), ln_148, show (1 : Int).toNat = 1 from rfl, (h1 1 (by omega)).2, ix_d (by omega) (by omega) (by decide), show (0 : Int).toNat = 0 from rfl, (h1 0 (by omega)).2, i48, I_sub, I_sub, show s 0 - 48 = (cs s : Int) by omega, show s 1 - 48 = (rs s : Int) by omega, I_add, nS, I_mul, i2, I_add, show (2 : Int) + (rs s : Int) * ((cs s + 1 : Nat) : Int) = ((2 + rs s * (cs s + 1) : Nat) : Int) by rw [← Int.natCast_mul]; omega]
      by_cases tw : T < Wh s
      · left
        refine ⟨T, ⟨by omega, hdi, Or.inr ⟨rfl, Or.inr tw⟩⟩, ?_⟩
        rw [if_neg (show ¬ I ((2 + rs s * (cs s + 1) : Nat) : Int) ≤ I (T : Int) by rw [I_le (by omega) (by omega) (by omega) (by omega)]; omega), im1000, I_sub]
      · right
        have hTW : T = 2 + rs s * (cs s + 1) := by
          by_cases e : Wh s < T
          · have := hdi (Wh s) e
            unfold okb okp at this
            rw [if_neg (by omega)] at this
            omega
          · omega
        have hc : FTc s T := ⟨by omega, hTW, hdi⟩
        refine ⟨hc, ?_⟩
        rw [if_pos (show I ((2 + rs s * (cs s + 1) : Nat) : Int) ≤ I (T : Int) by rw [I_le (by omega) (by omega) (by omega) (by omega)]; omega), c1_r hd]
        have e13 : w3.2 139 13 = some 148 := hW3.m13
        have s0 : w3.1 148 0 = I (s 0) := by rw [h3]; exact (h 0 (by omega)).2
        have s1 : w3.1 148 1 = I (s 1) := by rw [h3]; exact (h 1 (by omega)).2
        rw [rfc e13 kd_148 (by decide), ln_148, ix_d (by omega) (by omega) (by decide), lt_d, show (0 : Int).toNat = 0 from rfl, s0, rfc (show (upI w3 139 0 (I (s 0) - I 48)).2 139 13 = some 148 from e13) kd_148 (by decide), ln_148, ix_d (by omega) (by omega) (by decide), lt_d, show (1 : Int).toNat = 1 from rfl, upI_n (show ¬ (148 = 139 ∧ 1 = 0) by decide), s1, I_sub, I_sub, show s 0 - 48 = (cs s : Int) by omega, show s 1 - 48 = (rs s : Int) by omega, c1_r (m_empties (w := upI (upI w3 139 0 (I (cs s))) 139 1 (I (rs s))) hW3), lt_d]
        have hV : ∀ i j, GV (grd (cs s : Int) (rs s : Int) (g 2) (rdt s (cs s) (rs s) i j)) := fun i j => rdt_V hv hc
        have eq0 : (fill (upI (upI w3 139 0 (I (cs s))) 139 1 (I (rs s))) 140 25 (fun _ => I 0)).1 139 1 = I (rs s) := by rw [fill_n (by omega), upI_s]
        rw [eq0]
        have h148 : ∀ j, j < T → w3.1 148 j = I (s j) := fun j hj => by rw [h3]; exact (h j hj).2
        have m139 : ∀ b, b < 3 → (fill (upI (upI w3 139 0 (I (cs s))) 139 1 (I (rs s))) 140 25 (fun _ => I 0)).1 139 b = (if b = 0 then I (cs s) else if b = 1 then I (rs s) else I (g 2)) := fun b hb => by
          rw [fill_n (by omega)]
          obtain rfl | rfl | rfl : b = 0 ∨ b = 1 ∨ b = 2 := by omega
          · rw [upI_n (by omega), upI_s]; rfl
          · rw [upI_s]; rfl
          · rw [upI_n (by omega), upI_n (by omega), hm3.2.2.1]; rfl
        have m140 : ∀ q, q < 25 → (fill (upI (upI w3 139 0 (I (cs s))) 139 1 (I (rs s))) 140 25 (fun _ => I 0)).1 140 q = I 0 := fun q hq => by rw [fill_i hq]
        have mfr : ∀ a b, a ≠ 140 → ¬ (a = 139 ∧ b < 2) → (fill (upI (upI w3 139 0 (I (cs s))) 139 1 (I (rs s))) 140 25 (fun _ => I 0)).1 a b = w3.1 a b := fun a b h1 h2 => by rw [fill_n (by omega), upI_n (by omega), upI_n (by omega)]
        have mw2 : (fill (upI (upI w3 139 0 (I (cs s))) 139 1 (I (rs s))) 140 25 (fun _ => I 0)).2 = w3.2 := rfl
        generalize fill (upI (upI w3 139 0 (I (cs s))) 139 1 (I (rs s))) 140 25 (fun _ => I 0) = w5 at *
        have b0 : w5.1 139 0 = I (cs s) := m139 0 (by decide)
        have b1 : w5.1 139 1 = I (rs s) := m139 1 (by decide)
        have b2 : w5.1 139 2 = I (g 2) := m139 2 (by decide)
        generalize hcs : cs s = c at *
        generalize hrs : rs s = r at *
        refine wl2_inv (Q := fun z => ∃ w4, z = some (I (fld (grd (c : Int) (r : Int) (g 2) (rdt s c r r 0)) 25), w4) ∧ w4.2 = w3.2 ∧ MG w4 (grd (c : Int) (r : Int) (g 2) (rdt s c r r 0)) ∧ ∀ a b, a ≠ 140 → ¬ (a = 139 ∧ b < 2) → w4.1 a b = w3.1 a b) r (fun i y (v : Wd) => y = I ((r : Int) - i) ∧ v.2 = w3.2 ∧ (∀ q, q < 25 → v.1 140 q = I (rdt s c r i 0 q)) ∧ ∀ a b, a ≠ 140 → v.1 a b = w5.1 a b) (fu_lt (by omega)) ?_ ?_ ?_
        · exact ⟨congrArg I (by omega), mw2, fun q hq => by rw [m140 q hq, rdt_0], fun _ _ _ => rfl⟩
        · rintro i hi y v ⟨rfl, hv2, hvq, hf⟩ k
          rw [if_neg (show ¬ (I ((r : Int) - i) ≤ I 0) by rw [I_le (by omega) (by omega) (by omega) (by omega)]; omega)]
          left
          refine wl2_inv (Q := fun z => ∃ t0 t1, (t0 = I ((r : Int) - ((i + 1 : Nat) : Int)) ∧ t1.2 = w3.2 ∧ (∀ q, q < 25 → t1.1 140 q = I (rdt s c r (i + 1) 0 q)) ∧ ∀ a b, a ≠ 140 → t1.1 a b = w5.1 a b) ∧ z = k t0 t1) c (fun j y (v : Wd) => y = I ((j : Int) + 1) ∧ v.2 = w3.2 ∧ (∀ q, q < 25 → v.1 140 q = I (rdt s c r i j q)) ∧ ∀ a b, a ≠ 140 → v.1 a b = w5.1 a b) (fu_lt (by omega)) ?_ ?_ ?_
          · exact ⟨rfl, hv2, hvq, hf⟩
          · rintro j hj y u ⟨rfl, hu2, huq, hfu⟩ kk
            have hWu : Wi u.2 := by rw [hu2]; exact hW3
            have hpl := pos_lt hi hj
            have hmu : i * (c + 1) ≤ r * (c + 1) := Nat.mul_le_mul_right _ (by omega)
            left
            refine ⟨I (((j + 1 : Nat) : Int) + 1), upI u 140 (5 * j + (r - 1 - i)) (I (s (2 + i * (c + 1) + (j + 1)) - 48)), ⟨rfl, hu2, fun q hq => ?_, fun a b h => by rw [upI_n (by omega)]; exact hfu a b h⟩, ?_⟩
            · by_cases e : q = 5 * j + (r - 1 - i)
              · subst e; rw [upI_s, rdt_s hi hj (by omega) (by omega)]
              · rw [upI_n (by omega), huq q hq, rdt_n hi hj (by omega) (by omega) hq e]
            · rw [hfu 139 0 (by omega), b0, hfu 139 1 (by omega), b1, if_neg (show ¬ (I (c : Int) < I ((j : Int) + 1)) by rw [I_lt (by omega) (by omega) (by omega) (by omega)]; omega), rfc hWu.m3 kd_140 (by decide), c1_r (m_at _ _), rfc hWu.m13 kd_148 (by decide), I_sub, show (r : Int) - ((r : Int) - i) = (i : Int) by omega, I_add, nS, I_mul, I_add, I_add, show (2 : Int) + (i : Int) * ((c + 1 : Nat) : Int) + ((j : Int) + 1) = ((2 + i * (c + 1) + (j + 1) : Nat) : Int) by rw [← Int.natCast_mul]; omega, ln_148, ix_d (by omega) (by omega) (by decide), ln_140, ix_d (by omega) (by omega) (by decide), lt_d, Int.toNat_natCast, hfu 148 _ (by omega), mfr 148 _ (by omega) (by omega), h148 _ (by omega), I_sub, lt_d, I_add, show (5 * ((j : Int) + 1 - 1) + ((r : Int) - i) - 1).toNat = 5 * j + (r - 1 - i) by omega]
              rfl
          · rintro y u ⟨rfl, hu2, huq, hfu⟩ kk
            rw [hfu 139 0 (by omega), b0, if_pos (show I (c : Int) < I ((c : Int) + 1) by rw [I_lt (by omega) (by omega) (by omega) (by omega)]; omega), lt_d, show -I 1 = I (-1) from rfl, I_add]
            refine ⟨_, u, ⟨rfl, hu2, fun q hq => by rw [huq q hq, rdt_e], hfu⟩, ?_⟩
            exact congrFun (congrArg k (congrArg I (by omega))) u
        · rintro y v ⟨rfl, hv2, hvq, hf⟩ k
          have hWv : Wi v.2 := by rw [hv2]; exact hW3
          have hmg : MG v (grd (c : Int) (r : Int) (g 2) (rdt s c r r 0)) := grd_MG (by rw [hf _ _ (by omega), b0]) (by rw [hf _ _ (by omega), b1]) (by rw [hf _ _ (by omega), b2]) hvq
          rw [if_pos (show I ((r : Int) - (r : Int)) ≤ I 0 by rw [I_le (by omega) (by omega) (by omega) (by omega)]; omega), c1_r (m_filled hWv hmg (hV _ _))]
          exact ⟨v, rfl, hv2, hmg, fun a b h1 h2 => by rw [hf _ _ h1, mfr _ _ h1 h2]⟩
theorem op_read : Op2 (f_X7_read 0) (f_X8_read 139) := by
  rintro w ⟨g, p, u, G, H⟩
  obtain ⟨hW, ⟨hv, hc, hm⟩, hrc, hrd, hri, ⟨T, s, t1, t2, t3, t4⟩, hrh, hrs⟩ := id H
  have e8 := hW.1.2.2.2.2.2.2.1
  have hTC : TpC w T s := ⟨t2, fun j hj => ⟨(t4 j hj).1, (t4 j hj).2.1⟩⟩
  obtain ⟨w1, b1, b2, b3, b4, b5, b6⟩ := H.begin
  obtain ⟨q, z1, z2⟩ | ⟨z1, z2⟩ := s_faultPlace hW t1 hTC
  · have hq : q ≤ 60 := by have := z1.1; omega
    have hm2 : MG (upI (upI w 112 1 (I 0)) 139 14 (I 0)) g := hm.of (fun b hb => by rw [upI_n (by omega), upI_n (by omega)]) (fun b => by rw [upI_n (by omega), upI_n (by omega)])
    obtain ⟨w3, d1, d2, d3, d4⟩ := m_does (w := upI (upI w 112 1 (I 0)) 139 14 (I 0)) hW (hrd.2.2.2.2.of (fun b _ _ => by rw [upI_n (by omega), upI_n (by omega)]) (fun b => by rw [upI_n (by omega), upI_n (by omega)]) (fun b => by rw [upI_n (by omega), upI_n (by omega)])) hm2 (by have := hrd.2.2.1; omega)
    have hW3 : Wi w3.2 := by rw [d2]; exact hW
    have mr := m_read (w := upI w 112 1 (I 0)) hW t1 (by rw [upI_n (by omega)]; exact t3) (fun j hj => ⟨(t4 j hj).1, by rw [upI_n (by omega)]; exact (t4 j hj).2.2⟩) hv d1 hW3 (hm2.of (fun b hb => d4 _ _ (by omega) (by omega)) (fun b => d4 _ _ (by omega) (by omega))) (fun b => by rw [d4 _ _ (by omega) (by omega), upI_n (by omega)])
    obtain ⟨q', y1, y2⟩ | ⟨y1, y2⟩ := mr
    · obtain rfl := FTn_u z1 y1
      refine ⟨_, upI w 112 1 (I 0), upI (upI w 112 1 (I 0)) 139 14 (I 0), ?_, y2, g, p, u, G, hW, ⟨hv, hc.of (fun b => ?_) (fun b => ?_), hm2⟩, hrc.of hv (fun a b h => ?_), hrd.of (fun a b h => ?_) (fun b => rfl), hri.of (fun a b h => ?_), ⟨0, s, by omega, ?_, ?_, fun j hj => absurd hj (by omega)⟩, hrh.of (fun a b h => ?_), hrs.of (fun a b h => ?_)⟩
      · unfold f_X7_read
        rw [rfc e8 kd_112 (by decide), c1_r z2]
        simp only [jn_d]
        rw [if_pos (show 0 ≤ I (q : Int) by rw [i0, I_le (by omega) (by omega) (by omega) (by omega)]; omega), rfc e8 kd_112 (by decide), lt_d, if_pos (show 0 ≤ I (q : Int) by rw [i0, I_le (by omega) (by omega) (by omega) (by omega)]; omega), lt_d, im1000, I_sub, i0]
      case refine_7 => rw [upI_n (by omega), upI_s]; rfl
      case refine_8 => rw [upI_s]; rfl
      all_goals rw [upI_n (by omega), upI_n (by omega)]
    · exact (FTn_c z1 y1).elim
  · obtain ⟨w2, s1, s2, s3, s4⟩ := s_writeInto b2 t1 (hTC.of (b5 _ _ (by omega) (by omega) (by omega)) (fun b => b5 _ _ (by omega) (by omega) (by omega))) z1 hv b3
    have hgv : GV (grd (cs s : Int) (rs s : Int) (g 2) (rdt s (cs s) (rs s) (rs s) 0)) := rdt_V hv z1
    obtain ⟨d1, d2, w3, d3, d4, d5, d6, d7⟩ := b6 (upI (upI w2 112 1 (I 0)) 139 14 (I 0)) s2 (fun a b h1 h2 h3 h4 => by rw [upI_n (by omega), upI_n (by omega), s4 _ _ (by omega) (by omega)])
    have hW2 : Wi w2.2 := by rw [s2]; exact b2
    have mr := m_read (w := upI w2 112 1 (I 0)) hW2 t1 (by rw [upI_n (by omega), s4 _ _ (by omega) (by omega), b5 _ _ (by omega) (by omega) (by omega)]; exact t3) (fun j hj => ⟨(t4 j hj).1, by rw [upI_n (by omega), s4 _ _ (by omega) (by omega), b5 _ _ (by omega) (by omega) (by omega)]; exact (t4 j hj).2.2⟩) hv d3 d4 d5 (fun b => by rw [d6 _ _ (by omega) (by omega), upI_n (by omega)])
    obtain ⟨q', y1, y2⟩ | ⟨y1, w4, y2, y3, y4, y5⟩ := mr
    · exact (FTn_c y1 z1).elim
    · refine ⟨_, upI w2 112 1 (I 0), w4, ?_, y2, d7 w4 _ y3 (fun a b h => y5 a b (by omega) (by omega)) hgv (s3.of (fun b => by rw [upI_n (by omega), upI_n (by omega)]) (fun b => by rw [upI_n (by omega), upI_n (by omega)])) y4 ⟨0, s, by omega, ?_, ?_, fun j hj => absurd hj (by omega)⟩⟩
      · have e8' : w2.2 0 8 = some 112 := hW2.1.2.2.2.2.2.2.1
        have e81 : w1.2 0 8 = some 112 := b2.1.2.2.2.2.2.2.1
        have e0' : (upI w2 112 1 (I 0)).2 0 0 = some 1 := hW2.1.1
        have hs3 : CG (upI w2 112 1 (I 0)) 1 (grd (cs s : Int) (rs s : Int) (g 2) (rdt s (cs s) (rs s) (rs s) 0)) := s3.of (fun b => by rw [upI_n (by omega)]) (fun b => by rw [upI_n (by omega)])
        unfold f_X7_read
        rw [rfc e8 kd_112 (by decide), c1_r z2]
        simp only [jn_d]
        rw [if_neg (show ¬ (0 ≤ I (-1)) by decide), c1_r b1, rfc e81 kd_112 (by decide), rfc b2.1.1 kd_1 (by decide), c1_r s1, rfc e8' kd_112 (by decide), i0, lt_d, if_neg (show ¬ (I 0 ≤ I (-1)) by decide), rfc e0' kd_1 (by decide), c1_r (s_filled kd_1 (show (upI w2 112 1 (I 0)).2 1 3 = some (1 + 1) from hW2.2.1 _ kd_1) hs3 hgv)]
      · rw [y5 _ _ (by omega) (by omega), d6 _ _ (by omega) (by omega), upI_n (by omega), upI_s]; rfl
      · rw [y5 _ _ (by omega) (by omega), d6 _ _ (by omega) (by omega), upI_s]; rfl

/-! back, by the model -/
def MS (w : Wd) (x y : Nat) (s : Nat → Int) : Prop := ∀ k, k < 80 → w.1 144 (80 * (6 * x + y) + k) = I (s k)
theorem MS.of {w w' : Wd} {x y : Nat} {s : Nat → Int} (h : MS w x y s) (f : ∀ k, k < 80 → w'.1 144 (80 * (6 * x + y) + k) = w.1 144 (80 * (6 * x + y) + k)) : MS w' x y s := fun k hk => (f k hk).trans (h k hk)
theorem m_lenS {w : Wd} {a b : Nat} {s : Nat → Int} {W : Int} (hW : Wi w.2) (ha : a ≤ 5) (hb : b ≤ 5) (h : MS w a b s) (hs : Gs s W) (hw : W ≤ 75) : f_X8_lengthOf 139 (I a) (I b) w = some (I (len s)) := by
  unfold f_X8_lengthOf f_X8_partOf
  rw [← cnt_75 hs 5]
  refine wl2_for 80 (fun i => I (cnt s i)) (fun i => I i) (by decide) rfl rfl (fun i hi k => ?_) (fun k => ?_)
  · have x1 := hs.1 i; have x2 := hs.b i
    rw [if_neg (show ¬ ((80 : Int32) ≤ I (i : Int)) by rw [i80, I_le (by omega) (by omega) (by omega) (by omega)]; omega), if_neg (show ¬ ((80 : Int32) ≤ I (i : Int)) by rw [i80, I_le (by omega) (by omega) (by omega) (by omega)]; omega), rfc hW.m9 kd_144 (by decide), c1_r (m_from _ _), I_add, ln_144, ix_d (by omega) (by omega) (by decide), lt_d, show (80 * (6 * (a : Int) + (b : Int)) + (i : Int)).toNat = 80 * (6 * a + b) + i by omega, h i hi, c1_d]
    simp (disch := omega) only [↓j_m1, ↓j_m2, ↓j_m3, ↓j_m5, ↓j_m6, ↓j_m11, ↓j_m12, ↓j_m13, ↓j_m14, ↓j_m1000, j_0, j_1, j_2, j_3, j_4, j_5, j_6, j_7, j_8, j_9, j_10, j_12, j_14, j_20, j_25, j_26, j_28, j_30, j_36, j_48, j_49, j_50, j_53, j_57, j_59, j_60, j_63, j_75, j_80, j_99, j_100, j_196, j_255, j_1000, lt_d, I_le, I_ite, I_add, nS]
    rw [cnt_s]
    congr 3
    (repeat' split) <;> omega
  · rw [if_pos (by decide)]
theorem ls1 {x y : Int} (hx : -1000 ≤ x ∧ x < 1000) (hy : -1000 ≤ y ∧ y < 1000) : (if I y ≤ I x then I y else I x) = I (lo x y) := by
  have l := lo_c x y
  by_cases c : y ≤ x
  · rw [if_pos (show I y ≤ I x by rw [I_le (by omega) (by omega) (by omega) (by omega)]; exact c)]
    exact congrArg I (by omega)
  · rw [if_neg (show ¬ I y ≤ I x by rw [I_le (by omega) (by omega) (by omega) (by omega)]; exact c)]
    exact congrArg I (by omega)
theorem ms1 {x y : Int} (hx : -1000 ≤ x ∧ x < 1000) (hy : -1000 ≤ y ∧ y < 1000) : (if I x ≤ I y then I y else I x) = I (mx x y) := by
  have l := mx_c x y
  by_cases c : x ≤ y
  · rw [if_pos (show I x ≤ I y by rw [I_le (by omega) (by omega) (by omega) (by omega)]; exact c)]
    exact congrArg I (by omega)
  · rw [if_neg (show ¬ I x ≤ I y by rw [I_le (by omega) (by omega) (by omega) (by omega)]; exact c)]
    exact congrArg I (by omega)
theorem m_shrinks {w : Wd} {x y : Nat} {q : Int} {sn sa sb : Nat → Int} {Wn Wa Wb : Int} (hW : Wi w.2) (hq : 0 ≤ q ∧ q ≤ 3) (hx : x + 1 ≤ 5) (hy : y + 1 ≤ 5) (Mn : MS w (x + 1) (y + 1) sn) (Ma : MS w x (y + 1) sa) (Mb : MS w (x + 1) y sb) (hn : Gs sn Wn) (hWn : Wn ≤ 75) (ha : Gs sa Wa) (hb : Gs sb Wb) (Sa : Sp (eC q) sa sn) (Sb : Sp (eR q) sb sn) :
    ∃ w' : Wd, f_X8_shrinks 139 (I ((x : Int) + 1)) (I ((y : Int) + 1)) (I q) w = some (I (bm q sn sa sb), w') ∧ w'.2 = w.2 ∧ MS w' x y (bo q sn sa sb) ∧ ∀ a b, ¬ (a = 144 ∧ 80 * (6 * x + y) ≤ b ∧ b < 80 * (6 * x + y) + 80) → w'.1 a b = w.1 a b := by
  have all := bk_all hq hn hWn ha hb Sa Sb
  have hl := len_b sn
  have oz := fun k => (bo_z (q := q) (n := sn) (a := sa) (b := sb) (i := k))
  unfold f_X8_shrinks
  rw [c1_r (m_from _ _), show I ((x : Int) + 1) - (1 : Int32) = I (x : Int) from (I_sub _ 1).trans (congrArg I (by omega)), show I ((y : Int) + 1) - (1 : Int32) = I (y : Int) from (I_sub _ 1).trans (congrArg I (by omega)), c1_r (m_from _ _), c1_r (m_from _ _), c1_r (m_from _ _), c1_r (show f_X8_lengthOf 139 (I ((x : Int) + 1)) (I ((y : Int) + 1)) w = some (I (len sn)) from m_lenS (a := x + 1) (b := y + 1) hW hx hy Mn hn hWn)]
  refine wl2_inv (Q := fun r => ∃ w' : Wd, r = some (I (bm q sn sa sb), w') ∧ w'.2 = w.2 ∧ MS w' x y (bo q sn sa sb) ∧ ∀ a b, ¬ (a = 144 ∧ 80 * (6 * x + y) ≤ b ∧ b < 80 * (6 * x + y) + 80) → w'.1 a b = w.1 a b) 80 (fun i z (v : Wd) => z = I i ∧ v = lay w 144 (80 * (6 * x + y)) (fun _ => I 0) i) (fu_lt (by omega)) ?_ ?_ ?_
  · exact ⟨rfl, (lay_0 _ _ _ _).symm⟩
  · rintro i hi z v ⟨rfl, rfl⟩ k
    left
    refine ⟨I ((i + 1 : Nat) : Int), lay w 144 (80 * (6 * x + y)) (fun _ => I 0) (i + 1), ⟨rfl, rfl⟩, ?_⟩
    rw [if_neg (show ¬ ((80 : Int32) ≤ I (i : Int)) by rw [i80, I_le (by omega) (by omega) (by omega) (by omega)]; omega), rfc (show (lay w 144 (80 * (6 * x + y)) (fun _ => I 0) i).2 139 9 = some 144 from hW.m9) kd_144 (by decide), I_add, ln_144, ix_d (by omega) (by omega) (by decide), lt_d, lt_d, show (80 * (6 * (x : Int) + (y : Int)) + (i : Int)).toNat = 80 * (6 * x + y) + i by omega, i0, lay_s rfl rfl, i1, I_add, nS]
  · rintro z v ⟨rfl, rfl⟩ k
    rw [if_pos (by decide), lt_d, show I (len sn : Int) - (1 : Int32) = I ((len sn : Int) - 1) from I_sub _ 1]
    refine wl3_inv (Q := fun r => ∃ w' : Wd, r = some (I (bm q sn sa sb), w') ∧ w'.2 = w.2 ∧ MS w' x y (bo q sn sa sb) ∧ ∀ a b, ¬ (a = 144 ∧ 80 * (6 * x + y) ≤ b ∧ b < 80 * (6 * x + y) + 80) → w'.1 a b = w.1 a b) (len sn) (fun d z t (v : Wd) => z = I (bc q sn sa sb (len sn) d) ∧ t = I ((len sn : Int) - 1 - d) ∧ v.2 = w.2 ∧ (∀ k, k < 80 → v.1 144 (80 * (6 * x + y) + k) = I (if len sn - d ≤ k then bo q sn sa sb k else 0)) ∧ ∀ a b, ¬ (a = 144 ∧ 80 * (6 * x + y) ≤ b ∧ b < 80 * (6 * x + y) + 80) → v.1 a b = w.1 a b) (fu_lt (by omega)) ?_ ?_ ?_
    · refine ⟨rfl, congrArg I (by omega), rfl, fun k hk => ?_, fun a b h => lay_n h⟩
      rw [lay_i hk]
      congr 1
      split
      · rw [oz k (by omega)]
      · rfl
    · rintro d hd z t v ⟨rfl, rfl, hv2, hvk, hf⟩ k
      obtain ⟨A1, A2, A3⟩ := all d (by omega)
      have hWv : Wi v.2 := by rw [hv2]; exact hW
      have hbs := bc_s q sn sa sb d hd
      have hbd := bo_d (q := q) (a := sa) (b := sb) hd
      have nb := hn.b (len sn - 1 - d); have n0 := hn.1 (len sn - 1 - d); have a0 := ha.1 (len sn - 1 - d); have b0 := hb.1 (len sn - 1 - d); have a1 := Sa.1 (len sn - 1 - d); have b1 := Sb.1 (len sn - 1 - d)
      rw [show (len sn : Int) - 1 - d = ((len sn - 1 - d : Nat) : Int) by omega]
      have hi9 : len sn - 1 - d < 80 := by omega
      have hie : len sn - (d + 1) = len sn - 1 - d := by omega
      have hid : len sn - d = len sn - 1 - d + 1 := by omega
      generalize hii : len sn - 1 - d = i at *
      have Vn : v.1 144 (80 * (6 * (x + 1) + (y + 1)) + i) = I (sn i) := by rw [hf _ _ (by omega)]; exact Mn i hi9
      have Va : v.1 144 (80 * (6 * x + (y + 1)) + i) = I (sa i) := by rw [hf _ _ (by omega)]; exact Ma i hi9
      have Vb : v.1 144 (80 * (6 * (x + 1) + y) + i) = I (sb i) := by rw [hf _ _ (by omega)]; exact Mb i hi9
      have e1 : ∀ {ρ : Type} (K : Nat → Option ρ), rf 153 (v.2 139 9) 9 K = K 144 := fun K => rfc hWv.m9 kd_144 (by decide) K
      have e2 : ∀ {ρ : Type} (K : Nat → Option ρ), ix (I (80 * (6 * ((x : Int) + 1) + ((y : Int) + 1))) + I (i : Int)) (ln 144) K = K (80 * (6 * (x + 1) + (y + 1)) + i) := fun K => by rw [I_add, ln_144, ix_d (by omega) (by omega) (by decide), show (80 * (6 * ((x : Int) + 1) + ((y : Int) + 1)) + (i : Int)).toNat = 80 * (6 * (x + 1) + (y + 1)) + i by omega]
      have e3 : ∀ {ρ : Type} (K : Nat → Option ρ), ix (I (80 * (6 * (x : Int) + ((y : Int) + 1))) + I (i : Int)) (ln 144) K = K (80 * (6 * x + (y + 1)) + i) := fun K => by rw [I_add, ln_144, ix_d (by omega) (by omega) (by decide), show (80 * (6 * (x : Int) + ((y : Int) + 1)) + (i : Int)).toNat = 80 * (6 * x + (y + 1)) + i by omega]
      have e4 : ∀ {ρ : Type} (K : Nat → Option ρ), ix (I (80 * (6 * ((x : Int) + 1) + (y : Int))) + I (i : Int)) (ln 144) K = K (80 * (6 * (x + 1) + y) + i) := fun K => by rw [I_add, ln_144, ix_d (by omega) (by omega) (by decide), show (80 * (6 * ((x : Int) + 1) + (y : Int)) + (i : Int)).toNat = 80 * (6 * (x + 1) + y) + i by omega]
      have e5 : ∀ {ρ : Type} (K : Nat → Option ρ), ix (I (80 * (6 * (x : Int) + (y : Int))) + I (i : Int)) (ln 144) K = K (80 * (6 * x + y) + i) := fun K => by rw [I_add, ln_144, ix_d (by omega) (by omega) (by decide), show (80 * (6 * (x : Int) + (y : Int)) + (i : Int)).toNat = 80 * (6 * x + y) + i by omega]
      have fin : ∀ (o' : Option (Int32 × Wd)) (c2 o2 : Int32), c2 = I (bc q sn sa sb (len sn) (d + 1)) → o2 = I (bo q sn sa sb i) → o' = k c2 (I (i : Int) + (-1 : Int32)) (upI v 144 (80 * (6 * x + y) + i) o2) → (∃ t0 t1 t2, (t0 = I (bc q sn sa sb (len sn) (d + 1)) ∧ t1 = I ((len sn : Int) - 1 - ((d + 1 : Nat) : Int)) ∧ t2.2 = w.2 ∧ (∀ k, k < 80 → t2.1 144 (80 * (6 * x + y) + k) = I (if len sn - (d + 1) ≤ k then bo q sn sa sb k else 0)) ∧ ∀ a b, ¬ (a = 144 ∧ 80 * (6 * x + y) ≤ b ∧ b < 80 * (6 * x + y) + 80) → t2.1 a b = w.1 a b) ∧ o' = k t0 t1 t2) := fun o' c2 o2 h1 h2 h3 => by
        refine ⟨c2, I (i : Int) + (-1 : Int32), upI v 144 (80 * (6 * x + y) + i) o2, ⟨h1, by rw [im1, I_add]; exact congrArg I (by omega), hv2, fun kk hkk => ?_, fun a b h => by rw [upI_n (by omega)]; exact hf a b h⟩, h3⟩
        by_cases e : kk = i
        · subst e
          rw [upI_s, h2, if_pos (by omega)]
        · rw [upI_n (by omega), hvk kk hkk]
          congr 1
          by_cases f : len sn - d ≤ kk
          · rw [if_pos f, if_pos (by omega)]
          · rw [if_neg f, if_neg (by omega)]
      rw [if_neg (show ¬ (I (i : Int) < 0) by rw [i0, I_lt (by omega) (by omega) (by omega) (by omega)]; omega)]
      left
      simp only [e1, e2, e3, e4, e5, Vn, Va, Vb, jn_d, lt_d]
      have cb := A2
      generalize bc q sn sa sb (len sn) d = c at *
      have lm := lo_c (sa i) (sb i)
      have mm := mx_c (sa i) (sb i)
      have hz : q = 0 ∨ q = 1 ∨ q = 2 ∨ q = 3 := by omega
      obtain rfl | rfl | rfl | rfl := hz
      · have ob : bO 0 (sn i) (sa i) (sb i) c = lo (sa i) (sb i) - c := rfl
        refine fin _ _ _ ?_ ?_ (by rw [if_neg (show ¬ I 0 = 2 by decide), if_pos (show I 0 = 0 from rfl)])
        · rw [ms1 (by omega) (by omega), I_sub]
          exact congrArg I (by omega)
        · rw [ls1 (by omega) (by omega), I_sub]
          exact congrArg I (by omega)
      · have ob : bO 1 (sn i) (sa i) (sb i) c = lo (sa i) (sb i - c) := rfl
        have lm1 := lo_c (sa i) (sb i - c)
        have mm1 := mx_c (sa i) (sb i - c)
        refine fin _ _ _ ?_ ?_ (by rw [if_neg (show ¬ I 1 = 2 by decide), if_neg (show ¬ I 1 = 0 by decide), if_neg (show ¬ (3 : Int32) ≤ I 1 by decide)])
        · rw [I_sub, ms1 (by omega) (by omega), I_sub]
          exact congrArg I (by omega)
        · rw [I_sub, ls1 (by omega) (by omega)]
          exact congrArg I (by omega)
      · have ob : bO 2 (sn i) (sa i) (sb i) c = lo (sa i - c) (sb i) := rfl
        have lm0 := lo_c (sa i - c) (sb i)
        have lm1 := lo_c (sb i) (sa i - c)
        have mm1 := mx_c (sb i) (sa i - c)
        refine fin _ _ _ ?_ ?_ (by rw [if_pos (show I 2 = 2 from rfl), if_neg (show ¬ I 2 = 0 by decide), if_neg (show ¬ (3 : Int32) ≤ I 2 by decide)])
        · rw [I_sub, ms1 (by omega) (by omega), I_sub]
          exact congrArg I (by omega)
        · rw [I_sub, ls1 (by omega) (by omega)]
          exact congrArg I (by omega)
      · have ob : bO 3 (sn i) (sa i) (sb i) c = lo (sa i) (sb i) - lo (tri (sn i) (sa i) (sb i)) c := rfl
        have et : (if I (sn i) = I (sa i) then (if I (sa i) = I (sb i) then (1 : Int32) else (0 : Int32)) else (0 : Int32)) = I (tri (sn i) (sa i) (sb i)) := by
          unfold tri
          simp (disch := omega) only [↓j_m1, ↓j_m2, ↓j_m3, ↓j_m5, ↓j_m6, ↓j_m11, ↓j_m12, ↓j_m13, ↓j_m14, ↓j_m1000, j_0, j_1, j_2, j_3, j_4, j_5, j_6, j_7, j_8, j_9, j_10, j_12, j_14, j_20, j_25, j_26, j_28, j_30, j_36, j_48, j_49, j_50, j_53, j_57, j_59, j_60, j_63, j_75, j_80, j_99, j_100, j_196, j_255, j_1000, I_eq, I_ite]
        have t01 : 0 ≤ tri (sn i) (sa i) (sb i) ∧ tri (sn i) (sa i) (sb i) ≤ 1 := by
          unfold tri
          (repeat' split) <;> omega
        have lm1 := lo_c (tri (sn i) (sa i) (sb i)) c
        have lm2 := lo_c c (tri (sn i) (sa i) (sb i))
        refine fin _ _ _ ?_ ?_ (by rw [if_neg (show ¬ I 3 = 2 by decide), if_neg (show ¬ I 3 = 0 by decide), if_pos (show (3 : Int32) ≤ I 3 by decide)])
        · rw [et, ls1 (by omega) (by omega), ms1 (by omega) (by omega), I_sub, I_add, I_sub]
          exact congrArg I (by omega)
        · rw [et, ls1 (by omega) (by omega), ls1 (by omega) (by omega), I_sub]
          exact congrArg I (by omega)
    · rintro z t v ⟨rfl, rfl, hv2, hvk, hf⟩ k
      rw [if_pos (show I ((len sn : Int) - 1 - (len sn : Int)) < 0 by rw [i0, I_lt (by omega) (by omega) (by omega) (by omega)]; omega)]
      exact ⟨v, rfl, hv2, fun k hk => by rw [hvk k hk, if_pos (by omega)], hf⟩

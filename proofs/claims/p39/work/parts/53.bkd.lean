/-! back, over all cells -/
theorem s_setN {w : Wd} {t C R : Nat} {x y : Int} (v : Int32) (hk : kd t = 0) (hr : w.2 t 3 = some (t + 1)) (h0 : w.1 t 0 = I C) (h1 : w.1 t 1 = I R) (hC : C ≤ 5) (hR : R ≤ 5) (hx : 1 ≤ x ∧ x ≤ (C : Int)) (hy : 1 ≤ y ∧ y ≤ (R : Int)) :
    f_X0_setNumber t (I x) (I y) v w = some (upI w (t + 1) (5 * (x - 1) + (y - 1)).toNat v) := by
  have hh : f_X0_hasCell t (I x) (I y) w = some (I 1) := by
    unfold f_X0_hasCell
    rw [h0, h1]
    simp (disch := omega) only [lt_d, i0, i1, i2, i3, i4, i5, i6, i7, i8, i9, i10, i12, i14, i20, i25, i26, i28, i30, i36, i48, i49, i50, i53, i57, i59, i60, i63, i75, i80, i99, i100, i196, i255, i1000, im1, im2, im3, im5, im6, im11, im12, im13, im14, im1000, I_lt, I_le, I_eq]
    rw [if_neg (by omega), if_neg (by omega), if_neg (by omega), if_neg (by omega), zb_1]
  unfold f_X0_setNumber f_X0_placeOf
  rw [c1_r hh, if_neg (by decide), nums hk hr, c1_d]
  simp only [i0, i1, i2, i3, i4, i5, i6, i7, i8, i9, i10, i12, i14, i20, i25, i26, i28, i30, i36, i48, i49, i50, i53, i57, i59, i60, i63, i75, i80, i99, i100, i196, i255, i1000, im1, im2, im3, im5, im6, im11, im12, im13, im14, im1000, I_add, I_sub, I_mul, I_nat]
  rw [(kdC hk).2.2, ix_d (by omega) (by omega) (by decide), lt_d]
  congr 3
  omega
/-- the number that place p has when the cells up to (i, j) are found -/
def SN (q : Int) (g : Gd) (C R : Nat) (ini : Nat → Int) (i j p : Nat) : Int := if (p / 5 < C ∧ p % 5 < R) ∧ (C - 1 - p / 5 < i ∨ (C - 1 - p / 5 = i ∧ R - 1 - p % 5 < j)) then BM q g C R (C - 1 - p / 5) (R - 1 - p % 5) else ini p
theorem SN_s {q : Int} {g : Gd} {C R i j : Nat} {ini : Nat → Int} (hi : i < C) (hj : j < R) (hC : C ≤ 5) (hR : R ≤ 5) : SN q g C R ini i (j + 1) (5 * (C - 1 - i) + (R - 1 - j)) = BM q g C R i j := by
  unfold SN
  rw [if_pos (by omega), show C - 1 - (5 * (C - 1 - i) + (R - 1 - j)) / 5 = i by omega, show R - 1 - (5 * (C - 1 - i) + (R - 1 - j)) % 5 = j by omega]
theorem SN_n {q : Int} {g : Gd} {C R i j p : Nat} {ini : Nat → Int} (hi : i < C) (hj : j < R) (hC : C ≤ 5) (hR : R ≤ 5) (hp : p < 25) (h : p ≠ 5 * (C - 1 - i) + (R - 1 - j)) : SN q g C R ini i (j + 1) p = SN q g C R ini i j p := by
  unfold SN
  by_cases c : (p / 5 < C ∧ p % 5 < R) ∧ (C - 1 - p / 5 < i ∨ (C - 1 - p / 5 = i ∧ R - 1 - p % 5 < j))
  · rw [if_pos c, if_pos (by omega)]
  · rw [if_neg c, if_neg (by omega)]
theorem SN_e {q : Int} {g : Gd} {C R i p : Nat} {ini : Nat → Int} (hR : R ≤ 5) : SN q g C R ini i R p = SN q g C R ini (i + 1) 0 p := by
  unfold SN
  by_cases c : (p / 5 < C ∧ p % 5 < R) ∧ (C - 1 - p / 5 < i ∨ (C - 1 - p / 5 = i ∧ R - 1 - p % 5 < R))
  · rw [if_pos c, if_pos (by omega)]
  · rw [if_neg c, if_neg (by omega)]
theorem SN_0 {q : Int} {g : Gd} {C R p : Nat} {ini : Nat → Int} : SN q g C R ini 0 0 p = ini p := by
  unfold SN
  rw [if_neg (by omega)]
def GMx (q : Int) (g : Gd) (C R i j : Nat) (m : Int) : Prop := (0 ≤ m ∧ m ≤ 150) ∧ (m ≤ 3 ↔ ∀ i' j', i' < C → j' < R → (i' < i ∨ (i' = i ∧ j' < j)) → BM q g C R i' j' ≤ 3)
theorem GMx_s {q : Int} {g : Gd} {C R i j : Nat} {m m' : Int} (h : GMx q g C R i j m) (hi : i < C) (hj : j < R) (hb : 0 ≤ m' ∧ m' ≤ 150) (e : m' ≤ 3 ↔ (m ≤ 3 ∧ BM q g C R i j ≤ 3)) : GMx q g C R i (j + 1) m' := by
  refine ⟨hb, e.trans ⟨fun f => fun i' j' h1 h2 h3 => ?_, fun f => ⟨h.2.2 (fun i' j' h1 h2 h3 => f i' j' h1 h2 (by omega)), f i j hi hj (by omega)⟩⟩⟩
  by_cases c : i' = i ∧ j' = j
  · rw [c.1, c.2]; exact f.2
  · exact h.2.1 f.1 i' j' h1 h2 (by omega)
theorem GMx_e {q : Int} {g : Gd} {C R i : Nat} {m : Int} (h : GMx q g C R i R m) : GMx q g C R (i + 1) 0 m := ⟨h.1, h.2.trans ⟨fun f i' j' h1 h2 h3 => f i' j' h1 h2 (by omega), fun f i' j' h1 h2 h3 => f i' j' h1 h2 (by omega)⟩⟩
def BT (v : Wd) (q : Int) (g : Gd) (C R i j : Nat) : Prop := ∀ i' j', i' ≤ C → j' ≤ R → (i' = 0 ∨ j' = 0 ∨ i' ≤ i ∨ (i' = i + 1 ∧ j' ≤ j)) → ShC v (9 + 2 * (6 * (C - i') + (R - j'))) (BK q g C R i' j')
theorem BT_0 {v : Wd} {q : Int} {g : Gd} {C R : Nat} (hg : GrC v g) (hC : g 0 = C) (hR : g 1 = R) : BT v q g C R 0 0 := fun i' j' h1 h2 h3 => by
  have h := hg.2.2 (C - i') (R - j') (by omega) (by omega)
  by_cases c : i' = 0
  · subst c; exact h
  · obtain ⟨k, rfl⟩ : ∃ k, i' = k + 1 := ⟨i' - 1, by omega⟩
    obtain rfl : j' = 0 := by omega
    exact h
theorem s_goBackInto {w : Wd} {g : Gd} {C R : Nat} {q : Int} (hW : Wi w.2) (hq : 0 ≤ q ∧ q ≤ 3) (hv : GV g) (hC : g 0 = C) (hR : g 1 = R) (hf : RimF g C R q) (hg : GrC w g) (h30 : w.1 3 0 = I C) (h31 : w.1 3 1 = I R) (h32 : w.1 3 2 = I q) (h4 : ∀ p, p < 25 → w.1 4 p = I (g (3 + p))) :
    ∃ (gm : Int) (w' : Wd), f_X1_goBackInto 7 3 w = some (I gm, w') ∧ w'.2 = w.2 ∧ GMx q g C R C 0 gm ∧ (∀ p, p < 25 → w'.1 4 p = I (SN q g C R (fun p => g (3 + p)) C 0 p)) ∧ ∀ a b, (a < 9 ∨ 81 ≤ a) → a ≠ 4 → w'.1 a b = w.1 a b := by
  have v1 := hv.1; have v2 := hv.2.1
  have kk : ∀ x y : Nat, x ≤ 5 → y ≤ 5 → kd (9 + 2 * (6 * x + y)) = 5 := fun x y _ _ => kd_shape _ (by omega)
  have pos : ∀ {x y x' y' : Nat}, y ≤ 5 → y' ≤ 5 → ¬ (x = x' ∧ y = y') → 6 * x + y ≠ 6 * x' + y' := fun h1 h2 h3 => by omega
  unfold f_X1_goBackInto
  rw [hg.1, hC, lt_d]
  refine wl3_inv (Q := fun r => ∃ (gm : Int) (w' : Wd), r = some (I gm, w') ∧ w'.2 = w.2 ∧ GMx q g C R C 0 gm ∧ (∀ p, p < 25 → w'.1 4 p = I (SN q g C R (fun p => g (3 + p)) C 0 p)) ∧ ∀ a b, (a < 9 ∨ 81 ≤ a) → a ≠ 4 → w'.1 a b = w.1 a b) C
    (fun i x y (v : Wd) => (∃ m, GMx q g C R i 0 m ∧ x = I m) ∧ y = I ((C : Int) - i) ∧ v.2 = w.2 ∧ BT v q g C R i 0 ∧ (∀ p, p < 25 → v.1 4 p = I (SN q g C R (fun p => g (3 + p)) i 0 p)) ∧ ∀ a b, (a < 9 ∨ 81 ≤ a) → a ≠ 4 → v.1 a b = w.1 a b) (fu_lt (by omega)) ?_ ?_ ?_
  · exact ⟨⟨0, ⟨by omega, ⟨fun _ i' j' _ _ h => absurd h (by omega), fun _ => by omega⟩⟩, rfl⟩, congrArg I (by omega), rfl, BT_0 hg hC hR, fun p hp => by rw [SN_0]; exact h4 p hp, fun _ _ _ _ => rfl⟩
  · rintro i hi x y v ⟨⟨m, hm, rfl⟩, rfl, hv2, hvT, hvs, hfr⟩ k
    have ex1 : ¬ (I ((C : Int) - i) < (1 : Int32)) := by rw [i1, I_lt (by omega) (by omega) (by omega) (by omega)]; omega
    have e73 : v.1 7 3 = I R := by rw [hfr _ _ (by omega) (by omega), hg.2.1, hR]
    rw [if_neg ex1, e73, lt_d]
    left
    refine wl3_inv (Q := fun r => ∃ (t0 t1 : Int32) (t2 : Wd), ((∃ m, GMx q g C R (i + 1) 0 m ∧ t0 = I m) ∧ t1 = I ((C : Int) - ((i + 1 : Nat) : Int)) ∧ t2.2 = w.2 ∧ BT t2 q g C R (i + 1) 0 ∧ (∀ p, p < 25 → t2.1 4 p = I (SN q g C R (fun p => g (3 + p)) (i + 1) 0 p)) ∧ ∀ a b, (a < 9 ∨ 81 ≤ a) → a ≠ 4 → t2.1 a b = w.1 a b) ∧ r = k t0 t1 t2) R
      (fun j x y (v : Wd) => (∃ m, GMx q g C R i j m ∧ x = I m) ∧ y = I ((R : Int) - j) ∧ v.2 = w.2 ∧ BT v q g C R i j ∧ (∀ p, p < 25 → v.1 4 p = I (SN q g C R (fun p => g (3 + p)) i j p)) ∧ ∀ a b, (a < 9 ∨ 81 ≤ a) → a ≠ 4 → v.1 a b = w.1 a b) (fu_lt (by omega)) ?_ ?_ ?_
    · exact ⟨⟨m, hm, rfl⟩, congrArg I (by omega), hv2, hvT, hvs, hfr⟩
    · rintro j hj x y u ⟨⟨m2, hm2, rfl⟩, rfl, hu2, huT, hus, hfu⟩ k2
      have hWu : Wi u.2 := by rw [hu2]; exact hW
      obtain ⟨i1', i2', -⟩ := BK_ok hq hv hC hR hf i (by omega)
      obtain ⟨j1', j2', j3'⟩ := BK_ok hq hv hC hR hf (i + 1) (by omega)
      obtain ⟨w', z1, z2, z3, z4⟩ := s_goBackFrom (t := 9 + 2 * (6 * (C - (i + 1)) + (R - (j + 1)))) (n := 9 + 2 * (6 * (C - i) + (R - j))) (a := 9 + 2 * (6 * (C - (i + 1)) + (R - j))) (b := 9 + 2 * (6 * (C - i) + (R - (j + 1)))) hWu hq (kk _ _ (by omega) (by omega)) (kk _ _ (by omega) (by omega)) (kk _ _ (by omega) (by omega)) (kk _ _ (by omega) (by omega)) (by omega) (by omega) (by omega) (huT i j (by omega) (by omega) (by omega)) (huT (i + 1) j (by omega) (by omega) (by omega)) (huT i (j + 1) (by omega) (by omega) (by omega)) (i1' j (by omega)).1 (i1' j (by omega)).2.2 (j1' j (by omega)).1 (i1' (j + 1) (by omega)).1 (j3' (by omega) j (by omega)) (i2' j hj)
      have hWw : Wi w'.2 := by rw [z2]; exact hWu
      have bmb := BM_b hq hv hC hR hf hi hj
      have ebm : bm q (BK q g C R i j) (BK q g C R (i + 1) j) (BK q g C R i (j + 1)) = BM q g C R i j := rfl
      rw [ebm] at z1
      have sN := s_setN (w := w') (t := 3) (C := C) (R := R) (x := (C : Int) - i) (y := (R : Int) - j) (I (BM q g C R i j)) kd_3 (hWw.2.1 _ kd_3) (by rw [z4 _ _ (by omega) (by omega), hfu _ _ (by omega) (by omega), h30]) (by rw [z4 _ _ (by omega) (by omega), hfu _ _ (by omega) (by omega), h31]) (by omega) (by omega) (by omega) (by omega)
      have ep : (5 * ((C : Int) - i - 1) + ((R : Int) - j - 1)).toNat = 5 * (C - 1 - i) + (R - 1 - j) := by omega
      rw [ep] at sN
      left
      rw [if_neg (show ¬ (I ((R : Int) - j) < (1 : Int32)) by rw [i1, I_lt (by omega) (by omega) (by omega) (by omega)]; omega), show I ((C : Int) - i) - (1 : Int32) = I ((C - (i + 1) : Nat) : Int) from (I_sub _ 1).trans (congrArg I (by omega)), show I ((R : Int) - j) - (1 : Int32) = I ((R - (j + 1) : Nat) : Int) from (I_sub _ 1).trans (congrArg I (by omega))]
      have eC' : I ((C : Int) - i) = I ((C - i : Nat) : Int) := congrArg I (by omega)
      have eR' : I ((R : Int) - j) = I ((R - j : Nat) : Int) := congrArg I (by omega)
      refine ⟨I (if m2 < BM q g C R i j then BM q g C R i j else m2), I ((R : Int) - ((j + 1 : Nat) : Int)), upI w' 4 (5 * (C - 1 - i) + (R - 1 - j)) (I (BM q g C R i j)), ⟨⟨_, GMx_s hm2 hi hj (by have := hm2.1; split <;> omega) (by split <;> omega), rfl⟩, rfl, by show w'.2 = w.2; rw [z2, hu2], fun i' j' h1 h2 h3 => ?_, fun p hp => ?_, fun a b h1 h2 => by rw [upI_n (by omega), z4 _ _ (by omega) (by omega)]; exact hfu a b h1 h2⟩, ?_⟩
      · by_cases e : i' = i + 1 ∧ j' = j + 1
        · rw [e.1, e.2, BK_s]
          exact z3.of (fun b _ => upI_n (by omega)) (fun b => upI_n (by omega))
        · have hne : 6 * (C - i') + (R - j') ≠ 6 * (C - (i + 1)) + (R - (j + 1)) := by omega
          exact (huT i' j' h1 h2 (by omega)).of (fun b _ => by rw [upI_n (by omega), z4 _ _ (by omega) (by omega)]) (fun b => by rw [upI_n (by omega), z4 _ _ (by omega) (by omega)])
      · by_cases e : p = 5 * (C - 1 - i) + (R - 1 - j)
        · subst e; rw [upI_s, SN_s hi hj (by omega) (by omega)]
        · rw [upI_n (by omega), z4 _ _ (by omega) (by omega), hus p hp, SN_n hi hj (by omega) (by omega) hp e]
      · rw [c1_r (s_at hWu (show C - (i + 1) ≤ 5 by omega) (show R - (j + 1) ≤ 5 by omega)), ckc (kk _ _ (by omega) (by omega)) (by decide), eC', eR', c1_r (s_at hWu (show C - i ≤ 5 by omega) (show R - j ≤ 5 by omega)), ckc (kk _ _ (by omega) (by omega)) (by decide), c1_r (s_at hWu (show C - (i + 1) ≤ 5 by omega) (show R - j ≤ 5 by omega)), ckc (kk _ _ (by omega) (by omega)) (by decide), c1_r (s_at hWu (show C - i ≤ 5 by omega) (show R - (j + 1) ≤ 5 by omega)), ckc (kk _ _ (by omega) (by omega)) (by decide), show u.1 3 2 = I q by rw [hfu _ _ (by omega) (by omega), h32], c2_r z1, ← eC', ← eR', c1_r sN, lt_d, lt_d]
        have hmb := hm2.1
        have eg : (if I m2 < I (BM q g C R i j) then I (BM q g C R i j) else I m2) = I (if m2 < BM q g C R i j then BM q g C R i j else m2) := by
          simp (disch := omega) only [I_lt, I_ite]
        rw [eg, im1, I_add]
        exact congrArg (fun z => k2 _ z _) (congrArg I (by omega))
    · rintro x y u ⟨⟨m2, hm2, rfl⟩, rfl, hu2, huT, hus, hfu⟩ k2
      rw [if_pos (show I ((R : Int) - (R : Int)) < (1 : Int32) by rw [i1, I_lt (by omega) (by omega) (by omega) (by omega)]; omega), lt_d, im1, I_add]
      refine ⟨_, _, u, ⟨⟨m2, GMx_e hm2, rfl⟩, rfl, hu2, fun i' j' h1 h2 h3 => huT i' j' h1 h2 (by omega), fun p hp => by rw [hus p hp, SN_e (by omega)], hfu⟩, ?_⟩
      exact congrArg (fun z => k _ z _) (congrArg I (by omega))
  · rintro x y v ⟨⟨m, hm, rfl⟩, rfl, hv2, hvT, hvs, hfr⟩ k
    rw [if_pos (show I ((C : Int) - (C : Int)) < (1 : Int32) by rw [i1, I_lt (by omega) (by omega) (by omega) (by omega)]; omega)]
    exact ⟨m, v, rfl, hv2, hm, hvs, hfr⟩


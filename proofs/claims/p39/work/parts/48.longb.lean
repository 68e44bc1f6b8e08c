/-! longest, by both -/
def lyk (fl : Bool) (R k : Nat) : Nat := if fl = true then R - 1 - k else k
theorem lyk_b {fl : Bool} {R k : Nat} (h : k < R) : lyk fl R k < R ∧ lyk fl R (lyk fl R k) = k := by
  unfold lyk
  cases fl
  · rw [if_neg (by decide), if_neg (by decide)]; omega
  · rw [if_pos rfl, if_pos rfl]; omega
def lV (g : Gd) (R : Nat) (fl : Bool) (d : Int) (x k : Nat) : Int := if x < 5 ∧ k < R then (if d = 0 then g (3 + (5 * x + lyk fl R k)) else if 1 < g (3 + (5 * x + lyk fl R k)) then 1 else g (3 + (5 * x + lyk fl R k))) else 0
theorem lV_b {g : Gd} {R : Nat} (hv : GV g) (hR : R ≤ 5) (fl : Bool) (d : Int) (x k : Nat) : 0 ≤ lV g R fl d x k ∧ lV g R fl d x k ≤ 3 := by
  unfold lV
  by_cases c : x < 5 ∧ k < R
  · have h1 := (lyk_b (fl := fl) c.2).1
    have h2 := hv.g0 (q := 5 * x + lyk fl R k) (by omega)
    rw [if_pos c]
    (repeat' split) <;> omega
  · rw [if_neg c]
    omega
theorem I_mx {a b : Int} (ha : 0 ≤ a ∧ a < 1000) (hb : 0 ≤ b ∧ b < 1000) : (if I a < I b then I b else I a) = I (mx a b) := by
  unfold mx
  simp (disch := omega) only [I_lt, I_ite]
theorem s_bestRow {w : Wd} {g : Gd} {C R : Nat} {z d : Int} {st fl : Bool} (hW : Wi w.2) (hv : GV g) (hc : CG w 1 g) (hs : Rs w) (hC : g 0 = C) (hR : g 1 = R) (hz : 0 ≤ z ∧ z ≤ 3) (hst : st = true ↔ (z = 1 ∨ z = 3)) (hfl : fl = true ↔ 2 ≤ z) (hd : d = 0 ∨ d = 1) :
    ∃ w', f_X4_bestRow 84 1 (I z) (I d) w = some (I (BR st (lV g R fl d) C R), w') ∧ w'.2 = w.2 ∧ Rs w' ∧ ∀ a b, (a < 86 ∨ 92 ≤ a) → w'.1 a b = w.1 a b := by
  have v1 := hv.1; have v2 := hv.2.1
  have hV := lV_b hv (show R ≤ 5 by omega) fl d
  have x3 : (if I z = (1 : Int32) then (1 : Int32) else (if I z = (3 : Int32) then (1 : Int32) else (0 : Int32))) = I (if st = true then 1 else 0) := by
    simp (disch := omega) only [↓j_m1, ↓j_m2, ↓j_m3, ↓j_m5, ↓j_m6, ↓j_m11, ↓j_m12, ↓j_m13, ↓j_m14, ↓j_m1000, j_0, j_1, j_2, j_3, j_4, j_5, j_6, j_7, j_8, j_9, j_10, j_12, j_14, j_20, j_25, j_26, j_28, j_30, j_36, j_48, j_49, j_50, j_53, j_57, j_59, j_60, j_63, j_75, j_80, j_99, j_100, j_196, j_255, j_1000, I_eq, I_ite]
    by_cases e : st = true
    · rw [if_pos e]; have := hst.1 e; (repeat' split) <;> omega
    · rw [if_neg e]; have : ¬ (z = 1 ∨ z = 3) := fun f => e (hst.2 f); (repeat' split) <;> omega
  have x5 : (if I z < (2 : Int32) then (0 : Int32) else (1 : Int32)) = I (if fl = true then 1 else 0) := by
    simp (disch := omega) only [↓j_m1, ↓j_m2, ↓j_m3, ↓j_m5, ↓j_m6, ↓j_m11, ↓j_m12, ↓j_m13, ↓j_m14, ↓j_m1000, j_0, j_1, j_2, j_3, j_4, j_5, j_6, j_7, j_8, j_9, j_10, j_12, j_14, j_20, j_25, j_26, j_28, j_30, j_36, j_48, j_49, j_50, j_53, j_57, j_59, j_60, j_63, j_75, j_80, j_99, j_100, j_196, j_255, j_1000, I_lt, I_ite]
    refine congrArg I ?_
    by_cases e : fl = true
    · rw [if_pos e]; have := hfl.1 e; (repeat' split) <;> omega
    · rw [if_neg e]; have : ¬ (2 ≤ z) := fun f => e (hfl.2 f); (repeat' split) <;> omega
  unfold f_X4_bestRow
  rw [x3, x5, lt_d, lt_d]
  refine wl2_inv (Q := fun r => ∃ w', r = some (I (BR st (lV g R fl d) C R), w') ∧ w'.2 = w.2 ∧ Rs w' ∧ ∀ a b, (a < 86 ∨ 92 ≤ a) → w'.1 a b = w.1 a b) C (fun i x (v : Wd) => x = I ((i : Int) + 1) ∧ v.2 = w.2 ∧ (∀ a b, a ≤ i → b ≤ R → v.1 (86 + a) b = I (BR st (lV g R fl d) a b)) ∧ Rs v ∧ ∀ a b, (a < 86 ∨ 92 ≤ a) → v.1 a b = w.1 a b) (fu_lt (by omega)) ?_ ?_ ?_
  · refine ⟨rfl, rfl, fun a b h1 h2 => ?_, hs, fun _ _ _ => rfl⟩
    obtain rfl : a = 0 := by omega
    exact hs.1 b (by omega)
  · rintro i hi x v ⟨rfl, hv2, hvb, hvs, hf⟩ k
    have ec : v.1 1 0 = I C := by rw [hf _ _ (by omega), hc.1, hC]
    rw [ec, if_neg (show ¬ (I (C : Int) < I ((i : Int) + 1)) by rw [I_lt (by omega) (by omega) (by omega) (by omega)]; omega)]
    left
    refine wl2_inv (Q := fun r => ∃ t0 t1, (t0 = I (((i + 1 : Nat) : Int) + 1) ∧ t1.2 = w.2 ∧ (∀ a b, a ≤ i + 1 → b ≤ R → t1.1 (86 + a) b = I (BR st (lV g R fl d) a b)) ∧ Rs t1 ∧ ∀ a b, (a < 86 ∨ 92 ≤ a) → t1.1 a b = w.1 a b) ∧ r = k t0 t1) R (fun j x (v : Wd) => x = I ((j : Int) + 1) ∧ v.2 = w.2 ∧ (∀ a b, a ≤ i → b ≤ R → v.1 (86 + a) b = I (BR st (lV g R fl d) a b)) ∧ (∀ b, b ≤ j → v.1 (86 + (i + 1)) b = I (BR st (lV g R fl d) (i + 1) b)) ∧ Rs v ∧ ∀ a b, (a < 86 ∨ 92 ≤ a) → v.1 a b = w.1 a b) (fu_lt (by omega)) ?_ ?_ ?_
    · refine ⟨rfl, hv2, hvb, fun b hb => ?_, hvs, hf⟩
      obtain rfl : b = 0 := by omega
      rw [hvs.2 _ (by omega)]
      rfl
    · rintro j hj x u ⟨rfl, hu2, hub, huj, hus, hfu⟩ kk
      have hWu : Wi u.2 := by rw [hu2]; exact hW
      have cu : CG u 1 g := hc.of (fun b => hfu _ _ (by omega)) (fun b => hfu _ _ (by omega))
      have er : u.1 1 1 = I R := by rw [cu.2.1, hR]
      have r85 : u.2 84 0 = some 85 := hWu.2.2.2.2.2.1.1
      have rr := hWu.2.2.2.2.2.1.2
      have hA : u.1 (86 + i) (j + 1) = I (BR st (lV g R fl d) i (j + 1)) := hub i (j + 1) (by omega) (by omega)
      have hB : u.1 (86 + (i + 1)) j = I (BR st (lV g R fl d) (i + 1) j) := huj j (by omega)
      have hD : u.1 (86 + i) j = I (BR st (lV g R fl d) i j) := hub i j (by omega) (by omega)
      have bA := BR_b (st := st) hV i (j + 1)
      have bB := BR_b (st := st) hV (i + 1) j
      have bD := BR_b (st := st) hV i j
      have bV := hV i j
      have hs2 := BR_s st (lV g R fl d) i j
      obtain ⟨ka, la⟩ := kd_best i (by omega)
      obtain ⟨kb, lb⟩ := kd_best (i + 1) (by omega)
      have ly := lyk_b (fl := fl) hj
      have eV : (if I d = 0 then I (g (3 + (5 * i + lyk fl R j))) else (if (1 : Int32) < I (g (3 + (5 * i + lyk fl R j))) then (1 : Int32) else I (g (3 + (5 * i + lyk fl R j))))) = I (lV g R fl d i j) := by
        have h2 := hv.g0 (q := 5 * i + lyk fl R j) (by omega)
        unfold lV
        rw [if_pos (show i < 5 ∧ j < R by omega)]
        simp (disch := omega) only [↓j_m1, ↓j_m2, ↓j_m3, ↓j_m5, ↓j_m6, ↓j_m11, ↓j_m12, ↓j_m13, ↓j_m14, ↓j_m1000, j_0, j_1, j_2, j_3, j_4, j_5, j_6, j_7, j_8, j_9, j_10, j_12, j_14, j_20, j_25, j_26, j_28, j_30, j_36, j_48, j_49, j_50, j_53, j_57, j_59, j_60, j_63, j_75, j_80, j_99, j_100, j_196, j_255, j_1000, I_lt, I_eq, I_ite]
      have ey : (if I (if fl = true then 1 else 0) = 0 then I ((j : Int) + 1) else ((I (R : Int) + (1 : Int32)) - I ((j : Int) + 1))) = I ((lyk fl R j : Int) + 1) := by
        unfold lyk
        cases fl
        · rw [if_neg (show ¬ (false = true) by decide), if_pos z00, if_neg (show ¬ (false = true) by decide)]
        · rw [if_pos (show true = true from rfl), if_neg n10, if_pos (show true = true from rfl), i1, I_add, I_sub]
          exact congrArg I (by omega)
      have en : num g ((i : Int) + 1) ((lyk fl R j : Int) + 1) = g (3 + (5 * i + lyk fl R j)) := by
        unfold num
        rw [if_pos (by omega), show (5 * ((i : Int) + 1 - 1) + ((lyk fl R j : Int) + 1 - 1)).toNat = 5 * i + lyk fl R j by omega]
      left
      refine ⟨I (((j + 1 : Nat) : Int) + 1), upI u (86 + (i + 1)) (j + 1) (I (BR st (lV g R fl d) (i + 1) (j + 1))), ⟨rfl, hu2, fun a b h1 h2 => by rw [upI_n (by omega)]; exact hub a b h1 h2, fun b hb => ?_, ⟨fun y hy => by rw [upI_n (by omega)]; exact hus.1 y hy, fun x hx => by rw [upI_n (by omega)]; exact hus.2 x hx⟩, fun a b h => by rw [upI_n (by omega)]; exact hfu a b h⟩, ?_⟩
      · by_cases e : b = j + 1
        · subst e; rw [upI_s]
        · rw [upI_n (by omega)]; exact huj b (by omega)
      · rw [er, if_neg (show ¬ (I (R : Int) < I ((j : Int) + 1)) by rw [I_lt (by omega) (by omega) (by omega) (by omega)]; omega), ey, lt_d, c1_r (s_numberAt kd_1 (hWu.2.1 _ kd_1) cu hv (by omega) (by omega)), en, eV, lt_d, i1, I_sub, I_sub, show (i : Int) + 1 - 1 = (i : Int) by omega, show (j : Int) + 1 - 1 = (j : Int) by omega]
        have e1 : ∀ {ρ : Type} (K : Nat → Option ρ), rf 139 (u.2 84 0) 13 K = K 85 := fun K => rfc r85 kd_85 (by decide) K
        have e2 : ∀ {ρ : Type} (K : Nat → Option ρ), ix (I (i : Int)) (ln 85) K = K i := fun K => by rw [ln_85, ix_d (by omega) (by omega) (by decide), Int.toNat_natCast]
        have e3 : ∀ {ρ : Type} (K : Nat → Option ρ), ix (I ((i : Int) + 1)) (ln 85) K = K (i + 1) := fun K => by rw [ln_85, ix_d (by omega) (by omega) (by decide), show ((i : Int) + 1).toNat = i + 1 by omega]
        have e4 : ∀ {ρ : Type} (K : Nat → Option ρ), rf 139 (u.2 85 i) 9 K = K (86 + i) := fun K => rf9 (rr i (by omega)) ⟨by omega, ka, la⟩ K
        have e5 : ∀ {ρ : Type} (K : Nat → Option ρ), rf 139 (u.2 85 (i + 1)) 9 K = K (86 + (i + 1)) := fun K => rf9 (rr (i + 1) (by omega)) ⟨by omega, kb, lb⟩ K
        have e6 : ∀ {ρ : Type} (K : Nat → Option ρ), ix (I ((j : Int) + 1)) (ln (86 + i)) K = K (j + 1) := fun K => by rw [la, ix_d (by omega) (by omega) (by decide), show ((j : Int) + 1).toNat = j + 1 by omega]
        have e7 : ∀ {ρ : Type} (K : Nat → Option ρ), ix (I ((j : Int) + 1)) (ln (86 + (i + 1))) K = K (j + 1) := fun K => by rw [lb, ix_d (by omega) (by omega) (by decide), show ((j : Int) + 1).toNat = j + 1 by omega]
        have e8 : ∀ {ρ : Type} (K : Nat → Option ρ), ix (I (j : Int)) (ln (86 + i)) K = K j := fun K => by rw [la, ix_d (by omega) (by omega) (by decide), Int.toNat_natCast]
        have e9 : ∀ {ρ : Type} (K : Nat → Option ρ), ix (I (j : Int)) (ln (86 + (i + 1))) K = K j := fun K => by rw [lb, ix_d (by omega) (by omega) (by decide), Int.toNat_natCast]
        simp only [e1, e2, e3, e4, e5, e6, e7, e8, e9, hA, hB, hD, jn_d, lt_d, I_add, I_mx ⟨bA.1, by omega⟩ ⟨bB.1, by omega⟩]
        have bM := mx_b (BR st (lV g R fl d) i (j + 1)) (BR st (lV g R fl d) (i + 1) j)
        rw [I_mx ⟨by omega, by omega⟩ ⟨by omega, by omega⟩]
        cases st
        · rw [if_neg (by decide)] at hs2
          rw [if_neg (show ¬ (false = true) by decide), if_pos z00, hs2]
          rfl
        · rw [if_pos rfl] at hs2
          rw [if_pos (show true = true from rfl), if_neg n10, hs2]
          rfl
    · rintro x u ⟨rfl, hu2, hub, huj, hus, hfu⟩ kk
      have er : u.1 1 1 = I R := by rw [hfu _ _ (by omega), hc.2.1, hR]
      rw [er, if_pos (show I (R : Int) < I ((R : Int) + 1) by rw [I_lt (by omega) (by omega) (by omega) (by omega)]; omega), lt_d, i1, I_add]
      refine ⟨_, u, ⟨rfl, hu2, fun a b h1 h2 => ?_, hus, hfu⟩, rfl⟩
      by_cases e : a = i + 1
      · subst e; exact huj b h2
      · exact hub a b (by omega) h2
  · rintro x v ⟨rfl, hv2, hvb, hvs, hf⟩ k
    have hWv : Wi v.2 := by rw [hv2]; exact hW
    have ec : v.1 1 0 = I C := by rw [hf _ _ (by omega), hc.1, hC]
    have er : v.1 1 1 = I R := by rw [hf _ _ (by omega), hc.2.1, hR]
    obtain ⟨ka, la⟩ := kd_best C (by omega)
    rw [ec, er, if_pos (show I (C : Int) < I ((C : Int) + 1) by rw [I_lt (by omega) (by omega) (by omega) (by omega)]; omega), rfc hWv.2.2.2.2.2.1.1 kd_85 (by decide), ln_85, ix_d (by omega) (by omega) (by decide), Int.toNat_natCast, rf9 (hWv.2.2.2.2.2.1.2 C (by omega)) ⟨by omega, ka, la⟩, la, ix_d (by omega) (by omega) (by decide), Int.toNat_natCast, hvb C R (by omega) (by omega)]
    exact ⟨v, rfl, hv2, hvs, hf⟩


/-! read: the grid that a text tells -/
theorem pos_lt {a b c r : Nat} (ha : a < r) (hb : b < c) : 2 + a * (c + 1) + (b + 1) < 2 + r * (c + 1) := by
  have h : (a + 1) * (c + 1) ≤ r * (c + 1) := Nat.mul_le_mul_right _ (by omega)
  rw [Nat.succ_mul] at h
  omega
theorem pos_mod {a b c : Nat} (hb : b < c) : (2 + a * (c + 1) + (b + 1) - 2) % (c + 1) = b + 1 := by
  rw [show 2 + a * (c + 1) + (b + 1) - 2 = (b + 1) + a * (c + 1) by omega, Nat.add_mul_mod_self_right, Nat.mod_eq_of_lt (by omega)]
/-- what place q holds when the rows above i, and j cells of row i, are read -/
def rdt (s : Nat → Int) (c r i j : Nat) (q : Nat) : Int := if (q / 5 < c ∧ q % 5 < r) ∧ (r - 1 - q % 5 < i ∨ (r - 1 - q % 5 = i ∧ q / 5 < j)) then s (2 + (r - 1 - q % 5) * (c + 1) + (q / 5 + 1)) - 48 else 0
theorem rdt_v {s : Nat → Int} {T : Nat} (h : FTc s T) {a b : Nat} (ha : a < rs s) (hb : b < cs s) : 48 ≤ s (2 + a * (cs s + 1) + (b + 1)) ∧ s (2 + a * (cs s + 1) + (b + 1)) ≤ 51 := by
  have h1 := pos_lt ha hb
  have h2 := h.2.2 (2 + a * (cs s + 1) + (b + 1)) (by rw [h.2.1]; exact h1)
  unfold okb okp at h2
  rw [if_neg (by omega), pos_mod hb, if_neg (by omega)] at h2
  exact h2.2
theorem rdt_b {s : Nat → Int} {T i j : Nat} (h : FTc s T) (q : Nat) : 0 ≤ rdt s (cs s) (rs s) i j q ∧ rdt s (cs s) (rs s) i j q ≤ 3 := by
  unfold rdt
  split
  · rename_i c
    have := rdt_v h (a := rs s - 1 - q % 5) (b := q / 5) (by omega) (by omega)
    omega
  · omega
theorem FTc_cr {s : Nat → Int} {T : Nat} (h : FTc s T) : (s 0 = (cs s : Int) + 48 ∧ 1 ≤ cs s ∧ cs s ≤ 5) ∧ (s 1 = (rs s : Int) + 48 ∧ 1 ≤ rs s ∧ rs s ≤ 5) := okb_cr (h.2.2 0 (by have := h.1; omega)) (h.2.2 1 (by have := h.1; omega))
theorem rdt_V {s : Nat → Int} {T i j : Nat} {g : Gd} (hv : GV g) (h : FTc s T) : GV (grd (cs s : Int) (rs s : Int) (g 2) (rdt s (cs s) (rs s) i j)) := by
  have h1 := FTc_cr h
  refine grd_V (by omega) (by omega) hv.2.2.1 (fun q _ => rdt_b h q) (fun q hq e => ?_)
  unfold rdt
  rw [if_neg (by omega)]
theorem rdt_s {s : Nat → Int} {c r i j : Nat} (hi : i < r) (hj : j < c) (hc : c ≤ 5) (hr : r ≤ 5) : rdt s c r i (j + 1) (5 * j + (r - 1 - i)) = s (2 + i * (c + 1) + (j + 1)) - 48 := by
  unfold rdt
  rw [if_pos (by omega), show r - 1 - (5 * j + (r - 1 - i)) % 5 = i by omega, show (5 * j + (r - 1 - i)) / 5 = j by omega]
theorem rdt_n {s : Nat → Int} {c r i j q : Nat} (hi : i < r) (hj : j < c) (hc : c ≤ 5) (hr : r ≤ 5) (hq : q < 25) (h : q ≠ 5 * j + (r - 1 - i)) : rdt s c r i (j + 1) q = rdt s c r i j q := by
  unfold rdt
  by_cases d : (q / 5 < c ∧ q % 5 < r) ∧ (r - 1 - q % 5 < i ∨ (r - 1 - q % 5 = i ∧ q / 5 < j))
  · rw [if_pos d, if_pos (by omega)]
  · rw [if_neg d, if_neg (by omega)]
theorem rdt_e {s : Nat → Int} {c r i q : Nat} : rdt s c r i c q = rdt s c r (i + 1) 0 q := by
  unfold rdt
  by_cases d : (q / 5 < c ∧ q % 5 < r) ∧ (r - 1 - q % 5 < i ∨ (r - 1 - q % 5 = i ∧ q / 5 < c))
  · rw [if_pos d, if_pos (by omega)]
  · rw [if_neg d, if_neg (by omega)]
theorem rdt_0 {s : Nat → Int} {c r q : Nat} : rdt s c r 0 0 q = 0 := by
  unfold rdt
  rw [if_neg (by omega)]
theorem TpC.of {w w' : Wd} {T : Nat} {s : Nat → Int} (h : TpC w T s) (h1 : w'.1 112 1 = w.1 112 1) (h2 : ∀ b, w'.1 113 b = w.1 113 b) : TpC w' T s := ⟨h1.trans h.1, fun j hj => ⟨(h.2 j hj).1, (h2 j).trans (h.2 j hj).2⟩⟩
theorem s_writeInto {w : Wd} {T : Nat} {s : Nat → Int} {g : Gd} (hW : Wi w.2) (hT : T ≤ 60) (h : TpC w T s) (hc : FTc s T) (hv : GV g) (hg : CG w 1 g) : ∃ w', f_X6_writeInto 112 1 w = some w' ∧ w'.2 = w.2 ∧ CG w' 1 (grd (cs s : Int) (rs s : Int) (g 2) (rdt s (cs s) (rs s) (rs s) 0)) ∧ ∀ a b, a ≠ 1 → a ≠ 2 → w'.1 a b = w.1 a b := by
  obtain ⟨⟨c0, c1', c2'⟩, r0, r1, r2⟩ := FTc_cr hc
  have hT2 := hc.1
  have hTW : T = 2 + rs s * (cs s + 1) := hc.2.1
  have hb := rc_b c2' r2
  have f0 : f_X6_figureAt 112 (I ((0 : Nat) : Int)) w = some (I (s 0 - 48)) := s_figureAt hW hT h (by omega)
  have f1 : f_X6_figureAt 112 (I ((1 : Nat) : Int)) w = some (I (s 1 - 48)) := s_figureAt hW hT h (by omega)
  have hV : ∀ i j, GV (grd (cs s : Int) (rs s : Int) (g 2) (rdt s (cs s) (rs s) i j)) := fun i j => rdt_V hv hc
  have hcl : CG (clg w 1 (I (cs s)) (I (rs s))) 1 (grd (cs s : Int) (rs s : Int) (g 2) (rdt s (cs s) (rs s) 0 0)) := (clg_CG hg).congr rfl rfl rfl (fun q hq => by rw [gst_n, grd_n, rdt_0])
  unfold f_X6_writeInto
  rw [c1_r (show f_X6_figureAt 112 (0 : Int32) w = _ from f0), c1_r (show f_X6_figureAt 112 (1 : Int32) w = _ from f1), show s 0 - 48 = (cs s : Int) by omega, show s 1 - 48 = (rs s : Int) by omega, c1_r (s_clearTo (I (cs s)) (I (rs s)) kd_1 (hW.2.1 _ kd_1)), lt_d, hcl.2.1, grd_1]
  generalize hcs : cs s = c at *
  generalize hrs : rs s = r at *
  refine wl3_inv (Q := fun z => ∃ w', z = some w' ∧ w'.2 = w.2 ∧ CG w' 1 (grd (c : Int) (r : Int) (g 2) (rdt s c r r 0)) ∧ ∀ a b, a ≠ 1 → a ≠ 2 → w'.1 a b = w.1 a b) r (fun i x y (v : Wd) => x = I ((2 + i * (c + 1) : Nat) : Int) ∧ y = I ((r : Int) - i) ∧ v.2 = w.2 ∧ CG v 1 (grd (c : Int) (r : Int) (g 2) (rdt s c r i 0)) ∧ ∀ a b, a ≠ 1 → a ≠ 2 → v.1 a b = w.1 a b) (fu_lt (by omega)) ?_ ?_ ?_
  · exact ⟨by rw [Nat.zero_mul]; rfl, congrArg I (by omega), rfl, hcl, fun a b h1 h2 => clg_o h1 h2⟩
  · rintro i hi x y v ⟨rfl, rfl, hv2, hcv, hf⟩ k
    have hWv : Wi v.2 := by rw [hv2]; exact hW
    have hmu : i * (c + 1) + (c + 1) ≤ r * (c + 1) := by
      have h1 : (i + 1) * (c + 1) ≤ r * (c + 1) := Nat.mul_le_mul_right _ (by omega)
      rw [Nat.succ_mul] at h1
      exact h1
    have hsm : (i + 1) * (c + 1) = i * (c + 1) + (c + 1) := Nat.succ_mul _ _
    rw [if_neg (show ¬ (I ((r : Int) - i) < (1 : Int32)) by rw [i1, I_lt (by omega) (by omega) (by omega) (by omega)]; omega), lt_d, i1, I_add]
    left
    refine wl3_inv (Q := fun z => ∃ t0 t1 t2, (t0 = I ((2 + (i + 1) * (c + 1) : Nat) : Int) ∧ t1 = I ((r : Int) - ((i + 1 : Nat) : Int)) ∧ t2.2 = w.2 ∧ CG t2 1 (grd (c : Int) (r : Int) (g 2) (rdt s c r (i + 1) 0)) ∧ ∀ a b, a ≠ 1 → a ≠ 2 → t2.1 a b = w.1 a b) ∧ z = k t0 t1 t2) c (fun j x y (v : Wd) => x = I ((2 + i * (c + 1) + (j + 1) : Nat) : Int) ∧ y = I ((j : Int) + 1) ∧ v.2 = w.2 ∧ CG v 1 (grd (c : Int) (r : Int) (g 2) (rdt s c r i j)) ∧ ∀ a b, a ≠ 1 → a ≠ 2 → v.1 a b = w.1 a b) (fu_lt (by omega)) ?_ ?_ ?_
    · exact ⟨rfl, rfl, hv2, hcv, hf⟩
    · rintro j hj x y u ⟨rfl, rfl, hu2, hcu, hfu⟩ kk
      have hWu : Wi u.2 := by rw [hu2]; exact hW
      have hpl := pos_lt hi hj
      have hfg : f_X6_figureAt 112 (I ((2 + i * (c + 1) + (j + 1) : Nat) : Int)) u = some (I (s (2 + i * (c + 1) + (j + 1)) - 48)) := s_figureAt hWu hT (h.of (hfu _ _ (by omega) (by omega)) (fun b => hfu _ _ (by omega) (by omega))) (by omega)
      left
      refine ⟨I ((2 + i * (c + 1) + (j + 1 + 1) : Nat) : Int), I (((j + 1 : Nat) : Int) + 1), upI u 2 (5 * j + (r - 1 - i)) (I (s (2 + i * (c + 1) + (j + 1)) - 48)), ⟨rfl, rfl, hu2, hcu.set (rdt_s hi hj (by omega) (by omega)) (fun q hq h => rdt_n hi hj (by omega) (by omega) hq h), fun a b h1 h2 => by rw [upI_n (by omega)]; exact hfu a b h1 h2⟩, ?_⟩
      rw [hcu.1, grd_0, if_neg (show ¬ (I (c : Int) < I ((j : Int) + 1)) by rw [I_lt (by omega) (by omega) (by omega) (by omega)]; omega), c1_r hfg, c1_r (s_setNumber (I (s (2 + i * (c + 1) + (j + 1)) - 48)) kd_1 (hWu.2.1 _ kd_1) hcu (hV i j) (by rw [grd_0]; omega) (by rw [grd_1]; omega)), show (5 * ((j : Int) + 1 - 1) + ((r : Int) - i - 1)).toNat = 5 * j + (r - 1 - i) by omega, lt_d, I_add, lt_d, I_add]
      rfl
    · rintro x y u ⟨rfl, rfl, hu2, hcu, hfu⟩ kk
      rw [hcu.1, grd_0, if_pos (show I (c : Int) < I ((c : Int) + 1) by rw [I_lt (by omega) (by omega) (by omega) (by omega)]; omega), lt_d, show -I 1 = I (-1) from rfl, I_add]
      refine ⟨_, _, u, ⟨rfl, rfl, hu2, grd_CG hcu.1 hcu.2.1 hcu.2.2.1 (fun q hq => by rw [hcu.2.2.2 q hq, grd_n, rdt_e]), hfu⟩, ?_⟩
      exact congrFun (congr (congrArg k (congrArg I (by omega))) (congrArg I (by omega))) u
  · rintro x y v ⟨rfl, rfl, hv2, hcv, hf⟩ k
    rw [if_pos (show I ((r : Int) - (r : Int)) < (1 : Int32) by rw [i1, I_lt (by omega) (by omega) (by omega) (by omega)]; omega)]
    exact ⟨v, rfl, hv2, hcv, hf⟩

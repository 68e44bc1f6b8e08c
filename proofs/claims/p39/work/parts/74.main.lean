/-! the object as it is made, and the law -/
theorem iA : (f_X7_init 0 1 (clr w00 0)).isSome = true := by decide +kernel
def wA : Wd := (f_X7_init 0 1 (clr w00 0)).get iA
theorem hA : f_X7_init 0 1 (clr w00 0) = some wA := (Option.some_get iA).symm
theorem wA_r0 : wA.2 0 0 = some 1 ∧ wA.2 0 1 = some 3 ∧ wA.2 0 2 = some 5 ∧ wA.2 0 4 = some 7 ∧ wA.2 0 6 = some 84 ∧ wA.2 0 7 = some 92 ∧ wA.2 0 8 = some 112 ∧ wA.2 0 9 = some 114 := by decide +kernel
theorem wA_rc : ∀ t, t < 143 → kd t = 0 → wA.2 t 3 = some (t + 1) := by decide +kernel
theorem wA_rs : ∀ t, t < 143 → kd t = 5 → wA.2 t 0 = some (t + 1) := by decide +kernel
theorem wA_r7 : wA.2 7 0 = some 8 ∧ wA.2 7 1 = some 81 ∧ wA.2 7 4 = some 83 := by decide +kernel
theorem wA_r8 : ∀ k, k < 36 → wA.2 8 k = some (9 + 2 * k) := by decide +kernel
theorem wA_r84 : wA.2 84 0 = some 85 ∧ ∀ k, k < 6 → wA.2 85 k = some (86 + k) := by decide +kernel
theorem wA_r92 : wA.2 92 0 = some 93 ∧ wA.2 112 0 = some 113 := by decide +kernel
theorem wA_rh : ∀ h, h < 6 → wA.2 114 h = some (115 + 4 * h) ∧ wA.2 (115 + 4 * h) 1 = some (116 + 4 * h) ∧ wA.2 (115 + 4 * h) 2 = some (118 + 4 * h) := by decide +kernel
theorem wA_d : ∀ k, k < 9 → wA.2 93 k = some (94 + 2 * k) ∧ kd (94 + 2 * k) = 0 := by decide +kernel
theorem wA_i : (wA.1 1 0 = I 3 ∧ wA.1 1 1 = I 3 ∧ wA.1 1 2 = I 0) ∧ wA.1 0 5 = I 0 ∧ (wA.1 92 1 = I 0 ∧ wA.1 92 2 = I 0) ∧ wA.1 0 3 = I 0 := by decide +kernel
theorem wA_n : ∀ j, j < 25 → wA.1 2 j = I 0 := by decide +kernel
theorem wA_s : (∀ y, y < 6 → wA.1 86 y = I 0) ∧ ∀ x, x < 6 → wA.1 (86 + x) 0 = I 0 := by decide +kernel
theorem Iv_of {w : Wd} (xr0 : w.2 0 0 = some 1 ∧ w.2 0 1 = some 3 ∧ w.2 0 2 = some 5 ∧ w.2 0 4 = some 7 ∧ w.2 0 6 = some 84 ∧ w.2 0 7 = some 92 ∧ w.2 0 8 = some 112 ∧ w.2 0 9 = some 114) (xrc : ∀ t, t < 143 → kd t = 0 → w.2 t 3 = some (t + 1)) (xrs : ∀ t, t < 143 → kd t = 5 → w.2 t 0 = some (t + 1)) (xr7 : w.2 7 0 = some 8 ∧ w.2 7 1 = some 81 ∧ w.2 7 4 = some 83) (xr8 : ∀ k, k < 36 → w.2 8 k = some (9 + 2 * k)) (xr84 : w.2 84 0 = some 85 ∧ ∀ k, k < 6 → w.2 85 k = some (86 + k)) (xr92 : w.2 92 0 = some 93 ∧ w.2 112 0 = some 113) (xrh : ∀ h, h < 6 → w.2 114 h = some (115 + 4 * h) ∧ w.2 (115 + 4 * h) 1 = some (116 + 4 * h) ∧ w.2 (115 + 4 * h) 2 = some (118 + 4 * h)) (xd : ∀ k, k < 9 → w.2 93 k = some (94 + 2 * k) ∧ kd (94 + 2 * k) = 0) (xi : (w.1 1 0 = I 3 ∧ w.1 1 1 = I 3 ∧ w.1 1 2 = I 0) ∧ w.1 0 5 = I 0 ∧ (w.1 92 1 = I 0 ∧ w.1 92 2 = I 0) ∧ w.1 0 3 = I 0) (xn : ∀ j, j < 25 → w.1 2 j = I 0) (xs : (∀ y, y < 6 → w.1 86 y = I 0) ∧ ∀ x, x < 6 → w.1 (86 + x) 0 = I 0) : Iv w (gst 3 3 0) 0 0 (fun _ => gst 3 3 0) := by
  have hv : GV (gst 3 3 0) := gst_V (by omega) (by omega) (by omega)
  have hW : Wi w.2 := ⟨xr0, fun t h => xrc t (Nat.lt_trans (kd_lt h (by decide) (by decide)) (by decide)) h, fun t h => xrs t (Nat.lt_trans (kd_lt h (by decide) (by decide)) (by decide)) h, xr7, xr8, xr84, xr92.1, xr92.2, xrh, trivial⟩
  obtain ⟨c, f, d, t⟩ := xi
  refine ⟨hW, hv, ⟨c.1, c.2.1, c.2.2, fun j hj => ?_⟩, Or.inl f, ⟨fun k => 94 + 2 * k, fun k hk => ⟨(xd k hk).1, (xd k hk).2, show 94 ≤ 94 + 2 * k by omega, show 94 + 2 * k < 111 by omega⟩, fun i j _ _ h => ?_, d.1, d.2, by decide, fun k _ h => absurd h (by omega)⟩, xs⟩
  · rw [gst_n]; exact xn j hj
  · have h' : 94 + 2 * i = 94 + 2 * j := h
    omega
theorem wA_Iv : Iv wA (gst 3 3 0) 0 0 (fun _ => gst 3 3 0) := Iv_of wA_r0 wA_rc wA_rs wA_r7 wA_r8 wA_r84 wA_r92 wA_rh wA_d wA_i wA_n wA_s
/-! nothing grows from nothing -/
theorem gc_z (r : Int) : ∀ k, gc r 0 (fun _ => 0) (fun _ => 0) (fun _ => 0) k = 0
  | 0 => rfl
  | k + 1 => by
    show gc r 0 (fun _ => 0) (fun _ => 0) (fun _ => 0) k + (0 + 0 - 0 - gN r 0 0 0 (gc r 0 (fun _ => 0) (fun _ => 0) (fun _ => 0) k)) = 0
    rw [gc_z r k, gN_z]
    rfl
theorem SR_z {r : Int} {wt : Nat → Nat → Int} (h : ∀ x y, wt x y = 0) : ∀ x y, SR r wt x y = fun _ => 0 := by
  intro x
  induction x with
  | zero => exact fun y => rfl
  | succ x ih =>
    intro y
    induction y with
    | zero => exact rfl
    | succ y ihy =>
      funext k
      rw [SR_s, ih y, ih (y + 1), ihy, h x y]
      show gN r 0 0 0 (gc r 0 (fun _ => 0) (fun _ => 0) (fun _ => 0) k) = 0
      rw [gc_z, gN_z]
theorem g3_z (x y : Nat) : Sg (gst 3 3 0) x y = fun _ => 0 := SR_z (fun x y => by
  unfold wts
  rw [gst_n]
  unfold worth
  repeat' split
  all_goals omega) x y
theorem ts_z : ∀ n, tsum (fun _ => 0) n = 0
  | 0 => rfl
  | n + 1 => by
    show tsum (fun _ => 0) n + 0 = 0
    rw [ts_z n]
    rfl
theorem g3_V : GV (gst 3 3 0) := gst_V (by omega) (by omega) (by omega)
theorem z_spelled {w : Wd} {p u : Nat} {G : Nat → Gd} (H : Iv w (gst 3 3 0) p u G) : f_X7_spelled 0 w = some (0 : Int32) := by
  obtain ⟨hW, hv, hc, -⟩ := H
  have hs : f_X0_spelling 1 w = some (0 : Int32) := by
    unfold f_X0_spelling
    rw [hc.1, hc.2.1]
    refine wl2_for 3 (fun i => (0 : Int32)) (fun i => I ((i : Int) + 1)) (by decide) rfl rfl (fun i hi k => ?_) (fun k => ?_)
    · rw [if_neg (show ¬ (I (gst 3 3 0 0) < I ((i : Int) + 1)) by rw [gst_0, I_lt (by omega) (by omega) (by omega) (by omega)]; omega)]
      refine wl2_for 3 (fun j => (0 : Int32)) (fun j => I ((j : Int) + 1)) (by decide) rfl rfl (fun j hj k2 => ?_) (fun k2 => ?_)
      · have hn := s_numberAt (x := (i : Int) + 1) (y := (j : Int) + 1) kd_1 (hW.2.1 _ kd_1) hc hv (by omega) (by omega)
        have en : num (gst 3 3 0) ((i : Int) + 1) ((j : Int) + 1) = 0 := by
          unfold num
          rw [gst_n]
          (repeat' split) <;> omega
        rw [en] at hn
        rw [if_neg (show ¬ (I (gst 3 3 0 1) < I ((j : Int) + 1)) by rw [gst_1, I_lt (by omega) (by omega) (by omega) (by omega)]; omega), c1_r hn, if_neg (by decide), jn_d, if_neg (by decide), lt_d, if_neg (by decide), lt_d, i1, I_add, nS1]
      · rw [if_pos (show I (gst 3 3 0 1) < I (((3 : Nat) : Int) + 1) by decide), show ((10 : Int32) * (0 : Int32)) + (0 : Int32) = (0 : Int32) by decide, lt_d, lt_d, i1, I_add, nS1]
    · rw [if_pos (show I (gst 3 3 0 0) < I (((3 : Nat) : Int) + 1) by decide)]
  unfold f_X7_spelled
  rw [rfc hW.1.1 kd_1 (by decide), c1_r hs]
theorem z_standard {w : Wd} {p u : Nat} {G : Nat → Gd} (H : Iv w (gst 3 3 0) p u G) : ∃ w', f_X7_standard 0 (3 : Int32) (3 : Int32) w = some ((1 : Int64), w') ∧ Iv w' (gst 3 3 0) p u G ∧ w'.1 0 3 = w.1 0 3 := by
  obtain ⟨w1, t, q1, kt, rt, hS, hs, hwb, H1, hf⟩ := t_ask H (a := 3) (b := 3) (by decide) (by decide)
  have hq := t_corner H (a := 3) (b := 3) (by decide) (by decide)
  have q1 : f_X7_shapeAt 0 (3 : Int32) (3 : Int32) w = some (t, w1) := q1
  have hq : f_X0_hasCorner 1 (3 : Int32) (3 : Int32) w = some (I 1) := hq
  rw [g3_z] at hS
  have hl : w1.1 t 1 = (0 : Int32) := by rw [hS.1, len_0]; rfl
  have h2 : w1.1 t 2 = (0 : Int32) := by rw [hS.2.1, ts_z]; rfl
  have hst : f_X5_standardFillings t w1 = some (1 : Int64) := by
    unfold f_X5_standardFillings
    rw [hl, h2]
    refine wl2_for 0 (fun _ => (1 : Int64)) (fun _ => (2 : Int32)) (by decide) rfl rfl (fun i hi k => absurd hi (by omega)) (fun k => ?_)
    rw [if_pos (by decide)]
    refine wl2_for 0 (fun _ => (1 : Int64)) (fun _ => (0 : Int32)) (by decide) rfl rfl (fun i hi k => absurd hi (by omega)) (fun k => ?_)
    rw [if_pos (by decide), if_neg (by decide)]
    rfl
  refine ⟨w1, ?_, H1, hf 0 3 (Or.inr ⟨rfl, rfl⟩)⟩
  unfold f_X7_standard
  rw [rfc H.1.1.1 kd_1 (by decide), c1_r hq, if_neg n10, c2_r q1, ckc kt (by decide), h2, if_pos (by decide), c1_r hst]
theorem z_product {w : Wd} {p u : Nat} {G : Nat → Gd} (H : Iv w (gst 3 3 0) p u G) : ∃ w', f_X7_product 0 (0 : Int32) (0 : Int32) w = some ((1 : Int32), w') ∧ Iv w' (gst 3 3 0) p u G ∧ w'.1 0 3 = w.1 0 3 := by
  obtain ⟨w1, t, q1, kt, rt, hS, hs, hwb, H1, hf⟩ := t_ask H (a := 0) (b := 0) (by decide) (by decide)
  have hq := t_corner H (a := 0) (b := 0) (by decide) (by decide)
  have q1 : f_X7_shapeAt 0 (0 : Int32) (0 : Int32) w = some (t, w1) := q1
  have hq : f_X0_hasCorner 1 (0 : Int32) (0 : Int32) w = some (I 1) := hq
  rw [g3_z] at hS
  have hl : w1.1 t 1 = (0 : Int32) := by rw [hS.1, len_0]; rfl
  have hst : f_X5_productOrWide t w1 = some (1 : Int32) := by
    unfold f_X5_productOrWide
    rw [hl]
    refine wl2_for 0 (fun _ => (1 : Int64)) (fun _ => (0 : Int32)) (by decide) rfl rfl (fun i hi k => absurd hi (by omega)) (fun k => ?_)
    rw [if_pos (by decide)]
    rfl
  refine ⟨w1, ?_, H1, hf 0 3 (Or.inr ⟨rfl, rfl⟩)⟩
  unfold f_X7_product
  rw [rfc H.1.1.1 kd_1 (by decide), c1_r hq, if_neg n10, c2_r q1, ckc kt (by decide), c1_r hst]
theorem z_undo {w : Wd} {g : Gd} {u : Nat} {G : Nat → Gd} (H : Iv w g 0 u G) : f_X7_undo 0 w = some ((-5 : Int32), w) := by
  obtain ⟨hW, hv, hc, hr, ⟨P, -, -, a3, -⟩, hs⟩ := H
  unfold f_X7_undo f_X2_undoable
  rw [rfc hW.1.2.2.2.2.2.1 kd_92 (by decide), c1_d, a3, if_pos (show I ((0 : Nat) : Int) = 0 from rfl)]
theorem z_restore {w : Wd} (h : w.1 0 3 = I 0) : f_X7_restore 0 w = some ((-5 : Int32), w) := by
  unfold f_X7_restore
  rw [h, if_pos z00]
theorem z_rim : RimF (gst 3 3 0) 3 3 3 := by
  refine ⟨fun x _ => ?_, fun y _ => ?_⟩
  · rw [g3_z, g3_z]
    exact Sp0 _ (fun _ => rfl)
  · rw [g3_z, g3_z]
    exact Sp0 _ (fun _ => rfl)
theorem main_ok (L : Nat) (xs : Nat → Int32) (hL : L ≤ 260) : f_main L xs wA = some (1 : Int32) := by
  have H := wA_Iv
  have k3 := wA_i.2.2.2
  obtain ⟨n0, n1, n2, n3⟩ := t_count H
  have n0 : f_X7_count 0 (0 : Int32) wA = some (3 : Int32) := n0
  have n1 : f_X7_count 0 (1 : Int32) wA = some (3 : Int32) := n1
  have n2 : f_X7_count 0 (2 : Int32) wA = some (0 : Int32) := n2
  have n3 : f_X7_count 0 (3 : Int32) wA = some (0 : Int32) := n3
  obtain ⟨w1, e1, H1, f1⟩ := t_size H (a := 3) (b := 3) (by decide) (by decide)
  rw [g3_z, ts_z] at e1
  have e1 : f_X7_shape 0 (3 : Int32) (3 : Int32) (0 : Int32) wA = some ((0 : Int32), w1) := e1
  obtain ⟨w2, e2, H2, f2⟩ := t_fits H1 (C := 3) (R := 3) rfl rfl (q := 3) (by omega) z_rim
  have e2 : f_X7_fits 0 (3 : Int32) w1 = some ((1 : Int32), w2) := e2
  obtain ⟨w3, e3, H3, f3⟩ := z_standard H2
  obtain ⟨w4, e4, H4, f4⟩ := z_product H3
  have k4 : w4.1 0 3 = I 0 := by rw [f4, f3, f2 0 3 (Or.inr ⟨rfl, rfl⟩), f1 0 3 (Or.inr ⟨rfl, rfl⟩), k3]
  obtain ⟨w5, g5, p5, u5, G5, e5, H5⟩ := t_setUp (xs := xs) hL H4
  obtain ⟨m0, m1, -, -⟩ := t_count H5
  have v1 := H5.2.1.1; have v2 := H5.2.1.2.1
  obtain ⟨C, hC⟩ : ∃ C : Nat, g5 0 = C := ⟨(g5 0).toNat, by omega⟩
  obtain ⟨R, hR⟩ : ∃ R : Nat, g5 1 = R := ⟨(g5 1).toNat, by omega⟩
  rw [hC] at m0
  rw [hR] at m1
  unfold f_main
  rw [c1_r n0, if_pos rfl, c1_r n1, if_pos rfl, c1_r n2, if_pos rfl, c1_r n3, if_pos rfl, c2_r e1, if_pos rfl, c1_r (z_spelled H1), if_pos rfl, c2_r e2, if_pos rfl, c2_r e3, if_pos (by decide), c2_r e4, if_pos rfl, c2_r (z_undo H4), if_pos rfl, c2_r (z_restore k4), if_pos rfl, c1_r e5, c1_r m0, c1_r m1]
  refine wl3_inv (Q := fun r => r = some (1 : Int32)) 4 (fun i x (v : Wd) (n : Nat) => x = I (i : Int) ∧ n = 139 + i ∧ ∃ g p u G, Iv v g p u G ∧ g 0 = (C : Int) ∧ g 1 = (R : Int)) (by decide) ⟨rfl, rfl, _, _, _, _, H5, hC, hR⟩ ?_ ?_
  · rintro i hi x v n ⟨rfl, rfl, g, p, u, G, Hv, c0, c1'⟩ k
    left
    rw [if_neg (show ¬ ((4 : Int32) ≤ I (i : Int)) by rw [i4, I_le (by omega) (by omega) (by omega) (by omega)]; omega)]
    refine law_iter (Q := fun r => ∃ t0 t1 t2, (t0 = I ((i + 1 : Nat) : Int) ∧ t2 = 139 + (i + 1) ∧ ∃ g p u G, Iv t1 g p u G ∧ g 0 = (C : Int) ∧ g 1 = (R : Int)) ∧ r = k t0 t1 t2) hi Hv c0 c1' (fun w' g' p' u' G' H' d0 d1 => ⟨_, w', _, ⟨rfl, by omega, g', p', u', G', H', d0, d1⟩, rfl⟩)
  · rintro x v n ⟨rfl, rfl, g, p, u, G, Hv, c0, c1'⟩ k
    rw [if_pos (by decide)]
theorem law_ok (L : Nat) (xs : Nat → Int32) (hL : L ≤ 260) : f_law L xs = some (1 : Int32) := by
  unfold f_law
  rw [show mk 0 (0 + 143) 7 0 = fun (K : Option Int32) => K from funext fun K => if_pos (by decide)]
  show lt2 _ _ _ = _
  rw [lt2_d, show (0 : Nat) + 1 = 1 from rfl, c1_r hA, if_pos (by decide), lt2_d]
  exact main_ok L xs hL

/-! the corners grown, in the class -/
theorem s_worthAt {w : Wd} {t : Nat} {g : Gd} {x y : Int} (hk : kd t = 0) (hr : w.2 t 3 = some (t + 1)) (h : CG w t g) (hv : GV g) (hx : -2147483648 ≤ x ∧ x < 2147483648) (hy : -2147483648 ≤ y ∧ y < 2147483648) :
    f_X0_worthAt t (I x) (I y) w = some (I (worth (g 2) (num g x y))) := by
  unfold f_X0_worthAt
  rw [c1_r (s_numberAt hk hr h hv hx hy), h.2.2.1, lt_d]
  have h2 := hv.2.2.1
  have h3 : 0 ≤ num g x y ∧ num g x y ≤ 3 := by
    unfold num
    split
    · have := hv.2.2.2.1 (5 * (x - 1) + (y - 1)).toNat (by have := hv.1; have := hv.2.1; omega)
      omega
    · omega
  unfold worth
  simp (disch := omega) only [i0, i1, i2, i3, i4, i5, i6, i7, i8, i9, i10, i12, i14, i20, i25, i26, i28, i30, i36, i48, i49, i50, i53, i57, i59, i60, i63, i75, i80, i99, i100, i196, i255, i1000, im1, im2, im3, im5, im6, im11, im12, im13, im14, im1000, I_lt, I_le, I_eq, I_ite]
theorem s_at {w : Wd} {x y : Nat} (hW : Wi w.2) (hx : x ≤ 5) (hy : y ≤ 5) : f_X1_at 7 (I x) (I y) w = some (9 + 2 * (6 * x + y)) := by
  unfold f_X1_at
  rw [jn_d]
  simp (disch := omega) only [i0, i1, i2, i3, i4, i5, i6, i7, i8, i9, i10, i12, i14, i20, i25, i26, i28, i30, i36, i48, i49, i50, i53, i57, i59, i60, i63, i75, i80, i99, i100, i196, i255, i1000, im1, im2, im3, im5, im6, im11, im12, im13, im14, im1000, I_add, I_sub, I_mul, I_nat, I_lt, I_le, I_eq]
  rw [if_neg (by omega), if_neg (by omega), if_neg (by omega), if_pos (by omega), rfc hW.2.2.2.1.1 kd_8 (by decide), ln_8, ix_d (by omega) (by omega) (by decide), show ((x : Int) * 6 + y).toNat = 6 * x + y by omega, rfc (hW.2.2.2.2.1 (6 * x + y) (by omega)) (kd_shape _ (by omega)) (by decide)]
def gws (w : Wd) (g : Gd) : Nat → Wd
  | 0 => w
  | c + 1 => if ((c % 6 : Nat) : Int) ≤ g 1 then shw (gws w g c) (9 + 2 * c) (Sg g (c / 6) (c % 6)) (len (Sg g (c / 6) (c % 6))) else gws w g c
theorem gws_t (w : Wd) (g : Gd) (c : Nat) : gws w g (c + 1) = if ((c % 6 : Nat) : Int) ≤ g 1 then shw (gws w g c) (9 + 2 * c) (Sg g (c / 6) (c % 6)) (len (Sg g (c / 6) (c % 6))) else gws w g c := rfl
theorem gws_2 (w : Wd) (g : Gd) : ∀ c, (gws w g c).2 = w.2
  | 0 => rfl
  | c + 1 => by
    unfold gws
    split
    · exact gws_2 w g c
    · exact gws_2 w g c
theorem gws_n (w : Wd) (g : Gd) : ∀ c a b, (a < 9 ∨ 9 + 2 * c ≤ a ∨ a % 2 = 1 ∧ b = 0) → (gws w g c).1 a b = w.1 a b
  | 0, _, _, _ => rfl
  | c + 1, a, b, h => by
    unfold gws
    split
    · rw [shw_n (by omega) (by omega), gws_n w g c a b (by omega)]
    · exact gws_n w g c a b (by omega)
theorem gws_S {g : Gd} (hv : GV g) (w : Wd) : ∀ c, c ≤ 36 → ∀ d, d < c → ((d % 6 : Nat) : Int) ≤ g 1 → ShC (gws w g c) (9 + 2 * d) (Sg g (d / 6) (d % 6))
  | 0, _, _, h, _ => absurd h (Nat.not_lt_zero _)
  | c + 1, hc, d, hd, hR => by
    unfold gws
    by_cases e : d = c
    · subst e
      rw [if_pos hR]
      exact shw_len (Sg_ok hv (by omega) (by omega)).1
    · have ih := gws_S hv w c (by omega) d (by omega) hR
      split
      · exact ih.of (fun b _ => shw_n (by omega) (by omega)) (fun b => shw_n (by omega) (by omega))
      · exact ih
theorem gws_e {g : Gd} (hv : GV g) (w : Wd) (x : Nat) : ∀ d (R : Nat), g 1 = R → R + 1 + d ≤ 6 → gws w g (6 * x + (R + 1 + d)) = gws w g (6 * x + (R + 1))
  | 0, _, _, _ => rfl
  | d + 1, R, hR, h => by
    rw [← gws_e hv w x d R hR (by omega), show 6 * x + (R + 1 + (d + 1)) = 6 * x + (R + 1 + d) + 1 by omega, gws_t, if_neg (by omega)]
theorem len_0 : len (fun _ => 0) = 0 := by decide
theorem gN_0 (r c : Int) : True := trivial
def GrC (w : Wd) (g : Gd) : Prop := w.1 7 2 = I (g 0) ∧ w.1 7 3 = I (g 1) ∧ ∀ x y : Nat, (x : Int) ≤ g 0 → (y : Int) ≤ g 1 → ShC w (9 + 2 * (6 * x + y)) (Sg g x y)
theorem GrC.of {w w' : Wd} {g : Gd} (hv : GV g) (h : GrC w g) (h1 : ∀ b, b = 2 ∨ b = 3 → w'.1 7 b = w.1 7 b) (h2 : ∀ a b, 9 ≤ a → a < 81 → ¬ (a % 2 = 1 ∧ b = 0) → w'.1 a b = w.1 a b) : GrC w' g := ⟨(h1 2 (Or.inl rfl)).trans h.1, (h1 3 (Or.inr rfl)).trans h.2.1, fun x y hx hy => by
  have v1 := hv.1; have v2 := hv.2.1
  exact (h.2.2 x y hx hy).of (fun b _ => h2 _ b (by omega) (by omega) (by omega)) (fun b => h2 _ b (by omega) (by omega) (by omega))⟩
theorem s_growOver {w : Wd} {g : Gd} (hW : Wi w.2) (hv : GV g) (hg : CG w 1 g) : ∃ w', f_X1_growOver 7 1 w = some w' ∧ w'.2 = w.2 ∧ GrC w' g ∧ w'.1 7 5 = 0 ∧ (∀ a b, (a < 9 ∨ 81 ≤ a ∨ a % 2 = 1 ∧ b = 0) → ¬ (a = 7 ∧ (b = 2 ∨ b = 3 ∨ b = 5)) → w'.1 a b = w.1 a b) := by
  obtain ⟨C, hC⟩ : ∃ C : Nat, g 0 = C := ⟨(g 0).toNat, by have := hv.1; omega⟩
  obtain ⟨R, hR⟩ : ∃ R : Nat, g 1 = R := ⟨(g 1).toNat, by have := hv.2.1; omega⟩
  have v1 := hv.1; have v2 := hv.2.1; have v3 := hv.2.2.1
  unfold f_X1_growOver
  rw [lt_d, lt_d, lt_d, upI_n (by omega), hg.1, hg.2.1]
  generalize hz : upI (upI (upI w 7 2 (I (g 0))) 7 3 (I (g 1))) 7 5 0 = z
  have z2 : z.2 = w.2 := by rw [← hz]; rfl
  have z72 : z.1 7 2 = I (g 0) := by rw [← hz, upI_n (by omega), upI_n (by omega), upI_s]
  have z73 : z.1 7 3 = I (g 1) := by rw [← hz, upI_n (by omega), upI_s]
  have z75 : z.1 7 5 = 0 := by rw [← hz, upI_s]
  have zn : ∀ a b, ¬ (a = 7 ∧ (b = 2 ∨ b = 3 ∨ b = 5)) → z.1 a b = w.1 a b := fun a b h => by rw [← hz, upI_n (by omega), upI_n (by omega), upI_n (by omega)]
  clear hz
  have hWz : ∀ c, Wi (gws z g c).2 := fun c => by rw [gws_2, z2]; exact hW
  have hgz : ∀ c, CG (gws z g c) 1 g := fun c => hg.of (fun b => by rw [gws_n _ _ _ _ _ (by omega), zn _ _ (by omega)]) (fun b => by rw [gws_n _ _ _ _ _ (by omega), zn _ _ (by omega)])
  refine ⟨gws z g (6 * (C + 1)), ?_, by rw [gws_2, z2], ⟨by rw [gws_n _ _ _ _ _ (by omega), z72], by rw [gws_n _ _ _ _ _ (by omega), z73], fun x y hx hy => ?_⟩, by rw [gws_n _ _ _ _ _ (by omega), z75], fun a b h1 h2 => by rw [gws_n _ _ _ _ _ (by omega), zn _ _ h2]⟩
  · refine wl2_for (C + 1) (fun x => I x) (fun x => gws z g (6 * x)) (fu_lt (by omega)) rfl rfl (fun x hx k => ?_) (fun k => ?_)
    · rw [gws_n _ _ _ _ _ (by omega), z72]
      simp (disch := omega) only [I_lt]
      rw [if_neg (by omega)]
      refine wl2_for (R + 1) (fun y => I y) (fun y => gws z g (6 * x + y)) (fu_lt (by omega)) rfl rfl (fun y hy k2 => ?_) (fun k2 => ?_)
      · rw [gws_n _ _ _ _ _ (by omega), z73]
        simp (disch := omega) only [I_lt]
        rw [if_neg (by omega), jn_d, jn_d, s_at (hWz _) (by omega) (by omega)]
        have eS : gws z g (6 * x + (y + 1)) = shw (gws z g (6 * x + y)) (9 + 2 * (6 * x + y)) (Sg g x y) (len (Sg g x y)) := by
          rw [show 6 * x + (y + 1) = 6 * x + y + 1 by omega, gws_t, if_pos (by omega), show (6 * x + y) / 6 = x by omega, show (6 * x + y) % 6 = y by omega]
        rw [eS, ← nS]
        have kt := kd_shape (6 * x + y) (by omega)
        simp (disch := omega) only [i0, i1, i2, i3, i4, i5, i6, i7, i8, i9, i10, i12, i14, i20, i25, i26, i28, i30, i36, i48, i49, i50, i53, i57, i59, i60, i63, i75, i80, i99, i100, i196, i255, i1000, im1, im2, im3, im5, im6, im11, im12, im13, im14, im1000, I_eq]
        by_cases c0 : (x : Int) = 0
        · have hx0 : x = 0 := by omega
          subst hx0
          rw [if_pos c0, c1_d, ckc kt (by decide), c1_r (s_makeEmpty (gws z g (6 * 0 + y)) (9 + 2 * (6 * 0 + y)) (Sg g 0 y)), lt_d, I_add]
          rw [show Sg g 0 y = fun _ => 0 from rfl, len_0]
        · rw [if_neg c0]
          by_cases c1' : (y : Int) = 0
          · have hy0 : y = 0 := by omega
            subst hy0
            rw [if_pos c1', c1_d, ckc kt (by decide), c1_r (s_makeEmpty (gws z g (6 * x + 0)) (9 + 2 * (6 * x + 0)) (Sg g x 0)), lt_d, I_add]
            rw [show Sg g x 0 = fun _ => 0 from funext fun k => SR_y0 _ _ x k, len_0]
          · rw [if_neg c1']
            obtain ⟨x, rfl⟩ : ∃ q, x = q + 1 := ⟨x - 1, by omega⟩
            obtain ⟨y, rfl⟩ : ∃ q, y = q + 1 := ⟨y - 1, by omega⟩
            rw [c1_d, ckc kt (by decide), I_sub, I_sub]
            rw [show ((x + 1 : Nat) : Int) - 1 = (x : Int) by omega, show ((y + 1 : Nat) : Int) - 1 = (y : Int) by omega]
            rw [c1_r (s_at (hWz _) (by omega) (by omega)), ckc (kd_shape _ (by omega)) (by decide), c1_r (s_at (hWz _) (by omega) (by omega)), ckc (kd_shape _ (by omega)) (by decide), c1_r (s_at (hWz _) (by omega) (by omega)), ckc (kd_shape _ (by omega)) (by decide)]
            rw [c1_r (s_worthAt kd_1 ((hWz _).2.1 _ kd_1) (hgz _) hv (by omega) (by omega)), (hgz _).2.2.1]
            have So := gws_S hv z (6 * (x + 1) + (y + 1)) (by omega) (6 * x + y) (by omega) (by omega)
            have Sa := gws_S hv z (6 * (x + 1) + (y + 1)) (by omega) (6 * x + (y + 1)) (by omega) (by omega)
            have Sb := gws_S hv z (6 * (x + 1) + (y + 1)) (by omega) (6 * (x + 1) + y) (by omega) (by omega)
            rw [show (6 * x + y) / 6 = x by omega, show (6 * x + y) % 6 = y by omega] at So
            rw [show (6 * x + (y + 1)) / 6 = x by omega, show (6 * x + (y + 1)) % 6 = y + 1 by omega] at Sa
            rw [show (6 * (x + 1) + y) / 6 = x + 1 by omega, show (6 * (x + 1) + y) % 6 = y by omega] at Sb
            have ew : worth (g 2) (num g ((x + 1 : Nat) : Int) ((y + 1 : Nat) : Int)) = wts g x y := by
              unfold wts num
              rw [if_pos (by omega), show (5 * (((x + 1 : Nat) : Int) - 1) + (((y + 1 : Nat) : Int) - 1)).toNat = 5 * x + y by omega]
            rw [ew]
            have ko := Sg_ok hv (x := x) (y := y) (by omega) (by omega)
            have ka := Sg_ok hv (x := x) (y := y + 1) (by omega) (by omega)
            have kb := Sg_ok hv (x := x + 1) (y := y) (by omega) (by omega)
            have kn := Sg_ok hv (x := x + 1) (y := y + 1) (by omega) (by omega)
            have bo := Wg_b hv (x := x) (y := y) (by omega) (by omega)
            have ba := Wg_b hv (x := x) (y := y + 1) (by omega) (by omega)
            have bb := Wg_b hv (x := x + 1) (y := y) (by omega) (by omega)
            have bn := Wg_b hv (x := x + 1) (y := y + 1) (by omega) (by omega)
            have eW : wts g x y + Wg g x (y + 1) + Wg g (x + 1) y - Wg g x y = Wg g (x + 1) (y + 1) := by
              have e1 : Wg g (x + 1) y = Wg g x y + csum (wts g x) y := rfl
              have e2 : Wg g (x + 1) (y + 1) = Wg g x (y + 1) + (csum (wts g x) y + wts g x y) := rfl
              omega
            have hG : Gs (gp (g 2) (wts g x y) (Sg g x y) (Sg g x (y + 1)) (Sg g (x + 1) y)) (wts g x y + Wg g x (y + 1) + Wg g (x + 1) y - Wg g x y) := by rw [eW]; exact kn.1
            rw [c1_r (s_growFrom (hWz _) kt (kd_shape _ (by omega)) (kd_shape _ (by omega)) (kd_shape _ (by omega)) (by omega) (by omega) (by omega) So Sa Sb v3 (wts_b hv x (by omega) y (by omega)) ko.1 ka.1 kb.1 (ka.2.1 (by omega)).1 (kb.2.2 (by omega)).1 (by omega) hG (by omega) (by omega) (by omega)), lt_d, I_add]
            rfl
      · rw [gws_n _ _ _ _ _ (by omega), z73]
        simp (disch := omega) only [I_lt]
        rw [if_pos (by omega), lt_d]
        have e := gws_e hv z x (5 - R) R hR (by omega)
        rw [show R + 1 + (5 - R) = 6 by omega] at e
        rw [← e, i1, I_add, nS]
        rfl
    · rw [gws_n _ _ _ _ _ (by omega), z72]
      simp (disch := omega) only [I_lt]
      rw [if_pos (by omega)]
  · have := gws_S hv z (6 * (C + 1)) (by omega) (6 * x + y) (by omega) (by omega)
    rw [show (6 * x + y) / 6 = x by omega, show (6 * x + y) % 6 = y by omega] at this
    exact this


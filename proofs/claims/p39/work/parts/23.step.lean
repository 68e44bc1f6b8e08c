/-! undo and again, in the class -/
theorem s_stepBack {w : Wd} {g : Gd} {p u : Nat} {G : Nat → Gd} (hW : Wi w.2) (hd : DC w p u G) (hg : CG w 1 g) (hp : 0 < p) : ∃ w', f_X2_stepBack 92 1 w = some w' ∧ w'.2 = w.2 ∧ CG w' 1 (G (p - 1)) ∧ DC w' (p - 1) (u + 1) (fun k => if k = p then g else G k) ∧ (∀ a b, a ≠ 92 → a ≠ 1 → a ≠ 2 → (a < 94 ∨ 112 ≤ a) → w'.1 a b = w.1 a b) := by
  obtain ⟨P, a1, a2, a3, a4, a5, a6⟩ := hd
  have hw := hW.2.2.2.2.2.2.1
  have hcell := hW.2.1
  obtain ⟨b1, b2, b3, b4⟩ := a1 p (by omega)
  obtain ⟨d1, d2, d3, d4⟩ := a1 (p - 1) (by omega)
  have hne : P (p - 1) ≠ P p := fun z => by have := a2 _ _ (by omega) (by omega) z; omega
  have hne2 : P (p - 1) ≠ P p + 1 := fun z => by have := (kdC b2).2.1; rw [← z, d2] at this; cases this
  have hne3 : P (p - 1) + 1 ≠ P p := fun z => by have := (kdC d2).2.1; rw [z, b2] at this; cases this
  unfold f_X2_stepBack
  rw [a3]
  simp (disch := omega) only [i0, i1, i2, i3, i4, i5, i6, i7, i8, i9, i10, i12, i14, i20, i25, i26, i28, i30, i36, i48, i49, i50, i53, i57, i59, i60, i63, i75, i80, i99, i100, i196, i255, i1000, im1, im2, im3, im5, im6, im11, im12, im13, im14, im1000, I_le]
  rw [if_neg (by omega), rfc hw kd_93 (by decide), ln_93, ix_d (by omega) (by omega) (by decide), Int.toNat_natCast, rfc b1 b2 (by decide), c1_r (s_copyFrom b2 (hcell _ b2) kd_1 (hcell _ kd_1) (by omega)), lt_d]
  rw [upI_2, cpg_2, rfc hw kd_93 (by decide), cpg_o (by omega) (by omega), a3, upI_s, I_sub, ln_93, ix_d (by omega) (by omega) (by decide), show ((p : Int) - 1).toNat = p - 1 by omega, rfc d1 d2 (by decide)]
  rw [c1_r (s_copyFrom (w := upI (cpg w (P p) 1) 92 1 (I ((p : Int) - 1))) kd_1 (hcell _ kd_1) d2 (hcell _ d2) (by omega))]
  refine ⟨_, rfl, rfl, cpg_CG ((a6 (p - 1) (by omega) (by omega)).of (fun b => ?_) (fun b => ?_)), ⟨P, a1, a2, ?_, ?_, by omega, fun k hk0 hk => ?_⟩, fun a b h1 h2 h3 h4 => ?_⟩
  · rw [upI_n (by omega), cpg_o hne hne2]
  · rw [upI_n (by omega), cpg_o hne3 (by omega)]
  · rw [cpg_o (by omega) (by omega), upI_s]; exact congrArg I (by omega)
  · rw [cpg_o (by omega) (by omega), upI_n (by omega), cpg_o (by omega) (by omega), a4]; exact congrArg I (by omega)
  · obtain ⟨e1, e2, e3, e4⟩ := a1 k (by omega)
    show CG _ _ (if k = p then g else G k)
    by_cases e : k = p
    · subst e
      rw [if_pos rfl]
      exact (cpg_CG hg).of (fun b => by rw [cpg_o (by omega) (by omega), upI_n (by omega)]) (fun b => by rw [cpg_o (by omega) (by omega), upI_n (by omega)])
    · rw [if_neg e]
      have hne : P k ≠ P p := fun z => e (a2 k p (by omega) (by omega) z)
      have hne2 : P k ≠ P p + 1 := fun z => by have := (kdC b2).2.1; rw [← z, e2] at this; cases this
      have hne3 : P k + 1 ≠ P p := fun z => by have := (kdC e2).2.1; rw [z, b2] at this; cases this
      exact (a6 k (by omega) (by omega)).of (fun b => by rw [cpg_o (by omega) (by omega), upI_n (by omega), cpg_o hne hne2]) (fun b => by rw [cpg_o (by omega) (by omega), upI_n (by omega), cpg_o hne3 (by omega)])
  · rw [cpg_o (by omega) (by omega), upI_n (by omega), cpg_o (by omega) (by omega)]
theorem s_stepOn {w : Wd} {p u : Nat} {G : Nat → Gd} (hW : Wi w.2) (hd : DC w p u G) (hu : 0 < u) : ∃ w', f_X2_stepOn 92 1 w = some w' ∧ w'.2 = w.2 ∧ CG w' 1 (G (p + 1)) ∧ DC w' (p + 1) (u - 1) G ∧ (∀ a b, a ≠ 92 → a ≠ 1 → a ≠ 2 → w'.1 a b = w.1 a b) := by
  obtain ⟨P, a1, a2, a3, a4, a5, a6⟩ := hd
  have hw := hW.2.2.2.2.2.2.1
  have hcell := hW.2.1
  obtain ⟨d1, d2, d3, d4⟩ := a1 (p + 1) (by omega)
  unfold f_X2_stepOn
  rw [a3, a4]
  simp (disch := omega) only [i0, i1, i2, i3, i4, i5, i6, i7, i8, i9, i10, i12, i14, i20, i25, i26, i28, i30, i36, i48, i49, i50, i53, i57, i59, i60, i63, i75, i80, i99, i100, i196, i255, i1000, im1, im2, im3, im5, im6, im11, im12, im13, im14, im1000, I_le]
  rw [if_neg (by omega), lt_d, upI_2, rfc hw kd_93 (by decide), upI_s, I_add, ln_93, ix_d (by omega) (by omega) (by decide), show ((p : Int) + 1).toNat = p + 1 by omega, rfc d1 d2 (by decide)]
  rw [c1_r (s_copyFrom (w := upI w 92 1 (I ((p : Int) + 1))) kd_1 (hcell _ kd_1) d2 (hcell _ d2) (by omega))]
  refine ⟨_, rfl, rfl, cpg_CG ((a6 (p + 1) (by omega) (by omega)).of (fun b => ?_) (fun b => ?_)), ⟨P, a1, a2, ?_, ?_, by omega, fun k hk0 hk => ?_⟩, fun a b h1 h2 h3 => ?_⟩
  · rw [upI_n (by omega)]
  · rw [upI_n (by omega)]
  · rw [cpg_o (by omega) (by omega), upI_s]; exact congrArg I (by omega)
  · rw [cpg_o (by omega) (by omega), upI_n (by omega), a4]; exact congrArg I (by omega)
  · obtain ⟨e1, e2, e3, e4⟩ := a1 k (by omega)
    exact (a6 k (by omega) (by omega)).of (fun b => by rw [cpg_o (by omega) (by omega), upI_n (by omega)]) (fun b => by rw [cpg_o (by omega) (by omega), upI_n (by omega)])
  · rw [cpg_o (by omega) (by omega), upI_n (by omega)]
theorem s_begin {w : Wd} {g : Gd} {p u : Nat} {G : Nat → Gd} (hW : Wi w.2) (hd : DC w p u G) (hg : CG w 1 g) : ∃ w', f_X7_beginDeed 0 w = some w' ∧ Wi w'.2 ∧ CG w' 1 g ∧ DC w' (pshP p) 0 (pshG p G g) ∧ w'.1 0 5 = 0 ∧ (∀ a b, a ≠ 92 → (a < 94 ∨ 112 ≤ a) → ¬ (a = 0 ∧ b = 5) → w'.1 a b = w.1 a b) := by
  obtain ⟨w1, h1, h2, h3, h4⟩ := s_remember hW hd hg
  unfold f_X7_beginDeed
  rw [rfc hW.1.2.2.2.2.2.1 kd_92 (by decide), rfc hW.1.1 kd_1 (by decide), c1_r h1, lt_d]
  refine ⟨_, rfl, h2, hg.of (fun b => ?_) (fun b => ?_), h3.of (fun b => ?_) (fun a b x y => ?_) (fun b => rfl), upI_s _ _ _ _, fun a b x y z => ?_⟩
  · rw [upI_n (by omega), h4 _ _ (by omega) (by omega)]
  · rw [upI_n (by omega), h4 _ _ (by omega) (by omega)]
  · rw [upI_n (by omega)]
  · rw [upI_n (by omega)]
  · rw [upI_n (by omega), h4 _ _ (by omega) (by omega)]


/-! count, undo, again, image, restore, wipe, feed -/
theorem m_total {w : Wd} {g : Gd} (hW : Wi w.2) (h : MG w g) : wl2 (fun (x8 : Int32) (x9 : Int32) k10 => (if (25 : Int32) ≤ x9 then some x8 else rf 153 (w.2 139 3) 9 (fun t13 => ix x9 (ln t13) (fun j15 => lt (x8 + (w.1 t13 j15)) (fun x16 => lt (x9 + (1 : Int32)) (fun x18 => k10 x16 x18)))))) fu (0 : Int32) (0 : Int32) = some (I (tot g 25)) := by
  refine wl2_for 25 (fun i => I (tot g i)) (fun i => I i) (by decide) rfl rfl (fun i hi k => ?_) (fun k => ?_)
  · simp (disch := omega) only [i0, i1, i2, i3, i4, i5, i6, i7, i8, i9, i10, i12, i14, i20, i25, i26, i28, i30, i36, i48, i49, i50, i53, i57, i59, i60, i63, i75, i80, i99, i100, i196, i255, i1000, im1, im2, im3, im5, im6, im11, im12, im13, im14, im1000, I_le]
    rw [if_neg (by omega), rfc hW.m3 kd_140 (by decide), ln_140, ix_d (by omega) (by omega) (by decide), Int.toNat_natCast, h.2.2.2 i hi, lt_d, lt_d, I_add, I_add, nS]
    rfl
  · rw [if_pos (by decide)]
theorem op_count {z : Int} (hz : -2147483648 ≤ z ∧ z < 2147483648) : Op1 (f_X7_count 0 (I z)) (f_X8_count 139 (I z)) := by
  rintro w ⟨g, p, u, G, hW, ⟨hv, hc, hm⟩, hrc, hrd, hri, ⟨T, s, t1, t2, t3, t4⟩, -⟩
  obtain ⟨P, -, -, a3, a4, -⟩ := hrd.2.2.2.1
  have m6 := hrd.2.2.2.2.1
  have m7 := hrd.2.2.2.2.2.1
  have e1 := hW.1.1
  have e7 := hW.1.2.2.2.2.2.1
  have e8 := hW.1.2.2.2.2.2.2.1
  unfold f_X7_count f_X8_count
  rw [I_toInt hz.1 hz.2]
  by_cases h0 : z = 0
  · rw [if_pos h0, if_pos h0, rfc e1 kd_1 (by decide), hc.1, hm.1]; exact ⟨_, rfl, rfl⟩
  rw [if_neg h0, if_neg h0]
  by_cases h1 : z = 1
  · rw [if_pos h1, if_pos h1, rfc e1 kd_1 (by decide), hc.2.1, hm.2.1]; exact ⟨_, rfl, rfl⟩
  rw [if_neg h1, if_neg h1]
  by_cases h2 : z = 2
  · rw [if_pos h2, if_pos h2, rfc e1 kd_1 (by decide), hc.2.2.1, hm.2.2.1]; exact ⟨_, rfl, rfl⟩
  rw [if_neg h2, if_neg h2]
  by_cases h3 : z = 3
  · rw [if_pos h3, if_pos h3, rfc e7 kd_92 (by decide)]
    unfold f_X2_undoable
    rw [c1_d, a3, m6]; exact ⟨_, rfl, rfl⟩
  rw [if_neg h3, if_neg h3]
  by_cases h4 : z = 4
  · rw [if_pos h4, if_pos h4, rfc e7 kd_92 (by decide)]
    unfold f_X2_redoable
    rw [c1_d, a3, a4, m7, I_sub, show ((p + u : Nat) : Int) - (p : Int) = (u : Int) by omega]; exact ⟨_, rfl, rfl⟩
  rw [if_neg h4, if_neg h4]
  by_cases h5 : z = 5
  · rw [if_pos h5, if_pos h5, rfc e8 kd_112 (by decide), t2, t3]; exact ⟨_, rfl, rfl⟩
  rw [if_neg h5, if_neg h5]
  by_cases h6 : z = 6
  · rw [if_pos h6, if_pos h6, rfc e1 kd_1 (by decide), c1_r (s_total kd_1 (hW.2.1 _ kd_1) hc), m_total hW hm]; exact ⟨_, rfl, rfl⟩
  rw [if_neg h6, if_neg h6]; exact ⟨_, rfl, rfl⟩
theorem op_undo : Op2 (f_X7_undo 0) (f_X8_undo 139) := by
  rintro w ⟨g, p, u, G, H⟩
  obtain ⟨hW, ⟨hv, hc, hm⟩, hrc, hrd, hri, hrt, hrh, hrs⟩ := id H
  obtain ⟨P, -, -, a3, a4, -⟩ := hrd.2.2.2.1
  have m6 := hrd.2.2.2.2.1
  have m7 := hrd.2.2.2.2.2.1
  have e1 := hW.1.1
  have e7 := hW.1.2.2.2.2.2.1
  have hpu := hrd.2.2.1
  unfold f_X7_undo f_X8_undo
  rw [rfc e7 kd_92 (by decide)]
  by_cases c : p = 0
  · refine ⟨I (-5), w, w, ?_, ?_, ⟨g, p, u, G, H⟩⟩
    · unfold f_X2_undoable
      rw [c1_d, a3, c, if_pos (show I ((0 : Nat) : Int) = 0 from rfl)]; rfl
    · rw [m6, c, if_pos (show I ((0 : Nat) : Int) = 0 from rfl)]; rfl
  · obtain ⟨w1, b1, b2, b3, b4, b5⟩ := s_stepBack hW hrd.2.2.2.1 hc (by omega)
    have hW1 : Wi w1.2 := by rw [b2]; exact hW
    generalize hw2 : upI w1 0 5 0 = w2
    have q2 : w2.2 = w.2 := by rw [← hw2]; exact b2
    have q1 : ∀ a b, ¬ (a = 0 ∧ b = 5) → w2.1 a b = w1.1 a b := fun a b h => by rw [← hw2]; exact upI_n h
    have hW2 : Wi w2.2 := by rw [q2]; exact hW
    have hm2 : MG w2 g := hm.of (fun b hb => by rw [q1 _ _ (by omega), b5 _ _ (by omega) (by omega) (by omega) (by omega)]) (fun b => by rw [q1 _ _ (by omega), b5 _ _ (by omega) (by omega) (by omega) (by omega)])
    have hd2 : DM w2 p u G := hrd.2.2.2.2.of (fun b _ _ => by rw [q1 _ _ (by omega), b5 _ _ (by omega) (by omega) (by omega) (by omega)]) (fun b => by rw [q1 _ _ (by omega), b5 _ _ (by omega) (by omega) (by omega) (by omega)]) (fun b => by rw [q1 _ _ (by omega), b5 _ _ (by omega) (by omega) (by omega) (by omega)])
    obtain ⟨P', -, -, a3', a4', -⟩ := id b4
    have ev : w2.1 92 1 = I ((p - 1 : Nat) : Int) := by rw [q1 _ _ (by omega)]; exact a3'
    have m7' : w2.1 139 7 = I u := hd2.2.1
    have m6' : w2.1 139 6 = I p := hd2.1
    have hc2 : CG w2 1 (G (p - 1)) := b3.of (fun b => q1 _ _ (by omega)) (fun b => q1 _ _ (by omega))
    have hdc2 : DC w2 (p - 1) (u + 1) (fun k => if k = p then g else G k) := b4.of (fun b => q1 _ _ (by omega)) (fun a b _ _ => q1 _ _ (by omega)) (fun b => by rw [q2, b2])
    refine ⟨I ((p - 1 : Nat) : Int), w2, ?_⟩
    have hL := m_lays (w := w2) (t := 142) (k := u) hW2 hm2 (by decide) (by rw [ln_142]; omega) (by rw [ln_142]; decide)
    generalize hw3 : upI (upI (layn w2 142 u g 28) 139 7 (I ((u : Int) + 1))) 139 6 (I ((p : Int) - 1)) = w3
    have r2 : w3.2 = w.2 := by rw [← hw3]; exact q2
    have hW3 : Wi w3.2 := by rw [r2]; exact hW
    have r1 : ∀ a b, ¬ (a = 139 ∧ (b = 6 ∨ b = 7)) → a ≠ 142 → w3.1 a b = w2.1 a b := fun a b h h2 => by rw [← hw3, upI_n (by omega), upI_n (by omega), layn_n (by omega)]
    have r6 : w3.1 139 6 = I ((p - 1 : Nat) : Int) := by rw [← hw3, upI_s]; exact congrArg I (by omega)
    have r7 : w3.1 139 7 = I ((u + 1 : Nat) : Int) := by rw [← hw3, upI_n (by omega), upI_s]; exact congrArg I (by omega)
    have r142 : ∀ j, j < 28 → w3.1 142 (28 * u + j) = I (g j) := fun j hj => by rw [← hw3, upI_n (by omega), upI_n (by omega), layn_i hj]
    have r142o : ∀ q, q < u → ∀ j, j < 28 → w3.1 142 (28 * q + j) = w2.1 142 (28 * q + j) := fun q hq j hj => by rw [← hw3, upI_n (by omega), upI_n (by omega), layn_n (by omega)]
    have hT := m_takes (w := w3) (t := 141) (k := p - 1) (g := G (p - 1)) hW3 (fun j hj => by rw [r1 _ _ (by omega) (by omega)]; exact hd2.2.2.1 (p - 1) (by omega) j hj) (by decide) (by rw [ln_141]; omega) (by rw [ln_141]; decide)
    refine ⟨tak w3 (G (p - 1)) 25, ?_, ?_, ⟨G (p - 1), p - 1, u + 1, fun k => if k = p then g else G k, ?_, ⟨hrd.1 _, hc2.of (fun b => ?_) (fun b => ?_), tak_MG _ _⟩, Or.inl ?_, ⟨fun k => ?_, fun _ => ?_, by omega, hdc2.of (fun b => ?_) (fun a b _ _ => ?_) (fun b => ?_), ?_, ?_, fun k hk j hj => ?_, fun q hq j hj => ?_⟩, hri.of (fun a b h => ?_), hrt.of (fun a b h => ?_), hrh.of (fun a b h => ?_), hrs.of (fun a b h => ?_)⟩⟩
    · unfold f_X2_undoable
      rw [c1_d, a3, if_neg (by rw [i0, I_eq (by omega) (by omega) (by omega) (by omega)]; omega), rfc e7 kd_92 (by decide), rfc e1 kd_1 (by decide), c1_r b1, lt_d, hw2, rfc (by rw [q2]; exact e7) kd_92 (by decide), c1_d, ev]
    · rw [m6', if_neg (by rw [i0, I_eq (by omega) (by omega) (by omega) (by omega)]; omega), rfc hW2.m5 kd_142 (by decide), m7', c1_r hL, lt_d, layn_n (by omega), m7', lt_d, upI_n (by omega), layn_n (by omega), m6', i1, I_add, I_sub, hw3, rfc hW3.m4 kd_141 (by decide), r6, c1_r hT, tak_n (by omega) (by omega), r6]
    · show Wi w3.2; exact hW3
    · rw [tak_n (by omega) (by omega), r1 _ _ (by omega) (by omega)]
    · rw [tak_n (by omega) (by omega), r1 _ _ (by omega) (by omega)]
    · rw [tak_n (by omega) (by omega), r1 _ _ (by omega) (by omega), ← hw2, upI_s]; rfl
    · show GV (if k = p then g else G k)
      split
      · exact hv
      · exact hrd.1 k
    · show (if p - 1 = p then g else G (p - 1)) = _
      rw [if_neg (by omega)]
    · rw [tak_n (by omega) (by omega), r1 _ _ (by omega) (by omega)]
    · rw [tak_n (by omega) (by omega), r1 _ _ (by omega) (by omega)]
    · show w3.2 93 b = _; rw [r2, q2]
    · rw [tak_n (by omega) (by omega), r6]
    · rw [tak_n (by omega) (by omega), r7]
    · rw [tak_n (by omega) (by omega), r1 _ _ (by omega) (by omega), hd2.2.2.1 k (by omega) j hj]
      show I (G k j) = I ((if k = p then g else G k) j)
      rw [if_neg (by omega)]
    · show _ = I ((if p - 1 + (u + 1) - q = p then g else G (p - 1 + (u + 1) - q)) j)
      rw [tak_n (by omega) (by omega)]
      by_cases e : q = u
      · subst e
        rw [r142 j hj, if_pos (by omega)]
      · rw [r142o q (by omega) j hj, hd2.2.2.2 q (by omega) j hj, if_neg (by omega), show p - 1 + (u + 1) - q = p + u - q by omega]
    all_goals rw [tak_n (by omega) (by omega), r1 _ _ (by omega) (by omega), q1 _ _ (by omega), b5 _ _ (by omega) (by omega) (by omega) (by omega)]
theorem op_again : Op2 (f_X7_again 0) (f_X8_again 139) := by
  rintro w ⟨g, p, u, G, H⟩
  obtain ⟨hW, ⟨hv, hc, hm⟩, hrc, hrd, hri, hrt, hrh, hrs⟩ := id H
  obtain ⟨P, -, -, a3, a4, -⟩ := hrd.2.2.2.1
  have m6 := hrd.2.2.2.2.1
  have m7 := hrd.2.2.2.2.2.1
  have e1 := hW.1.1
  have e7 := hW.1.2.2.2.2.2.1
  have hpu := hrd.2.2.1
  unfold f_X7_again f_X8_again
  rw [rfc e7 kd_92 (by decide)]
  have ered : f_X2_redoable 92 w = some (I u) := by
    unfold f_X2_redoable
    rw [a3, a4, I_sub, show ((p + u : Nat) : Int) - (p : Int) = (u : Int) by omega]
  rw [c1_r ered]
  by_cases c : u = 0
  · refine ⟨I (-5), w, w, ?_, ?_, ⟨g, p, u, G, H⟩⟩
    · rw [c, if_pos (show I ((0 : Nat) : Int) = 0 from rfl)]; rfl
    · rw [m7, c, if_pos (show I ((0 : Nat) : Int) = 0 from rfl)]; rfl
  · obtain ⟨w1, b1, b2, b3, b4, b5⟩ := s_stepOn hW hrd.2.2.2.1 (by omega)
    have hW1 : Wi w1.2 := by rw [b2]; exact hW
    generalize hw2 : upI w1 0 5 0 = w2
    have q2 : w2.2 = w.2 := by rw [← hw2]; exact b2
    have q1 : ∀ a b, ¬ (a = 0 ∧ b = 5) → w2.1 a b = w1.1 a b := fun a b h => by rw [← hw2]; exact upI_n h
    have hW2 : Wi w2.2 := by rw [q2]; exact hW
    have hm2 : MG w2 g := hm.of (fun b hb => by rw [q1 _ _ (by omega), b5 _ _ (by omega) (by omega) (by omega)]) (fun b => by rw [q1 _ _ (by omega), b5 _ _ (by omega) (by omega) (by omega)])
    have hd2 : DM w2 p u G := hrd.2.2.2.2.of (fun b _ _ => by rw [q1 _ _ (by omega), b5 _ _ (by omega) (by omega) (by omega)]) (fun b => by rw [q1 _ _ (by omega), b5 _ _ (by omega) (by omega) (by omega)]) (fun b => by rw [q1 _ _ (by omega), b5 _ _ (by omega) (by omega) (by omega)])
    obtain ⟨P', -, -, a3', a4', -⟩ := id b4
    have ev : f_X2_redoable 92 w2 = some (I ((u - 1 : Nat) : Int)) := by
      unfold f_X2_redoable
      rw [q1 _ _ (by omega), q1 _ _ (by omega), a3', a4', I_sub, show ((p + 1 + (u - 1) : Nat) : Int) - ((p + 1 : Nat) : Int) = ((u - 1 : Nat) : Int) by omega]
    have m7' : w2.1 139 7 = I u := hd2.2.1
    have m6' : w2.1 139 6 = I p := hd2.1
    have hc2 : CG w2 1 (G (p + 1)) := b3.of (fun b => q1 _ _ (by omega)) (fun b => q1 _ _ (by omega))
    have hdc2 : DC w2 (p + 1) (u - 1) G := b4.of (fun b => q1 _ _ (by omega)) (fun a b _ _ => q1 _ _ (by omega)) (fun b => by rw [q2, b2])
    refine ⟨I ((u - 1 : Nat) : Int), w2, ?_⟩
    have hL := m_lays (w := w2) (t := 141) (k := p) hW2 hm2 (by decide) (by rw [ln_141]; omega) (by rw [ln_141]; decide)
    generalize hw3 : upI (upI (layn w2 141 p g 28) 139 6 (I ((p : Int) + 1))) 139 7 (I ((u : Int) - 1)) = w3
    have r2 : w3.2 = w.2 := by rw [← hw3]; exact q2
    have hW3 : Wi w3.2 := by rw [r2]; exact hW
    have r1 : ∀ a b, ¬ (a = 139 ∧ (b = 6 ∨ b = 7)) → a ≠ 141 → w3.1 a b = w2.1 a b := fun a b h h2 => by rw [← hw3, upI_n (by omega), upI_n (by omega), layn_n (by omega)]
    have r6 : w3.1 139 6 = I ((p + 1 : Nat) : Int) := by rw [← hw3, upI_n (by omega), upI_s]; exact congrArg I (by omega)
    have r7 : w3.1 139 7 = I ((u - 1 : Nat) : Int) := by rw [← hw3, upI_s]; exact congrArg I (by omega)
    have r141 : ∀ j, j < 28 → w3.1 141 (28 * p + j) = I (g j) := fun j hj => by rw [← hw3, upI_n (by omega), upI_n (by omega), layn_i hj]
    have r141o : ∀ q, q < p → ∀ j, j < 28 → w3.1 141 (28 * q + j) = w2.1 141 (28 * q + j) := fun q hq j hj => by rw [← hw3, upI_n (by omega), upI_n (by omega), layn_n (by omega)]
    have hT := m_takes (w := w3) (t := 142) (k := u - 1) (g := G (p + 1)) hW3 (fun j hj => by rw [r1 _ _ (by omega) (by omega), hd2.2.2.2 (u - 1) (by omega) j hj, show p + u - (u - 1) = p + 1 by omega]) (by decide) (by rw [ln_142]; omega) (by rw [ln_142]; decide)
    refine ⟨tak w3 (G (p + 1)) 25, ?_, ?_, ⟨G (p + 1), p + 1, u - 1, G, ?_, ⟨hrd.1 _, hc2.of (fun b => ?_) (fun b => ?_), tak_MG _ _⟩, Or.inl ?_, ⟨hrd.1, fun _ => rfl, by omega, hdc2.of (fun b => ?_) (fun a b _ _ => ?_) (fun b => ?_), ?_, ?_, fun k hk j hj => ?_, fun q hq j hj => ?_⟩, hri.of (fun a b h => ?_), hrt.of (fun a b h => ?_), hrh.of (fun a b h => ?_), hrs.of (fun a b h => ?_)⟩⟩
    · rw [if_neg (by rw [i0, I_eq (by omega) (by omega) (by omega) (by omega)]; omega), rfc e7 kd_92 (by decide), rfc e1 kd_1 (by decide), c1_r b1, lt_d, hw2, rfc (by rw [q2]; exact e7) kd_92 (by decide), c1_r ev]
    · rw [m7', if_neg (by rw [i0, I_eq (by omega) (by omega) (by omega) (by omega)]; omega), rfc hW2.m4 kd_141 (by decide), m6', c1_r hL, lt_d, layn_n (by omega), m6', lt_d, upI_n (by omega), layn_n (by omega), m7', i1, I_add, I_sub, hw3, rfc hW3.m5 kd_142 (by decide), r7, c1_r hT, tak_n (by omega) (by omega), r7]
    · show Wi w3.2; exact hW3
    · rw [tak_n (by omega) (by omega), r1 _ _ (by omega) (by omega)]
    · rw [tak_n (by omega) (by omega), r1 _ _ (by omega) (by omega)]
    · rw [tak_n (by omega) (by omega), r1 _ _ (by omega) (by omega), ← hw2, upI_s]; rfl
    · rw [tak_n (by omega) (by omega), r1 _ _ (by omega) (by omega)]
    · rw [tak_n (by omega) (by omega), r1 _ _ (by omega) (by omega)]
    · show w3.2 93 b = _; rw [r2, q2]
    · rw [tak_n (by omega) (by omega), r6]
    · rw [tak_n (by omega) (by omega), r7]
    · rw [tak_n (by omega) (by omega)]
      by_cases e : k = p
      · subst e
        rw [r141 j hj, hrd.2.1 (by omega)]
      · rw [r141o k (by omega) j hj, hd2.2.2.1 k (by omega) j hj]
    · rw [tak_n (by omega) (by omega), r1 _ _ (by omega) (by omega), hd2.2.2.2 q (by omega) j hj, show p + 1 + (u - 1) - q = p + u - q by omega]
    all_goals rw [tak_n (by omega) (by omega), r1 _ _ (by omega) (by omega), q1 _ _ (by omega), b5 _ _ (by omega) (by omega) (by omega)]
theorem op_image : Op2 (f_X7_image 0) (f_X8_image 139) := by
  rintro w ⟨g, p, u, G, H⟩
  obtain ⟨hW, ⟨hv, hc, hm⟩, hrc, hrd, hri, hrt, hrh, hrs⟩ := id H
  have e1 := hW.1.1
  have e3 := hW.1.2.2.1
  unfold f_X7_image f_X8_image
  rw [rfc e3 kd_5 (by decide), rfc e1 kd_1 (by decide), c1_r (s_copyFrom kd_5 (hW.2.1 _ kd_5) kd_1 (hW.2.1 _ kd_1) (by decide)), lt_d]
  generalize hw2 : upI (cpg w 5 1) 0 3 1 = w2
  have q2 : w2.2 = w.2 := by rw [← hw2]; rfl
  have q1 : ∀ a b, ¬ (a = 0 ∧ b = 3) → a ≠ 5 → a ≠ 6 → w2.1 a b = w.1 a b := fun a b h h1 h2 => by rw [← hw2, upI_n h, cpg_o h1 (by omega)]
  have qf : w2.1 0 3 = I 1 := by rw [← hw2, upI_s]; rfl
  have hc5 : CG w2 5 g := by
    rw [← hw2]
    exact (cpg_CG hc).of (fun b => upI_n (by omega)) (fun b => upI_n (by omega))
  have hW2 : Wi w2.2 := by rw [q2]; exact hW
  have hm2 : MG w2 g := hm.of (fun b _ => q1 _ _ (by omega) (by omega) (by omega)) (fun b => q1 _ _ (by omega) (by omega) (by omega))
  refine ⟨I (fld g 25), w2, upI (layn w2 152 0 g 28) 139 19 1, ?_, ?_, ⟨g, p, u, G, hW2, ⟨hv, hc.of (fun b => ?_) (fun b => ?_), hm2.of (fun b hb => ?_) (fun b => ?_)⟩, hrc.of hv (fun a b h => ?_), hrd.of (fun a b h => ?_) (fun b => ?_), Or.inr ⟨?_, ?_, g, hv, hc5.of (fun b => ?_) (fun b => ?_), fun j hj => ?_⟩, hrt.of (fun a b h => ?_), hrh.of (fun a b h => ?_), hrs.of (fun a b h => ?_)⟩⟩
  · rw [rfc (by rw [q2]; exact e3) kd_5 (by decide), c1_r (s_filled kd_5 (hW2.2.1 _ kd_5) hc5 hv)]
  · rw [rfc hW2.m18 kd_152 (by decide), c1_r (show f_X8_lays 139 152 0 w2 = some (layn w2 152 0 g 28) from m_lays (t := 152) (k := 0) hW2 hm2 (by decide) (by rw [ln_152]; decide) (by rw [ln_152]; decide)), lt_d, c1_r (m_filled (g := g) (by exact hW2) (hm2.of (fun b hb => ?_) (fun b => ?_)) hv)]
    · rw [upI_n (by omega), layn_n (by omega)]
    · rw [upI_n (by omega), layn_n (by omega)]
  · rw [upI_n (by omega), layn_n (by omega), q1 _ _ (by omega) (by omega) (by omega)]
  · rw [upI_n (by omega), layn_n (by omega), q1 _ _ (by omega) (by omega) (by omega)]
  · rw [upI_n (by omega), layn_n (by omega)]
  · rw [upI_n (by omega), layn_n (by omega)]
  · rw [upI_n (by omega), layn_n (by omega), q1 _ _ (by omega) (by omega) (by omega)]
  · rw [upI_n (by omega), layn_n (by omega), q1 _ _ (by omega) (by omega) (by omega)]
  · show w2.2 93 b = _; rw [q2]
  · rw [upI_n (by omega), layn_n (by omega), qf]
  · rw [upI_s]; rfl
  · rw [upI_n (by omega), layn_n (by omega)]
  · rw [upI_n (by omega), layn_n (by omega)]
  · rw [upI_n (by omega)]
    have := layn_i (w := w2) (t := 152) (k := 0) (g := g) hj
    rw [show 28 * 0 + j = j by omega] at this
    exact this
  all_goals rw [upI_n (by omega), layn_n (by omega), q1 _ _ (by omega) (by omega) (by omega)]
theorem op_restore : Op2 (f_X7_restore 0) (f_X8_restore 139) := by
  rintro w ⟨g, p, u, G, H⟩
  obtain ⟨hW, ⟨hv, hc, hm⟩, hrc, hrd, hri, hrt, hrh, hrs⟩ := id H
  have e1 := hW.1.1
  have e3 := hW.1.2.2.1
  have e7 := hW.1.2.2.2.2.2.1
  unfold f_X7_restore f_X8_restore
  obtain ⟨h1, h2⟩ | ⟨h1, h2, f, h3, h4, h5⟩ := id hri
  · refine ⟨I (-5), w, w, ?_, ?_, ⟨g, p, u, G, H⟩⟩
    · rw [h1, if_pos (show I 0 = 0 from rfl)]; rfl
    · rw [h2, if_pos (show I 0 = 0 from rfl)]; rfl
  · rw [h1, if_neg (by decide), rfc e1 kd_1 (by decide), rfc e3 kd_5 (by decide), c1_r (s_copyFrom kd_1 (hW.2.1 _ kd_1) kd_5 (hW.2.1 _ kd_5) (by decide)), lt_d]
    unfold f_X2_forgetAll
    rw [rfc (show (upI (cpg w 1 5) 0 5 0).2 0 7 = some 92 from e7) kd_92 (by decide), lt_d, lt_d, c1_d]
    generalize hw2 : upI (upI (upI (cpg w 1 5) 0 5 0) 92 1 0) 92 2 0 = w2
    have q2 : w2.2 = w.2 := by rw [← hw2]; rfl
    have q1 : ∀ a b, ¬ (a = 0 ∧ b = 5) → a ≠ 1 → a ≠ 2 → a ≠ 92 → w2.1 a b = w.1 a b := fun a b h h1 h2 h3 => by rw [← hw2, upI_n (by omega), upI_n (by omega), upI_n (by omega), cpg_o h1 (by omega)]
    have qf : w2.1 0 5 = I 0 := by rw [← hw2, upI_n (by omega), upI_n (by omega), upI_s]; rfl
    have qp : w2.1 92 1 = I 0 := by rw [← hw2, upI_n (by omega), upI_s]; rfl
    have qe : w2.1 92 2 = I 0 := by rw [← hw2, upI_s]; rfl
    have hc1 : CG w2 1 f := by
      rw [← hw2]
      exact (cpg_CG h4).of (fun b => by rw [upI_n (by omega), upI_n (by omega), upI_n (by omega)]) (fun b => by rw [upI_n (by omega), upI_n (by omega), upI_n (by omega)])
    have hW2 : Wi w2.2 := by rw [q2]; exact hW
    have hT := m_takes (w := w2) (t := 152) (k := 0) (g := f) hW2 (fun j hj => by rw [show 28 * 0 + j = j by omega, q1 _ _ (by omega) (by omega) (by omega) (by omega)]; exact h5 j hj) (by decide) (by rw [ln_152]; decide) (by rw [ln_152]; decide)
    refine ⟨I (fld f 25), w2, upI (upI (tak w2 f 25) 139 6 0) 139 7 0, ?_, ?_, ⟨f, 0, 0, fun _ => f, hW2, ⟨h3, hc1.of (fun b => ?_) (fun b => ?_), ?_⟩, Or.inl ?_, ⟨fun _ => h3, fun h => absurd h (by decide), by decide, ?_, ?_, ?_, fun k hk => absurd hk (by omega), fun k hk => absurd hk (by omega)⟩, hri.of (fun a b h => ?_), hrt.of (fun a b h => ?_), hrh.of (fun a b h => ?_), hrs.of (fun a b h => ?_)⟩⟩
    · rw [rfc (by rw [q2]; exact e1) kd_1 (by decide), c1_r (s_filled kd_1 (hW2.2.1 _ kd_1) hc1 h3)]
    · rw [q1 139 19 (by omega) (by omega) (by omega) (by omega), h2, if_neg (by decide), rfc hW2.m18 kd_152 (by decide), c1_r (show f_X8_takes 139 152 0 w2 = _ from hT), lt_d, lt_d, c1_r (m_filled (g := f) (by exact hW2) ((tak_MG w2 f).of (fun b hb => ?_) (fun b => ?_)) h3)]
      · rw [upI_n (by omega), upI_n (by omega)]
      · rw [upI_n (by omega), upI_n (by omega)]
    · rw [upI_n (by omega), upI_n (by omega), tak_n (by omega) (by omega)]
    · rw [upI_n (by omega), upI_n (by omega), tak_n (by omega) (by omega)]
    · exact (tak_MG w2 f).of (fun b hb => by rw [upI_n (by omega), upI_n (by omega)]) (fun b => by rw [upI_n (by omega), upI_n (by omega)])
    · rw [upI_n (by omega), upI_n (by omega), tak_n (by omega) (by omega), qf]
    · obtain ⟨P, a1, a2, a3, a4, a5, a6⟩ := hrd.2.2.2.1
      refine ⟨P, fun k hk => ?_, a2, ?_, ?_, by decide, fun k hk hk2 => absurd hk2 (by omega)⟩
      · show w2.2 93 k = _ ∧ _
        rw [q2]; exact a1 k hk
      · rw [upI_n (by omega), upI_n (by omega), tak_n (by omega) (by omega), qp]; rfl
      · rw [upI_n (by omega), upI_n (by omega), tak_n (by omega) (by omega), qe]; rfl
    · rw [upI_n (by omega), upI_s]; rfl
    · rw [upI_s]; rfl
    all_goals rw [upI_n (by omega), upI_n (by omega), tak_n (by omega) (by omega), q1 _ _ (by omega) (by omega) (by omega) (by omega)]
theorem op_wipe : Op2 (f_X7_wipe 0) (f_X8_wipe 139) := by
  rintro w ⟨g, p, u, G, H⟩
  obtain ⟨hW, ⟨hv, hc, hm⟩, hrc, hrd, hri, ⟨T, s, t1, t2, t3, t4⟩, hrh, hrs⟩ := id H
  have e8 := hW.1.2.2.2.2.2.2.1
  unfold f_X7_wipe f_X8_wipe
  rw [rfc e8 kd_112 (by decide), lt_d, rfc e8 kd_112 (by decide), lt_d, t2]
  refine ⟨I T, _, upI (upI w 112 1 0) 139 14 0, rfl, ?_, ⟨g, p, u, G, hW, ⟨hv, hc.of (fun b => ?_) (fun b => ?_), hm.of (fun b hb => ?_) (fun b => ?_)⟩, hrc.of hv (fun a b h => ?_), hrd.of (fun a b h => ?_) (fun b => rfl), hri.of (fun a b h => ?_), ⟨0, s, by omega, ?_, ?_, fun j hj => absurd hj (by omega)⟩, hrh.of (fun a b h => ?_), hrs.of (fun a b h => ?_)⟩⟩
  · rw [lt_d, lt_d, upI_n (by omega), t3]
  case refine_9 => rw [upI_n (by omega), upI_s]; rfl
  case refine_10 => rw [upI_s]; rfl
  all_goals rw [upI_n (by omega), upI_n (by omega)]

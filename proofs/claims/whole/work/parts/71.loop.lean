/-! the law's loop -/
theorem fin2 {f7 f8 : Wd → Option (Int32 × Wd)} (h : Op2 f7 f8) {w : Wd} (hw : In w) (J : Wd → Option Int32) : ∃ w', In w' ∧ c2 (f7 w) (fun v w1 => c2 (f8 w1) (fun v' w2 => if v = v' then J w2 else some (0 : Int32))) = J w' := by
  obtain ⟨v, w1, w2, h1, h2, h3⟩ := h w hw
  exact ⟨w2, h3, by rw [c2_r h1, c2_r h2, if_pos rfl]⟩
theorem lg_r (v : Int64) : lg_cmp v v = 0 := by
  unfold lg_cmp
  simp
theorem fin2l {f7 f8 : Wd → Option (Int64 × Wd)} (h : Op2 f7 f8) {w : Wd} (hw : In w) (J : Wd → Option Int32) : ∃ w', In w' ∧ c2 (f7 w) (fun v w1 => c2 (f8 w1) (fun v' w2 => if (lg_cmp v v') = 0 then J w2 else some (0 : Int32))) = J w' := by
  obtain ⟨v, w1, w2, h1, h2, h3⟩ := h w hw
  exact ⟨w2, h3, by rw [c2_r h1, c2_r h2, if_pos (lg_r v)]⟩
theorem fin1 {f7 f8 : Wd → Option Int32} (h : Op1 f7 f8) {w : Wd} (hw : In w) (J : Wd → Option Int32) : ∃ w', In w' ∧ c1 (f7 w) (fun v => c1 (f8 w) (fun v' => if v = v' then J w else some (0 : Int32))) = J w' := by
  obtain ⟨v, h1, h2⟩ := h w hw
  exact ⟨w, hw, by rw [c1_r h1, c1_r h2, if_pos rfl]⟩
theorem fin1l {f7 f8 : Wd → Option Int64} (h : Op1 f7 f8) {w : Wd} (hw : In w) (J : Wd → Option Int32) : ∃ w', In w' ∧ c1 (f7 w) (fun v => c1 (f8 w) (fun v' => if (lg_cmp v v') = 0 then J w else some (0 : Int32))) = J w' := by
  obtain ⟨v, h1, h2⟩ := h w hw
  exact ⟨w, hw, by rw [c1_r h1, c1_r h2, if_pos (lg_r v)]⟩
set_option maxRecDepth 100000 in
theorem loop_ok (L : Nat) (xs : Nat → Int32) (hL : L ≤ 2048) {w : Wd} (hw : In w) : f_loop L xs 0 w = some (1 : Int32) := by
  unfold f_loop
  refine wl2_inv (Q := fun r => r = some (1 : Int32)) (L / 4) (fun i x (v : Wd) => x = I ((4 * i : Nat) : Int) ∧ In v) (fu_lt (by omega)) ?_ ?_ ?_
  · exact ⟨rfl, hw⟩
  · rintro i hi x v ⟨rfl, hv⟩ k
    left
    have e0 : ∀ K : Nat → Option Int32, ix (I ((4 * i : Nat) : Int)) L K = K (4 * i) := fun K => by rw [ix_d (by omega) (by omega) (by omega), Int.toNat_natCast]
    have e1 : ∀ K : Nat → Option Int32, ix (I ((4 * i : Nat) : Int) + (1 : Int32)) L K = K (4 * i + 1) := fun K => by rw [i1, I_add, ix_d (by omega) (by omega) (by omega), show (((4 * i : Nat) : Int) + 1).toNat = 4 * i + 1 by omega]
    have e2 : ∀ K : Nat → Option Int32, ix (I ((4 * i : Nat) : Int) + (2 : Int32)) L K = K (4 * i + 2) := fun K => by rw [i2, I_add, ix_d (by omega) (by omega) (by omega), show (((4 * i : Nat) : Int) + 2).toNat = 4 * i + 2 by omega]
    have e3 : ∀ K : Nat → Option Int32, ix (I ((4 * i : Nat) : Int) + (3 : Int32)) L K = K (4 * i + 3) := fun K => by rw [i3, I_add, ix_d (by omega) (by omega) (by omega), show (((4 * i : Nat) : Int) + 3).toNat = 4 * i + 3 by omega]
    obtain ⟨a, ha, ea⟩ := I_of (xs (4 * i + 1))
    obtain ⟨b, hb, eb⟩ := I_of (xs (4 * i + 2))
    obtain ⟨c, hc, ec⟩ := I_of (xs (4 * i + 3))
    rw [if_neg (show ¬ (Int32.ofNat L - (4 : Int32) < I ((4 * i : Nat) : Int)) by rw [I_nat, i4, I_sub, I_lt (by omega) (by omega) (by omega) (by omega)]; omega)]
    simp only [e0, e1, e2, e3, ea, eb, ec, lt_d, jn_d]
    generalize (xs (4 * i) &&& (63 : Int32)).toInt = q
    have e4 : I ((4 * i : Nat) : Int) + (4 : Int32) = I ((4 * (i + 1) : Nat) : Int) := by rw [i4, I_add]; exact congrArg I (by omega)
    rw [e4]
    have go : ∀ o : Option Int32, (∃ w', In w' ∧ o = k (I ((4 * (i + 1) : Nat) : Int)) w') → ∃ t0 t1, (t0 = I ((4 * (i + 1) : Nat) : Int) ∧ In t1) ∧ o = k t0 t1 := fun o ⟨w', h1, h2⟩ => ⟨_, w', ⟨rfl, h1⟩, h2⟩
    refine go _ ?_
    by_cases c0 : q = 0
    · rw [if_pos c0]
      exact fin2 (op_grid ha hb) hv (fun w => k (I ((4 * (i + 1) : Nat) : Int)) w)
    rw [if_neg c0]
    by_cases c1 : q = 1
    · rw [if_pos c1]
      exact fin2 (op_put ha hb hc) hv (fun w => k (I ((4 * (i + 1) : Nat) : Int)) w)
    rw [if_neg c1]
    by_cases c2 : q = 2
    · rw [if_pos c2]
      exact fin1 (op_cell ha hb) hv (fun w => k (I ((4 * (i + 1) : Nat) : Int)) w)
    rw [if_neg c2]
    by_cases c3 : q = 3
    · rw [if_pos c3]
      exact fin2 (op_rule ha) hv (fun w => k (I ((4 * (i + 1) : Nat) : Int)) w)
    rw [if_neg c3]
    by_cases c4 : q = 4
    · rw [if_pos c4]
      exact fin2 (op_word ha) hv (fun w => k (I ((4 * (i + 1) : Nat) : Int)) w)
    rw [if_neg c4]
    by_cases c5 : q = 5
    · rw [if_pos c5]
      exact fin1 op_spelled hv (fun w => k (I ((4 * (i + 1) : Nat) : Int)) w)
    rw [if_neg c5]
    by_cases c6 : q = 6
    · rw [if_pos c6]
      exact fin2 (op_turn ha) hv (fun w => k (I ((4 * (i + 1) : Nat) : Int)) w)
    rw [if_neg c6]
    by_cases c7 : q = 7
    · rw [if_pos c7]
      exact fin2 (op_part ha hb hc) hv (fun w => k (I ((4 * (i + 1) : Nat) : Int)) w)
    rw [if_neg c7]
    by_cases c8 : q = 8
    · rw [if_pos c8]
      exact fin2 (op_shape ha hb hc) hv (fun w => k (I ((4 * (i + 1) : Nat) : Int)) w)
    rw [if_neg c8]
    by_cases c9 : q = 9
    · rw [if_pos c9]
      exact fin2 (op_turned ha hb hc) hv (fun w => k (I ((4 * (i + 1) : Nat) : Int)) w)
    rw [if_neg c9]
    by_cases c10 : q = 10
    · rw [if_pos c10]
      exact fin2l (op_standard ha hb) hv (fun w => k (I ((4 * (i + 1) : Nat) : Int)) w)
    rw [if_neg c10]
    by_cases c11 : q = 11
    · rw [if_pos c11]
      exact fin2 (op_product ha hb) hv (fun w => k (I ((4 * (i + 1) : Nat) : Int)) w)
    rw [if_neg c11]
    by_cases c12 : q = 12
    · rw [if_pos c12]
      exact fin2 (op_filling ha hb hc) hv (fun w => k (I ((4 * (i + 1) : Nat) : Int)) w)
    rw [if_neg c12]
    by_cases c13 : q = 13
    · rw [if_pos c13]
      exact fin2 (op_along ha hb) hv (fun w => k (I ((4 * (i + 1) : Nat) : Int)) w)
    rw [if_neg c13]
    by_cases c14 : q = 14
    · rw [if_pos c14]
      exact fin2 (op_fits ha) hv (fun w => k (I ((4 * (i + 1) : Nat) : Int)) w)
    rw [if_neg c14]
    by_cases c15 : q = 15
    · rw [if_pos c15]
      exact fin2 (op_back ha) hv (fun w => k (I ((4 * (i + 1) : Nat) : Int)) w)
    rw [if_neg c15]
    by_cases c16 : q = 16
    · rw [if_pos c16]
      exact fin2 (op_longest ha hb) hv (fun w => k (I ((4 * (i + 1) : Nat) : Int)) w)
    rw [if_neg c16]
    by_cases c17 : q = 17
    · rw [if_pos c17]
      exact fin2 (op_union ha hb) hv (fun w => k (I ((4 * (i + 1) : Nat) : Int)) w)
    rw [if_neg c17]
    by_cases c18 : q = 18
    · rw [if_pos c18]
      exact fin2 (op_corner ha) hv (fun w => k (I ((4 * (i + 1) : Nat) : Int)) w)
    rw [if_neg c18]
    by_cases c19 : q = 19
    · rw [if_pos c19]
      exact fin2 (op_unlike ha) hv (fun w => k (I ((4 * (i + 1) : Nat) : Int)) w)
    rw [if_neg c19]
    by_cases c20 : q = 20
    · rw [if_pos c20]
      exact fin2 op_undo hv (fun w => k (I ((4 * (i + 1) : Nat) : Int)) w)
    rw [if_neg c20]
    by_cases c21 : q = 21
    · rw [if_pos c21]
      exact fin2 op_again hv (fun w => k (I ((4 * (i + 1) : Nat) : Int)) w)
    rw [if_neg c21]
    by_cases c22 : q = 22
    · rw [if_pos c22]
      exact fin2 (op_feed (I a) hb) hv (fun w => k (I ((4 * (i + 1) : Nat) : Int)) w)
    rw [if_neg c22]
    by_cases c23 : q = 23
    · rw [if_pos c23]
      exact fin2 op_wipe hv (fun w => k (I ((4 * (i + 1) : Nat) : Int)) w)
    rw [if_neg c23]
    by_cases c24 : q = 24
    · rw [if_pos c24]
      exact fin2 op_read hv (fun w => k (I ((4 * (i + 1) : Nat) : Int)) w)
    rw [if_neg c24]
    by_cases c25 : q = 25
    · rw [if_pos c25]
      exact fin2 (op_hold ha hb hc) hv (fun w => k (I ((4 * (i + 1) : Nat) : Int)) w)
    rw [if_neg c25]
    by_cases c26 : q = 26
    · rw [if_pos c26]
      exact fin2 (op_drop ha) hv (fun w => k (I ((4 * (i + 1) : Nat) : Int)) w)
    rw [if_neg c26]
    by_cases c27 : q = 27
    · rw [if_pos c27]
      exact fin1 (op_taken ha hb) hv (fun w => k (I ((4 * (i + 1) : Nat) : Int)) w)
    rw [if_neg c27]
    by_cases c28 : q = 28
    · rw [if_pos c28]
      exact fin1 (op_was ha hb) hv (fun w => k (I ((4 * (i + 1) : Nat) : Int)) w)
    rw [if_neg c28]
    by_cases c29 : q = 29
    · rw [if_pos c29]
      exact fin2 (op_row ha hb) hv (fun w => k (I ((4 * (i + 1) : Nat) : Int)) w)
    rw [if_neg c29]
    by_cases c30 : q = 30
    · rw [if_pos c30]
      exact fin2 (op_set (I c) ha hb) hv (fun w => k (I ((4 * (i + 1) : Nat) : Int)) w)
    rw [if_neg c30]
    by_cases c31 : q = 31
    · rw [if_pos c31]
      exact fin1l (op_get ha hb) hv (fun w => k (I ((4 * (i + 1) : Nat) : Int)) w)
    rw [if_neg c31]
    by_cases c32 : q = 32
    · rw [if_pos c32]
      exact fin2 (op_judge ha hb hc) hv (fun w => k (I ((4 * (i + 1) : Nat) : Int)) w)
    rw [if_neg c32]
    by_cases c33 : q = 33
    · rw [if_pos c33]
      exact fin2 op_image hv (fun w => k (I ((4 * (i + 1) : Nat) : Int)) w)
    rw [if_neg c33]
    by_cases c34 : q = 34
    · rw [if_pos c34]
      exact fin2 op_restore hv (fun w => k (I ((4 * (i + 1) : Nat) : Int)) w)
    rw [if_neg c34]
    by_cases c35 : q = 35
    · rw [if_pos c35]
      exact fin1 (op_count ha) hv (fun w => k (I ((4 * (i + 1) : Nat) : Int)) w)
    rw [if_neg c35]
    exact ⟨v, hv, rfl⟩
  · rintro x v ⟨rfl, hv⟩ k
    rw [if_pos (show Int32.ofNat L - (4 : Int32) < I ((4 * (L / 4) : Nat) : Int) by rw [I_nat, i4, I_sub, I_lt (by omega) (by omega) (by omega) (by omega)]; omega)]
theorem law_ok (L : Nat) (xs : Nat → Int32) (hL : L ≤ 2048) : f_law L xs = some (1 : Int32) := by
  rw [law_init]
  exact loop_ok L xs hL wB_In

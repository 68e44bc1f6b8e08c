set_option maxHeartbeats 4000000 in
set_option maxRecDepth 100000 in
theorem m_X2_undoable (l : Launch) (B : Nat) (D : DD) {n : Nat} (hN : 139 ≤ n) {t : Nat} {w : Wd} {r : Int32} (ht : t < n ∧ kd t = 2) (hf : f_X2_undoable t w = some r) : Ct l yX2_undoable cX2_undoable 1 (some .int) 0 0 0 0 B D [.ref (B + t)] n w (some (.int r)) n w := by
  refine m_of (by decide) (Nat.le_of_ble_eq_true rfl) (fun p e s m args below meth c X hml hr hlk _ H locs hh ls hl => ?_)
  have hx := X.1
  have hb := X.2.1
  have hl : lv_has ls 1 [(0, .ref (B + t))] := hl
  unfold f_X2_undoable at hf
  refine lv_aload_n hx hb dX2_undoable_0 rfl (lv_at hl 0 rfl) ?_
  refine r_gi X hh ht fk_X2_18 dX2_undoable_1 ?_
  exact e_i X hr hlk hh ⟨so_e hf, rfl⟩ dX2_undoable_4
set_option maxHeartbeats 4000000 in
set_option maxRecDepth 100000 in
theorem m_X2_redoable (l : Launch) (B : Nat) (D : DD) {n : Nat} (hN : 139 ≤ n) {t : Nat} {w : Wd} {r : Int32} (ht : t < n ∧ kd t = 2) (hf : f_X2_redoable t w = some r) : Ct l yX2_redoable cX2_redoable 1 (some .int) 0 0 0 0 B D [.ref (B + t)] n w (some (.int r)) n w := by
  refine m_of (by decide) (Nat.le_of_ble_eq_true rfl) (fun p e s m args below meth c X hml hr hlk _ H locs hh ls hl => ?_)
  have hx := X.1
  have hb := X.2.1
  have hl : lv_has ls 1 [(0, .ref (B + t))] := hl
  unfold f_X2_redoable at hf
  refine lv_aload_n hx hb dX2_redoable_0 rfl (lv_at hl 0 rfl) ?_
  refine r_gi X hh ht fk_X2_22 dX2_redoable_1 ?_
  refine lv_aload_n hx hb dX2_redoable_4 rfl (lv_at hl 0 rfl) ?_
  refine r_gi X hh ht fk_X2_18 dX2_redoable_5 ?_
  refine lv_isub hx hb dX2_redoable_8 ?_
  exact e_i X hr hlk hh ⟨so_e hf, rfl⟩ dX2_redoable_9
set_option maxHeartbeats 4000000 in
set_option maxRecDepth 100000 in
theorem m_X2_forgetAll (l : Launch) (B : Nat) (D : DD) {n : Nat} (hN : 139 ≤ n) {t : Nat} {w : Wd} {w' : Wd} (ht : t < n ∧ kd t = 2) (hf : f_X2_forgetAll t w = some w') : Ct l yX2_forgetAll cX2_forgetAll 1 none 0 0 0 0 B D [.ref (B + t)] n w none n w' := by
  refine m_of (by decide) (Nat.le_of_ble_eq_true rfl) (fun p e s m args below meth c X hml hr hlk _ H locs hh ls hl => ?_)
  have hx := X.1
  have hb := X.2.1
  have hl : lv_has ls 1 [(0, .ref (B + t))] := hl
  unfold f_X2_forgetAll at hf
  refine lv_aload_n hx hb dX2_forgetAll_0 rfl (lv_at hl 0 rfl) ?_
  refine lv_iconst (v := (0 : Int32)) hx hb dX2_forgetAll_1 (by decide) ?_
  refine q_pi X hh ht fk_X2_18 pk_2_1 rfl rfl dX2_forgetAll_2 hf (fun w1 H locs hf hh => ?_)
  refine lv_aload_n hx hb dX2_forgetAll_5 rfl (lv_at hl 0 rfl) ?_
  refine lv_iconst (v := (0 : Int32)) hx hb dX2_forgetAll_6 (by decide) ?_
  refine q_pi X hh ht fk_X2_22 pk_2_2 rfl rfl dX2_forgetAll_7 hf (fun w2 H locs hf hh => ?_)
  exact e_v X hr hlk hh ⟨rfl, so_e hf⟩ dX2_forgetAll_10
set_option maxHeartbeats 4000000 in
set_option maxRecDepth 100000 in
theorem m_X2_forgetOldest (l : Launch) (B : Nat) (D : DD) {n : Nat} (hN : 139 ≤ n) {t : Nat} {w : Wd} {w' : Wd} (ht : t < n ∧ kd t = 2) (hf : f_X2_forgetOldest t w = some w') : Ct l yX2_forgetOldest cX2_forgetOldest 3 none 0 0 0 0 B D [.ref (B + t)] n w none n w' := by
  refine m_of (by decide) (Nat.le_of_ble_eq_true rfl) (fun p e s m args below meth c X hml hr hlk _ H locs hh ls hl => ?_)
  have hx := X.1
  have hb := X.2.1
  have hl : lv_has ls 3 [(0, .ref (B + t))] := hl
  unfold f_X2_forgetOldest at hf
  refine lv_aload_n hx hb dX2_forgetOldest_0 rfl (lv_at hl 0 rfl) ?_
  refine q_gr (P := 10) X hh ht fk_X2_11 dX2_forgetOldest_1 hN hf (fun t1 h2 hf => ?_)
  refine lv_iconst (v := (0 : Int32)) hx hb dX2_forgetOldest_4 (by decide) ?_
  refine q_aald (P := 0) X hh h2 ⟨by decide, by decide⟩ dX2_forgetOldest_5 hN hf (fun t4 h5 hf => ?_)
  refine lv_astore_n (lv' := [(1, .ref (B + t4)), (0, .ref (B + t))]) hx hb dX2_forgetOldest_6 rfl hl (by decide) rfl (fun ls hl => ?_)
  refine lv_iconst (v := (0 : Int32)) hx hb dX2_forgetOldest_7 (by decide) ?_
  refine lv_istore_n (lv' := [(2, .int (0 : Int32)), (1, .ref (B + t4)), (0, .ref (B + t))]) hx hb dX2_forgetOldest_8 rfl hl (by decide) rfl (fun ls hl => ?_)
  refine wl2_W (P := fun (x6 : Int32) (w7 : Wd) => ∀ (H : Heap) (locs : List Loc) (ls : Array Slot), Hp B D n w7 s H locs → lv_has ls 3 [(0, .ref (B + t)), (1, .ref (B + t4)), (2, .int x6)] → W p l e (rmk 0 0 0 0) s m args below meth c H locs 0 0 (MZ below B D n w' none args s 0 0) (F0 m 9 ls [])) hf (fun x6 w7 k8 ih9 hf  H locs ls hh hl => ?_)  _ _ _ hh (lv_sub hl [2, 1, 0] rfl)
  refine lv_iload_n hx hb dX2_forgetOldest_9 rfl (lv_at hl 2 rfl) ?_
  refine lv_bipush (v := (8 : Int32)) hx hb dX2_forgetOldest_10 (by decide) ?_
  refine lv_icmp_ge (tgt := 35) hx hb dX2_forgetOldest_12 (by decide) (fun hc10 => ?_) (fun hc10 => ?_)
  · have hf := if_t hc10 hf
    refine lv_aload_n hx hb dX2_forgetOldest_35 rfl (lv_at hl 0 rfl) ?_
    refine q_gr (P := 10) X hh ht fk_X2_11 dX2_forgetOldest_36 hN hf (fun t11 h12 hf => ?_)
    refine lv_bipush (v := (8 : Int32)) hx hb dX2_forgetOldest_39 (by decide) ?_
    refine lv_aload_n hx hb dX2_forgetOldest_41 rfl (lv_at hl 1 rfl) ?_
    refine q_aast X hh h12 ⟨by decide, by decide⟩ h5 ci_0 rfl dX2_forgetOldest_42 hf (fun w14 H locs hf hh => ?_)
    refine lv_aload_n hx hb dX2_forgetOldest_43 rfl (lv_at hl 0 rfl) ?_
    refine lv_bipush (v := (7 : Int32)) hx hb dX2_forgetOldest_44 (by decide) ?_
    refine q_pi X hh ht fk_X2_18 pk_2_1 rfl rfl dX2_forgetOldest_46 hf (fun w15 H locs hf hh => ?_)
    exact e_v X hr hlk hh ⟨rfl, so_e hf⟩ dX2_forgetOldest_49
  · have hf := if_f hc10 hf
    refine lv_aload_n hx hb dX2_forgetOldest_15 rfl (lv_at hl 0 rfl) ?_
    refine q_gr (P := 10) X hh ht fk_X2_11 dX2_forgetOldest_16 hN hf (fun t16 h17 hf => ?_)
    refine lv_iload_n hx hb dX2_forgetOldest_19 rfl (lv_at hl 2 rfl) ?_
    refine lv_aload_n hx hb dX2_forgetOldest_20 rfl (lv_at hl 0 rfl) ?_
    refine q_gr (P := 10) X hh ht fk_X2_11 dX2_forgetOldest_21 hN hf (fun t18 h19 hf => ?_)
    refine lv_iload_n hx hb dX2_forgetOldest_24 rfl (lv_at hl 2 rfl) ?_
    refine lv_iconst (v := (1 : Int32)) hx hb dX2_forgetOldest_25 (by decide) ?_
    refine lv_iadd hx hb dX2_forgetOldest_26 ?_
    refine q_aald (P := 0) X hh h19 ⟨by decide, by decide⟩ dX2_forgetOldest_27 hN hf (fun t21 h22 hf => ?_)
    refine q_aast X hh h17 ⟨by decide, by decide⟩ h22 ci_0 rfl dX2_forgetOldest_28 hf (fun w24 H locs hf hh => ?_)
    obtain ⟨x25, e26⟩ : ∃ y : Int32, y = (x6 + (1 : Int32)) := ⟨_, rfl⟩
    have hf := lt_e e26 hf
    refine lv_iinc (v := x25) (lv' := [(2, .int x25), (0, .ref (B + t)), (1, .ref (B + t4))]) hx hb dX2_forgetOldest_29 hl (k := 2) rfl (by rw [e26]; rfl) (by decide) rfl (fun ls hl => ?_)
    refine lv_goto (tgt := 9) hx hb dX2_forgetOldest_32 (by decide) ?_
    exact ih9 _ _ hf  _ _ _ hh (lv_sub hl [1, 2, 0] rfl)
set_option maxHeartbeats 4000000 in
set_option maxRecDepth 100000 in
theorem m_X2_remember (l : Launch) (B : Nat) (D : DD) {n : Nat} (hN : 139 ≤ n) {t : Nat} {a0 : Nat} {w : Wd} {w' : Wd} (ht : t < n ∧ kd t = 2) (ha0 : a0 < n ∧ kd a0 = 0) (hf : f_X2_remember t a0 w = some w') : Ct l yX2_remember cX2_remember 2 none 1 22 0 0 B D [.ref (B + t), .ref (B + a0)] n w none n w' := by
  refine m_of (by decide) (Nat.le_of_ble_eq_true rfl) (fun p e s m args below meth c X hml hr hlk _ H locs hh ls hl => ?_)
  have hx := X.1
  have hb := X.2.1
  have hl : lv_has ls 2 [(0, .ref (B + t)), (1, .ref (B + a0))] := hl
  unfold f_X2_remember at hf
  refine lv_aload_n hx hb dX2_remember_0 rfl (lv_at hl 0 rfl) ?_
  refine r_gi X hh ht fk_X2_18 dX2_remember_1 ?_
  refine lv_bipush (v := (8 : Int32)) hx hb dX2_remember_4 (by decide) ?_
  refine jn_W (P := fun j3 => ∀ (w2 : Wd), j3 w2 = some w' → ∀ (H : Heap) (locs : List Loc) (ls : Array Slot), Hp B D n w2 s H locs → lv_has ls 2 [(0, .ref (B + t)), (1, .ref (B + a0))] → W p l e (rmk 1 22 0 0) s m args below meth c H locs 0 0 (MZ below B D n w' none args s 0 0) (F0 m 13 ls [])) hf (fun w2 hf  H locs ls hh hl => ?_) (fun j3 hj3 hf => ?_)
  · refine lv_aload_n hx hb dX2_remember_13 rfl (lv_at hl 0 rfl) ?_
    refine q_gr (P := 10) X hh ht fk_X2_11 dX2_remember_14 hN hf (fun t4 h5 hf => ?_)
    refine lv_aload_n hx hb dX2_remember_17 rfl (lv_at hl 0 rfl) ?_
    refine r_gi X hh ht fk_X2_18 dX2_remember_18 ?_
    refine q_aald (P := 0) X hh h5 ⟨by decide, by decide⟩ dX2_remember_21 hN hf (fun t7 h8 hf => ?_)
    refine lv_aload_n hx hb dX2_remember_22 rfl (lv_at hl 1 rfl) ?_
    obtain ⟨w10, hc9, hf⟩ := c1_e hf
    refine q_V (w' := w10) (rest := []) X hml hh none (m_X0_copyFrom l B D hN h8 ha0 hc9) cf_X0_copyFrom k_229 h8 ci_0 rfl rfl hl.1 rfl (Nat.le_of_ble_eq_true rfl) ⟨Nat.le_of_ble_eq_true rfl, Nat.le_of_ble_eq_true rfl⟩ ⟨Nat.zero_le _, Nat.zero_le _⟩ dX2_remember_23 rfl (fun H locs hh => ?_)
    refine lv_aload_n hx hb dX2_remember_26 rfl (lv_at hl 0 rfl) ?_
    refine lv_dup hx hb dX2_remember_27 rfl ?_
    refine r_gi X hh ht fk_X2_18 dX2_remember_28 ?_
    refine lv_iconst (v := (1 : Int32)) hx hb dX2_remember_31 (by decide) ?_
    refine lv_iadd hx hb dX2_remember_32 ?_
    refine q_pi X hh ht fk_X2_18 pk_2_1 rfl rfl dX2_remember_33 hf (fun w11 H locs hf hh => ?_)
    refine lv_aload_n hx hb dX2_remember_36 rfl (lv_at hl 0 rfl) ?_
    refine lv_aload_n hx hb dX2_remember_37 rfl (lv_at hl 0 rfl) ?_
    refine r_gi X hh ht fk_X2_18 dX2_remember_38 ?_
    refine q_pi X hh ht fk_X2_22 pk_2_2 rfl rfl dX2_remember_41 hf (fun w12 H locs hf hh => ?_)
    exact e_v X hr hlk hh ⟨rfl, so_e hf⟩ dX2_remember_44
  · refine lv_icmp_lt (tgt := 13) hx hb dX2_remember_6 (by decide) (fun hc1 => ?_) (fun hc1 => ?_)
    · have hf := if_t hc1 hf
      exact hj3 _ hf  _ _ _ hh (lv_sub hl [0, 1] rfl)
    · have hf := if_f hc1 hf
      refine lv_aload_n hx hb dX2_remember_9 rfl (lv_at hl 0 rfl) ?_
      obtain ⟨w14, hc13, hf⟩ := c1_e hf
      refine q_V (w' := w14) (rest := []) X hml hh none (m_X2_forgetOldest l B D hN ht hc13) cf_X2_forgetOldest k_225 ht ci_2 rfl rfl hl.1 rfl (Nat.le_of_ble_eq_true rfl) ⟨Nat.le_of_ble_eq_true rfl, Nat.le_of_ble_eq_true rfl⟩ ⟨Nat.zero_le _, Nat.zero_le _⟩ dX2_remember_10 rfl (fun H locs hh => ?_)
      exact hj3 _ hf  _ _ _ hh (lv_sub hl [0, 1] rfl)
set_option maxHeartbeats 4000000 in
set_option maxRecDepth 100000 in
theorem m_X2_stepBack (l : Launch) (B : Nat) (D : DD) {n : Nat} (hN : 139 ≤ n) {t : Nat} {a0 : Nat} {w : Wd} {w' : Wd} (ht : t < n ∧ kd t = 2) (ha0 : a0 < n ∧ kd a0 = 0) (hf : f_X2_stepBack t a0 w = some w') : Ct l yX2_stepBack cX2_stepBack 2 none 1 22 0 0 B D [.ref (B + t), .ref (B + a0)] n w none n w' := by
  refine m_of (by decide) (Nat.le_of_ble_eq_true rfl) (fun p e s m args below meth c X hml hr hlk _ H locs hh ls hl => ?_)
  have hx := X.1
  have hb := X.2.1
  have hl : lv_has ls 2 [(0, .ref (B + t)), (1, .ref (B + a0))] := hl
  unfold f_X2_stepBack at hf
  refine lv_aload_n hx hb dX2_stepBack_0 rfl (lv_at hl 0 rfl) ?_
  refine r_gi X hh ht fk_X2_18 dX2_stepBack_1 ?_
  refine lv_if_le (tgt := 43) hx hb dX2_stepBack_4 (by decide) (fun hc1 => ?_) (fun hc1 => ?_)
  · have hf := if_t hc1 hf
    exact e_v X hr hlk hh ⟨rfl, so_e hf⟩ dX2_stepBack_43
  · have hf := if_f hc1 hf
    refine lv_aload_n hx hb dX2_stepBack_7 rfl (lv_at hl 0 rfl) ?_
    refine q_gr (P := 10) X hh ht fk_X2_11 dX2_stepBack_8 hN hf (fun t2 h3 hf => ?_)
    refine lv_aload_n hx hb dX2_stepBack_11 rfl (lv_at hl 0 rfl) ?_
    refine r_gi X hh ht fk_X2_18 dX2_stepBack_12 ?_
    refine q_aald (P := 0) X hh h3 ⟨by decide, by decide⟩ dX2_stepBack_15 hN hf (fun t5 h6 hf => ?_)
    refine lv_aload_n hx hb dX2_stepBack_16 rfl (lv_at hl 1 rfl) ?_
    obtain ⟨w8, hc7, hf⟩ := c1_e hf
    refine q_V (w' := w8) (rest := []) X hml hh none (m_X0_copyFrom l B D hN h6 ha0 hc7) cf_X0_copyFrom k_229 h6 ci_0 rfl rfl hl.1 rfl (Nat.le_of_ble_eq_true rfl) ⟨Nat.le_of_ble_eq_true rfl, Nat.le_of_ble_eq_true rfl⟩ ⟨Nat.zero_le _, Nat.zero_le _⟩ dX2_stepBack_17 rfl (fun H locs hh => ?_)
    refine lv_aload_n hx hb dX2_stepBack_20 rfl (lv_at hl 0 rfl) ?_
    refine lv_dup hx hb dX2_stepBack_21 rfl ?_
    refine r_gi X hh ht fk_X2_18 dX2_stepBack_22 ?_
    refine lv_iconst (v := (1 : Int32)) hx hb dX2_stepBack_25 (by decide) ?_
    refine lv_isub hx hb dX2_stepBack_26 ?_
    refine q_pi X hh ht fk_X2_18 pk_2_1 rfl rfl dX2_stepBack_27 hf (fun w9 H locs hf hh => ?_)
    refine lv_aload_n hx hb dX2_stepBack_30 rfl (lv_at hl 1 rfl) ?_
    refine lv_aload_n hx hb dX2_stepBack_31 rfl (lv_at hl 0 rfl) ?_
    refine q_gr (P := 10) X hh ht fk_X2_11 dX2_stepBack_32 hN hf (fun t10 h11 hf => ?_)
    refine lv_aload_n hx hb dX2_stepBack_35 rfl (lv_at hl 0 rfl) ?_
    refine r_gi X hh ht fk_X2_18 dX2_stepBack_36 ?_
    refine q_aald (P := 0) X hh h11 ⟨by decide, by decide⟩ dX2_stepBack_39 hN hf (fun t13 h14 hf => ?_)
    obtain ⟨w16, hc15, hf⟩ := c1_e hf
    refine q_V (w' := w16) (rest := []) X hml hh none (m_X0_copyFrom l B D hN ha0 h14 hc15) cf_X0_copyFrom k_229 ha0 ci_0 rfl rfl hl.1 rfl (Nat.le_of_ble_eq_true rfl) ⟨Nat.le_of_ble_eq_true rfl, Nat.le_of_ble_eq_true rfl⟩ ⟨Nat.zero_le _, Nat.zero_le _⟩ dX2_stepBack_40 rfl (fun H locs hh => ?_)
    exact e_v X hr hlk hh ⟨rfl, so_e hf⟩ dX2_stepBack_43
set_option maxHeartbeats 4000000 in
set_option maxRecDepth 100000 in
theorem m_X2_stepOn (l : Launch) (B : Nat) (D : DD) {n : Nat} (hN : 139 ≤ n) {t : Nat} {a0 : Nat} {w : Wd} {w' : Wd} (ht : t < n ∧ kd t = 2) (ha0 : a0 < n ∧ kd a0 = 0) (hf : f_X2_stepOn t a0 w = some w') : Ct l yX2_stepOn cX2_stepOn 2 none 1 22 0 0 B D [.ref (B + t), .ref (B + a0)] n w none n w' := by
  refine m_of (by decide) (Nat.le_of_ble_eq_true rfl) (fun p e s m args below meth c X hml hr hlk _ H locs hh ls hl => ?_)
  have hx := X.1
  have hb := X.2.1
  have hl : lv_has ls 2 [(0, .ref (B + t)), (1, .ref (B + a0))] := hl
  unfold f_X2_stepOn at hf
  refine lv_aload_n hx hb dX2_stepOn_0 rfl (lv_at hl 0 rfl) ?_
  refine r_gi X hh ht fk_X2_18 dX2_stepOn_1 ?_
  refine lv_aload_n hx hb dX2_stepOn_4 rfl (lv_at hl 0 rfl) ?_
  refine r_gi X hh ht fk_X2_22 dX2_stepOn_5 ?_
  refine lv_icmp_ge (tgt := 34) hx hb dX2_stepOn_8 (by decide) (fun hc1 => ?_) (fun hc1 => ?_)
  · have hf := if_t hc1 hf
    exact e_v X hr hlk hh ⟨rfl, so_e hf⟩ dX2_stepOn_34
  · have hf := if_f hc1 hf
    refine lv_aload_n hx hb dX2_stepOn_11 rfl (lv_at hl 0 rfl) ?_
    refine lv_dup hx hb dX2_stepOn_12 rfl ?_
    refine r_gi X hh ht fk_X2_18 dX2_stepOn_13 ?_
    refine lv_iconst (v := (1 : Int32)) hx hb dX2_stepOn_16 (by decide) ?_
    refine lv_iadd hx hb dX2_stepOn_17 ?_
    refine q_pi X hh ht fk_X2_18 pk_2_1 rfl rfl dX2_stepOn_18 hf (fun w2 H locs hf hh => ?_)
    refine lv_aload_n hx hb dX2_stepOn_21 rfl (lv_at hl 1 rfl) ?_
    refine lv_aload_n hx hb dX2_stepOn_22 rfl (lv_at hl 0 rfl) ?_
    refine q_gr (P := 10) X hh ht fk_X2_11 dX2_stepOn_23 hN hf (fun t3 h4 hf => ?_)
    refine lv_aload_n hx hb dX2_stepOn_26 rfl (lv_at hl 0 rfl) ?_
    refine r_gi X hh ht fk_X2_18 dX2_stepOn_27 ?_
    refine q_aald (P := 0) X hh h4 ⟨by decide, by decide⟩ dX2_stepOn_30 hN hf (fun t6 h7 hf => ?_)
    obtain ⟨w9, hc8, hf⟩ := c1_e hf
    refine q_V (w' := w9) (rest := []) X hml hh none (m_X0_copyFrom l B D hN ha0 h7 hc8) cf_X0_copyFrom k_229 ha0 ci_0 rfl rfl hl.1 rfl (Nat.le_of_ble_eq_true rfl) ⟨Nat.le_of_ble_eq_true rfl, Nat.le_of_ble_eq_true rfl⟩ ⟨Nat.zero_le _, Nat.zero_le _⟩ dX2_stepOn_31 rfl (fun H locs hh => ?_)
    exact e_v X hr hlk hh ⟨rfl, so_e hf⟩ dX2_stepOn_34

set_option maxHeartbeats 4000000 in
set_option maxRecDepth 100000 in
theorem m_X7_isSide (l : Launch) (B : Nat) (D : DD) {a0 : Int32} {w : Wd} {r : Int32} (hf : f_X7_isSide a0 = some r) : Ct l yX7_isSide cX7_isSide 1 (some .boolean) 0 0 0 0 B D [.int a0] 153 w (some (.int r)) 153 w := by
  refine m_of (by decide) (Nat.le_of_ble_eq_true rfl) (fun p e s m args below meth c X hml hr hlk _ H locs hh ls hl => ?_)
  have hx := X.1
  have hb := X.2.1
  have hl : lv_has ls 1 [(0, .int a0)] := hl
  unfold f_X7_isSide at hf
  refine lv_iload_n hx hb dX7_isSide_0 rfl (lv_at hl 0 rfl) ?_
  refine lv_iconst (v := (1 : Int32)) hx hb dX7_isSide_1 (by decide) ?_
  refine mg_W (P := fun (x3 : Int32) => ∀ (ls : Array Slot), lv_has ls 1 [] → W p l e (rmk 0 0 0 0) s m args below meth c H locs 0 0 (MZ below B D 153 w (some (.int r)) args s 0 0) (F0 m 15 ls [.int x3])) hf (fun x3 hf ls hl => ?_) (fun hj4 => ?_)
  · have hz := zb_e hf
    have hf := hz.2
    exact e_z X hr hlk hh hz.1 ⟨so_e hf, rfl⟩ dX7_isSide_15
  · refine lv_icmp_lt (tgt := 14) hx hb dX7_isSide_2 (by decide) (fun hc1 => ?_) (fun hc1 => ?_)
    · refine lv_iconst (v := (0 : Int32)) hx hb dX7_isSide_14 (by decide) ?_
      exact hj4 _ (by rw [if_pos hc1]) ls (lv_sub hl [] rfl)
    · refine lv_iload_n hx hb dX7_isSide_5 rfl (lv_at hl 0 rfl) ?_
      refine lv_iconst (v := (5 : Int32)) hx hb dX7_isSide_6 (by decide) ?_
      refine lv_icmp_gt (tgt := 14) hx hb dX7_isSide_7 (by decide) (fun hc2 => ?_) (fun hc2 => ?_)
      · refine lv_iconst (v := (0 : Int32)) hx hb dX7_isSide_14 (by decide) ?_
        exact hj4 _ (by rw [if_neg hc1, if_pos hc2]) ls (lv_sub hl [] rfl)
      · refine lv_iconst (v := (1 : Int32)) hx hb dX7_isSide_10 (by decide) ?_
        refine lv_goto (tgt := 15) hx hb dX7_isSide_11 (by decide) ?_
        exact hj4 _ (by rw [if_neg hc1, if_neg hc2]) ls (lv_sub hl [] rfl)
set_option maxHeartbeats 4000000 in
set_option maxRecDepth 100000 in
theorem m_X7_beginDeed (l : Launch) (B : Nat) (D : DD) {t : Nat} {w : Wd} {w' : Wd} (ht : t < 153 ∧ kd t = 7) (hf : f_X7_beginDeed t w = some w') : Ct l yX7_beginDeed cX7_beginDeed 1 none 2 43 0 0 B D [.ref (B + t)] 153 w none 153 w' := by
  refine m_of (by decide) (Nat.le_of_ble_eq_true rfl) (fun p e s m args below meth c X hml hr hlk _ H locs hh ls hl => ?_)
  have hx := X.1
  have hb := X.2.1
  have hl : lv_has ls 1 [(0, .ref (B + t))] := hl
  unfold f_X7_beginDeed at hf
  refine lv_aload_n hx hb dX7_beginDeed_0 rfl (lv_at hl 0 rfl) ?_
  refine q_gr (P := 2) X hh ht fk_X7_48 dX7_beginDeed_1 hf (fun t1 h2 hf => ?_)
  refine lv_aload_n hx hb dX7_beginDeed_4 rfl (lv_at hl 0 rfl) ?_
  refine q_gr (P := 0) X hh ht fk_X7_14 dX7_beginDeed_5 hf (fun t3 h4 hf => ?_)
  obtain ⟨w6, hc5, hf⟩ := c1_e hf
  refine q_V (w' := w6) (rest := []) X hml hh none (m_X2_remember l B D h2 h4 hc5) cf_X2_remember k_242 h2 ci_2 rfl rfl hl.1 rfl (Nat.le_of_ble_eq_true rfl) ⟨Nat.le_of_ble_eq_true rfl, Nat.le_of_ble_eq_true rfl⟩ ⟨Nat.zero_le _, Nat.zero_le _⟩ dX7_beginDeed_8 rfl (fun H locs hh => ?_)
  refine lv_aload_n hx hb dX7_beginDeed_11 rfl (lv_at hl 0 rfl) ?_
  refine lv_iconst (v := (0 : Int32)) hx hb dX7_beginDeed_12 (by decide) ?_
  refine q_pi X hh ht fk_X7_35 pk_7_5 rfl rfl dX7_beginDeed_13 hf (fun w7 H locs hf hh => ?_)
  exact e_v X hr hlk hh ⟨rfl, so_e hf⟩ dX7_beginDeed_16
set_option maxHeartbeats 4000000 in
set_option maxRecDepth 100000 in
theorem m_X7_grid (l : Launch) (B : Nat) (D : DD) {t : Nat} {a0 : Int32} {a1 : Int32} {w : Wd} {r : Int32} {w' : Wd} (ht : t < 153 ∧ kd t = 7) (hf : f_X7_grid t a0 a1 w = some (r, w')) : Ct l yX7_grid cX7_grid 4 (some .int) 3 63 0 0 B D [.ref (B + t), .int a0, .int a1] 153 w (some (.int r)) 153 w' := by
  refine m_of (by decide) (Nat.le_of_ble_eq_true rfl) (fun p e s m args below meth c X hml hr hlk _ H locs hh ls hl => ?_)
  have hx := X.1
  have hb := X.2.1
  have hl : lv_has ls 4 [(0, .ref (B + t)), (1, .int a0), (2, .int a1)] := hl
  unfold f_X7_grid at hf
  refine lv_iload_n hx hb dX7_grid_0 rfl (lv_at hl 1 rfl) ?_
  obtain ⟨v2, hc1, hf⟩ := c1_e hf
  refine q_S (w' := w) (rest := []) X hml hh (some (.int v2)) (m_X7_isSide l B D hc1) cf_X7_isSide k_235 rfl hl.1 rfl (Nat.le_of_ble_eq_true rfl) ⟨Nat.le_of_ble_eq_true rfl, Nat.le_of_ble_eq_true rfl⟩ ⟨Nat.zero_le _, Nat.zero_le _⟩ dX7_grid_1 rfl (fun H locs hh => ?_)
  refine lv_if_eq (tgt := 14) hx hb dX7_grid_4 (by decide) (fun hc3 => ?_) (fun hc3 => ?_)
  · have hf := if_t hc3 hf
    refine lv_iconst (v := (-1 : Int32)) hx hb dX7_grid_14 (by decide) ?_
    exact e_i X hr hlk hh (so2_e hf) dX7_grid_15
  · have hf := if_f hc3 hf
    refine lv_iload_n hx hb dX7_grid_7 rfl (lv_at hl 2 rfl) ?_
    obtain ⟨v5, hc4, hf⟩ := c1_e hf
    refine q_S (w' := w) (rest := []) X hml hh (some (.int v5)) (m_X7_isSide l B D hc4) cf_X7_isSide k_235 rfl hl.1 rfl (Nat.le_of_ble_eq_true rfl) ⟨Nat.le_of_ble_eq_true rfl, Nat.le_of_ble_eq_true rfl⟩ ⟨Nat.zero_le _, Nat.zero_le _⟩ dX7_grid_8 rfl (fun H locs hh => ?_)
    refine lv_if_ne (tgt := 16) hx hb dX7_grid_11 (by decide) (fun hc6 => ?_) (fun hc6 => ?_)
    · have hf := if_f hc6 hf
      refine lv_bipush (v := (10 : Int32)) hx hb dX7_grid_16 (by decide) ?_
      refine lv_aload_n hx hb dX7_grid_18 rfl (lv_at hl 0 rfl) ?_
      refine q_gr (P := 0) X hh ht fk_X7_14 dX7_grid_19 hf (fun t7 h8 hf => ?_)
      refine r_gi X hh h8 fk_X7_70 dX7_grid_22 ?_
      refine lv_imul hx hb dX7_grid_25 ?_
      refine lv_aload_n hx hb dX7_grid_26 rfl (lv_at hl 0 rfl) ?_
      refine q_gr (P := 0) X hh ht fk_X7_14 dX7_grid_27 hf (fun t9 h10 hf => ?_)
      refine r_gi X hh h10 fk_X7_74 dX7_grid_30 ?_
      refine lv_iadd hx hb dX7_grid_33 ?_
      refine lv_topi (fun x11 e12 => ?_)
      have hf := lt_e e12 hf
      refine lv_istore_n (lv' := [(3, .int x11), (0, .ref (B + t)), (1, .int a0), (2, .int a1)]) hx hb dX7_grid_34 rfl hl (by decide) rfl (fun ls hl => ?_)
      refine lv_aload_n hx hb dX7_grid_35 rfl (lv_at hl 1 rfl) ?_
      obtain ⟨w14, hc13, hf⟩ := c1_e hf
      refine q_V (w' := w14) (rest := []) X hml hh none (m_X7_beginDeed l B D ht hc13) cf_X7_beginDeed k_238 ht ci_7 rfl rfl hl.1 rfl (Nat.le_of_ble_eq_true rfl) ⟨Nat.le_of_ble_eq_true rfl, Nat.le_of_ble_eq_true rfl⟩ ⟨Nat.zero_le _, Nat.zero_le _⟩ dX7_grid_36 rfl (fun H locs hh => ?_)
      refine lv_aload_n hx hb dX7_grid_39 rfl (lv_at hl 1 rfl) ?_
      refine q_gr (P := 0) X hh ht fk_X7_14 dX7_grid_40 hf (fun t15 h16 hf => ?_)
      refine lv_iload_n hx hb dX7_grid_43 rfl (lv_at hl 2 rfl) ?_
      refine lv_iload_n hx hb dX7_grid_44 rfl (lv_at hl 3 rfl) ?_
      obtain ⟨w18, hc17, hf⟩ := c1_e hf
      refine q_V (w' := w18) (rest := []) X hml hh none (m_X0_clearTo l B D h16 hc17) cf_X0_clearTo k_254 h16 ci_0 rfl rfl hl.1 rfl (Nat.le_of_ble_eq_true rfl) ⟨Nat.le_of_ble_eq_true rfl, Nat.le_of_ble_eq_true rfl⟩ ⟨Nat.zero_le _, Nat.zero_le _⟩ dX7_grid_45 rfl (fun H locs hh => ?_)
      refine lv_iload_n hx hb dX7_grid_48 rfl (lv_at hl 0 rfl) ?_
      exact e_i X hr hlk hh (so2_e hf) dX7_grid_49
    · have hf := if_t hc6 hf
      refine lv_iconst (v := (-1 : Int32)) hx hb dX7_grid_14 (by decide) ?_
      exact e_i X hr hlk hh (so2_e hf) dX7_grid_15
set_option maxHeartbeats 4000000 in
set_option maxRecDepth 100000 in
theorem m_X7_isNumber (l : Launch) (B : Nat) (D : DD) {a0 : Int32} {w : Wd} {r : Int32} (hf : f_X7_isNumber a0 = some r) : Ct l yX7_isNumber cX7_isNumber 1 (some .boolean) 0 0 0 0 B D [.int a0] 153 w (some (.int r)) 153 w := by
  refine m_of (by decide) (Nat.le_of_ble_eq_true rfl) (fun p e s m args below meth c X hml hr hlk _ H locs hh ls hl => ?_)
  have hx := X.1
  have hb := X.2.1
  have hl : lv_has ls 1 [(0, .int a0)] := hl
  unfold f_X7_isNumber at hf
  refine lv_iload_n hx hb dX7_isNumber_0 rfl (lv_at hl 0 rfl) ?_
  refine mg_W (P := fun (x3 : Int32) => ∀ (ls : Array Slot), lv_has ls 1 [] → W p l e (rmk 0 0 0 0) s m args below meth c H locs 0 0 (MZ below B D 153 w (some (.int r)) args s 0 0) (F0 m 14 ls [.int x3])) hf (fun x3 hf ls hl => ?_) (fun hj4 => ?_)
  · have hz := zb_e hf
    have hf := hz.2
    exact e_z X hr hlk hh hz.1 ⟨so_e hf, rfl⟩ dX7_isNumber_14
  · refine lv_if_lt (tgt := 13) hx hb dX7_isNumber_1 (by decide) (fun hc1 => ?_) (fun hc1 => ?_)
    · refine lv_iconst (v := (0 : Int32)) hx hb dX7_isNumber_13 (by decide) ?_
      exact hj4 _ (by rw [if_pos hc1]) ls (lv_sub hl [] rfl)
    · refine lv_iload_n hx hb dX7_isNumber_4 rfl (lv_at hl 0 rfl) ?_
      refine lv_iconst (v := (3 : Int32)) hx hb dX7_isNumber_5 (by decide) ?_
      refine lv_icmp_gt (tgt := 13) hx hb dX7_isNumber_6 (by decide) (fun hc2 => ?_) (fun hc2 => ?_)
      · refine lv_iconst (v := (0 : Int32)) hx hb dX7_isNumber_13 (by decide) ?_
        exact hj4 _ (by rw [if_neg hc1, if_pos hc2]) ls (lv_sub hl [] rfl)
      · refine lv_iconst (v := (1 : Int32)) hx hb dX7_isNumber_9 (by decide) ?_
        refine lv_goto (tgt := 14) hx hb dX7_isNumber_10 (by decide) ?_
        exact hj4 _ (by rw [if_neg hc1, if_neg hc2]) ls (lv_sub hl [] rfl)
set_option maxHeartbeats 4000000 in
set_option maxRecDepth 100000 in
theorem m_X7_put (l : Launch) (B : Nat) (D : DD) {t : Nat} {a0 : Int32} {a1 : Int32} {a2 : Int32} {w : Wd} {r : Int32} {w' : Wd} (ht : t < 153 ∧ kd t = 7) (hf : f_X7_put t a0 a1 a2 w = some (r, w')) : Ct l yX7_put cX7_put 5 (some .int) 3 63 0 0 B D [.ref (B + t), .int a0, .int a1, .int a2] 153 w (some (.int r)) 153 w' := by
  refine m_of (by decide) (Nat.le_of_ble_eq_true rfl) (fun p e s m args below meth c X hml hr hlk _ H locs hh ls hl => ?_)
  have hx := X.1
  have hb := X.2.1
  have hl : lv_has ls 5 [(0, .ref (B + t)), (1, .int a0), (2, .int a1), (3, .int a2)] := hl
  unfold f_X7_put at hf
  refine lv_aload_n hx hb dX7_put_0 rfl (lv_at hl 0 rfl) ?_
  refine q_gr (P := 0) X hh ht fk_X7_14 dX7_put_1 hf (fun t1 h2 hf => ?_)
  refine lv_iload_n hx hb dX7_put_4 rfl (lv_at hl 1 rfl) ?_
  refine lv_iload_n hx hb dX7_put_5 rfl (lv_at hl 2 rfl) ?_
  obtain ⟨v4, hc3, hf⟩ := c1_e hf
  refine q_V (w' := w) (rest := []) X hml hh (some (.int v4)) (m_X0_hasCell l B D h2 hc3) cf_X0_hasCell k_262 h2 ci_0 rfl rfl hl.1 rfl (Nat.le_of_ble_eq_true rfl) ⟨Nat.le_of_ble_eq_true rfl, Nat.le_of_ble_eq_true rfl⟩ ⟨Nat.zero_le _, Nat.zero_le _⟩ dX7_put_6 rfl (fun H locs hh => ?_)
  refine lv_if_eq (tgt := 19) hx hb dX7_put_9 (by decide) (fun hc5 => ?_) (fun hc5 => ?_)
  · have hf := if_t hc5 hf
    refine lv_iconst (v := (-1 : Int32)) hx hb dX7_put_19 (by decide) ?_
    exact e_i X hr hlk hh (so2_e hf) dX7_put_20
  · have hf := if_f hc5 hf
    refine lv_iload_n hx hb dX7_put_12 rfl (lv_at hl 3 rfl) ?_
    obtain ⟨v7, hc6, hf⟩ := c1_e hf
    refine q_S (w' := w) (rest := []) X hml hh (some (.int v7)) (m_X7_isNumber l B D hc6) cf_X7_isNumber k_266 rfl hl.1 rfl (Nat.le_of_ble_eq_true rfl) ⟨Nat.le_of_ble_eq_true rfl, Nat.le_of_ble_eq_true rfl⟩ ⟨Nat.zero_le _, Nat.zero_le _⟩ dX7_put_13 rfl (fun H locs hh => ?_)
    refine lv_if_ne (tgt := 21) hx hb dX7_put_16 (by decide) (fun hc8 => ?_) (fun hc8 => ?_)
    · have hf := if_f hc8 hf
      refine lv_aload_n hx hb dX7_put_21 rfl (lv_at hl 0 rfl) ?_
      refine q_gr (P := 0) X hh ht fk_X7_14 dX7_put_22 hf (fun t9 h10 hf => ?_)
      refine lv_iload_n hx hb dX7_put_25 rfl (lv_at hl 1 rfl) ?_
      refine lv_iload_n hx hb dX7_put_26 rfl (lv_at hl 2 rfl) ?_
      obtain ⟨v12, hc11, hf⟩ := c1_e hf
      refine q_V (w' := w) (rest := []) X hml hh (some (.int v12)) (m_X0_numberAt l B D h10 hc11) cf_X0_numberAt k_269 h10 ci_0 rfl rfl hl.1 rfl (Nat.le_of_ble_eq_true rfl) ⟨Nat.le_of_ble_eq_true rfl, Nat.le_of_ble_eq_true rfl⟩ ⟨Nat.zero_le _, Nat.zero_le _⟩ dX7_put_27 rfl (fun H locs hh => ?_)
      refine lv_istore (lv' := [(4, .int v12), (0, .ref (B + t)), (1, .int a0), (2, .int a1), (3, .int a2)]) hx hb dX7_put_30 hl (by decide) rfl (fun ls hl => ?_)
      refine lv_aload_n hx hb dX7_put_32 rfl (lv_at hl 1 rfl) ?_
      obtain ⟨w14, hc13, hf⟩ := c1_e hf
      refine q_V (w' := w14) (rest := []) X hml hh none (m_X7_beginDeed l B D ht hc13) cf_X7_beginDeed k_238 ht ci_7 rfl rfl hl.1 rfl (Nat.le_of_ble_eq_true rfl) ⟨Nat.le_of_ble_eq_true rfl, Nat.le_of_ble_eq_true rfl⟩ ⟨Nat.zero_le _, Nat.zero_le _⟩ dX7_put_33 rfl (fun H locs hh => ?_)
      refine lv_aload_n hx hb dX7_put_36 rfl (lv_at hl 1 rfl) ?_
      refine q_gr (P := 0) X hh ht fk_X7_14 dX7_put_37 hf (fun t15 h16 hf => ?_)
      refine lv_iload_n hx hb dX7_put_40 rfl (lv_at hl 2 rfl) ?_
      refine lv_iload_n hx hb dX7_put_41 rfl (lv_at hl 3 rfl) ?_
      refine lv_iload_n hx hb dX7_put_42 rfl (lv_at hl 4 rfl) ?_
      obtain ⟨w18, hc17, hf⟩ := c1_e hf
      refine q_V (w' := w18) (rest := []) X hml hh none (m_X0_setNumber l B D h16 hc17) cf_X0_setNumber k_277 h16 ci_0 rfl rfl hl.1 rfl (Nat.le_of_ble_eq_true rfl) ⟨Nat.le_of_ble_eq_true rfl, Nat.le_of_ble_eq_true rfl⟩ ⟨Nat.zero_le _, Nat.zero_le _⟩ dX7_put_43 rfl (fun H locs hh => ?_)
      refine lv_iload hx hb dX7_put_46 (lv_at hl 0 rfl) ?_
      exact e_i X hr hlk hh (so2_e hf) dX7_put_48
    · have hf := if_t hc8 hf
      refine lv_iconst (v := (-1 : Int32)) hx hb dX7_put_19 (by decide) ?_
      exact e_i X hr hlk hh (so2_e hf) dX7_put_20
set_option maxHeartbeats 4000000 in
set_option maxRecDepth 100000 in
theorem m_X7_cell (l : Launch) (B : Nat) (D : DD) {t : Nat} {a0 : Int32} {a1 : Int32} {w : Wd} {r : Int32} (ht : t < 153 ∧ kd t = 7) (hf : f_X7_cell t a0 a1 w = some r) : Ct l yX7_cell cX7_cell 3 (some .int) 2 44 0 0 B D [.ref (B + t), .int a0, .int a1] 153 w (some (.int r)) 153 w := by
  refine m_of (by decide) (Nat.le_of_ble_eq_true rfl) (fun p e s m args below meth c X hml hr hlk _ H locs hh ls hl => ?_)
  have hx := X.1
  have hb := X.2.1
  have hl : lv_has ls 3 [(0, .ref (B + t)), (1, .int a0), (2, .int a1)] := hl
  unfold f_X7_cell at hf
  refine lv_aload_n hx hb dX7_cell_0 rfl (lv_at hl 0 rfl) ?_
  refine q_gr (P := 0) X hh ht fk_X7_14 dX7_cell_1 hf (fun t1 h2 hf => ?_)
  refine lv_iload_n hx hb dX7_cell_4 rfl (lv_at hl 1 rfl) ?_
  refine lv_iload_n hx hb dX7_cell_5 rfl (lv_at hl 2 rfl) ?_
  obtain ⟨v4, hc3, hf⟩ := c1_e hf
  refine q_V (w' := w) (rest := []) X hml hh (some (.int v4)) (m_X0_hasCell l B D h2 hc3) cf_X0_hasCell k_262 h2 ci_0 rfl rfl hl.1 rfl (Nat.le_of_ble_eq_true rfl) ⟨Nat.le_of_ble_eq_true rfl, Nat.le_of_ble_eq_true rfl⟩ ⟨Nat.zero_le _, Nat.zero_le _⟩ dX7_cell_6 rfl (fun H locs hh => ?_)
  refine lv_if_eq (tgt := 24) hx hb dX7_cell_9 (by decide) (fun hc5 => ?_) (fun hc5 => ?_)
  · have hf := if_t hc5 hf
    refine lv_iconst (v := (-1 : Int32)) hx hb dX7_cell_24 (by decide) ?_
    exact e_i X hr hlk hh ⟨so_e hf, rfl⟩ dX7_cell_25
  · have hf := if_f hc5 hf
    refine lv_aload_n hx hb dX7_cell_12 rfl (lv_at hl 0 rfl) ?_
    refine q_gr (P := 0) X hh ht fk_X7_14 dX7_cell_13 hf (fun t6 h7 hf => ?_)
    refine lv_iload_n hx hb dX7_cell_16 rfl (lv_at hl 1 rfl) ?_
    refine lv_iload_n hx hb dX7_cell_17 rfl (lv_at hl 2 rfl) ?_
    obtain ⟨v9, hc8, hf⟩ := c1_e hf
    refine q_V (w' := w) (rest := []) X hml hh (some (.int v9)) (m_X0_numberAt l B D h7 hc8) cf_X0_numberAt k_269 h7 ci_0 rfl rfl hl.1 rfl (Nat.le_of_ble_eq_true rfl) ⟨Nat.le_of_ble_eq_true rfl, Nat.le_of_ble_eq_true rfl⟩ ⟨Nat.zero_le _, Nat.zero_le _⟩ dX7_cell_18 rfl (fun H locs hh => ?_)
    refine lv_goto (tgt := 25) hx hb dX7_cell_21 (by decide) ?_
    exact e_i X hr hlk hh ⟨so_e hf, rfl⟩ dX7_cell_25
set_option maxHeartbeats 4000000 in
set_option maxRecDepth 100000 in
theorem m_X7_isRule (l : Launch) (B : Nat) (D : DD) {a0 : Int32} {w : Wd} {r : Int32} (hf : f_X7_isRule a0 = some r) : Ct l yX7_isRule cX7_isRule 1 (some .boolean) 0 0 0 0 B D [.int a0] 153 w (some (.int r)) 153 w := by
  refine m_of (by decide) (Nat.le_of_ble_eq_true rfl) (fun p e s m args below meth c X hml hr hlk _ H locs hh ls hl => ?_)
  have hx := X.1
  have hb := X.2.1
  have hl : lv_has ls 1 [(0, .int a0)] := hl
  unfold f_X7_isRule at hf
  refine lv_iload_n hx hb dX7_isRule_0 rfl (lv_at hl 0 rfl) ?_
  refine mg_W (P := fun (x3 : Int32) => ∀ (ls : Array Slot), lv_has ls 1 [] → W p l e (rmk 0 0 0 0) s m args below meth c H locs 0 0 (MZ below B D 153 w (some (.int r)) args s 0 0) (F0 m 14 ls [.int x3])) hf (fun x3 hf ls hl => ?_) (fun hj4 => ?_)
  · have hz := zb_e hf
    have hf := hz.2
    exact e_z X hr hlk hh hz.1 ⟨so_e hf, rfl⟩ dX7_isRule_14
  · refine lv_if_lt (tgt := 13) hx hb dX7_isRule_1 (by decide) (fun hc1 => ?_) (fun hc1 => ?_)
    · refine lv_iconst (v := (0 : Int32)) hx hb dX7_isRule_13 (by decide) ?_
      exact hj4 _ (by rw [if_pos hc1]) ls (lv_sub hl [] rfl)
    · refine lv_iload_n hx hb dX7_isRule_4 rfl (lv_at hl 0 rfl) ?_
      refine lv_iconst (v := (4 : Int32)) hx hb dX7_isRule_5 (by decide) ?_
      refine lv_icmp_ge (tgt := 13) hx hb dX7_isRule_6 (by decide) (fun hc2 => ?_) (fun hc2 => ?_)
      · refine lv_iconst (v := (0 : Int32)) hx hb dX7_isRule_13 (by decide) ?_
        exact hj4 _ (by rw [if_neg hc1, if_pos hc2]) ls (lv_sub hl [] rfl)
      · refine lv_iconst (v := (1 : Int32)) hx hb dX7_isRule_9 (by decide) ?_
        refine lv_goto (tgt := 14) hx hb dX7_isRule_10 (by decide) ?_
        exact hj4 _ (by rw [if_neg hc1, if_neg hc2]) ls (lv_sub hl [] rfl)
set_option maxHeartbeats 4000000 in
set_option maxRecDepth 100000 in
theorem m_X7_rule (l : Launch) (B : Nat) (D : DD) {t : Nat} {a0 : Int32} {w : Wd} {r : Int32} {w' : Wd} (ht : t < 153 ∧ kd t = 7) (hf : f_X7_rule t a0 w = some (r, w')) : Ct l yX7_rule cX7_rule 3 (some .int) 3 63 0 0 B D [.ref (B + t), .int a0] 153 w (some (.int r)) 153 w' := by
  refine m_of (by decide) (Nat.le_of_ble_eq_true rfl) (fun p e s m args below meth c X hml hr hlk _ H locs hh ls hl => ?_)
  have hx := X.1
  have hb := X.2.1
  have hl : lv_has ls 3 [(0, .ref (B + t)), (1, .int a0)] := hl
  unfold f_X7_rule at hf
  refine lv_iload_n hx hb dX7_rule_0 rfl (lv_at hl 1 rfl) ?_
  obtain ⟨v2, hc1, hf⟩ := c1_e hf
  refine q_S (w' := w) (rest := []) X hml hh (some (.int v2)) (m_X7_isRule l B D hc1) cf_X7_isRule k_289 rfl hl.1 rfl (Nat.le_of_ble_eq_true rfl) ⟨Nat.le_of_ble_eq_true rfl, Nat.le_of_ble_eq_true rfl⟩ ⟨Nat.zero_le _, Nat.zero_le _⟩ dX7_rule_1 rfl (fun H locs hh => ?_)
  refine lv_if_ne (tgt := 9) hx hb dX7_rule_4 (by decide) (fun hc3 => ?_) (fun hc3 => ?_)
  · have hf := if_f hc3 hf
    refine lv_aload_n hx hb dX7_rule_9 rfl (lv_at hl 0 rfl) ?_
    refine q_gr (P := 0) X hh ht fk_X7_14 dX7_rule_10 hf (fun t4 h5 hf => ?_)
    refine r_gi X hh h5 fk_X7_102 dX7_rule_13 ?_
    refine lv_topi (fun x6 e7 => ?_)
    have hf := lt_e e7 hf
    refine lv_istore_n (lv' := [(2, .int x6), (0, .ref (B + t)), (1, .int a0)]) hx hb dX7_rule_16 rfl hl (by decide) rfl (fun ls hl => ?_)
    refine lv_aload_n hx hb dX7_rule_17 rfl (lv_at hl 1 rfl) ?_
    obtain ⟨w9, hc8, hf⟩ := c1_e hf
    refine q_V (w' := w9) (rest := []) X hml hh none (m_X7_beginDeed l B D ht hc8) cf_X7_beginDeed k_238 ht ci_7 rfl rfl hl.1 rfl (Nat.le_of_ble_eq_true rfl) ⟨Nat.le_of_ble_eq_true rfl, Nat.le_of_ble_eq_true rfl⟩ ⟨Nat.zero_le _, Nat.zero_le _⟩ dX7_rule_18 rfl (fun H locs hh => ?_)
    refine lv_aload_n hx hb dX7_rule_21 rfl (lv_at hl 1 rfl) ?_
    refine q_gr (P := 0) X hh ht fk_X7_14 dX7_rule_22 hf (fun t10 h11 hf => ?_)
    refine lv_iload_n hx hb dX7_rule_25 rfl (lv_at hl 2 rfl) ?_
    refine q_pi X hh h11 fk_X7_102 pk_0_2 rfl rfl dX7_rule_26 hf (fun w12 H locs hf hh => ?_)
    refine lv_iload_n hx hb dX7_rule_29 rfl (lv_at hl 0 rfl) ?_
    exact e_i X hr hlk hh (so2_e hf) dX7_rule_30
  · have hf := if_t hc3 hf
    refine lv_iconst (v := (-1 : Int32)) hx hb dX7_rule_7 (by decide) ?_
    exact e_i X hr hlk hh (so2_e hf) dX7_rule_8
set_option maxHeartbeats 4000000 in
set_option maxRecDepth 100000 in
theorem m_X7_word (l : Launch) (B : Nat) (D : DD) {t : Nat} {a0 : Int32} {w : Wd} {r : Int32} {w' : Wd} (ht : t < 153 ∧ kd t = 7) (hf : f_X7_word t a0 w = some (r, w')) : Ct l yX7_word cX7_word 2 (some .int) 3 68 0 0 B D [.ref (B + t), .int a0] 153 w (some (.int r)) 153 w' := by
  refine m_of (by decide) (Nat.le_of_ble_eq_true rfl) (fun p e s m args below meth c X hml hr hlk _ H locs hh ls hl => ?_)
  have hx := X.1
  have hb := X.2.1
  have hl : lv_has ls 2 [(0, .ref (B + t)), (1, .int a0)] := hl
  unfold f_X7_word at hf
  refine lv_aload_n hx hb dX7_word_0 rfl (lv_at hl 0 rfl) ?_
  refine q_gr (P := 0) X hh ht fk_X7_14 dX7_word_1 hf (fun t1 h2 hf => ?_)
  refine lv_iload_n hx hb dX7_word_4 rfl (lv_at hl 1 rfl) ?_
  obtain ⟨v4, hc3, hf⟩ := c1_e hf
  refine q_V (w' := w) (rest := []) X hml hh (some (.int v4)) (m_X0_canSpell l B D h2 hc3) cf_X0_canSpell k_296 h2 ci_0 rfl rfl hl.1 rfl (Nat.le_of_ble_eq_true rfl) ⟨Nat.le_of_ble_eq_true rfl, Nat.le_of_ble_eq_true rfl⟩ ⟨Nat.zero_le _, Nat.zero_le _⟩ dX7_word_5 rfl (fun H locs hh => ?_)
  refine lv_if_ne (tgt := 13) hx hb dX7_word_8 (by decide) (fun hc5 => ?_) (fun hc5 => ?_)
  · have hf := if_f hc5 hf
    refine lv_aload_n hx hb dX7_word_13 rfl (lv_at hl 0 rfl) ?_
    obtain ⟨w7, hc6, hf⟩ := c1_e hf
    refine q_V (w' := w7) (rest := []) X hml hh none (m_X7_beginDeed l B D ht hc6) cf_X7_beginDeed k_238 ht ci_7 rfl rfl hl.1 rfl (Nat.le_of_ble_eq_true rfl) ⟨Nat.le_of_ble_eq_true rfl, Nat.le_of_ble_eq_true rfl⟩ ⟨Nat.zero_le _, Nat.zero_le _⟩ dX7_word_14 rfl (fun H locs hh => ?_)
    refine lv_aload_n hx hb dX7_word_17 rfl (lv_at hl 0 rfl) ?_
    refine q_gr (P := 0) X hh ht fk_X7_14 dX7_word_18 hf (fun t8 h9 hf => ?_)
    refine lv_iload_n hx hb dX7_word_21 rfl (lv_at hl 1 rfl) ?_
    obtain ⟨w11, hc10, hf⟩ := c1_e hf
    refine q_V (w' := w11) (rest := []) X hml hh none (m_X0_spell l B D h9 hc10) cf_X0_spell k_300 h9 ci_0 rfl rfl hl.1 rfl (Nat.le_of_ble_eq_true rfl) ⟨Nat.le_of_ble_eq_true rfl, Nat.le_of_ble_eq_true rfl⟩ ⟨Nat.zero_le _, Nat.zero_le _⟩ dX7_word_22 rfl (fun H locs hh => ?_)
    refine lv_aload_n hx hb dX7_word_25 rfl (lv_at hl 0 rfl) ?_
    refine q_gr (P := 0) X hh ht fk_X7_14 dX7_word_26 hf (fun t12 h13 hf => ?_)
    obtain ⟨v15, hc14, hf⟩ := c1_e hf
    refine q_V (w' := w11) (rest := []) X hml hh (some (.int v15)) (m_X0_filled l B D h13 hc14) cf_X0_filled k_306 h13 ci_0 rfl rfl hl.1 rfl (Nat.le_of_ble_eq_true rfl) ⟨Nat.le_of_ble_eq_true rfl, Nat.le_of_ble_eq_true rfl⟩ ⟨Nat.zero_le _, Nat.zero_le _⟩ dX7_word_29 rfl (fun H locs hh => ?_)
    exact e_i X hr hlk hh (so2_e hf) dX7_word_32
  · have hf := if_t hc5 hf
    refine lv_iconst (v := (-1 : Int32)) hx hb dX7_word_11 (by decide) ?_
    exact e_i X hr hlk hh (so2_e hf) dX7_word_12
set_option maxHeartbeats 4000000 in
set_option maxRecDepth 100000 in
theorem m_X7_spelled (l : Launch) (B : Nat) (D : DD) {t : Nat} {w : Wd} {r : Int32} (ht : t < 153 ∧ kd t = 7) (hf : f_X7_spelled t w = some r) : Ct l yX7_spelled cX7_spelled 1 (some .int) 3 69 0 0 B D [.ref (B + t)] 153 w (some (.int r)) 153 w := by
  refine m_of (by decide) (Nat.le_of_ble_eq_true rfl) (fun p e s m args below meth c X hml hr hlk _ H locs hh ls hl => ?_)
  have hx := X.1
  have hb := X.2.1
  have hl : lv_has ls 1 [(0, .ref (B + t))] := hl
  unfold f_X7_spelled at hf
  refine lv_aload_n hx hb dX7_spelled_0 rfl (lv_at hl 0 rfl) ?_
  refine q_gr (P := 0) X hh ht fk_X7_14 dX7_spelled_1 hf (fun t1 h2 hf => ?_)
  obtain ⟨v4, hc3, hf⟩ := c1_e hf
  refine q_V (w' := w) (rest := []) X hml hh (some (.int v4)) (m_X0_spelling l B D h2 hc3) cf_X0_spelling k_314 h2 ci_0 rfl rfl hl.1 rfl (Nat.le_of_ble_eq_true rfl) ⟨Nat.le_of_ble_eq_true rfl, Nat.le_of_ble_eq_true rfl⟩ ⟨Nat.zero_le _, Nat.zero_le _⟩ dX7_spelled_4 rfl (fun H locs hh => ?_)
  exact e_i X hr hlk hh ⟨so_e hf, rfl⟩ dX7_spelled_7
set_option maxHeartbeats 4000000 in
set_option maxRecDepth 100000 in
theorem m_X7_turn (l : Launch) (B : Nat) (D : DD) {t : Nat} {a0 : Int32} {w : Wd} {r : Int32} {w' : Wd} (ht : t < 153 ∧ kd t = 7) (hf : f_X7_turn t a0 w = some (r, w')) : Ct l yX7_turn cX7_turn 5 (some .int) 3 63 0 0 B D [.ref (B + t), .int a0] 153 w (some (.int r)) 153 w' := by
  refine m_of (by decide) (Nat.le_of_ble_eq_true rfl) (fun p e s m args below meth c X hml hr hlk _ H locs hh ls hl => ?_)
  have hx := X.1
  have hb := X.2.1
  have hl : lv_has ls 5 [(0, .ref (B + t)), (1, .int a0)] := hl
  unfold f_X7_turn at hf
  refine lv_iload_n hx hb dX7_turn_0 rfl (lv_at hl 1 rfl) ?_
  refine lv_if_lt (tgt := 9) hx hb dX7_turn_1 (by decide) (fun hc1 => ?_) (fun hc1 => ?_)
  · have hf := if_t hc1 hf
    refine lv_iconst (v := (-1 : Int32)) hx hb dX7_turn_9 (by decide) ?_
    exact e_i X hr hlk hh (so2_e hf) dX7_turn_10
  · have hf := if_f hc1 hf
    refine lv_iload_n hx hb dX7_turn_4 rfl (lv_at hl 1 rfl) ?_
    refine lv_iconst (v := (2 : Int32)) hx hb dX7_turn_5 (by decide) ?_
    refine lv_icmp_le (tgt := 11) hx hb dX7_turn_6 (by decide) (fun hc2 => ?_) (fun hc2 => ?_)
    · have hf := if_t hc2 hf
      refine lv_aload_n hx hb dX7_turn_11 rfl (lv_at hl 0 rfl) ?_
      obtain ⟨w4, hc3, hf⟩ := c1_e hf
      refine q_V (w' := w4) (rest := []) X hml hh none (m_X7_beginDeed l B D ht hc3) cf_X7_beginDeed k_238 ht ci_7 rfl rfl hl.1 rfl (Nat.le_of_ble_eq_true rfl) ⟨Nat.le_of_ble_eq_true rfl, Nat.le_of_ble_eq_true rfl⟩ ⟨Nat.zero_le _, Nat.zero_le _⟩ dX7_turn_12 rfl (fun H locs hh => ?_)
      refine lv_aload_n hx hb dX7_turn_15 rfl (lv_at hl 0 rfl) ?_
      refine q_gr (P := 0) X hh ht fk_X7_18 dX7_turn_16 hf (fun t5 h6 hf => ?_)
      refine lv_aload_n hx hb dX7_turn_19 rfl (lv_at hl 0 rfl) ?_
      refine q_gr (P := 0) X hh ht fk_X7_14 dX7_turn_20 hf (fun t7 h8 hf => ?_)
      obtain ⟨w10, hc9, hf⟩ := c1_e hf
      refine q_V (w' := w10) (rest := []) X hml hh none (m_X0_copyFrom l B D h6 h8 hc9) cf_X0_copyFrom k_323 h6 ci_0 rfl rfl hl.1 rfl (Nat.le_of_ble_eq_true rfl) ⟨Nat.le_of_ble_eq_true rfl, Nat.le_of_ble_eq_true rfl⟩ ⟨Nat.zero_le _, Nat.zero_le _⟩ dX7_turn_23 rfl (fun H locs hh => ?_)
      refine lv_iload_n hx hb dX7_turn_26 rfl (lv_at hl 1 rfl) ?_
      refine jn_W (P := fun j13 => ∀ (w12 : Wd), j13 w12 = some (r, w') → ∀ (H : Heap) (locs : List Loc) (ls : Array Slot), Hp B D 153 w12 s H locs → lv_has ls 5 [(0, .ref (B + t)), (1, .int a0)] → W p l e (rmk 3 63 0 0) s m args below meth c H locs 0 0 (MZ below B D 153 w' (some (.int r)) args s 0 0) (F0 m 51 ls [])) hf (fun w12 hf  H locs ls hh hl => ?_) (fun j13 hj13 hf => ?_)
      · refine lv_iconst (v := (1 : Int32)) hx hb dX7_turn_51 (by decide) ?_
        refine lv_istore_n (lv' := [(2, .int (1 : Int32)), (0, .ref (B + t)), (1, .int a0)]) hx hb dX7_turn_52 rfl hl (by decide) rfl (fun ls hl => ?_)
        refine wl2_W (P := fun (x14 : Int32) (w15 : Wd) => ∀ (H : Heap) (locs : List Loc) (ls : Array Slot), Hp B D 153 w15 s H locs → lv_has ls 5 [(0, .ref (B + t)), (1, .int a0), (2, .int x14)] → W p l e (rmk 3 63 0 0) s m args below meth c H locs 0 0 (MZ below B D 153 w' (some (.int r)) args s 0 0) (F0 m 53 ls [])) hf (fun x14 w15 k16 ih17 hf  H locs ls hh hl => ?_)  _ _ _ hh (lv_sub hl [1, 2, 0] rfl)
        refine lv_iload_n hx hb dX7_turn_53 rfl (lv_at hl 2 rfl) ?_
        refine lv_aload_n hx hb dX7_turn_54 rfl (lv_at hl 0 rfl) ?_
        refine q_gr (P := 0) X hh ht fk_X7_18 dX7_turn_55 hf (fun t18 h19 hf => ?_)
        refine r_gi X hh h19 fk_X7_70 dX7_turn_58 ?_
        refine lv_icmp_gt (tgt := 168) hx hb dX7_turn_61 (by decide) (fun hc20 => ?_) (fun hc20 => ?_)
        · have hf := if_t hc20 hf
          refine lv_aload_n hx hb dX7_turn_168 rfl (lv_at hl 0 rfl) ?_
          refine q_gr (P := 0) X hh ht fk_X7_14 dX7_turn_169 hf (fun t21 h22 hf => ?_)
          obtain ⟨v24, hc23, hf⟩ := c1_e hf
          refine q_V (w' := w15) (rest := []) X hml hh (some (.int v24)) (m_X0_filled l B D h22 hc23) cf_X0_filled k_306 h22 ci_0 rfl rfl hl.1 rfl (Nat.le_of_ble_eq_true rfl) ⟨Nat.le_of_ble_eq_true rfl, Nat.le_of_ble_eq_true rfl⟩ ⟨Nat.zero_le _, Nat.zero_le _⟩ dX7_turn_172 rfl (fun H locs hh => ?_)
          exact e_i X hr hlk hh (so2_e hf) dX7_turn_175
        · have hf := if_f hc20 hf
          refine lv_iconst (v := (1 : Int32)) hx hb dX7_turn_64 (by decide) ?_
          refine lv_istore_n (lv' := [(3, .int (1 : Int32)), (0, .ref (B + t)), (1, .int a0), (2, .int x14)]) hx hb dX7_turn_65 rfl hl (by decide) rfl (fun ls hl => ?_)
          refine wl2_W (P := fun (x25 : Int32) (w26 : Wd) => ∀ (H : Heap) (locs : List Loc) (ls : Array Slot), Hp B D 153 w26 s H locs → lv_has ls 5 [(0, .ref (B + t)), (1, .int a0), (2, .int x14), (3, .int x25)] → W p l e (rmk 3 63 0 0) s m args below meth c H locs 0 0 (MZ below B D 153 w' (some (.int r)) args s 0 0) (F0 m 66 ls [])) hf (fun x25 w26 k27 ih28 hf  H locs ls hh hl => ?_)  _ _ _ hh (lv_sub hl [1, 2, 3, 0] rfl)
          refine lv_iload_n hx hb dX7_turn_66 rfl (lv_at hl 3 rfl) ?_
          refine lv_aload_n hx hb dX7_turn_67 rfl (lv_at hl 0 rfl) ?_
          refine q_gr (P := 0) X hh ht fk_X7_18 dX7_turn_68 hf (fun t29 h30 hf => ?_)
          refine r_gi X hh h30 fk_X7_74 dX7_turn_71 ?_
          refine lv_icmp_gt (tgt := 162) hx hb dX7_turn_74 (by decide) (fun hc31 => ?_) (fun hc31 => ?_)
          · have hf := if_t hc31 hf
            obtain ⟨x32, e33⟩ : ∃ y : Int32, y = (x14 + (1 : Int32)) := ⟨_, rfl⟩
            have hf := lt_e e33 hf
            refine lv_iinc (v := x32) (lv' := [(2, .int x32), (0, .ref (B + t)), (1, .int a0), (3, .int x25)]) hx hb dX7_turn_162 hl (k := 2) rfl (by rw [e33]; rfl) (by decide) rfl (fun ls hl => ?_)
            refine lv_goto (tgt := 53) hx hb dX7_turn_165 (by decide) ?_
            exact ih17 _ _ hf  _ _ _ hh (lv_sub hl [1, 2, 0] rfl)
          · have hf := if_f hc31 hf
            refine lv_aload_n hx hb dX7_turn_77 rfl (lv_at hl 0 rfl) ?_
            refine q_gr (P := 0) X hh ht fk_X7_18 dX7_turn_78 hf (fun t34 h35 hf => ?_)
            refine lv_iload_n hx hb dX7_turn_81 rfl (lv_at hl 2 rfl) ?_
            refine lv_iload_n hx hb dX7_turn_82 rfl (lv_at hl 3 rfl) ?_
            obtain ⟨v37, hc36, hf⟩ := c1_e hf
            refine q_V (w' := w26) (rest := []) X hml hh (some (.int v37)) (m_X0_numberAt l B D h35 hc36) cf_X0_numberAt k_269 h35 ci_0 rfl rfl hl.1 rfl (Nat.le_of_ble_eq_true rfl) ⟨Nat.le_of_ble_eq_true rfl, Nat.le_of_ble_eq_true rfl⟩ ⟨Nat.zero_le _, Nat.zero_le _⟩ dX7_turn_83 rfl (fun H locs hh => ?_)
            refine lv_istore (lv' := [(4, .int v37), (0, .ref (B + t)), (1, .int a0), (2, .int x14), (3, .int x25)]) hx hb dX7_turn_86 hl (by decide) rfl (fun ls hl => ?_)
            refine lv_iload_n hx hb dX7_turn_88 rfl (lv_at hl 2 rfl) ?_
            refine jn_W (P := fun j40 => ∀ (w39 : Wd), j40 w39 = some (r, w') → ∀ (H : Heap) (locs : List Loc) (ls : Array Slot), Hp B D 153 w39 s H locs → lv_has ls 5 [(0, .ref (B + t)), (1, .int a0), (2, .int x14), (3, .int x25)] → W p l e (rmk 3 63 0 0) s m args below meth c H locs 0 0 (MZ below B D 153 w' (some (.int r)) args s 0 0) (F0 m 156 ls [])) hf (fun w39 hf  H locs ls hh hl => ?_) (fun j40 hj40 hf => ?_)
            · obtain ⟨x41, e42⟩ : ∃ y : Int32, y = (x25 + (1 : Int32)) := ⟨_, rfl⟩
              have hf := lt_e e42 hf
              refine lv_iinc (v := x41) (lv' := [(3, .int x41), (0, .ref (B + t)), (1, .int a0), (2, .int x14)]) hx hb dX7_turn_156 hl (k := 3) rfl (by rw [e42]; rfl) (by decide) rfl (fun ls hl => ?_)
              refine lv_goto (tgt := 66) hx hb dX7_turn_159 (by decide) ?_
              exact ih28 _ _ hf  _ _ _ hh (lv_sub hl [1, 2, 3, 0] rfl)
            · refine lv_if_ne (tgt := 106) hx hb dX7_turn_89 (by decide) (fun hc38 => ?_) (fun hc38 => ?_)
              · have hf := if_f hc38 hf
                refine lv_iload_n hx hb dX7_turn_106 rfl (lv_at hl 2 rfl) ?_
                refine lv_iconst (v := (1 : Int32)) hx hb dX7_turn_107 (by decide) ?_
                refine lv_icmp_ne (tgt := 135) hx hb dX7_turn_108 (by decide) (fun hc43 => ?_) (fun hc43 => ?_)
                · have hf := if_f hc43 hf
                  refine lv_aload_n hx hb dX7_turn_135 rfl (lv_at hl 1 rfl) ?_
                  refine q_gr (P := 0) X hh ht fk_X7_14 dX7_turn_136 hf (fun t44 h45 hf => ?_)
                  refine lv_iload_n hx hb dX7_turn_139 rfl (lv_at hl 3 rfl) ?_
                  refine lv_aload_n hx hb dX7_turn_140 rfl (lv_at hl 1 rfl) ?_
                  refine q_gr (P := 0) X hh ht fk_X7_18 dX7_turn_141 hf (fun t46 h47 hf => ?_)
                  refine r_gi X hh h47 fk_X7_74 dX7_turn_144 ?_
                  refine lv_iconst (v := (1 : Int32)) hx hb dX7_turn_147 (by decide) ?_
                  refine lv_iadd hx hb dX7_turn_148 ?_
                  refine lv_iload_n hx hb dX7_turn_149 rfl (lv_at hl 4 rfl) ?_
                  refine lv_isub hx hb dX7_turn_150 ?_
                  refine lv_iload hx hb dX7_turn_151 (lv_at hl 0 rfl) ?_
                  obtain ⟨w49, hc48, hf⟩ := c1_e hf
                  refine q_V (w' := w49) (rest := []) X hml hh none (m_X0_setNumber l B D h45 hc48) cf_X0_setNumber k_277 h45 ci_0 rfl rfl hl.1 rfl (Nat.le_of_ble_eq_true rfl) ⟨Nat.le_of_ble_eq_true rfl, Nat.le_of_ble_eq_true rfl⟩ ⟨Nat.zero_le _, Nat.zero_le _⟩ dX7_turn_153 rfl (fun H locs hh => ?_)
                  exact hj40 _ hf  _ _ _ hh (lv_sub hl [1, 2, 3, 4] rfl)
                · have hf := if_t hc43 hf
                  refine lv_aload_n hx hb dX7_turn_111 rfl (lv_at hl 1 rfl) ?_
                  refine q_gr (P := 0) X hh ht fk_X7_14 dX7_turn_112 hf (fun t50 h51 hf => ?_)
                  refine lv_aload_n hx hb dX7_turn_115 rfl (lv_at hl 1 rfl) ?_
                  refine q_gr (P := 0) X hh ht fk_X7_18 dX7_turn_116 hf (fun t52 h53 hf => ?_)
                  refine r_gi X hh h53 fk_X7_70 dX7_turn_119 ?_
                  refine lv_iconst (v := (1 : Int32)) hx hb dX7_turn_122 (by decide) ?_
                  refine lv_iadd hx hb dX7_turn_123 ?_
                  refine lv_iload_n hx hb dX7_turn_124 rfl (lv_at hl 3 rfl) ?_
                  refine lv_isub hx hb dX7_turn_125 ?_
                  refine lv_iload_n hx hb dX7_turn_126 rfl (lv_at hl 4 rfl) ?_
                  refine lv_iload hx hb dX7_turn_127 (lv_at hl 0 rfl) ?_
                  obtain ⟨w55, hc54, hf⟩ := c1_e hf
                  refine q_V (w' := w55) (rest := []) X hml hh none (m_X0_setNumber l B D h51 hc54) cf_X0_setNumber k_277 h51 ci_0 rfl rfl hl.1 rfl (Nat.le_of_ble_eq_true rfl) ⟨Nat.le_of_ble_eq_true rfl, Nat.le_of_ble_eq_true rfl⟩ ⟨Nat.zero_le _, Nat.zero_le _⟩ dX7_turn_129 rfl (fun H locs hh => ?_)
                  refine lv_goto (tgt := 156) hx hb dX7_turn_132 (by decide) ?_
                  exact hj40 _ hf  _ _ _ hh (lv_sub hl [1, 2, 3, 4] rfl)
              · have hf := if_t hc38 hf
                refine lv_aload_n hx hb dX7_turn_92 rfl (lv_at hl 1 rfl) ?_
                refine q_gr (P := 0) X hh ht fk_X7_14 dX7_turn_93 hf (fun t56 h57 hf => ?_)
                refine lv_iload_n hx hb dX7_turn_96 rfl (lv_at hl 4 rfl) ?_
                refine lv_iload_n hx hb dX7_turn_97 rfl (lv_at hl 3 rfl) ?_
                refine lv_iload hx hb dX7_turn_98 (lv_at hl 0 rfl) ?_
                obtain ⟨w59, hc58, hf⟩ := c1_e hf
                refine q_V (w' := w59) (rest := []) X hml hh none (m_X0_setNumber l B D h57 hc58) cf_X0_setNumber k_277 h57 ci_0 rfl rfl hl.1 rfl (Nat.le_of_ble_eq_true rfl) ⟨Nat.le_of_ble_eq_true rfl, Nat.le_of_ble_eq_true rfl⟩ ⟨Nat.zero_le _, Nat.zero_le _⟩ dX7_turn_100 rfl (fun H locs hh => ?_)
                refine lv_goto (tgt := 156) hx hb dX7_turn_103 (by decide) ?_
                exact hj40 _ hf  _ _ _ hh (lv_sub hl [1, 2, 3, 4] rfl)
      · refine lv_if_ne (tgt := 51) hx hb dX7_turn_27 (by decide) (fun hc11 => ?_) (fun hc11 => ?_)
        · have hf := if_f hc11 hf
          exact hj13 _ hf  _ _ _ hh (lv_sub hl [0, 1] rfl)
        · have hf := if_t hc11 hf
          refine lv_aload_n hx hb dX7_turn_30 rfl (lv_at hl 0 rfl) ?_
          refine q_gr (P := 0) X hh ht fk_X7_14 dX7_turn_31 hf (fun t60 h61 hf => ?_)
          refine lv_aload_n hx hb dX7_turn_34 rfl (lv_at hl 0 rfl) ?_
          refine q_gr (P := 0) X hh ht fk_X7_18 dX7_turn_35 hf (fun t62 h63 hf => ?_)
          refine r_gi X hh h63 fk_X7_74 dX7_turn_38 ?_
          refine lv_aload_n hx hb dX7_turn_41 rfl (lv_at hl 0 rfl) ?_
          refine q_gr (P := 0) X hh ht fk_X7_18 dX7_turn_42 hf (fun t64 h65 hf => ?_)
          refine r_gi X hh h65 fk_X7_70 dX7_turn_45 ?_
          obtain ⟨w67, hc66, hf⟩ := c1_e hf
          refine q_V (w' := w67) (rest := []) X hml hh none (m_X0_clearTo l B D h61 hc66) cf_X0_clearTo k_254 h61 ci_0 rfl rfl hl.1 rfl (Nat.le_of_ble_eq_true rfl) ⟨Nat.le_of_ble_eq_true rfl, Nat.le_of_ble_eq_true rfl⟩ ⟨Nat.zero_le _, Nat.zero_le _⟩ dX7_turn_48 rfl (fun H locs hh => ?_)
          exact hj13 _ hf  _ _ _ hh (lv_sub hl [0, 1] rfl)
    · have hf := if_f hc2 hf
      refine lv_iconst (v := (-1 : Int32)) hx hb dX7_turn_9 (by decide) ?_
      exact e_i X hr hlk hh (so2_e hf) dX7_turn_10
set_option maxHeartbeats 4000000 in
set_option maxRecDepth 100000 in
theorem m_X7_isPlace (l : Launch) (B : Nat) (D : DD) {a0 : Int32} {w : Wd} {r : Int32} (hf : f_X7_isPlace a0 = some r) : Ct l yX7_isPlace cX7_isPlace 1 (some .boolean) 0 0 0 0 B D [.int a0] 153 w (some (.int r)) 153 w := by
  refine m_of (by decide) (Nat.le_of_ble_eq_true rfl) (fun p e s m args below meth c X hml hr hlk _ H locs hh ls hl => ?_)
  have hx := X.1
  have hb := X.2.1
  have hl : lv_has ls 1 [(0, .int a0)] := hl
  unfold f_X7_isPlace at hf
  refine lv_iload_n hx hb dX7_isPlace_0 rfl (lv_at hl 0 rfl) ?_
  refine mg_W (P := fun (x3 : Int32) => ∀ (ls : Array Slot), lv_has ls 1 [] → W p l e (rmk 0 0 0 0) s m args below meth c H locs 0 0 (MZ below B D 153 w (some (.int r)) args s 0 0) (F0 m 15 ls [.int x3])) hf (fun x3 hf ls hl => ?_) (fun hj4 => ?_)
  · have hz := zb_e hf
    have hf := hz.2
    exact e_z X hr hlk hh hz.1 ⟨so_e hf, rfl⟩ dX7_isPlace_15
  · refine lv_if_lt (tgt := 14) hx hb dX7_isPlace_1 (by decide) (fun hc1 => ?_) (fun hc1 => ?_)
    · refine lv_iconst (v := (0 : Int32)) hx hb dX7_isPlace_14 (by decide) ?_
      exact hj4 _ (by rw [if_pos hc1]) ls (lv_sub hl [] rfl)
    · refine lv_iload_n hx hb dX7_isPlace_4 rfl (lv_at hl 0 rfl) ?_
      refine lv_bipush (v := (100 : Int32)) hx hb dX7_isPlace_5 (by decide) ?_
      refine lv_icmp_ge (tgt := 14) hx hb dX7_isPlace_7 (by decide) (fun hc2 => ?_) (fun hc2 => ?_)
      · refine lv_iconst (v := (0 : Int32)) hx hb dX7_isPlace_14 (by decide) ?_
        exact hj4 _ (by rw [if_neg hc1, if_pos hc2]) ls (lv_sub hl [] rfl)
      · refine lv_iconst (v := (1 : Int32)) hx hb dX7_isPlace_10 (by decide) ?_
        refine lv_goto (tgt := 15) hx hb dX7_isPlace_11 (by decide) ?_
        exact hj4 _ (by rw [if_neg hc1, if_neg hc2]) ls (lv_sub hl [] rfl)
set_option maxHeartbeats 4000000 in
set_option maxRecDepth 100000 in
theorem m_X7_grownCorners (l : Launch) (B : Nat) (D : DD) {t : Nat} {w : Wd} {r : Nat} {w' : Wd} (ht : t < 153 ∧ kd t = 7) (hf : f_X7_grownCorners t w = some (r, w')) : Ct l yX7_grownCorners cX7_grownCorners 1 (some (.object "GrowthGrid$Corners")) 4 99 0 0 B D [.ref (B + t)] 153 w (some (.ref (B + r))) 153 w' := by
  refine m_of (by decide) (Nat.le_of_ble_eq_true rfl) (fun p e s m args below meth c X hml hr hlk _ H locs hh ls hl => ?_)
  have hx := X.1
  have hb := X.2.1
  have hl : lv_has ls 1 [(0, .ref (B + t))] := hl
  unfold f_X7_grownCorners at hf
  refine lv_aload_n hx hb dX7_grownCorners_0 rfl (lv_at hl 0 rfl) ?_
  refine r_gi X hh ht fk_X7_35 dX7_grownCorners_1 ?_
  refine jn_W (P := fun j3 => ∀ (w2 : Wd), j3 w2 = some (r, w') → ∀ (H : Heap) (locs : List Loc) (ls : Array Slot), Hp B D 153 w2 s H locs → lv_has ls 1 [(0, .ref (B + t))] → W p l e (rmk 4 99 0 0) s m args below meth c H locs 0 0 (MZ below B D 153 w' (some (.ref (B + r))) args s 0 0) (F0 m 23 ls [])) hf (fun w2 hf  H locs ls hh hl => ?_) (fun j3 hj3 hf => ?_)
  · refine lv_aload_n hx hb dX7_grownCorners_23 rfl (lv_at hl 0 rfl) ?_
    refine q_gr (P := 1) X hh ht fk_X7_31 dX7_grownCorners_24 hf (fun t4 h5 hf => ?_)
    exact e_a X hr hlk hh (so2_e hf) dX7_grownCorners_27
  · refine lv_if_ne (tgt := 23) hx hb dX7_grownCorners_4 (by decide) (fun hc1 => ?_) (fun hc1 => ?_)
    · have hf := if_f hc1 hf
      exact hj3 _ hf  _ _ _ hh (lv_sub hl [0] rfl)
    · have hf := if_t hc1 hf
      refine lv_aload_n hx hb dX7_grownCorners_7 rfl (lv_at hl 0 rfl) ?_
      refine q_gr (P := 1) X hh ht fk_X7_31 dX7_grownCorners_8 hf (fun t6 h7 hf => ?_)
      refine lv_aload_n hx hb dX7_grownCorners_11 rfl (lv_at hl 0 rfl) ?_
      refine q_gr (P := 0) X hh ht fk_X7_14 dX7_grownCorners_12 hf (fun t8 h9 hf => ?_)
      obtain ⟨w11, hc10, hf⟩ := c1_e hf
      refine q_V (w' := w11) (rest := []) X hml hh none (m_X1_growOver l B D h7 h9 hc10) cf_X1_growOver k_343 h7 ci_1 rfl rfl hl.1 rfl (Nat.le_of_ble_eq_true rfl) ⟨Nat.le_of_ble_eq_true rfl, Nat.le_of_ble_eq_true rfl⟩ ⟨Nat.zero_le _, Nat.zero_le _⟩ dX7_grownCorners_15 rfl (fun H locs hh => ?_)
      refine lv_aload_n hx hb dX7_grownCorners_18 rfl (lv_at hl 0 rfl) ?_
      refine lv_iconst (v := (1 : Int32)) hx hb dX7_grownCorners_19 (by decide) ?_
      refine q_pi X hh ht fk_X7_35 pk_7_5 rfl rfl dX7_grownCorners_20 hf (fun w12 H locs hf hh => ?_)
      exact hj3 _ hf  _ _ _ hh (lv_sub hl [0] rfl)
set_option maxHeartbeats 4000000 in
set_option maxRecDepth 100000 in
theorem m_X7_shapeAt (l : Launch) (B : Nat) (D : DD) {t : Nat} {a0 : Int32} {a1 : Int32} {w : Wd} {r : Nat} {w' : Wd} (ht : t < 153 ∧ kd t = 7) (hf : f_X7_shapeAt t a0 a1 w = some (r, w')) : Ct l yX7_shapeAt cX7_shapeAt 3 (some (.object "GrowthGrid$Shape")) 5 119 0 0 B D [.ref (B + t), .int a0, .int a1] 153 w (some (.ref (B + r))) 153 w' := by
  refine m_of (by decide) (Nat.le_of_ble_eq_true rfl) (fun p e s m args below meth c X hml hr hlk _ H locs hh ls hl => ?_)
  have hx := X.1
  have hb := X.2.1
  have hl : lv_has ls 3 [(0, .ref (B + t)), (1, .int a0), (2, .int a1)] := hl
  unfold f_X7_shapeAt at hf
  refine lv_aload_n hx hb dX7_shapeAt_0 rfl (lv_at hl 0 rfl) ?_
  obtain ⟨v2, w3, hc1, hf⟩ := c2_e hf
  obtain ⟨h4, hf⟩ := ck_e hf
  refine q_V (w' := w3) (rest := []) X hml hh (some (.ref (B + v2))) (m_X7_grownCorners l B D ht hc1) cf_X7_grownCorners k_339 ht ci_7 rfl rfl hl.1 rfl (Nat.le_of_ble_eq_true rfl) ⟨Nat.le_of_ble_eq_true rfl, Nat.le_of_ble_eq_true rfl⟩ ⟨Nat.zero_le _, Nat.zero_le _⟩ dX7_shapeAt_1 rfl (fun H locs hh => ?_)
  refine lv_iload_n hx hb dX7_shapeAt_4 rfl (lv_at hl 1 rfl) ?_
  refine lv_iload_n hx hb dX7_shapeAt_5 rfl (lv_at hl 2 rfl) ?_
  obtain ⟨v6, hc5, hf⟩ := c1_e hf
  obtain ⟨h7, hf⟩ := ck_e hf
  refine q_V (w' := w3) (rest := []) X hml hh (some (.ref (B + v6))) (m_X1_at l B D h4 hc5) cf_X1_at k_378 h4 ci_1 rfl rfl hl.1 rfl (Nat.le_of_ble_eq_true rfl) ⟨Nat.le_of_ble_eq_true rfl, Nat.le_of_ble_eq_true rfl⟩ ⟨Nat.zero_le _, Nat.zero_le _⟩ dX7_shapeAt_6 rfl (fun H locs hh => ?_)
  exact e_a X hr hlk hh (so2_e hf) dX7_shapeAt_9
set_option maxHeartbeats 4000000 in
set_option maxRecDepth 100000 in
theorem m_X7_part (l : Launch) (B : Nat) (D : DD) {t : Nat} {a0 : Int32} {a1 : Int32} {a2 : Int32} {w : Wd} {r : Int32} {w' : Wd} (ht : t < 153 ∧ kd t = 7) (hf : f_X7_part t a0 a1 a2 w = some (r, w')) : Ct l yX7_part cX7_part 4 (some .int) 6 141 0 0 B D [.ref (B + t), .int a0, .int a1, .int a2] 153 w (some (.int r)) 153 w' := by
  refine m_of (by decide) (Nat.le_of_ble_eq_true rfl) (fun p e s m args below meth c X hml hr hlk _ H locs hh ls hl => ?_)
  have hx := X.1
  have hb := X.2.1
  have hl : lv_has ls 4 [(0, .ref (B + t)), (1, .int a0), (2, .int a1), (3, .int a2)] := hl
  unfold f_X7_part at hf
  refine lv_aload_n hx hb dX7_part_0 rfl (lv_at hl 0 rfl) ?_
  refine q_gr (P := 0) X hh ht fk_X7_14 dX7_part_1 hf (fun t1 h2 hf => ?_)
  refine lv_iload_n hx hb dX7_part_4 rfl (lv_at hl 1 rfl) ?_
  refine lv_iload_n hx hb dX7_part_5 rfl (lv_at hl 2 rfl) ?_
  obtain ⟨v4, hc3, hf⟩ := c1_e hf
  refine q_V (w' := w) (rest := []) X hml hh (some (.int v4)) (m_X0_hasCorner l B D h2 hc3) cf_X0_hasCorner k_328 h2 ci_0 rfl rfl hl.1 rfl (Nat.le_of_ble_eq_true rfl) ⟨Nat.le_of_ble_eq_true rfl, Nat.le_of_ble_eq_true rfl⟩ ⟨Nat.zero_le _, Nat.zero_le _⟩ dX7_part_6 rfl (fun H locs hh => ?_)
  refine lv_if_eq (tgt := 19) hx hb dX7_part_9 (by decide) (fun hc5 => ?_) (fun hc5 => ?_)
  · have hf := if_t hc5 hf
    refine lv_iconst (v := (-1 : Int32)) hx hb dX7_part_19 (by decide) ?_
    exact e_i X hr hlk hh (so2_e hf) dX7_part_20
  · have hf := if_f hc5 hf
    refine lv_iload_n hx hb dX7_part_12 rfl (lv_at hl 3 rfl) ?_
    obtain ⟨v7, hc6, hf⟩ := c1_e hf
    refine q_S (w' := w) (rest := []) X hml hh (some (.int v7)) (m_X7_isPlace l B D hc6) cf_X7_isPlace k_332 rfl hl.1 rfl (Nat.le_of_ble_eq_true rfl) ⟨Nat.le_of_ble_eq_true rfl, Nat.le_of_ble_eq_true rfl⟩ ⟨Nat.zero_le _, Nat.zero_le _⟩ dX7_part_13 rfl (fun H locs hh => ?_)
    refine lv_if_ne (tgt := 21) hx hb dX7_part_16 (by decide) (fun hc8 => ?_) (fun hc8 => ?_)
    · have hf := if_f hc8 hf
      refine lv_aload_n hx hb dX7_part_21 rfl (lv_at hl 0 rfl) ?_
      refine lv_iload_n hx hb dX7_part_22 rfl (lv_at hl 1 rfl) ?_
      refine lv_iload_n hx hb dX7_part_23 rfl (lv_at hl 2 rfl) ?_
      obtain ⟨v10, w11, hc9, hf⟩ := c2_e hf
      obtain ⟨h12, hf⟩ := ck_e hf
      refine q_V (w' := w11) (rest := []) X hml hh (some (.ref (B + v10))) (m_X7_shapeAt l B D ht hc9) cf_X7_shapeAt k_335 ht ci_7 rfl rfl hl.1 rfl (Nat.le_of_ble_eq_true rfl) ⟨Nat.le_of_ble_eq_true rfl, Nat.le_of_ble_eq_true rfl⟩ ⟨Nat.zero_le _, Nat.zero_le _⟩ dX7_part_24 rfl (fun H locs hh => ?_)
      refine lv_iload_n hx hb dX7_part_27 rfl (lv_at hl 3 rfl) ?_
      obtain ⟨v14, hc13, hf⟩ := c1_e hf
      refine q_V (w' := w11) (rest := []) X hml hh (some (.int v14)) (m_X5_partAt l B D h12 hc13) cf_X5_partAt k_379 h12 ci_5 rfl rfl hl.1 rfl (Nat.le_of_ble_eq_true rfl) ⟨Nat.le_of_ble_eq_true rfl, Nat.le_of_ble_eq_true rfl⟩ ⟨Nat.zero_le _, Nat.zero_le _⟩ dX7_part_28 rfl (fun H locs hh => ?_)
      exact e_i X hr hlk hh (so2_e hf) dX7_part_31
    · have hf := if_t hc8 hf
      refine lv_iconst (v := (-1 : Int32)) hx hb dX7_part_19 (by decide) ?_
      exact e_i X hr hlk hh (so2_e hf) dX7_part_20
set_option maxHeartbeats 4000000 in
set_option maxRecDepth 100000 in
theorem m_X7_shape (l : Launch) (B : Nat) (D : DD) {t : Nat} {a0 : Int32} {a1 : Int32} {a2 : Int32} {w : Wd} {r : Int32} {w' : Wd} (ht : t < 153 ∧ kd t = 7) (hf : f_X7_shape t a0 a1 a2 w = some (r, w')) : Ct l yX7_shape cX7_shape 5 (some .int) 6 141 0 0 B D [.ref (B + t), .int a0, .int a1, .int a2] 153 w (some (.int r)) 153 w' := by
  refine m_of (by decide) (Nat.le_of_ble_eq_true rfl) (fun p e s m args below meth c X hml hr hlk _ H locs hh ls hl => ?_)
  have hx := X.1
  have hb := X.2.1
  have hl : lv_has ls 5 [(0, .ref (B + t)), (1, .int a0), (2, .int a1), (3, .int a2)] := hl
  unfold f_X7_shape at hf
  refine lv_aload_n hx hb dX7_shape_0 rfl (lv_at hl 0 rfl) ?_
  refine q_gr (P := 0) X hh ht fk_X7_14 dX7_shape_1 hf (fun t1 h2 hf => ?_)
  refine lv_iload_n hx hb dX7_shape_4 rfl (lv_at hl 1 rfl) ?_
  refine lv_iload_n hx hb dX7_shape_5 rfl (lv_at hl 2 rfl) ?_
  obtain ⟨v4, hc3, hf⟩ := c1_e hf
  refine q_V (w' := w) (rest := []) X hml hh (some (.int v4)) (m_X0_hasCorner l B D h2 hc3) cf_X0_hasCorner k_328 h2 ci_0 rfl rfl hl.1 rfl (Nat.le_of_ble_eq_true rfl) ⟨Nat.le_of_ble_eq_true rfl, Nat.le_of_ble_eq_true rfl⟩ ⟨Nat.zero_le _, Nat.zero_le _⟩ dX7_shape_6 rfl (fun H locs hh => ?_)
  refine lv_if_eq (tgt := 21) hx hb dX7_shape_9 (by decide) (fun hc5 => ?_) (fun hc5 => ?_)
  · have hf := if_t hc5 hf
    refine lv_iconst (v := (-1 : Int32)) hx hb dX7_shape_21 (by decide) ?_
    exact e_i X hr hlk hh (so2_e hf) dX7_shape_22
  · have hf := if_f hc5 hf
    refine lv_iload_n hx hb dX7_shape_12 rfl (lv_at hl 3 rfl) ?_
    refine lv_if_lt (tgt := 21) hx hb dX7_shape_13 (by decide) (fun hc6 => ?_) (fun hc6 => ?_)
    · have hf := if_t hc6 hf
      refine lv_iconst (v := (-1 : Int32)) hx hb dX7_shape_21 (by decide) ?_
      exact e_i X hr hlk hh (so2_e hf) dX7_shape_22
    · have hf := if_f hc6 hf
      refine lv_iload_n hx hb dX7_shape_16 rfl (lv_at hl 3 rfl) ?_
      refine lv_iconst (v := (1 : Int32)) hx hb dX7_shape_17 (by decide) ?_
      refine lv_icmp_le (tgt := 23) hx hb dX7_shape_18 (by decide) (fun hc7 => ?_) (fun hc7 => ?_)
      · have hf := if_t hc7 hf
        refine lv_aload_n hx hb dX7_shape_23 rfl (lv_at hl 0 rfl) ?_
        refine lv_iload_n hx hb dX7_shape_24 rfl (lv_at hl 1 rfl) ?_
        refine lv_iload_n hx hb dX7_shape_25 rfl (lv_at hl 2 rfl) ?_
        obtain ⟨v9, w10, hc8, hf⟩ := c2_e hf
        obtain ⟨h11, hf⟩ := ck_e hf
        refine q_V (w' := w10) (rest := []) X hml hh (some (.ref (B + v9))) (m_X7_shapeAt l B D ht hc8) cf_X7_shapeAt k_335 ht ci_7 rfl rfl hl.1 rfl (Nat.le_of_ble_eq_true rfl) ⟨Nat.le_of_ble_eq_true rfl, Nat.le_of_ble_eq_true rfl⟩ ⟨Nat.zero_le _, Nat.zero_le _⟩ dX7_shape_26 rfl (fun H locs hh => ?_)
        refine lv_astore (lv' := [(4, .ref (B + v9)), (0, .ref (B + t)), (1, .int a0), (2, .int a1), (3, .int a2)]) hx hb dX7_shape_29 hl (by decide) rfl (fun ls hl => ?_)
        refine lv_iload_n hx hb dX7_shape_31 rfl (lv_at hl 4 rfl) ?_
        refine mg_W (P := fun (x13 : Int32) => ∀ (ls : Array Slot), lv_has ls 5 [] → W p l e (rmk 6 141 0 0) s m args below meth c H locs 0 0 (MZ below B D 153 w' (some (.int r)) args s 0 0) (F0 m 48 ls [.int x13])) hf (fun x13 hf ls hl => ?_) (fun hj14 => ?_)
        · exact e_i X hr hlk hh (so2_e hf) dX7_shape_48
        · refine lv_if_ne (tgt := 43) hx hb dX7_shape_32 (by decide) (fun hc12 => ?_) (fun hc12 => ?_)
          · refine lv_aload hx hb dX7_shape_43 (lv_at hl 0 rfl) ?_
            refine r_gi X hh h11 fk_X7_142 dX7_shape_45 ?_
            exact hj14 _ (by rw [if_neg hc12]) ls (lv_sub hl [] rfl)
          · refine lv_aload hx hb dX7_shape_35 (lv_at hl 0 rfl) ?_
            refine r_gi X hh h11 fk_X7_139 dX7_shape_37 ?_
            refine lv_goto (tgt := 48) hx hb dX7_shape_40 (by decide) ?_
            exact hj14 _ (by rw [if_pos hc12]) ls (lv_sub hl [] rfl)
      · have hf := if_f hc7 hf
        refine lv_iconst (v := (-1 : Int32)) hx hb dX7_shape_21 (by decide) ?_
        exact e_i X hr hlk hh (so2_e hf) dX7_shape_22
set_option maxHeartbeats 4000000 in
set_option maxRecDepth 100000 in
theorem m_X7_turned (l : Launch) (B : Nat) (D : DD) {t : Nat} {a0 : Int32} {a1 : Int32} {a2 : Int32} {w : Wd} {r : Int32} {w' : Wd} (ht : t < 153 ∧ kd t = 7) (hf : f_X7_turned t a0 a1 a2 w = some (r, w')) : Ct l yX7_turned cX7_turned 4 (some .int) 6 141 0 0 B D [.ref (B + t), .int a0, .int a1, .int a2] 153 w (some (.int r)) 153 w' := by
  refine m_of (by decide) (Nat.le_of_ble_eq_true rfl) (fun p e s m args below meth c X hml hr hlk _ H locs hh ls hl => ?_)
  have hx := X.1
  have hb := X.2.1
  have hl : lv_has ls 4 [(0, .ref (B + t)), (1, .int a0), (2, .int a1), (3, .int a2)] := hl
  unfold f_X7_turned at hf
  refine lv_aload_n hx hb dX7_turned_0 rfl (lv_at hl 0 rfl) ?_
  refine q_gr (P := 0) X hh ht fk_X7_14 dX7_turned_1 hf (fun t1 h2 hf => ?_)
  refine lv_iload_n hx hb dX7_turned_4 rfl (lv_at hl 1 rfl) ?_
  refine lv_iload_n hx hb dX7_turned_5 rfl (lv_at hl 2 rfl) ?_
  obtain ⟨v4, hc3, hf⟩ := c1_e hf
  refine q_V (w' := w) (rest := []) X hml hh (some (.int v4)) (m_X0_hasCorner l B D h2 hc3) cf_X0_hasCorner k_328 h2 ci_0 rfl rfl hl.1 rfl (Nat.le_of_ble_eq_true rfl) ⟨Nat.le_of_ble_eq_true rfl, Nat.le_of_ble_eq_true rfl⟩ ⟨Nat.zero_le _, Nat.zero_le _⟩ dX7_turned_6 rfl (fun H locs hh => ?_)
  refine lv_if_eq (tgt := 19) hx hb dX7_turned_9 (by decide) (fun hc5 => ?_) (fun hc5 => ?_)
  · have hf := if_t hc5 hf
    refine lv_iconst (v := (-1 : Int32)) hx hb dX7_turned_19 (by decide) ?_
    exact e_i X hr hlk hh (so2_e hf) dX7_turned_20
  · have hf := if_f hc5 hf
    refine lv_iload_n hx hb dX7_turned_12 rfl (lv_at hl 3 rfl) ?_
    obtain ⟨v7, hc6, hf⟩ := c1_e hf
    refine q_S (w' := w) (rest := []) X hml hh (some (.int v7)) (m_X7_isPlace l B D hc6) cf_X7_isPlace k_332 rfl hl.1 rfl (Nat.le_of_ble_eq_true rfl) ⟨Nat.le_of_ble_eq_true rfl, Nat.le_of_ble_eq_true rfl⟩ ⟨Nat.zero_le _, Nat.zero_le _⟩ dX7_turned_13 rfl (fun H locs hh => ?_)
    refine lv_if_ne (tgt := 21) hx hb dX7_turned_16 (by decide) (fun hc8 => ?_) (fun hc8 => ?_)
    · have hf := if_f hc8 hf
      refine lv_aload_n hx hb dX7_turned_21 rfl (lv_at hl 0 rfl) ?_
      refine lv_iload_n hx hb dX7_turned_22 rfl (lv_at hl 1 rfl) ?_
      refine lv_iload_n hx hb dX7_turned_23 rfl (lv_at hl 2 rfl) ?_
      obtain ⟨v10, w11, hc9, hf⟩ := c2_e hf
      obtain ⟨h12, hf⟩ := ck_e hf
      refine q_V (w' := w11) (rest := []) X hml hh (some (.ref (B + v10))) (m_X7_shapeAt l B D ht hc9) cf_X7_shapeAt k_335 ht ci_7 rfl rfl hl.1 rfl (Nat.le_of_ble_eq_true rfl) ⟨Nat.le_of_ble_eq_true rfl, Nat.le_of_ble_eq_true rfl⟩ ⟨Nat.zero_le _, Nat.zero_le _⟩ dX7_turned_24 rfl (fun H locs hh => ?_)
      refine lv_iload_n hx hb dX7_turned_27 rfl (lv_at hl 3 rfl) ?_
      obtain ⟨v14, hc13, hf⟩ := c1_e hf
      refine q_V (w' := w11) (rest := []) X hml hh (some (.int v14)) (m_X5_partsAbove l B D h12 hc13) cf_X5_partsAbove k_388 h12 ci_5 rfl rfl hl.1 rfl (Nat.le_of_ble_eq_true rfl) ⟨Nat.le_of_ble_eq_true rfl, Nat.le_of_ble_eq_true rfl⟩ ⟨Nat.zero_le _, Nat.zero_le _⟩ dX7_turned_28 rfl (fun H locs hh => ?_)
      exact e_i X hr hlk hh (so2_e hf) dX7_turned_31
    · have hf := if_t hc8 hf
      refine lv_iconst (v := (-1 : Int32)) hx hb dX7_turned_19 (by decide) ?_
      exact e_i X hr hlk hh (so2_e hf) dX7_turned_20
set_option maxHeartbeats 4000000 in
set_option maxRecDepth 100000 in
theorem m_X7_standard (l : Launch) (B : Nat) (D : DD) {t : Nat} {a0 : Int32} {a1 : Int32} {w : Wd} {r : Int64} {w' : Wd} (ht : t < 153 ∧ kd t = 7) (hf : f_X7_standard t a0 a1 w = some (r, w')) : Ct l yX7_standard cX7_standard 4 (some .long) 6 141 0 0 B D [.ref (B + t), .int a0, .int a1] 153 w (some (.long r)) 153 w' := by
  refine m_of (by decide) (Nat.le_of_ble_eq_true rfl) (fun p e s m args below meth c X hml hr hlk _ H locs hh ls hl => ?_)
  have hx := X.1
  have hb := X.2.1
  have hl : lv_has ls 4 [(0, .ref (B + t)), (1, .int a0), (2, .int a1)] := hl
  unfold f_X7_standard at hf
  refine lv_aload_n hx hb dX7_standard_0 rfl (lv_at hl 0 rfl) ?_
  refine q_gr (P := 0) X hh ht fk_X7_14 dX7_standard_1 hf (fun t1 h2 hf => ?_)
  refine lv_iload_n hx hb dX7_standard_4 rfl (lv_at hl 1 rfl) ?_
  refine lv_iload_n hx hb dX7_standard_5 rfl (lv_at hl 2 rfl) ?_
  obtain ⟨v4, hc3, hf⟩ := c1_e hf
  refine q_V (w' := w) (rest := []) X hml hh (some (.int v4)) (m_X0_hasCorner l B D h2 hc3) cf_X0_hasCorner k_328 h2 ci_0 rfl rfl hl.1 rfl (Nat.le_of_ble_eq_true rfl) ⟨Nat.le_of_ble_eq_true rfl, Nat.le_of_ble_eq_true rfl⟩ ⟨Nat.zero_le _, Nat.zero_le _⟩ dX7_standard_6 rfl (fun H locs hh => ?_)
  refine lv_if_ne (tgt := 16) hx hb dX7_standard_9 (by decide) (fun hc5 => ?_) (fun hc5 => ?_)
  · have hf := if_f hc5 hf
    refine lv_aload_n hx hb dX7_standard_16 rfl (lv_at hl 0 rfl) ?_
    refine lv_iload_n hx hb dX7_standard_17 rfl (lv_at hl 1 rfl) ?_
    refine lv_iload_n hx hb dX7_standard_18 rfl (lv_at hl 2 rfl) ?_
    obtain ⟨v7, w8, hc6, hf⟩ := c2_e hf
    obtain ⟨h9, hf⟩ := ck_e hf
    refine q_V (w' := w8) (rest := []) X hml hh (some (.ref (B + v7))) (m_X7_shapeAt l B D ht hc6) cf_X7_shapeAt k_335 ht ci_7 rfl rfl hl.1 rfl (Nat.le_of_ble_eq_true rfl) ⟨Nat.le_of_ble_eq_true rfl, Nat.le_of_ble_eq_true rfl⟩ ⟨Nat.zero_le _, Nat.zero_le _⟩ dX7_standard_19 rfl (fun H locs hh => ?_)
    refine lv_astore_n (lv' := [(3, .ref (B + v7)), (0, .ref (B + t)), (1, .int a0), (2, .int a1)]) hx hb dX7_standard_22 rfl hl (by decide) rfl (fun ls hl => ?_)
    refine lv_aload_n hx hb dX7_standard_23 rfl (lv_at hl 0 rfl) ?_
    refine r_gi X hh h9 fk_X7_139 dX7_standard_24 ?_
    refine lv_bipush (v := (20 : Int32)) hx hb dX7_standard_27 (by decide) ?_
    refine lv_icmp_le (tgt := 38) hx hb dX7_standard_29 (by decide) (fun hc10 => ?_) (fun hc10 => ?_)
    · have hf := if_t hc10 hf
      refine lv_aload_n hx hb dX7_standard_38 rfl (lv_at hl 0 rfl) ?_
      obtain ⟨v12, hc11, hf⟩ := c1_e hf
      refine q_V (w' := w8) (rest := []) X hml hh (some (.long v12)) (m_X5_standardFillings l B D h9 hc11) cf_X5_standardFillings k_397 h9 ci_5 rfl rfl hl.1 rfl (Nat.le_of_ble_eq_true rfl) ⟨Nat.le_of_ble_eq_true rfl, Nat.le_of_ble_eq_true rfl⟩ ⟨Nat.zero_le _, Nat.zero_le _⟩ dX7_standard_39 rfl (fun H locs hh => ?_)
      exact e_l X hr hlk hh (so2_e hf) dX7_standard_42
    · have hf := if_f hc10 hf
      refine lv_ldc2 hx hb X.2.2.1 (X.2.2.2.1 _ k_396) dX7_standard_32 ?_
      refine lv_goto (tgt := 42) hx hb dX7_standard_35 (by decide) ?_
      exact e_l X hr hlk hh (so2_e hf) dX7_standard_42
  · have hf := if_t hc5 hf
    refine lv_ldc2 hx hb X.2.2.1 (X.2.2.2.1 _ k_396) dX7_standard_12 ?_
    exact e_l X hr hlk hh (so2_e hf) dX7_standard_15
set_option maxHeartbeats 4000000 in
set_option maxRecDepth 100000 in
theorem m_X7_product (l : Launch) (B : Nat) (D : DD) {t : Nat} {a0 : Int32} {a1 : Int32} {w : Wd} {r : Int32} {w' : Wd} (ht : t < 153 ∧ kd t = 7) (hf : f_X7_product t a0 a1 w = some (r, w')) : Ct l yX7_product cX7_product 3 (some .int) 6 141 0 0 B D [.ref (B + t), .int a0, .int a1] 153 w (some (.int r)) 153 w' := by
  refine m_of (by decide) (Nat.le_of_ble_eq_true rfl) (fun p e s m args below meth c X hml hr hlk _ H locs hh ls hl => ?_)
  have hx := X.1
  have hb := X.2.1
  have hl : lv_has ls 3 [(0, .ref (B + t)), (1, .int a0), (2, .int a1)] := hl
  unfold f_X7_product at hf
  refine lv_aload_n hx hb dX7_product_0 rfl (lv_at hl 0 rfl) ?_
  refine q_gr (P := 0) X hh ht fk_X7_14 dX7_product_1 hf (fun t1 h2 hf => ?_)
  refine lv_iload_n hx hb dX7_product_4 rfl (lv_at hl 1 rfl) ?_
  refine lv_iload_n hx hb dX7_product_5 rfl (lv_at hl 2 rfl) ?_
  obtain ⟨v4, hc3, hf⟩ := c1_e hf
  refine q_V (w' := w) (rest := []) X hml hh (some (.int v4)) (m_X0_hasCorner l B D h2 hc3) cf_X0_hasCorner k_328 h2 ci_0 rfl rfl hl.1 rfl (Nat.le_of_ble_eq_true rfl) ⟨Nat.le_of_ble_eq_true rfl, Nat.le_of_ble_eq_true rfl⟩ ⟨Nat.zero_le _, Nat.zero_le _⟩ dX7_product_6 rfl (fun H locs hh => ?_)
  refine lv_if_ne (tgt := 14) hx hb dX7_product_9 (by decide) (fun hc5 => ?_) (fun hc5 => ?_)
  · have hf := if_f hc5 hf
    refine lv_aload_n hx hb dX7_product_14 rfl (lv_at hl 0 rfl) ?_
    refine lv_iload_n hx hb dX7_product_15 rfl (lv_at hl 1 rfl) ?_
    refine lv_iload_n hx hb dX7_product_16 rfl (lv_at hl 2 rfl) ?_
    obtain ⟨v7, w8, hc6, hf⟩ := c2_e hf
    obtain ⟨h9, hf⟩ := ck_e hf
    refine q_V (w' := w8) (rest := []) X hml hh (some (.ref (B + v7))) (m_X7_shapeAt l B D ht hc6) cf_X7_shapeAt k_335 ht ci_7 rfl rfl hl.1 rfl (Nat.le_of_ble_eq_true rfl) ⟨Nat.le_of_ble_eq_true rfl, Nat.le_of_ble_eq_true rfl⟩ ⟨Nat.zero_le _, Nat.zero_le _⟩ dX7_product_17 rfl (fun H locs hh => ?_)
    obtain ⟨v11, hc10, hf⟩ := c1_e hf
    refine q_V (w' := w8) (rest := []) X hml hh (some (.int v11)) (m_X5_productOrWide l B D h9 hc10) cf_X5_productOrWide k_407 h9 ci_5 rfl rfl hl.1 rfl (Nat.le_of_ble_eq_true rfl) ⟨Nat.le_of_ble_eq_true rfl, Nat.le_of_ble_eq_true rfl⟩ ⟨Nat.zero_le _, Nat.zero_le _⟩ dX7_product_20 rfl (fun H locs hh => ?_)
    exact e_i X hr hlk hh (so2_e hf) dX7_product_23
  · have hf := if_t hc5 hf
    refine lv_iconst (v := (-1 : Int32)) hx hb dX7_product_12 (by decide) ?_
    exact e_i X hr hlk hh (so2_e hf) dX7_product_13
set_option maxHeartbeats 4000000 in
set_option maxRecDepth 100000 in
theorem m_X7_filling (l : Launch) (B : Nat) (D : DD) {t : Nat} {a0 : Int32} {a1 : Int32} {a2 : Int32} {w : Wd} {r : Int32} {w' : Wd} (ht : t < 153 ∧ kd t = 7) (hf : f_X7_filling t a0 a1 a2 w = some (r, w')) : Ct l yX7_filling cX7_filling 7 (some .int) 6 141 0 0 B D [.ref (B + t), .int a0, .int a1, .int a2] 153 w (some (.int r)) 153 w' := by
  refine m_of (by decide) (Nat.le_of_ble_eq_true rfl) (fun p e s m args below meth c X hml hr hlk _ H locs hh ls hl => ?_)
  have hx := X.1
  have hb := X.2.1
  have hl : lv_has ls 7 [(0, .ref (B + t)), (1, .int a0), (2, .int a1), (3, .int a2)] := hl
  unfold f_X7_filling at hf
  refine lv_iload_n hx hb dX7_filling_0 rfl (lv_at hl 1 rfl) ?_
  refine lv_if_lt (tgt := 23) hx hb dX7_filling_1 (by decide) (fun hc1 => ?_) (fun hc1 => ?_)
  · have hf := if_t hc1 hf
    refine lv_iconst (v := (-1 : Int32)) hx hb dX7_filling_23 (by decide) ?_
    exact e_i X hr hlk hh (so2_e hf) dX7_filling_24
  · have hf := if_f hc1 hf
    refine lv_iload_n hx hb dX7_filling_4 rfl (lv_at hl 1 rfl) ?_
    refine lv_iconst (v := (1 : Int32)) hx hb dX7_filling_5 (by decide) ?_
    refine lv_icmp_gt (tgt := 23) hx hb dX7_filling_6 (by decide) (fun hc2 => ?_) (fun hc2 => ?_)
    · have hf := if_t hc2 hf
      refine lv_iconst (v := (-1 : Int32)) hx hb dX7_filling_23 (by decide) ?_
      exact e_i X hr hlk hh (so2_e hf) dX7_filling_24
    · have hf := if_f hc2 hf
      refine lv_iload_n hx hb dX7_filling_9 rfl (lv_at hl 2 rfl) ?_
      obtain ⟨v4, hc3, hf⟩ := c1_e hf
      refine q_S (w' := w) (rest := []) X hml hh (some (.int v4)) (m_X7_isPlace l B D hc3) cf_X7_isPlace k_332 rfl hl.1 rfl (Nat.le_of_ble_eq_true rfl) ⟨Nat.le_of_ble_eq_true rfl, Nat.le_of_ble_eq_true rfl⟩ ⟨Nat.zero_le _, Nat.zero_le _⟩ dX7_filling_10 rfl (fun H locs hh => ?_)
      refine lv_if_eq (tgt := 23) hx hb dX7_filling_13 (by decide) (fun hc5 => ?_) (fun hc5 => ?_)
      · have hf := if_t hc5 hf
        refine lv_iconst (v := (-1 : Int32)) hx hb dX7_filling_23 (by decide) ?_
        exact e_i X hr hlk hh (so2_e hf) dX7_filling_24
      · have hf := if_f hc5 hf
        refine lv_iload_n hx hb dX7_filling_16 rfl (lv_at hl 3 rfl) ?_
        obtain ⟨v7, hc6, hf⟩ := c1_e hf
        refine q_S (w' := w) (rest := []) X hml hh (some (.int v7)) (m_X7_isPlace l B D hc6) cf_X7_isPlace k_332 rfl hl.1 rfl (Nat.le_of_ble_eq_true rfl) ⟨Nat.le_of_ble_eq_true rfl, Nat.le_of_ble_eq_true rfl⟩ ⟨Nat.zero_le _, Nat.zero_le _⟩ dX7_filling_17 rfl (fun H locs hh => ?_)
        refine lv_if_ne (tgt := 25) hx hb dX7_filling_20 (by decide) (fun hc8 => ?_) (fun hc8 => ?_)
        · have hf := if_f hc8 hf
          refine lv_iload_n hx hb dX7_filling_25 rfl (lv_at hl 1 rfl) ?_
          refine jn_W (P := fun j11 => ∀ (x10 : Int32), j11 x10 = some (r, w') → ∀ (H : Heap) (locs : List Loc) (ls : Array Slot), Hp B D 153 w s H locs → lv_has ls 7 [(0, .ref (B + t)), (1, .int a0), (2, .int a1), (3, .int a2)] → W p l e (rmk 6 141 0 0) s m args below meth c H locs 0 0 (MZ below B D 153 w' (some (.int r)) args s 0 0) (F0 m 46 ls [.int x10])) hf (fun x10 hf  H locs ls hh hl => ?_) (fun j11 hj11 hf => ?_)
          · refine lv_istore (lv' := [(4, .int x10), (0, .ref (B + t)), (1, .int a0), (2, .int a1), (3, .int a2)]) hx hb dX7_filling_46 hl (by decide) rfl (fun ls hl => ?_)
            refine lv_iconst (v := (0 : Int32)) hx hb dX7_filling_48 (by decide) ?_
            refine lv_istore (lv' := [(5, .int (0 : Int32)), (4, .int x10), (0, .ref (B + t)), (1, .int a0), (2, .int a1), (3, .int a2)]) hx hb dX7_filling_49 hl (by decide) rfl (fun ls hl => ?_)
            refine wl2_W (P := fun (x12 : Int32) (w13 : Wd) => ∀ (H : Heap) (locs : List Loc) (ls : Array Slot), Hp B D 153 w13 s H locs → lv_has ls 7 [(0, .ref (B + t)), (1, .int a0), (2, .int a1), (3, .int a2), (4, .int x10), (5, .int x12)] → W p l e (rmk 6 141 0 0) s m args below meth c H locs 0 0 (MZ below B D 153 w' (some (.int r)) args s 0 0) (F0 m 51 ls [])) hf (fun x12 w13 k14 ih15 hf  H locs ls hh hl => ?_)  _ _ _ hh (lv_sub hl [2, 3, 4, 5, 1, 0] rfl)
            refine lv_iload hx hb dX7_filling_51 (lv_at hl 5 rfl) ?_
            refine lv_iload hx hb dX7_filling_53 (lv_at hl 4 rfl) ?_
            refine lv_icmp_gt (tgt := 112) hx hb dX7_filling_55 (by decide) (fun hc16 => ?_) (fun hc16 => ?_)
            · have hf := if_t hc16 hf
              refine lv_bipush (v := (-2 : Int32)) hx hb dX7_filling_112 (by decide) ?_
              exact e_i X hr hlk hh (so2_e hf) dX7_filling_114
            · have hf := if_f hc16 hf
              refine lv_iload_n hx hb dX7_filling_58 rfl (lv_at hl 1 rfl) ?_
              refine jn_W (P := fun j21 => ∀ (t18 : Nat) (w20 : Wd), j21 t18 w20 = some (r, w') → (t18 < 153 ∧ kd t18 = 5) → ∀ (H : Heap) (locs : List Loc) (ls : Array Slot), Hp B D 153 w20 s H locs → lv_has ls 7 [(0, .ref (B + t)), (1, .int a0), (2, .int a1), (3, .int a2), (4, .int x10), (5, .int x12)] → W p l e (rmk 6 141 0 0) s m args below meth c H locs 0 0 (MZ below B D 153 w' (some (.int r)) args s 0 0) (F0 m 91 ls [.ref (B + t18)])) hf (fun t18 w20 hf h19 H locs ls hh hl => ?_) (fun j21 hj21 hf => ?_)
              · refine lv_astore (lv' := [(6, .ref (B + t18)), (0, .ref (B + t)), (1, .int a0), (2, .int a1), (3, .int a2), (4, .int x10), (5, .int x12)]) hx hb dX7_filling_91 hl (by decide) rfl (fun ls hl => ?_)
                refine lv_aload hx hb dX7_filling_93 (lv_at hl 0 rfl) ?_
                refine lv_iload_n hx hb dX7_filling_95 rfl (lv_at hl 3 rfl) ?_
                obtain ⟨v23, hc22, hf⟩ := c1_e hf
                refine q_V (w' := w20) (rest := []) X hml hh (some (.int v23)) (m_X5_partAt l B D h19 hc22) cf_X5_partAt k_379 h19 ci_5 rfl rfl hl.1 rfl (Nat.le_of_ble_eq_true rfl) ⟨Nat.le_of_ble_eq_true rfl, Nat.le_of_ble_eq_true rfl⟩ ⟨Nat.zero_le _, Nat.zero_le _⟩ dX7_filling_96 rfl (fun H locs hh => ?_)
                refine lv_iload_n hx hb dX7_filling_99 rfl (lv_at hl 4 rfl) ?_
                refine lv_icmp_le (tgt := 106) hx hb dX7_filling_100 (by decide) (fun hc24 => ?_) (fun hc24 => ?_)
                · have hf := if_t hc24 hf
                  obtain ⟨x25, e26⟩ : ∃ y : Int32, y = (x12 + (1 : Int32)) := ⟨_, rfl⟩
                  have hf := lt_e e26 hf
                  refine lv_iinc (v := x25) (lv' := [(5, .int x25), (6, .ref (B + t18)), (0, .ref (B + t)), (1, .int a0), (2, .int a1), (3, .int a2), (4, .int x10)]) hx hb dX7_filling_106 hl (k := 6) rfl (by rw [e26]; rfl) (by decide) rfl (fun ls hl => ?_)
                  refine lv_goto (tgt := 51) hx hb dX7_filling_109 (by decide) ?_
                  exact ih15 _ _ hf  _ _ _ hh (lv_sub hl [2, 3, 4, 5, 6, 0] rfl)
                · have hf := if_f hc24 hf
                  refine lv_iload hx hb dX7_filling_103 (lv_at hl 6 rfl) ?_
                  exact e_i X hr hlk hh (so2_e hf) dX7_filling_105
              · refine lv_if_ne (tgt := 78) hx hb dX7_filling_59 (by decide) (fun hc17 => ?_) (fun hc17 => ?_)
                · have hf := if_f hc17 hf
                  refine lv_aload_n hx hb dX7_filling_78 rfl (lv_at hl 0 rfl) ?_
                  refine lv_iload hx hb dX7_filling_79 (lv_at hl 5 rfl) ?_
                  refine lv_aload_n hx hb dX7_filling_81 rfl (lv_at hl 0 rfl) ?_
                  refine q_gr (P := 0) X hh ht fk_X7_14 dX7_filling_82 hf (fun t27 h28 hf => ?_)
                  refine r_gi X hh h28 fk_X7_74 dX7_filling_85 ?_
                  obtain ⟨v30, w31, hc29, hf⟩ := c2_e hf
                  obtain ⟨h32, hf⟩ := ck_e hf
                  refine q_V (w' := w31) (rest := []) X hml hh (some (.ref (B + v30))) (m_X7_shapeAt l B D ht hc29) cf_X7_shapeAt k_335 ht ci_7 rfl rfl hl.1 rfl (Nat.le_of_ble_eq_true rfl) ⟨Nat.le_of_ble_eq_true rfl, Nat.le_of_ble_eq_true rfl⟩ ⟨Nat.zero_le _, Nat.zero_le _⟩ dX7_filling_88 rfl (fun H locs hh => ?_)
                  exact hj21 _ _ hf h32 _ _ _ hh (lv_sub hl [0, 1, 2, 3, 4, 5] rfl)
                · have hf := if_t hc17 hf
                  refine lv_aload_n hx hb dX7_filling_62 rfl (lv_at hl 0 rfl) ?_
                  refine lv_aload_n hx hb dX7_filling_63 rfl (lv_at hl 0 rfl) ?_
                  refine q_gr (P := 0) X hh ht fk_X7_14 dX7_filling_64 hf (fun t33 h34 hf => ?_)
                  refine r_gi X hh h34 fk_X7_70 dX7_filling_67 ?_
                  refine lv_iload hx hb dX7_filling_70 (lv_at hl 5 rfl) ?_
                  obtain ⟨v36, w37, hc35, hf⟩ := c2_e hf
                  obtain ⟨h38, hf⟩ := ck_e hf
                  refine q_V (w' := w37) (rest := []) X hml hh (some (.ref (B + v36))) (m_X7_shapeAt l B D ht hc35) cf_X7_shapeAt k_335 ht ci_7 rfl rfl hl.1 rfl (Nat.le_of_ble_eq_true rfl) ⟨Nat.le_of_ble_eq_true rfl, Nat.le_of_ble_eq_true rfl⟩ ⟨Nat.zero_le _, Nat.zero_le _⟩ dX7_filling_72 rfl (fun H locs hh => ?_)
                  refine lv_goto (tgt := 91) hx hb dX7_filling_75 (by decide) ?_
                  exact hj21 _ _ hf h38 _ _ _ hh (lv_sub hl [0, 1, 2, 3, 4, 5] rfl)
          · refine lv_if_ne (tgt := 39) hx hb dX7_filling_26 (by decide) (fun hc9 => ?_) (fun hc9 => ?_)
            · have hf := if_f hc9 hf
              refine lv_aload_n hx hb dX7_filling_39 rfl (lv_at hl 0 rfl) ?_
              refine q_gr (P := 0) X hh ht fk_X7_14 dX7_filling_40 hf (fun t39 h40 hf => ?_)
              refine r_gi X hh h40 fk_X7_70 dX7_filling_43 ?_
              refine lv_topi (fun x41 e42 => ?_)
              have hf := lt_e e42 hf
              exact hj11 _ hf  _ _ _ hh (lv_sub hl [0, 1, 2, 3] rfl)
            · have hf := if_t hc9 hf
              refine lv_aload_n hx hb dX7_filling_29 rfl (lv_at hl 0 rfl) ?_
              refine q_gr (P := 0) X hh ht fk_X7_14 dX7_filling_30 hf (fun t43 h44 hf => ?_)
              refine r_gi X hh h44 fk_X7_74 dX7_filling_33 ?_
              refine lv_topi (fun x45 e46 => ?_)
              have hf := lt_e e46 hf
              refine lv_goto (tgt := 46) hx hb dX7_filling_36 (by decide) ?_
              exact hj11 _ hf  _ _ _ hh (lv_sub hl [0, 1, 2, 3] rfl)
        · have hf := if_t hc8 hf
          refine lv_iconst (v := (-1 : Int32)) hx hb dX7_filling_23 (by decide) ?_
          exact e_i X hr hlk hh (so2_e hf) dX7_filling_24
set_option maxHeartbeats 4000000 in
set_option maxRecDepth 100000 in
theorem m_X7_along (l : Launch) (B : Nat) (D : DD) {t : Nat} {a0 : Int32} {a1 : Int32} {w : Wd} {r : Int32} {w' : Wd} (ht : t < 153 ∧ kd t = 7) (hf : f_X7_along t a0 a1 w = some (r, w')) : Ct l yX7_along cX7_along 6 (some .int) 6 141 0 0 B D [.ref (B + t), .int a0, .int a1] 153 w (some (.int r)) 153 w' := by
  refine m_of (by decide) (Nat.le_of_ble_eq_true rfl) (fun p e s m args below meth c X hml hr hlk _ H locs hh ls hl => ?_)
  have hx := X.1
  have hb := X.2.1
  have hl : lv_has ls 6 [(0, .ref (B + t)), (1, .int a0), (2, .int a1)] := hl
  unfold f_X7_along at hf
  refine lv_aload_n hx hb dX7_along_0 rfl (lv_at hl 0 rfl) ?_
  refine q_gr (P := 0) X hh ht fk_X7_14 dX7_along_1 hf (fun t1 h2 hf => ?_)
  refine r_gi X hh h2 fk_X7_70 dX7_along_4 ?_
  refine lv_aload_n hx hb dX7_along_7 rfl (lv_at hl 0 rfl) ?_
  refine q_gr (P := 0) X hh ht fk_X7_14 dX7_along_8 hf (fun t3 h4 hf => ?_)
  refine r_gi X hh h4 fk_X7_74 dX7_along_11 ?_
  refine lv_iadd hx hb dX7_along_14 ?_
  refine lv_topi (fun x5 e6 => ?_)
  have hf := lt_e e6 hf
  refine lv_istore_n (lv' := [(3, .int x5), (0, .ref (B + t)), (1, .int a0), (2, .int a1)]) hx hb dX7_along_15 rfl hl (by decide) rfl (fun ls hl => ?_)
  refine lv_iload_n hx hb dX7_along_16 rfl (lv_at hl 2 rfl) ?_
  refine mg_W (P := fun (x9 : Int32) => ∀ (ls : Array Slot), lv_has ls 6 [(0, .ref (B + t)), (1, .int a0), (2, .int a1), (3, .int x5)] → W p l e (rmk 6 141 0 0) s m args below meth c H locs 0 0 (MZ below B D 153 w' (some (.int r)) args s 0 0) (F0 m 31 ls [.int x9])) hf (fun x9 hf ls hl => ?_) (fun hj26 => ?_)
  · refine lv_istore (lv' := [(4, .int x9), (0, .ref (B + t)), (1, .int a0), (2, .int a1), (3, .int x5)]) hx hb dX7_along_31 hl (by decide) rfl (fun ls hl => ?_)
    refine lv_iload hx hb dX7_along_33 (lv_at hl 0 rfl) ?_
    refine lv_if_ne (tgt := 61) hx hb dX7_along_35 (by decide) (fun hc10 => ?_) (fun hc10 => ?_)
    · have hf := if_f hc10 hf
      refine lv_iconst (v := (-1 : Int32)) hx hb dX7_along_61 (by decide) ?_
      exact e_i X hr hlk hh (so2_e hf) dX7_along_62
    · have hf := if_t hc10 hf
      refine lv_iload_n hx hb dX7_along_38 rfl (lv_at hl 2 rfl) ?_
      obtain ⟨v12, hc11, hf⟩ := c1_e hf
      refine q_S (w' := w) (rest := []) X hml hh (some (.int v12)) (m_J6_bitCount_0f7a4 l B D hc11) cf_J6_bitCount_0f7a4 k_420 rfl hl.1 rfl (Nat.le_of_ble_eq_true rfl) ⟨Nat.le_of_ble_eq_true rfl, Nat.le_of_ble_eq_true rfl⟩ ⟨Nat.zero_le _, Nat.zero_le _⟩ dX7_along_39 rfl (fun H locs hh => ?_)
      refine lv_aload_n hx hb dX7_along_42 rfl (lv_at hl 1 rfl) ?_
      refine q_gr (P := 0) X hh ht fk_X7_14 dX7_along_43 hf (fun t13 h14 hf => ?_)
      refine r_gi X hh h14 fk_X7_74 dX7_along_46 ?_
      refine lv_icmp_ne (tgt := 61) hx hb dX7_along_49 (by decide) (fun hc15 => ?_) (fun hc15 => ?_)
      · have hf := if_f hc15 hf
        refine lv_iconst (v := (-1 : Int32)) hx hb dX7_along_61 (by decide) ?_
        exact e_i X hr hlk hh (so2_e hf) dX7_along_62
      · have hf := if_t hc15 hf
        refine lv_iload_n hx hb dX7_along_52 rfl (lv_at hl 3 rfl) ?_
        refine lv_if_lt (tgt := 61) hx hb dX7_along_53 (by decide) (fun hc16 => ?_) (fun hc16 => ?_)
        · have hf := if_t hc16 hf
          refine lv_iconst (v := (-1 : Int32)) hx hb dX7_along_61 (by decide) ?_
          exact e_i X hr hlk hh (so2_e hf) dX7_along_62
        · have hf := if_f hc16 hf
          refine lv_iload_n hx hb dX7_along_56 rfl (lv_at hl 3 rfl) ?_
          refine lv_iload_n hx hb dX7_along_57 rfl (lv_at hl 4 rfl) ?_
          refine lv_icmp_le (tgt := 63) hx hb dX7_along_58 (by decide) (fun hc17 => ?_) (fun hc17 => ?_)
          · have hf := if_t hc17 hf
            refine lv_iload_n hx hb dX7_along_63 rfl (lv_at hl 2 rfl) ?_
            refine lv_iconst (v := (1 : Int32)) hx hb dX7_along_64 (by decide) ?_
            refine lv_iload_n hx hb dX7_along_65 rfl (lv_at hl 3 rfl) ?_
            refine lv_ishl hx hb dX7_along_66 ?_
            refine lv_iconst (v := (1 : Int32)) hx hb dX7_along_67 (by decide) ?_
            refine lv_isub hx hb dX7_along_68 ?_
            refine lv_iand hx hb dX7_along_69 ?_
            obtain ⟨v19, hc18, hf⟩ := c1_e hf
            refine q_S (w' := w) (rest := []) X hml hh (some (.int v19)) (m_J6_bitCount_0f7a4 l B D hc18) cf_J6_bitCount_0f7a4 k_420 rfl hl.1 rfl (Nat.le_of_ble_eq_true rfl) ⟨Nat.le_of_ble_eq_true rfl, Nat.le_of_ble_eq_true rfl⟩ ⟨Nat.zero_le _, Nat.zero_le _⟩ dX7_along_70 rfl (fun H locs hh => ?_)
            refine lv_istore (lv' := [(5, .int v19), (4, .int x9), (0, .ref (B + t)), (1, .int a0), (2, .int a1), (3, .int x5)]) hx hb dX7_along_73 hl (by decide) rfl (fun ls hl => ?_)
            refine lv_aload_n hx hb dX7_along_75 rfl (lv_at hl 2 rfl) ?_
            refine lv_iload_n hx hb dX7_along_76 rfl (lv_at hl 4 rfl) ?_
            refine lv_iload hx hb dX7_along_77 (lv_at hl 0 rfl) ?_
            refine lv_isub hx hb dX7_along_79 ?_
            refine lv_aload_n hx hb dX7_along_80 rfl (lv_at hl 2 rfl) ?_
            refine q_gr (P := 0) X hh ht fk_X7_14 dX7_along_81 hf (fun t20 h21 hf => ?_)
            refine r_gi X hh h21 fk_X7_74 dX7_along_84 ?_
            refine lv_iload hx hb dX7_along_87 (lv_at hl 0 rfl) ?_
            refine lv_isub hx hb dX7_along_89 ?_
            obtain ⟨v23, w24, hc22, hf⟩ := c2_e hf
            obtain ⟨h25, hf⟩ := ck_e hf
            refine q_V (w' := w24) (rest := []) X hml hh (some (.ref (B + v23))) (m_X7_shapeAt l B D ht hc22) cf_X7_shapeAt k_335 ht ci_7 rfl rfl hl.1 rfl (Nat.le_of_ble_eq_true rfl) ⟨Nat.le_of_ble_eq_true rfl, Nat.le_of_ble_eq_true rfl⟩ ⟨Nat.zero_le _, Nat.zero_le _⟩ dX7_along_90 rfl (fun H locs hh => ?_)
            refine r_gi X hh h25 fk_X7_139 dX7_along_93 ?_
            exact e_i X hr hlk hh (so2_e hf) dX7_along_96
          · have hf := if_f hc17 hf
            refine lv_iconst (v := (-1 : Int32)) hx hb dX7_along_61 (by decide) ?_
            exact e_i X hr hlk hh (so2_e hf) dX7_along_62
  · refine lv_if_lt (tgt := 26) hx hb dX7_along_17 (by decide) (fun hc7 => ?_) (fun hc7 => ?_)
    · refine lv_iconst (v := (1 : Int32)) hx hb dX7_along_26 (by decide) ?_
      refine lv_goto (tgt := 31) hx hb dX7_along_27 (by decide) ?_
      exact hj26 _ (by rw [if_pos hc7]) ls (lv_sub hl [1, 2, 3, 0] rfl)
    · refine lv_iload_n hx hb dX7_along_20 rfl (lv_at hl 2 rfl) ?_
      refine lv_iload_n hx hb dX7_along_21 rfl (lv_at hl 0 rfl) ?_
      refine lv_ishr hx hb dX7_along_22 ?_
      refine lv_if_eq (tgt := 30) hx hb dX7_along_23 (by decide) (fun hc8 => ?_) (fun hc8 => ?_)
      · refine lv_iconst (v := (0 : Int32)) hx hb dX7_along_30 (by decide) ?_
        exact hj26 _ (by rw [if_neg hc7, if_pos hc8]) ls (lv_sub hl [1, 2, 3, 0] rfl)
      · refine lv_iconst (v := (1 : Int32)) hx hb dX7_along_26 (by decide) ?_
        refine lv_goto (tgt := 31) hx hb dX7_along_27 (by decide) ?_
        exact hj26 _ (by rw [if_neg hc7, if_neg hc8]) ls (lv_sub hl [1, 2, 3, 0] rfl)
set_option maxHeartbeats 4000000 in
set_option maxRecDepth 100000 in
theorem m_X7_fits (l : Launch) (B : Nat) (D : DD) {t : Nat} {a0 : Int32} {w : Wd} {r : Int32} {w' : Wd} (ht : t < 153 ∧ kd t = 7) (hf : f_X7_fits t a0 w = some (r, w')) : Ct l yX7_fits cX7_fits 2 (some .int) 5 119 0 0 B D [.ref (B + t), .int a0] 153 w (some (.int r)) 153 w' := by
  refine m_of (by decide) (Nat.le_of_ble_eq_true rfl) (fun p e s m args below meth c X hml hr hlk _ H locs hh ls hl => ?_)
  have hx := X.1
  have hb := X.2.1
  have hl : lv_has ls 2 [(0, .ref (B + t)), (1, .int a0)] := hl
  unfold f_X7_fits at hf
  refine lv_iload_n hx hb dX7_fits_0 rfl (lv_at hl 1 rfl) ?_
  obtain ⟨v2, hc1, hf⟩ := c1_e hf
  refine q_S (w' := w) (rest := []) X hml hh (some (.int v2)) (m_X7_isRule l B D hc1) cf_X7_isRule k_289 rfl hl.1 rfl (Nat.le_of_ble_eq_true rfl) ⟨Nat.le_of_ble_eq_true rfl, Nat.le_of_ble_eq_true rfl⟩ ⟨Nat.zero_le _, Nat.zero_le _⟩ dX7_fits_1 rfl (fun H locs hh => ?_)
  refine lv_if_ne (tgt := 9) hx hb dX7_fits_4 (by decide) (fun hc3 => ?_) (fun hc3 => ?_)
  · have hf := if_f hc3 hf
    refine lv_aload_n hx hb dX7_fits_9 rfl (lv_at hl 0 rfl) ?_
    obtain ⟨v5, w6, hc4, hf⟩ := c2_e hf
    obtain ⟨h7, hf⟩ := ck_e hf
    refine q_V (w' := w6) (rest := []) X hml hh (some (.ref (B + v5))) (m_X7_grownCorners l B D ht hc4) cf_X7_grownCorners k_339 ht ci_7 rfl rfl hl.1 rfl (Nat.le_of_ble_eq_true rfl) ⟨Nat.le_of_ble_eq_true rfl, Nat.le_of_ble_eq_true rfl⟩ ⟨Nat.zero_le _, Nat.zero_le _⟩ dX7_fits_10 rfl (fun H locs hh => ?_)
    refine lv_iload_n hx hb dX7_fits_13 rfl (lv_at hl 1 rfl) ?_
    obtain ⟨v9, hc8, hf⟩ := c1_e hf
    refine q_V (w' := w6) (rest := []) X hml hh (some (.int v9)) (m_X1_rimFits l B D h7 hc8) cf_X1_rimFits k_430 h7 ci_1 rfl rfl hl.1 rfl (Nat.le_of_ble_eq_true rfl) ⟨Nat.le_of_ble_eq_true rfl, Nat.le_of_ble_eq_true rfl⟩ ⟨Nat.zero_le _, Nat.zero_le _⟩ dX7_fits_14 rfl (fun H locs hh => ?_)
    refine mg_W (P := fun (x11 : Int32) => ∀ (ls : Array Slot), lv_has ls 2 [] → W p l e (rmk 5 119 0 0) s m args below meth c H locs 0 0 (MZ below B D 153 w' (some (.int r)) args s 0 0) (F0 m 25 ls [.int x11])) hf (fun x11 hf ls hl => ?_) (fun hj12 => ?_)
    · exact e_i X hr hlk hh (so2_e hf) dX7_fits_25
    · refine lv_if_eq (tgt := 24) hx hb dX7_fits_17 (by decide) (fun hc10 => ?_) (fun hc10 => ?_)
      · refine lv_iconst (v := (0 : Int32)) hx hb dX7_fits_24 (by decide) ?_
        exact hj12 _ (by rw [if_pos hc10]) ls (lv_sub hl [] rfl)
      · refine lv_iconst (v := (1 : Int32)) hx hb dX7_fits_20 (by decide) ?_
        refine lv_goto (tgt := 25) hx hb dX7_fits_21 (by decide) ?_
        exact hj12 _ (by rw [if_neg hc10]) ls (lv_sub hl [] rfl)
  · have hf := if_t hc3 hf
    refine lv_iconst (v := (-1 : Int32)) hx hb dX7_fits_7 (by decide) ?_
    exact e_i X hr hlk hh (so2_e hf) dX7_fits_8
set_option maxHeartbeats 4000000 in
set_option maxRecDepth 100000 in
theorem m_X7_back (l : Launch) (B : Nat) (D : DD) {t : Nat} {a0 : Int32} {w : Wd} {r : Int32} {w' : Wd} (ht : t < 153 ∧ kd t = 7) (hf : f_X7_back t a0 w = some (r, w')) : Ct l yX7_back cX7_back 3 (some .int) 5 119 0 0 B D [.ref (B + t), .int a0] 153 w (some (.int r)) 153 w' := by
  refine m_of (by decide) (Nat.le_of_ble_eq_true rfl) (fun p e s m args below meth c X hml hr hlk _ H locs hh ls hl => ?_)
  have hx := X.1
  have hb := X.2.1
  have hl : lv_has ls 3 [(0, .ref (B + t)), (1, .int a0)] := hl
  unfold f_X7_back at hf
  refine lv_iload_n hx hb dX7_back_0 rfl (lv_at hl 1 rfl) ?_
  obtain ⟨v2, hc1, hf⟩ := c1_e hf
  refine q_S (w' := w) (rest := []) X hml hh (some (.int v2)) (m_X7_isRule l B D hc1) cf_X7_isRule k_289 rfl hl.1 rfl (Nat.le_of_ble_eq_true rfl) ⟨Nat.le_of_ble_eq_true rfl, Nat.le_of_ble_eq_true rfl⟩ ⟨Nat.zero_le _, Nat.zero_le _⟩ dX7_back_1 rfl (fun H locs hh => ?_)
  refine lv_if_ne (tgt := 9) hx hb dX7_back_4 (by decide) (fun hc3 => ?_) (fun hc3 => ?_)
  · have hf := if_f hc3 hf
    refine lv_aload_n hx hb dX7_back_9 rfl (lv_at hl 0 rfl) ?_
    obtain ⟨v5, w6, hc4, hf⟩ := c2_e hf
    obtain ⟨h7, hf⟩ := ck_e hf
    refine q_V (w' := w6) (rest := []) X hml hh (some (.ref (B + v5))) (m_X7_grownCorners l B D ht hc4) cf_X7_grownCorners k_339 ht ci_7 rfl rfl hl.1 rfl (Nat.le_of_ble_eq_true rfl) ⟨Nat.le_of_ble_eq_true rfl, Nat.le_of_ble_eq_true rfl⟩ ⟨Nat.zero_le _, Nat.zero_le _⟩ dX7_back_10 rfl (fun H locs hh => ?_)
    refine lv_iload_n hx hb dX7_back_13 rfl (lv_at hl 1 rfl) ?_
    obtain ⟨v9, hc8, hf⟩ := c1_e hf
    refine q_V (w' := w6) (rest := []) X hml hh (some (.int v9)) (m_X1_rimFits l B D h7 hc8) cf_X1_rimFits k_430 h7 ci_1 rfl rfl hl.1 rfl (Nat.le_of_ble_eq_true rfl) ⟨Nat.le_of_ble_eq_true rfl, Nat.le_of_ble_eq_true rfl⟩ ⟨Nat.zero_le _, Nat.zero_le _⟩ dX7_back_14 rfl (fun H locs hh => ?_)
    refine lv_if_ne (tgt := 23) hx hb dX7_back_17 (by decide) (fun hc10 => ?_) (fun hc10 => ?_)
    · have hf := if_f hc10 hf
      refine lv_aload_n hx hb dX7_back_23 rfl (lv_at hl 0 rfl) ?_
      refine lv_iconst (v := (0 : Int32)) hx hb dX7_back_24 (by decide) ?_
      refine q_pi X hh ht fk_X7_35 pk_7_5 rfl rfl dX7_back_25 hf (fun w11 H locs hf hh => ?_)
      refine lv_aload_n hx hb dX7_back_28 rfl (lv_at hl 0 rfl) ?_
      refine q_gr (P := 0) X hh ht fk_X7_18 dX7_back_29 hf (fun t12 h13 hf => ?_)
      refine lv_aload_n hx hb dX7_back_32 rfl (lv_at hl 0 rfl) ?_
      refine q_gr (P := 0) X hh ht fk_X7_14 dX7_back_33 hf (fun t14 h15 hf => ?_)
      obtain ⟨w17, hc16, hf⟩ := c1_e hf
      refine q_V (w' := w17) (rest := []) X hml hh none (m_X0_copyFrom l B D h13 h15 hc16) cf_X0_copyFrom k_323 h13 ci_0 rfl rfl hl.1 rfl (Nat.le_of_ble_eq_true rfl) ⟨Nat.le_of_ble_eq_true rfl, Nat.le_of_ble_eq_true rfl⟩ ⟨Nat.zero_le _, Nat.zero_le _⟩ dX7_back_36 rfl (fun H locs hh => ?_)
      refine lv_aload_n hx hb dX7_back_39 rfl (lv_at hl 0 rfl) ?_
      refine q_gr (P := 0) X hh ht fk_X7_18 dX7_back_40 hf (fun t18 h19 hf => ?_)
      refine lv_iload_n hx hb dX7_back_43 rfl (lv_at hl 1 rfl) ?_
      refine q_pi X hh h19 fk_X7_102 pk_0_2 rfl rfl dX7_back_44 hf (fun w20 H locs hf hh => ?_)
      refine lv_aload_n hx hb dX7_back_47 rfl (lv_at hl 0 rfl) ?_
      refine q_gr (P := 1) X hh ht fk_X7_31 dX7_back_48 hf (fun t21 h22 hf => ?_)
      refine lv_aload_n hx hb dX7_back_51 rfl (lv_at hl 0 rfl) ?_
      refine q_gr (P := 0) X hh ht fk_X7_18 dX7_back_52 hf (fun t23 h24 hf => ?_)
      obtain ⟨v26, w27, hc25, hf⟩ := c2_e hf
      refine q_V (w' := w27) (rest := []) X hml hh (some (.int v26)) (m_X1_goBackInto l B D h22 h24 hc25) cf_X1_goBackInto k_450 h22 ci_1 rfl rfl hl.1 rfl (Nat.le_of_ble_eq_true rfl) ⟨Nat.le_of_ble_eq_true rfl, Nat.le_of_ble_eq_true rfl⟩ ⟨Nat.zero_le _, Nat.zero_le _⟩ dX7_back_55 rfl (fun H locs hh => ?_)
      refine lv_iconst (v := (3 : Int32)) hx hb dX7_back_58 (by decide) ?_
      refine lv_icmp_le (tgt := 65) hx hb dX7_back_59 (by decide) (fun hc28 => ?_) (fun hc28 => ?_)
      · have hf := if_t hc28 hf
        refine lv_aload_n hx hb dX7_back_65 rfl (lv_at hl 0 rfl) ?_
        refine q_gr (P := 0) X hh ht fk_X7_14 dX7_back_66 hf (fun t29 h30 hf => ?_)
        refine lv_aload_n hx hb dX7_back_69 rfl (lv_at hl 0 rfl) ?_
        refine q_gr (P := 0) X hh ht fk_X7_18 dX7_back_70 hf (fun t31 h32 hf => ?_)
        obtain ⟨v34, hc33, hf⟩ := c1_e hf
        refine q_V (w' := w27) (rest := []) X hml hh (some (.int v34)) (m_X0_differing l B D h30 h32 hc33) cf_X0_differing k_463 h30 ci_0 rfl rfl hl.1 rfl (Nat.le_of_ble_eq_true rfl) ⟨Nat.le_of_ble_eq_true rfl, Nat.le_of_ble_eq_true rfl⟩ ⟨Nat.zero_le _, Nat.zero_le _⟩ dX7_back_73 rfl (fun H locs hh => ?_)
        refine lv_istore_n (lv' := [(2, .int v34), (0, .ref (B + t)), (1, .int a0)]) hx hb dX7_back_76 rfl hl (by decide) rfl (fun ls hl => ?_)
        refine lv_aload_n hx hb dX7_back_77 rfl (lv_at hl 1 rfl) ?_
        obtain ⟨w36, hc35, hf⟩ := c1_e hf
        refine q_V (w' := w36) (rest := []) X hml hh none (m_X7_beginDeed l B D ht hc35) cf_X7_beginDeed k_238 ht ci_7 rfl rfl hl.1 rfl (Nat.le_of_ble_eq_true rfl) ⟨Nat.le_of_ble_eq_true rfl, Nat.le_of_ble_eq_true rfl⟩ ⟨Nat.zero_le _, Nat.zero_le _⟩ dX7_back_78 rfl (fun H locs hh => ?_)
        refine lv_aload_n hx hb dX7_back_81 rfl (lv_at hl 1 rfl) ?_
        refine q_gr (P := 0) X hh ht fk_X7_14 dX7_back_82 hf (fun t37 h38 hf => ?_)
        refine lv_aload_n hx hb dX7_back_85 rfl (lv_at hl 1 rfl) ?_
        refine q_gr (P := 0) X hh ht fk_X7_18 dX7_back_86 hf (fun t39 h40 hf => ?_)
        obtain ⟨w42, hc41, hf⟩ := c1_e hf
        refine q_V (w' := w42) (rest := []) X hml hh none (m_X0_copyFrom l B D h38 h40 hc41) cf_X0_copyFrom k_323 h38 ci_0 rfl rfl hl.1 rfl (Nat.le_of_ble_eq_true rfl) ⟨Nat.le_of_ble_eq_true rfl, Nat.le_of_ble_eq_true rfl⟩ ⟨Nat.zero_le _, Nat.zero_le _⟩ dX7_back_89 rfl (fun H locs hh => ?_)
        refine lv_iload_n hx hb dX7_back_92 rfl (lv_at hl 0 rfl) ?_
        exact e_i X hr hlk hh (so2_e hf) dX7_back_93
      · have hf := if_f hc28 hf
        refine lv_bipush (v := (-5 : Int32)) hx hb dX7_back_62 (by decide) ?_
        exact e_i X hr hlk hh (so2_e hf) dX7_back_64
    · have hf := if_t hc10 hf
      refine lv_bipush (v := (-5 : Int32)) hx hb dX7_back_20 (by decide) ?_
      exact e_i X hr hlk hh (so2_e hf) dX7_back_22
  · have hf := if_t hc3 hf
    refine lv_iconst (v := (-1 : Int32)) hx hb dX7_back_7 (by decide) ?_
    exact e_i X hr hlk hh (so2_e hf) dX7_back_8
set_option maxHeartbeats 4000000 in
set_option maxRecDepth 100000 in
theorem m_X7_longest (l : Launch) (B : Nat) (D : DD) {t : Nat} {a0 : Int32} {a1 : Int32} {w : Wd} {r : Int32} {w' : Wd} (ht : t < 153 ∧ kd t = 7) (hf : f_X7_longest t a0 a1 w = some (r, w')) : Ct l yX7_longest cX7_longest 3 (some .int) 3 74 0 0 B D [.ref (B + t), .int a0, .int a1] 153 w (some (.int r)) 153 w' := by
  refine m_of (by decide) (Nat.le_of_ble_eq_true rfl) (fun p e s m args below meth c X hml hr hlk _ H locs hh ls hl => ?_)
  have hx := X.1
  have hb := X.2.1
  have hl : lv_has ls 3 [(0, .ref (B + t)), (1, .int a0), (2, .int a1)] := hl
  unfold f_X7_longest at hf
  refine lv_iload_n hx hb dX7_longest_0 rfl (lv_at hl 1 rfl) ?_
  refine lv_if_lt (tgt := 18) hx hb dX7_longest_1 (by decide) (fun hc1 => ?_) (fun hc1 => ?_)
  · have hf := if_t hc1 hf
    refine lv_iconst (v := (-1 : Int32)) hx hb dX7_longest_18 (by decide) ?_
    exact e_i X hr hlk hh (so2_e hf) dX7_longest_19
  · have hf := if_f hc1 hf
    refine lv_iload_n hx hb dX7_longest_4 rfl (lv_at hl 1 rfl) ?_
    refine lv_iconst (v := (4 : Int32)) hx hb dX7_longest_5 (by decide) ?_
    refine lv_icmp_ge (tgt := 18) hx hb dX7_longest_6 (by decide) (fun hc2 => ?_) (fun hc2 => ?_)
    · have hf := if_t hc2 hf
      refine lv_iconst (v := (-1 : Int32)) hx hb dX7_longest_18 (by decide) ?_
      exact e_i X hr hlk hh (so2_e hf) dX7_longest_19
    · have hf := if_f hc2 hf
      refine lv_iload_n hx hb dX7_longest_9 rfl (lv_at hl 2 rfl) ?_
      refine lv_if_lt (tgt := 18) hx hb dX7_longest_10 (by decide) (fun hc3 => ?_) (fun hc3 => ?_)
      · have hf := if_t hc3 hf
        refine lv_iconst (v := (-1 : Int32)) hx hb dX7_longest_18 (by decide) ?_
        exact e_i X hr hlk hh (so2_e hf) dX7_longest_19
      · have hf := if_f hc3 hf
        refine lv_iload_n hx hb dX7_longest_13 rfl (lv_at hl 2 rfl) ?_
        refine lv_iconst (v := (1 : Int32)) hx hb dX7_longest_14 (by decide) ?_
        refine lv_icmp_le (tgt := 20) hx hb dX7_longest_15 (by decide) (fun hc4 => ?_) (fun hc4 => ?_)
        · have hf := if_t hc4 hf
          refine lv_aload_n hx hb dX7_longest_20 rfl (lv_at hl 0 rfl) ?_
          refine q_gr (P := 4) X hh ht fk_X7_41 dX7_longest_21 hf (fun t5 h6 hf => ?_)
          refine lv_aload_n hx hb dX7_longest_24 rfl (lv_at hl 0 rfl) ?_
          refine q_gr (P := 0) X hh ht fk_X7_14 dX7_longest_25 hf (fun t7 h8 hf => ?_)
          refine lv_iload_n hx hb dX7_longest_28 rfl (lv_at hl 1 rfl) ?_
          refine lv_iload_n hx hb dX7_longest_29 rfl (lv_at hl 2 rfl) ?_
          refine lv_iconst (v := (1 : Int32)) hx hb dX7_longest_30 (by decide) ?_
          refine mg_W (P := fun (x10 : Int32) => ∀ (ls : Array Slot), lv_has ls 3 [] → W p l e (rmk 3 74 0 0) s m args below meth c H locs 0 0 (MZ below B D 153 w' (some (.int r)) args s 0 0) (F0 m 39 ls [.int x10, .int a0, .ref (B + t7), .ref (B + t5)])) hf (fun x10 hf ls hl => ?_) (fun hj14 => ?_)
          · obtain ⟨v12, w13, hc11, hf⟩ := c2_e hf
            refine q_V (w' := w13) (rest := []) X hml hh (some (.int v12)) (m_X4_bestRow l B D h6 h8 hc11) cf_X4_bestRow k_471 h6 ci_4 rfl rfl hl.1 rfl (Nat.le_of_ble_eq_true rfl) ⟨Nat.le_of_ble_eq_true rfl, Nat.le_of_ble_eq_true rfl⟩ ⟨Nat.zero_le _, Nat.zero_le _⟩ dX7_longest_39 rfl (fun H locs hh => ?_)
            exact e_i X hr hlk hh (so2_e hf) dX7_longest_42
          · refine lv_icmp_ne (tgt := 38) hx hb dX7_longest_31 (by decide) (fun hc9 => ?_) (fun hc9 => ?_)
            · refine lv_iconst (v := (0 : Int32)) hx hb dX7_longest_38 (by decide) ?_
              exact hj14 _ (by rw [if_neg hc9]) ls (lv_sub hl [] rfl)
            · refine lv_iconst (v := (1 : Int32)) hx hb dX7_longest_34 (by decide) ?_
              refine lv_goto (tgt := 39) hx hb dX7_longest_35 (by decide) ?_
              exact hj14 _ (by rw [if_pos hc9]) ls (lv_sub hl [] rfl)
        · have hf := if_f hc4 hf
          refine lv_iconst (v := (-1 : Int32)) hx hb dX7_longest_18 (by decide) ?_
          exact e_i X hr hlk hh (so2_e hf) dX7_longest_19
set_option maxHeartbeats 4000000 in
set_option maxRecDepth 100000 in
theorem m_X7_union (l : Launch) (B : Nat) (D : DD) {t : Nat} {a0 : Int32} {a1 : Int32} {w : Wd} {r : Int32} {w' : Wd} (ht : t < 153 ∧ kd t = 7) (hf : f_X7_union t a0 a1 w = some (r, w')) : Ct l yX7_union cX7_union 6 (some .int) 6 141 0 0 B D [.ref (B + t), .int a0, .int a1] 153 w (some (.int r)) 153 w' := by
  refine m_of (by decide) (Nat.le_of_ble_eq_true rfl) (fun p e s m args below meth c X hml hr hlk _ H locs hh ls hl => ?_)
  have hx := X.1
  have hb := X.2.1
  have hl : lv_has ls 6 [(0, .ref (B + t)), (1, .int a0), (2, .int a1)] := hl
  unfold f_X7_union at hf
  refine lv_iload_n hx hb dX7_union_0 rfl (lv_at hl 1 rfl) ?_
  refine lv_iconst (v := (1 : Int32)) hx hb dX7_union_1 (by decide) ?_
  refine lv_icmp_lt (tgt := 20) hx hb dX7_union_2 (by decide) (fun hc1 => ?_) (fun hc1 => ?_)
  · have hf := if_t hc1 hf
    refine lv_iconst (v := (-1 : Int32)) hx hb dX7_union_20 (by decide) ?_
    exact e_i X hr hlk hh (so2_e hf) dX7_union_21
  · have hf := if_f hc1 hf
    refine lv_iload_n hx hb dX7_union_5 rfl (lv_at hl 1 rfl) ?_
    refine lv_iconst (v := (5 : Int32)) hx hb dX7_union_6 (by decide) ?_
    refine lv_icmp_gt (tgt := 20) hx hb dX7_union_7 (by decide) (fun hc2 => ?_) (fun hc2 => ?_)
    · have hf := if_t hc2 hf
      refine lv_iconst (v := (-1 : Int32)) hx hb dX7_union_20 (by decide) ?_
      exact e_i X hr hlk hh (so2_e hf) dX7_union_21
    · have hf := if_f hc2 hf
      refine lv_iload_n hx hb dX7_union_10 rfl (lv_at hl 2 rfl) ?_
      refine lv_iconst (v := (1 : Int32)) hx hb dX7_union_11 (by decide) ?_
      refine jn_W (P := fun j4 => j4 = some (r, w') → ∀ (H : Heap) (locs : List Loc) (ls : Array Slot), Hp B D 153 w s H locs → lv_has ls 6 [(0, .ref (B + t)), (1, .int a0), (2, .int a1)] → W p l e (rmk 6 141 0 0) s m args below meth c H locs 0 0 (MZ below B D 153 w' (some (.int r)) args s 0 0) (F0 m 22 ls [])) hf (fun  hf  H locs ls hh hl => ?_) (fun j4 hj4 hf => ?_)
      · refine lv_aload_n hx hb dX7_union_22 rfl (lv_at hl 0 rfl) ?_
        refine q_gr (P := 0) X hh ht fk_X7_14 dX7_union_23 hf (fun t5 h6 hf => ?_)
        obtain ⟨v8, hc7, hf⟩ := c1_e hf
        refine q_V (w' := w) (rest := []) X hml hh (some (.int v8)) (m_X0_isMarked l B D h6 hc7) cf_X0_isMarked k_482 h6 ci_0 rfl rfl hl.1 rfl (Nat.le_of_ble_eq_true rfl) ⟨Nat.le_of_ble_eq_true rfl, Nat.le_of_ble_eq_true rfl⟩ ⟨Nat.zero_le _, Nat.zero_le _⟩ dX7_union_26 rfl (fun H locs hh => ?_)
        refine lv_if_ne (tgt := 35) hx hb dX7_union_29 (by decide) (fun hc9 => ?_) (fun hc9 => ?_)
        · have hf := if_f hc9 hf
          refine lv_aload_n hx hb dX7_union_35 rfl (lv_at hl 0 rfl) ?_
          refine lv_aload_n hx hb dX7_union_36 rfl (lv_at hl 0 rfl) ?_
          refine q_gr (P := 0) X hh ht fk_X7_14 dX7_union_37 hf (fun t10 h11 hf => ?_)
          refine r_gi X hh h11 fk_X7_70 dX7_union_40 ?_
          refine lv_aload_n hx hb dX7_union_43 rfl (lv_at hl 0 rfl) ?_
          refine q_gr (P := 0) X hh ht fk_X7_14 dX7_union_44 hf (fun t12 h13 hf => ?_)
          refine r_gi X hh h13 fk_X7_74 dX7_union_47 ?_
          obtain ⟨v15, w16, hc14, hf⟩ := c2_e hf
          obtain ⟨h17, hf⟩ := ck_e hf
          refine q_V (w' := w16) (rest := []) X hml hh (some (.ref (B + v15))) (m_X7_shapeAt l B D ht hc14) cf_X7_shapeAt k_335 ht ci_7 rfl rfl hl.1 rfl (Nat.le_of_ble_eq_true rfl) ⟨Nat.le_of_ble_eq_true rfl, Nat.le_of_ble_eq_true rfl⟩ ⟨Nat.zero_le _, Nat.zero_le _⟩ dX7_union_50 rfl (fun H locs hh => ?_)
          refine lv_astore_n (lv' := [(3, .ref (B + v15)), (0, .ref (B + t)), (1, .int a0), (2, .int a1)]) hx hb dX7_union_53 rfl hl (by decide) rfl (fun ls hl => ?_)
          refine lv_iconst (v := (0 : Int32)) hx hb dX7_union_54 (by decide) ?_
          refine lv_istore (lv' := [(4, .int (0 : Int32)), (3, .ref (B + v15)), (0, .ref (B + t)), (1, .int a0), (2, .int a1)]) hx hb dX7_union_55 hl (by decide) rfl (fun ls hl => ?_)
          refine lv_iconst (v := (0 : Int32)) hx hb dX7_union_57 (by decide) ?_
          refine lv_istore (lv' := [(5, .int (0 : Int32)), (4, .int (0 : Int32)), (3, .ref (B + v15)), (0, .ref (B + t)), (1, .int a0), (2, .int a1)]) hx hb dX7_union_58 hl (by decide) rfl (fun ls hl => ?_)
          refine wl2_W (P := fun (x18 : Int32) (x19 : Int32) => ∀ (H : Heap) (locs : List Loc) (ls : Array Slot), Hp B D 153 w16 s H locs → lv_has ls 6 [(1, .int a0), (2, .int a1), (3, .ref (B + v15)), (4, .int x18), (5, .int x19)] → W p l e (rmk 6 141 0 0) s m args below meth c H locs 0 0 (MZ below B D 153 w' (some (.int r)) args s 0 0) (F0 m 60 ls [])) hf (fun x18 x19 k20 ih21 hf  H locs ls hh hl => ?_)  _ _ _ hh (lv_sub hl [4, 5, 2, 1, 0] rfl)
          refine lv_iload hx hb dX7_union_60 (lv_at hl 4 rfl) ?_
          refine lv_iload_n hx hb dX7_union_62 rfl (lv_at hl 0 rfl) ?_
          refine lv_icmp_ge (tgt := 97) hx hb dX7_union_63 (by decide) (fun hc22 => ?_) (fun hc22 => ?_)
          · have hf := if_t hc22 hf
            refine lv_iload hx hb dX7_union_97 (lv_at hl 3 rfl) ?_
            exact e_i X hr hlk hh (so2_e hf) dX7_union_99
          · have hf := if_f hc22 hf
            refine lv_iload hx hb dX7_union_66 (lv_at hl 3 rfl) ?_
            refine lv_iload_n hx hb dX7_union_68 rfl (lv_at hl 1 rfl) ?_
            refine lv_iconst (v := (1 : Int32)) hx hb dX7_union_69 (by decide) ?_
            refine jn_W (P := fun j25 => ∀ (x24 : Int32), j25 x24 = some (r, w') → ∀ (H : Heap) (locs : List Loc) (ls : Array Slot), Hp B D 153 w16 s H locs → lv_has ls 6 [(1, .int a0), (2, .int a1), (3, .ref (B + v15)), (5, .int x19)] → W p l e (rmk 6 141 0 0) s m args below meth c H locs 0 0 (MZ below B D 153 w' (some (.int r)) args s 0 0) (F0 m 88 ls [.int x24, .int x18])) hf (fun x24 hf  H locs ls hh hl => ?_) (fun j25 hj25 hf => ?_)
            · refine lv_iadd hx hb dX7_union_88 ?_
              refine lv_topi (fun x26 e27 => ?_)
              have hf := lt_e e27 hf
              refine lv_istore (lv' := [(4, .int x26), (1, .int a0), (2, .int a1), (3, .ref (B + v15)), (5, .int x19)]) hx hb dX7_union_89 hl (by decide) rfl (fun ls hl => ?_)
              obtain ⟨x28, e29⟩ : ∃ y : Int32, y = (x19 + (1 : Int32)) := ⟨_, rfl⟩
              have hf := lt_e e29 hf
              refine lv_iinc (v := x28) (lv' := [(5, .int x28), (4, .int x26), (1, .int a0), (2, .int a1), (3, .ref (B + v15))]) hx hb dX7_union_91 hl (k := 4) rfl (by rw [e29]; rfl) (by decide) rfl (fun ls hl => ?_)
              refine lv_goto (tgt := 60) hx hb dX7_union_94 (by decide) ?_
              exact ih21 _ _ hf  _ _ _ hh (lv_sub hl [2, 3, 4, 1, 0] rfl)
            · refine lv_icmp_ne (tgt := 82) hx hb dX7_union_70 (by decide) (fun hc23 => ?_) (fun hc23 => ?_)
              · have hf := if_f hc23 hf
                refine lv_aload_n hx hb dX7_union_82 rfl (lv_at hl 2 rfl) ?_
                refine lv_iload hx hb dX7_union_83 (lv_at hl 4 rfl) ?_
                obtain ⟨v31, hc30, hf⟩ := c1_e hf
                refine q_V (w' := w16) (rest := [.int x18]) X hml hh (some (.int v31)) (m_X5_partsAbove l B D h17 hc30) cf_X5_partsAbove k_388 h17 ci_5 rfl rfl hl.1 rfl (Nat.le_of_ble_eq_true rfl) ⟨Nat.le_of_ble_eq_true rfl, Nat.le_of_ble_eq_true rfl⟩ ⟨Nat.zero_le _, Nat.zero_le _⟩ dX7_union_85 rfl (fun H locs hh => ?_)
                exact hj25 _ hf  _ _ _ hh (lv_sub hl [0, 1, 2, 4] rfl)
              · have hf := if_t hc23 hf
                refine lv_aload_n hx hb dX7_union_73 rfl (lv_at hl 2 rfl) ?_
                refine lv_iload hx hb dX7_union_74 (lv_at hl 4 rfl) ?_
                obtain ⟨v33, hc32, hf⟩ := c1_e hf
                refine q_V (w' := w16) (rest := [.int x18]) X hml hh (some (.int v33)) (m_X5_partAt l B D h17 hc32) cf_X5_partAt k_379 h17 ci_5 rfl rfl hl.1 rfl (Nat.le_of_ble_eq_true rfl) ⟨Nat.le_of_ble_eq_true rfl, Nat.le_of_ble_eq_true rfl⟩ ⟨Nat.zero_le _, Nat.zero_le _⟩ dX7_union_76 rfl (fun H locs hh => ?_)
                refine lv_goto (tgt := 88) hx hb dX7_union_79 (by decide) ?_
                exact hj25 _ hf  _ _ _ hh (lv_sub hl [0, 1, 2, 4] rfl)
        · have hf := if_t hc9 hf
          refine lv_bipush (v := (-5 : Int32)) hx hb dX7_union_32 (by decide) ?_
          exact e_i X hr hlk hh (so2_e hf) dX7_union_34
      · refine lv_icmp_eq (tgt := 22) hx hb dX7_union_12 (by decide) (fun hc3 => ?_) (fun hc3 => ?_)
        · have hf := if_t hc3 hf
          exact hj4  hf  _ _ _ hh (lv_sub hl [0, 1, 2] rfl)
        · have hf := if_f hc3 hf
          refine lv_iload_n hx hb dX7_union_15 rfl (lv_at hl 2 rfl) ?_
          refine lv_iconst (v := (3 : Int32)) hx hb dX7_union_16 (by decide) ?_
          refine lv_icmp_eq (tgt := 22) hx hb dX7_union_17 (by decide) (fun hc34 => ?_) (fun hc34 => ?_)
          · have hf := if_t hc34 hf
            exact hj4  hf  _ _ _ hh (lv_sub hl [0, 1, 2] rfl)
          · have hf := if_f hc34 hf
            refine lv_iconst (v := (-1 : Int32)) hx hb dX7_union_20 (by decide) ?_
            exact e_i X hr hlk hh (so2_e hf) dX7_union_21
set_option maxHeartbeats 4000000 in
set_option maxRecDepth 100000 in
theorem m_X7_corner (l : Launch) (B : Nat) (D : DD) {t : Nat} {a0 : Int32} {w : Wd} {r : Int32} {w' : Wd} (ht : t < 153 ∧ kd t = 7) (hf : f_X7_corner t a0 w = some (r, w')) : Ct l yX7_corner cX7_corner 2 (some .int) 5 119 0 0 B D [.ref (B + t), .int a0] 153 w (some (.int r)) 153 w' := by
  refine m_of (by decide) (Nat.le_of_ble_eq_true rfl) (fun p e s m args below meth c X hml hr hlk _ H locs hh ls hl => ?_)
  have hx := X.1
  have hb := X.2.1
  have hl : lv_has ls 2 [(0, .ref (B + t)), (1, .int a0)] := hl
  unfold f_X7_corner at hf
  refine lv_iload_n hx hb dX7_corner_0 rfl (lv_at hl 1 rfl) ?_
  refine lv_if_ge (tgt := 8) hx hb dX7_corner_1 (by decide) (fun hc1 => ?_) (fun hc1 => ?_)
  · have hf := if_t hc1 hf
    refine lv_aload_n hx hb dX7_corner_8 rfl (lv_at hl 0 rfl) ?_
    obtain ⟨v3, w4, hc2, hf⟩ := c2_e hf
    obtain ⟨h5, hf⟩ := ck_e hf
    refine q_V (w' := w4) (rest := []) X hml hh (some (.ref (B + v3))) (m_X7_grownCorners l B D ht hc2) cf_X7_grownCorners k_339 ht ci_7 rfl rfl hl.1 rfl (Nat.le_of_ble_eq_true rfl) ⟨Nat.le_of_ble_eq_true rfl, Nat.le_of_ble_eq_true rfl⟩ ⟨Nat.zero_le _, Nat.zero_le _⟩ dX7_corner_9 rfl (fun H locs hh => ?_)
    refine lv_iload_n hx hb dX7_corner_12 rfl (lv_at hl 1 rfl) ?_
    obtain ⟨v7, w8, hc6, hf⟩ := c2_e hf
    refine q_V (w' := w8) (rest := []) X hml hh (some (.int v7)) (m_X1_cornerByOrder l B D h5 hc6) cf_X1_cornerByOrder k_491 h5 ci_1 rfl rfl hl.1 rfl (Nat.le_of_ble_eq_true rfl) ⟨Nat.le_of_ble_eq_true rfl, Nat.le_of_ble_eq_true rfl⟩ ⟨Nat.zero_le _, Nat.zero_le _⟩ dX7_corner_13 rfl (fun H locs hh => ?_)
    exact e_i X hr hlk hh (so2_e hf) dX7_corner_16
  · have hf := if_f hc1 hf
    refine lv_iconst (v := (-1 : Int32)) hx hb dX7_corner_4 (by decide) ?_
    refine lv_goto (tgt := 16) hx hb dX7_corner_5 (by decide) ?_
    exact e_i X hr hlk hh (so2_e hf) dX7_corner_16
set_option maxHeartbeats 4000000 in
set_option maxRecDepth 100000 in
theorem m_X7_unlike (l : Launch) (B : Nat) (D : DD) {t : Nat} {a0 : Int32} {w : Wd} {r : Int32} {w' : Wd} (ht : t < 153 ∧ kd t = 7) (hf : f_X7_unlike t a0 w = some (r, w')) : Ct l yX7_unlike cX7_unlike 2 (some .int) 5 119 0 0 B D [.ref (B + t), .int a0] 153 w (some (.int r)) 153 w' := by
  refine m_of (by decide) (Nat.le_of_ble_eq_true rfl) (fun p e s m args below meth c X hml hr hlk _ H locs hh ls hl => ?_)
  have hx := X.1
  have hb := X.2.1
  have hl : lv_has ls 2 [(0, .ref (B + t)), (1, .int a0)] := hl
  unfold f_X7_unlike at hf
  refine lv_iload_n hx hb dX7_unlike_0 rfl (lv_at hl 1 rfl) ?_
  refine lv_if_lt (tgt := 9) hx hb dX7_unlike_1 (by decide) (fun hc1 => ?_) (fun hc1 => ?_)
  · have hf := if_t hc1 hf
    refine lv_iconst (v := (-1 : Int32)) hx hb dX7_unlike_9 (by decide) ?_
    exact e_i X hr hlk hh (so2_e hf) dX7_unlike_10
  · have hf := if_f hc1 hf
    refine lv_iload_n hx hb dX7_unlike_4 rfl (lv_at hl 1 rfl) ?_
    refine lv_iconst (v := (1 : Int32)) hx hb dX7_unlike_5 (by decide) ?_
    refine lv_icmp_le (tgt := 11) hx hb dX7_unlike_6 (by decide) (fun hc2 => ?_) (fun hc2 => ?_)
    · have hf := if_t hc2 hf
      refine lv_iload_n hx hb dX7_unlike_11 rfl (lv_at hl 1 rfl) ?_
      refine lv_if_ne (tgt := 25) hx hb dX7_unlike_12 (by decide) (fun hc3 => ?_) (fun hc3 => ?_)
      · have hf := if_f hc3 hf
        refine lv_aload_n hx hb dX7_unlike_25 rfl (lv_at hl 0 rfl) ?_
        obtain ⟨v5, w6, hc4, hf⟩ := c2_e hf
        obtain ⟨h7, hf⟩ := ck_e hf
        refine q_V (w' := w6) (rest := []) X hml hh (some (.ref (B + v5))) (m_X7_grownCorners l B D ht hc4) cf_X7_grownCorners k_339 ht ci_7 rfl rfl hl.1 rfl (Nat.le_of_ble_eq_true rfl) ⟨Nat.le_of_ble_eq_true rfl, Nat.le_of_ble_eq_true rfl⟩ ⟨Nat.zero_le _, Nat.zero_le _⟩ dX7_unlike_26 rfl (fun H locs hh => ?_)
        obtain ⟨v9, w10, hc8, hf⟩ := c2_e hf
        refine q_V (w' := w10) (rest := []) X hml hh (some (.int v9)) (m_X1_mostAlike l B D h7 hc8) cf_X1_mostAlike k_523 h7 ci_1 rfl rfl hl.1 rfl (Nat.le_of_ble_eq_true rfl) ⟨Nat.le_of_ble_eq_true rfl, Nat.le_of_ble_eq_true rfl⟩ ⟨Nat.zero_le _, Nat.zero_le _⟩ dX7_unlike_29 rfl (fun H locs hh => ?_)
        exact e_i X hr hlk hh (so2_e hf) dX7_unlike_32
      · have hf := if_t hc3 hf
        refine lv_aload_n hx hb dX7_unlike_15 rfl (lv_at hl 0 rfl) ?_
        obtain ⟨v12, w13, hc11, hf⟩ := c2_e hf
        obtain ⟨h14, hf⟩ := ck_e hf
        refine q_V (w' := w13) (rest := []) X hml hh (some (.ref (B + v12))) (m_X7_grownCorners l B D ht hc11) cf_X7_grownCorners k_339 ht ci_7 rfl rfl hl.1 rfl (Nat.le_of_ble_eq_true rfl) ⟨Nat.le_of_ble_eq_true rfl, Nat.le_of_ble_eq_true rfl⟩ ⟨Nat.zero_le _, Nat.zero_le _⟩ dX7_unlike_16 rfl (fun H locs hh => ?_)
        obtain ⟨v16, w17, hc15, hf⟩ := c2_e hf
        refine q_V (w' := w17) (rest := []) X hml hh (some (.int v16)) (m_X1_unlikeShapes l B D h14 hc15) cf_X1_unlikeShapes k_515 h14 ci_1 rfl rfl hl.1 rfl (Nat.le_of_ble_eq_true rfl) ⟨Nat.le_of_ble_eq_true rfl, Nat.le_of_ble_eq_true rfl⟩ ⟨Nat.zero_le _, Nat.zero_le _⟩ dX7_unlike_19 rfl (fun H locs hh => ?_)
        refine lv_goto (tgt := 32) hx hb dX7_unlike_22 (by decide) ?_
        exact e_i X hr hlk hh (so2_e hf) dX7_unlike_32
    · have hf := if_f hc2 hf
      refine lv_iconst (v := (-1 : Int32)) hx hb dX7_unlike_9 (by decide) ?_
      exact e_i X hr hlk hh (so2_e hf) dX7_unlike_10
set_option maxHeartbeats 4000000 in
set_option maxRecDepth 100000 in
theorem m_X7_undo (l : Launch) (B : Nat) (D : DD) {t : Nat} {w : Wd} {r : Int32} {w' : Wd} (ht : t < 153 ∧ kd t = 7) (hf : f_X7_undo t w = some (r, w')) : Ct l yX7_undo cX7_undo 1 (some .int) 2 43 0 0 B D [.ref (B + t)] 153 w (some (.int r)) 153 w' := by
  refine m_of (by decide) (Nat.le_of_ble_eq_true rfl) (fun p e s m args below meth c X hml hr hlk _ H locs hh ls hl => ?_)
  have hx := X.1
  have hb := X.2.1
  have hl : lv_has ls 1 [(0, .ref (B + t))] := hl
  unfold f_X7_undo at hf
  refine lv_aload_n hx hb dX7_undo_0 rfl (lv_at hl 0 rfl) ?_
  refine q_gr (P := 2) X hh ht fk_X7_48 dX7_undo_1 hf (fun t1 h2 hf => ?_)
  obtain ⟨v4, hc3, hf⟩ := c1_e hf
  refine q_V (w' := w) (rest := []) X hml hh (some (.int v4)) (m_X2_undoable l B D h2 hc3) cf_X2_undoable k_531 h2 ci_2 rfl rfl hl.1 rfl (Nat.le_of_ble_eq_true rfl) ⟨Nat.le_of_ble_eq_true rfl, Nat.le_of_ble_eq_true rfl⟩ ⟨Nat.zero_le _, Nat.zero_le _⟩ dX7_undo_4 rfl (fun H locs hh => ?_)
  refine lv_if_ne (tgt := 13) hx hb dX7_undo_7 (by decide) (fun hc5 => ?_) (fun hc5 => ?_)
  · have hf := if_f hc5 hf
    refine lv_aload_n hx hb dX7_undo_13 rfl (lv_at hl 0 rfl) ?_
    refine q_gr (P := 2) X hh ht fk_X7_48 dX7_undo_14 hf (fun t6 h7 hf => ?_)
    refine lv_aload_n hx hb dX7_undo_17 rfl (lv_at hl 0 rfl) ?_
    refine q_gr (P := 0) X hh ht fk_X7_14 dX7_undo_18 hf (fun t8 h9 hf => ?_)
    obtain ⟨w11, hc10, hf⟩ := c1_e hf
    refine q_V (w' := w11) (rest := []) X hml hh none (m_X2_stepBack l B D h7 h9 hc10) cf_X2_stepBack k_535 h7 ci_2 rfl rfl hl.1 rfl (Nat.le_of_ble_eq_true rfl) ⟨Nat.le_of_ble_eq_true rfl, Nat.le_of_ble_eq_true rfl⟩ ⟨Nat.zero_le _, Nat.zero_le _⟩ dX7_undo_21 rfl (fun H locs hh => ?_)
    refine lv_aload_n hx hb dX7_undo_24 rfl (lv_at hl 0 rfl) ?_
    refine lv_iconst (v := (0 : Int32)) hx hb dX7_undo_25 (by decide) ?_
    refine q_pi X hh ht fk_X7_35 pk_7_5 rfl rfl dX7_undo_26 hf (fun w12 H locs hf hh => ?_)
    refine lv_aload_n hx hb dX7_undo_29 rfl (lv_at hl 0 rfl) ?_
    refine q_gr (P := 2) X hh ht fk_X7_48 dX7_undo_30 hf (fun t13 h14 hf => ?_)
    obtain ⟨v16, hc15, hf⟩ := c1_e hf
    refine q_V (w' := w12) (rest := []) X hml hh (some (.int v16)) (m_X2_undoable l B D h14 hc15) cf_X2_undoable k_531 h14 ci_2 rfl rfl hl.1 rfl (Nat.le_of_ble_eq_true rfl) ⟨Nat.le_of_ble_eq_true rfl, Nat.le_of_ble_eq_true rfl⟩ ⟨Nat.zero_le _, Nat.zero_le _⟩ dX7_undo_33 rfl (fun H locs hh => ?_)
    exact e_i X hr hlk hh (so2_e hf) dX7_undo_36
  · have hf := if_t hc5 hf
    refine lv_bipush (v := (-5 : Int32)) hx hb dX7_undo_10 (by decide) ?_
    exact e_i X hr hlk hh (so2_e hf) dX7_undo_12
set_option maxHeartbeats 4000000 in
set_option maxRecDepth 100000 in
theorem m_X7_again (l : Launch) (B : Nat) (D : DD) {t : Nat} {w : Wd} {r : Int32} {w' : Wd} (ht : t < 153 ∧ kd t = 7) (hf : f_X7_again t w = some (r, w')) : Ct l yX7_again cX7_again 1 (some .int) 2 43 0 0 B D [.ref (B + t)] 153 w (some (.int r)) 153 w' := by
  refine m_of (by decide) (Nat.le_of_ble_eq_true rfl) (fun p e s m args below meth c X hml hr hlk _ H locs hh ls hl => ?_)
  have hx := X.1
  have hb := X.2.1
  have hl : lv_has ls 1 [(0, .ref (B + t))] := hl
  unfold f_X7_again at hf
  refine lv_aload_n hx hb dX7_again_0 rfl (lv_at hl 0 rfl) ?_
  refine q_gr (P := 2) X hh ht fk_X7_48 dX7_again_1 hf (fun t1 h2 hf => ?_)
  obtain ⟨v4, hc3, hf⟩ := c1_e hf
  refine q_V (w' := w) (rest := []) X hml hh (some (.int v4)) (m_X2_redoable l B D h2 hc3) cf_X2_redoable k_543 h2 ci_2 rfl rfl hl.1 rfl (Nat.le_of_ble_eq_true rfl) ⟨Nat.le_of_ble_eq_true rfl, Nat.le_of_ble_eq_true rfl⟩ ⟨Nat.zero_le _, Nat.zero_le _⟩ dX7_again_4 rfl (fun H locs hh => ?_)
  refine lv_if_ne (tgt := 13) hx hb dX7_again_7 (by decide) (fun hc5 => ?_) (fun hc5 => ?_)
  · have hf := if_f hc5 hf
    refine lv_aload_n hx hb dX7_again_13 rfl (lv_at hl 0 rfl) ?_
    refine q_gr (P := 2) X hh ht fk_X7_48 dX7_again_14 hf (fun t6 h7 hf => ?_)
    refine lv_aload_n hx hb dX7_again_17 rfl (lv_at hl 0 rfl) ?_
    refine q_gr (P := 0) X hh ht fk_X7_14 dX7_again_18 hf (fun t8 h9 hf => ?_)
    obtain ⟨w11, hc10, hf⟩ := c1_e hf
    refine q_V (w' := w11) (rest := []) X hml hh none (m_X2_stepOn l B D h7 h9 hc10) cf_X2_stepOn k_547 h7 ci_2 rfl rfl hl.1 rfl (Nat.le_of_ble_eq_true rfl) ⟨Nat.le_of_ble_eq_true rfl, Nat.le_of_ble_eq_true rfl⟩ ⟨Nat.zero_le _, Nat.zero_le _⟩ dX7_again_21 rfl (fun H locs hh => ?_)
    refine lv_aload_n hx hb dX7_again_24 rfl (lv_at hl 0 rfl) ?_
    refine lv_iconst (v := (0 : Int32)) hx hb dX7_again_25 (by decide) ?_
    refine q_pi X hh ht fk_X7_35 pk_7_5 rfl rfl dX7_again_26 hf (fun w12 H locs hf hh => ?_)
    refine lv_aload_n hx hb dX7_again_29 rfl (lv_at hl 0 rfl) ?_
    refine q_gr (P := 2) X hh ht fk_X7_48 dX7_again_30 hf (fun t13 h14 hf => ?_)
    obtain ⟨v16, hc15, hf⟩ := c1_e hf
    refine q_V (w' := w12) (rest := []) X hml hh (some (.int v16)) (m_X2_redoable l B D h14 hc15) cf_X2_redoable k_543 h14 ci_2 rfl rfl hl.1 rfl (Nat.le_of_ble_eq_true rfl) ⟨Nat.le_of_ble_eq_true rfl, Nat.le_of_ble_eq_true rfl⟩ ⟨Nat.zero_le _, Nat.zero_le _⟩ dX7_again_33 rfl (fun H locs hh => ?_)
    exact e_i X hr hlk hh (so2_e hf) dX7_again_36
  · have hf := if_t hc5 hf
    refine lv_bipush (v := (-5 : Int32)) hx hb dX7_again_10 (by decide) ?_
    exact e_i X hr hlk hh (so2_e hf) dX7_again_12
set_option maxHeartbeats 4000000 in
set_option maxRecDepth 100000 in
theorem m_X7_feed (l : Launch) (B : Nat) (D : DD) {t : Nat} {a0 : Int32} {a1 : Int32} {w : Wd} {r : Int32} {w' : Wd} (ht : t < 153 ∧ kd t = 7) (hf : f_X7_feed t a0 a1 w = some (r, w')) : Ct l yX7_feed cX7_feed 4 (some .int) 1 21 0 0 B D [.ref (B + t), .int a0, .int a1] 153 w (some (.int r)) 153 w' := by
  refine m_of (by decide) (Nat.le_of_ble_eq_true rfl) (fun p e s m args below meth c X hml hr hlk _ H locs hh ls hl => ?_)
  have hx := X.1
  have hb := X.2.1
  have hl : lv_has ls 4 [(0, .ref (B + t)), (1, .int a0), (2, .int a1)] := hl
  unfold f_X7_feed at hf
  refine lv_iload_n hx hb dX7_feed_0 rfl (lv_at hl 2 rfl) ?_
  refine lv_iconst (v := (1 : Int32)) hx hb dX7_feed_1 (by decide) ?_
  refine lv_icmp_lt (tgt := 10) hx hb dX7_feed_2 (by decide) (fun hc1 => ?_) (fun hc1 => ?_)
  · have hf := if_t hc1 hf
    refine lv_iconst (v := (-1 : Int32)) hx hb dX7_feed_10 (by decide) ?_
    exact e_i X hr hlk hh (so2_e hf) dX7_feed_11
  · have hf := if_f hc1 hf
    refine lv_iload_n hx hb dX7_feed_5 rfl (lv_at hl 2 rfl) ?_
    refine lv_iconst (v := (4 : Int32)) hx hb dX7_feed_6 (by decide) ?_
    refine lv_icmp_le (tgt := 12) hx hb dX7_feed_7 (by decide) (fun hc2 => ?_) (fun hc2 => ?_)
    · have hf := if_t hc2 hf
      refine lv_aload_n hx hb dX7_feed_12 rfl (lv_at hl 0 rfl) ?_
      refine q_gr (P := 6) X hh ht fk_X7_55 dX7_feed_13 hf (fun t3 h4 hf => ?_)
      refine r_gi X hh h4 fk_X7_205 dX7_feed_16 ?_
      refine lv_iload_n hx hb dX7_feed_19 rfl (lv_at hl 2 rfl) ?_
      refine lv_iadd hx hb dX7_feed_20 ?_
      refine lv_bipush (v := (60 : Int32)) hx hb dX7_feed_21 (by decide) ?_
      refine lv_icmp_le (tgt := 29) hx hb dX7_feed_23 (by decide) (fun hc5 => ?_) (fun hc5 => ?_)
      · have hf := if_t hc5 hf
        refine lv_iload_n hx hb dX7_feed_29 rfl (lv_at hl 2 rfl) ?_
        refine lv_iconst (v := (1 : Int32)) hx hb dX7_feed_30 (by decide) ?_
        refine lv_isub hx hb dX7_feed_31 ?_
        refine lv_topi (fun x6 e7 => ?_)
        have hf := lt_e e7 hf
        refine lv_istore_n (lv' := [(3, .int x6), (0, .ref (B + t)), (1, .int a0), (2, .int a1)]) hx hb dX7_feed_32 rfl hl (by decide) rfl (fun ls hl => ?_)
        refine wl2_W (P := fun (x8 : Int32) (w9 : Wd) => ∀ (H : Heap) (locs : List Loc) (ls : Array Slot), Hp B D 153 w9 s H locs → lv_has ls 4 [(0, .ref (B + t)), (1, .int a0), (3, .int x8)] → W p l e (rmk 1 21 0 0) s m args below meth c H locs 0 0 (MZ below B D 153 w' (some (.int r)) args s 0 0) (F0 m 33 ls [])) hf (fun x8 w9 k10 ih11 hf  H locs ls hh hl => ?_)  _ _ _ hh (lv_sub hl [1, 2, 0] rfl)
        refine lv_iload_n hx hb dX7_feed_33 rfl (lv_at hl 2 rfl) ?_
        refine lv_if_lt (tgt := 60) hx hb dX7_feed_34 (by decide) (fun hc12 => ?_) (fun hc12 => ?_)
        · have hf := if_t hc12 hf
          refine lv_aload_n hx hb dX7_feed_60 rfl (lv_at hl 0 rfl) ?_
          refine q_gr (P := 6) X hh ht fk_X7_55 dX7_feed_61 hf (fun t13 h14 hf => ?_)
          refine r_gi X hh h14 fk_X7_205 dX7_feed_64 ?_
          exact e_i X hr hlk hh (so2_e hf) dX7_feed_67
        · have hf := if_f hc12 hf
          refine lv_aload_n hx hb dX7_feed_37 rfl (lv_at hl 0 rfl) ?_
          refine q_gr (P := 6) X hh ht fk_X7_55 dX7_feed_38 hf (fun t15 h16 hf => ?_)
          refine lv_iload_n hx hb dX7_feed_41 rfl (lv_at hl 1 rfl) ?_
          refine lv_bipush (v := (8 : Int32)) hx hb dX7_feed_42 (by decide) ?_
          refine lv_iload_n hx hb dX7_feed_44 rfl (lv_at hl 2 rfl) ?_
          refine lv_imul hx hb dX7_feed_45 ?_
          refine lv_iushr hx hb dX7_feed_46 rfl ?_
          refine lv_sipush (v := (255 : Int32)) hx hb dX7_feed_47 (by decide) ?_
          refine lv_iand hx hb dX7_feed_50 ?_
          obtain ⟨w18, hc17, hf⟩ := c1_e hf
          refine q_V (w' := w18) (rest := []) X hml hh none (m_X6_append l B D h16 hc17) cf_X6_append k_555 h16 ci_6 rfl rfl hl.1 rfl (Nat.le_of_ble_eq_true rfl) ⟨Nat.le_of_ble_eq_true rfl, Nat.le_of_ble_eq_true rfl⟩ ⟨Nat.zero_le _, Nat.zero_le _⟩ dX7_feed_51 rfl (fun H locs hh => ?_)
          obtain ⟨x19, e20⟩ : ∃ y : Int32, y = (x8 + (-1 : Int32)) := ⟨_, rfl⟩
          have hf := lt_e e20 hf
          refine lv_iinc (v := x19) (lv' := [(3, .int x19), (0, .ref (B + t)), (1, .int a0)]) hx hb dX7_feed_54 hl (k := 2) rfl (by rw [e20]; rfl) (by decide) rfl (fun ls hl => ?_)
          refine lv_goto (tgt := 33) hx hb dX7_feed_57 (by decide) ?_
          exact ih11 _ _ hf  _ _ _ hh (lv_sub hl [1, 2, 0] rfl)
      · have hf := if_f hc5 hf
        refine lv_bipush (v := (-3 : Int32)) hx hb dX7_feed_26 (by decide) ?_
        exact e_i X hr hlk hh (so2_e hf) dX7_feed_28
    · have hf := if_f hc2 hf
      refine lv_iconst (v := (-1 : Int32)) hx hb dX7_feed_10 (by decide) ?_
      exact e_i X hr hlk hh (so2_e hf) dX7_feed_11
set_option maxHeartbeats 4000000 in
set_option maxRecDepth 100000 in
theorem m_X7_wipe (l : Launch) (B : Nat) (D : DD) {t : Nat} {w : Wd} {r : Int32} {w' : Wd} (ht : t < 153 ∧ kd t = 7) (hf : f_X7_wipe t w = some (r, w')) : Ct l yX7_wipe cX7_wipe 2 (some .int) 0 0 0 0 B D [.ref (B + t)] 153 w (some (.int r)) 153 w' := by
  refine m_of (by decide) (Nat.le_of_ble_eq_true rfl) (fun p e s m args below meth c X hml hr hlk _ H locs hh ls hl => ?_)
  have hx := X.1
  have hb := X.2.1
  have hl : lv_has ls 2 [(0, .ref (B + t))] := hl
  unfold f_X7_wipe at hf
  refine lv_aload_n hx hb dX7_wipe_0 rfl (lv_at hl 0 rfl) ?_
  refine q_gr (P := 6) X hh ht fk_X7_55 dX7_wipe_1 hf (fun t1 h2 hf => ?_)
  refine r_gi X hh h2 fk_X7_205 dX7_wipe_4 ?_
  refine lv_topi (fun x3 e4 => ?_)
  have hf := lt_e e4 hf
  refine lv_istore_n (lv' := [(1, .int x3), (0, .ref (B + t))]) hx hb dX7_wipe_7 rfl hl (by decide) rfl (fun ls hl => ?_)
  refine lv_aload_n hx hb dX7_wipe_8 rfl (lv_at hl 1 rfl) ?_
  refine q_gr (P := 6) X hh ht fk_X7_55 dX7_wipe_9 hf (fun t5 h6 hf => ?_)
  refine lv_iconst (v := (0 : Int32)) hx hb dX7_wipe_12 (by decide) ?_
  refine q_pi X hh h6 fk_X7_205 pk_6_1 rfl rfl dX7_wipe_13 hf (fun w7 H locs hf hh => ?_)
  refine lv_iload_n hx hb dX7_wipe_16 rfl (lv_at hl 0 rfl) ?_
  exact e_i X hr hlk hh (so2_e hf) dX7_wipe_17
set_option maxHeartbeats 4000000 in
set_option maxRecDepth 100000 in
theorem m_X7_read (l : Launch) (B : Nat) (D : DD) {t : Nat} {w : Wd} {r : Int32} {w' : Wd} (ht : t < 153 ∧ kd t = 7) (hf : f_X7_read t w = some (r, w')) : Ct l yX7_read cX7_read 2 (some .int) 3 69 0 0 B D [.ref (B + t)] 153 w (some (.int r)) 153 w' := by
  refine m_of (by decide) (Nat.le_of_ble_eq_true rfl) (fun p e s m args below meth c X hml hr hlk _ H locs hh ls hl => ?_)
  have hx := X.1
  have hb := X.2.1
  have hl : lv_has ls 2 [(0, .ref (B + t))] := hl
  unfold f_X7_read at hf
  refine lv_aload_n hx hb dX7_read_0 rfl (lv_at hl 0 rfl) ?_
  refine q_gr (P := 6) X hh ht fk_X7_55 dX7_read_1 hf (fun t1 h2 hf => ?_)
  obtain ⟨v4, hc3, hf⟩ := c1_e hf
  refine q_V (w' := w) (rest := []) X hml hh (some (.int v4)) (m_X6_faultPlace l B D h2 hc3) cf_X6_faultPlace k_567 h2 ci_6 rfl rfl hl.1 rfl (Nat.le_of_ble_eq_true rfl) ⟨Nat.le_of_ble_eq_true rfl, Nat.le_of_ble_eq_true rfl⟩ ⟨Nat.zero_le _, Nat.zero_le _⟩ dX7_read_4 rfl (fun H locs hh => ?_)
  refine lv_istore_n (lv' := [(1, .int v4), (0, .ref (B + t))]) hx hb dX7_read_7 rfl hl (by decide) rfl (fun ls hl => ?_)
  refine lv_iload_n hx hb dX7_read_8 rfl (lv_at hl 0 rfl) ?_
  refine jn_W (P := fun j7 => ∀ (w6 : Wd), j7 w6 = some (r, w') → ∀ (H : Heap) (locs : List Loc) (ls : Array Slot), Hp B D 153 w6 s H locs → lv_has ls 2 [(0, .ref (B + t)), (1, .int v4)] → W p l e (rmk 3 69 0 0) s m args below meth c H locs 0 0 (MZ below B D 153 w' (some (.int r)) args s 0 0) (F0 m 27 ls [])) hf (fun w6 hf  H locs ls hh hl => ?_) (fun j7 hj7 hf => ?_)
  · refine lv_aload_n hx hb dX7_read_27 rfl (lv_at hl 0 rfl) ?_
    refine q_gr (P := 6) X hh ht fk_X7_55 dX7_read_28 hf (fun t8 h9 hf => ?_)
    refine lv_iconst (v := (0 : Int32)) hx hb dX7_read_31 (by decide) ?_
    refine q_pi X hh h9 fk_X7_205 pk_6_1 rfl rfl dX7_read_32 hf (fun w10 H locs hf hh => ?_)
    refine lv_iload_n hx hb dX7_read_35 rfl (lv_at hl 1 rfl) ?_
    refine lv_if_ge (tgt := 49) hx hb dX7_read_36 (by decide) (fun hc11 => ?_) (fun hc11 => ?_)
    · have hf := if_t hc11 hf
      refine lv_sipush (v := (-1000 : Int32)) hx hb dX7_read_49 (by decide) ?_
      refine lv_iload_n hx hb dX7_read_52 rfl (lv_at hl 1 rfl) ?_
      refine lv_isub hx hb dX7_read_53 ?_
      refine lv_topi (fun x12 e13 => ?_)
      have hf := lt_e e13 hf
      exact e_i X hr hlk hh (so2_e hf) dX7_read_54
    · have hf := if_f hc11 hf
      refine lv_aload_n hx hb dX7_read_39 rfl (lv_at hl 0 rfl) ?_
      refine q_gr (P := 0) X hh ht fk_X7_14 dX7_read_40 hf (fun t14 h15 hf => ?_)
      obtain ⟨v17, hc16, hf⟩ := c1_e hf
      refine q_V (w' := w10) (rest := []) X hml hh (some (.int v17)) (m_X0_filled l B D h15 hc16) cf_X0_filled k_306 h15 ci_0 rfl rfl hl.1 rfl (Nat.le_of_ble_eq_true rfl) ⟨Nat.le_of_ble_eq_true rfl, Nat.le_of_ble_eq_true rfl⟩ ⟨Nat.zero_le _, Nat.zero_le _⟩ dX7_read_43 rfl (fun H locs hh => ?_)
      refine lv_goto (tgt := 54) hx hb dX7_read_46 (by decide) ?_
      exact e_i X hr hlk hh (so2_e hf) dX7_read_54
  · refine lv_if_ge (tgt := 27) hx hb dX7_read_9 (by decide) (fun hc5 => ?_) (fun hc5 => ?_)
    · have hf := if_t hc5 hf
      exact hj7 _ hf  _ _ _ hh (lv_sub hl [1, 0] rfl)
    · have hf := if_f hc5 hf
      refine lv_aload_n hx hb dX7_read_12 rfl (lv_at hl 1 rfl) ?_
      obtain ⟨w19, hc18, hf⟩ := c1_e hf
      refine q_V (w' := w19) (rest := []) X hml hh none (m_X7_beginDeed l B D ht hc18) cf_X7_beginDeed k_238 ht ci_7 rfl rfl hl.1 rfl (Nat.le_of_ble_eq_true rfl) ⟨Nat.le_of_ble_eq_true rfl, Nat.le_of_ble_eq_true rfl⟩ ⟨Nat.zero_le _, Nat.zero_le _⟩ dX7_read_13 rfl (fun H locs hh => ?_)
      refine lv_aload_n hx hb dX7_read_16 rfl (lv_at hl 1 rfl) ?_
      refine q_gr (P := 6) X hh ht fk_X7_55 dX7_read_17 hf (fun t20 h21 hf => ?_)
      refine lv_aload_n hx hb dX7_read_20 rfl (lv_at hl 1 rfl) ?_
      refine q_gr (P := 0) X hh ht fk_X7_14 dX7_read_21 hf (fun t22 h23 hf => ?_)
      obtain ⟨w25, hc24, hf⟩ := c1_e hf
      refine q_V (w' := w25) (rest := []) X hml hh none (m_X6_writeInto l B D h21 h23 hc24) cf_X6_writeInto k_583 h21 ci_6 rfl rfl hl.1 rfl (Nat.le_of_ble_eq_true rfl) ⟨Nat.le_of_ble_eq_true rfl, Nat.le_of_ble_eq_true rfl⟩ ⟨Nat.zero_le _, Nat.zero_le _⟩ dX7_read_24 rfl (fun H locs hh => ?_)
      exact hj7 _ hf  _ _ _ hh (lv_sub hl [1, 0] rfl)
set_option maxHeartbeats 4000000 in
set_option maxRecDepth 100000 in
theorem m_X7_isHolder (l : Launch) (B : Nat) (D : DD) {a0 : Int32} {w : Wd} {r : Int32} (hf : f_X7_isHolder a0 = some r) : Ct l yX7_isHolder cX7_isHolder 1 (some .boolean) 0 0 0 0 B D [.int a0] 153 w (some (.int r)) 153 w := by
  refine m_of (by decide) (Nat.le_of_ble_eq_true rfl) (fun p e s m args below meth c X hml hr hlk _ H locs hh ls hl => ?_)
  have hx := X.1
  have hb := X.2.1
  have hl : lv_has ls 1 [(0, .int a0)] := hl
  unfold f_X7_isHolder at hf
  refine lv_iload_n hx hb dX7_isHolder_0 rfl (lv_at hl 0 rfl) ?_
  refine mg_W (P := fun (x3 : Int32) => ∀ (ls : Array Slot), lv_has ls 1 [] → W p l e (rmk 0 0 0 0) s m args below meth c H locs 0 0 (MZ below B D 153 w (some (.int r)) args s 0 0) (F0 m 15 ls [.int x3])) hf (fun x3 hf ls hl => ?_) (fun hj4 => ?_)
  · have hz := zb_e hf
    have hf := hz.2
    exact e_z X hr hlk hh hz.1 ⟨so_e hf, rfl⟩ dX7_isHolder_15
  · refine lv_if_lt (tgt := 14) hx hb dX7_isHolder_1 (by decide) (fun hc1 => ?_) (fun hc1 => ?_)
    · refine lv_iconst (v := (0 : Int32)) hx hb dX7_isHolder_14 (by decide) ?_
      exact hj4 _ (by rw [if_pos hc1]) ls (lv_sub hl [] rfl)
    · refine lv_iload_n hx hb dX7_isHolder_4 rfl (lv_at hl 0 rfl) ?_
      refine lv_bipush (v := (6 : Int32)) hx hb dX7_isHolder_5 (by decide) ?_
      refine lv_icmp_ge (tgt := 14) hx hb dX7_isHolder_7 (by decide) (fun hc2 => ?_) (fun hc2 => ?_)
      · refine lv_iconst (v := (0 : Int32)) hx hb dX7_isHolder_14 (by decide) ?_
        exact hj4 _ (by rw [if_neg hc1, if_pos hc2]) ls (lv_sub hl [] rfl)
      · refine lv_iconst (v := (1 : Int32)) hx hb dX7_isHolder_10 (by decide) ?_
        refine lv_goto (tgt := 15) hx hb dX7_isHolder_11 (by decide) ?_
        exact hj4 _ (by rw [if_neg hc1, if_neg hc2]) ls (lv_sub hl [] rfl)
set_option maxHeartbeats 4000000 in
set_option maxRecDepth 100000 in
theorem m_X7_hold (l : Launch) (B : Nat) (D : DD) {t : Nat} {a0 : Int32} {a1 : Int32} {a2 : Int32} {w : Wd} {r : Int32} {w' : Wd} (ht : t < 153 ∧ kd t = 7) (hf : f_X7_hold t a0 a1 a2 w = some (r, w')) : Ct l yX7_hold cX7_hold 5 (some .int) 6 141 0 0 B D [.ref (B + t), .int a0, .int a1, .int a2] 153 w (some (.int r)) 153 w' := by
  refine m_of (by decide) (Nat.le_of_ble_eq_true rfl) (fun p e s m args below meth c X hml hr hlk _ H locs hh ls hl => ?_)
  have hx := X.1
  have hb := X.2.1
  have hl : lv_has ls 5 [(0, .ref (B + t)), (1, .int a0), (2, .int a1), (3, .int a2)] := hl
  unfold f_X7_hold at hf
  refine lv_iload_n hx hb dX7_hold_0 rfl (lv_at hl 1 rfl) ?_
  obtain ⟨v2, hc1, hf⟩ := c1_e hf
  refine q_S (w' := w) (rest := []) X hml hh (some (.int v2)) (m_X7_isHolder l B D hc1) cf_X7_isHolder k_593 rfl hl.1 rfl (Nat.le_of_ble_eq_true rfl) ⟨Nat.le_of_ble_eq_true rfl, Nat.le_of_ble_eq_true rfl⟩ ⟨Nat.zero_le _, Nat.zero_le _⟩ dX7_hold_1 rfl (fun H locs hh => ?_)
  refine lv_if_eq (tgt := 19) hx hb dX7_hold_4 (by decide) (fun hc3 => ?_) (fun hc3 => ?_)
  · have hf := if_t hc3 hf
    refine lv_iconst (v := (-1 : Int32)) hx hb dX7_hold_19 (by decide) ?_
    exact e_i X hr hlk hh (so2_e hf) dX7_hold_20
  · have hf := if_f hc3 hf
    refine lv_aload_n hx hb dX7_hold_7 rfl (lv_at hl 0 rfl) ?_
    refine q_gr (P := 0) X hh ht fk_X7_14 dX7_hold_8 hf (fun t4 h5 hf => ?_)
    refine lv_iload_n hx hb dX7_hold_11 rfl (lv_at hl 2 rfl) ?_
    refine lv_iload_n hx hb dX7_hold_12 rfl (lv_at hl 3 rfl) ?_
    obtain ⟨v7, hc6, hf⟩ := c1_e hf
    refine q_V (w' := w) (rest := []) X hml hh (some (.int v7)) (m_X0_hasCorner l B D h5 hc6) cf_X0_hasCorner k_328 h5 ci_0 rfl rfl hl.1 rfl (Nat.le_of_ble_eq_true rfl) ⟨Nat.le_of_ble_eq_true rfl, Nat.le_of_ble_eq_true rfl⟩ ⟨Nat.zero_le _, Nat.zero_le _⟩ dX7_hold_13 rfl (fun H locs hh => ?_)
    refine lv_if_ne (tgt := 21) hx hb dX7_hold_16 (by decide) (fun hc8 => ?_) (fun hc8 => ?_)
    · have hf := if_f hc8 hf
      refine lv_aload_n hx hb dX7_hold_21 rfl (lv_at hl 0 rfl) ?_
      refine lv_iload_n hx hb dX7_hold_22 rfl (lv_at hl 2 rfl) ?_
      refine lv_iload_n hx hb dX7_hold_23 rfl (lv_at hl 3 rfl) ?_
      obtain ⟨v10, w11, hc9, hf⟩ := c2_e hf
      obtain ⟨h12, hf⟩ := ck_e hf
      refine q_V (w' := w11) (rest := []) X hml hh (some (.ref (B + v10))) (m_X7_shapeAt l B D ht hc9) cf_X7_shapeAt k_335 ht ci_7 rfl rfl hl.1 rfl (Nat.le_of_ble_eq_true rfl) ⟨Nat.le_of_ble_eq_true rfl, Nat.le_of_ble_eq_true rfl⟩ ⟨Nat.zero_le _, Nat.zero_le _⟩ dX7_hold_24 rfl (fun H locs hh => ?_)
      refine lv_astore (lv' := [(4, .ref (B + v10)), (0, .ref (B + t)), (1, .int a0), (2, .int a1), (3, .int a2)]) hx hb dX7_hold_27 hl (by decide) rfl (fun ls hl => ?_)
      refine lv_aload_n hx hb dX7_hold_29 rfl (lv_at hl 1 rfl) ?_
      refine q_gr (P := 11) X hh ht fk_X7_61 dX7_hold_30 hf (fun t13 h14 hf => ?_)
      refine lv_iload_n hx hb dX7_hold_33 rfl (lv_at hl 2 rfl) ?_
      refine q_aald (P := 3) X hh h14 ⟨by decide, by decide⟩ dX7_hold_34 hf (fun t16 h17 hf => ?_)
      refine lv_aload hx hb dX7_hold_35 (lv_at hl 0 rfl) ?_
      obtain ⟨w19, hc18, hf⟩ := c1_e hf
      refine q_V (w' := w19) (rest := []) X hml hh none (m_X3_keepShape l B D h17 h12 hc18) cf_X3_keepShape k_596 h17 ci_3 rfl rfl hl.1 rfl (Nat.le_of_ble_eq_true rfl) ⟨Nat.le_of_ble_eq_true rfl, Nat.le_of_ble_eq_true rfl⟩ ⟨Nat.zero_le _, Nat.zero_le _⟩ dX7_hold_37 rfl (fun H locs hh => ?_)
      refine lv_aload hx hb dX7_hold_40 (lv_at hl 0 rfl) ?_
      refine r_gi X hh h12 fk_X7_139 dX7_hold_42 ?_
      exact e_i X hr hlk hh (so2_e hf) dX7_hold_45
    · have hf := if_t hc8 hf
      refine lv_iconst (v := (-1 : Int32)) hx hb dX7_hold_19 (by decide) ?_
      exact e_i X hr hlk hh (so2_e hf) dX7_hold_20
set_option maxHeartbeats 4000000 in
set_option maxRecDepth 100000 in
theorem m_X7_drop (l : Launch) (B : Nat) (D : DD) {t : Nat} {a0 : Int32} {w : Wd} {r : Int32} {w' : Wd} (ht : t < 153 ∧ kd t = 7) (hf : f_X7_drop t a0 w = some (r, w')) : Ct l yX7_drop cX7_drop 3 (some .int) 1 20 0 0 B D [.ref (B + t), .int a0] 153 w (some (.int r)) 153 w' := by
  refine m_of (by decide) (Nat.le_of_ble_eq_true rfl) (fun p e s m args below meth c X hml hr hlk _ H locs hh ls hl => ?_)
  have hx := X.1
  have hb := X.2.1
  have hl : lv_has ls 3 [(0, .ref (B + t)), (1, .int a0)] := hl
  unfold f_X7_drop at hf
  refine lv_iload_n hx hb dX7_drop_0 rfl (lv_at hl 1 rfl) ?_
  obtain ⟨v2, hc1, hf⟩ := c1_e hf
  refine q_S (w' := w) (rest := []) X hml hh (some (.int v2)) (m_X7_isHolder l B D hc1) cf_X7_isHolder k_593 rfl hl.1 rfl (Nat.le_of_ble_eq_true rfl) ⟨Nat.le_of_ble_eq_true rfl, Nat.le_of_ble_eq_true rfl⟩ ⟨Nat.zero_le _, Nat.zero_le _⟩ dX7_drop_1 rfl (fun H locs hh => ?_)
  refine lv_if_ne (tgt := 9) hx hb dX7_drop_4 (by decide) (fun hc3 => ?_) (fun hc3 => ?_)
  · have hf := if_f hc3 hf
    refine lv_aload_n hx hb dX7_drop_9 rfl (lv_at hl 0 rfl) ?_
    refine q_gr (P := 11) X hh ht fk_X7_61 dX7_drop_10 hf (fun t4 h5 hf => ?_)
    refine lv_iload_n hx hb dX7_drop_13 rfl (lv_at hl 1 rfl) ?_
    refine q_aald (P := 3) X hh h5 ⟨by decide, by decide⟩ dX7_drop_14 hf (fun t7 h8 hf => ?_)
    refine r_gi X hh h8 fk_X7_222 dX7_drop_15 ?_
    refine lv_topi (fun x9 e10 => ?_)
    have hf := lt_e e10 hf
    refine lv_istore_n (lv' := [(2, .int x9), (0, .ref (B + t)), (1, .int a0)]) hx hb dX7_drop_18 rfl hl (by decide) rfl (fun ls hl => ?_)
    refine lv_aload_n hx hb dX7_drop_19 rfl (lv_at hl 1 rfl) ?_
    refine q_gr (P := 11) X hh ht fk_X7_61 dX7_drop_20 hf (fun t11 h12 hf => ?_)
    refine lv_iload_n hx hb dX7_drop_23 rfl (lv_at hl 2 rfl) ?_
    refine q_aald (P := 3) X hh h12 ⟨by decide, by decide⟩ dX7_drop_24 hf (fun t14 h15 hf => ?_)
    refine lv_iconst (v := (0 : Int32)) hx hb dX7_drop_25 (by decide) ?_
    refine q_pi X hh h15 fk_X7_222 pk_3_0 rfl rfl dX7_drop_26 hf (fun w16 H locs hf hh => ?_)
    refine lv_iload_n hx hb dX7_drop_29 rfl (lv_at hl 0 rfl) ?_
    exact e_i X hr hlk hh (so2_e hf) dX7_drop_30
  · have hf := if_t hc3 hf
    refine lv_iconst (v := (-1 : Int32)) hx hb dX7_drop_7 (by decide) ?_
    exact e_i X hr hlk hh (so2_e hf) dX7_drop_8
set_option maxHeartbeats 4000000 in
set_option maxRecDepth 100000 in
theorem m_X7_taken (l : Launch) (B : Nat) (D : DD) {t : Nat} {a0 : Int32} {a1 : Int32} {w : Wd} {r : Int32} (ht : t < 153 ∧ kd t = 7) (hf : f_X7_taken t a0 a1 w = some r) : Ct l yX7_taken cX7_taken 4 (some .int) 1 21 0 0 B D [.ref (B + t), .int a0, .int a1] 153 w (some (.int r)) 153 w := by
  refine m_of (by decide) (Nat.le_of_ble_eq_true rfl) (fun p e s m args below meth c X hml hr hlk _ H locs hh ls hl => ?_)
  have hx := X.1
  have hb := X.2.1
  have hl : lv_has ls 4 [(0, .ref (B + t)), (1, .int a0), (2, .int a1)] := hl
  unfold f_X7_taken at hf
  refine lv_iload_n hx hb dX7_taken_0 rfl (lv_at hl 1 rfl) ?_
  obtain ⟨v2, hc1, hf⟩ := c1_e hf
  refine q_S (w' := w) (rest := []) X hml hh (some (.int v2)) (m_X7_isHolder l B D hc1) cf_X7_isHolder k_593 rfl hl.1 rfl (Nat.le_of_ble_eq_true rfl) ⟨Nat.le_of_ble_eq_true rfl, Nat.le_of_ble_eq_true rfl⟩ ⟨Nat.zero_le _, Nat.zero_le _⟩ dX7_taken_1 rfl (fun H locs hh => ?_)
  refine lv_if_eq (tgt := 16) hx hb dX7_taken_4 (by decide) (fun hc3 => ?_) (fun hc3 => ?_)
  · have hf := if_t hc3 hf
    refine lv_iconst (v := (-1 : Int32)) hx hb dX7_taken_16 (by decide) ?_
    exact e_i X hr hlk hh ⟨so_e hf, rfl⟩ dX7_taken_17
  · have hf := if_f hc3 hf
    refine lv_iload_n hx hb dX7_taken_7 rfl (lv_at hl 2 rfl) ?_
    refine lv_if_lt (tgt := 16) hx hb dX7_taken_8 (by decide) (fun hc4 => ?_) (fun hc4 => ?_)
    · have hf := if_t hc4 hf
      refine lv_iconst (v := (-1 : Int32)) hx hb dX7_taken_16 (by decide) ?_
      exact e_i X hr hlk hh ⟨so_e hf, rfl⟩ dX7_taken_17
    · have hf := if_f hc4 hf
      refine lv_iload_n hx hb dX7_taken_11 rfl (lv_at hl 2 rfl) ?_
      refine lv_iconst (v := (2 : Int32)) hx hb dX7_taken_12 (by decide) ?_
      refine lv_icmp_le (tgt := 18) hx hb dX7_taken_13 (by decide) (fun hc5 => ?_) (fun hc5 => ?_)
      · have hf := if_t hc5 hf
        refine lv_aload_n hx hb dX7_taken_18 rfl (lv_at hl 0 rfl) ?_
        refine q_gr (P := 11) X hh ht fk_X7_61 dX7_taken_19 hf (fun t6 h7 hf => ?_)
        refine lv_iload_n hx hb dX7_taken_22 rfl (lv_at hl 1 rfl) ?_
        refine q_aald (P := 3) X hh h7 ⟨by decide, by decide⟩ dX7_taken_23 hf (fun t9 h10 hf => ?_)
        refine lv_astore_n (lv' := [(3, .ref (B + t9)), (0, .ref (B + t)), (1, .int a0), (2, .int a1)]) hx hb dX7_taken_24 rfl hl (by decide) rfl (fun ls hl => ?_)
        refine lv_aload_n hx hb dX7_taken_25 rfl (lv_at hl 0 rfl) ?_
        obtain ⟨v12, hc11, hf⟩ := c1_e hf
        refine q_V (w' := w) (rest := []) X hml hh (some (.int v12)) (m_X3_hasShape l B D h10 hc11) cf_X3_hasShape k_612 h10 ci_3 rfl rfl hl.1 rfl (Nat.le_of_ble_eq_true rfl) ⟨Nat.le_of_ble_eq_true rfl, Nat.le_of_ble_eq_true rfl⟩ ⟨Nat.zero_le _, Nat.zero_le _⟩ dX7_taken_26 rfl (fun H locs hh => ?_)
        refine lv_if_ne (tgt := 37) hx hb dX7_taken_29 (by decide) (fun hc13 => ?_) (fun hc13 => ?_)
        · have hf := if_f hc13 hf
          refine lv_iload_n hx hb dX7_taken_37 rfl (lv_at hl 3 rfl) ?_
          refine lv_if_ne (tgt := 49) hx hb dX7_taken_38 (by decide) (fun hc14 => ?_) (fun hc14 => ?_)
          · have hf := if_f hc14 hf
            refine lv_aload_n hx hb dX7_taken_49 rfl (lv_at hl 0 rfl) ?_
            refine r_gi X hh h10 fk_X7_222 dX7_taken_50 ?_
            refine lv_iload_n hx hb dX7_taken_53 rfl (lv_at hl 3 rfl) ?_
            refine lv_icmp_eq (tgt := 60) hx hb dX7_taken_54 (by decide) (fun hc15 => ?_) (fun hc15 => ?_)
            · have hf := if_t hc15 hf
              refine lv_iload_n hx hb dX7_taken_60 rfl (lv_at hl 3 rfl) ?_
              refine lv_iconst (v := (1 : Int32)) hx hb dX7_taken_61 (by decide) ?_
              refine lv_icmp_ne (tgt := 76) hx hb dX7_taken_62 (by decide) (fun hc16 => ?_) (fun hc16 => ?_)
              · have hf := if_f hc16 hf
                refine lv_aload_n hx hb dX7_taken_76 rfl (lv_at hl 0 rfl) ?_
                refine q_gr (P := 5) X hh h10 fk_X7_231 dX7_taken_77 hf (fun t17 h18 hf => ?_)
                refine r_gi X hh h18 fk_X7_142 dX7_taken_80 ?_
                refine lv_topi (fun x19 e20 => ?_)
                have hf := lt_e e20 hf
                exact e_i X hr hlk hh ⟨so_e hf, rfl⟩ dX7_taken_83
              · have hf := if_t hc16 hf
                refine lv_aload_n hx hb dX7_taken_65 rfl (lv_at hl 0 rfl) ?_
                refine q_gr (P := 5) X hh h10 fk_X7_231 dX7_taken_66 hf (fun t21 h22 hf => ?_)
                refine lv_iconst (v := (0 : Int32)) hx hb dX7_taken_69 (by decide) ?_
                obtain ⟨v24, hc23, hf⟩ := c1_e hf
                refine q_V (w' := w) (rest := []) X hml hh (some (.int v24)) (m_X5_partAt l B D h22 hc23) cf_X5_partAt k_379 h22 ci_5 rfl rfl hl.1 rfl (Nat.le_of_ble_eq_true rfl) ⟨Nat.le_of_ble_eq_true rfl, Nat.le_of_ble_eq_true rfl⟩ ⟨Nat.zero_le _, Nat.zero_le _⟩ dX7_taken_70 rfl (fun H locs hh => ?_)
                refine lv_goto (tgt := 83) hx hb dX7_taken_73 (by decide) ?_
                exact e_i X hr hlk hh ⟨so_e hf, rfl⟩ dX7_taken_83
            · have hf := if_f hc15 hf
              refine lv_bipush (v := (-12 : Int32)) hx hb dX7_taken_57 (by decide) ?_
              exact e_i X hr hlk hh ⟨so_e hf, rfl⟩ dX7_taken_59
          · have hf := if_t hc14 hf
            refine lv_aload_n hx hb dX7_taken_41 rfl (lv_at hl 0 rfl) ?_
            refine q_gr (P := 5) X hh h10 fk_X7_231 dX7_taken_42 hf (fun t25 h26 hf => ?_)
            refine r_gi X hh h26 fk_X7_139 dX7_taken_45 ?_
            exact e_i X hr hlk hh ⟨so_e hf, rfl⟩ dX7_taken_48
        · have hf := if_t hc13 hf
          refine lv_aload_n hx hb dX7_taken_32 rfl (lv_at hl 0 rfl) ?_
          obtain ⟨v28, hc27, hf⟩ := c1_e hf
          refine q_V (w' := w) (rest := []) X hml hh (some (.int v28)) (m_X3_refusal l B D h10 hc27) cf_X3_refusal k_616 h10 ci_3 rfl rfl hl.1 rfl (Nat.le_of_ble_eq_true rfl) ⟨Nat.le_of_ble_eq_true rfl, Nat.le_of_ble_eq_true rfl⟩ ⟨Nat.zero_le _, Nat.zero_le _⟩ dX7_taken_33 rfl (fun H locs hh => ?_)
          exact e_i X hr hlk hh ⟨so_e hf, rfl⟩ dX7_taken_36
      · have hf := if_f hc5 hf
        refine lv_iconst (v := (-1 : Int32)) hx hb dX7_taken_16 (by decide) ?_
        exact e_i X hr hlk hh ⟨so_e hf, rfl⟩ dX7_taken_17
set_option maxHeartbeats 4000000 in
set_option maxRecDepth 100000 in
theorem m_X7_was (l : Launch) (B : Nat) (D : DD) {t : Nat} {a0 : Int32} {a1 : Int32} {w : Wd} {r : Int32} (ht : t < 153 ∧ kd t = 7) (hf : f_X7_was t a0 a1 w = some r) : Ct l yX7_was cX7_was 4 (some .int) 1 21 0 0 B D [.ref (B + t), .int a0, .int a1] 153 w (some (.int r)) 153 w := by
  refine m_of (by decide) (Nat.le_of_ble_eq_true rfl) (fun p e s m args below meth c X hml hr hlk _ H locs hh ls hl => ?_)
  have hx := X.1
  have hb := X.2.1
  have hl : lv_has ls 4 [(0, .ref (B + t)), (1, .int a0), (2, .int a1)] := hl
  unfold f_X7_was at hf
  refine lv_iload_n hx hb dX7_was_0 rfl (lv_at hl 1 rfl) ?_
  obtain ⟨v2, hc1, hf⟩ := c1_e hf
  refine q_S (w' := w) (rest := []) X hml hh (some (.int v2)) (m_X7_isHolder l B D hc1) cf_X7_isHolder k_593 rfl hl.1 rfl (Nat.le_of_ble_eq_true rfl) ⟨Nat.le_of_ble_eq_true rfl, Nat.le_of_ble_eq_true rfl⟩ ⟨Nat.zero_le _, Nat.zero_le _⟩ dX7_was_1 rfl (fun H locs hh => ?_)
  refine lv_if_eq (tgt := 14) hx hb dX7_was_4 (by decide) (fun hc3 => ?_) (fun hc3 => ?_)
  · have hf := if_t hc3 hf
    refine lv_iconst (v := (-1 : Int32)) hx hb dX7_was_14 (by decide) ?_
    exact e_i X hr hlk hh ⟨so_e hf, rfl⟩ dX7_was_15
  · have hf := if_f hc3 hf
    refine lv_iload_n hx hb dX7_was_7 rfl (lv_at hl 2 rfl) ?_
    obtain ⟨v5, hc4, hf⟩ := c1_e hf
    refine q_S (w' := w) (rest := []) X hml hh (some (.int v5)) (m_X7_isPlace l B D hc4) cf_X7_isPlace k_332 rfl hl.1 rfl (Nat.le_of_ble_eq_true rfl) ⟨Nat.le_of_ble_eq_true rfl, Nat.le_of_ble_eq_true rfl⟩ ⟨Nat.zero_le _, Nat.zero_le _⟩ dX7_was_8 rfl (fun H locs hh => ?_)
    refine lv_if_ne (tgt := 16) hx hb dX7_was_11 (by decide) (fun hc6 => ?_) (fun hc6 => ?_)
    · have hf := if_f hc6 hf
      refine lv_aload_n hx hb dX7_was_16 rfl (lv_at hl 0 rfl) ?_
      refine q_gr (P := 11) X hh ht fk_X7_61 dX7_was_17 hf (fun t7 h8 hf => ?_)
      refine lv_iload_n hx hb dX7_was_20 rfl (lv_at hl 1 rfl) ?_
      refine q_aald (P := 3) X hh h8 ⟨by decide, by decide⟩ dX7_was_21 hf (fun t10 h11 hf => ?_)
      refine lv_astore_n (lv' := [(3, .ref (B + t10)), (0, .ref (B + t)), (1, .int a0), (2, .int a1)]) hx hb dX7_was_22 rfl hl (by decide) rfl (fun ls hl => ?_)
      refine lv_aload_n hx hb dX7_was_23 rfl (lv_at hl 0 rfl) ?_
      obtain ⟨v13, hc12, hf⟩ := c1_e hf
      refine q_V (w' := w) (rest := []) X hml hh (some (.int v13)) (m_X3_hasShape l B D h11 hc12) cf_X3_hasShape k_612 h11 ci_3 rfl rfl hl.1 rfl (Nat.le_of_ble_eq_true rfl) ⟨Nat.le_of_ble_eq_true rfl, Nat.le_of_ble_eq_true rfl⟩ ⟨Nat.zero_le _, Nat.zero_le _⟩ dX7_was_24 rfl (fun H locs hh => ?_)
      refine lv_if_eq (tgt := 41) hx hb dX7_was_27 (by decide) (fun hc14 => ?_) (fun hc14 => ?_)
      · have hf := if_t hc14 hf
        refine lv_aload_n hx hb dX7_was_41 rfl (lv_at hl 0 rfl) ?_
        obtain ⟨v16, hc15, hf⟩ := c1_e hf
        refine q_V (w' := w) (rest := []) X hml hh (some (.int v16)) (m_X3_refusal l B D h11 hc15) cf_X3_refusal k_616 h11 ci_3 rfl rfl hl.1 rfl (Nat.le_of_ble_eq_true rfl) ⟨Nat.le_of_ble_eq_true rfl, Nat.le_of_ble_eq_true rfl⟩ ⟨Nat.zero_le _, Nat.zero_le _⟩ dX7_was_42 rfl (fun H locs hh => ?_)
        exact e_i X hr hlk hh ⟨so_e hf, rfl⟩ dX7_was_45
      · have hf := if_f hc14 hf
        refine lv_aload_n hx hb dX7_was_30 rfl (lv_at hl 0 rfl) ?_
        refine q_gr (P := 5) X hh h11 fk_X7_231 dX7_was_31 hf (fun t17 h18 hf => ?_)
        refine lv_iload_n hx hb dX7_was_34 rfl (lv_at hl 3 rfl) ?_
        obtain ⟨v20, hc19, hf⟩ := c1_e hf
        refine q_V (w' := w) (rest := []) X hml hh (some (.int v20)) (m_X5_partAt l B D h18 hc19) cf_X5_partAt k_379 h18 ci_5 rfl rfl hl.1 rfl (Nat.le_of_ble_eq_true rfl) ⟨Nat.le_of_ble_eq_true rfl, Nat.le_of_ble_eq_true rfl⟩ ⟨Nat.zero_le _, Nat.zero_le _⟩ dX7_was_35 rfl (fun H locs hh => ?_)
        refine lv_goto (tgt := 45) hx hb dX7_was_38 (by decide) ?_
        exact e_i X hr hlk hh ⟨so_e hf, rfl⟩ dX7_was_45
    · have hf := if_t hc6 hf
      refine lv_iconst (v := (-1 : Int32)) hx hb dX7_was_14 (by decide) ?_
      exact e_i X hr hlk hh ⟨so_e hf, rfl⟩ dX7_was_15
set_option maxHeartbeats 4000000 in
set_option maxRecDepth 100000 in
theorem m_X7_row (l : Launch) (B : Nat) (D : DD) {t : Nat} {a0 : Int32} {a1 : Int32} {w : Wd} {r : Int32} {w' : Wd} (ht : t < 153 ∧ kd t = 7) (hf : f_X7_row t a0 a1 w = some (r, w')) : Ct l yX7_row cX7_row 3 (some .int) 1 22 0 0 B D [.ref (B + t), .int a0, .int a1] 153 w (some (.int r)) 153 w' := by
  refine m_of (by decide) (Nat.le_of_ble_eq_true rfl) (fun p e s m args below meth c X hml hr hlk _ H locs hh ls hl => ?_)
  have hx := X.1
  have hb := X.2.1
  have hl : lv_has ls 3 [(0, .ref (B + t)), (1, .int a0), (2, .int a1)] := hl
  unfold f_X7_row at hf
  refine lv_iload_n hx hb dX7_row_0 rfl (lv_at hl 1 rfl) ?_
  obtain ⟨v2, hc1, hf⟩ := c1_e hf
  refine q_S (w' := w) (rest := []) X hml hh (some (.int v2)) (m_X7_isHolder l B D hc1) cf_X7_isHolder k_593 rfl hl.1 rfl (Nat.le_of_ble_eq_true rfl) ⟨Nat.le_of_ble_eq_true rfl, Nat.le_of_ble_eq_true rfl⟩ ⟨Nat.zero_le _, Nat.zero_le _⟩ dX7_row_1 rfl (fun H locs hh => ?_)
  refine lv_if_eq (tgt := 13) hx hb dX7_row_4 (by decide) (fun hc3 => ?_) (fun hc3 => ?_)
  · have hf := if_t hc3 hf
    refine lv_iconst (v := (-1 : Int32)) hx hb dX7_row_13 (by decide) ?_
    exact e_i X hr hlk hh (so2_e hf) dX7_row_14
  · have hf := if_f hc3 hf
    refine lv_iload_n hx hb dX7_row_7 rfl (lv_at hl 2 rfl) ?_
    refine lv_bipush (v := (30 : Int32)) hx hb dX7_row_8 (by decide) ?_
    refine lv_icmp_le (tgt := 15) hx hb dX7_row_10 (by decide) (fun hc4 => ?_) (fun hc4 => ?_)
    · have hf := if_t hc4 hf
      refine lv_iload_n hx hb dX7_row_15 rfl (lv_at hl 2 rfl) ?_
      refine lv_if_ge (tgt := 22) hx hb dX7_row_16 (by decide) (fun hc5 => ?_) (fun hc5 => ?_)
      · have hf := if_t hc5 hf
        refine lv_aload_n hx hb dX7_row_22 rfl (lv_at hl 0 rfl) ?_
        refine q_gr (P := 11) X hh ht fk_X7_61 dX7_row_23 hf (fun t6 h7 hf => ?_)
        refine lv_iload_n hx hb dX7_row_26 rfl (lv_at hl 1 rfl) ?_
        refine q_aald (P := 3) X hh h7 ⟨by decide, by decide⟩ dX7_row_27 hf (fun t9 h10 hf => ?_)
        refine lv_iload_n hx hb dX7_row_28 rfl (lv_at hl 2 rfl) ?_
        obtain ⟨w12, hc11, hf⟩ := c1_e hf
        refine q_V (w' := w12) (rest := []) X hml hh none (m_X3_beginRow l B D h10 hc11) cf_X3_beginRow k_628 h10 ci_3 rfl rfl hl.1 rfl (Nat.le_of_ble_eq_true rfl) ⟨Nat.le_of_ble_eq_true rfl, Nat.le_of_ble_eq_true rfl⟩ ⟨Nat.zero_le _, Nat.zero_le _⟩ dX7_row_29 rfl (fun H locs hh => ?_)
        refine lv_iload_n hx hb dX7_row_32 rfl (lv_at hl 2 rfl) ?_
        exact e_i X hr hlk hh (so2_e hf) dX7_row_33
      · have hf := if_f hc5 hf
        refine lv_bipush (v := (-14 : Int32)) hx hb dX7_row_19 (by decide) ?_
        exact e_i X hr hlk hh (so2_e hf) dX7_row_21
    · have hf := if_f hc4 hf
      refine lv_iconst (v := (-1 : Int32)) hx hb dX7_row_13 (by decide) ?_
      exact e_i X hr hlk hh (so2_e hf) dX7_row_14
set_option maxHeartbeats 4000000 in
set_option maxRecDepth 100000 in
theorem m_X7_set (l : Launch) (B : Nat) (D : DD) {t : Nat} {a0 : Int32} {a1 : Int32} {a2 : Int32} {w : Wd} {r : Int32} {w' : Wd} (ht : t < 153 ∧ kd t = 7) (hf : f_X7_set t a0 a1 a2 w = some (r, w')) : Ct l yX7_set cX7_set 5 (some .int) 1 21 0 0 B D [.ref (B + t), .int a0, .int a1, .int a2] 153 w (some (.int r)) 153 w' := by
  refine m_of (by decide) (Nat.le_of_ble_eq_true rfl) (fun p e s m args below meth c X hml hr hlk _ H locs hh ls hl => ?_)
  have hx := X.1
  have hb := X.2.1
  have hl : lv_has ls 5 [(0, .ref (B + t)), (1, .int a0), (2, .int a1), (3, .int a2)] := hl
  unfold f_X7_set at hf
  refine lv_iload_n hx hb dX7_set_0 rfl (lv_at hl 1 rfl) ?_
  obtain ⟨v2, hc1, hf⟩ := c1_e hf
  refine q_S (w' := w) (rest := []) X hml hh (some (.int v2)) (m_X7_isHolder l B D hc1) cf_X7_isHolder k_593 rfl hl.1 rfl (Nat.le_of_ble_eq_true rfl) ⟨Nat.le_of_ble_eq_true rfl, Nat.le_of_ble_eq_true rfl⟩ ⟨Nat.zero_le _, Nat.zero_le _⟩ dX7_set_1 rfl (fun H locs hh => ?_)
  refine lv_if_ne (tgt := 9) hx hb dX7_set_4 (by decide) (fun hc3 => ?_) (fun hc3 => ?_)
  · have hf := if_f hc3 hf
    refine lv_aload_n hx hb dX7_set_9 rfl (lv_at hl 0 rfl) ?_
    refine q_gr (P := 11) X hh ht fk_X7_61 dX7_set_10 hf (fun t4 h5 hf => ?_)
    refine lv_iload_n hx hb dX7_set_13 rfl (lv_at hl 1 rfl) ?_
    refine q_aald (P := 3) X hh h5 ⟨by decide, by decide⟩ dX7_set_14 hf (fun t7 h8 hf => ?_)
    refine lv_astore (lv' := [(4, .ref (B + t7)), (0, .ref (B + t)), (1, .int a0), (2, .int a1), (3, .int a2)]) hx hb dX7_set_15 hl (by decide) rfl (fun ls hl => ?_)
    refine lv_aload hx hb dX7_set_17 (lv_at hl 0 rfl) ?_
    obtain ⟨v10, hc9, hf⟩ := c1_e hf
    refine q_V (w' := w) (rest := []) X hml hh (some (.int v10)) (m_X3_hasRow l B D h8 hc9) cf_X3_hasRow k_636 h8 ci_3 rfl rfl hl.1 rfl (Nat.le_of_ble_eq_true rfl) ⟨Nat.le_of_ble_eq_true rfl, Nat.le_of_ble_eq_true rfl⟩ ⟨Nat.zero_le _, Nat.zero_le _⟩ dX7_set_19 rfl (fun H locs hh => ?_)
    refine lv_if_ne (tgt := 31) hx hb dX7_set_22 (by decide) (fun hc11 => ?_) (fun hc11 => ?_)
    · have hf := if_f hc11 hf
      refine lv_aload hx hb dX7_set_31 (lv_at hl 0 rfl) ?_
      refine lv_iload_n hx hb dX7_set_33 rfl (lv_at hl 3 rfl) ?_
      obtain ⟨v13, hc12, hf⟩ := c1_e hf
      refine q_V (w' := w) (rest := []) X hml hh (some (.int v13)) (m_X3_hasPlace l B D h8 hc12) cf_X3_hasPlace k_640 h8 ci_3 rfl rfl hl.1 rfl (Nat.le_of_ble_eq_true rfl) ⟨Nat.le_of_ble_eq_true rfl, Nat.le_of_ble_eq_true rfl⟩ ⟨Nat.zero_le _, Nat.zero_le _⟩ dX7_set_34 rfl (fun H locs hh => ?_)
      refine lv_if_ne (tgt := 43) hx hb dX7_set_37 (by decide) (fun hc14 => ?_) (fun hc14 => ?_)
      · have hf := if_f hc14 hf
        refine lv_aload hx hb dX7_set_43 (lv_at hl 0 rfl) ?_
        refine q_gr (P := 9) X hh h8 fk_X7_244 dX7_set_45 hf (fun t15 h16 hf => ?_)
        refine lv_iload_n hx hb dX7_set_48 rfl (lv_at hl 3 rfl) ?_
        refine lv_iload_n hx hb dX7_set_49 rfl (lv_at hl 4 rfl) ?_
        refine q_ast X hh h16 dX7_set_50 hf (fun w18 H locs hf hh => ?_)
        refine lv_iconst (v := (1 : Int32)) hx hb dX7_set_51 (by decide) ?_
        exact e_i X hr hlk hh (so2_e hf) dX7_set_52
      · have hf := if_t hc14 hf
        refine lv_bipush (v := (-13 : Int32)) hx hb dX7_set_40 (by decide) ?_
        exact e_i X hr hlk hh (so2_e hf) dX7_set_42
    · have hf := if_t hc11 hf
      refine lv_aload hx hb dX7_set_25 (lv_at hl 0 rfl) ?_
      obtain ⟨v20, hc19, hf⟩ := c1_e hf
      refine q_V (w' := w) (rest := []) X hml hh (some (.int v20)) (m_X3_refusal l B D h8 hc19) cf_X3_refusal k_616 h8 ci_3 rfl rfl hl.1 rfl (Nat.le_of_ble_eq_true rfl) ⟨Nat.le_of_ble_eq_true rfl, Nat.le_of_ble_eq_true rfl⟩ ⟨Nat.zero_le _, Nat.zero_le _⟩ dX7_set_27 rfl (fun H locs hh => ?_)
      exact e_i X hr hlk hh (so2_e hf) dX7_set_30
  · have hf := if_t hc3 hf
    refine lv_iconst (v := (-1 : Int32)) hx hb dX7_set_7 (by decide) ?_
    exact e_i X hr hlk hh (so2_e hf) dX7_set_8
set_option maxHeartbeats 4000000 in
set_option maxRecDepth 100000 in
theorem m_X7_get (l : Launch) (B : Nat) (D : DD) {t : Nat} {a0 : Int32} {a1 : Int32} {w : Wd} {r : Int64} (ht : t < 153 ∧ kd t = 7) (hf : f_X7_get t a0 a1 w = some r) : Ct l yX7_get cX7_get 3 (some .long) 1 21 0 0 B D [.ref (B + t), .int a0, .int a1] 153 w (some (.long r)) 153 w := by
  refine m_of (by decide) (Nat.le_of_ble_eq_true rfl) (fun p e s m args below meth c X hml hr hlk _ H locs hh ls hl => ?_)
  have hx := X.1
  have hb := X.2.1
  have hl : lv_has ls 3 [(0, .ref (B + t)), (1, .int a0), (2, .int a1)] := hl
  unfold f_X7_get at hf
  refine lv_iload_n hx hb dX7_get_0 rfl (lv_at hl 1 rfl) ?_
  obtain ⟨v2, hc1, hf⟩ := c1_e hf
  refine q_S (w' := w) (rest := []) X hml hh (some (.int v2)) (m_X7_isHolder l B D hc1) cf_X7_isHolder k_593 rfl hl.1 rfl (Nat.le_of_ble_eq_true rfl) ⟨Nat.le_of_ble_eq_true rfl, Nat.le_of_ble_eq_true rfl⟩ ⟨Nat.zero_le _, Nat.zero_le _⟩ dX7_get_1 rfl (fun H locs hh => ?_)
  refine lv_if_eq (tgt := 32) hx hb dX7_get_4 (by decide) (fun hc3 => ?_) (fun hc3 => ?_)
  · have hf := if_t hc3 hf
    refine lv_ldc2 hx hb X.2.2.1 (X.2.2.2.1 _ k_396) dX7_get_32 ?_
    exact e_l X hr hlk hh ⟨so_e hf, rfl⟩ dX7_get_35
  · have hf := if_f hc3 hf
    refine lv_aload_n hx hb dX7_get_7 rfl (lv_at hl 0 rfl) ?_
    refine q_gr (P := 11) X hh ht fk_X7_61 dX7_get_8 hf (fun t4 h5 hf => ?_)
    refine lv_iload_n hx hb dX7_get_11 rfl (lv_at hl 1 rfl) ?_
    refine q_aald (P := 3) X hh h5 ⟨by decide, by decide⟩ dX7_get_12 hf (fun t7 h8 hf => ?_)
    obtain ⟨v10, hc9, hf⟩ := c1_e hf
    refine q_V (w' := w) (rest := []) X hml hh (some (.int v10)) (m_X3_hasRow l B D h8 hc9) cf_X3_hasRow k_636 h8 ci_3 rfl rfl hl.1 rfl (Nat.le_of_ble_eq_true rfl) ⟨Nat.le_of_ble_eq_true rfl, Nat.le_of_ble_eq_true rfl⟩ ⟨Nat.zero_le _, Nat.zero_le _⟩ dX7_get_13 rfl (fun H locs hh => ?_)
    refine lv_if_eq (tgt := 32) hx hb dX7_get_16 (by decide) (fun hc11 => ?_) (fun hc11 => ?_)
    · have hf := if_t hc11 hf
      refine lv_ldc2 hx hb X.2.2.1 (X.2.2.2.1 _ k_396) dX7_get_32 ?_
      exact e_l X hr hlk hh ⟨so_e hf, rfl⟩ dX7_get_35
    · have hf := if_f hc11 hf
      refine lv_aload_n hx hb dX7_get_19 rfl (lv_at hl 0 rfl) ?_
      refine q_gr (P := 11) X hh ht fk_X7_61 dX7_get_20 hf (fun t12 h13 hf => ?_)
      refine lv_iload_n hx hb dX7_get_23 rfl (lv_at hl 1 rfl) ?_
      refine q_aald (P := 3) X hh h13 ⟨by decide, by decide⟩ dX7_get_24 hf (fun t15 h16 hf => ?_)
      refine lv_iload_n hx hb dX7_get_25 rfl (lv_at hl 2 rfl) ?_
      obtain ⟨v18, hc17, hf⟩ := c1_e hf
      refine q_V (w' := w) (rest := []) X hml hh (some (.int v18)) (m_X3_hasPlace l B D h16 hc17) cf_X3_hasPlace k_640 h16 ci_3 rfl rfl hl.1 rfl (Nat.le_of_ble_eq_true rfl) ⟨Nat.le_of_ble_eq_true rfl, Nat.le_of_ble_eq_true rfl⟩ ⟨Nat.zero_le _, Nat.zero_le _⟩ dX7_get_26 rfl (fun H locs hh => ?_)
      refine lv_if_ne (tgt := 36) hx hb dX7_get_29 (by decide) (fun hc19 => ?_) (fun hc19 => ?_)
      · have hf := if_f hc19 hf
        refine lv_aload_n hx hb dX7_get_36 rfl (lv_at hl 0 rfl) ?_
        refine q_gr (P := 11) X hh ht fk_X7_61 dX7_get_37 hf (fun t20 h21 hf => ?_)
        refine lv_iload_n hx hb dX7_get_40 rfl (lv_at hl 1 rfl) ?_
        refine q_aald (P := 3) X hh h21 ⟨by decide, by decide⟩ dX7_get_41 hf (fun t23 h24 hf => ?_)
        refine q_gr (P := 9) X hh h24 fk_X7_244 dX7_get_42 hf (fun t25 h26 hf => ?_)
        refine lv_iload_n hx hb dX7_get_45 rfl (lv_at hl 2 rfl) ?_
        refine q_ald X hh h26 dX7_get_46 hf (fun hf => ?_)
        refine lv_i2l hx hb dX7_get_47 rfl ?_
        exact e_l X hr hlk hh ⟨so_e hf, rfl⟩ dX7_get_48
      · have hf := if_t hc19 hf
        refine lv_ldc2 hx hb X.2.2.1 (X.2.2.2.1 _ k_396) dX7_get_32 ?_
        exact e_l X hr hlk hh ⟨so_e hf, rfl⟩ dX7_get_35
set_option maxHeartbeats 4000000 in
set_option maxRecDepth 100000 in
theorem m_X7_judge (l : Launch) (B : Nat) (D : DD) {t : Nat} {a0 : Int32} {a1 : Int32} {a2 : Int32} {w : Wd} {r : Int32} {w' : Wd} (ht : t < 153 ∧ kd t = 7) (hf : f_X7_judge t a0 a1 a2 w = some (r, w')) : Ct l yX7_judge cX7_judge 5 (some .int) 6 141 0 0 B D [.ref (B + t), .int a0, .int a1, .int a2] 153 w (some (.int r)) 153 w' := by
  refine m_of (by decide) (Nat.le_of_ble_eq_true rfl) (fun p e s m args below meth c X hml hr hlk _ H locs hh ls hl => ?_)
  have hx := X.1
  have hb := X.2.1
  have hl : lv_has ls 5 [(0, .ref (B + t)), (1, .int a0), (2, .int a1), (3, .int a2)] := hl
  unfold f_X7_judge at hf
  refine lv_iload_n hx hb dX7_judge_0 rfl (lv_at hl 1 rfl) ?_
  obtain ⟨v2, hc1, hf⟩ := c1_e hf
  refine q_S (w' := w) (rest := []) X hml hh (some (.int v2)) (m_X7_isHolder l B D hc1) cf_X7_isHolder k_593 rfl hl.1 rfl (Nat.le_of_ble_eq_true rfl) ⟨Nat.le_of_ble_eq_true rfl, Nat.le_of_ble_eq_true rfl⟩ ⟨Nat.zero_le _, Nat.zero_le _⟩ dX7_judge_1 rfl (fun H locs hh => ?_)
  refine lv_if_eq (tgt := 19) hx hb dX7_judge_4 (by decide) (fun hc3 => ?_) (fun hc3 => ?_)
  · have hf := if_t hc3 hf
    refine lv_iconst (v := (-1 : Int32)) hx hb dX7_judge_19 (by decide) ?_
    exact e_i X hr hlk hh (so2_e hf) dX7_judge_20
  · have hf := if_f hc3 hf
    refine lv_aload_n hx hb dX7_judge_7 rfl (lv_at hl 0 rfl) ?_
    refine q_gr (P := 0) X hh ht fk_X7_14 dX7_judge_8 hf (fun t4 h5 hf => ?_)
    refine lv_iload_n hx hb dX7_judge_11 rfl (lv_at hl 2 rfl) ?_
    refine lv_iload_n hx hb dX7_judge_12 rfl (lv_at hl 3 rfl) ?_
    obtain ⟨v7, hc6, hf⟩ := c1_e hf
    refine q_V (w' := w) (rest := []) X hml hh (some (.int v7)) (m_X0_hasCorner l B D h5 hc6) cf_X0_hasCorner k_328 h5 ci_0 rfl rfl hl.1 rfl (Nat.le_of_ble_eq_true rfl) ⟨Nat.le_of_ble_eq_true rfl, Nat.le_of_ble_eq_true rfl⟩ ⟨Nat.zero_le _, Nat.zero_le _⟩ dX7_judge_13 rfl (fun H locs hh => ?_)
    refine lv_if_ne (tgt := 21) hx hb dX7_judge_16 (by decide) (fun hc8 => ?_) (fun hc8 => ?_)
    · have hf := if_f hc8 hf
      refine lv_aload_n hx hb dX7_judge_21 rfl (lv_at hl 0 rfl) ?_
      refine q_gr (P := 11) X hh ht fk_X7_61 dX7_judge_22 hf (fun t9 h10 hf => ?_)
      refine lv_iload_n hx hb dX7_judge_25 rfl (lv_at hl 1 rfl) ?_
      refine q_aald (P := 3) X hh h10 ⟨by decide, by decide⟩ dX7_judge_26 hf (fun t12 h13 hf => ?_)
      refine lv_astore (lv' := [(4, .ref (B + t12)), (0, .ref (B + t)), (1, .int a0), (2, .int a1), (3, .int a2)]) hx hb dX7_judge_27 hl (by decide) rfl (fun ls hl => ?_)
      refine lv_aload hx hb dX7_judge_29 (lv_at hl 0 rfl) ?_
      obtain ⟨v15, hc14, hf⟩ := c1_e hf
      refine q_V (w' := w) (rest := []) X hml hh (some (.int v15)) (m_X3_hasRow l B D h13 hc14) cf_X3_hasRow k_636 h13 ci_3 rfl rfl hl.1 rfl (Nat.le_of_ble_eq_true rfl) ⟨Nat.le_of_ble_eq_true rfl, Nat.le_of_ble_eq_true rfl⟩ ⟨Nat.zero_le _, Nat.zero_le _⟩ dX7_judge_31 rfl (fun H locs hh => ?_)
      refine lv_if_eq (tgt := 51) hx hb dX7_judge_34 (by decide) (fun hc16 => ?_) (fun hc16 => ?_)
      · have hf := if_t hc16 hf
        refine lv_aload hx hb dX7_judge_51 (lv_at hl 0 rfl) ?_
        obtain ⟨v18, hc17, hf⟩ := c1_e hf
        refine q_V (w' := w) (rest := []) X hml hh (some (.int v18)) (m_X3_refusal l B D h13 hc17) cf_X3_refusal k_616 h13 ci_3 rfl rfl hl.1 rfl (Nat.le_of_ble_eq_true rfl) ⟨Nat.le_of_ble_eq_true rfl, Nat.le_of_ble_eq_true rfl⟩ ⟨Nat.zero_le _, Nat.zero_le _⟩ dX7_judge_53 rfl (fun H locs hh => ?_)
        exact e_i X hr hlk hh (so2_e hf) dX7_judge_56
      · have hf := if_f hc16 hf
        refine lv_aload hx hb dX7_judge_37 (lv_at hl 0 rfl) ?_
        refine lv_aload_n hx hb dX7_judge_39 rfl (lv_at hl 1 rfl) ?_
        refine lv_iload_n hx hb dX7_judge_40 rfl (lv_at hl 3 rfl) ?_
        refine lv_iload_n hx hb dX7_judge_41 rfl (lv_at hl 4 rfl) ?_
        obtain ⟨v20, w21, hc19, hf⟩ := c2_e hf
        obtain ⟨h22, hf⟩ := ck_e hf
        refine q_V (w' := w21) (rest := [.ref (B + t12)]) X hml hh (some (.ref (B + v20))) (m_X7_shapeAt l B D ht hc19) cf_X7_shapeAt k_335 ht ci_7 rfl rfl hl.1 rfl (Nat.le_of_ble_eq_true rfl) ⟨Nat.le_of_ble_eq_true rfl, Nat.le_of_ble_eq_true rfl⟩ ⟨Nat.zero_le _, Nat.zero_le _⟩ dX7_judge_42 rfl (fun H locs hh => ?_)
        obtain ⟨v24, hc23, hf⟩ := c1_e hf
        refine q_V (w' := w21) (rest := []) X hml hh (some (.int v24)) (m_X3_firstOtherwise l B D h13 h22 hc23) cf_X3_firstOtherwise k_652 h13 ci_3 rfl rfl hl.1 rfl (Nat.le_of_ble_eq_true rfl) ⟨Nat.le_of_ble_eq_true rfl, Nat.le_of_ble_eq_true rfl⟩ ⟨Nat.zero_le _, Nat.zero_le _⟩ dX7_judge_45 rfl (fun H locs hh => ?_)
        refine lv_goto (tgt := 56) hx hb dX7_judge_48 (by decide) ?_
        exact e_i X hr hlk hh (so2_e hf) dX7_judge_56
    · have hf := if_t hc8 hf
      refine lv_iconst (v := (-1 : Int32)) hx hb dX7_judge_19 (by decide) ?_
      exact e_i X hr hlk hh (so2_e hf) dX7_judge_20
set_option maxHeartbeats 4000000 in
set_option maxRecDepth 100000 in
theorem m_X7_image (l : Launch) (B : Nat) (D : DD) {t : Nat} {w : Wd} {r : Int32} {w' : Wd} (ht : t < 153 ∧ kd t = 7) (hf : f_X7_image t w = some (r, w')) : Ct l yX7_image cX7_image 1 (some .int) 1 22 0 0 B D [.ref (B + t)] 153 w (some (.int r)) 153 w' := by
  refine m_of (by decide) (Nat.le_of_ble_eq_true rfl) (fun p e s m args below meth c X hml hr hlk _ H locs hh ls hl => ?_)
  have hx := X.1
  have hb := X.2.1
  have hl : lv_has ls 1 [(0, .ref (B + t))] := hl
  unfold f_X7_image at hf
  refine lv_aload_n hx hb dX7_image_0 rfl (lv_at hl 0 rfl) ?_
  refine q_gr (P := 0) X hh ht fk_X7_21 dX7_image_1 hf (fun t1 h2 hf => ?_)
  refine lv_aload_n hx hb dX7_image_4 rfl (lv_at hl 0 rfl) ?_
  refine q_gr (P := 0) X hh ht fk_X7_14 dX7_image_5 hf (fun t3 h4 hf => ?_)
  obtain ⟨w6, hc5, hf⟩ := c1_e hf
  refine q_V (w' := w6) (rest := []) X hml hh none (m_X0_copyFrom l B D h2 h4 hc5) cf_X0_copyFrom k_323 h2 ci_0 rfl rfl hl.1 rfl (Nat.le_of_ble_eq_true rfl) ⟨Nat.le_of_ble_eq_true rfl, Nat.le_of_ble_eq_true rfl⟩ ⟨Nat.zero_le _, Nat.zero_le _⟩ dX7_image_8 rfl (fun H locs hh => ?_)
  refine lv_aload_n hx hb dX7_image_11 rfl (lv_at hl 0 rfl) ?_
  refine lv_iconst (v := (1 : Int32)) hx hb dX7_image_12 (by decide) ?_
  refine q_pi X hh ht fk_X7_24 pk_7_3 rfl rfl dX7_image_13 hf (fun w7 H locs hf hh => ?_)
  refine lv_aload_n hx hb dX7_image_16 rfl (lv_at hl 0 rfl) ?_
  refine q_gr (P := 0) X hh ht fk_X7_21 dX7_image_17 hf (fun t8 h9 hf => ?_)
  obtain ⟨v11, hc10, hf⟩ := c1_e hf
  refine q_V (w' := w7) (rest := []) X hml hh (some (.int v11)) (m_X0_filled l B D h9 hc10) cf_X0_filled k_306 h9 ci_0 rfl rfl hl.1 rfl (Nat.le_of_ble_eq_true rfl) ⟨Nat.le_of_ble_eq_true rfl, Nat.le_of_ble_eq_true rfl⟩ ⟨Nat.zero_le _, Nat.zero_le _⟩ dX7_image_20 rfl (fun H locs hh => ?_)
  exact e_i X hr hlk hh (so2_e hf) dX7_image_23
set_option maxHeartbeats 4000000 in
set_option maxRecDepth 100000 in
theorem m_X7_restore (l : Launch) (B : Nat) (D : DD) {t : Nat} {w : Wd} {r : Int32} {w' : Wd} (ht : t < 153 ∧ kd t = 7) (hf : f_X7_restore t w = some (r, w')) : Ct l yX7_restore cX7_restore 1 (some .int) 1 22 0 0 B D [.ref (B + t)] 153 w (some (.int r)) 153 w' := by
  refine m_of (by decide) (Nat.le_of_ble_eq_true rfl) (fun p e s m args below meth c X hml hr hlk _ H locs hh ls hl => ?_)
  have hx := X.1
  have hb := X.2.1
  have hl : lv_has ls 1 [(0, .ref (B + t))] := hl
  unfold f_X7_restore at hf
  refine lv_aload_n hx hb dX7_restore_0 rfl (lv_at hl 0 rfl) ?_
  refine r_gi X hh ht fk_X7_24 dX7_restore_1 ?_
  refine lv_if_ne (tgt := 10) hx hb dX7_restore_4 (by decide) (fun hc1 => ?_) (fun hc1 => ?_)
  · have hf := if_f hc1 hf
    refine lv_aload_n hx hb dX7_restore_10 rfl (lv_at hl 0 rfl) ?_
    refine q_gr (P := 0) X hh ht fk_X7_14 dX7_restore_11 hf (fun t2 h3 hf => ?_)
    refine lv_aload_n hx hb dX7_restore_14 rfl (lv_at hl 0 rfl) ?_
    refine q_gr (P := 0) X hh ht fk_X7_21 dX7_restore_15 hf (fun t4 h5 hf => ?_)
    obtain ⟨w7, hc6, hf⟩ := c1_e hf
    refine q_V (w' := w7) (rest := []) X hml hh none (m_X0_copyFrom l B D h3 h5 hc6) cf_X0_copyFrom k_323 h3 ci_0 rfl rfl hl.1 rfl (Nat.le_of_ble_eq_true rfl) ⟨Nat.le_of_ble_eq_true rfl, Nat.le_of_ble_eq_true rfl⟩ ⟨Nat.zero_le _, Nat.zero_le _⟩ dX7_restore_18 rfl (fun H locs hh => ?_)
    refine lv_aload_n hx hb dX7_restore_21 rfl (lv_at hl 0 rfl) ?_
    refine lv_iconst (v := (0 : Int32)) hx hb dX7_restore_22 (by decide) ?_
    refine q_pi X hh ht fk_X7_35 pk_7_5 rfl rfl dX7_restore_23 hf (fun w8 H locs hf hh => ?_)
    refine lv_aload_n hx hb dX7_restore_26 rfl (lv_at hl 0 rfl) ?_
    refine q_gr (P := 2) X hh ht fk_X7_48 dX7_restore_27 hf (fun t9 h10 hf => ?_)
    obtain ⟨w12, hc11, hf⟩ := c1_e hf
    refine q_V (w' := w12) (rest := []) X hml hh none (m_X2_forgetAll l B D h10 hc11) cf_X2_forgetAll k_667 h10 ci_2 rfl rfl hl.1 rfl (Nat.le_of_ble_eq_true rfl) ⟨Nat.le_of_ble_eq_true rfl, Nat.le_of_ble_eq_true rfl⟩ ⟨Nat.zero_le _, Nat.zero_le _⟩ dX7_restore_30 rfl (fun H locs hh => ?_)
    refine lv_aload_n hx hb dX7_restore_33 rfl (lv_at hl 0 rfl) ?_
    refine q_gr (P := 0) X hh ht fk_X7_14 dX7_restore_34 hf (fun t13 h14 hf => ?_)
    obtain ⟨v16, hc15, hf⟩ := c1_e hf
    refine q_V (w' := w12) (rest := []) X hml hh (some (.int v16)) (m_X0_filled l B D h14 hc15) cf_X0_filled k_306 h14 ci_0 rfl rfl hl.1 rfl (Nat.le_of_ble_eq_true rfl) ⟨Nat.le_of_ble_eq_true rfl, Nat.le_of_ble_eq_true rfl⟩ ⟨Nat.zero_le _, Nat.zero_le _⟩ dX7_restore_37 rfl (fun H locs hh => ?_)
    exact e_i X hr hlk hh (so2_e hf) dX7_restore_40
  · have hf := if_t hc1 hf
    refine lv_bipush (v := (-5 : Int32)) hx hb dX7_restore_7 (by decide) ?_
    exact e_i X hr hlk hh (so2_e hf) dX7_restore_9
set_option maxHeartbeats 4000000 in
set_option maxRecDepth 100000 in
theorem m_X7_count (l : Launch) (B : Nat) (D : DD) {t : Nat} {a0 : Int32} {w : Wd} {r : Int32} (ht : t < 153 ∧ kd t = 7) (hf : f_X7_count t a0 w = some r) : Ct l yX7_count cX7_count 2 (some .int) 1 22 0 0 B D [.ref (B + t), .int a0] 153 w (some (.int r)) 153 w := by
  refine m_of (by decide) (Nat.le_of_ble_eq_true rfl) (fun p e s m args below meth c X hml hr hlk _ H locs hh ls hl => ?_)
  have hx := X.1
  have hb := X.2.1
  have hl : lv_has ls 2 [(0, .ref (B + t)), (1, .int a0)] := hl
  unfold f_X7_count at hf
  refine lv_iload_n hx hb dX7_count_0 rfl (lv_at hl 1 rfl) ?_
  by_cases hc1 : a0.toInt = 0
  · have hf := if_t hc1 hf
    refine lv_tableIn (off := 43) (tgt := 44) hx hb dX7_count_1 (by omega) (by omega) (by rw [hc1]; rfl) (by decide) ?_
    refine lv_aload_n hx hb dX7_count_44 rfl (lv_at hl 0 rfl) ?_
    refine q_gr (P := 0) X hh ht fk_X7_14 dX7_count_45 hf (fun t2 h3 hf => ?_)
    refine r_gi X hh h3 fk_X7_70 dX7_count_48 ?_
    exact e_i X hr hlk hh ⟨so_e hf, rfl⟩ dX7_count_51
  · have hf := if_f hc1 hf
    by_cases hc4 : a0.toInt = 1
    · have hf := if_t hc4 hf
      refine lv_tableIn (off := 51) (tgt := 52) hx hb dX7_count_1 (by omega) (by omega) (by rw [hc4]; rfl) (by decide) ?_
      refine lv_aload_n hx hb dX7_count_52 rfl (lv_at hl 0 rfl) ?_
      refine q_gr (P := 0) X hh ht fk_X7_14 dX7_count_53 hf (fun t5 h6 hf => ?_)
      refine r_gi X hh h6 fk_X7_74 dX7_count_56 ?_
      exact e_i X hr hlk hh ⟨so_e hf, rfl⟩ dX7_count_59
    · have hf := if_f hc4 hf
      by_cases hc7 : a0.toInt = 2
      · have hf := if_t hc7 hf
        refine lv_tableIn (off := 59) (tgt := 60) hx hb dX7_count_1 (by omega) (by omega) (by rw [hc7]; rfl) (by decide) ?_
        refine lv_aload_n hx hb dX7_count_60 rfl (lv_at hl 0 rfl) ?_
        refine q_gr (P := 0) X hh ht fk_X7_14 dX7_count_61 hf (fun t8 h9 hf => ?_)
        refine r_gi X hh h9 fk_X7_102 dX7_count_64 ?_
        exact e_i X hr hlk hh ⟨so_e hf, rfl⟩ dX7_count_67
      · have hf := if_f hc7 hf
        by_cases hc10 : a0.toInt = 3
        · have hf := if_t hc10 hf
          refine lv_tableIn (off := 67) (tgt := 68) hx hb dX7_count_1 (by omega) (by omega) (by rw [hc10]; rfl) (by decide) ?_
          refine lv_aload_n hx hb dX7_count_68 rfl (lv_at hl 0 rfl) ?_
          refine q_gr (P := 2) X hh ht fk_X7_48 dX7_count_69 hf (fun t11 h12 hf => ?_)
          obtain ⟨v14, hc13, hf⟩ := c1_e hf
          refine q_V (w' := w) (rest := []) X hml hh (some (.int v14)) (m_X2_undoable l B D h12 hc13) cf_X2_undoable k_531 h12 ci_2 rfl rfl hl.1 rfl (Nat.le_of_ble_eq_true rfl) ⟨Nat.le_of_ble_eq_true rfl, Nat.le_of_ble_eq_true rfl⟩ ⟨Nat.zero_le _, Nat.zero_le _⟩ dX7_count_72 rfl (fun H locs hh => ?_)
          exact e_i X hr hlk hh ⟨so_e hf, rfl⟩ dX7_count_75
        · have hf := if_f hc10 hf
          by_cases hc15 : a0.toInt = 4
          · have hf := if_t hc15 hf
            refine lv_tableIn (off := 75) (tgt := 76) hx hb dX7_count_1 (by omega) (by omega) (by rw [hc15]; rfl) (by decide) ?_
            refine lv_aload_n hx hb dX7_count_76 rfl (lv_at hl 0 rfl) ?_
            refine q_gr (P := 2) X hh ht fk_X7_48 dX7_count_77 hf (fun t16 h17 hf => ?_)
            obtain ⟨v19, hc18, hf⟩ := c1_e hf
            refine q_V (w' := w) (rest := []) X hml hh (some (.int v19)) (m_X2_redoable l B D h17 hc18) cf_X2_redoable k_543 h17 ci_2 rfl rfl hl.1 rfl (Nat.le_of_ble_eq_true rfl) ⟨Nat.le_of_ble_eq_true rfl, Nat.le_of_ble_eq_true rfl⟩ ⟨Nat.zero_le _, Nat.zero_le _⟩ dX7_count_80 rfl (fun H locs hh => ?_)
            exact e_i X hr hlk hh ⟨so_e hf, rfl⟩ dX7_count_83
          · have hf := if_f hc15 hf
            by_cases hc20 : a0.toInt = 5
            · have hf := if_t hc20 hf
              refine lv_tableIn (off := 83) (tgt := 84) hx hb dX7_count_1 (by omega) (by omega) (by rw [hc20]; rfl) (by decide) ?_
              refine lv_aload_n hx hb dX7_count_84 rfl (lv_at hl 0 rfl) ?_
              refine q_gr (P := 6) X hh ht fk_X7_55 dX7_count_85 hf (fun t21 h22 hf => ?_)
              refine r_gi X hh h22 fk_X7_205 dX7_count_88 ?_
              exact e_i X hr hlk hh ⟨so_e hf, rfl⟩ dX7_count_91
            · have hf := if_f hc20 hf
              by_cases hc23 : a0.toInt = 6
              · have hf := if_t hc23 hf
                refine lv_tableIn (off := 91) (tgt := 92) hx hb dX7_count_1 (by omega) (by omega) (by rw [hc23]; rfl) (by decide) ?_
                refine lv_aload_n hx hb dX7_count_92 rfl (lv_at hl 0 rfl) ?_
                refine q_gr (P := 0) X hh ht fk_X7_14 dX7_count_93 hf (fun t24 h25 hf => ?_)
                obtain ⟨v27, hc26, hf⟩ := c1_e hf
                refine q_V (w' := w) (rest := []) X hml hh (some (.int v27)) (m_X0_total l B D h25 hc26) cf_X0_total k_675 h25 ci_0 rfl rfl hl.1 rfl (Nat.le_of_ble_eq_true rfl) ⟨Nat.le_of_ble_eq_true rfl, Nat.le_of_ble_eq_true rfl⟩ ⟨Nat.zero_le _, Nat.zero_le _⟩ dX7_count_96 rfl (fun H locs hh => ?_)
                exact e_i X hr hlk hh ⟨so_e hf, rfl⟩ dX7_count_99
              · have hf := if_f hc23 hf
                refine lv_tableOut (tgt := 100) hx hb dX7_count_1 (by omega) (by decide) ?_
                refine lv_iconst (v := (-1 : Int32)) hx hb dX7_count_100 (by decide) ?_
                exact e_i X hr hlk hh ⟨so_e hf, rfl⟩ dX7_count_101

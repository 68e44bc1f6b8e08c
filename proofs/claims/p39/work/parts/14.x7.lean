set_option maxHeartbeats 4000000 in
set_option maxRecDepth 100000 in
theorem m_X7_isSide (l : Launch) (B : Nat) (D : DD) {n : Nat} (hN : 139 ≤ n) {a0 : Int32} {w : Wd} {r : Int32} (hf : f_X7_isSide a0 = some r) : Ct l yX7_isSide cX7_isSide 1 (some .boolean) 0 0 0 0 B D [.int a0] n w (some (.int r)) n w := by
  refine m_of (by decide) (Nat.le_of_ble_eq_true rfl) (fun p e s m args below meth c X hml hr hlk _ H locs hh ls hl => ?_)
  have hx := X.1
  have hb := X.2.1
  have hl : lv_has ls 1 [(0, .int a0)] := hl
  unfold f_X7_isSide at hf
  refine lv_iload_n hx hb dX7_isSide_0 rfl (lv_at hl 0 rfl) ?_
  refine lv_iconst (v := (1 : Int32)) hx hb dX7_isSide_1 (by decide) ?_
  refine mg_W (P := fun (x3 : Int32) => ∀ (ls : Array Slot), lv_has ls 1 [] → W p l e (rmk 0 0 0 0) s m args below meth c H locs 0 0 (MZ below B D n w (some (.int r)) args s 0 0) (F0 m 15 ls [.int x3])) hf (fun x3 hf ls hl => ?_) (fun hj4 => ?_)
  · have hz := zb_e hf
    have hf := hz.2
    exact e_z X hr hlk hh hz.1 ⟨so_e hf, rfl⟩ dX7_isSide_15
  · refine lv_icmp_lt (tgt := 14) hx hb dX7_isSide_2 (by decide) (fun hc1 => ?_) (fun hc1 => ?_)
    · refine lv_iconst (v := (0 : Int32)) hx hb dX7_isSide_14 (by decide) ?_
      exact hj4 _ (by rw [if_pos hc1]) ls (lv_sub hl [] rfl)
    · refine lv_iload_n hx hb dX7_isSide_5 rfl (lv_at hl 0 rfl) ?_
      refine lv_iconst (v := (5 : Int32)) hx hb dX7_isSide_6 (by decide) ?_
      refine lv_icmp_gt (tgt := 14) hx hb dX7_isSide_7 (by decide) (fun hc2 => ?_) (fun hc2 => ?_)
      · refine lv_iconst (v := (0 : Int32)) hx hb dX7_isSide_14 (by decide) ?_
        exact hj4 _ (by rw [if_neg hc1, if_pos hc2]) ls (lv_sub hl [] rfl)
      · refine lv_iconst (v := (1 : Int32)) hx hb dX7_isSide_10 (by decide) ?_
        refine lv_goto (tgt := 15) hx hb dX7_isSide_11 (by decide) ?_
        exact hj4 _ (by rw [if_neg hc1, if_neg hc2]) ls (lv_sub hl [] rfl)
set_option maxHeartbeats 4000000 in
set_option maxRecDepth 100000 in
theorem m_X7_beginDeed (l : Launch) (B : Nat) (D : DD) {n : Nat} (hN : 139 ≤ n) {t : Nat} {w : Wd} {w' : Wd} (ht : t < n ∧ kd t = 7) (hf : f_X7_beginDeed t w = some w') : Ct l yX7_beginDeed cX7_beginDeed 1 none 2 43 0 0 B D [.ref (B + t)] n w none n w' := by
  refine m_of (by decide) (Nat.le_of_ble_eq_true rfl) (fun p e s m args below meth c X hml hr hlk _ H locs hh ls hl => ?_)
  have hx := X.1
  have hb := X.2.1
  have hl : lv_has ls 1 [(0, .ref (B + t))] := hl
  unfold f_X7_beginDeed at hf
  refine lv_aload_n hx hb dX7_beginDeed_0 rfl (lv_at hl 0 rfl) ?_
  refine q_gr (P := 2) X hh ht fk_X7_48 dX7_beginDeed_1 hN hf (fun t1 h2 hf => ?_)
  refine lv_aload_n hx hb dX7_beginDeed_4 rfl (lv_at hl 0 rfl) ?_
  refine q_gr (P := 0) X hh ht fk_X7_14 dX7_beginDeed_5 hN hf (fun t3 h4 hf => ?_)
  obtain ⟨w6, hc5, hf⟩ := c1_e hf
  refine q_V (w' := w6) (rest := []) X hml hh none (m_X2_remember l B D hN h2 h4 hc5) cf_X2_remember k_221 h2 ci_2 rfl rfl hl.1 rfl (Nat.le_of_ble_eq_true rfl) ⟨Nat.le_of_ble_eq_true rfl, Nat.le_of_ble_eq_true rfl⟩ ⟨Nat.zero_le _, Nat.zero_le _⟩ dX7_beginDeed_8 rfl (fun H locs hh => ?_)
  refine lv_aload_n hx hb dX7_beginDeed_11 rfl (lv_at hl 0 rfl) ?_
  refine lv_iconst (v := (0 : Int32)) hx hb dX7_beginDeed_12 (by decide) ?_
  refine q_pi X hh ht fk_X7_35 pk_7_5 rfl rfl dX7_beginDeed_13 hf (fun w7 H locs hf hh => ?_)
  exact e_v X hr hlk hh ⟨rfl, so_e hf⟩ dX7_beginDeed_16
set_option maxHeartbeats 4000000 in
set_option maxRecDepth 100000 in
theorem m_X7_grid (l : Launch) (B : Nat) (D : DD) {n : Nat} (hN : 139 ≤ n) {t : Nat} {a0 : Int32} {a1 : Int32} {w : Wd} {r : Int32} {w' : Wd} (ht : t < n ∧ kd t = 7) (hf : f_X7_grid t a0 a1 w = some (r, w')) : Ct l yX7_grid cX7_grid 4 (some .int) 3 63 0 0 B D [.ref (B + t), .int a0, .int a1] n w (some (.int r)) n w' := by
  refine m_of (by decide) (Nat.le_of_ble_eq_true rfl) (fun p e s m args below meth c X hml hr hlk _ H locs hh ls hl => ?_)
  have hx := X.1
  have hb := X.2.1
  have hl : lv_has ls 4 [(0, .ref (B + t)), (1, .int a0), (2, .int a1)] := hl
  unfold f_X7_grid at hf
  refine lv_iload_n hx hb dX7_grid_0 rfl (lv_at hl 1 rfl) ?_
  obtain ⟨v2, hc1, hf⟩ := c1_e hf
  refine q_S (w' := w) (rest := []) X hml hh (some (.int v2)) (m_X7_isSide l B D hN hc1) cf_X7_isSide k_443 rfl hl.1 rfl (Nat.le_of_ble_eq_true rfl) ⟨Nat.le_of_ble_eq_true rfl, Nat.le_of_ble_eq_true rfl⟩ ⟨Nat.zero_le _, Nat.zero_le _⟩ dX7_grid_1 rfl (fun H locs hh => ?_)
  refine lv_if_eq (tgt := 14) hx hb dX7_grid_4 (by decide) (fun hc3 => ?_) (fun hc3 => ?_)
  · have hf := if_t hc3 hf
    refine lv_iconst (v := (-1 : Int32)) hx hb dX7_grid_14 (by decide) ?_
    exact e_i X hr hlk hh (so2_e hf) dX7_grid_15
  · have hf := if_f hc3 hf
    refine lv_iload_n hx hb dX7_grid_7 rfl (lv_at hl 2 rfl) ?_
    obtain ⟨v5, hc4, hf⟩ := c1_e hf
    refine q_S (w' := w) (rest := []) X hml hh (some (.int v5)) (m_X7_isSide l B D hN hc4) cf_X7_isSide k_443 rfl hl.1 rfl (Nat.le_of_ble_eq_true rfl) ⟨Nat.le_of_ble_eq_true rfl, Nat.le_of_ble_eq_true rfl⟩ ⟨Nat.zero_le _, Nat.zero_le _⟩ dX7_grid_8 rfl (fun H locs hh => ?_)
    refine lv_if_ne (tgt := 16) hx hb dX7_grid_11 (by decide) (fun hc6 => ?_) (fun hc6 => ?_)
    · have hf := if_f hc6 hf
      refine lv_bipush (v := (10 : Int32)) hx hb dX7_grid_16 (by decide) ?_
      refine lv_aload_n hx hb dX7_grid_18 rfl (lv_at hl 0 rfl) ?_
      refine q_gr (P := 0) X hh ht fk_X7_14 dX7_grid_19 hN hf (fun t7 h8 hf => ?_)
      refine r_gi X hh h8 fk_X7_70 dX7_grid_22 ?_
      refine lv_imul hx hb dX7_grid_25 ?_
      refine lv_aload_n hx hb dX7_grid_26 rfl (lv_at hl 0 rfl) ?_
      refine q_gr (P := 0) X hh ht fk_X7_14 dX7_grid_27 hN hf (fun t9 h10 hf => ?_)
      refine r_gi X hh h10 fk_X7_74 dX7_grid_30 ?_
      refine lv_iadd hx hb dX7_grid_33 ?_
      refine lv_topi (fun x11 e12 => ?_)
      have hf := lt_e e12 hf
      refine lv_istore_n (lv' := [(3, .int x11), (0, .ref (B + t)), (1, .int a0), (2, .int a1)]) hx hb dX7_grid_34 rfl hl (by decide) rfl (fun ls hl => ?_)
      refine lv_aload_n hx hb dX7_grid_35 rfl (lv_at hl 1 rfl) ?_
      obtain ⟨w14, hc13, hf⟩ := c1_e hf
      refine q_V (w' := w14) (rest := []) X hml hh none (m_X7_beginDeed l B D hN ht hc13) cf_X7_beginDeed k_217 ht ci_7 rfl rfl hl.1 rfl (Nat.le_of_ble_eq_true rfl) ⟨Nat.le_of_ble_eq_true rfl, Nat.le_of_ble_eq_true rfl⟩ ⟨Nat.zero_le _, Nat.zero_le _⟩ dX7_grid_36 rfl (fun H locs hh => ?_)
      refine lv_aload_n hx hb dX7_grid_39 rfl (lv_at hl 1 rfl) ?_
      refine q_gr (P := 0) X hh ht fk_X7_14 dX7_grid_40 hN hf (fun t15 h16 hf => ?_)
      refine lv_iload_n hx hb dX7_grid_43 rfl (lv_at hl 2 rfl) ?_
      refine lv_iload_n hx hb dX7_grid_44 rfl (lv_at hl 3 rfl) ?_
      obtain ⟨w18, hc17, hf⟩ := c1_e hf
      refine q_V (w' := w18) (rest := []) X hml hh none (m_X0_clearTo l B D hN h16 hc17) cf_X0_clearTo k_446 h16 ci_0 rfl rfl hl.1 rfl (Nat.le_of_ble_eq_true rfl) ⟨Nat.le_of_ble_eq_true rfl, Nat.le_of_ble_eq_true rfl⟩ ⟨Nat.zero_le _, Nat.zero_le _⟩ dX7_grid_45 rfl (fun H locs hh => ?_)
      refine lv_iload_n hx hb dX7_grid_48 rfl (lv_at hl 0 rfl) ?_
      exact e_i X hr hlk hh (so2_e hf) dX7_grid_49
    · have hf := if_t hc6 hf
      refine lv_iconst (v := (-1 : Int32)) hx hb dX7_grid_14 (by decide) ?_
      exact e_i X hr hlk hh (so2_e hf) dX7_grid_15
set_option maxHeartbeats 4000000 in
set_option maxRecDepth 100000 in
theorem m_X7_isNumber (l : Launch) (B : Nat) (D : DD) {n : Nat} (hN : 139 ≤ n) {a0 : Int32} {w : Wd} {r : Int32} (hf : f_X7_isNumber a0 = some r) : Ct l yX7_isNumber cX7_isNumber 1 (some .boolean) 0 0 0 0 B D [.int a0] n w (some (.int r)) n w := by
  refine m_of (by decide) (Nat.le_of_ble_eq_true rfl) (fun p e s m args below meth c X hml hr hlk _ H locs hh ls hl => ?_)
  have hx := X.1
  have hb := X.2.1
  have hl : lv_has ls 1 [(0, .int a0)] := hl
  unfold f_X7_isNumber at hf
  refine lv_iload_n hx hb dX7_isNumber_0 rfl (lv_at hl 0 rfl) ?_
  refine mg_W (P := fun (x3 : Int32) => ∀ (ls : Array Slot), lv_has ls 1 [] → W p l e (rmk 0 0 0 0) s m args below meth c H locs 0 0 (MZ below B D n w (some (.int r)) args s 0 0) (F0 m 14 ls [.int x3])) hf (fun x3 hf ls hl => ?_) (fun hj4 => ?_)
  · have hz := zb_e hf
    have hf := hz.2
    exact e_z X hr hlk hh hz.1 ⟨so_e hf, rfl⟩ dX7_isNumber_14
  · refine lv_if_lt (tgt := 13) hx hb dX7_isNumber_1 (by decide) (fun hc1 => ?_) (fun hc1 => ?_)
    · refine lv_iconst (v := (0 : Int32)) hx hb dX7_isNumber_13 (by decide) ?_
      exact hj4 _ (by rw [if_pos hc1]) ls (lv_sub hl [] rfl)
    · refine lv_iload_n hx hb dX7_isNumber_4 rfl (lv_at hl 0 rfl) ?_
      refine lv_iconst (v := (3 : Int32)) hx hb dX7_isNumber_5 (by decide) ?_
      refine lv_icmp_gt (tgt := 13) hx hb dX7_isNumber_6 (by decide) (fun hc2 => ?_) (fun hc2 => ?_)
      · refine lv_iconst (v := (0 : Int32)) hx hb dX7_isNumber_13 (by decide) ?_
        exact hj4 _ (by rw [if_neg hc1, if_pos hc2]) ls (lv_sub hl [] rfl)
      · refine lv_iconst (v := (1 : Int32)) hx hb dX7_isNumber_9 (by decide) ?_
        refine lv_goto (tgt := 14) hx hb dX7_isNumber_10 (by decide) ?_
        exact hj4 _ (by rw [if_neg hc1, if_neg hc2]) ls (lv_sub hl [] rfl)
set_option maxHeartbeats 4000000 in
set_option maxRecDepth 100000 in
theorem m_X7_put (l : Launch) (B : Nat) (D : DD) {n : Nat} (hN : 139 ≤ n) {t : Nat} {a0 : Int32} {a1 : Int32} {a2 : Int32} {w : Wd} {r : Int32} {w' : Wd} (ht : t < n ∧ kd t = 7) (hf : f_X7_put t a0 a1 a2 w = some (r, w')) : Ct l yX7_put cX7_put 5 (some .int) 3 63 0 0 B D [.ref (B + t), .int a0, .int a1, .int a2] n w (some (.int r)) n w' := by
  refine m_of (by decide) (Nat.le_of_ble_eq_true rfl) (fun p e s m args below meth c X hml hr hlk _ H locs hh ls hl => ?_)
  have hx := X.1
  have hb := X.2.1
  have hl : lv_has ls 5 [(0, .ref (B + t)), (1, .int a0), (2, .int a1), (3, .int a2)] := hl
  unfold f_X7_put at hf
  refine lv_aload_n hx hb dX7_put_0 rfl (lv_at hl 0 rfl) ?_
  refine q_gr (P := 0) X hh ht fk_X7_14 dX7_put_1 hN hf (fun t1 h2 hf => ?_)
  refine lv_iload_n hx hb dX7_put_4 rfl (lv_at hl 1 rfl) ?_
  refine lv_iload_n hx hb dX7_put_5 rfl (lv_at hl 2 rfl) ?_
  obtain ⟨v4, hc3, hf⟩ := c1_e hf
  refine q_V (w' := w) (rest := []) X hml hh (some (.int v4)) (m_X0_hasCell l B D hN h2 hc3) cf_X0_hasCell k_198 h2 ci_0 rfl rfl hl.1 rfl (Nat.le_of_ble_eq_true rfl) ⟨Nat.le_of_ble_eq_true rfl, Nat.le_of_ble_eq_true rfl⟩ ⟨Nat.zero_le _, Nat.zero_le _⟩ dX7_put_6 rfl (fun H locs hh => ?_)
  refine lv_if_eq (tgt := 19) hx hb dX7_put_9 (by decide) (fun hc5 => ?_) (fun hc5 => ?_)
  · have hf := if_t hc5 hf
    refine lv_iconst (v := (-1 : Int32)) hx hb dX7_put_19 (by decide) ?_
    exact e_i X hr hlk hh (so2_e hf) dX7_put_20
  · have hf := if_f hc5 hf
    refine lv_iload_n hx hb dX7_put_12 rfl (lv_at hl 3 rfl) ?_
    obtain ⟨v7, hc6, hf⟩ := c1_e hf
    refine q_S (w' := w) (rest := []) X hml hh (some (.int v7)) (m_X7_isNumber l B D hN hc6) cf_X7_isNumber k_454 rfl hl.1 rfl (Nat.le_of_ble_eq_true rfl) ⟨Nat.le_of_ble_eq_true rfl, Nat.le_of_ble_eq_true rfl⟩ ⟨Nat.zero_le _, Nat.zero_le _⟩ dX7_put_13 rfl (fun H locs hh => ?_)
    refine lv_if_ne (tgt := 21) hx hb dX7_put_16 (by decide) (fun hc8 => ?_) (fun hc8 => ?_)
    · have hf := if_f hc8 hf
      refine lv_aload_n hx hb dX7_put_21 rfl (lv_at hl 0 rfl) ?_
      refine q_gr (P := 0) X hh ht fk_X7_14 dX7_put_22 hN hf (fun t9 h10 hf => ?_)
      refine lv_iload_n hx hb dX7_put_25 rfl (lv_at hl 1 rfl) ?_
      refine lv_iload_n hx hb dX7_put_26 rfl (lv_at hl 2 rfl) ?_
      obtain ⟨v12, hc11, hf⟩ := c1_e hf
      refine q_V (w' := w) (rest := []) X hml hh (some (.int v12)) (m_X0_numberAt l B D hN h10 hc11) cf_X0_numberAt k_202 h10 ci_0 rfl rfl hl.1 rfl (Nat.le_of_ble_eq_true rfl) ⟨Nat.le_of_ble_eq_true rfl, Nat.le_of_ble_eq_true rfl⟩ ⟨Nat.zero_le _, Nat.zero_le _⟩ dX7_put_27 rfl (fun H locs hh => ?_)
      refine lv_istore (lv' := [(4, .int v12), (0, .ref (B + t)), (1, .int a0), (2, .int a1), (3, .int a2)]) hx hb dX7_put_30 hl (by decide) rfl (fun ls hl => ?_)
      refine lv_aload_n hx hb dX7_put_32 rfl (lv_at hl 1 rfl) ?_
      obtain ⟨w14, hc13, hf⟩ := c1_e hf
      refine q_V (w' := w14) (rest := []) X hml hh none (m_X7_beginDeed l B D hN ht hc13) cf_X7_beginDeed k_217 ht ci_7 rfl rfl hl.1 rfl (Nat.le_of_ble_eq_true rfl) ⟨Nat.le_of_ble_eq_true rfl, Nat.le_of_ble_eq_true rfl⟩ ⟨Nat.zero_le _, Nat.zero_le _⟩ dX7_put_33 rfl (fun H locs hh => ?_)
      refine lv_aload_n hx hb dX7_put_36 rfl (lv_at hl 1 rfl) ?_
      refine q_gr (P := 0) X hh ht fk_X7_14 dX7_put_37 hN hf (fun t15 h16 hf => ?_)
      refine lv_iload_n hx hb dX7_put_40 rfl (lv_at hl 2 rfl) ?_
      refine lv_iload_n hx hb dX7_put_41 rfl (lv_at hl 3 rfl) ?_
      refine lv_iload_n hx hb dX7_put_42 rfl (lv_at hl 4 rfl) ?_
      obtain ⟨w18, hc17, hf⟩ := c1_e hf
      refine q_V (w' := w18) (rest := []) X hml hh none (m_X0_setNumber l B D hN h16 hc17) cf_X0_setNumber k_457 h16 ci_0 rfl rfl hl.1 rfl (Nat.le_of_ble_eq_true rfl) ⟨Nat.le_of_ble_eq_true rfl, Nat.le_of_ble_eq_true rfl⟩ ⟨Nat.zero_le _, Nat.zero_le _⟩ dX7_put_43 rfl (fun H locs hh => ?_)
      refine lv_iload hx hb dX7_put_46 (lv_at hl 0 rfl) ?_
      exact e_i X hr hlk hh (so2_e hf) dX7_put_48
    · have hf := if_t hc8 hf
      refine lv_iconst (v := (-1 : Int32)) hx hb dX7_put_19 (by decide) ?_
      exact e_i X hr hlk hh (so2_e hf) dX7_put_20
set_option maxHeartbeats 4000000 in
set_option maxRecDepth 100000 in
theorem m_X7_cell (l : Launch) (B : Nat) (D : DD) {n : Nat} (hN : 139 ≤ n) {t : Nat} {a0 : Int32} {a1 : Int32} {w : Wd} {r : Int32} (ht : t < n ∧ kd t = 7) (hf : f_X7_cell t a0 a1 w = some r) : Ct l yX7_cell cX7_cell 3 (some .int) 2 44 0 0 B D [.ref (B + t), .int a0, .int a1] n w (some (.int r)) n w := by
  refine m_of (by decide) (Nat.le_of_ble_eq_true rfl) (fun p e s m args below meth c X hml hr hlk _ H locs hh ls hl => ?_)
  have hx := X.1
  have hb := X.2.1
  have hl : lv_has ls 3 [(0, .ref (B + t)), (1, .int a0), (2, .int a1)] := hl
  unfold f_X7_cell at hf
  refine lv_aload_n hx hb dX7_cell_0 rfl (lv_at hl 0 rfl) ?_
  refine q_gr (P := 0) X hh ht fk_X7_14 dX7_cell_1 hN hf (fun t1 h2 hf => ?_)
  refine lv_iload_n hx hb dX7_cell_4 rfl (lv_at hl 1 rfl) ?_
  refine lv_iload_n hx hb dX7_cell_5 rfl (lv_at hl 2 rfl) ?_
  obtain ⟨v4, hc3, hf⟩ := c1_e hf
  refine q_V (w' := w) (rest := []) X hml hh (some (.int v4)) (m_X0_hasCell l B D hN h2 hc3) cf_X0_hasCell k_198 h2 ci_0 rfl rfl hl.1 rfl (Nat.le_of_ble_eq_true rfl) ⟨Nat.le_of_ble_eq_true rfl, Nat.le_of_ble_eq_true rfl⟩ ⟨Nat.zero_le _, Nat.zero_le _⟩ dX7_cell_6 rfl (fun H locs hh => ?_)
  refine lv_if_eq (tgt := 24) hx hb dX7_cell_9 (by decide) (fun hc5 => ?_) (fun hc5 => ?_)
  · have hf := if_t hc5 hf
    refine lv_iconst (v := (-1 : Int32)) hx hb dX7_cell_24 (by decide) ?_
    exact e_i X hr hlk hh ⟨so_e hf, rfl⟩ dX7_cell_25
  · have hf := if_f hc5 hf
    refine lv_aload_n hx hb dX7_cell_12 rfl (lv_at hl 0 rfl) ?_
    refine q_gr (P := 0) X hh ht fk_X7_14 dX7_cell_13 hN hf (fun t6 h7 hf => ?_)
    refine lv_iload_n hx hb dX7_cell_16 rfl (lv_at hl 1 rfl) ?_
    refine lv_iload_n hx hb dX7_cell_17 rfl (lv_at hl 2 rfl) ?_
    obtain ⟨v9, hc8, hf⟩ := c1_e hf
    refine q_V (w' := w) (rest := []) X hml hh (some (.int v9)) (m_X0_numberAt l B D hN h7 hc8) cf_X0_numberAt k_202 h7 ci_0 rfl rfl hl.1 rfl (Nat.le_of_ble_eq_true rfl) ⟨Nat.le_of_ble_eq_true rfl, Nat.le_of_ble_eq_true rfl⟩ ⟨Nat.zero_le _, Nat.zero_le _⟩ dX7_cell_18 rfl (fun H locs hh => ?_)
    refine lv_goto (tgt := 25) hx hb dX7_cell_21 (by decide) ?_
    exact e_i X hr hlk hh ⟨so_e hf, rfl⟩ dX7_cell_25
set_option maxHeartbeats 4000000 in
set_option maxRecDepth 100000 in
theorem m_X7_isRule (l : Launch) (B : Nat) (D : DD) {n : Nat} (hN : 139 ≤ n) {a0 : Int32} {w : Wd} {r : Int32} (hf : f_X7_isRule a0 = some r) : Ct l yX7_isRule cX7_isRule 1 (some .boolean) 0 0 0 0 B D [.int a0] n w (some (.int r)) n w := by
  refine m_of (by decide) (Nat.le_of_ble_eq_true rfl) (fun p e s m args below meth c X hml hr hlk _ H locs hh ls hl => ?_)
  have hx := X.1
  have hb := X.2.1
  have hl : lv_has ls 1 [(0, .int a0)] := hl
  unfold f_X7_isRule at hf
  refine lv_iload_n hx hb dX7_isRule_0 rfl (lv_at hl 0 rfl) ?_
  refine mg_W (P := fun (x3 : Int32) => ∀ (ls : Array Slot), lv_has ls 1 [] → W p l e (rmk 0 0 0 0) s m args below meth c H locs 0 0 (MZ below B D n w (some (.int r)) args s 0 0) (F0 m 14 ls [.int x3])) hf (fun x3 hf ls hl => ?_) (fun hj4 => ?_)
  · have hz := zb_e hf
    have hf := hz.2
    exact e_z X hr hlk hh hz.1 ⟨so_e hf, rfl⟩ dX7_isRule_14
  · refine lv_if_lt (tgt := 13) hx hb dX7_isRule_1 (by decide) (fun hc1 => ?_) (fun hc1 => ?_)
    · refine lv_iconst (v := (0 : Int32)) hx hb dX7_isRule_13 (by decide) ?_
      exact hj4 _ (by rw [if_pos hc1]) ls (lv_sub hl [] rfl)
    · refine lv_iload_n hx hb dX7_isRule_4 rfl (lv_at hl 0 rfl) ?_
      refine lv_iconst (v := (4 : Int32)) hx hb dX7_isRule_5 (by decide) ?_
      refine lv_icmp_ge (tgt := 13) hx hb dX7_isRule_6 (by decide) (fun hc2 => ?_) (fun hc2 => ?_)
      · refine lv_iconst (v := (0 : Int32)) hx hb dX7_isRule_13 (by decide) ?_
        exact hj4 _ (by rw [if_neg hc1, if_pos hc2]) ls (lv_sub hl [] rfl)
      · refine lv_iconst (v := (1 : Int32)) hx hb dX7_isRule_9 (by decide) ?_
        refine lv_goto (tgt := 14) hx hb dX7_isRule_10 (by decide) ?_
        exact hj4 _ (by rw [if_neg hc1, if_neg hc2]) ls (lv_sub hl [] rfl)
set_option maxHeartbeats 4000000 in
set_option maxRecDepth 100000 in
theorem m_X7_rule (l : Launch) (B : Nat) (D : DD) {n : Nat} (hN : 139 ≤ n) {t : Nat} {a0 : Int32} {w : Wd} {r : Int32} {w' : Wd} (ht : t < n ∧ kd t = 7) (hf : f_X7_rule t a0 w = some (r, w')) : Ct l yX7_rule cX7_rule 3 (some .int) 3 63 0 0 B D [.ref (B + t), .int a0] n w (some (.int r)) n w' := by
  refine m_of (by decide) (Nat.le_of_ble_eq_true rfl) (fun p e s m args below meth c X hml hr hlk _ H locs hh ls hl => ?_)
  have hx := X.1
  have hb := X.2.1
  have hl : lv_has ls 3 [(0, .ref (B + t)), (1, .int a0)] := hl
  unfold f_X7_rule at hf
  refine lv_iload_n hx hb dX7_rule_0 rfl (lv_at hl 1 rfl) ?_
  obtain ⟨v2, hc1, hf⟩ := c1_e hf
  refine q_S (w' := w) (rest := []) X hml hh (some (.int v2)) (m_X7_isRule l B D hN hc1) cf_X7_isRule k_214 rfl hl.1 rfl (Nat.le_of_ble_eq_true rfl) ⟨Nat.le_of_ble_eq_true rfl, Nat.le_of_ble_eq_true rfl⟩ ⟨Nat.zero_le _, Nat.zero_le _⟩ dX7_rule_1 rfl (fun H locs hh => ?_)
  refine lv_if_ne (tgt := 9) hx hb dX7_rule_4 (by decide) (fun hc3 => ?_) (fun hc3 => ?_)
  · have hf := if_f hc3 hf
    refine lv_aload_n hx hb dX7_rule_9 rfl (lv_at hl 0 rfl) ?_
    refine q_gr (P := 0) X hh ht fk_X7_14 dX7_rule_10 hN hf (fun t4 h5 hf => ?_)
    refine r_gi X hh h5 fk_X7_102 dX7_rule_13 ?_
    refine lv_topi (fun x6 e7 => ?_)
    have hf := lt_e e7 hf
    refine lv_istore_n (lv' := [(2, .int x6), (0, .ref (B + t)), (1, .int a0)]) hx hb dX7_rule_16 rfl hl (by decide) rfl (fun ls hl => ?_)
    refine lv_aload_n hx hb dX7_rule_17 rfl (lv_at hl 1 rfl) ?_
    obtain ⟨w9, hc8, hf⟩ := c1_e hf
    refine q_V (w' := w9) (rest := []) X hml hh none (m_X7_beginDeed l B D hN ht hc8) cf_X7_beginDeed k_217 ht ci_7 rfl rfl hl.1 rfl (Nat.le_of_ble_eq_true rfl) ⟨Nat.le_of_ble_eq_true rfl, Nat.le_of_ble_eq_true rfl⟩ ⟨Nat.zero_le _, Nat.zero_le _⟩ dX7_rule_18 rfl (fun H locs hh => ?_)
    refine lv_aload_n hx hb dX7_rule_21 rfl (lv_at hl 1 rfl) ?_
    refine q_gr (P := 0) X hh ht fk_X7_14 dX7_rule_22 hN hf (fun t10 h11 hf => ?_)
    refine lv_iload_n hx hb dX7_rule_25 rfl (lv_at hl 2 rfl) ?_
    refine q_pi X hh h11 fk_X7_102 pk_0_2 rfl rfl dX7_rule_26 hf (fun w12 H locs hf hh => ?_)
    refine lv_iload_n hx hb dX7_rule_29 rfl (lv_at hl 0 rfl) ?_
    exact e_i X hr hlk hh (so2_e hf) dX7_rule_30
  · have hf := if_t hc3 hf
    refine lv_iconst (v := (-1 : Int32)) hx hb dX7_rule_7 (by decide) ?_
    exact e_i X hr hlk hh (so2_e hf) dX7_rule_8
set_option maxHeartbeats 4000000 in
set_option maxRecDepth 100000 in
theorem m_X7_spelled (l : Launch) (B : Nat) (D : DD) {n : Nat} (hN : 139 ≤ n) {t : Nat} {w : Wd} {r : Int32} (ht : t < n ∧ kd t = 7) (hf : f_X7_spelled t w = some r) : Ct l yX7_spelled cX7_spelled 1 (some .int) 3 69 0 0 B D [.ref (B + t)] n w (some (.int r)) n w := by
  refine m_of (by decide) (Nat.le_of_ble_eq_true rfl) (fun p e s m args below meth c X hml hr hlk _ H locs hh ls hl => ?_)
  have hx := X.1
  have hb := X.2.1
  have hl : lv_has ls 1 [(0, .ref (B + t))] := hl
  unfold f_X7_spelled at hf
  refine lv_aload_n hx hb dX7_spelled_0 rfl (lv_at hl 0 rfl) ?_
  refine q_gr (P := 0) X hh ht fk_X7_14 dX7_spelled_1 hN hf (fun t1 h2 hf => ?_)
  obtain ⟨v4, hc3, hf⟩ := c1_e hf
  refine q_V (w' := w) (rest := []) X hml hh (some (.int v4)) (m_X0_spelling l B D hN h2 hc3) cf_X0_spelling k_237 h2 ci_0 rfl rfl hl.1 rfl (Nat.le_of_ble_eq_true rfl) ⟨Nat.le_of_ble_eq_true rfl, Nat.le_of_ble_eq_true rfl⟩ ⟨Nat.zero_le _, Nat.zero_le _⟩ dX7_spelled_4 rfl (fun H locs hh => ?_)
  exact e_i X hr hlk hh ⟨so_e hf, rfl⟩ dX7_spelled_7
set_option maxHeartbeats 4000000 in
set_option maxRecDepth 100000 in
theorem m_X7_isPlace (l : Launch) (B : Nat) (D : DD) {n : Nat} (hN : 139 ≤ n) {a0 : Int32} {w : Wd} {r : Int32} (hf : f_X7_isPlace a0 = some r) : Ct l yX7_isPlace cX7_isPlace 1 (some .boolean) 0 0 0 0 B D [.int a0] n w (some (.int r)) n w := by
  refine m_of (by decide) (Nat.le_of_ble_eq_true rfl) (fun p e s m args below meth c X hml hr hlk _ H locs hh ls hl => ?_)
  have hx := X.1
  have hb := X.2.1
  have hl : lv_has ls 1 [(0, .int a0)] := hl
  unfold f_X7_isPlace at hf
  refine lv_iload_n hx hb dX7_isPlace_0 rfl (lv_at hl 0 rfl) ?_
  refine mg_W (P := fun (x3 : Int32) => ∀ (ls : Array Slot), lv_has ls 1 [] → W p l e (rmk 0 0 0 0) s m args below meth c H locs 0 0 (MZ below B D n w (some (.int r)) args s 0 0) (F0 m 15 ls [.int x3])) hf (fun x3 hf ls hl => ?_) (fun hj4 => ?_)
  · have hz := zb_e hf
    have hf := hz.2
    exact e_z X hr hlk hh hz.1 ⟨so_e hf, rfl⟩ dX7_isPlace_15
  · refine lv_if_lt (tgt := 14) hx hb dX7_isPlace_1 (by decide) (fun hc1 => ?_) (fun hc1 => ?_)
    · refine lv_iconst (v := (0 : Int32)) hx hb dX7_isPlace_14 (by decide) ?_
      exact hj4 _ (by rw [if_pos hc1]) ls (lv_sub hl [] rfl)
    · refine lv_iload_n hx hb dX7_isPlace_4 rfl (lv_at hl 0 rfl) ?_
      refine lv_bipush (v := (100 : Int32)) hx hb dX7_isPlace_5 (by decide) ?_
      refine lv_icmp_ge (tgt := 14) hx hb dX7_isPlace_7 (by decide) (fun hc2 => ?_) (fun hc2 => ?_)
      · refine lv_iconst (v := (0 : Int32)) hx hb dX7_isPlace_14 (by decide) ?_
        exact hj4 _ (by rw [if_neg hc1, if_pos hc2]) ls (lv_sub hl [] rfl)
      · refine lv_iconst (v := (1 : Int32)) hx hb dX7_isPlace_10 (by decide) ?_
        refine lv_goto (tgt := 15) hx hb dX7_isPlace_11 (by decide) ?_
        exact hj4 _ (by rw [if_neg hc1, if_neg hc2]) ls (lv_sub hl [] rfl)
set_option maxHeartbeats 4000000 in
set_option maxRecDepth 100000 in
theorem m_X7_grownCorners (l : Launch) (B : Nat) (D : DD) {n : Nat} (hN : 139 ≤ n) {t : Nat} {w : Wd} {r : Nat} {w' : Wd} (ht : t < n ∧ kd t = 7) (hf : f_X7_grownCorners t w = some (r, w')) : Ct l yX7_grownCorners cX7_grownCorners 1 (some (.object "GrowthGrid$Corners")) 4 99 0 0 B D [.ref (B + t)] n w (some (.ref (B + r))) n w' := by
  refine m_of (by decide) (Nat.le_of_ble_eq_true rfl) (fun p e s m args below meth c X hml hr hlk _ H locs hh ls hl => ?_)
  have hx := X.1
  have hb := X.2.1
  have hl : lv_has ls 1 [(0, .ref (B + t))] := hl
  unfold f_X7_grownCorners at hf
  refine lv_aload_n hx hb dX7_grownCorners_0 rfl (lv_at hl 0 rfl) ?_
  refine r_gi X hh ht fk_X7_35 dX7_grownCorners_1 ?_
  refine jn_W (P := fun j3 => ∀ (w2 : Wd), j3 w2 = some (r, w') → ∀ (H : Heap) (locs : List Loc) (ls : Array Slot), Hp B D n w2 s H locs → lv_has ls 1 [(0, .ref (B + t))] → W p l e (rmk 4 99 0 0) s m args below meth c H locs 0 0 (MZ below B D n w' (some (.ref (B + r))) args s 0 0) (F0 m 23 ls [])) hf (fun w2 hf  H locs ls hh hl => ?_) (fun j3 hj3 hf => ?_)
  · refine lv_aload_n hx hb dX7_grownCorners_23 rfl (lv_at hl 0 rfl) ?_
    refine q_gr (P := 1) X hh ht fk_X7_31 dX7_grownCorners_24 hN hf (fun t4 h5 hf => ?_)
    exact e_a X hr hlk hh (so2_e hf) dX7_grownCorners_27
  · refine lv_if_ne (tgt := 23) hx hb dX7_grownCorners_4 (by decide) (fun hc1 => ?_) (fun hc1 => ?_)
    · have hf := if_f hc1 hf
      exact hj3 _ hf  _ _ _ hh (lv_sub hl [0] rfl)
    · have hf := if_t hc1 hf
      refine lv_aload_n hx hb dX7_grownCorners_7 rfl (lv_at hl 0 rfl) ?_
      refine q_gr (P := 1) X hh ht fk_X7_31 dX7_grownCorners_8 hN hf (fun t6 h7 hf => ?_)
      refine lv_aload_n hx hb dX7_grownCorners_11 rfl (lv_at hl 0 rfl) ?_
      refine q_gr (P := 0) X hh ht fk_X7_14 dX7_grownCorners_12 hN hf (fun t8 h9 hf => ?_)
      obtain ⟨w11, hc10, hf⟩ := c1_e hf
      refine q_V (w' := w11) (rest := []) X hml hh none (m_X1_growOver l B D hN h7 h9 hc10) cf_X1_growOver k_261 h7 ci_1 rfl rfl hl.1 rfl (Nat.le_of_ble_eq_true rfl) ⟨Nat.le_of_ble_eq_true rfl, Nat.le_of_ble_eq_true rfl⟩ ⟨Nat.zero_le _, Nat.zero_le _⟩ dX7_grownCorners_15 rfl (fun H locs hh => ?_)
      refine lv_aload_n hx hb dX7_grownCorners_18 rfl (lv_at hl 0 rfl) ?_
      refine lv_iconst (v := (1 : Int32)) hx hb dX7_grownCorners_19 (by decide) ?_
      refine q_pi X hh ht fk_X7_35 pk_7_5 rfl rfl dX7_grownCorners_20 hf (fun w12 H locs hf hh => ?_)
      exact hj3 _ hf  _ _ _ hh (lv_sub hl [0] rfl)
set_option maxHeartbeats 4000000 in
set_option maxRecDepth 100000 in
theorem m_X7_shapeAt (l : Launch) (B : Nat) (D : DD) {n : Nat} (hN : 139 ≤ n) {t : Nat} {a0 : Int32} {a1 : Int32} {w : Wd} {r : Nat} {w' : Wd} (ht : t < n ∧ kd t = 7) (hf : f_X7_shapeAt t a0 a1 w = some (r, w')) : Ct l yX7_shapeAt cX7_shapeAt 3 (some (.object "GrowthGrid$Shape")) 5 119 0 0 B D [.ref (B + t), .int a0, .int a1] n w (some (.ref (B + r))) n w' := by
  refine m_of (by decide) (Nat.le_of_ble_eq_true rfl) (fun p e s m args below meth c X hml hr hlk _ H locs hh ls hl => ?_)
  have hx := X.1
  have hb := X.2.1
  have hl : lv_has ls 3 [(0, .ref (B + t)), (1, .int a0), (2, .int a1)] := hl
  unfold f_X7_shapeAt at hf
  refine lv_aload_n hx hb dX7_shapeAt_0 rfl (lv_at hl 0 rfl) ?_
  obtain ⟨v2, w3, hc1, hf⟩ := c2_e hf
  obtain ⟨h4, hf⟩ := ck_n hN hf
  refine q_V (w' := w3) (rest := []) X hml hh (some (.ref (B + v2))) (m_X7_grownCorners l B D hN ht hc1) cf_X7_grownCorners k_257 ht ci_7 rfl rfl hl.1 rfl (Nat.le_of_ble_eq_true rfl) ⟨Nat.le_of_ble_eq_true rfl, Nat.le_of_ble_eq_true rfl⟩ ⟨Nat.zero_le _, Nat.zero_le _⟩ dX7_shapeAt_1 rfl (fun H locs hh => ?_)
  refine lv_iload_n hx hb dX7_shapeAt_4 rfl (lv_at hl 1 rfl) ?_
  refine lv_iload_n hx hb dX7_shapeAt_5 rfl (lv_at hl 2 rfl) ?_
  obtain ⟨v6, hc5, hf⟩ := c1_e hf
  obtain ⟨h7, hf⟩ := ck_n hN hf
  refine q_V (w' := w3) (rest := []) X hml hh (some (.ref (B + v6))) (m_X1_at l B D hN h4 hc5) cf_X1_at k_296 h4 ci_1 rfl rfl hl.1 rfl (Nat.le_of_ble_eq_true rfl) ⟨Nat.le_of_ble_eq_true rfl, Nat.le_of_ble_eq_true rfl⟩ ⟨Nat.zero_le _, Nat.zero_le _⟩ dX7_shapeAt_6 rfl (fun H locs hh => ?_)
  exact e_a X hr hlk hh (so2_e hf) dX7_shapeAt_9
set_option maxHeartbeats 4000000 in
set_option maxRecDepth 100000 in
theorem m_X7_part (l : Launch) (B : Nat) (D : DD) {n : Nat} (hN : 139 ≤ n) {t : Nat} {a0 : Int32} {a1 : Int32} {a2 : Int32} {w : Wd} {r : Int32} {w' : Wd} (ht : t < n ∧ kd t = 7) (hf : f_X7_part t a0 a1 a2 w = some (r, w')) : Ct l yX7_part cX7_part 4 (some .int) 6 141 0 0 B D [.ref (B + t), .int a0, .int a1, .int a2] n w (some (.int r)) n w' := by
  refine m_of (by decide) (Nat.le_of_ble_eq_true rfl) (fun p e s m args below meth c X hml hr hlk _ H locs hh ls hl => ?_)
  have hx := X.1
  have hb := X.2.1
  have hl : lv_has ls 4 [(0, .ref (B + t)), (1, .int a0), (2, .int a1), (3, .int a2)] := hl
  unfold f_X7_part at hf
  refine lv_aload_n hx hb dX7_part_0 rfl (lv_at hl 0 rfl) ?_
  refine q_gr (P := 0) X hh ht fk_X7_14 dX7_part_1 hN hf (fun t1 h2 hf => ?_)
  refine lv_iload_n hx hb dX7_part_4 rfl (lv_at hl 1 rfl) ?_
  refine lv_iload_n hx hb dX7_part_5 rfl (lv_at hl 2 rfl) ?_
  obtain ⟨v4, hc3, hf⟩ := c1_e hf
  refine q_V (w' := w) (rest := []) X hml hh (some (.int v4)) (m_X0_hasCorner l B D hN h2 hc3) cf_X0_hasCorner k_246 h2 ci_0 rfl rfl hl.1 rfl (Nat.le_of_ble_eq_true rfl) ⟨Nat.le_of_ble_eq_true rfl, Nat.le_of_ble_eq_true rfl⟩ ⟨Nat.zero_le _, Nat.zero_le _⟩ dX7_part_6 rfl (fun H locs hh => ?_)
  refine lv_if_eq (tgt := 19) hx hb dX7_part_9 (by decide) (fun hc5 => ?_) (fun hc5 => ?_)
  · have hf := if_t hc5 hf
    refine lv_iconst (v := (-1 : Int32)) hx hb dX7_part_19 (by decide) ?_
    exact e_i X hr hlk hh (so2_e hf) dX7_part_20
  · have hf := if_f hc5 hf
    refine lv_iload_n hx hb dX7_part_12 rfl (lv_at hl 3 rfl) ?_
    obtain ⟨v7, hc6, hf⟩ := c1_e hf
    refine q_S (w' := w) (rest := []) X hml hh (some (.int v7)) (m_X7_isPlace l B D hN hc6) cf_X7_isPlace k_250 rfl hl.1 rfl (Nat.le_of_ble_eq_true rfl) ⟨Nat.le_of_ble_eq_true rfl, Nat.le_of_ble_eq_true rfl⟩ ⟨Nat.zero_le _, Nat.zero_le _⟩ dX7_part_13 rfl (fun H locs hh => ?_)
    refine lv_if_ne (tgt := 21) hx hb dX7_part_16 (by decide) (fun hc8 => ?_) (fun hc8 => ?_)
    · have hf := if_f hc8 hf
      refine lv_aload_n hx hb dX7_part_21 rfl (lv_at hl 0 rfl) ?_
      refine lv_iload_n hx hb dX7_part_22 rfl (lv_at hl 1 rfl) ?_
      refine lv_iload_n hx hb dX7_part_23 rfl (lv_at hl 2 rfl) ?_
      obtain ⟨v10, w11, hc9, hf⟩ := c2_e hf
      obtain ⟨h12, hf⟩ := ck_n hN hf
      refine q_V (w' := w11) (rest := []) X hml hh (some (.ref (B + v10))) (m_X7_shapeAt l B D hN ht hc9) cf_X7_shapeAt k_253 ht ci_7 rfl rfl hl.1 rfl (Nat.le_of_ble_eq_true rfl) ⟨Nat.le_of_ble_eq_true rfl, Nat.le_of_ble_eq_true rfl⟩ ⟨Nat.zero_le _, Nat.zero_le _⟩ dX7_part_24 rfl (fun H locs hh => ?_)
      refine lv_iload_n hx hb dX7_part_27 rfl (lv_at hl 3 rfl) ?_
      obtain ⟨v14, hc13, hf⟩ := c1_e hf
      refine q_V (w' := w11) (rest := []) X hml hh (some (.int v14)) (m_X5_partAt l B D hN h12 hc13) cf_X5_partAt k_297 h12 ci_5 rfl rfl hl.1 rfl (Nat.le_of_ble_eq_true rfl) ⟨Nat.le_of_ble_eq_true rfl, Nat.le_of_ble_eq_true rfl⟩ ⟨Nat.zero_le _, Nat.zero_le _⟩ dX7_part_28 rfl (fun H locs hh => ?_)
      exact e_i X hr hlk hh (so2_e hf) dX7_part_31
    · have hf := if_t hc8 hf
      refine lv_iconst (v := (-1 : Int32)) hx hb dX7_part_19 (by decide) ?_
      exact e_i X hr hlk hh (so2_e hf) dX7_part_20
set_option maxHeartbeats 4000000 in
set_option maxRecDepth 100000 in
theorem m_X7_shape (l : Launch) (B : Nat) (D : DD) {n : Nat} (hN : 139 ≤ n) {t : Nat} {a0 : Int32} {a1 : Int32} {a2 : Int32} {w : Wd} {r : Int32} {w' : Wd} (ht : t < n ∧ kd t = 7) (hf : f_X7_shape t a0 a1 a2 w = some (r, w')) : Ct l yX7_shape cX7_shape 5 (some .int) 6 141 0 0 B D [.ref (B + t), .int a0, .int a1, .int a2] n w (some (.int r)) n w' := by
  refine m_of (by decide) (Nat.le_of_ble_eq_true rfl) (fun p e s m args below meth c X hml hr hlk _ H locs hh ls hl => ?_)
  have hx := X.1
  have hb := X.2.1
  have hl : lv_has ls 5 [(0, .ref (B + t)), (1, .int a0), (2, .int a1), (3, .int a2)] := hl
  unfold f_X7_shape at hf
  refine lv_aload_n hx hb dX7_shape_0 rfl (lv_at hl 0 rfl) ?_
  refine q_gr (P := 0) X hh ht fk_X7_14 dX7_shape_1 hN hf (fun t1 h2 hf => ?_)
  refine lv_iload_n hx hb dX7_shape_4 rfl (lv_at hl 1 rfl) ?_
  refine lv_iload_n hx hb dX7_shape_5 rfl (lv_at hl 2 rfl) ?_
  obtain ⟨v4, hc3, hf⟩ := c1_e hf
  refine q_V (w' := w) (rest := []) X hml hh (some (.int v4)) (m_X0_hasCorner l B D hN h2 hc3) cf_X0_hasCorner k_246 h2 ci_0 rfl rfl hl.1 rfl (Nat.le_of_ble_eq_true rfl) ⟨Nat.le_of_ble_eq_true rfl, Nat.le_of_ble_eq_true rfl⟩ ⟨Nat.zero_le _, Nat.zero_le _⟩ dX7_shape_6 rfl (fun H locs hh => ?_)
  refine lv_if_eq (tgt := 21) hx hb dX7_shape_9 (by decide) (fun hc5 => ?_) (fun hc5 => ?_)
  · have hf := if_t hc5 hf
    refine lv_iconst (v := (-1 : Int32)) hx hb dX7_shape_21 (by decide) ?_
    exact e_i X hr hlk hh (so2_e hf) dX7_shape_22
  · have hf := if_f hc5 hf
    refine lv_iload_n hx hb dX7_shape_12 rfl (lv_at hl 3 rfl) ?_
    refine lv_if_lt (tgt := 21) hx hb dX7_shape_13 (by decide) (fun hc6 => ?_) (fun hc6 => ?_)
    · have hf := if_t hc6 hf
      refine lv_iconst (v := (-1 : Int32)) hx hb dX7_shape_21 (by decide) ?_
      exact e_i X hr hlk hh (so2_e hf) dX7_shape_22
    · have hf := if_f hc6 hf
      refine lv_iload_n hx hb dX7_shape_16 rfl (lv_at hl 3 rfl) ?_
      refine lv_iconst (v := (1 : Int32)) hx hb dX7_shape_17 (by decide) ?_
      refine lv_icmp_le (tgt := 23) hx hb dX7_shape_18 (by decide) (fun hc7 => ?_) (fun hc7 => ?_)
      · have hf := if_t hc7 hf
        refine lv_aload_n hx hb dX7_shape_23 rfl (lv_at hl 0 rfl) ?_
        refine lv_iload_n hx hb dX7_shape_24 rfl (lv_at hl 1 rfl) ?_
        refine lv_iload_n hx hb dX7_shape_25 rfl (lv_at hl 2 rfl) ?_
        obtain ⟨v9, w10, hc8, hf⟩ := c2_e hf
        obtain ⟨h11, hf⟩ := ck_n hN hf
        refine q_V (w' := w10) (rest := []) X hml hh (some (.ref (B + v9))) (m_X7_shapeAt l B D hN ht hc8) cf_X7_shapeAt k_253 ht ci_7 rfl rfl hl.1 rfl (Nat.le_of_ble_eq_true rfl) ⟨Nat.le_of_ble_eq_true rfl, Nat.le_of_ble_eq_true rfl⟩ ⟨Nat.zero_le _, Nat.zero_le _⟩ dX7_shape_26 rfl (fun H locs hh => ?_)
        refine lv_astore (lv' := [(4, .ref (B + v9)), (0, .ref (B + t)), (1, .int a0), (2, .int a1), (3, .int a2)]) hx hb dX7_shape_29 hl (by decide) rfl (fun ls hl => ?_)
        refine lv_iload_n hx hb dX7_shape_31 rfl (lv_at hl 4 rfl) ?_
        refine mg_W (P := fun (x13 : Int32) => ∀ (ls : Array Slot), lv_has ls 5 [] → W p l e (rmk 6 141 0 0) s m args below meth c H locs 0 0 (MZ below B D n w' (some (.int r)) args s 0 0) (F0 m 48 ls [.int x13])) hf (fun x13 hf ls hl => ?_) (fun hj14 => ?_)
        · exact e_i X hr hlk hh (so2_e hf) dX7_shape_48
        · refine lv_if_ne (tgt := 43) hx hb dX7_shape_32 (by decide) (fun hc12 => ?_) (fun hc12 => ?_)
          · refine lv_aload hx hb dX7_shape_43 (lv_at hl 0 rfl) ?_
            refine r_gi X hh h11 fk_X7_142 dX7_shape_45 ?_
            exact hj14 _ (by rw [if_neg hc12]) ls (lv_sub hl [] rfl)
          · refine lv_aload hx hb dX7_shape_35 (lv_at hl 0 rfl) ?_
            refine r_gi X hh h11 fk_X7_139 dX7_shape_37 ?_
            refine lv_goto (tgt := 48) hx hb dX7_shape_40 (by decide) ?_
            exact hj14 _ (by rw [if_pos hc12]) ls (lv_sub hl [] rfl)
      · have hf := if_f hc7 hf
        refine lv_iconst (v := (-1 : Int32)) hx hb dX7_shape_21 (by decide) ?_
        exact e_i X hr hlk hh (so2_e hf) dX7_shape_22
set_option maxHeartbeats 4000000 in
set_option maxRecDepth 100000 in
theorem m_X7_turned (l : Launch) (B : Nat) (D : DD) {n : Nat} (hN : 139 ≤ n) {t : Nat} {a0 : Int32} {a1 : Int32} {a2 : Int32} {w : Wd} {r : Int32} {w' : Wd} (ht : t < n ∧ kd t = 7) (hf : f_X7_turned t a0 a1 a2 w = some (r, w')) : Ct l yX7_turned cX7_turned 4 (some .int) 6 141 0 0 B D [.ref (B + t), .int a0, .int a1, .int a2] n w (some (.int r)) n w' := by
  refine m_of (by decide) (Nat.le_of_ble_eq_true rfl) (fun p e s m args below meth c X hml hr hlk _ H locs hh ls hl => ?_)
  have hx := X.1
  have hb := X.2.1
  have hl : lv_has ls 4 [(0, .ref (B + t)), (1, .int a0), (2, .int a1), (3, .int a2)] := hl
  unfold f_X7_turned at hf
  refine lv_aload_n hx hb dX7_turned_0 rfl (lv_at hl 0 rfl) ?_
  refine q_gr (P := 0) X hh ht fk_X7_14 dX7_turned_1 hN hf (fun t1 h2 hf => ?_)
  refine lv_iload_n hx hb dX7_turned_4 rfl (lv_at hl 1 rfl) ?_
  refine lv_iload_n hx hb dX7_turned_5 rfl (lv_at hl 2 rfl) ?_
  obtain ⟨v4, hc3, hf⟩ := c1_e hf
  refine q_V (w' := w) (rest := []) X hml hh (some (.int v4)) (m_X0_hasCorner l B D hN h2 hc3) cf_X0_hasCorner k_246 h2 ci_0 rfl rfl hl.1 rfl (Nat.le_of_ble_eq_true rfl) ⟨Nat.le_of_ble_eq_true rfl, Nat.le_of_ble_eq_true rfl⟩ ⟨Nat.zero_le _, Nat.zero_le _⟩ dX7_turned_6 rfl (fun H locs hh => ?_)
  refine lv_if_eq (tgt := 19) hx hb dX7_turned_9 (by decide) (fun hc5 => ?_) (fun hc5 => ?_)
  · have hf := if_t hc5 hf
    refine lv_iconst (v := (-1 : Int32)) hx hb dX7_turned_19 (by decide) ?_
    exact e_i X hr hlk hh (so2_e hf) dX7_turned_20
  · have hf := if_f hc5 hf
    refine lv_iload_n hx hb dX7_turned_12 rfl (lv_at hl 3 rfl) ?_
    obtain ⟨v7, hc6, hf⟩ := c1_e hf
    refine q_S (w' := w) (rest := []) X hml hh (some (.int v7)) (m_X7_isPlace l B D hN hc6) cf_X7_isPlace k_250 rfl hl.1 rfl (Nat.le_of_ble_eq_true rfl) ⟨Nat.le_of_ble_eq_true rfl, Nat.le_of_ble_eq_true rfl⟩ ⟨Nat.zero_le _, Nat.zero_le _⟩ dX7_turned_13 rfl (fun H locs hh => ?_)
    refine lv_if_ne (tgt := 21) hx hb dX7_turned_16 (by decide) (fun hc8 => ?_) (fun hc8 => ?_)
    · have hf := if_f hc8 hf
      refine lv_aload_n hx hb dX7_turned_21 rfl (lv_at hl 0 rfl) ?_
      refine lv_iload_n hx hb dX7_turned_22 rfl (lv_at hl 1 rfl) ?_
      refine lv_iload_n hx hb dX7_turned_23 rfl (lv_at hl 2 rfl) ?_
      obtain ⟨v10, w11, hc9, hf⟩ := c2_e hf
      obtain ⟨h12, hf⟩ := ck_n hN hf
      refine q_V (w' := w11) (rest := []) X hml hh (some (.ref (B + v10))) (m_X7_shapeAt l B D hN ht hc9) cf_X7_shapeAt k_253 ht ci_7 rfl rfl hl.1 rfl (Nat.le_of_ble_eq_true rfl) ⟨Nat.le_of_ble_eq_true rfl, Nat.le_of_ble_eq_true rfl⟩ ⟨Nat.zero_le _, Nat.zero_le _⟩ dX7_turned_24 rfl (fun H locs hh => ?_)
      refine lv_iload_n hx hb dX7_turned_27 rfl (lv_at hl 3 rfl) ?_
      obtain ⟨v14, hc13, hf⟩ := c1_e hf
      refine q_V (w' := w11) (rest := []) X hml hh (some (.int v14)) (m_X5_partsAbove l B D hN h12 hc13) cf_X5_partsAbove k_306 h12 ci_5 rfl rfl hl.1 rfl (Nat.le_of_ble_eq_true rfl) ⟨Nat.le_of_ble_eq_true rfl, Nat.le_of_ble_eq_true rfl⟩ ⟨Nat.zero_le _, Nat.zero_le _⟩ dX7_turned_28 rfl (fun H locs hh => ?_)
      exact e_i X hr hlk hh (so2_e hf) dX7_turned_31
    · have hf := if_t hc8 hf
      refine lv_iconst (v := (-1 : Int32)) hx hb dX7_turned_19 (by decide) ?_
      exact e_i X hr hlk hh (so2_e hf) dX7_turned_20
set_option maxHeartbeats 4000000 in
set_option maxRecDepth 100000 in
theorem m_X7_standard (l : Launch) (B : Nat) (D : DD) {n : Nat} (hN : 139 ≤ n) {t : Nat} {a0 : Int32} {a1 : Int32} {w : Wd} {r : Int64} {w' : Wd} (ht : t < n ∧ kd t = 7) (hf : f_X7_standard t a0 a1 w = some (r, w')) : Ct l yX7_standard cX7_standard 4 (some .long) 6 141 0 0 B D [.ref (B + t), .int a0, .int a1] n w (some (.long r)) n w' := by
  refine m_of (by decide) (Nat.le_of_ble_eq_true rfl) (fun p e s m args below meth c X hml hr hlk _ H locs hh ls hl => ?_)
  have hx := X.1
  have hb := X.2.1
  have hl : lv_has ls 4 [(0, .ref (B + t)), (1, .int a0), (2, .int a1)] := hl
  unfold f_X7_standard at hf
  refine lv_aload_n hx hb dX7_standard_0 rfl (lv_at hl 0 rfl) ?_
  refine q_gr (P := 0) X hh ht fk_X7_14 dX7_standard_1 hN hf (fun t1 h2 hf => ?_)
  refine lv_iload_n hx hb dX7_standard_4 rfl (lv_at hl 1 rfl) ?_
  refine lv_iload_n hx hb dX7_standard_5 rfl (lv_at hl 2 rfl) ?_
  obtain ⟨v4, hc3, hf⟩ := c1_e hf
  refine q_V (w' := w) (rest := []) X hml hh (some (.int v4)) (m_X0_hasCorner l B D hN h2 hc3) cf_X0_hasCorner k_246 h2 ci_0 rfl rfl hl.1 rfl (Nat.le_of_ble_eq_true rfl) ⟨Nat.le_of_ble_eq_true rfl, Nat.le_of_ble_eq_true rfl⟩ ⟨Nat.zero_le _, Nat.zero_le _⟩ dX7_standard_6 rfl (fun H locs hh => ?_)
  refine lv_if_ne (tgt := 16) hx hb dX7_standard_9 (by decide) (fun hc5 => ?_) (fun hc5 => ?_)
  · have hf := if_f hc5 hf
    refine lv_aload_n hx hb dX7_standard_16 rfl (lv_at hl 0 rfl) ?_
    refine lv_iload_n hx hb dX7_standard_17 rfl (lv_at hl 1 rfl) ?_
    refine lv_iload_n hx hb dX7_standard_18 rfl (lv_at hl 2 rfl) ?_
    obtain ⟨v7, w8, hc6, hf⟩ := c2_e hf
    obtain ⟨h9, hf⟩ := ck_n hN hf
    refine q_V (w' := w8) (rest := []) X hml hh (some (.ref (B + v7))) (m_X7_shapeAt l B D hN ht hc6) cf_X7_shapeAt k_253 ht ci_7 rfl rfl hl.1 rfl (Nat.le_of_ble_eq_true rfl) ⟨Nat.le_of_ble_eq_true rfl, Nat.le_of_ble_eq_true rfl⟩ ⟨Nat.zero_le _, Nat.zero_le _⟩ dX7_standard_19 rfl (fun H locs hh => ?_)
    refine lv_astore_n (lv' := [(3, .ref (B + v7)), (0, .ref (B + t)), (1, .int a0), (2, .int a1)]) hx hb dX7_standard_22 rfl hl (by decide) rfl (fun ls hl => ?_)
    refine lv_aload_n hx hb dX7_standard_23 rfl (lv_at hl 0 rfl) ?_
    refine r_gi X hh h9 fk_X7_139 dX7_standard_24 ?_
    refine lv_bipush (v := (20 : Int32)) hx hb dX7_standard_27 (by decide) ?_
    refine lv_icmp_le (tgt := 38) hx hb dX7_standard_29 (by decide) (fun hc10 => ?_) (fun hc10 => ?_)
    · have hf := if_t hc10 hf
      refine lv_aload_n hx hb dX7_standard_38 rfl (lv_at hl 0 rfl) ?_
      obtain ⟨v12, hc11, hf⟩ := c1_e hf
      refine q_V (w' := w8) (rest := []) X hml hh (some (.long v12)) (m_X5_standardFillings l B D hN h9 hc11) cf_X5_standardFillings k_315 h9 ci_5 rfl rfl hl.1 rfl (Nat.le_of_ble_eq_true rfl) ⟨Nat.le_of_ble_eq_true rfl, Nat.le_of_ble_eq_true rfl⟩ ⟨Nat.zero_le _, Nat.zero_le _⟩ dX7_standard_39 rfl (fun H locs hh => ?_)
      exact e_l X hr hlk hh (so2_e hf) dX7_standard_42
    · have hf := if_f hc10 hf
      refine lv_ldc2 hx hb X.2.2.1 (X.2.2.2.1 _ k_314) dX7_standard_32 ?_
      refine lv_goto (tgt := 42) hx hb dX7_standard_35 (by decide) ?_
      exact e_l X hr hlk hh (so2_e hf) dX7_standard_42
  · have hf := if_t hc5 hf
    refine lv_ldc2 hx hb X.2.2.1 (X.2.2.2.1 _ k_314) dX7_standard_12 ?_
    exact e_l X hr hlk hh (so2_e hf) dX7_standard_15
set_option maxHeartbeats 4000000 in
set_option maxRecDepth 100000 in
theorem m_X7_product (l : Launch) (B : Nat) (D : DD) {n : Nat} (hN : 139 ≤ n) {t : Nat} {a0 : Int32} {a1 : Int32} {w : Wd} {r : Int32} {w' : Wd} (ht : t < n ∧ kd t = 7) (hf : f_X7_product t a0 a1 w = some (r, w')) : Ct l yX7_product cX7_product 3 (some .int) 6 141 0 0 B D [.ref (B + t), .int a0, .int a1] n w (some (.int r)) n w' := by
  refine m_of (by decide) (Nat.le_of_ble_eq_true rfl) (fun p e s m args below meth c X hml hr hlk _ H locs hh ls hl => ?_)
  have hx := X.1
  have hb := X.2.1
  have hl : lv_has ls 3 [(0, .ref (B + t)), (1, .int a0), (2, .int a1)] := hl
  unfold f_X7_product at hf
  refine lv_aload_n hx hb dX7_product_0 rfl (lv_at hl 0 rfl) ?_
  refine q_gr (P := 0) X hh ht fk_X7_14 dX7_product_1 hN hf (fun t1 h2 hf => ?_)
  refine lv_iload_n hx hb dX7_product_4 rfl (lv_at hl 1 rfl) ?_
  refine lv_iload_n hx hb dX7_product_5 rfl (lv_at hl 2 rfl) ?_
  obtain ⟨v4, hc3, hf⟩ := c1_e hf
  refine q_V (w' := w) (rest := []) X hml hh (some (.int v4)) (m_X0_hasCorner l B D hN h2 hc3) cf_X0_hasCorner k_246 h2 ci_0 rfl rfl hl.1 rfl (Nat.le_of_ble_eq_true rfl) ⟨Nat.le_of_ble_eq_true rfl, Nat.le_of_ble_eq_true rfl⟩ ⟨Nat.zero_le _, Nat.zero_le _⟩ dX7_product_6 rfl (fun H locs hh => ?_)
  refine lv_if_ne (tgt := 14) hx hb dX7_product_9 (by decide) (fun hc5 => ?_) (fun hc5 => ?_)
  · have hf := if_f hc5 hf
    refine lv_aload_n hx hb dX7_product_14 rfl (lv_at hl 0 rfl) ?_
    refine lv_iload_n hx hb dX7_product_15 rfl (lv_at hl 1 rfl) ?_
    refine lv_iload_n hx hb dX7_product_16 rfl (lv_at hl 2 rfl) ?_
    obtain ⟨v7, w8, hc6, hf⟩ := c2_e hf
    obtain ⟨h9, hf⟩ := ck_n hN hf
    refine q_V (w' := w8) (rest := []) X hml hh (some (.ref (B + v7))) (m_X7_shapeAt l B D hN ht hc6) cf_X7_shapeAt k_253 ht ci_7 rfl rfl hl.1 rfl (Nat.le_of_ble_eq_true rfl) ⟨Nat.le_of_ble_eq_true rfl, Nat.le_of_ble_eq_true rfl⟩ ⟨Nat.zero_le _, Nat.zero_le _⟩ dX7_product_17 rfl (fun H locs hh => ?_)
    obtain ⟨v11, hc10, hf⟩ := c1_e hf
    refine q_V (w' := w8) (rest := []) X hml hh (some (.int v11)) (m_X5_productOrWide l B D hN h9 hc10) cf_X5_productOrWide k_325 h9 ci_5 rfl rfl hl.1 rfl (Nat.le_of_ble_eq_true rfl) ⟨Nat.le_of_ble_eq_true rfl, Nat.le_of_ble_eq_true rfl⟩ ⟨Nat.zero_le _, Nat.zero_le _⟩ dX7_product_20 rfl (fun H locs hh => ?_)
    exact e_i X hr hlk hh (so2_e hf) dX7_product_23
  · have hf := if_t hc5 hf
    refine lv_iconst (v := (-1 : Int32)) hx hb dX7_product_12 (by decide) ?_
    exact e_i X hr hlk hh (so2_e hf) dX7_product_13
set_option maxHeartbeats 4000000 in
set_option maxRecDepth 100000 in
theorem m_X7_fits (l : Launch) (B : Nat) (D : DD) {n : Nat} (hN : 139 ≤ n) {t : Nat} {a0 : Int32} {w : Wd} {r : Int32} {w' : Wd} (ht : t < n ∧ kd t = 7) (hf : f_X7_fits t a0 w = some (r, w')) : Ct l yX7_fits cX7_fits 2 (some .int) 5 119 0 0 B D [.ref (B + t), .int a0] n w (some (.int r)) n w' := by
  refine m_of (by decide) (Nat.le_of_ble_eq_true rfl) (fun p e s m args below meth c X hml hr hlk _ H locs hh ls hl => ?_)
  have hx := X.1
  have hb := X.2.1
  have hl : lv_has ls 2 [(0, .ref (B + t)), (1, .int a0)] := hl
  unfold f_X7_fits at hf
  refine lv_iload_n hx hb dX7_fits_0 rfl (lv_at hl 1 rfl) ?_
  obtain ⟨v2, hc1, hf⟩ := c1_e hf
  refine q_S (w' := w) (rest := []) X hml hh (some (.int v2)) (m_X7_isRule l B D hN hc1) cf_X7_isRule k_214 rfl hl.1 rfl (Nat.le_of_ble_eq_true rfl) ⟨Nat.le_of_ble_eq_true rfl, Nat.le_of_ble_eq_true rfl⟩ ⟨Nat.zero_le _, Nat.zero_le _⟩ dX7_fits_1 rfl (fun H locs hh => ?_)
  refine lv_if_ne (tgt := 9) hx hb dX7_fits_4 (by decide) (fun hc3 => ?_) (fun hc3 => ?_)
  · have hf := if_f hc3 hf
    refine lv_aload_n hx hb dX7_fits_9 rfl (lv_at hl 0 rfl) ?_
    obtain ⟨v5, w6, hc4, hf⟩ := c2_e hf
    obtain ⟨h7, hf⟩ := ck_n hN hf
    refine q_V (w' := w6) (rest := []) X hml hh (some (.ref (B + v5))) (m_X7_grownCorners l B D hN ht hc4) cf_X7_grownCorners k_257 ht ci_7 rfl rfl hl.1 rfl (Nat.le_of_ble_eq_true rfl) ⟨Nat.le_of_ble_eq_true rfl, Nat.le_of_ble_eq_true rfl⟩ ⟨Nat.zero_le _, Nat.zero_le _⟩ dX7_fits_10 rfl (fun H locs hh => ?_)
    refine lv_iload_n hx hb dX7_fits_13 rfl (lv_at hl 1 rfl) ?_
    obtain ⟨v9, hc8, hf⟩ := c1_e hf
    refine q_V (w' := w6) (rest := []) X hml hh (some (.int v9)) (m_X1_rimFits l B D hN h7 hc8) cf_X1_rimFits k_334 h7 ci_1 rfl rfl hl.1 rfl (Nat.le_of_ble_eq_true rfl) ⟨Nat.le_of_ble_eq_true rfl, Nat.le_of_ble_eq_true rfl⟩ ⟨Nat.zero_le _, Nat.zero_le _⟩ dX7_fits_14 rfl (fun H locs hh => ?_)
    refine mg_W (P := fun (x11 : Int32) => ∀ (ls : Array Slot), lv_has ls 2 [] → W p l e (rmk 5 119 0 0) s m args below meth c H locs 0 0 (MZ below B D n w' (some (.int r)) args s 0 0) (F0 m 25 ls [.int x11])) hf (fun x11 hf ls hl => ?_) (fun hj12 => ?_)
    · exact e_i X hr hlk hh (so2_e hf) dX7_fits_25
    · refine lv_if_eq (tgt := 24) hx hb dX7_fits_17 (by decide) (fun hc10 => ?_) (fun hc10 => ?_)
      · refine lv_iconst (v := (0 : Int32)) hx hb dX7_fits_24 (by decide) ?_
        exact hj12 _ (by rw [if_pos hc10]) ls (lv_sub hl [] rfl)
      · refine lv_iconst (v := (1 : Int32)) hx hb dX7_fits_20 (by decide) ?_
        refine lv_goto (tgt := 25) hx hb dX7_fits_21 (by decide) ?_
        exact hj12 _ (by rw [if_neg hc10]) ls (lv_sub hl [] rfl)
  · have hf := if_t hc3 hf
    refine lv_iconst (v := (-1 : Int32)) hx hb dX7_fits_7 (by decide) ?_
    exact e_i X hr hlk hh (so2_e hf) dX7_fits_8
set_option maxHeartbeats 4000000 in
set_option maxRecDepth 100000 in
theorem m_X7_back (l : Launch) (B : Nat) (D : DD) {n : Nat} (hN : 139 ≤ n) {t : Nat} {a0 : Int32} {w : Wd} {r : Int32} {w' : Wd} (ht : t < n ∧ kd t = 7) (hf : f_X7_back t a0 w = some (r, w')) : Ct l yX7_back cX7_back 3 (some .int) 5 119 0 0 B D [.ref (B + t), .int a0] n w (some (.int r)) n w' := by
  refine m_of (by decide) (Nat.le_of_ble_eq_true rfl) (fun p e s m args below meth c X hml hr hlk _ H locs hh ls hl => ?_)
  have hx := X.1
  have hb := X.2.1
  have hl : lv_has ls 3 [(0, .ref (B + t)), (1, .int a0)] := hl
  unfold f_X7_back at hf
  refine lv_iload_n hx hb dX7_back_0 rfl (lv_at hl 1 rfl) ?_
  obtain ⟨v2, hc1, hf⟩ := c1_e hf
  refine q_S (w' := w) (rest := []) X hml hh (some (.int v2)) (m_X7_isRule l B D hN hc1) cf_X7_isRule k_214 rfl hl.1 rfl (Nat.le_of_ble_eq_true rfl) ⟨Nat.le_of_ble_eq_true rfl, Nat.le_of_ble_eq_true rfl⟩ ⟨Nat.zero_le _, Nat.zero_le _⟩ dX7_back_1 rfl (fun H locs hh => ?_)
  refine lv_if_ne (tgt := 9) hx hb dX7_back_4 (by decide) (fun hc3 => ?_) (fun hc3 => ?_)
  · have hf := if_f hc3 hf
    refine lv_aload_n hx hb dX7_back_9 rfl (lv_at hl 0 rfl) ?_
    obtain ⟨v5, w6, hc4, hf⟩ := c2_e hf
    obtain ⟨h7, hf⟩ := ck_n hN hf
    refine q_V (w' := w6) (rest := []) X hml hh (some (.ref (B + v5))) (m_X7_grownCorners l B D hN ht hc4) cf_X7_grownCorners k_257 ht ci_7 rfl rfl hl.1 rfl (Nat.le_of_ble_eq_true rfl) ⟨Nat.le_of_ble_eq_true rfl, Nat.le_of_ble_eq_true rfl⟩ ⟨Nat.zero_le _, Nat.zero_le _⟩ dX7_back_10 rfl (fun H locs hh => ?_)
    refine lv_iload_n hx hb dX7_back_13 rfl (lv_at hl 1 rfl) ?_
    obtain ⟨v9, hc8, hf⟩ := c1_e hf
    refine q_V (w' := w6) (rest := []) X hml hh (some (.int v9)) (m_X1_rimFits l B D hN h7 hc8) cf_X1_rimFits k_334 h7 ci_1 rfl rfl hl.1 rfl (Nat.le_of_ble_eq_true rfl) ⟨Nat.le_of_ble_eq_true rfl, Nat.le_of_ble_eq_true rfl⟩ ⟨Nat.zero_le _, Nat.zero_le _⟩ dX7_back_14 rfl (fun H locs hh => ?_)
    refine lv_if_ne (tgt := 23) hx hb dX7_back_17 (by decide) (fun hc10 => ?_) (fun hc10 => ?_)
    · have hf := if_f hc10 hf
      refine lv_aload_n hx hb dX7_back_23 rfl (lv_at hl 0 rfl) ?_
      refine lv_iconst (v := (0 : Int32)) hx hb dX7_back_24 (by decide) ?_
      refine q_pi X hh ht fk_X7_35 pk_7_5 rfl rfl dX7_back_25 hf (fun w11 H locs hf hh => ?_)
      refine lv_aload_n hx hb dX7_back_28 rfl (lv_at hl 0 rfl) ?_
      refine q_gr (P := 0) X hh ht fk_X7_18 dX7_back_29 hN hf (fun t12 h13 hf => ?_)
      refine lv_aload_n hx hb dX7_back_32 rfl (lv_at hl 0 rfl) ?_
      refine q_gr (P := 0) X hh ht fk_X7_14 dX7_back_33 hN hf (fun t14 h15 hf => ?_)
      obtain ⟨w17, hc16, hf⟩ := c1_e hf
      refine q_V (w' := w17) (rest := []) X hml hh none (m_X0_copyFrom l B D hN h13 h15 hc16) cf_X0_copyFrom k_354 h13 ci_0 rfl rfl hl.1 rfl (Nat.le_of_ble_eq_true rfl) ⟨Nat.le_of_ble_eq_true rfl, Nat.le_of_ble_eq_true rfl⟩ ⟨Nat.zero_le _, Nat.zero_le _⟩ dX7_back_36 rfl (fun H locs hh => ?_)
      refine lv_aload_n hx hb dX7_back_39 rfl (lv_at hl 0 rfl) ?_
      refine q_gr (P := 0) X hh ht fk_X7_18 dX7_back_40 hN hf (fun t18 h19 hf => ?_)
      refine lv_iload_n hx hb dX7_back_43 rfl (lv_at hl 1 rfl) ?_
      refine q_pi X hh h19 fk_X7_102 pk_0_2 rfl rfl dX7_back_44 hf (fun w20 H locs hf hh => ?_)
      refine lv_aload_n hx hb dX7_back_47 rfl (lv_at hl 0 rfl) ?_
      refine q_gr (P := 1) X hh ht fk_X7_31 dX7_back_48 hN hf (fun t21 h22 hf => ?_)
      refine lv_aload_n hx hb dX7_back_51 rfl (lv_at hl 0 rfl) ?_
      refine q_gr (P := 0) X hh ht fk_X7_18 dX7_back_52 hN hf (fun t23 h24 hf => ?_)
      obtain ⟨v26, w27, hc25, hf⟩ := c2_e hf
      refine q_V (w' := w27) (rest := []) X hml hh (some (.int v26)) (m_X1_goBackInto l B D hN h22 h24 hc25) cf_X1_goBackInto k_355 h22 ci_1 rfl rfl hl.1 rfl (Nat.le_of_ble_eq_true rfl) ⟨Nat.le_of_ble_eq_true rfl, Nat.le_of_ble_eq_true rfl⟩ ⟨Nat.zero_le _, Nat.zero_le _⟩ dX7_back_55 rfl (fun H locs hh => ?_)
      refine lv_iconst (v := (3 : Int32)) hx hb dX7_back_58 (by decide) ?_
      refine lv_icmp_le (tgt := 65) hx hb dX7_back_59 (by decide) (fun hc28 => ?_) (fun hc28 => ?_)
      · have hf := if_t hc28 hf
        refine lv_aload_n hx hb dX7_back_65 rfl (lv_at hl 0 rfl) ?_
        refine q_gr (P := 0) X hh ht fk_X7_14 dX7_back_66 hN hf (fun t29 h30 hf => ?_)
        refine lv_aload_n hx hb dX7_back_69 rfl (lv_at hl 0 rfl) ?_
        refine q_gr (P := 0) X hh ht fk_X7_18 dX7_back_70 hN hf (fun t31 h32 hf => ?_)
        obtain ⟨v34, hc33, hf⟩ := c1_e hf
        refine q_V (w' := w27) (rest := []) X hml hh (some (.int v34)) (m_X0_differing l B D hN h30 h32 hc33) cf_X0_differing k_371 h30 ci_0 rfl rfl hl.1 rfl (Nat.le_of_ble_eq_true rfl) ⟨Nat.le_of_ble_eq_true rfl, Nat.le_of_ble_eq_true rfl⟩ ⟨Nat.zero_le _, Nat.zero_le _⟩ dX7_back_73 rfl (fun H locs hh => ?_)
        refine lv_istore_n (lv' := [(2, .int v34), (0, .ref (B + t)), (1, .int a0)]) hx hb dX7_back_76 rfl hl (by decide) rfl (fun ls hl => ?_)
        refine lv_aload_n hx hb dX7_back_77 rfl (lv_at hl 1 rfl) ?_
        obtain ⟨w36, hc35, hf⟩ := c1_e hf
        refine q_V (w' := w36) (rest := []) X hml hh none (m_X7_beginDeed l B D hN ht hc35) cf_X7_beginDeed k_217 ht ci_7 rfl rfl hl.1 rfl (Nat.le_of_ble_eq_true rfl) ⟨Nat.le_of_ble_eq_true rfl, Nat.le_of_ble_eq_true rfl⟩ ⟨Nat.zero_le _, Nat.zero_le _⟩ dX7_back_78 rfl (fun H locs hh => ?_)
        refine lv_aload_n hx hb dX7_back_81 rfl (lv_at hl 1 rfl) ?_
        refine q_gr (P := 0) X hh ht fk_X7_14 dX7_back_82 hN hf (fun t37 h38 hf => ?_)
        refine lv_aload_n hx hb dX7_back_85 rfl (lv_at hl 1 rfl) ?_
        refine q_gr (P := 0) X hh ht fk_X7_18 dX7_back_86 hN hf (fun t39 h40 hf => ?_)
        obtain ⟨w42, hc41, hf⟩ := c1_e hf
        refine q_V (w' := w42) (rest := []) X hml hh none (m_X0_copyFrom l B D hN h38 h40 hc41) cf_X0_copyFrom k_354 h38 ci_0 rfl rfl hl.1 rfl (Nat.le_of_ble_eq_true rfl) ⟨Nat.le_of_ble_eq_true rfl, Nat.le_of_ble_eq_true rfl⟩ ⟨Nat.zero_le _, Nat.zero_le _⟩ dX7_back_89 rfl (fun H locs hh => ?_)
        refine lv_iload_n hx hb dX7_back_92 rfl (lv_at hl 0 rfl) ?_
        exact e_i X hr hlk hh (so2_e hf) dX7_back_93
      · have hf := if_f hc28 hf
        refine lv_bipush (v := (-5 : Int32)) hx hb dX7_back_62 (by decide) ?_
        exact e_i X hr hlk hh (so2_e hf) dX7_back_64
    · have hf := if_t hc10 hf
      refine lv_bipush (v := (-5 : Int32)) hx hb dX7_back_20 (by decide) ?_
      exact e_i X hr hlk hh (so2_e hf) dX7_back_22
  · have hf := if_t hc3 hf
    refine lv_iconst (v := (-1 : Int32)) hx hb dX7_back_7 (by decide) ?_
    exact e_i X hr hlk hh (so2_e hf) dX7_back_8
set_option maxHeartbeats 4000000 in
set_option maxRecDepth 100000 in
theorem m_X7_longest (l : Launch) (B : Nat) (D : DD) {n : Nat} (hN : 139 ≤ n) {t : Nat} {a0 : Int32} {a1 : Int32} {w : Wd} {r : Int32} {w' : Wd} (ht : t < n ∧ kd t = 7) (hf : f_X7_longest t a0 a1 w = some (r, w')) : Ct l yX7_longest cX7_longest 3 (some .int) 3 74 0 0 B D [.ref (B + t), .int a0, .int a1] n w (some (.int r)) n w' := by
  refine m_of (by decide) (Nat.le_of_ble_eq_true rfl) (fun p e s m args below meth c X hml hr hlk _ H locs hh ls hl => ?_)
  have hx := X.1
  have hb := X.2.1
  have hl : lv_has ls 3 [(0, .ref (B + t)), (1, .int a0), (2, .int a1)] := hl
  unfold f_X7_longest at hf
  refine lv_iload_n hx hb dX7_longest_0 rfl (lv_at hl 1 rfl) ?_
  refine lv_if_lt (tgt := 18) hx hb dX7_longest_1 (by decide) (fun hc1 => ?_) (fun hc1 => ?_)
  · have hf := if_t hc1 hf
    refine lv_iconst (v := (-1 : Int32)) hx hb dX7_longest_18 (by decide) ?_
    exact e_i X hr hlk hh (so2_e hf) dX7_longest_19
  · have hf := if_f hc1 hf
    refine lv_iload_n hx hb dX7_longest_4 rfl (lv_at hl 1 rfl) ?_
    refine lv_iconst (v := (4 : Int32)) hx hb dX7_longest_5 (by decide) ?_
    refine lv_icmp_ge (tgt := 18) hx hb dX7_longest_6 (by decide) (fun hc2 => ?_) (fun hc2 => ?_)
    · have hf := if_t hc2 hf
      refine lv_iconst (v := (-1 : Int32)) hx hb dX7_longest_18 (by decide) ?_
      exact e_i X hr hlk hh (so2_e hf) dX7_longest_19
    · have hf := if_f hc2 hf
      refine lv_iload_n hx hb dX7_longest_9 rfl (lv_at hl 2 rfl) ?_
      refine lv_if_lt (tgt := 18) hx hb dX7_longest_10 (by decide) (fun hc3 => ?_) (fun hc3 => ?_)
      · have hf := if_t hc3 hf
        refine lv_iconst (v := (-1 : Int32)) hx hb dX7_longest_18 (by decide) ?_
        exact e_i X hr hlk hh (so2_e hf) dX7_longest_19
      · have hf := if_f hc3 hf
        refine lv_iload_n hx hb dX7_longest_13 rfl (lv_at hl 2 rfl) ?_
        refine lv_iconst (v := (1 : Int32)) hx hb dX7_longest_14 (by decide) ?_
        refine lv_icmp_le (tgt := 20) hx hb dX7_longest_15 (by decide) (fun hc4 => ?_) (fun hc4 => ?_)
        · have hf := if_t hc4 hf
          refine lv_aload_n hx hb dX7_longest_20 rfl (lv_at hl 0 rfl) ?_
          refine q_gr (P := 4) X hh ht fk_X7_41 dX7_longest_21 hN hf (fun t5 h6 hf => ?_)
          refine lv_aload_n hx hb dX7_longest_24 rfl (lv_at hl 0 rfl) ?_
          refine q_gr (P := 0) X hh ht fk_X7_14 dX7_longest_25 hN hf (fun t7 h8 hf => ?_)
          refine lv_iload_n hx hb dX7_longest_28 rfl (lv_at hl 1 rfl) ?_
          refine lv_iload_n hx hb dX7_longest_29 rfl (lv_at hl 2 rfl) ?_
          refine lv_iconst (v := (1 : Int32)) hx hb dX7_longest_30 (by decide) ?_
          refine mg_W (P := fun (x10 : Int32) => ∀ (ls : Array Slot), lv_has ls 3 [] → W p l e (rmk 3 74 0 0) s m args below meth c H locs 0 0 (MZ below B D n w' (some (.int r)) args s 0 0) (F0 m 39 ls [.int x10, .int a0, .ref (B + t7), .ref (B + t5)])) hf (fun x10 hf ls hl => ?_) (fun hj14 => ?_)
          · obtain ⟨v12, w13, hc11, hf⟩ := c2_e hf
            refine q_V (w' := w13) (rest := []) X hml hh (some (.int v12)) (m_X4_bestRow l B D hN h6 h8 hc11) cf_X4_bestRow k_379 h6 ci_4 rfl rfl hl.1 rfl (Nat.le_of_ble_eq_true rfl) ⟨Nat.le_of_ble_eq_true rfl, Nat.le_of_ble_eq_true rfl⟩ ⟨Nat.zero_le _, Nat.zero_le _⟩ dX7_longest_39 rfl (fun H locs hh => ?_)
            exact e_i X hr hlk hh (so2_e hf) dX7_longest_42
          · refine lv_icmp_ne (tgt := 38) hx hb dX7_longest_31 (by decide) (fun hc9 => ?_) (fun hc9 => ?_)
            · refine lv_iconst (v := (0 : Int32)) hx hb dX7_longest_38 (by decide) ?_
              exact hj14 _ (by rw [if_neg hc9]) ls (lv_sub hl [] rfl)
            · refine lv_iconst (v := (1 : Int32)) hx hb dX7_longest_34 (by decide) ?_
              refine lv_goto (tgt := 39) hx hb dX7_longest_35 (by decide) ?_
              exact hj14 _ (by rw [if_pos hc9]) ls (lv_sub hl [] rfl)
        · have hf := if_f hc4 hf
          refine lv_iconst (v := (-1 : Int32)) hx hb dX7_longest_18 (by decide) ?_
          exact e_i X hr hlk hh (so2_e hf) dX7_longest_19
set_option maxHeartbeats 4000000 in
set_option maxRecDepth 100000 in
theorem m_X7_undo (l : Launch) (B : Nat) (D : DD) {n : Nat} (hN : 139 ≤ n) {t : Nat} {w : Wd} {r : Int32} {w' : Wd} (ht : t < n ∧ kd t = 7) (hf : f_X7_undo t w = some (r, w')) : Ct l yX7_undo cX7_undo 1 (some .int) 2 43 0 0 B D [.ref (B + t)] n w (some (.int r)) n w' := by
  refine m_of (by decide) (Nat.le_of_ble_eq_true rfl) (fun p e s m args below meth c X hml hr hlk _ H locs hh ls hl => ?_)
  have hx := X.1
  have hb := X.2.1
  have hl : lv_has ls 1 [(0, .ref (B + t))] := hl
  unfold f_X7_undo at hf
  refine lv_aload_n hx hb dX7_undo_0 rfl (lv_at hl 0 rfl) ?_
  refine q_gr (P := 2) X hh ht fk_X7_48 dX7_undo_1 hN hf (fun t1 h2 hf => ?_)
  obtain ⟨v4, hc3, hf⟩ := c1_e hf
  refine q_V (w' := w) (rest := []) X hml hh (some (.int v4)) (m_X2_undoable l B D hN h2 hc3) cf_X2_undoable k_390 h2 ci_2 rfl rfl hl.1 rfl (Nat.le_of_ble_eq_true rfl) ⟨Nat.le_of_ble_eq_true rfl, Nat.le_of_ble_eq_true rfl⟩ ⟨Nat.zero_le _, Nat.zero_le _⟩ dX7_undo_4 rfl (fun H locs hh => ?_)
  refine lv_if_ne (tgt := 13) hx hb dX7_undo_7 (by decide) (fun hc5 => ?_) (fun hc5 => ?_)
  · have hf := if_f hc5 hf
    refine lv_aload_n hx hb dX7_undo_13 rfl (lv_at hl 0 rfl) ?_
    refine q_gr (P := 2) X hh ht fk_X7_48 dX7_undo_14 hN hf (fun t6 h7 hf => ?_)
    refine lv_aload_n hx hb dX7_undo_17 rfl (lv_at hl 0 rfl) ?_
    refine q_gr (P := 0) X hh ht fk_X7_14 dX7_undo_18 hN hf (fun t8 h9 hf => ?_)
    obtain ⟨w11, hc10, hf⟩ := c1_e hf
    refine q_V (w' := w11) (rest := []) X hml hh none (m_X2_stepBack l B D hN h7 h9 hc10) cf_X2_stepBack k_394 h7 ci_2 rfl rfl hl.1 rfl (Nat.le_of_ble_eq_true rfl) ⟨Nat.le_of_ble_eq_true rfl, Nat.le_of_ble_eq_true rfl⟩ ⟨Nat.zero_le _, Nat.zero_le _⟩ dX7_undo_21 rfl (fun H locs hh => ?_)
    refine lv_aload_n hx hb dX7_undo_24 rfl (lv_at hl 0 rfl) ?_
    refine lv_iconst (v := (0 : Int32)) hx hb dX7_undo_25 (by decide) ?_
    refine q_pi X hh ht fk_X7_35 pk_7_5 rfl rfl dX7_undo_26 hf (fun w12 H locs hf hh => ?_)
    refine lv_aload_n hx hb dX7_undo_29 rfl (lv_at hl 0 rfl) ?_
    refine q_gr (P := 2) X hh ht fk_X7_48 dX7_undo_30 hN hf (fun t13 h14 hf => ?_)
    obtain ⟨v16, hc15, hf⟩ := c1_e hf
    refine q_V (w' := w12) (rest := []) X hml hh (some (.int v16)) (m_X2_undoable l B D hN h14 hc15) cf_X2_undoable k_390 h14 ci_2 rfl rfl hl.1 rfl (Nat.le_of_ble_eq_true rfl) ⟨Nat.le_of_ble_eq_true rfl, Nat.le_of_ble_eq_true rfl⟩ ⟨Nat.zero_le _, Nat.zero_le _⟩ dX7_undo_33 rfl (fun H locs hh => ?_)
    exact e_i X hr hlk hh (so2_e hf) dX7_undo_36
  · have hf := if_t hc5 hf
    refine lv_bipush (v := (-5 : Int32)) hx hb dX7_undo_10 (by decide) ?_
    exact e_i X hr hlk hh (so2_e hf) dX7_undo_12
set_option maxHeartbeats 4000000 in
set_option maxRecDepth 100000 in
theorem m_X7_again (l : Launch) (B : Nat) (D : DD) {n : Nat} (hN : 139 ≤ n) {t : Nat} {w : Wd} {r : Int32} {w' : Wd} (ht : t < n ∧ kd t = 7) (hf : f_X7_again t w = some (r, w')) : Ct l yX7_again cX7_again 1 (some .int) 2 43 0 0 B D [.ref (B + t)] n w (some (.int r)) n w' := by
  refine m_of (by decide) (Nat.le_of_ble_eq_true rfl) (fun p e s m args below meth c X hml hr hlk _ H locs hh ls hl => ?_)
  have hx := X.1
  have hb := X.2.1
  have hl : lv_has ls 1 [(0, .ref (B + t))] := hl
  unfold f_X7_again at hf
  refine lv_aload_n hx hb dX7_again_0 rfl (lv_at hl 0 rfl) ?_
  refine q_gr (P := 2) X hh ht fk_X7_48 dX7_again_1 hN hf (fun t1 h2 hf => ?_)
  obtain ⟨v4, hc3, hf⟩ := c1_e hf
  refine q_V (w' := w) (rest := []) X hml hh (some (.int v4)) (m_X2_redoable l B D hN h2 hc3) cf_X2_redoable k_402 h2 ci_2 rfl rfl hl.1 rfl (Nat.le_of_ble_eq_true rfl) ⟨Nat.le_of_ble_eq_true rfl, Nat.le_of_ble_eq_true rfl⟩ ⟨Nat.zero_le _, Nat.zero_le _⟩ dX7_again_4 rfl (fun H locs hh => ?_)
  refine lv_if_ne (tgt := 13) hx hb dX7_again_7 (by decide) (fun hc5 => ?_) (fun hc5 => ?_)
  · have hf := if_f hc5 hf
    refine lv_aload_n hx hb dX7_again_13 rfl (lv_at hl 0 rfl) ?_
    refine q_gr (P := 2) X hh ht fk_X7_48 dX7_again_14 hN hf (fun t6 h7 hf => ?_)
    refine lv_aload_n hx hb dX7_again_17 rfl (lv_at hl 0 rfl) ?_
    refine q_gr (P := 0) X hh ht fk_X7_14 dX7_again_18 hN hf (fun t8 h9 hf => ?_)
    obtain ⟨w11, hc10, hf⟩ := c1_e hf
    refine q_V (w' := w11) (rest := []) X hml hh none (m_X2_stepOn l B D hN h7 h9 hc10) cf_X2_stepOn k_406 h7 ci_2 rfl rfl hl.1 rfl (Nat.le_of_ble_eq_true rfl) ⟨Nat.le_of_ble_eq_true rfl, Nat.le_of_ble_eq_true rfl⟩ ⟨Nat.zero_le _, Nat.zero_le _⟩ dX7_again_21 rfl (fun H locs hh => ?_)
    refine lv_aload_n hx hb dX7_again_24 rfl (lv_at hl 0 rfl) ?_
    refine lv_iconst (v := (0 : Int32)) hx hb dX7_again_25 (by decide) ?_
    refine q_pi X hh ht fk_X7_35 pk_7_5 rfl rfl dX7_again_26 hf (fun w12 H locs hf hh => ?_)
    refine lv_aload_n hx hb dX7_again_29 rfl (lv_at hl 0 rfl) ?_
    refine q_gr (P := 2) X hh ht fk_X7_48 dX7_again_30 hN hf (fun t13 h14 hf => ?_)
    obtain ⟨v16, hc15, hf⟩ := c1_e hf
    refine q_V (w' := w12) (rest := []) X hml hh (some (.int v16)) (m_X2_redoable l B D hN h14 hc15) cf_X2_redoable k_402 h14 ci_2 rfl rfl hl.1 rfl (Nat.le_of_ble_eq_true rfl) ⟨Nat.le_of_ble_eq_true rfl, Nat.le_of_ble_eq_true rfl⟩ ⟨Nat.zero_le _, Nat.zero_le _⟩ dX7_again_33 rfl (fun H locs hh => ?_)
    exact e_i X hr hlk hh (so2_e hf) dX7_again_36
  · have hf := if_t hc5 hf
    refine lv_bipush (v := (-5 : Int32)) hx hb dX7_again_10 (by decide) ?_
    exact e_i X hr hlk hh (so2_e hf) dX7_again_12
set_option maxHeartbeats 4000000 in
set_option maxRecDepth 100000 in
theorem m_X7_restore (l : Launch) (B : Nat) (D : DD) {n : Nat} (hN : 139 ≤ n) {t : Nat} {w : Wd} {r : Int32} {w' : Wd} (ht : t < n ∧ kd t = 7) (hf : f_X7_restore t w = some (r, w')) : Ct l yX7_restore cX7_restore 1 (some .int) 1 22 0 0 B D [.ref (B + t)] n w (some (.int r)) n w' := by
  refine m_of (by decide) (Nat.le_of_ble_eq_true rfl) (fun p e s m args below meth c X hml hr hlk _ H locs hh ls hl => ?_)
  have hx := X.1
  have hb := X.2.1
  have hl : lv_has ls 1 [(0, .ref (B + t))] := hl
  unfold f_X7_restore at hf
  refine lv_aload_n hx hb dX7_restore_0 rfl (lv_at hl 0 rfl) ?_
  refine r_gi X hh ht fk_X7_24 dX7_restore_1 ?_
  refine lv_if_ne (tgt := 10) hx hb dX7_restore_4 (by decide) (fun hc1 => ?_) (fun hc1 => ?_)
  · have hf := if_f hc1 hf
    refine lv_aload_n hx hb dX7_restore_10 rfl (lv_at hl 0 rfl) ?_
    refine q_gr (P := 0) X hh ht fk_X7_14 dX7_restore_11 hN hf (fun t2 h3 hf => ?_)
    refine lv_aload_n hx hb dX7_restore_14 rfl (lv_at hl 0 rfl) ?_
    refine q_gr (P := 0) X hh ht fk_X7_21 dX7_restore_15 hN hf (fun t4 h5 hf => ?_)
    obtain ⟨w7, hc6, hf⟩ := c1_e hf
    refine q_V (w' := w7) (rest := []) X hml hh none (m_X0_copyFrom l B D hN h3 h5 hc6) cf_X0_copyFrom k_354 h3 ci_0 rfl rfl hl.1 rfl (Nat.le_of_ble_eq_true rfl) ⟨Nat.le_of_ble_eq_true rfl, Nat.le_of_ble_eq_true rfl⟩ ⟨Nat.zero_le _, Nat.zero_le _⟩ dX7_restore_18 rfl (fun H locs hh => ?_)
    refine lv_aload_n hx hb dX7_restore_21 rfl (lv_at hl 0 rfl) ?_
    refine lv_iconst (v := (0 : Int32)) hx hb dX7_restore_22 (by decide) ?_
    refine q_pi X hh ht fk_X7_35 pk_7_5 rfl rfl dX7_restore_23 hf (fun w8 H locs hf hh => ?_)
    refine lv_aload_n hx hb dX7_restore_26 rfl (lv_at hl 0 rfl) ?_
    refine q_gr (P := 2) X hh ht fk_X7_48 dX7_restore_27 hN hf (fun t9 h10 hf => ?_)
    obtain ⟨w12, hc11, hf⟩ := c1_e hf
    refine q_V (w' := w12) (rest := []) X hml hh none (m_X2_forgetAll l B D hN h10 hc11) cf_X2_forgetAll k_414 h10 ci_2 rfl rfl hl.1 rfl (Nat.le_of_ble_eq_true rfl) ⟨Nat.le_of_ble_eq_true rfl, Nat.le_of_ble_eq_true rfl⟩ ⟨Nat.zero_le _, Nat.zero_le _⟩ dX7_restore_30 rfl (fun H locs hh => ?_)
    refine lv_aload_n hx hb dX7_restore_33 rfl (lv_at hl 0 rfl) ?_
    refine q_gr (P := 0) X hh ht fk_X7_14 dX7_restore_34 hN hf (fun t13 h14 hf => ?_)
    obtain ⟨v16, hc15, hf⟩ := c1_e hf
    refine q_V (w' := w12) (rest := []) X hml hh (some (.int v16)) (m_X0_filled l B D hN h14 hc15) cf_X0_filled k_418 h14 ci_0 rfl rfl hl.1 rfl (Nat.le_of_ble_eq_true rfl) ⟨Nat.le_of_ble_eq_true rfl, Nat.le_of_ble_eq_true rfl⟩ ⟨Nat.zero_le _, Nat.zero_le _⟩ dX7_restore_37 rfl (fun H locs hh => ?_)
    exact e_i X hr hlk hh (so2_e hf) dX7_restore_40
  · have hf := if_t hc1 hf
    refine lv_bipush (v := (-5 : Int32)) hx hb dX7_restore_7 (by decide) ?_
    exact e_i X hr hlk hh (so2_e hf) dX7_restore_9
set_option maxHeartbeats 4000000 in
set_option maxRecDepth 100000 in
theorem m_X7_count (l : Launch) (B : Nat) (D : DD) {n : Nat} (hN : 139 ≤ n) {t : Nat} {a0 : Int32} {w : Wd} {r : Int32} (ht : t < n ∧ kd t = 7) (hf : f_X7_count t a0 w = some r) : Ct l yX7_count cX7_count 2 (some .int) 1 22 0 0 B D [.ref (B + t), .int a0] n w (some (.int r)) n w := by
  refine m_of (by decide) (Nat.le_of_ble_eq_true rfl) (fun p e s m args below meth c X hml hr hlk _ H locs hh ls hl => ?_)
  have hx := X.1
  have hb := X.2.1
  have hl : lv_has ls 2 [(0, .ref (B + t)), (1, .int a0)] := hl
  unfold f_X7_count at hf
  refine lv_iload_n hx hb dX7_count_0 rfl (lv_at hl 1 rfl) ?_
  by_cases hc1 : a0.toInt = 0
  · have hf := if_t hc1 hf
    refine lv_tableIn (off := 43) (tgt := 44) hx hb dX7_count_1 (by omega) (by omega) (by rw [hc1]; rfl) (by decide) ?_
    refine lv_aload_n hx hb dX7_count_44 rfl (lv_at hl 0 rfl) ?_
    refine q_gr (P := 0) X hh ht fk_X7_14 dX7_count_45 hN hf (fun t2 h3 hf => ?_)
    refine r_gi X hh h3 fk_X7_70 dX7_count_48 ?_
    exact e_i X hr hlk hh ⟨so_e hf, rfl⟩ dX7_count_51
  · have hf := if_f hc1 hf
    by_cases hc4 : a0.toInt = 1
    · have hf := if_t hc4 hf
      refine lv_tableIn (off := 51) (tgt := 52) hx hb dX7_count_1 (by omega) (by omega) (by rw [hc4]; rfl) (by decide) ?_
      refine lv_aload_n hx hb dX7_count_52 rfl (lv_at hl 0 rfl) ?_
      refine q_gr (P := 0) X hh ht fk_X7_14 dX7_count_53 hN hf (fun t5 h6 hf => ?_)
      refine r_gi X hh h6 fk_X7_74 dX7_count_56 ?_
      exact e_i X hr hlk hh ⟨so_e hf, rfl⟩ dX7_count_59
    · have hf := if_f hc4 hf
      by_cases hc7 : a0.toInt = 2
      · have hf := if_t hc7 hf
        refine lv_tableIn (off := 59) (tgt := 60) hx hb dX7_count_1 (by omega) (by omega) (by rw [hc7]; rfl) (by decide) ?_
        refine lv_aload_n hx hb dX7_count_60 rfl (lv_at hl 0 rfl) ?_
        refine q_gr (P := 0) X hh ht fk_X7_14 dX7_count_61 hN hf (fun t8 h9 hf => ?_)
        refine r_gi X hh h9 fk_X7_102 dX7_count_64 ?_
        exact e_i X hr hlk hh ⟨so_e hf, rfl⟩ dX7_count_67
      · have hf := if_f hc7 hf
        by_cases hc10 : a0.toInt = 3
        · have hf := if_t hc10 hf
          refine lv_tableIn (off := 67) (tgt := 68) hx hb dX7_count_1 (by omega) (by omega) (by rw [hc10]; rfl) (by decide) ?_
          refine lv_aload_n hx hb dX7_count_68 rfl (lv_at hl 0 rfl) ?_
          refine q_gr (P := 2) X hh ht fk_X7_48 dX7_count_69 hN hf (fun t11 h12 hf => ?_)
          obtain ⟨v14, hc13, hf⟩ := c1_e hf
          refine q_V (w' := w) (rest := []) X hml hh (some (.int v14)) (m_X2_undoable l B D hN h12 hc13) cf_X2_undoable k_390 h12 ci_2 rfl rfl hl.1 rfl (Nat.le_of_ble_eq_true rfl) ⟨Nat.le_of_ble_eq_true rfl, Nat.le_of_ble_eq_true rfl⟩ ⟨Nat.zero_le _, Nat.zero_le _⟩ dX7_count_72 rfl (fun H locs hh => ?_)
          exact e_i X hr hlk hh ⟨so_e hf, rfl⟩ dX7_count_75
        · have hf := if_f hc10 hf
          by_cases hc15 : a0.toInt = 4
          · have hf := if_t hc15 hf
            refine lv_tableIn (off := 75) (tgt := 76) hx hb dX7_count_1 (by omega) (by omega) (by rw [hc15]; rfl) (by decide) ?_
            refine lv_aload_n hx hb dX7_count_76 rfl (lv_at hl 0 rfl) ?_
            refine q_gr (P := 2) X hh ht fk_X7_48 dX7_count_77 hN hf (fun t16 h17 hf => ?_)
            obtain ⟨v19, hc18, hf⟩ := c1_e hf
            refine q_V (w' := w) (rest := []) X hml hh (some (.int v19)) (m_X2_redoable l B D hN h17 hc18) cf_X2_redoable k_402 h17 ci_2 rfl rfl hl.1 rfl (Nat.le_of_ble_eq_true rfl) ⟨Nat.le_of_ble_eq_true rfl, Nat.le_of_ble_eq_true rfl⟩ ⟨Nat.zero_le _, Nat.zero_le _⟩ dX7_count_80 rfl (fun H locs hh => ?_)
            exact e_i X hr hlk hh ⟨so_e hf, rfl⟩ dX7_count_83
          · have hf := if_f hc15 hf
            by_cases hc20 : a0.toInt = 5
            · have hf := if_t hc20 hf
              refine lv_tableIn (off := 83) (tgt := 84) hx hb dX7_count_1 (by omega) (by omega) (by rw [hc20]; rfl) (by decide) ?_
              refine lv_aload_n hx hb dX7_count_84 rfl (lv_at hl 0 rfl) ?_
              refine q_gr (P := 6) X hh ht fk_X7_55 dX7_count_85 hN hf (fun t21 h22 hf => ?_)
              refine r_gi X hh h22 fk_X7_205 dX7_count_88 ?_
              exact e_i X hr hlk hh ⟨so_e hf, rfl⟩ dX7_count_91
            · have hf := if_f hc20 hf
              by_cases hc23 : a0.toInt = 6
              · have hf := if_t hc23 hf
                refine lv_tableIn (off := 91) (tgt := 92) hx hb dX7_count_1 (by omega) (by omega) (by rw [hc23]; rfl) (by decide) ?_
                refine lv_aload_n hx hb dX7_count_92 rfl (lv_at hl 0 rfl) ?_
                refine q_gr (P := 0) X hh ht fk_X7_14 dX7_count_93 hN hf (fun t24 h25 hf => ?_)
                obtain ⟨v27, hc26, hf⟩ := c1_e hf
                refine q_V (w' := w) (rest := []) X hml hh (some (.int v27)) (m_X0_total l B D hN h25 hc26) cf_X0_total k_426 h25 ci_0 rfl rfl hl.1 rfl (Nat.le_of_ble_eq_true rfl) ⟨Nat.le_of_ble_eq_true rfl, Nat.le_of_ble_eq_true rfl⟩ ⟨Nat.zero_le _, Nat.zero_le _⟩ dX7_count_96 rfl (fun H locs hh => ?_)
                exact e_i X hr hlk hh ⟨so_e hf, rfl⟩ dX7_count_99
              · have hf := if_f hc23 hf
                refine lv_tableOut (tgt := 100) hx hb dX7_count_1 (by omega) (by decide) ?_
                refine lv_iconst (v := (-1 : Int32)) hx hb dX7_count_100 (by decide) ?_
                exact e_i X hr hlk hh ⟨so_e hf, rfl⟩ dX7_count_101

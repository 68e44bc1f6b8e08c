set_option maxHeartbeats 4000000 in
set_option maxRecDepth 100000 in
theorem m_X0_hasCell (l : Launch) (B : Nat) (D : DD) {n : Nat} (hN : 139 ≤ n) {t : Nat} {a0 : Int32} {a1 : Int32} {w : Wd} {r : Int32} (ht : t < n ∧ kd t = 0) (hf : f_X0_hasCell t a0 a1 w = some r) : Ct l yX0_hasCell cX0_hasCell 3 (some .boolean) 0 0 0 0 B D [.ref (B + t), .int a0, .int a1] n w (some (.int r)) n w := by
  refine m_of (by decide) (Nat.le_of_ble_eq_true rfl) (fun p e s m args below meth c X hml hr hlk _ H locs hh ls hl => ?_)
  have hx := X.1
  have hb := X.2.1
  have hl : lv_has ls 3 [(0, .ref (B + t)), (1, .int a0), (2, .int a1)] := hl
  unfold f_X0_hasCell at hf
  refine lv_iload_n hx hb dX0_hasCell_0 rfl (lv_at hl 1 rfl) ?_
  refine lv_iconst (v := (1 : Int32)) hx hb dX0_hasCell_1 (by decide) ?_
  refine mg_W (P := fun (x5 : Int32) => ∀ (ls : Array Slot), lv_has ls 3 [] → W p l e (rmk 0 0 0 0) s m args below meth c H locs 0 0 (MZ below B D n w (some (.int r)) args s 0 0) (F0 m 31 ls [.int x5])) hf (fun x5 hf ls hl => ?_) (fun hj6 => ?_)
  · have hz := zb_e hf
    have hf := hz.2
    exact e_z X hr hlk hh hz.1 ⟨so_e hf, rfl⟩ dX0_hasCell_31
  · refine lv_icmp_lt (tgt := 30) hx hb dX0_hasCell_2 (by decide) (fun hc1 => ?_) (fun hc1 => ?_)
    · refine lv_iconst (v := (0 : Int32)) hx hb dX0_hasCell_30 (by decide) ?_
      exact hj6 _ (by rw [if_pos hc1]) ls (lv_sub hl [] rfl)
    · refine lv_iload_n hx hb dX0_hasCell_5 rfl (lv_at hl 1 rfl) ?_
      refine lv_aload_n hx hb dX0_hasCell_6 rfl (lv_at hl 0 rfl) ?_
      refine r_gi X hh ht fk_X0_9 dX0_hasCell_7 ?_
      refine lv_icmp_gt (tgt := 30) hx hb dX0_hasCell_10 (by decide) (fun hc2 => ?_) (fun hc2 => ?_)
      · refine lv_iconst (v := (0 : Int32)) hx hb dX0_hasCell_30 (by decide) ?_
        exact hj6 _ (by rw [if_neg hc1, if_pos hc2]) ls (lv_sub hl [] rfl)
      · refine lv_iload_n hx hb dX0_hasCell_13 rfl (lv_at hl 2 rfl) ?_
        refine lv_iconst (v := (1 : Int32)) hx hb dX0_hasCell_14 (by decide) ?_
        refine lv_icmp_lt (tgt := 30) hx hb dX0_hasCell_15 (by decide) (fun hc3 => ?_) (fun hc3 => ?_)
        · refine lv_iconst (v := (0 : Int32)) hx hb dX0_hasCell_30 (by decide) ?_
          exact hj6 _ (by rw [if_neg hc1, if_neg hc2, if_pos hc3]) ls (lv_sub hl [] rfl)
        · refine lv_iload_n hx hb dX0_hasCell_18 rfl (lv_at hl 2 rfl) ?_
          refine lv_aload_n hx hb dX0_hasCell_19 rfl (lv_at hl 0 rfl) ?_
          refine r_gi X hh ht fk_X0_15 dX0_hasCell_20 ?_
          refine lv_icmp_gt (tgt := 30) hx hb dX0_hasCell_23 (by decide) (fun hc4 => ?_) (fun hc4 => ?_)
          · refine lv_iconst (v := (0 : Int32)) hx hb dX0_hasCell_30 (by decide) ?_
            exact hj6 _ (by rw [if_neg hc1, if_neg hc2, if_neg hc3, if_pos hc4]) ls (lv_sub hl [] rfl)
          · refine lv_iconst (v := (1 : Int32)) hx hb dX0_hasCell_26 (by decide) ?_
            refine lv_goto (tgt := 31) hx hb dX0_hasCell_27 (by decide) ?_
            exact hj6 _ (by rw [if_neg hc1, if_neg hc2, if_neg hc3, if_neg hc4]) ls (lv_sub hl [] rfl)
set_option maxHeartbeats 4000000 in
set_option maxRecDepth 100000 in
theorem m_X0_hasCorner (l : Launch) (B : Nat) (D : DD) {n : Nat} (hN : 139 ≤ n) {t : Nat} {a0 : Int32} {a1 : Int32} {w : Wd} {r : Int32} (ht : t < n ∧ kd t = 0) (hf : f_X0_hasCorner t a0 a1 w = some r) : Ct l yX0_hasCorner cX0_hasCorner 3 (some .boolean) 0 0 0 0 B D [.ref (B + t), .int a0, .int a1] n w (some (.int r)) n w := by
  refine m_of (by decide) (Nat.le_of_ble_eq_true rfl) (fun p e s m args below meth c X hml hr hlk _ H locs hh ls hl => ?_)
  have hx := X.1
  have hb := X.2.1
  have hl : lv_has ls 3 [(0, .ref (B + t)), (1, .int a0), (2, .int a1)] := hl
  unfold f_X0_hasCorner at hf
  refine lv_iload_n hx hb dX0_hasCorner_0 rfl (lv_at hl 1 rfl) ?_
  refine mg_W (P := fun (x5 : Int32) => ∀ (ls : Array Slot), lv_has ls 3 [] → W p l e (rmk 0 0 0 0) s m args below meth c H locs 0 0 (MZ below B D n w (some (.int r)) args s 0 0) (F0 m 29 ls [.int x5])) hf (fun x5 hf ls hl => ?_) (fun hj6 => ?_)
  · have hz := zb_e hf
    have hf := hz.2
    exact e_z X hr hlk hh hz.1 ⟨so_e hf, rfl⟩ dX0_hasCorner_29
  · refine lv_if_lt (tgt := 28) hx hb dX0_hasCorner_1 (by decide) (fun hc1 => ?_) (fun hc1 => ?_)
    · refine lv_iconst (v := (0 : Int32)) hx hb dX0_hasCorner_28 (by decide) ?_
      exact hj6 _ (by rw [if_pos hc1]) ls (lv_sub hl [] rfl)
    · refine lv_iload_n hx hb dX0_hasCorner_4 rfl (lv_at hl 1 rfl) ?_
      refine lv_aload_n hx hb dX0_hasCorner_5 rfl (lv_at hl 0 rfl) ?_
      refine r_gi X hh ht fk_X0_9 dX0_hasCorner_6 ?_
      refine lv_icmp_gt (tgt := 28) hx hb dX0_hasCorner_9 (by decide) (fun hc2 => ?_) (fun hc2 => ?_)
      · refine lv_iconst (v := (0 : Int32)) hx hb dX0_hasCorner_28 (by decide) ?_
        exact hj6 _ (by rw [if_neg hc1, if_pos hc2]) ls (lv_sub hl [] rfl)
      · refine lv_iload_n hx hb dX0_hasCorner_12 rfl (lv_at hl 2 rfl) ?_
        refine lv_if_lt (tgt := 28) hx hb dX0_hasCorner_13 (by decide) (fun hc3 => ?_) (fun hc3 => ?_)
        · refine lv_iconst (v := (0 : Int32)) hx hb dX0_hasCorner_28 (by decide) ?_
          exact hj6 _ (by rw [if_neg hc1, if_neg hc2, if_pos hc3]) ls (lv_sub hl [] rfl)
        · refine lv_iload_n hx hb dX0_hasCorner_16 rfl (lv_at hl 2 rfl) ?_
          refine lv_aload_n hx hb dX0_hasCorner_17 rfl (lv_at hl 0 rfl) ?_
          refine r_gi X hh ht fk_X0_15 dX0_hasCorner_18 ?_
          refine lv_icmp_gt (tgt := 28) hx hb dX0_hasCorner_21 (by decide) (fun hc4 => ?_) (fun hc4 => ?_)
          · refine lv_iconst (v := (0 : Int32)) hx hb dX0_hasCorner_28 (by decide) ?_
            exact hj6 _ (by rw [if_neg hc1, if_neg hc2, if_neg hc3, if_pos hc4]) ls (lv_sub hl [] rfl)
          · refine lv_iconst (v := (1 : Int32)) hx hb dX0_hasCorner_24 (by decide) ?_
            refine lv_goto (tgt := 29) hx hb dX0_hasCorner_25 (by decide) ?_
            exact hj6 _ (by rw [if_neg hc1, if_neg hc2, if_neg hc3, if_neg hc4]) ls (lv_sub hl [] rfl)
set_option maxHeartbeats 4000000 in
set_option maxRecDepth 100000 in
theorem m_X0_placeOf (l : Launch) (B : Nat) (D : DD) {n : Nat} (hN : 139 ≤ n) {a0 : Int32} {a1 : Int32} {w : Wd} {r : Int32} (hf : f_X0_placeOf a0 a1 = some r) : Ct l yX0_placeOf cX0_placeOf 2 (some .int) 0 0 0 0 B D [.int a0, .int a1] n w (some (.int r)) n w := by
  refine m_of (by decide) (Nat.le_of_ble_eq_true rfl) (fun p e s m args below meth c X hml hr hlk _ H locs hh ls hl => ?_)
  have hx := X.1
  have hb := X.2.1
  have hl : lv_has ls 2 [(0, .int a0), (1, .int a1)] := hl
  unfold f_X0_placeOf at hf
  refine lv_iload_n hx hb dX0_placeOf_0 rfl (lv_at hl 0 rfl) ?_
  refine lv_iconst (v := (1 : Int32)) hx hb dX0_placeOf_1 (by decide) ?_
  refine lv_isub hx hb dX0_placeOf_2 ?_
  refine lv_iconst (v := (5 : Int32)) hx hb dX0_placeOf_3 (by decide) ?_
  refine lv_imul hx hb dX0_placeOf_4 ?_
  refine lv_iload_n hx hb dX0_placeOf_5 rfl (lv_at hl 1 rfl) ?_
  refine lv_iconst (v := (1 : Int32)) hx hb dX0_placeOf_6 (by decide) ?_
  refine lv_isub hx hb dX0_placeOf_7 ?_
  refine lv_iadd hx hb dX0_placeOf_8 ?_
  exact e_i X hr hlk hh ⟨so_e hf, rfl⟩ dX0_placeOf_9
set_option maxHeartbeats 4000000 in
set_option maxRecDepth 100000 in
theorem m_X0_numberAt (l : Launch) (B : Nat) (D : DD) {n : Nat} (hN : 139 ≤ n) {t : Nat} {a0 : Int32} {a1 : Int32} {w : Wd} {r : Int32} (ht : t < n ∧ kd t = 0) (hf : f_X0_numberAt t a0 a1 w = some r) : Ct l yX0_numberAt cX0_numberAt 3 (some .int) 1 22 0 0 B D [.ref (B + t), .int a0, .int a1] n w (some (.int r)) n w := by
  refine m_of (by decide) (Nat.le_of_ble_eq_true rfl) (fun p e s m args below meth c X hml hr hlk _ H locs hh ls hl => ?_)
  have hx := X.1
  have hb := X.2.1
  have hl : lv_has ls 3 [(0, .ref (B + t)), (1, .int a0), (2, .int a1)] := hl
  unfold f_X0_numberAt at hf
  refine lv_aload_n hx hb dX0_numberAt_0 rfl (lv_at hl 0 rfl) ?_
  refine lv_iload_n hx hb dX0_numberAt_1 rfl (lv_at hl 1 rfl) ?_
  refine lv_iload_n hx hb dX0_numberAt_2 rfl (lv_at hl 2 rfl) ?_
  obtain ⟨v2, hc1, hf⟩ := c1_e hf
  refine q_V (w' := w) (rest := []) X hml hh (some (.int v2)) (m_X0_hasCell l B D hN ht hc1) cf_X0_hasCell k_206 ht ci_0 rfl rfl hl.1 rfl (Nat.le_of_ble_eq_true rfl) ⟨Nat.le_of_ble_eq_true rfl, Nat.le_of_ble_eq_true rfl⟩ ⟨Nat.zero_le _, Nat.zero_le _⟩ dX0_numberAt_3 rfl (fun H locs hh => ?_)
  refine lv_if_eq (tgt := 22) hx hb dX0_numberAt_6 (by decide) (fun hc3 => ?_) (fun hc3 => ?_)
  · have hf := if_t hc3 hf
    refine lv_iconst (v := (0 : Int32)) hx hb dX0_numberAt_22 (by decide) ?_
    exact e_i X hr hlk hh ⟨so_e hf, rfl⟩ dX0_numberAt_23
  · have hf := if_f hc3 hf
    refine lv_aload_n hx hb dX0_numberAt_9 rfl (lv_at hl 0 rfl) ?_
    refine q_gr (P := 9) X hh ht fk_X0_21 dX0_numberAt_10 hN hf (fun t4 h5 hf => ?_)
    refine lv_iload_n hx hb dX0_numberAt_13 rfl (lv_at hl 1 rfl) ?_
    refine lv_iload_n hx hb dX0_numberAt_14 rfl (lv_at hl 2 rfl) ?_
    obtain ⟨v7, hc6, hf⟩ := c1_e hf
    refine q_S (w' := w) (rest := [.ref (B + t4)]) X hml hh (some (.int v7)) (m_X0_placeOf l B D hN hc6) cf_X0_placeOf k_207 rfl hl.1 rfl (Nat.le_of_ble_eq_true rfl) ⟨Nat.le_of_ble_eq_true rfl, Nat.le_of_ble_eq_true rfl⟩ ⟨Nat.zero_le _, Nat.zero_le _⟩ dX0_numberAt_15 rfl (fun H locs hh => ?_)
    refine q_ald X hh h5 dX0_numberAt_18 hf (fun hf => ?_)
    refine lv_topi (fun x9 e10 => ?_)
    have hf := lt_e e10 hf
    refine lv_goto (tgt := 23) hx hb dX0_numberAt_19 (by decide) ?_
    exact e_i X hr hlk hh ⟨so_e hf, rfl⟩ dX0_numberAt_23
set_option maxHeartbeats 4000000 in
set_option maxRecDepth 100000 in
theorem m_X0_setNumber (l : Launch) (B : Nat) (D : DD) {n : Nat} (hN : 139 ≤ n) {t : Nat} {a0 : Int32} {a1 : Int32} {a2 : Int32} {w : Wd} {w' : Wd} (ht : t < n ∧ kd t = 0) (hf : f_X0_setNumber t a0 a1 a2 w = some w') : Ct l yX0_setNumber cX0_setNumber 4 none 1 22 0 0 B D [.ref (B + t), .int a0, .int a1, .int a2] n w none n w' := by
  refine m_of (by decide) (Nat.le_of_ble_eq_true rfl) (fun p e s m args below meth c X hml hr hlk _ H locs hh ls hl => ?_)
  have hx := X.1
  have hb := X.2.1
  have hl : lv_has ls 4 [(0, .ref (B + t)), (1, .int a0), (2, .int a1), (3, .int a2)] := hl
  unfold f_X0_setNumber at hf
  refine lv_aload_n hx hb dX0_setNumber_0 rfl (lv_at hl 0 rfl) ?_
  refine lv_iload_n hx hb dX0_setNumber_1 rfl (lv_at hl 1 rfl) ?_
  refine lv_iload_n hx hb dX0_setNumber_2 rfl (lv_at hl 2 rfl) ?_
  obtain ⟨v2, hc1, hf⟩ := c1_e hf
  refine q_V (w' := w) (rest := []) X hml hh (some (.int v2)) (m_X0_hasCell l B D hN ht hc1) cf_X0_hasCell k_206 ht ci_0 rfl rfl hl.1 rfl (Nat.le_of_ble_eq_true rfl) ⟨Nat.le_of_ble_eq_true rfl, Nat.le_of_ble_eq_true rfl⟩ ⟨Nat.zero_le _, Nat.zero_le _⟩ dX0_setNumber_3 rfl (fun H locs hh => ?_)
  refine lv_if_eq (tgt := 20) hx hb dX0_setNumber_6 (by decide) (fun hc3 => ?_) (fun hc3 => ?_)
  · have hf := if_t hc3 hf
    exact e_v X hr hlk hh ⟨rfl, so_e hf⟩ dX0_setNumber_20
  · have hf := if_f hc3 hf
    refine lv_aload_n hx hb dX0_setNumber_9 rfl (lv_at hl 0 rfl) ?_
    refine q_gr (P := 9) X hh ht fk_X0_21 dX0_setNumber_10 hN hf (fun t4 h5 hf => ?_)
    refine lv_iload_n hx hb dX0_setNumber_13 rfl (lv_at hl 1 rfl) ?_
    refine lv_iload_n hx hb dX0_setNumber_14 rfl (lv_at hl 2 rfl) ?_
    obtain ⟨v7, hc6, hf⟩ := c1_e hf
    refine q_S (w' := w) (rest := [.ref (B + t4)]) X hml hh (some (.int v7)) (m_X0_placeOf l B D hN hc6) cf_X0_placeOf k_207 rfl hl.1 rfl (Nat.le_of_ble_eq_true rfl) ⟨Nat.le_of_ble_eq_true rfl, Nat.le_of_ble_eq_true rfl⟩ ⟨Nat.zero_le _, Nat.zero_le _⟩ dX0_setNumber_15 rfl (fun H locs hh => ?_)
    refine lv_iload_n hx hb dX0_setNumber_18 rfl (lv_at hl 3 rfl) ?_
    refine q_ast X hh h5 dX0_setNumber_19 hf (fun w9 H locs hf hh => ?_)
    exact e_v X hr hlk hh ⟨rfl, so_e hf⟩ dX0_setNumber_20
set_option maxHeartbeats 4000000 in
set_option maxRecDepth 100000 in
theorem m_X0_worthAt (l : Launch) (B : Nat) (D : DD) {n : Nat} (hN : 139 ≤ n) {t : Nat} {a0 : Int32} {a1 : Int32} {w : Wd} {r : Int32} (ht : t < n ∧ kd t = 0) (hf : f_X0_worthAt t a0 a1 w = some r) : Ct l yX0_worthAt cX0_worthAt 4 (some .int) 2 44 0 0 B D [.ref (B + t), .int a0, .int a1] n w (some (.int r)) n w := by
  refine m_of (by decide) (Nat.le_of_ble_eq_true rfl) (fun p e s m args below meth c X hml hr hlk _ H locs hh ls hl => ?_)
  have hx := X.1
  have hb := X.2.1
  have hl : lv_has ls 4 [(0, .ref (B + t)), (1, .int a0), (2, .int a1)] := hl
  unfold f_X0_worthAt at hf
  refine lv_aload_n hx hb dX0_worthAt_0 rfl (lv_at hl 0 rfl) ?_
  refine lv_iload_n hx hb dX0_worthAt_1 rfl (lv_at hl 1 rfl) ?_
  refine lv_iload_n hx hb dX0_worthAt_2 rfl (lv_at hl 2 rfl) ?_
  obtain ⟨v2, hc1, hf⟩ := c1_e hf
  refine q_V (w' := w) (rest := []) X hml hh (some (.int v2)) (m_X0_numberAt l B D hN ht hc1) cf_X0_numberAt k_241 ht ci_0 rfl rfl hl.1 rfl (Nat.le_of_ble_eq_true rfl) ⟨Nat.le_of_ble_eq_true rfl, Nat.le_of_ble_eq_true rfl⟩ ⟨Nat.zero_le _, Nat.zero_le _⟩ dX0_worthAt_3 rfl (fun H locs hh => ?_)
  refine lv_istore_n (lv' := [(3, .int v2), (0, .ref (B + t)), (1, .int a0), (2, .int a1)]) hx hb dX0_worthAt_6 rfl hl (by decide) rfl (fun ls hl => ?_)
  refine lv_aload_n hx hb dX0_worthAt_7 rfl (lv_at hl 1 rfl) ?_
  refine r_gi X hh ht fk_X0_18 dX0_worthAt_8 ?_
  refine lv_iconst (v := (1 : Int32)) hx hb dX0_worthAt_11 (by decide) ?_
  refine mg_W (P := fun (x5 : Int32) => ∀ (ls : Array Slot), lv_has ls 4 [] → W p l e (rmk 2 44 0 0) s m args below meth c H locs 0 0 (MZ below B D n w (some (.int r)) args s 0 0) (F0 m 32 ls [.int x5])) hf (fun x5 hf ls hl => ?_) (fun hj6 => ?_)
  · exact e_i X hr hlk hh ⟨so_e hf, rfl⟩ dX0_worthAt_32
  · refine lv_icmp_eq (tgt := 23) hx hb dX0_worthAt_12 (by decide) (fun hc3 => ?_) (fun hc3 => ?_)
    · refine lv_iload_n hx hb dX0_worthAt_23 rfl (lv_at hl 0 rfl) ?_
      refine lv_iconst (v := (1 : Int32)) hx hb dX0_worthAt_24 (by decide) ?_
      refine q_min X hml hl.1 k_277 (Nat.le_of_ble_eq_true rfl) ⟨Nat.le_of_ble_eq_true rfl, Nat.le_of_ble_eq_true rfl⟩ ⟨Nat.zero_le _, Nat.zero_le _⟩ dX0_worthAt_25 ?_
      refine lv_goto (tgt := 32) hx hb dX0_worthAt_28 (by decide) ?_
      exact hj6 _ (by rw [if_pos hc3]) ls (lv_sub hl [] rfl)
    · refine lv_aload_n hx hb dX0_worthAt_15 rfl (lv_at hl 1 rfl) ?_
      refine r_gi X hh ht fk_X0_18 dX0_worthAt_16 ?_
      refine lv_iconst (v := (2 : Int32)) hx hb dX0_worthAt_19 (by decide) ?_
      refine lv_icmp_ne (tgt := 31) hx hb dX0_worthAt_20 (by decide) (fun hc4 => ?_) (fun hc4 => ?_)
      · refine lv_iload_n hx hb dX0_worthAt_31 rfl (lv_at hl 0 rfl) ?_
        exact hj6 _ (by rw [if_neg hc3, if_neg hc4]) ls (lv_sub hl [] rfl)
      · refine lv_iload_n hx hb dX0_worthAt_23 rfl (lv_at hl 0 rfl) ?_
        refine lv_iconst (v := (1 : Int32)) hx hb dX0_worthAt_24 (by decide) ?_
        refine q_min X hml hl.1 k_277 (Nat.le_of_ble_eq_true rfl) ⟨Nat.le_of_ble_eq_true rfl, Nat.le_of_ble_eq_true rfl⟩ ⟨Nat.zero_le _, Nat.zero_le _⟩ dX0_worthAt_25 ?_
        refine lv_goto (tgt := 32) hx hb dX0_worthAt_28 (by decide) ?_
        exact hj6 _ (by rw [if_neg hc3, if_pos hc4]) ls (lv_sub hl [] rfl)
set_option maxHeartbeats 4000000 in
set_option maxRecDepth 100000 in
theorem m_X0_clearTo (l : Launch) (B : Nat) (D : DD) {n : Nat} (hN : 139 ≤ n) {t : Nat} {a0 : Int32} {a1 : Int32} {w : Wd} {w' : Wd} (ht : t < n ∧ kd t = 0) (hf : f_X0_clearTo t a0 a1 w = some w') : Ct l yX0_clearTo cX0_clearTo 4 none 0 0 0 0 B D [.ref (B + t), .int a0, .int a1] n w none n w' := by
  refine m_of (by decide) (Nat.le_of_ble_eq_true rfl) (fun p e s m args below meth c X hml hr hlk _ H locs hh ls hl => ?_)
  have hx := X.1
  have hb := X.2.1
  have hl : lv_has ls 4 [(0, .ref (B + t)), (1, .int a0), (2, .int a1)] := hl
  unfold f_X0_clearTo at hf
  refine lv_aload_n hx hb dX0_clearTo_0 rfl (lv_at hl 0 rfl) ?_
  refine lv_iload_n hx hb dX0_clearTo_1 rfl (lv_at hl 1 rfl) ?_
  refine q_pi X hh ht fk_X0_9 pk_0_0 rfl rfl dX0_clearTo_2 hf (fun w1 H locs hf hh => ?_)
  refine lv_aload_n hx hb dX0_clearTo_5 rfl (lv_at hl 0 rfl) ?_
  refine lv_iload_n hx hb dX0_clearTo_6 rfl (lv_at hl 2 rfl) ?_
  refine q_pi X hh ht fk_X0_15 pk_0_1 rfl rfl dX0_clearTo_7 hf (fun w2 H locs hf hh => ?_)
  refine lv_iconst (v := (0 : Int32)) hx hb dX0_clearTo_10 (by decide) ?_
  refine lv_istore_n (lv' := [(3, .int (0 : Int32)), (0, .ref (B + t)), (1, .int a0), (2, .int a1)]) hx hb dX0_clearTo_11 rfl hl (by decide) rfl (fun ls hl => ?_)
  refine wl2_W (P := fun (x3 : Int32) (w4 : Wd) => ∀ (H : Heap) (locs : List Loc) (ls : Array Slot), Hp B D n w4 s H locs → lv_has ls 4 [(0, .ref (B + t)), (3, .int x3)] → W p l e (rmk 0 0 0 0) s m args below meth c H locs 0 0 (MZ below B D n w' none args s 0 0) (F0 m 12 ls [])) hf (fun x3 w4 k5 ih6 hf  H locs ls hh hl => ?_)  _ _ _ hh (lv_sub hl [1, 0] rfl)
  refine lv_iload_n hx hb dX0_clearTo_12 rfl (lv_at hl 1 rfl) ?_
  refine lv_aload_n hx hb dX0_clearTo_13 rfl (lv_at hl 0 rfl) ?_
  refine q_gr (P := 9) X hh ht fk_X0_21 dX0_clearTo_14 hN hf (fun t7 h8 hf => ?_)
  refine r_alen X hh h8 ⟨by decide, by decide⟩ dX0_clearTo_17 ?_
  refine lv_icmp_ge (tgt := 34) hx hb dX0_clearTo_18 (by decide) (fun hc9 => ?_) (fun hc9 => ?_)
  · have hf := if_t hc9 hf
    exact e_v X hr hlk hh ⟨rfl, so_e hf⟩ dX0_clearTo_34
  · have hf := if_f hc9 hf
    refine lv_aload_n hx hb dX0_clearTo_21 rfl (lv_at hl 0 rfl) ?_
    refine q_gr (P := 9) X hh ht fk_X0_21 dX0_clearTo_22 hN hf (fun t10 h11 hf => ?_)
    refine lv_iload_n hx hb dX0_clearTo_25 rfl (lv_at hl 1 rfl) ?_
    refine lv_iconst (v := (0 : Int32)) hx hb dX0_clearTo_26 (by decide) ?_
    refine q_ast X hh h11 dX0_clearTo_27 hf (fun w13 H locs hf hh => ?_)
    obtain ⟨x14, e15⟩ : ∃ y : Int32, y = (x3 + (1 : Int32)) := ⟨_, rfl⟩
    have hf := lt_e e15 hf
    refine lv_iinc (v := x14) (lv' := [(3, .int x14), (0, .ref (B + t))]) hx hb dX0_clearTo_28 hl (k := 1) rfl (by rw [e15]; rfl) (by decide) rfl (fun ls hl => ?_)
    refine lv_goto (tgt := 12) hx hb dX0_clearTo_31 (by decide) ?_
    exact ih6 _ _ hf  _ _ _ hh (lv_sub hl [1, 0] rfl)
set_option maxHeartbeats 4000000 in
set_option maxRecDepth 100000 in
theorem m_X0_copyFrom (l : Launch) (B : Nat) (D : DD) {n : Nat} (hN : 139 ≤ n) {t : Nat} {a0 : Nat} {w : Wd} {w' : Wd} (ht : t < n ∧ kd t = 0) (ha0 : a0 < n ∧ kd a0 = 0) (hf : f_X0_copyFrom t a0 w = some w') : Ct l yX0_copyFrom cX0_copyFrom 3 none 0 0 0 0 B D [.ref (B + t), .ref (B + a0)] n w none n w' := by
  refine m_of (by decide) (Nat.le_of_ble_eq_true rfl) (fun p e s m args below meth c X hml hr hlk _ H locs hh ls hl => ?_)
  have hx := X.1
  have hb := X.2.1
  have hl : lv_has ls 3 [(0, .ref (B + t)), (1, .ref (B + a0))] := hl
  unfold f_X0_copyFrom at hf
  refine lv_aload_n hx hb dX0_copyFrom_0 rfl (lv_at hl 0 rfl) ?_
  refine lv_aload_n hx hb dX0_copyFrom_1 rfl (lv_at hl 1 rfl) ?_
  refine r_gi X hh ha0 fk_X0_9 dX0_copyFrom_2 ?_
  refine q_pi X hh ht fk_X0_9 pk_0_0 rfl rfl dX0_copyFrom_5 hf (fun w1 H locs hf hh => ?_)
  refine lv_aload_n hx hb dX0_copyFrom_8 rfl (lv_at hl 0 rfl) ?_
  refine lv_aload_n hx hb dX0_copyFrom_9 rfl (lv_at hl 1 rfl) ?_
  refine r_gi X hh ha0 fk_X0_15 dX0_copyFrom_10 ?_
  refine q_pi X hh ht fk_X0_15 pk_0_1 rfl rfl dX0_copyFrom_13 hf (fun w2 H locs hf hh => ?_)
  refine lv_aload_n hx hb dX0_copyFrom_16 rfl (lv_at hl 0 rfl) ?_
  refine lv_aload_n hx hb dX0_copyFrom_17 rfl (lv_at hl 1 rfl) ?_
  refine r_gi X hh ha0 fk_X0_18 dX0_copyFrom_18 ?_
  refine q_pi X hh ht fk_X0_18 pk_0_2 rfl rfl dX0_copyFrom_21 hf (fun w3 H locs hf hh => ?_)
  refine lv_iconst (v := (0 : Int32)) hx hb dX0_copyFrom_24 (by decide) ?_
  refine lv_istore_n (lv' := [(2, .int (0 : Int32)), (0, .ref (B + t)), (1, .ref (B + a0))]) hx hb dX0_copyFrom_25 rfl hl (by decide) rfl (fun ls hl => ?_)
  refine wl2_W (P := fun (x4 : Int32) (w5 : Wd) => ∀ (H : Heap) (locs : List Loc) (ls : Array Slot), Hp B D n w5 s H locs → lv_has ls 3 [(0, .ref (B + t)), (1, .ref (B + a0)), (2, .int x4)] → W p l e (rmk 0 0 0 0) s m args below meth c H locs 0 0 (MZ below B D n w' none args s 0 0) (F0 m 26 ls [])) hf (fun x4 w5 k6 ih7 hf  H locs ls hh hl => ?_)  _ _ _ hh (lv_sub hl [1, 2, 0] rfl)
  refine lv_iload_n hx hb dX0_copyFrom_26 rfl (lv_at hl 2 rfl) ?_
  refine lv_aload_n hx hb dX0_copyFrom_27 rfl (lv_at hl 0 rfl) ?_
  refine q_gr (P := 9) X hh ht fk_X0_21 dX0_copyFrom_28 hN hf (fun t8 h9 hf => ?_)
  refine r_alen X hh h9 ⟨by decide, by decide⟩ dX0_copyFrom_31 ?_
  refine lv_icmp_ge (tgt := 53) hx hb dX0_copyFrom_32 (by decide) (fun hc10 => ?_) (fun hc10 => ?_)
  · have hf := if_t hc10 hf
    exact e_v X hr hlk hh ⟨rfl, so_e hf⟩ dX0_copyFrom_53
  · have hf := if_f hc10 hf
    refine lv_aload_n hx hb dX0_copyFrom_35 rfl (lv_at hl 0 rfl) ?_
    refine q_gr (P := 9) X hh ht fk_X0_21 dX0_copyFrom_36 hN hf (fun t11 h12 hf => ?_)
    refine lv_iload_n hx hb dX0_copyFrom_39 rfl (lv_at hl 2 rfl) ?_
    refine lv_aload_n hx hb dX0_copyFrom_40 rfl (lv_at hl 1 rfl) ?_
    refine q_gr (P := 9) X hh ha0 fk_X0_21 dX0_copyFrom_41 hN hf (fun t13 h14 hf => ?_)
    refine lv_iload_n hx hb dX0_copyFrom_44 rfl (lv_at hl 2 rfl) ?_
    refine q_ald X hh h14 dX0_copyFrom_45 hf (fun hf => ?_)
    refine q_ast X hh h12 dX0_copyFrom_46 hf (fun w17 H locs hf hh => ?_)
    obtain ⟨x18, e19⟩ : ∃ y : Int32, y = (x4 + (1 : Int32)) := ⟨_, rfl⟩
    have hf := lt_e e19 hf
    refine lv_iinc (v := x18) (lv' := [(2, .int x18), (0, .ref (B + t)), (1, .ref (B + a0))]) hx hb dX0_copyFrom_47 hl (k := 2) rfl (by rw [e19]; rfl) (by decide) rfl (fun ls hl => ?_)
    refine lv_goto (tgt := 26) hx hb dX0_copyFrom_50 (by decide) ?_
    exact ih7 _ _ hf  _ _ _ hh (lv_sub hl [1, 2, 0] rfl)
set_option maxHeartbeats 4000000 in
set_option maxRecDepth 100000 in
theorem m_X0_filled (l : Launch) (B : Nat) (D : DD) {n : Nat} (hN : 139 ≤ n) {t : Nat} {w : Wd} {r : Int32} (ht : t < n ∧ kd t = 0) (hf : f_X0_filled t w = some r) : Ct l yX0_filled cX0_filled 3 (some .int) 0 0 0 0 B D [.ref (B + t)] n w (some (.int r)) n w := by
  refine m_of (by decide) (Nat.le_of_ble_eq_true rfl) (fun p e s m args below meth c X hml hr hlk _ H locs hh ls hl => ?_)
  have hx := X.1
  have hb := X.2.1
  have hl : lv_has ls 3 [(0, .ref (B + t))] := hl
  unfold f_X0_filled at hf
  refine lv_iconst (v := (0 : Int32)) hx hb dX0_filled_0 (by decide) ?_
  refine lv_istore_n (lv' := [(1, .int (0 : Int32)), (0, .ref (B + t))]) hx hb dX0_filled_1 rfl hl (by decide) rfl (fun ls hl => ?_)
  refine lv_iconst (v := (0 : Int32)) hx hb dX0_filled_2 (by decide) ?_
  refine lv_istore_n (lv' := [(2, .int (0 : Int32)), (1, .int (0 : Int32)), (0, .ref (B + t))]) hx hb dX0_filled_3 rfl hl (by decide) rfl (fun ls hl => ?_)
  refine wl2_W (P := fun (x1 : Int32) (x2 : Int32) => ∀ (H : Heap) (locs : List Loc) (ls : Array Slot), Hp B D n w s H locs → lv_has ls 3 [(0, .ref (B + t)), (1, .int x1), (2, .int x2)] → W p l e (rmk 0 0 0 0) s m args below meth c H locs 0 0 (MZ below B D n w (some (.int r)) args s 0 0) (F0 m 4 ls [])) hf (fun x1 x2 k3 ih4 hf  H locs ls hh hl => ?_)  _ _ _ hh (lv_sub hl [2, 1, 0] rfl)
  refine lv_iload_n hx hb dX0_filled_4 rfl (lv_at hl 2 rfl) ?_
  refine lv_aload_n hx hb dX0_filled_5 rfl (lv_at hl 0 rfl) ?_
  refine q_gr (P := 9) X hh ht fk_X0_21 dX0_filled_6 hN hf (fun t5 h6 hf => ?_)
  refine r_alen X hh h6 ⟨by decide, by decide⟩ dX0_filled_9 ?_
  refine lv_icmp_ge (tgt := 36) hx hb dX0_filled_10 (by decide) (fun hc7 => ?_) (fun hc7 => ?_)
  · have hf := if_t hc7 hf
    refine lv_iload_n hx hb dX0_filled_36 rfl (lv_at hl 1 rfl) ?_
    exact e_i X hr hlk hh ⟨so_e hf, rfl⟩ dX0_filled_37
  · have hf := if_f hc7 hf
    refine lv_iload_n hx hb dX0_filled_13 rfl (lv_at hl 1 rfl) ?_
    refine lv_aload_n hx hb dX0_filled_14 rfl (lv_at hl 0 rfl) ?_
    refine q_gr (P := 9) X hh ht fk_X0_21 dX0_filled_15 hN hf (fun t8 h9 hf => ?_)
    refine lv_iload_n hx hb dX0_filled_18 rfl (lv_at hl 2 rfl) ?_
    refine q_ald X hh h9 dX0_filled_19 hf (fun hf => ?_)
    refine mg_W (P := fun (x12 : Int32) => ∀ (ls : Array Slot), lv_has ls 3 [(0, .ref (B + t)), (2, .int x2)] → W p l e (rmk 0 0 0 0) s m args below meth c H locs 0 0 (MZ below B D n w (some (.int r)) args s 0 0) (F0 m 28 ls [.int x12, .int x1])) hf (fun x12 hf ls hl => ?_) (fun hj17 => ?_)
    · refine lv_iadd hx hb dX0_filled_28 ?_
      refine lv_topi (fun x13 e14 => ?_)
      have hf := lt_e e14 hf
      refine lv_istore_n (lv' := [(1, .int x13), (0, .ref (B + t)), (2, .int x2)]) hx hb dX0_filled_29 rfl hl (by decide) rfl (fun ls hl => ?_)
      obtain ⟨x15, e16⟩ : ∃ y : Int32, y = (x2 + (1 : Int32)) := ⟨_, rfl⟩
      have hf := lt_e e16 hf
      refine lv_iinc (v := x15) (lv' := [(2, .int x15), (1, .int x13), (0, .ref (B + t))]) hx hb dX0_filled_30 hl (k := 2) rfl (by rw [e16]; rfl) (by decide) rfl (fun ls hl => ?_)
      refine lv_goto (tgt := 4) hx hb dX0_filled_33 (by decide) ?_
      exact ih4 _ _ hf  _ _ _ hh (lv_sub hl [2, 1, 0] rfl)
    · refine lv_if_le (tgt := 27) hx hb dX0_filled_20 (by decide) (fun hc11 => ?_) (fun hc11 => ?_)
      · refine lv_iconst (v := (0 : Int32)) hx hb dX0_filled_27 (by decide) ?_
        exact hj17 _ (by rw [if_pos hc11]) ls (lv_sub hl [0, 2] rfl)
      · refine lv_iconst (v := (1 : Int32)) hx hb dX0_filled_23 (by decide) ?_
        refine lv_goto (tgt := 28) hx hb dX0_filled_24 (by decide) ?_
        exact hj17 _ (by rw [if_neg hc11]) ls (lv_sub hl [0, 2] rfl)
set_option maxHeartbeats 4000000 in
set_option maxRecDepth 100000 in
theorem m_X0_total (l : Launch) (B : Nat) (D : DD) {n : Nat} (hN : 139 ≤ n) {t : Nat} {w : Wd} {r : Int32} (ht : t < n ∧ kd t = 0) (hf : f_X0_total t w = some r) : Ct l yX0_total cX0_total 3 (some .int) 0 0 0 0 B D [.ref (B + t)] n w (some (.int r)) n w := by
  refine m_of (by decide) (Nat.le_of_ble_eq_true rfl) (fun p e s m args below meth c X hml hr hlk _ H locs hh ls hl => ?_)
  have hx := X.1
  have hb := X.2.1
  have hl : lv_has ls 3 [(0, .ref (B + t))] := hl
  unfold f_X0_total at hf
  refine lv_iconst (v := (0 : Int32)) hx hb dX0_total_0 (by decide) ?_
  refine lv_istore_n (lv' := [(1, .int (0 : Int32)), (0, .ref (B + t))]) hx hb dX0_total_1 rfl hl (by decide) rfl (fun ls hl => ?_)
  refine lv_iconst (v := (0 : Int32)) hx hb dX0_total_2 (by decide) ?_
  refine lv_istore_n (lv' := [(2, .int (0 : Int32)), (1, .int (0 : Int32)), (0, .ref (B + t))]) hx hb dX0_total_3 rfl hl (by decide) rfl (fun ls hl => ?_)
  refine wl2_W (P := fun (x1 : Int32) (x2 : Int32) => ∀ (H : Heap) (locs : List Loc) (ls : Array Slot), Hp B D n w s H locs → lv_has ls 3 [(0, .ref (B + t)), (1, .int x1), (2, .int x2)] → W p l e (rmk 0 0 0 0) s m args below meth c H locs 0 0 (MZ below B D n w (some (.int r)) args s 0 0) (F0 m 4 ls [])) hf (fun x1 x2 k3 ih4 hf  H locs ls hh hl => ?_)  _ _ _ hh (lv_sub hl [2, 1, 0] rfl)
  refine lv_iload_n hx hb dX0_total_4 rfl (lv_at hl 2 rfl) ?_
  refine lv_aload_n hx hb dX0_total_5 rfl (lv_at hl 0 rfl) ?_
  refine q_gr (P := 9) X hh ht fk_X0_21 dX0_total_6 hN hf (fun t5 h6 hf => ?_)
  refine r_alen X hh h6 ⟨by decide, by decide⟩ dX0_total_9 ?_
  refine lv_icmp_ge (tgt := 28) hx hb dX0_total_10 (by decide) (fun hc7 => ?_) (fun hc7 => ?_)
  · have hf := if_t hc7 hf
    refine lv_iload_n hx hb dX0_total_28 rfl (lv_at hl 1 rfl) ?_
    exact e_i X hr hlk hh ⟨so_e hf, rfl⟩ dX0_total_29
  · have hf := if_f hc7 hf
    refine lv_iload_n hx hb dX0_total_13 rfl (lv_at hl 1 rfl) ?_
    refine lv_aload_n hx hb dX0_total_14 rfl (lv_at hl 0 rfl) ?_
    refine q_gr (P := 9) X hh ht fk_X0_21 dX0_total_15 hN hf (fun t8 h9 hf => ?_)
    refine lv_iload_n hx hb dX0_total_18 rfl (lv_at hl 2 rfl) ?_
    refine q_ald X hh h9 dX0_total_19 hf (fun hf => ?_)
    refine lv_iadd hx hb dX0_total_20 ?_
    refine lv_topi (fun x11 e12 => ?_)
    have hf := lt_e e12 hf
    refine lv_istore_n (lv' := [(1, .int x11), (0, .ref (B + t)), (2, .int x2)]) hx hb dX0_total_21 rfl hl (by decide) rfl (fun ls hl => ?_)
    obtain ⟨x13, e14⟩ : ∃ y : Int32, y = (x2 + (1 : Int32)) := ⟨_, rfl⟩
    have hf := lt_e e14 hf
    refine lv_iinc (v := x13) (lv' := [(2, .int x13), (1, .int x11), (0, .ref (B + t))]) hx hb dX0_total_22 hl (k := 2) rfl (by rw [e14]; rfl) (by decide) rfl (fun ls hl => ?_)
    refine lv_goto (tgt := 4) hx hb dX0_total_25 (by decide) ?_
    exact ih4 _ _ hf  _ _ _ hh (lv_sub hl [2, 1, 0] rfl)
set_option maxHeartbeats 4000000 in
set_option maxRecDepth 100000 in
theorem m_X0_differing (l : Launch) (B : Nat) (D : DD) {n : Nat} (hN : 139 ≤ n) {t : Nat} {a0 : Nat} {w : Wd} {r : Int32} (ht : t < n ∧ kd t = 0) (ha0 : a0 < n ∧ kd a0 = 0) (hf : f_X0_differing t a0 w = some r) : Ct l yX0_differing cX0_differing 4 (some .int) 0 0 0 0 B D [.ref (B + t), .ref (B + a0)] n w (some (.int r)) n w := by
  refine m_of (by decide) (Nat.le_of_ble_eq_true rfl) (fun p e s m args below meth c X hml hr hlk _ H locs hh ls hl => ?_)
  have hx := X.1
  have hb := X.2.1
  have hl : lv_has ls 4 [(0, .ref (B + t)), (1, .ref (B + a0))] := hl
  unfold f_X0_differing at hf
  refine lv_iconst (v := (0 : Int32)) hx hb dX0_differing_0 (by decide) ?_
  refine lv_istore_n (lv' := [(2, .int (0 : Int32)), (0, .ref (B + t)), (1, .ref (B + a0))]) hx hb dX0_differing_1 rfl hl (by decide) rfl (fun ls hl => ?_)
  refine lv_iconst (v := (0 : Int32)) hx hb dX0_differing_2 (by decide) ?_
  refine lv_istore_n (lv' := [(3, .int (0 : Int32)), (2, .int (0 : Int32)), (0, .ref (B + t)), (1, .ref (B + a0))]) hx hb dX0_differing_3 rfl hl (by decide) rfl (fun ls hl => ?_)
  refine wl2_W (P := fun (x1 : Int32) (x2 : Int32) => ∀ (H : Heap) (locs : List Loc) (ls : Array Slot), Hp B D n w s H locs → lv_has ls 4 [(0, .ref (B + t)), (1, .ref (B + a0)), (2, .int x1), (3, .int x2)] → W p l e (rmk 0 0 0 0) s m args below meth c H locs 0 0 (MZ below B D n w (some (.int r)) args s 0 0) (F0 m 4 ls [])) hf (fun x1 x2 k3 ih4 hf  H locs ls hh hl => ?_)  _ _ _ hh (lv_sub hl [2, 3, 1, 0] rfl)
  refine lv_iload_n hx hb dX0_differing_4 rfl (lv_at hl 3 rfl) ?_
  refine lv_aload_n hx hb dX0_differing_5 rfl (lv_at hl 0 rfl) ?_
  refine q_gr (P := 9) X hh ht fk_X0_21 dX0_differing_6 hN hf (fun t5 h6 hf => ?_)
  refine r_alen X hh h6 ⟨by decide, by decide⟩ dX0_differing_9 ?_
  refine lv_icmp_ge (tgt := 42) hx hb dX0_differing_10 (by decide) (fun hc7 => ?_) (fun hc7 => ?_)
  · have hf := if_t hc7 hf
    refine lv_iload_n hx hb dX0_differing_42 rfl (lv_at hl 2 rfl) ?_
    exact e_i X hr hlk hh ⟨so_e hf, rfl⟩ dX0_differing_43
  · have hf := if_f hc7 hf
    refine lv_iload_n hx hb dX0_differing_13 rfl (lv_at hl 2 rfl) ?_
    refine lv_aload_n hx hb dX0_differing_14 rfl (lv_at hl 0 rfl) ?_
    refine q_gr (P := 9) X hh ht fk_X0_21 dX0_differing_15 hN hf (fun t8 h9 hf => ?_)
    refine lv_iload_n hx hb dX0_differing_18 rfl (lv_at hl 3 rfl) ?_
    refine q_ald X hh h9 dX0_differing_19 hf (fun hf => ?_)
    refine lv_aload_n hx hb dX0_differing_20 rfl (lv_at hl 1 rfl) ?_
    refine q_gr (P := 9) X hh ha0 fk_X0_21 dX0_differing_21 hN hf (fun t11 h12 hf => ?_)
    refine lv_iload_n hx hb dX0_differing_24 rfl (lv_at hl 3 rfl) ?_
    refine q_ald X hh h12 dX0_differing_25 hf (fun hf => ?_)
    refine mg_W (P := fun (x15 : Int32) => ∀ (ls : Array Slot), lv_has ls 4 [(0, .ref (B + t)), (1, .ref (B + a0)), (3, .int x2)] → W p l e (rmk 0 0 0 0) s m args below meth c H locs 0 0 (MZ below B D n w (some (.int r)) args s 0 0) (F0 m 34 ls [.int x15, .int x1])) hf (fun x15 hf ls hl => ?_) (fun hj20 => ?_)
    · refine lv_iadd hx hb dX0_differing_34 ?_
      refine lv_topi (fun x16 e17 => ?_)
      have hf := lt_e e17 hf
      refine lv_istore_n (lv' := [(2, .int x16), (0, .ref (B + t)), (1, .ref (B + a0)), (3, .int x2)]) hx hb dX0_differing_35 rfl hl (by decide) rfl (fun ls hl => ?_)
      obtain ⟨x18, e19⟩ : ∃ y : Int32, y = (x2 + (1 : Int32)) := ⟨_, rfl⟩
      have hf := lt_e e19 hf
      refine lv_iinc (v := x18) (lv' := [(3, .int x18), (2, .int x16), (0, .ref (B + t)), (1, .ref (B + a0))]) hx hb dX0_differing_36 hl (k := 3) rfl (by rw [e19]; rfl) (by decide) rfl (fun ls hl => ?_)
      refine lv_goto (tgt := 4) hx hb dX0_differing_39 (by decide) ?_
      exact ih4 _ _ hf  _ _ _ hh (lv_sub hl [2, 3, 1, 0] rfl)
    · refine lv_icmp_eq (tgt := 33) hx hb dX0_differing_26 (by decide) (fun hc14 => ?_) (fun hc14 => ?_)
      · refine lv_iconst (v := (0 : Int32)) hx hb dX0_differing_33 (by decide) ?_
        exact hj20 _ (by rw [if_pos hc14]) ls (lv_sub hl [0, 1, 3] rfl)
      · refine lv_iconst (v := (1 : Int32)) hx hb dX0_differing_29 (by decide) ?_
        refine lv_goto (tgt := 34) hx hb dX0_differing_30 (by decide) ?_
        exact hj20 _ (by rw [if_neg hc14]) ls (lv_sub hl [0, 1, 3] rfl)
set_option maxHeartbeats 4000000 in
set_option maxRecDepth 100000 in
theorem m_X0_spelling (l : Launch) (B : Nat) (D : DD) {n : Nat} (hN : 139 ≤ n) {t : Nat} {w : Wd} {r : Int32} (ht : t < n ∧ kd t = 0) (hf : f_X0_spelling t w = some r) : Ct l yX0_spelling cX0_spelling 6 (some .int) 2 44 0 0 B D [.ref (B + t)] n w (some (.int r)) n w := by
  refine m_of (by decide) (Nat.le_of_ble_eq_true rfl) (fun p e s m args below meth c X hml hr hlk _ H locs hh ls hl => ?_)
  have hx := X.1
  have hb := X.2.1
  have hl : lv_has ls 6 [(0, .ref (B + t))] := hl
  unfold f_X0_spelling at hf
  refine lv_iconst (v := (0 : Int32)) hx hb dX0_spelling_0 (by decide) ?_
  refine lv_istore_n (lv' := [(1, .int (0 : Int32)), (0, .ref (B + t))]) hx hb dX0_spelling_1 rfl hl (by decide) rfl (fun ls hl => ?_)
  refine lv_iconst (v := (1 : Int32)) hx hb dX0_spelling_2 (by decide) ?_
  refine lv_istore_n (lv' := [(2, .int (1 : Int32)), (1, .int (0 : Int32)), (0, .ref (B + t))]) hx hb dX0_spelling_3 rfl hl (by decide) rfl (fun ls hl => ?_)
  refine wl2_W (P := fun (x1 : Int32) (x2 : Int32) => ∀ (H : Heap) (locs : List Loc) (ls : Array Slot), Hp B D n w s H locs → lv_has ls 6 [(0, .ref (B + t)), (1, .int x1), (2, .int x2)] → W p l e (rmk 2 44 0 0) s m args below meth c H locs 0 0 (MZ below B D n w (some (.int r)) args s 0 0) (F0 m 4 ls [])) hf (fun x1 x2 k3 ih4 hf  H locs ls hh hl => ?_)  _ _ _ hh (lv_sub hl [2, 1, 0] rfl)
  refine lv_iload_n hx hb dX0_spelling_4 rfl (lv_at hl 2 rfl) ?_
  refine lv_aload_n hx hb dX0_spelling_5 rfl (lv_at hl 0 rfl) ?_
  refine r_gi X hh ht fk_X0_9 dX0_spelling_6 ?_
  refine lv_icmp_gt (tgt := 82) hx hb dX0_spelling_9 (by decide) (fun hc5 => ?_) (fun hc5 => ?_)
  · have hf := if_t hc5 hf
    refine lv_iload_n hx hb dX0_spelling_82 rfl (lv_at hl 1 rfl) ?_
    exact e_i X hr hlk hh ⟨so_e hf, rfl⟩ dX0_spelling_83
  · have hf := if_f hc5 hf
    refine lv_iconst (v := (0 : Int32)) hx hb dX0_spelling_12 (by decide) ?_
    refine lv_istore_n (lv' := [(3, .int (0 : Int32)), (0, .ref (B + t)), (1, .int x1), (2, .int x2)]) hx hb dX0_spelling_13 rfl hl (by decide) rfl (fun ls hl => ?_)
    refine lv_iconst (v := (1 : Int32)) hx hb dX0_spelling_14 (by decide) ?_
    refine lv_istore (lv' := [(4, .int (1 : Int32)), (3, .int (0 : Int32)), (0, .ref (B + t)), (1, .int x1), (2, .int x2)]) hx hb dX0_spelling_15 hl (by decide) rfl (fun ls hl => ?_)
    refine wl2_W (P := fun (x6 : Int32) (x7 : Int32) => ∀ (H : Heap) (locs : List Loc) (ls : Array Slot), Hp B D n w s H locs → lv_has ls 6 [(0, .ref (B + t)), (1, .int x1), (2, .int x2), (3, .int x6), (4, .int x7)] → W p l e (rmk 2 44 0 0) s m args below meth c H locs 0 0 (MZ below B D n w (some (.int r)) args s 0 0) (F0 m 17 ls [])) hf (fun x6 x7 k8 ih9 hf  H locs ls hh hl => ?_)  _ _ _ hh (lv_sub hl [2, 3, 4, 1, 0] rfl)
    refine lv_iload hx hb dX0_spelling_17 (lv_at hl 4 rfl) ?_
    refine lv_aload_n hx hb dX0_spelling_19 rfl (lv_at hl 0 rfl) ?_
    refine r_gi X hh ht fk_X0_15 dX0_spelling_20 ?_
    refine lv_icmp_gt (tgt := 69) hx hb dX0_spelling_23 (by decide) (fun hc10 => ?_) (fun hc10 => ?_)
    · have hf := if_t hc10 hf
      refine lv_bipush (v := (10 : Int32)) hx hb dX0_spelling_69 (by decide) ?_
      refine lv_iload_n hx hb dX0_spelling_71 rfl (lv_at hl 1 rfl) ?_
      refine lv_imul hx hb dX0_spelling_72 ?_
      refine lv_iload_n hx hb dX0_spelling_73 rfl (lv_at hl 3 rfl) ?_
      refine lv_iadd hx hb dX0_spelling_74 ?_
      refine lv_topi (fun x11 e12 => ?_)
      have hf := lt_e e12 hf
      refine lv_istore_n (lv' := [(1, .int x11), (0, .ref (B + t)), (2, .int x2), (3, .int x6), (4, .int x7)]) hx hb dX0_spelling_75 rfl hl (by decide) rfl (fun ls hl => ?_)
      obtain ⟨x13, e14⟩ : ∃ y : Int32, y = (x2 + (1 : Int32)) := ⟨_, rfl⟩
      have hf := lt_e e14 hf
      refine lv_iinc (v := x13) (lv' := [(2, .int x13), (1, .int x11), (0, .ref (B + t)), (3, .int x6), (4, .int x7)]) hx hb dX0_spelling_76 hl (k := 2) rfl (by rw [e14]; rfl) (by decide) rfl (fun ls hl => ?_)
      refine lv_goto (tgt := 4) hx hb dX0_spelling_79 (by decide) ?_
      exact ih4 _ _ hf  _ _ _ hh (lv_sub hl [2, 1, 0] rfl)
    · have hf := if_f hc10 hf
      refine lv_aload_n hx hb dX0_spelling_26 rfl (lv_at hl 0 rfl) ?_
      refine lv_iload_n hx hb dX0_spelling_27 rfl (lv_at hl 2 rfl) ?_
      refine lv_iload hx hb dX0_spelling_28 (lv_at hl 4 rfl) ?_
      obtain ⟨v16, hc15, hf⟩ := c1_e hf
      refine q_V (w' := w) (rest := []) X hml hh (some (.int v16)) (m_X0_numberAt l B D hN ht hc15) cf_X0_numberAt k_241 ht ci_0 rfl rfl hl.1 rfl (Nat.le_of_ble_eq_true rfl) ⟨Nat.le_of_ble_eq_true rfl, Nat.le_of_ble_eq_true rfl⟩ ⟨Nat.zero_le _, Nat.zero_le _⟩ dX0_spelling_30 rfl (fun H locs hh => ?_)
      refine lv_istore (lv' := [(5, .int v16), (0, .ref (B + t)), (1, .int x1), (2, .int x2), (3, .int x6), (4, .int x7)]) hx hb dX0_spelling_33 hl (by decide) rfl (fun ls hl => ?_)
      refine lv_iload hx hb dX0_spelling_35 (lv_at hl 0 rfl) ?_
      refine lv_iconst (v := (1 : Int32)) hx hb dX0_spelling_37 (by decide) ?_
      refine lv_icmp_gt (tgt := 51) hx hb dX0_spelling_38 (by decide) (fun hc17 => ?_) (fun hc17 => ?_)
      · have hf := if_t hc17 hf
        refine lv_bipush (v := (-2 : Int32)) hx hb dX0_spelling_51 (by decide) ?_
        exact e_i X hr hlk hh ⟨so_e hf, rfl⟩ dX0_spelling_53
      · have hf := if_f hc17 hf
        refine lv_iload hx hb dX0_spelling_41 (lv_at hl 0 rfl) ?_
        refine lv_iconst (v := (1 : Int32)) hx hb dX0_spelling_43 (by decide) ?_
        refine jn_W (P := fun j19 => j19 = some r → ∀ (H : Heap) (locs : List Loc) (ls : Array Slot), Hp B D n w s H locs → lv_has ls 6 [(0, .ref (B + t)), (1, .int x1), (2, .int x2), (3, .int x6), (4, .int x7), (5, .int v16)] → W p l e (rmk 2 44 0 0) s m args below meth c H locs 0 0 (MZ below B D n w (some (.int r)) args s 0 0) (F0 m 54 ls [])) hf (fun  hf  H locs ls hh hl => ?_) (fun j19 hj19 hf => ?_)
        · refine lv_iload hx hb dX0_spelling_54 (lv_at hl 5 rfl) ?_
          refine lv_iconst (v := (1 : Int32)) hx hb dX0_spelling_56 (by decide) ?_
          refine mg_W (P := fun (x21 : Int32) => ∀ (ls : Array Slot), lv_has ls 6 [(0, .ref (B + t)), (1, .int x1), (2, .int x2), (3, .int x21), (4, .int x7)] → W p l e (rmk 2 44 0 0) s m args below meth c H locs 0 0 (MZ below B D n w (some (.int r)) args s 0 0) (F0 m 63 ls [])) hf (fun x21 hf ls hl => ?_) (fun hj24 => ?_)
          · obtain ⟨x22, e23⟩ : ∃ y : Int32, y = (x7 + (1 : Int32)) := ⟨_, rfl⟩
            have hf := lt_e e23 hf
            refine lv_iinc (v := x22) (lv' := [(4, .int x22), (0, .ref (B + t)), (1, .int x1), (2, .int x2), (3, .int x21)]) hx hb dX0_spelling_63 hl (k := 4) rfl (by rw [e23]; rfl) (by decide) rfl (fun ls hl => ?_)
            refine lv_goto (tgt := 17) hx hb dX0_spelling_66 (by decide) ?_
            exact ih9 _ _ hf  _ _ _ hh (lv_sub hl [1, 2, 3, 4, 0] rfl)
          · refine lv_icmp_ne (tgt := 63) hx hb dX0_spelling_57 (by decide) (fun hc20 => ?_) (fun hc20 => ?_)
            · exact hj24 _ (by rw [if_neg hc20]) ls (lv_sub hl [0, 1, 2, 3, 4] rfl)
            · refine lv_iload hx hb dX0_spelling_60 (lv_at hl 4 rfl) ?_
              refine lv_istore_n (lv' := [(3, .int x7), (0, .ref (B + t)), (1, .int x1), (2, .int x2), (4, .int x7), (5, .int v16)]) hx hb dX0_spelling_62 rfl hl (by decide) rfl (fun ls hl => ?_)
              exact hj24 _ (by rw [if_pos hc20]) ls (lv_sub hl [1, 2, 3, 0, 4] rfl)
        · refine lv_icmp_ne (tgt := 54) hx hb dX0_spelling_44 (by decide) (fun hc18 => ?_) (fun hc18 => ?_)
          · have hf := if_f hc18 hf
            exact hj19  hf  _ _ _ hh (lv_sub hl [1, 2, 3, 4, 5, 0] rfl)
          · have hf := if_t hc18 hf
            refine lv_iload_n hx hb dX0_spelling_47 rfl (lv_at hl 4 rfl) ?_
            refine lv_if_le (tgt := 54) hx hb dX0_spelling_48 (by decide) (fun hc25 => ?_) (fun hc25 => ?_)
            · have hf := if_t hc25 hf
              exact hj19  hf  _ _ _ hh (lv_sub hl [1, 2, 3, 4, 5, 0] rfl)
            · have hf := if_f hc25 hf
              refine lv_bipush (v := (-2 : Int32)) hx hb dX0_spelling_51 (by decide) ?_
              exact e_i X hr hlk hh ⟨so_e hf, rfl⟩ dX0_spelling_53

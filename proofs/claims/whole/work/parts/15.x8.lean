set_option maxHeartbeats 4000000 in
set_option maxRecDepth 100000 in
theorem m_X8_in (l : Launch) (B : Nat) (D : DD) {a0 : Int64} {a1 : Int64} {a2 : Int64} {w : Wd} {r : Int32} (hf : f_X8_in a0 a1 a2 = some r) : Ct l yX8_in cX8_in 6 (some .boolean) 0 0 0 0 B D [.long a0, .long a1, .long a2] 153 w (some (.int r)) 153 w := by
  refine m_of (by decide) (Nat.le_of_ble_eq_true rfl) (fun p e s m args below meth c X hml hr hlk _ H locs hh ls hl => ?_)
  have hx := X.1
  have hb := X.2.1
  have hl : lv_has ls 6 [(0, .long a0), (2, .long a1), (4, .long a2)] := hl
  unfold f_X8_in at hf
  refine lv_lload_n hx hb dX8_in_0 rfl (lv_at hl 0 rfl) ?_
  refine lv_lload_n hx hb dX8_in_1 rfl (lv_at hl 1 rfl) ?_
  refine W.lcmp hx hb dX8_in_2 ?_
  refine mg_W (P := fun (x3 : Int32) => ∀ (ls : Array Slot), lv_has ls 6 [] → W p l e (rmk 0 0 0 0) s m args below meth c H locs 0 0 (MZ below B D 153 w (some (.int r)) args s 0 0) (F0 m 18 ls [.int x3])) hf (fun x3 hf ls hl => ?_) (fun hj4 => ?_)
  · have hz := zb_e hf
    have hf := hz.2
    exact e_z X hr hlk hh hz.1 ⟨so_e hf, rfl⟩ dX8_in_18
  · refine lv_if_lt (tgt := 17) hx hb dX8_in_3 (by decide) (fun hc1 => ?_) (fun hc1 => ?_)
    · refine lv_iconst (v := (0 : Int32)) hx hb dX8_in_17 (by decide) ?_
      exact hj4 _ (by rw [if_pos hc1]) ls (lv_sub hl [] rfl)
    · refine lv_lload_n hx hb dX8_in_6 rfl (lv_at hl 0 rfl) ?_
      refine lv_lload hx hb dX8_in_7 (lv_at hl 2 rfl) ?_
      refine W.lcmp hx hb dX8_in_9 ?_
      refine lv_if_gt (tgt := 17) hx hb dX8_in_10 (by decide) (fun hc2 => ?_) (fun hc2 => ?_)
      · refine lv_iconst (v := (0 : Int32)) hx hb dX8_in_17 (by decide) ?_
        exact hj4 _ (by rw [if_neg hc1, if_pos hc2]) ls (lv_sub hl [] rfl)
      · refine lv_iconst (v := (1 : Int32)) hx hb dX8_in_13 (by decide) ?_
        refine lv_goto (tgt := 18) hx hb dX8_in_14 (by decide) ?_
        exact hj4 _ (by rw [if_neg hc1, if_neg hc2]) ls (lv_sub hl [] rfl)
set_option maxHeartbeats 4000000 in
set_option maxRecDepth 100000 in
theorem m_X8_at (l : Launch) (B : Nat) (D : DD) {a0 : Int32} {a1 : Int32} {w : Wd} {r : Int32} (hf : f_X8_at a0 a1 = some r) : Ct l yX8_at cX8_at 2 (some .int) 0 0 0 0 B D [.int a0, .int a1] 153 w (some (.int r)) 153 w := by
  refine m_of (by decide) (Nat.le_of_ble_eq_true rfl) (fun p e s m args below meth c X hml hr hlk _ H locs hh ls hl => ?_)
  have hx := X.1
  have hb := X.2.1
  have hl : lv_has ls 2 [(0, .int a0), (1, .int a1)] := hl
  unfold f_X8_at at hf
  refine lv_iconst (v := (5 : Int32)) hx hb dX8_at_0 (by decide) ?_
  refine lv_iload_n hx hb dX8_at_1 rfl (lv_at hl 0 rfl) ?_
  refine lv_iconst (v := (1 : Int32)) hx hb dX8_at_2 (by decide) ?_
  refine lv_isub hx hb dX8_at_3 ?_
  refine lv_imul hx hb dX8_at_4 ?_
  refine lv_iload_n hx hb dX8_at_5 rfl (lv_at hl 1 rfl) ?_
  refine lv_iadd hx hb dX8_at_6 ?_
  refine lv_iconst (v := (1 : Int32)) hx hb dX8_at_7 (by decide) ?_
  refine lv_isub hx hb dX8_at_8 ?_
  exact e_i X hr hlk hh ⟨so_e hf, rfl⟩ dX8_at_9
set_option maxHeartbeats 4000000 in
set_option maxRecDepth 100000 in
theorem m_X8_isCell (l : Launch) (B : Nat) (D : DD) {t : Nat} {a0 : Int32} {a1 : Int32} {w : Wd} {r : Int32} (ht : t < 153 ∧ kd t = 8) (hf : f_X8_isCell t a0 a1 w = some r) : Ct l yX8_isCell cX8_isCell 3 (some .boolean) 1 25 0 0 B D [.ref (B + t), .int a0, .int a1] 153 w (some (.int r)) 153 w := by
  refine m_of (by decide) (Nat.le_of_ble_eq_true rfl) (fun p e s m args below meth c X hml hr hlk _ H locs hh ls hl => ?_)
  have hx := X.1
  have hb := X.2.1
  have hl : lv_has ls 3 [(0, .ref (B + t)), (1, .int a0), (2, .int a1)] := hl
  unfold f_X8_isCell at hf
  refine lv_iload_n hx hb dX8_isCell_0 rfl (lv_at hl 1 rfl) ?_
  refine lv_i2l hx hb dX8_isCell_1 rfl ?_
  refine lv_lconst (v := (1 : Int64)) hx hb dX8_isCell_2 (by decide) ?_
  refine lv_aload_n hx hb dX8_isCell_3 rfl (lv_at hl 0 rfl) ?_
  refine r_gi X hh ht fk_X8_9 dX8_isCell_4 ?_
  refine lv_i2l hx hb dX8_isCell_7 rfl ?_
  obtain ⟨v2, hc1, hf⟩ := c1_e hf
  refine q_S (w' := w) (rest := []) X hml hh (some (.int v2)) (m_X8_in l B D hc1) cf_X8_in k_767 rfl hl.1 rfl (Nat.le_of_ble_eq_true rfl) ⟨Nat.le_of_ble_eq_true rfl, Nat.le_of_ble_eq_true rfl⟩ ⟨Nat.zero_le _, Nat.zero_le _⟩ dX8_isCell_8 rfl (fun H locs hh => ?_)
  refine jn_W (P := fun j4 => j4 = some r → ∀ (H : Heap) (locs : List Loc) (ls : Array Slot), Hp B D 153 w s H locs → lv_has ls 3 [] → W p l e (rmk 1 25 0 0) s m args below meth c H locs 0 0 (MZ below B D 153 w (some (.int r)) args s 0 0) (F0 m 32 ls [])) hf (fun  hf  H locs ls hh hl => ?_) (fun j4 hj4 hf => ?_)
  · refine lv_iconst (v := (0 : Int32)) hx hb dX8_isCell_32 (by decide) ?_
    exact e_z X hr hlk hh (Or.inl rfl) ⟨so_e hf, rfl⟩ dX8_isCell_33
  · refine lv_if_eq (tgt := 32) hx hb dX8_isCell_11 (by decide) (fun hc3 => ?_) (fun hc3 => ?_)
    · have hf := if_t hc3 hf
      exact hj4  hf  _ _ _ hh (lv_sub hl [] rfl)
    · have hf := if_f hc3 hf
      refine lv_iload_n hx hb dX8_isCell_14 rfl (lv_at hl 2 rfl) ?_
      refine lv_i2l hx hb dX8_isCell_15 rfl ?_
      refine lv_lconst (v := (1 : Int64)) hx hb dX8_isCell_16 (by decide) ?_
      refine lv_aload_n hx hb dX8_isCell_17 rfl (lv_at hl 0 rfl) ?_
      refine r_gi X hh ht fk_X8_15 dX8_isCell_18 ?_
      refine lv_i2l hx hb dX8_isCell_21 rfl ?_
      obtain ⟨v6, hc5, hf⟩ := c1_e hf
      refine q_S (w' := w) (rest := []) X hml hh (some (.int v6)) (m_X8_in l B D hc5) cf_X8_in k_767 rfl hl.1 rfl (Nat.le_of_ble_eq_true rfl) ⟨Nat.le_of_ble_eq_true rfl, Nat.le_of_ble_eq_true rfl⟩ ⟨Nat.zero_le _, Nat.zero_le _⟩ dX8_isCell_22 rfl (fun H locs hh => ?_)
      refine lv_if_eq (tgt := 32) hx hb dX8_isCell_25 (by decide) (fun hc7 => ?_) (fun hc7 => ?_)
      · have hf := if_t hc7 hf
        exact hj4  hf  _ _ _ hh (lv_sub hl [] rfl)
      · have hf := if_f hc7 hf
        refine lv_iconst (v := (1 : Int32)) hx hb dX8_isCell_28 (by decide) ?_
        refine lv_goto (tgt := 33) hx hb dX8_isCell_29 (by decide) ?_
        exact e_z X hr hlk hh (Or.inr rfl) ⟨so_e hf, rfl⟩ dX8_isCell_33
set_option maxHeartbeats 4000000 in
set_option maxRecDepth 100000 in
theorem m_X8_isCorner (l : Launch) (B : Nat) (D : DD) {t : Nat} {a0 : Int32} {a1 : Int32} {w : Wd} {r : Int32} (ht : t < 153 ∧ kd t = 8) (hf : f_X8_isCorner t a0 a1 w = some r) : Ct l yX8_isCorner cX8_isCorner 3 (some .boolean) 1 25 0 0 B D [.ref (B + t), .int a0, .int a1] 153 w (some (.int r)) 153 w := by
  refine m_of (by decide) (Nat.le_of_ble_eq_true rfl) (fun p e s m args below meth c X hml hr hlk _ H locs hh ls hl => ?_)
  have hx := X.1
  have hb := X.2.1
  have hl : lv_has ls 3 [(0, .ref (B + t)), (1, .int a0), (2, .int a1)] := hl
  unfold f_X8_isCorner at hf
  refine lv_iload_n hx hb dX8_isCorner_0 rfl (lv_at hl 1 rfl) ?_
  refine lv_i2l hx hb dX8_isCorner_1 rfl ?_
  refine lv_lconst (v := (0 : Int64)) hx hb dX8_isCorner_2 (by decide) ?_
  refine lv_aload_n hx hb dX8_isCorner_3 rfl (lv_at hl 0 rfl) ?_
  refine r_gi X hh ht fk_X8_9 dX8_isCorner_4 ?_
  refine lv_i2l hx hb dX8_isCorner_7 rfl ?_
  obtain ⟨v2, hc1, hf⟩ := c1_e hf
  refine q_S (w' := w) (rest := []) X hml hh (some (.int v2)) (m_X8_in l B D hc1) cf_X8_in k_767 rfl hl.1 rfl (Nat.le_of_ble_eq_true rfl) ⟨Nat.le_of_ble_eq_true rfl, Nat.le_of_ble_eq_true rfl⟩ ⟨Nat.zero_le _, Nat.zero_le _⟩ dX8_isCorner_8 rfl (fun H locs hh => ?_)
  refine jn_W (P := fun j4 => j4 = some r → ∀ (H : Heap) (locs : List Loc) (ls : Array Slot), Hp B D 153 w s H locs → lv_has ls 3 [] → W p l e (rmk 1 25 0 0) s m args below meth c H locs 0 0 (MZ below B D 153 w (some (.int r)) args s 0 0) (F0 m 32 ls [])) hf (fun  hf  H locs ls hh hl => ?_) (fun j4 hj4 hf => ?_)
  · refine lv_iconst (v := (0 : Int32)) hx hb dX8_isCorner_32 (by decide) ?_
    exact e_z X hr hlk hh (Or.inl rfl) ⟨so_e hf, rfl⟩ dX8_isCorner_33
  · refine lv_if_eq (tgt := 32) hx hb dX8_isCorner_11 (by decide) (fun hc3 => ?_) (fun hc3 => ?_)
    · have hf := if_t hc3 hf
      exact hj4  hf  _ _ _ hh (lv_sub hl [] rfl)
    · have hf := if_f hc3 hf
      refine lv_iload_n hx hb dX8_isCorner_14 rfl (lv_at hl 2 rfl) ?_
      refine lv_i2l hx hb dX8_isCorner_15 rfl ?_
      refine lv_lconst (v := (0 : Int64)) hx hb dX8_isCorner_16 (by decide) ?_
      refine lv_aload_n hx hb dX8_isCorner_17 rfl (lv_at hl 0 rfl) ?_
      refine r_gi X hh ht fk_X8_15 dX8_isCorner_18 ?_
      refine lv_i2l hx hb dX8_isCorner_21 rfl ?_
      obtain ⟨v6, hc5, hf⟩ := c1_e hf
      refine q_S (w' := w) (rest := []) X hml hh (some (.int v6)) (m_X8_in l B D hc5) cf_X8_in k_767 rfl hl.1 rfl (Nat.le_of_ble_eq_true rfl) ⟨Nat.le_of_ble_eq_true rfl, Nat.le_of_ble_eq_true rfl⟩ ⟨Nat.zero_le _, Nat.zero_le _⟩ dX8_isCorner_22 rfl (fun H locs hh => ?_)
      refine lv_if_eq (tgt := 32) hx hb dX8_isCorner_25 (by decide) (fun hc7 => ?_) (fun hc7 => ?_)
      · have hf := if_t hc7 hf
        exact hj4  hf  _ _ _ hh (lv_sub hl [] rfl)
      · have hf := if_f hc7 hf
        refine lv_iconst (v := (1 : Int32)) hx hb dX8_isCorner_28 (by decide) ?_
        refine lv_goto (tgt := 33) hx hb dX8_isCorner_29 (by decide) ?_
        exact e_z X hr hlk hh (Or.inr rfl) ⟨so_e hf, rfl⟩ dX8_isCorner_33
set_option maxHeartbeats 4000000 in
set_option maxRecDepth 100000 in
theorem m_X8_filled (l : Launch) (B : Nat) (D : DD) {t : Nat} {w : Wd} {r : Int32} (ht : t < 153 ∧ kd t = 8) (hf : f_X8_filled t w = some r) : Ct l yX8_filled cX8_filled 3 (some .int) 0 0 0 0 B D [.ref (B + t)] 153 w (some (.int r)) 153 w := by
  refine m_of (by decide) (Nat.le_of_ble_eq_true rfl) (fun p e s m args below meth c X hml hr hlk _ H locs hh ls hl => ?_)
  have hx := X.1
  have hb := X.2.1
  have hl : lv_has ls 3 [(0, .ref (B + t))] := hl
  unfold f_X8_filled at hf
  refine lv_iconst (v := (0 : Int32)) hx hb dX8_filled_0 (by decide) ?_
  refine lv_istore_n (lv' := [(1, .int (0 : Int32)), (0, .ref (B + t))]) hx hb dX8_filled_1 rfl hl (by decide) rfl (fun ls hl => ?_)
  refine lv_iconst (v := (0 : Int32)) hx hb dX8_filled_2 (by decide) ?_
  refine lv_istore_n (lv' := [(2, .int (0 : Int32)), (1, .int (0 : Int32)), (0, .ref (B + t))]) hx hb dX8_filled_3 rfl hl (by decide) rfl (fun ls hl => ?_)
  refine wl2_W (P := fun (x1 : Int32) (x2 : Int32) => ∀ (H : Heap) (locs : List Loc) (ls : Array Slot), Hp B D 153 w s H locs → lv_has ls 3 [(0, .ref (B + t)), (1, .int x1), (2, .int x2)] → W p l e (rmk 0 0 0 0) s m args below meth c H locs 0 0 (MZ below B D 153 w (some (.int r)) args s 0 0) (F0 m 4 ls [])) hf (fun x1 x2 k3 ih4 hf  H locs ls hh hl => ?_)  _ _ _ hh (lv_sub hl [2, 1, 0] rfl)
  refine lv_iload_n hx hb dX8_filled_4 rfl (lv_at hl 2 rfl) ?_
  refine lv_bipush (v := (25 : Int32)) hx hb dX8_filled_5 (by decide) ?_
  refine lv_icmp_ge (tgt := 33) hx hb dX8_filled_7 (by decide) (fun hc5 => ?_) (fun hc5 => ?_)
  · have hf := if_t hc5 hf
    refine lv_iload_n hx hb dX8_filled_33 rfl (lv_at hl 1 rfl) ?_
    exact e_i X hr hlk hh ⟨so_e hf, rfl⟩ dX8_filled_34
  · have hf := if_f hc5 hf
    refine lv_iload_n hx hb dX8_filled_10 rfl (lv_at hl 1 rfl) ?_
    refine lv_aload_n hx hb dX8_filled_11 rfl (lv_at hl 0 rfl) ?_
    refine q_gr (P := 9) X hh ht fk_X8_18 dX8_filled_12 hf (fun t6 h7 hf => ?_)
    refine lv_iload_n hx hb dX8_filled_15 rfl (lv_at hl 2 rfl) ?_
    refine q_ald X hh h7 dX8_filled_16 hf (fun hf => ?_)
    refine mg_W (P := fun (x10 : Int32) => ∀ (ls : Array Slot), lv_has ls 3 [(0, .ref (B + t)), (2, .int x2)] → W p l e (rmk 0 0 0 0) s m args below meth c H locs 0 0 (MZ below B D 153 w (some (.int r)) args s 0 0) (F0 m 25 ls [.int x10, .int x1])) hf (fun x10 hf ls hl => ?_) (fun hj15 => ?_)
    · refine lv_iadd hx hb dX8_filled_25 ?_
      refine lv_topi (fun x11 e12 => ?_)
      have hf := lt_e e12 hf
      refine lv_istore_n (lv' := [(1, .int x11), (0, .ref (B + t)), (2, .int x2)]) hx hb dX8_filled_26 rfl hl (by decide) rfl (fun ls hl => ?_)
      obtain ⟨x13, e14⟩ : ∃ y : Int32, y = (x2 + (1 : Int32)) := ⟨_, rfl⟩
      have hf := lt_e e14 hf
      refine lv_iinc (v := x13) (lv' := [(2, .int x13), (1, .int x11), (0, .ref (B + t))]) hx hb dX8_filled_27 hl (k := 2) rfl (by rw [e14]; rfl) (by decide) rfl (fun ls hl => ?_)
      refine lv_goto (tgt := 4) hx hb dX8_filled_30 (by decide) ?_
      exact ih4 _ _ hf  _ _ _ hh (lv_sub hl [2, 1, 0] rfl)
    · refine lv_if_le (tgt := 24) hx hb dX8_filled_17 (by decide) (fun hc9 => ?_) (fun hc9 => ?_)
      · refine lv_iconst (v := (0 : Int32)) hx hb dX8_filled_24 (by decide) ?_
        exact hj15 _ (by rw [if_pos hc9]) ls (lv_sub hl [0, 2] rfl)
      · refine lv_iconst (v := (1 : Int32)) hx hb dX8_filled_20 (by decide) ?_
        refine lv_goto (tgt := 25) hx hb dX8_filled_21 (by decide) ?_
        exact hj15 _ (by rw [if_neg hc9]) ls (lv_sub hl [0, 2] rfl)
set_option maxHeartbeats 4000000 in
set_option maxRecDepth 100000 in
theorem m_X8_lays (l : Launch) (B : Nat) (D : DD) {t : Nat} {a0 : Nat} {a1 : Int32} {w : Wd} {w' : Wd} (ht : t < 153 ∧ kd t = 8) (ha0 : a0 < 153 ∧ kd a0 = 9) (hf : f_X8_lays t a0 a1 w = some w') : Ct l yX8_lays cX8_lays 4 none 0 0 0 0 B D [.ref (B + t), .ref (B + a0), .int a1] 153 w none 153 w' := by
  refine m_of (by decide) (Nat.le_of_ble_eq_true rfl) (fun p e s m args below meth c X hml hr hlk _ H locs hh ls hl => ?_)
  have hx := X.1
  have hb := X.2.1
  have hl : lv_has ls 4 [(0, .ref (B + t)), (1, .ref (B + a0)), (2, .int a1)] := hl
  unfold f_X8_lays at hf
  refine lv_aload_n hx hb dX8_lays_0 rfl (lv_at hl 1 rfl) ?_
  refine lv_iload_n hx hb dX8_lays_1 rfl (lv_at hl 2 rfl) ?_
  refine lv_bipush (v := (28 : Int32)) hx hb dX8_lays_2 (by decide) ?_
  refine lv_imul hx hb dX8_lays_4 ?_
  refine lv_aload_n hx hb dX8_lays_5 rfl (lv_at hl 0 rfl) ?_
  refine r_gi X hh ht fk_X8_9 dX8_lays_6 ?_
  refine q_ast X hh ha0 dX8_lays_9 hf (fun w2 H locs hf hh => ?_)
  refine lv_aload_n hx hb dX8_lays_10 rfl (lv_at hl 1 rfl) ?_
  refine lv_iload_n hx hb dX8_lays_11 rfl (lv_at hl 2 rfl) ?_
  refine lv_bipush (v := (28 : Int32)) hx hb dX8_lays_12 (by decide) ?_
  refine lv_imul hx hb dX8_lays_14 ?_
  refine lv_iconst (v := (1 : Int32)) hx hb dX8_lays_15 (by decide) ?_
  refine lv_iadd hx hb dX8_lays_16 ?_
  refine lv_aload_n hx hb dX8_lays_17 rfl (lv_at hl 0 rfl) ?_
  refine r_gi X hh ht fk_X8_15 dX8_lays_18 ?_
  refine q_ast X hh ha0 dX8_lays_21 hf (fun w4 H locs hf hh => ?_)
  refine lv_aload_n hx hb dX8_lays_22 rfl (lv_at hl 1 rfl) ?_
  refine lv_iload_n hx hb dX8_lays_23 rfl (lv_at hl 2 rfl) ?_
  refine lv_bipush (v := (28 : Int32)) hx hb dX8_lays_24 (by decide) ?_
  refine lv_imul hx hb dX8_lays_26 ?_
  refine lv_iconst (v := (2 : Int32)) hx hb dX8_lays_27 (by decide) ?_
  refine lv_iadd hx hb dX8_lays_28 ?_
  refine lv_aload_n hx hb dX8_lays_29 rfl (lv_at hl 0 rfl) ?_
  refine r_gi X hh ht fk_X8_62 dX8_lays_30 ?_
  refine q_ast X hh ha0 dX8_lays_33 hf (fun w6 H locs hf hh => ?_)
  refine lv_iconst (v := (0 : Int32)) hx hb dX8_lays_34 (by decide) ?_
  refine lv_istore_n (lv' := [(3, .int (0 : Int32)), (0, .ref (B + t)), (1, .ref (B + a0)), (2, .int a1)]) hx hb dX8_lays_35 rfl hl (by decide) rfl (fun ls hl => ?_)
  refine wl2_W (P := fun (x7 : Int32) (w8 : Wd) => ∀ (H : Heap) (locs : List Loc) (ls : Array Slot), Hp B D 153 w8 s H locs → lv_has ls 4 [(0, .ref (B + t)), (1, .ref (B + a0)), (2, .int a1), (3, .int x7)] → W p l e (rmk 0 0 0 0) s m args below meth c H locs 0 0 (MZ below B D 153 w' none args s 0 0) (F0 m 36 ls [])) hf (fun x7 w8 k9 ih10 hf  H locs ls hh hl => ?_)  _ _ _ hh (lv_sub hl [1, 2, 3, 0] rfl)
  refine lv_iload_n hx hb dX8_lays_36 rfl (lv_at hl 3 rfl) ?_
  refine lv_bipush (v := (25 : Int32)) hx hb dX8_lays_37 (by decide) ?_
  refine lv_icmp_ge (tgt := 64) hx hb dX8_lays_39 (by decide) (fun hc11 => ?_) (fun hc11 => ?_)
  · have hf := if_t hc11 hf
    exact e_v X hr hlk hh ⟨rfl, so_e hf⟩ dX8_lays_64
  · have hf := if_f hc11 hf
    refine lv_aload_n hx hb dX8_lays_42 rfl (lv_at hl 1 rfl) ?_
    refine lv_iload_n hx hb dX8_lays_43 rfl (lv_at hl 2 rfl) ?_
    refine lv_bipush (v := (28 : Int32)) hx hb dX8_lays_44 (by decide) ?_
    refine lv_imul hx hb dX8_lays_46 ?_
    refine lv_iconst (v := (3 : Int32)) hx hb dX8_lays_47 (by decide) ?_
    refine lv_iadd hx hb dX8_lays_48 ?_
    refine lv_iload_n hx hb dX8_lays_49 rfl (lv_at hl 3 rfl) ?_
    refine lv_iadd hx hb dX8_lays_50 ?_
    refine lv_aload_n hx hb dX8_lays_51 rfl (lv_at hl 0 rfl) ?_
    refine q_gr (P := 9) X hh ht fk_X8_18 dX8_lays_52 hf (fun t12 h13 hf => ?_)
    refine lv_iload_n hx hb dX8_lays_55 rfl (lv_at hl 3 rfl) ?_
    refine q_ald X hh h13 dX8_lays_56 hf (fun hf => ?_)
    refine q_ast X hh ha0 dX8_lays_57 hf (fun w16 H locs hf hh => ?_)
    obtain ⟨x17, e18⟩ : ∃ y : Int32, y = (x7 + (1 : Int32)) := ⟨_, rfl⟩
    have hf := lt_e e18 hf
    refine lv_iinc (v := x17) (lv' := [(3, .int x17), (0, .ref (B + t)), (1, .ref (B + a0)), (2, .int a1)]) hx hb dX8_lays_58 hl (k := 3) rfl (by rw [e18]; rfl) (by decide) rfl (fun ls hl => ?_)
    refine lv_goto (tgt := 36) hx hb dX8_lays_61 (by decide) ?_
    exact ih10 _ _ hf  _ _ _ hh (lv_sub hl [1, 2, 3, 0] rfl)
set_option maxHeartbeats 4000000 in
set_option maxRecDepth 100000 in
theorem m_X8_takes (l : Launch) (B : Nat) (D : DD) {t : Nat} {a0 : Nat} {a1 : Int32} {w : Wd} {w' : Wd} (ht : t < 153 ∧ kd t = 8) (ha0 : a0 < 153 ∧ kd a0 = 9) (hf : f_X8_takes t a0 a1 w = some w') : Ct l yX8_takes cX8_takes 4 none 0 0 0 0 B D [.ref (B + t), .ref (B + a0), .int a1] 153 w none 153 w' := by
  refine m_of (by decide) (Nat.le_of_ble_eq_true rfl) (fun p e s m args below meth c X hml hr hlk _ H locs hh ls hl => ?_)
  have hx := X.1
  have hb := X.2.1
  have hl : lv_has ls 4 [(0, .ref (B + t)), (1, .ref (B + a0)), (2, .int a1)] := hl
  unfold f_X8_takes at hf
  refine lv_aload_n hx hb dX8_takes_0 rfl (lv_at hl 0 rfl) ?_
  refine lv_aload_n hx hb dX8_takes_1 rfl (lv_at hl 1 rfl) ?_
  refine lv_iload_n hx hb dX8_takes_2 rfl (lv_at hl 2 rfl) ?_
  refine lv_bipush (v := (28 : Int32)) hx hb dX8_takes_3 (by decide) ?_
  refine lv_imul hx hb dX8_takes_5 ?_
  refine q_ald X hh ha0 dX8_takes_6 hf (fun hf => ?_)
  refine q_pi X hh ht fk_X8_9 pk_8_0 rfl rfl dX8_takes_7 hf (fun w2 H locs hf hh => ?_)
  refine lv_aload_n hx hb dX8_takes_10 rfl (lv_at hl 0 rfl) ?_
  refine lv_aload_n hx hb dX8_takes_11 rfl (lv_at hl 1 rfl) ?_
  refine lv_iload_n hx hb dX8_takes_12 rfl (lv_at hl 2 rfl) ?_
  refine lv_bipush (v := (28 : Int32)) hx hb dX8_takes_13 (by decide) ?_
  refine lv_imul hx hb dX8_takes_15 ?_
  refine lv_iconst (v := (1 : Int32)) hx hb dX8_takes_16 (by decide) ?_
  refine lv_iadd hx hb dX8_takes_17 ?_
  refine q_ald X hh ha0 dX8_takes_18 hf (fun hf => ?_)
  refine q_pi X hh ht fk_X8_15 pk_8_1 rfl rfl dX8_takes_19 hf (fun w4 H locs hf hh => ?_)
  refine lv_aload_n hx hb dX8_takes_22 rfl (lv_at hl 0 rfl) ?_
  refine lv_aload_n hx hb dX8_takes_23 rfl (lv_at hl 1 rfl) ?_
  refine lv_iload_n hx hb dX8_takes_24 rfl (lv_at hl 2 rfl) ?_
  refine lv_bipush (v := (28 : Int32)) hx hb dX8_takes_25 (by decide) ?_
  refine lv_imul hx hb dX8_takes_27 ?_
  refine lv_iconst (v := (2 : Int32)) hx hb dX8_takes_28 (by decide) ?_
  refine lv_iadd hx hb dX8_takes_29 ?_
  refine q_ald X hh ha0 dX8_takes_30 hf (fun hf => ?_)
  refine q_pi X hh ht fk_X8_62 pk_8_2 rfl rfl dX8_takes_31 hf (fun w6 H locs hf hh => ?_)
  refine lv_iconst (v := (0 : Int32)) hx hb dX8_takes_34 (by decide) ?_
  refine lv_istore_n (lv' := [(3, .int (0 : Int32)), (0, .ref (B + t)), (1, .ref (B + a0)), (2, .int a1)]) hx hb dX8_takes_35 rfl hl (by decide) rfl (fun ls hl => ?_)
  refine wl2_W (P := fun (x7 : Int32) (w8 : Wd) => ∀ (H : Heap) (locs : List Loc) (ls : Array Slot), Hp B D 153 w8 s H locs → lv_has ls 4 [(0, .ref (B + t)), (1, .ref (B + a0)), (2, .int a1), (3, .int x7)] → W p l e (rmk 0 0 0 0) s m args below meth c H locs 0 0 (MZ below B D 153 w' none args s 0 0) (F0 m 36 ls [])) hf (fun x7 w8 k9 ih10 hf  H locs ls hh hl => ?_)  _ _ _ hh (lv_sub hl [1, 2, 3, 0] rfl)
  refine lv_iload_n hx hb dX8_takes_36 rfl (lv_at hl 3 rfl) ?_
  refine lv_bipush (v := (25 : Int32)) hx hb dX8_takes_37 (by decide) ?_
  refine lv_icmp_ge (tgt := 64) hx hb dX8_takes_39 (by decide) (fun hc11 => ?_) (fun hc11 => ?_)
  · have hf := if_t hc11 hf
    exact e_v X hr hlk hh ⟨rfl, so_e hf⟩ dX8_takes_64
  · have hf := if_f hc11 hf
    refine lv_aload_n hx hb dX8_takes_42 rfl (lv_at hl 0 rfl) ?_
    refine q_gr (P := 9) X hh ht fk_X8_18 dX8_takes_43 hf (fun t12 h13 hf => ?_)
    refine lv_iload_n hx hb dX8_takes_46 rfl (lv_at hl 3 rfl) ?_
    refine lv_aload_n hx hb dX8_takes_47 rfl (lv_at hl 1 rfl) ?_
    refine lv_iload_n hx hb dX8_takes_48 rfl (lv_at hl 2 rfl) ?_
    refine lv_bipush (v := (28 : Int32)) hx hb dX8_takes_49 (by decide) ?_
    refine lv_imul hx hb dX8_takes_51 ?_
    refine lv_iconst (v := (3 : Int32)) hx hb dX8_takes_52 (by decide) ?_
    refine lv_iadd hx hb dX8_takes_53 ?_
    refine lv_iload_n hx hb dX8_takes_54 rfl (lv_at hl 3 rfl) ?_
    refine lv_iadd hx hb dX8_takes_55 ?_
    refine q_ald X hh ha0 dX8_takes_56 hf (fun hf => ?_)
    refine q_ast X hh h13 dX8_takes_57 hf (fun w16 H locs hf hh => ?_)
    obtain ⟨x17, e18⟩ : ∃ y : Int32, y = (x7 + (1 : Int32)) := ⟨_, rfl⟩
    have hf := lt_e e18 hf
    refine lv_iinc (v := x17) (lv' := [(3, .int x17), (0, .ref (B + t)), (1, .ref (B + a0)), (2, .int a1)]) hx hb dX8_takes_58 hl (k := 3) rfl (by rw [e18]; rfl) (by decide) rfl (fun ls hl => ?_)
    refine lv_goto (tgt := 36) hx hb dX8_takes_61 (by decide) ?_
    exact ih10 _ _ hf  _ _ _ hh (lv_sub hl [1, 2, 3, 0] rfl)
set_option maxHeartbeats 4000000 in
set_option maxRecDepth 100000 in
theorem m_X8_does (l : Launch) (B : Nat) (D : DD) {t : Nat} {w : Wd} {w' : Wd} (ht : t < 153 ∧ kd t = 8) (hf : f_X8_does t w = some w') : Ct l yX8_does cX8_does 2 none 1 23 0 0 B D [.ref (B + t)] 153 w none 153 w' := by
  refine m_of (by decide) (Nat.le_of_ble_eq_true rfl) (fun p e s m args below meth c X hml hr hlk _ H locs hh ls hl => ?_)
  have hx := X.1
  have hb := X.2.1
  have hl : lv_has ls 2 [(0, .ref (B + t))] := hl
  unfold f_X8_does at hf
  refine lv_aload_n hx hb dX8_does_0 rfl (lv_at hl 0 rfl) ?_
  refine r_gi X hh ht fk_X8_65 dX8_does_1 ?_
  refine lv_bipush (v := (8 : Int32)) hx hb dX8_does_4 (by decide) ?_
  refine jn_W (P := fun j3 => ∀ (w2 : Wd), j3 w2 = some w' → ∀ (H : Heap) (locs : List Loc) (ls : Array Slot), Hp B D 153 w2 s H locs → lv_has ls 2 [(0, .ref (B + t))] → W p l e (rmk 1 23 0 0) s m args below meth c H locs 0 0 (MZ below B D 153 w' none args s 0 0) (F0 m 49 ls [])) hf (fun w2 hf  H locs ls hh hl => ?_) (fun j3 hj3 hf => ?_)
  · refine lv_aload_n hx hb dX8_does_49 rfl (lv_at hl 0 rfl) ?_
    refine lv_aload_n hx hb dX8_does_50 rfl (lv_at hl 0 rfl) ?_
    refine q_gr (P := 9) X hh ht fk_X8_22 dX8_does_51 hf (fun t4 h5 hf => ?_)
    refine lv_aload_n hx hb dX8_does_54 rfl (lv_at hl 0 rfl) ?_
    refine r_gi X hh ht fk_X8_65 dX8_does_55 ?_
    obtain ⟨w7, hc6, hf⟩ := c1_e hf
    refine q_V (w' := w7) (rest := []) X hml hh none (m_X8_lays l B D ht h5 hc6) cf_X8_lays k_750 ht ci_8 rfl rfl hl.1 rfl (Nat.le_of_ble_eq_true rfl) ⟨Nat.le_of_ble_eq_true rfl, Nat.le_of_ble_eq_true rfl⟩ ⟨Nat.zero_le _, Nat.zero_le _⟩ dX8_does_58 rfl (fun H locs hh => ?_)
    refine lv_aload_n hx hb dX8_does_61 rfl (lv_at hl 0 rfl) ?_
    refine lv_dup hx hb dX8_does_62 rfl ?_
    refine r_gi X hh ht fk_X8_65 dX8_does_63 ?_
    refine lv_iconst (v := (1 : Int32)) hx hb dX8_does_66 (by decide) ?_
    refine lv_iadd hx hb dX8_does_67 ?_
    refine q_pi X hh ht fk_X8_65 pk_8_6 rfl rfl dX8_does_68 hf (fun w8 H locs hf hh => ?_)
    refine lv_aload_n hx hb dX8_does_71 rfl (lv_at hl 0 rfl) ?_
    refine lv_iconst (v := (0 : Int32)) hx hb dX8_does_72 (by decide) ?_
    refine q_pi X hh ht fk_X8_72 pk_8_7 rfl rfl dX8_does_73 hf (fun w9 H locs hf hh => ?_)
    exact e_v X hr hlk hh ⟨rfl, so_e hf⟩ dX8_does_76
  · refine lv_icmp_ne (tgt := 49) hx hb dX8_does_6 (by decide) (fun hc1 => ?_) (fun hc1 => ?_)
    · have hf := if_f hc1 hf
      exact hj3 _ hf  _ _ _ hh (lv_sub hl [0] rfl)
    · have hf := if_t hc1 hf
      refine lv_iconst (v := (0 : Int32)) hx hb dX8_does_9 (by decide) ?_
      refine lv_istore_n (lv' := [(1, .int (0 : Int32)), (0, .ref (B + t))]) hx hb dX8_does_10 rfl hl (by decide) rfl (fun ls hl => ?_)
      refine wl2_W (P := fun (x10 : Int32) (w11 : Wd) => ∀ (H : Heap) (locs : List Loc) (ls : Array Slot), Hp B D 153 w11 s H locs → lv_has ls 2 [(0, .ref (B + t)), (1, .int x10)] → W p l e (rmk 1 23 0 0) s m args below meth c H locs 0 0 (MZ below B D 153 w' none args s 0 0) (F0 m 11 ls [])) hf (fun x10 w11 k12 ih13 hf  H locs ls hh hl => ?_)  _ _ _ hh (lv_sub hl [1, 0] rfl)
      refine lv_iload_n hx hb dX8_does_11 rfl (lv_at hl 1 rfl) ?_
      refine lv_sipush (v := (196 : Int32)) hx hb dX8_does_12 (by decide) ?_
      refine lv_icmp_ge (tgt := 39) hx hb dX8_does_15 (by decide) (fun hc14 => ?_) (fun hc14 => ?_)
      · have hf := if_t hc14 hf
        refine lv_aload_n hx hb dX8_does_39 rfl (lv_at hl 0 rfl) ?_
        refine lv_dup hx hb dX8_does_40 rfl ?_
        refine r_gi X hh ht fk_X8_65 dX8_does_41 ?_
        refine lv_iconst (v := (1 : Int32)) hx hb dX8_does_44 (by decide) ?_
        refine lv_isub hx hb dX8_does_45 ?_
        refine q_pi X hh ht fk_X8_65 pk_8_6 rfl rfl dX8_does_46 hf (fun w15 H locs hf hh => ?_)
        exact hj3 _ hf  _ _ _ hh (lv_sub hl [0] rfl)
      · have hf := if_f hc14 hf
        refine lv_aload_n hx hb dX8_does_18 rfl (lv_at hl 0 rfl) ?_
        refine q_gr (P := 9) X hh ht fk_X8_22 dX8_does_19 hf (fun t16 h17 hf => ?_)
        refine lv_iload_n hx hb dX8_does_22 rfl (lv_at hl 1 rfl) ?_
        refine lv_aload_n hx hb dX8_does_23 rfl (lv_at hl 0 rfl) ?_
        refine q_gr (P := 9) X hh ht fk_X8_22 dX8_does_24 hf (fun t18 h19 hf => ?_)
        refine lv_iload_n hx hb dX8_does_27 rfl (lv_at hl 1 rfl) ?_
        refine lv_bipush (v := (28 : Int32)) hx hb dX8_does_28 (by decide) ?_
        refine lv_iadd hx hb dX8_does_30 ?_
        refine q_ald X hh h19 dX8_does_31 hf (fun hf => ?_)
        refine q_ast X hh h17 dX8_does_32 hf (fun w22 H locs hf hh => ?_)
        obtain ⟨x23, e24⟩ : ∃ y : Int32, y = (x10 + (1 : Int32)) := ⟨_, rfl⟩
        have hf := lt_e e24 hf
        refine lv_iinc (v := x23) (lv' := [(1, .int x23), (0, .ref (B + t))]) hx hb dX8_does_33 hl (k := 1) rfl (by rw [e24]; rfl) (by decide) rfl (fun ls hl => ?_)
        refine lv_goto (tgt := 11) hx hb dX8_does_36 (by decide) ?_
        exact ih13 _ _ hf  _ _ _ hh (lv_sub hl [1, 0] rfl)
set_option maxHeartbeats 4000000 in
set_option maxRecDepth 100000 in
theorem m_X8_undo (l : Launch) (B : Nat) (D : DD) {t : Nat} {w : Wd} {r : Int32} {w' : Wd} (ht : t < 153 ∧ kd t = 8) (hf : f_X8_undo t w = some (r, w')) : Ct l yX8_undo cX8_undo 1 (some .int) 1 23 0 0 B D [.ref (B + t)] 153 w (some (.int r)) 153 w' := by
  refine m_of (by decide) (Nat.le_of_ble_eq_true rfl) (fun p e s m args below meth c X hml hr hlk _ H locs hh ls hl => ?_)
  have hx := X.1
  have hb := X.2.1
  have hl : lv_has ls 1 [(0, .ref (B + t))] := hl
  unfold f_X8_undo at hf
  refine lv_aload_n hx hb dX8_undo_0 rfl (lv_at hl 0 rfl) ?_
  refine r_gi X hh ht fk_X8_65 dX8_undo_1 ?_
  refine lv_if_ne (tgt := 10) hx hb dX8_undo_4 (by decide) (fun hc1 => ?_) (fun hc1 => ?_)
  · have hf := if_f hc1 hf
    refine lv_aload_n hx hb dX8_undo_10 rfl (lv_at hl 0 rfl) ?_
    refine lv_aload_n hx hb dX8_undo_11 rfl (lv_at hl 0 rfl) ?_
    refine q_gr (P := 9) X hh ht fk_X8_25 dX8_undo_12 hf (fun t2 h3 hf => ?_)
    refine lv_aload_n hx hb dX8_undo_15 rfl (lv_at hl 0 rfl) ?_
    refine r_gi X hh ht fk_X8_72 dX8_undo_16 ?_
    obtain ⟨w5, hc4, hf⟩ := c1_e hf
    refine q_V (w' := w5) (rest := []) X hml hh none (m_X8_lays l B D ht h3 hc4) cf_X8_lays k_750 ht ci_8 rfl rfl hl.1 rfl (Nat.le_of_ble_eq_true rfl) ⟨Nat.le_of_ble_eq_true rfl, Nat.le_of_ble_eq_true rfl⟩ ⟨Nat.zero_le _, Nat.zero_le _⟩ dX8_undo_19 rfl (fun H locs hh => ?_)
    refine lv_aload_n hx hb dX8_undo_22 rfl (lv_at hl 0 rfl) ?_
    refine lv_dup hx hb dX8_undo_23 rfl ?_
    refine r_gi X hh ht fk_X8_72 dX8_undo_24 ?_
    refine lv_iconst (v := (1 : Int32)) hx hb dX8_undo_27 (by decide) ?_
    refine lv_iadd hx hb dX8_undo_28 ?_
    refine q_pi X hh ht fk_X8_72 pk_8_7 rfl rfl dX8_undo_29 hf (fun w6 H locs hf hh => ?_)
    refine lv_aload_n hx hb dX8_undo_32 rfl (lv_at hl 0 rfl) ?_
    refine lv_dup hx hb dX8_undo_33 rfl ?_
    refine r_gi X hh ht fk_X8_65 dX8_undo_34 ?_
    refine lv_iconst (v := (1 : Int32)) hx hb dX8_undo_37 (by decide) ?_
    refine lv_isub hx hb dX8_undo_38 ?_
    refine q_pi X hh ht fk_X8_65 pk_8_6 rfl rfl dX8_undo_39 hf (fun w7 H locs hf hh => ?_)
    refine lv_aload_n hx hb dX8_undo_42 rfl (lv_at hl 0 rfl) ?_
    refine lv_aload_n hx hb dX8_undo_43 rfl (lv_at hl 0 rfl) ?_
    refine q_gr (P := 9) X hh ht fk_X8_22 dX8_undo_44 hf (fun t8 h9 hf => ?_)
    refine lv_aload_n hx hb dX8_undo_47 rfl (lv_at hl 0 rfl) ?_
    refine r_gi X hh ht fk_X8_65 dX8_undo_48 ?_
    obtain ⟨w11, hc10, hf⟩ := c1_e hf
    refine q_V (w' := w11) (rest := []) X hml hh none (m_X8_takes l B D ht h9 hc10) cf_X8_takes k_754 ht ci_8 rfl rfl hl.1 rfl (Nat.le_of_ble_eq_true rfl) ⟨Nat.le_of_ble_eq_true rfl, Nat.le_of_ble_eq_true rfl⟩ ⟨Nat.zero_le _, Nat.zero_le _⟩ dX8_undo_51 rfl (fun H locs hh => ?_)
    refine lv_aload_n hx hb dX8_undo_54 rfl (lv_at hl 0 rfl) ?_
    refine r_gi X hh ht fk_X8_65 dX8_undo_55 ?_
    exact e_i X hr hlk hh (so2_e hf) dX8_undo_58
  · have hf := if_t hc1 hf
    refine lv_bipush (v := (-5 : Int32)) hx hb dX8_undo_7 (by decide) ?_
    exact e_i X hr hlk hh (so2_e hf) dX8_undo_9
set_option maxHeartbeats 4000000 in
set_option maxRecDepth 100000 in
theorem m_X8_again (l : Launch) (B : Nat) (D : DD) {t : Nat} {w : Wd} {r : Int32} {w' : Wd} (ht : t < 153 ∧ kd t = 8) (hf : f_X8_again t w = some (r, w')) : Ct l yX8_again cX8_again 1 (some .int) 1 23 0 0 B D [.ref (B + t)] 153 w (some (.int r)) 153 w' := by
  refine m_of (by decide) (Nat.le_of_ble_eq_true rfl) (fun p e s m args below meth c X hml hr hlk _ H locs hh ls hl => ?_)
  have hx := X.1
  have hb := X.2.1
  have hl : lv_has ls 1 [(0, .ref (B + t))] := hl
  unfold f_X8_again at hf
  refine lv_aload_n hx hb dX8_again_0 rfl (lv_at hl 0 rfl) ?_
  refine r_gi X hh ht fk_X8_72 dX8_again_1 ?_
  refine lv_if_ne (tgt := 10) hx hb dX8_again_4 (by decide) (fun hc1 => ?_) (fun hc1 => ?_)
  · have hf := if_f hc1 hf
    refine lv_aload_n hx hb dX8_again_10 rfl (lv_at hl 0 rfl) ?_
    refine lv_aload_n hx hb dX8_again_11 rfl (lv_at hl 0 rfl) ?_
    refine q_gr (P := 9) X hh ht fk_X8_22 dX8_again_12 hf (fun t2 h3 hf => ?_)
    refine lv_aload_n hx hb dX8_again_15 rfl (lv_at hl 0 rfl) ?_
    refine r_gi X hh ht fk_X8_65 dX8_again_16 ?_
    obtain ⟨w5, hc4, hf⟩ := c1_e hf
    refine q_V (w' := w5) (rest := []) X hml hh none (m_X8_lays l B D ht h3 hc4) cf_X8_lays k_750 ht ci_8 rfl rfl hl.1 rfl (Nat.le_of_ble_eq_true rfl) ⟨Nat.le_of_ble_eq_true rfl, Nat.le_of_ble_eq_true rfl⟩ ⟨Nat.zero_le _, Nat.zero_le _⟩ dX8_again_19 rfl (fun H locs hh => ?_)
    refine lv_aload_n hx hb dX8_again_22 rfl (lv_at hl 0 rfl) ?_
    refine lv_dup hx hb dX8_again_23 rfl ?_
    refine r_gi X hh ht fk_X8_65 dX8_again_24 ?_
    refine lv_iconst (v := (1 : Int32)) hx hb dX8_again_27 (by decide) ?_
    refine lv_iadd hx hb dX8_again_28 ?_
    refine q_pi X hh ht fk_X8_65 pk_8_6 rfl rfl dX8_again_29 hf (fun w6 H locs hf hh => ?_)
    refine lv_aload_n hx hb dX8_again_32 rfl (lv_at hl 0 rfl) ?_
    refine lv_dup hx hb dX8_again_33 rfl ?_
    refine r_gi X hh ht fk_X8_72 dX8_again_34 ?_
    refine lv_iconst (v := (1 : Int32)) hx hb dX8_again_37 (by decide) ?_
    refine lv_isub hx hb dX8_again_38 ?_
    refine q_pi X hh ht fk_X8_72 pk_8_7 rfl rfl dX8_again_39 hf (fun w7 H locs hf hh => ?_)
    refine lv_aload_n hx hb dX8_again_42 rfl (lv_at hl 0 rfl) ?_
    refine lv_aload_n hx hb dX8_again_43 rfl (lv_at hl 0 rfl) ?_
    refine q_gr (P := 9) X hh ht fk_X8_25 dX8_again_44 hf (fun t8 h9 hf => ?_)
    refine lv_aload_n hx hb dX8_again_47 rfl (lv_at hl 0 rfl) ?_
    refine r_gi X hh ht fk_X8_72 dX8_again_48 ?_
    obtain ⟨w11, hc10, hf⟩ := c1_e hf
    refine q_V (w' := w11) (rest := []) X hml hh none (m_X8_takes l B D ht h9 hc10) cf_X8_takes k_754 ht ci_8 rfl rfl hl.1 rfl (Nat.le_of_ble_eq_true rfl) ⟨Nat.le_of_ble_eq_true rfl, Nat.le_of_ble_eq_true rfl⟩ ⟨Nat.zero_le _, Nat.zero_le _⟩ dX8_again_51 rfl (fun H locs hh => ?_)
    refine lv_aload_n hx hb dX8_again_54 rfl (lv_at hl 0 rfl) ?_
    refine r_gi X hh ht fk_X8_72 dX8_again_55 ?_
    exact e_i X hr hlk hh (so2_e hf) dX8_again_58
  · have hf := if_t hc1 hf
    refine lv_bipush (v := (-5 : Int32)) hx hb dX8_again_7 (by decide) ?_
    exact e_i X hr hlk hh (so2_e hf) dX8_again_9
set_option maxHeartbeats 4000000 in
set_option maxRecDepth 100000 in
theorem m_X8_empties (l : Launch) (B : Nat) (D : DD) {t : Nat} {w : Wd} {w' : Wd} (ht : t < 153 ∧ kd t = 8) (hf : f_X8_empties t w = some w') : Ct l yX8_empties cX8_empties 2 none 0 0 0 0 B D [.ref (B + t)] 153 w none 153 w' := by
  refine m_of (by decide) (Nat.le_of_ble_eq_true rfl) (fun p e s m args below meth c X hml hr hlk _ H locs hh ls hl => ?_)
  have hx := X.1
  have hb := X.2.1
  have hl : lv_has ls 2 [(0, .ref (B + t))] := hl
  unfold f_X8_empties at hf
  refine lv_iconst (v := (0 : Int32)) hx hb dX8_empties_0 (by decide) ?_
  refine lv_istore_n (lv' := [(1, .int (0 : Int32)), (0, .ref (B + t))]) hx hb dX8_empties_1 rfl hl (by decide) rfl (fun ls hl => ?_)
  refine wl2_W (P := fun (x1 : Int32) (w2 : Wd) => ∀ (H : Heap) (locs : List Loc) (ls : Array Slot), Hp B D 153 w2 s H locs → lv_has ls 2 [(0, .ref (B + t)), (1, .int x1)] → W p l e (rmk 0 0 0 0) s m args below meth c H locs 0 0 (MZ below B D 153 w' none args s 0 0) (F0 m 2 ls [])) hf (fun x1 w2 k3 ih4 hf  H locs ls hh hl => ?_)  _ _ _ hh (lv_sub hl [1, 0] rfl)
  refine lv_iload_n hx hb dX8_empties_2 rfl (lv_at hl 1 rfl) ?_
  refine lv_bipush (v := (25 : Int32)) hx hb dX8_empties_3 (by decide) ?_
  refine lv_icmp_ge (tgt := 21) hx hb dX8_empties_5 (by decide) (fun hc5 => ?_) (fun hc5 => ?_)
  · have hf := if_t hc5 hf
    exact e_v X hr hlk hh ⟨rfl, so_e hf⟩ dX8_empties_21
  · have hf := if_f hc5 hf
    refine lv_aload_n hx hb dX8_empties_8 rfl (lv_at hl 0 rfl) ?_
    refine q_gr (P := 9) X hh ht fk_X8_18 dX8_empties_9 hf (fun t6 h7 hf => ?_)
    refine lv_iload_n hx hb dX8_empties_12 rfl (lv_at hl 1 rfl) ?_
    refine lv_iconst (v := (0 : Int32)) hx hb dX8_empties_13 (by decide) ?_
    refine q_ast X hh h7 dX8_empties_14 hf (fun w9 H locs hf hh => ?_)
    obtain ⟨x10, e11⟩ : ∃ y : Int32, y = (x1 + (1 : Int32)) := ⟨_, rfl⟩
    have hf := lt_e e11 hf
    refine lv_iinc (v := x10) (lv' := [(1, .int x10), (0, .ref (B + t))]) hx hb dX8_empties_15 hl (k := 1) rfl (by rw [e11]; rfl) (by decide) rfl (fun ls hl => ?_)
    refine lv_goto (tgt := 2) hx hb dX8_empties_18 (by decide) ?_
    exact ih4 _ _ hf  _ _ _ hh (lv_sub hl [1, 0] rfl)
set_option maxHeartbeats 4000000 in
set_option maxRecDepth 100000 in
theorem m_X8_grid (l : Launch) (B : Nat) (D : DD) {t : Nat} {a0 : Int32} {a1 : Int32} {w : Wd} {r : Int32} {w' : Wd} (ht : t < 153 ∧ kd t = 8) (hf : f_X8_grid t a0 a1 w = some (r, w')) : Ct l yX8_grid cX8_grid 4 (some .int) 2 44 0 0 B D [.ref (B + t), .int a0, .int a1] 153 w (some (.int r)) 153 w' := by
  refine m_of (by decide) (Nat.le_of_ble_eq_true rfl) (fun p e s m args below meth c X hml hr hlk _ H locs hh ls hl => ?_)
  have hx := X.1
  have hb := X.2.1
  have hl : lv_has ls 4 [(0, .ref (B + t)), (1, .int a0), (2, .int a1)] := hl
  unfold f_X8_grid at hf
  refine lv_iload_n hx hb dX8_grid_0 rfl (lv_at hl 1 rfl) ?_
  refine lv_i2l hx hb dX8_grid_1 rfl ?_
  refine lv_lconst (v := (1 : Int64)) hx hb dX8_grid_2 (by decide) ?_
  refine lv_ldc2 hx hb X.2.2.1 (X.2.2.2.1 _ k_766) dX8_grid_3 ?_
  obtain ⟨v2, hc1, hf⟩ := c1_e hf
  refine q_S (w' := w) (rest := []) X hml hh (some (.int v2)) (m_X8_in l B D hc1) cf_X8_in k_767 rfl hl.1 rfl (Nat.le_of_ble_eq_true rfl) ⟨Nat.le_of_ble_eq_true rfl, Nat.le_of_ble_eq_true rfl⟩ ⟨Nat.zero_le _, Nat.zero_le _⟩ dX8_grid_6 rfl (fun H locs hh => ?_)
  refine lv_if_eq (tgt := 24) hx hb dX8_grid_9 (by decide) (fun hc3 => ?_) (fun hc3 => ?_)
  · have hf := if_t hc3 hf
    refine lv_iconst (v := (-1 : Int32)) hx hb dX8_grid_24 (by decide) ?_
    exact e_i X hr hlk hh (so2_e hf) dX8_grid_25
  · have hf := if_f hc3 hf
    refine lv_iload_n hx hb dX8_grid_12 rfl (lv_at hl 2 rfl) ?_
    refine lv_i2l hx hb dX8_grid_13 rfl ?_
    refine lv_lconst (v := (1 : Int64)) hx hb dX8_grid_14 (by decide) ?_
    refine lv_ldc2 hx hb X.2.2.1 (X.2.2.2.1 _ k_766) dX8_grid_15 ?_
    obtain ⟨v5, hc4, hf⟩ := c1_e hf
    refine q_S (w' := w) (rest := []) X hml hh (some (.int v5)) (m_X8_in l B D hc4) cf_X8_in k_767 rfl hl.1 rfl (Nat.le_of_ble_eq_true rfl) ⟨Nat.le_of_ble_eq_true rfl, Nat.le_of_ble_eq_true rfl⟩ ⟨Nat.zero_le _, Nat.zero_le _⟩ dX8_grid_18 rfl (fun H locs hh => ?_)
    refine lv_if_ne (tgt := 26) hx hb dX8_grid_21 (by decide) (fun hc6 => ?_) (fun hc6 => ?_)
    · have hf := if_f hc6 hf
      refine lv_bipush (v := (10 : Int32)) hx hb dX8_grid_26 (by decide) ?_
      refine lv_aload_n hx hb dX8_grid_28 rfl (lv_at hl 0 rfl) ?_
      refine r_gi X hh ht fk_X8_9 dX8_grid_29 ?_
      refine lv_imul hx hb dX8_grid_32 ?_
      refine lv_aload_n hx hb dX8_grid_33 rfl (lv_at hl 0 rfl) ?_
      refine r_gi X hh ht fk_X8_15 dX8_grid_34 ?_
      refine lv_iadd hx hb dX8_grid_37 ?_
      refine lv_topi (fun x7 e8 => ?_)
      have hf := lt_e e8 hf
      refine lv_istore_n (lv' := [(3, .int x7), (0, .ref (B + t)), (1, .int a0), (2, .int a1)]) hx hb dX8_grid_38 rfl hl (by decide) rfl (fun ls hl => ?_)
      refine lv_aload_n hx hb dX8_grid_39 rfl (lv_at hl 1 rfl) ?_
      obtain ⟨w10, hc9, hf⟩ := c1_e hf
      refine q_V (w' := w10) (rest := []) X hml hh none (m_X8_does l B D ht hc9) cf_X8_does k_770 ht ci_8 rfl rfl hl.1 rfl (Nat.le_of_ble_eq_true rfl) ⟨Nat.le_of_ble_eq_true rfl, Nat.le_of_ble_eq_true rfl⟩ ⟨Nat.zero_le _, Nat.zero_le _⟩ dX8_grid_40 rfl (fun H locs hh => ?_)
      refine lv_aload_n hx hb dX8_grid_43 rfl (lv_at hl 1 rfl) ?_
      refine lv_iload_n hx hb dX8_grid_44 rfl (lv_at hl 2 rfl) ?_
      refine q_pi X hh ht fk_X8_9 pk_8_0 rfl rfl dX8_grid_45 hf (fun w11 H locs hf hh => ?_)
      refine lv_aload_n hx hb dX8_grid_48 rfl (lv_at hl 1 rfl) ?_
      refine lv_iload_n hx hb dX8_grid_49 rfl (lv_at hl 3 rfl) ?_
      refine q_pi X hh ht fk_X8_15 pk_8_1 rfl rfl dX8_grid_50 hf (fun w12 H locs hf hh => ?_)
      refine lv_aload_n hx hb dX8_grid_53 rfl (lv_at hl 1 rfl) ?_
      obtain ⟨w14, hc13, hf⟩ := c1_e hf
      refine q_V (w' := w14) (rest := []) X hml hh none (m_X8_empties l B D ht hc13) cf_X8_empties k_774 ht ci_8 rfl rfl hl.1 rfl (Nat.le_of_ble_eq_true rfl) ⟨Nat.le_of_ble_eq_true rfl, Nat.le_of_ble_eq_true rfl⟩ ⟨Nat.zero_le _, Nat.zero_le _⟩ dX8_grid_54 rfl (fun H locs hh => ?_)
      refine lv_iload_n hx hb dX8_grid_57 rfl (lv_at hl 0 rfl) ?_
      exact e_i X hr hlk hh (so2_e hf) dX8_grid_58
    · have hf := if_t hc6 hf
      refine lv_iconst (v := (-1 : Int32)) hx hb dX8_grid_24 (by decide) ?_
      exact e_i X hr hlk hh (so2_e hf) dX8_grid_25
set_option maxHeartbeats 4000000 in
set_option maxRecDepth 100000 in
theorem m_X8_put (l : Launch) (B : Nat) (D : DD) {t : Nat} {a0 : Int32} {a1 : Int32} {a2 : Int32} {w : Wd} {r : Int32} {w' : Wd} (ht : t < 153 ∧ kd t = 8) (hf : f_X8_put t a0 a1 a2 w = some (r, w')) : Ct l yX8_put cX8_put 5 (some .int) 2 47 0 0 B D [.ref (B + t), .int a0, .int a1, .int a2] 153 w (some (.int r)) 153 w' := by
  refine m_of (by decide) (Nat.le_of_ble_eq_true rfl) (fun p e s m args below meth c X hml hr hlk _ H locs hh ls hl => ?_)
  have hx := X.1
  have hb := X.2.1
  have hl : lv_has ls 5 [(0, .ref (B + t)), (1, .int a0), (2, .int a1), (3, .int a2)] := hl
  unfold f_X8_put at hf
  refine lv_aload_n hx hb dX8_put_0 rfl (lv_at hl 0 rfl) ?_
  refine lv_iload_n hx hb dX8_put_1 rfl (lv_at hl 1 rfl) ?_
  refine lv_iload_n hx hb dX8_put_2 rfl (lv_at hl 2 rfl) ?_
  obtain ⟨v2, hc1, hf⟩ := c1_e hf
  refine q_V (w' := w) (rest := []) X hml hh (some (.int v2)) (m_X8_isCell l B D ht hc1) cf_X8_isCell k_782 ht ci_8 rfl rfl hl.1 rfl (Nat.le_of_ble_eq_true rfl) ⟨Nat.le_of_ble_eq_true rfl, Nat.le_of_ble_eq_true rfl⟩ ⟨Nat.zero_le _, Nat.zero_le _⟩ dX8_put_3 rfl (fun H locs hh => ?_)
  refine lv_if_eq (tgt := 21) hx hb dX8_put_6 (by decide) (fun hc3 => ?_) (fun hc3 => ?_)
  · have hf := if_t hc3 hf
    refine lv_iconst (v := (-1 : Int32)) hx hb dX8_put_21 (by decide) ?_
    exact e_i X hr hlk hh (so2_e hf) dX8_put_22
  · have hf := if_f hc3 hf
    refine lv_iload_n hx hb dX8_put_9 rfl (lv_at hl 3 rfl) ?_
    refine lv_i2l hx hb dX8_put_10 rfl ?_
    refine lv_lconst (v := (0 : Int64)) hx hb dX8_put_11 (by decide) ?_
    refine lv_ldc2 hx hb X.2.2.1 (X.2.2.2.1 _ k_786) dX8_put_12 ?_
    obtain ⟨v5, hc4, hf⟩ := c1_e hf
    refine q_S (w' := w) (rest := []) X hml hh (some (.int v5)) (m_X8_in l B D hc4) cf_X8_in k_767 rfl hl.1 rfl (Nat.le_of_ble_eq_true rfl) ⟨Nat.le_of_ble_eq_true rfl, Nat.le_of_ble_eq_true rfl⟩ ⟨Nat.zero_le _, Nat.zero_le _⟩ dX8_put_15 rfl (fun H locs hh => ?_)
    refine lv_if_ne (tgt := 23) hx hb dX8_put_18 (by decide) (fun hc6 => ?_) (fun hc6 => ?_)
    · have hf := if_f hc6 hf
      refine lv_aload_n hx hb dX8_put_23 rfl (lv_at hl 0 rfl) ?_
      refine q_gr (P := 9) X hh ht fk_X8_18 dX8_put_24 hf (fun t7 h8 hf => ?_)
      refine lv_iload_n hx hb dX8_put_27 rfl (lv_at hl 1 rfl) ?_
      refine lv_iload_n hx hb dX8_put_28 rfl (lv_at hl 2 rfl) ?_
      obtain ⟨v10, hc9, hf⟩ := c1_e hf
      refine q_S (w' := w) (rest := [.ref (B + t7)]) X hml hh (some (.int v10)) (m_X8_at l B D hc9) cf_X8_at k_787 rfl hl.1 rfl (Nat.le_of_ble_eq_true rfl) ⟨Nat.le_of_ble_eq_true rfl, Nat.le_of_ble_eq_true rfl⟩ ⟨Nat.zero_le _, Nat.zero_le _⟩ dX8_put_29 rfl (fun H locs hh => ?_)
      refine q_ald X hh h8 dX8_put_32 hf (fun hf => ?_)
      refine lv_topi (fun x12 e13 => ?_)
      have hf := lt_e e13 hf
      refine lv_istore (lv' := [(4, .int x12), (0, .ref (B + t)), (1, .int a0), (2, .int a1), (3, .int a2)]) hx hb dX8_put_33 hl (by decide) rfl (fun ls hl => ?_)
      refine lv_aload_n hx hb dX8_put_35 rfl (lv_at hl 1 rfl) ?_
      obtain ⟨w15, hc14, hf⟩ := c1_e hf
      refine q_V (w' := w15) (rest := []) X hml hh none (m_X8_does l B D ht hc14) cf_X8_does k_770 ht ci_8 rfl rfl hl.1 rfl (Nat.le_of_ble_eq_true rfl) ⟨Nat.le_of_ble_eq_true rfl, Nat.le_of_ble_eq_true rfl⟩ ⟨Nat.zero_le _, Nat.zero_le _⟩ dX8_put_36 rfl (fun H locs hh => ?_)
      refine lv_aload_n hx hb dX8_put_39 rfl (lv_at hl 1 rfl) ?_
      refine q_gr (P := 9) X hh ht fk_X8_18 dX8_put_40 hf (fun t16 h17 hf => ?_)
      refine lv_iload_n hx hb dX8_put_43 rfl (lv_at hl 2 rfl) ?_
      refine lv_iload_n hx hb dX8_put_44 rfl (lv_at hl 3 rfl) ?_
      obtain ⟨v19, hc18, hf⟩ := c1_e hf
      refine q_S (w' := w15) (rest := [.ref (B + t16)]) X hml hh (some (.int v19)) (m_X8_at l B D hc18) cf_X8_at k_787 rfl hl.1 rfl (Nat.le_of_ble_eq_true rfl) ⟨Nat.le_of_ble_eq_true rfl, Nat.le_of_ble_eq_true rfl⟩ ⟨Nat.zero_le _, Nat.zero_le _⟩ dX8_put_45 rfl (fun H locs hh => ?_)
      refine lv_iload_n hx hb dX8_put_48 rfl (lv_at hl 4 rfl) ?_
      refine q_ast X hh h17 dX8_put_49 hf (fun w21 H locs hf hh => ?_)
      refine lv_iload hx hb dX8_put_50 (lv_at hl 0 rfl) ?_
      exact e_i X hr hlk hh (so2_e hf) dX8_put_52
    · have hf := if_t hc6 hf
      refine lv_iconst (v := (-1 : Int32)) hx hb dX8_put_21 (by decide) ?_
      exact e_i X hr hlk hh (so2_e hf) dX8_put_22
set_option maxHeartbeats 4000000 in
set_option maxRecDepth 100000 in
theorem m_X8_cell (l : Launch) (B : Nat) (D : DD) {t : Nat} {a0 : Int32} {a1 : Int32} {w : Wd} {r : Int32} (ht : t < 153 ∧ kd t = 8) (hf : f_X8_cell t a0 a1 w = some r) : Ct l yX8_cell cX8_cell 3 (some .int) 2 47 0 0 B D [.ref (B + t), .int a0, .int a1] 153 w (some (.int r)) 153 w := by
  refine m_of (by decide) (Nat.le_of_ble_eq_true rfl) (fun p e s m args below meth c X hml hr hlk _ H locs hh ls hl => ?_)
  have hx := X.1
  have hb := X.2.1
  have hl : lv_has ls 3 [(0, .ref (B + t)), (1, .int a0), (2, .int a1)] := hl
  unfold f_X8_cell at hf
  refine lv_aload_n hx hb dX8_cell_0 rfl (lv_at hl 0 rfl) ?_
  refine lv_iload_n hx hb dX8_cell_1 rfl (lv_at hl 1 rfl) ?_
  refine lv_iload_n hx hb dX8_cell_2 rfl (lv_at hl 2 rfl) ?_
  obtain ⟨v2, hc1, hf⟩ := c1_e hf
  refine q_V (w' := w) (rest := []) X hml hh (some (.int v2)) (m_X8_isCell l B D ht hc1) cf_X8_isCell k_782 ht ci_8 rfl rfl hl.1 rfl (Nat.le_of_ble_eq_true rfl) ⟨Nat.le_of_ble_eq_true rfl, Nat.le_of_ble_eq_true rfl⟩ ⟨Nat.zero_le _, Nat.zero_le _⟩ dX8_cell_3 rfl (fun H locs hh => ?_)
  refine lv_if_eq (tgt := 22) hx hb dX8_cell_6 (by decide) (fun hc3 => ?_) (fun hc3 => ?_)
  · have hf := if_t hc3 hf
    refine lv_iconst (v := (-1 : Int32)) hx hb dX8_cell_22 (by decide) ?_
    exact e_i X hr hlk hh ⟨so_e hf, rfl⟩ dX8_cell_23
  · have hf := if_f hc3 hf
    refine lv_aload_n hx hb dX8_cell_9 rfl (lv_at hl 0 rfl) ?_
    refine q_gr (P := 9) X hh ht fk_X8_18 dX8_cell_10 hf (fun t4 h5 hf => ?_)
    refine lv_iload_n hx hb dX8_cell_13 rfl (lv_at hl 1 rfl) ?_
    refine lv_iload_n hx hb dX8_cell_14 rfl (lv_at hl 2 rfl) ?_
    obtain ⟨v7, hc6, hf⟩ := c1_e hf
    refine q_S (w' := w) (rest := [.ref (B + t4)]) X hml hh (some (.int v7)) (m_X8_at l B D hc6) cf_X8_at k_787 rfl hl.1 rfl (Nat.le_of_ble_eq_true rfl) ⟨Nat.le_of_ble_eq_true rfl, Nat.le_of_ble_eq_true rfl⟩ ⟨Nat.zero_le _, Nat.zero_le _⟩ dX8_cell_15 rfl (fun H locs hh => ?_)
    refine q_ald X hh h5 dX8_cell_18 hf (fun hf => ?_)
    refine lv_topi (fun x9 e10 => ?_)
    have hf := lt_e e10 hf
    refine lv_goto (tgt := 23) hx hb dX8_cell_19 (by decide) ?_
    exact e_i X hr hlk hh ⟨so_e hf, rfl⟩ dX8_cell_23
set_option maxHeartbeats 4000000 in
set_option maxRecDepth 100000 in
theorem m_X8_rule (l : Launch) (B : Nat) (D : DD) {t : Nat} {a0 : Int32} {w : Wd} {r : Int32} {w' : Wd} (ht : t < 153 ∧ kd t = 8) (hf : f_X8_rule t a0 w = some (r, w')) : Ct l yX8_rule cX8_rule 3 (some .int) 2 44 0 0 B D [.ref (B + t), .int a0] 153 w (some (.int r)) 153 w' := by
  refine m_of (by decide) (Nat.le_of_ble_eq_true rfl) (fun p e s m args below meth c X hml hr hlk _ H locs hh ls hl => ?_)
  have hx := X.1
  have hb := X.2.1
  have hl : lv_has ls 3 [(0, .ref (B + t)), (1, .int a0)] := hl
  unfold f_X8_rule at hf
  refine lv_iload_n hx hb dX8_rule_0 rfl (lv_at hl 1 rfl) ?_
  refine lv_i2l hx hb dX8_rule_1 rfl ?_
  refine lv_lconst (v := (0 : Int64)) hx hb dX8_rule_2 (by decide) ?_
  refine lv_ldc2 hx hb X.2.2.1 (X.2.2.2.1 _ k_786) dX8_rule_3 ?_
  obtain ⟨v2, hc1, hf⟩ := c1_e hf
  refine q_S (w' := w) (rest := []) X hml hh (some (.int v2)) (m_X8_in l B D hc1) cf_X8_in k_767 rfl hl.1 rfl (Nat.le_of_ble_eq_true rfl) ⟨Nat.le_of_ble_eq_true rfl, Nat.le_of_ble_eq_true rfl⟩ ⟨Nat.zero_le _, Nat.zero_le _⟩ dX8_rule_6 rfl (fun H locs hh => ?_)
  refine lv_if_ne (tgt := 14) hx hb dX8_rule_9 (by decide) (fun hc3 => ?_) (fun hc3 => ?_)
  · have hf := if_f hc3 hf
    refine lv_aload_n hx hb dX8_rule_14 rfl (lv_at hl 0 rfl) ?_
    refine r_gi X hh ht fk_X8_62 dX8_rule_15 ?_
    refine lv_topi (fun x4 e5 => ?_)
    have hf := lt_e e5 hf
    refine lv_istore_n (lv' := [(2, .int x4), (0, .ref (B + t)), (1, .int a0)]) hx hb dX8_rule_18 rfl hl (by decide) rfl (fun ls hl => ?_)
    refine lv_aload_n hx hb dX8_rule_19 rfl (lv_at hl 1 rfl) ?_
    obtain ⟨w7, hc6, hf⟩ := c1_e hf
    refine q_V (w' := w7) (rest := []) X hml hh none (m_X8_does l B D ht hc6) cf_X8_does k_770 ht ci_8 rfl rfl hl.1 rfl (Nat.le_of_ble_eq_true rfl) ⟨Nat.le_of_ble_eq_true rfl, Nat.le_of_ble_eq_true rfl⟩ ⟨Nat.zero_le _, Nat.zero_le _⟩ dX8_rule_20 rfl (fun H locs hh => ?_)
    refine lv_aload_n hx hb dX8_rule_23 rfl (lv_at hl 1 rfl) ?_
    refine lv_iload_n hx hb dX8_rule_24 rfl (lv_at hl 2 rfl) ?_
    refine q_pi X hh ht fk_X8_62 pk_8_2 rfl rfl dX8_rule_25 hf (fun w8 H locs hf hh => ?_)
    refine lv_iload_n hx hb dX8_rule_28 rfl (lv_at hl 0 rfl) ?_
    exact e_i X hr hlk hh (so2_e hf) dX8_rule_29
  · have hf := if_t hc3 hf
    refine lv_iconst (v := (-1 : Int32)) hx hb dX8_rule_12 (by decide) ?_
    exact e_i X hr hlk hh (so2_e hf) dX8_rule_13
set_option maxHeartbeats 4000000 in
set_option maxRecDepth 100000 in
theorem m_X8_power (l : Launch) (B : Nat) (D : DD) {a0 : Int32} {w : Wd} {r : Int32} (hf : f_X8_power a0 = some r) : Ct l yX8_power cX8_power 3 (some .int) 0 0 0 0 B D [.int a0] 153 w (some (.int r)) 153 w := by
  refine m_of (by decide) (Nat.le_of_ble_eq_true rfl) (fun p e s m args below meth c X hml hr hlk _ H locs hh ls hl => ?_)
  have hx := X.1
  have hb := X.2.1
  have hl : lv_has ls 3 [(0, .int a0)] := hl
  unfold f_X8_power at hf
  refine lv_iconst (v := (1 : Int32)) hx hb dX8_power_0 (by decide) ?_
  refine lv_istore_n (lv' := [(1, .int (1 : Int32)), (0, .int a0)]) hx hb dX8_power_1 rfl hl (by decide) rfl (fun ls hl => ?_)
  refine lv_iconst (v := (0 : Int32)) hx hb dX8_power_2 (by decide) ?_
  refine lv_istore_n (lv' := [(2, .int (0 : Int32)), (1, .int (1 : Int32)), (0, .int a0)]) hx hb dX8_power_3 rfl hl (by decide) rfl (fun ls hl => ?_)
  refine wl2_W (P := fun (x1 : Int32) (x2 : Int32) => ∀ (H : Heap) (locs : List Loc) (ls : Array Slot), Hp B D 153 w s H locs → lv_has ls 3 [(0, .int a0), (1, .int x1), (2, .int x2)] → W p l e (rmk 0 0 0 0) s m args below meth c H locs 0 0 (MZ below B D 153 w (some (.int r)) args s 0 0) (F0 m 4 ls [])) hf (fun x1 x2 k3 ih4 hf  H locs ls hh hl => ?_)  _ _ _ hh (lv_sub hl [2, 1, 0] rfl)
  refine lv_iload_n hx hb dX8_power_4 rfl (lv_at hl 2 rfl) ?_
  refine lv_iload_n hx hb dX8_power_5 rfl (lv_at hl 0 rfl) ?_
  refine lv_icmp_ge (tgt := 20) hx hb dX8_power_6 (by decide) (fun hc5 => ?_) (fun hc5 => ?_)
  · have hf := if_t hc5 hf
    refine lv_iload_n hx hb dX8_power_20 rfl (lv_at hl 1 rfl) ?_
    exact e_i X hr hlk hh ⟨so_e hf, rfl⟩ dX8_power_21
  · have hf := if_f hc5 hf
    refine lv_iload_n hx hb dX8_power_9 rfl (lv_at hl 1 rfl) ?_
    refine lv_bipush (v := (10 : Int32)) hx hb dX8_power_10 (by decide) ?_
    refine lv_imul hx hb dX8_power_12 ?_
    refine lv_topi (fun x6 e7 => ?_)
    have hf := lt_e e7 hf
    refine lv_istore_n (lv' := [(1, .int x6), (0, .int a0), (2, .int x2)]) hx hb dX8_power_13 rfl hl (by decide) rfl (fun ls hl => ?_)
    obtain ⟨x8, e9⟩ : ∃ y : Int32, y = (x2 + (1 : Int32)) := ⟨_, rfl⟩
    have hf := lt_e e9 hf
    refine lv_iinc (v := x8) (lv' := [(2, .int x8), (1, .int x6), (0, .int a0)]) hx hb dX8_power_14 hl (k := 2) rfl (by rw [e9]; rfl) (by decide) rfl (fun ls hl => ?_)
    refine lv_goto (tgt := 4) hx hb dX8_power_17 (by decide) ?_
    exact ih4 _ _ hf  _ _ _ hh (lv_sub hl [2, 1, 0] rfl)
set_option maxHeartbeats 4000000 in
set_option maxRecDepth 100000 in
theorem m_X8_word (l : Launch) (B : Nat) (D : DD) {t : Nat} {a0 : Int32} {w : Wd} {r : Int32} {w' : Wd} (ht : t < 153 ∧ kd t = 8) (hf : f_X8_word t a0 w = some (r, w')) : Ct l yX8_word cX8_word 4 (some .int) 2 44 0 0 B D [.ref (B + t), .int a0] 153 w (some (.int r)) 153 w' := by
  refine m_of (by decide) (Nat.le_of_ble_eq_true rfl) (fun p e s m args below meth c X hml hr hlk _ H locs hh ls hl => ?_)
  have hx := X.1
  have hb := X.2.1
  have hl : lv_has ls 4 [(0, .ref (B + t)), (1, .int a0)] := hl
  unfold f_X8_word at hf
  refine lv_iload_n hx hb dX8_word_0 rfl (lv_at hl 1 rfl) ?_
  refine lv_i2l hx hb dX8_word_1 rfl ?_
  refine lv_lconst (v := (0 : Int64)) hx hb dX8_word_2 (by decide) ?_
  refine lv_aload_n hx hb dX8_word_3 rfl (lv_at hl 0 rfl) ?_
  refine r_gi X hh ht fk_X8_9 dX8_word_4 ?_
  obtain ⟨v2, hc1, hf⟩ := c1_e hf
  refine q_S (w' := w) (rest := [.long (0 : Int64), _]) X hml hh (some (.int v2)) (m_X8_power l B D hc1) cf_X8_power k_802 rfl hl.1 rfl (Nat.le_of_ble_eq_true rfl) ⟨Nat.le_of_ble_eq_true rfl, Nat.le_of_ble_eq_true rfl⟩ ⟨Nat.zero_le _, Nat.zero_le _⟩ dX8_word_7 rfl (fun H locs hh => ?_)
  refine lv_iconst (v := (1 : Int32)) hx hb dX8_word_10 (by decide) ?_
  refine lv_isub hx hb dX8_word_11 ?_
  refine lv_i2l hx hb dX8_word_12 rfl ?_
  obtain ⟨v4, hc3, hf⟩ := c1_e hf
  refine q_S (w' := w) (rest := []) X hml hh (some (.int v4)) (m_X8_in l B D hc3) cf_X8_in k_767 rfl hl.1 rfl (Nat.le_of_ble_eq_true rfl) ⟨Nat.le_of_ble_eq_true rfl, Nat.le_of_ble_eq_true rfl⟩ ⟨Nat.zero_le _, Nat.zero_le _⟩ dX8_word_13 rfl (fun H locs hh => ?_)
  refine lv_if_ne (tgt := 21) hx hb dX8_word_16 (by decide) (fun hc5 => ?_) (fun hc5 => ?_)
  · have hf := if_f hc5 hf
    refine lv_iconst (v := (1 : Int32)) hx hb dX8_word_21 (by decide) ?_
    refine lv_istore_n (lv' := [(2, .int (1 : Int32)), (0, .ref (B + t)), (1, .int a0)]) hx hb dX8_word_22 rfl hl (by decide) rfl (fun ls hl => ?_)
    refine wl1_W (P := fun (x6 : Int32) => ∀ (H : Heap) (locs : List Loc) (ls : Array Slot), Hp B D 153 w s H locs → lv_has ls 4 [(0, .ref (B + t)), (1, .int a0), (2, .int x6)] → W p l e (rmk 2 44 0 0) s m args below meth c H locs 0 0 (MZ below B D 153 w' (some (.int r)) args s 0 0) (F0 m 23 ls [])) hf (fun x6 k7 ih8 hf  H locs ls hh hl => ?_)  _ _ _ hh (lv_sub hl [1, 2, 0] rfl)
    refine lv_iload_n hx hb dX8_word_23 rfl (lv_at hl 2 rfl) ?_
    refine lv_aload_n hx hb dX8_word_24 rfl (lv_at hl 0 rfl) ?_
    refine r_gi X hh ht fk_X8_9 dX8_word_25 ?_
    refine lv_icmp_gt (tgt := 60) hx hb dX8_word_28 (by decide) (fun hc9 => ?_) (fun hc9 => ?_)
    · have hf := if_t hc9 hf
      refine lv_aload_n hx hb dX8_word_60 rfl (lv_at hl 0 rfl) ?_
      obtain ⟨w11, hc10, hf⟩ := c1_e hf
      refine q_V (w' := w11) (rest := []) X hml hh none (m_X8_does l B D ht hc10) cf_X8_does k_770 ht ci_8 rfl rfl hl.1 rfl (Nat.le_of_ble_eq_true rfl) ⟨Nat.le_of_ble_eq_true rfl, Nat.le_of_ble_eq_true rfl⟩ ⟨Nat.zero_le _, Nat.zero_le _⟩ dX8_word_61 rfl (fun H locs hh => ?_)
      refine lv_aload_n hx hb dX8_word_64 rfl (lv_at hl 0 rfl) ?_
      obtain ⟨w13, hc12, hf⟩ := c1_e hf
      refine q_V (w' := w13) (rest := []) X hml hh none (m_X8_empties l B D ht hc12) cf_X8_empties k_774 ht ci_8 rfl rfl hl.1 rfl (Nat.le_of_ble_eq_true rfl) ⟨Nat.le_of_ble_eq_true rfl, Nat.le_of_ble_eq_true rfl⟩ ⟨Nat.zero_le _, Nat.zero_le _⟩ dX8_word_65 rfl (fun H locs hh => ?_)
      refine lv_iconst (v := (1 : Int32)) hx hb dX8_word_68 (by decide) ?_
      refine lv_istore_n (lv' := [(2, .int (1 : Int32)), (0, .ref (B + t)), (1, .int a0)]) hx hb dX8_word_69 rfl hl (by decide) rfl (fun ls hl => ?_)
      refine wl2_W (P := fun (x14 : Int32) (w15 : Wd) => ∀ (H : Heap) (locs : List Loc) (ls : Array Slot), Hp B D 153 w15 s H locs → lv_has ls 4 [(0, .ref (B + t)), (1, .int a0), (2, .int x14)] → W p l e (rmk 2 44 0 0) s m args below meth c H locs 0 0 (MZ below B D 153 w' (some (.int r)) args s 0 0) (F0 m 70 ls [])) hf (fun x14 w15 k16 ih17 hf  H locs ls hh hl => ?_)  _ _ _ hh (lv_sub hl [1, 2, 0] rfl)
      refine lv_iload_n hx hb dX8_word_70 rfl (lv_at hl 2 rfl) ?_
      refine lv_aload_n hx hb dX8_word_71 rfl (lv_at hl 0 rfl) ?_
      refine r_gi X hh ht fk_X8_9 dX8_word_72 ?_
      refine lv_icmp_gt (tgt := 114) hx hb dX8_word_75 (by decide) (fun hc18 => ?_) (fun hc18 => ?_)
      · have hf := if_t hc18 hf
        refine lv_aload_n hx hb dX8_word_114 rfl (lv_at hl 0 rfl) ?_
        obtain ⟨v20, hc19, hf⟩ := c1_e hf
        refine q_V (w' := w15) (rest := []) X hml hh (some (.int v20)) (m_X8_filled l B D ht hc19) cf_X8_filled k_805 ht ci_8 rfl rfl hl.1 rfl (Nat.le_of_ble_eq_true rfl) ⟨Nat.le_of_ble_eq_true rfl, Nat.le_of_ble_eq_true rfl⟩ ⟨Nat.zero_le _, Nat.zero_le _⟩ dX8_word_115 rfl (fun H locs hh => ?_)
        exact e_i X hr hlk hh (so2_e hf) dX8_word_118
      · have hf := if_f hc18 hf
        refine lv_iload_n hx hb dX8_word_78 rfl (lv_at hl 1 rfl) ?_
        refine lv_aload_n hx hb dX8_word_79 rfl (lv_at hl 0 rfl) ?_
        refine r_gi X hh ht fk_X8_9 dX8_word_80 ?_
        refine lv_iload_n hx hb dX8_word_83 rfl (lv_at hl 2 rfl) ?_
        refine lv_isub hx hb dX8_word_84 ?_
        obtain ⟨v22, hc21, hf⟩ := c1_e hf
        refine q_S (w' := w15) (rest := [.int a0]) X hml hh (some (.int v22)) (m_X8_power l B D hc21) cf_X8_power k_802 rfl hl.1 rfl (Nat.le_of_ble_eq_true rfl) ⟨Nat.le_of_ble_eq_true rfl, Nat.le_of_ble_eq_true rfl⟩ ⟨Nat.zero_le _, Nat.zero_le _⟩ dX8_word_85 rfl (fun H locs hh => ?_)
        have hz := nz_e hf
        have hf := hz.2
        refine lv_idiv hx hb dX8_word_88 hz.1 ?_
        refine lv_bipush (v := (10 : Int32)) hx hb dX8_word_89 (by decide) ?_
        refine lv_irem hx hb dX8_word_91 (by decide) ?_
        refine lv_topi (fun x23 e24 => ?_)
        have hf := lt_e e24 hf
        refine lv_istore_n (lv' := [(3, .int x23), (0, .ref (B + t)), (1, .int a0), (2, .int x14)]) hx hb dX8_word_92 rfl hl (by decide) rfl (fun ls hl => ?_)
        refine lv_iload_n hx hb dX8_word_93 rfl (lv_at hl 0 rfl) ?_
        refine jn_W (P := fun j27 => ∀ (w26 : Wd), j27 w26 = some (r, w') → ∀ (H : Heap) (locs : List Loc) (ls : Array Slot), Hp B D 153 w26 s H locs → lv_has ls 4 [(0, .ref (B + t)), (1, .int a0), (2, .int x14)] → W p l e (rmk 2 44 0 0) s m args below meth c H locs 0 0 (MZ below B D 153 w' (some (.int r)) args s 0 0) (F0 m 108 ls [])) hf (fun w26 hf  H locs ls hh hl => ?_) (fun j27 hj27 hf => ?_)
        · obtain ⟨x28, e29⟩ : ∃ y : Int32, y = (x14 + (1 : Int32)) := ⟨_, rfl⟩
          have hf := lt_e e29 hf
          refine lv_iinc (v := x28) (lv' := [(2, .int x28), (0, .ref (B + t)), (1, .int a0)]) hx hb dX8_word_108 hl (k := 2) rfl (by rw [e29]; rfl) (by decide) rfl (fun ls hl => ?_)
          refine lv_goto (tgt := 70) hx hb dX8_word_111 (by decide) ?_
          exact ih17 _ _ hf  _ _ _ hh (lv_sub hl [1, 2, 0] rfl)
        · refine lv_if_le (tgt := 108) hx hb dX8_word_94 (by decide) (fun hc25 => ?_) (fun hc25 => ?_)
          · have hf := if_t hc25 hf
            exact hj27 _ hf  _ _ _ hh (lv_sub hl [1, 2, 3] rfl)
          · have hf := if_f hc25 hf
            refine lv_aload_n hx hb dX8_word_97 rfl (lv_at hl 1 rfl) ?_
            refine q_gr (P := 9) X hh ht fk_X8_18 dX8_word_98 hf (fun t30 h31 hf => ?_)
            refine lv_iload_n hx hb dX8_word_101 rfl (lv_at hl 3 rfl) ?_
            refine lv_iload_n hx hb dX8_word_102 rfl (lv_at hl 0 rfl) ?_
            obtain ⟨v33, hc32, hf⟩ := c1_e hf
            refine q_S (w' := w15) (rest := [.ref (B + t30)]) X hml hh (some (.int v33)) (m_X8_at l B D hc32) cf_X8_at k_787 rfl hl.1 rfl (Nat.le_of_ble_eq_true rfl) ⟨Nat.le_of_ble_eq_true rfl, Nat.le_of_ble_eq_true rfl⟩ ⟨Nat.zero_le _, Nat.zero_le _⟩ dX8_word_103 rfl (fun H locs hh => ?_)
            refine lv_iconst (v := (1 : Int32)) hx hb dX8_word_106 (by decide) ?_
            refine q_ast X hh h31 dX8_word_107 hf (fun w35 H locs hf hh => ?_)
            exact hj27 _ hf  _ _ _ hh (lv_sub hl [1, 2, 3] rfl)
    · have hf := if_f hc9 hf
      refine lv_iload_n hx hb dX8_word_31 rfl (lv_at hl 1 rfl) ?_
      refine lv_aload_n hx hb dX8_word_32 rfl (lv_at hl 0 rfl) ?_
      refine r_gi X hh ht fk_X8_9 dX8_word_33 ?_
      refine lv_iload_n hx hb dX8_word_36 rfl (lv_at hl 2 rfl) ?_
      refine lv_isub hx hb dX8_word_37 ?_
      obtain ⟨v37, hc36, hf⟩ := c1_e hf
      refine q_S (w' := w) (rest := [.int a0]) X hml hh (some (.int v37)) (m_X8_power l B D hc36) cf_X8_power k_802 rfl hl.1 rfl (Nat.le_of_ble_eq_true rfl) ⟨Nat.le_of_ble_eq_true rfl, Nat.le_of_ble_eq_true rfl⟩ ⟨Nat.zero_le _, Nat.zero_le _⟩ dX8_word_38 rfl (fun H locs hh => ?_)
      have hz := nz_e hf
      have hf := hz.2
      refine lv_idiv hx hb dX8_word_41 hz.1 ?_
      refine lv_bipush (v := (10 : Int32)) hx hb dX8_word_42 (by decide) ?_
      refine lv_irem hx hb dX8_word_44 (by decide) ?_
      refine lv_aload_n hx hb dX8_word_45 rfl (lv_at hl 0 rfl) ?_
      refine r_gi X hh ht fk_X8_15 dX8_word_46 ?_
      refine lv_icmp_le (tgt := 54) hx hb dX8_word_49 (by decide) (fun hc38 => ?_) (fun hc38 => ?_)
      · have hf := if_t hc38 hf
        obtain ⟨x39, e40⟩ : ∃ y : Int32, y = (x6 + (1 : Int32)) := ⟨_, rfl⟩
        have hf := lt_e e40 hf
        refine lv_iinc (v := x39) (lv' := [(2, .int x39), (0, .ref (B + t)), (1, .int a0)]) hx hb dX8_word_54 hl (k := 2) rfl (by rw [e40]; rfl) (by decide) rfl (fun ls hl => ?_)
        refine lv_goto (tgt := 23) hx hb dX8_word_57 (by decide) ?_
        exact ih8 _ hf  _ _ _ hh (lv_sub hl [1, 2, 0] rfl)
      · have hf := if_f hc38 hf
        refine lv_iconst (v := (-1 : Int32)) hx hb dX8_word_52 (by decide) ?_
        exact e_i X hr hlk hh (so2_e hf) dX8_word_53
  · have hf := if_t hc5 hf
    refine lv_iconst (v := (-1 : Int32)) hx hb dX8_word_19 (by decide) ?_
    exact e_i X hr hlk hh (so2_e hf) dX8_word_20
set_option maxHeartbeats 4000000 in
set_option maxRecDepth 100000 in
theorem m_X8_spelled (l : Launch) (B : Nat) (D : DD) {t : Nat} {w : Wd} {r : Int32} (ht : t < 153 ∧ kd t = 8) (hf : f_X8_spelled t w = some r) : Ct l yX8_spelled cX8_spelled 6 (some .int) 1 21 0 0 B D [.ref (B + t)] 153 w (some (.int r)) 153 w := by
  refine m_of (by decide) (Nat.le_of_ble_eq_true rfl) (fun p e s m args below meth c X hml hr hlk _ H locs hh ls hl => ?_)
  have hx := X.1
  have hb := X.2.1
  have hl : lv_has ls 6 [(0, .ref (B + t))] := hl
  unfold f_X8_spelled at hf
  refine lv_iconst (v := (0 : Int32)) hx hb dX8_spelled_0 (by decide) ?_
  refine lv_istore_n (lv' := [(1, .int (0 : Int32)), (0, .ref (B + t))]) hx hb dX8_spelled_1 rfl hl (by decide) rfl (fun ls hl => ?_)
  refine lv_iconst (v := (1 : Int32)) hx hb dX8_spelled_2 (by decide) ?_
  refine lv_istore_n (lv' := [(2, .int (1 : Int32)), (1, .int (0 : Int32)), (0, .ref (B + t))]) hx hb dX8_spelled_3 rfl hl (by decide) rfl (fun ls hl => ?_)
  refine wl2_W (P := fun (x1 : Int32) (x2 : Int32) => ∀ (H : Heap) (locs : List Loc) (ls : Array Slot), Hp B D 153 w s H locs → lv_has ls 6 [(0, .ref (B + t)), (1, .int x1), (2, .int x2)] → W p l e (rmk 1 21 0 0) s m args below meth c H locs 0 0 (MZ below B D 153 w (some (.int r)) args s 0 0) (F0 m 4 ls [])) hf (fun x1 x2 k3 ih4 hf  H locs ls hh hl => ?_)  _ _ _ hh (lv_sub hl [2, 1, 0] rfl)
  refine lv_iload_n hx hb dX8_spelled_4 rfl (lv_at hl 2 rfl) ?_
  refine lv_aload_n hx hb dX8_spelled_5 rfl (lv_at hl 0 rfl) ?_
  refine r_gi X hh ht fk_X8_9 dX8_spelled_6 ?_
  refine lv_icmp_gt (tgt := 82) hx hb dX8_spelled_9 (by decide) (fun hc5 => ?_) (fun hc5 => ?_)
  · have hf := if_t hc5 hf
    refine lv_iload_n hx hb dX8_spelled_82 rfl (lv_at hl 1 rfl) ?_
    exact e_i X hr hlk hh ⟨so_e hf, rfl⟩ dX8_spelled_83
  · have hf := if_f hc5 hf
    refine lv_iconst (v := (0 : Int32)) hx hb dX8_spelled_12 (by decide) ?_
    refine lv_istore_n (lv' := [(3, .int (0 : Int32)), (0, .ref (B + t)), (1, .int x1), (2, .int x2)]) hx hb dX8_spelled_13 rfl hl (by decide) rfl (fun ls hl => ?_)
    refine lv_iconst (v := (1 : Int32)) hx hb dX8_spelled_14 (by decide) ?_
    refine lv_istore (lv' := [(4, .int (1 : Int32)), (3, .int (0 : Int32)), (0, .ref (B + t)), (1, .int x1), (2, .int x2)]) hx hb dX8_spelled_15 hl (by decide) rfl (fun ls hl => ?_)
    refine wl2_W (P := fun (x6 : Int32) (x7 : Int32) => ∀ (H : Heap) (locs : List Loc) (ls : Array Slot), Hp B D 153 w s H locs → lv_has ls 6 [(0, .ref (B + t)), (1, .int x1), (2, .int x2), (3, .int x6), (4, .int x7)] → W p l e (rmk 1 21 0 0) s m args below meth c H locs 0 0 (MZ below B D 153 w (some (.int r)) args s 0 0) (F0 m 17 ls [])) hf (fun x6 x7 k8 ih9 hf  H locs ls hh hl => ?_)  _ _ _ hh (lv_sub hl [2, 3, 4, 1, 0] rfl)
    refine lv_iload hx hb dX8_spelled_17 (lv_at hl 4 rfl) ?_
    refine lv_aload_n hx hb dX8_spelled_19 rfl (lv_at hl 0 rfl) ?_
    refine r_gi X hh ht fk_X8_15 dX8_spelled_20 ?_
    refine lv_icmp_gt (tgt := 69) hx hb dX8_spelled_23 (by decide) (fun hc10 => ?_) (fun hc10 => ?_)
    · have hf := if_t hc10 hf
      refine lv_bipush (v := (10 : Int32)) hx hb dX8_spelled_69 (by decide) ?_
      refine lv_iload_n hx hb dX8_spelled_71 rfl (lv_at hl 1 rfl) ?_
      refine lv_imul hx hb dX8_spelled_72 ?_
      refine lv_iload_n hx hb dX8_spelled_73 rfl (lv_at hl 3 rfl) ?_
      refine lv_iadd hx hb dX8_spelled_74 ?_
      refine lv_topi (fun x11 e12 => ?_)
      have hf := lt_e e12 hf
      refine lv_istore_n (lv' := [(1, .int x11), (0, .ref (B + t)), (2, .int x2), (3, .int x6), (4, .int x7)]) hx hb dX8_spelled_75 rfl hl (by decide) rfl (fun ls hl => ?_)
      obtain ⟨x13, e14⟩ : ∃ y : Int32, y = (x2 + (1 : Int32)) := ⟨_, rfl⟩
      have hf := lt_e e14 hf
      refine lv_iinc (v := x13) (lv' := [(2, .int x13), (1, .int x11), (0, .ref (B + t)), (3, .int x6), (4, .int x7)]) hx hb dX8_spelled_76 hl (k := 2) rfl (by rw [e14]; rfl) (by decide) rfl (fun ls hl => ?_)
      refine lv_goto (tgt := 4) hx hb dX8_spelled_79 (by decide) ?_
      exact ih4 _ _ hf  _ _ _ hh (lv_sub hl [2, 1, 0] rfl)
    · have hf := if_f hc10 hf
      refine lv_aload_n hx hb dX8_spelled_26 rfl (lv_at hl 0 rfl) ?_
      refine q_gr (P := 9) X hh ht fk_X8_18 dX8_spelled_27 hf (fun t15 h16 hf => ?_)
      refine lv_iload_n hx hb dX8_spelled_30 rfl (lv_at hl 2 rfl) ?_
      refine lv_iload hx hb dX8_spelled_31 (lv_at hl 4 rfl) ?_
      obtain ⟨v18, hc17, hf⟩ := c1_e hf
      refine q_S (w' := w) (rest := [.ref (B + t15)]) X hml hh (some (.int v18)) (m_X8_at l B D hc17) cf_X8_at k_787 rfl hl.1 rfl (Nat.le_of_ble_eq_true rfl) ⟨Nat.le_of_ble_eq_true rfl, Nat.le_of_ble_eq_true rfl⟩ ⟨Nat.zero_le _, Nat.zero_le _⟩ dX8_spelled_33 rfl (fun H locs hh => ?_)
      refine q_ald X hh h16 dX8_spelled_36 hf (fun hf => ?_)
      refine lv_topi (fun x20 e21 => ?_)
      have hf := lt_e e21 hf
      refine lv_istore (lv' := [(5, .int x20), (0, .ref (B + t)), (1, .int x1), (2, .int x2), (3, .int x6), (4, .int x7)]) hx hb dX8_spelled_37 hl (by decide) rfl (fun ls hl => ?_)
      refine lv_iload hx hb dX8_spelled_39 (lv_at hl 0 rfl) ?_
      refine jn_W (P := fun j24 => ∀ (x23 : Int32), j24 x23 = some r → ∀ (H : Heap) (locs : List Loc) (ls : Array Slot), Hp B D 153 w s H locs → lv_has ls 6 [(0, .ref (B + t)), (1, .int x1), (2, .int x2), (3, .int x23), (4, .int x7)] → W p l e (rmk 1 21 0 0) s m args below meth c H locs 0 0 (MZ below B D 153 w (some (.int r)) args s 0 0) (F0 m 63 ls [])) hf (fun x23 hf  H locs ls hh hl => ?_) (fun j24 hj24 hf => ?_)
      · obtain ⟨x25, e26⟩ : ∃ y : Int32, y = (x7 + (1 : Int32)) := ⟨_, rfl⟩
        have hf := lt_e e26 hf
        refine lv_iinc (v := x25) (lv' := [(4, .int x25), (0, .ref (B + t)), (1, .int x1), (2, .int x2), (3, .int x23)]) hx hb dX8_spelled_63 hl (k := 4) rfl (by rw [e26]; rfl) (by decide) rfl (fun ls hl => ?_)
        refine lv_goto (tgt := 17) hx hb dX8_spelled_66 (by decide) ?_
        exact ih9 _ _ hf  _ _ _ hh (lv_sub hl [1, 2, 3, 4, 0] rfl)
      · refine lv_if_ne (tgt := 47) hx hb dX8_spelled_41 (by decide) (fun hc22 => ?_) (fun hc22 => ?_)
        · have hf := if_f hc22 hf
          refine lv_iload hx hb dX8_spelled_47 (lv_at hl 0 rfl) ?_
          refine lv_iconst (v := (1 : Int32)) hx hb dX8_spelled_49 (by decide) ?_
          refine lv_icmp_gt (tgt := 57) hx hb dX8_spelled_50 (by decide) (fun hc27 => ?_) (fun hc27 => ?_)
          · have hf := if_t hc27 hf
            refine lv_bipush (v := (-2 : Int32)) hx hb dX8_spelled_57 (by decide) ?_
            exact e_i X hr hlk hh ⟨so_e hf, rfl⟩ dX8_spelled_59
          · have hf := if_f hc27 hf
            refine lv_iload_n hx hb dX8_spelled_53 rfl (lv_at hl 4 rfl) ?_
            refine lv_if_le (tgt := 60) hx hb dX8_spelled_54 (by decide) (fun hc28 => ?_) (fun hc28 => ?_)
            · have hf := if_t hc28 hf
              refine lv_iload hx hb dX8_spelled_60 (lv_at hl 5 rfl) ?_
              refine lv_istore_n (lv' := [(3, .int x7), (5, .int x20), (0, .ref (B + t)), (1, .int x1), (2, .int x2), (4, .int x7)]) hx hb dX8_spelled_62 rfl hl (by decide) rfl (fun ls hl => ?_)
              exact hj24 _ hf  _ _ _ hh (lv_sub hl [2, 3, 4, 0, 5] rfl)
            · have hf := if_f hc28 hf
              refine lv_bipush (v := (-2 : Int32)) hx hb dX8_spelled_57 (by decide) ?_
              exact e_i X hr hlk hh ⟨so_e hf, rfl⟩ dX8_spelled_59
        · have hf := if_t hc22 hf
          refine lv_goto (tgt := 63) hx hb dX8_spelled_44 (by decide) ?_
          exact hj24 _ hf  _ _ _ hh (lv_sub hl [1, 2, 3, 4, 5] rfl)
set_option maxHeartbeats 4000000 in
set_option maxRecDepth 100000 in
theorem m_X8_turn (l : Launch) (B : Nat) (D : DD) {t : Nat} {a0 : Int32} {w : Wd} {r : Int32} {w' : Wd} (ht : t < 153 ∧ kd t = 8) (hf : f_X8_turn t a0 w = some (r, w')) : Ct l yX8_turn cX8_turn 5 (some .int) 2 44 0 0 B D [.ref (B + t), .int a0] 153 w (some (.int r)) 153 w' := by
  refine m_of (by decide) (Nat.le_of_ble_eq_true rfl) (fun p e s m args below meth c X hml hr hlk _ H locs hh ls hl => ?_)
  have hx := X.1
  have hb := X.2.1
  have hl : lv_has ls 5 [(0, .ref (B + t)), (1, .int a0)] := hl
  unfold f_X8_turn at hf
  refine lv_iload_n hx hb dX8_turn_0 rfl (lv_at hl 1 rfl) ?_
  refine lv_i2l hx hb dX8_turn_1 rfl ?_
  refine lv_lconst (v := (0 : Int64)) hx hb dX8_turn_2 (by decide) ?_
  refine lv_ldc2 hx hb X.2.2.1 (X.2.2.2.1 _ k_817) dX8_turn_3 ?_
  obtain ⟨v2, hc1, hf⟩ := c1_e hf
  refine q_S (w' := w) (rest := []) X hml hh (some (.int v2)) (m_X8_in l B D hc1) cf_X8_in k_767 rfl hl.1 rfl (Nat.le_of_ble_eq_true rfl) ⟨Nat.le_of_ble_eq_true rfl, Nat.le_of_ble_eq_true rfl⟩ ⟨Nat.zero_le _, Nat.zero_le _⟩ dX8_turn_6 rfl (fun H locs hh => ?_)
  refine lv_if_ne (tgt := 14) hx hb dX8_turn_9 (by decide) (fun hc3 => ?_) (fun hc3 => ?_)
  · have hf := if_f hc3 hf
    refine lv_aload_n hx hb dX8_turn_14 rfl (lv_at hl 0 rfl) ?_
    obtain ⟨w5, hc4, hf⟩ := c1_e hf
    refine q_V (w' := w5) (rest := []) X hml hh none (m_X8_does l B D ht hc4) cf_X8_does k_770 ht ci_8 rfl rfl hl.1 rfl (Nat.le_of_ble_eq_true rfl) ⟨Nat.le_of_ble_eq_true rfl, Nat.le_of_ble_eq_true rfl⟩ ⟨Nat.zero_le _, Nat.zero_le _⟩ dX8_turn_15 rfl (fun H locs hh => ?_)
    refine lv_iconst (v := (0 : Int32)) hx hb dX8_turn_18 (by decide) ?_
    refine lv_istore_n (lv' := [(2, .int (0 : Int32)), (0, .ref (B + t)), (1, .int a0)]) hx hb dX8_turn_19 rfl hl (by decide) rfl (fun ls hl => ?_)
    refine wl2_W (P := fun (x6 : Int32) (w7 : Wd) => ∀ (H : Heap) (locs : List Loc) (ls : Array Slot), Hp B D 153 w7 s H locs → lv_has ls 5 [(0, .ref (B + t)), (1, .int a0), (2, .int x6)] → W p l e (rmk 2 44 0 0) s m args below meth c H locs 0 0 (MZ below B D 153 w' (some (.int r)) args s 0 0) (F0 m 20 ls [])) hf (fun x6 w7 k8 ih9 hf  H locs ls hh hl => ?_)  _ _ _ hh (lv_sub hl [1, 2, 0] rfl)
    refine lv_iload_n hx hb dX8_turn_20 rfl (lv_at hl 2 rfl) ?_
    refine lv_bipush (v := (25 : Int32)) hx hb dX8_turn_21 (by decide) ?_
    refine lv_icmp_ge (tgt := 39) hx hb dX8_turn_23 (by decide) (fun hc10 => ?_) (fun hc10 => ?_)
    · have hf := if_t hc10 hf
      refine lv_iconst (v := (1 : Int32)) hx hb dX8_turn_39 (by decide) ?_
      refine lv_istore_n (lv' := [(2, .int (1 : Int32)), (0, .ref (B + t)), (1, .int a0)]) hx hb dX8_turn_40 rfl hl (by decide) rfl (fun ls hl => ?_)
      refine wl2_W (P := fun (x11 : Int32) (w12 : Wd) => ∀ (H : Heap) (locs : List Loc) (ls : Array Slot), Hp B D 153 w12 s H locs → lv_has ls 5 [(0, .ref (B + t)), (1, .int a0), (2, .int x11)] → W p l e (rmk 2 44 0 0) s m args below meth c H locs 0 0 (MZ below B D 153 w' (some (.int r)) args s 0 0) (F0 m 41 ls [])) hf (fun x11 w12 k13 ih14 hf  H locs ls hh hl => ?_)  _ _ _ hh (lv_sub hl [1, 2, 0] rfl)
      refine lv_iload_n hx hb dX8_turn_41 rfl (lv_at hl 2 rfl) ?_
      refine lv_aload_n hx hb dX8_turn_42 rfl (lv_at hl 0 rfl) ?_
      refine r_gi X hh ht fk_X8_9 dX8_turn_43 ?_
      refine lv_icmp_gt (tgt := 134) hx hb dX8_turn_46 (by decide) (fun hc15 => ?_) (fun hc15 => ?_)
      · have hf := if_t hc15 hf
        refine lv_iconst (v := (0 : Int32)) hx hb dX8_turn_134 (by decide) ?_
        refine lv_istore_n (lv' := [(2, .int (0 : Int32)), (0, .ref (B + t)), (1, .int a0)]) hx hb dX8_turn_135 rfl hl (by decide) rfl (fun ls hl => ?_)
        refine wl2_W (P := fun (x16 : Int32) (w17 : Wd) => ∀ (H : Heap) (locs : List Loc) (ls : Array Slot), Hp B D 153 w17 s H locs → lv_has ls 5 [(0, .ref (B + t)), (1, .int a0), (2, .int x16)] → W p l e (rmk 2 44 0 0) s m args below meth c H locs 0 0 (MZ below B D 153 w' (some (.int r)) args s 0 0) (F0 m 136 ls [])) hf (fun x16 w17 k18 ih19 hf  H locs ls hh hl => ?_)  _ _ _ hh (lv_sub hl [1, 2, 0] rfl)
        refine lv_iload_n hx hb dX8_turn_136 rfl (lv_at hl 2 rfl) ?_
        refine lv_bipush (v := (25 : Int32)) hx hb dX8_turn_137 (by decide) ?_
        refine lv_icmp_ge (tgt := 160) hx hb dX8_turn_139 (by decide) (fun hc20 => ?_) (fun hc20 => ?_)
        · have hf := if_t hc20 hf
          refine lv_iload_n hx hb dX8_turn_160 rfl (lv_at hl 1 rfl) ?_
          refine jn_W (P := fun j23 => ∀ (w22 : Wd), j23 w22 = some (r, w') → ∀ (H : Heap) (locs : List Loc) (ls : Array Slot), Hp B D 153 w22 s H locs → lv_has ls 5 [(0, .ref (B + t))] → W p l e (rmk 2 44 0 0) s m args below meth c H locs 0 0 (MZ below B D 153 w' (some (.int r)) args s 0 0) (F0 m 182 ls [])) hf (fun w22 hf  H locs ls hh hl => ?_) (fun j23 hj23 hf => ?_)
          · refine lv_aload_n hx hb dX8_turn_182 rfl (lv_at hl 0 rfl) ?_
            obtain ⟨v25, hc24, hf⟩ := c1_e hf
            refine q_V (w' := w22) (rest := []) X hml hh (some (.int v25)) (m_X8_filled l B D ht hc24) cf_X8_filled k_805 ht ci_8 rfl rfl hl.1 rfl (Nat.le_of_ble_eq_true rfl) ⟨Nat.le_of_ble_eq_true rfl, Nat.le_of_ble_eq_true rfl⟩ ⟨Nat.zero_le _, Nat.zero_le _⟩ dX8_turn_183 rfl (fun H locs hh => ?_)
            exact e_i X hr hlk hh (so2_e hf) dX8_turn_186
          · refine lv_if_ne (tgt := 182) hx hb dX8_turn_161 (by decide) (fun hc21 => ?_) (fun hc21 => ?_)
            · have hf := if_f hc21 hf
              exact hj23 _ hf  _ _ _ hh (lv_sub hl [0] rfl)
            · have hf := if_t hc21 hf
              refine lv_aload_n hx hb dX8_turn_164 rfl (lv_at hl 0 rfl) ?_
              refine r_gi X hh ht fk_X8_9 dX8_turn_165 ?_
              refine lv_topi (fun x26 e27 => ?_)
              have hf := lt_e e27 hf
              refine lv_istore_n (lv' := [(2, .int x26), (0, .ref (B + t)), (1, .int a0)]) hx hb dX8_turn_168 rfl hl (by decide) rfl (fun ls hl => ?_)
              refine lv_aload_n hx hb dX8_turn_169 rfl (lv_at hl 1 rfl) ?_
              refine lv_aload_n hx hb dX8_turn_170 rfl (lv_at hl 1 rfl) ?_
              refine r_gi X hh ht fk_X8_15 dX8_turn_171 ?_
              refine q_pi X hh ht fk_X8_9 pk_8_0 rfl rfl dX8_turn_174 hf (fun w28 H locs hf hh => ?_)
              refine lv_aload_n hx hb dX8_turn_177 rfl (lv_at hl 1 rfl) ?_
              refine lv_iload_n hx hb dX8_turn_178 rfl (lv_at hl 0 rfl) ?_
              refine q_pi X hh ht fk_X8_15 pk_8_1 rfl rfl dX8_turn_179 hf (fun w29 H locs hf hh => ?_)
              exact hj23 _ hf  _ _ _ hh (lv_sub hl [1] rfl)
        · have hf := if_f hc20 hf
          refine lv_aload_n hx hb dX8_turn_142 rfl (lv_at hl 0 rfl) ?_
          refine q_gr (P := 9) X hh ht fk_X8_18 dX8_turn_143 hf (fun t30 h31 hf => ?_)
          refine lv_iload_n hx hb dX8_turn_146 rfl (lv_at hl 2 rfl) ?_
          refine lv_aload_n hx hb dX8_turn_147 rfl (lv_at hl 0 rfl) ?_
          refine q_gr (P := 9) X hh ht fk_X8_28 dX8_turn_148 hf (fun t32 h33 hf => ?_)
          refine lv_iload_n hx hb dX8_turn_151 rfl (lv_at hl 2 rfl) ?_
          refine q_ald X hh h33 dX8_turn_152 hf (fun hf => ?_)
          refine q_ast X hh h31 dX8_turn_153 hf (fun w36 H locs hf hh => ?_)
          obtain ⟨x37, e38⟩ : ∃ y : Int32, y = (x16 + (1 : Int32)) := ⟨_, rfl⟩
          have hf := lt_e e38 hf
          refine lv_iinc (v := x37) (lv' := [(2, .int x37), (0, .ref (B + t)), (1, .int a0)]) hx hb dX8_turn_154 hl (k := 2) rfl (by rw [e38]; rfl) (by decide) rfl (fun ls hl => ?_)
          refine lv_goto (tgt := 136) hx hb dX8_turn_157 (by decide) ?_
          exact ih19 _ _ hf  _ _ _ hh (lv_sub hl [1, 2, 0] rfl)
      · have hf := if_f hc15 hf
        refine lv_iconst (v := (1 : Int32)) hx hb dX8_turn_49 (by decide) ?_
        refine lv_istore_n (lv' := [(3, .int (1 : Int32)), (0, .ref (B + t)), (1, .int a0), (2, .int x11)]) hx hb dX8_turn_50 rfl hl (by decide) rfl (fun ls hl => ?_)
        refine wl2_W (P := fun (x39 : Int32) (w40 : Wd) => ∀ (H : Heap) (locs : List Loc) (ls : Array Slot), Hp B D 153 w40 s H locs → lv_has ls 5 [(0, .ref (B + t)), (1, .int a0), (2, .int x11), (3, .int x39)] → W p l e (rmk 2 44 0 0) s m args below meth c H locs 0 0 (MZ below B D 153 w' (some (.int r)) args s 0 0) (F0 m 51 ls [])) hf (fun x39 w40 k41 ih42 hf  H locs ls hh hl => ?_)  _ _ _ hh (lv_sub hl [1, 2, 3, 0] rfl)
        refine lv_iload_n hx hb dX8_turn_51 rfl (lv_at hl 3 rfl) ?_
        refine lv_aload_n hx hb dX8_turn_52 rfl (lv_at hl 0 rfl) ?_
        refine r_gi X hh ht fk_X8_15 dX8_turn_53 ?_
        refine lv_icmp_gt (tgt := 128) hx hb dX8_turn_56 (by decide) (fun hc43 => ?_) (fun hc43 => ?_)
        · have hf := if_t hc43 hf
          obtain ⟨x44, e45⟩ : ∃ y : Int32, y = (x11 + (1 : Int32)) := ⟨_, rfl⟩
          have hf := lt_e e45 hf
          refine lv_iinc (v := x44) (lv' := [(2, .int x44), (0, .ref (B + t)), (1, .int a0), (3, .int x39)]) hx hb dX8_turn_128 hl (k := 2) rfl (by rw [e45]; rfl) (by decide) rfl (fun ls hl => ?_)
          refine lv_goto (tgt := 41) hx hb dX8_turn_131 (by decide) ?_
          exact ih14 _ _ hf  _ _ _ hh (lv_sub hl [1, 2, 0] rfl)
        · have hf := if_f hc43 hf
          refine lv_iload_n hx hb dX8_turn_59 rfl (lv_at hl 1 rfl) ?_
          refine jn_W (P := fun j48 => ∀ (x47 : Int32), j48 x47 = some (r, w') → ∀ (H : Heap) (locs : List Loc) (ls : Array Slot), Hp B D 153 w40 s H locs → lv_has ls 5 [(0, .ref (B + t)), (1, .int a0), (2, .int x11), (3, .int x39)] → W p l e (rmk 2 44 0 0) s m args below meth c H locs 0 0 (MZ below B D 153 w' (some (.int r)) args s 0 0) (F0 m 103 ls [.int x47])) hf (fun x47 hf  H locs ls hh hl => ?_) (fun j48 hj48 hf => ?_)
          · refine lv_istore (lv' := [(4, .int x47), (0, .ref (B + t)), (1, .int a0), (2, .int x11), (3, .int x39)]) hx hb dX8_turn_103 hl (by decide) rfl (fun ls hl => ?_)
            refine lv_aload_n hx hb dX8_turn_105 rfl (lv_at hl 1 rfl) ?_
            refine q_gr (P := 9) X hh ht fk_X8_28 dX8_turn_106 hf (fun t49 h50 hf => ?_)
            refine lv_iload hx hb dX8_turn_109 (lv_at hl 0 rfl) ?_
            refine lv_aload_n hx hb dX8_turn_111 rfl (lv_at hl 1 rfl) ?_
            refine q_gr (P := 9) X hh ht fk_X8_18 dX8_turn_112 hf (fun t51 h52 hf => ?_)
            refine lv_iload_n hx hb dX8_turn_115 rfl (lv_at hl 3 rfl) ?_
            refine lv_iload_n hx hb dX8_turn_116 rfl (lv_at hl 4 rfl) ?_
            obtain ⟨v54, hc53, hf⟩ := c1_e hf
            refine q_S (w' := w40) (rest := [.ref (B + t51), .int x47, .ref (B + t49)]) X hml hh (some (.int v54)) (m_X8_at l B D hc53) cf_X8_at k_787 rfl hl.1 rfl (Nat.le_of_ble_eq_true rfl) ⟨Nat.le_of_ble_eq_true rfl, Nat.le_of_ble_eq_true rfl⟩ ⟨Nat.zero_le _, Nat.zero_le _⟩ dX8_turn_117 rfl (fun H locs hh => ?_)
            refine q_ald X hh h52 dX8_turn_120 hf (fun hf => ?_)
            refine q_ast X hh h50 dX8_turn_121 hf (fun w57 H locs hf hh => ?_)
            obtain ⟨x58, e59⟩ : ∃ y : Int32, y = (x39 + (1 : Int32)) := ⟨_, rfl⟩
            have hf := lt_e e59 hf
            refine lv_iinc (v := x58) (lv' := [(3, .int x58), (4, .int x47), (0, .ref (B + t)), (1, .int a0), (2, .int x11)]) hx hb dX8_turn_122 hl (k := 4) rfl (by rw [e59]; rfl) (by decide) rfl (fun ls hl => ?_)
            refine lv_goto (tgt := 51) hx hb dX8_turn_125 (by decide) ?_
            exact ih42 _ _ hf  _ _ _ hh (lv_sub hl [2, 3, 4, 0] rfl)
          · refine lv_if_ne (tgt := 71) hx hb dX8_turn_60 (by decide) (fun hc46 => ?_) (fun hc46 => ?_)
            · have hf := if_f hc46 hf
              refine lv_iload_n hx hb dX8_turn_71 rfl (lv_at hl 1 rfl) ?_
              refine lv_iconst (v := (1 : Int32)) hx hb dX8_turn_72 (by decide) ?_
              refine lv_icmp_ne (tgt := 91) hx hb dX8_turn_73 (by decide) (fun hc60 => ?_) (fun hc60 => ?_)
              · have hf := if_f hc60 hf
                refine lv_iload_n hx hb dX8_turn_91 rfl (lv_at hl 2 rfl) ?_
                refine lv_aload_n hx hb dX8_turn_92 rfl (lv_at hl 0 rfl) ?_
                refine r_gi X hh ht fk_X8_15 dX8_turn_93 ?_
                refine lv_iconst (v := (1 : Int32)) hx hb dX8_turn_96 (by decide) ?_
                refine lv_iadd hx hb dX8_turn_97 ?_
                refine lv_iload_n hx hb dX8_turn_98 rfl (lv_at hl 3 rfl) ?_
                refine lv_isub hx hb dX8_turn_99 ?_
                obtain ⟨v62, hc61, hf⟩ := c1_e hf
                refine q_S (w' := w40) (rest := []) X hml hh (some (.int v62)) (m_X8_at l B D hc61) cf_X8_at k_787 rfl hl.1 rfl (Nat.le_of_ble_eq_true rfl) ⟨Nat.le_of_ble_eq_true rfl, Nat.le_of_ble_eq_true rfl⟩ ⟨Nat.zero_le _, Nat.zero_le _⟩ dX8_turn_100 rfl (fun H locs hh => ?_)
                exact hj48 _ hf  _ _ _ hh (lv_sub hl [0, 1, 2, 3] rfl)
              · have hf := if_t hc60 hf
                refine lv_aload_n hx hb dX8_turn_76 rfl (lv_at hl 0 rfl) ?_
                refine r_gi X hh ht fk_X8_9 dX8_turn_77 ?_
                refine lv_iconst (v := (1 : Int32)) hx hb dX8_turn_80 (by decide) ?_
                refine lv_iadd hx hb dX8_turn_81 ?_
                refine lv_iload_n hx hb dX8_turn_82 rfl (lv_at hl 2 rfl) ?_
                refine lv_isub hx hb dX8_turn_83 ?_
                refine lv_iload_n hx hb dX8_turn_84 rfl (lv_at hl 3 rfl) ?_
                obtain ⟨v64, hc63, hf⟩ := c1_e hf
                refine q_S (w' := w40) (rest := []) X hml hh (some (.int v64)) (m_X8_at l B D hc63) cf_X8_at k_787 rfl hl.1 rfl (Nat.le_of_ble_eq_true rfl) ⟨Nat.le_of_ble_eq_true rfl, Nat.le_of_ble_eq_true rfl⟩ ⟨Nat.zero_le _, Nat.zero_le _⟩ dX8_turn_85 rfl (fun H locs hh => ?_)
                refine lv_goto (tgt := 103) hx hb dX8_turn_88 (by decide) ?_
                exact hj48 _ hf  _ _ _ hh (lv_sub hl [0, 1, 2, 3] rfl)
            · have hf := if_t hc46 hf
              refine lv_iload_n hx hb dX8_turn_63 rfl (lv_at hl 3 rfl) ?_
              refine lv_iload_n hx hb dX8_turn_64 rfl (lv_at hl 2 rfl) ?_
              obtain ⟨v66, hc65, hf⟩ := c1_e hf
              refine q_S (w' := w40) (rest := []) X hml hh (some (.int v66)) (m_X8_at l B D hc65) cf_X8_at k_787 rfl hl.1 rfl (Nat.le_of_ble_eq_true rfl) ⟨Nat.le_of_ble_eq_true rfl, Nat.le_of_ble_eq_true rfl⟩ ⟨Nat.zero_le _, Nat.zero_le _⟩ dX8_turn_65 rfl (fun H locs hh => ?_)
              refine lv_goto (tgt := 103) hx hb dX8_turn_68 (by decide) ?_
              exact hj48 _ hf  _ _ _ hh (lv_sub hl [0, 1, 2, 3] rfl)
    · have hf := if_f hc10 hf
      refine lv_aload_n hx hb dX8_turn_26 rfl (lv_at hl 0 rfl) ?_
      refine q_gr (P := 9) X hh ht fk_X8_28 dX8_turn_27 hf (fun t67 h68 hf => ?_)
      refine lv_iload_n hx hb dX8_turn_30 rfl (lv_at hl 2 rfl) ?_
      refine lv_iconst (v := (0 : Int32)) hx hb dX8_turn_31 (by decide) ?_
      refine q_ast X hh h68 dX8_turn_32 hf (fun w70 H locs hf hh => ?_)
      obtain ⟨x71, e72⟩ : ∃ y : Int32, y = (x6 + (1 : Int32)) := ⟨_, rfl⟩
      have hf := lt_e e72 hf
      refine lv_iinc (v := x71) (lv' := [(2, .int x71), (0, .ref (B + t)), (1, .int a0)]) hx hb dX8_turn_33 hl (k := 2) rfl (by rw [e72]; rfl) (by decide) rfl (fun ls hl => ?_)
      refine lv_goto (tgt := 20) hx hb dX8_turn_36 (by decide) ?_
      exact ih9 _ _ hf  _ _ _ hh (lv_sub hl [1, 2, 0] rfl)
  · have hf := if_t hc3 hf
    refine lv_iconst (v := (-1 : Int32)) hx hb dX8_turn_12 (by decide) ?_
    exact e_i X hr hlk hh (so2_e hf) dX8_turn_13
set_option maxHeartbeats 4000000 in
set_option maxRecDepth 100000 in
theorem m_X8_from (l : Launch) (B : Nat) (D : DD) {a0 : Int32} {a1 : Int32} {w : Wd} {r : Int32} (hf : f_X8_from a0 a1 = some r) : Ct l yX8_from cX8_from 2 (some .int) 0 0 0 0 B D [.int a0, .int a1] 153 w (some (.int r)) 153 w := by
  refine m_of (by decide) (Nat.le_of_ble_eq_true rfl) (fun p e s m args below meth c X hml hr hlk _ H locs hh ls hl => ?_)
  have hx := X.1
  have hb := X.2.1
  have hl : lv_has ls 2 [(0, .int a0), (1, .int a1)] := hl
  unfold f_X8_from at hf
  refine lv_bipush (v := (80 : Int32)) hx hb dX8_from_0 (by decide) ?_
  refine lv_bipush (v := (6 : Int32)) hx hb dX8_from_2 (by decide) ?_
  refine lv_iload_n hx hb dX8_from_4 rfl (lv_at hl 0 rfl) ?_
  refine lv_imul hx hb dX8_from_5 ?_
  refine lv_iload_n hx hb dX8_from_6 rfl (lv_at hl 1 rfl) ?_
  refine lv_iadd hx hb dX8_from_7 ?_
  refine lv_imul hx hb dX8_from_8 ?_
  exact e_i X hr hlk hh ⟨so_e hf, rfl⟩ dX8_from_9
set_option maxHeartbeats 4000000 in
set_option maxRecDepth 100000 in
theorem m_X8_grows (l : Launch) (B : Nat) (D : DD) {t : Nat} {a0 : Int32} {a1 : Int32} {w : Wd} {w' : Wd} (ht : t < 153 ∧ kd t = 8) (hf : f_X8_grows t a0 a1 w = some w') : Ct l yX8_grows cX8_grows 18 none 1 21 0 0 B D [.ref (B + t), .int a0, .int a1] 153 w none 153 w' := by
  refine m_of (by decide) (Nat.le_of_ble_eq_true rfl) (fun p e s m args below meth c X hml hr hlk _ H locs hh ls hl => ?_)
  have hx := X.1
  have hb := X.2.1
  have hl : lv_has ls 18 [(0, .ref (B + t)), (1, .int a0), (2, .int a1)] := hl
  unfold f_X8_grows at hf
  refine lv_iload_n hx hb dX8_grows_0 rfl (lv_at hl 1 rfl) ?_
  refine lv_iload_n hx hb dX8_grows_1 rfl (lv_at hl 2 rfl) ?_
  obtain ⟨v2, hc1, hf⟩ := c1_e hf
  refine q_S (w' := w) (rest := []) X hml hh (some (.int v2)) (m_X8_from l B D hc1) cf_X8_from k_835 rfl hl.1 rfl (Nat.le_of_ble_eq_true rfl) ⟨Nat.le_of_ble_eq_true rfl, Nat.le_of_ble_eq_true rfl⟩ ⟨Nat.zero_le _, Nat.zero_le _⟩ dX8_grows_2 rfl (fun H locs hh => ?_)
  refine lv_istore_n (lv' := [(3, .int v2), (0, .ref (B + t)), (1, .int a0), (2, .int a1)]) hx hb dX8_grows_5 rfl hl (by decide) rfl (fun ls hl => ?_)
  refine lv_iload_n hx hb dX8_grows_6 rfl (lv_at hl 2 rfl) ?_
  refine lv_iconst (v := (1 : Int32)) hx hb dX8_grows_7 (by decide) ?_
  refine lv_isub hx hb dX8_grows_8 ?_
  refine lv_iload_n hx hb dX8_grows_9 rfl (lv_at hl 3 rfl) ?_
  refine lv_iconst (v := (1 : Int32)) hx hb dX8_grows_10 (by decide) ?_
  refine lv_isub hx hb dX8_grows_11 ?_
  obtain ⟨v4, hc3, hf⟩ := c1_e hf
  refine q_S (w' := w) (rest := []) X hml hh (some (.int v4)) (m_X8_from l B D hc3) cf_X8_from k_835 rfl hl.1 rfl (Nat.le_of_ble_eq_true rfl) ⟨Nat.le_of_ble_eq_true rfl, Nat.le_of_ble_eq_true rfl⟩ ⟨Nat.zero_le _, Nat.zero_le _⟩ dX8_grows_12 rfl (fun H locs hh => ?_)
  refine lv_istore (lv' := [(4, .int v4), (3, .int v2), (0, .ref (B + t)), (1, .int a0), (2, .int a1)]) hx hb dX8_grows_15 hl (by decide) rfl (fun ls hl => ?_)
  refine lv_iload_n hx hb dX8_grows_17 rfl (lv_at hl 3 rfl) ?_
  refine lv_iconst (v := (1 : Int32)) hx hb dX8_grows_18 (by decide) ?_
  refine lv_isub hx hb dX8_grows_19 ?_
  refine lv_iload_n hx hb dX8_grows_20 rfl (lv_at hl 4 rfl) ?_
  obtain ⟨v6, hc5, hf⟩ := c1_e hf
  refine q_S (w' := w) (rest := []) X hml hh (some (.int v6)) (m_X8_from l B D hc5) cf_X8_from k_835 rfl hl.1 rfl (Nat.le_of_ble_eq_true rfl) ⟨Nat.le_of_ble_eq_true rfl, Nat.le_of_ble_eq_true rfl⟩ ⟨Nat.zero_le _, Nat.zero_le _⟩ dX8_grows_21 rfl (fun H locs hh => ?_)
  refine lv_istore (lv' := [(5, .int v6), (4, .int v4), (3, .int v2), (0, .ref (B + t)), (1, .int a0), (2, .int a1)]) hx hb dX8_grows_24 hl (by decide) rfl (fun ls hl => ?_)
  refine lv_iload_n hx hb dX8_grows_26 rfl (lv_at hl 4 rfl) ?_
  refine lv_iload_n hx hb dX8_grows_27 rfl (lv_at hl 5 rfl) ?_
  refine lv_iconst (v := (1 : Int32)) hx hb dX8_grows_28 (by decide) ?_
  refine lv_isub hx hb dX8_grows_29 ?_
  obtain ⟨v8, hc7, hf⟩ := c1_e hf
  refine q_S (w' := w) (rest := []) X hml hh (some (.int v8)) (m_X8_from l B D hc7) cf_X8_from k_835 rfl hl.1 rfl (Nat.le_of_ble_eq_true rfl) ⟨Nat.le_of_ble_eq_true rfl, Nat.le_of_ble_eq_true rfl⟩ ⟨Nat.zero_le _, Nat.zero_le _⟩ dX8_grows_30 rfl (fun H locs hh => ?_)
  refine lv_istore (lv' := [(6, .int v8), (5, .int v6), (4, .int v4), (3, .int v2), (0, .ref (B + t)), (1, .int a0), (2, .int a1)]) hx hb dX8_grows_33 hl (by decide) rfl (fun ls hl => ?_)
  refine lv_aload_n hx hb dX8_grows_35 rfl (lv_at hl 4 rfl) ?_
  refine q_gr (P := 9) X hh ht fk_X8_18 dX8_grows_36 hf (fun t9 h10 hf => ?_)
  refine lv_iload_n hx hb dX8_grows_39 rfl (lv_at hl 5 rfl) ?_
  refine lv_iload_n hx hb dX8_grows_40 rfl (lv_at hl 6 rfl) ?_
  obtain ⟨v12, hc11, hf⟩ := c1_e hf
  refine q_S (w' := w) (rest := [.ref (B + t9)]) X hml hh (some (.int v12)) (m_X8_at l B D hc11) cf_X8_at k_787 rfl hl.1 rfl (Nat.le_of_ble_eq_true rfl) ⟨Nat.le_of_ble_eq_true rfl, Nat.le_of_ble_eq_true rfl⟩ ⟨Nat.zero_le _, Nat.zero_le _⟩ dX8_grows_41 rfl (fun H locs hh => ?_)
  refine q_ald X hh h10 dX8_grows_44 hf (fun hf => ?_)
  refine lv_topi (fun x14 e15 => ?_)
  have hf := lt_e e15 hf
  refine lv_istore (lv' := [(7, .int x14), (6, .int v8), (5, .int v6), (4, .int v4), (3, .int v2), (0, .ref (B + t)), (1, .int a0), (2, .int a1)]) hx hb dX8_grows_45 hl (by decide) rfl (fun ls hl => ?_)
  refine lv_aload_n hx hb dX8_grows_47 rfl (lv_at hl 5 rfl) ?_
  refine r_gi X hh ht fk_X8_62 dX8_grows_48 ?_
  refine lv_iconst (v := (1 : Int32)) hx hb dX8_grows_51 (by decide) ?_
  refine mg_W (P := fun (x20 : Int32) => ∀ (ls : Array Slot), lv_has ls 18 [(0, .ref (B + t)), (3, .int v2), (4, .int v4), (5, .int v6), (6, .int v8)] → W p l e (rmk 1 21 0 0) s m args below meth c H locs 0 0 (MZ below B D 153 w' none args s 0 0) (F0 m 75 ls [.int x20])) hf (fun x20 hf ls hl => ?_) (fun hj104 => ?_)
  · refine lv_istore (lv' := [(7, .int x20), (0, .ref (B + t)), (3, .int v2), (4, .int v4), (5, .int v6), (6, .int v8)]) hx hb dX8_grows_75 hl (by decide) rfl (fun ls hl => ?_)
    refine lv_iconst (v := (1 : Int32)) hx hb dX8_grows_77 (by decide) ?_
    refine lv_istore (lv' := [(8, .int (1 : Int32)), (7, .int x20), (0, .ref (B + t)), (3, .int v2), (4, .int v4), (5, .int v6), (6, .int v8)]) hx hb dX8_grows_78 hl (by decide) rfl (fun ls hl => ?_)
    refine lv_iconst (v := (0 : Int32)) hx hb dX8_grows_80 (by decide) ?_
    refine lv_istore (lv' := [(9, .int (0 : Int32)), (8, .int (1 : Int32)), (7, .int x20), (0, .ref (B + t)), (3, .int v2), (4, .int v4), (5, .int v6), (6, .int v8)]) hx hb dX8_grows_81 hl (by decide) rfl (fun ls hl => ?_)
    refine wl4_W (P := fun (x21 : Int32) (x22 : Int32) (x23 : Int32) (w24 : Wd) => ∀ (H : Heap) (locs : List Loc) (ls : Array Slot), Hp B D 153 w24 s H locs → lv_has ls 18 [(0, .ref (B + t)), (3, .int v2), (4, .int v4), (5, .int v6), (6, .int v8), (7, .int x21), (8, .int x22), (9, .int x23)] → W p l e (rmk 1 21 0 0) s m args below meth c H locs 0 0 (MZ below B D 153 w' none args s 0 0) (F0 m 83 ls [])) hf (fun x21 x22 x23 w24 k25 ih26 hf  H locs ls hh hl => ?_)  _ _ _ hh (lv_sub hl [3, 4, 5, 6, 7, 2, 1, 0] rfl)
    refine lv_iload hx hb dX8_grows_83 (lv_at hl 7 rfl) ?_
    refine lv_bipush (v := (80 : Int32)) hx hb dX8_grows_85 (by decide) ?_
    refine lv_icmp_ge (tgt := 402) hx hb dX8_grows_87 (by decide) (fun hc27 => ?_) (fun hc27 => ?_)
    · have hf := if_t hc27 hf
      exact e_v X hr hlk hh ⟨rfl, so_e hf⟩ dX8_grows_402
    · have hf := if_f hc27 hf
      refine lv_aload_n hx hb dX8_grows_90 rfl (lv_at hl 0 rfl) ?_
      refine q_gr (P := 9) X hh ht fk_X8_31 dX8_grows_91 hf (fun t28 h29 hf => ?_)
      refine lv_iload_n hx hb dX8_grows_94 rfl (lv_at hl 1 rfl) ?_
      refine lv_iload hx hb dX8_grows_95 (lv_at hl 7 rfl) ?_
      refine lv_iadd hx hb dX8_grows_97 ?_
      refine lv_iconst (v := (0 : Int32)) hx hb dX8_grows_98 (by decide) ?_
      refine q_ast X hh h29 dX8_grows_99 hf (fun w31 H locs hf hh => ?_)
      refine lv_iload hx hb dX8_grows_100 (lv_at hl 6 rfl) ?_
      refine jn_W (P := fun j36 => ∀ (x33 : Int32) (x34 : Int32) (w35 : Wd), j36 x33 x34 w35 = some w' → ∀ (H : Heap) (locs : List Loc) (ls : Array Slot), Hp B D 153 w35 s H locs → lv_has ls 18 [(0, .ref (B + t)), (3, .int v2), (4, .int v4), (5, .int v6), (6, .int v8), (7, .int x33), (8, .int x34), (9, .int x23)] → W p l e (rmk 1 21 0 0) s m args below meth c H locs 0 0 (MZ below B D 153 w' none args s 0 0) (F0 m 396 ls [])) hf (fun x33 x34 w35 hf  H locs ls hh hl => ?_) (fun j36 hj36 hf => ?_)
      · obtain ⟨x37, e38⟩ : ∃ y : Int32, y = (x23 + (1 : Int32)) := ⟨_, rfl⟩
        have hf := lt_e e38 hf
        refine lv_iinc (v := x37) (lv' := [(9, .int x37), (0, .ref (B + t)), (3, .int v2), (4, .int v4), (5, .int v6), (6, .int v8), (7, .int x33), (8, .int x34)]) hx hb dX8_grows_396 hl (k := 7) rfl (by rw [e38]; rfl) (by decide) rfl (fun ls hl => ?_)
        refine lv_goto (tgt := 83) hx hb dX8_grows_399 (by decide) ?_
        exact ih26 _ _ _ _ hf  _ _ _ hh (lv_sub hl [1, 2, 3, 4, 5, 6, 7, 0] rfl)
      · refine lv_if_ne (tgt := 108) hx hb dX8_grows_102 (by decide) (fun hc32 => ?_) (fun hc32 => ?_)
        · have hf := if_f hc32 hf
          refine lv_aload_n hx hb dX8_grows_108 rfl (lv_at hl 0 rfl) ?_
          refine q_gr (P := 9) X hh ht fk_X8_31 dX8_grows_109 hf (fun t39 h40 hf => ?_)
          refine lv_iload hx hb dX8_grows_112 (lv_at hl 2 rfl) ?_
          refine lv_iload hx hb dX8_grows_114 (lv_at hl 7 rfl) ?_
          refine lv_iadd hx hb dX8_grows_116 ?_
          refine q_ald X hh h40 dX8_grows_117 hf (fun hf => ?_)
          refine lv_topi (fun x42 e43 => ?_)
          have hf := lt_e e43 hf
          refine lv_istore (lv' := [(10, .int x42), (0, .ref (B + t)), (3, .int v2), (4, .int v4), (5, .int v6), (6, .int v8), (7, .int x21), (8, .int x22), (9, .int x23)]) hx hb dX8_grows_118 hl (by decide) rfl (fun ls hl => ?_)
          refine lv_aload_n hx hb dX8_grows_120 rfl (lv_at hl 1 rfl) ?_
          refine q_gr (P := 9) X hh ht fk_X8_31 dX8_grows_121 hf (fun t44 h45 hf => ?_)
          refine lv_iload hx hb dX8_grows_124 (lv_at hl 4 rfl) ?_
          refine lv_iload hx hb dX8_grows_126 (lv_at hl 8 rfl) ?_
          refine lv_iadd hx hb dX8_grows_128 ?_
          refine q_ald X hh h45 dX8_grows_129 hf (fun hf => ?_)
          refine lv_topi (fun x47 e48 => ?_)
          have hf := lt_e e48 hf
          refine lv_istore (lv' := [(11, .int x47), (10, .int x42), (0, .ref (B + t)), (3, .int v2), (4, .int v4), (5, .int v6), (6, .int v8), (7, .int x21), (8, .int x22), (9, .int x23)]) hx hb dX8_grows_130 hl (by decide) rfl (fun ls hl => ?_)
          refine lv_aload_n hx hb dX8_grows_132 rfl (lv_at hl 2 rfl) ?_
          refine q_gr (P := 9) X hh ht fk_X8_31 dX8_grows_133 hf (fun t49 h50 hf => ?_)
          refine lv_iload hx hb dX8_grows_136 (lv_at hl 6 rfl) ?_
          refine lv_iload hx hb dX8_grows_138 (lv_at hl 9 rfl) ?_
          refine lv_iadd hx hb dX8_grows_140 ?_
          refine q_ald X hh h50 dX8_grows_141 hf (fun hf => ?_)
          refine lv_topi (fun x52 e53 => ?_)
          have hf := lt_e e53 hf
          refine lv_istore (lv' := [(12, .int x52), (11, .int x47), (10, .int x42), (0, .ref (B + t)), (3, .int v2), (4, .int v4), (5, .int v6), (6, .int v8), (7, .int x21), (8, .int x22), (9, .int x23)]) hx hb dX8_grows_142 hl (by decide) rfl (fun ls hl => ?_)
          refine lv_iload hx hb dX8_grows_144 (lv_at hl 1 rfl) ?_
          refine lv_iload hx hb dX8_grows_146 (lv_at hl 0 rfl) ?_
          refine mg_W (P := fun (x55 : Int32) => ∀ (ls : Array Slot), lv_has ls 18 [(0, .ref (B + t)), (3, .int v2), (4, .int v4), (5, .int v6), (6, .int v8), (7, .int x21), (9, .int x23), (10, .int x42), (11, .int x47), (12, .int x52)] → W p l e (rmk 1 21 0 0) s m args below meth c H locs 0 0 (MZ below B D 153 w' none args s 0 0) (F0 m 158 ls [.int x55])) hf (fun x55 hf ls hl => ?_) (fun hj103 => ?_)
          · refine lv_istore (lv' := [(13, .int x55), (0, .ref (B + t)), (3, .int v2), (4, .int v4), (5, .int v6), (6, .int v8), (7, .int x21), (9, .int x23), (10, .int x42), (11, .int x47), (12, .int x52)]) hx hb dX8_grows_158 hl (by decide) rfl (fun ls hl => ?_)
            refine lv_iload hx hb dX8_grows_160 (lv_at hl 9 rfl) ?_
            refine lv_iload hx hb dX8_grows_162 (lv_at hl 10 rfl) ?_
            refine mg_W (P := fun (x57 : Int32) => ∀ (ls : Array Slot), lv_has ls 18 [(0, .ref (B + t)), (3, .int v2), (4, .int v4), (5, .int v6), (6, .int v8), (7, .int x21), (9, .int x23), (10, .int x42), (11, .int x47), (12, .int x52), (13, .int x55)] → W p l e (rmk 1 21 0 0) s m args below meth c H locs 0 0 (MZ below B D 153 w' none args s 0 0) (F0 m 174 ls [.int x57])) hf (fun x57 hf ls hl => ?_) (fun hj102 => ?_)
            · refine lv_istore (lv' := [(14, .int x57), (0, .ref (B + t)), (3, .int v2), (4, .int v4), (5, .int v6), (6, .int v8), (7, .int x21), (9, .int x23), (10, .int x42), (11, .int x47), (12, .int x52), (13, .int x55)]) hx hb dX8_grows_174 hl (by decide) rfl (fun ls hl => ?_)
              refine lv_aload_n hx hb dX8_grows_176 rfl (lv_at hl 1 rfl) ?_
              refine r_gi X hh ht fk_X8_62 dX8_grows_177 ?_
              refine jn_W (P := fun j61 => ∀ (x59 : Int32) (x60 : Int32), j61 x59 x60 = some w' → ∀ (H : Heap) (locs : List Loc) (ls : Array Slot), Hp B D 153 w31 s H locs → lv_has ls 18 [(0, .ref (B + t)), (3, .int v2), (4, .int v4), (5, .int v6), (6, .int v8), (7, .int x59), (9, .int x23), (15, .int x60)] → W p l e (rmk 1 21 0 0) s m args below meth c H locs 0 0 (MZ below B D 153 w' none args s 0 0) (F0 m 373 ls [])) hf (fun x59 x60 hf  H locs ls hh hl => ?_) (fun j61 hj61 hf => ?_)
              · refine lv_aload_n hx hb dX8_grows_373 rfl (lv_at hl 0 rfl) ?_
                refine q_gr (P := 9) X hh ht fk_X8_31 dX8_grows_374 hf (fun t62 h63 hf => ?_)
                refine lv_iload_n hx hb dX8_grows_377 rfl (lv_at hl 1 rfl) ?_
                refine lv_iload hx hb dX8_grows_378 (lv_at hl 6 rfl) ?_
                refine lv_iadd hx hb dX8_grows_380 ?_
                refine lv_iload hx hb dX8_grows_381 (lv_at hl 7 rfl) ?_
                refine q_ast X hh h63 dX8_grows_383 hf (fun w65 H locs hf hh => ?_)
                refine lv_iload hx hb dX8_grows_384 (lv_at hl 7 rfl) ?_
                refine mg_W (P := fun (x67 : Int32) => ∀ (ls : Array Slot), lv_has ls 18 [(0, .ref (B + t)), (3, .int v2), (4, .int v4), (5, .int v6), (6, .int v8), (7, .int x59), (9, .int x23)] → W p l e (rmk 1 21 0 0) s m args below meth c H locs 0 0 (MZ below B D 153 w' none args s 0 0) (F0 m 394 ls [.int x67])) hf (fun x67 hf ls hl => ?_) (fun hj68 => ?_)
                · refine lv_istore (lv' := [(8, .int x67), (0, .ref (B + t)), (3, .int v2), (4, .int v4), (5, .int v6), (6, .int v8), (7, .int x59), (9, .int x23)]) hx hb dX8_grows_394 hl (by decide) rfl (fun ls hl => ?_)
                  exact hj36 _ _ _ hf  _ _ _ hh (lv_sub hl [1, 2, 3, 4, 5, 6, 0, 7] rfl)
                · refine lv_if_eq (tgt := 393) hx hb dX8_grows_386 (by decide) (fun hc66 => ?_) (fun hc66 => ?_)
                  · refine lv_iconst (v := (0 : Int32)) hx hb dX8_grows_393 (by decide) ?_
                    exact hj68 _ (by rw [if_pos hc66]) ls (lv_sub hl [0, 1, 2, 3, 4, 5, 6] rfl)
                  · refine lv_iconst (v := (1 : Int32)) hx hb dX8_grows_389 (by decide) ?_
                    refine lv_goto (tgt := 394) hx hb dX8_grows_390 (by decide) ?_
                    exact hj68 _ (by rw [if_neg hc66]) ls (lv_sub hl [0, 1, 2, 3, 4, 5, 6] rfl)
              · refine lv_if_ne (tgt := 200) hx hb dX8_grows_180 (by decide) (fun hc58 => ?_) (fun hc58 => ?_)
                · have hf := if_f hc58 hf
                  refine lv_aload_n hx hb dX8_grows_200 rfl (lv_at hl 1 rfl) ?_
                  refine r_gi X hh ht fk_X8_62 dX8_grows_201 ?_
                  refine lv_iconst (v := (1 : Int32)) hx hb dX8_grows_204 (by decide) ?_
                  refine lv_icmp_ne (tgt := 258) hx hb dX8_grows_205 (by decide) (fun hc69 => ?_) (fun hc69 => ?_)
                  · have hf := if_f hc69 hf
                    refine lv_aload_n hx hb dX8_grows_258 rfl (lv_at hl 1 rfl) ?_
                    refine r_gi X hh ht fk_X8_62 dX8_grows_259 ?_
                    refine lv_iconst (v := (2 : Int32)) hx hb dX8_grows_262 (by decide) ?_
                    refine lv_icmp_ne (tgt := 316) hx hb dX8_grows_263 (by decide) (fun hc70 => ?_) (fun hc70 => ?_)
                    · have hf := if_f hc70 hf
                      refine lv_iload hx hb dX8_grows_316 (lv_at hl 8 rfl) ?_
                      refine lv_iload hx hb dX8_grows_318 (lv_at hl 9 rfl) ?_
                      refine mg_W (P := fun (x73 : Int32) => ∀ (ls : Array Slot), lv_has ls 18 [(0, .ref (B + t)), (3, .int v2), (4, .int v4), (5, .int v6), (6, .int v8), (7, .int x21), (9, .int x23), (10, .int x42), (13, .int x55), (14, .int x57)] → W p l e (rmk 1 21 0 0) s m args below meth c H locs 0 0 (MZ below B D 153 w' none args s 0 0) (F0 m 335 ls [.int x73])) hf (fun x73 hf ls hl => ?_) (fun hj81 => ?_)
                      · refine lv_istore (lv' := [(16, .int x73), (0, .ref (B + t)), (3, .int v2), (4, .int v4), (5, .int v6), (6, .int v8), (7, .int x21), (9, .int x23), (10, .int x42), (13, .int x55), (14, .int x57)]) hx hb dX8_grows_335 hl (by decide) rfl (fun ls hl => ?_)
                        refine lv_iload hx hb dX8_grows_337 (lv_at hl 6 rfl) ?_
                        refine lv_iload hx hb dX8_grows_339 (lv_at hl 0 rfl) ?_
                        refine mg_W (P := fun (x75 : Int32) => ∀ (ls : Array Slot), lv_has ls 18 [(0, .ref (B + t)), (3, .int v2), (4, .int v4), (5, .int v6), (6, .int v8), (7, .int x21), (9, .int x23), (10, .int x42), (13, .int x55), (14, .int x57)] → W p l e (rmk 1 21 0 0) s m args below meth c H locs 0 0 (MZ below B D 153 w' none args s 0 0) (F0 m 351 ls [.int x75])) hf (fun x75 hf ls hl => ?_) (fun hj80 => ?_)
                        · refine lv_istore (lv' := [(17, .int x75), (0, .ref (B + t)), (3, .int v2), (4, .int v4), (5, .int v6), (6, .int v8), (7, .int x21), (9, .int x23), (10, .int x42), (13, .int x55), (14, .int x57)]) hx hb dX8_grows_351 hl (by decide) rfl (fun ls hl => ?_)
                          refine lv_iload hx hb dX8_grows_353 (lv_at hl 9 rfl) ?_
                          refine lv_iload hx hb dX8_grows_355 (lv_at hl 0 rfl) ?_
                          refine lv_iadd hx hb dX8_grows_357 ?_
                          refine lv_topi (fun x76 e77 => ?_)
                          have hf := lt_e e77 hf
                          refine lv_istore (lv' := [(15, .int x76), (17, .int x75), (0, .ref (B + t)), (3, .int v2), (4, .int v4), (5, .int v6), (6, .int v8), (7, .int x21), (9, .int x23), (10, .int x42), (13, .int x55), (14, .int x57)]) hx hb dX8_grows_358 hl (by decide) rfl (fun ls hl => ?_)
                          refine lv_iload hx hb dX8_grows_360 (lv_at hl 7 rfl) ?_
                          refine lv_iload hx hb dX8_grows_362 (lv_at hl 1 rfl) ?_
                          refine lv_isub hx hb dX8_grows_364 ?_
                          refine lv_iload hx hb dX8_grows_365 (lv_at hl 11 rfl) ?_
                          refine lv_iadd hx hb dX8_grows_367 ?_
                          refine lv_iload hx hb dX8_grows_368 (lv_at hl 9 rfl) ?_
                          refine lv_isub hx hb dX8_grows_370 ?_
                          refine lv_topi (fun x78 e79 => ?_)
                          have hf := lt_e e79 hf
                          refine lv_istore (lv' := [(7, .int x78), (15, .int x76), (17, .int x75), (0, .ref (B + t)), (3, .int v2), (4, .int v4), (5, .int v6), (6, .int v8), (9, .int x23), (10, .int x42), (13, .int x55), (14, .int x57)]) hx hb dX8_grows_371 hl (by decide) rfl (fun ls hl => ?_)
                          exact hj61 _ _ hf  _ _ _ hh (lv_sub hl [3, 4, 5, 6, 7, 0, 8, 1] rfl)
                        · refine lv_icmp_ge (tgt := 349) hx hb dX8_grows_341 (by decide) (fun hc74 => ?_) (fun hc74 => ?_)
                          · refine lv_iload hx hb dX8_grows_349 (lv_at hl 0 rfl) ?_
                            exact hj80 _ (by rw [if_pos hc74]) ls (lv_sub hl [1, 2, 3, 4, 5, 6, 7, 8, 9, 10] rfl)
                          · refine lv_iload hx hb dX8_grows_344 (lv_at hl 6 rfl) ?_
                            refine lv_goto (tgt := 351) hx hb dX8_grows_346 (by decide) ?_
                            exact hj80 _ (by rw [if_neg hc74]) ls (lv_sub hl [1, 2, 3, 4, 5, 6, 7, 8, 9, 10] rfl)
                      · refine lv_icmp_ne (tgt := 334) hx hb dX8_grows_320 (by decide) (fun hc71 => ?_) (fun hc71 => ?_)
                        · refine lv_iconst (v := (0 : Int32)) hx hb dX8_grows_334 (by decide) ?_
                          exact hj81 _ (by rw [if_neg hc71]) ls (lv_sub hl [1, 2, 3, 4, 5, 6, 7, 8, 11, 0] rfl)
                        · refine lv_iload hx hb dX8_grows_323 (lv_at hl 9 rfl) ?_
                          refine lv_iload hx hb dX8_grows_325 (lv_at hl 10 rfl) ?_
                          refine lv_icmp_ne (tgt := 334) hx hb dX8_grows_327 (by decide) (fun hc72 => ?_) (fun hc72 => ?_)
                          · refine lv_iconst (v := (0 : Int32)) hx hb dX8_grows_334 (by decide) ?_
                            exact hj81 _ (by rw [if_pos hc71, if_neg hc72]) ls (lv_sub hl [1, 2, 3, 4, 5, 6, 7, 8, 11, 0] rfl)
                          · refine lv_iconst (v := (1 : Int32)) hx hb dX8_grows_330 (by decide) ?_
                            refine lv_goto (tgt := 335) hx hb dX8_grows_331 (by decide) ?_
                            exact hj81 _ (by rw [if_pos hc71, if_pos hc72]) ls (lv_sub hl [1, 2, 3, 4, 5, 6, 7, 8, 11, 0] rfl)
                    · have hf := if_t hc70 hf
                      refine lv_iload hx hb dX8_grows_266 (lv_at hl 10 rfl) ?_
                      refine lv_iload hx hb dX8_grows_268 (lv_at hl 6 rfl) ?_
                      refine lv_iadd hx hb dX8_grows_270 ?_
                      refine lv_iload hx hb dX8_grows_271 (lv_at hl 9 rfl) ?_
                      refine mg_W (P := fun (x83 : Int32) => ∀ (ls : Array Slot), lv_has ls 18 [(0, .ref (B + t)), (3, .int v2), (4, .int v4), (5, .int v6), (6, .int v8), (7, .int x21), (9, .int x23), (10, .int x42), (11, .int x47), (12, .int x52)] → W p l e (rmk 1 21 0 0) s m args below meth c H locs 0 0 (MZ below B D 153 w' none args s 0 0) (F0 m 286 ls [.int x83])) hf (fun x83 hf ls hl => ?_) (fun hj89 => ?_)
                      · refine lv_istore (lv' := [(15, .int x83), (0, .ref (B + t)), (3, .int v2), (4, .int v4), (5, .int v6), (6, .int v8), (7, .int x21), (9, .int x23), (10, .int x42), (11, .int x47), (12, .int x52)]) hx hb dX8_grows_286 hl (by decide) rfl (fun ls hl => ?_)
                        refine lv_iload hx hb dX8_grows_288 (lv_at hl 10 rfl) ?_
                        refine lv_iload hx hb dX8_grows_290 (lv_at hl 6 rfl) ?_
                        refine lv_iadd hx hb dX8_grows_292 ?_
                        refine lv_iload hx hb dX8_grows_293 (lv_at hl 9 rfl) ?_
                        refine mg_W (P := fun (x85 : Int32) => ∀ (ls : Array Slot), lv_has ls 18 [(0, .ref (B + t)), (3, .int v2), (4, .int v4), (5, .int v6), (6, .int v8), (9, .int x23), (10, .int x42), (15, .int x83)] → W p l e (rmk 1 21 0 0) s m args below meth c H locs 0 0 (MZ below B D 153 w' none args s 0 0) (F0 m 308 ls [.int x85])) hf (fun x85 hf ls hl => ?_) (fun hj88 => ?_)
                        · refine lv_iload hx hb dX8_grows_308 (lv_at hl 6 rfl) ?_
                          refine lv_isub hx hb dX8_grows_310 ?_
                          refine lv_topi (fun x86 e87 => ?_)
                          have hf := lt_e e87 hf
                          refine lv_istore (lv' := [(7, .int x86), (0, .ref (B + t)), (3, .int v2), (4, .int v4), (5, .int v6), (6, .int v8), (9, .int x23), (10, .int x42), (15, .int x83)]) hx hb dX8_grows_311 hl (by decide) rfl (fun ls hl => ?_)
                          refine lv_goto (tgt := 373) hx hb dX8_grows_313 (by decide) ?_
                          exact hj61 _ _ hf  _ _ _ hh (lv_sub hl [1, 2, 3, 4, 5, 0, 6, 8] rfl)
                        · refine lv_icmp_ge (tgt := 306) hx hb dX8_grows_295 (by decide) (fun hc84 => ?_) (fun hc84 => ?_)
                          · refine lv_iload hx hb dX8_grows_306 (lv_at hl 9 rfl) ?_
                            exact hj88 _ (by rw [if_pos hc84]) ls (lv_sub hl [1, 2, 3, 4, 5, 7, 8, 0] rfl)
                          · refine lv_iload hx hb dX8_grows_298 (lv_at hl 10 rfl) ?_
                            refine lv_iload hx hb dX8_grows_300 (lv_at hl 6 rfl) ?_
                            refine lv_iadd hx hb dX8_grows_302 ?_
                            refine lv_goto (tgt := 308) hx hb dX8_grows_303 (by decide) ?_
                            exact hj88 _ (by rw [if_neg hc84]) ls (lv_sub hl [1, 2, 3, 4, 5, 7, 8, 0] rfl)
                      · refine lv_icmp_le (tgt := 284) hx hb dX8_grows_273 (by decide) (fun hc82 => ?_) (fun hc82 => ?_)
                        · refine lv_iload hx hb dX8_grows_284 (lv_at hl 9 rfl) ?_
                          exact hj89 _ (by rw [if_pos hc82]) ls (lv_sub hl [1, 2, 3, 4, 5, 6, 7, 8, 9, 10] rfl)
                        · refine lv_iload hx hb dX8_grows_276 (lv_at hl 10 rfl) ?_
                          refine lv_iload hx hb dX8_grows_278 (lv_at hl 6 rfl) ?_
                          refine lv_iadd hx hb dX8_grows_280 ?_
                          refine lv_goto (tgt := 286) hx hb dX8_grows_281 (by decide) ?_
                          exact hj89 _ (by rw [if_neg hc82]) ls (lv_sub hl [1, 2, 3, 4, 5, 6, 7, 8, 9, 10] rfl)
                  · have hf := if_t hc69 hf
                    refine lv_iload hx hb dX8_grows_208 (lv_at hl 9 rfl) ?_
                    refine lv_iload hx hb dX8_grows_210 (lv_at hl 6 rfl) ?_
                    refine lv_iadd hx hb dX8_grows_212 ?_
                    refine lv_iload hx hb dX8_grows_213 (lv_at hl 10 rfl) ?_
                    refine mg_W (P := fun (x91 : Int32) => ∀ (ls : Array Slot), lv_has ls 18 [(0, .ref (B + t)), (3, .int v2), (4, .int v4), (5, .int v6), (6, .int v8), (7, .int x21), (9, .int x23), (10, .int x42), (11, .int x47), (12, .int x52)] → W p l e (rmk 1 21 0 0) s m args below meth c H locs 0 0 (MZ below B D 153 w' none args s 0 0) (F0 m 228 ls [.int x91])) hf (fun x91 hf ls hl => ?_) (fun hj97 => ?_)
                    · refine lv_istore (lv' := [(15, .int x91), (0, .ref (B + t)), (3, .int v2), (4, .int v4), (5, .int v6), (6, .int v8), (7, .int x21), (9, .int x23), (10, .int x42), (11, .int x47), (12, .int x52)]) hx hb dX8_grows_228 hl (by decide) rfl (fun ls hl => ?_)
                      refine lv_iload hx hb dX8_grows_230 (lv_at hl 9 rfl) ?_
                      refine lv_iload hx hb dX8_grows_232 (lv_at hl 6 rfl) ?_
                      refine lv_iadd hx hb dX8_grows_234 ?_
                      refine lv_iload hx hb dX8_grows_235 (lv_at hl 10 rfl) ?_
                      refine mg_W (P := fun (x93 : Int32) => ∀ (ls : Array Slot), lv_has ls 18 [(0, .ref (B + t)), (3, .int v2), (4, .int v4), (5, .int v6), (6, .int v8), (9, .int x23), (10, .int x42), (15, .int x91)] → W p l e (rmk 1 21 0 0) s m args below meth c H locs 0 0 (MZ below B D 153 w' none args s 0 0) (F0 m 250 ls [.int x93])) hf (fun x93 hf ls hl => ?_) (fun hj96 => ?_)
                      · refine lv_iload hx hb dX8_grows_250 (lv_at hl 6 rfl) ?_
                        refine lv_isub hx hb dX8_grows_252 ?_
                        refine lv_topi (fun x94 e95 => ?_)
                        have hf := lt_e e95 hf
                        refine lv_istore (lv' := [(7, .int x94), (0, .ref (B + t)), (3, .int v2), (4, .int v4), (5, .int v6), (6, .int v8), (9, .int x23), (10, .int x42), (15, .int x91)]) hx hb dX8_grows_253 hl (by decide) rfl (fun ls hl => ?_)
                        refine lv_goto (tgt := 373) hx hb dX8_grows_255 (by decide) ?_
                        exact hj61 _ _ hf  _ _ _ hh (lv_sub hl [1, 2, 3, 4, 5, 0, 6, 8] rfl)
                      · refine lv_icmp_ge (tgt := 248) hx hb dX8_grows_237 (by decide) (fun hc92 => ?_) (fun hc92 => ?_)
                        · refine lv_iload hx hb dX8_grows_248 (lv_at hl 10 rfl) ?_
                          exact hj96 _ (by rw [if_pos hc92]) ls (lv_sub hl [1, 2, 3, 4, 5, 7, 8, 0] rfl)
                        · refine lv_iload hx hb dX8_grows_240 (lv_at hl 9 rfl) ?_
                          refine lv_iload hx hb dX8_grows_242 (lv_at hl 6 rfl) ?_
                          refine lv_iadd hx hb dX8_grows_244 ?_
                          refine lv_goto (tgt := 250) hx hb dX8_grows_245 (by decide) ?_
                          exact hj96 _ (by rw [if_neg hc92]) ls (lv_sub hl [1, 2, 3, 4, 5, 7, 8, 0] rfl)
                    · refine lv_icmp_le (tgt := 226) hx hb dX8_grows_215 (by decide) (fun hc90 => ?_) (fun hc90 => ?_)
                      · refine lv_iload hx hb dX8_grows_226 (lv_at hl 10 rfl) ?_
                        exact hj97 _ (by rw [if_pos hc90]) ls (lv_sub hl [1, 2, 3, 4, 5, 6, 7, 8, 9, 10] rfl)
                      · refine lv_iload hx hb dX8_grows_218 (lv_at hl 9 rfl) ?_
                        refine lv_iload hx hb dX8_grows_220 (lv_at hl 6 rfl) ?_
                        refine lv_iadd hx hb dX8_grows_222 ?_
                        refine lv_goto (tgt := 228) hx hb dX8_grows_223 (by decide) ?_
                        exact hj97 _ (by rw [if_neg hc90]) ls (lv_sub hl [1, 2, 3, 4, 5, 6, 7, 8, 9, 10] rfl)
                · have hf := if_t hc58 hf
                  refine lv_iload hx hb dX8_grows_183 (lv_at hl 11 rfl) ?_
                  refine lv_iload hx hb dX8_grows_185 (lv_at hl 6 rfl) ?_
                  refine lv_iadd hx hb dX8_grows_187 ?_
                  refine lv_topi (fun x98 e99 => ?_)
                  have hf := lt_e e99 hf
                  refine lv_istore (lv' := [(15, .int x98), (14, .int x57), (0, .ref (B + t)), (3, .int v2), (4, .int v4), (5, .int v6), (6, .int v8), (7, .int x21), (9, .int x23), (10, .int x42), (11, .int x47), (12, .int x52), (13, .int x55)]) hx hb dX8_grows_188 hl (by decide) rfl (fun ls hl => ?_)
                  refine lv_iload hx hb dX8_grows_190 (lv_at hl 1 rfl) ?_
                  refine lv_iload hx hb dX8_grows_192 (lv_at hl 9 rfl) ?_
                  refine lv_isub hx hb dX8_grows_194 ?_
                  refine lv_topi (fun x100 e101 => ?_)
                  have hf := lt_e e101 hf
                  refine lv_istore (lv' := [(7, .int x100), (15, .int x98), (14, .int x57), (0, .ref (B + t)), (3, .int v2), (4, .int v4), (5, .int v6), (6, .int v8), (9, .int x23), (10, .int x42), (11, .int x47), (12, .int x52), (13, .int x55)]) hx hb dX8_grows_195 hl (by decide) rfl (fun ls hl => ?_)
                  refine lv_goto (tgt := 373) hx hb dX8_grows_197 (by decide) ?_
                  exact hj61 _ _ hf  _ _ _ hh (lv_sub hl [3, 4, 5, 6, 7, 0, 8, 1] rfl)
            · refine lv_icmp_ge (tgt := 172) hx hb dX8_grows_164 (by decide) (fun hc56 => ?_) (fun hc56 => ?_)
              · refine lv_iload hx hb dX8_grows_172 (lv_at hl 10 rfl) ?_
                exact hj102 _ (by rw [if_pos hc56]) ls (lv_sub hl [1, 2, 3, 4, 5, 6, 7, 8, 9, 10, 0] rfl)
              · refine lv_iload hx hb dX8_grows_167 (lv_at hl 9 rfl) ?_
                refine lv_goto (tgt := 174) hx hb dX8_grows_169 (by decide) ?_
                exact hj102 _ (by rw [if_neg hc56]) ls (lv_sub hl [1, 2, 3, 4, 5, 6, 7, 8, 9, 10, 0] rfl)
          · refine lv_icmp_le (tgt := 156) hx hb dX8_grows_148 (by decide) (fun hc54 => ?_) (fun hc54 => ?_)
            · refine lv_iload hx hb dX8_grows_156 (lv_at hl 0 rfl) ?_
              exact hj103 _ (by rw [if_pos hc54]) ls (lv_sub hl [3, 4, 5, 6, 7, 8, 10, 2, 1, 0] rfl)
            · refine lv_iload hx hb dX8_grows_151 (lv_at hl 1 rfl) ?_
              refine lv_goto (tgt := 158) hx hb dX8_grows_153 (by decide) ?_
              exact hj103 _ (by rw [if_neg hc54]) ls (lv_sub hl [3, 4, 5, 6, 7, 8, 10, 2, 1, 0] rfl)
        · have hf := if_t hc32 hf
          refine lv_goto (tgt := 396) hx hb dX8_grows_105 (by decide) ?_
          exact hj36 _ _ _ hf  _ _ _ hh (lv_sub hl [0, 1, 2, 3, 4, 5, 6, 7] rfl)
  · refine lv_icmp_eq (tgt := 63) hx hb dX8_grows_52 (by decide) (fun hc16 => ?_) (fun hc16 => ?_)
    · refine lv_iload hx hb dX8_grows_63 (lv_at hl 0 rfl) ?_
      refine lv_iconst (v := (1 : Int32)) hx hb dX8_grows_65 (by decide) ?_
      refine lv_icmp_le (tgt := 73) hx hb dX8_grows_66 (by decide) (fun hc17 => ?_) (fun hc17 => ?_)
      · refine lv_iload hx hb dX8_grows_73 (lv_at hl 0 rfl) ?_
        exact hj104 _ (by rw [if_pos hc16, if_pos hc17]) ls (lv_sub hl [5, 4, 3, 2, 1] rfl)
      · refine lv_iconst (v := (1 : Int32)) hx hb dX8_grows_69 (by decide) ?_
        refine lv_goto (tgt := 75) hx hb dX8_grows_70 (by decide) ?_
        exact hj104 _ (by rw [if_pos hc16, if_neg hc17]) ls (lv_sub hl [5, 4, 3, 2, 1] rfl)
    · refine lv_aload_n hx hb dX8_grows_55 rfl (lv_at hl 5 rfl) ?_
      refine r_gi X hh ht fk_X8_62 dX8_grows_56 ?_
      refine lv_iconst (v := (2 : Int32)) hx hb dX8_grows_59 (by decide) ?_
      refine lv_icmp_ne (tgt := 73) hx hb dX8_grows_60 (by decide) (fun hc18 => ?_) (fun hc18 => ?_)
      · refine lv_iload hx hb dX8_grows_73 (lv_at hl 0 rfl) ?_
        exact hj104 _ (by rw [if_neg hc16, if_neg hc18]) ls (lv_sub hl [5, 4, 3, 2, 1] rfl)
      · refine lv_iload hx hb dX8_grows_63 (lv_at hl 0 rfl) ?_
        refine lv_iconst (v := (1 : Int32)) hx hb dX8_grows_65 (by decide) ?_
        refine lv_icmp_le (tgt := 73) hx hb dX8_grows_66 (by decide) (fun hc19 => ?_) (fun hc19 => ?_)
        · refine lv_iload hx hb dX8_grows_73 (lv_at hl 0 rfl) ?_
          exact hj104 _ (by rw [if_neg hc16, if_pos hc18, if_pos hc19]) ls (lv_sub hl [5, 4, 3, 2, 1] rfl)
        · refine lv_iconst (v := (1 : Int32)) hx hb dX8_grows_69 (by decide) ?_
          refine lv_goto (tgt := 75) hx hb dX8_grows_70 (by decide) ?_
          exact hj104 _ (by rw [if_neg hc16, if_pos hc18, if_neg hc19]) ls (lv_sub hl [5, 4, 3, 2, 1] rfl)
set_option maxHeartbeats 4000000 in
set_option maxRecDepth 100000 in
theorem m_X8_growsAll (l : Launch) (B : Nat) (D : DD) {t : Nat} {w : Wd} {w' : Wd} (ht : t < 153 ∧ kd t = 8) (hf : f_X8_growsAll t w = some w') : Ct l yX8_growsAll cX8_growsAll 4 none 2 58 0 0 B D [.ref (B + t)] 153 w none 153 w' := by
  refine m_of (by decide) (Nat.le_of_ble_eq_true rfl) (fun p e s m args below meth c X hml hr hlk _ H locs hh ls hl => ?_)
  have hx := X.1
  have hb := X.2.1
  have hl : lv_has ls 4 [(0, .ref (B + t))] := hl
  unfold f_X8_growsAll at hf
  refine lv_iconst (v := (0 : Int32)) hx hb dX8_growsAll_0 (by decide) ?_
  refine lv_istore_n (lv' := [(1, .int (0 : Int32)), (0, .ref (B + t))]) hx hb dX8_growsAll_1 rfl hl (by decide) rfl (fun ls hl => ?_)
  refine wl2_W (P := fun (x1 : Int32) (w2 : Wd) => ∀ (H : Heap) (locs : List Loc) (ls : Array Slot), Hp B D 153 w2 s H locs → lv_has ls 4 [(0, .ref (B + t)), (1, .int x1)] → W p l e (rmk 2 58 0 0) s m args below meth c H locs 0 0 (MZ below B D 153 w' none args s 0 0) (F0 m 2 ls [])) hf (fun x1 w2 k3 ih4 hf  H locs ls hh hl => ?_)  _ _ _ hh (lv_sub hl [1, 0] rfl)
  refine lv_iload_n hx hb dX8_growsAll_2 rfl (lv_at hl 1 rfl) ?_
  refine lv_aload_n hx hb dX8_growsAll_3 rfl (lv_at hl 0 rfl) ?_
  refine r_gi X hh ht fk_X8_9 dX8_growsAll_4 ?_
  refine lv_icmp_gt (tgt := 76) hx hb dX8_growsAll_7 (by decide) (fun hc5 => ?_) (fun hc5 => ?_)
  · have hf := if_t hc5 hf
    exact e_v X hr hlk hh ⟨rfl, so_e hf⟩ dX8_growsAll_76
  · have hf := if_f hc5 hf
    refine lv_iconst (v := (0 : Int32)) hx hb dX8_growsAll_10 (by decide) ?_
    refine lv_istore_n (lv' := [(2, .int (0 : Int32)), (0, .ref (B + t)), (1, .int x1)]) hx hb dX8_growsAll_11 rfl hl (by decide) rfl (fun ls hl => ?_)
    refine wl2_W (P := fun (x6 : Int32) (w7 : Wd) => ∀ (H : Heap) (locs : List Loc) (ls : Array Slot), Hp B D 153 w7 s H locs → lv_has ls 4 [(0, .ref (B + t)), (1, .int x1), (2, .int x6)] → W p l e (rmk 2 58 0 0) s m args below meth c H locs 0 0 (MZ below B D 153 w' none args s 0 0) (F0 m 12 ls [])) hf (fun x6 w7 k8 ih9 hf  H locs ls hh hl => ?_)  _ _ _ hh (lv_sub hl [1, 2, 0] rfl)
    refine lv_iload_n hx hb dX8_growsAll_12 rfl (lv_at hl 2 rfl) ?_
    refine lv_aload_n hx hb dX8_growsAll_13 rfl (lv_at hl 0 rfl) ?_
    refine r_gi X hh ht fk_X8_15 dX8_growsAll_14 ?_
    refine lv_icmp_gt (tgt := 70) hx hb dX8_growsAll_17 (by decide) (fun hc10 => ?_) (fun hc10 => ?_)
    · have hf := if_t hc10 hf
      obtain ⟨x11, e12⟩ : ∃ y : Int32, y = (x1 + (1 : Int32)) := ⟨_, rfl⟩
      have hf := lt_e e12 hf
      refine lv_iinc (v := x11) (lv' := [(1, .int x11), (0, .ref (B + t)), (2, .int x6)]) hx hb dX8_growsAll_70 hl (k := 1) rfl (by rw [e12]; rfl) (by decide) rfl (fun ls hl => ?_)
      refine lv_goto (tgt := 2) hx hb dX8_growsAll_73 (by decide) ?_
      exact ih4 _ _ hf  _ _ _ hh (lv_sub hl [1, 0] rfl)
    · have hf := if_f hc10 hf
      refine lv_iload_n hx hb dX8_growsAll_20 rfl (lv_at hl 1 rfl) ?_
      refine jn_W (P := fun j15 => ∀ (w14 : Wd), j15 w14 = some w' → ∀ (H : Heap) (locs : List Loc) (ls : Array Slot), Hp B D 153 w14 s H locs → lv_has ls 4 [(0, .ref (B + t)), (1, .int x1), (2, .int x6)] → W p l e (rmk 2 58 0 0) s m args below meth c H locs 0 0 (MZ below B D 153 w' none args s 0 0) (F0 m 64 ls [])) hf (fun w14 hf  H locs ls hh hl => ?_) (fun j15 hj15 hf => ?_)
      · obtain ⟨x16, e17⟩ : ∃ y : Int32, y = (x6 + (1 : Int32)) := ⟨_, rfl⟩
        have hf := lt_e e17 hf
        refine lv_iinc (v := x16) (lv' := [(2, .int x16), (0, .ref (B + t)), (1, .int x1)]) hx hb dX8_growsAll_64 hl (k := 2) rfl (by rw [e17]; rfl) (by decide) rfl (fun ls hl => ?_)
        refine lv_goto (tgt := 12) hx hb dX8_growsAll_67 (by decide) ?_
        exact ih9 _ _ hf  _ _ _ hh (lv_sub hl [1, 2, 0] rfl)
      · refine jn_W (P := fun j18 => j18 = some w' → ∀ (H : Heap) (locs : List Loc) (ls : Array Slot), Hp B D 153 w7 s H locs → lv_has ls 4 [(0, .ref (B + t)), (1, .int x1), (2, .int x6)] → W p l e (rmk 2 58 0 0) s m args below meth c H locs 0 0 (MZ below B D 153 w' none args s 0 0) (F0 m 37 ls [])) hf (fun  hf  H locs ls hh hl => ?_) (fun j18 hj18 hf => ?_)
        · refine lv_iconst (v := (0 : Int32)) hx hb dX8_growsAll_37 (by decide) ?_
          refine lv_istore_n (lv' := [(3, .int (0 : Int32)), (0, .ref (B + t)), (1, .int x1), (2, .int x6)]) hx hb dX8_growsAll_38 rfl hl (by decide) rfl (fun ls hl => ?_)
          refine wl2_W (P := fun (x19 : Int32) (w20 : Wd) => ∀ (H : Heap) (locs : List Loc) (ls : Array Slot), Hp B D 153 w20 s H locs → lv_has ls 4 [(0, .ref (B + t)), (1, .int x1), (2, .int x6), (3, .int x19)] → W p l e (rmk 2 58 0 0) s m args below meth c H locs 0 0 (MZ below B D 153 w' none args s 0 0) (F0 m 39 ls [])) hf (fun x19 w20 k21 ih22 hf  H locs ls hh hl => ?_)  _ _ _ hh (lv_sub hl [1, 2, 3, 0] rfl)
          refine lv_iload_n hx hb dX8_growsAll_39 rfl (lv_at hl 3 rfl) ?_
          refine lv_bipush (v := (80 : Int32)) hx hb dX8_growsAll_40 (by decide) ?_
          refine lv_icmp_ge (tgt := 64) hx hb dX8_growsAll_42 (by decide) (fun hc23 => ?_) (fun hc23 => ?_)
          · have hf := if_t hc23 hf
            exact hj15 _ hf  _ _ _ hh (lv_sub hl [0, 1, 2] rfl)
          · have hf := if_f hc23 hf
            refine lv_aload_n hx hb dX8_growsAll_45 rfl (lv_at hl 0 rfl) ?_
            refine q_gr (P := 9) X hh ht fk_X8_31 dX8_growsAll_46 hf (fun t24 h25 hf => ?_)
            refine lv_iload_n hx hb dX8_growsAll_49 rfl (lv_at hl 1 rfl) ?_
            refine lv_iload_n hx hb dX8_growsAll_50 rfl (lv_at hl 2 rfl) ?_
            obtain ⟨v27, hc26, hf⟩ := c1_e hf
            refine q_S (w' := w20) (rest := [.ref (B + t24)]) X hml hh (some (.int v27)) (m_X8_from l B D hc26) cf_X8_from k_835 rfl hl.1 rfl (Nat.le_of_ble_eq_true rfl) ⟨Nat.le_of_ble_eq_true rfl, Nat.le_of_ble_eq_true rfl⟩ ⟨Nat.zero_le _, Nat.zero_le _⟩ dX8_growsAll_51 rfl (fun H locs hh => ?_)
            refine lv_iload_n hx hb dX8_growsAll_54 rfl (lv_at hl 3 rfl) ?_
            refine lv_iadd hx hb dX8_growsAll_55 ?_
            refine lv_iconst (v := (0 : Int32)) hx hb dX8_growsAll_56 (by decide) ?_
            refine q_ast X hh h25 dX8_growsAll_57 hf (fun w29 H locs hf hh => ?_)
            obtain ⟨x30, e31⟩ : ∃ y : Int32, y = (x19 + (1 : Int32)) := ⟨_, rfl⟩
            have hf := lt_e e31 hf
            refine lv_iinc (v := x30) (lv' := [(3, .int x30), (0, .ref (B + t)), (1, .int x1), (2, .int x6)]) hx hb dX8_growsAll_58 hl (k := 3) rfl (by rw [e31]; rfl) (by decide) rfl (fun ls hl => ?_)
            refine lv_goto (tgt := 39) hx hb dX8_growsAll_61 (by decide) ?_
            exact ih22 _ _ hf  _ _ _ hh (lv_sub hl [1, 2, 3, 0] rfl)
        · refine lv_if_le (tgt := 37) hx hb dX8_growsAll_21 (by decide) (fun hc13 => ?_) (fun hc13 => ?_)
          · have hf := if_t hc13 hf
            exact hj18  hf  _ _ _ hh (lv_sub hl [0, 1, 2] rfl)
          · have hf := if_f hc13 hf
            refine lv_iload_n hx hb dX8_growsAll_24 rfl (lv_at hl 2 rfl) ?_
            refine lv_if_le (tgt := 37) hx hb dX8_growsAll_25 (by decide) (fun hc32 => ?_) (fun hc32 => ?_)
            · have hf := if_t hc32 hf
              exact hj18  hf  _ _ _ hh (lv_sub hl [0, 1, 2] rfl)
            · have hf := if_f hc32 hf
              refine lv_aload_n hx hb dX8_growsAll_28 rfl (lv_at hl 0 rfl) ?_
              refine lv_iload_n hx hb dX8_growsAll_29 rfl (lv_at hl 1 rfl) ?_
              refine lv_iload_n hx hb dX8_growsAll_30 rfl (lv_at hl 2 rfl) ?_
              obtain ⟨w34, hc33, hf⟩ := c1_e hf
              refine q_V (w' := w34) (rest := []) X hml hh none (m_X8_grows l B D ht hc33) cf_X8_grows k_831 ht ci_8 rfl rfl hl.1 rfl (Nat.le_of_ble_eq_true rfl) ⟨Nat.le_of_ble_eq_true rfl, Nat.le_of_ble_eq_true rfl⟩ ⟨Nat.zero_le _, Nat.zero_le _⟩ dX8_growsAll_31 rfl (fun H locs hh => ?_)
              refine lv_goto (tgt := 64) hx hb dX8_growsAll_34 (by decide) ?_
              exact hj15 _ hf  _ _ _ hh (lv_sub hl [0, 1, 2] rfl)
set_option maxHeartbeats 4000000 in
set_option maxRecDepth 100000 in
theorem m_X8_partOf (l : Launch) (B : Nat) (D : DD) {t : Nat} {a0 : Int32} {a1 : Int32} {a2 : Int32} {w : Wd} {r : Int32} (ht : t < 153 ∧ kd t = 8) (hf : f_X8_partOf t a0 a1 a2 w = some r) : Ct l yX8_partOf cX8_partOf 4 (some .int) 1 21 0 0 B D [.ref (B + t), .int a0, .int a1, .int a2] 153 w (some (.int r)) 153 w := by
  refine m_of (by decide) (Nat.le_of_ble_eq_true rfl) (fun p e s m args below meth c X hml hr hlk _ H locs hh ls hl => ?_)
  have hx := X.1
  have hb := X.2.1
  have hl : lv_has ls 4 [(0, .ref (B + t)), (1, .int a0), (2, .int a1), (3, .int a2)] := hl
  unfold f_X8_partOf at hf
  refine lv_iload_n hx hb dX8_partOf_0 rfl (lv_at hl 3 rfl) ?_
  refine lv_bipush (v := (80 : Int32)) hx hb dX8_partOf_1 (by decide) ?_
  refine lv_icmp_ge (tgt := 21) hx hb dX8_partOf_3 (by decide) (fun hc1 => ?_) (fun hc1 => ?_)
  · have hf := if_t hc1 hf
    refine lv_iconst (v := (0 : Int32)) hx hb dX8_partOf_21 (by decide) ?_
    exact e_i X hr hlk hh ⟨so_e hf, rfl⟩ dX8_partOf_22
  · have hf := if_f hc1 hf
    refine lv_aload_n hx hb dX8_partOf_6 rfl (lv_at hl 0 rfl) ?_
    refine q_gr (P := 9) X hh ht fk_X8_31 dX8_partOf_7 hf (fun t2 h3 hf => ?_)
    refine lv_iload_n hx hb dX8_partOf_10 rfl (lv_at hl 1 rfl) ?_
    refine lv_iload_n hx hb dX8_partOf_11 rfl (lv_at hl 2 rfl) ?_
    obtain ⟨v5, hc4, hf⟩ := c1_e hf
    refine q_S (w' := w) (rest := [.ref (B + t2)]) X hml hh (some (.int v5)) (m_X8_from l B D hc4) cf_X8_from k_835 rfl hl.1 rfl (Nat.le_of_ble_eq_true rfl) ⟨Nat.le_of_ble_eq_true rfl, Nat.le_of_ble_eq_true rfl⟩ ⟨Nat.zero_le _, Nat.zero_le _⟩ dX8_partOf_12 rfl (fun H locs hh => ?_)
    refine lv_iload_n hx hb dX8_partOf_15 rfl (lv_at hl 3 rfl) ?_
    refine lv_iadd hx hb dX8_partOf_16 ?_
    refine q_ald X hh h3 dX8_partOf_17 hf (fun hf => ?_)
    refine lv_topi (fun x7 e8 => ?_)
    have hf := lt_e e8 hf
    refine lv_goto (tgt := 22) hx hb dX8_partOf_18 (by decide) ?_
    exact e_i X hr hlk hh ⟨so_e hf, rfl⟩ dX8_partOf_22
set_option maxHeartbeats 4000000 in
set_option maxRecDepth 100000 in
theorem m_X8_sizeOf (l : Launch) (B : Nat) (D : DD) {t : Nat} {a0 : Int32} {a1 : Int32} {w : Wd} {r : Int32} (ht : t < 153 ∧ kd t = 8) (hf : f_X8_sizeOf t a0 a1 w = some r) : Ct l yX8_sizeOf cX8_sizeOf 5 (some .int) 2 44 0 0 B D [.ref (B + t), .int a0, .int a1] 153 w (some (.int r)) 153 w := by
  refine m_of (by decide) (Nat.le_of_ble_eq_true rfl) (fun p e s m args below meth c X hml hr hlk _ H locs hh ls hl => ?_)
  have hx := X.1
  have hb := X.2.1
  have hl : lv_has ls 5 [(0, .ref (B + t)), (1, .int a0), (2, .int a1)] := hl
  unfold f_X8_sizeOf at hf
  refine lv_iconst (v := (0 : Int32)) hx hb dX8_sizeOf_0 (by decide) ?_
  refine lv_istore_n (lv' := [(3, .int (0 : Int32)), (0, .ref (B + t)), (1, .int a0), (2, .int a1)]) hx hb dX8_sizeOf_1 rfl hl (by decide) rfl (fun ls hl => ?_)
  refine lv_iconst (v := (0 : Int32)) hx hb dX8_sizeOf_2 (by decide) ?_
  refine lv_istore (lv' := [(4, .int (0 : Int32)), (3, .int (0 : Int32)), (0, .ref (B + t)), (1, .int a0), (2, .int a1)]) hx hb dX8_sizeOf_3 hl (by decide) rfl (fun ls hl => ?_)
  refine wl2_W (P := fun (x1 : Int32) (x2 : Int32) => ∀ (H : Heap) (locs : List Loc) (ls : Array Slot), Hp B D 153 w s H locs → lv_has ls 5 [(0, .ref (B + t)), (1, .int a0), (2, .int a1), (3, .int x1), (4, .int x2)] → W p l e (rmk 2 44 0 0) s m args below meth c H locs 0 0 (MZ below B D 153 w (some (.int r)) args s 0 0) (F0 m 5 ls [])) hf (fun x1 x2 k3 ih4 hf  H locs ls hh hl => ?_)  _ _ _ hh (lv_sub hl [2, 3, 4, 1, 0] rfl)
  refine lv_iload hx hb dX8_sizeOf_5 (lv_at hl 4 rfl) ?_
  refine lv_bipush (v := (80 : Int32)) hx hb dX8_sizeOf_7 (by decide) ?_
  refine lv_icmp_ge (tgt := 29) hx hb dX8_sizeOf_9 (by decide) (fun hc5 => ?_) (fun hc5 => ?_)
  · have hf := if_t hc5 hf
    refine lv_iload_n hx hb dX8_sizeOf_29 rfl (lv_at hl 3 rfl) ?_
    exact e_i X hr hlk hh ⟨so_e hf, rfl⟩ dX8_sizeOf_30
  · have hf := if_f hc5 hf
    refine lv_iload_n hx hb dX8_sizeOf_12 rfl (lv_at hl 3 rfl) ?_
    refine lv_aload_n hx hb dX8_sizeOf_13 rfl (lv_at hl 0 rfl) ?_
    refine lv_iload_n hx hb dX8_sizeOf_14 rfl (lv_at hl 1 rfl) ?_
    refine lv_iload_n hx hb dX8_sizeOf_15 rfl (lv_at hl 2 rfl) ?_
    refine lv_iload hx hb dX8_sizeOf_16 (lv_at hl 4 rfl) ?_
    obtain ⟨v7, hc6, hf⟩ := c1_e hf
    refine q_V (w' := w) (rest := [.int x1]) X hml hh (some (.int v7)) (m_X8_partOf l B D ht hc6) cf_X8_partOf k_838 ht ci_8 rfl rfl hl.1 rfl (Nat.le_of_ble_eq_true rfl) ⟨Nat.le_of_ble_eq_true rfl, Nat.le_of_ble_eq_true rfl⟩ ⟨Nat.zero_le _, Nat.zero_le _⟩ dX8_sizeOf_18 rfl (fun H locs hh => ?_)
    refine lv_iadd hx hb dX8_sizeOf_21 ?_
    refine lv_topi (fun x8 e9 => ?_)
    have hf := lt_e e9 hf
    refine lv_istore_n (lv' := [(3, .int x8), (0, .ref (B + t)), (1, .int a0), (2, .int a1), (4, .int x2)]) hx hb dX8_sizeOf_22 rfl hl (by decide) rfl (fun ls hl => ?_)
    obtain ⟨x10, e11⟩ : ∃ y : Int32, y = (x2 + (1 : Int32)) := ⟨_, rfl⟩
    have hf := lt_e e11 hf
    refine lv_iinc (v := x10) (lv' := [(4, .int x10), (3, .int x8), (0, .ref (B + t)), (1, .int a0), (2, .int a1)]) hx hb dX8_sizeOf_23 hl (k := 4) rfl (by rw [e11]; rfl) (by decide) rfl (fun ls hl => ?_)
    refine lv_goto (tgt := 5) hx hb dX8_sizeOf_26 (by decide) ?_
    exact ih4 _ _ hf  _ _ _ hh (lv_sub hl [2, 3, 4, 1, 0] rfl)
set_option maxHeartbeats 4000000 in
set_option maxRecDepth 100000 in
theorem m_X8_lengthOf (l : Launch) (B : Nat) (D : DD) {t : Nat} {a0 : Int32} {a1 : Int32} {w : Wd} {r : Int32} (ht : t < 153 ∧ kd t = 8) (hf : f_X8_lengthOf t a0 a1 w = some r) : Ct l yX8_lengthOf cX8_lengthOf 5 (some .int) 2 44 0 0 B D [.ref (B + t), .int a0, .int a1] 153 w (some (.int r)) 153 w := by
  refine m_of (by decide) (Nat.le_of_ble_eq_true rfl) (fun p e s m args below meth c X hml hr hlk _ H locs hh ls hl => ?_)
  have hx := X.1
  have hb := X.2.1
  have hl : lv_has ls 5 [(0, .ref (B + t)), (1, .int a0), (2, .int a1)] := hl
  unfold f_X8_lengthOf at hf
  refine lv_iconst (v := (0 : Int32)) hx hb dX8_lengthOf_0 (by decide) ?_
  refine lv_istore_n (lv' := [(3, .int (0 : Int32)), (0, .ref (B + t)), (1, .int a0), (2, .int a1)]) hx hb dX8_lengthOf_1 rfl hl (by decide) rfl (fun ls hl => ?_)
  refine lv_iconst (v := (0 : Int32)) hx hb dX8_lengthOf_2 (by decide) ?_
  refine lv_istore (lv' := [(4, .int (0 : Int32)), (3, .int (0 : Int32)), (0, .ref (B + t)), (1, .int a0), (2, .int a1)]) hx hb dX8_lengthOf_3 hl (by decide) rfl (fun ls hl => ?_)
  refine wl2_W (P := fun (x1 : Int32) (x2 : Int32) => ∀ (H : Heap) (locs : List Loc) (ls : Array Slot), Hp B D 153 w s H locs → lv_has ls 5 [(0, .ref (B + t)), (1, .int a0), (2, .int a1), (3, .int x1), (4, .int x2)] → W p l e (rmk 2 44 0 0) s m args below meth c H locs 0 0 (MZ below B D 153 w (some (.int r)) args s 0 0) (F0 m 5 ls [])) hf (fun x1 x2 k3 ih4 hf  H locs ls hh hl => ?_)  _ _ _ hh (lv_sub hl [2, 3, 4, 1, 0] rfl)
  refine lv_iload hx hb dX8_lengthOf_5 (lv_at hl 4 rfl) ?_
  refine lv_bipush (v := (80 : Int32)) hx hb dX8_lengthOf_7 (by decide) ?_
  refine lv_icmp_ge (tgt := 37) hx hb dX8_lengthOf_9 (by decide) (fun hc5 => ?_) (fun hc5 => ?_)
  · have hf := if_t hc5 hf
    refine lv_iload_n hx hb dX8_lengthOf_37 rfl (lv_at hl 3 rfl) ?_
    exact e_i X hr hlk hh ⟨so_e hf, rfl⟩ dX8_lengthOf_38
  · have hf := if_f hc5 hf
    refine lv_iload_n hx hb dX8_lengthOf_12 rfl (lv_at hl 3 rfl) ?_
    refine lv_aload_n hx hb dX8_lengthOf_13 rfl (lv_at hl 0 rfl) ?_
    refine lv_iload_n hx hb dX8_lengthOf_14 rfl (lv_at hl 1 rfl) ?_
    refine lv_iload_n hx hb dX8_lengthOf_15 rfl (lv_at hl 2 rfl) ?_
    refine lv_iload hx hb dX8_lengthOf_16 (lv_at hl 4 rfl) ?_
    obtain ⟨v7, hc6, hf⟩ := c1_e hf
    refine q_V (w' := w) (rest := [.int x1]) X hml hh (some (.int v7)) (m_X8_partOf l B D ht hc6) cf_X8_partOf k_838 ht ci_8 rfl rfl hl.1 rfl (Nat.le_of_ble_eq_true rfl) ⟨Nat.le_of_ble_eq_true rfl, Nat.le_of_ble_eq_true rfl⟩ ⟨Nat.zero_le _, Nat.zero_le _⟩ dX8_lengthOf_18 rfl (fun H locs hh => ?_)
    refine mg_W (P := fun (x9 : Int32) => ∀ (ls : Array Slot), lv_has ls 5 [(0, .ref (B + t)), (1, .int a0), (2, .int a1), (4, .int x2)] → W p l e (rmk 2 44 0 0) s m args below meth c H locs 0 0 (MZ below B D 153 w (some (.int r)) args s 0 0) (F0 m 29 ls [.int x9, .int x1])) hf (fun x9 hf ls hl => ?_) (fun hj14 => ?_)
    · refine lv_iadd hx hb dX8_lengthOf_29 ?_
      refine lv_topi (fun x10 e11 => ?_)
      have hf := lt_e e11 hf
      refine lv_istore_n (lv' := [(3, .int x10), (0, .ref (B + t)), (1, .int a0), (2, .int a1), (4, .int x2)]) hx hb dX8_lengthOf_30 rfl hl (by decide) rfl (fun ls hl => ?_)
      obtain ⟨x12, e13⟩ : ∃ y : Int32, y = (x2 + (1 : Int32)) := ⟨_, rfl⟩
      have hf := lt_e e13 hf
      refine lv_iinc (v := x12) (lv' := [(4, .int x12), (3, .int x10), (0, .ref (B + t)), (1, .int a0), (2, .int a1)]) hx hb dX8_lengthOf_31 hl (k := 4) rfl (by rw [e13]; rfl) (by decide) rfl (fun ls hl => ?_)
      refine lv_goto (tgt := 5) hx hb dX8_lengthOf_34 (by decide) ?_
      exact ih4 _ _ hf  _ _ _ hh (lv_sub hl [2, 3, 4, 1, 0] rfl)
    · refine lv_if_le (tgt := 28) hx hb dX8_lengthOf_21 (by decide) (fun hc8 => ?_) (fun hc8 => ?_)
      · refine lv_iconst (v := (0 : Int32)) hx hb dX8_lengthOf_28 (by decide) ?_
        exact hj14 _ (by rw [if_pos hc8]) ls (lv_sub hl [0, 1, 2, 4] rfl)
      · refine lv_iconst (v := (1 : Int32)) hx hb dX8_lengthOf_24 (by decide) ?_
        refine lv_goto (tgt := 29) hx hb dX8_lengthOf_25 (by decide) ?_
        exact hj14 _ (by rw [if_neg hc8]) ls (lv_sub hl [0, 1, 2, 4] rfl)
set_option maxHeartbeats 4000000 in
set_option maxRecDepth 100000 in
theorem m_X8_turnedOf (l : Launch) (B : Nat) (D : DD) {t : Nat} {a0 : Int32} {a1 : Int32} {a2 : Int32} {w : Wd} {r : Int32} (ht : t < 153 ∧ kd t = 8) (hf : f_X8_turnedOf t a0 a1 a2 w = some r) : Ct l yX8_turnedOf cX8_turnedOf 6 (some .int) 2 44 0 0 B D [.ref (B + t), .int a0, .int a1, .int a2] 153 w (some (.int r)) 153 w := by
  refine m_of (by decide) (Nat.le_of_ble_eq_true rfl) (fun p e s m args below meth c X hml hr hlk _ H locs hh ls hl => ?_)
  have hx := X.1
  have hb := X.2.1
  have hl : lv_has ls 6 [(0, .ref (B + t)), (1, .int a0), (2, .int a1), (3, .int a2)] := hl
  unfold f_X8_turnedOf at hf
  refine lv_iconst (v := (0 : Int32)) hx hb dX8_turnedOf_0 (by decide) ?_
  refine lv_istore (lv' := [(4, .int (0 : Int32)), (0, .ref (B + t)), (1, .int a0), (2, .int a1), (3, .int a2)]) hx hb dX8_turnedOf_1 hl (by decide) rfl (fun ls hl => ?_)
  refine lv_iconst (v := (0 : Int32)) hx hb dX8_turnedOf_3 (by decide) ?_
  refine lv_istore (lv' := [(5, .int (0 : Int32)), (4, .int (0 : Int32)), (0, .ref (B + t)), (1, .int a0), (2, .int a1), (3, .int a2)]) hx hb dX8_turnedOf_4 hl (by decide) rfl (fun ls hl => ?_)
  refine wl2_W (P := fun (x1 : Int32) (x2 : Int32) => ∀ (H : Heap) (locs : List Loc) (ls : Array Slot), Hp B D 153 w s H locs → lv_has ls 6 [(0, .ref (B + t)), (1, .int a0), (2, .int a1), (3, .int a2), (4, .int x1), (5, .int x2)] → W p l e (rmk 2 44 0 0) s m args below meth c H locs 0 0 (MZ below B D 153 w (some (.int r)) args s 0 0) (F0 m 6 ls [])) hf (fun x1 x2 k3 ih4 hf  H locs ls hh hl => ?_)  _ _ _ hh (lv_sub hl [2, 3, 4, 5, 1, 0] rfl)
  refine lv_iload hx hb dX8_turnedOf_6 (lv_at hl 5 rfl) ?_
  refine lv_bipush (v := (80 : Int32)) hx hb dX8_turnedOf_8 (by decide) ?_
  refine lv_icmp_ge (tgt := 41) hx hb dX8_turnedOf_10 (by decide) (fun hc5 => ?_) (fun hc5 => ?_)
  · have hf := if_t hc5 hf
    refine lv_iload hx hb dX8_turnedOf_41 (lv_at hl 4 rfl) ?_
    exact e_i X hr hlk hh ⟨so_e hf, rfl⟩ dX8_turnedOf_43
  · have hf := if_f hc5 hf
    refine lv_iload hx hb dX8_turnedOf_13 (lv_at hl 4 rfl) ?_
    refine lv_aload_n hx hb dX8_turnedOf_15 rfl (lv_at hl 0 rfl) ?_
    refine lv_iload_n hx hb dX8_turnedOf_16 rfl (lv_at hl 1 rfl) ?_
    refine lv_iload_n hx hb dX8_turnedOf_17 rfl (lv_at hl 2 rfl) ?_
    refine lv_iload hx hb dX8_turnedOf_18 (lv_at hl 5 rfl) ?_
    obtain ⟨v7, hc6, hf⟩ := c1_e hf
    refine q_V (w' := w) (rest := [.int x1]) X hml hh (some (.int v7)) (m_X8_partOf l B D ht hc6) cf_X8_partOf k_838 ht ci_8 rfl rfl hl.1 rfl (Nat.le_of_ble_eq_true rfl) ⟨Nat.le_of_ble_eq_true rfl, Nat.le_of_ble_eq_true rfl⟩ ⟨Nat.zero_le _, Nat.zero_le _⟩ dX8_turnedOf_20 rfl (fun H locs hh => ?_)
    refine lv_iload_n hx hb dX8_turnedOf_23 rfl (lv_at hl 3 rfl) ?_
    refine mg_W (P := fun (x9 : Int32) => ∀ (ls : Array Slot), lv_has ls 6 [(0, .ref (B + t)), (1, .int a0), (2, .int a1), (3, .int a2), (5, .int x2)] → W p l e (rmk 2 44 0 0) s m args below meth c H locs 0 0 (MZ below B D 153 w (some (.int r)) args s 0 0) (F0 m 32 ls [.int x9, .int x1])) hf (fun x9 hf ls hl => ?_) (fun hj14 => ?_)
    · refine lv_iadd hx hb dX8_turnedOf_32 ?_
      refine lv_topi (fun x10 e11 => ?_)
      have hf := lt_e e11 hf
      refine lv_istore (lv' := [(4, .int x10), (0, .ref (B + t)), (1, .int a0), (2, .int a1), (3, .int a2), (5, .int x2)]) hx hb dX8_turnedOf_33 hl (by decide) rfl (fun ls hl => ?_)
      obtain ⟨x12, e13⟩ : ∃ y : Int32, y = (x2 + (1 : Int32)) := ⟨_, rfl⟩
      have hf := lt_e e13 hf
      refine lv_iinc (v := x12) (lv' := [(5, .int x12), (4, .int x10), (0, .ref (B + t)), (1, .int a0), (2, .int a1), (3, .int a2)]) hx hb dX8_turnedOf_35 hl (k := 5) rfl (by rw [e13]; rfl) (by decide) rfl (fun ls hl => ?_)
      refine lv_goto (tgt := 6) hx hb dX8_turnedOf_38 (by decide) ?_
      exact ih4 _ _ hf  _ _ _ hh (lv_sub hl [2, 3, 4, 5, 1, 0] rfl)
    · refine lv_icmp_le (tgt := 31) hx hb dX8_turnedOf_24 (by decide) (fun hc8 => ?_) (fun hc8 => ?_)
      · refine lv_iconst (v := (0 : Int32)) hx hb dX8_turnedOf_31 (by decide) ?_
        exact hj14 _ (by rw [if_pos hc8]) ls (lv_sub hl [0, 1, 2, 3, 5] rfl)
      · refine lv_iconst (v := (1 : Int32)) hx hb dX8_turnedOf_27 (by decide) ?_
        refine lv_goto (tgt := 32) hx hb dX8_turnedOf_28 (by decide) ?_
        exact hj14 _ (by rw [if_neg hc8]) ls (lv_sub hl [0, 1, 2, 3, 5] rfl)
set_option maxHeartbeats 4000000 in
set_option maxRecDepth 100000 in
theorem m_X8_part (l : Launch) (B : Nat) (D : DD) {t : Nat} {a0 : Int32} {a1 : Int32} {a2 : Int32} {w : Wd} {r : Int32} {w' : Wd} (ht : t < 153 ∧ kd t = 8) (hf : f_X8_part t a0 a1 a2 w = some (r, w')) : Ct l yX8_part cX8_part 4 (some .int) 3 81 0 0 B D [.ref (B + t), .int a0, .int a1, .int a2] 153 w (some (.int r)) 153 w' := by
  refine m_of (by decide) (Nat.le_of_ble_eq_true rfl) (fun p e s m args below meth c X hml hr hlk _ H locs hh ls hl => ?_)
  have hx := X.1
  have hb := X.2.1
  have hl : lv_has ls 4 [(0, .ref (B + t)), (1, .int a0), (2, .int a1), (3, .int a2)] := hl
  unfold f_X8_part at hf
  refine lv_aload_n hx hb dX8_part_0 rfl (lv_at hl 0 rfl) ?_
  refine lv_iload_n hx hb dX8_part_1 rfl (lv_at hl 1 rfl) ?_
  refine lv_iload_n hx hb dX8_part_2 rfl (lv_at hl 2 rfl) ?_
  obtain ⟨v2, hc1, hf⟩ := c1_e hf
  refine q_V (w' := w) (rest := []) X hml hh (some (.int v2)) (m_X8_isCorner l B D ht hc1) cf_X8_isCorner k_822 ht ci_8 rfl rfl hl.1 rfl (Nat.le_of_ble_eq_true rfl) ⟨Nat.le_of_ble_eq_true rfl, Nat.le_of_ble_eq_true rfl⟩ ⟨Nat.zero_le _, Nat.zero_le _⟩ dX8_part_3 rfl (fun H locs hh => ?_)
  refine lv_if_eq (tgt := 21) hx hb dX8_part_6 (by decide) (fun hc3 => ?_) (fun hc3 => ?_)
  · have hf := if_t hc3 hf
    refine lv_iconst (v := (-1 : Int32)) hx hb dX8_part_21 (by decide) ?_
    exact e_i X hr hlk hh (so2_e hf) dX8_part_22
  · have hf := if_f hc3 hf
    refine lv_iload_n hx hb dX8_part_9 rfl (lv_at hl 3 rfl) ?_
    refine lv_i2l hx hb dX8_part_10 rfl ?_
    refine lv_lconst (v := (0 : Int64)) hx hb dX8_part_11 (by decide) ?_
    refine lv_ldc2 hx hb X.2.2.1 (X.2.2.2.1 _ k_826) dX8_part_12 ?_
    obtain ⟨v5, hc4, hf⟩ := c1_e hf
    refine q_S (w' := w) (rest := []) X hml hh (some (.int v5)) (m_X8_in l B D hc4) cf_X8_in k_767 rfl hl.1 rfl (Nat.le_of_ble_eq_true rfl) ⟨Nat.le_of_ble_eq_true rfl, Nat.le_of_ble_eq_true rfl⟩ ⟨Nat.zero_le _, Nat.zero_le _⟩ dX8_part_15 rfl (fun H locs hh => ?_)
    refine lv_if_ne (tgt := 23) hx hb dX8_part_18 (by decide) (fun hc6 => ?_) (fun hc6 => ?_)
    · have hf := if_f hc6 hf
      refine lv_aload_n hx hb dX8_part_23 rfl (lv_at hl 0 rfl) ?_
      obtain ⟨w8, hc7, hf⟩ := c1_e hf
      refine q_V (w' := w8) (rest := []) X hml hh none (m_X8_growsAll l B D ht hc7) cf_X8_growsAll k_827 ht ci_8 rfl rfl hl.1 rfl (Nat.le_of_ble_eq_true rfl) ⟨Nat.le_of_ble_eq_true rfl, Nat.le_of_ble_eq_true rfl⟩ ⟨Nat.zero_le _, Nat.zero_le _⟩ dX8_part_24 rfl (fun H locs hh => ?_)
      refine lv_aload_n hx hb dX8_part_27 rfl (lv_at hl 0 rfl) ?_
      refine lv_iload_n hx hb dX8_part_28 rfl (lv_at hl 1 rfl) ?_
      refine lv_iload_n hx hb dX8_part_29 rfl (lv_at hl 2 rfl) ?_
      refine lv_iload_n hx hb dX8_part_30 rfl (lv_at hl 3 rfl) ?_
      obtain ⟨v10, hc9, hf⟩ := c1_e hf
      refine q_V (w' := w8) (rest := []) X hml hh (some (.int v10)) (m_X8_partOf l B D ht hc9) cf_X8_partOf k_838 ht ci_8 rfl rfl hl.1 rfl (Nat.le_of_ble_eq_true rfl) ⟨Nat.le_of_ble_eq_true rfl, Nat.le_of_ble_eq_true rfl⟩ ⟨Nat.zero_le _, Nat.zero_le _⟩ dX8_part_31 rfl (fun H locs hh => ?_)
      exact e_i X hr hlk hh (so2_e hf) dX8_part_34
    · have hf := if_t hc6 hf
      refine lv_iconst (v := (-1 : Int32)) hx hb dX8_part_21 (by decide) ?_
      exact e_i X hr hlk hh (so2_e hf) dX8_part_22
set_option maxHeartbeats 4000000 in
set_option maxRecDepth 100000 in
theorem m_X8_shape (l : Launch) (B : Nat) (D : DD) {t : Nat} {a0 : Int32} {a1 : Int32} {a2 : Int32} {w : Wd} {r : Int32} {w' : Wd} (ht : t < 153 ∧ kd t = 8) (hf : f_X8_shape t a0 a1 a2 w = some (r, w')) : Ct l yX8_shape cX8_shape 4 (some .int) 3 81 0 0 B D [.ref (B + t), .int a0, .int a1, .int a2] 153 w (some (.int r)) 153 w' := by
  refine m_of (by decide) (Nat.le_of_ble_eq_true rfl) (fun p e s m args below meth c X hml hr hlk _ H locs hh ls hl => ?_)
  have hx := X.1
  have hb := X.2.1
  have hl : lv_has ls 4 [(0, .ref (B + t)), (1, .int a0), (2, .int a1), (3, .int a2)] := hl
  unfold f_X8_shape at hf
  refine lv_aload_n hx hb dX8_shape_0 rfl (lv_at hl 0 rfl) ?_
  refine lv_iload_n hx hb dX8_shape_1 rfl (lv_at hl 1 rfl) ?_
  refine lv_iload_n hx hb dX8_shape_2 rfl (lv_at hl 2 rfl) ?_
  obtain ⟨v2, hc1, hf⟩ := c1_e hf
  refine q_V (w' := w) (rest := []) X hml hh (some (.int v2)) (m_X8_isCorner l B D ht hc1) cf_X8_isCorner k_822 ht ci_8 rfl rfl hl.1 rfl (Nat.le_of_ble_eq_true rfl) ⟨Nat.le_of_ble_eq_true rfl, Nat.le_of_ble_eq_true rfl⟩ ⟨Nat.zero_le _, Nat.zero_le _⟩ dX8_shape_3 rfl (fun H locs hh => ?_)
  refine lv_if_eq (tgt := 19) hx hb dX8_shape_6 (by decide) (fun hc3 => ?_) (fun hc3 => ?_)
  · have hf := if_t hc3 hf
    refine lv_iconst (v := (-1 : Int32)) hx hb dX8_shape_19 (by decide) ?_
    exact e_i X hr hlk hh (so2_e hf) dX8_shape_20
  · have hf := if_f hc3 hf
    refine lv_iload_n hx hb dX8_shape_9 rfl (lv_at hl 3 rfl) ?_
    refine lv_i2l hx hb dX8_shape_10 rfl ?_
    refine lv_lconst (v := (0 : Int64)) hx hb dX8_shape_11 (by decide) ?_
    refine lv_lconst (v := (1 : Int64)) hx hb dX8_shape_12 (by decide) ?_
    obtain ⟨v5, hc4, hf⟩ := c1_e hf
    refine q_S (w' := w) (rest := []) X hml hh (some (.int v5)) (m_X8_in l B D hc4) cf_X8_in k_767 rfl hl.1 rfl (Nat.le_of_ble_eq_true rfl) ⟨Nat.le_of_ble_eq_true rfl, Nat.le_of_ble_eq_true rfl⟩ ⟨Nat.zero_le _, Nat.zero_le _⟩ dX8_shape_13 rfl (fun H locs hh => ?_)
    refine lv_if_ne (tgt := 21) hx hb dX8_shape_16 (by decide) (fun hc6 => ?_) (fun hc6 => ?_)
    · have hf := if_f hc6 hf
      refine lv_aload_n hx hb dX8_shape_21 rfl (lv_at hl 0 rfl) ?_
      obtain ⟨w8, hc7, hf⟩ := c1_e hf
      refine q_V (w' := w8) (rest := []) X hml hh none (m_X8_growsAll l B D ht hc7) cf_X8_growsAll k_827 ht ci_8 rfl rfl hl.1 rfl (Nat.le_of_ble_eq_true rfl) ⟨Nat.le_of_ble_eq_true rfl, Nat.le_of_ble_eq_true rfl⟩ ⟨Nat.zero_le _, Nat.zero_le _⟩ dX8_shape_22 rfl (fun H locs hh => ?_)
      refine lv_iload_n hx hb dX8_shape_25 rfl (lv_at hl 3 rfl) ?_
      refine lv_if_ne (tgt := 38) hx hb dX8_shape_26 (by decide) (fun hc9 => ?_) (fun hc9 => ?_)
      · have hf := if_f hc9 hf
        refine lv_aload_n hx hb dX8_shape_38 rfl (lv_at hl 0 rfl) ?_
        refine lv_iload_n hx hb dX8_shape_39 rfl (lv_at hl 1 rfl) ?_
        refine lv_iload_n hx hb dX8_shape_40 rfl (lv_at hl 2 rfl) ?_
        obtain ⟨v11, hc10, hf⟩ := c1_e hf
        refine q_V (w' := w8) (rest := []) X hml hh (some (.int v11)) (m_X8_lengthOf l B D ht hc10) cf_X8_lengthOf k_850 ht ci_8 rfl rfl hl.1 rfl (Nat.le_of_ble_eq_true rfl) ⟨Nat.le_of_ble_eq_true rfl, Nat.le_of_ble_eq_true rfl⟩ ⟨Nat.zero_le _, Nat.zero_le _⟩ dX8_shape_41 rfl (fun H locs hh => ?_)
        exact e_i X hr hlk hh (so2_e hf) dX8_shape_44
      · have hf := if_t hc9 hf
        refine lv_aload_n hx hb dX8_shape_29 rfl (lv_at hl 0 rfl) ?_
        refine lv_iload_n hx hb dX8_shape_30 rfl (lv_at hl 1 rfl) ?_
        refine lv_iload_n hx hb dX8_shape_31 rfl (lv_at hl 2 rfl) ?_
        obtain ⟨v13, hc12, hf⟩ := c1_e hf
        refine q_V (w' := w8) (rest := []) X hml hh (some (.int v13)) (m_X8_sizeOf l B D ht hc12) cf_X8_sizeOf k_846 ht ci_8 rfl rfl hl.1 rfl (Nat.le_of_ble_eq_true rfl) ⟨Nat.le_of_ble_eq_true rfl, Nat.le_of_ble_eq_true rfl⟩ ⟨Nat.zero_le _, Nat.zero_le _⟩ dX8_shape_32 rfl (fun H locs hh => ?_)
        refine lv_goto (tgt := 44) hx hb dX8_shape_35 (by decide) ?_
        exact e_i X hr hlk hh (so2_e hf) dX8_shape_44
    · have hf := if_t hc6 hf
      refine lv_iconst (v := (-1 : Int32)) hx hb dX8_shape_19 (by decide) ?_
      exact e_i X hr hlk hh (so2_e hf) dX8_shape_20
set_option maxHeartbeats 4000000 in
set_option maxRecDepth 100000 in
theorem m_X8_turned (l : Launch) (B : Nat) (D : DD) {t : Nat} {a0 : Int32} {a1 : Int32} {a2 : Int32} {w : Wd} {r : Int32} {w' : Wd} (ht : t < 153 ∧ kd t = 8) (hf : f_X8_turned t a0 a1 a2 w = some (r, w')) : Ct l yX8_turned cX8_turned 4 (some .int) 3 81 0 0 B D [.ref (B + t), .int a0, .int a1, .int a2] 153 w (some (.int r)) 153 w' := by
  refine m_of (by decide) (Nat.le_of_ble_eq_true rfl) (fun p e s m args below meth c X hml hr hlk _ H locs hh ls hl => ?_)
  have hx := X.1
  have hb := X.2.1
  have hl : lv_has ls 4 [(0, .ref (B + t)), (1, .int a0), (2, .int a1), (3, .int a2)] := hl
  unfold f_X8_turned at hf
  refine lv_aload_n hx hb dX8_turned_0 rfl (lv_at hl 0 rfl) ?_
  refine lv_iload_n hx hb dX8_turned_1 rfl (lv_at hl 1 rfl) ?_
  refine lv_iload_n hx hb dX8_turned_2 rfl (lv_at hl 2 rfl) ?_
  obtain ⟨v2, hc1, hf⟩ := c1_e hf
  refine q_V (w' := w) (rest := []) X hml hh (some (.int v2)) (m_X8_isCorner l B D ht hc1) cf_X8_isCorner k_822 ht ci_8 rfl rfl hl.1 rfl (Nat.le_of_ble_eq_true rfl) ⟨Nat.le_of_ble_eq_true rfl, Nat.le_of_ble_eq_true rfl⟩ ⟨Nat.zero_le _, Nat.zero_le _⟩ dX8_turned_3 rfl (fun H locs hh => ?_)
  refine lv_if_eq (tgt := 21) hx hb dX8_turned_6 (by decide) (fun hc3 => ?_) (fun hc3 => ?_)
  · have hf := if_t hc3 hf
    refine lv_iconst (v := (-1 : Int32)) hx hb dX8_turned_21 (by decide) ?_
    exact e_i X hr hlk hh (so2_e hf) dX8_turned_22
  · have hf := if_f hc3 hf
    refine lv_iload_n hx hb dX8_turned_9 rfl (lv_at hl 3 rfl) ?_
    refine lv_i2l hx hb dX8_turned_10 rfl ?_
    refine lv_lconst (v := (0 : Int64)) hx hb dX8_turned_11 (by decide) ?_
    refine lv_ldc2 hx hb X.2.2.1 (X.2.2.2.1 _ k_826) dX8_turned_12 ?_
    obtain ⟨v5, hc4, hf⟩ := c1_e hf
    refine q_S (w' := w) (rest := []) X hml hh (some (.int v5)) (m_X8_in l B D hc4) cf_X8_in k_767 rfl hl.1 rfl (Nat.le_of_ble_eq_true rfl) ⟨Nat.le_of_ble_eq_true rfl, Nat.le_of_ble_eq_true rfl⟩ ⟨Nat.zero_le _, Nat.zero_le _⟩ dX8_turned_15 rfl (fun H locs hh => ?_)
    refine lv_if_ne (tgt := 23) hx hb dX8_turned_18 (by decide) (fun hc6 => ?_) (fun hc6 => ?_)
    · have hf := if_f hc6 hf
      refine lv_aload_n hx hb dX8_turned_23 rfl (lv_at hl 0 rfl) ?_
      obtain ⟨w8, hc7, hf⟩ := c1_e hf
      refine q_V (w' := w8) (rest := []) X hml hh none (m_X8_growsAll l B D ht hc7) cf_X8_growsAll k_827 ht ci_8 rfl rfl hl.1 rfl (Nat.le_of_ble_eq_true rfl) ⟨Nat.le_of_ble_eq_true rfl, Nat.le_of_ble_eq_true rfl⟩ ⟨Nat.zero_le _, Nat.zero_le _⟩ dX8_turned_24 rfl (fun H locs hh => ?_)
      refine lv_aload_n hx hb dX8_turned_27 rfl (lv_at hl 0 rfl) ?_
      refine lv_iload_n hx hb dX8_turned_28 rfl (lv_at hl 1 rfl) ?_
      refine lv_iload_n hx hb dX8_turned_29 rfl (lv_at hl 2 rfl) ?_
      refine lv_iload_n hx hb dX8_turned_30 rfl (lv_at hl 3 rfl) ?_
      obtain ⟨v10, hc9, hf⟩ := c1_e hf
      refine q_V (w' := w8) (rest := []) X hml hh (some (.int v10)) (m_X8_turnedOf l B D ht hc9) cf_X8_turnedOf k_858 ht ci_8 rfl rfl hl.1 rfl (Nat.le_of_ble_eq_true rfl) ⟨Nat.le_of_ble_eq_true rfl, Nat.le_of_ble_eq_true rfl⟩ ⟨Nat.zero_le _, Nat.zero_le _⟩ dX8_turned_31 rfl (fun H locs hh => ?_)
      exact e_i X hr hlk hh (so2_e hf) dX8_turned_34
    · have hf := if_t hc6 hf
      refine lv_iconst (v := (-1 : Int32)) hx hb dX8_turned_21 (by decide) ?_
      exact e_i X hr hlk hh (so2_e hf) dX8_turned_22
set_option maxHeartbeats 4000000 in
set_option maxRecDepth 100000 in
theorem m_X8_standard (l : Launch) (B : Nat) (D : DD) {t : Nat} {a0 : Int32} {a1 : Int32} {w : Wd} {r : Int64} {w' : Wd} (ht : t < 153 ∧ kd t = 8) (hf : f_X8_standard t a0 a1 w = some (r, w')) : Ct l yX8_standard cX8_standard 8 (some .long) 3 81 0 0 B D [.ref (B + t), .int a0, .int a1] 153 w (some (.long r)) 153 w' := by
  refine m_of (by decide) (Nat.le_of_ble_eq_true rfl) (fun p e s m args below meth c X hml hr hlk _ H locs hh ls hl => ?_)
  have hx := X.1
  have hb := X.2.1
  have hl : lv_has ls 8 [(0, .ref (B + t)), (1, .int a0), (2, .int a1)] := hl
  unfold f_X8_standard at hf
  refine lv_aload_n hx hb dX8_standard_0 rfl (lv_at hl 0 rfl) ?_
  refine lv_iload_n hx hb dX8_standard_1 rfl (lv_at hl 1 rfl) ?_
  refine lv_iload_n hx hb dX8_standard_2 rfl (lv_at hl 2 rfl) ?_
  obtain ⟨v2, hc1, hf⟩ := c1_e hf
  refine q_V (w' := w) (rest := []) X hml hh (some (.int v2)) (m_X8_isCorner l B D ht hc1) cf_X8_isCorner k_822 ht ci_8 rfl rfl hl.1 rfl (Nat.le_of_ble_eq_true rfl) ⟨Nat.le_of_ble_eq_true rfl, Nat.le_of_ble_eq_true rfl⟩ ⟨Nat.zero_le _, Nat.zero_le _⟩ dX8_standard_3 rfl (fun H locs hh => ?_)
  refine lv_if_ne (tgt := 13) hx hb dX8_standard_6 (by decide) (fun hc3 => ?_) (fun hc3 => ?_)
  · have hf := if_f hc3 hf
    refine lv_aload_n hx hb dX8_standard_13 rfl (lv_at hl 0 rfl) ?_
    obtain ⟨w5, hc4, hf⟩ := c1_e hf
    refine q_V (w' := w5) (rest := []) X hml hh none (m_X8_growsAll l B D ht hc4) cf_X8_growsAll k_827 ht ci_8 rfl rfl hl.1 rfl (Nat.le_of_ble_eq_true rfl) ⟨Nat.le_of_ble_eq_true rfl, Nat.le_of_ble_eq_true rfl⟩ ⟨Nat.zero_le _, Nat.zero_le _⟩ dX8_standard_14 rfl (fun H locs hh => ?_)
    refine lv_aload_n hx hb dX8_standard_17 rfl (lv_at hl 0 rfl) ?_
    refine lv_iload_n hx hb dX8_standard_18 rfl (lv_at hl 1 rfl) ?_
    refine lv_iload_n hx hb dX8_standard_19 rfl (lv_at hl 2 rfl) ?_
    obtain ⟨v7, hc6, hf⟩ := c1_e hf
    refine q_V (w' := w5) (rest := []) X hml hh (some (.int v7)) (m_X8_sizeOf l B D ht hc6) cf_X8_sizeOf k_846 ht ci_8 rfl rfl hl.1 rfl (Nat.le_of_ble_eq_true rfl) ⟨Nat.le_of_ble_eq_true rfl, Nat.le_of_ble_eq_true rfl⟩ ⟨Nat.zero_le _, Nat.zero_le _⟩ dX8_standard_20 rfl (fun H locs hh => ?_)
    refine lv_istore_n (lv' := [(3, .int v7), (0, .ref (B + t)), (1, .int a0), (2, .int a1)]) hx hb dX8_standard_23 rfl hl (by decide) rfl (fun ls hl => ?_)
    refine lv_iload_n hx hb dX8_standard_24 rfl (lv_at hl 0 rfl) ?_
    refine lv_bipush (v := (20 : Int32)) hx hb dX8_standard_25 (by decide) ?_
    refine lv_icmp_le (tgt := 34) hx hb dX8_standard_27 (by decide) (fun hc8 => ?_) (fun hc8 => ?_)
    · have hf := if_t hc8 hf
      refine lv_lconst (v := (1 : Int64)) hx hb dX8_standard_34 (by decide) ?_
      refine lv_lstore (lv' := [(4, .long (1 : Int64)), (3, .int v7), (0, .ref (B + t)), (1, .int a0), (2, .int a1)]) hx hb dX8_standard_35 hl (by decide) rfl (fun ls hl => ?_)
      refine lv_iconst (v := (2 : Int32)) hx hb dX8_standard_37 (by decide) ?_
      refine lv_istore (lv' := [(6, .int (2 : Int32)), (4, .long (1 : Int64)), (3, .int v7), (0, .ref (B + t)), (1, .int a0), (2, .int a1)]) hx hb dX8_standard_38 hl (by decide) rfl (fun ls hl => ?_)
      refine wl2_W (P := fun (x9 : Int64) (x10 : Int32) => ∀ (H : Heap) (locs : List Loc) (ls : Array Slot), Hp B D 153 w5 s H locs → lv_has ls 8 [(0, .ref (B + t)), (1, .int a0), (2, .int a1), (3, .int v7), (4, .long x9), (6, .int x10)] → W p l e (rmk 3 81 0 0) s m args below meth c H locs 0 0 (MZ below B D 153 w' (some (.long r)) args s 0 0) (F0 m 40 ls [])) hf (fun x9 x10 k11 ih12 hf  H locs ls hh hl => ?_)  _ _ _ hh (lv_sub hl [3, 4, 5, 2, 1, 0] rfl)
      refine lv_iload hx hb dX8_standard_40 (lv_at hl 5 rfl) ?_
      refine lv_iload_n hx hb dX8_standard_42 rfl (lv_at hl 3 rfl) ?_
      refine lv_icmp_gt (tgt := 60) hx hb dX8_standard_43 (by decide) (fun hc13 => ?_) (fun hc13 => ?_)
      · have hf := if_t hc13 hf
        refine lv_iconst (v := (0 : Int32)) hx hb dX8_standard_60 (by decide) ?_
        refine lv_istore (lv' := [(6, .int (0 : Int32)), (0, .ref (B + t)), (1, .int a0), (2, .int a1), (3, .int v7), (4, .long x9)]) hx hb dX8_standard_61 hl (by decide) rfl (fun ls hl => ?_)
        refine wl2_W (P := fun (x14 : Int64) (x15 : Int32) => ∀ (H : Heap) (locs : List Loc) (ls : Array Slot), Hp B D 153 w5 s H locs → lv_has ls 8 [(0, .ref (B + t)), (1, .int a0), (2, .int a1), (3, .int v7), (4, .long x14), (6, .int x15)] → W p l e (rmk 3 81 0 0) s m args below meth c H locs 0 0 (MZ below B D 153 w' (some (.long r)) args s 0 0) (F0 m 63 ls [])) hf (fun x14 x15 k16 ih17 hf  H locs ls hh hl => ?_)  _ _ _ hh (lv_sub hl [1, 2, 3, 4, 5, 0] rfl)
        refine lv_iload hx hb dX8_standard_63 (lv_at hl 5 rfl) ?_
        refine lv_iload_n hx hb dX8_standard_65 rfl (lv_at hl 3 rfl) ?_
        refine lv_icmp_ge (tgt := 128) hx hb dX8_standard_66 (by decide) (fun hc18 => ?_) (fun hc18 => ?_)
        · have hf := if_t hc18 hf
          refine lv_lload hx hb dX8_standard_128 (lv_at hl 4 rfl) ?_
          exact e_l X hr hlk hh (so2_e hf) dX8_standard_130
        · have hf := if_f hc18 hf
          refine lv_iconst (v := (0 : Int32)) hx hb dX8_standard_69 (by decide) ?_
          refine lv_istore (lv' := [(7, .int (0 : Int32)), (0, .ref (B + t)), (1, .int a0), (2, .int a1), (3, .int v7), (4, .long x14), (6, .int x15)]) hx hb dX8_standard_70 hl (by decide) rfl (fun ls hl => ?_)
          refine wl2_W (P := fun (x19 : Int64) (x20 : Int32) => ∀ (H : Heap) (locs : List Loc) (ls : Array Slot), Hp B D 153 w5 s H locs → lv_has ls 8 [(0, .ref (B + t)), (1, .int a0), (2, .int a1), (3, .int v7), (4, .long x19), (6, .int x15), (7, .int x20)] → W p l e (rmk 3 81 0 0) s m args below meth c H locs 0 0 (MZ below B D 153 w' (some (.long r)) args s 0 0) (F0 m 72 ls [])) hf (fun x19 x20 k21 ih22 hf  H locs ls hh hl => ?_)  _ _ _ hh (lv_sub hl [1, 2, 3, 4, 5, 6, 0] rfl)
          refine lv_iload hx hb dX8_standard_72 (lv_at hl 6 rfl) ?_
          refine lv_aload_n hx hb dX8_standard_74 rfl (lv_at hl 0 rfl) ?_
          refine lv_iload_n hx hb dX8_standard_75 rfl (lv_at hl 1 rfl) ?_
          refine lv_iload_n hx hb dX8_standard_76 rfl (lv_at hl 2 rfl) ?_
          refine lv_iload hx hb dX8_standard_77 (lv_at hl 5 rfl) ?_
          obtain ⟨v24, hc23, hf⟩ := c1_e hf
          refine q_V (w' := w5) (rest := [.int x20]) X hml hh (some (.int v24)) (m_X8_partOf l B D ht hc23) cf_X8_partOf k_838 ht ci_8 rfl rfl hl.1 rfl (Nat.le_of_ble_eq_true rfl) ⟨Nat.le_of_ble_eq_true rfl, Nat.le_of_ble_eq_true rfl⟩ ⟨Nat.zero_le _, Nat.zero_le _⟩ dX8_standard_79 rfl (fun H locs hh => ?_)
          refine lv_icmp_ge (tgt := 122) hx hb dX8_standard_82 (by decide) (fun hc25 => ?_) (fun hc25 => ?_)
          · have hf := if_t hc25 hf
            obtain ⟨x26, e27⟩ : ∃ y : Int32, y = (x15 + (1 : Int32)) := ⟨_, rfl⟩
            have hf := lt_e e27 hf
            refine lv_iinc (v := x26) (lv' := [(6, .int x26), (0, .ref (B + t)), (1, .int a0), (2, .int a1), (3, .int v7), (4, .long x19), (7, .int x20)]) hx hb dX8_standard_122 hl (k := 5) rfl (by rw [e27]; rfl) (by decide) rfl (fun ls hl => ?_)
            refine lv_goto (tgt := 63) hx hb dX8_standard_125 (by decide) ?_
            exact ih17 _ _ hf  _ _ _ hh (lv_sub hl [1, 2, 3, 4, 5, 0] rfl)
          · have hf := if_f hc25 hf
            refine lv_lload hx hb dX8_standard_85 (lv_at hl 4 rfl) ?_
            refine lv_aload_n hx hb dX8_standard_87 rfl (lv_at hl 0 rfl) ?_
            refine lv_iload_n hx hb dX8_standard_88 rfl (lv_at hl 1 rfl) ?_
            refine lv_iload_n hx hb dX8_standard_89 rfl (lv_at hl 2 rfl) ?_
            refine lv_iload hx hb dX8_standard_90 (lv_at hl 5 rfl) ?_
            obtain ⟨v29, hc28, hf⟩ := c1_e hf
            refine q_V (w' := w5) (rest := [.long x19]) X hml hh (some (.int v29)) (m_X8_partOf l B D ht hc28) cf_X8_partOf k_838 ht ci_8 rfl rfl hl.1 rfl (Nat.le_of_ble_eq_true rfl) ⟨Nat.le_of_ble_eq_true rfl, Nat.le_of_ble_eq_true rfl⟩ ⟨Nat.zero_le _, Nat.zero_le _⟩ dX8_standard_92 rfl (fun H locs hh => ?_)
            refine lv_iload hx hb dX8_standard_95 (lv_at hl 6 rfl) ?_
            refine lv_isub hx hb dX8_standard_97 ?_
            refine lv_aload_n hx hb dX8_standard_98 rfl (lv_at hl 0 rfl) ?_
            refine lv_iload_n hx hb dX8_standard_99 rfl (lv_at hl 1 rfl) ?_
            refine lv_iload_n hx hb dX8_standard_100 rfl (lv_at hl 2 rfl) ?_
            refine lv_iload hx hb dX8_standard_101 (lv_at hl 6 rfl) ?_
            obtain ⟨v31, hc30, hf⟩ := c1_e hf
            refine q_V (w' := w5) (rest := [_, .long x19]) X hml hh (some (.int v31)) (m_X8_turnedOf l B D ht hc30) cf_X8_turnedOf k_858 ht ci_8 rfl rfl hl.1 rfl (Nat.le_of_ble_eq_true rfl) ⟨Nat.le_of_ble_eq_true rfl, Nat.le_of_ble_eq_true rfl⟩ ⟨Nat.zero_le _, Nat.zero_le _⟩ dX8_standard_103 rfl (fun H locs hh => ?_)
            refine lv_iadd hx hb dX8_standard_106 ?_
            refine lv_iload hx hb dX8_standard_107 (lv_at hl 5 rfl) ?_
            refine lv_isub hx hb dX8_standard_109 ?_
            refine lv_iconst (v := (1 : Int32)) hx hb dX8_standard_110 (by decide) ?_
            refine lv_isub hx hb dX8_standard_111 ?_
            refine lv_i2l hx hb dX8_standard_112 rfl ?_
            have hz := nzl_e hf
            have hf := hz.2
            refine lv_ldiv hx hb dX8_standard_113 hz.1 ?_
            refine lv_topl (fun x32 e33 => ?_)
            have hf := lt_e e33 hf
            refine lv_lstore (lv' := [(4, .long x32), (0, .ref (B + t)), (1, .int a0), (2, .int a1), (3, .int v7), (6, .int x15), (7, .int x20)]) hx hb dX8_standard_114 hl (by decide) rfl (fun ls hl => ?_)
            obtain ⟨x34, e35⟩ : ∃ y : Int32, y = (x20 + (1 : Int32)) := ⟨_, rfl⟩
            have hf := lt_e e35 hf
            refine lv_iinc (v := x34) (lv' := [(7, .int x34), (4, .long x32), (0, .ref (B + t)), (1, .int a0), (2, .int a1), (3, .int v7), (6, .int x15)]) hx hb dX8_standard_116 hl (k := 6) rfl (by rw [e35]; rfl) (by decide) rfl (fun ls hl => ?_)
            refine lv_goto (tgt := 72) hx hb dX8_standard_119 (by decide) ?_
            exact ih22 _ _ hf  _ _ _ hh (lv_sub hl [2, 3, 4, 5, 1, 6, 0] rfl)
      · have hf := if_f hc13 hf
        refine lv_lload hx hb dX8_standard_46 (lv_at hl 4 rfl) ?_
        refine lv_iload hx hb dX8_standard_48 (lv_at hl 5 rfl) ?_
        refine lv_i2l hx hb dX8_standard_50 rfl ?_
        refine lv_lmul hx hb dX8_standard_51 ?_
        refine lv_topl (fun x36 e37 => ?_)
        have hf := lt_e e37 hf
        refine lv_lstore (lv' := [(4, .long x36), (0, .ref (B + t)), (1, .int a0), (2, .int a1), (3, .int v7), (6, .int x10)]) hx hb dX8_standard_52 hl (by decide) rfl (fun ls hl => ?_)
        obtain ⟨x38, e39⟩ : ∃ y : Int32, y = (x10 + (1 : Int32)) := ⟨_, rfl⟩
        have hf := lt_e e39 hf
        refine lv_iinc (v := x38) (lv' := [(6, .int x38), (4, .long x36), (0, .ref (B + t)), (1, .int a0), (2, .int a1), (3, .int v7)]) hx hb dX8_standard_54 hl (k := 5) rfl (by rw [e39]; rfl) (by decide) rfl (fun ls hl => ?_)
        refine lv_goto (tgt := 40) hx hb dX8_standard_57 (by decide) ?_
        exact ih12 _ _ hf  _ _ _ hh (lv_sub hl [2, 3, 4, 5, 1, 0] rfl)
    · have hf := if_f hc8 hf
      refine lv_ldc2 hx hb X.2.2.1 (X.2.2.2.1 _ k_866) dX8_standard_30 ?_
      exact e_l X hr hlk hh (so2_e hf) dX8_standard_33
  · have hf := if_t hc3 hf
    refine lv_ldc2 hx hb X.2.2.1 (X.2.2.2.1 _ k_866) dX8_standard_9 ?_
    exact e_l X hr hlk hh (so2_e hf) dX8_standard_12
set_option maxHeartbeats 4000000 in
set_option maxRecDepth 100000 in
theorem m_X8_product (l : Launch) (B : Nat) (D : DD) {t : Nat} {a0 : Int32} {a1 : Int32} {w : Wd} {r : Int32} {w' : Wd} (ht : t < 153 ∧ kd t = 8) (hf : f_X8_product t a0 a1 w = some (r, w')) : Ct l yX8_product cX8_product 6 (some .int) 3 81 0 0 B D [.ref (B + t), .int a0, .int a1] 153 w (some (.int r)) 153 w' := by
  refine m_of (by decide) (Nat.le_of_ble_eq_true rfl) (fun p e s m args below meth c X hml hr hlk _ H locs hh ls hl => ?_)
  have hx := X.1
  have hb := X.2.1
  have hl : lv_has ls 6 [(0, .ref (B + t)), (1, .int a0), (2, .int a1)] := hl
  unfold f_X8_product at hf
  refine lv_aload_n hx hb dX8_product_0 rfl (lv_at hl 0 rfl) ?_
  refine lv_iload_n hx hb dX8_product_1 rfl (lv_at hl 1 rfl) ?_
  refine lv_iload_n hx hb dX8_product_2 rfl (lv_at hl 2 rfl) ?_
  obtain ⟨v2, hc1, hf⟩ := c1_e hf
  refine q_V (w' := w) (rest := []) X hml hh (some (.int v2)) (m_X8_isCorner l B D ht hc1) cf_X8_isCorner k_822 ht ci_8 rfl rfl hl.1 rfl (Nat.le_of_ble_eq_true rfl) ⟨Nat.le_of_ble_eq_true rfl, Nat.le_of_ble_eq_true rfl⟩ ⟨Nat.zero_le _, Nat.zero_le _⟩ dX8_product_3 rfl (fun H locs hh => ?_)
  refine lv_if_ne (tgt := 11) hx hb dX8_product_6 (by decide) (fun hc3 => ?_) (fun hc3 => ?_)
  · have hf := if_f hc3 hf
    refine lv_aload_n hx hb dX8_product_11 rfl (lv_at hl 0 rfl) ?_
    obtain ⟨w5, hc4, hf⟩ := c1_e hf
    refine q_V (w' := w5) (rest := []) X hml hh none (m_X8_growsAll l B D ht hc4) cf_X8_growsAll k_827 ht ci_8 rfl rfl hl.1 rfl (Nat.le_of_ble_eq_true rfl) ⟨Nat.le_of_ble_eq_true rfl, Nat.le_of_ble_eq_true rfl⟩ ⟨Nat.zero_le _, Nat.zero_le _⟩ dX8_product_12 rfl (fun H locs hh => ?_)
    refine lv_lconst (v := (1 : Int64)) hx hb dX8_product_15 (by decide) ?_
    refine lv_lstore_n (lv' := [(3, .long (1 : Int64)), (0, .ref (B + t)), (1, .int a0), (2, .int a1)]) hx hb dX8_product_16 rfl hl (by decide) rfl (fun ls hl => ?_)
    refine lv_iconst (v := (0 : Int32)) hx hb dX8_product_17 (by decide) ?_
    refine lv_istore (lv' := [(5, .int (0 : Int32)), (3, .long (1 : Int64)), (0, .ref (B + t)), (1, .int a0), (2, .int a1)]) hx hb dX8_product_18 hl (by decide) rfl (fun ls hl => ?_)
    refine wl2_W (P := fun (x6 : Int64) (x7 : Int32) => ∀ (H : Heap) (locs : List Loc) (ls : Array Slot), Hp B D 153 w5 s H locs → lv_has ls 6 [(0, .ref (B + t)), (1, .int a0), (2, .int a1), (3, .long x6), (5, .int x7)] → W p l e (rmk 3 81 0 0) s m args below meth c H locs 0 0 (MZ below B D 153 w' (some (.int r)) args s 0 0) (F0 m 20 ls [])) hf (fun x6 x7 k8 ih9 hf  H locs ls hh hl => ?_)  _ _ _ hh (lv_sub hl [2, 3, 4, 1, 0] rfl)
    refine lv_iload hx hb dX8_product_20 (lv_at hl 4 rfl) ?_
    refine lv_bipush (v := (80 : Int32)) hx hb dX8_product_22 (by decide) ?_
    refine lv_icmp_ge (tgt := 58) hx hb dX8_product_24 (by decide) (fun hc10 => ?_) (fun hc10 => ?_)
    · have hf := if_t hc10 hf
      refine lv_lload_n hx hb dX8_product_58 rfl (lv_at hl 3 rfl) ?_
      refine lv_l2i hx hb dX8_product_59 rfl ?_
      exact e_i X hr hlk hh (so2_e hf) dX8_product_60
    · have hf := if_f hc10 hf
      refine lv_lload_n hx hb dX8_product_27 rfl (lv_at hl 3 rfl) ?_
      refine lv_aload_n hx hb dX8_product_28 rfl (lv_at hl 0 rfl) ?_
      refine lv_iload_n hx hb dX8_product_29 rfl (lv_at hl 1 rfl) ?_
      refine lv_iload_n hx hb dX8_product_30 rfl (lv_at hl 2 rfl) ?_
      refine lv_iload hx hb dX8_product_31 (lv_at hl 4 rfl) ?_
      obtain ⟨v12, hc11, hf⟩ := c1_e hf
      refine q_V (w' := w5) (rest := [.long x6]) X hml hh (some (.int v12)) (m_X8_partOf l B D ht hc11) cf_X8_partOf k_838 ht ci_8 rfl rfl hl.1 rfl (Nat.le_of_ble_eq_true rfl) ⟨Nat.le_of_ble_eq_true rfl, Nat.le_of_ble_eq_true rfl⟩ ⟨Nat.zero_le _, Nat.zero_le _⟩ dX8_product_33 rfl (fun H locs hh => ?_)
      refine lv_iconst (v := (1 : Int32)) hx hb dX8_product_36 (by decide) ?_
      refine lv_iadd hx hb dX8_product_37 ?_
      refine lv_i2l hx hb dX8_product_38 rfl ?_
      refine lv_lmul hx hb dX8_product_39 ?_
      refine lv_topl (fun x13 e14 => ?_)
      have hf := lt_e e14 hf
      refine lv_lstore_n (lv' := [(3, .long x13), (0, .ref (B + t)), (1, .int a0), (2, .int a1), (5, .int x7)]) hx hb dX8_product_40 rfl hl (by decide) rfl (fun ls hl => ?_)
      refine lv_lload_n hx hb dX8_product_41 rfl (lv_at hl 0 rfl) ?_
      refine lv_ldc2 hx hb X.2.2.1 (X.2.2.2.1 _ k_871) dX8_product_42 ?_
      refine W.lcmp hx hb dX8_product_45 ?_
      refine lv_if_le (tgt := 52) hx hb dX8_product_46 (by decide) (fun hc15 => ?_) (fun hc15 => ?_)
      · have hf := if_t hc15 hf
        obtain ⟨x16, e17⟩ : ∃ y : Int32, y = (x7 + (1 : Int32)) := ⟨_, rfl⟩
        have hf := lt_e e17 hf
        refine lv_iinc (v := x16) (lv' := [(5, .int x16), (3, .long x13), (0, .ref (B + t)), (1, .int a0), (2, .int a1)]) hx hb dX8_product_52 hl (k := 4) rfl (by rw [e17]; rfl) (by decide) rfl (fun ls hl => ?_)
        refine lv_goto (tgt := 20) hx hb dX8_product_55 (by decide) ?_
        exact ih9 _ _ hf  _ _ _ hh (lv_sub hl [2, 3, 4, 1, 0] rfl)
      · have hf := if_f hc15 hf
        refine lv_bipush (v := (-6 : Int32)) hx hb dX8_product_49 (by decide) ?_
        exact e_i X hr hlk hh (so2_e hf) dX8_product_51
  · have hf := if_t hc3 hf
    refine lv_iconst (v := (-1 : Int32)) hx hb dX8_product_9 (by decide) ?_
    exact e_i X hr hlk hh (so2_e hf) dX8_product_10
set_option maxHeartbeats 4000000 in
set_option maxRecDepth 100000 in
theorem m_X8_filling (l : Launch) (B : Nat) (D : DD) {t : Nat} {a0 : Int32} {a1 : Int32} {a2 : Int32} {w : Wd} {r : Int32} {w' : Wd} (ht : t < 153 ∧ kd t = 8) (hf : f_X8_filling t a0 a1 a2 w = some (r, w')) : Ct l yX8_filling cX8_filling 5 (some .int) 3 81 0 0 B D [.ref (B + t), .int a0, .int a1, .int a2] 153 w (some (.int r)) 153 w' := by
  refine m_of (by decide) (Nat.le_of_ble_eq_true rfl) (fun p e s m args below meth c X hml hr hlk _ H locs hh ls hl => ?_)
  have hx := X.1
  have hb := X.2.1
  have hl : lv_has ls 5 [(0, .ref (B + t)), (1, .int a0), (2, .int a1), (3, .int a2)] := hl
  unfold f_X8_filling at hf
  refine lv_iload_n hx hb dX8_filling_0 rfl (lv_at hl 1 rfl) ?_
  refine lv_i2l hx hb dX8_filling_1 rfl ?_
  refine lv_lconst (v := (0 : Int64)) hx hb dX8_filling_2 (by decide) ?_
  refine lv_lconst (v := (1 : Int64)) hx hb dX8_filling_3 (by decide) ?_
  obtain ⟨v2, hc1, hf⟩ := c1_e hf
  refine q_S (w' := w) (rest := []) X hml hh (some (.int v2)) (m_X8_in l B D hc1) cf_X8_in k_767 rfl hl.1 rfl (Nat.le_of_ble_eq_true rfl) ⟨Nat.le_of_ble_eq_true rfl, Nat.le_of_ble_eq_true rfl⟩ ⟨Nat.zero_le _, Nat.zero_le _⟩ dX8_filling_4 rfl (fun H locs hh => ?_)
  refine lv_if_eq (tgt := 34) hx hb dX8_filling_7 (by decide) (fun hc3 => ?_) (fun hc3 => ?_)
  · have hf := if_t hc3 hf
    refine lv_iconst (v := (-1 : Int32)) hx hb dX8_filling_34 (by decide) ?_
    exact e_i X hr hlk hh (so2_e hf) dX8_filling_35
  · have hf := if_f hc3 hf
    refine lv_iload_n hx hb dX8_filling_10 rfl (lv_at hl 2 rfl) ?_
    refine lv_i2l hx hb dX8_filling_11 rfl ?_
    refine lv_lconst (v := (0 : Int64)) hx hb dX8_filling_12 (by decide) ?_
    refine lv_ldc2 hx hb X.2.2.1 (X.2.2.2.1 _ k_826) dX8_filling_13 ?_
    obtain ⟨v5, hc4, hf⟩ := c1_e hf
    refine q_S (w' := w) (rest := []) X hml hh (some (.int v5)) (m_X8_in l B D hc4) cf_X8_in k_767 rfl hl.1 rfl (Nat.le_of_ble_eq_true rfl) ⟨Nat.le_of_ble_eq_true rfl, Nat.le_of_ble_eq_true rfl⟩ ⟨Nat.zero_le _, Nat.zero_le _⟩ dX8_filling_16 rfl (fun H locs hh => ?_)
    refine lv_if_eq (tgt := 34) hx hb dX8_filling_19 (by decide) (fun hc6 => ?_) (fun hc6 => ?_)
    · have hf := if_t hc6 hf
      refine lv_iconst (v := (-1 : Int32)) hx hb dX8_filling_34 (by decide) ?_
      exact e_i X hr hlk hh (so2_e hf) dX8_filling_35
    · have hf := if_f hc6 hf
      refine lv_iload_n hx hb dX8_filling_22 rfl (lv_at hl 3 rfl) ?_
      refine lv_i2l hx hb dX8_filling_23 rfl ?_
      refine lv_lconst (v := (0 : Int64)) hx hb dX8_filling_24 (by decide) ?_
      refine lv_ldc2 hx hb X.2.2.1 (X.2.2.2.1 _ k_826) dX8_filling_25 ?_
      obtain ⟨v8, hc7, hf⟩ := c1_e hf
      refine q_S (w' := w) (rest := []) X hml hh (some (.int v8)) (m_X8_in l B D hc7) cf_X8_in k_767 rfl hl.1 rfl (Nat.le_of_ble_eq_true rfl) ⟨Nat.le_of_ble_eq_true rfl, Nat.le_of_ble_eq_true rfl⟩ ⟨Nat.zero_le _, Nat.zero_le _⟩ dX8_filling_28 rfl (fun H locs hh => ?_)
      refine lv_if_ne (tgt := 36) hx hb dX8_filling_31 (by decide) (fun hc9 => ?_) (fun hc9 => ?_)
      · have hf := if_f hc9 hf
        refine lv_aload_n hx hb dX8_filling_36 rfl (lv_at hl 0 rfl) ?_
        obtain ⟨w11, hc10, hf⟩ := c1_e hf
        refine q_V (w' := w11) (rest := []) X hml hh none (m_X8_growsAll l B D ht hc10) cf_X8_growsAll k_827 ht ci_8 rfl rfl hl.1 rfl (Nat.le_of_ble_eq_true rfl) ⟨Nat.le_of_ble_eq_true rfl, Nat.le_of_ble_eq_true rfl⟩ ⟨Nat.zero_le _, Nat.zero_le _⟩ dX8_filling_37 rfl (fun H locs hh => ?_)
        refine lv_iconst (v := (0 : Int32)) hx hb dX8_filling_40 (by decide) ?_
        refine lv_istore (lv' := [(4, .int (0 : Int32)), (0, .ref (B + t)), (1, .int a0), (2, .int a1), (3, .int a2)]) hx hb dX8_filling_41 hl (by decide) rfl (fun ls hl => ?_)
        refine wl1_W (P := fun (x12 : Int32) => ∀ (H : Heap) (locs : List Loc) (ls : Array Slot), Hp B D 153 w11 s H locs → lv_has ls 5 [(0, .ref (B + t)), (1, .int a0), (2, .int a1), (3, .int a2), (4, .int x12)] → W p l e (rmk 3 81 0 0) s m args below meth c H locs 0 0 (MZ below B D 153 w' (some (.int r)) args s 0 0) (F0 m 43 ls [])) hf (fun x12 k13 ih14 hf  H locs ls hh hl => ?_)  _ _ _ hh (lv_sub hl [1, 2, 3, 4, 0] rfl)
        refine lv_iload hx hb dX8_filling_43 (lv_at hl 4 rfl) ?_
        refine lv_iload_n hx hb dX8_filling_45 rfl (lv_at hl 1 rfl) ?_
        refine mg_W (P := fun (x16 : Int32) => ∀ (ls : Array Slot), lv_has ls 5 [(0, .ref (B + t)), (1, .int a0), (2, .int a1), (3, .int a2), (4, .int x12)] → W p l e (rmk 3 81 0 0) s m args below meth c H locs 0 0 (MZ below B D 153 w' (some (.int r)) args s 0 0) (F0 m 60 ls [.int x16, .int x12])) hf (fun x16 hf ls hl => ?_) (fun hj28 => ?_)
        · refine lv_icmp_gt (tgt := 105) hx hb dX8_filling_60 (by decide) (fun hc17 => ?_) (fun hc17 => ?_)
          · have hf := if_t hc17 hf
            refine lv_bipush (v := (-2 : Int32)) hx hb dX8_filling_105 (by decide) ?_
            exact e_i X hr hlk hh (so2_e hf) dX8_filling_107
          · have hf := if_f hc17 hf
            refine lv_iload_n hx hb dX8_filling_63 rfl (lv_at hl 1 rfl) ?_
            refine jn_W (P := fun j20 => ∀ (x19 : Int32), j20 x19 = some (r, w') → ∀ (H : Heap) (locs : List Loc) (ls : Array Slot), Hp B D 153 w11 s H locs → lv_has ls 5 [(0, .ref (B + t)), (1, .int a0), (2, .int a1), (3, .int a2), (4, .int x12)] → W p l e (rmk 3 81 0 0) s m args below meth c H locs 0 0 (MZ below B D 153 w' (some (.int r)) args s 0 0) (F0 m 92 ls [.int x19])) hf (fun x19 hf  H locs ls hh hl => ?_) (fun j20 hj20 hf => ?_)
            · refine lv_iload_n hx hb dX8_filling_92 rfl (lv_at hl 3 rfl) ?_
              refine lv_icmp_le (tgt := 99) hx hb dX8_filling_93 (by decide) (fun hc21 => ?_) (fun hc21 => ?_)
              · have hf := if_t hc21 hf
                obtain ⟨x22, e23⟩ : ∃ y : Int32, y = (x12 + (1 : Int32)) := ⟨_, rfl⟩
                have hf := lt_e e23 hf
                refine lv_iinc (v := x22) (lv' := [(4, .int x22), (0, .ref (B + t)), (1, .int a0), (2, .int a1), (3, .int a2)]) hx hb dX8_filling_99 hl (k := 4) rfl (by rw [e23]; rfl) (by decide) rfl (fun ls hl => ?_)
                refine lv_goto (tgt := 43) hx hb dX8_filling_102 (by decide) ?_
                exact ih14 _ hf  _ _ _ hh (lv_sub hl [1, 2, 3, 4, 0] rfl)
              · have hf := if_f hc21 hf
                refine lv_iload hx hb dX8_filling_96 (lv_at hl 4 rfl) ?_
                exact e_i X hr hlk hh (so2_e hf) dX8_filling_98
            · refine lv_if_ne (tgt := 81) hx hb dX8_filling_64 (by decide) (fun hc18 => ?_) (fun hc18 => ?_)
              · have hf := if_f hc18 hf
                refine lv_aload_n hx hb dX8_filling_81 rfl (lv_at hl 0 rfl) ?_
                refine lv_iload hx hb dX8_filling_82 (lv_at hl 4 rfl) ?_
                refine lv_aload_n hx hb dX8_filling_84 rfl (lv_at hl 0 rfl) ?_
                refine r_gi X hh ht fk_X8_15 dX8_filling_85 ?_
                refine lv_iload_n hx hb dX8_filling_88 rfl (lv_at hl 2 rfl) ?_
                obtain ⟨v25, hc24, hf⟩ := c1_e hf
                refine q_V (w' := w11) (rest := []) X hml hh (some (.int v25)) (m_X8_partOf l B D ht hc24) cf_X8_partOf k_838 ht ci_8 rfl rfl hl.1 rfl (Nat.le_of_ble_eq_true rfl) ⟨Nat.le_of_ble_eq_true rfl, Nat.le_of_ble_eq_true rfl⟩ ⟨Nat.zero_le _, Nat.zero_le _⟩ dX8_filling_89 rfl (fun H locs hh => ?_)
                exact hj20 _ hf  _ _ _ hh (lv_sub hl [0, 1, 2, 3, 4] rfl)
              · have hf := if_t hc18 hf
                refine lv_aload_n hx hb dX8_filling_67 rfl (lv_at hl 0 rfl) ?_
                refine lv_aload_n hx hb dX8_filling_68 rfl (lv_at hl 0 rfl) ?_
                refine r_gi X hh ht fk_X8_9 dX8_filling_69 ?_
                refine lv_iload hx hb dX8_filling_72 (lv_at hl 4 rfl) ?_
                refine lv_iload_n hx hb dX8_filling_74 rfl (lv_at hl 2 rfl) ?_
                obtain ⟨v27, hc26, hf⟩ := c1_e hf
                refine q_V (w' := w11) (rest := []) X hml hh (some (.int v27)) (m_X8_partOf l B D ht hc26) cf_X8_partOf k_838 ht ci_8 rfl rfl hl.1 rfl (Nat.le_of_ble_eq_true rfl) ⟨Nat.le_of_ble_eq_true rfl, Nat.le_of_ble_eq_true rfl⟩ ⟨Nat.zero_le _, Nat.zero_le _⟩ dX8_filling_75 rfl (fun H locs hh => ?_)
                refine lv_goto (tgt := 92) hx hb dX8_filling_78 (by decide) ?_
                exact hj20 _ hf  _ _ _ hh (lv_sub hl [0, 1, 2, 3, 4] rfl)
        · refine lv_if_ne (tgt := 56) hx hb dX8_filling_46 (by decide) (fun hc15 => ?_) (fun hc15 => ?_)
          · refine lv_aload_n hx hb dX8_filling_56 rfl (lv_at hl 0 rfl) ?_
            refine r_gi X hh ht fk_X8_9 dX8_filling_57 ?_
            exact hj28 _ (by rw [if_neg hc15]) ls (lv_sub hl [0, 1, 2, 3, 4] rfl)
          · refine lv_aload_n hx hb dX8_filling_49 rfl (lv_at hl 0 rfl) ?_
            refine r_gi X hh ht fk_X8_15 dX8_filling_50 ?_
            refine lv_goto (tgt := 60) hx hb dX8_filling_53 (by decide) ?_
            exact hj28 _ (by rw [if_pos hc15]) ls (lv_sub hl [0, 1, 2, 3, 4] rfl)
      · have hf := if_t hc9 hf
        refine lv_iconst (v := (-1 : Int32)) hx hb dX8_filling_34 (by decide) ?_
        exact e_i X hr hlk hh (so2_e hf) dX8_filling_35
set_option maxHeartbeats 4000000 in
set_option maxRecDepth 100000 in
theorem m_X8_along (l : Launch) (B : Nat) (D : DD) {t : Nat} {a0 : Int32} {a1 : Int32} {w : Wd} {r : Int32} {w' : Wd} (ht : t < 153 ∧ kd t = 8) (hf : f_X8_along t a0 a1 w = some (r, w')) : Ct l yX8_along cX8_along 8 (some .int) 3 81 0 0 B D [.ref (B + t), .int a0, .int a1] 153 w (some (.int r)) 153 w' := by
  refine m_of (by decide) (Nat.le_of_ble_eq_true rfl) (fun p e s m args below meth c X hml hr hlk _ H locs hh ls hl => ?_)
  have hx := X.1
  have hb := X.2.1
  have hl : lv_has ls 8 [(0, .ref (B + t)), (1, .int a0), (2, .int a1)] := hl
  unfold f_X8_along at hf
  refine lv_iload_n hx hb dX8_along_0 rfl (lv_at hl 1 rfl) ?_
  refine lv_i2l hx hb dX8_along_1 rfl ?_
  refine lv_lconst (v := (0 : Int64)) hx hb dX8_along_2 (by decide) ?_
  refine lv_iconst (v := (1 : Int32)) hx hb dX8_along_3 (by decide) ?_
  refine lv_aload_n hx hb dX8_along_4 rfl (lv_at hl 0 rfl) ?_
  refine r_gi X hh ht fk_X8_9 dX8_along_5 ?_
  refine lv_aload_n hx hb dX8_along_8 rfl (lv_at hl 0 rfl) ?_
  refine r_gi X hh ht fk_X8_15 dX8_along_9 ?_
  refine lv_iadd hx hb dX8_along_12 ?_
  refine lv_ishl hx hb dX8_along_13 ?_
  refine lv_iconst (v := (1 : Int32)) hx hb dX8_along_14 (by decide) ?_
  refine lv_isub hx hb dX8_along_15 ?_
  refine lv_i2l hx hb dX8_along_16 rfl ?_
  obtain ⟨v2, hc1, hf⟩ := c1_e hf
  refine q_S (w' := w) (rest := []) X hml hh (some (.int v2)) (m_X8_in l B D hc1) cf_X8_in k_767 rfl hl.1 rfl (Nat.le_of_ble_eq_true rfl) ⟨Nat.le_of_ble_eq_true rfl, Nat.le_of_ble_eq_true rfl⟩ ⟨Nat.zero_le _, Nat.zero_le _⟩ dX8_along_17 rfl (fun H locs hh => ?_)
  refine lv_if_eq (tgt := 42) hx hb dX8_along_20 (by decide) (fun hc3 => ?_) (fun hc3 => ?_)
  · have hf := if_t hc3 hf
    refine lv_iconst (v := (-1 : Int32)) hx hb dX8_along_42 (by decide) ?_
    exact e_i X hr hlk hh (so2_e hf) dX8_along_43
  · have hf := if_f hc3 hf
    refine lv_iload_n hx hb dX8_along_23 rfl (lv_at hl 2 rfl) ?_
    refine lv_i2l hx hb dX8_along_24 rfl ?_
    refine lv_lconst (v := (0 : Int64)) hx hb dX8_along_25 (by decide) ?_
    refine lv_aload_n hx hb dX8_along_26 rfl (lv_at hl 0 rfl) ?_
    refine r_gi X hh ht fk_X8_9 dX8_along_27 ?_
    refine lv_aload_n hx hb dX8_along_30 rfl (lv_at hl 0 rfl) ?_
    refine r_gi X hh ht fk_X8_15 dX8_along_31 ?_
    refine lv_iadd hx hb dX8_along_34 ?_
    refine lv_i2l hx hb dX8_along_35 rfl ?_
    obtain ⟨v5, hc4, hf⟩ := c1_e hf
    refine q_S (w' := w) (rest := []) X hml hh (some (.int v5)) (m_X8_in l B D hc4) cf_X8_in k_767 rfl hl.1 rfl (Nat.le_of_ble_eq_true rfl) ⟨Nat.le_of_ble_eq_true rfl, Nat.le_of_ble_eq_true rfl⟩ ⟨Nat.zero_le _, Nat.zero_le _⟩ dX8_along_36 rfl (fun H locs hh => ?_)
    refine lv_if_ne (tgt := 44) hx hb dX8_along_39 (by decide) (fun hc6 => ?_) (fun hc6 => ?_)
    · have hf := if_f hc6 hf
      refine lv_iconst (v := (0 : Int32)) hx hb dX8_along_44 (by decide) ?_
      refine lv_istore_n (lv' := [(3, .int (0 : Int32)), (0, .ref (B + t)), (1, .int a0), (2, .int a1)]) hx hb dX8_along_45 rfl hl (by decide) rfl (fun ls hl => ?_)
      refine lv_aload_n hx hb dX8_along_46 rfl (lv_at hl 1 rfl) ?_
      refine r_gi X hh ht fk_X8_15 dX8_along_47 ?_
      refine lv_topi (fun x7 e8 => ?_)
      have hf := lt_e e8 hf
      refine lv_istore (lv' := [(4, .int x7), (3, .int (0 : Int32)), (0, .ref (B + t)), (1, .int a0), (2, .int a1)]) hx hb dX8_along_50 hl (by decide) rfl (fun ls hl => ?_)
      refine lv_iconst (v := (0 : Int32)) hx hb dX8_along_52 (by decide) ?_
      refine lv_istore (lv' := [(5, .int (0 : Int32)), (4, .int x7), (3, .int (0 : Int32)), (0, .ref (B + t)), (1, .int a0), (2, .int a1)]) hx hb dX8_along_53 hl (by decide) rfl (fun ls hl => ?_)
      refine lv_aload_n hx hb dX8_along_55 rfl (lv_at hl 3 rfl) ?_
      refine r_gi X hh ht fk_X8_15 dX8_along_56 ?_
      refine lv_topi (fun x9 e10 => ?_)
      have hf := lt_e e10 hf
      refine lv_istore (lv' := [(6, .int x9), (5, .int (0 : Int32)), (4, .int x7), (3, .int (0 : Int32)), (0, .ref (B + t)), (1, .int a0), (2, .int a1)]) hx hb dX8_along_59 hl (by decide) rfl (fun ls hl => ?_)
      refine lv_iconst (v := (0 : Int32)) hx hb dX8_along_61 (by decide) ?_
      refine lv_istore (lv' := [(7, .int (0 : Int32)), (6, .int x9), (5, .int (0 : Int32)), (4, .int x7), (3, .int (0 : Int32)), (0, .ref (B + t)), (1, .int a0), (2, .int a1)]) hx hb dX8_along_62 hl (by decide) rfl (fun ls hl => ?_)
      refine wl5_W (P := fun (x11 : Int32) (x12 : Int32) (x13 : Int32) (x14 : Int32) (x15 : Int32) => ∀ (H : Heap) (locs : List Loc) (ls : Array Slot), Hp B D 153 w s H locs → lv_has ls 8 [(0, .ref (B + t)), (1, .int a0), (2, .int a1), (3, .int x11), (4, .int x12), (5, .int x13), (6, .int x14), (7, .int x15)] → W p l e (rmk 3 81 0 0) s m args below meth c H locs 0 0 (MZ below B D 153 w' (some (.int r)) args s 0 0) (F0 m 64 ls [])) hf (fun x11 x12 x13 x14 x15 k16 ih17 hf  H locs ls hh hl => ?_)  _ _ _ hh (lv_sub hl [5, 6, 7, 4, 3, 2, 1, 0] rfl)
      refine lv_iload hx hb dX8_along_64 (lv_at hl 7 rfl) ?_
      refine lv_aload_n hx hb dX8_along_66 rfl (lv_at hl 0 rfl) ?_
      refine r_gi X hh ht fk_X8_9 dX8_along_67 ?_
      refine lv_aload_n hx hb dX8_along_70 rfl (lv_at hl 0 rfl) ?_
      refine r_gi X hh ht fk_X8_15 dX8_along_71 ?_
      refine lv_iadd hx hb dX8_along_74 ?_
      refine lv_icmp_ge (tgt := 117) hx hb dX8_along_75 (by decide) (fun hc18 => ?_) (fun hc18 => ?_)
      · have hf := if_t hc18 hf
        refine lv_iload_n hx hb dX8_along_117 rfl (lv_at hl 3 rfl) ?_
        refine lv_aload_n hx hb dX8_along_118 rfl (lv_at hl 0 rfl) ?_
        refine r_gi X hh ht fk_X8_9 dX8_along_119 ?_
        refine lv_icmp_eq (tgt := 127) hx hb dX8_along_122 (by decide) (fun hc19 => ?_) (fun hc19 => ?_)
        · have hf := if_t hc19 hf
          refine lv_aload_n hx hb dX8_along_127 rfl (lv_at hl 0 rfl) ?_
          obtain ⟨w21, hc20, hf⟩ := c1_e hf
          refine q_V (w' := w21) (rest := []) X hml hh none (m_X8_growsAll l B D ht hc20) cf_X8_growsAll k_827 ht ci_8 rfl rfl hl.1 rfl (Nat.le_of_ble_eq_true rfl) ⟨Nat.le_of_ble_eq_true rfl, Nat.le_of_ble_eq_true rfl⟩ ⟨Nat.zero_le _, Nat.zero_le _⟩ dX8_along_128 rfl (fun H locs hh => ?_)
          refine lv_aload_n hx hb dX8_along_131 rfl (lv_at hl 0 rfl) ?_
          refine lv_iload hx hb dX8_along_132 (lv_at hl 5 rfl) ?_
          refine lv_iload hx hb dX8_along_134 (lv_at hl 6 rfl) ?_
          obtain ⟨v23, hc22, hf⟩ := c1_e hf
          refine q_V (w' := w21) (rest := []) X hml hh (some (.int v23)) (m_X8_sizeOf l B D ht hc22) cf_X8_sizeOf k_846 ht ci_8 rfl rfl hl.1 rfl (Nat.le_of_ble_eq_true rfl) ⟨Nat.le_of_ble_eq_true rfl, Nat.le_of_ble_eq_true rfl⟩ ⟨Nat.zero_le _, Nat.zero_le _⟩ dX8_along_136 rfl (fun H locs hh => ?_)
          exact e_i X hr hlk hh (so2_e hf) dX8_along_139
        · have hf := if_f hc19 hf
          refine lv_iconst (v := (-1 : Int32)) hx hb dX8_along_125 (by decide) ?_
          exact e_i X hr hlk hh (so2_e hf) dX8_along_126
      · have hf := if_f hc18 hf
        refine lv_iload_n hx hb dX8_along_78 rfl (lv_at hl 1 rfl) ?_
        refine lv_iload hx hb dX8_along_79 (lv_at hl 7 rfl) ?_
        refine lv_ishr hx hb dX8_along_81 ?_
        refine lv_iconst (v := (1 : Int32)) hx hb dX8_along_82 (by decide) ?_
        refine lv_iand hx hb dX8_along_83 ?_
        refine jn_W (P := fun j27 => ∀ (x25 : Int32) (x26 : Int32), j27 x25 x26 = some (r, w') → ∀ (H : Heap) (locs : List Loc) (ls : Array Slot), Hp B D 153 w s H locs → lv_has ls 8 [(0, .ref (B + t)), (1, .int a0), (2, .int a1), (3, .int x25), (4, .int x26), (5, .int x13), (6, .int x14), (7, .int x15)] → W p l e (rmk 3 81 0 0) s m args below meth c H locs 0 0 (MZ below B D 153 w' (some (.int r)) args s 0 0) (F0 m 96 ls [])) hf (fun x25 x26 hf  H locs ls hh hl => ?_) (fun j27 hj27 hf => ?_)
        · refine lv_iload hx hb dX8_along_96 (lv_at hl 7 rfl) ?_
          refine lv_iconst (v := (1 : Int32)) hx hb dX8_along_98 (by decide) ?_
          refine lv_iadd hx hb dX8_along_99 ?_
          refine lv_iload_n hx hb dX8_along_100 rfl (lv_at hl 2 rfl) ?_
          refine mg_W2 (P := fun (x29 : Int32) (x30 : Int32) => ∀ (ls : Array Slot), lv_has ls 8 [(0, .ref (B + t)), (1, .int a0), (2, .int a1), (3, .int x25), (4, .int x26), (5, .int x29), (6, .int x30), (7, .int x15)] → W p l e (rmk 3 81 0 0) s m args below meth c H locs 0 0 (MZ below B D 153 w' (some (.int r)) args s 0 0) (F0 m 111 ls [])) hf (fun x29 x30 hf ls hl => ?_) (fun hj33 => ?_)
          · obtain ⟨x31, e32⟩ : ∃ y : Int32, y = (x15 + (1 : Int32)) := ⟨_, rfl⟩
            have hf := lt_e e32 hf
            refine lv_iinc (v := x31) (lv' := [(7, .int x31), (0, .ref (B + t)), (1, .int a0), (2, .int a1), (3, .int x25), (4, .int x26), (5, .int x29), (6, .int x30)]) hx hb dX8_along_111 hl (k := 7) rfl (by rw [e32]; rfl) (by decide) rfl (fun ls hl => ?_)
            refine lv_goto (tgt := 64) hx hb dX8_along_114 (by decide) ?_
            exact ih17 _ _ _ _ _ hf  _ _ _ hh (lv_sub hl [1, 2, 3, 4, 5, 6, 7, 0] rfl)
          · refine lv_icmp_ne (tgt := 111) hx hb dX8_along_101 (by decide) (fun hc28 => ?_) (fun hc28 => ?_)
            · exact hj33 _ (by rw [if_neg hc28]) _ (by rw [if_neg hc28]) ls (lv_sub hl [0, 1, 2, 3, 4, 5, 6, 7] rfl)
            · refine lv_iload_n hx hb dX8_along_104 rfl (lv_at hl 3 rfl) ?_
              refine lv_istore (lv' := [(5, .int x25), (0, .ref (B + t)), (1, .int a0), (2, .int a1), (3, .int x25), (4, .int x26), (6, .int x14), (7, .int x15)]) hx hb dX8_along_105 hl (by decide) rfl (fun ls hl => ?_)
              refine lv_iload hx hb dX8_along_107 (lv_at hl 5 rfl) ?_
              refine lv_istore (lv' := [(6, .int x26), (5, .int x25), (0, .ref (B + t)), (1, .int a0), (2, .int a1), (3, .int x25), (4, .int x26), (7, .int x15)]) hx hb dX8_along_109 hl (by decide) rfl (fun ls hl => ?_)
              exact hj33 _ (by rw [if_pos hc28]) _ (by rw [if_pos hc28]) ls (lv_sub hl [2, 3, 4, 5, 6, 1, 0, 7] rfl)
        · refine lv_if_ne (tgt := 93) hx hb dX8_along_84 (by decide) (fun hc24 => ?_) (fun hc24 => ?_)
          · have hf := if_f hc24 hf
            obtain ⟨x34, e35⟩ : ∃ y : Int32, y = (x12 + (-1 : Int32)) := ⟨_, rfl⟩
            have hf := lt_e e35 hf
            refine lv_iinc (v := x34) (lv' := [(4, .int x34), (0, .ref (B + t)), (1, .int a0), (2, .int a1), (3, .int x11), (5, .int x13), (6, .int x14), (7, .int x15)]) hx hb dX8_along_93 hl (k := 4) rfl (by rw [e35]; rfl) (by decide) rfl (fun ls hl => ?_)
            exact hj27 _ _ hf  _ _ _ hh (lv_sub hl [1, 2, 3, 4, 0, 5, 6, 7] rfl)
          · have hf := if_t hc24 hf
            obtain ⟨x36, e37⟩ : ∃ y : Int32, y = (x11 + (1 : Int32)) := ⟨_, rfl⟩
            have hf := lt_e e37 hf
            refine lv_iinc (v := x36) (lv' := [(3, .int x36), (0, .ref (B + t)), (1, .int a0), (2, .int a1), (4, .int x12), (5, .int x13), (6, .int x14), (7, .int x15)]) hx hb dX8_along_87 hl (k := 3) rfl (by rw [e37]; rfl) (by decide) rfl (fun ls hl => ?_)
            refine lv_goto (tgt := 96) hx hb dX8_along_90 (by decide) ?_
            exact hj27 _ _ hf  _ _ _ hh (lv_sub hl [1, 2, 3, 0, 4, 5, 6, 7] rfl)
    · have hf := if_t hc6 hf
      refine lv_iconst (v := (-1 : Int32)) hx hb dX8_along_42 (by decide) ?_
      exact e_i X hr hlk hh (so2_e hf) dX8_along_43
set_option maxHeartbeats 4000000 in
set_option maxRecDepth 100000 in
theorem m_X8_goesOn (l : Launch) (B : Nat) (D : DD) {t : Nat} {a0 : Int32} {a1 : Int32} {a2 : Int32} {w : Wd} {r : Int32} (ht : t < 153 ∧ kd t = 8) (hf : f_X8_goesOn t a0 a1 a2 w = some r) : Ct l yX8_goesOn cX8_goesOn 8 (some .boolean) 0 0 0 0 B D [.ref (B + t), .int a0, .int a1, .int a2] 153 w (some (.int r)) 153 w := by
  refine m_of (by decide) (Nat.le_of_ble_eq_true rfl) (fun p e s m args below meth c X hml hr hlk _ H locs hh ls hl => ?_)
  have hx := X.1
  have hb := X.2.1
  have hl : lv_has ls 8 [(0, .ref (B + t)), (1, .int a0), (2, .int a1), (3, .int a2)] := hl
  unfold f_X8_goesOn at hf
  refine lv_iconst (v := (0 : Int32)) hx hb dX8_goesOn_0 (by decide) ?_
  refine lv_istore (lv' := [(4, .int (0 : Int32)), (0, .ref (B + t)), (1, .int a0), (2, .int a1), (3, .int a2)]) hx hb dX8_goesOn_1 hl (by decide) rfl (fun ls hl => ?_)
  refine wl1_W (P := fun (x1 : Int32) => ∀ (H : Heap) (locs : List Loc) (ls : Array Slot), Hp B D 153 w s H locs → lv_has ls 8 [(0, .ref (B + t)), (1, .int a0), (2, .int a1), (3, .int a2), (4, .int x1)] → W p l e (rmk 0 0 0 0) s m args below meth c H locs 0 0 (MZ below B D 153 w (some (.int r)) args s 0 0) (F0 m 3 ls [])) hf (fun x1 k2 ih3 hf  H locs ls hh hl => ?_)  _ _ _ hh (lv_sub hl [1, 2, 3, 4, 0] rfl)
  refine lv_iload hx hb dX8_goesOn_3 (lv_at hl 4 rfl) ?_
  refine lv_bipush (v := (80 : Int32)) hx hb dX8_goesOn_5 (by decide) ?_
  refine lv_icmp_ge (tgt := 103) hx hb dX8_goesOn_7 (by decide) (fun hc4 => ?_) (fun hc4 => ?_)
  · have hf := if_t hc4 hf
    refine lv_iconst (v := (1 : Int32)) hx hb dX8_goesOn_103 (by decide) ?_
    exact e_z X hr hlk hh (Or.inr rfl) ⟨so_e hf, rfl⟩ dX8_goesOn_104
  · have hf := if_f hc4 hf
    refine lv_aload_n hx hb dX8_goesOn_10 rfl (lv_at hl 0 rfl) ?_
    refine q_gr (P := 9) X hh ht fk_X8_31 dX8_goesOn_11 hf (fun t5 h6 hf => ?_)
    refine lv_iload_n hx hb dX8_goesOn_14 rfl (lv_at hl 1 rfl) ?_
    refine lv_iload hx hb dX8_goesOn_15 (lv_at hl 4 rfl) ?_
    refine lv_iadd hx hb dX8_goesOn_17 ?_
    refine q_ald X hh h6 dX8_goesOn_18 hf (fun hf => ?_)
    refine lv_topi (fun x8 e9 => ?_)
    have hf := lt_e e9 hf
    refine lv_istore (lv' := [(5, .int x8), (0, .ref (B + t)), (1, .int a0), (2, .int a1), (3, .int a2), (4, .int x1)]) hx hb dX8_goesOn_19 hl (by decide) rfl (fun ls hl => ?_)
    refine lv_aload_n hx hb dX8_goesOn_21 rfl (lv_at hl 1 rfl) ?_
    refine q_gr (P := 9) X hh ht fk_X8_31 dX8_goesOn_22 hf (fun t10 h11 hf => ?_)
    refine lv_iload_n hx hb dX8_goesOn_25 rfl (lv_at hl 3 rfl) ?_
    refine lv_iload hx hb dX8_goesOn_26 (lv_at hl 5 rfl) ?_
    refine lv_iadd hx hb dX8_goesOn_28 ?_
    refine q_ald X hh h11 dX8_goesOn_29 hf (fun hf => ?_)
    refine lv_topi (fun x13 e14 => ?_)
    have hf := lt_e e14 hf
    refine lv_istore (lv' := [(6, .int x13), (5, .int x8), (0, .ref (B + t)), (1, .int a0), (2, .int a1), (3, .int a2), (4, .int x1)]) hx hb dX8_goesOn_30 hl (by decide) rfl (fun ls hl => ?_)
    refine lv_iload hx hb dX8_goesOn_32 (lv_at hl 6 rfl) ?_
    refine lv_iconst (v := (1 : Int32)) hx hb dX8_goesOn_34 (by decide) ?_
    refine lv_iadd hx hb dX8_goesOn_35 ?_
    refine lv_bipush (v := (80 : Int32)) hx hb dX8_goesOn_36 (by decide) ?_
    refine jn_W (P := fun j17 => ∀ (x16 : Int32), j17 x16 = some r → ∀ (H : Heap) (locs : List Loc) (ls : Array Slot), Hp B D 153 w s H locs → lv_has ls 8 [(0, .ref (B + t)), (1, .int a0), (2, .int a1), (3, .int a2), (4, .int x1), (5, .int x8), (6, .int x13)] → W p l e (rmk 0 0 0 0) s m args below meth c H locs 0 0 (MZ below B D 153 w (some (.int r)) args s 0 0) (F0 m 56 ls [.int x16])) hf (fun x16 hf  H locs ls hh hl => ?_) (fun j17 hj17 hf => ?_)
    · refine lv_istore (lv' := [(7, .int x16), (0, .ref (B + t)), (1, .int a0), (2, .int a1), (3, .int a2), (4, .int x1), (5, .int x8), (6, .int x13)]) hx hb dX8_goesOn_56 hl (by decide) rfl (fun ls hl => ?_)
      refine lv_iload_n hx hb dX8_goesOn_58 rfl (lv_at hl 4 rfl) ?_
      refine jn_W (P := fun j19 => j19 = some r → ∀ (H : Heap) (locs : List Loc) (ls : Array Slot), Hp B D 153 w s H locs → lv_has ls 8 [(0, .ref (B + t)), (1, .int a0), (2, .int a1), (3, .int a2), (4, .int x1)] → W p l e (rmk 0 0 0 0) s m args below meth c H locs 0 0 (MZ below B D 153 w (some (.int r)) args s 0 0) (F0 m 97 ls [])) hf (fun  hf  H locs ls hh hl => ?_) (fun j19 hj19 hf => ?_)
      · obtain ⟨x20, e21⟩ : ∃ y : Int32, y = (x1 + (1 : Int32)) := ⟨_, rfl⟩
        have hf := lt_e e21 hf
        refine lv_iinc (v := x20) (lv' := [(4, .int x20), (0, .ref (B + t)), (1, .int a0), (2, .int a1), (3, .int a2)]) hx hb dX8_goesOn_97 hl (k := 4) rfl (by rw [e21]; rfl) (by decide) rfl (fun ls hl => ?_)
        refine lv_goto (tgt := 3) hx hb dX8_goesOn_100 (by decide) ?_
        exact ih3 _ hf  _ _ _ hh (lv_sub hl [1, 2, 3, 4, 0] rfl)
      · refine lv_if_eq (tgt := 79) hx hb dX8_goesOn_59 (by decide) (fun hc18 => ?_) (fun hc18 => ?_)
        · have hf := if_t hc18 hf
          refine lv_iload hx hb dX8_goesOn_79 (lv_at hl 6 rfl) ?_
          refine lv_iload hx hb dX8_goesOn_81 (lv_at hl 7 rfl) ?_
          refine lv_icmp_eq (tgt := 97) hx hb dX8_goesOn_83 (by decide) (fun hc22 => ?_) (fun hc22 => ?_)
          · have hf := if_t hc22 hf
            exact hj19  hf  _ _ _ hh (lv_sub hl [1, 2, 3, 4, 5] rfl)
          · have hf := if_f hc22 hf
            refine lv_iload hx hb dX8_goesOn_86 (lv_at hl 6 rfl) ?_
            refine lv_iload hx hb dX8_goesOn_88 (lv_at hl 7 rfl) ?_
            refine lv_iconst (v := (1 : Int32)) hx hb dX8_goesOn_90 (by decide) ?_
            refine lv_iadd hx hb dX8_goesOn_91 ?_
            refine lv_icmp_eq (tgt := 97) hx hb dX8_goesOn_92 (by decide) (fun hc23 => ?_) (fun hc23 => ?_)
            · have hf := if_t hc23 hf
              exact hj19  hf  _ _ _ hh (lv_sub hl [1, 2, 3, 4, 5] rfl)
            · have hf := if_f hc23 hf
              refine lv_iconst (v := (0 : Int32)) hx hb dX8_goesOn_95 (by decide) ?_
              exact e_z X hr hlk hh (Or.inl rfl) ⟨so_e hf, rfl⟩ dX8_goesOn_96
        · have hf := if_f hc18 hf
          refine lv_iload hx hb dX8_goesOn_62 (lv_at hl 6 rfl) ?_
          refine lv_iload hx hb dX8_goesOn_64 (lv_at hl 7 rfl) ?_
          refine lv_icmp_lt (tgt := 95) hx hb dX8_goesOn_66 (by decide) (fun hc24 => ?_) (fun hc24 => ?_)
          · have hf := if_t hc24 hf
            refine lv_iconst (v := (0 : Int32)) hx hb dX8_goesOn_95 (by decide) ?_
            exact e_z X hr hlk hh (Or.inl rfl) ⟨so_e hf, rfl⟩ dX8_goesOn_96
          · have hf := if_f hc24 hf
            refine lv_iload hx hb dX8_goesOn_69 (lv_at hl 7 rfl) ?_
            refine lv_iload hx hb dX8_goesOn_71 (lv_at hl 0 rfl) ?_
            refine lv_icmp_ge (tgt := 97) hx hb dX8_goesOn_73 (by decide) (fun hc25 => ?_) (fun hc25 => ?_)
            · have hf := if_t hc25 hf
              exact hj19  hf  _ _ _ hh (lv_sub hl [1, 2, 3, 4, 5] rfl)
            · have hf := if_f hc25 hf
              refine lv_goto (tgt := 95) hx hb dX8_goesOn_76 (by decide) ?_
              refine lv_iconst (v := (0 : Int32)) hx hb dX8_goesOn_95 (by decide) ?_
              exact e_z X hr hlk hh (Or.inl rfl) ⟨so_e hf, rfl⟩ dX8_goesOn_96
    · refine lv_icmp_ge (tgt := 55) hx hb dX8_goesOn_38 (by decide) (fun hc15 => ?_) (fun hc15 => ?_)
      · have hf := if_t hc15 hf
        refine lv_iconst (v := (0 : Int32)) hx hb dX8_goesOn_55 (by decide) ?_
        exact hj17 _ hf  _ _ _ hh (lv_sub hl [2, 3, 4, 5, 6, 1, 0] rfl)
      · have hf := if_f hc15 hf
        refine lv_aload_n hx hb dX8_goesOn_41 rfl (lv_at hl 2 rfl) ?_
        refine q_gr (P := 9) X hh ht fk_X8_31 dX8_goesOn_42 hf (fun t26 h27 hf => ?_)
        refine lv_iload_n hx hb dX8_goesOn_45 rfl (lv_at hl 3 rfl) ?_
        refine lv_iload hx hb dX8_goesOn_46 (lv_at hl 6 rfl) ?_
        refine lv_iadd hx hb dX8_goesOn_48 ?_
        refine lv_iconst (v := (1 : Int32)) hx hb dX8_goesOn_49 (by decide) ?_
        refine lv_iadd hx hb dX8_goesOn_50 ?_
        refine q_ald X hh h27 dX8_goesOn_51 hf (fun hf => ?_)
        refine lv_topi (fun x29 e30 => ?_)
        have hf := lt_e e30 hf
        refine lv_goto (tgt := 56) hx hb dX8_goesOn_52 (by decide) ?_
        exact hj17 _ hf  _ _ _ hh (lv_sub hl [2, 3, 4, 5, 6, 1, 0] rfl)
set_option maxHeartbeats 4000000 in
set_option maxRecDepth 100000 in
theorem m_X8_fitsNow (l : Launch) (B : Nat) (D : DD) {t : Nat} {a0 : Int32} {w : Wd} {r : Int32} (ht : t < 153 ∧ kd t = 8) (hf : f_X8_fitsNow t a0 w = some r) : Ct l yX8_fitsNow cX8_fitsNow 3 (some .boolean) 1 27 0 0 B D [.ref (B + t), .int a0] 153 w (some (.int r)) 153 w := by
  refine m_of (by decide) (Nat.le_of_ble_eq_true rfl) (fun p e s m args below meth c X hml hr hlk _ H locs hh ls hl => ?_)
  have hx := X.1
  have hb := X.2.1
  have hl : lv_has ls 3 [(0, .ref (B + t)), (1, .int a0)] := hl
  unfold f_X8_fitsNow at hf
  refine lv_iconst (v := (1 : Int32)) hx hb dX8_fitsNow_0 (by decide) ?_
  refine lv_istore_n (lv' := [(2, .int (1 : Int32)), (0, .ref (B + t)), (1, .int a0)]) hx hb dX8_fitsNow_1 rfl hl (by decide) rfl (fun ls hl => ?_)
  refine wl1_W (P := fun (x1 : Int32) => ∀ (H : Heap) (locs : List Loc) (ls : Array Slot), Hp B D 153 w s H locs → lv_has ls 3 [(0, .ref (B + t)), (1, .int a0), (2, .int x1)] → W p l e (rmk 1 27 0 0) s m args below meth c H locs 0 0 (MZ below B D 153 w (some (.int r)) args s 0 0) (F0 m 2 ls [])) hf (fun x1 k2 ih3 hf  H locs ls hh hl => ?_)  _ _ _ hh (lv_sub hl [1, 2, 0] rfl)
  refine lv_iload_n hx hb dX8_fitsNow_2 rfl (lv_at hl 2 rfl) ?_
  refine lv_aload_n hx hb dX8_fitsNow_3 rfl (lv_at hl 0 rfl) ?_
  refine r_gi X hh ht fk_X8_9 dX8_fitsNow_4 ?_
  refine lv_icmp_gt (tgt := 57) hx hb dX8_fitsNow_7 (by decide) (fun hc4 => ?_) (fun hc4 => ?_)
  · have hf := if_t hc4 hf
    refine lv_iconst (v := (1 : Int32)) hx hb dX8_fitsNow_57 (by decide) ?_
    refine lv_istore_n (lv' := [(2, .int (1 : Int32)), (0, .ref (B + t)), (1, .int a0)]) hx hb dX8_fitsNow_58 rfl hl (by decide) rfl (fun ls hl => ?_)
    refine wl1_W (P := fun (x5 : Int32) => ∀ (H : Heap) (locs : List Loc) (ls : Array Slot), Hp B D 153 w s H locs → lv_has ls 3 [(0, .ref (B + t)), (1, .int a0), (2, .int x5)] → W p l e (rmk 1 27 0 0) s m args below meth c H locs 0 0 (MZ below B D 153 w (some (.int r)) args s 0 0) (F0 m 59 ls [])) hf (fun x5 k6 ih7 hf  H locs ls hh hl => ?_)  _ _ _ hh (lv_sub hl [1, 2, 0] rfl)
    refine lv_iload_n hx hb dX8_fitsNow_59 rfl (lv_at hl 2 rfl) ?_
    refine lv_aload_n hx hb dX8_fitsNow_60 rfl (lv_at hl 0 rfl) ?_
    refine r_gi X hh ht fk_X8_15 dX8_fitsNow_61 ?_
    refine lv_icmp_gt (tgt := 110) hx hb dX8_fitsNow_64 (by decide) (fun hc8 => ?_) (fun hc8 => ?_)
    · have hf := if_t hc8 hf
      refine lv_iconst (v := (1 : Int32)) hx hb dX8_fitsNow_110 (by decide) ?_
      exact e_z X hr hlk hh (Or.inr rfl) ⟨so_e hf, rfl⟩ dX8_fitsNow_111
    · have hf := if_f hc8 hf
      refine lv_aload_n hx hb dX8_fitsNow_67 rfl (lv_at hl 0 rfl) ?_
      refine lv_aload_n hx hb dX8_fitsNow_68 rfl (lv_at hl 0 rfl) ?_
      refine r_gi X hh ht fk_X8_9 dX8_fitsNow_69 ?_
      refine lv_iload_n hx hb dX8_fitsNow_72 rfl (lv_at hl 2 rfl) ?_
      obtain ⟨v10, hc9, hf⟩ := c1_e hf
      refine q_S (w' := w) (rest := [.ref (B + t)]) X hml hh (some (.int v10)) (m_X8_from l B D hc9) cf_X8_from k_835 rfl hl.1 rfl (Nat.le_of_ble_eq_true rfl) ⟨Nat.le_of_ble_eq_true rfl, Nat.le_of_ble_eq_true rfl⟩ ⟨Nat.zero_le _, Nat.zero_le _⟩ dX8_fitsNow_73 rfl (fun H locs hh => ?_)
      refine lv_aload_n hx hb dX8_fitsNow_76 rfl (lv_at hl 0 rfl) ?_
      refine r_gi X hh ht fk_X8_9 dX8_fitsNow_77 ?_
      refine lv_iload_n hx hb dX8_fitsNow_80 rfl (lv_at hl 2 rfl) ?_
      refine lv_iconst (v := (1 : Int32)) hx hb dX8_fitsNow_81 (by decide) ?_
      refine lv_isub hx hb dX8_fitsNow_82 ?_
      obtain ⟨v12, hc11, hf⟩ := c1_e hf
      refine q_S (w' := w) (rest := [.int v10, .ref (B + t)]) X hml hh (some (.int v12)) (m_X8_from l B D hc11) cf_X8_from k_835 rfl hl.1 rfl (Nat.le_of_ble_eq_true rfl) ⟨Nat.le_of_ble_eq_true rfl, Nat.le_of_ble_eq_true rfl⟩ ⟨Nat.zero_le _, Nat.zero_le _⟩ dX8_fitsNow_83 rfl (fun H locs hh => ?_)
      refine lv_iload_n hx hb dX8_fitsNow_86 rfl (lv_at hl 1 rfl) ?_
      refine lv_iconst (v := (2 : Int32)) hx hb dX8_fitsNow_87 (by decide) ?_
      refine mg_W (P := fun (x14 : Int32) => ∀ (ls : Array Slot), lv_has ls 3 [(0, .ref (B + t)), (1, .int a0), (2, .int x5)] → W p l e (rmk 1 27 0 0) s m args below meth c H locs 0 0 (MZ below B D 153 w (some (.int r)) args s 0 0) (F0 m 96 ls [.int x14, .int v12, .int v10, .ref (B + t)])) hf (fun x14 hf ls hl => ?_) (fun hj20 => ?_)
      · obtain ⟨v16, hc15, hf⟩ := c1_e hf
        refine q_V (w' := w) (rest := []) X hml hh (some (.int v16)) (m_X8_goesOn l B D ht hc15) cf_X8_goesOn k_888 ht ci_8 rfl rfl hl.1 rfl (Nat.le_of_ble_eq_true rfl) ⟨Nat.le_of_ble_eq_true rfl, Nat.le_of_ble_eq_true rfl⟩ ⟨Nat.zero_le _, Nat.zero_le _⟩ dX8_fitsNow_96 rfl (fun H locs hh => ?_)
        refine lv_if_ne (tgt := 104) hx hb dX8_fitsNow_99 (by decide) (fun hc17 => ?_) (fun hc17 => ?_)
        · have hf := if_f hc17 hf
          obtain ⟨x18, e19⟩ : ∃ y : Int32, y = (x5 + (1 : Int32)) := ⟨_, rfl⟩
          have hf := lt_e e19 hf
          refine lv_iinc (v := x18) (lv' := [(2, .int x18), (0, .ref (B + t)), (1, .int a0)]) hx hb dX8_fitsNow_104 hl (k := 2) rfl (by rw [e19]; rfl) (by decide) rfl (fun ls hl => ?_)
          refine lv_goto (tgt := 59) hx hb dX8_fitsNow_107 (by decide) ?_
          exact ih7 _ hf  _ _ _ hh (lv_sub hl [1, 2, 0] rfl)
        · have hf := if_t hc17 hf
          refine lv_iconst (v := (0 : Int32)) hx hb dX8_fitsNow_102 (by decide) ?_
          exact e_z X hr hlk hh (Or.inl rfl) ⟨so_e hf, rfl⟩ dX8_fitsNow_103
      · refine lv_icmp_ge (tgt := 95) hx hb dX8_fitsNow_88 (by decide) (fun hc13 => ?_) (fun hc13 => ?_)
        · refine lv_iconst (v := (0 : Int32)) hx hb dX8_fitsNow_95 (by decide) ?_
          exact hj20 _ (by rw [if_pos hc13]) ls (lv_sub hl [0, 1, 2] rfl)
        · refine lv_iconst (v := (1 : Int32)) hx hb dX8_fitsNow_91 (by decide) ?_
          refine lv_goto (tgt := 96) hx hb dX8_fitsNow_92 (by decide) ?_
          exact hj20 _ (by rw [if_neg hc13]) ls (lv_sub hl [0, 1, 2] rfl)
  · have hf := if_f hc4 hf
    refine lv_aload_n hx hb dX8_fitsNow_10 rfl (lv_at hl 0 rfl) ?_
    refine lv_iload_n hx hb dX8_fitsNow_11 rfl (lv_at hl 2 rfl) ?_
    refine lv_aload_n hx hb dX8_fitsNow_12 rfl (lv_at hl 0 rfl) ?_
    refine r_gi X hh ht fk_X8_15 dX8_fitsNow_13 ?_
    obtain ⟨v22, hc21, hf⟩ := c1_e hf
    refine q_S (w' := w) (rest := [.ref (B + t)]) X hml hh (some (.int v22)) (m_X8_from l B D hc21) cf_X8_from k_835 rfl hl.1 rfl (Nat.le_of_ble_eq_true rfl) ⟨Nat.le_of_ble_eq_true rfl, Nat.le_of_ble_eq_true rfl⟩ ⟨Nat.zero_le _, Nat.zero_le _⟩ dX8_fitsNow_16 rfl (fun H locs hh => ?_)
    refine lv_iload_n hx hb dX8_fitsNow_19 rfl (lv_at hl 2 rfl) ?_
    refine lv_iconst (v := (1 : Int32)) hx hb dX8_fitsNow_20 (by decide) ?_
    refine lv_isub hx hb dX8_fitsNow_21 ?_
    refine lv_aload_n hx hb dX8_fitsNow_22 rfl (lv_at hl 0 rfl) ?_
    refine r_gi X hh ht fk_X8_15 dX8_fitsNow_23 ?_
    obtain ⟨v24, hc23, hf⟩ := c1_e hf
    refine q_S (w' := w) (rest := [.int v22, .ref (B + t)]) X hml hh (some (.int v24)) (m_X8_from l B D hc23) cf_X8_from k_835 rfl hl.1 rfl (Nat.le_of_ble_eq_true rfl) ⟨Nat.le_of_ble_eq_true rfl, Nat.le_of_ble_eq_true rfl⟩ ⟨Nat.zero_le _, Nat.zero_le _⟩ dX8_fitsNow_26 rfl (fun H locs hh => ?_)
    refine lv_iload_n hx hb dX8_fitsNow_29 rfl (lv_at hl 1 rfl) ?_
    refine mg_W (P := fun (x27 : Int32) => ∀ (ls : Array Slot), lv_has ls 3 [(0, .ref (B + t)), (1, .int a0), (2, .int x1)] → W p l e (rmk 1 27 0 0) s m args below meth c H locs 0 0 (MZ below B D 153 w (some (.int r)) args s 0 0) (F0 m 43 ls [.int x27, .int v24, .int v22, .ref (B + t)])) hf (fun x27 hf ls hl => ?_) (fun hj33 => ?_)
    · obtain ⟨v29, hc28, hf⟩ := c1_e hf
      refine q_V (w' := w) (rest := []) X hml hh (some (.int v29)) (m_X8_goesOn l B D ht hc28) cf_X8_goesOn k_888 ht ci_8 rfl rfl hl.1 rfl (Nat.le_of_ble_eq_true rfl) ⟨Nat.le_of_ble_eq_true rfl, Nat.le_of_ble_eq_true rfl⟩ ⟨Nat.zero_le _, Nat.zero_le _⟩ dX8_fitsNow_43 rfl (fun H locs hh => ?_)
      refine lv_if_ne (tgt := 51) hx hb dX8_fitsNow_46 (by decide) (fun hc30 => ?_) (fun hc30 => ?_)
      · have hf := if_f hc30 hf
        obtain ⟨x31, e32⟩ : ∃ y : Int32, y = (x1 + (1 : Int32)) := ⟨_, rfl⟩
        have hf := lt_e e32 hf
        refine lv_iinc (v := x31) (lv' := [(2, .int x31), (0, .ref (B + t)), (1, .int a0)]) hx hb dX8_fitsNow_51 hl (k := 2) rfl (by rw [e32]; rfl) (by decide) rfl (fun ls hl => ?_)
        refine lv_goto (tgt := 2) hx hb dX8_fitsNow_54 (by decide) ?_
        exact ih3 _ hf  _ _ _ hh (lv_sub hl [1, 2, 0] rfl)
      · have hf := if_t hc30 hf
        refine lv_iconst (v := (0 : Int32)) hx hb dX8_fitsNow_49 (by decide) ?_
        exact e_z X hr hlk hh (Or.inl rfl) ⟨so_e hf, rfl⟩ dX8_fitsNow_50
    · refine lv_if_eq (tgt := 38) hx hb dX8_fitsNow_30 (by decide) (fun hc25 => ?_) (fun hc25 => ?_)
      · refine lv_iconst (v := (1 : Int32)) hx hb dX8_fitsNow_38 (by decide) ?_
        refine lv_goto (tgt := 43) hx hb dX8_fitsNow_39 (by decide) ?_
        exact hj33 _ (by rw [if_pos hc25]) ls (lv_sub hl [0, 1, 2] rfl)
      · refine lv_iload_n hx hb dX8_fitsNow_33 rfl (lv_at hl 1 rfl) ?_
        refine lv_iconst (v := (2 : Int32)) hx hb dX8_fitsNow_34 (by decide) ?_
        refine lv_icmp_ne (tgt := 42) hx hb dX8_fitsNow_35 (by decide) (fun hc26 => ?_) (fun hc26 => ?_)
        · refine lv_iconst (v := (0 : Int32)) hx hb dX8_fitsNow_42 (by decide) ?_
          exact hj33 _ (by rw [if_neg hc25, if_neg hc26]) ls (lv_sub hl [0, 1, 2] rfl)
        · refine lv_iconst (v := (1 : Int32)) hx hb dX8_fitsNow_38 (by decide) ?_
          refine lv_goto (tgt := 43) hx hb dX8_fitsNow_39 (by decide) ?_
          exact hj33 _ (by rw [if_neg hc25, if_pos hc26]) ls (lv_sub hl [0, 1, 2] rfl)
set_option maxHeartbeats 4000000 in
set_option maxRecDepth 100000 in
theorem m_X8_fits (l : Launch) (B : Nat) (D : DD) {t : Nat} {a0 : Int32} {w : Wd} {r : Int32} {w' : Wd} (ht : t < 153 ∧ kd t = 8) (hf : f_X8_fits t a0 w = some (r, w')) : Ct l yX8_fits cX8_fits 2 (some .int) 3 81 0 0 B D [.ref (B + t), .int a0] 153 w (some (.int r)) 153 w' := by
  refine m_of (by decide) (Nat.le_of_ble_eq_true rfl) (fun p e s m args below meth c X hml hr hlk _ H locs hh ls hl => ?_)
  have hx := X.1
  have hb := X.2.1
  have hl : lv_has ls 2 [(0, .ref (B + t)), (1, .int a0)] := hl
  unfold f_X8_fits at hf
  refine lv_iload_n hx hb dX8_fits_0 rfl (lv_at hl 1 rfl) ?_
  refine lv_i2l hx hb dX8_fits_1 rfl ?_
  refine lv_lconst (v := (0 : Int64)) hx hb dX8_fits_2 (by decide) ?_
  refine lv_ldc2 hx hb X.2.2.1 (X.2.2.2.1 _ k_786) dX8_fits_3 ?_
  obtain ⟨v2, hc1, hf⟩ := c1_e hf
  refine q_S (w' := w) (rest := []) X hml hh (some (.int v2)) (m_X8_in l B D hc1) cf_X8_in k_767 rfl hl.1 rfl (Nat.le_of_ble_eq_true rfl) ⟨Nat.le_of_ble_eq_true rfl, Nat.le_of_ble_eq_true rfl⟩ ⟨Nat.zero_le _, Nat.zero_le _⟩ dX8_fits_6 rfl (fun H locs hh => ?_)
  refine lv_if_ne (tgt := 14) hx hb dX8_fits_9 (by decide) (fun hc3 => ?_) (fun hc3 => ?_)
  · have hf := if_f hc3 hf
    refine lv_aload_n hx hb dX8_fits_14 rfl (lv_at hl 0 rfl) ?_
    obtain ⟨w5, hc4, hf⟩ := c1_e hf
    refine q_V (w' := w5) (rest := []) X hml hh none (m_X8_growsAll l B D ht hc4) cf_X8_growsAll k_827 ht ci_8 rfl rfl hl.1 rfl (Nat.le_of_ble_eq_true rfl) ⟨Nat.le_of_ble_eq_true rfl, Nat.le_of_ble_eq_true rfl⟩ ⟨Nat.zero_le _, Nat.zero_le _⟩ dX8_fits_15 rfl (fun H locs hh => ?_)
    refine lv_aload_n hx hb dX8_fits_18 rfl (lv_at hl 0 rfl) ?_
    refine lv_iload_n hx hb dX8_fits_19 rfl (lv_at hl 1 rfl) ?_
    obtain ⟨v7, hc6, hf⟩ := c1_e hf
    refine q_V (w' := w5) (rest := []) X hml hh (some (.int v7)) (m_X8_fitsNow l B D ht hc6) cf_X8_fitsNow k_884 ht ci_8 rfl rfl hl.1 rfl (Nat.le_of_ble_eq_true rfl) ⟨Nat.le_of_ble_eq_true rfl, Nat.le_of_ble_eq_true rfl⟩ ⟨Nat.zero_le _, Nat.zero_le _⟩ dX8_fits_20 rfl (fun H locs hh => ?_)
    refine mg_W (P := fun (x9 : Int32) => ∀ (ls : Array Slot), lv_has ls 2 [] → W p l e (rmk 3 81 0 0) s m args below meth c H locs 0 0 (MZ below B D 153 w' (some (.int r)) args s 0 0) (F0 m 31 ls [.int x9])) hf (fun x9 hf ls hl => ?_) (fun hj10 => ?_)
    · exact e_i X hr hlk hh (so2_e hf) dX8_fits_31
    · refine lv_if_eq (tgt := 30) hx hb dX8_fits_23 (by decide) (fun hc8 => ?_) (fun hc8 => ?_)
      · refine lv_iconst (v := (0 : Int32)) hx hb dX8_fits_30 (by decide) ?_
        exact hj10 _ (by rw [if_pos hc8]) ls (lv_sub hl [] rfl)
      · refine lv_iconst (v := (1 : Int32)) hx hb dX8_fits_26 (by decide) ?_
        refine lv_goto (tgt := 31) hx hb dX8_fits_27 (by decide) ?_
        exact hj10 _ (by rw [if_neg hc8]) ls (lv_sub hl [] rfl)
  · have hf := if_t hc3 hf
    refine lv_iconst (v := (-1 : Int32)) hx hb dX8_fits_12 (by decide) ?_
    exact e_i X hr hlk hh (so2_e hf) dX8_fits_13
set_option maxHeartbeats 4000000 in
set_option maxRecDepth 100000 in
theorem m_X8_shrinks (l : Launch) (B : Nat) (D : DD) {t : Nat} {a0 : Int32} {a1 : Int32} {a2 : Int32} {w : Wd} {r : Int32} {w' : Wd} (ht : t < 153 ∧ kd t = 8) (hf : f_X8_shrinks t a0 a1 a2 w = some (r, w')) : Ct l yX8_shrinks cX8_shrinks 17 (some .int) 3 68 0 0 B D [.ref (B + t), .int a0, .int a1, .int a2] 153 w (some (.int r)) 153 w' := by
  refine m_of (by decide) (Nat.le_of_ble_eq_true rfl) (fun p e s m args below meth c X hml hr hlk _ H locs hh ls hl => ?_)
  have hx := X.1
  have hb := X.2.1
  have hl : lv_has ls 17 [(0, .ref (B + t)), (1, .int a0), (2, .int a1), (3, .int a2)] := hl
  unfold f_X8_shrinks at hf
  refine lv_iload_n hx hb dX8_shrinks_0 rfl (lv_at hl 1 rfl) ?_
  refine lv_iload_n hx hb dX8_shrinks_1 rfl (lv_at hl 2 rfl) ?_
  obtain ⟨v2, hc1, hf⟩ := c1_e hf
  refine q_S (w' := w) (rest := []) X hml hh (some (.int v2)) (m_X8_from l B D hc1) cf_X8_from k_835 rfl hl.1 rfl (Nat.le_of_ble_eq_true rfl) ⟨Nat.le_of_ble_eq_true rfl, Nat.le_of_ble_eq_true rfl⟩ ⟨Nat.zero_le _, Nat.zero_le _⟩ dX8_shrinks_2 rfl (fun H locs hh => ?_)
  refine lv_istore (lv' := [(4, .int v2), (0, .ref (B + t)), (1, .int a0), (2, .int a1), (3, .int a2)]) hx hb dX8_shrinks_5 hl (by decide) rfl (fun ls hl => ?_)
  refine lv_iload_n hx hb dX8_shrinks_7 rfl (lv_at hl 2 rfl) ?_
  refine lv_iconst (v := (1 : Int32)) hx hb dX8_shrinks_8 (by decide) ?_
  refine lv_isub hx hb dX8_shrinks_9 ?_
  refine lv_iload_n hx hb dX8_shrinks_10 rfl (lv_at hl 3 rfl) ?_
  refine lv_iconst (v := (1 : Int32)) hx hb dX8_shrinks_11 (by decide) ?_
  refine lv_isub hx hb dX8_shrinks_12 ?_
  obtain ⟨v4, hc3, hf⟩ := c1_e hf
  refine q_S (w' := w) (rest := []) X hml hh (some (.int v4)) (m_X8_from l B D hc3) cf_X8_from k_835 rfl hl.1 rfl (Nat.le_of_ble_eq_true rfl) ⟨Nat.le_of_ble_eq_true rfl, Nat.le_of_ble_eq_true rfl⟩ ⟨Nat.zero_le _, Nat.zero_le _⟩ dX8_shrinks_13 rfl (fun H locs hh => ?_)
  refine lv_istore (lv' := [(5, .int v4), (4, .int v2), (0, .ref (B + t)), (1, .int a0), (2, .int a1), (3, .int a2)]) hx hb dX8_shrinks_16 hl (by decide) rfl (fun ls hl => ?_)
  refine lv_iload_n hx hb dX8_shrinks_18 rfl (lv_at hl 3 rfl) ?_
  refine lv_iconst (v := (1 : Int32)) hx hb dX8_shrinks_19 (by decide) ?_
  refine lv_isub hx hb dX8_shrinks_20 ?_
  refine lv_iload_n hx hb dX8_shrinks_21 rfl (lv_at hl 4 rfl) ?_
  obtain ⟨v6, hc5, hf⟩ := c1_e hf
  refine q_S (w' := w) (rest := []) X hml hh (some (.int v6)) (m_X8_from l B D hc5) cf_X8_from k_835 rfl hl.1 rfl (Nat.le_of_ble_eq_true rfl) ⟨Nat.le_of_ble_eq_true rfl, Nat.le_of_ble_eq_true rfl⟩ ⟨Nat.zero_le _, Nat.zero_le _⟩ dX8_shrinks_22 rfl (fun H locs hh => ?_)
  refine lv_istore (lv' := [(6, .int v6), (5, .int v4), (4, .int v2), (0, .ref (B + t)), (1, .int a0), (2, .int a1), (3, .int a2)]) hx hb dX8_shrinks_25 hl (by decide) rfl (fun ls hl => ?_)
  refine lv_iload_n hx hb dX8_shrinks_27 rfl (lv_at hl 4 rfl) ?_
  refine lv_iload_n hx hb dX8_shrinks_28 rfl (lv_at hl 5 rfl) ?_
  refine lv_iconst (v := (1 : Int32)) hx hb dX8_shrinks_29 (by decide) ?_
  refine lv_isub hx hb dX8_shrinks_30 ?_
  obtain ⟨v8, hc7, hf⟩ := c1_e hf
  refine q_S (w' := w) (rest := []) X hml hh (some (.int v8)) (m_X8_from l B D hc7) cf_X8_from k_835 rfl hl.1 rfl (Nat.le_of_ble_eq_true rfl) ⟨Nat.le_of_ble_eq_true rfl, Nat.le_of_ble_eq_true rfl⟩ ⟨Nat.zero_le _, Nat.zero_le _⟩ dX8_shrinks_31 rfl (fun H locs hh => ?_)
  refine lv_istore (lv' := [(7, .int v8), (6, .int v6), (5, .int v4), (4, .int v2), (0, .ref (B + t)), (1, .int a0), (2, .int a1), (3, .int a2)]) hx hb dX8_shrinks_34 hl (by decide) rfl (fun ls hl => ?_)
  refine lv_iconst (v := (0 : Int32)) hx hb dX8_shrinks_36 (by decide) ?_
  refine lv_istore (lv' := [(8, .int (0 : Int32)), (7, .int v8), (6, .int v6), (5, .int v4), (4, .int v2), (0, .ref (B + t)), (1, .int a0), (2, .int a1), (3, .int a2)]) hx hb dX8_shrinks_37 hl (by decide) rfl (fun ls hl => ?_)
  refine lv_aload_n hx hb dX8_shrinks_39 rfl (lv_at hl 5 rfl) ?_
  refine lv_iload_n hx hb dX8_shrinks_40 rfl (lv_at hl 6 rfl) ?_
  refine lv_iload_n hx hb dX8_shrinks_41 rfl (lv_at hl 7 rfl) ?_
  obtain ⟨v10, hc9, hf⟩ := c1_e hf
  refine q_V (w' := w) (rest := []) X hml hh (some (.int v10)) (m_X8_lengthOf l B D ht hc9) cf_X8_lengthOf k_850 ht ci_8 rfl rfl hl.1 rfl (Nat.le_of_ble_eq_true rfl) ⟨Nat.le_of_ble_eq_true rfl, Nat.le_of_ble_eq_true rfl⟩ ⟨Nat.zero_le _, Nat.zero_le _⟩ dX8_shrinks_42 rfl (fun H locs hh => ?_)
  refine lv_istore (lv' := [(9, .int v10), (8, .int (0 : Int32)), (7, .int v8), (6, .int v6), (5, .int v4), (4, .int v2), (0, .ref (B + t)), (1, .int a0), (2, .int a1), (3, .int a2)]) hx hb dX8_shrinks_45 hl (by decide) rfl (fun ls hl => ?_)
  refine lv_iconst (v := (0 : Int32)) hx hb dX8_shrinks_47 (by decide) ?_
  refine lv_istore (lv' := [(10, .int (0 : Int32)), (9, .int v10), (8, .int (0 : Int32)), (7, .int v8), (6, .int v6), (5, .int v4), (4, .int v2), (0, .ref (B + t)), (1, .int a0), (2, .int a1), (3, .int a2)]) hx hb dX8_shrinks_48 hl (by decide) rfl (fun ls hl => ?_)
  refine wl2_W (P := fun (x11 : Int32) (w12 : Wd) => ∀ (H : Heap) (locs : List Loc) (ls : Array Slot), Hp B D 153 w12 s H locs → lv_has ls 17 [(0, .ref (B + t)), (3, .int a2), (4, .int v2), (5, .int v4), (6, .int v6), (7, .int v8), (8, .int (0 : Int32)), (9, .int v10), (10, .int x11)] → W p l e (rmk 3 68 0 0) s m args below meth c H locs 0 0 (MZ below B D 153 w' (some (.int r)) args s 0 0) (F0 m 50 ls [])) hf (fun x11 w12 k13 ih14 hf  H locs ls hh hl => ?_)  _ _ _ hh (lv_sub hl [7, 10, 6, 5, 4, 3, 2, 1, 0] rfl)
  refine lv_iload hx hb dX8_shrinks_50 (lv_at hl 8 rfl) ?_
  refine lv_bipush (v := (80 : Int32)) hx hb dX8_shrinks_52 (by decide) ?_
  refine lv_icmp_ge (tgt := 74) hx hb dX8_shrinks_54 (by decide) (fun hc15 => ?_) (fun hc15 => ?_)
  · have hf := if_t hc15 hf
    refine lv_iload hx hb dX8_shrinks_74 (lv_at hl 7 rfl) ?_
    refine lv_iconst (v := (1 : Int32)) hx hb dX8_shrinks_76 (by decide) ?_
    refine lv_isub hx hb dX8_shrinks_77 ?_
    refine lv_topi (fun x16 e17 => ?_)
    have hf := lt_e e17 hf
    refine lv_istore (lv' := [(10, .int x16), (0, .ref (B + t)), (3, .int a2), (4, .int v2), (5, .int v4), (6, .int v6), (7, .int v8), (8, .int (0 : Int32)), (9, .int v10)]) hx hb dX8_shrinks_78 hl (by decide) rfl (fun ls hl => ?_)
    refine wl3_W (P := fun (x18 : Int32) (x19 : Int32) (w20 : Wd) => ∀ (H : Heap) (locs : List Loc) (ls : Array Slot), Hp B D 153 w20 s H locs → lv_has ls 17 [(0, .ref (B + t)), (3, .int a2), (4, .int v2), (5, .int v4), (6, .int v6), (7, .int v8), (8, .int x18), (10, .int x19)] → W p l e (rmk 3 68 0 0) s m args below meth c H locs 0 0 (MZ below B D 153 w' (some (.int r)) args s 0 0) (F0 m 80 ls [])) hf (fun x18 x19 w20 k21 ih22 hf  H locs ls hh hl => ?_)  _ _ _ hh (lv_sub hl [1, 2, 3, 4, 5, 6, 7, 0] rfl)
    refine lv_iload hx hb dX8_shrinks_80 (lv_at hl 7 rfl) ?_
    refine lv_if_lt (tgt := 360) hx hb dX8_shrinks_82 (by decide) (fun hc23 => ?_) (fun hc23 => ?_)
    · have hf := if_t hc23 hf
      refine lv_iload hx hb dX8_shrinks_360 (lv_at hl 6 rfl) ?_
      exact e_i X hr hlk hh (so2_e hf) dX8_shrinks_362
    · have hf := if_f hc23 hf
      refine lv_aload_n hx hb dX8_shrinks_85 rfl (lv_at hl 0 rfl) ?_
      refine q_gr (P := 9) X hh ht fk_X8_31 dX8_shrinks_86 hf (fun t24 h25 hf => ?_)
      refine lv_iload hx hb dX8_shrinks_89 (lv_at hl 2 rfl) ?_
      refine lv_iload hx hb dX8_shrinks_91 (lv_at hl 7 rfl) ?_
      refine lv_iadd hx hb dX8_shrinks_93 ?_
      refine q_ald X hh h25 dX8_shrinks_94 hf (fun hf => ?_)
      refine lv_topi (fun x27 e28 => ?_)
      have hf := lt_e e28 hf
      refine lv_istore (lv' := [(11, .int x27), (0, .ref (B + t)), (3, .int a2), (4, .int v2), (5, .int v4), (6, .int v6), (7, .int v8), (8, .int x18), (10, .int x19)]) hx hb dX8_shrinks_95 hl (by decide) rfl (fun ls hl => ?_)
      refine lv_aload_n hx hb dX8_shrinks_97 rfl (lv_at hl 1 rfl) ?_
      refine q_gr (P := 9) X hh ht fk_X8_31 dX8_shrinks_98 hf (fun t29 h30 hf => ?_)
      refine lv_iload hx hb dX8_shrinks_101 (lv_at hl 5 rfl) ?_
      refine lv_iload hx hb dX8_shrinks_103 (lv_at hl 8 rfl) ?_
      refine lv_iadd hx hb dX8_shrinks_105 ?_
      refine q_ald X hh h30 dX8_shrinks_106 hf (fun hf => ?_)
      refine lv_topi (fun x32 e33 => ?_)
      have hf := lt_e e33 hf
      refine lv_istore (lv' := [(12, .int x32), (11, .int x27), (0, .ref (B + t)), (3, .int a2), (4, .int v2), (5, .int v4), (6, .int v6), (7, .int v8), (8, .int x18), (10, .int x19)]) hx hb dX8_shrinks_107 hl (by decide) rfl (fun ls hl => ?_)
      refine lv_aload_n hx hb dX8_shrinks_109 rfl (lv_at hl 2 rfl) ?_
      refine q_gr (P := 9) X hh ht fk_X8_31 dX8_shrinks_110 hf (fun t34 h35 hf => ?_)
      refine lv_iload hx hb dX8_shrinks_113 (lv_at hl 7 rfl) ?_
      refine lv_iload hx hb dX8_shrinks_115 (lv_at hl 9 rfl) ?_
      refine lv_iadd hx hb dX8_shrinks_117 ?_
      refine q_ald X hh h35 dX8_shrinks_118 hf (fun hf => ?_)
      refine lv_topi (fun x37 e38 => ?_)
      have hf := lt_e e38 hf
      refine lv_istore (lv' := [(13, .int x37), (12, .int x32), (11, .int x27), (0, .ref (B + t)), (3, .int a2), (4, .int v2), (5, .int v4), (6, .int v6), (7, .int v8), (8, .int x18), (10, .int x19)]) hx hb dX8_shrinks_119 hl (by decide) rfl (fun ls hl => ?_)
      refine lv_iload_n hx hb dX8_shrinks_121 rfl (lv_at hl 4 rfl) ?_
      refine lv_iconst (v := (2 : Int32)) hx hb dX8_shrinks_122 (by decide) ?_
      refine jn_W (P := fun j42 => ∀ (x40 : Int32) (x41 : Int32), j42 x40 x41 = some (r, w') → ∀ (H : Heap) (locs : List Loc) (ls : Array Slot), Hp B D 153 w20 s H locs → lv_has ls 17 [(0, .ref (B + t)), (3, .int a2), (4, .int v2), (5, .int v4), (6, .int v6), (7, .int v8), (8, .int x18), (10, .int x19), (11, .int x27), (12, .int x40), (13, .int x41)] → W p l e (rmk 3 68 0 0) s m args below meth c H locs 0 0 (MZ below B D 153 w' (some (.int r)) args s 0 0) (F0 m 150 ls [])) hf (fun x40 x41 hf  H locs ls hh hl => ?_) (fun j42 hj42 hf => ?_)
      · refine lv_iload hx hb dX8_shrinks_150 (lv_at hl 6 rfl) ?_
        refine lv_istore (lv' := [(14, .int x18), (0, .ref (B + t)), (3, .int a2), (4, .int v2), (5, .int v4), (6, .int v6), (7, .int v8), (8, .int x18), (10, .int x19), (11, .int x27), (12, .int x40), (13, .int x41)]) hx hb dX8_shrinks_152 hl (by decide) rfl (fun ls hl => ?_)
        refine lv_iload_n hx hb dX8_shrinks_154 rfl (lv_at hl 2 rfl) ?_
        refine jn_W (P := fun j46 => ∀ (x44 : Int32) (w45 : Wd), j46 x44 w45 = some (r, w') → ∀ (H : Heap) (locs : List Loc) (ls : Array Slot), Hp B D 153 w45 s H locs → lv_has ls 17 [(0, .ref (B + t)), (3, .int a2), (4, .int v2), (5, .int v4), (6, .int v6), (7, .int v8), (8, .int x44), (10, .int x19)] → W p l e (rmk 3 68 0 0) s m args below meth c H locs 0 0 (MZ below B D 153 w' (some (.int r)) args s 0 0) (F0 m 354 ls [])) hf (fun x44 w45 hf  H locs ls hh hl => ?_) (fun j46 hj46 hf => ?_)
        · obtain ⟨x47, e48⟩ : ∃ y : Int32, y = (x19 + (-1 : Int32)) := ⟨_, rfl⟩
          have hf := lt_e e48 hf
          refine lv_iinc (v := x47) (lv' := [(10, .int x47), (0, .ref (B + t)), (3, .int a2), (4, .int v2), (5, .int v4), (6, .int v6), (7, .int v8), (8, .int x44)]) hx hb dX8_shrinks_354 hl (k := 7) rfl (by rw [e48]; rfl) (by decide) rfl (fun ls hl => ?_)
          refine lv_goto (tgt := 80) hx hb dX8_shrinks_357 (by decide) ?_
          exact ih22 _ _ _ hf  _ _ _ hh (lv_sub hl [1, 2, 3, 4, 5, 6, 7, 0] rfl)
        · refine lv_if_ne (tgt := 207) hx hb dX8_shrinks_155 (by decide) (fun hc43 => ?_) (fun hc43 => ?_)
          · have hf := if_f hc43 hf
            refine lv_iload_n hx hb dX8_shrinks_207 rfl (lv_at hl 2 rfl) ?_
            refine lv_iconst (v := (3 : Int32)) hx hb dX8_shrinks_208 (by decide) ?_
            refine lv_icmp_ge (tgt := 265) hx hb dX8_shrinks_209 (by decide) (fun hc49 => ?_) (fun hc49 => ?_)
            · have hf := if_t hc49 hf
              refine lv_iload hx hb dX8_shrinks_265 (lv_at hl 9 rfl) ?_
              refine lv_iload hx hb dX8_shrinks_267 (lv_at hl 10 rfl) ?_
              refine mg_W (P := fun (x52 : Int32) => ∀ (ls : Array Slot), lv_has ls 17 [(0, .ref (B + t)), (3, .int a2), (4, .int v2), (5, .int v4), (6, .int v6), (7, .int v8), (10, .int x19), (11, .int x27), (12, .int x40), (13, .int x41), (14, .int x18)] → W p l e (rmk 3 68 0 0) s m args below meth c H locs 0 0 (MZ below B D 153 w' (some (.int r)) args s 0 0) (F0 m 284 ls [.int x52])) hf (fun x52 hf ls hl => ?_) (fun hj72 => ?_)
              · refine lv_istore (lv' := [(15, .int x52), (0, .ref (B + t)), (3, .int a2), (4, .int v2), (5, .int v4), (6, .int v6), (7, .int v8), (10, .int x19), (11, .int x27), (12, .int x40), (13, .int x41), (14, .int x18)]) hx hb dX8_shrinks_284 hl (by decide) rfl (fun ls hl => ?_)
                refine lv_iload hx hb dX8_shrinks_286 (lv_at hl 11 rfl) ?_
                refine lv_iload hx hb dX8_shrinks_288 (lv_at hl 0 rfl) ?_
                refine mg_W (P := fun (x54 : Int32) => ∀ (ls : Array Slot), lv_has ls 17 [(0, .ref (B + t)), (3, .int a2), (4, .int v2), (5, .int v4), (6, .int v6), (7, .int v8), (10, .int x19), (11, .int x27), (12, .int x40), (13, .int x41), (14, .int x18)] → W p l e (rmk 3 68 0 0) s m args below meth c H locs 0 0 (MZ below B D 153 w' (some (.int r)) args s 0 0) (F0 m 300 ls [.int x54])) hf (fun x54 hf ls hl => ?_) (fun hj71 => ?_)
                · refine lv_istore (lv' := [(16, .int x54), (0, .ref (B + t)), (3, .int a2), (4, .int v2), (5, .int v4), (6, .int v6), (7, .int v8), (10, .int x19), (11, .int x27), (12, .int x40), (13, .int x41), (14, .int x18)]) hx hb dX8_shrinks_300 hl (by decide) rfl (fun ls hl => ?_)
                  refine lv_aload_n hx hb dX8_shrinks_302 rfl (lv_at hl 1 rfl) ?_
                  refine q_gr (P := 9) X hh ht fk_X8_31 dX8_shrinks_303 hf (fun t55 h56 hf => ?_)
                  refine lv_iload hx hb dX8_shrinks_306 (lv_at hl 4 rfl) ?_
                  refine lv_iload hx hb dX8_shrinks_308 (lv_at hl 7 rfl) ?_
                  refine lv_iadd hx hb dX8_shrinks_310 ?_
                  refine lv_topi (fun x57 e58 => ?_)
                  have hf := lt_e e58 hf
                  refine lv_iload hx hb dX8_shrinks_311 (lv_at hl 9 rfl) ?_
                  refine lv_iload hx hb dX8_shrinks_313 (lv_at hl 10 rfl) ?_
                  refine mg_W (P := fun (x60 : Int32) => ∀ (ls : Array Slot), lv_has ls 17 [(0, .ref (B + t)), (3, .int a2), (4, .int v2), (5, .int v4), (6, .int v6), (7, .int v8), (10, .int x19), (11, .int x27), (12, .int x40), (13, .int x41), (14, .int x18), (16, .int x54)] → W p l e (rmk 3 68 0 0) s m args below meth c H locs 0 0 (MZ below B D 153 w' (some (.int r)) args s 0 0) (F0 m 325 ls [.int x60, .int x57, .ref (B + t55)])) hf (fun x60 hf ls hl => ?_) (fun hj70 => ?_)
                  · refine lv_iload hx hb dX8_shrinks_325 (lv_at hl 11 rfl) ?_
                    refine lv_isub hx hb dX8_shrinks_327 ?_
                    refine q_ast X hh h56 dX8_shrinks_328 hf (fun w62 H locs hf hh => ?_)
                    refine lv_iload hx hb dX8_shrinks_329 (lv_at hl 10 rfl) ?_
                    refine lv_iload hx hb dX8_shrinks_331 (lv_at hl 11 rfl) ?_
                    refine lv_isub hx hb dX8_shrinks_333 ?_
                    refine lv_iload hx hb dX8_shrinks_334 (lv_at hl 7 rfl) ?_
                    refine lv_iadd hx hb dX8_shrinks_336 ?_
                    refine lv_topi (fun x63 e64 => ?_)
                    have hf := lt_e e64 hf
                    refine lv_iload hx hb dX8_shrinks_337 (lv_at hl 8 rfl) ?_
                    refine lv_iload hx hb dX8_shrinks_339 (lv_at hl 9 rfl) ?_
                    refine mg_W (P := fun (x66 : Int32) => ∀ (ls : Array Slot), lv_has ls 17 [(0, .ref (B + t)), (3, .int a2), (4, .int v2), (5, .int v4), (6, .int v6), (7, .int v8), (10, .int x19)] → W p l e (rmk 3 68 0 0) s m args below meth c H locs 0 0 (MZ below B D 153 w' (some (.int r)) args s 0 0) (F0 m 351 ls [.int x66, .int x63])) hf (fun x66 hf ls hl => ?_) (fun hj69 => ?_)
                    · refine lv_isub hx hb dX8_shrinks_351 ?_
                      refine lv_topi (fun x67 e68 => ?_)
                      have hf := lt_e e68 hf
                      refine lv_istore (lv' := [(8, .int x67), (0, .ref (B + t)), (3, .int a2), (4, .int v2), (5, .int v4), (6, .int v6), (7, .int v8), (10, .int x19)]) hx hb dX8_shrinks_352 hl (by decide) rfl (fun ls hl => ?_)
                      exact hj46 _ _ hf  _ _ _ hh (lv_sub hl [1, 2, 3, 4, 5, 6, 0, 7] rfl)
                    · refine lv_icmp_le (tgt := 349) hx hb dX8_shrinks_341 (by decide) (fun hc65 => ?_) (fun hc65 => ?_)
                      · refine lv_iload hx hb dX8_shrinks_349 (lv_at hl 9 rfl) ?_
                        exact hj69 _ (by rw [if_pos hc65]) ls (lv_sub hl [0, 1, 2, 3, 4, 5, 6] rfl)
                      · refine lv_iload hx hb dX8_shrinks_344 (lv_at hl 8 rfl) ?_
                        refine lv_goto (tgt := 351) hx hb dX8_shrinks_346 (by decide) ?_
                        exact hj69 _ (by rw [if_neg hc65]) ls (lv_sub hl [0, 1, 2, 3, 4, 5, 6] rfl)
                  · refine lv_icmp_ge (tgt := 323) hx hb dX8_shrinks_315 (by decide) (fun hc59 => ?_) (fun hc59 => ?_)
                    · refine lv_iload hx hb dX8_shrinks_323 (lv_at hl 10 rfl) ?_
                      exact hj70 _ (by rw [if_pos hc59]) ls (lv_sub hl [1, 2, 3, 4, 5, 6, 7, 8, 9, 10, 11, 0] rfl)
                    · refine lv_iload hx hb dX8_shrinks_318 (lv_at hl 9 rfl) ?_
                      refine lv_goto (tgt := 325) hx hb dX8_shrinks_320 (by decide) ?_
                      exact hj70 _ (by rw [if_neg hc59]) ls (lv_sub hl [1, 2, 3, 4, 5, 6, 7, 8, 9, 10, 11, 0] rfl)
                · refine lv_icmp_ge (tgt := 298) hx hb dX8_shrinks_290 (by decide) (fun hc53 => ?_) (fun hc53 => ?_)
                  · refine lv_iload hx hb dX8_shrinks_298 (lv_at hl 0 rfl) ?_
                    exact hj71 _ (by rw [if_pos hc53]) ls (lv_sub hl [1, 2, 3, 4, 5, 6, 7, 8, 9, 10, 11] rfl)
                  · refine lv_iload hx hb dX8_shrinks_293 (lv_at hl 11 rfl) ?_
                    refine lv_goto (tgt := 300) hx hb dX8_shrinks_295 (by decide) ?_
                    exact hj71 _ (by rw [if_neg hc53]) ls (lv_sub hl [1, 2, 3, 4, 5, 6, 7, 8, 9, 10, 11] rfl)
              · refine lv_icmp_ne (tgt := 283) hx hb dX8_shrinks_269 (by decide) (fun hc50 => ?_) (fun hc50 => ?_)
                · refine lv_iconst (v := (0 : Int32)) hx hb dX8_shrinks_283 (by decide) ?_
                  exact hj72 _ (by rw [if_neg hc50]) ls (lv_sub hl [1, 2, 3, 4, 5, 6, 8, 9, 10, 11, 0] rfl)
                · refine lv_iload hx hb dX8_shrinks_272 (lv_at hl 10 rfl) ?_
                  refine lv_iload hx hb dX8_shrinks_274 (lv_at hl 11 rfl) ?_
                  refine lv_icmp_ne (tgt := 283) hx hb dX8_shrinks_276 (by decide) (fun hc51 => ?_) (fun hc51 => ?_)
                  · refine lv_iconst (v := (0 : Int32)) hx hb dX8_shrinks_283 (by decide) ?_
                    exact hj72 _ (by rw [if_pos hc50, if_neg hc51]) ls (lv_sub hl [1, 2, 3, 4, 5, 6, 8, 9, 10, 11, 0] rfl)
                  · refine lv_iconst (v := (1 : Int32)) hx hb dX8_shrinks_279 (by decide) ?_
                    refine lv_goto (tgt := 284) hx hb dX8_shrinks_280 (by decide) ?_
                    exact hj72 _ (by rw [if_pos hc50, if_pos hc51]) ls (lv_sub hl [1, 2, 3, 4, 5, 6, 8, 9, 10, 11, 0] rfl)
            · have hf := if_f hc49 hf
              refine lv_iload hx hb dX8_shrinks_212 (lv_at hl 11 rfl) ?_
              refine lv_iload hx hb dX8_shrinks_214 (lv_at hl 0 rfl) ?_
              refine lv_isub hx hb dX8_shrinks_216 ?_
              refine lv_topi (fun x73 e74 => ?_)
              have hf := lt_e e74 hf
              refine lv_istore (lv' := [(15, .int x73), (14, .int x18), (0, .ref (B + t)), (3, .int a2), (4, .int v2), (5, .int v4), (6, .int v6), (7, .int v8), (8, .int x18), (10, .int x19), (11, .int x27), (12, .int x40), (13, .int x41)]) hx hb dX8_shrinks_217 hl (by decide) rfl (fun ls hl => ?_)
              refine lv_aload_n hx hb dX8_shrinks_219 rfl (lv_at hl 2 rfl) ?_
              refine q_gr (P := 9) X hh ht fk_X8_31 dX8_shrinks_220 hf (fun t75 h76 hf => ?_)
              refine lv_iload hx hb dX8_shrinks_223 (lv_at hl 5 rfl) ?_
              refine lv_iload hx hb dX8_shrinks_225 (lv_at hl 9 rfl) ?_
              refine lv_iadd hx hb dX8_shrinks_227 ?_
              refine lv_topi (fun x77 e78 => ?_)
              have hf := lt_e e78 hf
              refine lv_iload hx hb dX8_shrinks_228 (lv_at hl 11 rfl) ?_
              refine lv_iload hx hb dX8_shrinks_230 (lv_at hl 0 rfl) ?_
              refine mg_W (P := fun (x80 : Int32) => ∀ (ls : Array Slot), lv_has ls 17 [(0, .ref (B + t)), (3, .int a2), (4, .int v2), (5, .int v4), (6, .int v6), (7, .int v8), (10, .int x19), (11, .int x27), (12, .int x40), (15, .int x73)] → W p l e (rmk 3 68 0 0) s m args below meth c H locs 0 0 (MZ below B D 153 w' (some (.int r)) args s 0 0) (F0 m 242 ls [.int x80, .int x77, .ref (B + t75)])) hf (fun x80 hf ls hl => ?_) (fun hj88 => ?_)
              · refine q_ast X hh h76 dX8_shrinks_242 hf (fun w82 H locs hf hh => ?_)
                refine lv_iload hx hb dX8_shrinks_243 (lv_at hl 7 rfl) ?_
                refine lv_iload hx hb dX8_shrinks_245 (lv_at hl 8 rfl) ?_
                refine lv_iload hx hb dX8_shrinks_247 (lv_at hl 9 rfl) ?_
                refine mg_W (P := fun (x84 : Int32) => ∀ (ls : Array Slot), lv_has ls 17 [(0, .ref (B + t)), (3, .int a2), (4, .int v2), (5, .int v4), (6, .int v6), (7, .int v8), (10, .int x19)] → W p l e (rmk 3 68 0 0) s m args below meth c H locs 0 0 (MZ below B D 153 w' (some (.int r)) args s 0 0) (F0 m 259 ls [.int x84, .int x27])) hf (fun x84 hf ls hl => ?_) (fun hj87 => ?_)
                · refine lv_isub hx hb dX8_shrinks_259 ?_
                  refine lv_topi (fun x85 e86 => ?_)
                  have hf := lt_e e86 hf
                  refine lv_istore (lv' := [(8, .int x85), (0, .ref (B + t)), (3, .int a2), (4, .int v2), (5, .int v4), (6, .int v6), (7, .int v8), (10, .int x19)]) hx hb dX8_shrinks_260 hl (by decide) rfl (fun ls hl => ?_)
                  refine lv_goto (tgt := 354) hx hb dX8_shrinks_262 (by decide) ?_
                  exact hj46 _ _ hf  _ _ _ hh (lv_sub hl [1, 2, 3, 4, 5, 6, 0, 7] rfl)
                · refine lv_icmp_le (tgt := 257) hx hb dX8_shrinks_249 (by decide) (fun hc83 => ?_) (fun hc83 => ?_)
                  · refine lv_iload hx hb dX8_shrinks_257 (lv_at hl 9 rfl) ?_
                    exact hj87 _ (by rw [if_pos hc83]) ls (lv_sub hl [0, 1, 2, 3, 4, 5, 6] rfl)
                  · refine lv_iload hx hb dX8_shrinks_252 (lv_at hl 8 rfl) ?_
                    refine lv_goto (tgt := 259) hx hb dX8_shrinks_254 (by decide) ?_
                    exact hj87 _ (by rw [if_neg hc83]) ls (lv_sub hl [0, 1, 2, 3, 4, 5, 6] rfl)
              · refine lv_icmp_ge (tgt := 240) hx hb dX8_shrinks_232 (by decide) (fun hc79 => ?_) (fun hc79 => ?_)
                · refine lv_iload hx hb dX8_shrinks_240 (lv_at hl 0 rfl) ?_
                  exact hj88 _ (by rw [if_pos hc79]) ls (lv_sub hl [2, 3, 4, 5, 6, 7, 9, 10, 11, 0] rfl)
                · refine lv_iload hx hb dX8_shrinks_235 (lv_at hl 11 rfl) ?_
                  refine lv_goto (tgt := 242) hx hb dX8_shrinks_237 (by decide) ?_
                  exact hj88 _ (by rw [if_neg hc79]) ls (lv_sub hl [2, 3, 4, 5, 6, 7, 9, 10, 11, 0] rfl)
          · have hf := if_t hc43 hf
            refine lv_aload_n hx hb dX8_shrinks_158 rfl (lv_at hl 1 rfl) ?_
            refine q_gr (P := 9) X hh ht fk_X8_31 dX8_shrinks_159 hf (fun t89 h90 hf => ?_)
            refine lv_iload hx hb dX8_shrinks_162 (lv_at hl 4 rfl) ?_
            refine lv_iload hx hb dX8_shrinks_164 (lv_at hl 8 rfl) ?_
            refine lv_iadd hx hb dX8_shrinks_166 ?_
            refine lv_topi (fun x91 e92 => ?_)
            have hf := lt_e e92 hf
            refine lv_iload hx hb dX8_shrinks_167 (lv_at hl 10 rfl) ?_
            refine lv_iload hx hb dX8_shrinks_169 (lv_at hl 11 rfl) ?_
            refine mg_W (P := fun (x94 : Int32) => ∀ (ls : Array Slot), lv_has ls 17 [(0, .ref (B + t)), (3, .int a2), (4, .int v2), (5, .int v4), (6, .int v6), (7, .int v8), (10, .int x19), (11, .int x27), (12, .int x40), (13, .int x41), (14, .int x18)] → W p l e (rmk 3 68 0 0) s m args below meth c H locs 0 0 (MZ below B D 153 w' (some (.int r)) args s 0 0) (F0 m 181 ls [.int x94, .int x91, .ref (B + t89)])) hf (fun x94 hf ls hl => ?_) (fun hj102 => ?_)
            · refine lv_iload hx hb dX8_shrinks_181 (lv_at hl 10 rfl) ?_
              refine lv_isub hx hb dX8_shrinks_183 ?_
              refine q_ast X hh h90 dX8_shrinks_184 hf (fun w96 H locs hf hh => ?_)
              refine lv_iload hx hb dX8_shrinks_185 (lv_at hl 7 rfl) ?_
              refine lv_iload hx hb dX8_shrinks_187 (lv_at hl 8 rfl) ?_
              refine lv_iload hx hb dX8_shrinks_189 (lv_at hl 9 rfl) ?_
              refine mg_W (P := fun (x98 : Int32) => ∀ (ls : Array Slot), lv_has ls 17 [(0, .ref (B + t)), (3, .int a2), (4, .int v2), (5, .int v4), (6, .int v6), (7, .int v8), (10, .int x19)] → W p l e (rmk 3 68 0 0) s m args below meth c H locs 0 0 (MZ below B D 153 w' (some (.int r)) args s 0 0) (F0 m 201 ls [.int x98, .int x27])) hf (fun x98 hf ls hl => ?_) (fun hj101 => ?_)
              · refine lv_isub hx hb dX8_shrinks_201 ?_
                refine lv_topi (fun x99 e100 => ?_)
                have hf := lt_e e100 hf
                refine lv_istore (lv' := [(8, .int x99), (0, .ref (B + t)), (3, .int a2), (4, .int v2), (5, .int v4), (6, .int v6), (7, .int v8), (10, .int x19)]) hx hb dX8_shrinks_202 hl (by decide) rfl (fun ls hl => ?_)
                refine lv_goto (tgt := 354) hx hb dX8_shrinks_204 (by decide) ?_
                exact hj46 _ _ hf  _ _ _ hh (lv_sub hl [1, 2, 3, 4, 5, 6, 0, 7] rfl)
              · refine lv_icmp_le (tgt := 199) hx hb dX8_shrinks_191 (by decide) (fun hc97 => ?_) (fun hc97 => ?_)
                · refine lv_iload hx hb dX8_shrinks_199 (lv_at hl 9 rfl) ?_
                  exact hj101 _ (by rw [if_pos hc97]) ls (lv_sub hl [0, 1, 2, 3, 4, 5, 6] rfl)
                · refine lv_iload hx hb dX8_shrinks_194 (lv_at hl 8 rfl) ?_
                  refine lv_goto (tgt := 201) hx hb dX8_shrinks_196 (by decide) ?_
                  exact hj101 _ (by rw [if_neg hc97]) ls (lv_sub hl [0, 1, 2, 3, 4, 5, 6] rfl)
            · refine lv_icmp_ge (tgt := 179) hx hb dX8_shrinks_171 (by decide) (fun hc93 => ?_) (fun hc93 => ?_)
              · refine lv_iload hx hb dX8_shrinks_179 (lv_at hl 11 rfl) ?_
                exact hj102 _ (by rw [if_pos hc93]) ls (lv_sub hl [1, 2, 3, 4, 5, 6, 8, 9, 10, 11, 0] rfl)
              · refine lv_iload hx hb dX8_shrinks_174 (lv_at hl 10 rfl) ?_
                refine lv_goto (tgt := 181) hx hb dX8_shrinks_176 (by decide) ?_
                exact hj102 _ (by rw [if_neg hc93]) ls (lv_sub hl [1, 2, 3, 4, 5, 6, 8, 9, 10, 11, 0] rfl)
      · refine lv_icmp_ne (tgt := 150) hx hb dX8_shrinks_123 (by decide) (fun hc39 => ?_) (fun hc39 => ?_)
        · have hf := if_f hc39 hf
          exact hj42 _ _ hf  _ _ _ hh (lv_sub hl [3, 4, 5, 6, 7, 8, 9, 10, 2, 1, 0] rfl)
        · have hf := if_t hc39 hf
          refine lv_aload_n hx hb dX8_shrinks_126 rfl (lv_at hl 3 rfl) ?_
          refine q_gr (P := 9) X hh ht fk_X8_31 dX8_shrinks_127 hf (fun t103 h104 hf => ?_)
          refine lv_iload hx hb dX8_shrinks_130 (lv_at hl 8 rfl) ?_
          refine lv_iload hx hb dX8_shrinks_132 (lv_at hl 10 rfl) ?_
          refine lv_iadd hx hb dX8_shrinks_134 ?_
          refine q_ald X hh h104 dX8_shrinks_135 hf (fun hf => ?_)
          refine lv_topi (fun x106 e107 => ?_)
          have hf := lt_e e107 hf
          refine lv_istore (lv' := [(12, .int x106), (13, .int x37), (11, .int x27), (0, .ref (B + t)), (3, .int a2), (4, .int v2), (5, .int v4), (6, .int v6), (7, .int v8), (8, .int x18), (10, .int x19)]) hx hb dX8_shrinks_136 hl (by decide) rfl (fun ls hl => ?_)
          refine lv_aload_n hx hb dX8_shrinks_138 rfl (lv_at hl 3 rfl) ?_
          refine q_gr (P := 9) X hh ht fk_X8_31 dX8_shrinks_139 hf (fun t108 h109 hf => ?_)
          refine lv_iload hx hb dX8_shrinks_142 (lv_at hl 7 rfl) ?_
          refine lv_iload hx hb dX8_shrinks_144 (lv_at hl 10 rfl) ?_
          refine lv_iadd hx hb dX8_shrinks_146 ?_
          refine q_ald X hh h109 dX8_shrinks_147 hf (fun hf => ?_)
          refine lv_topi (fun x111 e112 => ?_)
          have hf := lt_e e112 hf
          refine lv_istore (lv' := [(13, .int x111), (12, .int x106), (11, .int x27), (0, .ref (B + t)), (3, .int a2), (4, .int v2), (5, .int v4), (6, .int v6), (7, .int v8), (8, .int x18), (10, .int x19)]) hx hb dX8_shrinks_148 hl (by decide) rfl (fun ls hl => ?_)
          exact hj42 _ _ hf  _ _ _ hh (lv_sub hl [3, 4, 5, 6, 7, 8, 9, 10, 2, 1, 0] rfl)
  · have hf := if_f hc15 hf
    refine lv_aload_n hx hb dX8_shrinks_57 rfl (lv_at hl 0 rfl) ?_
    refine q_gr (P := 9) X hh ht fk_X8_31 dX8_shrinks_58 hf (fun t113 h114 hf => ?_)
    refine lv_iload hx hb dX8_shrinks_61 (lv_at hl 3 rfl) ?_
    refine lv_iload hx hb dX8_shrinks_63 (lv_at hl 8 rfl) ?_
    refine lv_iadd hx hb dX8_shrinks_65 ?_
    refine lv_iconst (v := (0 : Int32)) hx hb dX8_shrinks_66 (by decide) ?_
    refine q_ast X hh h114 dX8_shrinks_67 hf (fun w116 H locs hf hh => ?_)
    obtain ⟨x117, e118⟩ : ∃ y : Int32, y = (x11 + (1 : Int32)) := ⟨_, rfl⟩
    have hf := lt_e e118 hf
    refine lv_iinc (v := x117) (lv' := [(10, .int x117), (0, .ref (B + t)), (3, .int a2), (4, .int v2), (5, .int v4), (6, .int v6), (7, .int v8), (8, .int (0 : Int32)), (9, .int v10)]) hx hb dX8_shrinks_68 hl (k := 8) rfl (by rw [e118]; rfl) (by decide) rfl (fun ls hl => ?_)
    refine lv_goto (tgt := 50) hx hb dX8_shrinks_71 (by decide) ?_
    exact ih14 _ _ hf  _ _ _ hh (lv_sub hl [1, 2, 3, 4, 5, 6, 7, 8, 0] rfl)
set_option maxHeartbeats 4000000 in
set_option maxRecDepth 100000 in
theorem m_X8_back (l : Launch) (B : Nat) (D : DD) {t : Nat} {a0 : Int32} {w : Wd} {r : Int32} {w' : Wd} (ht : t < 153 ∧ kd t = 8) (hf : f_X8_back t a0 w = some (r, w')) : Ct l yX8_back cX8_back 5 (some .int) 4 104 0 0 B D [.ref (B + t), .int a0] 153 w (some (.int r)) 153 w' := by
  refine m_of (by decide) (Nat.le_of_ble_eq_true rfl) (fun p e s m args below meth c X hml hr hlk _ H locs hh ls hl => ?_)
  have hx := X.1
  have hb := X.2.1
  have hl : lv_has ls 5 [(0, .ref (B + t)), (1, .int a0)] := hl
  unfold f_X8_back at hf
  refine lv_iload_n hx hb dX8_back_0 rfl (lv_at hl 1 rfl) ?_
  refine lv_i2l hx hb dX8_back_1 rfl ?_
  refine lv_lconst (v := (0 : Int64)) hx hb dX8_back_2 (by decide) ?_
  refine lv_ldc2 hx hb X.2.2.1 (X.2.2.2.1 _ k_786) dX8_back_3 ?_
  obtain ⟨v2, hc1, hf⟩ := c1_e hf
  refine q_S (w' := w) (rest := []) X hml hh (some (.int v2)) (m_X8_in l B D hc1) cf_X8_in k_767 rfl hl.1 rfl (Nat.le_of_ble_eq_true rfl) ⟨Nat.le_of_ble_eq_true rfl, Nat.le_of_ble_eq_true rfl⟩ ⟨Nat.zero_le _, Nat.zero_le _⟩ dX8_back_6 rfl (fun H locs hh => ?_)
  refine lv_if_ne (tgt := 14) hx hb dX8_back_9 (by decide) (fun hc3 => ?_) (fun hc3 => ?_)
  · have hf := if_f hc3 hf
    refine lv_aload_n hx hb dX8_back_14 rfl (lv_at hl 0 rfl) ?_
    obtain ⟨w5, hc4, hf⟩ := c1_e hf
    refine q_V (w' := w5) (rest := []) X hml hh none (m_X8_growsAll l B D ht hc4) cf_X8_growsAll k_827 ht ci_8 rfl rfl hl.1 rfl (Nat.le_of_ble_eq_true rfl) ⟨Nat.le_of_ble_eq_true rfl, Nat.le_of_ble_eq_true rfl⟩ ⟨Nat.zero_le _, Nat.zero_le _⟩ dX8_back_15 rfl (fun H locs hh => ?_)
    refine lv_aload_n hx hb dX8_back_18 rfl (lv_at hl 0 rfl) ?_
    refine lv_iload_n hx hb dX8_back_19 rfl (lv_at hl 1 rfl) ?_
    obtain ⟨v7, hc6, hf⟩ := c1_e hf
    refine q_V (w' := w5) (rest := []) X hml hh (some (.int v7)) (m_X8_fitsNow l B D ht hc6) cf_X8_fitsNow k_884 ht ci_8 rfl rfl hl.1 rfl (Nat.le_of_ble_eq_true rfl) ⟨Nat.le_of_ble_eq_true rfl, Nat.le_of_ble_eq_true rfl⟩ ⟨Nat.zero_le _, Nat.zero_le _⟩ dX8_back_20 rfl (fun H locs hh => ?_)
    refine lv_if_ne (tgt := 29) hx hb dX8_back_23 (by decide) (fun hc8 => ?_) (fun hc8 => ?_)
    · have hf := if_f hc8 hf
      refine lv_iconst (v := (0 : Int32)) hx hb dX8_back_29 (by decide) ?_
      refine lv_istore_n (lv' := [(2, .int (0 : Int32)), (0, .ref (B + t)), (1, .int a0)]) hx hb dX8_back_30 rfl hl (by decide) rfl (fun ls hl => ?_)
      refine wl2_W (P := fun (x9 : Int32) (w10 : Wd) => ∀ (H : Heap) (locs : List Loc) (ls : Array Slot), Hp B D 153 w10 s H locs → lv_has ls 5 [(0, .ref (B + t)), (1, .int a0), (2, .int x9)] → W p l e (rmk 4 104 0 0) s m args below meth c H locs 0 0 (MZ below B D 153 w' (some (.int r)) args s 0 0) (F0 m 31 ls [])) hf (fun x9 w10 k11 ih12 hf  H locs ls hh hl => ?_)  _ _ _ hh (lv_sub hl [1, 2, 0] rfl)
      refine lv_iload_n hx hb dX8_back_31 rfl (lv_at hl 2 rfl) ?_
      refine lv_bipush (v := (25 : Int32)) hx hb dX8_back_32 (by decide) ?_
      refine lv_icmp_ge (tgt := 50) hx hb dX8_back_34 (by decide) (fun hc13 => ?_) (fun hc13 => ?_)
      · have hf := if_t hc13 hf
        refine lv_iconst (v := (1 : Int32)) hx hb dX8_back_50 (by decide) ?_
        refine lv_istore_n (lv' := [(2, .int (1 : Int32)), (0, .ref (B + t)), (1, .int a0)]) hx hb dX8_back_51 rfl hl (by decide) rfl (fun ls hl => ?_)
        refine lv_aload_n hx hb dX8_back_52 rfl (lv_at hl 1 rfl) ?_
        refine r_gi X hh ht fk_X8_9 dX8_back_53 ?_
        refine lv_topi (fun x14 e15 => ?_)
        have hf := lt_e e15 hf
        refine lv_istore_n (lv' := [(3, .int x14), (2, .int (1 : Int32)), (0, .ref (B + t)), (1, .int a0)]) hx hb dX8_back_56 rfl hl (by decide) rfl (fun ls hl => ?_)
        refine wl3_W (P := fun (x16 : Int32) (x17 : Int32) (w18 : Wd) => ∀ (H : Heap) (locs : List Loc) (ls : Array Slot), Hp B D 153 w18 s H locs → lv_has ls 5 [(0, .ref (B + t)), (1, .int a0), (2, .int x16), (3, .int x17)] → W p l e (rmk 4 104 0 0) s m args below meth c H locs 0 0 (MZ below B D 153 w' (some (.int r)) args s 0 0) (F0 m 57 ls [])) hf (fun x16 x17 w18 k19 ih20 hf  H locs ls hh hl => ?_)  _ _ _ hh (lv_sub hl [2, 3, 1, 0] rfl)
        refine lv_iload_n hx hb dX8_back_57 rfl (lv_at hl 3 rfl) ?_
        refine lv_if_le (tgt := 128) hx hb dX8_back_58 (by decide) (fun hc21 => ?_) (fun hc21 => ?_)
        · have hf := if_t hc21 hf
          refine lv_iload_n hx hb dX8_back_128 rfl (lv_at hl 2 rfl) ?_
          refine lv_if_ne (tgt := 135) hx hb dX8_back_129 (by decide) (fun hc22 => ?_) (fun hc22 => ?_)
          · have hf := if_f hc22 hf
            refine lv_aload_n hx hb dX8_back_135 rfl (lv_at hl 0 rfl) ?_
            obtain ⟨w24, hc23, hf⟩ := c1_e hf
            refine q_V (w' := w24) (rest := []) X hml hh none (m_X8_does l B D ht hc23) cf_X8_does k_770 ht ci_8 rfl rfl hl.1 rfl (Nat.le_of_ble_eq_true rfl) ⟨Nat.le_of_ble_eq_true rfl, Nat.le_of_ble_eq_true rfl⟩ ⟨Nat.zero_le _, Nat.zero_le _⟩ dX8_back_136 rfl (fun H locs hh => ?_)
            refine lv_iconst (v := (0 : Int32)) hx hb dX8_back_139 (by decide) ?_
            refine lv_istore_n (lv' := [(3, .int (0 : Int32)), (0, .ref (B + t)), (1, .int a0), (2, .int x16)]) hx hb dX8_back_140 rfl hl (by decide) rfl (fun ls hl => ?_)
            refine lv_iconst (v := (0 : Int32)) hx hb dX8_back_141 (by decide) ?_
            refine lv_istore (lv' := [(4, .int (0 : Int32)), (3, .int (0 : Int32)), (0, .ref (B + t)), (1, .int a0), (2, .int x16)]) hx hb dX8_back_142 hl (by decide) rfl (fun ls hl => ?_)
            refine wl3_W (P := fun (x25 : Int32) (x26 : Int32) (w27 : Wd) => ∀ (H : Heap) (locs : List Loc) (ls : Array Slot), Hp B D 153 w27 s H locs → lv_has ls 5 [(0, .ref (B + t)), (1, .int a0), (3, .int x25), (4, .int x26)] → W p l e (rmk 4 104 0 0) s m args below meth c H locs 0 0 (MZ below B D 153 w' (some (.int r)) args s 0 0) (F0 m 144 ls [])) hf (fun x25 x26 w27 k28 ih29 hf  H locs ls hh hl => ?_)  _ _ _ hh (lv_sub hl [2, 3, 1, 0] rfl)
            refine lv_iload hx hb dX8_back_144 (lv_at hl 3 rfl) ?_
            refine lv_bipush (v := (25 : Int32)) hx hb dX8_back_146 (by decide) ?_
            refine lv_icmp_ge (tgt := 196) hx hb dX8_back_148 (by decide) (fun hc30 => ?_) (fun hc30 => ?_)
            · have hf := if_t hc30 hf
              refine lv_aload_n hx hb dX8_back_196 rfl (lv_at hl 0 rfl) ?_
              refine lv_iload_n hx hb dX8_back_197 rfl (lv_at hl 1 rfl) ?_
              refine q_pi X hh ht fk_X8_62 pk_8_2 rfl rfl dX8_back_198 hf (fun w31 H locs hf hh => ?_)
              refine lv_iload_n hx hb dX8_back_201 rfl (lv_at hl 2 rfl) ?_
              exact e_i X hr hlk hh (so2_e hf) dX8_back_202
            · have hf := if_f hc30 hf
              refine lv_iload_n hx hb dX8_back_151 rfl (lv_at hl 2 rfl) ?_
              refine lv_aload_n hx hb dX8_back_152 rfl (lv_at hl 0 rfl) ?_
              refine q_gr (P := 9) X hh ht fk_X8_18 dX8_back_153 hf (fun t32 h33 hf => ?_)
              refine lv_iload hx hb dX8_back_156 (lv_at hl 3 rfl) ?_
              refine q_ald X hh h33 dX8_back_158 hf (fun hf => ?_)
              refine lv_aload_n hx hb dX8_back_159 rfl (lv_at hl 0 rfl) ?_
              refine q_gr (P := 9) X hh ht fk_X8_28 dX8_back_160 hf (fun t35 h36 hf => ?_)
              refine lv_iload hx hb dX8_back_163 (lv_at hl 3 rfl) ?_
              refine q_ald X hh h36 dX8_back_165 hf (fun hf => ?_)
              refine mg_W (P := fun (x39 : Int32) => ∀ (ls : Array Slot), lv_has ls 5 [(0, .ref (B + t)), (1, .int a0), (4, .int x26)] → W p l e (rmk 4 104 0 0) s m args below meth c H locs 0 0 (MZ below B D 153 w' (some (.int r)) args s 0 0) (F0 m 174 ls [.int x39, .int x25])) hf (fun x39 hf ls hl => ?_) (fun hj51 => ?_)
              · refine lv_iadd hx hb dX8_back_174 ?_
                refine lv_topi (fun x40 e41 => ?_)
                have hf := lt_e e41 hf
                refine lv_istore_n (lv' := [(3, .int x40), (0, .ref (B + t)), (1, .int a0), (4, .int x26)]) hx hb dX8_back_175 rfl hl (by decide) rfl (fun ls hl => ?_)
                refine lv_aload_n hx hb dX8_back_176 rfl (lv_at hl 1 rfl) ?_
                refine q_gr (P := 9) X hh ht fk_X8_18 dX8_back_177 hf (fun t42 h43 hf => ?_)
                refine lv_iload hx hb dX8_back_180 (lv_at hl 3 rfl) ?_
                refine lv_aload_n hx hb dX8_back_182 rfl (lv_at hl 1 rfl) ?_
                refine q_gr (P := 9) X hh ht fk_X8_28 dX8_back_183 hf (fun t44 h45 hf => ?_)
                refine lv_iload hx hb dX8_back_186 (lv_at hl 3 rfl) ?_
                refine q_ald X hh h45 dX8_back_188 hf (fun hf => ?_)
                refine q_ast X hh h43 dX8_back_189 hf (fun w48 H locs hf hh => ?_)
                obtain ⟨x49, e50⟩ : ∃ y : Int32, y = (x26 + (1 : Int32)) := ⟨_, rfl⟩
                have hf := lt_e e50 hf
                refine lv_iinc (v := x49) (lv' := [(4, .int x49), (3, .int x40), (0, .ref (B + t)), (1, .int a0)]) hx hb dX8_back_190 hl (k := 3) rfl (by rw [e50]; rfl) (by decide) rfl (fun ls hl => ?_)
                refine lv_goto (tgt := 144) hx hb dX8_back_193 (by decide) ?_
                exact ih29 _ _ _ hf  _ _ _ hh (lv_sub hl [2, 3, 1, 0] rfl)
              · refine lv_icmp_eq (tgt := 173) hx hb dX8_back_166 (by decide) (fun hc38 => ?_) (fun hc38 => ?_)
                · refine lv_iconst (v := (0 : Int32)) hx hb dX8_back_173 (by decide) ?_
                  exact hj51 _ (by rw [if_pos hc38]) ls (lv_sub hl [0, 1, 3] rfl)
                · refine lv_iconst (v := (1 : Int32)) hx hb dX8_back_169 (by decide) ?_
                  refine lv_goto (tgt := 174) hx hb dX8_back_170 (by decide) ?_
                  exact hj51 _ (by rw [if_neg hc38]) ls (lv_sub hl [0, 1, 3] rfl)
          · have hf := if_t hc22 hf
            refine lv_bipush (v := (-5 : Int32)) hx hb dX8_back_132 (by decide) ?_
            exact e_i X hr hlk hh (so2_e hf) dX8_back_134
        · have hf := if_f hc21 hf
          refine lv_aload_n hx hb dX8_back_61 rfl (lv_at hl 0 rfl) ?_
          refine r_gi X hh ht fk_X8_15 dX8_back_62 ?_
          refine lv_topi (fun x52 e53 => ?_)
          have hf := lt_e e53 hf
          refine lv_istore (lv' := [(4, .int x52), (0, .ref (B + t)), (1, .int a0), (2, .int x16), (3, .int x17)]) hx hb dX8_back_65 hl (by decide) rfl (fun ls hl => ?_)
          refine wl3_W (P := fun (x54 : Int32) (x55 : Int32) (w56 : Wd) => ∀ (H : Heap) (locs : List Loc) (ls : Array Slot), Hp B D 153 w56 s H locs → lv_has ls 5 [(0, .ref (B + t)), (1, .int a0), (2, .int x54), (3, .int x17), (4, .int x55)] → W p l e (rmk 4 104 0 0) s m args below meth c H locs 0 0 (MZ below B D 153 w' (some (.int r)) args s 0 0) (F0 m 67 ls [])) hf (fun x54 x55 w56 k57 ih58 hf  H locs ls hh hl => ?_)  _ _ _ hh (lv_sub hl [1, 2, 3, 4, 0] rfl)
          refine lv_iload hx hb dX8_back_67 (lv_at hl 4 rfl) ?_
          refine lv_if_le (tgt := 122) hx hb dX8_back_69 (by decide) (fun hc59 => ?_) (fun hc59 => ?_)
          · have hf := if_t hc59 hf
            obtain ⟨x60, e61⟩ : ∃ y : Int32, y = (x17 + (-1 : Int32)) := ⟨_, rfl⟩
            have hf := lt_e e61 hf
            refine lv_iinc (v := x60) (lv' := [(3, .int x60), (0, .ref (B + t)), (1, .int a0), (2, .int x54), (4, .int x55)]) hx hb dX8_back_122 hl (k := 3) rfl (by rw [e61]; rfl) (by decide) rfl (fun ls hl => ?_)
            refine lv_goto (tgt := 57) hx hb dX8_back_125 (by decide) ?_
            exact ih20 _ _ _ hf  _ _ _ hh (lv_sub hl [1, 2, 3, 0] rfl)
          · have hf := if_f hc59 hf
            refine lv_aload_n hx hb dX8_back_72 rfl (lv_at hl 0 rfl) ?_
            refine q_gr (P := 9) X hh ht fk_X8_28 dX8_back_73 hf (fun t62 h63 hf => ?_)
            refine lv_iload_n hx hb dX8_back_76 rfl (lv_at hl 3 rfl) ?_
            refine lv_iload hx hb dX8_back_77 (lv_at hl 4 rfl) ?_
            obtain ⟨v65, hc64, hf⟩ := c1_e hf
            refine q_S (w' := w56) (rest := [.ref (B + t62)]) X hml hh (some (.int v65)) (m_X8_at l B D hc64) cf_X8_at k_787 rfl hl.1 rfl (Nat.le_of_ble_eq_true rfl) ⟨Nat.le_of_ble_eq_true rfl, Nat.le_of_ble_eq_true rfl⟩ ⟨Nat.zero_le _, Nat.zero_le _⟩ dX8_back_79 rfl (fun H locs hh => ?_)
            refine lv_aload_n hx hb dX8_back_82 rfl (lv_at hl 0 rfl) ?_
            refine lv_iload_n hx hb dX8_back_83 rfl (lv_at hl 3 rfl) ?_
            refine lv_iload hx hb dX8_back_84 (lv_at hl 4 rfl) ?_
            refine lv_iload_n hx hb dX8_back_86 rfl (lv_at hl 1 rfl) ?_
            obtain ⟨v67, w68, hc66, hf⟩ := c2_e hf
            refine q_V (w' := w68) (rest := [.int v65, .ref (B + t62)]) X hml hh (some (.int v67)) (m_X8_shrinks l B D ht hc66) cf_X8_shrinks k_896 ht ci_8 rfl rfl hl.1 rfl (Nat.le_of_ble_eq_true rfl) ⟨Nat.le_of_ble_eq_true rfl, Nat.le_of_ble_eq_true rfl⟩ ⟨Nat.zero_le _, Nat.zero_le _⟩ dX8_back_87 rfl (fun H locs hh => ?_)
            refine q_ast X hh h63 dX8_back_90 hf (fun w70 H locs hf hh => ?_)
            refine lv_iload_n hx hb dX8_back_91 rfl (lv_at hl 2 rfl) ?_
            refine jn_W (P := fun j73 => ∀ (x72 : Int32), j73 x72 = some (r, w') → ∀ (H : Heap) (locs : List Loc) (ls : Array Slot), Hp B D 153 w70 s H locs → lv_has ls 5 [(0, .ref (B + t)), (1, .int a0), (3, .int x17), (4, .int x55)] → W p l e (rmk 4 104 0 0) s m args below meth c H locs 0 0 (MZ below B D 153 w' (some (.int r)) args s 0 0) (F0 m 115 ls [.int x72])) hf (fun x72 hf  H locs ls hh hl => ?_) (fun j73 hj73 hf => ?_)
            · refine lv_istore_n (lv' := [(2, .int x72), (0, .ref (B + t)), (1, .int a0), (3, .int x17), (4, .int x55)]) hx hb dX8_back_115 rfl hl (by decide) rfl (fun ls hl => ?_)
              obtain ⟨x74, e75⟩ : ∃ y : Int32, y = (x55 + (-1 : Int32)) := ⟨_, rfl⟩
              have hf := lt_e e75 hf
              refine lv_iinc (v := x74) (lv' := [(4, .int x74), (2, .int x72), (0, .ref (B + t)), (1, .int a0), (3, .int x17)]) hx hb dX8_back_116 hl (k := 4) rfl (by rw [e75]; rfl) (by decide) rfl (fun ls hl => ?_)
              refine lv_goto (tgt := 67) hx hb dX8_back_119 (by decide) ?_
              exact ih58 _ _ _ hf  _ _ _ hh (lv_sub hl [2, 3, 1, 4, 0] rfl)
            · refine jn_W (P := fun j76 => j76 = some (r, w') → ∀ (H : Heap) (locs : List Loc) (ls : Array Slot), Hp B D 153 w70 s H locs → lv_has ls 5 [(0, .ref (B + t)), (1, .int a0), (3, .int x17), (4, .int x55)] → W p l e (rmk 4 104 0 0) s m args below meth c H locs 0 0 (MZ below B D 153 w' (some (.int r)) args s 0 0) (F0 m 114 ls [])) hf (fun  hf  H locs ls hh hl => ?_) (fun j76 hj76 hf => ?_)
              · refine lv_iconst (v := (0 : Int32)) hx hb dX8_back_114 (by decide) ?_
                exact hj73 _ hf  _ _ _ hh (lv_sub hl [0, 1, 2, 3] rfl)
              · refine lv_if_eq (tgt := 114) hx hb dX8_back_92 (by decide) (fun hc71 => ?_) (fun hc71 => ?_)
                · have hf := if_t hc71 hf
                  exact hj76  hf  _ _ _ hh (lv_sub hl [0, 1, 3, 4] rfl)
                · have hf := if_f hc71 hf
                  refine lv_aload_n hx hb dX8_back_95 rfl (lv_at hl 0 rfl) ?_
                  refine q_gr (P := 9) X hh ht fk_X8_28 dX8_back_96 hf (fun t77 h78 hf => ?_)
                  refine lv_iload_n hx hb dX8_back_99 rfl (lv_at hl 3 rfl) ?_
                  refine lv_iload hx hb dX8_back_100 (lv_at hl 4 rfl) ?_
                  obtain ⟨v80, hc79, hf⟩ := c1_e hf
                  refine q_S (w' := w70) (rest := [.ref (B + t77)]) X hml hh (some (.int v80)) (m_X8_at l B D hc79) cf_X8_at k_787 rfl hl.1 rfl (Nat.le_of_ble_eq_true rfl) ⟨Nat.le_of_ble_eq_true rfl, Nat.le_of_ble_eq_true rfl⟩ ⟨Nat.zero_le _, Nat.zero_le _⟩ dX8_back_102 rfl (fun H locs hh => ?_)
                  refine q_ald X hh h78 dX8_back_105 hf (fun hf => ?_)
                  refine lv_iconst (v := (3 : Int32)) hx hb dX8_back_106 (by decide) ?_
                  refine lv_icmp_gt (tgt := 114) hx hb dX8_back_107 (by decide) (fun hc82 => ?_) (fun hc82 => ?_)
                  · have hf := if_t hc82 hf
                    exact hj76  hf  _ _ _ hh (lv_sub hl [0, 1, 3, 4] rfl)
                  · have hf := if_f hc82 hf
                    refine lv_iconst (v := (1 : Int32)) hx hb dX8_back_110 (by decide) ?_
                    refine lv_goto (tgt := 115) hx hb dX8_back_111 (by decide) ?_
                    exact hj73 _ hf  _ _ _ hh (lv_sub hl [0, 1, 3, 4] rfl)
      · have hf := if_f hc13 hf
        refine lv_aload_n hx hb dX8_back_37 rfl (lv_at hl 0 rfl) ?_
        refine q_gr (P := 9) X hh ht fk_X8_28 dX8_back_38 hf (fun t83 h84 hf => ?_)
        refine lv_iload_n hx hb dX8_back_41 rfl (lv_at hl 2 rfl) ?_
        refine lv_iconst (v := (0 : Int32)) hx hb dX8_back_42 (by decide) ?_
        refine q_ast X hh h84 dX8_back_43 hf (fun w86 H locs hf hh => ?_)
        obtain ⟨x87, e88⟩ : ∃ y : Int32, y = (x9 + (1 : Int32)) := ⟨_, rfl⟩
        have hf := lt_e e88 hf
        refine lv_iinc (v := x87) (lv' := [(2, .int x87), (0, .ref (B + t)), (1, .int a0)]) hx hb dX8_back_44 hl (k := 2) rfl (by rw [e88]; rfl) (by decide) rfl (fun ls hl => ?_)
        refine lv_goto (tgt := 31) hx hb dX8_back_47 (by decide) ?_
        exact ih12 _ _ hf  _ _ _ hh (lv_sub hl [1, 2, 0] rfl)
    · have hf := if_t hc8 hf
      refine lv_bipush (v := (-5 : Int32)) hx hb dX8_back_26 (by decide) ?_
      exact e_i X hr hlk hh (so2_e hf) dX8_back_28
  · have hf := if_t hc3 hf
    refine lv_iconst (v := (-1 : Int32)) hx hb dX8_back_12 (by decide) ?_
    exact e_i X hr hlk hh (so2_e hf) dX8_back_13
set_option maxHeartbeats 4000000 in
set_option maxRecDepth 100000 in
theorem m_X8_goes (l : Launch) (B : Nat) (D : DD) {a0 : Int32} {a1 : Int32} {a2 : Int32} {a3 : Int32} {a4 : Int32} {w : Wd} {r : Int32} (hf : f_X8_goes a0 a1 a2 a3 a4 = some r) : Ct l yX8_goes cX8_goes 5 (some .boolean) 0 0 0 0 B D [.int a0, .int a1, .int a2, .int a3, .int a4] 153 w (some (.int r)) 153 w := by
  refine m_of (by decide) (Nat.le_of_ble_eq_true rfl) (fun p e s m args below meth c X hml hr hlk _ H locs hh ls hl => ?_)
  have hx := X.1
  have hb := X.2.1
  have hl : lv_has ls 5 [(0, .int a0), (1, .int a1), (2, .int a2), (3, .int a3), (4, .int a4)] := hl
  unfold f_X8_goes at hf
  refine lv_iload_n hx hb dX8_goes_0 rfl (lv_at hl 0 rfl) ?_
  by_cases hc1 : a0.toInt = 0
  · have hf := if_t hc1 hf
    refine lv_tableIn (off := 27) (tgt := 28) hx hb dX8_goes_1 (by omega) (by omega) (by rw [hc1]; rfl) (by decide) ?_
    refine lv_iload_n hx hb dX8_goes_28 rfl (lv_at hl 3 rfl) ?_
    refine lv_iload_n hx hb dX8_goes_29 rfl (lv_at hl 1 rfl) ?_
    refine mg_W (P := fun (x6 : Int32) => ∀ (ls : Array Slot), lv_has ls 5 [] → W p l e (rmk 0 0 0 0) s m args below meth c H locs 0 0 (MZ below B D 153 w (some (.int r)) args s 0 0) (F0 m 55 ls [.int x6])) hf (fun x6 hf ls hl => ?_) (fun hj7 => ?_)
    · have hz := zb_e hf
      have hf := hz.2
      exact e_z X hr hlk hh hz.1 ⟨so_e hf, rfl⟩ dX8_goes_55
    · refine lv_icmp_lt (tgt := 54) hx hb dX8_goes_30 (by decide) (fun hc2 => ?_) (fun hc2 => ?_)
      · refine lv_iconst (v := (0 : Int32)) hx hb dX8_goes_54 (by decide) ?_
        exact hj7 _ (by rw [if_pos hc2]) ls (lv_sub hl [] rfl)
      · refine lv_iload hx hb dX8_goes_33 (lv_at hl 4 rfl) ?_
        refine lv_iload_n hx hb dX8_goes_35 rfl (lv_at hl 2 rfl) ?_
        refine lv_icmp_lt (tgt := 54) hx hb dX8_goes_36 (by decide) (fun hc3 => ?_) (fun hc3 => ?_)
        · refine lv_iconst (v := (0 : Int32)) hx hb dX8_goes_54 (by decide) ?_
          exact hj7 _ (by rw [if_neg hc2, if_pos hc3]) ls (lv_sub hl [] rfl)
        · refine lv_iload_n hx hb dX8_goes_39 rfl (lv_at hl 3 rfl) ?_
          refine lv_iload_n hx hb dX8_goes_40 rfl (lv_at hl 1 rfl) ?_
          refine lv_icmp_gt (tgt := 50) hx hb dX8_goes_41 (by decide) (fun hc4 => ?_) (fun hc4 => ?_)
          · refine lv_iconst (v := (1 : Int32)) hx hb dX8_goes_50 (by decide) ?_
            refine lv_goto (tgt := 55) hx hb dX8_goes_51 (by decide) ?_
            exact hj7 _ (by rw [if_neg hc2, if_neg hc3, if_pos hc4]) ls (lv_sub hl [] rfl)
          · refine lv_iload hx hb dX8_goes_44 (lv_at hl 4 rfl) ?_
            refine lv_iload_n hx hb dX8_goes_46 rfl (lv_at hl 2 rfl) ?_
            refine lv_icmp_le (tgt := 54) hx hb dX8_goes_47 (by decide) (fun hc5 => ?_) (fun hc5 => ?_)
            · refine lv_iconst (v := (0 : Int32)) hx hb dX8_goes_54 (by decide) ?_
              exact hj7 _ (by rw [if_neg hc2, if_neg hc3, if_neg hc4, if_pos hc5]) ls (lv_sub hl [] rfl)
            · refine lv_iconst (v := (1 : Int32)) hx hb dX8_goes_50 (by decide) ?_
              refine lv_goto (tgt := 55) hx hb dX8_goes_51 (by decide) ?_
              exact hj7 _ (by rw [if_neg hc2, if_neg hc3, if_neg hc4, if_neg hc5]) ls (lv_sub hl [] rfl)
  · have hf := if_f hc1 hf
    by_cases hc8 : a0.toInt = 1
    · have hf := if_t hc8 hf
      refine lv_tableIn (off := 55) (tgt := 56) hx hb dX8_goes_1 (by omega) (by omega) (by rw [hc8]; rfl) (by decide) ?_
      refine lv_iload_n hx hb dX8_goes_56 rfl (lv_at hl 3 rfl) ?_
      refine lv_iload_n hx hb dX8_goes_57 rfl (lv_at hl 1 rfl) ?_
      refine mg_W (P := fun (x11 : Int32) => ∀ (ls : Array Slot), lv_has ls 5 [] → W p l e (rmk 0 0 0 0) s m args below meth c H locs 0 0 (MZ below B D 153 w (some (.int r)) args s 0 0) (F0 m 72 ls [.int x11])) hf (fun x11 hf ls hl => ?_) (fun hj12 => ?_)
      · have hz := zb_e hf
        have hf := hz.2
        exact e_z X hr hlk hh hz.1 ⟨so_e hf, rfl⟩ dX8_goes_72
      · refine lv_icmp_le (tgt := 71) hx hb dX8_goes_58 (by decide) (fun hc9 => ?_) (fun hc9 => ?_)
        · refine lv_iconst (v := (0 : Int32)) hx hb dX8_goes_71 (by decide) ?_
          exact hj12 _ (by rw [if_pos hc9]) ls (lv_sub hl [] rfl)
        · refine lv_iload hx hb dX8_goes_61 (lv_at hl 4 rfl) ?_
          refine lv_iload_n hx hb dX8_goes_63 rfl (lv_at hl 2 rfl) ?_
          refine lv_icmp_le (tgt := 71) hx hb dX8_goes_64 (by decide) (fun hc10 => ?_) (fun hc10 => ?_)
          · refine lv_iconst (v := (0 : Int32)) hx hb dX8_goes_71 (by decide) ?_
            exact hj12 _ (by rw [if_neg hc9, if_pos hc10]) ls (lv_sub hl [] rfl)
          · refine lv_iconst (v := (1 : Int32)) hx hb dX8_goes_67 (by decide) ?_
            refine lv_goto (tgt := 72) hx hb dX8_goes_68 (by decide) ?_
            exact hj12 _ (by rw [if_neg hc9, if_neg hc10]) ls (lv_sub hl [] rfl)
    · have hf := if_f hc8 hf
      by_cases hc13 : a0.toInt = 2
      · have hf := if_t hc13 hf
        refine lv_tableIn (off := 72) (tgt := 73) hx hb dX8_goes_1 (by omega) (by omega) (by rw [hc13]; rfl) (by decide) ?_
        refine lv_iload_n hx hb dX8_goes_73 rfl (lv_at hl 3 rfl) ?_
        refine lv_iload_n hx hb dX8_goes_74 rfl (lv_at hl 1 rfl) ?_
        refine mg_W (P := fun (x18 : Int32) => ∀ (ls : Array Slot), lv_has ls 5 [] → W p l e (rmk 0 0 0 0) s m args below meth c H locs 0 0 (MZ below B D 153 w (some (.int r)) args s 0 0) (F0 m 100 ls [.int x18])) hf (fun x18 hf ls hl => ?_) (fun hj19 => ?_)
        · have hz := zb_e hf
          have hf := hz.2
          exact e_z X hr hlk hh hz.1 ⟨so_e hf, rfl⟩ dX8_goes_100
        · refine lv_icmp_lt (tgt := 99) hx hb dX8_goes_75 (by decide) (fun hc14 => ?_) (fun hc14 => ?_)
          · refine lv_iconst (v := (0 : Int32)) hx hb dX8_goes_99 (by decide) ?_
            exact hj19 _ (by rw [if_pos hc14]) ls (lv_sub hl [] rfl)
          · refine lv_iload hx hb dX8_goes_78 (lv_at hl 4 rfl) ?_
            refine lv_iload_n hx hb dX8_goes_80 rfl (lv_at hl 2 rfl) ?_
            refine lv_icmp_gt (tgt := 99) hx hb dX8_goes_81 (by decide) (fun hc15 => ?_) (fun hc15 => ?_)
            · refine lv_iconst (v := (0 : Int32)) hx hb dX8_goes_99 (by decide) ?_
              exact hj19 _ (by rw [if_neg hc14, if_pos hc15]) ls (lv_sub hl [] rfl)
            · refine lv_iload_n hx hb dX8_goes_84 rfl (lv_at hl 3 rfl) ?_
              refine lv_iload_n hx hb dX8_goes_85 rfl (lv_at hl 1 rfl) ?_
              refine lv_icmp_gt (tgt := 95) hx hb dX8_goes_86 (by decide) (fun hc16 => ?_) (fun hc16 => ?_)
              · refine lv_iconst (v := (1 : Int32)) hx hb dX8_goes_95 (by decide) ?_
                refine lv_goto (tgt := 100) hx hb dX8_goes_96 (by decide) ?_
                exact hj19 _ (by rw [if_neg hc14, if_neg hc15, if_pos hc16]) ls (lv_sub hl [] rfl)
              · refine lv_iload hx hb dX8_goes_89 (lv_at hl 4 rfl) ?_
                refine lv_iload_n hx hb dX8_goes_91 rfl (lv_at hl 2 rfl) ?_
                refine lv_icmp_ge (tgt := 99) hx hb dX8_goes_92 (by decide) (fun hc17 => ?_) (fun hc17 => ?_)
                · refine lv_iconst (v := (0 : Int32)) hx hb dX8_goes_99 (by decide) ?_
                  exact hj19 _ (by rw [if_neg hc14, if_neg hc15, if_neg hc16, if_pos hc17]) ls (lv_sub hl [] rfl)
                · refine lv_iconst (v := (1 : Int32)) hx hb dX8_goes_95 (by decide) ?_
                  refine lv_goto (tgt := 100) hx hb dX8_goes_96 (by decide) ?_
                  exact hj19 _ (by rw [if_neg hc14, if_neg hc15, if_neg hc16, if_neg hc17]) ls (lv_sub hl [] rfl)
      · have hf := if_f hc13 hf
        refine lv_tableOut (tgt := 101) hx hb dX8_goes_1 (by omega) (by decide) ?_
        refine lv_iload_n hx hb dX8_goes_101 rfl (lv_at hl 3 rfl) ?_
        refine lv_iload_n hx hb dX8_goes_102 rfl (lv_at hl 1 rfl) ?_
        refine mg_W (P := fun (x22 : Int32) => ∀ (ls : Array Slot), lv_has ls 5 [] → W p l e (rmk 0 0 0 0) s m args below meth c H locs 0 0 (MZ below B D 153 w (some (.int r)) args s 0 0) (F0 m 117 ls [.int x22])) hf (fun x22 hf ls hl => ?_) (fun hj23 => ?_)
        · have hz := zb_e hf
          have hf := hz.2
          exact e_z X hr hlk hh hz.1 ⟨so_e hf, rfl⟩ dX8_goes_117
        · refine lv_icmp_le (tgt := 116) hx hb dX8_goes_103 (by decide) (fun hc20 => ?_) (fun hc20 => ?_)
          · refine lv_iconst (v := (0 : Int32)) hx hb dX8_goes_116 (by decide) ?_
            exact hj23 _ (by rw [if_pos hc20]) ls (lv_sub hl [] rfl)
          · refine lv_iload hx hb dX8_goes_106 (lv_at hl 4 rfl) ?_
            refine lv_iload_n hx hb dX8_goes_108 rfl (lv_at hl 2 rfl) ?_
            refine lv_icmp_ge (tgt := 116) hx hb dX8_goes_109 (by decide) (fun hc21 => ?_) (fun hc21 => ?_)
            · refine lv_iconst (v := (0 : Int32)) hx hb dX8_goes_116 (by decide) ?_
              exact hj23 _ (by rw [if_neg hc20, if_pos hc21]) ls (lv_sub hl [] rfl)
            · refine lv_iconst (v := (1 : Int32)) hx hb dX8_goes_112 (by decide) ?_
              refine lv_goto (tgt := 117) hx hb dX8_goes_113 (by decide) ?_
              exact hj23 _ (by rw [if_neg hc20, if_neg hc21]) ls (lv_sub hl [] rfl)
set_option maxHeartbeats 4000000 in
set_option maxRecDepth 100000 in
theorem m_X8_longest (l : Launch) (B : Nat) (D : DD) {t : Nat} {a0 : Int32} {a1 : Int32} {w : Wd} {r : Int32} {w' : Wd} (ht : t < 153 ∧ kd t = 8) (hf : f_X8_longest t a0 a1 w = some (r, w')) : Ct l yX8_longest cX8_longest 10 (some .int) 1 25 0 0 B D [.ref (B + t), .int a0, .int a1] 153 w (some (.int r)) 153 w' := by
  refine m_of (by decide) (Nat.le_of_ble_eq_true rfl) (fun p e s m args below meth c X hml hr hlk _ H locs hh ls hl => ?_)
  have hx := X.1
  have hb := X.2.1
  have hl : lv_has ls 10 [(0, .ref (B + t)), (1, .int a0), (2, .int a1)] := hl
  unfold f_X8_longest at hf
  refine lv_iload_n hx hb dX8_longest_0 rfl (lv_at hl 1 rfl) ?_
  refine lv_i2l hx hb dX8_longest_1 rfl ?_
  refine lv_lconst (v := (0 : Int64)) hx hb dX8_longest_2 (by decide) ?_
  refine lv_ldc2 hx hb X.2.2.1 (X.2.2.2.1 _ k_786) dX8_longest_3 ?_
  obtain ⟨v2, hc1, hf⟩ := c1_e hf
  refine q_S (w' := w) (rest := []) X hml hh (some (.int v2)) (m_X8_in l B D hc1) cf_X8_in k_767 rfl hl.1 rfl (Nat.le_of_ble_eq_true rfl) ⟨Nat.le_of_ble_eq_true rfl, Nat.le_of_ble_eq_true rfl⟩ ⟨Nat.zero_le _, Nat.zero_le _⟩ dX8_longest_6 rfl (fun H locs hh => ?_)
  refine lv_if_eq (tgt := 22) hx hb dX8_longest_9 (by decide) (fun hc3 => ?_) (fun hc3 => ?_)
  · have hf := if_t hc3 hf
    refine lv_iconst (v := (-1 : Int32)) hx hb dX8_longest_22 (by decide) ?_
    exact e_i X hr hlk hh (so2_e hf) dX8_longest_23
  · have hf := if_f hc3 hf
    refine lv_iload_n hx hb dX8_longest_12 rfl (lv_at hl 2 rfl) ?_
    refine lv_i2l hx hb dX8_longest_13 rfl ?_
    refine lv_lconst (v := (0 : Int64)) hx hb dX8_longest_14 (by decide) ?_
    refine lv_lconst (v := (1 : Int64)) hx hb dX8_longest_15 (by decide) ?_
    obtain ⟨v5, hc4, hf⟩ := c1_e hf
    refine q_S (w' := w) (rest := []) X hml hh (some (.int v5)) (m_X8_in l B D hc4) cf_X8_in k_767 rfl hl.1 rfl (Nat.le_of_ble_eq_true rfl) ⟨Nat.le_of_ble_eq_true rfl, Nat.le_of_ble_eq_true rfl⟩ ⟨Nat.zero_le _, Nat.zero_le _⟩ dX8_longest_16 rfl (fun H locs hh => ?_)
    refine lv_if_ne (tgt := 24) hx hb dX8_longest_19 (by decide) (fun hc6 => ?_) (fun hc6 => ?_)
    · have hf := if_f hc6 hf
      refine lv_iconst (v := (0 : Int32)) hx hb dX8_longest_24 (by decide) ?_
      refine lv_istore_n (lv' := [(3, .int (0 : Int32)), (0, .ref (B + t)), (1, .int a0), (2, .int a1)]) hx hb dX8_longest_25 rfl hl (by decide) rfl (fun ls hl => ?_)
      refine lv_iconst (v := (1 : Int32)) hx hb dX8_longest_26 (by decide) ?_
      refine lv_istore (lv' := [(4, .int (1 : Int32)), (3, .int (0 : Int32)), (0, .ref (B + t)), (1, .int a0), (2, .int a1)]) hx hb dX8_longest_27 hl (by decide) rfl (fun ls hl => ?_)
      refine wl3_W (P := fun (x7 : Int32) (x8 : Int32) (w9 : Wd) => ∀ (H : Heap) (locs : List Loc) (ls : Array Slot), Hp B D 153 w9 s H locs → lv_has ls 10 [(0, .ref (B + t)), (1, .int a0), (2, .int a1), (3, .int x7), (4, .int x8)] → W p l e (rmk 1 25 0 0) s m args below meth c H locs 0 0 (MZ below B D 153 w' (some (.int r)) args s 0 0) (F0 m 29 ls [])) hf (fun x7 x8 w9 k10 ih11 hf  H locs ls hh hl => ?_)  _ _ _ hh (lv_sub hl [2, 3, 4, 1, 0] rfl)
      refine lv_iload hx hb dX8_longest_29 (lv_at hl 4 rfl) ?_
      refine lv_aload_n hx hb dX8_longest_31 rfl (lv_at hl 0 rfl) ?_
      refine r_gi X hh ht fk_X8_9 dX8_longest_32 ?_
      refine lv_icmp_gt (tgt := 247) hx hb dX8_longest_35 (by decide) (fun hc12 => ?_) (fun hc12 => ?_)
      · have hf := if_t hc12 hf
        refine lv_iload_n hx hb dX8_longest_247 rfl (lv_at hl 3 rfl) ?_
        exact e_i X hr hlk hh (so2_e hf) dX8_longest_248
      · have hf := if_f hc12 hf
        refine lv_iconst (v := (0 : Int32)) hx hb dX8_longest_38 (by decide) ?_
        refine lv_istore (lv' := [(5, .int (0 : Int32)), (0, .ref (B + t)), (1, .int a0), (2, .int a1), (3, .int x7), (4, .int x8)]) hx hb dX8_longest_39 hl (by decide) rfl (fun ls hl => ?_)
        refine wl3_W (P := fun (x13 : Int32) (x14 : Int32) (w15 : Wd) => ∀ (H : Heap) (locs : List Loc) (ls : Array Slot), Hp B D 153 w15 s H locs → lv_has ls 10 [(0, .ref (B + t)), (1, .int a0), (2, .int a1), (3, .int x13), (4, .int x8), (5, .int x14)] → W p l e (rmk 1 25 0 0) s m args below meth c H locs 0 0 (MZ below B D 153 w' (some (.int r)) args s 0 0) (F0 m 41 ls [])) hf (fun x13 x14 w15 k16 ih17 hf  H locs ls hh hl => ?_)  _ _ _ hh (lv_sub hl [1, 2, 3, 4, 5, 0] rfl)
        refine lv_iload hx hb dX8_longest_41 (lv_at hl 5 rfl) ?_
        refine lv_aload_n hx hb dX8_longest_43 rfl (lv_at hl 0 rfl) ?_
        refine r_gi X hh ht fk_X8_15 dX8_longest_44 ?_
        refine lv_icmp_ge (tgt := 241) hx hb dX8_longest_47 (by decide) (fun hc18 => ?_) (fun hc18 => ?_)
        · have hf := if_t hc18 hf
          obtain ⟨x19, e20⟩ : ∃ y : Int32, y = (x8 + (1 : Int32)) := ⟨_, rfl⟩
          have hf := lt_e e20 hf
          refine lv_iinc (v := x19) (lv' := [(4, .int x19), (0, .ref (B + t)), (1, .int a0), (2, .int a1), (3, .int x13), (5, .int x14)]) hx hb dX8_longest_241 hl (k := 4) rfl (by rw [e20]; rfl) (by decide) rfl (fun ls hl => ?_)
          refine lv_goto (tgt := 29) hx hb dX8_longest_244 (by decide) ?_
          exact ih11 _ _ _ hf  _ _ _ hh (lv_sub hl [1, 2, 3, 4, 0] rfl)
        · have hf := if_f hc18 hf
          refine lv_iload_n hx hb dX8_longest_50 rfl (lv_at hl 1 rfl) ?_
          refine lv_iconst (v := (2 : Int32)) hx hb dX8_longest_51 (by decide) ?_
          refine mg_W (P := fun (x22 : Int32) => ∀ (ls : Array Slot), lv_has ls 10 [(0, .ref (B + t)), (1, .int a0), (2, .int a1), (3, .int x13), (4, .int x8), (5, .int x14)] → W p l e (rmk 1 25 0 0) s m args below meth c H locs 0 0 (MZ below B D 153 w' (some (.int r)) args s 0 0) (F0 m 69 ls [.int x22])) hf (fun x22 hf ls hl => ?_) (fun hj89 => ?_)
          · refine lv_istore (lv' := [(6, .int x22), (0, .ref (B + t)), (1, .int a0), (2, .int a1), (3, .int x13), (4, .int x8), (5, .int x14)]) hx hb dX8_longest_69 hl (by decide) rfl (fun ls hl => ?_)
            refine lv_iconst (v := (0 : Int32)) hx hb dX8_longest_71 (by decide) ?_
            refine lv_istore (lv' := [(7, .int (0 : Int32)), (6, .int x22), (0, .ref (B + t)), (1, .int a0), (2, .int a1), (3, .int x13), (4, .int x8), (5, .int x14)]) hx hb dX8_longest_72 hl (by decide) rfl (fun ls hl => ?_)
            refine lv_iconst (v := (1 : Int32)) hx hb dX8_longest_74 (by decide) ?_
            refine lv_istore (lv' := [(8, .int (1 : Int32)), (7, .int (0 : Int32)), (6, .int x22), (0, .ref (B + t)), (1, .int a0), (2, .int a1), (3, .int x13), (4, .int x8), (5, .int x14)]) hx hb dX8_longest_75 hl (by decide) rfl (fun ls hl => ?_)
            refine wl2_W (P := fun (x23 : Int32) (x24 : Int32) => ∀ (H : Heap) (locs : List Loc) (ls : Array Slot), Hp B D 153 w15 s H locs → lv_has ls 10 [(0, .ref (B + t)), (1, .int a0), (2, .int a1), (3, .int x13), (4, .int x8), (5, .int x14), (6, .int x22), (7, .int x23), (8, .int x24)] → W p l e (rmk 1 25 0 0) s m args below meth c H locs 0 0 (MZ below B D 153 w' (some (.int r)) args s 0 0) (F0 m 77 ls [])) hf (fun x23 x24 k25 ih26 hf  H locs ls hh hl => ?_)  _ _ _ hh (lv_sub hl [3, 4, 5, 6, 7, 8, 2, 1, 0] rfl)
            refine lv_iload hx hb dX8_longest_77 (lv_at hl 8 rfl) ?_
            refine lv_iload hx hb dX8_longest_79 (lv_at hl 4 rfl) ?_
            refine lv_icmp_gt (tgt := 154) hx hb dX8_longest_81 (by decide) (fun hc27 => ?_) (fun hc27 => ?_)
            · have hf := if_t hc27 hf
              refine lv_aload_n hx hb dX8_longest_154 rfl (lv_at hl 0 rfl) ?_
              refine q_gr (P := 9) X hh ht fk_X8_18 dX8_longest_155 hf (fun t28 h29 hf => ?_)
              refine lv_iload hx hb dX8_longest_158 (lv_at hl 4 rfl) ?_
              refine lv_iload hx hb dX8_longest_160 (lv_at hl 6 rfl) ?_
              obtain ⟨v31, hc30, hf⟩ := c1_e hf
              refine q_S (w' := w15) (rest := [.ref (B + t28)]) X hml hh (some (.int v31)) (m_X8_at l B D hc30) cf_X8_at k_787 rfl hl.1 rfl (Nat.le_of_ble_eq_true rfl) ⟨Nat.le_of_ble_eq_true rfl, Nat.le_of_ble_eq_true rfl⟩ ⟨Nat.zero_le _, Nat.zero_le _⟩ dX8_longest_162 rfl (fun H locs hh => ?_)
              refine q_ald X hh h29 dX8_longest_165 hf (fun hf => ?_)
              refine lv_topi (fun x33 e34 => ?_)
              have hf := lt_e e34 hf
              refine lv_istore (lv' := [(8, .int x33), (0, .ref (B + t)), (1, .int a0), (2, .int a1), (3, .int x13), (4, .int x8), (5, .int x14), (6, .int x22), (7, .int x23)]) hx hb dX8_longest_166 hl (by decide) rfl (fun ls hl => ?_)
              refine lv_aload_n hx hb dX8_longest_168 rfl (lv_at hl 1 rfl) ?_
              refine q_gr (P := 9) X hh ht fk_X8_34 dX8_longest_169 hf (fun t35 h36 hf => ?_)
              refine lv_iload hx hb dX8_longest_172 (lv_at hl 5 rfl) ?_
              refine lv_iload hx hb dX8_longest_174 (lv_at hl 7 rfl) ?_
              obtain ⟨v38, hc37, hf⟩ := c1_e hf
              refine q_S (w' := w15) (rest := [.ref (B + t35)]) X hml hh (some (.int v38)) (m_X8_at l B D hc37) cf_X8_at k_787 rfl hl.1 rfl (Nat.le_of_ble_eq_true rfl) ⟨Nat.le_of_ble_eq_true rfl, Nat.le_of_ble_eq_true rfl⟩ ⟨Nat.zero_le _, Nat.zero_le _⟩ dX8_longest_176 rfl (fun H locs hh => ?_)
              refine lv_iload hx hb dX8_longest_179 (lv_at hl 8 rfl) ?_
              refine lv_iload_n hx hb dX8_longest_181 rfl (lv_at hl 3 rfl) ?_
              refine mg_W (P := fun (x41 : Int32) => ∀ (ls : Array Slot), lv_has ls 10 [(0, .ref (B + t)), (1, .int a0), (2, .int a1), (3, .int x13), (4, .int x8), (5, .int x14), (6, .int x22)] → W p l e (rmk 1 25 0 0) s m args below meth c H locs 0 0 (MZ below B D 153 w' (some (.int r)) args s 0 0) (F0 m 200 ls [.int x41, .int x23, .int v38, .ref (B + t35)])) hf (fun x41 hf ls hl => ?_) (fun hj61 => ?_)
              · refine lv_iadd hx hb dX8_longest_200 ?_
                refine q_ast X hh h36 dX8_longest_201 hf (fun w43 H locs hf hh => ?_)
                refine lv_aload_n hx hb dX8_longest_202 rfl (lv_at hl 0 rfl) ?_
                refine q_gr (P := 9) X hh ht fk_X8_34 dX8_longest_203 hf (fun t44 h45 hf => ?_)
                refine lv_iload hx hb dX8_longest_206 (lv_at hl 4 rfl) ?_
                refine lv_iload hx hb dX8_longest_208 (lv_at hl 6 rfl) ?_
                obtain ⟨v47, hc46, hf⟩ := c1_e hf
                refine q_S (w' := w43) (rest := [.ref (B + t44)]) X hml hh (some (.int v47)) (m_X8_at l B D hc46) cf_X8_at k_787 rfl hl.1 rfl (Nat.le_of_ble_eq_true rfl) ⟨Nat.le_of_ble_eq_true rfl, Nat.le_of_ble_eq_true rfl⟩ ⟨Nat.zero_le _, Nat.zero_le _⟩ dX8_longest_210 rfl (fun H locs hh => ?_)
                refine q_ald X hh h45 dX8_longest_213 hf (fun hf => ?_)
                refine lv_iload_n hx hb dX8_longest_214 rfl (lv_at hl 3 rfl) ?_
                refine jn_W (P := fun j51 => ∀ (x50 : Int32), j51 x50 = some (r, w') → ∀ (H : Heap) (locs : List Loc) (ls : Array Slot), Hp B D 153 w43 s H locs → lv_has ls 10 [(0, .ref (B + t)), (1, .int a0), (2, .int a1), (4, .int x8), (5, .int x14)] → W p l e (rmk 1 25 0 0) s m args below meth c H locs 0 0 (MZ below B D 153 w' (some (.int r)) args s 0 0) (F0 m 234 ls [.int x50])) hf (fun x50 hf  H locs ls hh hl => ?_) (fun j51 hj51 hf => ?_)
                · refine lv_istore_n (lv' := [(3, .int x50), (0, .ref (B + t)), (1, .int a0), (2, .int a1), (4, .int x8), (5, .int x14)]) hx hb dX8_longest_234 rfl hl (by decide) rfl (fun ls hl => ?_)
                  obtain ⟨x52, e53⟩ : ∃ y : Int32, y = (x14 + (1 : Int32)) := ⟨_, rfl⟩
                  have hf := lt_e e53 hf
                  refine lv_iinc (v := x52) (lv' := [(5, .int x52), (3, .int x50), (0, .ref (B + t)), (1, .int a0), (2, .int a1), (4, .int x8)]) hx hb dX8_longest_235 hl (k := 5) rfl (by rw [e53]; rfl) (by decide) rfl (fun ls hl => ?_)
                  refine lv_goto (tgt := 41) hx hb dX8_longest_238 (by decide) ?_
                  exact ih17 _ _ _ hf  _ _ _ hh (lv_sub hl [2, 3, 4, 1, 5, 0] rfl)
                · refine lv_icmp_le (tgt := 233) hx hb dX8_longest_215 (by decide) (fun hc49 => ?_) (fun hc49 => ?_)
                  · have hf := if_t hc49 hf
                    refine lv_iload_n hx hb dX8_longest_233 rfl (lv_at hl 3 rfl) ?_
                    exact hj51 _ hf  _ _ _ hh (lv_sub hl [0, 1, 2, 4, 5] rfl)
                  · have hf := if_f hc49 hf
                    refine lv_aload_n hx hb dX8_longest_218 rfl (lv_at hl 0 rfl) ?_
                    refine q_gr (P := 9) X hh ht fk_X8_34 dX8_longest_219 hf (fun t54 h55 hf => ?_)
                    refine lv_iload hx hb dX8_longest_222 (lv_at hl 4 rfl) ?_
                    refine lv_iload hx hb dX8_longest_224 (lv_at hl 6 rfl) ?_
                    obtain ⟨v57, hc56, hf⟩ := c1_e hf
                    refine q_S (w' := w43) (rest := [.ref (B + t54)]) X hml hh (some (.int v57)) (m_X8_at l B D hc56) cf_X8_at k_787 rfl hl.1 rfl (Nat.le_of_ble_eq_true rfl) ⟨Nat.le_of_ble_eq_true rfl, Nat.le_of_ble_eq_true rfl⟩ ⟨Nat.zero_le _, Nat.zero_le _⟩ dX8_longest_226 rfl (fun H locs hh => ?_)
                    refine q_ald X hh h55 dX8_longest_229 hf (fun hf => ?_)
                    refine lv_topi (fun x59 e60 => ?_)
                    have hf := lt_e e60 hf
                    refine lv_goto (tgt := 234) hx hb dX8_longest_230 (by decide) ?_
                    exact hj51 _ hf  _ _ _ hh (lv_sub hl [0, 1, 2, 4, 5] rfl)
              · refine lv_if_ne (tgt := 190) hx hb dX8_longest_182 (by decide) (fun hc39 => ?_) (fun hc39 => ?_)
                · refine lv_iload hx hb dX8_longest_190 (lv_at hl 0 rfl) ?_
                  refine lv_if_le (tgt := 199) hx hb dX8_longest_192 (by decide) (fun hc40 => ?_) (fun hc40 => ?_)
                  · refine lv_iconst (v := (0 : Int32)) hx hb dX8_longest_199 (by decide) ?_
                    exact hj61 _ (by rw [if_neg hc39, if_pos hc40]) ls (lv_sub hl [1, 2, 3, 4, 5, 6, 7] rfl)
                  · refine lv_iconst (v := (1 : Int32)) hx hb dX8_longest_195 (by decide) ?_
                    refine lv_goto (tgt := 200) hx hb dX8_longest_196 (by decide) ?_
                    exact hj61 _ (by rw [if_neg hc39, if_neg hc40]) ls (lv_sub hl [1, 2, 3, 4, 5, 6, 7] rfl)
                · refine lv_iload hx hb dX8_longest_185 (lv_at hl 0 rfl) ?_
                  refine lv_goto (tgt := 200) hx hb dX8_longest_187 (by decide) ?_
                  exact hj61 _ (by rw [if_pos hc39]) ls (lv_sub hl [1, 2, 3, 4, 5, 6, 7] rfl)
            · have hf := if_f hc27 hf
              refine lv_iconst (v := (1 : Int32)) hx hb dX8_longest_84 (by decide) ?_
              refine lv_istore (lv' := [(9, .int (1 : Int32)), (0, .ref (B + t)), (1, .int a0), (2, .int a1), (3, .int x13), (4, .int x8), (5, .int x14), (6, .int x22), (7, .int x23), (8, .int x24)]) hx hb dX8_longest_85 hl (by decide) rfl (fun ls hl => ?_)
              refine wl2_W (P := fun (x62 : Int32) (x63 : Int32) => ∀ (H : Heap) (locs : List Loc) (ls : Array Slot), Hp B D 153 w15 s H locs → lv_has ls 10 [(0, .ref (B + t)), (1, .int a0), (2, .int a1), (3, .int x13), (4, .int x8), (5, .int x14), (6, .int x22), (7, .int x62), (8, .int x24), (9, .int x63)] → W p l e (rmk 1 25 0 0) s m args below meth c H locs 0 0 (MZ below B D 153 w' (some (.int r)) args s 0 0) (F0 m 87 ls [])) hf (fun x62 x63 k64 ih65 hf  H locs ls hh hl => ?_)  _ _ _ hh (lv_sub hl [1, 2, 3, 4, 5, 6, 7, 8, 9, 0] rfl)
              refine lv_iload hx hb dX8_longest_87 (lv_at hl 9 rfl) ?_
              refine lv_aload_n hx hb dX8_longest_89 rfl (lv_at hl 0 rfl) ?_
              refine r_gi X hh ht fk_X8_15 dX8_longest_90 ?_
              refine lv_icmp_gt (tgt := 148) hx hb dX8_longest_93 (by decide) (fun hc66 => ?_) (fun hc66 => ?_)
              · have hf := if_t hc66 hf
                obtain ⟨x67, e68⟩ : ∃ y : Int32, y = (x24 + (1 : Int32)) := ⟨_, rfl⟩
                have hf := lt_e e68 hf
                refine lv_iinc (v := x67) (lv' := [(8, .int x67), (0, .ref (B + t)), (1, .int a0), (2, .int a1), (3, .int x13), (4, .int x8), (5, .int x14), (6, .int x22), (7, .int x62), (9, .int x63)]) hx hb dX8_longest_148 hl (k := 8) rfl (by rw [e68]; rfl) (by decide) rfl (fun ls hl => ?_)
                refine lv_goto (tgt := 77) hx hb dX8_longest_151 (by decide) ?_
                exact ih26 _ _ hf  _ _ _ hh (lv_sub hl [1, 2, 3, 4, 5, 6, 7, 8, 0] rfl)
              · have hf := if_f hc66 hf
                refine lv_iload_n hx hb dX8_longest_96 rfl (lv_at hl 1 rfl) ?_
                refine lv_iload hx hb dX8_longest_97 (lv_at hl 8 rfl) ?_
                refine lv_iload hx hb dX8_longest_99 (lv_at hl 9 rfl) ?_
                refine lv_iload hx hb dX8_longest_101 (lv_at hl 4 rfl) ?_
                refine lv_iload hx hb dX8_longest_103 (lv_at hl 6 rfl) ?_
                obtain ⟨v70, hc69, hf⟩ := c1_e hf
                refine q_S (w' := w15) (rest := []) X hml hh (some (.int v70)) (m_X8_goes l B D hc69) cf_X8_goes k_904 rfl hl.1 rfl (Nat.le_of_ble_eq_true rfl) ⟨Nat.le_of_ble_eq_true rfl, Nat.le_of_ble_eq_true rfl⟩ ⟨Nat.zero_le _, Nat.zero_le _⟩ dX8_longest_105 rfl (fun H locs hh => ?_)
                refine jn_W (P := fun j73 => ∀ (x72 : Int32), j73 x72 = some (r, w') → ∀ (H : Heap) (locs : List Loc) (ls : Array Slot), Hp B D 153 w15 s H locs → lv_has ls 10 [(0, .ref (B + t)), (1, .int a0), (2, .int a1), (3, .int x13), (4, .int x8), (5, .int x14), (6, .int x22), (7, .int x72), (8, .int x24), (9, .int x63)] → W p l e (rmk 1 25 0 0) s m args below meth c H locs 0 0 (MZ below B D 153 w' (some (.int r)) args s 0 0) (F0 m 142 ls [])) hf (fun x72 hf  H locs ls hh hl => ?_) (fun j73 hj73 hf => ?_)
                · obtain ⟨x74, e75⟩ : ∃ y : Int32, y = (x63 + (1 : Int32)) := ⟨_, rfl⟩
                  have hf := lt_e e75 hf
                  refine lv_iinc (v := x74) (lv' := [(9, .int x74), (0, .ref (B + t)), (1, .int a0), (2, .int a1), (3, .int x13), (4, .int x8), (5, .int x14), (6, .int x22), (7, .int x72), (8, .int x24)]) hx hb dX8_longest_142 hl (k := 9) rfl (by rw [e75]; rfl) (by decide) rfl (fun ls hl => ?_)
                  refine lv_goto (tgt := 87) hx hb dX8_longest_145 (by decide) ?_
                  exact ih65 _ _ hf  _ _ _ hh (lv_sub hl [1, 2, 3, 4, 5, 6, 7, 8, 9, 0] rfl)
                · refine lv_if_eq (tgt := 142) hx hb dX8_longest_108 (by decide) (fun hc71 => ?_) (fun hc71 => ?_)
                  · have hf := if_t hc71 hf
                    exact hj73 _ hf  _ _ _ hh (lv_sub hl [0, 1, 2, 3, 4, 5, 6, 7, 8, 9] rfl)
                  · have hf := if_f hc71 hf
                    refine lv_aload_n hx hb dX8_longest_111 rfl (lv_at hl 0 rfl) ?_
                    refine q_gr (P := 9) X hh ht fk_X8_34 dX8_longest_112 hf (fun t76 h77 hf => ?_)
                    refine lv_iload hx hb dX8_longest_115 (lv_at hl 8 rfl) ?_
                    refine lv_iload hx hb dX8_longest_117 (lv_at hl 9 rfl) ?_
                    obtain ⟨v79, hc78, hf⟩ := c1_e hf
                    refine q_S (w' := w15) (rest := [.ref (B + t76)]) X hml hh (some (.int v79)) (m_X8_at l B D hc78) cf_X8_at k_787 rfl hl.1 rfl (Nat.le_of_ble_eq_true rfl) ⟨Nat.le_of_ble_eq_true rfl, Nat.le_of_ble_eq_true rfl⟩ ⟨Nat.zero_le _, Nat.zero_le _⟩ dX8_longest_119 rfl (fun H locs hh => ?_)
                    refine q_ald X hh h77 dX8_longest_122 hf (fun hf => ?_)
                    refine lv_iload hx hb dX8_longest_123 (lv_at hl 7 rfl) ?_
                    refine lv_icmp_le (tgt := 142) hx hb dX8_longest_125 (by decide) (fun hc81 => ?_) (fun hc81 => ?_)
                    · have hf := if_t hc81 hf
                      exact hj73 _ hf  _ _ _ hh (lv_sub hl [0, 1, 2, 3, 4, 5, 6, 7, 8, 9] rfl)
                    · have hf := if_f hc81 hf
                      refine lv_aload_n hx hb dX8_longest_128 rfl (lv_at hl 0 rfl) ?_
                      refine q_gr (P := 9) X hh ht fk_X8_34 dX8_longest_129 hf (fun t82 h83 hf => ?_)
                      refine lv_iload hx hb dX8_longest_132 (lv_at hl 8 rfl) ?_
                      refine lv_iload hx hb dX8_longest_134 (lv_at hl 9 rfl) ?_
                      obtain ⟨v85, hc84, hf⟩ := c1_e hf
                      refine q_S (w' := w15) (rest := [.ref (B + t82)]) X hml hh (some (.int v85)) (m_X8_at l B D hc84) cf_X8_at k_787 rfl hl.1 rfl (Nat.le_of_ble_eq_true rfl) ⟨Nat.le_of_ble_eq_true rfl, Nat.le_of_ble_eq_true rfl⟩ ⟨Nat.zero_le _, Nat.zero_le _⟩ dX8_longest_136 rfl (fun H locs hh => ?_)
                      refine q_ald X hh h83 dX8_longest_139 hf (fun hf => ?_)
                      refine lv_topi (fun x87 e88 => ?_)
                      have hf := lt_e e88 hf
                      refine lv_istore (lv' := [(7, .int x87), (0, .ref (B + t)), (1, .int a0), (2, .int a1), (3, .int x13), (4, .int x8), (5, .int x14), (6, .int x22), (8, .int x24), (9, .int x63)]) hx hb dX8_longest_140 hl (by decide) rfl (fun ls hl => ?_)
                      exact hj73 _ hf  _ _ _ hh (lv_sub hl [1, 2, 3, 4, 5, 6, 7, 0, 8, 9] rfl)
          · refine lv_icmp_ge (tgt := 62) hx hb dX8_longest_52 (by decide) (fun hc21 => ?_) (fun hc21 => ?_)
            · refine lv_aload_n hx hb dX8_longest_62 rfl (lv_at hl 0 rfl) ?_
              refine r_gi X hh ht fk_X8_15 dX8_longest_63 ?_
              refine lv_iload hx hb dX8_longest_66 (lv_at hl 5 rfl) ?_
              refine lv_isub hx hb dX8_longest_68 ?_
              exact hj89 _ (by rw [if_pos hc21]) ls (lv_sub hl [0, 1, 2, 3, 4, 5] rfl)
            · refine lv_iload hx hb dX8_longest_55 (lv_at hl 5 rfl) ?_
              refine lv_iconst (v := (1 : Int32)) hx hb dX8_longest_57 (by decide) ?_
              refine lv_iadd hx hb dX8_longest_58 ?_
              refine lv_goto (tgt := 69) hx hb dX8_longest_59 (by decide) ?_
              exact hj89 _ (by rw [if_neg hc21]) ls (lv_sub hl [0, 1, 2, 3, 4, 5] rfl)
    · have hf := if_t hc6 hf
      refine lv_iconst (v := (-1 : Int32)) hx hb dX8_longest_22 (by decide) ?_
      exact e_i X hr hlk hh (so2_e hf) dX8_longest_23
set_option maxHeartbeats 4000000 in
set_option maxRecDepth 100000 in
theorem m_X8_isMarked (l : Launch) (B : Nat) (D : DD) {t : Nat} {w : Wd} {r : Int32} (ht : t < 153 ∧ kd t = 8) (hf : f_X8_isMarked t w = some r) : Ct l yX8_isMarked cX8_isMarked 4 (some .boolean) 1 21 0 0 B D [.ref (B + t)] 153 w (some (.int r)) 153 w := by
  refine m_of (by decide) (Nat.le_of_ble_eq_true rfl) (fun p e s m args below meth c X hml hr hlk _ H locs hh ls hl => ?_)
  have hx := X.1
  have hb := X.2.1
  have hl : lv_has ls 4 [(0, .ref (B + t))] := hl
  unfold f_X8_isMarked at hf
  refine lv_iconst (v := (1 : Int32)) hx hb dX8_isMarked_0 (by decide) ?_
  refine lv_istore_n (lv' := [(1, .int (1 : Int32)), (0, .ref (B + t))]) hx hb dX8_isMarked_1 rfl hl (by decide) rfl (fun ls hl => ?_)
  refine wl1_W (P := fun (x1 : Int32) => ∀ (H : Heap) (locs : List Loc) (ls : Array Slot), Hp B D 153 w s H locs → lv_has ls 4 [(0, .ref (B + t)), (1, .int x1)] → W p l e (rmk 1 21 0 0) s m args below meth c H locs 0 0 (MZ below B D 153 w (some (.int r)) args s 0 0) (F0 m 2 ls [])) hf (fun x1 k2 ih3 hf  H locs ls hh hl => ?_)  _ _ _ hh (lv_sub hl [1, 0] rfl)
  refine lv_iload_n hx hb dX8_isMarked_2 rfl (lv_at hl 1 rfl) ?_
  refine lv_aload_n hx hb dX8_isMarked_3 rfl (lv_at hl 0 rfl) ?_
  refine r_gi X hh ht fk_X8_9 dX8_isMarked_4 ?_
  refine lv_icmp_gt (tgt := 54) hx hb dX8_isMarked_7 (by decide) (fun hc4 => ?_) (fun hc4 => ?_)
  · have hf := if_t hc4 hf
    refine lv_iconst (v := (1 : Int32)) hx hb dX8_isMarked_54 (by decide) ?_
    refine lv_istore_n (lv' := [(1, .int (1 : Int32)), (0, .ref (B + t))]) hx hb dX8_isMarked_55 rfl hl (by decide) rfl (fun ls hl => ?_)
    refine wl1_W (P := fun (x5 : Int32) => ∀ (H : Heap) (locs : List Loc) (ls : Array Slot), Hp B D 153 w s H locs → lv_has ls 4 [(0, .ref (B + t)), (1, .int x5)] → W p l e (rmk 1 21 0 0) s m args below meth c H locs 0 0 (MZ below B D 153 w (some (.int r)) args s 0 0) (F0 m 56 ls [])) hf (fun x5 k6 ih7 hf  H locs ls hh hl => ?_)  _ _ _ hh (lv_sub hl [1, 0] rfl)
    refine lv_iload_n hx hb dX8_isMarked_56 rfl (lv_at hl 1 rfl) ?_
    refine lv_aload_n hx hb dX8_isMarked_57 rfl (lv_at hl 0 rfl) ?_
    refine r_gi X hh ht fk_X8_15 dX8_isMarked_58 ?_
    refine lv_icmp_gt (tgt := 108) hx hb dX8_isMarked_61 (by decide) (fun hc8 => ?_) (fun hc8 => ?_)
    · have hf := if_t hc8 hf
      refine lv_iconst (v := (1 : Int32)) hx hb dX8_isMarked_108 (by decide) ?_
      exact e_z X hr hlk hh (Or.inr rfl) ⟨so_e hf, rfl⟩ dX8_isMarked_109
    · have hf := if_f hc8 hf
      refine lv_iconst (v := (0 : Int32)) hx hb dX8_isMarked_64 (by decide) ?_
      refine lv_istore_n (lv' := [(2, .int (0 : Int32)), (0, .ref (B + t)), (1, .int x5)]) hx hb dX8_isMarked_65 rfl hl (by decide) rfl (fun ls hl => ?_)
      refine lv_iconst (v := (1 : Int32)) hx hb dX8_isMarked_66 (by decide) ?_
      refine lv_istore_n (lv' := [(3, .int (1 : Int32)), (2, .int (0 : Int32)), (0, .ref (B + t)), (1, .int x5)]) hx hb dX8_isMarked_67 rfl hl (by decide) rfl (fun ls hl => ?_)
      refine wl2_W (P := fun (x9 : Int32) (x10 : Int32) => ∀ (H : Heap) (locs : List Loc) (ls : Array Slot), Hp B D 153 w s H locs → lv_has ls 4 [(0, .ref (B + t)), (1, .int x5), (2, .int x9), (3, .int x10)] → W p l e (rmk 1 21 0 0) s m args below meth c H locs 0 0 (MZ below B D 153 w (some (.int r)) args s 0 0) (F0 m 68 ls [])) hf (fun x9 x10 k11 ih12 hf  H locs ls hh hl => ?_)  _ _ _ hh (lv_sub hl [2, 3, 1, 0] rfl)
      refine lv_iload_n hx hb dX8_isMarked_68 rfl (lv_at hl 3 rfl) ?_
      refine lv_aload_n hx hb dX8_isMarked_69 rfl (lv_at hl 0 rfl) ?_
      refine r_gi X hh ht fk_X8_9 dX8_isMarked_70 ?_
      refine lv_icmp_gt (tgt := 95) hx hb dX8_isMarked_73 (by decide) (fun hc13 => ?_) (fun hc13 => ?_)
      · have hf := if_t hc13 hf
        refine lv_iload_n hx hb dX8_isMarked_95 rfl (lv_at hl 2 rfl) ?_
        refine lv_iconst (v := (1 : Int32)) hx hb dX8_isMarked_96 (by decide) ?_
        refine lv_icmp_le (tgt := 102) hx hb dX8_isMarked_97 (by decide) (fun hc14 => ?_) (fun hc14 => ?_)
        · have hf := if_t hc14 hf
          obtain ⟨x15, e16⟩ : ∃ y : Int32, y = (x5 + (1 : Int32)) := ⟨_, rfl⟩
          have hf := lt_e e16 hf
          refine lv_iinc (v := x15) (lv' := [(1, .int x15), (0, .ref (B + t)), (2, .int x9), (3, .int x10)]) hx hb dX8_isMarked_102 hl (k := 1) rfl (by rw [e16]; rfl) (by decide) rfl (fun ls hl => ?_)
          refine lv_goto (tgt := 56) hx hb dX8_isMarked_105 (by decide) ?_
          exact ih7 _ hf  _ _ _ hh (lv_sub hl [1, 0] rfl)
        · have hf := if_f hc14 hf
          refine lv_iconst (v := (0 : Int32)) hx hb dX8_isMarked_100 (by decide) ?_
          exact e_z X hr hlk hh (Or.inl rfl) ⟨so_e hf, rfl⟩ dX8_isMarked_101
      · have hf := if_f hc13 hf
        refine lv_iload_n hx hb dX8_isMarked_76 rfl (lv_at hl 2 rfl) ?_
        refine lv_aload_n hx hb dX8_isMarked_77 rfl (lv_at hl 0 rfl) ?_
        refine q_gr (P := 9) X hh ht fk_X8_18 dX8_isMarked_78 hf (fun t17 h18 hf => ?_)
        refine lv_iload_n hx hb dX8_isMarked_81 rfl (lv_at hl 3 rfl) ?_
        refine lv_iload_n hx hb dX8_isMarked_82 rfl (lv_at hl 1 rfl) ?_
        obtain ⟨v20, hc19, hf⟩ := c1_e hf
        refine q_S (w' := w) (rest := [.ref (B + t17), .int x9]) X hml hh (some (.int v20)) (m_X8_at l B D hc19) cf_X8_at k_787 rfl hl.1 rfl (Nat.le_of_ble_eq_true rfl) ⟨Nat.le_of_ble_eq_true rfl, Nat.le_of_ble_eq_true rfl⟩ ⟨Nat.zero_le _, Nat.zero_le _⟩ dX8_isMarked_83 rfl (fun H locs hh => ?_)
        refine q_ald X hh h18 dX8_isMarked_86 hf (fun hf => ?_)
        refine lv_iadd hx hb dX8_isMarked_87 ?_
        refine lv_topi (fun x22 e23 => ?_)
        have hf := lt_e e23 hf
        refine lv_istore_n (lv' := [(2, .int x22), (0, .ref (B + t)), (1, .int x5), (3, .int x10)]) hx hb dX8_isMarked_88 rfl hl (by decide) rfl (fun ls hl => ?_)
        obtain ⟨x24, e25⟩ : ∃ y : Int32, y = (x10 + (1 : Int32)) := ⟨_, rfl⟩
        have hf := lt_e e25 hf
        refine lv_iinc (v := x24) (lv' := [(3, .int x24), (2, .int x22), (0, .ref (B + t)), (1, .int x5)]) hx hb dX8_isMarked_89 hl (k := 3) rfl (by rw [e25]; rfl) (by decide) rfl (fun ls hl => ?_)
        refine lv_goto (tgt := 68) hx hb dX8_isMarked_92 (by decide) ?_
        exact ih12 _ _ hf  _ _ _ hh (lv_sub hl [2, 3, 1, 0] rfl)
  · have hf := if_f hc4 hf
    refine lv_iconst (v := (0 : Int32)) hx hb dX8_isMarked_10 (by decide) ?_
    refine lv_istore_n (lv' := [(2, .int (0 : Int32)), (0, .ref (B + t)), (1, .int x1)]) hx hb dX8_isMarked_11 rfl hl (by decide) rfl (fun ls hl => ?_)
    refine lv_iconst (v := (1 : Int32)) hx hb dX8_isMarked_12 (by decide) ?_
    refine lv_istore_n (lv' := [(3, .int (1 : Int32)), (2, .int (0 : Int32)), (0, .ref (B + t)), (1, .int x1)]) hx hb dX8_isMarked_13 rfl hl (by decide) rfl (fun ls hl => ?_)
    refine wl2_W (P := fun (x26 : Int32) (x27 : Int32) => ∀ (H : Heap) (locs : List Loc) (ls : Array Slot), Hp B D 153 w s H locs → lv_has ls 4 [(0, .ref (B + t)), (1, .int x1), (2, .int x26), (3, .int x27)] → W p l e (rmk 1 21 0 0) s m args below meth c H locs 0 0 (MZ below B D 153 w (some (.int r)) args s 0 0) (F0 m 14 ls [])) hf (fun x26 x27 k28 ih29 hf  H locs ls hh hl => ?_)  _ _ _ hh (lv_sub hl [2, 3, 1, 0] rfl)
    refine lv_iload_n hx hb dX8_isMarked_14 rfl (lv_at hl 3 rfl) ?_
    refine lv_aload_n hx hb dX8_isMarked_15 rfl (lv_at hl 0 rfl) ?_
    refine r_gi X hh ht fk_X8_15 dX8_isMarked_16 ?_
    refine lv_icmp_gt (tgt := 41) hx hb dX8_isMarked_19 (by decide) (fun hc30 => ?_) (fun hc30 => ?_)
    · have hf := if_t hc30 hf
      refine lv_iload_n hx hb dX8_isMarked_41 rfl (lv_at hl 2 rfl) ?_
      refine lv_iconst (v := (1 : Int32)) hx hb dX8_isMarked_42 (by decide) ?_
      refine lv_icmp_le (tgt := 48) hx hb dX8_isMarked_43 (by decide) (fun hc31 => ?_) (fun hc31 => ?_)
      · have hf := if_t hc31 hf
        obtain ⟨x32, e33⟩ : ∃ y : Int32, y = (x1 + (1 : Int32)) := ⟨_, rfl⟩
        have hf := lt_e e33 hf
        refine lv_iinc (v := x32) (lv' := [(1, .int x32), (0, .ref (B + t)), (2, .int x26), (3, .int x27)]) hx hb dX8_isMarked_48 hl (k := 1) rfl (by rw [e33]; rfl) (by decide) rfl (fun ls hl => ?_)
        refine lv_goto (tgt := 2) hx hb dX8_isMarked_51 (by decide) ?_
        exact ih3 _ hf  _ _ _ hh (lv_sub hl [1, 0] rfl)
      · have hf := if_f hc31 hf
        refine lv_iconst (v := (0 : Int32)) hx hb dX8_isMarked_46 (by decide) ?_
        exact e_z X hr hlk hh (Or.inl rfl) ⟨so_e hf, rfl⟩ dX8_isMarked_47
    · have hf := if_f hc30 hf
      refine lv_iload_n hx hb dX8_isMarked_22 rfl (lv_at hl 2 rfl) ?_
      refine lv_aload_n hx hb dX8_isMarked_23 rfl (lv_at hl 0 rfl) ?_
      refine q_gr (P := 9) X hh ht fk_X8_18 dX8_isMarked_24 hf (fun t34 h35 hf => ?_)
      refine lv_iload_n hx hb dX8_isMarked_27 rfl (lv_at hl 1 rfl) ?_
      refine lv_iload_n hx hb dX8_isMarked_28 rfl (lv_at hl 3 rfl) ?_
      obtain ⟨v37, hc36, hf⟩ := c1_e hf
      refine q_S (w' := w) (rest := [.ref (B + t34), .int x26]) X hml hh (some (.int v37)) (m_X8_at l B D hc36) cf_X8_at k_787 rfl hl.1 rfl (Nat.le_of_ble_eq_true rfl) ⟨Nat.le_of_ble_eq_true rfl, Nat.le_of_ble_eq_true rfl⟩ ⟨Nat.zero_le _, Nat.zero_le _⟩ dX8_isMarked_29 rfl (fun H locs hh => ?_)
      refine q_ald X hh h35 dX8_isMarked_32 hf (fun hf => ?_)
      refine lv_iadd hx hb dX8_isMarked_33 ?_
      refine lv_topi (fun x39 e40 => ?_)
      have hf := lt_e e40 hf
      refine lv_istore_n (lv' := [(2, .int x39), (0, .ref (B + t)), (1, .int x1), (3, .int x27)]) hx hb dX8_isMarked_34 rfl hl (by decide) rfl (fun ls hl => ?_)
      obtain ⟨x41, e42⟩ : ∃ y : Int32, y = (x27 + (1 : Int32)) := ⟨_, rfl⟩
      have hf := lt_e e42 hf
      refine lv_iinc (v := x41) (lv' := [(3, .int x41), (2, .int x39), (0, .ref (B + t)), (1, .int x1)]) hx hb dX8_isMarked_35 hl (k := 3) rfl (by rw [e42]; rfl) (by decide) rfl (fun ls hl => ?_)
      refine lv_goto (tgt := 14) hx hb dX8_isMarked_38 (by decide) ?_
      exact ih29 _ _ hf  _ _ _ hh (lv_sub hl [2, 3, 1, 0] rfl)
set_option maxHeartbeats 4000000 in
set_option maxRecDepth 100000 in
theorem m_X8_needs (l : Launch) (B : Nat) (D : DD) {t : Nat} {a0 : Int32} {a1 : Int32} {w : Wd} {r : Int32} {w' : Wd} (ht : t < 153 ∧ kd t = 8) (hf : f_X8_needs t a0 a1 w = some (r, w')) : Ct l yX8_needs cX8_needs 7 (some .int) 0 0 0 0 B D [.ref (B + t), .int a0, .int a1] 153 w (some (.int r)) 153 w' := by
  refine m_of (by decide) (Nat.le_of_ble_eq_true rfl) (fun p e s m args below meth c X hml hr hlk _ H locs hh ls hl => ?_)
  have hx := X.1
  have hb := X.2.1
  have hl : lv_has ls 7 [(0, .ref (B + t)), (1, .int a0), (2, .int a1)] := hl
  unfold f_X8_needs at hf
  refine lv_iconst (v := (0 : Int32)) hx hb dX8_needs_0 (by decide) ?_
  refine lv_istore_n (lv' := [(3, .int (0 : Int32)), (0, .ref (B + t)), (1, .int a0), (2, .int a1)]) hx hb dX8_needs_1 rfl hl (by decide) rfl (fun ls hl => ?_)
  refine lv_iconst (v := (1 : Int32)) hx hb dX8_needs_2 (by decide) ?_
  refine lv_istore (lv' := [(4, .int (1 : Int32)), (3, .int (0 : Int32)), (0, .ref (B + t)), (1, .int a0), (2, .int a1)]) hx hb dX8_needs_3 hl (by decide) rfl (fun ls hl => ?_)
  refine wl3_W (P := fun (x1 : Int32) (x2 : Int32) (w3 : Wd) => ∀ (H : Heap) (locs : List Loc) (ls : Array Slot), Hp B D 153 w3 s H locs → lv_has ls 7 [(0, .ref (B + t)), (1, .int a0), (2, .int a1), (3, .int x1), (4, .int x2)] → W p l e (rmk 0 0 0 0) s m args below meth c H locs 0 0 (MZ below B D 153 w' (some (.int r)) args s 0 0) (F0 m 5 ls [])) hf (fun x1 x2 w3 k4 ih5 hf  H locs ls hh hl => ?_)  _ _ _ hh (lv_sub hl [2, 3, 4, 1, 0] rfl)
  refine lv_iload hx hb dX8_needs_5 (lv_at hl 4 rfl) ?_
  refine lv_aload_n hx hb dX8_needs_7 rfl (lv_at hl 0 rfl) ?_
  refine r_gi X hh ht fk_X8_9 dX8_needs_8 ?_
  refine lv_icmp_gt (tgt := 186) hx hb dX8_needs_11 (by decide) (fun hc6 => ?_) (fun hc6 => ?_)
  · have hf := if_t hc6 hf
    refine lv_iload_n hx hb dX8_needs_186 rfl (lv_at hl 3 rfl) ?_
    exact e_i X hr hlk hh (so2_e hf) dX8_needs_187
  · have hf := if_f hc6 hf
    refine lv_aload_n hx hb dX8_needs_14 rfl (lv_at hl 0 rfl) ?_
    refine q_gr (P := 9) X hh ht fk_X8_40 dX8_needs_15 hf (fun t7 h8 hf => ?_)
    refine lv_iload hx hb dX8_needs_18 (lv_at hl 4 rfl) ?_
    refine lv_iconst (v := (0 : Int32)) hx hb dX8_needs_20 (by decide) ?_
    refine q_ast X hh h8 dX8_needs_21 hf (fun w10 H locs hf hh => ?_)
    refine lv_iload_n hx hb dX8_needs_22 rfl (lv_at hl 1 rfl) ?_
    refine lv_iload hx hb dX8_needs_23 (lv_at hl 4 rfl) ?_
    refine lv_ishr hx hb dX8_needs_25 ?_
    refine lv_iconst (v := (1 : Int32)) hx hb dX8_needs_26 (by decide) ?_
    refine lv_iand hx hb dX8_needs_27 ?_
    refine jn_W (P := fun j14 => ∀ (x12 : Int32) (w13 : Wd), j14 x12 w13 = some (r, w') → ∀ (H : Heap) (locs : List Loc) (ls : Array Slot), Hp B D 153 w13 s H locs → lv_has ls 7 [(0, .ref (B + t)), (1, .int a0), (2, .int a1), (3, .int x12), (4, .int x2)] → W p l e (rmk 0 0 0 0) s m args below meth c H locs 0 0 (MZ below B D 153 w' (some (.int r)) args s 0 0) (F0 m 180 ls [])) hf (fun x12 w13 hf  H locs ls hh hl => ?_) (fun j14 hj14 hf => ?_)
    · obtain ⟨x15, e16⟩ : ∃ y : Int32, y = (x2 + (1 : Int32)) := ⟨_, rfl⟩
      have hf := lt_e e16 hf
      refine lv_iinc (v := x15) (lv' := [(4, .int x15), (0, .ref (B + t)), (1, .int a0), (2, .int a1), (3, .int x12)]) hx hb dX8_needs_180 hl (k := 4) rfl (by rw [e16]; rfl) (by decide) rfl (fun ls hl => ?_)
      refine lv_goto (tgt := 5) hx hb dX8_needs_183 (by decide) ?_
      exact ih5 _ _ _ hf  _ _ _ hh (lv_sub hl [1, 2, 3, 4, 0] rfl)
    · refine lv_if_ne (tgt := 34) hx hb dX8_needs_28 (by decide) (fun hc11 => ?_) (fun hc11 => ?_)
      · have hf := if_f hc11 hf
        refine lv_aload_n hx hb dX8_needs_34 rfl (lv_at hl 0 rfl) ?_
        refine q_gr (P := 9) X hh ht fk_X8_40 dX8_needs_35 hf (fun t17 h18 hf => ?_)
        refine lv_iload hx hb dX8_needs_38 (lv_at hl 4 rfl) ?_
        refine lv_iconst (v := (1 : Int32)) hx hb dX8_needs_40 (by decide) ?_
        refine q_ast X hh h18 dX8_needs_41 hf (fun w20 H locs hf hh => ?_)
        refine lv_iconst (v := (1 : Int32)) hx hb dX8_needs_42 (by decide) ?_
        refine lv_istore (lv' := [(5, .int (1 : Int32)), (0, .ref (B + t)), (1, .int a0), (2, .int a1), (3, .int x1), (4, .int x2)]) hx hb dX8_needs_43 hl (by decide) rfl (fun ls hl => ?_)
        refine wl2_W (P := fun (x21 : Int32) (w22 : Wd) => ∀ (H : Heap) (locs : List Loc) (ls : Array Slot), Hp B D 153 w22 s H locs → lv_has ls 7 [(0, .ref (B + t)), (1, .int a0), (2, .int a1), (3, .int x1), (4, .int x2), (5, .int x21)] → W p l e (rmk 0 0 0 0) s m args below meth c H locs 0 0 (MZ below B D 153 w' (some (.int r)) args s 0 0) (F0 m 45 ls [])) hf (fun x21 w22 k23 ih24 hf  H locs ls hh hl => ?_)  _ _ _ hh (lv_sub hl [1, 2, 3, 4, 5, 0] rfl)
        refine lv_iload hx hb dX8_needs_45 (lv_at hl 5 rfl) ?_
        refine lv_iload hx hb dX8_needs_47 (lv_at hl 4 rfl) ?_
        refine lv_icmp_ge (tgt := 157) hx hb dX8_needs_49 (by decide) (fun hc25 => ?_) (fun hc25 => ?_)
        · have hf := if_t hc25 hf
          refine lv_aload_n hx hb dX8_needs_157 rfl (lv_at hl 0 rfl) ?_
          refine q_gr (P := 9) X hh ht fk_X8_40 dX8_needs_158 hf (fun t26 h27 hf => ?_)
          refine lv_iload hx hb dX8_needs_161 (lv_at hl 4 rfl) ?_
          refine q_ald X hh h27 dX8_needs_163 hf (fun hf => ?_)
          refine lv_iload_n hx hb dX8_needs_164 rfl (lv_at hl 3 rfl) ?_
          refine jn_W (P := fun j31 => ∀ (x30 : Int32), j31 x30 = some (r, w') → ∀ (H : Heap) (locs : List Loc) (ls : Array Slot), Hp B D 153 w22 s H locs → lv_has ls 7 [(0, .ref (B + t)), (1, .int a0), (2, .int a1), (4, .int x2)] → W p l e (rmk 0 0 0 0) s m args below meth c H locs 0 0 (MZ below B D 153 w' (some (.int r)) args s 0 0) (F0 m 179 ls [.int x30])) hf (fun x30 hf  H locs ls hh hl => ?_) (fun j31 hj31 hf => ?_)
          · refine lv_istore_n (lv' := [(3, .int x30), (0, .ref (B + t)), (1, .int a0), (2, .int a1), (4, .int x2)]) hx hb dX8_needs_179 rfl hl (by decide) rfl (fun ls hl => ?_)
            exact hj14 _ _ hf  _ _ _ hh (lv_sub hl [1, 2, 3, 0, 4] rfl)
          · refine lv_icmp_le (tgt := 178) hx hb dX8_needs_165 (by decide) (fun hc29 => ?_) (fun hc29 => ?_)
            · have hf := if_t hc29 hf
              refine lv_iload_n hx hb dX8_needs_178 rfl (lv_at hl 3 rfl) ?_
              exact hj31 _ hf  _ _ _ hh (lv_sub hl [0, 1, 2, 4] rfl)
            · have hf := if_f hc29 hf
              refine lv_aload_n hx hb dX8_needs_168 rfl (lv_at hl 0 rfl) ?_
              refine q_gr (P := 9) X hh ht fk_X8_40 dX8_needs_169 hf (fun t32 h33 hf => ?_)
              refine lv_iload hx hb dX8_needs_172 (lv_at hl 4 rfl) ?_
              refine q_ald X hh h33 dX8_needs_174 hf (fun hf => ?_)
              refine lv_topi (fun x35 e36 => ?_)
              have hf := lt_e e36 hf
              refine lv_goto (tgt := 179) hx hb dX8_needs_175 (by decide) ?_
              exact hj31 _ hf  _ _ _ hh (lv_sub hl [0, 1, 2, 4] rfl)
        · have hf := if_f hc25 hf
          refine lv_iload_n hx hb dX8_needs_52 rfl (lv_at hl 1 rfl) ?_
          refine lv_iload hx hb dX8_needs_53 (lv_at hl 5 rfl) ?_
          refine lv_ishr hx hb dX8_needs_55 ?_
          refine lv_iconst (v := (1 : Int32)) hx hb dX8_needs_56 (by decide) ?_
          refine lv_iand hx hb dX8_needs_57 ?_
          refine lv_iconst (v := (1 : Int32)) hx hb dX8_needs_58 (by decide) ?_
          refine jn_W (P := fun j39 => ∀ (x38 : Int32), j39 x38 = some (r, w') → ∀ (H : Heap) (locs : List Loc) (ls : Array Slot), Hp B D 153 w22 s H locs → lv_has ls 7 [(0, .ref (B + t)), (1, .int a0), (2, .int a1), (3, .int x1), (4, .int x2), (5, .int x21)] → W p l e (rmk 0 0 0 0) s m args below meth c H locs 0 0 (MZ below B D 153 w' (some (.int r)) args s 0 0) (F0 m 109 ls [.int x38])) hf (fun x38 hf  H locs ls hh hl => ?_) (fun j39 hj39 hf => ?_)
          · refine lv_istore (lv' := [(6, .int x38), (0, .ref (B + t)), (1, .int a0), (2, .int a1), (3, .int x1), (4, .int x2), (5, .int x21)]) hx hb dX8_needs_109 hl (by decide) rfl (fun ls hl => ?_)
            refine lv_iload hx hb dX8_needs_111 (lv_at hl 0 rfl) ?_
            refine jn_W (P := fun j42 => ∀ (w41 : Wd), j42 w41 = some (r, w') → ∀ (H : Heap) (locs : List Loc) (ls : Array Slot), Hp B D 153 w41 s H locs → lv_has ls 7 [(0, .ref (B + t)), (1, .int a0), (2, .int a1), (3, .int x1), (4, .int x2), (5, .int x21)] → W p l e (rmk 0 0 0 0) s m args below meth c H locs 0 0 (MZ below B D 153 w' (some (.int r)) args s 0 0) (F0 m 151 ls [])) hf (fun w41 hf  H locs ls hh hl => ?_) (fun j42 hj42 hf => ?_)
            · obtain ⟨x43, e44⟩ : ∃ y : Int32, y = (x21 + (1 : Int32)) := ⟨_, rfl⟩
              have hf := lt_e e44 hf
              refine lv_iinc (v := x43) (lv' := [(5, .int x43), (0, .ref (B + t)), (1, .int a0), (2, .int a1), (3, .int x1), (4, .int x2)]) hx hb dX8_needs_151 hl (k := 5) rfl (by rw [e44]; rfl) (by decide) rfl (fun ls hl => ?_)
              refine lv_goto (tgt := 45) hx hb dX8_needs_154 (by decide) ?_
              exact ih24 _ _ hf  _ _ _ hh (lv_sub hl [1, 2, 3, 4, 5, 0] rfl)
            · refine lv_if_eq (tgt := 151) hx hb dX8_needs_113 (by decide) (fun hc40 => ?_) (fun hc40 => ?_)
              · have hf := if_t hc40 hf
                exact hj42 _ hf  _ _ _ hh (lv_sub hl [1, 2, 3, 4, 5, 6] rfl)
              · have hf := if_f hc40 hf
                refine lv_aload_n hx hb dX8_needs_116 rfl (lv_at hl 1 rfl) ?_
                refine q_gr (P := 9) X hh ht fk_X8_40 dX8_needs_117 hf (fun t45 h46 hf => ?_)
                refine lv_iload hx hb dX8_needs_120 (lv_at hl 6 rfl) ?_
                refine q_ald X hh h46 dX8_needs_122 hf (fun hf => ?_)
                refine lv_iconst (v := (1 : Int32)) hx hb dX8_needs_123 (by decide) ?_
                refine lv_iadd hx hb dX8_needs_124 ?_
                refine lv_aload_n hx hb dX8_needs_125 rfl (lv_at hl 1 rfl) ?_
                refine q_gr (P := 9) X hh ht fk_X8_40 dX8_needs_126 hf (fun t48 h49 hf => ?_)
                refine lv_iload hx hb dX8_needs_129 (lv_at hl 5 rfl) ?_
                refine q_ald X hh h49 dX8_needs_131 hf (fun hf => ?_)
                refine lv_icmp_le (tgt := 151) hx hb dX8_needs_132 (by decide) (fun hc51 => ?_) (fun hc51 => ?_)
                · have hf := if_t hc51 hf
                  exact hj42 _ hf  _ _ _ hh (lv_sub hl [1, 2, 3, 4, 5, 6] rfl)
                · have hf := if_f hc51 hf
                  refine lv_aload_n hx hb dX8_needs_135 rfl (lv_at hl 1 rfl) ?_
                  refine q_gr (P := 9) X hh ht fk_X8_40 dX8_needs_136 hf (fun t52 h53 hf => ?_)
                  refine lv_iload hx hb dX8_needs_139 (lv_at hl 5 rfl) ?_
                  refine lv_aload_n hx hb dX8_needs_141 rfl (lv_at hl 1 rfl) ?_
                  refine q_gr (P := 9) X hh ht fk_X8_40 dX8_needs_142 hf (fun t54 h55 hf => ?_)
                  refine lv_iload hx hb dX8_needs_145 (lv_at hl 6 rfl) ?_
                  refine q_ald X hh h55 dX8_needs_147 hf (fun hf => ?_)
                  refine lv_iconst (v := (1 : Int32)) hx hb dX8_needs_148 (by decide) ?_
                  refine lv_iadd hx hb dX8_needs_149 ?_
                  refine q_ast X hh h53 dX8_needs_150 hf (fun w58 H locs hf hh => ?_)
                  exact hj42 _ hf  _ _ _ hh (lv_sub hl [1, 2, 3, 4, 5, 6] rfl)
          · refine jn_W (P := fun j59 => j59 = some (r, w') → ∀ (H : Heap) (locs : List Loc) (ls : Array Slot), Hp B D 153 w22 s H locs → lv_has ls 7 [(0, .ref (B + t)), (1, .int a0), (2, .int a1), (3, .int x1), (4, .int x2), (5, .int x21)] → W p l e (rmk 0 0 0 0) s m args below meth c H locs 0 0 (MZ below B D 153 w' (some (.int r)) args s 0 0) (F0 m 108 ls [])) hf (fun  hf  H locs ls hh hl => ?_) (fun j59 hj59 hf => ?_)
            · refine lv_iconst (v := (0 : Int32)) hx hb dX8_needs_108 (by decide) ?_
              exact hj39 _ hf  _ _ _ hh (lv_sub hl [0, 1, 2, 3, 4, 5] rfl)
            · refine lv_icmp_ne (tgt := 108) hx hb dX8_needs_59 (by decide) (fun hc37 => ?_) (fun hc37 => ?_)
              · have hf := if_f hc37 hf
                exact hj59  hf  _ _ _ hh (lv_sub hl [0, 1, 2, 3, 4, 5] rfl)
              · have hf := if_t hc37 hf
                refine lv_iload_n hx hb dX8_needs_62 rfl (lv_at hl 2 rfl) ?_
                refine lv_iconst (v := (1 : Int32)) hx hb dX8_needs_63 (by decide) ?_
                refine jn_W (P := fun j61 => j61 = some (r, w') → ∀ (H : Heap) (locs : List Loc) (ls : Array Slot), Hp B D 153 w22 s H locs → lv_has ls 7 [(0, .ref (B + t)), (1, .int a0), (2, .int a1), (3, .int x1), (4, .int x2), (5, .int x21)] → W p l e (rmk 0 0 0 0) s m args below meth c H locs 0 0 (MZ below B D 153 w' (some (.int r)) args s 0 0) (F0 m 104 ls [])) hf (fun  hf  H locs ls hh hl => ?_) (fun j61 hj61 hf => ?_)
                · refine lv_iconst (v := (1 : Int32)) hx hb dX8_needs_104 (by decide) ?_
                  refine lv_goto (tgt := 109) hx hb dX8_needs_105 (by decide) ?_
                  exact hj39 _ hf  _ _ _ hh (lv_sub hl [0, 1, 2, 3, 4, 5] rfl)
                · refine lv_icmp_ne (tgt := 87) hx hb dX8_needs_64 (by decide) (fun hc60 => ?_) (fun hc60 => ?_)
                  · have hf := if_f hc60 hf
                    refine lv_aload_n hx hb dX8_needs_87 rfl (lv_at hl 0 rfl) ?_
                    refine q_gr (P := 9) X hh ht fk_X8_37 dX8_needs_88 hf (fun t62 h63 hf => ?_)
                    refine lv_iload hx hb dX8_needs_91 (lv_at hl 5 rfl) ?_
                    refine q_ald X hh h63 dX8_needs_93 hf (fun hf => ?_)
                    refine lv_aload_n hx hb dX8_needs_94 rfl (lv_at hl 0 rfl) ?_
                    refine q_gr (P := 9) X hh ht fk_X8_37 dX8_needs_95 hf (fun t65 h66 hf => ?_)
                    refine lv_iload hx hb dX8_needs_98 (lv_at hl 4 rfl) ?_
                    refine q_ald X hh h66 dX8_needs_100 hf (fun hf => ?_)
                    refine lv_icmp_ge (tgt := 108) hx hb dX8_needs_101 (by decide) (fun hc68 => ?_) (fun hc68 => ?_)
                    · have hf := if_t hc68 hf
                      exact hj59  hf  _ _ _ hh (lv_sub hl [0, 1, 2, 3, 4, 5] rfl)
                    · have hf := if_f hc68 hf
                      exact hj61  hf  _ _ _ hh (lv_sub hl [0, 1, 2, 3, 4, 5] rfl)
                  · have hf := if_t hc60 hf
                    refine lv_aload_n hx hb dX8_needs_67 rfl (lv_at hl 0 rfl) ?_
                    refine q_gr (P := 9) X hh ht fk_X8_37 dX8_needs_68 hf (fun t69 h70 hf => ?_)
                    refine lv_iload hx hb dX8_needs_71 (lv_at hl 5 rfl) ?_
                    refine q_ald X hh h70 dX8_needs_73 hf (fun hf => ?_)
                    refine lv_aload_n hx hb dX8_needs_74 rfl (lv_at hl 0 rfl) ?_
                    refine q_gr (P := 9) X hh ht fk_X8_37 dX8_needs_75 hf (fun t72 h73 hf => ?_)
                    refine lv_iload hx hb dX8_needs_78 (lv_at hl 4 rfl) ?_
                    refine q_ald X hh h73 dX8_needs_80 hf (fun hf => ?_)
                    refine lv_icmp_le (tgt := 108) hx hb dX8_needs_81 (by decide) (fun hc75 => ?_) (fun hc75 => ?_)
                    · have hf := if_t hc75 hf
                      exact hj59  hf  _ _ _ hh (lv_sub hl [0, 1, 2, 3, 4, 5] rfl)
                    · have hf := if_f hc75 hf
                      refine lv_goto (tgt := 104) hx hb dX8_needs_84 (by decide) ?_
                      exact hj61  hf  _ _ _ hh (lv_sub hl [0, 1, 2, 3, 4, 5] rfl)
      · have hf := if_t hc11 hf
        refine lv_goto (tgt := 180) hx hb dX8_needs_31 (by decide) ?_
        exact hj14 _ _ hf  _ _ _ hh (lv_sub hl [0, 1, 2, 3, 4] rfl)
set_option maxHeartbeats 4000000 in
set_option maxRecDepth 100000 in
theorem m_X8_union (l : Launch) (B : Nat) (D : DD) {t : Nat} {a0 : Int32} {a1 : Int32} {w : Wd} {r : Int32} {w' : Wd} (ht : t < 153 ∧ kd t = 8) (hf : f_X8_union t a0 a1 w = some (r, w')) : Ct l yX8_union cX8_union 8 (some .int) 2 44 0 0 B D [.ref (B + t), .int a0, .int a1] 153 w (some (.int r)) 153 w' := by
  refine m_of (by decide) (Nat.le_of_ble_eq_true rfl) (fun p e s m args below meth c X hml hr hlk _ H locs hh ls hl => ?_)
  have hx := X.1
  have hb := X.2.1
  have hl : lv_has ls 8 [(0, .ref (B + t)), (1, .int a0), (2, .int a1)] := hl
  unfold f_X8_union at hf
  refine lv_iload_n hx hb dX8_union_0 rfl (lv_at hl 1 rfl) ?_
  refine lv_i2l hx hb dX8_union_1 rfl ?_
  refine lv_lconst (v := (1 : Int64)) hx hb dX8_union_2 (by decide) ?_
  refine lv_ldc2 hx hb X.2.2.1 (X.2.2.2.1 _ k_766) dX8_union_3 ?_
  obtain ⟨v2, hc1, hf⟩ := c1_e hf
  refine q_S (w' := w) (rest := []) X hml hh (some (.int v2)) (m_X8_in l B D hc1) cf_X8_in k_767 rfl hl.1 rfl (Nat.le_of_ble_eq_true rfl) ⟨Nat.le_of_ble_eq_true rfl, Nat.le_of_ble_eq_true rfl⟩ ⟨Nat.zero_le _, Nat.zero_le _⟩ dX8_union_6 rfl (fun H locs hh => ?_)
  refine lv_if_eq (tgt := 22) hx hb dX8_union_9 (by decide) (fun hc3 => ?_) (fun hc3 => ?_)
  · have hf := if_t hc3 hf
    refine lv_iconst (v := (-1 : Int32)) hx hb dX8_union_22 (by decide) ?_
    exact e_i X hr hlk hh (so2_e hf) dX8_union_23
  · have hf := if_f hc3 hf
    refine lv_iload_n hx hb dX8_union_12 rfl (lv_at hl 2 rfl) ?_
    refine lv_iconst (v := (1 : Int32)) hx hb dX8_union_13 (by decide) ?_
    refine jn_W (P := fun j5 => j5 = some (r, w') → ∀ (H : Heap) (locs : List Loc) (ls : Array Slot), Hp B D 153 w s H locs → lv_has ls 8 [(0, .ref (B + t)), (1, .int a0), (2, .int a1)] → W p l e (rmk 2 44 0 0) s m args below meth c H locs 0 0 (MZ below B D 153 w' (some (.int r)) args s 0 0) (F0 m 24 ls [])) hf (fun  hf  H locs ls hh hl => ?_) (fun j5 hj5 hf => ?_)
    · refine lv_aload_n hx hb dX8_union_24 rfl (lv_at hl 0 rfl) ?_
      obtain ⟨v7, hc6, hf⟩ := c1_e hf
      refine q_V (w' := w) (rest := []) X hml hh (some (.int v7)) (m_X8_isMarked l B D ht hc6) cf_X8_isMarked k_911 ht ci_8 rfl rfl hl.1 rfl (Nat.le_of_ble_eq_true rfl) ⟨Nat.le_of_ble_eq_true rfl, Nat.le_of_ble_eq_true rfl⟩ ⟨Nat.zero_le _, Nat.zero_le _⟩ dX8_union_25 rfl (fun H locs hh => ?_)
      refine lv_if_ne (tgt := 34) hx hb dX8_union_28 (by decide) (fun hc8 => ?_) (fun hc8 => ?_)
      · have hf := if_f hc8 hf
        refine lv_iconst (v := (0 : Int32)) hx hb dX8_union_34 (by decide) ?_
        refine lv_istore_n (lv' := [(3, .int (0 : Int32)), (0, .ref (B + t)), (1, .int a0), (2, .int a1)]) hx hb dX8_union_35 rfl hl (by decide) rfl (fun ls hl => ?_)
        refine lv_iconst (v := (1 : Int32)) hx hb dX8_union_36 (by decide) ?_
        refine lv_istore (lv' := [(4, .int (1 : Int32)), (3, .int (0 : Int32)), (0, .ref (B + t)), (1, .int a0), (2, .int a1)]) hx hb dX8_union_37 hl (by decide) rfl (fun ls hl => ?_)
        refine wl3_W (P := fun (x9 : Int32) (x10 : Int32) (w11 : Wd) => ∀ (H : Heap) (locs : List Loc) (ls : Array Slot), Hp B D 153 w11 s H locs → lv_has ls 8 [(0, .ref (B + t)), (1, .int a0), (2, .int a1), (3, .int x9), (4, .int x10)] → W p l e (rmk 2 44 0 0) s m args below meth c H locs 0 0 (MZ below B D 153 w' (some (.int r)) args s 0 0) (F0 m 39 ls [])) hf (fun x9 x10 w11 k12 ih13 hf  H locs ls hh hl => ?_)  _ _ _ hh (lv_sub hl [2, 3, 4, 1, 0] rfl)
        refine lv_iload hx hb dX8_union_39 (lv_at hl 4 rfl) ?_
        refine lv_aload_n hx hb dX8_union_41 rfl (lv_at hl 0 rfl) ?_
        refine r_gi X hh ht fk_X8_9 dX8_union_42 ?_
        refine lv_icmp_gt (tgt := 136) hx hb dX8_union_45 (by decide) (fun hc14 => ?_) (fun hc14 => ?_)
        · have hf := if_t hc14 hf
          refine lv_iconst (v := (0 : Int32)) hx hb dX8_union_136 (by decide) ?_
          refine lv_istore (lv' := [(4, .int (0 : Int32)), (0, .ref (B + t)), (1, .int a0), (2, .int a1), (3, .int x9)]) hx hb dX8_union_137 hl (by decide) rfl (fun ls hl => ?_)
          refine lv_iconst (v := (0 : Int32)) hx hb dX8_union_139 (by decide) ?_
          refine lv_istore (lv' := [(5, .int (0 : Int32)), (4, .int (0 : Int32)), (0, .ref (B + t)), (1, .int a0), (2, .int a1), (3, .int x9)]) hx hb dX8_union_140 hl (by decide) rfl (fun ls hl => ?_)
          refine wl3_W (P := fun (x15 : Int32) (x16 : Int32) (w17 : Wd) => ∀ (H : Heap) (locs : List Loc) (ls : Array Slot), Hp B D 153 w17 s H locs → lv_has ls 8 [(0, .ref (B + t)), (1, .int a0), (2, .int a1), (3, .int x9), (4, .int x15), (5, .int x16)] → W p l e (rmk 2 44 0 0) s m args below meth c H locs 0 0 (MZ below B D 153 w' (some (.int r)) args s 0 0) (F0 m 142 ls [])) hf (fun x15 x16 w17 k18 ih19 hf  H locs ls hh hl => ?_)  _ _ _ hh (lv_sub hl [2, 3, 4, 5, 1, 0] rfl)
          refine lv_iload hx hb dX8_union_142 (lv_at hl 5 rfl) ?_
          refine lv_iload_n hx hb dX8_union_144 rfl (lv_at hl 3 rfl) ?_
          refine lv_icmp_gt (tgt := 226) hx hb dX8_union_145 (by decide) (fun hc20 => ?_) (fun hc20 => ?_)
          · have hf := if_t hc20 hf
            refine lv_iload hx hb dX8_union_226 (lv_at hl 4 rfl) ?_
            exact e_i X hr hlk hh (so2_e hf) dX8_union_228
          · have hf := if_f hc20 hf
            refine lv_iload hx hb dX8_union_148 (lv_at hl 5 rfl) ?_
            refine lv_iload_n hx hb dX8_union_150 rfl (lv_at hl 3 rfl) ?_
            refine lv_iconst (v := (-1 : Int32)) hx hb dX8_union_151 (by decide) ?_
            refine lv_ixor hx hb dX8_union_152 ?_
            refine lv_iand hx hb dX8_union_153 ?_
            refine jn_W (P := fun j24 => ∀ (x22 : Int32) (w23 : Wd), j24 x22 w23 = some (r, w') → ∀ (H : Heap) (locs : List Loc) (ls : Array Slot), Hp B D 153 w23 s H locs → lv_has ls 8 [(0, .ref (B + t)), (1, .int a0), (2, .int a1), (3, .int x9), (4, .int x22), (5, .int x16)] → W p l e (rmk 2 44 0 0) s m args below meth c H locs 0 0 (MZ below B D 153 w' (some (.int r)) args s 0 0) (F0 m 220 ls [])) hf (fun x22 w23 hf  H locs ls hh hl => ?_) (fun j24 hj24 hf => ?_)
            · obtain ⟨x25, e26⟩ : ∃ y : Int32, y = (x16 + (1 : Int32)) := ⟨_, rfl⟩
              have hf := lt_e e26 hf
              refine lv_iinc (v := x25) (lv' := [(5, .int x25), (0, .ref (B + t)), (1, .int a0), (2, .int a1), (3, .int x9), (4, .int x22)]) hx hb dX8_union_220 hl (k := 5) rfl (by rw [e26]; rfl) (by decide) rfl (fun ls hl => ?_)
              refine lv_goto (tgt := 142) hx hb dX8_union_223 (by decide) ?_
              exact ih19 _ _ _ hf  _ _ _ hh (lv_sub hl [1, 2, 3, 4, 5, 0] rfl)
            · refine lv_if_ne (tgt := 220) hx hb dX8_union_154 (by decide) (fun hc21 => ?_) (fun hc21 => ?_)
              · have hf := if_f hc21 hf
                exact hj24 _ _ hf  _ _ _ hh (lv_sub hl [0, 1, 2, 3, 4, 5] rfl)
              · have hf := if_t hc21 hf
                refine lv_aload_n hx hb dX8_union_157 rfl (lv_at hl 0 rfl) ?_
                refine lv_iload hx hb dX8_union_158 (lv_at hl 5 rfl) ?_
                refine lv_iload_n hx hb dX8_union_160 rfl (lv_at hl 2 rfl) ?_
                obtain ⟨v28, w29, hc27, hf⟩ := c2_e hf
                refine q_V (w' := w29) (rest := []) X hml hh (some (.int v28)) (m_X8_needs l B D ht hc27) cf_X8_needs k_915 ht ci_8 rfl rfl hl.1 rfl (Nat.le_of_ble_eq_true rfl) ⟨Nat.le_of_ble_eq_true rfl, Nat.le_of_ble_eq_true rfl⟩ ⟨Nat.zero_le _, Nat.zero_le _⟩ dX8_union_161 rfl (fun H locs hh => ?_)
                refine lv_iload_n hx hb dX8_union_164 rfl (lv_at hl 1 rfl) ?_
                refine lv_icmp_le (tgt := 171) hx hb dX8_union_165 (by decide) (fun hc30 => ?_) (fun hc30 => ?_)
                · have hf := if_t hc30 hf
                  refine lv_iconst (v := (0 : Int32)) hx hb dX8_union_171 (by decide) ?_
                  refine lv_istore (lv' := [(6, .int (0 : Int32)), (0, .ref (B + t)), (1, .int a0), (2, .int a1), (3, .int x9), (4, .int x15), (5, .int x16)]) hx hb dX8_union_172 hl (by decide) rfl (fun ls hl => ?_)
                  refine lv_iconst (v := (1 : Int32)) hx hb dX8_union_174 (by decide) ?_
                  refine lv_istore (lv' := [(7, .int (1 : Int32)), (6, .int (0 : Int32)), (0, .ref (B + t)), (1, .int a0), (2, .int a1), (3, .int x9), (4, .int x15), (5, .int x16)]) hx hb dX8_union_175 hl (by decide) rfl (fun ls hl => ?_)
                  refine wl2_W (P := fun (x31 : Int32) (x32 : Int32) => ∀ (H : Heap) (locs : List Loc) (ls : Array Slot), Hp B D 153 w29 s H locs → lv_has ls 8 [(0, .ref (B + t)), (1, .int a0), (2, .int a1), (3, .int x9), (4, .int x15), (5, .int x16), (6, .int x31), (7, .int x32)] → W p l e (rmk 2 44 0 0) s m args below meth c H locs 0 0 (MZ below B D 153 w' (some (.int r)) args s 0 0) (F0 m 177 ls [])) hf (fun x31 x32 k33 ih34 hf  H locs ls hh hl => ?_)  _ _ _ hh (lv_sub hl [2, 3, 4, 5, 6, 7, 1, 0] rfl)
                  refine lv_iload hx hb dX8_union_177 (lv_at hl 7 rfl) ?_
                  refine lv_aload_n hx hb dX8_union_179 rfl (lv_at hl 0 rfl) ?_
                  refine r_gi X hh ht fk_X8_9 dX8_union_180 ?_
                  refine lv_icmp_gt (tgt := 204) hx hb dX8_union_183 (by decide) (fun hc35 => ?_) (fun hc35 => ?_)
                  · have hf := if_t hc35 hf
                    refine lv_iload hx hb dX8_union_204 (lv_at hl 6 rfl) ?_
                    refine lv_iload hx hb dX8_union_206 (lv_at hl 4 rfl) ?_
                    refine mg_W (P := fun (x37 : Int32) => ∀ (ls : Array Slot), lv_has ls 8 [(0, .ref (B + t)), (1, .int a0), (2, .int a1), (3, .int x9), (5, .int x16)] → W p l e (rmk 2 44 0 0) s m args below meth c H locs 0 0 (MZ below B D 153 w' (some (.int r)) args s 0 0) (F0 m 218 ls [.int x37])) hf (fun x37 hf ls hl => ?_) (fun hj38 => ?_)
                    · refine lv_istore (lv' := [(4, .int x37), (0, .ref (B + t)), (1, .int a0), (2, .int a1), (3, .int x9), (5, .int x16)]) hx hb dX8_union_218 hl (by decide) rfl (fun ls hl => ?_)
                      exact hj24 _ _ hf  _ _ _ hh (lv_sub hl [1, 2, 3, 4, 0, 5] rfl)
                    · refine lv_icmp_le (tgt := 216) hx hb dX8_union_208 (by decide) (fun hc36 => ?_) (fun hc36 => ?_)
                      · refine lv_iload hx hb dX8_union_216 (lv_at hl 4 rfl) ?_
                        exact hj38 _ (by rw [if_pos hc36]) ls (lv_sub hl [0, 1, 2, 3, 5] rfl)
                      · refine lv_iload hx hb dX8_union_211 (lv_at hl 6 rfl) ?_
                        refine lv_goto (tgt := 218) hx hb dX8_union_213 (by decide) ?_
                        exact hj38 _ (by rw [if_neg hc36]) ls (lv_sub hl [0, 1, 2, 3, 5] rfl)
                  · have hf := if_f hc35 hf
                    refine lv_iload hx hb dX8_union_186 (lv_at hl 6 rfl) ?_
                    refine lv_iload hx hb dX8_union_188 (lv_at hl 5 rfl) ?_
                    refine lv_iload hx hb dX8_union_190 (lv_at hl 7 rfl) ?_
                    refine lv_ishr hx hb dX8_union_192 ?_
                    refine lv_iconst (v := (1 : Int32)) hx hb dX8_union_193 (by decide) ?_
                    refine lv_iand hx hb dX8_union_194 ?_
                    refine lv_iadd hx hb dX8_union_195 ?_
                    refine lv_topi (fun x39 e40 => ?_)
                    have hf := lt_e e40 hf
                    refine lv_istore (lv' := [(6, .int x39), (0, .ref (B + t)), (1, .int a0), (2, .int a1), (3, .int x9), (4, .int x15), (5, .int x16), (7, .int x32)]) hx hb dX8_union_196 hl (by decide) rfl (fun ls hl => ?_)
                    obtain ⟨x41, e42⟩ : ∃ y : Int32, y = (x32 + (1 : Int32)) := ⟨_, rfl⟩
                    have hf := lt_e e42 hf
                    refine lv_iinc (v := x41) (lv' := [(7, .int x41), (6, .int x39), (0, .ref (B + t)), (1, .int a0), (2, .int a1), (3, .int x9), (4, .int x15), (5, .int x16)]) hx hb dX8_union_198 hl (k := 7) rfl (by rw [e42]; rfl) (by decide) rfl (fun ls hl => ?_)
                    refine lv_goto (tgt := 177) hx hb dX8_union_201 (by decide) ?_
                    exact ih34 _ _ hf  _ _ _ hh (lv_sub hl [2, 3, 4, 5, 6, 7, 1, 0] rfl)
                · have hf := if_f hc30 hf
                  refine lv_goto (tgt := 220) hx hb dX8_union_168 (by decide) ?_
                  exact hj24 _ _ hf  _ _ _ hh (lv_sub hl [0, 1, 2, 3, 4, 5] rfl)
        · have hf := if_f hc14 hf
          refine lv_aload_n hx hb dX8_union_48 rfl (lv_at hl 0 rfl) ?_
          refine q_gr (P := 9) X hh ht fk_X8_37 dX8_union_49 hf (fun t43 h44 hf => ?_)
          refine lv_iload hx hb dX8_union_52 (lv_at hl 4 rfl) ?_
          refine lv_iconst (v := (0 : Int32)) hx hb dX8_union_54 (by decide) ?_
          refine q_ast X hh h44 dX8_union_55 hf (fun w46 H locs hf hh => ?_)
          refine lv_iconst (v := (1 : Int32)) hx hb dX8_union_56 (by decide) ?_
          refine lv_istore (lv' := [(5, .int (1 : Int32)), (0, .ref (B + t)), (1, .int a0), (2, .int a1), (3, .int x9), (4, .int x10)]) hx hb dX8_union_57 hl (by decide) rfl (fun ls hl => ?_)
          refine wl2_W (P := fun (x47 : Int32) (w48 : Wd) => ∀ (H : Heap) (locs : List Loc) (ls : Array Slot), Hp B D 153 w48 s H locs → lv_has ls 8 [(0, .ref (B + t)), (1, .int a0), (2, .int a1), (3, .int x9), (4, .int x10), (5, .int x47)] → W p l e (rmk 2 44 0 0) s m args below meth c H locs 0 0 (MZ below B D 153 w' (some (.int r)) args s 0 0) (F0 m 59 ls [])) hf (fun x47 w48 k49 ih50 hf  H locs ls hh hl => ?_)  _ _ _ hh (lv_sub hl [1, 2, 3, 4, 5, 0] rfl)
          refine lv_iload hx hb dX8_union_59 (lv_at hl 5 rfl) ?_
          refine lv_aload_n hx hb dX8_union_61 rfl (lv_at hl 0 rfl) ?_
          refine r_gi X hh ht fk_X8_15 dX8_union_62 ?_
          refine lv_icmp_gt (tgt := 109) hx hb dX8_union_65 (by decide) (fun hc51 => ?_) (fun hc51 => ?_)
          · have hf := if_t hc51 hf
            refine lv_iload_n hx hb dX8_union_109 rfl (lv_at hl 3 rfl) ?_
            refine lv_aload_n hx hb dX8_union_110 rfl (lv_at hl 0 rfl) ?_
            refine q_gr (P := 9) X hh ht fk_X8_37 dX8_union_111 hf (fun t52 h53 hf => ?_)
            refine lv_iload hx hb dX8_union_114 (lv_at hl 4 rfl) ?_
            refine q_ald X hh h53 dX8_union_116 hf (fun hf => ?_)
            refine mg_W (P := fun (x56 : Int32) => ∀ (ls : Array Slot), lv_has ls 8 [(0, .ref (B + t)), (1, .int a0), (2, .int a1), (4, .int x10)] → W p l e (rmk 2 44 0 0) s m args below meth c H locs 0 0 (MZ below B D 153 w' (some (.int r)) args s 0 0) (F0 m 128 ls [.int x56, .int x9])) hf (fun x56 hf ls hl => ?_) (fun hj61 => ?_)
            · refine lv_ior hx hb dX8_union_128 ?_
              refine lv_topi (fun x57 e58 => ?_)
              have hf := lt_e e58 hf
              refine lv_istore_n (lv' := [(3, .int x57), (0, .ref (B + t)), (1, .int a0), (2, .int a1), (4, .int x10)]) hx hb dX8_union_129 rfl hl (by decide) rfl (fun ls hl => ?_)
              obtain ⟨x59, e60⟩ : ∃ y : Int32, y = (x10 + (1 : Int32)) := ⟨_, rfl⟩
              have hf := lt_e e60 hf
              refine lv_iinc (v := x59) (lv' := [(4, .int x59), (3, .int x57), (0, .ref (B + t)), (1, .int a0), (2, .int a1)]) hx hb dX8_union_130 hl (k := 4) rfl (by rw [e60]; rfl) (by decide) rfl (fun ls hl => ?_)
              refine lv_goto (tgt := 39) hx hb dX8_union_133 (by decide) ?_
              exact ih13 _ _ _ hf  _ _ _ hh (lv_sub hl [2, 3, 4, 1, 0] rfl)
            · refine lv_if_le (tgt := 127) hx hb dX8_union_117 (by decide) (fun hc55 => ?_) (fun hc55 => ?_)
              · refine lv_iconst (v := (0 : Int32)) hx hb dX8_union_127 (by decide) ?_
                exact hj61 _ (by rw [if_pos hc55]) ls (lv_sub hl [0, 1, 2, 4] rfl)
              · refine lv_iconst (v := (1 : Int32)) hx hb dX8_union_120 (by decide) ?_
                refine lv_iload hx hb dX8_union_121 (lv_at hl 4 rfl) ?_
                refine lv_ishl hx hb dX8_union_123 ?_
                refine lv_goto (tgt := 128) hx hb dX8_union_124 (by decide) ?_
                exact hj61 _ (by rw [if_neg hc55]) ls (lv_sub hl [0, 1, 2, 4] rfl)
          · have hf := if_f hc51 hf
            refine lv_aload_n hx hb dX8_union_68 rfl (lv_at hl 0 rfl) ?_
            refine q_gr (P := 9) X hh ht fk_X8_37 dX8_union_69 hf (fun t62 h63 hf => ?_)
            refine lv_iload hx hb dX8_union_72 (lv_at hl 4 rfl) ?_
            refine lv_aload_n hx hb dX8_union_74 rfl (lv_at hl 0 rfl) ?_
            refine q_gr (P := 9) X hh ht fk_X8_18 dX8_union_75 hf (fun t64 h65 hf => ?_)
            refine lv_iload hx hb dX8_union_78 (lv_at hl 4 rfl) ?_
            refine lv_iload hx hb dX8_union_80 (lv_at hl 5 rfl) ?_
            obtain ⟨v67, hc66, hf⟩ := c1_e hf
            refine q_S (w' := w48) (rest := [.ref (B + t64), .int x10, .ref (B + t62)]) X hml hh (some (.int v67)) (m_X8_at l B D hc66) cf_X8_at k_787 rfl hl.1 rfl (Nat.le_of_ble_eq_true rfl) ⟨Nat.le_of_ble_eq_true rfl, Nat.le_of_ble_eq_true rfl⟩ ⟨Nat.zero_le _, Nat.zero_le _⟩ dX8_union_82 rfl (fun H locs hh => ?_)
            refine q_ald X hh h65 dX8_union_85 hf (fun hf => ?_)
            refine lv_iconst (v := (1 : Int32)) hx hb dX8_union_86 (by decide) ?_
            refine jn_W (P := fun j71 => ∀ (x70 : Int32), j71 x70 = some (r, w') → ∀ (H : Heap) (locs : List Loc) (ls : Array Slot), Hp B D 153 w48 s H locs → lv_has ls 8 [(0, .ref (B + t)), (1, .int a0), (2, .int a1), (3, .int x9), (4, .int x10), (5, .int x47)] → W p l e (rmk 2 44 0 0) s m args below meth c H locs 0 0 (MZ below B D 153 w' (some (.int r)) args s 0 0) (F0 m 102 ls [.int x70, .int x10, .ref (B + t62)])) hf (fun x70 hf  H locs ls hh hl => ?_) (fun j71 hj71 hf => ?_)
            · refine q_ast X hh h63 dX8_union_102 hf (fun w73 H locs hf hh => ?_)
              obtain ⟨x74, e75⟩ : ∃ y : Int32, y = (x47 + (1 : Int32)) := ⟨_, rfl⟩
              have hf := lt_e e75 hf
              refine lv_iinc (v := x74) (lv' := [(5, .int x74), (0, .ref (B + t)), (1, .int a0), (2, .int a1), (3, .int x9), (4, .int x10)]) hx hb dX8_union_103 hl (k := 5) rfl (by rw [e75]; rfl) (by decide) rfl (fun ls hl => ?_)
              refine lv_goto (tgt := 59) hx hb dX8_union_106 (by decide) ?_
              exact ih50 _ _ hf  _ _ _ hh (lv_sub hl [1, 2, 3, 4, 5, 0] rfl)
            · refine lv_icmp_ne (tgt := 95) hx hb dX8_union_87 (by decide) (fun hc69 => ?_) (fun hc69 => ?_)
              · have hf := if_f hc69 hf
                refine lv_aload_n hx hb dX8_union_95 rfl (lv_at hl 0 rfl) ?_
                refine q_gr (P := 9) X hh ht fk_X8_37 dX8_union_96 hf (fun t76 h77 hf => ?_)
                refine lv_iload hx hb dX8_union_99 (lv_at hl 4 rfl) ?_
                refine q_ald X hh h77 dX8_union_101 hf (fun hf => ?_)
                refine lv_topi (fun x79 e80 => ?_)
                have hf := lt_e e80 hf
                exact hj71 _ hf  _ _ _ hh (lv_sub hl [0, 1, 2, 3, 4, 5] rfl)
              · have hf := if_t hc69 hf
                refine lv_iload hx hb dX8_union_90 (lv_at hl 5 rfl) ?_
                refine lv_goto (tgt := 102) hx hb dX8_union_92 (by decide) ?_
                exact hj71 _ hf  _ _ _ hh (lv_sub hl [0, 1, 2, 3, 4, 5] rfl)
      · have hf := if_t hc8 hf
        refine lv_bipush (v := (-5 : Int32)) hx hb dX8_union_31 (by decide) ?_
        exact e_i X hr hlk hh (so2_e hf) dX8_union_33
    · refine lv_icmp_eq (tgt := 24) hx hb dX8_union_14 (by decide) (fun hc4 => ?_) (fun hc4 => ?_)
      · have hf := if_t hc4 hf
        exact hj5  hf  _ _ _ hh (lv_sub hl [0, 1, 2] rfl)
      · have hf := if_f hc4 hf
        refine lv_iload_n hx hb dX8_union_17 rfl (lv_at hl 2 rfl) ?_
        refine lv_iconst (v := (3 : Int32)) hx hb dX8_union_18 (by decide) ?_
        refine lv_icmp_eq (tgt := 24) hx hb dX8_union_19 (by decide) (fun hc81 => ?_) (fun hc81 => ?_)
        · have hf := if_t hc81 hf
          exact hj5  hf  _ _ _ hh (lv_sub hl [0, 1, 2] rfl)
        · have hf := if_f hc81 hf
          refine lv_iconst (v := (-1 : Int32)) hx hb dX8_union_22 (by decide) ?_
          exact e_i X hr hlk hh (so2_e hf) dX8_union_23
set_option maxHeartbeats 4000000 in
set_option maxRecDepth 100000 in
theorem m_X8_compares (l : Launch) (B : Nat) (D : DD) {t : Nat} {a0 : Int32} {a1 : Int32} {w : Wd} {r : Int32} (ht : t < 153 ∧ kd t = 8) (hf : f_X8_compares t a0 a1 w = some r) : Ct l yX8_compares cX8_compares 6 (some .int) 0 0 0 0 B D [.ref (B + t), .int a0, .int a1] 153 w (some (.int r)) 153 w := by
  refine m_of (by decide) (Nat.le_of_ble_eq_true rfl) (fun p e s m args below meth c X hml hr hlk _ H locs hh ls hl => ?_)
  have hx := X.1
  have hb := X.2.1
  have hl : lv_has ls 6 [(0, .ref (B + t)), (1, .int a0), (2, .int a1)] := hl
  unfold f_X8_compares at hf
  refine lv_iconst (v := (0 : Int32)) hx hb dX8_compares_0 (by decide) ?_
  refine lv_istore_n (lv' := [(3, .int (0 : Int32)), (0, .ref (B + t)), (1, .int a0), (2, .int a1)]) hx hb dX8_compares_1 rfl hl (by decide) rfl (fun ls hl => ?_)
  refine lv_iconst (v := (0 : Int32)) hx hb dX8_compares_2 (by decide) ?_
  refine lv_istore (lv' := [(4, .int (0 : Int32)), (3, .int (0 : Int32)), (0, .ref (B + t)), (1, .int a0), (2, .int a1)]) hx hb dX8_compares_3 hl (by decide) rfl (fun ls hl => ?_)
  refine lv_iconst (v := (0 : Int32)) hx hb dX8_compares_5 (by decide) ?_
  refine lv_istore (lv' := [(5, .int (0 : Int32)), (4, .int (0 : Int32)), (3, .int (0 : Int32)), (0, .ref (B + t)), (1, .int a0), (2, .int a1)]) hx hb dX8_compares_6 hl (by decide) rfl (fun ls hl => ?_)
  refine wl3_W (P := fun (x1 : Int32) (x2 : Int32) (x3 : Int32) => ∀ (H : Heap) (locs : List Loc) (ls : Array Slot), Hp B D 153 w s H locs → lv_has ls 6 [(0, .ref (B + t)), (1, .int a0), (2, .int a1), (3, .int x1), (4, .int x2), (5, .int x3)] → W p l e (rmk 0 0 0 0) s m args below meth c H locs 0 0 (MZ below B D 153 w (some (.int r)) args s 0 0) (F0 m 8 ls [])) hf (fun x1 x2 x3 k4 ih5 hf  H locs ls hh hl => ?_)  _ _ _ hh (lv_sub hl [3, 4, 5, 2, 1, 0] rfl)
  refine lv_iload hx hb dX8_compares_8 (lv_at hl 5 rfl) ?_
  refine lv_bipush (v := (80 : Int32)) hx hb dX8_compares_10 (by decide) ?_
  refine lv_icmp_ge (tgt := 47) hx hb dX8_compares_12 (by decide) (fun hc6 => ?_) (fun hc6 => ?_)
  · have hf := if_t hc6 hf
    refine lv_iload_n hx hb dX8_compares_47 rfl (lv_at hl 3 rfl) ?_
    refine lv_iload hx hb dX8_compares_48 (lv_at hl 4 rfl) ?_
    refine lv_icmp_eq (tgt := 65) hx hb dX8_compares_50 (by decide) (fun hc7 => ?_) (fun hc7 => ?_)
    · have hf := if_t hc7 hf
      refine lv_iconst (v := (0 : Int32)) hx hb dX8_compares_65 (by decide) ?_
      refine lv_istore (lv' := [(5, .int (0 : Int32)), (0, .ref (B + t)), (1, .int a0), (2, .int a1), (3, .int x1), (4, .int x2)]) hx hb dX8_compares_66 hl (by decide) rfl (fun ls hl => ?_)
      refine wl1_W (P := fun (x8 : Int32) => ∀ (H : Heap) (locs : List Loc) (ls : Array Slot), Hp B D 153 w s H locs → lv_has ls 6 [(0, .ref (B + t)), (1, .int a0), (2, .int a1), (5, .int x8)] → W p l e (rmk 0 0 0 0) s m args below meth c H locs 0 0 (MZ below B D 153 w (some (.int r)) args s 0 0) (F0 m 68 ls [])) hf (fun x8 k9 ih10 hf  H locs ls hh hl => ?_)  _ _ _ hh (lv_sub hl [1, 2, 3, 0] rfl)
      refine lv_iload hx hb dX8_compares_68 (lv_at hl 3 rfl) ?_
      refine lv_bipush (v := (80 : Int32)) hx hb dX8_compares_70 (by decide) ?_
      refine lv_icmp_ge (tgt := 129) hx hb dX8_compares_72 (by decide) (fun hc11 => ?_) (fun hc11 => ?_)
      · have hf := if_t hc11 hf
        refine lv_iconst (v := (0 : Int32)) hx hb dX8_compares_129 (by decide) ?_
        exact e_i X hr hlk hh ⟨so_e hf, rfl⟩ dX8_compares_130
      · have hf := if_f hc11 hf
        refine lv_aload_n hx hb dX8_compares_75 rfl (lv_at hl 0 rfl) ?_
        refine q_gr (P := 9) X hh ht fk_X8_31 dX8_compares_76 hf (fun t12 h13 hf => ?_)
        refine lv_iload_n hx hb dX8_compares_79 rfl (lv_at hl 1 rfl) ?_
        refine lv_iload hx hb dX8_compares_80 (lv_at hl 3 rfl) ?_
        refine lv_iadd hx hb dX8_compares_82 ?_
        refine q_ald X hh h13 dX8_compares_83 hf (fun hf => ?_)
        refine lv_aload_n hx hb dX8_compares_84 rfl (lv_at hl 0 rfl) ?_
        refine q_gr (P := 9) X hh ht fk_X8_31 dX8_compares_85 hf (fun t15 h16 hf => ?_)
        refine lv_iload_n hx hb dX8_compares_88 rfl (lv_at hl 2 rfl) ?_
        refine lv_iload hx hb dX8_compares_89 (lv_at hl 3 rfl) ?_
        refine lv_iadd hx hb dX8_compares_91 ?_
        refine q_ald X hh h16 dX8_compares_92 hf (fun hf => ?_)
        refine lv_icmp_eq (tgt := 123) hx hb dX8_compares_93 (by decide) (fun hc18 => ?_) (fun hc18 => ?_)
        · have hf := if_t hc18 hf
          obtain ⟨x19, e20⟩ : ∃ y : Int32, y = (x8 + (1 : Int32)) := ⟨_, rfl⟩
          have hf := lt_e e20 hf
          refine lv_iinc (v := x19) (lv' := [(5, .int x19), (0, .ref (B + t)), (1, .int a0), (2, .int a1)]) hx hb dX8_compares_123 hl (k := 3) rfl (by rw [e20]; rfl) (by decide) rfl (fun ls hl => ?_)
          refine lv_goto (tgt := 68) hx hb dX8_compares_126 (by decide) ?_
          exact ih10 _ hf  _ _ _ hh (lv_sub hl [1, 2, 3, 0] rfl)
        · have hf := if_f hc18 hf
          refine lv_aload_n hx hb dX8_compares_96 rfl (lv_at hl 0 rfl) ?_
          refine q_gr (P := 9) X hh ht fk_X8_31 dX8_compares_97 hf (fun t21 h22 hf => ?_)
          refine lv_iload_n hx hb dX8_compares_100 rfl (lv_at hl 1 rfl) ?_
          refine lv_iload hx hb dX8_compares_101 (lv_at hl 3 rfl) ?_
          refine lv_iadd hx hb dX8_compares_103 ?_
          refine q_ald X hh h22 dX8_compares_104 hf (fun hf => ?_)
          refine lv_aload_n hx hb dX8_compares_105 rfl (lv_at hl 0 rfl) ?_
          refine q_gr (P := 9) X hh ht fk_X8_31 dX8_compares_106 hf (fun t24 h25 hf => ?_)
          refine lv_iload_n hx hb dX8_compares_109 rfl (lv_at hl 2 rfl) ?_
          refine lv_iload hx hb dX8_compares_110 (lv_at hl 3 rfl) ?_
          refine lv_iadd hx hb dX8_compares_112 ?_
          refine q_ald X hh h25 dX8_compares_113 hf (fun hf => ?_)
          refine mg_W (P := fun (x28 : Int32) => ∀ (ls : Array Slot), lv_has ls 6 [] → W p l e (rmk 0 0 0 0) s m args below meth c H locs 0 0 (MZ below B D 153 w (some (.int r)) args s 0 0) (F0 m 122 ls [.int x28])) hf (fun x28 hf ls hl => ?_) (fun hj29 => ?_)
          · exact e_i X hr hlk hh ⟨so_e hf, rfl⟩ dX8_compares_122
          · refine lv_icmp_le (tgt := 121) hx hb dX8_compares_114 (by decide) (fun hc27 => ?_) (fun hc27 => ?_)
            · refine lv_iconst (v := (-1 : Int32)) hx hb dX8_compares_121 (by decide) ?_
              exact hj29 _ (by rw [if_pos hc27]) ls (lv_sub hl [] rfl)
            · refine lv_iconst (v := (1 : Int32)) hx hb dX8_compares_117 (by decide) ?_
              refine lv_goto (tgt := 122) hx hb dX8_compares_118 (by decide) ?_
              exact hj29 _ (by rw [if_neg hc27]) ls (lv_sub hl [] rfl)
    · have hf := if_f hc7 hf
      refine lv_iload_n hx hb dX8_compares_53 rfl (lv_at hl 3 rfl) ?_
      refine lv_iload hx hb dX8_compares_54 (lv_at hl 4 rfl) ?_
      refine mg_W (P := fun (x31 : Int32) => ∀ (ls : Array Slot), lv_has ls 6 [] → W p l e (rmk 0 0 0 0) s m args below meth c H locs 0 0 (MZ below B D 153 w (some (.int r)) args s 0 0) (F0 m 64 ls [.int x31])) hf (fun x31 hf ls hl => ?_) (fun hj32 => ?_)
      · exact e_i X hr hlk hh ⟨so_e hf, rfl⟩ dX8_compares_64
      · refine lv_icmp_le (tgt := 63) hx hb dX8_compares_56 (by decide) (fun hc30 => ?_) (fun hc30 => ?_)
        · refine lv_iconst (v := (-1 : Int32)) hx hb dX8_compares_63 (by decide) ?_
          exact hj32 _ (by rw [if_pos hc30]) ls (lv_sub hl [] rfl)
        · refine lv_iconst (v := (1 : Int32)) hx hb dX8_compares_59 (by decide) ?_
          refine lv_goto (tgt := 64) hx hb dX8_compares_60 (by decide) ?_
          exact hj32 _ (by rw [if_neg hc30]) ls (lv_sub hl [] rfl)
  · have hf := if_f hc6 hf
    refine lv_iload_n hx hb dX8_compares_15 rfl (lv_at hl 3 rfl) ?_
    refine lv_aload_n hx hb dX8_compares_16 rfl (lv_at hl 0 rfl) ?_
    refine q_gr (P := 9) X hh ht fk_X8_31 dX8_compares_17 hf (fun t33 h34 hf => ?_)
    refine lv_iload_n hx hb dX8_compares_20 rfl (lv_at hl 1 rfl) ?_
    refine lv_iload hx hb dX8_compares_21 (lv_at hl 5 rfl) ?_
    refine lv_iadd hx hb dX8_compares_23 ?_
    refine q_ald X hh h34 dX8_compares_24 hf (fun hf => ?_)
    refine lv_iadd hx hb dX8_compares_25 ?_
    refine lv_topi (fun x36 e37 => ?_)
    have hf := lt_e e37 hf
    refine lv_istore_n (lv' := [(3, .int x36), (0, .ref (B + t)), (1, .int a0), (2, .int a1), (4, .int x2), (5, .int x3)]) hx hb dX8_compares_26 rfl hl (by decide) rfl (fun ls hl => ?_)
    refine lv_iload hx hb dX8_compares_27 (lv_at hl 4 rfl) ?_
    refine lv_aload_n hx hb dX8_compares_29 rfl (lv_at hl 1 rfl) ?_
    refine q_gr (P := 9) X hh ht fk_X8_31 dX8_compares_30 hf (fun t38 h39 hf => ?_)
    refine lv_iload_n hx hb dX8_compares_33 rfl (lv_at hl 3 rfl) ?_
    refine lv_iload hx hb dX8_compares_34 (lv_at hl 5 rfl) ?_
    refine lv_iadd hx hb dX8_compares_36 ?_
    refine q_ald X hh h39 dX8_compares_37 hf (fun hf => ?_)
    refine lv_iadd hx hb dX8_compares_38 ?_
    refine lv_topi (fun x41 e42 => ?_)
    have hf := lt_e e42 hf
    refine lv_istore (lv' := [(4, .int x41), (3, .int x36), (0, .ref (B + t)), (1, .int a0), (2, .int a1), (5, .int x3)]) hx hb dX8_compares_39 hl (by decide) rfl (fun ls hl => ?_)
    obtain ⟨x43, e44⟩ : ∃ y : Int32, y = (x3 + (1 : Int32)) := ⟨_, rfl⟩
    have hf := lt_e e44 hf
    refine lv_iinc (v := x43) (lv' := [(5, .int x43), (4, .int x41), (3, .int x36), (0, .ref (B + t)), (1, .int a0), (2, .int a1)]) hx hb dX8_compares_41 hl (k := 5) rfl (by rw [e44]; rfl) (by decide) rfl (fun ls hl => ?_)
    refine lv_goto (tgt := 8) hx hb dX8_compares_44 (by decide) ?_
    exact ih5 _ _ _ hf  _ _ _ hh (lv_sub hl [3, 4, 5, 2, 1, 0] rfl)
set_option maxHeartbeats 4000000 in
set_option maxRecDepth 100000 in
theorem m_X8_corner (l : Launch) (B : Nat) (D : DD) {t : Nat} {a0 : Int32} {w : Wd} {r : Int32} {w' : Wd} (ht : t < 153 ∧ kd t = 8) (hf : f_X8_corner t a0 w = some (r, w')) : Ct l yX8_corner cX8_corner 8 (some .int) 3 81 0 0 B D [.ref (B + t), .int a0] 153 w (some (.int r)) 153 w' := by
  refine m_of (by decide) (Nat.le_of_ble_eq_true rfl) (fun p e s m args below meth c X hml hr hlk _ H locs hh ls hl => ?_)
  have hx := X.1
  have hb := X.2.1
  have hl : lv_has ls 8 [(0, .ref (B + t)), (1, .int a0)] := hl
  unfold f_X8_corner at hf
  refine lv_iload_n hx hb dX8_corner_0 rfl (lv_at hl 1 rfl) ?_
  refine lv_if_ge (tgt := 6) hx hb dX8_corner_1 (by decide) (fun hc1 => ?_) (fun hc1 => ?_)
  · have hf := if_t hc1 hf
    refine lv_aload_n hx hb dX8_corner_6 rfl (lv_at hl 0 rfl) ?_
    obtain ⟨w3, hc2, hf⟩ := c1_e hf
    refine q_V (w' := w3) (rest := []) X hml hh none (m_X8_growsAll l B D ht hc2) cf_X8_growsAll k_827 ht ci_8 rfl rfl hl.1 rfl (Nat.le_of_ble_eq_true rfl) ⟨Nat.le_of_ble_eq_true rfl, Nat.le_of_ble_eq_true rfl⟩ ⟨Nat.zero_le _, Nat.zero_le _⟩ dX8_corner_7 rfl (fun H locs hh => ?_)
    refine lv_iconst (v := (0 : Int32)) hx hb dX8_corner_10 (by decide) ?_
    refine lv_istore_n (lv' := [(2, .int (0 : Int32)), (0, .ref (B + t)), (1, .int a0)]) hx hb dX8_corner_11 rfl hl (by decide) rfl (fun ls hl => ?_)
    refine wl1_W (P := fun (x4 : Int32) => ∀ (H : Heap) (locs : List Loc) (ls : Array Slot), Hp B D 153 w3 s H locs → lv_has ls 8 [(0, .ref (B + t)), (1, .int a0), (2, .int x4)] → W p l e (rmk 3 81 0 0) s m args below meth c H locs 0 0 (MZ below B D 153 w' (some (.int r)) args s 0 0) (F0 m 12 ls [])) hf (fun x4 k5 ih6 hf  H locs ls hh hl => ?_)  _ _ _ hh (lv_sub hl [1, 2, 0] rfl)
    refine lv_iload_n hx hb dX8_corner_12 rfl (lv_at hl 2 rfl) ?_
    refine lv_aload_n hx hb dX8_corner_13 rfl (lv_at hl 0 rfl) ?_
    refine r_gi X hh ht fk_X8_9 dX8_corner_14 ?_
    refine lv_icmp_gt (tgt := 150) hx hb dX8_corner_17 (by decide) (fun hc7 => ?_) (fun hc7 => ?_)
    · have hf := if_t hc7 hf
      refine lv_bipush (v := (-2 : Int32)) hx hb dX8_corner_150 (by decide) ?_
      exact e_i X hr hlk hh (so2_e hf) dX8_corner_152
    · have hf := if_f hc7 hf
      refine lv_iconst (v := (0 : Int32)) hx hb dX8_corner_20 (by decide) ?_
      refine lv_istore_n (lv' := [(3, .int (0 : Int32)), (0, .ref (B + t)), (1, .int a0), (2, .int x4)]) hx hb dX8_corner_21 rfl hl (by decide) rfl (fun ls hl => ?_)
      refine wl1_W (P := fun (x8 : Int32) => ∀ (H : Heap) (locs : List Loc) (ls : Array Slot), Hp B D 153 w3 s H locs → lv_has ls 8 [(0, .ref (B + t)), (1, .int a0), (2, .int x4), (3, .int x8)] → W p l e (rmk 3 81 0 0) s m args below meth c H locs 0 0 (MZ below B D 153 w' (some (.int r)) args s 0 0) (F0 m 22 ls [])) hf (fun x8 k9 ih10 hf  H locs ls hh hl => ?_)  _ _ _ hh (lv_sub hl [1, 2, 3, 0] rfl)
      refine lv_iload_n hx hb dX8_corner_22 rfl (lv_at hl 3 rfl) ?_
      refine lv_aload_n hx hb dX8_corner_23 rfl (lv_at hl 0 rfl) ?_
      refine r_gi X hh ht fk_X8_15 dX8_corner_24 ?_
      refine lv_icmp_gt (tgt := 144) hx hb dX8_corner_27 (by decide) (fun hc11 => ?_) (fun hc11 => ?_)
      · have hf := if_t hc11 hf
        obtain ⟨x12, e13⟩ : ∃ y : Int32, y = (x4 + (1 : Int32)) := ⟨_, rfl⟩
        have hf := lt_e e13 hf
        refine lv_iinc (v := x12) (lv' := [(2, .int x12), (0, .ref (B + t)), (1, .int a0), (3, .int x8)]) hx hb dX8_corner_144 hl (k := 2) rfl (by rw [e13]; rfl) (by decide) rfl (fun ls hl => ?_)
        refine lv_goto (tgt := 12) hx hb dX8_corner_147 (by decide) ?_
        exact ih6 _ hf  _ _ _ hh (lv_sub hl [1, 2, 0] rfl)
      · have hf := if_f hc11 hf
        refine lv_iconst (v := (0 : Int32)) hx hb dX8_corner_30 (by decide) ?_
        refine lv_istore (lv' := [(4, .int (0 : Int32)), (0, .ref (B + t)), (1, .int a0), (2, .int x4), (3, .int x8)]) hx hb dX8_corner_31 hl (by decide) rfl (fun ls hl => ?_)
        refine lv_iconst (v := (0 : Int32)) hx hb dX8_corner_33 (by decide) ?_
        refine lv_istore (lv' := [(5, .int (0 : Int32)), (4, .int (0 : Int32)), (0, .ref (B + t)), (1, .int a0), (2, .int x4), (3, .int x8)]) hx hb dX8_corner_34 hl (by decide) rfl (fun ls hl => ?_)
        refine wl2_W (P := fun (x14 : Int32) (x15 : Int32) => ∀ (H : Heap) (locs : List Loc) (ls : Array Slot), Hp B D 153 w3 s H locs → lv_has ls 8 [(0, .ref (B + t)), (1, .int a0), (2, .int x4), (3, .int x8), (4, .int x14), (5, .int x15)] → W p l e (rmk 3 81 0 0) s m args below meth c H locs 0 0 (MZ below B D 153 w' (some (.int r)) args s 0 0) (F0 m 36 ls [])) hf (fun x14 x15 k16 ih17 hf  H locs ls hh hl => ?_)  _ _ _ hh (lv_sub hl [2, 3, 4, 5, 1, 0] rfl)
        refine lv_iload hx hb dX8_corner_36 (lv_at hl 5 rfl) ?_
        refine lv_aload_n hx hb dX8_corner_38 rfl (lv_at hl 0 rfl) ?_
        refine r_gi X hh ht fk_X8_9 dX8_corner_39 ?_
        refine lv_icmp_gt (tgt := 125) hx hb dX8_corner_42 (by decide) (fun hc18 => ?_) (fun hc18 => ?_)
        · have hf := if_t hc18 hf
          refine lv_iload hx hb dX8_corner_125 (lv_at hl 4 rfl) ?_
          refine lv_iload_n hx hb dX8_corner_127 rfl (lv_at hl 1 rfl) ?_
          refine lv_icmp_ne (tgt := 138) hx hb dX8_corner_128 (by decide) (fun hc19 => ?_) (fun hc19 => ?_)
          · have hf := if_f hc19 hf
            obtain ⟨x20, e21⟩ : ∃ y : Int32, y = (x8 + (1 : Int32)) := ⟨_, rfl⟩
            have hf := lt_e e21 hf
            refine lv_iinc (v := x20) (lv' := [(3, .int x20), (0, .ref (B + t)), (1, .int a0), (2, .int x4), (4, .int x14), (5, .int x15)]) hx hb dX8_corner_138 hl (k := 3) rfl (by rw [e21]; rfl) (by decide) rfl (fun ls hl => ?_)
            refine lv_goto (tgt := 22) hx hb dX8_corner_141 (by decide) ?_
            exact ih10 _ hf  _ _ _ hh (lv_sub hl [1, 2, 3, 0] rfl)
          · have hf := if_t hc19 hf
            refine lv_bipush (v := (10 : Int32)) hx hb dX8_corner_131 (by decide) ?_
            refine lv_iload_n hx hb dX8_corner_133 rfl (lv_at hl 2 rfl) ?_
            refine lv_imul hx hb dX8_corner_134 ?_
            refine lv_iload_n hx hb dX8_corner_135 rfl (lv_at hl 3 rfl) ?_
            refine lv_iadd hx hb dX8_corner_136 ?_
            exact e_i X hr hlk hh (so2_e hf) dX8_corner_137
        · have hf := if_f hc18 hf
          refine lv_iconst (v := (0 : Int32)) hx hb dX8_corner_45 (by decide) ?_
          refine lv_istore (lv' := [(6, .int (0 : Int32)), (0, .ref (B + t)), (1, .int a0), (2, .int x4), (3, .int x8), (4, .int x14), (5, .int x15)]) hx hb dX8_corner_46 hl (by decide) rfl (fun ls hl => ?_)
          refine wl2_W (P := fun (x22 : Int32) (x23 : Int32) => ∀ (H : Heap) (locs : List Loc) (ls : Array Slot), Hp B D 153 w3 s H locs → lv_has ls 8 [(0, .ref (B + t)), (1, .int a0), (2, .int x4), (3, .int x8), (4, .int x22), (5, .int x15), (6, .int x23)] → W p l e (rmk 3 81 0 0) s m args below meth c H locs 0 0 (MZ below B D 153 w' (some (.int r)) args s 0 0) (F0 m 48 ls [])) hf (fun x22 x23 k24 ih25 hf  H locs ls hh hl => ?_)  _ _ _ hh (lv_sub hl [1, 2, 3, 4, 5, 6, 0] rfl)
          refine lv_iload hx hb dX8_corner_48 (lv_at hl 6 rfl) ?_
          refine lv_aload_n hx hb dX8_corner_50 rfl (lv_at hl 0 rfl) ?_
          refine r_gi X hh ht fk_X8_15 dX8_corner_51 ?_
          refine lv_icmp_gt (tgt := 119) hx hb dX8_corner_54 (by decide) (fun hc26 => ?_) (fun hc26 => ?_)
          · have hf := if_t hc26 hf
            obtain ⟨x27, e28⟩ : ∃ y : Int32, y = (x15 + (1 : Int32)) := ⟨_, rfl⟩
            have hf := lt_e e28 hf
            refine lv_iinc (v := x27) (lv' := [(5, .int x27), (0, .ref (B + t)), (1, .int a0), (2, .int x4), (3, .int x8), (4, .int x22), (6, .int x23)]) hx hb dX8_corner_119 hl (k := 5) rfl (by rw [e28]; rfl) (by decide) rfl (fun ls hl => ?_)
            refine lv_goto (tgt := 36) hx hb dX8_corner_122 (by decide) ?_
            exact ih17 _ _ hf  _ _ _ hh (lv_sub hl [1, 2, 3, 4, 5, 0] rfl)
          · have hf := if_f hc26 hf
            refine lv_aload_n hx hb dX8_corner_57 rfl (lv_at hl 0 rfl) ?_
            refine lv_iload hx hb dX8_corner_58 (lv_at hl 5 rfl) ?_
            refine lv_iload hx hb dX8_corner_60 (lv_at hl 6 rfl) ?_
            obtain ⟨v30, hc29, hf⟩ := c1_e hf
            refine q_S (w' := w3) (rest := [.ref (B + t)]) X hml hh (some (.int v30)) (m_X8_from l B D hc29) cf_X8_from k_835 rfl hl.1 rfl (Nat.le_of_ble_eq_true rfl) ⟨Nat.le_of_ble_eq_true rfl, Nat.le_of_ble_eq_true rfl⟩ ⟨Nat.zero_le _, Nat.zero_le _⟩ dX8_corner_62 rfl (fun H locs hh => ?_)
            refine lv_iload_n hx hb dX8_corner_65 rfl (lv_at hl 2 rfl) ?_
            refine lv_iload_n hx hb dX8_corner_66 rfl (lv_at hl 3 rfl) ?_
            obtain ⟨v32, hc31, hf⟩ := c1_e hf
            refine q_S (w' := w3) (rest := [.int v30, .ref (B + t)]) X hml hh (some (.int v32)) (m_X8_from l B D hc31) cf_X8_from k_835 rfl hl.1 rfl (Nat.le_of_ble_eq_true rfl) ⟨Nat.le_of_ble_eq_true rfl, Nat.le_of_ble_eq_true rfl⟩ ⟨Nat.zero_le _, Nat.zero_le _⟩ dX8_corner_67 rfl (fun H locs hh => ?_)
            obtain ⟨v34, hc33, hf⟩ := c1_e hf
            refine q_V (w' := w3) (rest := []) X hml hh (some (.int v34)) (m_X8_compares l B D ht hc33) cf_X8_compares k_923 ht ci_8 rfl rfl hl.1 rfl (Nat.le_of_ble_eq_true rfl) ⟨Nat.le_of_ble_eq_true rfl, Nat.le_of_ble_eq_true rfl⟩ ⟨Nat.zero_le _, Nat.zero_le _⟩ dX8_corner_70 rfl (fun H locs hh => ?_)
            refine lv_istore (lv' := [(7, .int v34), (0, .ref (B + t)), (1, .int a0), (2, .int x4), (3, .int x8), (4, .int x22), (5, .int x15), (6, .int x23)]) hx hb dX8_corner_73 hl (by decide) rfl (fun ls hl => ?_)
            refine lv_iload hx hb dX8_corner_75 (lv_at hl 5 rfl) ?_
            refine lv_iload hx hb dX8_corner_77 (lv_at hl 0 rfl) ?_
            refine mg_W (P := fun (x40 : Int32) => ∀ (ls : Array Slot), lv_has ls 8 [(0, .ref (B + t)), (1, .int a0), (2, .int x4), (3, .int x8), (5, .int x15), (6, .int x23)] → W p l e (rmk 3 81 0 0) s m args below meth c H locs 0 0 (MZ below B D 153 w' (some (.int r)) args s 0 0) (F0 m 110 ls [.int x40, .int x22])) hf (fun x40 hf ls hl => ?_) (fun hj45 => ?_)
            · refine lv_iadd hx hb dX8_corner_110 ?_
              refine lv_topi (fun x41 e42 => ?_)
              have hf := lt_e e42 hf
              refine lv_istore (lv' := [(4, .int x41), (0, .ref (B + t)), (1, .int a0), (2, .int x4), (3, .int x8), (5, .int x15), (6, .int x23)]) hx hb dX8_corner_111 hl (by decide) rfl (fun ls hl => ?_)
              obtain ⟨x43, e44⟩ : ∃ y : Int32, y = (x23 + (1 : Int32)) := ⟨_, rfl⟩
              have hf := lt_e e44 hf
              refine lv_iinc (v := x43) (lv' := [(6, .int x43), (4, .int x41), (0, .ref (B + t)), (1, .int a0), (2, .int x4), (3, .int x8), (5, .int x15)]) hx hb dX8_corner_113 hl (k := 6) rfl (by rw [e44]; rfl) (by decide) rfl (fun ls hl => ?_)
              refine lv_goto (tgt := 48) hx hb dX8_corner_116 (by decide) ?_
              exact ih25 _ _ hf  _ _ _ hh (lv_sub hl [2, 3, 4, 5, 1, 6, 0] rfl)
            · refine lv_if_gt (tgt := 105) hx hb dX8_corner_79 (by decide) (fun hc35 => ?_) (fun hc35 => ?_)
              · refine lv_iconst (v := (1 : Int32)) hx hb dX8_corner_105 (by decide) ?_
                refine lv_goto (tgt := 110) hx hb dX8_corner_106 (by decide) ?_
                exact hj45 _ (by rw [if_pos hc35]) ls (lv_sub hl [1, 2, 3, 4, 6, 7] rfl)
              · refine lv_iload hx hb dX8_corner_82 (lv_at hl 0 rfl) ?_
                refine lv_if_ne (tgt := 109) hx hb dX8_corner_84 (by decide) (fun hc36 => ?_) (fun hc36 => ?_)
                · refine lv_iconst (v := (0 : Int32)) hx hb dX8_corner_109 (by decide) ?_
                  exact hj45 _ (by rw [if_neg hc35, if_neg hc36]) ls (lv_sub hl [1, 2, 3, 4, 6, 7] rfl)
                · refine lv_iload hx hb dX8_corner_87 (lv_at hl 6 rfl) ?_
                  refine lv_iload_n hx hb dX8_corner_89 rfl (lv_at hl 3 rfl) ?_
                  refine lv_icmp_lt (tgt := 105) hx hb dX8_corner_90 (by decide) (fun hc37 => ?_) (fun hc37 => ?_)
                  · refine lv_iconst (v := (1 : Int32)) hx hb dX8_corner_105 (by decide) ?_
                    refine lv_goto (tgt := 110) hx hb dX8_corner_106 (by decide) ?_
                    exact hj45 _ (by rw [if_neg hc35, if_pos hc36, if_pos hc37]) ls (lv_sub hl [1, 2, 3, 4, 6, 7] rfl)
                  · refine lv_iload hx hb dX8_corner_93 (lv_at hl 6 rfl) ?_
                    refine lv_iload_n hx hb dX8_corner_95 rfl (lv_at hl 3 rfl) ?_
                    refine lv_icmp_ne (tgt := 109) hx hb dX8_corner_96 (by decide) (fun hc38 => ?_) (fun hc38 => ?_)
                    · refine lv_iconst (v := (0 : Int32)) hx hb dX8_corner_109 (by decide) ?_
                      exact hj45 _ (by rw [if_neg hc35, if_pos hc36, if_neg hc37, if_neg hc38]) ls (lv_sub hl [1, 2, 3, 4, 6, 7] rfl)
                    · refine lv_iload hx hb dX8_corner_99 (lv_at hl 7 rfl) ?_
                      refine lv_iload_n hx hb dX8_corner_101 rfl (lv_at hl 4 rfl) ?_
                      refine lv_icmp_ge (tgt := 109) hx hb dX8_corner_102 (by decide) (fun hc39 => ?_) (fun hc39 => ?_)
                      · refine lv_iconst (v := (0 : Int32)) hx hb dX8_corner_109 (by decide) ?_
                        exact hj45 _ (by rw [if_neg hc35, if_pos hc36, if_neg hc37, if_pos hc38, if_pos hc39]) ls (lv_sub hl [1, 2, 3, 4, 6, 7] rfl)
                      · refine lv_iconst (v := (1 : Int32)) hx hb dX8_corner_105 (by decide) ?_
                        refine lv_goto (tgt := 110) hx hb dX8_corner_106 (by decide) ?_
                        exact hj45 _ (by rw [if_neg hc35, if_pos hc36, if_neg hc37, if_pos hc38, if_neg hc39]) ls (lv_sub hl [1, 2, 3, 4, 6, 7] rfl)
  · have hf := if_f hc1 hf
    refine lv_iconst (v := (-1 : Int32)) hx hb dX8_corner_4 (by decide) ?_
    exact e_i X hr hlk hh (so2_e hf) dX8_corner_5
set_option maxHeartbeats 4000000 in
set_option maxRecDepth 100000 in
theorem m_X8_unlike (l : Launch) (B : Nat) (D : DD) {t : Nat} {a0 : Int32} {w : Wd} {r : Int32} {w' : Wd} (ht : t < 153 ∧ kd t = 8) (hf : f_X8_unlike t a0 w = some (r, w')) : Ct l yX8_unlike cX8_unlike 10 (some .int) 3 81 0 0 B D [.ref (B + t), .int a0] 153 w (some (.int r)) 153 w' := by
  refine m_of (by decide) (Nat.le_of_ble_eq_true rfl) (fun p e s m args below meth c X hml hr hlk _ H locs hh ls hl => ?_)
  have hx := X.1
  have hb := X.2.1
  have hl : lv_has ls 10 [(0, .ref (B + t)), (1, .int a0)] := hl
  unfold f_X8_unlike at hf
  refine lv_iload_n hx hb dX8_unlike_0 rfl (lv_at hl 1 rfl) ?_
  refine lv_i2l hx hb dX8_unlike_1 rfl ?_
  refine lv_lconst (v := (0 : Int64)) hx hb dX8_unlike_2 (by decide) ?_
  refine lv_lconst (v := (1 : Int64)) hx hb dX8_unlike_3 (by decide) ?_
  obtain ⟨v2, hc1, hf⟩ := c1_e hf
  refine q_S (w' := w) (rest := []) X hml hh (some (.int v2)) (m_X8_in l B D hc1) cf_X8_in k_767 rfl hl.1 rfl (Nat.le_of_ble_eq_true rfl) ⟨Nat.le_of_ble_eq_true rfl, Nat.le_of_ble_eq_true rfl⟩ ⟨Nat.zero_le _, Nat.zero_le _⟩ dX8_unlike_4 rfl (fun H locs hh => ?_)
  refine lv_if_ne (tgt := 12) hx hb dX8_unlike_7 (by decide) (fun hc3 => ?_) (fun hc3 => ?_)
  · have hf := if_f hc3 hf
    refine lv_aload_n hx hb dX8_unlike_12 rfl (lv_at hl 0 rfl) ?_
    obtain ⟨w5, hc4, hf⟩ := c1_e hf
    refine q_V (w' := w5) (rest := []) X hml hh none (m_X8_growsAll l B D ht hc4) cf_X8_growsAll k_827 ht ci_8 rfl rfl hl.1 rfl (Nat.le_of_ble_eq_true rfl) ⟨Nat.le_of_ble_eq_true rfl, Nat.le_of_ble_eq_true rfl⟩ ⟨Nat.zero_le _, Nat.zero_le _⟩ dX8_unlike_13 rfl (fun H locs hh => ?_)
    refine lv_iconst (v := (0 : Int32)) hx hb dX8_unlike_16 (by decide) ?_
    refine lv_istore_n (lv' := [(2, .int (0 : Int32)), (0, .ref (B + t)), (1, .int a0)]) hx hb dX8_unlike_17 rfl hl (by decide) rfl (fun ls hl => ?_)
    refine lv_iconst (v := (0 : Int32)) hx hb dX8_unlike_18 (by decide) ?_
    refine lv_istore_n (lv' := [(3, .int (0 : Int32)), (2, .int (0 : Int32)), (0, .ref (B + t)), (1, .int a0)]) hx hb dX8_unlike_19 rfl hl (by decide) rfl (fun ls hl => ?_)
    refine lv_iconst (v := (0 : Int32)) hx hb dX8_unlike_20 (by decide) ?_
    refine lv_istore (lv' := [(4, .int (0 : Int32)), (3, .int (0 : Int32)), (2, .int (0 : Int32)), (0, .ref (B + t)), (1, .int a0)]) hx hb dX8_unlike_21 hl (by decide) rfl (fun ls hl => ?_)
    refine wl3_W (P := fun (x6 : Int32) (x7 : Int32) (x8 : Int32) => ∀ (H : Heap) (locs : List Loc) (ls : Array Slot), Hp B D 153 w5 s H locs → lv_has ls 10 [(0, .ref (B + t)), (1, .int a0), (2, .int x6), (3, .int x7), (4, .int x8)] → W p l e (rmk 3 81 0 0) s m args below meth c H locs 0 0 (MZ below B D 153 w' (some (.int r)) args s 0 0) (F0 m 23 ls [])) hf (fun x6 x7 x8 k9 ih10 hf  H locs ls hh hl => ?_)  _ _ _ hh (lv_sub hl [3, 4, 2, 1, 0] rfl)
    refine lv_iload hx hb dX8_unlike_23 (lv_at hl 4 rfl) ?_
    refine lv_aload_n hx hb dX8_unlike_25 rfl (lv_at hl 0 rfl) ?_
    refine r_gi X hh ht fk_X8_9 dX8_unlike_26 ?_
    refine lv_icmp_gt (tgt := 184) hx hb dX8_unlike_29 (by decide) (fun hc11 => ?_) (fun hc11 => ?_)
    · have hf := if_t hc11 hf
      refine lv_iload_n hx hb dX8_unlike_184 rfl (lv_at hl 1 rfl) ?_
      refine mg_W (P := fun (x13 : Int32) => ∀ (ls : Array Slot), lv_has ls 10 [] → W p l e (rmk 3 81 0 0) s m args below meth c H locs 0 0 (MZ below B D 153 w' (some (.int r)) args s 0 0) (F0 m 193 ls [.int x13])) hf (fun x13 hf ls hl => ?_) (fun hj14 => ?_)
      · exact e_i X hr hlk hh (so2_e hf) dX8_unlike_193
      · refine lv_if_ne (tgt := 192) hx hb dX8_unlike_185 (by decide) (fun hc12 => ?_) (fun hc12 => ?_)
        · refine lv_iload_n hx hb dX8_unlike_192 rfl (lv_at hl 3 rfl) ?_
          exact hj14 _ (by rw [if_neg hc12]) ls (lv_sub hl [] rfl)
        · refine lv_iload_n hx hb dX8_unlike_188 rfl (lv_at hl 2 rfl) ?_
          refine lv_goto (tgt := 193) hx hb dX8_unlike_189 (by decide) ?_
          exact hj14 _ (by rw [if_pos hc12]) ls (lv_sub hl [] rfl)
    · have hf := if_f hc11 hf
      refine lv_iconst (v := (0 : Int32)) hx hb dX8_unlike_32 (by decide) ?_
      refine lv_istore (lv' := [(5, .int (0 : Int32)), (0, .ref (B + t)), (1, .int a0), (2, .int x6), (3, .int x7), (4, .int x8)]) hx hb dX8_unlike_33 hl (by decide) rfl (fun ls hl => ?_)
      refine wl3_W (P := fun (x15 : Int32) (x16 : Int32) (x17 : Int32) => ∀ (H : Heap) (locs : List Loc) (ls : Array Slot), Hp B D 153 w5 s H locs → lv_has ls 10 [(0, .ref (B + t)), (1, .int a0), (2, .int x15), (3, .int x16), (4, .int x8), (5, .int x17)] → W p l e (rmk 3 81 0 0) s m args below meth c H locs 0 0 (MZ below B D 153 w' (some (.int r)) args s 0 0) (F0 m 35 ls [])) hf (fun x15 x16 x17 k18 ih19 hf  H locs ls hh hl => ?_)  _ _ _ hh (lv_sub hl [1, 2, 3, 4, 5, 0] rfl)
      refine lv_iload hx hb dX8_unlike_35 (lv_at hl 5 rfl) ?_
      refine lv_aload_n hx hb dX8_unlike_37 rfl (lv_at hl 0 rfl) ?_
      refine r_gi X hh ht fk_X8_15 dX8_unlike_38 ?_
      refine lv_icmp_gt (tgt := 178) hx hb dX8_unlike_41 (by decide) (fun hc20 => ?_) (fun hc20 => ?_)
      · have hf := if_t hc20 hf
        obtain ⟨x21, e22⟩ : ∃ y : Int32, y = (x8 + (1 : Int32)) := ⟨_, rfl⟩
        have hf := lt_e e22 hf
        refine lv_iinc (v := x21) (lv' := [(4, .int x21), (0, .ref (B + t)), (1, .int a0), (2, .int x15), (3, .int x16), (5, .int x17)]) hx hb dX8_unlike_178 hl (k := 4) rfl (by rw [e22]; rfl) (by decide) rfl (fun ls hl => ?_)
        refine lv_goto (tgt := 23) hx hb dX8_unlike_181 (by decide) ?_
        exact ih10 _ _ _ hf  _ _ _ hh (lv_sub hl [1, 2, 3, 4, 0] rfl)
      · have hf := if_f hc20 hf
        refine lv_iconst (v := (0 : Int32)) hx hb dX8_unlike_44 (by decide) ?_
        refine lv_istore (lv' := [(6, .int (0 : Int32)), (0, .ref (B + t)), (1, .int a0), (2, .int x15), (3, .int x16), (4, .int x8), (5, .int x17)]) hx hb dX8_unlike_45 hl (by decide) rfl (fun ls hl => ?_)
        refine lv_iconst (v := (1 : Int32)) hx hb dX8_unlike_47 (by decide) ?_
        refine lv_istore (lv' := [(7, .int (1 : Int32)), (6, .int (0 : Int32)), (0, .ref (B + t)), (1, .int a0), (2, .int x15), (3, .int x16), (4, .int x8), (5, .int x17)]) hx hb dX8_unlike_48 hl (by decide) rfl (fun ls hl => ?_)
        refine lv_iconst (v := (0 : Int32)) hx hb dX8_unlike_50 (by decide) ?_
        refine lv_istore (lv' := [(8, .int (0 : Int32)), (7, .int (1 : Int32)), (6, .int (0 : Int32)), (0, .ref (B + t)), (1, .int a0), (2, .int x15), (3, .int x16), (4, .int x8), (5, .int x17)]) hx hb dX8_unlike_51 hl (by decide) rfl (fun ls hl => ?_)
        refine wl3_W (P := fun (x23 : Int32) (x24 : Int32) (x25 : Int32) => ∀ (H : Heap) (locs : List Loc) (ls : Array Slot), Hp B D 153 w5 s H locs → lv_has ls 10 [(0, .ref (B + t)), (1, .int a0), (2, .int x15), (3, .int x16), (4, .int x8), (5, .int x17), (6, .int x23), (7, .int x24), (8, .int x25)] → W p l e (rmk 3 81 0 0) s m args below meth c H locs 0 0 (MZ below B D 153 w' (some (.int r)) args s 0 0) (F0 m 53 ls [])) hf (fun x23 x24 x25 k26 ih27 hf  H locs ls hh hl => ?_)  _ _ _ hh (lv_sub hl [3, 4, 5, 6, 7, 8, 2, 1, 0] rfl)
        refine lv_iload hx hb dX8_unlike_53 (lv_at hl 8 rfl) ?_
        refine lv_aload_n hx hb dX8_unlike_55 rfl (lv_at hl 0 rfl) ?_
        refine r_gi X hh ht fk_X8_9 dX8_unlike_56 ?_
        refine lv_icmp_gt (tgt := 146) hx hb dX8_unlike_59 (by decide) (fun hc28 => ?_) (fun hc28 => ?_)
        · have hf := if_t hc28 hf
          refine lv_iload_n hx hb dX8_unlike_146 rfl (lv_at hl 2 rfl) ?_
          refine lv_iload hx hb dX8_unlike_147 (lv_at hl 7 rfl) ?_
          refine mg_W (P := fun (x30 : Int32) => ∀ (ls : Array Slot), lv_has ls 10 [(0, .ref (B + t)), (1, .int a0), (3, .int x16), (4, .int x8), (5, .int x17), (6, .int x23)] → W p l e (rmk 3 81 0 0) s m args below meth c H locs 0 0 (MZ below B D 153 w' (some (.int r)) args s 0 0) (F0 m 157 ls [.int x30, .int x15])) hf (fun x30 hf ls hl => ?_) (fun hj38 => ?_)
          · refine lv_iadd hx hb dX8_unlike_157 ?_
            refine lv_topi (fun x31 e32 => ?_)
            have hf := lt_e e32 hf
            refine lv_istore_n (lv' := [(2, .int x31), (0, .ref (B + t)), (1, .int a0), (3, .int x16), (4, .int x8), (5, .int x17), (6, .int x23)]) hx hb dX8_unlike_158 rfl hl (by decide) rfl (fun ls hl => ?_)
            refine lv_iload hx hb dX8_unlike_159 (lv_at hl 6 rfl) ?_
            refine lv_iload_n hx hb dX8_unlike_161 rfl (lv_at hl 3 rfl) ?_
            refine mg_W (P := fun (x34 : Int32) => ∀ (ls : Array Slot), lv_has ls 10 [(0, .ref (B + t)), (1, .int a0), (2, .int x31), (4, .int x8), (5, .int x17)] → W p l e (rmk 3 81 0 0) s m args below meth c H locs 0 0 (MZ below B D 153 w' (some (.int r)) args s 0 0) (F0 m 171 ls [.int x34])) hf (fun x34 hf ls hl => ?_) (fun hj37 => ?_)
            · refine lv_istore_n (lv' := [(3, .int x34), (0, .ref (B + t)), (1, .int a0), (2, .int x31), (4, .int x8), (5, .int x17)]) hx hb dX8_unlike_171 rfl hl (by decide) rfl (fun ls hl => ?_)
              obtain ⟨x35, e36⟩ : ∃ y : Int32, y = (x17 + (1 : Int32)) := ⟨_, rfl⟩
              have hf := lt_e e36 hf
              refine lv_iinc (v := x35) (lv' := [(5, .int x35), (3, .int x34), (0, .ref (B + t)), (1, .int a0), (2, .int x31), (4, .int x8)]) hx hb dX8_unlike_172 hl (k := 5) rfl (by rw [e36]; rfl) (by decide) rfl (fun ls hl => ?_)
              refine lv_goto (tgt := 35) hx hb dX8_unlike_175 (by decide) ?_
              exact ih19 _ _ _ hf  _ _ _ hh (lv_sub hl [2, 3, 4, 1, 5, 0] rfl)
            · refine lv_icmp_le (tgt := 170) hx hb dX8_unlike_162 (by decide) (fun hc33 => ?_) (fun hc33 => ?_)
              · refine lv_iload_n hx hb dX8_unlike_170 rfl (lv_at hl 3 rfl) ?_
                exact hj37 _ (by rw [if_pos hc33]) ls (lv_sub hl [1, 2, 0, 4, 5] rfl)
              · refine lv_iload hx hb dX8_unlike_165 (lv_at hl 6 rfl) ?_
                refine lv_goto (tgt := 171) hx hb dX8_unlike_167 (by decide) ?_
                exact hj37 _ (by rw [if_neg hc33]) ls (lv_sub hl [1, 2, 0, 4, 5] rfl)
          · refine lv_if_eq (tgt := 156) hx hb dX8_unlike_149 (by decide) (fun hc29 => ?_) (fun hc29 => ?_)
            · refine lv_iconst (v := (0 : Int32)) hx hb dX8_unlike_156 (by decide) ?_
              exact hj38 _ (by rw [if_pos hc29]) ls (lv_sub hl [0, 1, 3, 4, 5, 6] rfl)
            · refine lv_iconst (v := (1 : Int32)) hx hb dX8_unlike_152 (by decide) ?_
              refine lv_goto (tgt := 157) hx hb dX8_unlike_153 (by decide) ?_
              exact hj38 _ (by rw [if_neg hc29]) ls (lv_sub hl [0, 1, 3, 4, 5, 6] rfl)
        · have hf := if_f hc28 hf
          refine lv_iconst (v := (0 : Int32)) hx hb dX8_unlike_62 (by decide) ?_
          refine lv_istore (lv' := [(9, .int (0 : Int32)), (0, .ref (B + t)), (1, .int a0), (2, .int x15), (3, .int x16), (4, .int x8), (5, .int x17), (6, .int x23), (7, .int x24), (8, .int x25)]) hx hb dX8_unlike_63 hl (by decide) rfl (fun ls hl => ?_)
          refine wl3_W (P := fun (x39 : Int32) (x40 : Int32) (x41 : Int32) => ∀ (H : Heap) (locs : List Loc) (ls : Array Slot), Hp B D 153 w5 s H locs → lv_has ls 10 [(0, .ref (B + t)), (1, .int a0), (2, .int x15), (3, .int x16), (4, .int x8), (5, .int x17), (6, .int x39), (7, .int x40), (8, .int x25), (9, .int x41)] → W p l e (rmk 3 81 0 0) s m args below meth c H locs 0 0 (MZ below B D 153 w' (some (.int r)) args s 0 0) (F0 m 65 ls [])) hf (fun x39 x40 x41 k42 ih43 hf  H locs ls hh hl => ?_)  _ _ _ hh (lv_sub hl [1, 2, 3, 4, 5, 6, 7, 8, 9, 0] rfl)
          refine lv_iload hx hb dX8_unlike_65 (lv_at hl 9 rfl) ?_
          refine lv_aload_n hx hb dX8_unlike_67 rfl (lv_at hl 0 rfl) ?_
          refine r_gi X hh ht fk_X8_15 dX8_unlike_68 ?_
          refine lv_icmp_gt (tgt := 140) hx hb dX8_unlike_71 (by decide) (fun hc44 => ?_) (fun hc44 => ?_)
          · have hf := if_t hc44 hf
            obtain ⟨x45, e46⟩ : ∃ y : Int32, y = (x25 + (1 : Int32)) := ⟨_, rfl⟩
            have hf := lt_e e46 hf
            refine lv_iinc (v := x45) (lv' := [(8, .int x45), (0, .ref (B + t)), (1, .int a0), (2, .int x15), (3, .int x16), (4, .int x8), (5, .int x17), (6, .int x39), (7, .int x40), (9, .int x41)]) hx hb dX8_unlike_140 hl (k := 8) rfl (by rw [e46]; rfl) (by decide) rfl (fun ls hl => ?_)
            refine lv_goto (tgt := 53) hx hb dX8_unlike_143 (by decide) ?_
            exact ih27 _ _ _ hf  _ _ _ hh (lv_sub hl [1, 2, 3, 4, 5, 6, 7, 8, 0] rfl)
          · have hf := if_f hc44 hf
            refine lv_aload_n hx hb dX8_unlike_74 rfl (lv_at hl 0 rfl) ?_
            refine lv_iload hx hb dX8_unlike_75 (lv_at hl 8 rfl) ?_
            refine lv_iload hx hb dX8_unlike_77 (lv_at hl 9 rfl) ?_
            obtain ⟨v48, hc47, hf⟩ := c1_e hf
            refine q_S (w' := w5) (rest := [.ref (B + t)]) X hml hh (some (.int v48)) (m_X8_from l B D hc47) cf_X8_from k_835 rfl hl.1 rfl (Nat.le_of_ble_eq_true rfl) ⟨Nat.le_of_ble_eq_true rfl, Nat.le_of_ble_eq_true rfl⟩ ⟨Nat.zero_le _, Nat.zero_le _⟩ dX8_unlike_79 rfl (fun H locs hh => ?_)
            refine lv_iload hx hb dX8_unlike_82 (lv_at hl 4 rfl) ?_
            refine lv_iload hx hb dX8_unlike_84 (lv_at hl 5 rfl) ?_
            obtain ⟨v50, hc49, hf⟩ := c1_e hf
            refine q_S (w' := w5) (rest := [.int v48, .ref (B + t)]) X hml hh (some (.int v50)) (m_X8_from l B D hc49) cf_X8_from k_835 rfl hl.1 rfl (Nat.le_of_ble_eq_true rfl) ⟨Nat.le_of_ble_eq_true rfl, Nat.le_of_ble_eq_true rfl⟩ ⟨Nat.zero_le _, Nat.zero_le _⟩ dX8_unlike_86 rfl (fun H locs hh => ?_)
            obtain ⟨v52, hc51, hf⟩ := c1_e hf
            refine q_V (w' := w5) (rest := []) X hml hh (some (.int v52)) (m_X8_compares l B D ht hc51) cf_X8_compares k_923 ht ci_8 rfl rfl hl.1 rfl (Nat.le_of_ble_eq_true rfl) ⟨Nat.le_of_ble_eq_true rfl, Nat.le_of_ble_eq_true rfl⟩ ⟨Nat.zero_le _, Nat.zero_le _⟩ dX8_unlike_89 rfl (fun H locs hh => ?_)
            refine jn_W (P := fun j56 => ∀ (x54 : Int32) (x55 : Int32), j56 x54 x55 = some (r, w') → ∀ (H : Heap) (locs : List Loc) (ls : Array Slot), Hp B D 153 w5 s H locs → lv_has ls 10 [(0, .ref (B + t)), (1, .int a0), (2, .int x15), (3, .int x16), (4, .int x8), (5, .int x17), (6, .int x54), (7, .int x55), (8, .int x25), (9, .int x41)] → W p l e (rmk 3 81 0 0) s m args below meth c H locs 0 0 (MZ below B D 153 w' (some (.int r)) args s 0 0) (F0 m 134 ls [])) hf (fun x54 x55 hf  H locs ls hh hl => ?_) (fun j56 hj56 hf => ?_)
            · obtain ⟨x57, e58⟩ : ∃ y : Int32, y = (x41 + (1 : Int32)) := ⟨_, rfl⟩
              have hf := lt_e e58 hf
              refine lv_iinc (v := x57) (lv' := [(9, .int x57), (0, .ref (B + t)), (1, .int a0), (2, .int x15), (3, .int x16), (4, .int x8), (5, .int x17), (6, .int x54), (7, .int x55), (8, .int x25)]) hx hb dX8_unlike_134 hl (k := 9) rfl (by rw [e58]; rfl) (by decide) rfl (fun ls hl => ?_)
              refine lv_goto (tgt := 65) hx hb dX8_unlike_137 (by decide) ?_
              exact ih43 _ _ _ hf  _ _ _ hh (lv_sub hl [1, 2, 3, 4, 5, 6, 7, 8, 9, 0] rfl)
            · refine lv_if_eq (tgt := 98) hx hb dX8_unlike_92 (by decide) (fun hc53 => ?_) (fun hc53 => ?_)
              · have hf := if_t hc53 hf
                obtain ⟨x59, e60⟩ : ∃ y : Int32, y = (x39 + (1 : Int32)) := ⟨_, rfl⟩
                have hf := lt_e e60 hf
                refine lv_iinc (v := x59) (lv' := [(6, .int x59), (0, .ref (B + t)), (1, .int a0), (2, .int x15), (3, .int x16), (4, .int x8), (5, .int x17), (7, .int x40), (8, .int x25), (9, .int x41)]) hx hb dX8_unlike_98 hl (k := 6) rfl (by rw [e60]; rfl) (by decide) rfl (fun ls hl => ?_)
                refine lv_iload hx hb dX8_unlike_101 (lv_at hl 7 rfl) ?_
                refine mg_W (P := fun (x65 : Int32) => ∀ (ls : Array Slot), lv_has ls 10 [(0, .ref (B + t)), (1, .int a0), (2, .int x15), (3, .int x16), (4, .int x8), (5, .int x17), (6, .int x59), (8, .int x25), (9, .int x41)] → W p l e (rmk 3 81 0 0) s m args below meth c H locs 0 0 (MZ below B D 153 w' (some (.int r)) args s 0 0) (F0 m 132 ls [.int x65])) hf (fun x65 hf ls hl => ?_) (fun hj66 => ?_)
                · refine lv_istore (lv' := [(7, .int x65), (0, .ref (B + t)), (1, .int a0), (2, .int x15), (3, .int x16), (4, .int x8), (5, .int x17), (6, .int x59), (8, .int x25), (9, .int x41)]) hx hb dX8_unlike_132 hl (by decide) rfl (fun ls hl => ?_)
                  exact hj56 _ _ hf  _ _ _ hh (lv_sub hl [1, 2, 3, 4, 5, 6, 7, 0, 8, 9] rfl)
                · refine lv_if_eq (tgt := 131) hx hb dX8_unlike_103 (by decide) (fun hc61 => ?_) (fun hc61 => ?_)
                  · refine lv_iconst (v := (0 : Int32)) hx hb dX8_unlike_131 (by decide) ?_
                    exact hj66 _ (by rw [if_pos hc61]) ls (lv_sub hl [1, 2, 3, 4, 5, 6, 0, 8, 9] rfl)
                  · refine lv_iload hx hb dX8_unlike_106 (lv_at hl 8 rfl) ?_
                    refine lv_iload hx hb dX8_unlike_108 (lv_at hl 5 rfl) ?_
                    refine lv_icmp_gt (tgt := 127) hx hb dX8_unlike_110 (by decide) (fun hc62 => ?_) (fun hc62 => ?_)
                    · refine lv_iconst (v := (1 : Int32)) hx hb dX8_unlike_127 (by decide) ?_
                      refine lv_goto (tgt := 132) hx hb dX8_unlike_128 (by decide) ?_
                      exact hj66 _ (by rw [if_neg hc61, if_pos hc62]) ls (lv_sub hl [1, 2, 3, 4, 5, 6, 0, 8, 9] rfl)
                    · refine lv_iload hx hb dX8_unlike_113 (lv_at hl 8 rfl) ?_
                      refine lv_iload hx hb dX8_unlike_115 (lv_at hl 5 rfl) ?_
                      refine lv_icmp_ne (tgt := 131) hx hb dX8_unlike_117 (by decide) (fun hc63 => ?_) (fun hc63 => ?_)
                      · refine lv_iconst (v := (0 : Int32)) hx hb dX8_unlike_131 (by decide) ?_
                        exact hj66 _ (by rw [if_neg hc61, if_neg hc62, if_neg hc63]) ls (lv_sub hl [1, 2, 3, 4, 5, 6, 0, 8, 9] rfl)
                      · refine lv_iload hx hb dX8_unlike_120 (lv_at hl 9 rfl) ?_
                        refine lv_iload hx hb dX8_unlike_122 (lv_at hl 6 rfl) ?_
                        refine lv_icmp_lt (tgt := 131) hx hb dX8_unlike_124 (by decide) (fun hc64 => ?_) (fun hc64 => ?_)
                        · refine lv_iconst (v := (0 : Int32)) hx hb dX8_unlike_131 (by decide) ?_
                          exact hj66 _ (by rw [if_neg hc61, if_neg hc62, if_pos hc63, if_pos hc64]) ls (lv_sub hl [1, 2, 3, 4, 5, 6, 0, 8, 9] rfl)
                        · refine lv_iconst (v := (1 : Int32)) hx hb dX8_unlike_127 (by decide) ?_
                          refine lv_goto (tgt := 132) hx hb dX8_unlike_128 (by decide) ?_
                          exact hj66 _ (by rw [if_neg hc61, if_neg hc62, if_pos hc63, if_neg hc64]) ls (lv_sub hl [1, 2, 3, 4, 5, 6, 0, 8, 9] rfl)
              · have hf := if_f hc53 hf
                refine lv_goto (tgt := 134) hx hb dX8_unlike_95 (by decide) ?_
                exact hj56 _ _ hf  _ _ _ hh (lv_sub hl [0, 1, 2, 3, 4, 5, 6, 7, 8, 9] rfl)
  · have hf := if_t hc3 hf
    refine lv_iconst (v := (-1 : Int32)) hx hb dX8_unlike_10 (by decide) ?_
    exact e_i X hr hlk hh (so2_e hf) dX8_unlike_11
set_option maxHeartbeats 4000000 in
set_option maxRecDepth 100000 in
theorem m_X8_feed (l : Launch) (B : Nat) (D : DD) {t : Nat} {a0 : Int32} {a1 : Int32} {w : Wd} {r : Int32} {w' : Wd} (ht : t < 153 ∧ kd t = 8) (hf : f_X8_feed t a0 a1 w = some (r, w')) : Ct l yX8_feed cX8_feed 4 (some .int) 1 25 0 0 B D [.ref (B + t), .int a0, .int a1] 153 w (some (.int r)) 153 w' := by
  refine m_of (by decide) (Nat.le_of_ble_eq_true rfl) (fun p e s m args below meth c X hml hr hlk _ H locs hh ls hl => ?_)
  have hx := X.1
  have hb := X.2.1
  have hl : lv_has ls 4 [(0, .ref (B + t)), (1, .int a0), (2, .int a1)] := hl
  unfold f_X8_feed at hf
  refine lv_iload_n hx hb dX8_feed_0 rfl (lv_at hl 2 rfl) ?_
  refine lv_i2l hx hb dX8_feed_1 rfl ?_
  refine lv_lconst (v := (1 : Int64)) hx hb dX8_feed_2 (by decide) ?_
  refine lv_ldc2 hx hb X.2.2.1 (X.2.2.2.1 _ k_935) dX8_feed_3 ?_
  obtain ⟨v2, hc1, hf⟩ := c1_e hf
  refine q_S (w' := w) (rest := []) X hml hh (some (.int v2)) (m_X8_in l B D hc1) cf_X8_in k_767 rfl hl.1 rfl (Nat.le_of_ble_eq_true rfl) ⟨Nat.le_of_ble_eq_true rfl, Nat.le_of_ble_eq_true rfl⟩ ⟨Nat.zero_le _, Nat.zero_le _⟩ dX8_feed_6 rfl (fun H locs hh => ?_)
  refine lv_if_ne (tgt := 14) hx hb dX8_feed_9 (by decide) (fun hc3 => ?_) (fun hc3 => ?_)
  · have hf := if_f hc3 hf
    refine lv_aload_n hx hb dX8_feed_14 rfl (lv_at hl 0 rfl) ?_
    refine r_gi X hh ht fk_X8_167 dX8_feed_15 ?_
    refine lv_iload_n hx hb dX8_feed_18 rfl (lv_at hl 2 rfl) ?_
    refine lv_iadd hx hb dX8_feed_19 ?_
    refine lv_bipush (v := (60 : Int32)) hx hb dX8_feed_20 (by decide) ?_
    refine lv_icmp_le (tgt := 28) hx hb dX8_feed_22 (by decide) (fun hc4 => ?_) (fun hc4 => ?_)
    · have hf := if_t hc4 hf
      refine lv_iload_n hx hb dX8_feed_28 rfl (lv_at hl 2 rfl) ?_
      refine lv_iconst (v := (1 : Int32)) hx hb dX8_feed_29 (by decide) ?_
      refine lv_isub hx hb dX8_feed_30 ?_
      refine lv_topi (fun x5 e6 => ?_)
      have hf := lt_e e6 hf
      refine lv_istore_n (lv' := [(3, .int x5), (0, .ref (B + t)), (1, .int a0), (2, .int a1)]) hx hb dX8_feed_31 rfl hl (by decide) rfl (fun ls hl => ?_)
      refine wl2_W (P := fun (x7 : Int32) (w8 : Wd) => ∀ (H : Heap) (locs : List Loc) (ls : Array Slot), Hp B D 153 w8 s H locs → lv_has ls 4 [(0, .ref (B + t)), (1, .int a0), (3, .int x7)] → W p l e (rmk 1 25 0 0) s m args below meth c H locs 0 0 (MZ below B D 153 w' (some (.int r)) args s 0 0) (F0 m 32 ls [])) hf (fun x7 w8 k9 ih10 hf  H locs ls hh hl => ?_)  _ _ _ hh (lv_sub hl [1, 2, 0] rfl)
      refine lv_iload_n hx hb dX8_feed_32 rfl (lv_at hl 2 rfl) ?_
      refine lv_if_lt (tgt := 71) hx hb dX8_feed_33 (by decide) (fun hc11 => ?_) (fun hc11 => ?_)
      · have hf := if_t hc11 hf
        refine lv_aload_n hx hb dX8_feed_71 rfl (lv_at hl 0 rfl) ?_
        refine r_gi X hh ht fk_X8_167 dX8_feed_72 ?_
        exact e_i X hr hlk hh (so2_e hf) dX8_feed_75
      · have hf := if_f hc11 hf
        refine lv_aload_n hx hb dX8_feed_36 rfl (lv_at hl 0 rfl) ?_
        refine q_gr (P := 9) X hh ht fk_X8_43 dX8_feed_37 hf (fun t12 h13 hf => ?_)
        refine lv_aload_n hx hb dX8_feed_40 rfl (lv_at hl 0 rfl) ?_
        refine r_gi X hh ht fk_X8_167 dX8_feed_41 ?_
        refine lv_iload_n hx hb dX8_feed_44 rfl (lv_at hl 1 rfl) ?_
        refine lv_bipush (v := (8 : Int32)) hx hb dX8_feed_45 (by decide) ?_
        refine lv_iload_n hx hb dX8_feed_47 rfl (lv_at hl 2 rfl) ?_
        refine lv_imul hx hb dX8_feed_48 ?_
        refine lv_iushr hx hb dX8_feed_49 rfl ?_
        refine lv_sipush (v := (255 : Int32)) hx hb dX8_feed_50 (by decide) ?_
        refine lv_iand hx hb dX8_feed_53 ?_
        refine q_ast X hh h13 dX8_feed_54 hf (fun w15 H locs hf hh => ?_)
        refine lv_aload_n hx hb dX8_feed_55 rfl (lv_at hl 0 rfl) ?_
        refine lv_dup hx hb dX8_feed_56 rfl ?_
        refine r_gi X hh ht fk_X8_167 dX8_feed_57 ?_
        refine lv_iconst (v := (1 : Int32)) hx hb dX8_feed_60 (by decide) ?_
        refine lv_iadd hx hb dX8_feed_61 ?_
        refine q_pi X hh ht fk_X8_167 pk_8_14 rfl rfl dX8_feed_62 hf (fun w16 H locs hf hh => ?_)
        obtain ⟨x17, e18⟩ : ∃ y : Int32, y = (x7 + (-1 : Int32)) := ⟨_, rfl⟩
        have hf := lt_e e18 hf
        refine lv_iinc (v := x17) (lv' := [(3, .int x17), (0, .ref (B + t)), (1, .int a0)]) hx hb dX8_feed_65 hl (k := 2) rfl (by rw [e18]; rfl) (by decide) rfl (fun ls hl => ?_)
        refine lv_goto (tgt := 32) hx hb dX8_feed_68 (by decide) ?_
        exact ih10 _ _ hf  _ _ _ hh (lv_sub hl [1, 2, 0] rfl)
    · have hf := if_f hc4 hf
      refine lv_bipush (v := (-3 : Int32)) hx hb dX8_feed_25 (by decide) ?_
      exact e_i X hr hlk hh (so2_e hf) dX8_feed_27
  · have hf := if_t hc3 hf
    refine lv_iconst (v := (-1 : Int32)) hx hb dX8_feed_12 (by decide) ?_
    exact e_i X hr hlk hh (so2_e hf) dX8_feed_13
set_option maxHeartbeats 4000000 in
set_option maxRecDepth 100000 in
theorem m_X8_wipe (l : Launch) (B : Nat) (D : DD) {t : Nat} {w : Wd} {r : Int32} {w' : Wd} (ht : t < 153 ∧ kd t = 8) (hf : f_X8_wipe t w = some (r, w')) : Ct l yX8_wipe cX8_wipe 2 (some .int) 0 0 0 0 B D [.ref (B + t)] 153 w (some (.int r)) 153 w' := by
  refine m_of (by decide) (Nat.le_of_ble_eq_true rfl) (fun p e s m args below meth c X hml hr hlk _ H locs hh ls hl => ?_)
  have hx := X.1
  have hb := X.2.1
  have hl : lv_has ls 2 [(0, .ref (B + t))] := hl
  unfold f_X8_wipe at hf
  refine lv_aload_n hx hb dX8_wipe_0 rfl (lv_at hl 0 rfl) ?_
  refine r_gi X hh ht fk_X8_167 dX8_wipe_1 ?_
  refine lv_topi (fun x1 e2 => ?_)
  have hf := lt_e e2 hf
  refine lv_istore_n (lv' := [(1, .int x1), (0, .ref (B + t))]) hx hb dX8_wipe_4 rfl hl (by decide) rfl (fun ls hl => ?_)
  refine lv_aload_n hx hb dX8_wipe_5 rfl (lv_at hl 1 rfl) ?_
  refine lv_iconst (v := (0 : Int32)) hx hb dX8_wipe_6 (by decide) ?_
  refine q_pi X hh ht fk_X8_167 pk_8_14 rfl rfl dX8_wipe_7 hf (fun w3 H locs hf hh => ?_)
  refine lv_iload_n hx hb dX8_wipe_10 rfl (lv_at hl 0 rfl) ?_
  exact e_i X hr hlk hh (so2_e hf) dX8_wipe_11
set_option maxHeartbeats 4000000 in
set_option maxRecDepth 100000 in
theorem m_X8_isRight (l : Launch) (B : Nat) (D : DD) {t : Nat} {a0 : Int32} {w : Wd} {r : Int32} (ht : t < 153 ∧ kd t = 8) (hf : f_X8_isRight t a0 w = some r) : Ct l yX8_isRight cX8_isRight 5 (some .boolean) 1 25 0 0 B D [.ref (B + t), .int a0] 153 w (some (.int r)) 153 w := by
  refine m_of (by decide) (Nat.le_of_ble_eq_true rfl) (fun p e s m args below meth c X hml hr hlk _ H locs hh ls hl => ?_)
  have hx := X.1
  have hb := X.2.1
  have hl : lv_has ls 5 [(0, .ref (B + t)), (1, .int a0)] := hl
  unfold f_X8_isRight at hf
  refine lv_aload_n hx hb dX8_isRight_0 rfl (lv_at hl 0 rfl) ?_
  refine q_gr (P := 9) X hh ht fk_X8_43 dX8_isRight_1 hf (fun t1 h2 hf => ?_)
  refine lv_iload_n hx hb dX8_isRight_4 rfl (lv_at hl 1 rfl) ?_
  refine q_ald X hh h2 dX8_isRight_5 hf (fun hf => ?_)
  refine lv_topi (fun x4 e5 => ?_)
  have hf := lt_e e5 hf
  refine lv_istore_n (lv' := [(2, .int x4), (0, .ref (B + t)), (1, .int a0)]) hx hb dX8_isRight_6 rfl hl (by decide) rfl (fun ls hl => ?_)
  refine lv_iload_n hx hb dX8_isRight_7 rfl (lv_at hl 2 rfl) ?_
  refine lv_iconst (v := (2 : Int32)) hx hb dX8_isRight_8 (by decide) ?_
  refine lv_icmp_ge (tgt := 24) hx hb dX8_isRight_9 (by decide) (fun hc6 => ?_) (fun hc6 => ?_)
  · have hf := if_t hc6 hf
    refine lv_aload_n hx hb dX8_isRight_24 rfl (lv_at hl 1 rfl) ?_
    refine q_gr (P := 9) X hh ht fk_X8_43 dX8_isRight_25 hf (fun t7 h8 hf => ?_)
    refine lv_iconst (v := (0 : Int32)) hx hb dX8_isRight_28 (by decide) ?_
    refine q_ald X hh h8 dX8_isRight_29 hf (fun hf => ?_)
    refine lv_bipush (v := (48 : Int32)) hx hb dX8_isRight_30 (by decide) ?_
    refine lv_isub hx hb dX8_isRight_32 ?_
    refine lv_topi (fun x10 e11 => ?_)
    have hf := lt_e e11 hf
    refine lv_istore_n (lv' := [(3, .int x10), (2, .int x4), (0, .ref (B + t)), (1, .int a0)]) hx hb dX8_isRight_33 rfl hl (by decide) rfl (fun ls hl => ?_)
    refine lv_aload_n hx hb dX8_isRight_34 rfl (lv_at hl 2 rfl) ?_
    refine q_gr (P := 9) X hh ht fk_X8_43 dX8_isRight_35 hf (fun t12 h13 hf => ?_)
    refine lv_iconst (v := (1 : Int32)) hx hb dX8_isRight_38 (by decide) ?_
    refine q_ald X hh h13 dX8_isRight_39 hf (fun hf => ?_)
    refine lv_bipush (v := (48 : Int32)) hx hb dX8_isRight_40 (by decide) ?_
    refine lv_isub hx hb dX8_isRight_42 ?_
    refine lv_topi (fun x15 e16 => ?_)
    have hf := lt_e e16 hf
    refine lv_istore (lv' := [(4, .int x15), (3, .int x10), (2, .int x4), (0, .ref (B + t)), (1, .int a0)]) hx hb dX8_isRight_43 hl (by decide) rfl (fun ls hl => ?_)
    refine lv_iload_n hx hb dX8_isRight_45 rfl (lv_at hl 4 rfl) ?_
    refine lv_iconst (v := (2 : Int32)) hx hb dX8_isRight_46 (by decide) ?_
    refine lv_iload hx hb dX8_isRight_47 (lv_at hl 0 rfl) ?_
    refine lv_iload_n hx hb dX8_isRight_49 rfl (lv_at hl 1 rfl) ?_
    refine lv_iconst (v := (1 : Int32)) hx hb dX8_isRight_50 (by decide) ?_
    refine lv_iadd hx hb dX8_isRight_51 ?_
    refine lv_imul hx hb dX8_isRight_52 ?_
    refine lv_iadd hx hb dX8_isRight_53 ?_
    refine lv_icmp_lt (tgt := 59) hx hb dX8_isRight_54 (by decide) (fun hc17 => ?_) (fun hc17 => ?_)
    · have hf := if_t hc17 hf
      refine lv_iload_n hx hb dX8_isRight_59 rfl (lv_at hl 4 rfl) ?_
      refine lv_iconst (v := (2 : Int32)) hx hb dX8_isRight_60 (by decide) ?_
      refine lv_isub hx hb dX8_isRight_61 ?_
      refine lv_iload_n hx hb dX8_isRight_62 rfl (lv_at hl 1 rfl) ?_
      refine lv_iconst (v := (1 : Int32)) hx hb dX8_isRight_63 (by decide) ?_
      refine lv_iadd hx hb dX8_isRight_64 ?_
      have hz := nz_e hf
      have hf := hz.2
      refine lv_irem hx hb dX8_isRight_65 hz.1 ?_
      refine lv_if_ne (tgt := 83) hx hb dX8_isRight_66 (by decide) (fun hc18 => ?_) (fun hc18 => ?_)
      · have hf := if_f hc18 hf
        refine lv_iload_n hx hb dX8_isRight_83 rfl (lv_at hl 2 rfl) ?_
        refine lv_i2l hx hb dX8_isRight_84 rfl ?_
        refine lv_ldc2 hx hb X.2.2.1 (X.2.2.2.1 _ k_950) dX8_isRight_85 ?_
        refine lv_ldc2 hx hb X.2.2.1 (X.2.2.2.1 _ k_951) dX8_isRight_88 ?_
        obtain ⟨v20, hc19, hf⟩ := c1_e hf
        refine q_S (w' := w) (rest := []) X hml hh (some (.int v20)) (m_X8_in l B D hc19) cf_X8_in k_767 rfl hl.1 rfl (Nat.le_of_ble_eq_true rfl) ⟨Nat.le_of_ble_eq_true rfl, Nat.le_of_ble_eq_true rfl⟩ ⟨Nat.zero_le _, Nat.zero_le _⟩ dX8_isRight_91 rfl (fun H locs hh => ?_)
        have hz := zb_e hf
        have hf := hz.2
        exact e_z X hr hlk hh hz.1 ⟨so_e hf, rfl⟩ dX8_isRight_94
      · have hf := if_t hc18 hf
        refine lv_iload_n hx hb dX8_isRight_69 rfl (lv_at hl 2 rfl) ?_
        refine lv_bipush (v := (59 : Int32)) hx hb dX8_isRight_70 (by decide) ?_
        refine lv_icmp_ne (tgt := 79) hx hb dX8_isRight_72 (by decide) (fun hc21 => ?_) (fun hc21 => ?_)
        · have hf := if_f hc21 hf
          refine lv_iconst (v := (0 : Int32)) hx hb dX8_isRight_79 (by decide) ?_
          refine lv_goto (tgt := 94) hx hb dX8_isRight_80 (by decide) ?_
          exact e_z X hr hlk hh (Or.inl rfl) ⟨so_e hf, rfl⟩ dX8_isRight_94
        · have hf := if_t hc21 hf
          refine lv_iconst (v := (1 : Int32)) hx hb dX8_isRight_75 (by decide) ?_
          refine lv_goto (tgt := 94) hx hb dX8_isRight_76 (by decide) ?_
          exact e_z X hr hlk hh (Or.inr rfl) ⟨so_e hf, rfl⟩ dX8_isRight_94
    · have hf := if_f hc17 hf
      refine lv_iconst (v := (0 : Int32)) hx hb dX8_isRight_57 (by decide) ?_
      exact e_z X hr hlk hh (Or.inl rfl) ⟨so_e hf, rfl⟩ dX8_isRight_58
  · have hf := if_f hc6 hf
    refine lv_iload_n hx hb dX8_isRight_12 rfl (lv_at hl 0 rfl) ?_
    refine lv_i2l hx hb dX8_isRight_13 rfl ?_
    refine lv_ldc2 hx hb X.2.2.1 (X.2.2.2.1 _ k_948) dX8_isRight_14 ?_
    refine lv_ldc2 hx hb X.2.2.1 (X.2.2.2.1 _ k_949) dX8_isRight_17 ?_
    obtain ⟨v23, hc22, hf⟩ := c1_e hf
    refine q_S (w' := w) (rest := []) X hml hh (some (.int v23)) (m_X8_in l B D hc22) cf_X8_in k_767 rfl hl.1 rfl (Nat.le_of_ble_eq_true rfl) ⟨Nat.le_of_ble_eq_true rfl, Nat.le_of_ble_eq_true rfl⟩ ⟨Nat.zero_le _, Nat.zero_le _⟩ dX8_isRight_20 rfl (fun H locs hh => ?_)
    have hz := zb_e hf
    have hf := hz.2
    exact e_z X hr hlk hh hz.1 ⟨so_e hf, rfl⟩ dX8_isRight_23
set_option maxHeartbeats 4000000 in
set_option maxRecDepth 100000 in
theorem m_X8_read (l : Launch) (B : Nat) (D : DD) {t : Nat} {w : Wd} {r : Int32} {w' : Wd} (ht : t < 153 ∧ kd t = 8) (hf : f_X8_read t w = some (r, w')) : Ct l yX8_read cX8_read 5 (some .int) 2 49 0 0 B D [.ref (B + t)] 153 w (some (.int r)) 153 w' := by
  refine m_of (by decide) (Nat.le_of_ble_eq_true rfl) (fun p e s m args below meth c X hml hr hlk _ H locs hh ls hl => ?_)
  have hx := X.1
  have hb := X.2.1
  have hl : lv_has ls 5 [(0, .ref (B + t))] := hl
  unfold f_X8_read at hf
  refine lv_aload_n hx hb dX8_read_0 rfl (lv_at hl 0 rfl) ?_
  refine r_gi X hh ht fk_X8_167 dX8_read_1 ?_
  refine lv_topi (fun x1 e2 => ?_)
  have hf := lt_e e2 hf
  refine lv_istore_n (lv' := [(1, .int x1), (0, .ref (B + t))]) hx hb dX8_read_4 rfl hl (by decide) rfl (fun ls hl => ?_)
  refine lv_aload_n hx hb dX8_read_5 rfl (lv_at hl 1 rfl) ?_
  refine lv_iconst (v := (0 : Int32)) hx hb dX8_read_6 (by decide) ?_
  refine q_pi X hh ht fk_X8_167 pk_8_14 rfl rfl dX8_read_7 hf (fun w3 H locs hf hh => ?_)
  refine lv_iconst (v := (0 : Int32)) hx hb dX8_read_10 (by decide) ?_
  refine lv_istore_n (lv' := [(2, .int (0 : Int32)), (1, .int x1), (0, .ref (B + t))]) hx hb dX8_read_11 rfl hl (by decide) rfl (fun ls hl => ?_)
  refine wl1_W (P := fun (x4 : Int32) => ∀ (H : Heap) (locs : List Loc) (ls : Array Slot), Hp B D 153 w3 s H locs → lv_has ls 5 [(0, .ref (B + t)), (1, .int x1), (2, .int x4)] → W p l e (rmk 2 49 0 0) s m args below meth c H locs 0 0 (MZ below B D 153 w' (some (.int r)) args s 0 0) (F0 m 12 ls [])) hf (fun x4 k5 ih6 hf  H locs ls hh hl => ?_)  _ _ _ hh (lv_sub hl [2, 1, 0] rfl)
  refine lv_iload_n hx hb dX8_read_12 rfl (lv_at hl 2 rfl) ?_
  refine lv_iload_n hx hb dX8_read_13 rfl (lv_at hl 1 rfl) ?_
  refine jn_W (P := fun j8 => j8 = some (r, w') → ∀ (H : Heap) (locs : List Loc) (ls : Array Slot), Hp B D 153 w3 s H locs → lv_has ls 5 [(0, .ref (B + t)), (1, .int x1), (2, .int x4)] → W p l e (rmk 2 49 0 0) s m args below meth c H locs 0 0 (MZ below B D 153 w' (some (.int r)) args s 0 0) (F0 m 31 ls [])) hf (fun  hf  H locs ls hh hl => ?_) (fun j8 hj8 hf => ?_)
  · refine lv_iload_n hx hb dX8_read_31 rfl (lv_at hl 2 rfl) ?_
    refine lv_iload_n hx hb dX8_read_32 rfl (lv_at hl 1 rfl) ?_
    refine jn_W (P := fun j10 => j10 = some (r, w') → ∀ (H : Heap) (locs : List Loc) (ls : Array Slot), Hp B D 153 w3 s H locs → lv_has ls 5 [(2, .int x4)] → W p l e (rmk 2 49 0 0) s m args below meth c H locs 0 0 (MZ below B D 153 w' (some (.int r)) args s 0 0) (F0 m 68 ls [])) hf (fun  hf  H locs ls hh hl => ?_) (fun j10 hj10 hf => ?_)
    · refine lv_sipush (v := (-1000 : Int32)) hx hb dX8_read_68 (by decide) ?_
      refine lv_iload_n hx hb dX8_read_71 rfl (lv_at hl 0 rfl) ?_
      refine lv_isub hx hb dX8_read_72 ?_
      exact e_i X hr hlk hh (so2_e hf) dX8_read_73
    · refine lv_icmp_lt (tgt := 68) hx hb dX8_read_33 (by decide) (fun hc9 => ?_) (fun hc9 => ?_)
      · have hf := if_t hc9 hf
        exact hj10  hf  _ _ _ hh (lv_sub hl [2] rfl)
      · have hf := if_f hc9 hf
        refine lv_iload_n hx hb dX8_read_36 rfl (lv_at hl 1 rfl) ?_
        refine lv_iconst (v := (2 : Int32)) hx hb dX8_read_37 (by decide) ?_
        refine lv_icmp_lt (tgt := 68) hx hb dX8_read_38 (by decide) (fun hc11 => ?_) (fun hc11 => ?_)
        · have hf := if_t hc11 hf
          exact hj10  hf  _ _ _ hh (lv_sub hl [2] rfl)
        · have hf := if_f hc11 hf
          refine lv_iload_n hx hb dX8_read_41 rfl (lv_at hl 1 rfl) ?_
          refine lv_iconst (v := (2 : Int32)) hx hb dX8_read_42 (by decide) ?_
          refine lv_aload_n hx hb dX8_read_43 rfl (lv_at hl 0 rfl) ?_
          refine q_gr (P := 9) X hh ht fk_X8_43 dX8_read_44 hf (fun t12 h13 hf => ?_)
          refine lv_iconst (v := (1 : Int32)) hx hb dX8_read_47 (by decide) ?_
          refine q_ald X hh h13 dX8_read_48 hf (fun hf => ?_)
          refine lv_bipush (v := (48 : Int32)) hx hb dX8_read_49 (by decide) ?_
          refine lv_isub hx hb dX8_read_51 ?_
          refine lv_aload_n hx hb dX8_read_52 rfl (lv_at hl 0 rfl) ?_
          refine q_gr (P := 9) X hh ht fk_X8_43 dX8_read_53 hf (fun t15 h16 hf => ?_)
          refine lv_iconst (v := (0 : Int32)) hx hb dX8_read_56 (by decide) ?_
          refine q_ald X hh h16 dX8_read_57 hf (fun hf => ?_)
          refine lv_bipush (v := (48 : Int32)) hx hb dX8_read_58 (by decide) ?_
          refine lv_isub hx hb dX8_read_60 ?_
          refine lv_iconst (v := (1 : Int32)) hx hb dX8_read_61 (by decide) ?_
          refine lv_iadd hx hb dX8_read_62 ?_
          refine lv_imul hx hb dX8_read_63 ?_
          refine lv_iadd hx hb dX8_read_64 ?_
          refine lv_icmp_ge (tgt := 74) hx hb dX8_read_65 (by decide) (fun hc18 => ?_) (fun hc18 => ?_)
          · have hf := if_t hc18 hf
            refine lv_aload_n hx hb dX8_read_74 rfl (lv_at hl 0 rfl) ?_
            obtain ⟨w20, hc19, hf⟩ := c1_e hf
            refine q_V (w' := w20) (rest := []) X hml hh none (m_X8_does l B D ht hc19) cf_X8_does k_770 ht ci_8 rfl rfl hl.1 rfl (Nat.le_of_ble_eq_true rfl) ⟨Nat.le_of_ble_eq_true rfl, Nat.le_of_ble_eq_true rfl⟩ ⟨Nat.zero_le _, Nat.zero_le _⟩ dX8_read_75 rfl (fun H locs hh => ?_)
            refine lv_aload_n hx hb dX8_read_78 rfl (lv_at hl 0 rfl) ?_
            refine lv_aload_n hx hb dX8_read_79 rfl (lv_at hl 0 rfl) ?_
            refine q_gr (P := 9) X hh ht fk_X8_43 dX8_read_80 hf (fun t21 h22 hf => ?_)
            refine lv_iconst (v := (0 : Int32)) hx hb dX8_read_83 (by decide) ?_
            refine q_ald X hh h22 dX8_read_84 hf (fun hf => ?_)
            refine lv_bipush (v := (48 : Int32)) hx hb dX8_read_85 (by decide) ?_
            refine lv_isub hx hb dX8_read_87 ?_
            refine q_pi X hh ht fk_X8_9 pk_8_0 rfl rfl dX8_read_88 hf (fun w24 H locs hf hh => ?_)
            refine lv_aload_n hx hb dX8_read_91 rfl (lv_at hl 0 rfl) ?_
            refine lv_aload_n hx hb dX8_read_92 rfl (lv_at hl 0 rfl) ?_
            refine q_gr (P := 9) X hh ht fk_X8_43 dX8_read_93 hf (fun t25 h26 hf => ?_)
            refine lv_iconst (v := (1 : Int32)) hx hb dX8_read_96 (by decide) ?_
            refine q_ald X hh h26 dX8_read_97 hf (fun hf => ?_)
            refine lv_bipush (v := (48 : Int32)) hx hb dX8_read_98 (by decide) ?_
            refine lv_isub hx hb dX8_read_100 ?_
            refine q_pi X hh ht fk_X8_15 pk_8_1 rfl rfl dX8_read_101 hf (fun w28 H locs hf hh => ?_)
            refine lv_aload_n hx hb dX8_read_104 rfl (lv_at hl 0 rfl) ?_
            obtain ⟨w30, hc29, hf⟩ := c1_e hf
            refine q_V (w' := w30) (rest := []) X hml hh none (m_X8_empties l B D ht hc29) cf_X8_empties k_774 ht ci_8 rfl rfl hl.1 rfl (Nat.le_of_ble_eq_true rfl) ⟨Nat.le_of_ble_eq_true rfl, Nat.le_of_ble_eq_true rfl⟩ ⟨Nat.zero_le _, Nat.zero_le _⟩ dX8_read_105 rfl (fun H locs hh => ?_)
            refine lv_aload_n hx hb dX8_read_108 rfl (lv_at hl 0 rfl) ?_
            refine r_gi X hh ht fk_X8_15 dX8_read_109 ?_
            refine lv_topi (fun x31 e32 => ?_)
            have hf := lt_e e32 hf
            refine lv_istore_n (lv' := [(3, .int x31), (0, .ref (B + t)), (1, .int x1), (2, .int x4)]) hx hb dX8_read_112 rfl hl (by decide) rfl (fun ls hl => ?_)
            refine wl2_W (P := fun (x33 : Int32) (w34 : Wd) => ∀ (H : Heap) (locs : List Loc) (ls : Array Slot), Hp B D 153 w34 s H locs → lv_has ls 5 [(0, .ref (B + t)), (3, .int x33)] → W p l e (rmk 2 49 0 0) s m args below meth c H locs 0 0 (MZ below B D 153 w' (some (.int r)) args s 0 0) (F0 m 113 ls [])) hf (fun x33 w34 k35 ih36 hf  H locs ls hh hl => ?_)  _ _ _ hh (lv_sub hl [1, 0] rfl)
            refine lv_iload_n hx hb dX8_read_113 rfl (lv_at hl 1 rfl) ?_
            refine lv_if_le (tgt := 178) hx hb dX8_read_114 (by decide) (fun hc37 => ?_) (fun hc37 => ?_)
            · have hf := if_t hc37 hf
              refine lv_aload_n hx hb dX8_read_178 rfl (lv_at hl 0 rfl) ?_
              obtain ⟨v39, hc38, hf⟩ := c1_e hf
              refine q_V (w' := w34) (rest := []) X hml hh (some (.int v39)) (m_X8_filled l B D ht hc38) cf_X8_filled k_805 ht ci_8 rfl rfl hl.1 rfl (Nat.le_of_ble_eq_true rfl) ⟨Nat.le_of_ble_eq_true rfl, Nat.le_of_ble_eq_true rfl⟩ ⟨Nat.zero_le _, Nat.zero_le _⟩ dX8_read_179 rfl (fun H locs hh => ?_)
              exact e_i X hr hlk hh (so2_e hf) dX8_read_182
            · have hf := if_f hc37 hf
              refine lv_iconst (v := (1 : Int32)) hx hb dX8_read_117 (by decide) ?_
              refine lv_istore (lv' := [(4, .int (1 : Int32)), (0, .ref (B + t)), (3, .int x33)]) hx hb dX8_read_118 hl (by decide) rfl (fun ls hl => ?_)
              refine wl2_W (P := fun (x40 : Int32) (w41 : Wd) => ∀ (H : Heap) (locs : List Loc) (ls : Array Slot), Hp B D 153 w41 s H locs → lv_has ls 5 [(0, .ref (B + t)), (3, .int x33), (4, .int x40)] → W p l e (rmk 2 49 0 0) s m args below meth c H locs 0 0 (MZ below B D 153 w' (some (.int r)) args s 0 0) (F0 m 120 ls [])) hf (fun x40 w41 k42 ih43 hf  H locs ls hh hl => ?_)  _ _ _ hh (lv_sub hl [1, 2, 0] rfl)
              refine lv_iload hx hb dX8_read_120 (lv_at hl 2 rfl) ?_
              refine lv_aload_n hx hb dX8_read_122 rfl (lv_at hl 0 rfl) ?_
              refine r_gi X hh ht fk_X8_9 dX8_read_123 ?_
              refine lv_icmp_gt (tgt := 172) hx hb dX8_read_126 (by decide) (fun hc44 => ?_) (fun hc44 => ?_)
              · have hf := if_t hc44 hf
                obtain ⟨x45, e46⟩ : ∃ y : Int32, y = (x33 + (-1 : Int32)) := ⟨_, rfl⟩
                have hf := lt_e e46 hf
                refine lv_iinc (v := x45) (lv' := [(3, .int x45), (0, .ref (B + t)), (4, .int x40)]) hx hb dX8_read_172 hl (k := 1) rfl (by rw [e46]; rfl) (by decide) rfl (fun ls hl => ?_)
                refine lv_goto (tgt := 113) hx hb dX8_read_175 (by decide) ?_
                exact ih36 _ _ hf  _ _ _ hh (lv_sub hl [1, 0] rfl)
              · have hf := if_f hc44 hf
                refine lv_aload_n hx hb dX8_read_129 rfl (lv_at hl 0 rfl) ?_
                refine q_gr (P := 9) X hh ht fk_X8_18 dX8_read_130 hf (fun t47 h48 hf => ?_)
                refine lv_iload hx hb dX8_read_133 (lv_at hl 2 rfl) ?_
                refine lv_iload_n hx hb dX8_read_135 rfl (lv_at hl 1 rfl) ?_
                obtain ⟨v50, hc49, hf⟩ := c1_e hf
                refine q_S (w' := w41) (rest := [.ref (B + t47)]) X hml hh (some (.int v50)) (m_X8_at l B D hc49) cf_X8_at k_787 rfl hl.1 rfl (Nat.le_of_ble_eq_true rfl) ⟨Nat.le_of_ble_eq_true rfl, Nat.le_of_ble_eq_true rfl⟩ ⟨Nat.zero_le _, Nat.zero_le _⟩ dX8_read_136 rfl (fun H locs hh => ?_)
                refine lv_aload_n hx hb dX8_read_139 rfl (lv_at hl 0 rfl) ?_
                refine q_gr (P := 9) X hh ht fk_X8_43 dX8_read_140 hf (fun t51 h52 hf => ?_)
                refine lv_iconst (v := (2 : Int32)) hx hb dX8_read_143 (by decide) ?_
                refine lv_aload_n hx hb dX8_read_144 rfl (lv_at hl 0 rfl) ?_
                refine r_gi X hh ht fk_X8_15 dX8_read_145 ?_
                refine lv_iload_n hx hb dX8_read_148 rfl (lv_at hl 1 rfl) ?_
                refine lv_isub hx hb dX8_read_149 ?_
                refine lv_aload_n hx hb dX8_read_150 rfl (lv_at hl 0 rfl) ?_
                refine r_gi X hh ht fk_X8_9 dX8_read_151 ?_
                refine lv_iconst (v := (1 : Int32)) hx hb dX8_read_154 (by decide) ?_
                refine lv_iadd hx hb dX8_read_155 ?_
                refine lv_imul hx hb dX8_read_156 ?_
                refine lv_iadd hx hb dX8_read_157 ?_
                refine lv_iload hx hb dX8_read_158 (lv_at hl 2 rfl) ?_
                refine lv_iadd hx hb dX8_read_160 ?_
                refine q_ald X hh h52 dX8_read_161 hf (fun hf => ?_)
                refine lv_bipush (v := (48 : Int32)) hx hb dX8_read_162 (by decide) ?_
                refine lv_isub hx hb dX8_read_164 ?_
                refine q_ast X hh h48 dX8_read_165 hf (fun w55 H locs hf hh => ?_)
                obtain ⟨x56, e57⟩ : ∃ y : Int32, y = (x40 + (1 : Int32)) := ⟨_, rfl⟩
                have hf := lt_e e57 hf
                refine lv_iinc (v := x56) (lv' := [(4, .int x56), (0, .ref (B + t)), (3, .int x33)]) hx hb dX8_read_166 hl (k := 2) rfl (by rw [e57]; rfl) (by decide) rfl (fun ls hl => ?_)
                refine lv_goto (tgt := 120) hx hb dX8_read_169 (by decide) ?_
                exact ih43 _ _ hf  _ _ _ hh (lv_sub hl [1, 2, 0] rfl)
          · have hf := if_f hc18 hf
            exact hj10  hf  _ _ _ hh (lv_sub hl [2] rfl)
  · refine lv_icmp_ge (tgt := 31) hx hb dX8_read_14 (by decide) (fun hc7 => ?_) (fun hc7 => ?_)
    · have hf := if_t hc7 hf
      exact hj8  hf  _ _ _ hh (lv_sub hl [0, 1, 2] rfl)
    · have hf := if_f hc7 hf
      refine lv_aload_n hx hb dX8_read_17 rfl (lv_at hl 0 rfl) ?_
      refine lv_iload_n hx hb dX8_read_18 rfl (lv_at hl 2 rfl) ?_
      obtain ⟨v59, hc58, hf⟩ := c1_e hf
      refine q_V (w' := w3) (rest := []) X hml hh (some (.int v59)) (m_X8_isRight l B D ht hc58) cf_X8_isRight k_944 ht ci_8 rfl rfl hl.1 rfl (Nat.le_of_ble_eq_true rfl) ⟨Nat.le_of_ble_eq_true rfl, Nat.le_of_ble_eq_true rfl⟩ ⟨Nat.zero_le _, Nat.zero_le _⟩ dX8_read_19 rfl (fun H locs hh => ?_)
      refine lv_if_eq (tgt := 31) hx hb dX8_read_22 (by decide) (fun hc60 => ?_) (fun hc60 => ?_)
      · have hf := if_t hc60 hf
        exact hj8  hf  _ _ _ hh (lv_sub hl [0, 1, 2] rfl)
      · have hf := if_f hc60 hf
        obtain ⟨x61, e62⟩ : ∃ y : Int32, y = (x4 + (1 : Int32)) := ⟨_, rfl⟩
        have hf := lt_e e62 hf
        refine lv_iinc (v := x61) (lv' := [(2, .int x61), (0, .ref (B + t)), (1, .int x1)]) hx hb dX8_read_25 hl (k := 2) rfl (by rw [e62]; rfl) (by decide) rfl (fun ls hl => ?_)
        refine lv_goto (tgt := 12) hx hb dX8_read_28 (by decide) ?_
        exact ih6 _ hf  _ _ _ hh (lv_sub hl [1, 2, 0] rfl)
set_option maxHeartbeats 4000000 in
set_option maxRecDepth 100000 in
theorem m_X8_isHolder (l : Launch) (B : Nat) (D : DD) {a0 : Int32} {w : Wd} {r : Int32} (hf : f_X8_isHolder a0 = some r) : Ct l yX8_isHolder cX8_isHolder 1 (some .boolean) 1 25 0 0 B D [.int a0] 153 w (some (.int r)) 153 w := by
  refine m_of (by decide) (Nat.le_of_ble_eq_true rfl) (fun p e s m args below meth c X hml hr hlk _ H locs hh ls hl => ?_)
  have hx := X.1
  have hb := X.2.1
  have hl : lv_has ls 1 [(0, .int a0)] := hl
  unfold f_X8_isHolder at hf
  refine lv_iload_n hx hb dX8_isHolder_0 rfl (lv_at hl 0 rfl) ?_
  refine lv_i2l hx hb dX8_isHolder_1 rfl ?_
  refine lv_lconst (v := (0 : Int64)) hx hb dX8_isHolder_2 (by decide) ?_
  refine lv_ldc2 hx hb X.2.2.1 (X.2.2.2.1 _ k_766) dX8_isHolder_3 ?_
  obtain ⟨v2, hc1, hf⟩ := c1_e hf
  refine q_S (w' := w) (rest := []) X hml hh (some (.int v2)) (m_X8_in l B D hc1) cf_X8_in k_767 rfl hl.1 rfl (Nat.le_of_ble_eq_true rfl) ⟨Nat.le_of_ble_eq_true rfl, Nat.le_of_ble_eq_true rfl⟩ ⟨Nat.zero_le _, Nat.zero_le _⟩ dX8_isHolder_6 rfl (fun H locs hh => ?_)
  have hz := zb_e hf
  have hf := hz.2
  exact e_z X hr hlk hh hz.1 ⟨so_e hf, rfl⟩ dX8_isHolder_9
set_option maxHeartbeats 4000000 in
set_option maxRecDepth 100000 in
theorem m_X8_hold (l : Launch) (B : Nat) (D : DD) {t : Nat} {a0 : Int32} {a1 : Int32} {a2 : Int32} {w : Wd} {r : Int32} {w' : Wd} (ht : t < 153 ∧ kd t = 8) (hf : f_X8_hold t a0 a1 a2 w = some (r, w')) : Ct l yX8_hold cX8_hold 5 (some .int) 3 81 0 0 B D [.ref (B + t), .int a0, .int a1, .int a2] 153 w (some (.int r)) 153 w' := by
  refine m_of (by decide) (Nat.le_of_ble_eq_true rfl) (fun p e s m args below meth c X hml hr hlk _ H locs hh ls hl => ?_)
  have hx := X.1
  have hb := X.2.1
  have hl : lv_has ls 5 [(0, .ref (B + t)), (1, .int a0), (2, .int a1), (3, .int a2)] := hl
  unfold f_X8_hold at hf
  refine lv_iload_n hx hb dX8_hold_0 rfl (lv_at hl 1 rfl) ?_
  obtain ⟨v2, hc1, hf⟩ := c1_e hf
  refine q_S (w' := w) (rest := []) X hml hh (some (.int v2)) (m_X8_isHolder l B D hc1) cf_X8_isHolder k_956 rfl hl.1 rfl (Nat.le_of_ble_eq_true rfl) ⟨Nat.le_of_ble_eq_true rfl, Nat.le_of_ble_eq_true rfl⟩ ⟨Nat.zero_le _, Nat.zero_le _⟩ dX8_hold_1 rfl (fun H locs hh => ?_)
  refine lv_if_eq (tgt := 16) hx hb dX8_hold_4 (by decide) (fun hc3 => ?_) (fun hc3 => ?_)
  · have hf := if_t hc3 hf
    refine lv_iconst (v := (-1 : Int32)) hx hb dX8_hold_16 (by decide) ?_
    exact e_i X hr hlk hh (so2_e hf) dX8_hold_17
  · have hf := if_f hc3 hf
    refine lv_aload_n hx hb dX8_hold_7 rfl (lv_at hl 0 rfl) ?_
    refine lv_iload_n hx hb dX8_hold_8 rfl (lv_at hl 2 rfl) ?_
    refine lv_iload_n hx hb dX8_hold_9 rfl (lv_at hl 3 rfl) ?_
    obtain ⟨v5, hc4, hf⟩ := c1_e hf
    refine q_V (w' := w) (rest := []) X hml hh (some (.int v5)) (m_X8_isCorner l B D ht hc4) cf_X8_isCorner k_822 ht ci_8 rfl rfl hl.1 rfl (Nat.le_of_ble_eq_true rfl) ⟨Nat.le_of_ble_eq_true rfl, Nat.le_of_ble_eq_true rfl⟩ ⟨Nat.zero_le _, Nat.zero_le _⟩ dX8_hold_10 rfl (fun H locs hh => ?_)
    refine lv_if_ne (tgt := 18) hx hb dX8_hold_13 (by decide) (fun hc6 => ?_) (fun hc6 => ?_)
    · have hf := if_f hc6 hf
      refine lv_aload_n hx hb dX8_hold_18 rfl (lv_at hl 0 rfl) ?_
      obtain ⟨w8, hc7, hf⟩ := c1_e hf
      refine q_V (w' := w8) (rest := []) X hml hh none (m_X8_growsAll l B D ht hc7) cf_X8_growsAll k_827 ht ci_8 rfl rfl hl.1 rfl (Nat.le_of_ble_eq_true rfl) ⟨Nat.le_of_ble_eq_true rfl, Nat.le_of_ble_eq_true rfl⟩ ⟨Nat.zero_le _, Nat.zero_le _⟩ dX8_hold_19 rfl (fun H locs hh => ?_)
      refine lv_aload_n hx hb dX8_hold_22 rfl (lv_at hl 0 rfl) ?_
      refine q_gr (P := 9) X hh ht fk_X8_46 dX8_hold_23 hf (fun t9 h10 hf => ?_)
      refine lv_iload_n hx hb dX8_hold_26 rfl (lv_at hl 1 rfl) ?_
      refine lv_iconst (v := (1 : Int32)) hx hb dX8_hold_27 (by decide) ?_
      refine q_ast X hh h10 dX8_hold_28 hf (fun w12 H locs hf hh => ?_)
      refine lv_iconst (v := (0 : Int32)) hx hb dX8_hold_29 (by decide) ?_
      refine lv_istore (lv' := [(4, .int (0 : Int32)), (0, .ref (B + t)), (1, .int a0), (2, .int a1), (3, .int a2)]) hx hb dX8_hold_30 hl (by decide) rfl (fun ls hl => ?_)
      refine wl2_W (P := fun (x13 : Int32) (w14 : Wd) => ∀ (H : Heap) (locs : List Loc) (ls : Array Slot), Hp B D 153 w14 s H locs → lv_has ls 5 [(0, .ref (B + t)), (1, .int a0), (2, .int a1), (3, .int a2), (4, .int x13)] → W p l e (rmk 3 81 0 0) s m args below meth c H locs 0 0 (MZ below B D 153 w' (some (.int r)) args s 0 0) (F0 m 32 ls [])) hf (fun x13 w14 k15 ih16 hf  H locs ls hh hl => ?_)  _ _ _ hh (lv_sub hl [1, 2, 3, 4, 0] rfl)
      refine lv_iload hx hb dX8_hold_32 (lv_at hl 4 rfl) ?_
      refine lv_bipush (v := (80 : Int32)) hx hb dX8_hold_34 (by decide) ?_
      refine lv_icmp_ge (tgt := 65) hx hb dX8_hold_36 (by decide) (fun hc17 => ?_) (fun hc17 => ?_)
      · have hf := if_t hc17 hf
        refine lv_aload_n hx hb dX8_hold_65 rfl (lv_at hl 0 rfl) ?_
        refine lv_iload_n hx hb dX8_hold_66 rfl (lv_at hl 2 rfl) ?_
        refine lv_iload_n hx hb dX8_hold_67 rfl (lv_at hl 3 rfl) ?_
        obtain ⟨v19, hc18, hf⟩ := c1_e hf
        refine q_V (w' := w14) (rest := []) X hml hh (some (.int v19)) (m_X8_sizeOf l B D ht hc18) cf_X8_sizeOf k_846 ht ci_8 rfl rfl hl.1 rfl (Nat.le_of_ble_eq_true rfl) ⟨Nat.le_of_ble_eq_true rfl, Nat.le_of_ble_eq_true rfl⟩ ⟨Nat.zero_le _, Nat.zero_le _⟩ dX8_hold_68 rfl (fun H locs hh => ?_)
        exact e_i X hr hlk hh (so2_e hf) dX8_hold_71
      · have hf := if_f hc17 hf
        refine lv_aload_n hx hb dX8_hold_39 rfl (lv_at hl 0 rfl) ?_
        refine q_gr (P := 9) X hh ht fk_X8_52 dX8_hold_40 hf (fun t20 h21 hf => ?_)
        refine lv_bipush (v := (80 : Int32)) hx hb dX8_hold_43 (by decide) ?_
        refine lv_iload_n hx hb dX8_hold_45 rfl (lv_at hl 1 rfl) ?_
        refine lv_imul hx hb dX8_hold_46 ?_
        refine lv_iload hx hb dX8_hold_47 (lv_at hl 4 rfl) ?_
        refine lv_iadd hx hb dX8_hold_49 ?_
        refine lv_aload_n hx hb dX8_hold_50 rfl (lv_at hl 0 rfl) ?_
        refine lv_iload_n hx hb dX8_hold_51 rfl (lv_at hl 2 rfl) ?_
        refine lv_iload_n hx hb dX8_hold_52 rfl (lv_at hl 3 rfl) ?_
        refine lv_iload hx hb dX8_hold_53 (lv_at hl 4 rfl) ?_
        obtain ⟨v23, hc22, hf⟩ := c1_e hf
        refine q_V (w' := w14) (rest := [_, .ref (B + t20)]) X hml hh (some (.int v23)) (m_X8_partOf l B D ht hc22) cf_X8_partOf k_838 ht ci_8 rfl rfl hl.1 rfl (Nat.le_of_ble_eq_true rfl) ⟨Nat.le_of_ble_eq_true rfl, Nat.le_of_ble_eq_true rfl⟩ ⟨Nat.zero_le _, Nat.zero_le _⟩ dX8_hold_55 rfl (fun H locs hh => ?_)
        refine q_ast X hh h21 dX8_hold_58 hf (fun w25 H locs hf hh => ?_)
        obtain ⟨x26, e27⟩ : ∃ y : Int32, y = (x13 + (1 : Int32)) := ⟨_, rfl⟩
        have hf := lt_e e27 hf
        refine lv_iinc (v := x26) (lv' := [(4, .int x26), (0, .ref (B + t)), (1, .int a0), (2, .int a1), (3, .int a2)]) hx hb dX8_hold_59 hl (k := 4) rfl (by rw [e27]; rfl) (by decide) rfl (fun ls hl => ?_)
        refine lv_goto (tgt := 32) hx hb dX8_hold_62 (by decide) ?_
        exact ih16 _ _ hf  _ _ _ hh (lv_sub hl [1, 2, 3, 4, 0] rfl)
    · have hf := if_t hc6 hf
      refine lv_iconst (v := (-1 : Int32)) hx hb dX8_hold_16 (by decide) ?_
      exact e_i X hr hlk hh (so2_e hf) dX8_hold_17
set_option maxHeartbeats 4000000 in
set_option maxRecDepth 100000 in
theorem m_X8_heldLength (l : Launch) (B : Nat) (D : DD) {t : Nat} {a0 : Int32} {w : Wd} {r : Int32} (ht : t < 153 ∧ kd t = 8) (hf : f_X8_heldLength t a0 w = some r) : Ct l yX8_heldLength cX8_heldLength 4 (some .int) 0 0 0 0 B D [.ref (B + t), .int a0] 153 w (some (.int r)) 153 w := by
  refine m_of (by decide) (Nat.le_of_ble_eq_true rfl) (fun p e s m args below meth c X hml hr hlk _ H locs hh ls hl => ?_)
  have hx := X.1
  have hb := X.2.1
  have hl : lv_has ls 4 [(0, .ref (B + t)), (1, .int a0)] := hl
  unfold f_X8_heldLength at hf
  refine lv_iconst (v := (0 : Int32)) hx hb dX8_heldLength_0 (by decide) ?_
  refine lv_istore_n (lv' := [(2, .int (0 : Int32)), (0, .ref (B + t)), (1, .int a0)]) hx hb dX8_heldLength_1 rfl hl (by decide) rfl (fun ls hl => ?_)
  refine lv_iconst (v := (0 : Int32)) hx hb dX8_heldLength_2 (by decide) ?_
  refine lv_istore_n (lv' := [(3, .int (0 : Int32)), (2, .int (0 : Int32)), (0, .ref (B + t)), (1, .int a0)]) hx hb dX8_heldLength_3 rfl hl (by decide) rfl (fun ls hl => ?_)
  refine wl2_W (P := fun (x1 : Int32) (x2 : Int32) => ∀ (H : Heap) (locs : List Loc) (ls : Array Slot), Hp B D 153 w s H locs → lv_has ls 4 [(0, .ref (B + t)), (1, .int a0), (2, .int x1), (3, .int x2)] → W p l e (rmk 0 0 0 0) s m args below meth c H locs 0 0 (MZ below B D 153 w (some (.int r)) args s 0 0) (F0 m 4 ls [])) hf (fun x1 x2 k3 ih4 hf  H locs ls hh hl => ?_)  _ _ _ hh (lv_sub hl [2, 3, 1, 0] rfl)
  refine lv_iload_n hx hb dX8_heldLength_4 rfl (lv_at hl 3 rfl) ?_
  refine lv_bipush (v := (80 : Int32)) hx hb dX8_heldLength_5 (by decide) ?_
  refine lv_icmp_ge (tgt := 38) hx hb dX8_heldLength_7 (by decide) (fun hc5 => ?_) (fun hc5 => ?_)
  · have hf := if_t hc5 hf
    refine lv_iload_n hx hb dX8_heldLength_38 rfl (lv_at hl 2 rfl) ?_
    exact e_i X hr hlk hh ⟨so_e hf, rfl⟩ dX8_heldLength_39
  · have hf := if_f hc5 hf
    refine lv_iload_n hx hb dX8_heldLength_10 rfl (lv_at hl 2 rfl) ?_
    refine lv_aload_n hx hb dX8_heldLength_11 rfl (lv_at hl 0 rfl) ?_
    refine q_gr (P := 9) X hh ht fk_X8_52 dX8_heldLength_12 hf (fun t6 h7 hf => ?_)
    refine lv_bipush (v := (80 : Int32)) hx hb dX8_heldLength_15 (by decide) ?_
    refine lv_iload_n hx hb dX8_heldLength_17 rfl (lv_at hl 1 rfl) ?_
    refine lv_imul hx hb dX8_heldLength_18 ?_
    refine lv_iload_n hx hb dX8_heldLength_19 rfl (lv_at hl 3 rfl) ?_
    refine lv_iadd hx hb dX8_heldLength_20 ?_
    refine q_ald X hh h7 dX8_heldLength_21 hf (fun hf => ?_)
    refine mg_W (P := fun (x10 : Int32) => ∀ (ls : Array Slot), lv_has ls 4 [(0, .ref (B + t)), (1, .int a0), (3, .int x2)] → W p l e (rmk 0 0 0 0) s m args below meth c H locs 0 0 (MZ below B D 153 w (some (.int r)) args s 0 0) (F0 m 30 ls [.int x10, .int x1])) hf (fun x10 hf ls hl => ?_) (fun hj15 => ?_)
    · refine lv_iadd hx hb dX8_heldLength_30 ?_
      refine lv_topi (fun x11 e12 => ?_)
      have hf := lt_e e12 hf
      refine lv_istore_n (lv' := [(2, .int x11), (0, .ref (B + t)), (1, .int a0), (3, .int x2)]) hx hb dX8_heldLength_31 rfl hl (by decide) rfl (fun ls hl => ?_)
      obtain ⟨x13, e14⟩ : ∃ y : Int32, y = (x2 + (1 : Int32)) := ⟨_, rfl⟩
      have hf := lt_e e14 hf
      refine lv_iinc (v := x13) (lv' := [(3, .int x13), (2, .int x11), (0, .ref (B + t)), (1, .int a0)]) hx hb dX8_heldLength_32 hl (k := 3) rfl (by rw [e14]; rfl) (by decide) rfl (fun ls hl => ?_)
      refine lv_goto (tgt := 4) hx hb dX8_heldLength_35 (by decide) ?_
      exact ih4 _ _ hf  _ _ _ hh (lv_sub hl [2, 3, 1, 0] rfl)
    · refine lv_if_le (tgt := 29) hx hb dX8_heldLength_22 (by decide) (fun hc9 => ?_) (fun hc9 => ?_)
      · refine lv_iconst (v := (0 : Int32)) hx hb dX8_heldLength_29 (by decide) ?_
        exact hj15 _ (by rw [if_pos hc9]) ls (lv_sub hl [0, 1, 3] rfl)
      · refine lv_iconst (v := (1 : Int32)) hx hb dX8_heldLength_25 (by decide) ?_
        refine lv_goto (tgt := 30) hx hb dX8_heldLength_26 (by decide) ?_
        exact hj15 _ (by rw [if_neg hc9]) ls (lv_sub hl [0, 1, 3] rfl)
set_option maxHeartbeats 4000000 in
set_option maxRecDepth 100000 in
theorem m_X8_drop (l : Launch) (B : Nat) (D : DD) {t : Nat} {a0 : Int32} {w : Wd} {r : Int32} {w' : Wd} (ht : t < 153 ∧ kd t = 8) (hf : f_X8_drop t a0 w = some (r, w')) : Ct l yX8_drop cX8_drop 3 (some .int) 2 45 0 0 B D [.ref (B + t), .int a0] 153 w (some (.int r)) 153 w' := by
  refine m_of (by decide) (Nat.le_of_ble_eq_true rfl) (fun p e s m args below meth c X hml hr hlk _ H locs hh ls hl => ?_)
  have hx := X.1
  have hb := X.2.1
  have hl : lv_has ls 3 [(0, .ref (B + t)), (1, .int a0)] := hl
  unfold f_X8_drop at hf
  refine lv_iload_n hx hb dX8_drop_0 rfl (lv_at hl 1 rfl) ?_
  obtain ⟨v2, hc1, hf⟩ := c1_e hf
  refine q_S (w' := w) (rest := []) X hml hh (some (.int v2)) (m_X8_isHolder l B D hc1) cf_X8_isHolder k_956 rfl hl.1 rfl (Nat.le_of_ble_eq_true rfl) ⟨Nat.le_of_ble_eq_true rfl, Nat.le_of_ble_eq_true rfl⟩ ⟨Nat.zero_le _, Nat.zero_le _⟩ dX8_drop_1 rfl (fun H locs hh => ?_)
  refine lv_if_ne (tgt := 9) hx hb dX8_drop_4 (by decide) (fun hc3 => ?_) (fun hc3 => ?_)
  · have hf := if_f hc3 hf
    refine lv_aload_n hx hb dX8_drop_9 rfl (lv_at hl 0 rfl) ?_
    refine q_gr (P := 9) X hh ht fk_X8_46 dX8_drop_10 hf (fun t4 h5 hf => ?_)
    refine lv_iload_n hx hb dX8_drop_13 rfl (lv_at hl 1 rfl) ?_
    refine q_ald X hh h5 dX8_drop_14 hf (fun hf => ?_)
    refine jn_W (P := fun j9 => ∀ (x8 : Int32), j9 x8 = some (r, w') → ∀ (H : Heap) (locs : List Loc) (ls : Array Slot), Hp B D 153 w s H locs → lv_has ls 3 [(0, .ref (B + t)), (1, .int a0)] → W p l e (rmk 2 45 0 0) s m args below meth c H locs 0 0 (MZ below B D 153 w' (some (.int r)) args s 0 0) (F0 m 50 ls [.int x8])) hf (fun x8 hf  H locs ls hh hl => ?_) (fun j9 hj9 hf => ?_)
    · refine lv_istore_n (lv' := [(2, .int x8), (0, .ref (B + t)), (1, .int a0)]) hx hb dX8_drop_50 rfl hl (by decide) rfl (fun ls hl => ?_)
      refine lv_aload_n hx hb dX8_drop_51 rfl (lv_at hl 1 rfl) ?_
      refine q_gr (P := 9) X hh ht fk_X8_46 dX8_drop_52 hf (fun t10 h11 hf => ?_)
      refine lv_iload_n hx hb dX8_drop_55 rfl (lv_at hl 2 rfl) ?_
      refine lv_iconst (v := (0 : Int32)) hx hb dX8_drop_56 (by decide) ?_
      refine q_ast X hh h11 dX8_drop_57 hf (fun w13 H locs hf hh => ?_)
      refine lv_iload_n hx hb dX8_drop_58 rfl (lv_at hl 0 rfl) ?_
      exact e_i X hr hlk hh (so2_e hf) dX8_drop_59
    · refine lv_if_ne (tgt := 22) hx hb dX8_drop_15 (by decide) (fun hc7 => ?_) (fun hc7 => ?_)
      · have hf := if_f hc7 hf
        refine lv_aload_n hx hb dX8_drop_22 rfl (lv_at hl 0 rfl) ?_
        refine q_gr (P := 9) X hh ht fk_X8_46 dX8_drop_23 hf (fun t14 h15 hf => ?_)
        refine lv_iload_n hx hb dX8_drop_26 rfl (lv_at hl 1 rfl) ?_
        refine q_ald X hh h15 dX8_drop_27 hf (fun hf => ?_)
        refine lv_iconst (v := (2 : Int32)) hx hb dX8_drop_28 (by decide) ?_
        refine lv_icmp_ne (tgt := 36) hx hb dX8_drop_29 (by decide) (fun hc17 => ?_) (fun hc17 => ?_)
        · have hf := if_f hc17 hf
          refine lv_aload_n hx hb dX8_drop_36 rfl (lv_at hl 0 rfl) ?_
          refine lv_iload_n hx hb dX8_drop_37 rfl (lv_at hl 1 rfl) ?_
          obtain ⟨v19, hc18, hf⟩ := c1_e hf
          refine q_V (w' := w) (rest := []) X hml hh (some (.int v19)) (m_X8_heldLength l B D ht hc18) cf_X8_heldLength k_963 ht ci_8 rfl rfl hl.1 rfl (Nat.le_of_ble_eq_true rfl) ⟨Nat.le_of_ble_eq_true rfl, Nat.le_of_ble_eq_true rfl⟩ ⟨Nat.zero_le _, Nat.zero_le _⟩ dX8_drop_38 rfl (fun H locs hh => ?_)
          refine lv_iconst (v := (1 : Int32)) hx hb dX8_drop_41 (by decide) ?_
          refine lv_icmp_le (tgt := 49) hx hb dX8_drop_42 (by decide) (fun hc20 => ?_) (fun hc20 => ?_)
          · have hf := if_t hc20 hf
            refine lv_iconst (v := (1 : Int32)) hx hb dX8_drop_49 (by decide) ?_
            exact hj9 _ hf  _ _ _ hh (lv_sub hl [0, 1] rfl)
          · have hf := if_f hc20 hf
            refine lv_iconst (v := (2 : Int32)) hx hb dX8_drop_45 (by decide) ?_
            refine lv_goto (tgt := 50) hx hb dX8_drop_46 (by decide) ?_
            exact hj9 _ hf  _ _ _ hh (lv_sub hl [0, 1] rfl)
        · have hf := if_t hc17 hf
          refine lv_iconst (v := (3 : Int32)) hx hb dX8_drop_32 (by decide) ?_
          refine lv_goto (tgt := 50) hx hb dX8_drop_33 (by decide) ?_
          exact hj9 _ hf  _ _ _ hh (lv_sub hl [0, 1] rfl)
      · have hf := if_t hc7 hf
        refine lv_iconst (v := (0 : Int32)) hx hb dX8_drop_18 (by decide) ?_
        refine lv_goto (tgt := 50) hx hb dX8_drop_19 (by decide) ?_
        exact hj9 _ hf  _ _ _ hh (lv_sub hl [0, 1] rfl)
  · have hf := if_t hc3 hf
    refine lv_iconst (v := (-1 : Int32)) hx hb dX8_drop_7 (by decide) ?_
    exact e_i X hr hlk hh (so2_e hf) dX8_drop_8
set_option maxHeartbeats 4000000 in
set_option maxRecDepth 100000 in
theorem m_X8_taken (l : Launch) (B : Nat) (D : DD) {t : Nat} {a0 : Int32} {a1 : Int32} {w : Wd} {r : Int32} (ht : t < 153 ∧ kd t = 8) (hf : f_X8_taken t a0 a1 w = some r) : Ct l yX8_taken cX8_taken 5 (some .int) 2 45 0 0 B D [.ref (B + t), .int a0, .int a1] 153 w (some (.int r)) 153 w := by
  refine m_of (by decide) (Nat.le_of_ble_eq_true rfl) (fun p e s m args below meth c X hml hr hlk _ H locs hh ls hl => ?_)
  have hx := X.1
  have hb := X.2.1
  have hl : lv_has ls 5 [(0, .ref (B + t)), (1, .int a0), (2, .int a1)] := hl
  unfold f_X8_taken at hf
  refine lv_iload_n hx hb dX8_taken_0 rfl (lv_at hl 1 rfl) ?_
  obtain ⟨v2, hc1, hf⟩ := c1_e hf
  refine q_S (w' := w) (rest := []) X hml hh (some (.int v2)) (m_X8_isHolder l B D hc1) cf_X8_isHolder k_956 rfl hl.1 rfl (Nat.le_of_ble_eq_true rfl) ⟨Nat.le_of_ble_eq_true rfl, Nat.le_of_ble_eq_true rfl⟩ ⟨Nat.zero_le _, Nat.zero_le _⟩ dX8_taken_1 rfl (fun H locs hh => ?_)
  refine lv_if_eq (tgt := 19) hx hb dX8_taken_4 (by decide) (fun hc3 => ?_) (fun hc3 => ?_)
  · have hf := if_t hc3 hf
    refine lv_iconst (v := (-1 : Int32)) hx hb dX8_taken_19 (by decide) ?_
    exact e_i X hr hlk hh ⟨so_e hf, rfl⟩ dX8_taken_20
  · have hf := if_f hc3 hf
    refine lv_iload_n hx hb dX8_taken_7 rfl (lv_at hl 2 rfl) ?_
    refine lv_i2l hx hb dX8_taken_8 rfl ?_
    refine lv_lconst (v := (0 : Int64)) hx hb dX8_taken_9 (by decide) ?_
    refine lv_ldc2 hx hb X.2.2.1 (X.2.2.2.1 _ k_817) dX8_taken_10 ?_
    obtain ⟨v5, hc4, hf⟩ := c1_e hf
    refine q_S (w' := w) (rest := []) X hml hh (some (.int v5)) (m_X8_in l B D hc4) cf_X8_in k_767 rfl hl.1 rfl (Nat.le_of_ble_eq_true rfl) ⟨Nat.le_of_ble_eq_true rfl, Nat.le_of_ble_eq_true rfl⟩ ⟨Nat.zero_le _, Nat.zero_le _⟩ dX8_taken_13 rfl (fun H locs hh => ?_)
    refine lv_if_ne (tgt := 21) hx hb dX8_taken_16 (by decide) (fun hc6 => ?_) (fun hc6 => ?_)
    · have hf := if_f hc6 hf
      refine lv_aload_n hx hb dX8_taken_21 rfl (lv_at hl 0 rfl) ?_
      refine q_gr (P := 9) X hh ht fk_X8_46 dX8_taken_22 hf (fun t7 h8 hf => ?_)
      refine lv_iload_n hx hb dX8_taken_25 rfl (lv_at hl 1 rfl) ?_
      refine q_ald X hh h8 dX8_taken_26 hf (fun hf => ?_)
      refine lv_if_ne (tgt := 33) hx hb dX8_taken_27 (by decide) (fun hc10 => ?_) (fun hc10 => ?_)
      · have hf := if_f hc10 hf
        refine lv_aload_n hx hb dX8_taken_33 rfl (lv_at hl 0 rfl) ?_
        refine q_gr (P := 9) X hh ht fk_X8_46 dX8_taken_34 hf (fun t11 h12 hf => ?_)
        refine lv_iload_n hx hb dX8_taken_37 rfl (lv_at hl 1 rfl) ?_
        refine q_ald X hh h12 dX8_taken_38 hf (fun hf => ?_)
        refine lv_iconst (v := (2 : Int32)) hx hb dX8_taken_39 (by decide) ?_
        refine lv_icmp_eq (tgt := 74) hx hb dX8_taken_40 (by decide) (fun hc14 => ?_) (fun hc14 => ?_)
        · have hf := if_t hc14 hf
          refine lv_bipush (v := (-12 : Int32)) hx hb dX8_taken_74 (by decide) ?_
          exact e_i X hr hlk hh ⟨so_e hf, rfl⟩ dX8_taken_76
        · have hf := if_f hc14 hf
          refine lv_iload_n hx hb dX8_taken_43 rfl (lv_at hl 2 rfl) ?_
          refine jn_W (P := fun j16 => j16 = some r → ∀ (H : Heap) (locs : List Loc) (ls : Array Slot), Hp B D 153 w s H locs → lv_has ls 5 [(0, .ref (B + t)), (1, .int a0), (2, .int a1)] → W p l e (rmk 2 45 0 0) s m args below meth c H locs 0 0 (MZ below B D 153 w (some (.int r)) args s 0 0) (F0 m 77 ls [])) hf (fun  hf  H locs ls hh hl => ?_) (fun j16 hj16 hf => ?_)
          · refine lv_iload_n hx hb dX8_taken_77 rfl (lv_at hl 2 rfl) ?_
            refine lv_if_le (tgt := 104) hx hb dX8_taken_78 (by decide) (fun hc17 => ?_) (fun hc17 => ?_)
            · have hf := if_t hc17 hf
              refine lv_iconst (v := (0 : Int32)) hx hb dX8_taken_104 (by decide) ?_
              refine lv_istore_n (lv' := [(3, .int (0 : Int32)), (0, .ref (B + t)), (1, .int a0), (2, .int a1)]) hx hb dX8_taken_105 rfl hl (by decide) rfl (fun ls hl => ?_)
              refine lv_iconst (v := (0 : Int32)) hx hb dX8_taken_106 (by decide) ?_
              refine lv_istore (lv' := [(4, .int (0 : Int32)), (3, .int (0 : Int32)), (0, .ref (B + t)), (1, .int a0), (2, .int a1)]) hx hb dX8_taken_107 hl (by decide) rfl (fun ls hl => ?_)
              refine wl2_W (P := fun (x18 : Int32) (x19 : Int32) => ∀ (H : Heap) (locs : List Loc) (ls : Array Slot), Hp B D 153 w s H locs → lv_has ls 5 [(0, .ref (B + t)), (1, .int a0), (3, .int x18), (4, .int x19)] → W p l e (rmk 2 45 0 0) s m args below meth c H locs 0 0 (MZ below B D 153 w (some (.int r)) args s 0 0) (F0 m 109 ls [])) hf (fun x18 x19 k20 ih21 hf  H locs ls hh hl => ?_)  _ _ _ hh (lv_sub hl [2, 3, 1, 0] rfl)
              refine lv_iload hx hb dX8_taken_109 (lv_at hl 3 rfl) ?_
              refine lv_bipush (v := (80 : Int32)) hx hb dX8_taken_111 (by decide) ?_
              refine lv_icmp_ge (tgt := 137) hx hb dX8_taken_113 (by decide) (fun hc22 => ?_) (fun hc22 => ?_)
              · have hf := if_t hc22 hf
                refine lv_iload_n hx hb dX8_taken_137 rfl (lv_at hl 2 rfl) ?_
                exact e_i X hr hlk hh ⟨so_e hf, rfl⟩ dX8_taken_138
              · have hf := if_f hc22 hf
                refine lv_iload_n hx hb dX8_taken_116 rfl (lv_at hl 2 rfl) ?_
                refine lv_aload_n hx hb dX8_taken_117 rfl (lv_at hl 0 rfl) ?_
                refine q_gr (P := 9) X hh ht fk_X8_52 dX8_taken_118 hf (fun t23 h24 hf => ?_)
                refine lv_bipush (v := (80 : Int32)) hx hb dX8_taken_121 (by decide) ?_
                refine lv_iload_n hx hb dX8_taken_123 rfl (lv_at hl 1 rfl) ?_
                refine lv_imul hx hb dX8_taken_124 ?_
                refine lv_iload hx hb dX8_taken_125 (lv_at hl 3 rfl) ?_
                refine lv_iadd hx hb dX8_taken_127 ?_
                refine q_ald X hh h24 dX8_taken_128 hf (fun hf => ?_)
                refine lv_iadd hx hb dX8_taken_129 ?_
                refine lv_topi (fun x26 e27 => ?_)
                have hf := lt_e e27 hf
                refine lv_istore_n (lv' := [(3, .int x26), (0, .ref (B + t)), (1, .int a0), (4, .int x19)]) hx hb dX8_taken_130 rfl hl (by decide) rfl (fun ls hl => ?_)
                obtain ⟨x28, e29⟩ : ∃ y : Int32, y = (x19 + (1 : Int32)) := ⟨_, rfl⟩
                have hf := lt_e e29 hf
                refine lv_iinc (v := x28) (lv' := [(4, .int x28), (3, .int x26), (0, .ref (B + t)), (1, .int a0)]) hx hb dX8_taken_131 hl (k := 3) rfl (by rw [e29]; rfl) (by decide) rfl (fun ls hl => ?_)
                refine lv_goto (tgt := 109) hx hb dX8_taken_134 (by decide) ?_
                exact ih21 _ _ hf  _ _ _ hh (lv_sub hl [2, 3, 1, 0] rfl)
            · have hf := if_f hc17 hf
              refine lv_iload_n hx hb dX8_taken_81 rfl (lv_at hl 2 rfl) ?_
              refine lv_iconst (v := (1 : Int32)) hx hb dX8_taken_82 (by decide) ?_
              refine lv_icmp_ne (tgt := 98) hx hb dX8_taken_83 (by decide) (fun hc30 => ?_) (fun hc30 => ?_)
              · have hf := if_f hc30 hf
                refine lv_aload_n hx hb dX8_taken_98 rfl (lv_at hl 0 rfl) ?_
                refine lv_iload_n hx hb dX8_taken_99 rfl (lv_at hl 1 rfl) ?_
                obtain ⟨v32, hc31, hf⟩ := c1_e hf
                refine q_V (w' := w) (rest := []) X hml hh (some (.int v32)) (m_X8_heldLength l B D ht hc31) cf_X8_heldLength k_963 ht ci_8 rfl rfl hl.1 rfl (Nat.le_of_ble_eq_true rfl) ⟨Nat.le_of_ble_eq_true rfl, Nat.le_of_ble_eq_true rfl⟩ ⟨Nat.zero_le _, Nat.zero_le _⟩ dX8_taken_100 rfl (fun H locs hh => ?_)
                exact e_i X hr hlk hh ⟨so_e hf, rfl⟩ dX8_taken_103
              · have hf := if_t hc30 hf
                refine lv_aload_n hx hb dX8_taken_86 rfl (lv_at hl 0 rfl) ?_
                refine q_gr (P := 9) X hh ht fk_X8_52 dX8_taken_87 hf (fun t33 h34 hf => ?_)
                refine lv_bipush (v := (80 : Int32)) hx hb dX8_taken_90 (by decide) ?_
                refine lv_iload_n hx hb dX8_taken_92 rfl (lv_at hl 1 rfl) ?_
                refine lv_imul hx hb dX8_taken_93 ?_
                refine q_ald X hh h34 dX8_taken_94 hf (fun hf => ?_)
                refine lv_topi (fun x36 e37 => ?_)
                have hf := lt_e e37 hf
                refine lv_goto (tgt := 103) hx hb dX8_taken_95 (by decide) ?_
                exact e_i X hr hlk hh ⟨so_e hf, rfl⟩ dX8_taken_103
          · refine lv_if_le (tgt := 77) hx hb dX8_taken_44 (by decide) (fun hc15 => ?_) (fun hc15 => ?_)
            · have hf := if_t hc15 hf
              exact hj16  hf  _ _ _ hh (lv_sub hl [0, 1, 2] rfl)
            · have hf := if_f hc15 hf
              refine lv_aload_n hx hb dX8_taken_47 rfl (lv_at hl 0 rfl) ?_
              refine lv_iload_n hx hb dX8_taken_48 rfl (lv_at hl 1 rfl) ?_
              obtain ⟨v39, hc38, hf⟩ := c1_e hf
              refine q_V (w' := w) (rest := []) X hml hh (some (.int v39)) (m_X8_heldLength l B D ht hc38) cf_X8_heldLength k_963 ht ci_8 rfl rfl hl.1 rfl (Nat.le_of_ble_eq_true rfl) ⟨Nat.le_of_ble_eq_true rfl, Nat.le_of_ble_eq_true rfl⟩ ⟨Nat.zero_le _, Nat.zero_le _⟩ dX8_taken_49 rfl (fun H locs hh => ?_)
              refine lv_iconst (v := (1 : Int32)) hx hb dX8_taken_52 (by decide) ?_
              refine mg_W (P := fun (x41 : Int32) => ∀ (ls : Array Slot), lv_has ls 5 [(0, .ref (B + t)), (1, .int a0), (2, .int a1)] → W p l e (rmk 2 45 0 0) s m args below meth c H locs 0 0 (MZ below B D 153 w (some (.int r)) args s 0 0) (F0 m 61 ls [.int x41])) hf (fun x41 hf ls hl => ?_) (fun hj46 => ?_)
              · refine lv_iload_n hx hb dX8_taken_61 rfl (lv_at hl 2 rfl) ?_
                refine lv_iconst (v := (2 : Int32)) hx hb dX8_taken_62 (by decide) ?_
                refine mg_W (P := fun (x43 : Int32) => ∀ (ls : Array Slot), lv_has ls 5 [(0, .ref (B + t)), (1, .int a0), (2, .int a1)] → W p l e (rmk 2 45 0 0) s m args below meth c H locs 0 0 (MZ below B D 153 w (some (.int r)) args s 0 0) (F0 m 71 ls [.int x43, .int x41])) hf (fun x43 hf ls hl => ?_) (fun hj45 => ?_)
                · refine lv_icmp_eq (tgt := 77) hx hb dX8_taken_71 (by decide) (fun hc44 => ?_) (fun hc44 => ?_)
                  · have hf := if_t hc44 hf
                    exact hj16  hf  _ _ _ hh (lv_sub hl [0, 1, 2] rfl)
                  · have hf := if_f hc44 hf
                    refine lv_bipush (v := (-12 : Int32)) hx hb dX8_taken_74 (by decide) ?_
                    exact e_i X hr hlk hh ⟨so_e hf, rfl⟩ dX8_taken_76
                · refine lv_icmp_ne (tgt := 70) hx hb dX8_taken_63 (by decide) (fun hc42 => ?_) (fun hc42 => ?_)
                  · refine lv_iconst (v := (0 : Int32)) hx hb dX8_taken_70 (by decide) ?_
                    exact hj45 _ (by rw [if_neg hc42]) ls (lv_sub hl [0, 1, 2] rfl)
                  · refine lv_iconst (v := (1 : Int32)) hx hb dX8_taken_66 (by decide) ?_
                    refine lv_goto (tgt := 71) hx hb dX8_taken_67 (by decide) ?_
                    exact hj45 _ (by rw [if_pos hc42]) ls (lv_sub hl [0, 1, 2] rfl)
              · refine lv_icmp_le (tgt := 60) hx hb dX8_taken_53 (by decide) (fun hc40 => ?_) (fun hc40 => ?_)
                · refine lv_iconst (v := (0 : Int32)) hx hb dX8_taken_60 (by decide) ?_
                  exact hj46 _ (by rw [if_pos hc40]) ls (lv_sub hl [0, 1, 2] rfl)
                · refine lv_iconst (v := (1 : Int32)) hx hb dX8_taken_56 (by decide) ?_
                  refine lv_goto (tgt := 61) hx hb dX8_taken_57 (by decide) ?_
                  exact hj46 _ (by rw [if_neg hc40]) ls (lv_sub hl [0, 1, 2] rfl)
      · have hf := if_t hc10 hf
        refine lv_bipush (v := (-11 : Int32)) hx hb dX8_taken_30 (by decide) ?_
        exact e_i X hr hlk hh ⟨so_e hf, rfl⟩ dX8_taken_32
    · have hf := if_t hc6 hf
      refine lv_iconst (v := (-1 : Int32)) hx hb dX8_taken_19 (by decide) ?_
      exact e_i X hr hlk hh ⟨so_e hf, rfl⟩ dX8_taken_20
set_option maxHeartbeats 4000000 in
set_option maxRecDepth 100000 in
theorem m_X8_was (l : Launch) (B : Nat) (D : DD) {t : Nat} {a0 : Int32} {a1 : Int32} {w : Wd} {r : Int32} (ht : t < 153 ∧ kd t = 8) (hf : f_X8_was t a0 a1 w = some r) : Ct l yX8_was cX8_was 3 (some .int) 2 45 0 0 B D [.ref (B + t), .int a0, .int a1] 153 w (some (.int r)) 153 w := by
  refine m_of (by decide) (Nat.le_of_ble_eq_true rfl) (fun p e s m args below meth c X hml hr hlk _ H locs hh ls hl => ?_)
  have hx := X.1
  have hb := X.2.1
  have hl : lv_has ls 3 [(0, .ref (B + t)), (1, .int a0), (2, .int a1)] := hl
  unfold f_X8_was at hf
  refine lv_iload_n hx hb dX8_was_0 rfl (lv_at hl 1 rfl) ?_
  obtain ⟨v2, hc1, hf⟩ := c1_e hf
  refine q_S (w' := w) (rest := []) X hml hh (some (.int v2)) (m_X8_isHolder l B D hc1) cf_X8_isHolder k_956 rfl hl.1 rfl (Nat.le_of_ble_eq_true rfl) ⟨Nat.le_of_ble_eq_true rfl, Nat.le_of_ble_eq_true rfl⟩ ⟨Nat.zero_le _, Nat.zero_le _⟩ dX8_was_1 rfl (fun H locs hh => ?_)
  refine lv_if_eq (tgt := 19) hx hb dX8_was_4 (by decide) (fun hc3 => ?_) (fun hc3 => ?_)
  · have hf := if_t hc3 hf
    refine lv_iconst (v := (-1 : Int32)) hx hb dX8_was_19 (by decide) ?_
    exact e_i X hr hlk hh ⟨so_e hf, rfl⟩ dX8_was_20
  · have hf := if_f hc3 hf
    refine lv_iload_n hx hb dX8_was_7 rfl (lv_at hl 2 rfl) ?_
    refine lv_i2l hx hb dX8_was_8 rfl ?_
    refine lv_lconst (v := (0 : Int64)) hx hb dX8_was_9 (by decide) ?_
    refine lv_ldc2 hx hb X.2.2.1 (X.2.2.2.1 _ k_826) dX8_was_10 ?_
    obtain ⟨v5, hc4, hf⟩ := c1_e hf
    refine q_S (w' := w) (rest := []) X hml hh (some (.int v5)) (m_X8_in l B D hc4) cf_X8_in k_767 rfl hl.1 rfl (Nat.le_of_ble_eq_true rfl) ⟨Nat.le_of_ble_eq_true rfl, Nat.le_of_ble_eq_true rfl⟩ ⟨Nat.zero_le _, Nat.zero_le _⟩ dX8_was_13 rfl (fun H locs hh => ?_)
    refine lv_if_ne (tgt := 21) hx hb dX8_was_16 (by decide) (fun hc6 => ?_) (fun hc6 => ?_)
    · have hf := if_f hc6 hf
      refine lv_aload_n hx hb dX8_was_21 rfl (lv_at hl 0 rfl) ?_
      refine q_gr (P := 9) X hh ht fk_X8_46 dX8_was_22 hf (fun t7 h8 hf => ?_)
      refine lv_iload_n hx hb dX8_was_25 rfl (lv_at hl 1 rfl) ?_
      refine q_ald X hh h8 dX8_was_26 hf (fun hf => ?_)
      refine lv_if_ne (tgt := 33) hx hb dX8_was_27 (by decide) (fun hc10 => ?_) (fun hc10 => ?_)
      · have hf := if_f hc10 hf
        refine lv_aload_n hx hb dX8_was_33 rfl (lv_at hl 0 rfl) ?_
        refine q_gr (P := 9) X hh ht fk_X8_46 dX8_was_34 hf (fun t11 h12 hf => ?_)
        refine lv_iload_n hx hb dX8_was_37 rfl (lv_at hl 1 rfl) ?_
        refine q_ald X hh h12 dX8_was_38 hf (fun hf => ?_)
        refine lv_iconst (v := (2 : Int32)) hx hb dX8_was_39 (by decide) ?_
        refine lv_icmp_ne (tgt := 46) hx hb dX8_was_40 (by decide) (fun hc14 => ?_) (fun hc14 => ?_)
        · have hf := if_f hc14 hf
          refine lv_iload_n hx hb dX8_was_46 rfl (lv_at hl 2 rfl) ?_
          refine lv_bipush (v := (80 : Int32)) hx hb dX8_was_47 (by decide) ?_
          refine lv_icmp_ge (tgt := 66) hx hb dX8_was_49 (by decide) (fun hc15 => ?_) (fun hc15 => ?_)
          · have hf := if_t hc15 hf
            refine lv_iconst (v := (0 : Int32)) hx hb dX8_was_66 (by decide) ?_
            exact e_i X hr hlk hh ⟨so_e hf, rfl⟩ dX8_was_67
          · have hf := if_f hc15 hf
            refine lv_aload_n hx hb dX8_was_52 rfl (lv_at hl 0 rfl) ?_
            refine q_gr (P := 9) X hh ht fk_X8_52 dX8_was_53 hf (fun t16 h17 hf => ?_)
            refine lv_bipush (v := (80 : Int32)) hx hb dX8_was_56 (by decide) ?_
            refine lv_iload_n hx hb dX8_was_58 rfl (lv_at hl 1 rfl) ?_
            refine lv_imul hx hb dX8_was_59 ?_
            refine lv_iload_n hx hb dX8_was_60 rfl (lv_at hl 2 rfl) ?_
            refine lv_iadd hx hb dX8_was_61 ?_
            refine q_ald X hh h17 dX8_was_62 hf (fun hf => ?_)
            refine lv_topi (fun x19 e20 => ?_)
            have hf := lt_e e20 hf
            refine lv_goto (tgt := 67) hx hb dX8_was_63 (by decide) ?_
            exact e_i X hr hlk hh ⟨so_e hf, rfl⟩ dX8_was_67
        · have hf := if_t hc14 hf
          refine lv_bipush (v := (-12 : Int32)) hx hb dX8_was_43 (by decide) ?_
          exact e_i X hr hlk hh ⟨so_e hf, rfl⟩ dX8_was_45
      · have hf := if_t hc10 hf
        refine lv_bipush (v := (-11 : Int32)) hx hb dX8_was_30 (by decide) ?_
        exact e_i X hr hlk hh ⟨so_e hf, rfl⟩ dX8_was_32
    · have hf := if_t hc6 hf
      refine lv_iconst (v := (-1 : Int32)) hx hb dX8_was_19 (by decide) ?_
      exact e_i X hr hlk hh ⟨so_e hf, rfl⟩ dX8_was_20
set_option maxHeartbeats 4000000 in
set_option maxRecDepth 100000 in
theorem m_X8_row (l : Launch) (B : Nat) (D : DD) {t : Nat} {a0 : Int32} {a1 : Int32} {w : Wd} {r : Int32} {w' : Wd} (ht : t < 153 ∧ kd t = 8) (hf : f_X8_row t a0 a1 w = some (r, w')) : Ct l yX8_row cX8_row 4 (some .int) 2 45 0 0 B D [.ref (B + t), .int a0, .int a1] 153 w (some (.int r)) 153 w' := by
  refine m_of (by decide) (Nat.le_of_ble_eq_true rfl) (fun p e s m args below meth c X hml hr hlk _ H locs hh ls hl => ?_)
  have hx := X.1
  have hb := X.2.1
  have hl : lv_has ls 4 [(0, .ref (B + t)), (1, .int a0), (2, .int a1)] := hl
  unfold f_X8_row at hf
  refine lv_iload_n hx hb dX8_row_0 rfl (lv_at hl 1 rfl) ?_
  obtain ⟨v2, hc1, hf⟩ := c1_e hf
  refine q_S (w' := w) (rest := []) X hml hh (some (.int v2)) (m_X8_isHolder l B D hc1) cf_X8_isHolder k_956 rfl hl.1 rfl (Nat.le_of_ble_eq_true rfl) ⟨Nat.le_of_ble_eq_true rfl, Nat.le_of_ble_eq_true rfl⟩ ⟨Nat.zero_le _, Nat.zero_le _⟩ dX8_row_1 rfl (fun H locs hh => ?_)
  refine lv_if_eq (tgt := 13) hx hb dX8_row_4 (by decide) (fun hc3 => ?_) (fun hc3 => ?_)
  · have hf := if_t hc3 hf
    refine lv_iconst (v := (-1 : Int32)) hx hb dX8_row_13 (by decide) ?_
    exact e_i X hr hlk hh (so2_e hf) dX8_row_14
  · have hf := if_f hc3 hf
    refine lv_iload_n hx hb dX8_row_7 rfl (lv_at hl 2 rfl) ?_
    refine lv_bipush (v := (30 : Int32)) hx hb dX8_row_8 (by decide) ?_
    refine lv_icmp_le (tgt := 15) hx hb dX8_row_10 (by decide) (fun hc4 => ?_) (fun hc4 => ?_)
    · have hf := if_t hc4 hf
      refine lv_iload_n hx hb dX8_row_15 rfl (lv_at hl 2 rfl) ?_
      refine lv_if_ge (tgt := 22) hx hb dX8_row_16 (by decide) (fun hc5 => ?_) (fun hc5 => ?_)
      · have hf := if_t hc5 hf
        refine lv_aload_n hx hb dX8_row_22 rfl (lv_at hl 0 rfl) ?_
        refine q_gr (P := 9) X hh ht fk_X8_46 dX8_row_23 hf (fun t6 h7 hf => ?_)
        refine lv_iload_n hx hb dX8_row_26 rfl (lv_at hl 1 rfl) ?_
        refine lv_iconst (v := (2 : Int32)) hx hb dX8_row_27 (by decide) ?_
        refine q_ast X hh h7 dX8_row_28 hf (fun w9 H locs hf hh => ?_)
        refine lv_aload_n hx hb dX8_row_29 rfl (lv_at hl 0 rfl) ?_
        refine q_gr (P := 9) X hh ht fk_X8_49 dX8_row_30 hf (fun t10 h11 hf => ?_)
        refine lv_iload_n hx hb dX8_row_33 rfl (lv_at hl 1 rfl) ?_
        refine lv_iload_n hx hb dX8_row_34 rfl (lv_at hl 2 rfl) ?_
        refine q_ast X hh h11 dX8_row_35 hf (fun w13 H locs hf hh => ?_)
        refine lv_iconst (v := (0 : Int32)) hx hb dX8_row_36 (by decide) ?_
        refine lv_istore_n (lv' := [(3, .int (0 : Int32)), (0, .ref (B + t)), (1, .int a0), (2, .int a1)]) hx hb dX8_row_37 rfl hl (by decide) rfl (fun ls hl => ?_)
        refine wl2_W (P := fun (x14 : Int32) (w15 : Wd) => ∀ (H : Heap) (locs : List Loc) (ls : Array Slot), Hp B D 153 w15 s H locs → lv_has ls 4 [(0, .ref (B + t)), (1, .int a0), (2, .int a1), (3, .int x14)] → W p l e (rmk 2 45 0 0) s m args below meth c H locs 0 0 (MZ below B D 153 w' (some (.int r)) args s 0 0) (F0 m 38 ls [])) hf (fun x14 w15 k16 ih17 hf  H locs ls hh hl => ?_)  _ _ _ hh (lv_sub hl [1, 2, 3, 0] rfl)
        refine lv_iload_n hx hb dX8_row_38 rfl (lv_at hl 3 rfl) ?_
        refine lv_bipush (v := (80 : Int32)) hx hb dX8_row_39 (by decide) ?_
        refine lv_icmp_ge (tgt := 62) hx hb dX8_row_41 (by decide) (fun hc18 => ?_) (fun hc18 => ?_)
        · have hf := if_t hc18 hf
          refine lv_iload_n hx hb dX8_row_62 rfl (lv_at hl 2 rfl) ?_
          exact e_i X hr hlk hh (so2_e hf) dX8_row_63
        · have hf := if_f hc18 hf
          refine lv_aload_n hx hb dX8_row_44 rfl (lv_at hl 0 rfl) ?_
          refine q_gr (P := 9) X hh ht fk_X8_52 dX8_row_45 hf (fun t19 h20 hf => ?_)
          refine lv_bipush (v := (80 : Int32)) hx hb dX8_row_48 (by decide) ?_
          refine lv_iload_n hx hb dX8_row_50 rfl (lv_at hl 1 rfl) ?_
          refine lv_imul hx hb dX8_row_51 ?_
          refine lv_iload_n hx hb dX8_row_52 rfl (lv_at hl 3 rfl) ?_
          refine lv_iadd hx hb dX8_row_53 ?_
          refine lv_iconst (v := (0 : Int32)) hx hb dX8_row_54 (by decide) ?_
          refine q_ast X hh h20 dX8_row_55 hf (fun w22 H locs hf hh => ?_)
          obtain ⟨x23, e24⟩ : ∃ y : Int32, y = (x14 + (1 : Int32)) := ⟨_, rfl⟩
          have hf := lt_e e24 hf
          refine lv_iinc (v := x23) (lv' := [(3, .int x23), (0, .ref (B + t)), (1, .int a0), (2, .int a1)]) hx hb dX8_row_56 hl (k := 3) rfl (by rw [e24]; rfl) (by decide) rfl (fun ls hl => ?_)
          refine lv_goto (tgt := 38) hx hb dX8_row_59 (by decide) ?_
          exact ih17 _ _ hf  _ _ _ hh (lv_sub hl [1, 2, 3, 0] rfl)
      · have hf := if_f hc5 hf
        refine lv_bipush (v := (-14 : Int32)) hx hb dX8_row_19 (by decide) ?_
        exact e_i X hr hlk hh (so2_e hf) dX8_row_21
    · have hf := if_f hc4 hf
      refine lv_iconst (v := (-1 : Int32)) hx hb dX8_row_13 (by decide) ?_
      exact e_i X hr hlk hh (so2_e hf) dX8_row_14
set_option maxHeartbeats 4000000 in
set_option maxRecDepth 100000 in
theorem m_X8_rowless (l : Launch) (B : Nat) (D : DD) {t : Nat} {a0 : Int32} {w : Wd} {r : Int32} (ht : t < 153 ∧ kd t = 8) (hf : f_X8_rowless t a0 w = some r) : Ct l yX8_rowless cX8_rowless 2 (some .int) 0 0 0 0 B D [.ref (B + t), .int a0] 153 w (some (.int r)) 153 w := by
  refine m_of (by decide) (Nat.le_of_ble_eq_true rfl) (fun p e s m args below meth c X hml hr hlk _ H locs hh ls hl => ?_)
  have hx := X.1
  have hb := X.2.1
  have hl : lv_has ls 2 [(0, .ref (B + t)), (1, .int a0)] := hl
  unfold f_X8_rowless at hf
  refine lv_aload_n hx hb dX8_rowless_0 rfl (lv_at hl 0 rfl) ?_
  refine q_gr (P := 9) X hh ht fk_X8_46 dX8_rowless_1 hf (fun t1 h2 hf => ?_)
  refine lv_iload_n hx hb dX8_rowless_4 rfl (lv_at hl 1 rfl) ?_
  refine q_ald X hh h2 dX8_rowless_5 hf (fun hf => ?_)
  refine lv_if_ne (tgt := 14) hx hb dX8_rowless_6 (by decide) (fun hc4 => ?_) (fun hc4 => ?_)
  · have hf := if_f hc4 hf
    refine lv_aload_n hx hb dX8_rowless_14 rfl (lv_at hl 0 rfl) ?_
    refine q_gr (P := 9) X hh ht fk_X8_46 dX8_rowless_15 hf (fun t5 h6 hf => ?_)
    refine lv_iload_n hx hb dX8_rowless_18 rfl (lv_at hl 1 rfl) ?_
    refine q_ald X hh h6 dX8_rowless_19 hf (fun hf => ?_)
    refine lv_iconst (v := (1 : Int32)) hx hb dX8_rowless_20 (by decide) ?_
    refine lv_icmp_ne (tgt := 29) hx hb dX8_rowless_21 (by decide) (fun hc8 => ?_) (fun hc8 => ?_)
    · have hf := if_f hc8 hf
      refine lv_iconst (v := (0 : Int32)) hx hb dX8_rowless_29 (by decide) ?_
      exact e_i X hr hlk hh ⟨so_e hf, rfl⟩ dX8_rowless_30
    · have hf := if_t hc8 hf
      refine lv_bipush (v := (-12 : Int32)) hx hb dX8_rowless_24 (by decide) ?_
      refine lv_goto (tgt := 30) hx hb dX8_rowless_26 (by decide) ?_
      exact e_i X hr hlk hh ⟨so_e hf, rfl⟩ dX8_rowless_30
  · have hf := if_t hc4 hf
    refine lv_bipush (v := (-11 : Int32)) hx hb dX8_rowless_9 (by decide) ?_
    refine lv_goto (tgt := 30) hx hb dX8_rowless_11 (by decide) ?_
    exact e_i X hr hlk hh ⟨so_e hf, rfl⟩ dX8_rowless_30
set_option maxHeartbeats 4000000 in
set_option maxRecDepth 100000 in
theorem m_X8_set (l : Launch) (B : Nat) (D : DD) {t : Nat} {a0 : Int32} {a1 : Int32} {a2 : Int32} {w : Wd} {r : Int32} {w' : Wd} (ht : t < 153 ∧ kd t = 8) (hf : f_X8_set t a0 a1 a2 w = some (r, w')) : Ct l yX8_set cX8_set 4 (some .int) 2 45 0 0 B D [.ref (B + t), .int a0, .int a1, .int a2] 153 w (some (.int r)) 153 w' := by
  refine m_of (by decide) (Nat.le_of_ble_eq_true rfl) (fun p e s m args below meth c X hml hr hlk _ H locs hh ls hl => ?_)
  have hx := X.1
  have hb := X.2.1
  have hl : lv_has ls 4 [(0, .ref (B + t)), (1, .int a0), (2, .int a1), (3, .int a2)] := hl
  unfold f_X8_set at hf
  refine lv_iload_n hx hb dX8_set_0 rfl (lv_at hl 1 rfl) ?_
  obtain ⟨v2, hc1, hf⟩ := c1_e hf
  refine q_S (w' := w) (rest := []) X hml hh (some (.int v2)) (m_X8_isHolder l B D hc1) cf_X8_isHolder k_956 rfl hl.1 rfl (Nat.le_of_ble_eq_true rfl) ⟨Nat.le_of_ble_eq_true rfl, Nat.le_of_ble_eq_true rfl⟩ ⟨Nat.zero_le _, Nat.zero_le _⟩ dX8_set_1 rfl (fun H locs hh => ?_)
  refine lv_if_ne (tgt := 9) hx hb dX8_set_4 (by decide) (fun hc3 => ?_) (fun hc3 => ?_)
  · have hf := if_f hc3 hf
    refine lv_aload_n hx hb dX8_set_9 rfl (lv_at hl 0 rfl) ?_
    refine lv_iload_n hx hb dX8_set_10 rfl (lv_at hl 1 rfl) ?_
    obtain ⟨v5, hc4, hf⟩ := c1_e hf
    refine q_V (w' := w) (rest := []) X hml hh (some (.int v5)) (m_X8_rowless l B D ht hc4) cf_X8_rowless k_983 ht ci_8 rfl rfl hl.1 rfl (Nat.le_of_ble_eq_true rfl) ⟨Nat.le_of_ble_eq_true rfl, Nat.le_of_ble_eq_true rfl⟩ ⟨Nat.zero_le _, Nat.zero_le _⟩ dX8_set_11 rfl (fun H locs hh => ?_)
    refine lv_if_eq (tgt := 23) hx hb dX8_set_14 (by decide) (fun hc6 => ?_) (fun hc6 => ?_)
    · have hf := if_t hc6 hf
      refine lv_iload_n hx hb dX8_set_23 rfl (lv_at hl 2 rfl) ?_
      refine lv_i2l hx hb dX8_set_24 rfl ?_
      refine lv_lconst (v := (0 : Int64)) hx hb dX8_set_25 (by decide) ?_
      refine lv_aload_n hx hb dX8_set_26 rfl (lv_at hl 0 rfl) ?_
      refine q_gr (P := 9) X hh ht fk_X8_49 dX8_set_27 hf (fun t7 h8 hf => ?_)
      refine lv_iload_n hx hb dX8_set_30 rfl (lv_at hl 1 rfl) ?_
      refine q_ald X hh h8 dX8_set_31 hf (fun hf => ?_)
      refine lv_iconst (v := (1 : Int32)) hx hb dX8_set_32 (by decide) ?_
      refine lv_isub hx hb dX8_set_33 ?_
      refine lv_i2l hx hb dX8_set_34 rfl ?_
      obtain ⟨v11, hc10, hf⟩ := c1_e hf
      refine q_S (w' := w) (rest := []) X hml hh (some (.int v11)) (m_X8_in l B D hc10) cf_X8_in k_767 rfl hl.1 rfl (Nat.le_of_ble_eq_true rfl) ⟨Nat.le_of_ble_eq_true rfl, Nat.le_of_ble_eq_true rfl⟩ ⟨Nat.zero_le _, Nat.zero_le _⟩ dX8_set_35 rfl (fun H locs hh => ?_)
      refine lv_if_ne (tgt := 44) hx hb dX8_set_38 (by decide) (fun hc12 => ?_) (fun hc12 => ?_)
      · have hf := if_f hc12 hf
        refine lv_aload_n hx hb dX8_set_44 rfl (lv_at hl 0 rfl) ?_
        refine q_gr (P := 9) X hh ht fk_X8_52 dX8_set_45 hf (fun t13 h14 hf => ?_)
        refine lv_bipush (v := (80 : Int32)) hx hb dX8_set_48 (by decide) ?_
        refine lv_iload_n hx hb dX8_set_50 rfl (lv_at hl 1 rfl) ?_
        refine lv_imul hx hb dX8_set_51 ?_
        refine lv_iload_n hx hb dX8_set_52 rfl (lv_at hl 2 rfl) ?_
        refine lv_iadd hx hb dX8_set_53 ?_
        refine lv_iload_n hx hb dX8_set_54 rfl (lv_at hl 3 rfl) ?_
        refine q_ast X hh h14 dX8_set_55 hf (fun w16 H locs hf hh => ?_)
        refine lv_iconst (v := (1 : Int32)) hx hb dX8_set_56 (by decide) ?_
        exact e_i X hr hlk hh (so2_e hf) dX8_set_57
      · have hf := if_t hc12 hf
        refine lv_bipush (v := (-13 : Int32)) hx hb dX8_set_41 (by decide) ?_
        exact e_i X hr hlk hh (so2_e hf) dX8_set_43
    · have hf := if_f hc6 hf
      refine lv_aload_n hx hb dX8_set_17 rfl (lv_at hl 0 rfl) ?_
      refine lv_iload_n hx hb dX8_set_18 rfl (lv_at hl 1 rfl) ?_
      obtain ⟨v18, hc17, hf⟩ := c1_e hf
      refine q_V (w' := w) (rest := []) X hml hh (some (.int v18)) (m_X8_rowless l B D ht hc17) cf_X8_rowless k_983 ht ci_8 rfl rfl hl.1 rfl (Nat.le_of_ble_eq_true rfl) ⟨Nat.le_of_ble_eq_true rfl, Nat.le_of_ble_eq_true rfl⟩ ⟨Nat.zero_le _, Nat.zero_le _⟩ dX8_set_19 rfl (fun H locs hh => ?_)
      exact e_i X hr hlk hh (so2_e hf) dX8_set_22
  · have hf := if_t hc3 hf
    refine lv_iconst (v := (-1 : Int32)) hx hb dX8_set_7 (by decide) ?_
    exact e_i X hr hlk hh (so2_e hf) dX8_set_8
set_option maxHeartbeats 4000000 in
set_option maxRecDepth 100000 in
theorem m_X8_get (l : Launch) (B : Nat) (D : DD) {t : Nat} {a0 : Int32} {a1 : Int32} {w : Wd} {r : Int64} (ht : t < 153 ∧ kd t = 8) (hf : f_X8_get t a0 a1 w = some r) : Ct l yX8_get cX8_get 3 (some .long) 2 45 0 0 B D [.ref (B + t), .int a0, .int a1] 153 w (some (.long r)) 153 w := by
  refine m_of (by decide) (Nat.le_of_ble_eq_true rfl) (fun p e s m args below meth c X hml hr hlk _ H locs hh ls hl => ?_)
  have hx := X.1
  have hb := X.2.1
  have hl : lv_has ls 3 [(0, .ref (B + t)), (1, .int a0), (2, .int a1)] := hl
  unfold f_X8_get at hf
  refine lv_iload_n hx hb dX8_get_0 rfl (lv_at hl 1 rfl) ?_
  obtain ⟨v2, hc1, hf⟩ := c1_e hf
  refine q_S (w' := w) (rest := []) X hml hh (some (.int v2)) (m_X8_isHolder l B D hc1) cf_X8_isHolder k_956 rfl hl.1 rfl (Nat.le_of_ble_eq_true rfl) ⟨Nat.le_of_ble_eq_true rfl, Nat.le_of_ble_eq_true rfl⟩ ⟨Nat.zero_le _, Nat.zero_le _⟩ dX8_get_1 rfl (fun H locs hh => ?_)
  refine jn_W (P := fun j4 => j4 = some r → ∀ (H : Heap) (locs : List Loc) (ls : Array Slot), Hp B D 153 w s H locs → lv_has ls 3 [] → W p l e (rmk 2 45 0 0) s m args below meth c H locs 0 0 (MZ below B D 153 w (some (.long r)) args s 0 0) (F0 m 50 ls [])) hf (fun  hf  H locs ls hh hl => ?_) (fun j4 hj4 hf => ?_)
  · refine lv_ldc2 hx hb X.2.2.1 (X.2.2.2.1 _ k_866) dX8_get_50 ?_
    exact e_l X hr hlk hh ⟨so_e hf, rfl⟩ dX8_get_53
  · refine lv_if_eq (tgt := 50) hx hb dX8_get_4 (by decide) (fun hc3 => ?_) (fun hc3 => ?_)
    · have hf := if_t hc3 hf
      exact hj4  hf  _ _ _ hh (lv_sub hl [] rfl)
    · have hf := if_f hc3 hf
      refine lv_aload_n hx hb dX8_get_7 rfl (lv_at hl 0 rfl) ?_
      refine q_gr (P := 9) X hh ht fk_X8_46 dX8_get_8 hf (fun t5 h6 hf => ?_)
      refine lv_iload_n hx hb dX8_get_11 rfl (lv_at hl 1 rfl) ?_
      refine q_ald X hh h6 dX8_get_12 hf (fun hf => ?_)
      refine lv_iconst (v := (2 : Int32)) hx hb dX8_get_13 (by decide) ?_
      refine lv_icmp_ne (tgt := 50) hx hb dX8_get_14 (by decide) (fun hc8 => ?_) (fun hc8 => ?_)
      · have hf := if_f hc8 hf
        exact hj4  hf  _ _ _ hh (lv_sub hl [] rfl)
      · have hf := if_t hc8 hf
        refine lv_iload_n hx hb dX8_get_17 rfl (lv_at hl 2 rfl) ?_
        refine lv_i2l hx hb dX8_get_18 rfl ?_
        refine lv_lconst (v := (0 : Int64)) hx hb dX8_get_19 (by decide) ?_
        refine lv_aload_n hx hb dX8_get_20 rfl (lv_at hl 0 rfl) ?_
        refine q_gr (P := 9) X hh ht fk_X8_49 dX8_get_21 hf (fun t9 h10 hf => ?_)
        refine lv_iload_n hx hb dX8_get_24 rfl (lv_at hl 1 rfl) ?_
        refine q_ald X hh h10 dX8_get_25 hf (fun hf => ?_)
        refine lv_iconst (v := (1 : Int32)) hx hb dX8_get_26 (by decide) ?_
        refine lv_isub hx hb dX8_get_27 ?_
        refine lv_i2l hx hb dX8_get_28 rfl ?_
        obtain ⟨v13, hc12, hf⟩ := c1_e hf
        refine q_S (w' := w) (rest := []) X hml hh (some (.int v13)) (m_X8_in l B D hc12) cf_X8_in k_767 rfl hl.1 rfl (Nat.le_of_ble_eq_true rfl) ⟨Nat.le_of_ble_eq_true rfl, Nat.le_of_ble_eq_true rfl⟩ ⟨Nat.zero_le _, Nat.zero_le _⟩ dX8_get_29 rfl (fun H locs hh => ?_)
        refine lv_if_eq (tgt := 50) hx hb dX8_get_32 (by decide) (fun hc14 => ?_) (fun hc14 => ?_)
        · have hf := if_t hc14 hf
          exact hj4  hf  _ _ _ hh (lv_sub hl [] rfl)
        · have hf := if_f hc14 hf
          refine lv_aload_n hx hb dX8_get_35 rfl (lv_at hl 0 rfl) ?_
          refine q_gr (P := 9) X hh ht fk_X8_52 dX8_get_36 hf (fun t15 h16 hf => ?_)
          refine lv_bipush (v := (80 : Int32)) hx hb dX8_get_39 (by decide) ?_
          refine lv_iload_n hx hb dX8_get_41 rfl (lv_at hl 1 rfl) ?_
          refine lv_imul hx hb dX8_get_42 ?_
          refine lv_iload_n hx hb dX8_get_43 rfl (lv_at hl 2 rfl) ?_
          refine lv_iadd hx hb dX8_get_44 ?_
          refine q_ald X hh h16 dX8_get_45 hf (fun hf => ?_)
          refine lv_i2l hx hb dX8_get_46 rfl ?_
          refine lv_goto (tgt := 53) hx hb dX8_get_47 (by decide) ?_
          exact e_l X hr hlk hh ⟨so_e hf, rfl⟩ dX8_get_53
set_option maxHeartbeats 4000000 in
set_option maxRecDepth 100000 in
theorem m_X8_judge (l : Launch) (B : Nat) (D : DD) {t : Nat} {a0 : Int32} {a1 : Int32} {a2 : Int32} {w : Wd} {r : Int32} {w' : Wd} (ht : t < 153 ∧ kd t = 8) (hf : f_X8_judge t a0 a1 a2 w = some (r, w')) : Ct l yX8_judge cX8_judge 5 (some .int) 3 81 0 0 B D [.ref (B + t), .int a0, .int a1, .int a2] 153 w (some (.int r)) 153 w' := by
  refine m_of (by decide) (Nat.le_of_ble_eq_true rfl) (fun p e s m args below meth c X hml hr hlk _ H locs hh ls hl => ?_)
  have hx := X.1
  have hb := X.2.1
  have hl : lv_has ls 5 [(0, .ref (B + t)), (1, .int a0), (2, .int a1), (3, .int a2)] := hl
  unfold f_X8_judge at hf
  refine lv_iload_n hx hb dX8_judge_0 rfl (lv_at hl 1 rfl) ?_
  obtain ⟨v2, hc1, hf⟩ := c1_e hf
  refine q_S (w' := w) (rest := []) X hml hh (some (.int v2)) (m_X8_isHolder l B D hc1) cf_X8_isHolder k_956 rfl hl.1 rfl (Nat.le_of_ble_eq_true rfl) ⟨Nat.le_of_ble_eq_true rfl, Nat.le_of_ble_eq_true rfl⟩ ⟨Nat.zero_le _, Nat.zero_le _⟩ dX8_judge_1 rfl (fun H locs hh => ?_)
  refine lv_if_eq (tgt := 16) hx hb dX8_judge_4 (by decide) (fun hc3 => ?_) (fun hc3 => ?_)
  · have hf := if_t hc3 hf
    refine lv_iconst (v := (-1 : Int32)) hx hb dX8_judge_16 (by decide) ?_
    exact e_i X hr hlk hh (so2_e hf) dX8_judge_17
  · have hf := if_f hc3 hf
    refine lv_aload_n hx hb dX8_judge_7 rfl (lv_at hl 0 rfl) ?_
    refine lv_iload_n hx hb dX8_judge_8 rfl (lv_at hl 2 rfl) ?_
    refine lv_iload_n hx hb dX8_judge_9 rfl (lv_at hl 3 rfl) ?_
    obtain ⟨v5, hc4, hf⟩ := c1_e hf
    refine q_V (w' := w) (rest := []) X hml hh (some (.int v5)) (m_X8_isCorner l B D ht hc4) cf_X8_isCorner k_822 ht ci_8 rfl rfl hl.1 rfl (Nat.le_of_ble_eq_true rfl) ⟨Nat.le_of_ble_eq_true rfl, Nat.le_of_ble_eq_true rfl⟩ ⟨Nat.zero_le _, Nat.zero_le _⟩ dX8_judge_10 rfl (fun H locs hh => ?_)
    refine lv_if_ne (tgt := 18) hx hb dX8_judge_13 (by decide) (fun hc6 => ?_) (fun hc6 => ?_)
    · have hf := if_f hc6 hf
      refine lv_aload_n hx hb dX8_judge_18 rfl (lv_at hl 0 rfl) ?_
      refine lv_iload_n hx hb dX8_judge_19 rfl (lv_at hl 1 rfl) ?_
      obtain ⟨v8, hc7, hf⟩ := c1_e hf
      refine q_V (w' := w) (rest := []) X hml hh (some (.int v8)) (m_X8_rowless l B D ht hc7) cf_X8_rowless k_983 ht ci_8 rfl rfl hl.1 rfl (Nat.le_of_ble_eq_true rfl) ⟨Nat.le_of_ble_eq_true rfl, Nat.le_of_ble_eq_true rfl⟩ ⟨Nat.zero_le _, Nat.zero_le _⟩ dX8_judge_20 rfl (fun H locs hh => ?_)
      refine lv_if_eq (tgt := 32) hx hb dX8_judge_23 (by decide) (fun hc9 => ?_) (fun hc9 => ?_)
      · have hf := if_t hc9 hf
        refine lv_aload_n hx hb dX8_judge_32 rfl (lv_at hl 0 rfl) ?_
        obtain ⟨w11, hc10, hf⟩ := c1_e hf
        refine q_V (w' := w11) (rest := []) X hml hh none (m_X8_growsAll l B D ht hc10) cf_X8_growsAll k_827 ht ci_8 rfl rfl hl.1 rfl (Nat.le_of_ble_eq_true rfl) ⟨Nat.le_of_ble_eq_true rfl, Nat.le_of_ble_eq_true rfl⟩ ⟨Nat.zero_le _, Nat.zero_le _⟩ dX8_judge_33 rfl (fun H locs hh => ?_)
        refine lv_iconst (v := (0 : Int32)) hx hb dX8_judge_36 (by decide) ?_
        refine lv_istore (lv' := [(4, .int (0 : Int32)), (0, .ref (B + t)), (1, .int a0), (2, .int a1), (3, .int a2)]) hx hb dX8_judge_37 hl (by decide) rfl (fun ls hl => ?_)
        refine wl1_W (P := fun (x12 : Int32) => ∀ (H : Heap) (locs : List Loc) (ls : Array Slot), Hp B D 153 w11 s H locs → lv_has ls 5 [(0, .ref (B + t)), (1, .int a0), (2, .int a1), (3, .int a2), (4, .int x12)] → W p l e (rmk 3 81 0 0) s m args below meth c H locs 0 0 (MZ below B D 153 w' (some (.int r)) args s 0 0) (F0 m 39 ls [])) hf (fun x12 k13 ih14 hf  H locs ls hh hl => ?_)  _ _ _ hh (lv_sub hl [1, 2, 3, 4, 0] rfl)
        refine lv_iload hx hb dX8_judge_39 (lv_at hl 4 rfl) ?_
        refine lv_bipush (v := (80 : Int32)) hx hb dX8_judge_41 (by decide) ?_
        refine lv_icmp_ge (tgt := 78) hx hb dX8_judge_43 (by decide) (fun hc15 => ?_) (fun hc15 => ?_)
        · have hf := if_t hc15 hf
          refine lv_bipush (v := (-2 : Int32)) hx hb dX8_judge_78 (by decide) ?_
          exact e_i X hr hlk hh (so2_e hf) dX8_judge_80
        · have hf := if_f hc15 hf
          refine lv_aload_n hx hb dX8_judge_46 rfl (lv_at hl 0 rfl) ?_
          refine q_gr (P := 9) X hh ht fk_X8_52 dX8_judge_47 hf (fun t16 h17 hf => ?_)
          refine lv_bipush (v := (80 : Int32)) hx hb dX8_judge_50 (by decide) ?_
          refine lv_iload_n hx hb dX8_judge_52 rfl (lv_at hl 1 rfl) ?_
          refine lv_imul hx hb dX8_judge_53 ?_
          refine lv_iload hx hb dX8_judge_54 (lv_at hl 4 rfl) ?_
          refine lv_iadd hx hb dX8_judge_56 ?_
          refine q_ald X hh h17 dX8_judge_57 hf (fun hf => ?_)
          refine lv_aload_n hx hb dX8_judge_58 rfl (lv_at hl 0 rfl) ?_
          refine lv_iload_n hx hb dX8_judge_59 rfl (lv_at hl 2 rfl) ?_
          refine lv_iload_n hx hb dX8_judge_60 rfl (lv_at hl 3 rfl) ?_
          refine lv_iload hx hb dX8_judge_61 (lv_at hl 4 rfl) ?_
          obtain ⟨v20, hc19, hf⟩ := c1_e hf
          refine q_V (w' := w11) (rest := [_]) X hml hh (some (.int v20)) (m_X8_partOf l B D ht hc19) cf_X8_partOf k_838 ht ci_8 rfl rfl hl.1 rfl (Nat.le_of_ble_eq_true rfl) ⟨Nat.le_of_ble_eq_true rfl, Nat.le_of_ble_eq_true rfl⟩ ⟨Nat.zero_le _, Nat.zero_le _⟩ dX8_judge_63 rfl (fun H locs hh => ?_)
          refine lv_icmp_eq (tgt := 72) hx hb dX8_judge_66 (by decide) (fun hc21 => ?_) (fun hc21 => ?_)
          · have hf := if_t hc21 hf
            obtain ⟨x22, e23⟩ : ∃ y : Int32, y = (x12 + (1 : Int32)) := ⟨_, rfl⟩
            have hf := lt_e e23 hf
            refine lv_iinc (v := x22) (lv' := [(4, .int x22), (0, .ref (B + t)), (1, .int a0), (2, .int a1), (3, .int a2)]) hx hb dX8_judge_72 hl (k := 4) rfl (by rw [e23]; rfl) (by decide) rfl (fun ls hl => ?_)
            refine lv_goto (tgt := 39) hx hb dX8_judge_75 (by decide) ?_
            exact ih14 _ hf  _ _ _ hh (lv_sub hl [1, 2, 3, 4, 0] rfl)
          · have hf := if_f hc21 hf
            refine lv_iload hx hb dX8_judge_69 (lv_at hl 4 rfl) ?_
            exact e_i X hr hlk hh (so2_e hf) dX8_judge_71
      · have hf := if_f hc9 hf
        refine lv_aload_n hx hb dX8_judge_26 rfl (lv_at hl 0 rfl) ?_
        refine lv_iload_n hx hb dX8_judge_27 rfl (lv_at hl 1 rfl) ?_
        obtain ⟨v25, hc24, hf⟩ := c1_e hf
        refine q_V (w' := w) (rest := []) X hml hh (some (.int v25)) (m_X8_rowless l B D ht hc24) cf_X8_rowless k_983 ht ci_8 rfl rfl hl.1 rfl (Nat.le_of_ble_eq_true rfl) ⟨Nat.le_of_ble_eq_true rfl, Nat.le_of_ble_eq_true rfl⟩ ⟨Nat.zero_le _, Nat.zero_le _⟩ dX8_judge_28 rfl (fun H locs hh => ?_)
        exact e_i X hr hlk hh (so2_e hf) dX8_judge_31
    · have hf := if_t hc6 hf
      refine lv_iconst (v := (-1 : Int32)) hx hb dX8_judge_16 (by decide) ?_
      exact e_i X hr hlk hh (so2_e hf) dX8_judge_17
set_option maxHeartbeats 4000000 in
set_option maxRecDepth 100000 in
theorem m_X8_image (l : Launch) (B : Nat) (D : DD) {t : Nat} {w : Wd} {r : Int32} {w' : Wd} (ht : t < 153 ∧ kd t = 8) (hf : f_X8_image t w = some (r, w')) : Ct l yX8_image cX8_image 1 (some .int) 1 23 0 0 B D [.ref (B + t)] 153 w (some (.int r)) 153 w' := by
  refine m_of (by decide) (Nat.le_of_ble_eq_true rfl) (fun p e s m args below meth c X hml hr hlk _ H locs hh ls hl => ?_)
  have hx := X.1
  have hb := X.2.1
  have hl : lv_has ls 1 [(0, .ref (B + t))] := hl
  unfold f_X8_image at hf
  refine lv_aload_n hx hb dX8_image_0 rfl (lv_at hl 0 rfl) ?_
  refine lv_aload_n hx hb dX8_image_1 rfl (lv_at hl 0 rfl) ?_
  refine q_gr (P := 9) X hh ht fk_X8_55 dX8_image_2 hf (fun t1 h2 hf => ?_)
  refine lv_iconst (v := (0 : Int32)) hx hb dX8_image_5 (by decide) ?_
  obtain ⟨w4, hc3, hf⟩ := c1_e hf
  refine q_V (w' := w4) (rest := []) X hml hh none (m_X8_lays l B D ht h2 hc3) cf_X8_lays k_750 ht ci_8 rfl rfl hl.1 rfl (Nat.le_of_ble_eq_true rfl) ⟨Nat.le_of_ble_eq_true rfl, Nat.le_of_ble_eq_true rfl⟩ ⟨Nat.zero_le _, Nat.zero_le _⟩ dX8_image_6 rfl (fun H locs hh => ?_)
  refine lv_aload_n hx hb dX8_image_9 rfl (lv_at hl 0 rfl) ?_
  refine lv_iconst (v := (1 : Int32)) hx hb dX8_image_10 (by decide) ?_
  refine q_pi X hh ht fk_X8_190 pk_8_19 rfl rfl dX8_image_11 hf (fun w5 H locs hf hh => ?_)
  refine lv_aload_n hx hb dX8_image_14 rfl (lv_at hl 0 rfl) ?_
  obtain ⟨v7, hc6, hf⟩ := c1_e hf
  refine q_V (w' := w5) (rest := []) X hml hh (some (.int v7)) (m_X8_filled l B D ht hc6) cf_X8_filled k_805 ht ci_8 rfl rfl hl.1 rfl (Nat.le_of_ble_eq_true rfl) ⟨Nat.le_of_ble_eq_true rfl, Nat.le_of_ble_eq_true rfl⟩ ⟨Nat.zero_le _, Nat.zero_le _⟩ dX8_image_15 rfl (fun H locs hh => ?_)
  exact e_i X hr hlk hh (so2_e hf) dX8_image_18
set_option maxHeartbeats 4000000 in
set_option maxRecDepth 100000 in
theorem m_X8_restore (l : Launch) (B : Nat) (D : DD) {t : Nat} {w : Wd} {r : Int32} {w' : Wd} (ht : t < 153 ∧ kd t = 8) (hf : f_X8_restore t w = some (r, w')) : Ct l yX8_restore cX8_restore 1 (some .int) 1 23 0 0 B D [.ref (B + t)] 153 w (some (.int r)) 153 w' := by
  refine m_of (by decide) (Nat.le_of_ble_eq_true rfl) (fun p e s m args below meth c X hml hr hlk _ H locs hh ls hl => ?_)
  have hx := X.1
  have hb := X.2.1
  have hl : lv_has ls 1 [(0, .ref (B + t))] := hl
  unfold f_X8_restore at hf
  refine lv_aload_n hx hb dX8_restore_0 rfl (lv_at hl 0 rfl) ?_
  refine r_gi X hh ht fk_X8_190 dX8_restore_1 ?_
  refine lv_if_ne (tgt := 10) hx hb dX8_restore_4 (by decide) (fun hc1 => ?_) (fun hc1 => ?_)
  · have hf := if_f hc1 hf
    refine lv_aload_n hx hb dX8_restore_10 rfl (lv_at hl 0 rfl) ?_
    refine lv_aload_n hx hb dX8_restore_11 rfl (lv_at hl 0 rfl) ?_
    refine q_gr (P := 9) X hh ht fk_X8_55 dX8_restore_12 hf (fun t2 h3 hf => ?_)
    refine lv_iconst (v := (0 : Int32)) hx hb dX8_restore_15 (by decide) ?_
    obtain ⟨w5, hc4, hf⟩ := c1_e hf
    refine q_V (w' := w5) (rest := []) X hml hh none (m_X8_takes l B D ht h3 hc4) cf_X8_takes k_754 ht ci_8 rfl rfl hl.1 rfl (Nat.le_of_ble_eq_true rfl) ⟨Nat.le_of_ble_eq_true rfl, Nat.le_of_ble_eq_true rfl⟩ ⟨Nat.zero_le _, Nat.zero_le _⟩ dX8_restore_16 rfl (fun H locs hh => ?_)
    refine lv_aload_n hx hb dX8_restore_19 rfl (lv_at hl 0 rfl) ?_
    refine lv_iconst (v := (0 : Int32)) hx hb dX8_restore_20 (by decide) ?_
    refine q_pi X hh ht fk_X8_65 pk_8_6 rfl rfl dX8_restore_21 hf (fun w6 H locs hf hh => ?_)
    refine lv_aload_n hx hb dX8_restore_24 rfl (lv_at hl 0 rfl) ?_
    refine lv_iconst (v := (0 : Int32)) hx hb dX8_restore_25 (by decide) ?_
    refine q_pi X hh ht fk_X8_72 pk_8_7 rfl rfl dX8_restore_26 hf (fun w7 H locs hf hh => ?_)
    refine lv_aload_n hx hb dX8_restore_29 rfl (lv_at hl 0 rfl) ?_
    obtain ⟨v9, hc8, hf⟩ := c1_e hf
    refine q_V (w' := w7) (rest := []) X hml hh (some (.int v9)) (m_X8_filled l B D ht hc8) cf_X8_filled k_805 ht ci_8 rfl rfl hl.1 rfl (Nat.le_of_ble_eq_true rfl) ⟨Nat.le_of_ble_eq_true rfl, Nat.le_of_ble_eq_true rfl⟩ ⟨Nat.zero_le _, Nat.zero_le _⟩ dX8_restore_30 rfl (fun H locs hh => ?_)
    exact e_i X hr hlk hh (so2_e hf) dX8_restore_33
  · have hf := if_t hc1 hf
    refine lv_bipush (v := (-5 : Int32)) hx hb dX8_restore_7 (by decide) ?_
    exact e_i X hr hlk hh (so2_e hf) dX8_restore_9
set_option maxHeartbeats 4000000 in
set_option maxRecDepth 100000 in
theorem m_X8_count (l : Launch) (B : Nat) (D : DD) {t : Nat} {a0 : Int32} {w : Wd} {r : Int32} (ht : t < 153 ∧ kd t = 8) (hf : f_X8_count t a0 w = some r) : Ct l yX8_count cX8_count 4 (some .int) 0 0 0 0 B D [.ref (B + t), .int a0] 153 w (some (.int r)) 153 w := by
  refine m_of (by decide) (Nat.le_of_ble_eq_true rfl) (fun p e s m args below meth c X hml hr hlk _ H locs hh ls hl => ?_)
  have hx := X.1
  have hb := X.2.1
  have hl : lv_has ls 4 [(0, .ref (B + t)), (1, .int a0)] := hl
  unfold f_X8_count at hf
  refine lv_iconst (v := (0 : Int32)) hx hb dX8_count_0 (by decide) ?_
  refine lv_istore_n (lv' := [(2, .int (0 : Int32)), (0, .ref (B + t)), (1, .int a0)]) hx hb dX8_count_1 rfl hl (by decide) rfl (fun ls hl => ?_)
  refine lv_iload_n hx hb dX8_count_2 rfl (lv_at hl 2 rfl) ?_
  by_cases hc1 : a0.toInt = 0
  · have hf := if_t hc1 hf
    refine lv_tableIn (off := 41) (tgt := 44) hx hb dX8_count_3 (by omega) (by omega) (by rw [hc1]; rfl) (by decide) ?_
    refine lv_aload_n hx hb dX8_count_44 rfl (lv_at hl 1 rfl) ?_
    refine r_gi X hh ht fk_X8_9 dX8_count_45 ?_
    exact e_i X hr hlk hh ⟨so_e hf, rfl⟩ dX8_count_48
  · have hf := if_f hc1 hf
    by_cases hc2 : a0.toInt = 1
    · have hf := if_t hc2 hf
      refine lv_tableIn (off := 46) (tgt := 49) hx hb dX8_count_3 (by omega) (by omega) (by rw [hc2]; rfl) (by decide) ?_
      refine lv_aload_n hx hb dX8_count_49 rfl (lv_at hl 1 rfl) ?_
      refine r_gi X hh ht fk_X8_15 dX8_count_50 ?_
      exact e_i X hr hlk hh ⟨so_e hf, rfl⟩ dX8_count_53
    · have hf := if_f hc2 hf
      by_cases hc3 : a0.toInt = 2
      · have hf := if_t hc3 hf
        refine lv_tableIn (off := 51) (tgt := 54) hx hb dX8_count_3 (by omega) (by omega) (by rw [hc3]; rfl) (by decide) ?_
        refine lv_aload_n hx hb dX8_count_54 rfl (lv_at hl 1 rfl) ?_
        refine r_gi X hh ht fk_X8_62 dX8_count_55 ?_
        exact e_i X hr hlk hh ⟨so_e hf, rfl⟩ dX8_count_58
      · have hf := if_f hc3 hf
        by_cases hc4 : a0.toInt = 3
        · have hf := if_t hc4 hf
          refine lv_tableIn (off := 56) (tgt := 59) hx hb dX8_count_3 (by omega) (by omega) (by rw [hc4]; rfl) (by decide) ?_
          refine lv_aload_n hx hb dX8_count_59 rfl (lv_at hl 1 rfl) ?_
          refine r_gi X hh ht fk_X8_65 dX8_count_60 ?_
          exact e_i X hr hlk hh ⟨so_e hf, rfl⟩ dX8_count_63
        · have hf := if_f hc4 hf
          by_cases hc5 : a0.toInt = 4
          · have hf := if_t hc5 hf
            refine lv_tableIn (off := 61) (tgt := 64) hx hb dX8_count_3 (by omega) (by omega) (by rw [hc5]; rfl) (by decide) ?_
            refine lv_aload_n hx hb dX8_count_64 rfl (lv_at hl 1 rfl) ?_
            refine r_gi X hh ht fk_X8_72 dX8_count_65 ?_
            exact e_i X hr hlk hh ⟨so_e hf, rfl⟩ dX8_count_68
          · have hf := if_f hc5 hf
            by_cases hc6 : a0.toInt = 5
            · have hf := if_t hc6 hf
              refine lv_tableIn (off := 66) (tgt := 69) hx hb dX8_count_3 (by omega) (by omega) (by rw [hc6]; rfl) (by decide) ?_
              refine lv_aload_n hx hb dX8_count_69 rfl (lv_at hl 1 rfl) ?_
              refine r_gi X hh ht fk_X8_167 dX8_count_70 ?_
              exact e_i X hr hlk hh ⟨so_e hf, rfl⟩ dX8_count_73
            · have hf := if_f hc6 hf
              by_cases hc7 : a0.toInt = 6
              · have hf := if_t hc7 hf
                refine lv_tableIn (off := 71) (tgt := 74) hx hb dX8_count_3 (by omega) (by omega) (by rw [hc7]; rfl) (by decide) ?_
                refine lv_iconst (v := (0 : Int32)) hx hb dX8_count_74 (by decide) ?_
                refine lv_istore_n (lv' := [(3, .int (0 : Int32)), (2, .int (0 : Int32)), (0, .ref (B + t)), (1, .int a0)]) hx hb dX8_count_75 rfl hl (by decide) rfl (fun ls hl => ?_)
                refine wl2_W (P := fun (x8 : Int32) (x9 : Int32) => ∀ (H : Heap) (locs : List Loc) (ls : Array Slot), Hp B D 153 w s H locs → lv_has ls 4 [(0, .ref (B + t)), (2, .int x8), (3, .int x9)] → W p l e (rmk 0 0 0 0) s m args below meth c H locs 0 0 (MZ below B D 153 w (some (.int r)) args s 0 0) (F0 m 76 ls [])) hf (fun x8 x9 k10 ih11 hf  H locs ls hh hl => ?_)  _ _ _ hh (lv_sub hl [2, 1, 0] rfl)
                refine lv_iload_n hx hb dX8_count_76 rfl (lv_at hl 2 rfl) ?_
                refine lv_bipush (v := (25 : Int32)) hx hb dX8_count_77 (by decide) ?_
                refine lv_icmp_ge (tgt := 97) hx hb dX8_count_79 (by decide) (fun hc12 => ?_) (fun hc12 => ?_)
                · have hf := if_t hc12 hf
                  refine lv_iload_n hx hb dX8_count_97 rfl (lv_at hl 1 rfl) ?_
                  exact e_i X hr hlk hh ⟨so_e hf, rfl⟩ dX8_count_98
                · have hf := if_f hc12 hf
                  refine lv_iload_n hx hb dX8_count_82 rfl (lv_at hl 1 rfl) ?_
                  refine lv_aload_n hx hb dX8_count_83 rfl (lv_at hl 0 rfl) ?_
                  refine q_gr (P := 9) X hh ht fk_X8_18 dX8_count_84 hf (fun t13 h14 hf => ?_)
                  refine lv_iload_n hx hb dX8_count_87 rfl (lv_at hl 2 rfl) ?_
                  refine q_ald X hh h14 dX8_count_88 hf (fun hf => ?_)
                  refine lv_iadd hx hb dX8_count_89 ?_
                  refine lv_topi (fun x16 e17 => ?_)
                  have hf := lt_e e17 hf
                  refine lv_istore_n (lv' := [(2, .int x16), (0, .ref (B + t)), (3, .int x9)]) hx hb dX8_count_90 rfl hl (by decide) rfl (fun ls hl => ?_)
                  obtain ⟨x18, e19⟩ : ∃ y : Int32, y = (x9 + (1 : Int32)) := ⟨_, rfl⟩
                  have hf := lt_e e19 hf
                  refine lv_iinc (v := x18) (lv' := [(3, .int x18), (2, .int x16), (0, .ref (B + t))]) hx hb dX8_count_91 hl (k := 2) rfl (by rw [e19]; rfl) (by decide) rfl (fun ls hl => ?_)
                  refine lv_goto (tgt := 76) hx hb dX8_count_94 (by decide) ?_
                  exact ih11 _ _ hf  _ _ _ hh (lv_sub hl [2, 1, 0] rfl)
              · have hf := if_f hc7 hf
                refine lv_tableOut (tgt := 99) hx hb dX8_count_3 (by omega) (by decide) ?_
                refine lv_iconst (v := (-1 : Int32)) hx hb dX8_count_99 (by decide) ?_
                exact e_i X hr hlk hh ⟨so_e hf, rfl⟩ dX8_count_100

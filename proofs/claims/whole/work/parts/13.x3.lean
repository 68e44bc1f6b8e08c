set_option maxHeartbeats 4000000 in
set_option maxRecDepth 100000 in
theorem m_X3_hasShape (l : Launch) (B : Nat) (D : DD) {t : Nat} {w : Wd} {r : Int32} (ht : t < 153 ∧ kd t = 3) (hf : f_X3_hasShape t w = some r) : Ct l yX3_hasShape cX3_hasShape 1 (some .boolean) 0 0 0 0 B D [.ref (B + t)] 153 w (some (.int r)) 153 w := by
  refine m_of (by decide) (Nat.le_of_ble_eq_true rfl) (fun p e s m args below meth c X hml hr hlk _ H locs hh ls hl => ?_)
  have hx := X.1
  have hb := X.2.1
  have hl : lv_has ls 1 [(0, .ref (B + t))] := hl
  unfold f_X3_hasShape at hf
  refine lv_aload_n hx hb dX3_hasShape_0 rfl (lv_at hl 0 rfl) ?_
  refine r_gi X hh ht fk_X3_9 dX3_hasShape_1 ?_
  refine lv_iconst (v := (1 : Int32)) hx hb dX3_hasShape_4 (by decide) ?_
  refine mg_W (P := fun (x3 : Int32) => ∀ (ls : Array Slot), lv_has ls 1 [] → W p l e (rmk 0 0 0 0) s m args below meth c H locs 0 0 (MZ below B D 153 w (some (.int r)) args s 0 0) (F0 m 21 ls [.int x3])) hf (fun x3 hf ls hl => ?_) (fun hj4 => ?_)
  · have hz := zb_e hf
    have hf := hz.2
    exact e_z X hr hlk hh hz.1 ⟨so_e hf, rfl⟩ dX3_hasShape_21
  · refine lv_icmp_eq (tgt := 16) hx hb dX3_hasShape_5 (by decide) (fun hc1 => ?_) (fun hc1 => ?_)
    · refine lv_iconst (v := (1 : Int32)) hx hb dX3_hasShape_16 (by decide) ?_
      refine lv_goto (tgt := 21) hx hb dX3_hasShape_17 (by decide) ?_
      exact hj4 _ (by rw [if_pos hc1]) ls (lv_sub hl [] rfl)
    · refine lv_aload_n hx hb dX3_hasShape_8 rfl (lv_at hl 0 rfl) ?_
      refine r_gi X hh ht fk_X3_9 dX3_hasShape_9 ?_
      refine lv_iconst (v := (2 : Int32)) hx hb dX3_hasShape_12 (by decide) ?_
      refine lv_icmp_ne (tgt := 20) hx hb dX3_hasShape_13 (by decide) (fun hc2 => ?_) (fun hc2 => ?_)
      · refine lv_iconst (v := (0 : Int32)) hx hb dX3_hasShape_20 (by decide) ?_
        exact hj4 _ (by rw [if_neg hc1, if_neg hc2]) ls (lv_sub hl [] rfl)
      · refine lv_iconst (v := (1 : Int32)) hx hb dX3_hasShape_16 (by decide) ?_
        refine lv_goto (tgt := 21) hx hb dX3_hasShape_17 (by decide) ?_
        exact hj4 _ (by rw [if_neg hc1, if_pos hc2]) ls (lv_sub hl [] rfl)
set_option maxHeartbeats 4000000 in
set_option maxRecDepth 100000 in
theorem m_X3_hasRow (l : Launch) (B : Nat) (D : DD) {t : Nat} {w : Wd} {r : Int32} (ht : t < 153 ∧ kd t = 3) (hf : f_X3_hasRow t w = some r) : Ct l yX3_hasRow cX3_hasRow 1 (some .boolean) 0 0 0 0 B D [.ref (B + t)] 153 w (some (.int r)) 153 w := by
  refine m_of (by decide) (Nat.le_of_ble_eq_true rfl) (fun p e s m args below meth c X hml hr hlk _ H locs hh ls hl => ?_)
  have hx := X.1
  have hb := X.2.1
  have hl : lv_has ls 1 [(0, .ref (B + t))] := hl
  unfold f_X3_hasRow at hf
  refine lv_aload_n hx hb dX3_hasRow_0 rfl (lv_at hl 0 rfl) ?_
  refine r_gi X hh ht fk_X3_9 dX3_hasRow_1 ?_
  refine lv_iconst (v := (3 : Int32)) hx hb dX3_hasRow_4 (by decide) ?_
  refine mg_W (P := fun (x2 : Int32) => ∀ (ls : Array Slot), lv_has ls 1 [] → W p l e (rmk 0 0 0 0) s m args below meth c H locs 0 0 (MZ below B D 153 w (some (.int r)) args s 0 0) (F0 m 13 ls [.int x2])) hf (fun x2 hf ls hl => ?_) (fun hj3 => ?_)
  · have hz := zb_e hf
    have hf := hz.2
    exact e_z X hr hlk hh hz.1 ⟨so_e hf, rfl⟩ dX3_hasRow_13
  · refine lv_icmp_ne (tgt := 12) hx hb dX3_hasRow_5 (by decide) (fun hc1 => ?_) (fun hc1 => ?_)
    · refine lv_iconst (v := (0 : Int32)) hx hb dX3_hasRow_12 (by decide) ?_
      exact hj3 _ (by rw [if_neg hc1]) ls (lv_sub hl [] rfl)
    · refine lv_iconst (v := (1 : Int32)) hx hb dX3_hasRow_8 (by decide) ?_
      refine lv_goto (tgt := 13) hx hb dX3_hasRow_9 (by decide) ?_
      exact hj3 _ (by rw [if_pos hc1]) ls (lv_sub hl [] rfl)
set_option maxHeartbeats 4000000 in
set_option maxRecDepth 100000 in
theorem m_X3_hasPlace (l : Launch) (B : Nat) (D : DD) {t : Nat} {a0 : Int32} {w : Wd} {r : Int32} (ht : t < 153 ∧ kd t = 3) (hf : f_X3_hasPlace t a0 w = some r) : Ct l yX3_hasPlace cX3_hasPlace 2 (some .boolean) 0 0 0 0 B D [.ref (B + t), .int a0] 153 w (some (.int r)) 153 w := by
  refine m_of (by decide) (Nat.le_of_ble_eq_true rfl) (fun p e s m args below meth c X hml hr hlk _ H locs hh ls hl => ?_)
  have hx := X.1
  have hb := X.2.1
  have hl : lv_has ls 2 [(0, .ref (B + t)), (1, .int a0)] := hl
  unfold f_X3_hasPlace at hf
  refine lv_iload_n hx hb dX3_hasPlace_0 rfl (lv_at hl 1 rfl) ?_
  refine mg_W (P := fun (x3 : Int32) => ∀ (ls : Array Slot), lv_has ls 2 [] → W p l e (rmk 0 0 0 0) s m args below meth c H locs 0 0 (MZ below B D 153 w (some (.int r)) args s 0 0) (F0 m 17 ls [.int x3])) hf (fun x3 hf ls hl => ?_) (fun hj4 => ?_)
  · have hz := zb_e hf
    have hf := hz.2
    exact e_z X hr hlk hh hz.1 ⟨so_e hf, rfl⟩ dX3_hasPlace_17
  · refine lv_if_lt (tgt := 16) hx hb dX3_hasPlace_1 (by decide) (fun hc1 => ?_) (fun hc1 => ?_)
    · refine lv_iconst (v := (0 : Int32)) hx hb dX3_hasPlace_16 (by decide) ?_
      exact hj4 _ (by rw [if_pos hc1]) ls (lv_sub hl [] rfl)
    · refine lv_iload_n hx hb dX3_hasPlace_4 rfl (lv_at hl 1 rfl) ?_
      refine lv_aload_n hx hb dX3_hasPlace_5 rfl (lv_at hl 0 rfl) ?_
      refine r_gi X hh ht fk_X3_26 dX3_hasPlace_6 ?_
      refine lv_icmp_ge (tgt := 16) hx hb dX3_hasPlace_9 (by decide) (fun hc2 => ?_) (fun hc2 => ?_)
      · refine lv_iconst (v := (0 : Int32)) hx hb dX3_hasPlace_16 (by decide) ?_
        exact hj4 _ (by rw [if_neg hc1, if_pos hc2]) ls (lv_sub hl [] rfl)
      · refine lv_iconst (v := (1 : Int32)) hx hb dX3_hasPlace_12 (by decide) ?_
        refine lv_goto (tgt := 17) hx hb dX3_hasPlace_13 (by decide) ?_
        exact hj4 _ (by rw [if_neg hc1, if_neg hc2]) ls (lv_sub hl [] rfl)
set_option maxHeartbeats 4000000 in
set_option maxRecDepth 100000 in
theorem m_X3_refusal (l : Launch) (B : Nat) (D : DD) {t : Nat} {w : Wd} {r : Int32} (ht : t < 153 ∧ kd t = 3) (hf : f_X3_refusal t w = some r) : Ct l yX3_refusal cX3_refusal 1 (some .int) 0 0 0 0 B D [.ref (B + t)] 153 w (some (.int r)) 153 w := by
  refine m_of (by decide) (Nat.le_of_ble_eq_true rfl) (fun p e s m args below meth c X hml hr hlk _ H locs hh ls hl => ?_)
  have hx := X.1
  have hb := X.2.1
  have hl : lv_has ls 1 [(0, .ref (B + t))] := hl
  unfold f_X3_refusal at hf
  refine lv_aload_n hx hb dX3_refusal_0 rfl (lv_at hl 0 rfl) ?_
  refine r_gi X hh ht fk_X3_9 dX3_refusal_1 ?_
  refine mg_W (P := fun (x2 : Int32) => ∀ (ls : Array Slot), lv_has ls 1 [] → W p l e (rmk 0 0 0 0) s m args below meth c H locs 0 0 (MZ below B D 153 w (some (.int r)) args s 0 0) (F0 m 14 ls [.int x2])) hf (fun x2 hf ls hl => ?_) (fun hj3 => ?_)
  · exact e_i X hr hlk hh ⟨so_e hf, rfl⟩ dX3_refusal_14
  · refine lv_if_ne (tgt := 12) hx hb dX3_refusal_4 (by decide) (fun hc1 => ?_) (fun hc1 => ?_)
    · refine lv_bipush (v := (-12 : Int32)) hx hb dX3_refusal_12 (by decide) ?_
      exact hj3 _ (by rw [if_neg hc1]) ls (lv_sub hl [] rfl)
    · refine lv_bipush (v := (-11 : Int32)) hx hb dX3_refusal_7 (by decide) ?_
      refine lv_goto (tgt := 14) hx hb dX3_refusal_9 (by decide) ?_
      exact hj3 _ (by rw [if_pos hc1]) ls (lv_sub hl [] rfl)
set_option maxHeartbeats 4000000 in
set_option maxRecDepth 100000 in
theorem m_X3_keepShape (l : Launch) (B : Nat) (D : DD) {t : Nat} {a0 : Nat} {w : Wd} {w' : Wd} (ht : t < 153 ∧ kd t = 3) (ha0 : a0 < 153 ∧ kd a0 = 5) (hf : f_X3_keepShape t a0 w = some w') : Ct l yX3_keepShape cX3_keepShape 2 none 1 22 0 0 B D [.ref (B + t), .ref (B + a0)] 153 w none 153 w' := by
  refine m_of (by decide) (Nat.le_of_ble_eq_true rfl) (fun p e s m args below meth c X hml hr hlk _ H locs hh ls hl => ?_)
  have hx := X.1
  have hb := X.2.1
  have hl : lv_has ls 2 [(0, .ref (B + t)), (1, .ref (B + a0))] := hl
  unfold f_X3_keepShape at hf
  refine lv_aload_n hx hb dX3_keepShape_0 rfl (lv_at hl 0 rfl) ?_
  refine q_gr (P := 5) X hh ht fk_X3_18 dX3_keepShape_1 hf (fun t1 h2 hf => ?_)
  refine lv_aload_n hx hb dX3_keepShape_4 rfl (lv_at hl 1 rfl) ?_
  obtain ⟨w4, hc3, hf⟩ := c1_e hf
  refine q_V (w' := w4) (rest := []) X hml hh none (m_X5_copyFrom l B D h2 ha0 hc3) cf_X5_copyFrom k_600 h2 ci_5 rfl rfl hl.1 rfl (Nat.le_of_ble_eq_true rfl) ⟨Nat.le_of_ble_eq_true rfl, Nat.le_of_ble_eq_true rfl⟩ ⟨Nat.zero_le _, Nat.zero_le _⟩ dX3_keepShape_5 rfl (fun H locs hh => ?_)
  refine lv_aload_n hx hb dX3_keepShape_8 rfl (lv_at hl 0 rfl) ?_
  refine lv_aload_n hx hb dX3_keepShape_9 rfl (lv_at hl 1 rfl) ?_
  refine r_gi X hh ha0 fk_X3_33 dX3_keepShape_10 ?_
  refine lv_iconst (v := (1 : Int32)) hx hb dX3_keepShape_13 (by decide) ?_
  refine mg_W (P := fun (x6 : Int32) => ∀ (ls : Array Slot), lv_has ls 2 [] → W p l e (rmk 1 22 0 0) s m args below meth c H locs 0 0 (MZ below B D 153 w' none args s 0 0) (F0 m 22 ls [.int x6, .ref (B + t)])) hf (fun x6 hf ls hl => ?_) (fun hj8 => ?_)
  · refine q_pi X hh ht fk_X3_9 pk_3_0 rfl rfl dX3_keepShape_22 hf (fun w7 H locs hf hh => ?_)
    exact e_v X hr hlk hh ⟨rfl, so_e hf⟩ dX3_keepShape_25
  · refine lv_icmp_gt (tgt := 21) hx hb dX3_keepShape_14 (by decide) (fun hc5 => ?_) (fun hc5 => ?_)
    · refine lv_iconst (v := (2 : Int32)) hx hb dX3_keepShape_21 (by decide) ?_
      exact hj8 _ (by rw [if_pos hc5]) ls (lv_sub hl [] rfl)
    · refine lv_iconst (v := (1 : Int32)) hx hb dX3_keepShape_17 (by decide) ?_
      refine lv_goto (tgt := 22) hx hb dX3_keepShape_18 (by decide) ?_
      exact hj8 _ (by rw [if_neg hc5]) ls (lv_sub hl [] rfl)
set_option maxHeartbeats 4000000 in
set_option maxRecDepth 100000 in
theorem m_X3_beginRow (l : Launch) (B : Nat) (D : DD) {t : Nat} {a0 : Int32} {w : Wd} {w' : Wd} (ht : t < 153 ∧ kd t = 3) (hf : f_X3_beginRow t a0 w = some w') : Ct l yX3_beginRow cX3_beginRow 3 none 0 0 0 0 B D [.ref (B + t), .int a0] 153 w none 153 w' := by
  refine m_of (by decide) (Nat.le_of_ble_eq_true rfl) (fun p e s m args below meth c X hml hr hlk _ H locs hh ls hl => ?_)
  have hx := X.1
  have hb := X.2.1
  have hl : lv_has ls 3 [(0, .ref (B + t)), (1, .int a0)] := hl
  unfold f_X3_beginRow at hf
  refine lv_aload_n hx hb dX3_beginRow_0 rfl (lv_at hl 0 rfl) ?_
  refine lv_iconst (v := (3 : Int32)) hx hb dX3_beginRow_1 (by decide) ?_
  refine q_pi X hh ht fk_X3_9 pk_3_0 rfl rfl dX3_beginRow_2 hf (fun w1 H locs hf hh => ?_)
  refine lv_aload_n hx hb dX3_beginRow_5 rfl (lv_at hl 0 rfl) ?_
  refine lv_iload_n hx hb dX3_beginRow_6 rfl (lv_at hl 1 rfl) ?_
  refine q_pi X hh ht fk_X3_26 pk_3_3 rfl rfl dX3_beginRow_7 hf (fun w2 H locs hf hh => ?_)
  refine lv_iconst (v := (0 : Int32)) hx hb dX3_beginRow_10 (by decide) ?_
  refine lv_istore_n (lv' := [(2, .int (0 : Int32)), (0, .ref (B + t)), (1, .int a0)]) hx hb dX3_beginRow_11 rfl hl (by decide) rfl (fun ls hl => ?_)
  refine wl2_W (P := fun (x3 : Int32) (w4 : Wd) => ∀ (H : Heap) (locs : List Loc) (ls : Array Slot), Hp B D 153 w4 s H locs → lv_has ls 3 [(0, .ref (B + t)), (2, .int x3)] → W p l e (rmk 0 0 0 0) s m args below meth c H locs 0 0 (MZ below B D 153 w' none args s 0 0) (F0 m 12 ls [])) hf (fun x3 w4 k5 ih6 hf  H locs ls hh hl => ?_)  _ _ _ hh (lv_sub hl [1, 0] rfl)
  refine lv_iload_n hx hb dX3_beginRow_12 rfl (lv_at hl 1 rfl) ?_
  refine lv_bipush (v := (30 : Int32)) hx hb dX3_beginRow_13 (by decide) ?_
  refine lv_icmp_ge (tgt := 31) hx hb dX3_beginRow_15 (by decide) (fun hc7 => ?_) (fun hc7 => ?_)
  · have hf := if_t hc7 hf
    exact e_v X hr hlk hh ⟨rfl, so_e hf⟩ dX3_beginRow_31
  · have hf := if_f hc7 hf
    refine lv_aload_n hx hb dX3_beginRow_18 rfl (lv_at hl 0 rfl) ?_
    refine q_gr (P := 9) X hh ht fk_X3_22 dX3_beginRow_19 hf (fun t8 h9 hf => ?_)
    refine lv_iload_n hx hb dX3_beginRow_22 rfl (lv_at hl 1 rfl) ?_
    refine lv_iconst (v := (0 : Int32)) hx hb dX3_beginRow_23 (by decide) ?_
    refine q_ast X hh h9 dX3_beginRow_24 hf (fun w11 H locs hf hh => ?_)
    obtain ⟨x12, e13⟩ : ∃ y : Int32, y = (x3 + (1 : Int32)) := ⟨_, rfl⟩
    have hf := lt_e e13 hf
    refine lv_iinc (v := x12) (lv' := [(2, .int x12), (0, .ref (B + t))]) hx hb dX3_beginRow_25 hl (k := 1) rfl (by rw [e13]; rfl) (by decide) rfl (fun ls hl => ?_)
    refine lv_goto (tgt := 12) hx hb dX3_beginRow_28 (by decide) ?_
    exact ih6 _ _ hf  _ _ _ hh (lv_sub hl [1, 0] rfl)
set_option maxHeartbeats 4000000 in
set_option maxRecDepth 100000 in
theorem m_X3_firstOtherwise (l : Launch) (B : Nat) (D : DD) {t : Nat} {a0 : Nat} {w : Wd} {r : Int32} (ht : t < 153 ∧ kd t = 3) (ha0 : a0 < 153 ∧ kd a0 = 5) (hf : f_X3_firstOtherwise t a0 w = some r) : Ct l yX3_firstOtherwise cX3_firstOtherwise 5 (some .int) 1 21 0 0 B D [.ref (B + t), .ref (B + a0)] 153 w (some (.int r)) 153 w := by
  refine m_of (by decide) (Nat.le_of_ble_eq_true rfl) (fun p e s m args below meth c X hml hr hlk _ H locs hh ls hl => ?_)
  have hx := X.1
  have hb := X.2.1
  have hl : lv_has ls 5 [(0, .ref (B + t)), (1, .ref (B + a0))] := hl
  unfold f_X3_firstOtherwise at hf
  refine lv_aload_n hx hb dX3_firstOtherwise_0 rfl (lv_at hl 0 rfl) ?_
  refine r_gi X hh ht fk_X3_26 dX3_firstOtherwise_1 ?_
  refine lv_aload_n hx hb dX3_firstOtherwise_4 rfl (lv_at hl 1 rfl) ?_
  refine r_gi X hh ha0 fk_X3_33 dX3_firstOtherwise_5 ?_
  refine q_max X hml hl.1 k_656 (Nat.le_of_ble_eq_true rfl) ⟨Nat.le_of_ble_eq_true rfl, Nat.le_of_ble_eq_true rfl⟩ ⟨Nat.zero_le _, Nat.zero_le _⟩ dX3_firstOtherwise_8 ?_
  refine lv_topi (fun x1 e2 => ?_)
  have hf := lt_e e2 hf
  refine lv_istore_n (lv' := [(2, .int x1), (0, .ref (B + t)), (1, .ref (B + a0))]) hx hb dX3_firstOtherwise_11 rfl hl (by decide) rfl (fun ls hl => ?_)
  refine lv_iconst (v := (0 : Int32)) hx hb dX3_firstOtherwise_12 (by decide) ?_
  refine lv_istore_n (lv' := [(3, .int (0 : Int32)), (2, .int x1), (0, .ref (B + t)), (1, .ref (B + a0))]) hx hb dX3_firstOtherwise_13 rfl hl (by decide) rfl (fun ls hl => ?_)
  refine wl1_W (P := fun (x3 : Int32) => ∀ (H : Heap) (locs : List Loc) (ls : Array Slot), Hp B D 153 w s H locs → lv_has ls 5 [(0, .ref (B + t)), (1, .ref (B + a0)), (2, .int x1), (3, .int x3)] → W p l e (rmk 1 21 0 0) s m args below meth c H locs 0 0 (MZ below B D 153 w (some (.int r)) args s 0 0) (F0 m 14 ls [])) hf (fun x3 k4 ih5 hf  H locs ls hh hl => ?_)  _ _ _ hh (lv_sub hl [2, 3, 1, 0] rfl)
  refine lv_iload_n hx hb dX3_firstOtherwise_14 rfl (lv_at hl 3 rfl) ?_
  refine lv_iload_n hx hb dX3_firstOtherwise_15 rfl (lv_at hl 2 rfl) ?_
  refine lv_icmp_ge (tgt := 57) hx hb dX3_firstOtherwise_16 (by decide) (fun hc6 => ?_) (fun hc6 => ?_)
  · have hf := if_t hc6 hf
    refine lv_bipush (v := (-2 : Int32)) hx hb dX3_firstOtherwise_57 (by decide) ?_
    exact e_i X hr hlk hh ⟨so_e hf, rfl⟩ dX3_firstOtherwise_59
  · have hf := if_f hc6 hf
    refine lv_aload_n hx hb dX3_firstOtherwise_19 rfl (lv_at hl 0 rfl) ?_
    refine lv_iload_n hx hb dX3_firstOtherwise_20 rfl (lv_at hl 3 rfl) ?_
    obtain ⟨v8, hc7, hf⟩ := c1_e hf
    refine q_V (w' := w) (rest := []) X hml hh (some (.int v8)) (m_X3_hasPlace l B D ht hc7) cf_X3_hasPlace k_657 ht ci_3 rfl rfl hl.1 rfl (Nat.le_of_ble_eq_true rfl) ⟨Nat.le_of_ble_eq_true rfl, Nat.le_of_ble_eq_true rfl⟩ ⟨Nat.zero_le _, Nat.zero_le _⟩ dX3_firstOtherwise_21 rfl (fun H locs hh => ?_)
    refine jn_W (P := fun j11 => ∀ (x10 : Int32), j11 x10 = some r → ∀ (H : Heap) (locs : List Loc) (ls : Array Slot), Hp B D 153 w s H locs → lv_has ls 5 [(0, .ref (B + t)), (1, .ref (B + a0)), (2, .int x1), (3, .int x3)] → W p l e (rmk 1 21 0 0) s m args below meth c H locs 0 0 (MZ below B D 153 w (some (.int r)) args s 0 0) (F0 m 37 ls [.int x10])) hf (fun x10 hf  H locs ls hh hl => ?_) (fun j11 hj11 hf => ?_)
    · refine lv_istore (lv' := [(4, .int x10), (0, .ref (B + t)), (1, .ref (B + a0)), (2, .int x1), (3, .int x3)]) hx hb dX3_firstOtherwise_37 hl (by decide) rfl (fun ls hl => ?_)
      refine lv_iload hx hb dX3_firstOtherwise_39 (lv_at hl 0 rfl) ?_
      refine lv_aload_n hx hb dX3_firstOtherwise_41 rfl (lv_at hl 2 rfl) ?_
      refine lv_iload_n hx hb dX3_firstOtherwise_42 rfl (lv_at hl 4 rfl) ?_
      obtain ⟨v13, hc12, hf⟩ := c1_e hf
      refine q_V (w' := w) (rest := [.int x10]) X hml hh (some (.int v13)) (m_X5_partAt l B D ha0 hc12) cf_X5_partAt k_658 ha0 ci_5 rfl rfl hl.1 rfl (Nat.le_of_ble_eq_true rfl) ⟨Nat.le_of_ble_eq_true rfl, Nat.le_of_ble_eq_true rfl⟩ ⟨Nat.zero_le _, Nat.zero_le _⟩ dX3_firstOtherwise_43 rfl (fun H locs hh => ?_)
      refine lv_icmp_eq (tgt := 51) hx hb dX3_firstOtherwise_46 (by decide) (fun hc14 => ?_) (fun hc14 => ?_)
      · have hf := if_t hc14 hf
        obtain ⟨x15, e16⟩ : ∃ y : Int32, y = (x3 + (1 : Int32)) := ⟨_, rfl⟩
        have hf := lt_e e16 hf
        refine lv_iinc (v := x15) (lv' := [(3, .int x15), (4, .int x10), (0, .ref (B + t)), (1, .ref (B + a0)), (2, .int x1)]) hx hb dX3_firstOtherwise_51 hl (k := 4) rfl (by rw [e16]; rfl) (by decide) rfl (fun ls hl => ?_)
        refine lv_goto (tgt := 14) hx hb dX3_firstOtherwise_54 (by decide) ?_
        exact ih5 _ hf  _ _ _ hh (lv_sub hl [2, 3, 4, 0] rfl)
      · have hf := if_f hc14 hf
        refine lv_iload_n hx hb dX3_firstOtherwise_49 rfl (lv_at hl 4 rfl) ?_
        exact e_i X hr hlk hh ⟨so_e hf, rfl⟩ dX3_firstOtherwise_50
    · refine lv_if_eq (tgt := 36) hx hb dX3_firstOtherwise_24 (by decide) (fun hc9 => ?_) (fun hc9 => ?_)
      · have hf := if_t hc9 hf
        refine lv_iconst (v := (0 : Int32)) hx hb dX3_firstOtherwise_36 (by decide) ?_
        exact hj11 _ hf  _ _ _ hh (lv_sub hl [0, 1, 2, 3] rfl)
      · have hf := if_f hc9 hf
        refine lv_aload_n hx hb dX3_firstOtherwise_27 rfl (lv_at hl 0 rfl) ?_
        refine q_gr (P := 9) X hh ht fk_X3_22 dX3_firstOtherwise_28 hf (fun t17 h18 hf => ?_)
        refine lv_iload_n hx hb dX3_firstOtherwise_31 rfl (lv_at hl 3 rfl) ?_
        refine q_ald X hh h18 dX3_firstOtherwise_32 hf (fun hf => ?_)
        refine lv_topi (fun x20 e21 => ?_)
        have hf := lt_e e21 hf
        refine lv_goto (tgt := 37) hx hb dX3_firstOtherwise_33 (by decide) ?_
        exact hj11 _ hf  _ _ _ hh (lv_sub hl [0, 1, 2, 3] rfl)

set_option maxHeartbeats 4000000 in
set_option maxRecDepth 100000 in
theorem m_X6_append (l : Launch) (B : Nat) (D : DD) {t : Nat} {a0 : Int32} {w : Wd} {w' : Wd} (ht : t < 153 ∧ kd t = 6) (hf : f_X6_append t a0 w = some w') : Ct l yX6_append cX6_append 2 none 0 0 0 0 B D [.ref (B + t), .int a0] 153 w none 153 w' := by
  refine m_of (by decide) (Nat.le_of_ble_eq_true rfl) (fun p e s m args below meth c X hml hr hlk _ H locs hh ls hl => ?_)
  have hx := X.1
  have hb := X.2.1
  have hl : lv_has ls 2 [(0, .ref (B + t)), (1, .int a0)] := hl
  unfold f_X6_append at hf
  refine lv_aload_n hx hb dX6_append_0 rfl (lv_at hl 0 rfl) ?_
  refine r_gi X hh ht fk_X6_15 dX6_append_1 ?_
  refine lv_bipush (v := (60 : Int32)) hx hb dX6_append_4 (by decide) ?_
  refine lv_icmp_ge (tgt := 29) hx hb dX6_append_6 (by decide) (fun hc1 => ?_) (fun hc1 => ?_)
  · have hf := if_t hc1 hf
    exact e_v X hr hlk hh ⟨rfl, so_e hf⟩ dX6_append_29
  · have hf := if_f hc1 hf
    refine lv_aload_n hx hb dX6_append_9 rfl (lv_at hl 0 rfl) ?_
    refine q_gr (P := 9) X hh ht fk_X6_9 dX6_append_10 hf (fun t2 h3 hf => ?_)
    refine lv_aload_n hx hb dX6_append_13 rfl (lv_at hl 0 rfl) ?_
    refine r_gi X hh ht fk_X6_15 dX6_append_14 ?_
    refine lv_iload_n hx hb dX6_append_17 rfl (lv_at hl 1 rfl) ?_
    refine q_ast X hh h3 dX6_append_18 hf (fun w5 H locs hf hh => ?_)
    refine lv_aload_n hx hb dX6_append_19 rfl (lv_at hl 0 rfl) ?_
    refine lv_dup hx hb dX6_append_20 rfl ?_
    refine r_gi X hh ht fk_X6_15 dX6_append_21 ?_
    refine lv_iconst (v := (1 : Int32)) hx hb dX6_append_24 (by decide) ?_
    refine lv_iadd hx hb dX6_append_25 ?_
    refine q_pi X hh ht fk_X6_15 pk_6_1 rfl rfl dX6_append_26 hf (fun w6 H locs hf hh => ?_)
    exact e_v X hr hlk hh ⟨rfl, so_e hf⟩ dX6_append_29
set_option maxHeartbeats 4000000 in
set_option maxRecDepth 100000 in
theorem m_X6_byteAt (l : Launch) (B : Nat) (D : DD) {t : Nat} {a0 : Int32} {w : Wd} {r : Int32} (ht : t < 153 ∧ kd t = 6) (hf : f_X6_byteAt t a0 w = some r) : Ct l yX6_byteAt cX6_byteAt 2 (some .int) 0 0 0 0 B D [.ref (B + t), .int a0] 153 w (some (.int r)) 153 w := by
  refine m_of (by decide) (Nat.le_of_ble_eq_true rfl) (fun p e s m args below meth c X hml hr hlk _ H locs hh ls hl => ?_)
  have hx := X.1
  have hb := X.2.1
  have hl : lv_has ls 2 [(0, .ref (B + t)), (1, .int a0)] := hl
  unfold f_X6_byteAt at hf
  refine lv_iload_n hx hb dX6_byteAt_0 rfl (lv_at hl 1 rfl) ?_
  refine jn_W (P := fun j2 => j2 = some r → ∀ (H : Heap) (locs : List Loc) (ls : Array Slot), Hp B D 153 w s H locs → lv_has ls 2 [] → W p l e (rmk 0 0 0 0) s m args below meth c H locs 0 0 (MZ below B D 153 w (some (.int r)) args s 0 0) (F0 m 21 ls [])) hf (fun  hf  H locs ls hh hl => ?_) (fun j2 hj2 hf => ?_)
  · refine lv_iconst (v := (-1 : Int32)) hx hb dX6_byteAt_21 (by decide) ?_
    exact e_i X hr hlk hh ⟨so_e hf, rfl⟩ dX6_byteAt_22
  · refine lv_if_lt (tgt := 21) hx hb dX6_byteAt_1 (by decide) (fun hc1 => ?_) (fun hc1 => ?_)
    · have hf := if_t hc1 hf
      exact hj2  hf  _ _ _ hh (lv_sub hl [] rfl)
    · have hf := if_f hc1 hf
      refine lv_iload_n hx hb dX6_byteAt_4 rfl (lv_at hl 1 rfl) ?_
      refine lv_aload_n hx hb dX6_byteAt_5 rfl (lv_at hl 0 rfl) ?_
      refine r_gi X hh ht fk_X6_15 dX6_byteAt_6 ?_
      refine lv_icmp_ge (tgt := 21) hx hb dX6_byteAt_9 (by decide) (fun hc3 => ?_) (fun hc3 => ?_)
      · have hf := if_t hc3 hf
        exact hj2  hf  _ _ _ hh (lv_sub hl [] rfl)
      · have hf := if_f hc3 hf
        refine lv_aload_n hx hb dX6_byteAt_12 rfl (lv_at hl 0 rfl) ?_
        refine q_gr (P := 9) X hh ht fk_X6_9 dX6_byteAt_13 hf (fun t4 h5 hf => ?_)
        refine lv_iload_n hx hb dX6_byteAt_16 rfl (lv_at hl 1 rfl) ?_
        refine q_ald X hh h5 dX6_byteAt_17 hf (fun hf => ?_)
        refine lv_topi (fun x7 e8 => ?_)
        have hf := lt_e e8 hf
        refine lv_goto (tgt := 22) hx hb dX6_byteAt_18 (by decide) ?_
        exact e_i X hr hlk hh ⟨so_e hf, rfl⟩ dX6_byteAt_22
set_option maxHeartbeats 4000000 in
set_option maxRecDepth 100000 in
theorem m_X6_hasFigure (l : Launch) (B : Nat) (D : DD) {t : Nat} {a0 : Int32} {a1 : Int32} {a2 : Int32} {w : Wd} {r : Int32} (ht : t < 153 ∧ kd t = 6) (hf : f_X6_hasFigure t a0 a1 a2 w = some r) : Ct l yX6_hasFigure cX6_hasFigure 4 (some .boolean) 1 21 0 0 B D [.ref (B + t), .int a0, .int a1, .int a2] 153 w (some (.int r)) 153 w := by
  refine m_of (by decide) (Nat.le_of_ble_eq_true rfl) (fun p e s m args below meth c X hml hr hlk _ H locs hh ls hl => ?_)
  have hx := X.1
  have hb := X.2.1
  have hl : lv_has ls 4 [(0, .ref (B + t)), (1, .int a0), (2, .int a1), (3, .int a2)] := hl
  unfold f_X6_hasFigure at hf
  refine lv_aload_n hx hb dX6_hasFigure_0 rfl (lv_at hl 0 rfl) ?_
  refine lv_iload_n hx hb dX6_hasFigure_1 rfl (lv_at hl 1 rfl) ?_
  obtain ⟨v2, hc1, hf⟩ := c1_e hf
  refine q_V (w' := w) (rest := []) X hml hh (some (.int v2)) (m_X6_byteAt l B D ht hc1) cf_X6_byteAt k_575 ht ci_6 rfl rfl hl.1 rfl (Nat.le_of_ble_eq_true rfl) ⟨Nat.le_of_ble_eq_true rfl, Nat.le_of_ble_eq_true rfl⟩ ⟨Nat.zero_le _, Nat.zero_le _⟩ dX6_hasFigure_2 rfl (fun H locs hh => ?_)
  refine lv_iload_n hx hb dX6_hasFigure_5 rfl (lv_at hl 2 rfl) ?_
  refine jn_W (P := fun j4 => j4 = some r → ∀ (H : Heap) (locs : List Loc) (ls : Array Slot), Hp B D 153 w s H locs → lv_has ls 4 [] → W p l e (rmk 1 21 0 0) s m args below meth c H locs 0 0 (MZ below B D 153 w (some (.int r)) args s 0 0) (F0 m 22 ls [])) hf (fun  hf  H locs ls hh hl => ?_) (fun j4 hj4 hf => ?_)
  · refine lv_iconst (v := (0 : Int32)) hx hb dX6_hasFigure_22 (by decide) ?_
    exact e_z X hr hlk hh (Or.inl rfl) ⟨so_e hf, rfl⟩ dX6_hasFigure_23
  · refine lv_icmp_lt (tgt := 22) hx hb dX6_hasFigure_6 (by decide) (fun hc3 => ?_) (fun hc3 => ?_)
    · have hf := if_t hc3 hf
      exact hj4  hf  _ _ _ hh (lv_sub hl [] rfl)
    · have hf := if_f hc3 hf
      refine lv_aload_n hx hb dX6_hasFigure_9 rfl (lv_at hl 0 rfl) ?_
      refine lv_iload_n hx hb dX6_hasFigure_10 rfl (lv_at hl 1 rfl) ?_
      obtain ⟨v6, hc5, hf⟩ := c1_e hf
      refine q_V (w' := w) (rest := []) X hml hh (some (.int v6)) (m_X6_byteAt l B D ht hc5) cf_X6_byteAt k_575 ht ci_6 rfl rfl hl.1 rfl (Nat.le_of_ble_eq_true rfl) ⟨Nat.le_of_ble_eq_true rfl, Nat.le_of_ble_eq_true rfl⟩ ⟨Nat.zero_le _, Nat.zero_le _⟩ dX6_hasFigure_11 rfl (fun H locs hh => ?_)
      refine lv_iload_n hx hb dX6_hasFigure_14 rfl (lv_at hl 3 rfl) ?_
      refine lv_icmp_gt (tgt := 22) hx hb dX6_hasFigure_15 (by decide) (fun hc7 => ?_) (fun hc7 => ?_)
      · have hf := if_t hc7 hf
        exact hj4  hf  _ _ _ hh (lv_sub hl [] rfl)
      · have hf := if_f hc7 hf
        refine lv_iconst (v := (1 : Int32)) hx hb dX6_hasFigure_18 (by decide) ?_
        refine lv_goto (tgt := 23) hx hb dX6_hasFigure_19 (by decide) ?_
        exact e_z X hr hlk hh (Or.inr rfl) ⟨so_e hf, rfl⟩ dX6_hasFigure_23
set_option maxHeartbeats 4000000 in
set_option maxRecDepth 100000 in
theorem m_X6_figureAt (l : Launch) (B : Nat) (D : DD) {t : Nat} {a0 : Int32} {w : Wd} {r : Int32} (ht : t < 153 ∧ kd t = 6) (hf : f_X6_figureAt t a0 w = some r) : Ct l yX6_figureAt cX6_figureAt 2 (some .int) 1 21 0 0 B D [.ref (B + t), .int a0] 153 w (some (.int r)) 153 w := by
  refine m_of (by decide) (Nat.le_of_ble_eq_true rfl) (fun p e s m args below meth c X hml hr hlk _ H locs hh ls hl => ?_)
  have hx := X.1
  have hb := X.2.1
  have hl : lv_has ls 2 [(0, .ref (B + t)), (1, .int a0)] := hl
  unfold f_X6_figureAt at hf
  refine lv_aload_n hx hb dX6_figureAt_0 rfl (lv_at hl 0 rfl) ?_
  refine lv_iload_n hx hb dX6_figureAt_1 rfl (lv_at hl 1 rfl) ?_
  obtain ⟨v2, hc1, hf⟩ := c1_e hf
  refine q_V (w' := w) (rest := []) X hml hh (some (.int v2)) (m_X6_byteAt l B D ht hc1) cf_X6_byteAt k_575 ht ci_6 rfl rfl hl.1 rfl (Nat.le_of_ble_eq_true rfl) ⟨Nat.le_of_ble_eq_true rfl, Nat.le_of_ble_eq_true rfl⟩ ⟨Nat.zero_le _, Nat.zero_le _⟩ dX6_figureAt_2 rfl (fun H locs hh => ?_)
  refine lv_bipush (v := (48 : Int32)) hx hb dX6_figureAt_5 (by decide) ?_
  refine lv_isub hx hb dX6_figureAt_7 ?_
  exact e_i X hr hlk hh ⟨so_e hf, rfl⟩ dX6_figureAt_8
set_option maxHeartbeats 4000000 in
set_option maxRecDepth 100000 in
theorem m_X6_faultPlace (l : Launch) (B : Nat) (D : DD) {t : Nat} {w : Wd} {r : Int32} (ht : t < 153 ∧ kd t = 6) (hf : f_X6_faultPlace t w = some r) : Ct l yX6_faultPlace cX6_faultPlace 6 (some .int) 2 44 0 0 B D [.ref (B + t)] 153 w (some (.int r)) 153 w := by
  refine m_of (by decide) (Nat.le_of_ble_eq_true rfl) (fun p e s m args below meth c X hml hr hlk _ H locs hh ls hl => ?_)
  have hx := X.1
  have hb := X.2.1
  have hl : lv_has ls 6 [(0, .ref (B + t))] := hl
  unfold f_X6_faultPlace at hf
  refine lv_iconst (v := (0 : Int32)) hx hb dX6_faultPlace_0 (by decide) ?_
  refine lv_istore_n (lv' := [(1, .int (0 : Int32)), (0, .ref (B + t))]) hx hb dX6_faultPlace_1 rfl hl (by decide) rfl (fun ls hl => ?_)
  refine wl1_W (P := fun (x1 : Int32) => ∀ (H : Heap) (locs : List Loc) (ls : Array Slot), Hp B D 153 w s H locs → lv_has ls 6 [(0, .ref (B + t)), (1, .int x1)] → W p l e (rmk 2 44 0 0) s m args below meth c H locs 0 0 (MZ below B D 153 w (some (.int r)) args s 0 0) (F0 m 2 ls [])) hf (fun x1 k2 ih3 hf  H locs ls hh hl => ?_)  _ _ _ hh (lv_sub hl [1, 0] rfl)
  refine lv_iload_n hx hb dX6_faultPlace_2 rfl (lv_at hl 1 rfl) ?_
  refine lv_iconst (v := (2 : Int32)) hx hb dX6_faultPlace_3 (by decide) ?_
  refine lv_icmp_ge (tgt := 27) hx hb dX6_faultPlace_4 (by decide) (fun hc4 => ?_) (fun hc4 => ?_)
  · have hf := if_t hc4 hf
    refine lv_aload_n hx hb dX6_faultPlace_27 rfl (lv_at hl 0 rfl) ?_
    refine lv_iconst (v := (0 : Int32)) hx hb dX6_faultPlace_28 (by decide) ?_
    obtain ⟨v6, hc5, hf⟩ := c1_e hf
    refine q_V (w' := w) (rest := []) X hml hh (some (.int v6)) (m_X6_figureAt l B D ht hc5) cf_X6_figureAt k_579 ht ci_6 rfl rfl hl.1 rfl (Nat.le_of_ble_eq_true rfl) ⟨Nat.le_of_ble_eq_true rfl, Nat.le_of_ble_eq_true rfl⟩ ⟨Nat.zero_le _, Nat.zero_le _⟩ dX6_faultPlace_29 rfl (fun H locs hh => ?_)
    refine lv_iconst (v := (1 : Int32)) hx hb dX6_faultPlace_32 (by decide) ?_
    refine lv_iadd hx hb dX6_faultPlace_33 ?_
    refine lv_topi (fun x7 e8 => ?_)
    have hf := lt_e e8 hf
    refine lv_istore_n (lv' := [(1, .int x7), (0, .ref (B + t))]) hx hb dX6_faultPlace_34 rfl hl (by decide) rfl (fun ls hl => ?_)
    refine lv_iconst (v := (2 : Int32)) hx hb dX6_faultPlace_35 (by decide) ?_
    refine lv_aload_n hx hb dX6_faultPlace_36 rfl (lv_at hl 1 rfl) ?_
    refine lv_iconst (v := (1 : Int32)) hx hb dX6_faultPlace_37 (by decide) ?_
    obtain ⟨v10, hc9, hf⟩ := c1_e hf
    refine q_V (w' := w) (rest := [.int (2 : Int32)]) X hml hh (some (.int v10)) (m_X6_figureAt l B D ht hc9) cf_X6_figureAt k_579 ht ci_6 rfl rfl hl.1 rfl (Nat.le_of_ble_eq_true rfl) ⟨Nat.le_of_ble_eq_true rfl, Nat.le_of_ble_eq_true rfl⟩ ⟨Nat.zero_le _, Nat.zero_le _⟩ dX6_faultPlace_38 rfl (fun H locs hh => ?_)
    refine lv_iload_n hx hb dX6_faultPlace_41 rfl (lv_at hl 0 rfl) ?_
    refine lv_imul hx hb dX6_faultPlace_42 ?_
    refine lv_iadd hx hb dX6_faultPlace_43 ?_
    refine lv_topi (fun x11 e12 => ?_)
    have hf := lt_e e12 hf
    refine lv_istore_n (lv' := [(2, .int x11), (1, .int x7), (0, .ref (B + t))]) hx hb dX6_faultPlace_44 rfl hl (by decide) rfl (fun ls hl => ?_)
    refine lv_iconst (v := (0 : Int32)) hx hb dX6_faultPlace_45 (by decide) ?_
    refine lv_istore_n (lv' := [(3, .int (0 : Int32)), (2, .int x11), (1, .int x7), (0, .ref (B + t))]) hx hb dX6_faultPlace_46 rfl hl (by decide) rfl (fun ls hl => ?_)
    refine lv_iconst (v := (2 : Int32)) hx hb dX6_faultPlace_47 (by decide) ?_
    refine lv_istore (lv' := [(4, .int (2 : Int32)), (3, .int (0 : Int32)), (2, .int x11), (1, .int x7), (0, .ref (B + t))]) hx hb dX6_faultPlace_48 hl (by decide) rfl (fun ls hl => ?_)
    refine wl2_W (P := fun (x13 : Int32) (x14 : Int32) => ∀ (H : Heap) (locs : List Loc) (ls : Array Slot), Hp B D 153 w s H locs → lv_has ls 6 [(0, .ref (B + t)), (1, .int x7), (2, .int x11), (3, .int x13), (4, .int x14)] → W p l e (rmk 2 44 0 0) s m args below meth c H locs 0 0 (MZ below B D 153 w (some (.int r)) args s 0 0) (F0 m 50 ls [])) hf (fun x13 x14 k15 ih16 hf  H locs ls hh hl => ?_)  _ _ _ hh (lv_sub hl [4, 3, 2, 1, 0] rfl)
    refine lv_iload hx hb dX6_faultPlace_50 (lv_at hl 4 rfl) ?_
    refine lv_iload_n hx hb dX6_faultPlace_52 rfl (lv_at hl 2 rfl) ?_
    refine lv_icmp_ge (tgt := 119) hx hb dX6_faultPlace_53 (by decide) (fun hc17 => ?_) (fun hc17 => ?_)
    · have hf := if_t hc17 hf
      refine lv_aload_n hx hb dX6_faultPlace_119 rfl (lv_at hl 0 rfl) ?_
      refine r_gi X hh ht fk_X6_15 dX6_faultPlace_120 ?_
      refine lv_iload_n hx hb dX6_faultPlace_123 rfl (lv_at hl 2 rfl) ?_
      refine mg_W (P := fun (x19 : Int32) => ∀ (ls : Array Slot), lv_has ls 6 [] → W p l e (rmk 2 44 0 0) s m args below meth c H locs 0 0 (MZ below B D 153 w (some (.int r)) args s 0 0) (F0 m 132 ls [.int x19])) hf (fun x19 hf ls hl => ?_) (fun hj20 => ?_)
      · exact e_i X hr hlk hh ⟨so_e hf, rfl⟩ dX6_faultPlace_132
      · refine lv_icmp_le (tgt := 131) hx hb dX6_faultPlace_124 (by decide) (fun hc18 => ?_) (fun hc18 => ?_)
        · refine lv_iconst (v := (-1 : Int32)) hx hb dX6_faultPlace_131 (by decide) ?_
          exact hj20 _ (by rw [if_pos hc18]) ls (lv_sub hl [] rfl)
        · refine lv_iload_n hx hb dX6_faultPlace_127 rfl (lv_at hl 2 rfl) ?_
          refine lv_goto (tgt := 132) hx hb dX6_faultPlace_128 (by decide) ?_
          exact hj20 _ (by rw [if_neg hc18]) ls (lv_sub hl [] rfl)
    · have hf := if_f hc17 hf
      refine lv_iload_n hx hb dX6_faultPlace_56 rfl (lv_at hl 3 rfl) ?_
      refine jn_W (P := fun j23 => ∀ (x22 : Int32), j23 x22 = some r → ∀ (H : Heap) (locs : List Loc) (ls : Array Slot), Hp B D 153 w s H locs → lv_has ls 6 [(0, .ref (B + t)), (1, .int x7), (2, .int x11), (3, .int x13), (4, .int x14)] → W p l e (rmk 2 44 0 0) s m args below meth c H locs 0 0 (MZ below B D 153 w (some (.int r)) args s 0 0) (F0 m 89 ls [.int x22])) hf (fun x22 hf  H locs ls hh hl => ?_) (fun j23 hj23 hf => ?_)
      · refine lv_istore (lv' := [(5, .int x22), (0, .ref (B + t)), (1, .int x7), (2, .int x11), (3, .int x13), (4, .int x14)]) hx hb dX6_faultPlace_89 hl (by decide) rfl (fun ls hl => ?_)
        refine lv_iload hx hb dX6_faultPlace_91 (lv_at hl 0 rfl) ?_
        refine lv_if_ne (tgt := 99) hx hb dX6_faultPlace_93 (by decide) (fun hc24 => ?_) (fun hc24 => ?_)
        · have hf := if_f hc24 hf
          refine lv_iload_n hx hb dX6_faultPlace_99 rfl (lv_at hl 4 rfl) ?_
          refine mg_W (P := fun (x26 : Int32) => ∀ (ls : Array Slot), lv_has ls 6 [(0, .ref (B + t)), (1, .int x7), (2, .int x11), (4, .int x14)] → W p l e (rmk 2 44 0 0) s m args below meth c H locs 0 0 (MZ below B D 153 w (some (.int r)) args s 0 0) (F0 m 112 ls [.int x26])) hf (fun x26 hf ls hl => ?_) (fun hj29 => ?_)
          · refine lv_istore_n (lv' := [(3, .int x26), (0, .ref (B + t)), (1, .int x7), (2, .int x11), (4, .int x14)]) hx hb dX6_faultPlace_112 rfl hl (by decide) rfl (fun ls hl => ?_)
            obtain ⟨x27, e28⟩ : ∃ y : Int32, y = (x14 + (1 : Int32)) := ⟨_, rfl⟩
            have hf := lt_e e28 hf
            refine lv_iinc (v := x27) (lv' := [(4, .int x27), (3, .int x26), (0, .ref (B + t)), (1, .int x7), (2, .int x11)]) hx hb dX6_faultPlace_113 hl (k := 4) rfl (by rw [e28]; rfl) (by decide) rfl (fun ls hl => ?_)
            refine lv_goto (tgt := 50) hx hb dX6_faultPlace_116 (by decide) ?_
            exact ih16 _ _ hf  _ _ _ hh (lv_sub hl [2, 3, 4, 1, 0] rfl)
          · refine lv_if_ne (tgt := 109) hx hb dX6_faultPlace_100 (by decide) (fun hc25 => ?_) (fun hc25 => ?_)
            · refine lv_iload_n hx hb dX6_faultPlace_109 rfl (lv_at hl 4 rfl) ?_
              refine lv_iconst (v := (1 : Int32)) hx hb dX6_faultPlace_110 (by decide) ?_
              refine lv_isub hx hb dX6_faultPlace_111 ?_
              exact hj29 _ (by rw [if_neg hc25]) ls (lv_sub hl [1, 2, 3, 5] rfl)
            · refine lv_iload_n hx hb dX6_faultPlace_103 rfl (lv_at hl 2 rfl) ?_
              refine lv_iconst (v := (1 : Int32)) hx hb dX6_faultPlace_104 (by decide) ?_
              refine lv_isub hx hb dX6_faultPlace_105 ?_
              refine lv_goto (tgt := 112) hx hb dX6_faultPlace_106 (by decide) ?_
              exact hj29 _ (by rw [if_pos hc25]) ls (lv_sub hl [1, 2, 3, 5] rfl)
        · have hf := if_t hc24 hf
          refine lv_iload hx hb dX6_faultPlace_96 (lv_at hl 5 rfl) ?_
          exact e_i X hr hlk hh ⟨so_e hf, rfl⟩ dX6_faultPlace_98
      · refine lv_if_ne (tgt := 79) hx hb dX6_faultPlace_57 (by decide) (fun hc21 => ?_) (fun hc21 => ?_)
        · have hf := if_f hc21 hf
          refine lv_aload_n hx hb dX6_faultPlace_79 rfl (lv_at hl 0 rfl) ?_
          refine lv_iload hx hb dX6_faultPlace_80 (lv_at hl 4 rfl) ?_
          refine lv_bipush (v := (48 : Int32)) hx hb dX6_faultPlace_82 (by decide) ?_
          refine lv_bipush (v := (51 : Int32)) hx hb dX6_faultPlace_84 (by decide) ?_
          obtain ⟨v31, hc30, hf⟩ := c1_e hf
          refine q_V (w' := w) (rest := []) X hml hh (some (.int v31)) (m_X6_hasFigure l B D ht hc30) cf_X6_hasFigure k_571 ht ci_6 rfl rfl hl.1 rfl (Nat.le_of_ble_eq_true rfl) ⟨Nat.le_of_ble_eq_true rfl, Nat.le_of_ble_eq_true rfl⟩ ⟨Nat.zero_le _, Nat.zero_le _⟩ dX6_faultPlace_86 rfl (fun H locs hh => ?_)
          exact hj23 _ hf  _ _ _ hh (lv_sub hl [0, 1, 2, 3, 4] rfl)
        · have hf := if_t hc21 hf
          refine lv_aload_n hx hb dX6_faultPlace_60 rfl (lv_at hl 0 rfl) ?_
          refine lv_iload hx hb dX6_faultPlace_61 (lv_at hl 4 rfl) ?_
          obtain ⟨v33, hc32, hf⟩ := c1_e hf
          refine q_V (w' := w) (rest := []) X hml hh (some (.int v33)) (m_X6_byteAt l B D ht hc32) cf_X6_byteAt k_575 ht ci_6 rfl rfl hl.1 rfl (Nat.le_of_ble_eq_true rfl) ⟨Nat.le_of_ble_eq_true rfl, Nat.le_of_ble_eq_true rfl⟩ ⟨Nat.zero_le _, Nat.zero_le _⟩ dX6_faultPlace_63 rfl (fun H locs hh => ?_)
          refine lv_bipush (v := (59 : Int32)) hx hb dX6_faultPlace_66 (by decide) ?_
          refine lv_icmp_ne (tgt := 75) hx hb dX6_faultPlace_68 (by decide) (fun hc34 => ?_) (fun hc34 => ?_)
          · have hf := if_f hc34 hf
            refine lv_iconst (v := (0 : Int32)) hx hb dX6_faultPlace_75 (by decide) ?_
            refine lv_goto (tgt := 89) hx hb dX6_faultPlace_76 (by decide) ?_
            exact hj23 _ hf  _ _ _ hh (lv_sub hl [0, 1, 2, 3, 4] rfl)
          · have hf := if_t hc34 hf
            refine lv_iconst (v := (1 : Int32)) hx hb dX6_faultPlace_71 (by decide) ?_
            refine lv_goto (tgt := 89) hx hb dX6_faultPlace_72 (by decide) ?_
            exact hj23 _ hf  _ _ _ hh (lv_sub hl [0, 1, 2, 3, 4] rfl)
  · have hf := if_f hc4 hf
    refine lv_aload_n hx hb dX6_faultPlace_7 rfl (lv_at hl 0 rfl) ?_
    refine lv_iload_n hx hb dX6_faultPlace_8 rfl (lv_at hl 1 rfl) ?_
    refine lv_bipush (v := (49 : Int32)) hx hb dX6_faultPlace_9 (by decide) ?_
    refine lv_bipush (v := (53 : Int32)) hx hb dX6_faultPlace_11 (by decide) ?_
    obtain ⟨v36, hc35, hf⟩ := c1_e hf
    refine q_V (w' := w) (rest := []) X hml hh (some (.int v36)) (m_X6_hasFigure l B D ht hc35) cf_X6_hasFigure k_571 ht ci_6 rfl rfl hl.1 rfl (Nat.le_of_ble_eq_true rfl) ⟨Nat.le_of_ble_eq_true rfl, Nat.le_of_ble_eq_true rfl⟩ ⟨Nat.zero_le _, Nat.zero_le _⟩ dX6_faultPlace_13 rfl (fun H locs hh => ?_)
    refine lv_if_ne (tgt := 21) hx hb dX6_faultPlace_16 (by decide) (fun hc37 => ?_) (fun hc37 => ?_)
    · have hf := if_f hc37 hf
      obtain ⟨x38, e39⟩ : ∃ y : Int32, y = (x1 + (1 : Int32)) := ⟨_, rfl⟩
      have hf := lt_e e39 hf
      refine lv_iinc (v := x38) (lv' := [(1, .int x38), (0, .ref (B + t))]) hx hb dX6_faultPlace_21 hl (k := 1) rfl (by rw [e39]; rfl) (by decide) rfl (fun ls hl => ?_)
      refine lv_goto (tgt := 2) hx hb dX6_faultPlace_24 (by decide) ?_
      exact ih3 _ hf  _ _ _ hh (lv_sub hl [1, 0] rfl)
    · have hf := if_t hc37 hf
      refine lv_iload_n hx hb dX6_faultPlace_19 rfl (lv_at hl 1 rfl) ?_
      exact e_i X hr hlk hh ⟨so_e hf, rfl⟩ dX6_faultPlace_20
set_option maxHeartbeats 4000000 in
set_option maxRecDepth 100000 in
theorem m_X6_writeInto (l : Launch) (B : Nat) (D : DD) {t : Nat} {a0 : Nat} {w : Wd} {w' : Wd} (ht : t < 153 ∧ kd t = 6) (ha0 : a0 < 153 ∧ kd a0 = 0) (hf : f_X6_writeInto t a0 w = some w') : Ct l yX6_writeInto cX6_writeInto 5 none 2 45 0 0 B D [.ref (B + t), .ref (B + a0)] 153 w none 153 w' := by
  refine m_of (by decide) (Nat.le_of_ble_eq_true rfl) (fun p e s m args below meth c X hml hr hlk _ H locs hh ls hl => ?_)
  have hx := X.1
  have hb := X.2.1
  have hl : lv_has ls 5 [(0, .ref (B + t)), (1, .ref (B + a0))] := hl
  unfold f_X6_writeInto at hf
  refine lv_aload_n hx hb dX6_writeInto_0 rfl (lv_at hl 1 rfl) ?_
  refine lv_aload_n hx hb dX6_writeInto_1 rfl (lv_at hl 0 rfl) ?_
  refine lv_iconst (v := (0 : Int32)) hx hb dX6_writeInto_2 (by decide) ?_
  obtain ⟨v2, hc1, hf⟩ := c1_e hf
  refine q_V (w' := w) (rest := [.ref (B + a0)]) X hml hh (some (.int v2)) (m_X6_figureAt l B D ht hc1) cf_X6_figureAt k_579 ht ci_6 rfl rfl hl.1 rfl (Nat.le_of_ble_eq_true rfl) ⟨Nat.le_of_ble_eq_true rfl, Nat.le_of_ble_eq_true rfl⟩ ⟨Nat.zero_le _, Nat.zero_le _⟩ dX6_writeInto_3 rfl (fun H locs hh => ?_)
  refine lv_aload_n hx hb dX6_writeInto_6 rfl (lv_at hl 0 rfl) ?_
  refine lv_iconst (v := (1 : Int32)) hx hb dX6_writeInto_7 (by decide) ?_
  obtain ⟨v4, hc3, hf⟩ := c1_e hf
  refine q_V (w' := w) (rest := [.int v2, .ref (B + a0)]) X hml hh (some (.int v4)) (m_X6_figureAt l B D ht hc3) cf_X6_figureAt k_579 ht ci_6 rfl rfl hl.1 rfl (Nat.le_of_ble_eq_true rfl) ⟨Nat.le_of_ble_eq_true rfl, Nat.le_of_ble_eq_true rfl⟩ ⟨Nat.zero_le _, Nat.zero_le _⟩ dX6_writeInto_8 rfl (fun H locs hh => ?_)
  obtain ⟨w6, hc5, hf⟩ := c1_e hf
  refine q_V (w' := w6) (rest := []) X hml hh none (m_X0_clearTo l B D ha0 hc5) cf_X0_clearTo k_587 ha0 ci_0 rfl rfl hl.1 rfl (Nat.le_of_ble_eq_true rfl) ⟨Nat.le_of_ble_eq_true rfl, Nat.le_of_ble_eq_true rfl⟩ ⟨Nat.zero_le _, Nat.zero_le _⟩ dX6_writeInto_11 rfl (fun H locs hh => ?_)
  refine lv_iconst (v := (2 : Int32)) hx hb dX6_writeInto_14 (by decide) ?_
  refine lv_istore_n (lv' := [(2, .int (2 : Int32)), (0, .ref (B + t)), (1, .ref (B + a0))]) hx hb dX6_writeInto_15 rfl hl (by decide) rfl (fun ls hl => ?_)
  refine lv_aload_n hx hb dX6_writeInto_16 rfl (lv_at hl 2 rfl) ?_
  refine r_gi X hh ha0 fk_X6_36 dX6_writeInto_17 ?_
  refine lv_topi (fun x7 e8 => ?_)
  have hf := lt_e e8 hf
  refine lv_istore_n (lv' := [(3, .int x7), (2, .int (2 : Int32)), (0, .ref (B + t)), (1, .ref (B + a0))]) hx hb dX6_writeInto_20 rfl hl (by decide) rfl (fun ls hl => ?_)
  refine wl3_W (P := fun (x9 : Int32) (x10 : Int32) (w11 : Wd) => ∀ (H : Heap) (locs : List Loc) (ls : Array Slot), Hp B D 153 w11 s H locs → lv_has ls 5 [(0, .ref (B + t)), (1, .ref (B + a0)), (2, .int x9), (3, .int x10)] → W p l e (rmk 2 45 0 0) s m args below meth c H locs 0 0 (MZ below B D 153 w' none args s 0 0) (F0 m 21 ls [])) hf (fun x9 x10 w11 k12 ih13 hf  H locs ls hh hl => ?_)  _ _ _ hh (lv_sub hl [2, 3, 1, 0] rfl)
  refine lv_iload_n hx hb dX6_writeInto_21 rfl (lv_at hl 3 rfl) ?_
  refine lv_iconst (v := (1 : Int32)) hx hb dX6_writeInto_22 (by decide) ?_
  refine lv_icmp_lt (tgt := 68) hx hb dX6_writeInto_23 (by decide) (fun hc14 => ?_) (fun hc14 => ?_)
  · have hf := if_t hc14 hf
    exact e_v X hr hlk hh ⟨rfl, so_e hf⟩ dX6_writeInto_68
  · have hf := if_f hc14 hf
    obtain ⟨x15, e16⟩ : ∃ y : Int32, y = (x9 + (1 : Int32)) := ⟨_, rfl⟩
    have hf := lt_e e16 hf
    refine lv_iinc (v := x15) (lv' := [(2, .int x15), (0, .ref (B + t)), (1, .ref (B + a0)), (3, .int x10)]) hx hb dX6_writeInto_26 hl (k := 2) rfl (by rw [e16]; rfl) (by decide) rfl (fun ls hl => ?_)
    refine lv_iconst (v := (1 : Int32)) hx hb dX6_writeInto_29 (by decide) ?_
    refine lv_istore (lv' := [(4, .int (1 : Int32)), (2, .int x15), (0, .ref (B + t)), (1, .ref (B + a0)), (3, .int x10)]) hx hb dX6_writeInto_30 hl (by decide) rfl (fun ls hl => ?_)
    refine wl3_W (P := fun (x17 : Int32) (x18 : Int32) (w19 : Wd) => ∀ (H : Heap) (locs : List Loc) (ls : Array Slot), Hp B D 153 w19 s H locs → lv_has ls 5 [(0, .ref (B + t)), (1, .ref (B + a0)), (2, .int x17), (3, .int x10), (4, .int x18)] → W p l e (rmk 2 45 0 0) s m args below meth c H locs 0 0 (MZ below B D 153 w' none args s 0 0) (F0 m 32 ls [])) hf (fun x17 x18 w19 k20 ih21 hf  H locs ls hh hl => ?_)  _ _ _ hh (lv_sub hl [2, 3, 1, 4, 0] rfl)
    refine lv_iload hx hb dX6_writeInto_32 (lv_at hl 4 rfl) ?_
    refine lv_aload_n hx hb dX6_writeInto_34 rfl (lv_at hl 1 rfl) ?_
    refine r_gi X hh ha0 fk_X6_39 dX6_writeInto_35 ?_
    refine lv_icmp_gt (tgt := 62) hx hb dX6_writeInto_38 (by decide) (fun hc22 => ?_) (fun hc22 => ?_)
    · have hf := if_t hc22 hf
      obtain ⟨x23, e24⟩ : ∃ y : Int32, y = (x10 + (-1 : Int32)) := ⟨_, rfl⟩
      have hf := lt_e e24 hf
      refine lv_iinc (v := x23) (lv' := [(3, .int x23), (0, .ref (B + t)), (1, .ref (B + a0)), (2, .int x17), (4, .int x18)]) hx hb dX6_writeInto_62 hl (k := 3) rfl (by rw [e24]; rfl) (by decide) rfl (fun ls hl => ?_)
      refine lv_goto (tgt := 21) hx hb dX6_writeInto_65 (by decide) ?_
      exact ih13 _ _ _ hf  _ _ _ hh (lv_sub hl [1, 2, 3, 0] rfl)
    · have hf := if_f hc22 hf
      refine lv_aload_n hx hb dX6_writeInto_41 rfl (lv_at hl 1 rfl) ?_
      refine lv_iload hx hb dX6_writeInto_42 (lv_at hl 4 rfl) ?_
      refine lv_iload_n hx hb dX6_writeInto_44 rfl (lv_at hl 3 rfl) ?_
      refine lv_aload_n hx hb dX6_writeInto_45 rfl (lv_at hl 0 rfl) ?_
      refine lv_iload_n hx hb dX6_writeInto_46 rfl (lv_at hl 2 rfl) ?_
      obtain ⟨v26, hc25, hf⟩ := c1_e hf
      refine q_V (w' := w19) (rest := [.int x10, .int x18, .ref (B + a0)]) X hml hh (some (.int v26)) (m_X6_figureAt l B D ht hc25) cf_X6_figureAt k_579 ht ci_6 rfl rfl hl.1 rfl (Nat.le_of_ble_eq_true rfl) ⟨Nat.le_of_ble_eq_true rfl, Nat.le_of_ble_eq_true rfl⟩ ⟨Nat.zero_le _, Nat.zero_le _⟩ dX6_writeInto_47 rfl (fun H locs hh => ?_)
      obtain ⟨w28, hc27, hf⟩ := c1_e hf
      refine q_V (w' := w28) (rest := []) X hml hh none (m_X0_setNumber l B D ha0 hc27) cf_X0_setNumber k_588 ha0 ci_0 rfl rfl hl.1 rfl (Nat.le_of_ble_eq_true rfl) ⟨Nat.le_of_ble_eq_true rfl, Nat.le_of_ble_eq_true rfl⟩ ⟨Nat.zero_le _, Nat.zero_le _⟩ dX6_writeInto_50 rfl (fun H locs hh => ?_)
      obtain ⟨x29, e30⟩ : ∃ y : Int32, y = (x17 + (1 : Int32)) := ⟨_, rfl⟩
      have hf := lt_e e30 hf
      refine lv_iinc (v := x29) (lv' := [(2, .int x29), (0, .ref (B + t)), (1, .ref (B + a0)), (3, .int x10), (4, .int x18)]) hx hb dX6_writeInto_53 hl (k := 2) rfl (by rw [e30]; rfl) (by decide) rfl (fun ls hl => ?_)
      obtain ⟨x31, e32⟩ : ∃ y : Int32, y = (x18 + (1 : Int32)) := ⟨_, rfl⟩
      have hf := lt_e e32 hf
      refine lv_iinc (v := x31) (lv' := [(4, .int x31), (2, .int x29), (0, .ref (B + t)), (1, .ref (B + a0)), (3, .int x10)]) hx hb dX6_writeInto_56 hl (k := 4) rfl (by rw [e32]; rfl) (by decide) rfl (fun ls hl => ?_)
      refine lv_goto (tgt := 32) hx hb dX6_writeInto_59 (by decide) ?_
      exact ih21 _ _ _ hf  _ _ _ hh (lv_sub hl [2, 3, 1, 4, 0] rfl)

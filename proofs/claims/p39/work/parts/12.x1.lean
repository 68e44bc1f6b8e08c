set_option maxHeartbeats 4000000 in
set_option maxRecDepth 100000 in
theorem m_X1_at (l : Launch) (B : Nat) (D : DD) {n : Nat} (hN : 139 ≤ n) {t : Nat} {a0 : Int32} {a1 : Int32} {w : Wd} {r : Nat} (ht : t < n ∧ kd t = 1) (hf : f_X1_at t a0 a1 w = some r) : Ct l yX1_at cX1_at 3 (some (.object "GrowthGrid$Shape")) 0 0 0 0 B D [.ref (B + t), .int a0, .int a1] n w (some (.ref (B + r))) n w := by
  refine m_of (by decide) (Nat.le_of_ble_eq_true rfl) (fun p e s m args below meth c X hml hr hlk _ H locs hh ls hl => ?_)
  have hx := X.1
  have hb := X.2.1
  have hl : lv_has ls 3 [(0, .ref (B + t)), (1, .int a0), (2, .int a1)] := hl
  unfold f_X1_at at hf
  refine lv_iload_n hx hb dX1_at_0 rfl (lv_at hl 1 rfl) ?_
  refine jn_W (P := fun j2 => j2 = some r → ∀ (H : Heap) (locs : List Loc) (ls : Array Slot), Hp B D n w s H locs → lv_has ls 3 [(0, .ref (B + t))] → W p l e (rmk 0 0 0 0) s m args below meth c H locs 0 0 (MZ below B D n w (some (.ref (B + r))) args s 0 0) (F0 m 18 ls [])) hf (fun  hf  H locs ls hh hl => ?_) (fun j2 hj2 hf => ?_)
  · refine lv_aload_n hx hb dX1_at_18 rfl (lv_at hl 0 rfl) ?_
    refine q_gr (P := 5) X hh ht fk_X1_18 dX1_at_19 hN hf (fun t3 h4 hf => ?_)
    exact e_a X hr hlk hh ⟨so_e hf, rfl⟩ dX1_at_22
  · refine lv_if_lt (tgt := 18) hx hb dX1_at_1 (by decide) (fun hc1 => ?_) (fun hc1 => ?_)
    · have hf := if_t hc1 hf
      exact hj2  hf  _ _ _ hh (lv_sub hl [0] rfl)
    · have hf := if_f hc1 hf
      refine lv_iload_n hx hb dX1_at_4 rfl (lv_at hl 1 rfl) ?_
      refine lv_iconst (v := (5 : Int32)) hx hb dX1_at_5 (by decide) ?_
      refine lv_icmp_gt (tgt := 18) hx hb dX1_at_6 (by decide) (fun hc5 => ?_) (fun hc5 => ?_)
      · have hf := if_t hc5 hf
        exact hj2  hf  _ _ _ hh (lv_sub hl [0] rfl)
      · have hf := if_f hc5 hf
        refine lv_iload_n hx hb dX1_at_9 rfl (lv_at hl 2 rfl) ?_
        refine lv_if_lt (tgt := 18) hx hb dX1_at_10 (by decide) (fun hc6 => ?_) (fun hc6 => ?_)
        · have hf := if_t hc6 hf
          exact hj2  hf  _ _ _ hh (lv_sub hl [0] rfl)
        · have hf := if_f hc6 hf
          refine lv_iload_n hx hb dX1_at_13 rfl (lv_at hl 2 rfl) ?_
          refine lv_iconst (v := (5 : Int32)) hx hb dX1_at_14 (by decide) ?_
          refine lv_icmp_le (tgt := 23) hx hb dX1_at_15 (by decide) (fun hc7 => ?_) (fun hc7 => ?_)
          · have hf := if_t hc7 hf
            refine lv_aload_n hx hb dX1_at_23 rfl (lv_at hl 0 rfl) ?_
            refine q_gr (P := 12) X hh ht fk_X1_11 dX1_at_24 hN hf (fun t8 h9 hf => ?_)
            refine lv_iload_n hx hb dX1_at_27 rfl (lv_at hl 1 rfl) ?_
            refine lv_bipush (v := (6 : Int32)) hx hb dX1_at_28 (by decide) ?_
            refine lv_imul hx hb dX1_at_30 ?_
            refine lv_iload_n hx hb dX1_at_31 rfl (lv_at hl 2 rfl) ?_
            refine lv_iadd hx hb dX1_at_32 ?_
            refine q_aald (P := 5) X hh h9 ⟨by decide, by decide⟩ dX1_at_33 hN hf (fun t11 h12 hf => ?_)
            exact e_a X hr hlk hh ⟨so_e hf, rfl⟩ dX1_at_34
          · have hf := if_f hc7 hf
            exact hj2  hf  _ _ _ hh (lv_sub hl [0] rfl)
set_option maxHeartbeats 4000000 in
set_option maxRecDepth 100000 in
theorem m_X1_growOver (l : Launch) (B : Nat) (D : DD) {n : Nat} (hN : 139 ≤ n) {t : Nat} {a0 : Nat} {w : Wd} {w' : Wd} (ht : t < n ∧ kd t = 1) (ha0 : a0 < n ∧ kd a0 = 0) (hf : f_X1_growOver t a0 w = some w') : Ct l yX1_growOver cX1_growOver 4 none 3 76 0 0 B D [.ref (B + t), .ref (B + a0)] n w none n w' := by
  refine m_of (by decide) (Nat.le_of_ble_eq_true rfl) (fun p e s m args below meth c X hml hr hlk _ H locs hh ls hl => ?_)
  have hx := X.1
  have hb := X.2.1
  have hl : lv_has ls 4 [(0, .ref (B + t)), (1, .ref (B + a0))] := hl
  unfold f_X1_growOver at hf
  refine lv_aload_n hx hb dX1_growOver_0 rfl (lv_at hl 0 rfl) ?_
  refine lv_aload_n hx hb dX1_growOver_1 rfl (lv_at hl 1 rfl) ?_
  refine r_gi X hh ha0 fk_X1_36 dX1_growOver_2 ?_
  refine q_pi X hh ht fk_X1_22 pk_1_2 rfl rfl dX1_growOver_5 hf (fun w1 H locs hf hh => ?_)
  refine lv_aload_n hx hb dX1_growOver_8 rfl (lv_at hl 0 rfl) ?_
  refine lv_aload_n hx hb dX1_growOver_9 rfl (lv_at hl 1 rfl) ?_
  refine r_gi X hh ha0 fk_X1_39 dX1_growOver_10 ?_
  refine q_pi X hh ht fk_X1_26 pk_1_3 rfl rfl dX1_growOver_13 hf (fun w2 H locs hf hh => ?_)
  refine lv_aload_n hx hb dX1_growOver_16 rfl (lv_at hl 0 rfl) ?_
  refine lv_iconst (v := (0 : Int32)) hx hb dX1_growOver_17 (by decide) ?_
  refine q_pi X hh ht fk_X1_33 pk_1_5 rfl rfl dX1_growOver_18 hf (fun w3 H locs hf hh => ?_)
  refine lv_iconst (v := (0 : Int32)) hx hb dX1_growOver_21 (by decide) ?_
  refine lv_istore_n (lv' := [(2, .int (0 : Int32)), (0, .ref (B + t)), (1, .ref (B + a0))]) hx hb dX1_growOver_22 rfl hl (by decide) rfl (fun ls hl => ?_)
  refine wl2_W (P := fun (x4 : Int32) (w5 : Wd) => ∀ (H : Heap) (locs : List Loc) (ls : Array Slot), Hp B D n w5 s H locs → lv_has ls 4 [(0, .ref (B + t)), (1, .ref (B + a0)), (2, .int x4)] → W p l e (rmk 3 76 0 0) s m args below meth c H locs 0 0 (MZ below B D n w' none args s 0 0) (F0 m 23 ls [])) hf (fun x4 w5 k6 ih7 hf  H locs ls hh hl => ?_)  _ _ _ hh (lv_sub hl [1, 2, 0] rfl)
  refine lv_iload_n hx hb dX1_growOver_23 rfl (lv_at hl 2 rfl) ?_
  refine lv_aload_n hx hb dX1_growOver_24 rfl (lv_at hl 0 rfl) ?_
  refine r_gi X hh ht fk_X1_22 dX1_growOver_25 ?_
  refine lv_icmp_gt (tgt := 118) hx hb dX1_growOver_28 (by decide) (fun hc8 => ?_) (fun hc8 => ?_)
  · have hf := if_t hc8 hf
    exact e_v X hr hlk hh ⟨rfl, so_e hf⟩ dX1_growOver_118
  · have hf := if_f hc8 hf
    refine lv_iconst (v := (0 : Int32)) hx hb dX1_growOver_31 (by decide) ?_
    refine lv_istore_n (lv' := [(3, .int (0 : Int32)), (0, .ref (B + t)), (1, .ref (B + a0)), (2, .int x4)]) hx hb dX1_growOver_32 rfl hl (by decide) rfl (fun ls hl => ?_)
    refine wl2_W (P := fun (x9 : Int32) (w10 : Wd) => ∀ (H : Heap) (locs : List Loc) (ls : Array Slot), Hp B D n w10 s H locs → lv_has ls 4 [(0, .ref (B + t)), (1, .ref (B + a0)), (2, .int x4), (3, .int x9)] → W p l e (rmk 3 76 0 0) s m args below meth c H locs 0 0 (MZ below B D n w' none args s 0 0) (F0 m 33 ls [])) hf (fun x9 w10 k11 ih12 hf  H locs ls hh hl => ?_)  _ _ _ hh (lv_sub hl [1, 2, 3, 0] rfl)
    refine lv_iload_n hx hb dX1_growOver_33 rfl (lv_at hl 3 rfl) ?_
    refine lv_aload_n hx hb dX1_growOver_34 rfl (lv_at hl 0 rfl) ?_
    refine r_gi X hh ht fk_X1_26 dX1_growOver_35 ?_
    refine lv_icmp_gt (tgt := 112) hx hb dX1_growOver_38 (by decide) (fun hc13 => ?_) (fun hc13 => ?_)
    · have hf := if_t hc13 hf
      obtain ⟨x14, e15⟩ : ∃ y : Int32, y = (x4 + (1 : Int32)) := ⟨_, rfl⟩
      have hf := lt_e e15 hf
      refine lv_iinc (v := x14) (lv' := [(2, .int x14), (0, .ref (B + t)), (1, .ref (B + a0)), (3, .int x9)]) hx hb dX1_growOver_112 hl (k := 2) rfl (by rw [e15]; rfl) (by decide) rfl (fun ls hl => ?_)
      refine lv_goto (tgt := 23) hx hb dX1_growOver_115 (by decide) ?_
      exact ih7 _ _ hf  _ _ _ hh (lv_sub hl [1, 2, 0] rfl)
    · have hf := if_f hc13 hf
      refine lv_iload_n hx hb dX1_growOver_41 rfl (lv_at hl 2 rfl) ?_
      refine jn_W (P := fun j18 => ∀ (w17 : Wd), j18 w17 = some w' → ∀ (H : Heap) (locs : List Loc) (ls : Array Slot), Hp B D n w17 s H locs → lv_has ls 4 [(0, .ref (B + t)), (1, .ref (B + a0)), (2, .int x4), (3, .int x9)] → W p l e (rmk 3 76 0 0) s m args below meth c H locs 0 0 (MZ below B D n w' none args s 0 0) (F0 m 106 ls [])) hf (fun w17 hf  H locs ls hh hl => ?_) (fun j18 hj18 hf => ?_)
      · obtain ⟨x19, e20⟩ : ∃ y : Int32, y = (x9 + (1 : Int32)) := ⟨_, rfl⟩
        have hf := lt_e e20 hf
        refine lv_iinc (v := x19) (lv' := [(3, .int x19), (0, .ref (B + t)), (1, .ref (B + a0)), (2, .int x4)]) hx hb dX1_growOver_106 hl (k := 3) rfl (by rw [e20]; rfl) (by decide) rfl (fun ls hl => ?_)
        refine lv_goto (tgt := 33) hx hb dX1_growOver_109 (by decide) ?_
        exact ih12 _ _ hf  _ _ _ hh (lv_sub hl [1, 2, 3, 0] rfl)
      · refine jn_W (P := fun j21 => j21 = some w' → ∀ (H : Heap) (locs : List Loc) (ls : Array Slot), Hp B D n w10 s H locs → lv_has ls 4 [(0, .ref (B + t)), (1, .ref (B + a0)), (2, .int x4), (3, .int x9)] → W p l e (rmk 3 76 0 0) s m args below meth c H locs 0 0 (MZ below B D n w' none args s 0 0) (F0 m 49 ls [])) hf (fun  hf  H locs ls hh hl => ?_) (fun j21 hj21 hf => ?_)
        · refine lv_aload_n hx hb dX1_growOver_49 rfl (lv_at hl 0 rfl) ?_
          refine lv_iload_n hx hb dX1_growOver_50 rfl (lv_at hl 2 rfl) ?_
          refine lv_iload_n hx hb dX1_growOver_51 rfl (lv_at hl 3 rfl) ?_
          obtain ⟨v23, hc22, hf⟩ := c1_e hf
          obtain ⟨h24, hf⟩ := ck_n hN hf
          refine q_V (w' := w10) (rest := []) X hml hh (some (.ref (B + v23))) (m_X1_at l B D hN ht hc22) cf_X1_at k_265 ht ci_1 rfl rfl hl.1 rfl (Nat.le_of_ble_eq_true rfl) ⟨Nat.le_of_ble_eq_true rfl, Nat.le_of_ble_eq_true rfl⟩ ⟨Nat.zero_le _, Nat.zero_le _⟩ dX1_growOver_52 rfl (fun H locs hh => ?_)
          obtain ⟨w26, hc25, hf⟩ := c1_e hf
          refine q_V (w' := w26) (rest := []) X hml hh none (m_X5_makeEmpty l B D hN h24 hc25) cf_X5_makeEmpty k_269 h24 ci_5 rfl rfl hl.1 rfl (Nat.le_of_ble_eq_true rfl) ⟨Nat.le_of_ble_eq_true rfl, Nat.le_of_ble_eq_true rfl⟩ ⟨Nat.zero_le _, Nat.zero_le _⟩ dX1_growOver_55 rfl (fun H locs hh => ?_)
          refine lv_goto (tgt := 106) hx hb dX1_growOver_58 (by decide) ?_
          exact hj18 _ hf  _ _ _ hh (lv_sub hl [0, 1, 2, 3] rfl)
        · refine lv_if_eq (tgt := 49) hx hb dX1_growOver_42 (by decide) (fun hc16 => ?_) (fun hc16 => ?_)
          · have hf := if_t hc16 hf
            exact hj21  hf  _ _ _ hh (lv_sub hl [0, 1, 2, 3] rfl)
          · have hf := if_f hc16 hf
            refine lv_iload_n hx hb dX1_growOver_45 rfl (lv_at hl 3 rfl) ?_
            refine lv_if_ne (tgt := 61) hx hb dX1_growOver_46 (by decide) (fun hc27 => ?_) (fun hc27 => ?_)
            · have hf := if_f hc27 hf
              refine lv_aload_n hx hb dX1_growOver_61 rfl (lv_at hl 0 rfl) ?_
              refine lv_iload_n hx hb dX1_growOver_62 rfl (lv_at hl 2 rfl) ?_
              refine lv_iload_n hx hb dX1_growOver_63 rfl (lv_at hl 3 rfl) ?_
              obtain ⟨v29, hc28, hf⟩ := c1_e hf
              obtain ⟨h30, hf⟩ := ck_n hN hf
              refine q_V (w' := w10) (rest := []) X hml hh (some (.ref (B + v29))) (m_X1_at l B D hN ht hc28) cf_X1_at k_265 ht ci_1 rfl rfl hl.1 rfl (Nat.le_of_ble_eq_true rfl) ⟨Nat.le_of_ble_eq_true rfl, Nat.le_of_ble_eq_true rfl⟩ ⟨Nat.zero_le _, Nat.zero_le _⟩ dX1_growOver_64 rfl (fun H locs hh => ?_)
              refine lv_aload_n hx hb dX1_growOver_67 rfl (lv_at hl 0 rfl) ?_
              refine lv_iload_n hx hb dX1_growOver_68 rfl (lv_at hl 2 rfl) ?_
              refine lv_iconst (v := (1 : Int32)) hx hb dX1_growOver_69 (by decide) ?_
              refine lv_isub hx hb dX1_growOver_70 ?_
              refine lv_iload_n hx hb dX1_growOver_71 rfl (lv_at hl 3 rfl) ?_
              refine lv_iconst (v := (1 : Int32)) hx hb dX1_growOver_72 (by decide) ?_
              refine lv_isub hx hb dX1_growOver_73 ?_
              obtain ⟨v32, hc31, hf⟩ := c1_e hf
              obtain ⟨h33, hf⟩ := ck_n hN hf
              refine q_V (w' := w10) (rest := [.ref (B + v29)]) X hml hh (some (.ref (B + v32))) (m_X1_at l B D hN ht hc31) cf_X1_at k_265 ht ci_1 rfl rfl hl.1 rfl (Nat.le_of_ble_eq_true rfl) ⟨Nat.le_of_ble_eq_true rfl, Nat.le_of_ble_eq_true rfl⟩ ⟨Nat.zero_le _, Nat.zero_le _⟩ dX1_growOver_74 rfl (fun H locs hh => ?_)
              refine lv_aload_n hx hb dX1_growOver_77 rfl (lv_at hl 0 rfl) ?_
              refine lv_iload_n hx hb dX1_growOver_78 rfl (lv_at hl 2 rfl) ?_
              refine lv_iconst (v := (1 : Int32)) hx hb dX1_growOver_79 (by decide) ?_
              refine lv_isub hx hb dX1_growOver_80 ?_
              refine lv_iload_n hx hb dX1_growOver_81 rfl (lv_at hl 3 rfl) ?_
              obtain ⟨v35, hc34, hf⟩ := c1_e hf
              obtain ⟨h36, hf⟩ := ck_n hN hf
              refine q_V (w' := w10) (rest := [.ref (B + v32), .ref (B + v29)]) X hml hh (some (.ref (B + v35))) (m_X1_at l B D hN ht hc34) cf_X1_at k_265 ht ci_1 rfl rfl hl.1 rfl (Nat.le_of_ble_eq_true rfl) ⟨Nat.le_of_ble_eq_true rfl, Nat.le_of_ble_eq_true rfl⟩ ⟨Nat.zero_le _, Nat.zero_le _⟩ dX1_growOver_82 rfl (fun H locs hh => ?_)
              refine lv_aload_n hx hb dX1_growOver_85 rfl (lv_at hl 0 rfl) ?_
              refine lv_iload_n hx hb dX1_growOver_86 rfl (lv_at hl 2 rfl) ?_
              refine lv_iload_n hx hb dX1_growOver_87 rfl (lv_at hl 3 rfl) ?_
              refine lv_iconst (v := (1 : Int32)) hx hb dX1_growOver_88 (by decide) ?_
              refine lv_isub hx hb dX1_growOver_89 ?_
              obtain ⟨v38, hc37, hf⟩ := c1_e hf
              obtain ⟨h39, hf⟩ := ck_n hN hf
              refine q_V (w' := w10) (rest := [.ref (B + v35), .ref (B + v32), .ref (B + v29)]) X hml hh (some (.ref (B + v38))) (m_X1_at l B D hN ht hc37) cf_X1_at k_265 ht ci_1 rfl rfl hl.1 rfl (Nat.le_of_ble_eq_true rfl) ⟨Nat.le_of_ble_eq_true rfl, Nat.le_of_ble_eq_true rfl⟩ ⟨Nat.zero_le _, Nat.zero_le _⟩ dX1_growOver_90 rfl (fun H locs hh => ?_)
              refine lv_aload_n hx hb dX1_growOver_93 rfl (lv_at hl 1 rfl) ?_
              refine lv_iload_n hx hb dX1_growOver_94 rfl (lv_at hl 2 rfl) ?_
              refine lv_iload_n hx hb dX1_growOver_95 rfl (lv_at hl 3 rfl) ?_
              obtain ⟨v41, hc40, hf⟩ := c1_e hf
              refine q_V (w' := w10) (rest := [.ref (B + v38), .ref (B + v35), .ref (B + v32), .ref (B + v29)]) X hml hh (some (.int v41)) (m_X0_worthAt l B D hN ha0 hc40) cf_X0_worthAt k_273 ha0 ci_0 rfl rfl hl.1 rfl (Nat.le_of_ble_eq_true rfl) ⟨Nat.le_of_ble_eq_true rfl, Nat.le_of_ble_eq_true rfl⟩ ⟨Nat.zero_le _, Nat.zero_le _⟩ dX1_growOver_96 rfl (fun H locs hh => ?_)
              refine lv_aload_n hx hb dX1_growOver_99 rfl (lv_at hl 1 rfl) ?_
              refine r_gi X hh ha0 fk_X1_51 dX1_growOver_100 ?_
              obtain ⟨w43, hc42, hf⟩ := c1_e hf
              refine q_V (w' := w43) (rest := []) X hml hh none (m_X5_growFrom l B D hN h30 h33 h36 h39 hc42) cf_X5_growFrom k_280 h30 ci_5 rfl rfl hl.1 rfl (Nat.le_of_ble_eq_true rfl) ⟨Nat.le_of_ble_eq_true rfl, Nat.le_of_ble_eq_true rfl⟩ ⟨Nat.zero_le _, Nat.zero_le _⟩ dX1_growOver_103 rfl (fun H locs hh => ?_)
              exact hj18 _ hf  _ _ _ hh (lv_sub hl [0, 1, 2, 3] rfl)
            · have hf := if_t hc27 hf
              exact hj21  hf  _ _ _ hh (lv_sub hl [0, 1, 2, 3] rfl)
set_option maxHeartbeats 4000000 in
set_option maxRecDepth 100000 in
theorem m_X1_goBackInto (l : Launch) (B : Nat) (D : DD) {n : Nat} (hN : 139 ≤ n) {t : Nat} {a0 : Nat} {w : Wd} {r : Int32} {w' : Wd} (ht : t < n ∧ kd t = 1) (ha0 : a0 < n ∧ kd a0 = 0) (hf : f_X1_goBackInto t a0 w = some (r, w')) : Ct l yX1_goBackInto cX1_goBackInto 6 (some .int) 3 75 0 0 B D [.ref (B + t), .ref (B + a0)] n w (some (.int r)) n w' := by
  refine m_of (by decide) (Nat.le_of_ble_eq_true rfl) (fun p e s m args below meth c X hml hr hlk _ H locs hh ls hl => ?_)
  have hx := X.1
  have hb := X.2.1
  have hl : lv_has ls 6 [(0, .ref (B + t)), (1, .ref (B + a0))] := hl
  unfold f_X1_goBackInto at hf
  refine lv_iconst (v := (0 : Int32)) hx hb dX1_goBackInto_0 (by decide) ?_
  refine lv_istore_n (lv' := [(2, .int (0 : Int32)), (0, .ref (B + t)), (1, .ref (B + a0))]) hx hb dX1_goBackInto_1 rfl hl (by decide) rfl (fun ls hl => ?_)
  refine lv_aload_n hx hb dX1_goBackInto_2 rfl (lv_at hl 1 rfl) ?_
  refine r_gi X hh ht fk_X1_22 dX1_goBackInto_3 ?_
  refine lv_topi (fun x1 e2 => ?_)
  have hf := lt_e e2 hf
  refine lv_istore_n (lv' := [(3, .int x1), (2, .int (0 : Int32)), (0, .ref (B + t)), (1, .ref (B + a0))]) hx hb dX1_goBackInto_6 rfl hl (by decide) rfl (fun ls hl => ?_)
  refine wl3_W (P := fun (x3 : Int32) (x4 : Int32) (w5 : Wd) => ∀ (H : Heap) (locs : List Loc) (ls : Array Slot), Hp B D n w5 s H locs → lv_has ls 6 [(0, .ref (B + t)), (1, .ref (B + a0)), (2, .int x3), (3, .int x4)] → W p l e (rmk 3 75 0 0) s m args below meth c H locs 0 0 (MZ below B D n w' (some (.int r)) args s 0 0) (F0 m 7 ls [])) hf (fun x3 x4 w5 k6 ih7 hf  H locs ls hh hl => ?_)  _ _ _ hh (lv_sub hl [2, 3, 1, 0] rfl)
  refine lv_iload_n hx hb dX1_goBackInto_7 rfl (lv_at hl 3 rfl) ?_
  refine lv_iconst (v := (1 : Int32)) hx hb dX1_goBackInto_8 (by decide) ?_
  refine lv_icmp_lt (tgt := 97) hx hb dX1_goBackInto_9 (by decide) (fun hc8 => ?_) (fun hc8 => ?_)
  · have hf := if_t hc8 hf
    refine lv_iload_n hx hb dX1_goBackInto_97 rfl (lv_at hl 2 rfl) ?_
    exact e_i X hr hlk hh (so2_e hf) dX1_goBackInto_98
  · have hf := if_f hc8 hf
    refine lv_aload_n hx hb dX1_goBackInto_12 rfl (lv_at hl 0 rfl) ?_
    refine r_gi X hh ht fk_X1_26 dX1_goBackInto_13 ?_
    refine lv_topi (fun x9 e10 => ?_)
    have hf := lt_e e10 hf
    refine lv_istore (lv' := [(4, .int x9), (0, .ref (B + t)), (1, .ref (B + a0)), (2, .int x3), (3, .int x4)]) hx hb dX1_goBackInto_16 hl (by decide) rfl (fun ls hl => ?_)
    refine wl3_W (P := fun (x11 : Int32) (x12 : Int32) (w13 : Wd) => ∀ (H : Heap) (locs : List Loc) (ls : Array Slot), Hp B D n w13 s H locs → lv_has ls 6 [(0, .ref (B + t)), (1, .ref (B + a0)), (2, .int x11), (3, .int x4), (4, .int x12)] → W p l e (rmk 3 75 0 0) s m args below meth c H locs 0 0 (MZ below B D n w' (some (.int r)) args s 0 0) (F0 m 18 ls [])) hf (fun x11 x12 w13 k14 ih15 hf  H locs ls hh hl => ?_)  _ _ _ hh (lv_sub hl [1, 2, 3, 4, 0] rfl)
    refine lv_iload hx hb dX1_goBackInto_18 (lv_at hl 4 rfl) ?_
    refine lv_iconst (v := (1 : Int32)) hx hb dX1_goBackInto_20 (by decide) ?_
    refine lv_icmp_lt (tgt := 91) hx hb dX1_goBackInto_21 (by decide) (fun hc16 => ?_) (fun hc16 => ?_)
    · have hf := if_t hc16 hf
      obtain ⟨x17, e18⟩ : ∃ y : Int32, y = (x4 + (-1 : Int32)) := ⟨_, rfl⟩
      have hf := lt_e e18 hf
      refine lv_iinc (v := x17) (lv' := [(3, .int x17), (0, .ref (B + t)), (1, .ref (B + a0)), (2, .int x11), (4, .int x12)]) hx hb dX1_goBackInto_91 hl (k := 3) rfl (by rw [e18]; rfl) (by decide) rfl (fun ls hl => ?_)
      refine lv_goto (tgt := 7) hx hb dX1_goBackInto_94 (by decide) ?_
      exact ih7 _ _ _ hf  _ _ _ hh (lv_sub hl [1, 2, 3, 0] rfl)
    · have hf := if_f hc16 hf
      refine lv_aload_n hx hb dX1_goBackInto_24 rfl (lv_at hl 0 rfl) ?_
      refine lv_iload_n hx hb dX1_goBackInto_25 rfl (lv_at hl 3 rfl) ?_
      refine lv_iconst (v := (1 : Int32)) hx hb dX1_goBackInto_26 (by decide) ?_
      refine lv_isub hx hb dX1_goBackInto_27 ?_
      refine lv_iload hx hb dX1_goBackInto_28 (lv_at hl 4 rfl) ?_
      refine lv_iconst (v := (1 : Int32)) hx hb dX1_goBackInto_30 (by decide) ?_
      refine lv_isub hx hb dX1_goBackInto_31 ?_
      obtain ⟨v20, hc19, hf⟩ := c1_e hf
      obtain ⟨h21, hf⟩ := ck_n hN hf
      refine q_V (w' := w13) (rest := []) X hml hh (some (.ref (B + v20))) (m_X1_at l B D hN ht hc19) cf_X1_at k_265 ht ci_1 rfl rfl hl.1 rfl (Nat.le_of_ble_eq_true rfl) ⟨Nat.le_of_ble_eq_true rfl, Nat.le_of_ble_eq_true rfl⟩ ⟨Nat.zero_le _, Nat.zero_le _⟩ dX1_goBackInto_32 rfl (fun H locs hh => ?_)
      refine lv_aload_n hx hb dX1_goBackInto_35 rfl (lv_at hl 0 rfl) ?_
      refine lv_iload_n hx hb dX1_goBackInto_36 rfl (lv_at hl 3 rfl) ?_
      refine lv_iload hx hb dX1_goBackInto_37 (lv_at hl 4 rfl) ?_
      obtain ⟨v23, hc22, hf⟩ := c1_e hf
      obtain ⟨h24, hf⟩ := ck_n hN hf
      refine q_V (w' := w13) (rest := [.ref (B + v20)]) X hml hh (some (.ref (B + v23))) (m_X1_at l B D hN ht hc22) cf_X1_at k_265 ht ci_1 rfl rfl hl.1 rfl (Nat.le_of_ble_eq_true rfl) ⟨Nat.le_of_ble_eq_true rfl, Nat.le_of_ble_eq_true rfl⟩ ⟨Nat.zero_le _, Nat.zero_le _⟩ dX1_goBackInto_39 rfl (fun H locs hh => ?_)
      refine lv_aload_n hx hb dX1_goBackInto_42 rfl (lv_at hl 0 rfl) ?_
      refine lv_iload_n hx hb dX1_goBackInto_43 rfl (lv_at hl 3 rfl) ?_
      refine lv_iconst (v := (1 : Int32)) hx hb dX1_goBackInto_44 (by decide) ?_
      refine lv_isub hx hb dX1_goBackInto_45 ?_
      refine lv_iload hx hb dX1_goBackInto_46 (lv_at hl 4 rfl) ?_
      obtain ⟨v26, hc25, hf⟩ := c1_e hf
      obtain ⟨h27, hf⟩ := ck_n hN hf
      refine q_V (w' := w13) (rest := [.ref (B + v23), .ref (B + v20)]) X hml hh (some (.ref (B + v26))) (m_X1_at l B D hN ht hc25) cf_X1_at k_265 ht ci_1 rfl rfl hl.1 rfl (Nat.le_of_ble_eq_true rfl) ⟨Nat.le_of_ble_eq_true rfl, Nat.le_of_ble_eq_true rfl⟩ ⟨Nat.zero_le _, Nat.zero_le _⟩ dX1_goBackInto_48 rfl (fun H locs hh => ?_)
      refine lv_aload_n hx hb dX1_goBackInto_51 rfl (lv_at hl 0 rfl) ?_
      refine lv_iload_n hx hb dX1_goBackInto_52 rfl (lv_at hl 3 rfl) ?_
      refine lv_iload hx hb dX1_goBackInto_53 (lv_at hl 4 rfl) ?_
      refine lv_iconst (v := (1 : Int32)) hx hb dX1_goBackInto_55 (by decide) ?_
      refine lv_isub hx hb dX1_goBackInto_56 ?_
      obtain ⟨v29, hc28, hf⟩ := c1_e hf
      obtain ⟨h30, hf⟩ := ck_n hN hf
      refine q_V (w' := w13) (rest := [.ref (B + v26), .ref (B + v23), .ref (B + v20)]) X hml hh (some (.ref (B + v29))) (m_X1_at l B D hN ht hc28) cf_X1_at k_265 ht ci_1 rfl rfl hl.1 rfl (Nat.le_of_ble_eq_true rfl) ⟨Nat.le_of_ble_eq_true rfl, Nat.le_of_ble_eq_true rfl⟩ ⟨Nat.zero_le _, Nat.zero_le _⟩ dX1_goBackInto_57 rfl (fun H locs hh => ?_)
      refine lv_aload_n hx hb dX1_goBackInto_60 rfl (lv_at hl 1 rfl) ?_
      refine r_gi X hh ha0 fk_X1_51 dX1_goBackInto_61 ?_
      obtain ⟨v32, w33, hc31, hf⟩ := c2_e hf
      refine q_V (w' := w33) (rest := []) X hml hh (some (.int v32)) (m_X5_goBackFrom l B D hN h21 h24 h27 h30 hc31) cf_X5_goBackFrom k_359 h21 ci_5 rfl rfl hl.1 rfl (Nat.le_of_ble_eq_true rfl) ⟨Nat.le_of_ble_eq_true rfl, Nat.le_of_ble_eq_true rfl⟩ ⟨Nat.zero_le _, Nat.zero_le _⟩ dX1_goBackInto_64 rfl (fun H locs hh => ?_)
      refine lv_istore (lv' := [(5, .int v32), (0, .ref (B + t)), (1, .ref (B + a0)), (2, .int x11), (3, .int x4), (4, .int x12)]) hx hb dX1_goBackInto_67 hl (by decide) rfl (fun ls hl => ?_)
      refine lv_aload_n hx hb dX1_goBackInto_69 rfl (lv_at hl 2 rfl) ?_
      refine lv_iload_n hx hb dX1_goBackInto_70 rfl (lv_at hl 4 rfl) ?_
      refine lv_iload hx hb dX1_goBackInto_71 (lv_at hl 5 rfl) ?_
      refine lv_iload hx hb dX1_goBackInto_73 (lv_at hl 0 rfl) ?_
      obtain ⟨w35, hc34, hf⟩ := c1_e hf
      refine q_V (w' := w35) (rest := []) X hml hh none (m_X0_setNumber l B D hN ha0 hc34) cf_X0_setNumber k_366 ha0 ci_0 rfl rfl hl.1 rfl (Nat.le_of_ble_eq_true rfl) ⟨Nat.le_of_ble_eq_true rfl, Nat.le_of_ble_eq_true rfl⟩ ⟨Nat.zero_le _, Nat.zero_le _⟩ dX1_goBackInto_75 rfl (fun H locs hh => ?_)
      refine lv_iload_n hx hb dX1_goBackInto_78 rfl (lv_at hl 3 rfl) ?_
      refine lv_iload hx hb dX1_goBackInto_79 (lv_at hl 0 rfl) ?_
      refine q_max X hml hl.1 k_370 (Nat.le_of_ble_eq_true rfl) ⟨Nat.le_of_ble_eq_true rfl, Nat.le_of_ble_eq_true rfl⟩ ⟨Nat.zero_le _, Nat.zero_le _⟩ dX1_goBackInto_81 ?_
      refine lv_topi (fun x36 e37 => ?_)
      have hf := lt_e e37 hf
      refine lv_istore_n (lv' := [(2, .int x36), (5, .int v32), (0, .ref (B + t)), (1, .ref (B + a0)), (3, .int x4), (4, .int x12)]) hx hb dX1_goBackInto_84 rfl hl (by decide) rfl (fun ls hl => ?_)
      obtain ⟨x38, e39⟩ : ∃ y : Int32, y = (x12 + (-1 : Int32)) := ⟨_, rfl⟩
      have hf := lt_e e39 hf
      refine lv_iinc (v := x38) (lv' := [(4, .int x38), (2, .int x36), (5, .int v32), (0, .ref (B + t)), (1, .ref (B + a0)), (3, .int x4)]) hx hb dX1_goBackInto_85 hl (k := 5) rfl (by rw [e39]; rfl) (by decide) rfl (fun ls hl => ?_)
      refine lv_goto (tgt := 18) hx hb dX1_goBackInto_88 (by decide) ?_
      exact ih15 _ _ _ hf  _ _ _ hh (lv_sub hl [3, 4, 1, 5, 0] rfl)
set_option maxHeartbeats 4000000 in
set_option maxRecDepth 100000 in
theorem m_X1_rimFits (l : Launch) (B : Nat) (D : DD) {n : Nat} (hN : 139 ≤ n) {t : Nat} {a0 : Int32} {w : Wd} {r : Int32} (ht : t < n ∧ kd t = 1) (hf : f_X1_rimFits t a0 w = some r) : Ct l yX1_rimFits cX1_rimFits 5 (some .boolean) 3 67 0 0 B D [.ref (B + t), .int a0] n w (some (.int r)) n w := by
  refine m_of (by decide) (Nat.le_of_ble_eq_true rfl) (fun p e s m args below meth c X hml hr hlk _ H locs hh ls hl => ?_)
  have hx := X.1
  have hb := X.2.1
  have hl : lv_has ls 5 [(0, .ref (B + t)), (1, .int a0)] := hl
  unfold f_X1_rimFits at hf
  refine lv_iload_n hx hb dX1_rimFits_0 rfl (lv_at hl 1 rfl) ?_
  refine lv_iconst (v := (1 : Int32)) hx hb dX1_rimFits_1 (by decide) ?_
  refine mg_W (P := fun (x3 : Int32) => ∀ (ls : Array Slot), lv_has ls 5 [(0, .ref (B + t)), (1, .int a0)] → W p l e (rmk 3 67 0 0) s m args below meth c H locs 0 0 (MZ below B D n w (some (.int r)) args s 0 0) (F0 m 15 ls [.int x3])) hf (fun x3 hf ls hl => ?_) (fun hj38 => ?_)
  · refine lv_istore_n (lv' := [(2, .int x3), (0, .ref (B + t)), (1, .int a0)]) hx hb dX1_rimFits_15 rfl hl (by decide) rfl (fun ls hl => ?_)
    refine lv_iload_n hx hb dX1_rimFits_16 rfl (lv_at hl 2 rfl) ?_
    refine lv_iconst (v := (2 : Int32)) hx hb dX1_rimFits_17 (by decide) ?_
    refine mg_W (P := fun (x6 : Int32) => ∀ (ls : Array Slot), lv_has ls 5 [(0, .ref (B + t)), (2, .int x3)] → W p l e (rmk 3 67 0 0) s m args below meth c H locs 0 0 (MZ below B D n w (some (.int r)) args s 0 0) (F0 m 31 ls [.int x6])) hf (fun x6 hf ls hl => ?_) (fun hj37 => ?_)
    · refine lv_istore_n (lv' := [(3, .int x6), (0, .ref (B + t)), (2, .int x3)]) hx hb dX1_rimFits_31 rfl hl (by decide) rfl (fun ls hl => ?_)
      refine lv_iconst (v := (1 : Int32)) hx hb dX1_rimFits_32 (by decide) ?_
      refine lv_istore (lv' := [(4, .int (1 : Int32)), (3, .int x6), (0, .ref (B + t)), (2, .int x3)]) hx hb dX1_rimFits_33 hl (by decide) rfl (fun ls hl => ?_)
      refine wl1_W (P := fun (x7 : Int32) => ∀ (H : Heap) (locs : List Loc) (ls : Array Slot), Hp B D n w s H locs → lv_has ls 5 [(0, .ref (B + t)), (2, .int x3), (3, .int x6), (4, .int x7)] → W p l e (rmk 3 67 0 0) s m args below meth c H locs 0 0 (MZ below B D n w (some (.int r)) args s 0 0) (F0 m 35 ls [])) hf (fun x7 k8 ih9 hf  H locs ls hh hl => ?_)  _ _ _ hh (lv_sub hl [2, 3, 1, 0] rfl)
      refine lv_iload hx hb dX1_rimFits_35 (lv_at hl 3 rfl) ?_
      refine lv_aload_n hx hb dX1_rimFits_37 rfl (lv_at hl 0 rfl) ?_
      refine r_gi X hh ht fk_X1_22 dX1_rimFits_38 ?_
      refine lv_icmp_gt (tgt := 81) hx hb dX1_rimFits_41 (by decide) (fun hc10 => ?_) (fun hc10 => ?_)
      · have hf := if_t hc10 hf
        refine lv_iconst (v := (1 : Int32)) hx hb dX1_rimFits_81 (by decide) ?_
        refine lv_istore (lv' := [(4, .int (1 : Int32)), (0, .ref (B + t)), (2, .int x3), (3, .int x6)]) hx hb dX1_rimFits_82 hl (by decide) rfl (fun ls hl => ?_)
        refine wl1_W (P := fun (x11 : Int32) => ∀ (H : Heap) (locs : List Loc) (ls : Array Slot), Hp B D n w s H locs → lv_has ls 5 [(0, .ref (B + t)), (3, .int x6), (4, .int x11)] → W p l e (rmk 3 67 0 0) s m args below meth c H locs 0 0 (MZ below B D n w (some (.int r)) args s 0 0) (F0 m 84 ls [])) hf (fun x11 k12 ih13 hf  H locs ls hh hl => ?_)  _ _ _ hh (lv_sub hl [1, 3, 0] rfl)
        refine lv_iload hx hb dX1_rimFits_84 (lv_at hl 2 rfl) ?_
        refine lv_aload_n hx hb dX1_rimFits_86 rfl (lv_at hl 0 rfl) ?_
        refine r_gi X hh ht fk_X1_26 dX1_rimFits_87 ?_
        refine lv_icmp_gt (tgt := 130) hx hb dX1_rimFits_90 (by decide) (fun hc14 => ?_) (fun hc14 => ?_)
        · have hf := if_t hc14 hf
          refine lv_iconst (v := (1 : Int32)) hx hb dX1_rimFits_130 (by decide) ?_
          exact e_z X hr hlk hh (Or.inr rfl) ⟨so_e hf, rfl⟩ dX1_rimFits_131
        · have hf := if_f hc14 hf
          refine lv_aload_n hx hb dX1_rimFits_93 rfl (lv_at hl 0 rfl) ?_
          refine lv_aload_n hx hb dX1_rimFits_94 rfl (lv_at hl 0 rfl) ?_
          refine r_gi X hh ht fk_X1_22 dX1_rimFits_95 ?_
          refine lv_iload hx hb dX1_rimFits_98 (lv_at hl 2 rfl) ?_
          obtain ⟨v16, hc15, hf⟩ := c1_e hf
          obtain ⟨h17, hf⟩ := ck_n hN hf
          refine q_V (w' := w) (rest := []) X hml hh (some (.ref (B + v16))) (m_X1_at l B D hN ht hc15) cf_X1_at k_265 ht ci_1 rfl rfl hl.1 rfl (Nat.le_of_ble_eq_true rfl) ⟨Nat.le_of_ble_eq_true rfl, Nat.le_of_ble_eq_true rfl⟩ ⟨Nat.zero_le _, Nat.zero_le _⟩ dX1_rimFits_100 rfl (fun H locs hh => ?_)
          refine lv_aload_n hx hb dX1_rimFits_103 rfl (lv_at hl 0 rfl) ?_
          refine lv_aload_n hx hb dX1_rimFits_104 rfl (lv_at hl 0 rfl) ?_
          refine r_gi X hh ht fk_X1_22 dX1_rimFits_105 ?_
          refine lv_iload hx hb dX1_rimFits_108 (lv_at hl 2 rfl) ?_
          refine lv_iconst (v := (1 : Int32)) hx hb dX1_rimFits_110 (by decide) ?_
          refine lv_isub hx hb dX1_rimFits_111 ?_
          obtain ⟨v19, hc18, hf⟩ := c1_e hf
          obtain ⟨h20, hf⟩ := ck_n hN hf
          refine q_V (w' := w) (rest := [.ref (B + v16)]) X hml hh (some (.ref (B + v19))) (m_X1_at l B D hN ht hc18) cf_X1_at k_265 ht ci_1 rfl rfl hl.1 rfl (Nat.le_of_ble_eq_true rfl) ⟨Nat.le_of_ble_eq_true rfl, Nat.le_of_ble_eq_true rfl⟩ ⟨Nat.zero_le _, Nat.zero_le _⟩ dX1_rimFits_112 rfl (fun H locs hh => ?_)
          refine lv_iload_n hx hb dX1_rimFits_115 rfl (lv_at hl 1 rfl) ?_
          obtain ⟨v22, hc21, hf⟩ := c1_e hf
          refine q_V (w' := w) (rest := []) X hml hh (some (.int v22)) (m_X5_goesOnFrom l B D hN h17 h20 hc21) cf_X5_goesOnFrom k_338 h17 ci_5 rfl rfl hl.1 rfl (Nat.le_of_ble_eq_true rfl) ⟨Nat.le_of_ble_eq_true rfl, Nat.le_of_ble_eq_true rfl⟩ ⟨Nat.zero_le _, Nat.zero_le _⟩ dX1_rimFits_116 rfl (fun H locs hh => ?_)
          refine lv_if_ne (tgt := 124) hx hb dX1_rimFits_119 (by decide) (fun hc23 => ?_) (fun hc23 => ?_)
          · have hf := if_f hc23 hf
            obtain ⟨x24, e25⟩ : ∃ y : Int32, y = (x11 + (1 : Int32)) := ⟨_, rfl⟩
            have hf := lt_e e25 hf
            refine lv_iinc (v := x24) (lv' := [(4, .int x24), (0, .ref (B + t)), (3, .int x6)]) hx hb dX1_rimFits_124 hl (k := 2) rfl (by rw [e25]; rfl) (by decide) rfl (fun ls hl => ?_)
            refine lv_goto (tgt := 84) hx hb dX1_rimFits_127 (by decide) ?_
            exact ih13 _ hf  _ _ _ hh (lv_sub hl [1, 2, 0] rfl)
          · have hf := if_t hc23 hf
            refine lv_iconst (v := (0 : Int32)) hx hb dX1_rimFits_122 (by decide) ?_
            exact e_z X hr hlk hh (Or.inl rfl) ⟨so_e hf, rfl⟩ dX1_rimFits_123
      · have hf := if_f hc10 hf
        refine lv_aload_n hx hb dX1_rimFits_44 rfl (lv_at hl 0 rfl) ?_
        refine lv_iload hx hb dX1_rimFits_45 (lv_at hl 3 rfl) ?_
        refine lv_aload_n hx hb dX1_rimFits_47 rfl (lv_at hl 0 rfl) ?_
        refine r_gi X hh ht fk_X1_26 dX1_rimFits_48 ?_
        obtain ⟨v27, hc26, hf⟩ := c1_e hf
        obtain ⟨h28, hf⟩ := ck_n hN hf
        refine q_V (w' := w) (rest := []) X hml hh (some (.ref (B + v27))) (m_X1_at l B D hN ht hc26) cf_X1_at k_265 ht ci_1 rfl rfl hl.1 rfl (Nat.le_of_ble_eq_true rfl) ⟨Nat.le_of_ble_eq_true rfl, Nat.le_of_ble_eq_true rfl⟩ ⟨Nat.zero_le _, Nat.zero_le _⟩ dX1_rimFits_51 rfl (fun H locs hh => ?_)
        refine lv_aload_n hx hb dX1_rimFits_54 rfl (lv_at hl 0 rfl) ?_
        refine lv_iload hx hb dX1_rimFits_55 (lv_at hl 3 rfl) ?_
        refine lv_iconst (v := (1 : Int32)) hx hb dX1_rimFits_57 (by decide) ?_
        refine lv_isub hx hb dX1_rimFits_58 ?_
        refine lv_aload_n hx hb dX1_rimFits_59 rfl (lv_at hl 0 rfl) ?_
        refine r_gi X hh ht fk_X1_26 dX1_rimFits_60 ?_
        obtain ⟨v30, hc29, hf⟩ := c1_e hf
        obtain ⟨h31, hf⟩ := ck_n hN hf
        refine q_V (w' := w) (rest := [.ref (B + v27)]) X hml hh (some (.ref (B + v30))) (m_X1_at l B D hN ht hc29) cf_X1_at k_265 ht ci_1 rfl rfl hl.1 rfl (Nat.le_of_ble_eq_true rfl) ⟨Nat.le_of_ble_eq_true rfl, Nat.le_of_ble_eq_true rfl⟩ ⟨Nat.zero_le _, Nat.zero_le _⟩ dX1_rimFits_63 rfl (fun H locs hh => ?_)
        refine lv_iload_n hx hb dX1_rimFits_66 rfl (lv_at hl 1 rfl) ?_
        obtain ⟨v33, hc32, hf⟩ := c1_e hf
        refine q_V (w' := w) (rest := []) X hml hh (some (.int v33)) (m_X5_goesOnFrom l B D hN h28 h31 hc32) cf_X5_goesOnFrom k_338 h28 ci_5 rfl rfl hl.1 rfl (Nat.le_of_ble_eq_true rfl) ⟨Nat.le_of_ble_eq_true rfl, Nat.le_of_ble_eq_true rfl⟩ ⟨Nat.zero_le _, Nat.zero_le _⟩ dX1_rimFits_67 rfl (fun H locs hh => ?_)
        refine lv_if_ne (tgt := 75) hx hb dX1_rimFits_70 (by decide) (fun hc34 => ?_) (fun hc34 => ?_)
        · have hf := if_f hc34 hf
          obtain ⟨x35, e36⟩ : ∃ y : Int32, y = (x7 + (1 : Int32)) := ⟨_, rfl⟩
          have hf := lt_e e36 hf
          refine lv_iinc (v := x35) (lv' := [(4, .int x35), (0, .ref (B + t)), (2, .int x3), (3, .int x6)]) hx hb dX1_rimFits_75 hl (k := 3) rfl (by rw [e36]; rfl) (by decide) rfl (fun ls hl => ?_)
          refine lv_goto (tgt := 35) hx hb dX1_rimFits_78 (by decide) ?_
          exact ih9 _ hf  _ _ _ hh (lv_sub hl [1, 2, 3, 0] rfl)
        · have hf := if_t hc34 hf
          refine lv_iconst (v := (0 : Int32)) hx hb dX1_rimFits_73 (by decide) ?_
          exact e_z X hr hlk hh (Or.inl rfl) ⟨so_e hf, rfl⟩ dX1_rimFits_74
    · refine lv_icmp_eq (tgt := 26) hx hb dX1_rimFits_18 (by decide) (fun hc4 => ?_) (fun hc4 => ?_)
      · refine lv_iconst (v := (1 : Int32)) hx hb dX1_rimFits_26 (by decide) ?_
        refine lv_goto (tgt := 31) hx hb dX1_rimFits_27 (by decide) ?_
        exact hj37 _ (by rw [if_pos hc4]) ls (lv_sub hl [1, 0] rfl)
      · refine lv_iload_n hx hb dX1_rimFits_21 rfl (lv_at hl 2 rfl) ?_
        refine lv_iconst (v := (3 : Int32)) hx hb dX1_rimFits_22 (by decide) ?_
        refine lv_icmp_ne (tgt := 30) hx hb dX1_rimFits_23 (by decide) (fun hc5 => ?_) (fun hc5 => ?_)
        · refine lv_iconst (v := (0 : Int32)) hx hb dX1_rimFits_30 (by decide) ?_
          exact hj37 _ (by rw [if_neg hc4, if_neg hc5]) ls (lv_sub hl [1, 0] rfl)
        · refine lv_iconst (v := (1 : Int32)) hx hb dX1_rimFits_26 (by decide) ?_
          refine lv_goto (tgt := 31) hx hb dX1_rimFits_27 (by decide) ?_
          exact hj37 _ (by rw [if_neg hc4, if_pos hc5]) ls (lv_sub hl [1, 0] rfl)
  · refine lv_icmp_eq (tgt := 10) hx hb dX1_rimFits_2 (by decide) (fun hc1 => ?_) (fun hc1 => ?_)
    · refine lv_iconst (v := (1 : Int32)) hx hb dX1_rimFits_10 (by decide) ?_
      refine lv_goto (tgt := 15) hx hb dX1_rimFits_11 (by decide) ?_
      exact hj38 _ (by rw [if_pos hc1]) ls (lv_sub hl [0, 1] rfl)
    · refine lv_iload_n hx hb dX1_rimFits_5 rfl (lv_at hl 1 rfl) ?_
      refine lv_iconst (v := (3 : Int32)) hx hb dX1_rimFits_6 (by decide) ?_
      refine lv_icmp_ne (tgt := 14) hx hb dX1_rimFits_7 (by decide) (fun hc2 => ?_) (fun hc2 => ?_)
      · refine lv_iconst (v := (0 : Int32)) hx hb dX1_rimFits_14 (by decide) ?_
        exact hj38 _ (by rw [if_neg hc1, if_neg hc2]) ls (lv_sub hl [0, 1] rfl)
      · refine lv_iconst (v := (1 : Int32)) hx hb dX1_rimFits_10 (by decide) ?_
        refine lv_goto (tgt := 15) hx hb dX1_rimFits_11 (by decide) ?_
        exact hj38 _ (by rw [if_neg hc1, if_pos hc2]) ls (lv_sub hl [0, 1] rfl)

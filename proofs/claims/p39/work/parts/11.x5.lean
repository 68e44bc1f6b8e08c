set_option maxHeartbeats 4000000 in
set_option maxRecDepth 100000 in
theorem m_X5_makeEmpty (l : Launch) (B : Nat) (D : DD) {n : Nat} (hN : 139 ≤ n) {t : Nat} {w : Wd} {w' : Wd} (ht : t < n ∧ kd t = 5) (hf : f_X5_makeEmpty t w = some w') : Ct l yX5_makeEmpty cX5_makeEmpty 1 none 0 0 0 0 B D [.ref (B + t)] n w none n w' := by
  refine m_of (by decide) (Nat.le_of_ble_eq_true rfl) (fun p e s m args below meth c X hml hr hlk _ H locs hh ls hl => ?_)
  have hx := X.1
  have hb := X.2.1
  have hl : lv_has ls 1 [(0, .ref (B + t))] := hl
  unfold f_X5_makeEmpty at hf
  refine lv_aload_n hx hb dX5_makeEmpty_0 rfl (lv_at hl 0 rfl) ?_
  refine lv_iconst (v := (0 : Int32)) hx hb dX5_makeEmpty_1 (by decide) ?_
  refine q_pi X hh ht fk_X5_15 pk_5_1 rfl rfl dX5_makeEmpty_2 hf (fun w1 H locs hf hh => ?_)
  refine lv_aload_n hx hb dX5_makeEmpty_5 rfl (lv_at hl 0 rfl) ?_
  refine lv_iconst (v := (0 : Int32)) hx hb dX5_makeEmpty_6 (by decide) ?_
  refine q_pi X hh ht fk_X5_19 pk_5_2 rfl rfl dX5_makeEmpty_7 hf (fun w2 H locs hf hh => ?_)
  exact e_v X hr hlk hh ⟨rfl, so_e hf⟩ dX5_makeEmpty_10
set_option maxHeartbeats 4000000 in
set_option maxRecDepth 100000 in
theorem m_X5_partAt (l : Launch) (B : Nat) (D : DD) {n : Nat} (hN : 139 ≤ n) {t : Nat} {a0 : Int32} {w : Wd} {r : Int32} (ht : t < n ∧ kd t = 5) (hf : f_X5_partAt t a0 w = some r) : Ct l yX5_partAt cX5_partAt 2 (some .int) 0 0 0 0 B D [.ref (B + t), .int a0] n w (some (.int r)) n w := by
  refine m_of (by decide) (Nat.le_of_ble_eq_true rfl) (fun p e s m args below meth c X hml hr hlk _ H locs hh ls hl => ?_)
  have hx := X.1
  have hb := X.2.1
  have hl : lv_has ls 2 [(0, .ref (B + t)), (1, .int a0)] := hl
  unfold f_X5_partAt at hf
  refine lv_iload_n hx hb dX5_partAt_0 rfl (lv_at hl 1 rfl) ?_
  refine jn_W (P := fun j2 => j2 = some r → ∀ (H : Heap) (locs : List Loc) (ls : Array Slot), Hp B D n w s H locs → lv_has ls 2 [] → W p l e (rmk 0 0 0 0) s m args below meth c H locs 0 0 (MZ below B D n w (some (.int r)) args s 0 0) (F0 m 21 ls [])) hf (fun  hf  H locs ls hh hl => ?_) (fun j2 hj2 hf => ?_)
  · refine lv_iconst (v := (0 : Int32)) hx hb dX5_partAt_21 (by decide) ?_
    exact e_i X hr hlk hh ⟨so_e hf, rfl⟩ dX5_partAt_22
  · refine lv_if_lt (tgt := 21) hx hb dX5_partAt_1 (by decide) (fun hc1 => ?_) (fun hc1 => ?_)
    · have hf := if_t hc1 hf
      exact hj2  hf  _ _ _ hh (lv_sub hl [] rfl)
    · have hf := if_f hc1 hf
      refine lv_iload_n hx hb dX5_partAt_4 rfl (lv_at hl 1 rfl) ?_
      refine lv_aload_n hx hb dX5_partAt_5 rfl (lv_at hl 0 rfl) ?_
      refine r_gi X hh ht fk_X5_15 dX5_partAt_6 ?_
      refine lv_icmp_ge (tgt := 21) hx hb dX5_partAt_9 (by decide) (fun hc3 => ?_) (fun hc3 => ?_)
      · have hf := if_t hc3 hf
        exact hj2  hf  _ _ _ hh (lv_sub hl [] rfl)
      · have hf := if_f hc3 hf
        refine lv_aload_n hx hb dX5_partAt_12 rfl (lv_at hl 0 rfl) ?_
        refine q_gr (P := 9) X hh ht fk_X5_9 dX5_partAt_13 hN hf (fun t4 h5 hf => ?_)
        refine lv_iload_n hx hb dX5_partAt_16 rfl (lv_at hl 1 rfl) ?_
        refine q_ald X hh h5 dX5_partAt_17 hf (fun hf => ?_)
        refine lv_topi (fun x7 e8 => ?_)
        have hf := lt_e e8 hf
        refine lv_goto (tgt := 22) hx hb dX5_partAt_18 (by decide) ?_
        exact e_i X hr hlk hh ⟨so_e hf, rfl⟩ dX5_partAt_22
set_option maxHeartbeats 4000000 in
set_option maxRecDepth 100000 in
theorem m_X5_grownPart (l : Launch) (B : Nat) (D : DD) {n : Nat} (hN : 139 ≤ n) {a0 : Int32} {a1 : Int32} {a2 : Int32} {a3 : Int32} {a4 : Int32} {w : Wd} {r : Int32} (hf : f_X5_grownPart a0 a1 a2 a3 a4 = some r) : Ct l yX5_grownPart cX5_grownPart 5 (some .int) 1 21 0 0 B D [.int a0, .int a1, .int a2, .int a3, .int a4] n w (some (.int r)) n w := by
  refine m_of (by decide) (Nat.le_of_ble_eq_true rfl) (fun p e s m args below meth c X hml hr hlk _ H locs hh ls hl => ?_)
  have hx := X.1
  have hb := X.2.1
  have hl : lv_has ls 5 [(0, .int a0), (1, .int a1), (2, .int a2), (3, .int a3), (4, .int a4)] := hl
  unfold f_X5_grownPart at hf
  refine lv_iload_n hx hb dX5_grownPart_0 rfl (lv_at hl 0 rfl) ?_
  by_cases hc1 : a0.toInt = 0
  · have hf := if_t hc1 hf
    refine lv_tableIn (off := 27) (tgt := 28) hx hb dX5_grownPart_1 (by omega) (by omega) (by rw [hc1]; rfl) (by decide) ?_
    refine lv_iload_n hx hb dX5_grownPart_28 rfl (lv_at hl 2 rfl) ?_
    refine lv_iload_n hx hb dX5_grownPart_29 rfl (lv_at hl 3 rfl) ?_
    refine q_max X hml hl.1 k_292 (Nat.le_of_ble_eq_true rfl) ⟨Nat.le_of_ble_eq_true rfl, Nat.le_of_ble_eq_true rfl⟩ ⟨Nat.zero_le _, Nat.zero_le _⟩ dX5_grownPart_30 ?_
    refine lv_topi (fun x2 e3 => ?_)
    have hf := lt_e e3 hf
    refine lv_iload hx hb dX5_grownPart_33 (lv_at hl 4 rfl) ?_
    refine lv_iadd hx hb dX5_grownPart_35 ?_
    exact e_i X hr hlk hh ⟨so_e hf, rfl⟩ dX5_grownPart_36
  · have hf := if_f hc1 hf
    by_cases hc4 : a0.toInt = 1
    · have hf := if_t hc4 hf
      refine lv_tableIn (off := 36) (tgt := 37) hx hb dX5_grownPart_1 (by omega) (by omega) (by rw [hc4]; rfl) (by decide) ?_
      refine lv_iload_n hx hb dX5_grownPart_37 rfl (lv_at hl 2 rfl) ?_
      refine lv_iload hx hb dX5_grownPart_38 (lv_at hl 4 rfl) ?_
      refine lv_iadd hx hb dX5_grownPart_40 ?_
      refine lv_iload_n hx hb dX5_grownPart_41 rfl (lv_at hl 3 rfl) ?_
      refine q_max X hml hl.1 k_292 (Nat.le_of_ble_eq_true rfl) ⟨Nat.le_of_ble_eq_true rfl, Nat.le_of_ble_eq_true rfl⟩ ⟨Nat.zero_le _, Nat.zero_le _⟩ dX5_grownPart_42 ?_
      refine lv_topi (fun x5 e6 => ?_)
      have hf := lt_e e6 hf
      exact e_i X hr hlk hh ⟨so_e hf, rfl⟩ dX5_grownPart_45
    · have hf := if_f hc4 hf
      by_cases hc7 : a0.toInt = 2
      · have hf := if_t hc7 hf
        refine lv_tableIn (off := 45) (tgt := 46) hx hb dX5_grownPart_1 (by omega) (by omega) (by rw [hc7]; rfl) (by decide) ?_
        refine lv_iload_n hx hb dX5_grownPart_46 rfl (lv_at hl 2 rfl) ?_
        refine lv_iload_n hx hb dX5_grownPart_47 rfl (lv_at hl 3 rfl) ?_
        refine lv_iload hx hb dX5_grownPart_48 (lv_at hl 4 rfl) ?_
        refine lv_iadd hx hb dX5_grownPart_50 ?_
        refine q_max X hml hl.1 k_292 (Nat.le_of_ble_eq_true rfl) ⟨Nat.le_of_ble_eq_true rfl, Nat.le_of_ble_eq_true rfl⟩ ⟨Nat.zero_le _, Nat.zero_le _⟩ dX5_grownPart_51 ?_
        refine lv_topi (fun x8 e9 => ?_)
        have hf := lt_e e9 hf
        exact e_i X hr hlk hh ⟨so_e hf, rfl⟩ dX5_grownPart_54
      · have hf := if_f hc7 hf
        refine lv_tableOut (tgt := 55) hx hb dX5_grownPart_1 (by omega) (by decide) ?_
        refine lv_iload_n hx hb dX5_grownPart_55 rfl (lv_at hl 2 rfl) ?_
        refine lv_iload_n hx hb dX5_grownPart_56 rfl (lv_at hl 3 rfl) ?_
        refine q_max X hml hl.1 k_292 (Nat.le_of_ble_eq_true rfl) ⟨Nat.le_of_ble_eq_true rfl, Nat.le_of_ble_eq_true rfl⟩ ⟨Nat.zero_le _, Nat.zero_le _⟩ dX5_grownPart_57 ?_
        refine lv_topi (fun x10 e11 => ?_)
        have hf := lt_e e11 hf
        refine lv_iload hx hb dX5_grownPart_60 (lv_at hl 4 rfl) ?_
        refine lv_iload_n hx hb dX5_grownPart_62 rfl (lv_at hl 1 rfl) ?_
        refine lv_iload_n hx hb dX5_grownPart_63 rfl (lv_at hl 2 rfl) ?_
        refine mg_W (P := fun (x14 : Int32) => ∀ (ls : Array Slot), lv_has ls 5 [] → W p l e (rmk 1 21 0 0) s m args below meth c H locs 0 0 (MZ below B D n w (some (.int r)) args s 0 0) (F0 m 77 ls [.int x14, .int a4, .int x10])) hf (fun x14 hf ls hl => ?_) (fun hj17 => ?_)
        · refine q_min X hml hl.1 k_295 (Nat.le_of_ble_eq_true rfl) ⟨Nat.le_of_ble_eq_true rfl, Nat.le_of_ble_eq_true rfl⟩ ⟨Nat.zero_le _, Nat.zero_le _⟩ dX5_grownPart_77 ?_
          refine lv_topi (fun x15 e16 => ?_)
          have hf := lt_e e16 hf
          refine lv_iadd hx hb dX5_grownPart_80 ?_
          exact e_i X hr hlk hh ⟨so_e hf, rfl⟩ dX5_grownPart_81
        · refine lv_icmp_ne (tgt := 76) hx hb dX5_grownPart_64 (by decide) (fun hc12 => ?_) (fun hc12 => ?_)
          · refine lv_iconst (v := (0 : Int32)) hx hb dX5_grownPart_76 (by decide) ?_
            exact hj17 _ (by rw [if_neg hc12]) ls (lv_sub hl [] rfl)
          · refine lv_iload_n hx hb dX5_grownPart_67 rfl (lv_at hl 2 rfl) ?_
            refine lv_iload_n hx hb dX5_grownPart_68 rfl (lv_at hl 3 rfl) ?_
            refine lv_icmp_ne (tgt := 76) hx hb dX5_grownPart_69 (by decide) (fun hc13 => ?_) (fun hc13 => ?_)
            · refine lv_iconst (v := (0 : Int32)) hx hb dX5_grownPart_76 (by decide) ?_
              exact hj17 _ (by rw [if_pos hc12, if_neg hc13]) ls (lv_sub hl [] rfl)
            · refine lv_iconst (v := (1 : Int32)) hx hb dX5_grownPart_72 (by decide) ?_
              refine lv_goto (tgt := 77) hx hb dX5_grownPart_73 (by decide) ?_
              exact hj17 _ (by rw [if_pos hc12, if_pos hc13]) ls (lv_sub hl [] rfl)
set_option maxHeartbeats 4000000 in
set_option maxRecDepth 100000 in
theorem m_X5_growFrom (l : Launch) (B : Nat) (D : DD) {n : Nat} (hN : 139 ≤ n) {t : Nat} {a0 : Nat} {a1 : Nat} {a2 : Nat} {a3 : Int32} {a4 : Int32} {w : Wd} {w' : Wd} (ht : t < n ∧ kd t = 5) (ha0 : a0 < n ∧ kd a0 = 5) (ha1 : a1 < n ∧ kd a1 = 5) (ha2 : a2 < n ∧ kd a2 = 5) (hf : f_X5_growFrom t a0 a1 a2 a3 a4 w = some w') : Ct l yX5_growFrom cX5_growFrom 12 none 2 45 0 0 B D [.ref (B + t), .ref (B + a0), .ref (B + a1), .ref (B + a2), .int a3, .int a4] n w none n w' := by
  refine m_of (by decide) (Nat.le_of_ble_eq_true rfl) (fun p e s m args below meth c X hml hr hlk _ H locs hh ls hl => ?_)
  have hx := X.1
  have hb := X.2.1
  have hl : lv_has ls 12 [(0, .ref (B + t)), (1, .ref (B + a0)), (2, .ref (B + a1)), (3, .ref (B + a2)), (4, .int a3), (5, .int a4)] := hl
  unfold f_X5_growFrom at hf
  refine lv_aload_n hx hb dX5_growFrom_0 rfl (lv_at hl 0 rfl) ?_
  obtain ⟨w2, hc1, hf⟩ := c1_e hf
  refine q_V (w' := w2) (rest := []) X hml hh none (m_X5_makeEmpty l B D hN ht hc1) cf_X5_makeEmpty k_284 ht ci_5 rfl rfl hl.1 rfl (Nat.le_of_ble_eq_true rfl) ⟨Nat.le_of_ble_eq_true rfl, Nat.le_of_ble_eq_true rfl⟩ ⟨Nat.zero_le _, Nat.zero_le _⟩ dX5_growFrom_1 rfl (fun H locs hh => ?_)
  refine lv_iload hx hb dX5_growFrom_4 (lv_at hl 4 rfl) ?_
  refine lv_istore (lv' := [(6, .int a3), (0, .ref (B + t)), (1, .ref (B + a0)), (2, .ref (B + a1)), (3, .ref (B + a2)), (4, .int a3), (5, .int a4)]) hx hb dX5_growFrom_6 hl (by decide) rfl (fun ls hl => ?_)
  refine lv_iconst (v := (0 : Int32)) hx hb dX5_growFrom_8 (by decide) ?_
  refine lv_istore (lv' := [(7, .int (0 : Int32)), (6, .int a3), (0, .ref (B + t)), (1, .ref (B + a0)), (2, .ref (B + a1)), (3, .ref (B + a2)), (4, .int a3), (5, .int a4)]) hx hb dX5_growFrom_9 hl (by decide) rfl (fun ls hl => ?_)
  refine wl3_W (P := fun (x3 : Int32) (x4 : Int32) (w5 : Wd) => ∀ (H : Heap) (locs : List Loc) (ls : Array Slot), Hp B D n w5 s H locs → lv_has ls 12 [(0, .ref (B + t)), (1, .ref (B + a0)), (2, .ref (B + a1)), (3, .ref (B + a2)), (5, .int a4), (6, .int x3), (7, .int x4)] → W p l e (rmk 2 45 0 0) s m args below meth c H locs 0 0 (MZ below B D n w' none args s 0 0) (F0 m 11 ls [])) hf (fun x3 x4 w5 k6 ih7 hf  H locs ls hh hl => ?_)  _ _ _ hh (lv_sub hl [2, 3, 4, 5, 7, 1, 0] rfl)
  refine lv_iload hx hb dX5_growFrom_11 (lv_at hl 6 rfl) ?_
  refine lv_bipush (v := (75 : Int32)) hx hb dX5_growFrom_13 (by decide) ?_
  refine lv_icmp_ge (tgt := 115) hx hb dX5_growFrom_15 (by decide) (fun hc8 => ?_) (fun hc8 => ?_)
  · have hf := if_t hc8 hf
    exact e_v X hr hlk hh ⟨rfl, so_e hf⟩ dX5_growFrom_115
  · have hf := if_f hc8 hf
    refine lv_aload_n hx hb dX5_growFrom_18 rfl (lv_at hl 1 rfl) ?_
    refine lv_iload hx hb dX5_growFrom_19 (lv_at hl 6 rfl) ?_
    obtain ⟨v10, hc9, hf⟩ := c1_e hf
    refine q_V (w' := w5) (rest := []) X hml hh (some (.int v10)) (m_X5_partAt l B D hN ha0 hc9) cf_X5_partAt k_285 ha0 ci_5 rfl rfl hl.1 rfl (Nat.le_of_ble_eq_true rfl) ⟨Nat.le_of_ble_eq_true rfl, Nat.le_of_ble_eq_true rfl⟩ ⟨Nat.zero_le _, Nat.zero_le _⟩ dX5_growFrom_21 rfl (fun H locs hh => ?_)
    refine lv_istore (lv' := [(8, .int v10), (0, .ref (B + t)), (1, .ref (B + a0)), (2, .ref (B + a1)), (3, .ref (B + a2)), (5, .int a4), (6, .int x3), (7, .int x4)]) hx hb dX5_growFrom_24 hl (by decide) rfl (fun ls hl => ?_)
    refine lv_aload_n hx hb dX5_growFrom_26 rfl (lv_at hl 3 rfl) ?_
    refine lv_iload hx hb dX5_growFrom_27 (lv_at hl 7 rfl) ?_
    obtain ⟨v12, hc11, hf⟩ := c1_e hf
    refine q_V (w' := w5) (rest := []) X hml hh (some (.int v12)) (m_X5_partAt l B D hN ha1 hc11) cf_X5_partAt k_285 ha1 ci_5 rfl rfl hl.1 rfl (Nat.le_of_ble_eq_true rfl) ⟨Nat.le_of_ble_eq_true rfl, Nat.le_of_ble_eq_true rfl⟩ ⟨Nat.zero_le _, Nat.zero_le _⟩ dX5_growFrom_29 rfl (fun H locs hh => ?_)
    refine lv_istore (lv' := [(9, .int v12), (8, .int v10), (0, .ref (B + t)), (1, .ref (B + a0)), (2, .ref (B + a1)), (3, .ref (B + a2)), (5, .int a4), (6, .int x3), (7, .int x4)]) hx hb dX5_growFrom_32 hl (by decide) rfl (fun ls hl => ?_)
    refine lv_aload_n hx hb dX5_growFrom_34 rfl (lv_at hl 5 rfl) ?_
    refine lv_iload hx hb dX5_growFrom_35 (lv_at hl 8 rfl) ?_
    obtain ⟨v14, hc13, hf⟩ := c1_e hf
    refine q_V (w' := w5) (rest := []) X hml hh (some (.int v14)) (m_X5_partAt l B D hN ha2 hc13) cf_X5_partAt k_285 ha2 ci_5 rfl rfl hl.1 rfl (Nat.le_of_ble_eq_true rfl) ⟨Nat.le_of_ble_eq_true rfl, Nat.le_of_ble_eq_true rfl⟩ ⟨Nat.zero_le _, Nat.zero_le _⟩ dX5_growFrom_37 rfl (fun H locs hh => ?_)
    refine lv_istore (lv' := [(10, .int v14), (9, .int v12), (8, .int v10), (0, .ref (B + t)), (1, .ref (B + a0)), (2, .ref (B + a1)), (3, .ref (B + a2)), (5, .int a4), (6, .int x3), (7, .int x4)]) hx hb dX5_growFrom_40 hl (by decide) rfl (fun ls hl => ?_)
    refine lv_iload hx hb dX5_growFrom_42 (lv_at hl 7 rfl) ?_
    refine lv_iload hx hb dX5_growFrom_44 (lv_at hl 2 rfl) ?_
    refine lv_iload hx hb dX5_growFrom_46 (lv_at hl 1 rfl) ?_
    refine lv_iload hx hb dX5_growFrom_48 (lv_at hl 0 rfl) ?_
    refine lv_iload hx hb dX5_growFrom_50 (lv_at hl 8 rfl) ?_
    obtain ⟨v16, hc15, hf⟩ := c1_e hf
    refine q_S (w' := w5) (rest := []) X hml hh (some (.int v16)) (m_X5_grownPart l B D hN hc15) cf_X5_grownPart k_289 rfl hl.1 rfl (Nat.le_of_ble_eq_true rfl) ⟨Nat.le_of_ble_eq_true rfl, Nat.le_of_ble_eq_true rfl⟩ ⟨Nat.zero_le _, Nat.zero_le _⟩ dX5_growFrom_52 rfl (fun H locs hh => ?_)
    refine lv_istore (lv' := [(11, .int v16), (10, .int v14), (9, .int v12), (8, .int v10), (0, .ref (B + t)), (1, .ref (B + a0)), (2, .ref (B + a1)), (3, .ref (B + a2)), (5, .int a4), (6, .int x3), (7, .int x4)]) hx hb dX5_growFrom_55 hl (by decide) rfl (fun ls hl => ?_)
    refine lv_iload hx hb dX5_growFrom_57 (lv_at hl 0 rfl) ?_
    refine lv_if_gt (tgt := 65) hx hb dX5_growFrom_59 (by decide) (fun hc17 => ?_) (fun hc17 => ?_)
    · have hf := if_t hc17 hf
      refine lv_aload_n hx hb dX5_growFrom_65 rfl (lv_at hl 4 rfl) ?_
      refine q_gr (P := 9) X hh ht fk_X5_9 dX5_growFrom_66 hN hf (fun t18 h19 hf => ?_)
      refine lv_iload hx hb dX5_growFrom_69 (lv_at hl 10 rfl) ?_
      refine lv_iload hx hb dX5_growFrom_71 (lv_at hl 0 rfl) ?_
      refine q_ast X hh h19 dX5_growFrom_73 hf (fun w21 H locs hf hh => ?_)
      refine lv_aload_n hx hb dX5_growFrom_74 rfl (lv_at hl 4 rfl) ?_
      refine lv_iload hx hb dX5_growFrom_75 (lv_at hl 10 rfl) ?_
      refine lv_iconst (v := (1 : Int32)) hx hb dX5_growFrom_77 (by decide) ?_
      refine lv_iadd hx hb dX5_growFrom_78 ?_
      refine q_pi X hh ht fk_X5_15 pk_5_1 rfl rfl dX5_growFrom_79 hf (fun w22 H locs hf hh => ?_)
      refine lv_aload_n hx hb dX5_growFrom_82 rfl (lv_at hl 4 rfl) ?_
      refine lv_dup hx hb dX5_growFrom_83 rfl ?_
      refine r_gi X hh ht fk_X5_19 dX5_growFrom_84 ?_
      refine lv_iload hx hb dX5_growFrom_87 (lv_at hl 0 rfl) ?_
      refine lv_iadd hx hb dX5_growFrom_89 ?_
      refine q_pi X hh ht fk_X5_19 pk_5_2 rfl rfl dX5_growFrom_90 hf (fun w23 H locs hf hh => ?_)
      refine lv_iload hx hb dX5_growFrom_93 (lv_at hl 9 rfl) ?_
      refine lv_iload hx hb dX5_growFrom_95 (lv_at hl 2 rfl) ?_
      refine lv_iload hx hb dX5_growFrom_97 (lv_at hl 1 rfl) ?_
      refine lv_iadd hx hb dX5_growFrom_99 ?_
      refine lv_iload hx hb dX5_growFrom_100 (lv_at hl 3 rfl) ?_
      refine lv_isub hx hb dX5_growFrom_102 ?_
      refine lv_iload hx hb dX5_growFrom_103 (lv_at hl 0 rfl) ?_
      refine lv_isub hx hb dX5_growFrom_105 ?_
      refine lv_iadd hx hb dX5_growFrom_106 ?_
      refine lv_topi (fun x24 e25 => ?_)
      have hf := lt_e e25 hf
      refine lv_istore (lv' := [(6, .int x24), (11, .int v16), (10, .int v14), (9, .int v12), (8, .int v10), (0, .ref (B + t)), (1, .ref (B + a0)), (2, .ref (B + a1)), (3, .ref (B + a2)), (5, .int a4), (7, .int x4)]) hx hb dX5_growFrom_107 hl (by decide) rfl (fun ls hl => ?_)
      obtain ⟨x26, e27⟩ : ∃ y : Int32, y = (x4 + (1 : Int32)) := ⟨_, rfl⟩
      have hf := lt_e e27 hf
      refine lv_iinc (v := x26) (lv' := [(7, .int x26), (6, .int x24), (11, .int v16), (10, .int v14), (9, .int v12), (8, .int v10), (0, .ref (B + t)), (1, .ref (B + a0)), (2, .ref (B + a1)), (3, .ref (B + a2)), (5, .int a4)]) hx hb dX5_growFrom_109 hl (k := 10) rfl (by rw [e27]; rfl) (by decide) rfl (fun ls hl => ?_)
      refine lv_goto (tgt := 11) hx hb dX5_growFrom_112 (by decide) ?_
      exact ih7 _ _ _ hf  _ _ _ hh (lv_sub hl [6, 7, 8, 9, 10, 1, 0] rfl)
    · have hf := if_f hc17 hf
      refine lv_goto (tgt := 115) hx hb dX5_growFrom_62 (by decide) ?_
      exact e_v X hr hlk hh ⟨rfl, so_e hf⟩ dX5_growFrom_115
set_option maxHeartbeats 4000000 in
set_option maxRecDepth 100000 in
theorem m_X5_formerPart (l : Launch) (B : Nat) (D : DD) {n : Nat} (hN : 139 ≤ n) {a0 : Int32} {a1 : Int32} {a2 : Int32} {a3 : Int32} {a4 : Int32} {w : Wd} {r : Int32} (hf : f_X5_formerPart a0 a1 a2 a3 a4 = some r) : Ct l yX5_formerPart cX5_formerPart 5 (some .int) 1 21 0 0 B D [.int a0, .int a1, .int a2, .int a3, .int a4] n w (some (.int r)) n w := by
  refine m_of (by decide) (Nat.le_of_ble_eq_true rfl) (fun p e s m args below meth c X hml hr hlk _ H locs hh ls hl => ?_)
  have hx := X.1
  have hb := X.2.1
  have hl : lv_has ls 5 [(0, .int a0), (1, .int a1), (2, .int a2), (3, .int a3), (4, .int a4)] := hl
  unfold f_X5_formerPart at hf
  refine lv_iload_n hx hb dX5_formerPart_0 rfl (lv_at hl 0 rfl) ?_
  by_cases hc1 : a0.toInt = 0
  · have hf := if_t hc1 hf
    refine lv_tableIn (off := 27) (tgt := 28) hx hb dX5_formerPart_1 (by omega) (by omega) (by rw [hc1]; rfl) (by decide) ?_
    refine lv_iload_n hx hb dX5_formerPart_28 rfl (lv_at hl 2 rfl) ?_
    refine lv_iload_n hx hb dX5_formerPart_29 rfl (lv_at hl 3 rfl) ?_
    refine q_min X hml hl.1 k_295 (Nat.le_of_ble_eq_true rfl) ⟨Nat.le_of_ble_eq_true rfl, Nat.le_of_ble_eq_true rfl⟩ ⟨Nat.zero_le _, Nat.zero_le _⟩ dX5_formerPart_30 ?_
    refine lv_topi (fun x2 e3 => ?_)
    have hf := lt_e e3 hf
    refine lv_iload hx hb dX5_formerPart_33 (lv_at hl 4 rfl) ?_
    refine lv_isub hx hb dX5_formerPart_35 ?_
    exact e_i X hr hlk hh ⟨so_e hf, rfl⟩ dX5_formerPart_36
  · have hf := if_f hc1 hf
    by_cases hc4 : a0.toInt = 1
    · have hf := if_t hc4 hf
      refine lv_tableIn (off := 36) (tgt := 37) hx hb dX5_formerPart_1 (by omega) (by omega) (by rw [hc4]; rfl) (by decide) ?_
      refine lv_iload_n hx hb dX5_formerPart_37 rfl (lv_at hl 2 rfl) ?_
      refine lv_iload_n hx hb dX5_formerPart_38 rfl (lv_at hl 3 rfl) ?_
      refine lv_iload hx hb dX5_formerPart_39 (lv_at hl 4 rfl) ?_
      refine lv_isub hx hb dX5_formerPart_41 ?_
      refine q_min X hml hl.1 k_295 (Nat.le_of_ble_eq_true rfl) ⟨Nat.le_of_ble_eq_true rfl, Nat.le_of_ble_eq_true rfl⟩ ⟨Nat.zero_le _, Nat.zero_le _⟩ dX5_formerPart_42 ?_
      refine lv_topi (fun x5 e6 => ?_)
      have hf := lt_e e6 hf
      exact e_i X hr hlk hh ⟨so_e hf, rfl⟩ dX5_formerPart_45
    · have hf := if_f hc4 hf
      by_cases hc7 : a0.toInt = 2
      · have hf := if_t hc7 hf
        refine lv_tableIn (off := 45) (tgt := 46) hx hb dX5_formerPart_1 (by omega) (by omega) (by rw [hc7]; rfl) (by decide) ?_
        refine lv_iload_n hx hb dX5_formerPart_46 rfl (lv_at hl 2 rfl) ?_
        refine lv_iload hx hb dX5_formerPart_47 (lv_at hl 4 rfl) ?_
        refine lv_isub hx hb dX5_formerPart_49 ?_
        refine lv_iload_n hx hb dX5_formerPart_50 rfl (lv_at hl 3 rfl) ?_
        refine q_min X hml hl.1 k_295 (Nat.le_of_ble_eq_true rfl) ⟨Nat.le_of_ble_eq_true rfl, Nat.le_of_ble_eq_true rfl⟩ ⟨Nat.zero_le _, Nat.zero_le _⟩ dX5_formerPart_51 ?_
        refine lv_topi (fun x8 e9 => ?_)
        have hf := lt_e e9 hf
        exact e_i X hr hlk hh ⟨so_e hf, rfl⟩ dX5_formerPart_54
      · have hf := if_f hc7 hf
        refine lv_tableOut (tgt := 55) hx hb dX5_formerPart_1 (by omega) (by decide) ?_
        refine lv_iload_n hx hb dX5_formerPart_55 rfl (lv_at hl 2 rfl) ?_
        refine lv_iload_n hx hb dX5_formerPart_56 rfl (lv_at hl 3 rfl) ?_
        refine q_min X hml hl.1 k_295 (Nat.le_of_ble_eq_true rfl) ⟨Nat.le_of_ble_eq_true rfl, Nat.le_of_ble_eq_true rfl⟩ ⟨Nat.zero_le _, Nat.zero_le _⟩ dX5_formerPart_57 ?_
        refine lv_topi (fun x10 e11 => ?_)
        have hf := lt_e e11 hf
        refine lv_iload hx hb dX5_formerPart_60 (lv_at hl 4 rfl) ?_
        refine lv_iload_n hx hb dX5_formerPart_62 rfl (lv_at hl 1 rfl) ?_
        refine lv_iload_n hx hb dX5_formerPart_63 rfl (lv_at hl 2 rfl) ?_
        refine mg_W (P := fun (x14 : Int32) => ∀ (ls : Array Slot), lv_has ls 5 [] → W p l e (rmk 1 21 0 0) s m args below meth c H locs 0 0 (MZ below B D n w (some (.int r)) args s 0 0) (F0 m 77 ls [.int x14, .int a4, .int x10])) hf (fun x14 hf ls hl => ?_) (fun hj17 => ?_)
        · refine q_min X hml hl.1 k_295 (Nat.le_of_ble_eq_true rfl) ⟨Nat.le_of_ble_eq_true rfl, Nat.le_of_ble_eq_true rfl⟩ ⟨Nat.zero_le _, Nat.zero_le _⟩ dX5_formerPart_77 ?_
          refine lv_topi (fun x15 e16 => ?_)
          have hf := lt_e e16 hf
          refine lv_isub hx hb dX5_formerPart_80 ?_
          exact e_i X hr hlk hh ⟨so_e hf, rfl⟩ dX5_formerPart_81
        · refine lv_icmp_ne (tgt := 76) hx hb dX5_formerPart_64 (by decide) (fun hc12 => ?_) (fun hc12 => ?_)
          · refine lv_iconst (v := (0 : Int32)) hx hb dX5_formerPart_76 (by decide) ?_
            exact hj17 _ (by rw [if_neg hc12]) ls (lv_sub hl [] rfl)
          · refine lv_iload_n hx hb dX5_formerPart_67 rfl (lv_at hl 2 rfl) ?_
            refine lv_iload_n hx hb dX5_formerPart_68 rfl (lv_at hl 3 rfl) ?_
            refine lv_icmp_ne (tgt := 76) hx hb dX5_formerPart_69 (by decide) (fun hc13 => ?_) (fun hc13 => ?_)
            · refine lv_iconst (v := (0 : Int32)) hx hb dX5_formerPart_76 (by decide) ?_
              exact hj17 _ (by rw [if_pos hc12, if_neg hc13]) ls (lv_sub hl [] rfl)
            · refine lv_iconst (v := (1 : Int32)) hx hb dX5_formerPart_72 (by decide) ?_
              refine lv_goto (tgt := 77) hx hb dX5_formerPart_73 (by decide) ?_
              exact hj17 _ (by rw [if_pos hc12, if_pos hc13]) ls (lv_sub hl [] rfl)
set_option maxHeartbeats 4000000 in
set_option maxRecDepth 100000 in
theorem m_X5_goBackFrom (l : Launch) (B : Nat) (D : DD) {n : Nat} (hN : 139 ≤ n) {t : Nat} {a0 : Nat} {a1 : Nat} {a2 : Nat} {a3 : Int32} {w : Wd} {r : Int32} {w' : Wd} (ht : t < n ∧ kd t = 5) (ha0 : a0 < n ∧ kd a0 = 5) (ha1 : a1 < n ∧ kd a1 = 5) (ha2 : a2 < n ∧ kd a2 = 5) (hf : f_X5_goBackFrom t a0 a1 a2 a3 w = some (r, w')) : Ct l yX5_goBackFrom cX5_goBackFrom 11 (some .int) 2 45 0 0 B D [.ref (B + t), .ref (B + a0), .ref (B + a1), .ref (B + a2), .int a3] n w (some (.int r)) n w' := by
  refine m_of (by decide) (Nat.le_of_ble_eq_true rfl) (fun p e s m args below meth c X hml hr hlk _ H locs hh ls hl => ?_)
  have hx := X.1
  have hb := X.2.1
  have hl : lv_has ls 11 [(0, .ref (B + t)), (1, .ref (B + a0)), (2, .ref (B + a1)), (3, .ref (B + a2)), (4, .int a3)] := hl
  unfold f_X5_goBackFrom at hf
  refine lv_aload_n hx hb dX5_goBackFrom_0 rfl (lv_at hl 0 rfl) ?_
  refine lv_aload_n hx hb dX5_goBackFrom_1 rfl (lv_at hl 1 rfl) ?_
  refine r_gi X hh ha0 fk_X5_15 dX5_goBackFrom_2 ?_
  refine q_pi X hh ht fk_X5_15 pk_5_1 rfl rfl dX5_goBackFrom_5 hf (fun w1 H locs hf hh => ?_)
  refine lv_aload_n hx hb dX5_goBackFrom_8 rfl (lv_at hl 0 rfl) ?_
  refine lv_iconst (v := (0 : Int32)) hx hb dX5_goBackFrom_9 (by decide) ?_
  refine q_pi X hh ht fk_X5_19 pk_5_2 rfl rfl dX5_goBackFrom_10 hf (fun w2 H locs hf hh => ?_)
  refine lv_iconst (v := (0 : Int32)) hx hb dX5_goBackFrom_13 (by decide) ?_
  refine lv_istore (lv' := [(5, .int (0 : Int32)), (0, .ref (B + t)), (1, .ref (B + a0)), (2, .ref (B + a1)), (3, .ref (B + a2)), (4, .int a3)]) hx hb dX5_goBackFrom_14 hl (by decide) rfl (fun ls hl => ?_)
  refine lv_aload_n hx hb dX5_goBackFrom_16 rfl (lv_at hl 2 rfl) ?_
  refine r_gi X hh ha0 fk_X5_15 dX5_goBackFrom_17 ?_
  refine lv_iconst (v := (1 : Int32)) hx hb dX5_goBackFrom_20 (by decide) ?_
  refine lv_isub hx hb dX5_goBackFrom_21 ?_
  refine lv_topi (fun x3 e4 => ?_)
  have hf := lt_e e4 hf
  refine lv_istore (lv' := [(6, .int x3), (5, .int (0 : Int32)), (0, .ref (B + t)), (1, .ref (B + a0)), (2, .ref (B + a1)), (3, .ref (B + a2)), (4, .int a3)]) hx hb dX5_goBackFrom_22 hl (by decide) rfl (fun ls hl => ?_)
  refine wl3_W (P := fun (x5 : Int32) (x6 : Int32) (w7 : Wd) => ∀ (H : Heap) (locs : List Loc) (ls : Array Slot), Hp B D n w7 s H locs → lv_has ls 11 [(0, .ref (B + t)), (1, .ref (B + a0)), (2, .ref (B + a1)), (3, .ref (B + a2)), (4, .int a3), (5, .int x5), (6, .int x6)] → W p l e (rmk 2 45 0 0) s m args below meth c H locs 0 0 (MZ below B D n w' (some (.int r)) args s 0 0) (F0 m 24 ls [])) hf (fun x5 x6 w7 k8 ih9 hf  H locs ls hh hl => ?_)  _ _ _ hh (lv_sub hl [2, 3, 4, 5, 6, 1, 0] rfl)
  refine lv_iload hx hb dX5_goBackFrom_24 (lv_at hl 6 rfl) ?_
  refine lv_if_lt (tgt := 132) hx hb dX5_goBackFrom_26 (by decide) (fun hc10 => ?_) (fun hc10 => ?_)
  · have hf := if_t hc10 hf
    refine lv_iload hx hb dX5_goBackFrom_132 (lv_at hl 5 rfl) ?_
    exact e_i X hr hlk hh (so2_e hf) dX5_goBackFrom_134
  · have hf := if_f hc10 hf
    refine lv_aload_n hx hb dX5_goBackFrom_29 rfl (lv_at hl 1 rfl) ?_
    refine lv_iload hx hb dX5_goBackFrom_30 (lv_at hl 6 rfl) ?_
    obtain ⟨v12, hc11, hf⟩ := c1_e hf
    refine q_V (w' := w7) (rest := []) X hml hh (some (.int v12)) (m_X5_partAt l B D hN ha0 hc11) cf_X5_partAt k_285 ha0 ci_5 rfl rfl hl.1 rfl (Nat.le_of_ble_eq_true rfl) ⟨Nat.le_of_ble_eq_true rfl, Nat.le_of_ble_eq_true rfl⟩ ⟨Nat.zero_le _, Nat.zero_le _⟩ dX5_goBackFrom_32 rfl (fun H locs hh => ?_)
    refine lv_istore (lv' := [(7, .int v12), (0, .ref (B + t)), (1, .ref (B + a0)), (2, .ref (B + a1)), (3, .ref (B + a2)), (4, .int a3), (5, .int x5), (6, .int x6)]) hx hb dX5_goBackFrom_35 hl (by decide) rfl (fun ls hl => ?_)
    refine lv_aload_n hx hb dX5_goBackFrom_37 rfl (lv_at hl 3 rfl) ?_
    refine lv_iload hx hb dX5_goBackFrom_38 (lv_at hl 7 rfl) ?_
    obtain ⟨v14, hc13, hf⟩ := c1_e hf
    refine q_V (w' := w7) (rest := []) X hml hh (some (.int v14)) (m_X5_partAt l B D hN ha1 hc13) cf_X5_partAt k_285 ha1 ci_5 rfl rfl hl.1 rfl (Nat.le_of_ble_eq_true rfl) ⟨Nat.le_of_ble_eq_true rfl, Nat.le_of_ble_eq_true rfl⟩ ⟨Nat.zero_le _, Nat.zero_le _⟩ dX5_goBackFrom_40 rfl (fun H locs hh => ?_)
    refine lv_istore (lv' := [(8, .int v14), (7, .int v12), (0, .ref (B + t)), (1, .ref (B + a0)), (2, .ref (B + a1)), (3, .ref (B + a2)), (4, .int a3), (5, .int x5), (6, .int x6)]) hx hb dX5_goBackFrom_43 hl (by decide) rfl (fun ls hl => ?_)
    refine lv_aload_n hx hb dX5_goBackFrom_45 rfl (lv_at hl 5 rfl) ?_
    refine lv_iload hx hb dX5_goBackFrom_46 (lv_at hl 8 rfl) ?_
    obtain ⟨v16, hc15, hf⟩ := c1_e hf
    refine q_V (w' := w7) (rest := []) X hml hh (some (.int v16)) (m_X5_partAt l B D hN ha2 hc15) cf_X5_partAt k_285 ha2 ci_5 rfl rfl hl.1 rfl (Nat.le_of_ble_eq_true rfl) ⟨Nat.le_of_ble_eq_true rfl, Nat.le_of_ble_eq_true rfl⟩ ⟨Nat.zero_le _, Nat.zero_le _⟩ dX5_goBackFrom_48 rfl (fun H locs hh => ?_)
    refine lv_istore (lv' := [(9, .int v16), (8, .int v14), (7, .int v12), (0, .ref (B + t)), (1, .ref (B + a0)), (2, .ref (B + a1)), (3, .ref (B + a2)), (4, .int a3), (5, .int x5), (6, .int x6)]) hx hb dX5_goBackFrom_51 hl (by decide) rfl (fun ls hl => ?_)
    refine lv_iload hx hb dX5_goBackFrom_53 (lv_at hl 7 rfl) ?_
    refine lv_iload hx hb dX5_goBackFrom_55 (lv_at hl 2 rfl) ?_
    refine lv_iload hx hb dX5_goBackFrom_57 (lv_at hl 1 rfl) ?_
    refine lv_iload hx hb dX5_goBackFrom_59 (lv_at hl 0 rfl) ?_
    refine lv_iload hx hb dX5_goBackFrom_61 (lv_at hl 8 rfl) ?_
    obtain ⟨v18, hc17, hf⟩ := c1_e hf
    refine q_S (w' := w7) (rest := []) X hml hh (some (.int v18)) (m_X5_formerPart l B D hN hc17) cf_X5_formerPart k_363 rfl hl.1 rfl (Nat.le_of_ble_eq_true rfl) ⟨Nat.le_of_ble_eq_true rfl, Nat.le_of_ble_eq_true rfl⟩ ⟨Nat.zero_le _, Nat.zero_le _⟩ dX5_goBackFrom_63 rfl (fun H locs hh => ?_)
    refine lv_istore (lv' := [(10, .int v18), (9, .int v16), (8, .int v14), (7, .int v12), (0, .ref (B + t)), (1, .ref (B + a0)), (2, .ref (B + a1)), (3, .ref (B + a2)), (4, .int a3), (5, .int x5), (6, .int x6)]) hx hb dX5_goBackFrom_66 hl (by decide) rfl (fun ls hl => ?_)
    refine lv_aload_n hx hb dX5_goBackFrom_68 rfl (lv_at hl 4 rfl) ?_
    refine q_gr (P := 9) X hh ht fk_X5_9 dX5_goBackFrom_69 hN hf (fun t19 h20 hf => ?_)
    refine lv_iload hx hb dX5_goBackFrom_72 (lv_at hl 10 rfl) ?_
    refine lv_iload hx hb dX5_goBackFrom_74 (lv_at hl 0 rfl) ?_
    refine q_ast X hh h20 dX5_goBackFrom_76 hf (fun w22 H locs hf hh => ?_)
    refine lv_aload_n hx hb dX5_goBackFrom_77 rfl (lv_at hl 4 rfl) ?_
    refine lv_dup hx hb dX5_goBackFrom_78 rfl ?_
    refine r_gi X hh ht fk_X5_19 dX5_goBackFrom_79 ?_
    refine lv_iload hx hb dX5_goBackFrom_82 (lv_at hl 0 rfl) ?_
    refine lv_iadd hx hb dX5_goBackFrom_84 ?_
    refine q_pi X hh ht fk_X5_19 pk_5_2 rfl rfl dX5_goBackFrom_85 hf (fun w23 H locs hf hh => ?_)
    refine lv_iload hx hb dX5_goBackFrom_88 (lv_at hl 0 rfl) ?_
    refine jn_W (P := fun j26 => ∀ (w25 : Wd), j26 w25 = some (r, w') → ∀ (H : Heap) (locs : List Loc) (ls : Array Slot), Hp B D n w25 s H locs → lv_has ls 11 [(0, .ref (B + t)), (1, .ref (B + a0)), (2, .ref (B + a1)), (3, .ref (B + a2)), (4, .int a3), (5, .int x5), (6, .int x6), (7, .int v12), (8, .int v14), (9, .int v16), (10, .int v18)] → W p l e (rmk 2 45 0 0) s m args below meth c H locs 0 0 (MZ below B D n w' (some (.int r)) args s 0 0) (F0 m 110 ls [])) hf (fun w25 hf  H locs ls hh hl => ?_) (fun j26 hj26 hf => ?_)
    · refine lv_iload hx hb dX5_goBackFrom_110 (lv_at hl 5 rfl) ?_
      refine lv_iload hx hb dX5_goBackFrom_112 (lv_at hl 7 rfl) ?_
      refine lv_iload hx hb dX5_goBackFrom_114 (lv_at hl 10 rfl) ?_
      refine lv_iadd hx hb dX5_goBackFrom_116 ?_
      refine lv_iload hx hb dX5_goBackFrom_117 (lv_at hl 8 rfl) ?_
      refine lv_isub hx hb dX5_goBackFrom_119 ?_
      refine lv_iload hx hb dX5_goBackFrom_120 (lv_at hl 9 rfl) ?_
      refine lv_isub hx hb dX5_goBackFrom_122 ?_
      refine lv_iadd hx hb dX5_goBackFrom_123 ?_
      refine lv_topi (fun x27 e28 => ?_)
      have hf := lt_e e28 hf
      refine lv_istore (lv' := [(5, .int x27), (0, .ref (B + t)), (1, .ref (B + a0)), (2, .ref (B + a1)), (3, .ref (B + a2)), (4, .int a3), (6, .int x6), (7, .int v12), (8, .int v14), (9, .int v16), (10, .int v18)]) hx hb dX5_goBackFrom_124 hl (by decide) rfl (fun ls hl => ?_)
      obtain ⟨x29, e30⟩ : ∃ y : Int32, y = (x6 + (-1 : Int32)) := ⟨_, rfl⟩
      have hf := lt_e e30 hf
      refine lv_iinc (v := x29) (lv' := [(6, .int x29), (5, .int x27), (0, .ref (B + t)), (1, .ref (B + a0)), (2, .ref (B + a1)), (3, .ref (B + a2)), (4, .int a3), (7, .int v12), (8, .int v14), (9, .int v16), (10, .int v18)]) hx hb dX5_goBackFrom_126 hl (k := 6) rfl (by rw [e30]; rfl) (by decide) rfl (fun ls hl => ?_)
      refine lv_goto (tgt := 24) hx hb dX5_goBackFrom_129 (by decide) ?_
      exact ih9 _ _ _ hf  _ _ _ hh (lv_sub hl [2, 3, 4, 5, 6, 1, 0] rfl)
    · refine lv_if_ne (tgt := 110) hx hb dX5_goBackFrom_90 (by decide) (fun hc24 => ?_) (fun hc24 => ?_)
      · have hf := if_f hc24 hf
        exact hj26 _ hf  _ _ _ hh (lv_sub hl [4, 5, 6, 7, 8, 9, 10, 3, 2, 1, 0] rfl)
      · have hf := if_t hc24 hf
        refine lv_aload_n hx hb dX5_goBackFrom_93 rfl (lv_at hl 4 rfl) ?_
        refine r_gi X hh ht fk_X5_15 dX5_goBackFrom_94 ?_
        refine lv_iload hx hb dX5_goBackFrom_97 (lv_at hl 10 rfl) ?_
        refine lv_iconst (v := (1 : Int32)) hx hb dX5_goBackFrom_99 (by decide) ?_
        refine lv_iadd hx hb dX5_goBackFrom_100 ?_
        refine lv_icmp_ne (tgt := 110) hx hb dX5_goBackFrom_101 (by decide) (fun hc31 => ?_) (fun hc31 => ?_)
        · have hf := if_f hc31 hf
          exact hj26 _ hf  _ _ _ hh (lv_sub hl [4, 5, 6, 7, 8, 9, 10, 3, 2, 1, 0] rfl)
        · have hf := if_t hc31 hf
          refine lv_aload_n hx hb dX5_goBackFrom_104 rfl (lv_at hl 4 rfl) ?_
          refine lv_iload hx hb dX5_goBackFrom_105 (lv_at hl 10 rfl) ?_
          refine q_pi X hh ht fk_X5_15 pk_5_1 rfl rfl dX5_goBackFrom_107 hf (fun w32 H locs hf hh => ?_)
          exact hj26 _ hf  _ _ _ hh (lv_sub hl [4, 5, 6, 7, 8, 9, 10, 3, 2, 1, 0] rfl)
set_option maxHeartbeats 4000000 in
set_option maxRecDepth 100000 in
theorem m_X5_goesOnUpright (l : Launch) (B : Nat) (D : DD) {n : Nat} (hN : 139 ≤ n) {t : Nat} {a0 : Nat} {w : Wd} {r : Int32} (ht : t < n ∧ kd t = 5) (ha0 : a0 < n ∧ kd a0 = 5) (hf : f_X5_goesOnUpright t a0 w = some r) : Ct l yX5_goesOnUpright cX5_goesOnUpright 5 (some .boolean) 1 21 0 0 B D [.ref (B + t), .ref (B + a0)] n w (some (.int r)) n w := by
  refine m_of (by decide) (Nat.le_of_ble_eq_true rfl) (fun p e s m args below meth c X hml hr hlk _ H locs hh ls hl => ?_)
  have hx := X.1
  have hb := X.2.1
  have hl : lv_has ls 5 [(0, .ref (B + t)), (1, .ref (B + a0))] := hl
  unfold f_X5_goesOnUpright at hf
  refine lv_aload_n hx hb dX5_goesOnUpright_0 rfl (lv_at hl 0 rfl) ?_
  refine r_gi X hh ht fk_X5_15 dX5_goesOnUpright_1 ?_
  refine lv_aload_n hx hb dX5_goesOnUpright_4 rfl (lv_at hl 1 rfl) ?_
  refine r_gi X hh ha0 fk_X5_15 dX5_goesOnUpright_5 ?_
  refine q_max X hml hl.1 k_292 (Nat.le_of_ble_eq_true rfl) ⟨Nat.le_of_ble_eq_true rfl, Nat.le_of_ble_eq_true rfl⟩ ⟨Nat.zero_le _, Nat.zero_le _⟩ dX5_goesOnUpright_8 ?_
  refine lv_topi (fun x1 e2 => ?_)
  have hf := lt_e e2 hf
  refine lv_istore_n (lv' := [(2, .int x1), (0, .ref (B + t)), (1, .ref (B + a0))]) hx hb dX5_goesOnUpright_11 rfl hl (by decide) rfl (fun ls hl => ?_)
  refine lv_iconst (v := (0 : Int32)) hx hb dX5_goesOnUpright_12 (by decide) ?_
  refine lv_istore_n (lv' := [(3, .int (0 : Int32)), (2, .int x1), (0, .ref (B + t)), (1, .ref (B + a0))]) hx hb dX5_goesOnUpright_13 rfl hl (by decide) rfl (fun ls hl => ?_)
  refine wl1_W (P := fun (x3 : Int32) => ∀ (H : Heap) (locs : List Loc) (ls : Array Slot), Hp B D n w s H locs → lv_has ls 5 [(0, .ref (B + t)), (1, .ref (B + a0)), (2, .int x1), (3, .int x3)] → W p l e (rmk 1 21 0 0) s m args below meth c H locs 0 0 (MZ below B D n w (some (.int r)) args s 0 0) (F0 m 14 ls [])) hf (fun x3 k4 ih5 hf  H locs ls hh hl => ?_)  _ _ _ hh (lv_sub hl [2, 3, 1, 0] rfl)
  refine lv_iload_n hx hb dX5_goesOnUpright_14 rfl (lv_at hl 3 rfl) ?_
  refine lv_iload_n hx hb dX5_goesOnUpright_15 rfl (lv_at hl 2 rfl) ?_
  refine lv_icmp_ge (tgt := 51) hx hb dX5_goesOnUpright_16 (by decide) (fun hc6 => ?_) (fun hc6 => ?_)
  · have hf := if_t hc6 hf
    refine lv_iconst (v := (1 : Int32)) hx hb dX5_goesOnUpright_51 (by decide) ?_
    exact e_z X hr hlk hh (Or.inr rfl) ⟨so_e hf, rfl⟩ dX5_goesOnUpright_52
  · have hf := if_f hc6 hf
    refine lv_aload_n hx hb dX5_goesOnUpright_19 rfl (lv_at hl 0 rfl) ?_
    refine lv_iload_n hx hb dX5_goesOnUpright_20 rfl (lv_at hl 3 rfl) ?_
    obtain ⟨v8, hc7, hf⟩ := c1_e hf
    refine q_V (w' := w) (rest := []) X hml hh (some (.int v8)) (m_X5_partAt l B D hN ht hc7) cf_X5_partAt k_285 ht ci_5 rfl rfl hl.1 rfl (Nat.le_of_ble_eq_true rfl) ⟨Nat.le_of_ble_eq_true rfl, Nat.le_of_ble_eq_true rfl⟩ ⟨Nat.zero_le _, Nat.zero_le _⟩ dX5_goesOnUpright_21 rfl (fun H locs hh => ?_)
    refine lv_aload_n hx hb dX5_goesOnUpright_24 rfl (lv_at hl 1 rfl) ?_
    refine lv_iload_n hx hb dX5_goesOnUpright_25 rfl (lv_at hl 3 rfl) ?_
    obtain ⟨v10, hc9, hf⟩ := c1_e hf
    refine q_V (w' := w) (rest := [.int v8]) X hml hh (some (.int v10)) (m_X5_partAt l B D hN ha0 hc9) cf_X5_partAt k_285 ha0 ci_5 rfl rfl hl.1 rfl (Nat.le_of_ble_eq_true rfl) ⟨Nat.le_of_ble_eq_true rfl, Nat.le_of_ble_eq_true rfl⟩ ⟨Nat.zero_le _, Nat.zero_le _⟩ dX5_goesOnUpright_26 rfl (fun H locs hh => ?_)
    refine lv_isub hx hb dX5_goesOnUpright_29 ?_
    refine lv_topi (fun x11 e12 => ?_)
    have hf := lt_e e12 hf
    refine lv_istore (lv' := [(4, .int x11), (0, .ref (B + t)), (1, .ref (B + a0)), (2, .int x1), (3, .int x3)]) hx hb dX5_goesOnUpright_30 hl (by decide) rfl (fun ls hl => ?_)
    refine lv_iload hx hb dX5_goesOnUpright_32 (lv_at hl 0 rfl) ?_
    refine lv_if_lt (tgt := 43) hx hb dX5_goesOnUpright_34 (by decide) (fun hc13 => ?_) (fun hc13 => ?_)
    · have hf := if_t hc13 hf
      refine lv_iconst (v := (0 : Int32)) hx hb dX5_goesOnUpright_43 (by decide) ?_
      exact e_z X hr hlk hh (Or.inl rfl) ⟨so_e hf, rfl⟩ dX5_goesOnUpright_44
    · have hf := if_f hc13 hf
      refine lv_iload hx hb dX5_goesOnUpright_37 (lv_at hl 0 rfl) ?_
      refine lv_iconst (v := (1 : Int32)) hx hb dX5_goesOnUpright_39 (by decide) ?_
      refine lv_icmp_le (tgt := 45) hx hb dX5_goesOnUpright_40 (by decide) (fun hc14 => ?_) (fun hc14 => ?_)
      · have hf := if_t hc14 hf
        obtain ⟨x15, e16⟩ : ∃ y : Int32, y = (x3 + (1 : Int32)) := ⟨_, rfl⟩
        have hf := lt_e e16 hf
        refine lv_iinc (v := x15) (lv' := [(3, .int x15), (4, .int x11), (0, .ref (B + t)), (1, .ref (B + a0)), (2, .int x1)]) hx hb dX5_goesOnUpright_45 hl (k := 4) rfl (by rw [e16]; rfl) (by decide) rfl (fun ls hl => ?_)
        refine lv_goto (tgt := 14) hx hb dX5_goesOnUpright_48 (by decide) ?_
        exact ih5 _ hf  _ _ _ hh (lv_sub hl [2, 3, 4, 0] rfl)
      · have hf := if_f hc14 hf
        refine lv_iconst (v := (0 : Int32)) hx hb dX5_goesOnUpright_43 (by decide) ?_
        exact e_z X hr hlk hh (Or.inl rfl) ⟨so_e hf, rfl⟩ dX5_goesOnUpright_44
set_option maxHeartbeats 4000000 in
set_option maxRecDepth 100000 in
theorem m_X5_goesOnLevel (l : Launch) (B : Nat) (D : DD) {n : Nat} (hN : 139 ≤ n) {t : Nat} {a0 : Nat} {w : Wd} {r : Int32} (ht : t < n ∧ kd t = 5) (ha0 : a0 < n ∧ kd a0 = 5) (hf : f_X5_goesOnLevel t a0 w = some r) : Ct l yX5_goesOnLevel cX5_goesOnLevel 5 (some .boolean) 1 21 0 0 B D [.ref (B + t), .ref (B + a0)] n w (some (.int r)) n w := by
  refine m_of (by decide) (Nat.le_of_ble_eq_true rfl) (fun p e s m args below meth c X hml hr hlk _ H locs hh ls hl => ?_)
  have hx := X.1
  have hb := X.2.1
  have hl : lv_has ls 5 [(0, .ref (B + t)), (1, .ref (B + a0))] := hl
  unfold f_X5_goesOnLevel at hf
  refine lv_aload_n hx hb dX5_goesOnLevel_0 rfl (lv_at hl 0 rfl) ?_
  refine r_gi X hh ht fk_X5_15 dX5_goesOnLevel_1 ?_
  refine lv_aload_n hx hb dX5_goesOnLevel_4 rfl (lv_at hl 1 rfl) ?_
  refine r_gi X hh ha0 fk_X5_15 dX5_goesOnLevel_5 ?_
  refine q_max X hml hl.1 k_292 (Nat.le_of_ble_eq_true rfl) ⟨Nat.le_of_ble_eq_true rfl, Nat.le_of_ble_eq_true rfl⟩ ⟨Nat.zero_le _, Nat.zero_le _⟩ dX5_goesOnLevel_8 ?_
  refine lv_topi (fun x1 e2 => ?_)
  have hf := lt_e e2 hf
  refine lv_istore_n (lv' := [(2, .int x1), (0, .ref (B + t)), (1, .ref (B + a0))]) hx hb dX5_goesOnLevel_11 rfl hl (by decide) rfl (fun ls hl => ?_)
  refine lv_iconst (v := (0 : Int32)) hx hb dX5_goesOnLevel_12 (by decide) ?_
  refine lv_istore_n (lv' := [(3, .int (0 : Int32)), (2, .int x1), (0, .ref (B + t)), (1, .ref (B + a0))]) hx hb dX5_goesOnLevel_13 rfl hl (by decide) rfl (fun ls hl => ?_)
  refine wl1_W (P := fun (x3 : Int32) => ∀ (H : Heap) (locs : List Loc) (ls : Array Slot), Hp B D n w s H locs → lv_has ls 5 [(0, .ref (B + t)), (1, .ref (B + a0)), (2, .int x1), (3, .int x3)] → W p l e (rmk 1 21 0 0) s m args below meth c H locs 0 0 (MZ below B D n w (some (.int r)) args s 0 0) (F0 m 14 ls [])) hf (fun x3 k4 ih5 hf  H locs ls hh hl => ?_)  _ _ _ hh (lv_sub hl [2, 3, 1, 0] rfl)
  refine lv_iload_n hx hb dX5_goesOnLevel_14 rfl (lv_at hl 3 rfl) ?_
  refine lv_iload_n hx hb dX5_goesOnLevel_15 rfl (lv_at hl 2 rfl) ?_
  refine lv_icmp_ge (tgt := 56) hx hb dX5_goesOnLevel_16 (by decide) (fun hc6 => ?_) (fun hc6 => ?_)
  · have hf := if_t hc6 hf
    refine lv_iconst (v := (1 : Int32)) hx hb dX5_goesOnLevel_56 (by decide) ?_
    exact e_z X hr hlk hh (Or.inr rfl) ⟨so_e hf, rfl⟩ dX5_goesOnLevel_57
  · have hf := if_f hc6 hf
    refine lv_aload_n hx hb dX5_goesOnLevel_19 rfl (lv_at hl 1 rfl) ?_
    refine lv_iload_n hx hb dX5_goesOnLevel_20 rfl (lv_at hl 3 rfl) ?_
    obtain ⟨v8, hc7, hf⟩ := c1_e hf
    refine q_V (w' := w) (rest := []) X hml hh (some (.int v8)) (m_X5_partAt l B D hN ha0 hc7) cf_X5_partAt k_285 ha0 ci_5 rfl rfl hl.1 rfl (Nat.le_of_ble_eq_true rfl) ⟨Nat.le_of_ble_eq_true rfl, Nat.le_of_ble_eq_true rfl⟩ ⟨Nat.zero_le _, Nat.zero_le _⟩ dX5_goesOnLevel_21 rfl (fun H locs hh => ?_)
    refine lv_istore (lv' := [(4, .int v8), (0, .ref (B + t)), (1, .ref (B + a0)), (2, .int x1), (3, .int x3)]) hx hb dX5_goesOnLevel_24 hl (by decide) rfl (fun ls hl => ?_)
    refine lv_aload_n hx hb dX5_goesOnLevel_26 rfl (lv_at hl 1 rfl) ?_
    refine lv_iload_n hx hb dX5_goesOnLevel_27 rfl (lv_at hl 4 rfl) ?_
    obtain ⟨v10, hc9, hf⟩ := c1_e hf
    refine q_V (w' := w) (rest := []) X hml hh (some (.int v10)) (m_X5_partAt l B D hN ht hc9) cf_X5_partAt k_285 ht ci_5 rfl rfl hl.1 rfl (Nat.le_of_ble_eq_true rfl) ⟨Nat.le_of_ble_eq_true rfl, Nat.le_of_ble_eq_true rfl⟩ ⟨Nat.zero_le _, Nat.zero_le _⟩ dX5_goesOnLevel_28 rfl (fun H locs hh => ?_)
    refine lv_iload hx hb dX5_goesOnLevel_31 (lv_at hl 0 rfl) ?_
    refine lv_icmp_lt (tgt := 48) hx hb dX5_goesOnLevel_33 (by decide) (fun hc11 => ?_) (fun hc11 => ?_)
    · have hf := if_t hc11 hf
      refine lv_iconst (v := (0 : Int32)) hx hb dX5_goesOnLevel_48 (by decide) ?_
      exact e_z X hr hlk hh (Or.inl rfl) ⟨so_e hf, rfl⟩ dX5_goesOnLevel_49
    · have hf := if_f hc11 hf
      refine lv_iload hx hb dX5_goesOnLevel_36 (lv_at hl 0 rfl) ?_
      refine lv_aload_n hx hb dX5_goesOnLevel_38 rfl (lv_at hl 1 rfl) ?_
      refine lv_iload_n hx hb dX5_goesOnLevel_39 rfl (lv_at hl 4 rfl) ?_
      refine lv_iconst (v := (1 : Int32)) hx hb dX5_goesOnLevel_40 (by decide) ?_
      refine lv_iadd hx hb dX5_goesOnLevel_41 ?_
      obtain ⟨v13, hc12, hf⟩ := c1_e hf
      refine q_V (w' := w) (rest := [.int v8]) X hml hh (some (.int v13)) (m_X5_partAt l B D hN ht hc12) cf_X5_partAt k_285 ht ci_5 rfl rfl hl.1 rfl (Nat.le_of_ble_eq_true rfl) ⟨Nat.le_of_ble_eq_true rfl, Nat.le_of_ble_eq_true rfl⟩ ⟨Nat.zero_le _, Nat.zero_le _⟩ dX5_goesOnLevel_42 rfl (fun H locs hh => ?_)
      refine lv_icmp_ge (tgt := 50) hx hb dX5_goesOnLevel_45 (by decide) (fun hc14 => ?_) (fun hc14 => ?_)
      · have hf := if_t hc14 hf
        obtain ⟨x15, e16⟩ : ∃ y : Int32, y = (x3 + (1 : Int32)) := ⟨_, rfl⟩
        have hf := lt_e e16 hf
        refine lv_iinc (v := x15) (lv' := [(3, .int x15), (4, .int v8), (0, .ref (B + t)), (1, .ref (B + a0)), (2, .int x1)]) hx hb dX5_goesOnLevel_50 hl (k := 4) rfl (by rw [e16]; rfl) (by decide) rfl (fun ls hl => ?_)
        refine lv_goto (tgt := 14) hx hb dX5_goesOnLevel_53 (by decide) ?_
        exact ih5 _ hf  _ _ _ hh (lv_sub hl [2, 3, 4, 0] rfl)
      · have hf := if_f hc14 hf
        refine lv_iconst (v := (0 : Int32)) hx hb dX5_goesOnLevel_48 (by decide) ?_
        exact e_z X hr hlk hh (Or.inl rfl) ⟨so_e hf, rfl⟩ dX5_goesOnLevel_49
set_option maxHeartbeats 4000000 in
set_option maxRecDepth 100000 in
theorem m_X5_goesOnFrom (l : Launch) (B : Nat) (D : DD) {n : Nat} (hN : 139 ≤ n) {t : Nat} {a0 : Nat} {a1 : Int32} {w : Wd} {r : Int32} (ht : t < n ∧ kd t = 5) (ha0 : a0 < n ∧ kd a0 = 5) (hf : f_X5_goesOnFrom t a0 a1 w = some r) : Ct l yX5_goesOnFrom cX5_goesOnFrom 3 (some .boolean) 2 45 0 0 B D [.ref (B + t), .ref (B + a0), .int a1] n w (some (.int r)) n w := by
  refine m_of (by decide) (Nat.le_of_ble_eq_true rfl) (fun p e s m args below meth c X hml hr hlk _ H locs hh ls hl => ?_)
  have hx := X.1
  have hb := X.2.1
  have hl : lv_has ls 3 [(0, .ref (B + t)), (1, .ref (B + a0)), (2, .int a1)] := hl
  unfold f_X5_goesOnFrom at hf
  refine lv_iload_n hx hb dX5_goesOnFrom_0 rfl (lv_at hl 2 rfl) ?_
  refine lv_if_eq (tgt := 12) hx hb dX5_goesOnFrom_1 (by decide) (fun hc1 => ?_) (fun hc1 => ?_)
  · have hf := if_t hc1 hf
    refine lv_aload_n hx hb dX5_goesOnFrom_12 rfl (lv_at hl 0 rfl) ?_
    refine lv_aload_n hx hb dX5_goesOnFrom_13 rfl (lv_at hl 1 rfl) ?_
    obtain ⟨v3, hc2, hf⟩ := c1_e hf
    refine q_V (w' := w) (rest := []) X hml hh (some (.int v3)) (m_X5_goesOnLevel l B D hN ht ha0 hc2) cf_X5_goesOnLevel k_346 ht ci_5 rfl rfl hl.1 rfl (Nat.le_of_ble_eq_true rfl) ⟨Nat.le_of_ble_eq_true rfl, Nat.le_of_ble_eq_true rfl⟩ ⟨Nat.zero_le _, Nat.zero_le _⟩ dX5_goesOnFrom_14 rfl (fun H locs hh => ?_)
    have hz := zb_e hf
    have hf := hz.2
    exact e_z X hr hlk hh hz.1 ⟨so_e hf, rfl⟩ dX5_goesOnFrom_17
  · have hf := if_f hc1 hf
    refine lv_aload_n hx hb dX5_goesOnFrom_4 rfl (lv_at hl 0 rfl) ?_
    refine lv_aload_n hx hb dX5_goesOnFrom_5 rfl (lv_at hl 1 rfl) ?_
    obtain ⟨v5, hc4, hf⟩ := c1_e hf
    refine q_V (w' := w) (rest := []) X hml hh (some (.int v5)) (m_X5_goesOnUpright l B D hN ht ha0 hc4) cf_X5_goesOnUpright k_342 ht ci_5 rfl rfl hl.1 rfl (Nat.le_of_ble_eq_true rfl) ⟨Nat.le_of_ble_eq_true rfl, Nat.le_of_ble_eq_true rfl⟩ ⟨Nat.zero_le _, Nat.zero_le _⟩ dX5_goesOnFrom_6 rfl (fun H locs hh => ?_)
    refine lv_goto (tgt := 17) hx hb dX5_goesOnFrom_9 (by decide) ?_
    have hz := zb_e hf
    have hf := hz.2
    exact e_z X hr hlk hh hz.1 ⟨so_e hf, rfl⟩ dX5_goesOnFrom_17
set_option maxHeartbeats 4000000 in
set_option maxRecDepth 100000 in
theorem m_X5_partsAbove (l : Launch) (B : Nat) (D : DD) {n : Nat} (hN : 139 ≤ n) {t : Nat} {a0 : Int32} {w : Wd} {r : Int32} (ht : t < n ∧ kd t = 5) (hf : f_X5_partsAbove t a0 w = some r) : Ct l yX5_partsAbove cX5_partsAbove 4 (some .int) 0 0 0 0 B D [.ref (B + t), .int a0] n w (some (.int r)) n w := by
  refine m_of (by decide) (Nat.le_of_ble_eq_true rfl) (fun p e s m args below meth c X hml hr hlk _ H locs hh ls hl => ?_)
  have hx := X.1
  have hb := X.2.1
  have hl : lv_has ls 4 [(0, .ref (B + t)), (1, .int a0)] := hl
  unfold f_X5_partsAbove at hf
  refine lv_iconst (v := (0 : Int32)) hx hb dX5_partsAbove_0 (by decide) ?_
  refine lv_istore_n (lv' := [(2, .int (0 : Int32)), (0, .ref (B + t)), (1, .int a0)]) hx hb dX5_partsAbove_1 rfl hl (by decide) rfl (fun ls hl => ?_)
  refine lv_iconst (v := (0 : Int32)) hx hb dX5_partsAbove_2 (by decide) ?_
  refine lv_istore_n (lv' := [(3, .int (0 : Int32)), (2, .int (0 : Int32)), (0, .ref (B + t)), (1, .int a0)]) hx hb dX5_partsAbove_3 rfl hl (by decide) rfl (fun ls hl => ?_)
  refine wl2_W (P := fun (x1 : Int32) (x2 : Int32) => ∀ (H : Heap) (locs : List Loc) (ls : Array Slot), Hp B D n w s H locs → lv_has ls 4 [(0, .ref (B + t)), (1, .int a0), (2, .int x1), (3, .int x2)] → W p l e (rmk 0 0 0 0) s m args below meth c H locs 0 0 (MZ below B D n w (some (.int r)) args s 0 0) (F0 m 4 ls [])) hf (fun x1 x2 k3 ih4 hf  H locs ls hh hl => ?_)  _ _ _ hh (lv_sub hl [2, 3, 1, 0] rfl)
  refine lv_iload_n hx hb dX5_partsAbove_4 rfl (lv_at hl 3 rfl) ?_
  refine lv_aload_n hx hb dX5_partsAbove_5 rfl (lv_at hl 0 rfl) ?_
  refine r_gi X hh ht fk_X5_15 dX5_partsAbove_6 ?_
  refine lv_icmp_ge (tgt := 36) hx hb dX5_partsAbove_9 (by decide) (fun hc5 => ?_) (fun hc5 => ?_)
  · have hf := if_t hc5 hf
    refine lv_iload_n hx hb dX5_partsAbove_36 rfl (lv_at hl 2 rfl) ?_
    exact e_i X hr hlk hh ⟨so_e hf, rfl⟩ dX5_partsAbove_37
  · have hf := if_f hc5 hf
    refine lv_iload_n hx hb dX5_partsAbove_12 rfl (lv_at hl 2 rfl) ?_
    refine lv_aload_n hx hb dX5_partsAbove_13 rfl (lv_at hl 0 rfl) ?_
    refine q_gr (P := 9) X hh ht fk_X5_9 dX5_partsAbove_14 hN hf (fun t6 h7 hf => ?_)
    refine lv_iload_n hx hb dX5_partsAbove_17 rfl (lv_at hl 3 rfl) ?_
    refine q_ald X hh h7 dX5_partsAbove_18 hf (fun hf => ?_)
    refine lv_iload_n hx hb dX5_partsAbove_19 rfl (lv_at hl 1 rfl) ?_
    refine mg_W (P := fun (x10 : Int32) => ∀ (ls : Array Slot), lv_has ls 4 [(0, .ref (B + t)), (1, .int a0), (3, .int x2)] → W p l e (rmk 0 0 0 0) s m args below meth c H locs 0 0 (MZ below B D n w (some (.int r)) args s 0 0) (F0 m 28 ls [.int x10, .int x1])) hf (fun x10 hf ls hl => ?_) (fun hj15 => ?_)
    · refine lv_iadd hx hb dX5_partsAbove_28 ?_
      refine lv_topi (fun x11 e12 => ?_)
      have hf := lt_e e12 hf
      refine lv_istore_n (lv' := [(2, .int x11), (0, .ref (B + t)), (1, .int a0), (3, .int x2)]) hx hb dX5_partsAbove_29 rfl hl (by decide) rfl (fun ls hl => ?_)
      obtain ⟨x13, e14⟩ : ∃ y : Int32, y = (x2 + (1 : Int32)) := ⟨_, rfl⟩
      have hf := lt_e e14 hf
      refine lv_iinc (v := x13) (lv' := [(3, .int x13), (2, .int x11), (0, .ref (B + t)), (1, .int a0)]) hx hb dX5_partsAbove_30 hl (k := 3) rfl (by rw [e14]; rfl) (by decide) rfl (fun ls hl => ?_)
      refine lv_goto (tgt := 4) hx hb dX5_partsAbove_33 (by decide) ?_
      exact ih4 _ _ hf  _ _ _ hh (lv_sub hl [2, 3, 1, 0] rfl)
    · refine lv_icmp_le (tgt := 27) hx hb dX5_partsAbove_20 (by decide) (fun hc9 => ?_) (fun hc9 => ?_)
      · refine lv_iconst (v := (0 : Int32)) hx hb dX5_partsAbove_27 (by decide) ?_
        exact hj15 _ (by rw [if_pos hc9]) ls (lv_sub hl [0, 1, 3] rfl)
      · refine lv_iconst (v := (1 : Int32)) hx hb dX5_partsAbove_23 (by decide) ?_
        refine lv_goto (tgt := 28) hx hb dX5_partsAbove_24 (by decide) ?_
        exact hj15 _ (by rw [if_neg hc9]) ls (lv_sub hl [0, 1, 3] rfl)
set_option maxHeartbeats 4000000 in
set_option maxRecDepth 100000 in
theorem m_X5_standardFillings (l : Launch) (B : Nat) (D : DD) {n : Nat} (hN : 139 ≤ n) {t : Nat} {w : Wd} {r : Int64} (ht : t < n ∧ kd t = 5) (hf : f_X5_standardFillings t w = some r) : Ct l yX5_standardFillings cX5_standardFillings 7 (some .long) 1 23 0 0 B D [.ref (B + t)] n w (some (.long r)) n w := by
  refine m_of (by decide) (Nat.le_of_ble_eq_true rfl) (fun p e s m args below meth c X hml hr hlk _ H locs hh ls hl => ?_)
  have hx := X.1
  have hb := X.2.1
  have hl : lv_has ls 7 [(0, .ref (B + t))] := hl
  unfold f_X5_standardFillings at hf
  refine lv_lconst (v := (1 : Int64)) hx hb dX5_standardFillings_0 (by decide) ?_
  refine lv_lstore_n (lv' := [(1, .long (1 : Int64)), (0, .ref (B + t))]) hx hb dX5_standardFillings_1 rfl hl (by decide) rfl (fun ls hl => ?_)
  refine lv_iconst (v := (2 : Int32)) hx hb dX5_standardFillings_2 (by decide) ?_
  refine lv_istore_n (lv' := [(3, .int (2 : Int32)), (1, .long (1 : Int64)), (0, .ref (B + t))]) hx hb dX5_standardFillings_3 rfl hl (by decide) rfl (fun ls hl => ?_)
  refine wl2_W (P := fun (x1 : Int64) (x2 : Int32) => ∀ (H : Heap) (locs : List Loc) (ls : Array Slot), Hp B D n w s H locs → lv_has ls 7 [(0, .ref (B + t)), (1, .long x1), (3, .int x2)] → W p l e (rmk 1 23 0 0) s m args below meth c H locs 0 0 (MZ below B D n w (some (.long r)) args s 0 0) (F0 m 4 ls [])) hf (fun x1 x2 k3 ih4 hf  H locs ls hh hl => ?_)  _ _ _ hh (lv_sub hl [2, 1, 0] rfl)
  refine lv_iload_n hx hb dX5_standardFillings_4 rfl (lv_at hl 2 rfl) ?_
  refine lv_aload_n hx hb dX5_standardFillings_5 rfl (lv_at hl 0 rfl) ?_
  refine r_gi X hh ht fk_X5_19 dX5_standardFillings_6 ?_
  refine lv_icmp_gt (tgt := 23) hx hb dX5_standardFillings_9 (by decide) (fun hc5 => ?_) (fun hc5 => ?_)
  · have hf := if_t hc5 hf
    refine lv_lconst (v := (1 : Int64)) hx hb dX5_standardFillings_23 (by decide) ?_
    refine lv_lstore_n (lv' := [(3, .long (1 : Int64)), (0, .ref (B + t)), (1, .long x1)]) hx hb dX5_standardFillings_24 rfl hl (by decide) rfl (fun ls hl => ?_)
    refine lv_iconst (v := (0 : Int32)) hx hb dX5_standardFillings_25 (by decide) ?_
    refine lv_istore (lv' := [(5, .int (0 : Int32)), (3, .long (1 : Int64)), (0, .ref (B + t)), (1, .long x1)]) hx hb dX5_standardFillings_26 hl (by decide) rfl (fun ls hl => ?_)
    refine wl2_W (P := fun (x6 : Int64) (x7 : Int32) => ∀ (H : Heap) (locs : List Loc) (ls : Array Slot), Hp B D n w s H locs → lv_has ls 7 [(0, .ref (B + t)), (1, .long x1), (3, .long x6), (5, .int x7)] → W p l e (rmk 1 23 0 0) s m args below meth c H locs 0 0 (MZ below B D n w (some (.long r)) args s 0 0) (F0 m 28 ls [])) hf (fun x6 x7 k8 ih9 hf  H locs ls hh hl => ?_)  _ _ _ hh (lv_sub hl [2, 3, 1, 0] rfl)
    refine lv_iload hx hb dX5_standardFillings_28 (lv_at hl 3 rfl) ?_
    refine lv_aload_n hx hb dX5_standardFillings_30 rfl (lv_at hl 0 rfl) ?_
    refine r_gi X hh ht fk_X5_15 dX5_standardFillings_31 ?_
    refine lv_icmp_ge (tgt := 90) hx hb dX5_standardFillings_34 (by decide) (fun hc10 => ?_) (fun hc10 => ?_)
    · have hf := if_t hc10 hf
      refine lv_lload_n hx hb dX5_standardFillings_90 rfl (lv_at hl 2 rfl) ?_
      refine lv_lconst (v := (0 : Int64)) hx hb dX5_standardFillings_91 (by decide) ?_
      refine W.lcmp hx hb dX5_standardFillings_92 ?_
      refine lv_if_le (tgt := 102) hx hb dX5_standardFillings_93 (by decide) (fun hc11 => ?_) (fun hc11 => ?_)
      · have hf := if_t hc11 hf
        refine lv_ldc2 hx hb X.2.2.1 (X.2.2.2.1 _ k_320) dX5_standardFillings_102 ?_
        exact e_l X hr hlk hh ⟨so_e hf, rfl⟩ dX5_standardFillings_105
      · have hf := if_f hc11 hf
        refine lv_lload_n hx hb dX5_standardFillings_96 rfl (lv_at hl 1 rfl) ?_
        refine lv_lload_n hx hb dX5_standardFillings_97 rfl (lv_at hl 2 rfl) ?_
        have hz := nzl_e hf
        have hf := hz.2
        refine lv_ldiv hx hb dX5_standardFillings_98 hz.1 ?_
        refine lv_goto (tgt := 105) hx hb dX5_standardFillings_99 (by decide) ?_
        exact e_l X hr hlk hh ⟨so_e hf, rfl⟩ dX5_standardFillings_105
    · have hf := if_f hc10 hf
      refine lv_iconst (v := (0 : Int32)) hx hb dX5_standardFillings_37 (by decide) ?_
      refine lv_istore (lv' := [(6, .int (0 : Int32)), (0, .ref (B + t)), (1, .long x1), (3, .long x6), (5, .int x7)]) hx hb dX5_standardFillings_38 hl (by decide) rfl (fun ls hl => ?_)
      refine wl2_W (P := fun (x12 : Int64) (x13 : Int32) => ∀ (H : Heap) (locs : List Loc) (ls : Array Slot), Hp B D n w s H locs → lv_has ls 7 [(0, .ref (B + t)), (1, .long x1), (3, .long x12), (5, .int x7), (6, .int x13)] → W p l e (rmk 1 23 0 0) s m args below meth c H locs 0 0 (MZ below B D n w (some (.long r)) args s 0 0) (F0 m 40 ls [])) hf (fun x12 x13 k14 ih15 hf  H locs ls hh hl => ?_)  _ _ _ hh (lv_sub hl [1, 2, 3, 4, 0] rfl)
      refine lv_iload hx hb dX5_standardFillings_40 (lv_at hl 4 rfl) ?_
      refine lv_aload_n hx hb dX5_standardFillings_42 rfl (lv_at hl 0 rfl) ?_
      refine q_gr (P := 9) X hh ht fk_X5_9 dX5_standardFillings_43 hN hf (fun t16 h17 hf => ?_)
      refine lv_iload hx hb dX5_standardFillings_46 (lv_at hl 3 rfl) ?_
      refine q_ald X hh h17 dX5_standardFillings_48 hf (fun hf => ?_)
      refine lv_icmp_ge (tgt := 84) hx hb dX5_standardFillings_49 (by decide) (fun hc19 => ?_) (fun hc19 => ?_)
      · have hf := if_t hc19 hf
        obtain ⟨x20, e21⟩ : ∃ y : Int32, y = (x7 + (1 : Int32)) := ⟨_, rfl⟩
        have hf := lt_e e21 hf
        refine lv_iinc (v := x20) (lv' := [(5, .int x20), (0, .ref (B + t)), (1, .long x1), (3, .long x12), (6, .int x13)]) hx hb dX5_standardFillings_84 hl (k := 3) rfl (by rw [e21]; rfl) (by decide) rfl (fun ls hl => ?_)
        refine lv_goto (tgt := 28) hx hb dX5_standardFillings_87 (by decide) ?_
        exact ih9 _ _ hf  _ _ _ hh (lv_sub hl [1, 2, 3, 0] rfl)
      · have hf := if_f hc19 hf
        refine lv_lload_n hx hb dX5_standardFillings_52 rfl (lv_at hl 2 rfl) ?_
        refine lv_aload_n hx hb dX5_standardFillings_53 rfl (lv_at hl 0 rfl) ?_
        refine q_gr (P := 9) X hh ht fk_X5_9 dX5_standardFillings_54 hN hf (fun t22 h23 hf => ?_)
        refine lv_iload hx hb dX5_standardFillings_57 (lv_at hl 3 rfl) ?_
        refine q_ald X hh h23 dX5_standardFillings_59 hf (fun hf => ?_)
        refine lv_iload hx hb dX5_standardFillings_60 (lv_at hl 4 rfl) ?_
        refine lv_isub hx hb dX5_standardFillings_62 ?_
        refine lv_aload_n hx hb dX5_standardFillings_63 rfl (lv_at hl 0 rfl) ?_
        refine lv_iload hx hb dX5_standardFillings_64 (lv_at hl 4 rfl) ?_
        obtain ⟨v26, hc25, hf⟩ := c1_e hf
        refine q_V (w' := w) (rest := [_, .long x12]) X hml hh (some (.int v26)) (m_X5_partsAbove l B D hN ht hc25) cf_X5_partsAbove k_319 ht ci_5 rfl rfl hl.1 rfl (Nat.le_of_ble_eq_true rfl) ⟨Nat.le_of_ble_eq_true rfl, Nat.le_of_ble_eq_true rfl⟩ ⟨Nat.zero_le _, Nat.zero_le _⟩ dX5_standardFillings_66 rfl (fun H locs hh => ?_)
        refine lv_iadd hx hb dX5_standardFillings_69 ?_
        refine lv_iload hx hb dX5_standardFillings_70 (lv_at hl 3 rfl) ?_
        refine lv_isub hx hb dX5_standardFillings_72 ?_
        refine lv_iconst (v := (1 : Int32)) hx hb dX5_standardFillings_73 (by decide) ?_
        refine lv_isub hx hb dX5_standardFillings_74 ?_
        refine lv_i2l hx hb dX5_standardFillings_75 rfl ?_
        refine lv_lmul hx hb dX5_standardFillings_76 ?_
        refine lv_topl (fun x27 e28 => ?_)
        have hf := lt_e e28 hf
        refine lv_lstore_n (lv' := [(3, .long x27), (0, .ref (B + t)), (1, .long x1), (5, .int x7), (6, .int x13)]) hx hb dX5_standardFillings_77 rfl hl (by decide) rfl (fun ls hl => ?_)
        obtain ⟨x29, e30⟩ : ∃ y : Int32, y = (x13 + (1 : Int32)) := ⟨_, rfl⟩
        have hf := lt_e e30 hf
        refine lv_iinc (v := x29) (lv' := [(6, .int x29), (3, .long x27), (0, .ref (B + t)), (1, .long x1), (5, .int x7)]) hx hb dX5_standardFillings_78 hl (k := 4) rfl (by rw [e30]; rfl) (by decide) rfl (fun ls hl => ?_)
        refine lv_goto (tgt := 40) hx hb dX5_standardFillings_81 (by decide) ?_
        exact ih15 _ _ hf  _ _ _ hh (lv_sub hl [2, 3, 1, 4, 0] rfl)
  · have hf := if_f hc5 hf
    refine lv_lload_n hx hb dX5_standardFillings_12 rfl (lv_at hl 1 rfl) ?_
    refine lv_iload_n hx hb dX5_standardFillings_13 rfl (lv_at hl 2 rfl) ?_
    refine lv_i2l hx hb dX5_standardFillings_14 rfl ?_
    refine lv_lmul hx hb dX5_standardFillings_15 ?_
    refine lv_topl (fun x31 e32 => ?_)
    have hf := lt_e e32 hf
    refine lv_lstore_n (lv' := [(1, .long x31), (0, .ref (B + t)), (3, .int x2)]) hx hb dX5_standardFillings_16 rfl hl (by decide) rfl (fun ls hl => ?_)
    obtain ⟨x33, e34⟩ : ∃ y : Int32, y = (x2 + (1 : Int32)) := ⟨_, rfl⟩
    have hf := lt_e e34 hf
    refine lv_iinc (v := x33) (lv' := [(3, .int x33), (1, .long x31), (0, .ref (B + t))]) hx hb dX5_standardFillings_17 hl (k := 2) rfl (by rw [e34]; rfl) (by decide) rfl (fun ls hl => ?_)
    refine lv_goto (tgt := 4) hx hb dX5_standardFillings_20 (by decide) ?_
    exact ih4 _ _ hf  _ _ _ hh (lv_sub hl [2, 1, 0] rfl)
set_option maxHeartbeats 4000000 in
set_option maxRecDepth 100000 in
theorem m_X5_productOrWide (l : Launch) (B : Nat) (D : DD) {n : Nat} (hN : 139 ≤ n) {t : Nat} {w : Wd} {r : Int32} (ht : t < n ∧ kd t = 5) (hf : f_X5_productOrWide t w = some r) : Ct l yX5_productOrWide cX5_productOrWide 4 (some .int) 0 0 0 0 B D [.ref (B + t)] n w (some (.int r)) n w := by
  refine m_of (by decide) (Nat.le_of_ble_eq_true rfl) (fun p e s m args below meth c X hml hr hlk _ H locs hh ls hl => ?_)
  have hx := X.1
  have hb := X.2.1
  have hl : lv_has ls 4 [(0, .ref (B + t))] := hl
  unfold f_X5_productOrWide at hf
  refine lv_lconst (v := (1 : Int64)) hx hb dX5_productOrWide_0 (by decide) ?_
  refine lv_lstore_n (lv' := [(1, .long (1 : Int64)), (0, .ref (B + t))]) hx hb dX5_productOrWide_1 rfl hl (by decide) rfl (fun ls hl => ?_)
  refine lv_iconst (v := (0 : Int32)) hx hb dX5_productOrWide_2 (by decide) ?_
  refine lv_istore_n (lv' := [(3, .int (0 : Int32)), (1, .long (1 : Int64)), (0, .ref (B + t))]) hx hb dX5_productOrWide_3 rfl hl (by decide) rfl (fun ls hl => ?_)
  refine wl2_W (P := fun (x1 : Int64) (x2 : Int32) => ∀ (H : Heap) (locs : List Loc) (ls : Array Slot), Hp B D n w s H locs → lv_has ls 4 [(0, .ref (B + t)), (1, .long x1), (3, .int x2)] → W p l e (rmk 0 0 0 0) s m args below meth c H locs 0 0 (MZ below B D n w (some (.int r)) args s 0 0) (F0 m 4 ls [])) hf (fun x1 x2 k3 ih4 hf  H locs ls hh hl => ?_)  _ _ _ hh (lv_sub hl [2, 1, 0] rfl)
  refine lv_iload_n hx hb dX5_productOrWide_4 rfl (lv_at hl 2 rfl) ?_
  refine lv_aload_n hx hb dX5_productOrWide_5 rfl (lv_at hl 0 rfl) ?_
  refine r_gi X hh ht fk_X5_15 dX5_productOrWide_6 ?_
  refine lv_icmp_ge (tgt := 41) hx hb dX5_productOrWide_9 (by decide) (fun hc5 => ?_) (fun hc5 => ?_)
  · have hf := if_t hc5 hf
    refine lv_lload_n hx hb dX5_productOrWide_41 rfl (lv_at hl 1 rfl) ?_
    refine lv_l2i hx hb dX5_productOrWide_42 rfl ?_
    exact e_i X hr hlk hh ⟨so_e hf, rfl⟩ dX5_productOrWide_43
  · have hf := if_f hc5 hf
    refine lv_lload_n hx hb dX5_productOrWide_12 rfl (lv_at hl 1 rfl) ?_
    refine lv_aload_n hx hb dX5_productOrWide_13 rfl (lv_at hl 0 rfl) ?_
    refine q_gr (P := 9) X hh ht fk_X5_9 dX5_productOrWide_14 hN hf (fun t6 h7 hf => ?_)
    refine lv_iload_n hx hb dX5_productOrWide_17 rfl (lv_at hl 2 rfl) ?_
    refine q_ald X hh h7 dX5_productOrWide_18 hf (fun hf => ?_)
    refine lv_iconst (v := (1 : Int32)) hx hb dX5_productOrWide_19 (by decide) ?_
    refine lv_iadd hx hb dX5_productOrWide_20 ?_
    refine lv_i2l hx hb dX5_productOrWide_21 rfl ?_
    refine lv_lmul hx hb dX5_productOrWide_22 ?_
    refine lv_topl (fun x9 e10 => ?_)
    have hf := lt_e e10 hf
    refine lv_lstore_n (lv' := [(1, .long x9), (0, .ref (B + t)), (3, .int x2)]) hx hb dX5_productOrWide_23 rfl hl (by decide) rfl (fun ls hl => ?_)
    refine lv_lload_n hx hb dX5_productOrWide_24 rfl (lv_at hl 0 rfl) ?_
    refine lv_ldc2 hx hb X.2.2.1 (X.2.2.2.1 _ k_329) dX5_productOrWide_25 ?_
    refine W.lcmp hx hb dX5_productOrWide_28 ?_
    refine lv_if_le (tgt := 35) hx hb dX5_productOrWide_29 (by decide) (fun hc11 => ?_) (fun hc11 => ?_)
    · have hf := if_t hc11 hf
      obtain ⟨x12, e13⟩ : ∃ y : Int32, y = (x2 + (1 : Int32)) := ⟨_, rfl⟩
      have hf := lt_e e13 hf
      refine lv_iinc (v := x12) (lv' := [(3, .int x12), (1, .long x9), (0, .ref (B + t))]) hx hb dX5_productOrWide_35 hl (k := 2) rfl (by rw [e13]; rfl) (by decide) rfl (fun ls hl => ?_)
      refine lv_goto (tgt := 4) hx hb dX5_productOrWide_38 (by decide) ?_
      exact ih4 _ _ hf  _ _ _ hh (lv_sub hl [2, 1, 0] rfl)
    · have hf := if_f hc11 hf
      refine lv_bipush (v := (-6 : Int32)) hx hb dX5_productOrWide_32 (by decide) ?_
      exact e_i X hr hlk hh ⟨so_e hf, rfl⟩ dX5_productOrWide_34

set_option maxHeartbeats 4000000 in
set_option maxRecDepth 100000 in
theorem m_L_cell (l : Launch) (B : Nat) (D : DD) {n : Nat} (hN : 139 ≤ n) {b L : Nat} {xs : Nat → Int32} {a1 : Int32} {w : Wd} {r : Int32} (hf : f_L_cell L xs a1 w = some r) : CtX l yL_cell cL_cell 2 (some .int) 0 0 0 0 B D b L xs [.ref b, .int a1] n w (some (.int r)) n w := by
  refine mX_of (by decide) (Nat.le_of_ble_eq_true rfl) (fun p e s m args below meth c X hml hr hlk hX hbl hbA H locs hh ls hl => ?_)
  have hx := X.1
  have hb := X.2.1
  have hl : lv_has ls 2 [(0, .ref b), (1, .int a1)] := hl
  unfold f_L_cell at hf
  refine lv_iload_n hx hb dL_cell_0 rfl (lv_at hl 1 rfl) ?_
  refine lv_aload_n hx hb dL_cell_1 rfl (lv_at hl 0 rfl) ?_
  refine va_slen hx hb hX hbl hbA hh.2 dL_cell_2 ?_
  refine lv_icmp_ge (tgt := 12) hx hb dL_cell_3 (by decide) (fun hc1 => ?_) (fun hc1 => ?_)
  · have hf := if_t hc1 hf
    refine lv_sipush (v := (7919 : Int32)) hx hb dL_cell_12 (by decide) ?_
    refine lv_iload_n hx hb dL_cell_15 rfl (lv_at hl 1 rfl) ?_
    refine lv_imul hx hb dL_cell_16 ?_
    refine lv_bipush (v := (12 : Int32)) hx hb dL_cell_17 (by decide) ?_
    refine lv_iadd hx hb dL_cell_19 ?_
    refine lv_topi (fun x2 e3 => ?_)
    have hf := lt_e e3 hf
    exact e_i X hr hlk hh ⟨so_e hf, rfl⟩ dL_cell_20
  · have hf := if_f hc1 hf
    refine lv_aload_n hx hb dL_cell_6 rfl (lv_at hl 0 rfl) ?_
    refine lv_iload_n hx hb dL_cell_7 rfl (lv_at hl 1 rfl) ?_
    have hz := ix_e hf
    have hf := hz.2
    refine va_sld hx hb hX hbl hbA hh.2 hz.1 dL_cell_8 ?_
    refine lv_topi (fun x5 e6 => ?_)
    have hf := lt_e e6 hf
    refine lv_goto (tgt := 20) hx hb dL_cell_9 (by decide) ?_
    exact e_i X hr hlk hh ⟨so_e hf, rfl⟩ dL_cell_20
set_option maxHeartbeats 4000000 in
set_option maxRecDepth 100000 in
theorem m_L_some (l : Launch) (B : Nat) (D : DD) {n : Nat} (hN : 139 ≤ n) {b L : Nat} {xs : Nat → Int32} {a1 : Int32} {a2 : Int32} {w : Wd} {r : Int32} (hf : f_L_some L xs a1 a2 w = some r) : CtX l yL_some cL_some 3 (some .int) 1 21 0 0 B D b L xs [.ref b, .int a1, .int a2] n w (some (.int r)) n w := by
  refine mX_of (by decide) (Nat.le_of_ble_eq_true rfl) (fun p e s m args below meth c X hml hr hlk hX hbl hbA H locs hh ls hl => ?_)
  have hx := X.1
  have hb := X.2.1
  have hl : lv_has ls 3 [(0, .ref b), (1, .int a1), (2, .int a2)] := hl
  unfold f_L_some at hf
  refine lv_aload_n hx hb dL_some_0 rfl (lv_at hl 0 rfl) ?_
  refine lv_iload_n hx hb dL_some_1 rfl (lv_at hl 1 rfl) ?_
  obtain ⟨v2, hc1, hf⟩ := c1_e hf
  refine q_SX (w' := w) (rest := []) X hml hh hX hbl hbA (some (.int v2)) (m_L_cell l B D hN hc1) cf_L_cell k_436 rfl hl.1 rfl (Nat.le_of_ble_eq_true rfl) ⟨Nat.le_of_ble_eq_true rfl, Nat.le_of_ble_eq_true rfl⟩ ⟨Nat.zero_le _, Nat.zero_le _⟩ dL_some_2 rfl (fun H locs hh => ?_)
  refine lv_iconst (v := (3 : Int32)) hx hb dL_some_5 (by decide) ?_
  refine lv_iushr hx hb dL_some_6 rfl ?_
  refine lv_iload_n hx hb dL_some_7 rfl (lv_at hl 2 rfl) ?_
  have hz := nz_e hf
  have hf := hz.2
  refine lv_irem hx hb dL_some_8 hz.1 ?_
  exact e_i X hr hlk hh ⟨so_e hf, rfl⟩ dL_some_9
set_option maxHeartbeats 4000000 in
set_option maxRecDepth 100000 in
theorem m_L_setUp (l : Launch) (B : Nat) (D : DD) {n : Nat} (hN : 139 ≤ n) {b L : Nat} {xs : Nat → Int32} {a0 : Nat} {a2 : Int32} {w : Wd} {w' : Wd} (ha0 : a0 < n ∧ kd a0 = 7) (hf : f_L_setUp L xs a0 a2 w = some w') : CtX l yL_setUp cL_setUp 7 none 4 87 0 0 B D b L xs [.ref (B + a0), .ref b, .int a2] n w none n w' := by
  refine mX_of (by decide) (Nat.le_of_ble_eq_true rfl) (fun p e s m args below meth c X hml hr hlk hX hbl hbA H locs hh ls hl => ?_)
  have hx := X.1
  have hb := X.2.1
  have hl : lv_has ls 7 [(0, .ref (B + a0)), (1, .ref b), (2, .int a2)] := hl
  unfold f_L_setUp at hf
  refine lv_iconst (v := (1 : Int32)) hx hb dL_setUp_0 (by decide) ?_
  refine lv_aload_n hx hb dL_setUp_1 rfl (lv_at hl 1 rfl) ?_
  refine lv_iload_n hx hb dL_setUp_2 rfl (lv_at hl 2 rfl) ?_
  refine lv_iconst (v := (5 : Int32)) hx hb dL_setUp_3 (by decide) ?_
  obtain ⟨v2, hc1, hf⟩ := c1_e hf
  refine q_SX (w' := w) (rest := [.int (1 : Int32)]) X hml hh hX hbl hbA (some (.int v2)) (m_L_some l B D hN hc1) cf_L_some k_433 rfl hl.1 rfl (Nat.le_of_ble_eq_true rfl) ⟨Nat.le_of_ble_eq_true rfl, Nat.le_of_ble_eq_true rfl⟩ ⟨Nat.zero_le _, Nat.zero_le _⟩ dL_setUp_4 rfl (fun H locs hh => ?_)
  refine lv_iadd hx hb dL_setUp_7 ?_
  refine lv_topi (fun x3 e4 => ?_)
  have hf := lt_e e4 hf
  refine lv_istore_n (lv' := [(3, .int x3), (0, .ref (B + a0)), (1, .ref b), (2, .int a2)]) hx hb dL_setUp_8 rfl hl (by decide) rfl (fun ls hl => ?_)
  refine lv_iconst (v := (1 : Int32)) hx hb dL_setUp_9 (by decide) ?_
  refine lv_aload_n hx hb dL_setUp_10 rfl (lv_at hl 2 rfl) ?_
  refine lv_iload_n hx hb dL_setUp_11 rfl (lv_at hl 3 rfl) ?_
  refine lv_iconst (v := (1 : Int32)) hx hb dL_setUp_12 (by decide) ?_
  refine lv_iadd hx hb dL_setUp_13 ?_
  refine lv_iconst (v := (5 : Int32)) hx hb dL_setUp_14 (by decide) ?_
  obtain ⟨v6, hc5, hf⟩ := c1_e hf
  refine q_SX (w' := w) (rest := [.int (1 : Int32)]) X hml hh hX hbl hbA (some (.int v6)) (m_L_some l B D hN hc5) cf_L_some k_433 rfl hl.1 rfl (Nat.le_of_ble_eq_true rfl) ⟨Nat.le_of_ble_eq_true rfl, Nat.le_of_ble_eq_true rfl⟩ ⟨Nat.zero_le _, Nat.zero_le _⟩ dL_setUp_15 rfl (fun H locs hh => ?_)
  refine lv_iadd hx hb dL_setUp_18 ?_
  refine lv_topi (fun x7 e8 => ?_)
  have hf := lt_e e8 hf
  refine lv_istore (lv' := [(4, .int x7), (3, .int x3), (0, .ref (B + a0)), (1, .ref b), (2, .int a2)]) hx hb dL_setUp_19 hl (by decide) rfl (fun ls hl => ?_)
  refine lv_aload_n hx hb dL_setUp_21 rfl (lv_at hl 2 rfl) ?_
  refine lv_iload_n hx hb dL_setUp_22 rfl (lv_at hl 1 rfl) ?_
  refine lv_iload hx hb dL_setUp_23 (lv_at hl 0 rfl) ?_
  obtain ⟨v10, w11, hc9, hf⟩ := c2_e hf
  refine q_V (w' := w11) (rest := []) X hml hh (some (.int v10)) (m_X7_grid l B D hN ha0 hc9) cf_X7_grid k_439 ha0 ci_7 rfl rfl hl.1 rfl (Nat.le_of_ble_eq_true rfl) ⟨Nat.le_of_ble_eq_true rfl, Nat.le_of_ble_eq_true rfl⟩ ⟨Nat.zero_le _, Nat.zero_le _⟩ dL_setUp_25 rfl (fun H locs hh => ?_)
  refine lv_pop hx hb dL_setUp_28 rfl ?_
  refine lv_iconst (v := (1 : Int32)) hx hb dL_setUp_29 (by decide) ?_
  refine lv_istore (lv' := [(5, .int (1 : Int32)), (4, .int x7), (3, .int x3), (0, .ref (B + a0)), (1, .ref b), (2, .int a2)]) hx hb dL_setUp_30 hl (by decide) rfl (fun ls hl => ?_)
  refine wl2_W (P := fun (x12 : Int32) (w13 : Wd) => ∀ (H : Heap) (locs : List Loc) (ls : Array Slot), Hp B D n w13 s H locs → lv_has ls 7 [(0, .ref (B + a0)), (1, .ref b), (2, .int a2), (3, .int x3), (4, .int x7), (5, .int x12)] → W p l e (rmk 4 87 0 0) s m args below meth c H locs 0 0 (MZ below B D n w' none args s 0 0) (F0 m 32 ls [])) hf (fun x12 w13 k14 ih15 hf  H locs ls hh hl => ?_)  _ _ _ hh (lv_sub hl [3, 4, 5, 2, 1, 0] rfl)
  refine lv_iload hx hb dL_setUp_32 (lv_at hl 5 rfl) ?_
  refine lv_iload_n hx hb dL_setUp_34 rfl (lv_at hl 3 rfl) ?_
  refine lv_icmp_gt (tgt := 103) hx hb dL_setUp_35 (by decide) (fun hc16 => ?_) (fun hc16 => ?_)
  · have hf := if_t hc16 hf
    refine lv_aload_n hx hb dL_setUp_103 rfl (lv_at hl 0 rfl) ?_
    refine lv_aload_n hx hb dL_setUp_104 rfl (lv_at hl 1 rfl) ?_
    refine lv_iload_n hx hb dL_setUp_105 rfl (lv_at hl 2 rfl) ?_
    refine lv_iconst (v := (2 : Int32)) hx hb dL_setUp_106 (by decide) ?_
    refine lv_iadd hx hb dL_setUp_107 ?_
    refine lv_iconst (v := (4 : Int32)) hx hb dL_setUp_108 (by decide) ?_
    obtain ⟨v18, hc17, hf⟩ := c1_e hf
    refine q_SX (w' := w13) (rest := [.ref (B + a0)]) X hml hh hX hbl hbA (some (.int v18)) (m_L_some l B D hN hc17) cf_L_some k_433 rfl hl.1 rfl (Nat.le_of_ble_eq_true rfl) ⟨Nat.le_of_ble_eq_true rfl, Nat.le_of_ble_eq_true rfl⟩ ⟨Nat.zero_le _, Nat.zero_le _⟩ dL_setUp_109 rfl (fun H locs hh => ?_)
    obtain ⟨v20, w21, hc19, hf⟩ := c2_e hf
    refine q_V (w' := w21) (rest := []) X hml hh (some (.int v20)) (m_X7_rule l B D hN ha0 hc19) cf_X7_rule k_210 ha0 ci_7 rfl rfl hl.1 rfl (Nat.le_of_ble_eq_true rfl) ⟨Nat.le_of_ble_eq_true rfl, Nat.le_of_ble_eq_true rfl⟩ ⟨Nat.zero_le _, Nat.zero_le _⟩ dL_setUp_112 rfl (fun H locs hh => ?_)
    refine lv_pop hx hb dL_setUp_115 rfl ?_
    exact e_v X hr hlk hh ⟨rfl, so_e hf⟩ dL_setUp_116
  · have hf := if_f hc16 hf
    refine lv_iconst (v := (1 : Int32)) hx hb dL_setUp_38 (by decide) ?_
    refine lv_istore (lv' := [(6, .int (1 : Int32)), (0, .ref (B + a0)), (1, .ref b), (2, .int a2), (3, .int x3), (4, .int x7), (5, .int x12)]) hx hb dL_setUp_39 hl (by decide) rfl (fun ls hl => ?_)
    refine wl2_W (P := fun (x22 : Int32) (w23 : Wd) => ∀ (H : Heap) (locs : List Loc) (ls : Array Slot), Hp B D n w23 s H locs → lv_has ls 7 [(0, .ref (B + a0)), (1, .ref b), (2, .int a2), (3, .int x3), (4, .int x7), (5, .int x12), (6, .int x22)] → W p l e (rmk 4 87 0 0) s m args below meth c H locs 0 0 (MZ below B D n w' none args s 0 0) (F0 m 41 ls [])) hf (fun x22 w23 k24 ih25 hf  H locs ls hh hl => ?_)  _ _ _ hh (lv_sub hl [1, 2, 3, 4, 5, 6, 0] rfl)
    refine lv_iload hx hb dL_setUp_41 (lv_at hl 6 rfl) ?_
    refine lv_iload hx hb dL_setUp_43 (lv_at hl 4 rfl) ?_
    refine lv_icmp_gt (tgt := 97) hx hb dL_setUp_45 (by decide) (fun hc26 => ?_) (fun hc26 => ?_)
    · have hf := if_t hc26 hf
      obtain ⟨x27, e28⟩ : ∃ y : Int32, y = (x12 + (1 : Int32)) := ⟨_, rfl⟩
      have hf := lt_e e28 hf
      refine lv_iinc (v := x27) (lv' := [(5, .int x27), (0, .ref (B + a0)), (1, .ref b), (2, .int a2), (3, .int x3), (4, .int x7), (6, .int x22)]) hx hb dL_setUp_97 hl (k := 5) rfl (by rw [e28]; rfl) (by decide) rfl (fun ls hl => ?_)
      refine lv_goto (tgt := 32) hx hb dL_setUp_100 (by decide) ?_
      exact ih15 _ _ hf  _ _ _ hh (lv_sub hl [1, 2, 3, 4, 5, 0] rfl)
    · have hf := if_f hc26 hf
      refine lv_aload_n hx hb dL_setUp_48 rfl (lv_at hl 1 rfl) ?_
      refine lv_iload_n hx hb dL_setUp_49 rfl (lv_at hl 2 rfl) ?_
      refine lv_iconst (v := (5 : Int32)) hx hb dL_setUp_50 (by decide) ?_
      refine lv_iload hx hb dL_setUp_51 (lv_at hl 5 rfl) ?_
      refine lv_imul hx hb dL_setUp_53 ?_
      refine lv_iadd hx hb dL_setUp_54 ?_
      refine lv_iload hx hb dL_setUp_55 (lv_at hl 6 rfl) ?_
      refine lv_iadd hx hb dL_setUp_57 ?_
      refine lv_iconst (v := (3 : Int32)) hx hb dL_setUp_58 (by decide) ?_
      obtain ⟨v30, hc29, hf⟩ := c1_e hf
      refine q_SX (w' := w23) (rest := []) X hml hh hX hbl hbA (some (.int v30)) (m_L_some l B D hN hc29) cf_L_some k_433 rfl hl.1 rfl (Nat.le_of_ble_eq_true rfl) ⟨Nat.le_of_ble_eq_true rfl, Nat.le_of_ble_eq_true rfl⟩ ⟨Nat.zero_le _, Nat.zero_le _⟩ dL_setUp_59 rfl (fun H locs hh => ?_)
      refine jn_W (P := fun j33 => ∀ (w32 : Wd), j33 w32 = some w' → ∀ (H : Heap) (locs : List Loc) (ls : Array Slot), Hp B D n w32 s H locs → lv_has ls 7 [(0, .ref (B + a0)), (1, .ref b), (2, .int a2), (3, .int x3), (4, .int x7), (5, .int x12), (6, .int x22)] → W p l e (rmk 4 87 0 0) s m args below meth c H locs 0 0 (MZ below B D n w' none args s 0 0) (F0 m 91 ls [])) hf (fun w32 hf  H locs ls hh hl => ?_) (fun j33 hj33 hf => ?_)
      · obtain ⟨x34, e35⟩ : ∃ y : Int32, y = (x22 + (1 : Int32)) := ⟨_, rfl⟩
        have hf := lt_e e35 hf
        refine lv_iinc (v := x34) (lv' := [(6, .int x34), (0, .ref (B + a0)), (1, .ref b), (2, .int a2), (3, .int x3), (4, .int x7), (5, .int x12)]) hx hb dL_setUp_91 hl (k := 6) rfl (by rw [e35]; rfl) (by decide) rfl (fun ls hl => ?_)
        refine lv_goto (tgt := 41) hx hb dL_setUp_94 (by decide) ?_
        exact ih25 _ _ hf  _ _ _ hh (lv_sub hl [1, 2, 3, 4, 5, 6, 0] rfl)
      · refine lv_if_ne (tgt := 91) hx hb dL_setUp_62 (by decide) (fun hc31 => ?_) (fun hc31 => ?_)
        · have hf := if_f hc31 hf
          exact hj33 _ hf  _ _ _ hh (lv_sub hl [0, 1, 2, 3, 4, 5, 6] rfl)
        · have hf := if_t hc31 hf
          refine lv_aload_n hx hb dL_setUp_65 rfl (lv_at hl 0 rfl) ?_
          refine lv_iload hx hb dL_setUp_66 (lv_at hl 5 rfl) ?_
          refine lv_iload hx hb dL_setUp_68 (lv_at hl 6 rfl) ?_
          refine lv_aload_n hx hb dL_setUp_70 rfl (lv_at hl 1 rfl) ?_
          refine lv_iload_n hx hb dL_setUp_71 rfl (lv_at hl 2 rfl) ?_
          refine lv_bipush (v := (30 : Int32)) hx hb dL_setUp_72 (by decide) ?_
          refine lv_iadd hx hb dL_setUp_74 ?_
          refine lv_iconst (v := (5 : Int32)) hx hb dL_setUp_75 (by decide) ?_
          refine lv_iload hx hb dL_setUp_76 (lv_at hl 5 rfl) ?_
          refine lv_imul hx hb dL_setUp_78 ?_
          refine lv_iadd hx hb dL_setUp_79 ?_
          refine lv_iload hx hb dL_setUp_80 (lv_at hl 6 rfl) ?_
          refine lv_iadd hx hb dL_setUp_82 ?_
          refine lv_iconst (v := (4 : Int32)) hx hb dL_setUp_83 (by decide) ?_
          obtain ⟨v37, hc36, hf⟩ := c1_e hf
          refine q_SX (w' := w23) (rest := [.int x22, .int x12, .ref (B + a0)]) X hml hh hX hbl hbA (some (.int v37)) (m_L_some l B D hN hc36) cf_L_some k_433 rfl hl.1 rfl (Nat.le_of_ble_eq_true rfl) ⟨Nat.le_of_ble_eq_true rfl, Nat.le_of_ble_eq_true rfl⟩ ⟨Nat.zero_le _, Nat.zero_le _⟩ dL_setUp_84 rfl (fun H locs hh => ?_)
          obtain ⟨v39, w40, hc38, hf⟩ := c2_e hf
          refine q_V (w' := w40) (rest := []) X hml hh (some (.int v39)) (m_X7_put l B D hN ha0 hc38) cf_X7_put k_450 ha0 ci_7 rfl rfl hl.1 rfl (Nat.le_of_ble_eq_true rfl) ⟨Nat.le_of_ble_eq_true rfl, Nat.le_of_ble_eq_true rfl⟩ ⟨Nat.zero_le _, Nat.zero_le _⟩ dL_setUp_87 rfl (fun H locs hh => ?_)
          refine lv_pop hx hb dL_setUp_90 rfl ?_
          exact hj33 _ hf  _ _ _ hh (lv_sub hl [0, 1, 2, 3, 4, 5, 6] rfl)

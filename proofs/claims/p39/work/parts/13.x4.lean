set_option maxHeartbeats 4000000 in
set_option maxRecDepth 100000 in
theorem m_X4_bestRow (l : Launch) (B : Nat) (D : DD) {n : Nat} (hN : 139 ≤ n) {t : Nat} {a0 : Nat} {a1 : Int32} {a2 : Int32} {w : Wd} {r : Int32} {w' : Wd} (ht : t < n ∧ kd t = 4) (ha0 : a0 < n ∧ kd a0 = 0) (hf : f_X4_bestRow t a0 a1 a2 w = some (r, w')) : Ct l yX4_bestRow cX4_bestRow 11 (some .int) 2 44 0 0 B D [.ref (B + t), .ref (B + a0), .int a1, .int a2] n w (some (.int r)) n w' := by
  refine m_of (by decide) (Nat.le_of_ble_eq_true rfl) (fun p e s m args below meth c X hml hr hlk _ H locs hh ls hl => ?_)
  have hx := X.1
  have hb := X.2.1
  have hl : lv_has ls 11 [(0, .ref (B + t)), (1, .ref (B + a0)), (2, .int a1), (3, .int a2)] := hl
  unfold f_X4_bestRow at hf
  refine lv_iload_n hx hb dX4_bestRow_0 rfl (lv_at hl 2 rfl) ?_
  refine lv_iconst (v := (1 : Int32)) hx hb dX4_bestRow_1 (by decide) ?_
  refine mg_W (P := fun (x3 : Int32) => ∀ (ls : Array Slot), lv_has ls 11 [(0, .ref (B + t)), (1, .ref (B + a0)), (2, .int a1), (3, .int a2)] → W p l e (rmk 2 44 0 0) s m args below meth c H locs 0 0 (MZ below B D n w' (some (.int r)) args s 0 0) (F0 m 15 ls [.int x3])) hf (fun x3 hf ls hl => ?_) (fun hj69 => ?_)
  · refine lv_istore (lv' := [(4, .int x3), (0, .ref (B + t)), (1, .ref (B + a0)), (2, .int a1), (3, .int a2)]) hx hb dX4_bestRow_15 hl (by decide) rfl (fun ls hl => ?_)
    refine lv_iload_n hx hb dX4_bestRow_17 rfl (lv_at hl 3 rfl) ?_
    refine lv_iconst (v := (2 : Int32)) hx hb dX4_bestRow_18 (by decide) ?_
    refine mg_W (P := fun (x5 : Int32) => ∀ (ls : Array Slot), lv_has ls 11 [(0, .ref (B + t)), (1, .ref (B + a0)), (3, .int a2), (4, .int x3)] → W p l e (rmk 2 44 0 0) s m args below meth c H locs 0 0 (MZ below B D n w' (some (.int r)) args s 0 0) (F0 m 27 ls [.int x5])) hf (fun x5 hf ls hl => ?_) (fun hj68 => ?_)
    · refine lv_istore (lv' := [(5, .int x5), (0, .ref (B + t)), (1, .ref (B + a0)), (3, .int a2), (4, .int x3)]) hx hb dX4_bestRow_27 hl (by decide) rfl (fun ls hl => ?_)
      refine lv_iconst (v := (1 : Int32)) hx hb dX4_bestRow_29 (by decide) ?_
      refine lv_istore (lv' := [(6, .int (1 : Int32)), (5, .int x5), (0, .ref (B + t)), (1, .ref (B + a0)), (3, .int a2), (4, .int x3)]) hx hb dX4_bestRow_30 hl (by decide) rfl (fun ls hl => ?_)
      refine wl2_W (P := fun (x6 : Int32) (w7 : Wd) => ∀ (H : Heap) (locs : List Loc) (ls : Array Slot), Hp B D n w7 s H locs → lv_has ls 11 [(0, .ref (B + t)), (1, .ref (B + a0)), (3, .int a2), (4, .int x3), (5, .int x5), (6, .int x6)] → W p l e (rmk 2 44 0 0) s m args below meth c H locs 0 0 (MZ below B D n w' (some (.int r)) args s 0 0) (F0 m 32 ls [])) hf (fun x6 w7 k8 ih9 hf  H locs ls hh hl => ?_)  _ _ _ hh (lv_sub hl [2, 3, 4, 5, 1, 0] rfl)
      refine lv_iload hx hb dX4_bestRow_32 (lv_at hl 5 rfl) ?_
      refine lv_aload_n hx hb dX4_bestRow_34 rfl (lv_at hl 1 rfl) ?_
      refine r_gi X hh ha0 fk_X4_16 dX4_bestRow_35 ?_
      refine lv_icmp_gt (tgt := 183) hx hb dX4_bestRow_38 (by decide) (fun hc10 => ?_) (fun hc10 => ?_)
      · have hf := if_t hc10 hf
        refine lv_aload_n hx hb dX4_bestRow_183 rfl (lv_at hl 0 rfl) ?_
        refine q_gr (P := 13) X hh ht fk_X4_11 dX4_bestRow_184 hN hf (fun t11 h12 hf => ?_)
        refine lv_aload_n hx hb dX4_bestRow_187 rfl (lv_at hl 1 rfl) ?_
        refine r_gi X hh ha0 fk_X4_16 dX4_bestRow_188 ?_
        refine q_aald (P := 9) X hh h12 ⟨by decide, by decide⟩ dX4_bestRow_191 hN hf (fun t14 h15 hf => ?_)
        refine lv_aload_n hx hb dX4_bestRow_192 rfl (lv_at hl 1 rfl) ?_
        refine r_gi X hh ha0 fk_X4_22 dX4_bestRow_193 ?_
        refine q_ald X hh h15 dX4_bestRow_196 hf (fun hf => ?_)
        exact e_i X hr hlk hh (so2_e hf) dX4_bestRow_197
      · have hf := if_f hc10 hf
        refine lv_iconst (v := (1 : Int32)) hx hb dX4_bestRow_41 (by decide) ?_
        refine lv_istore (lv' := [(7, .int (1 : Int32)), (0, .ref (B + t)), (1, .ref (B + a0)), (3, .int a2), (4, .int x3), (5, .int x5), (6, .int x6)]) hx hb dX4_bestRow_42 hl (by decide) rfl (fun ls hl => ?_)
        refine wl2_W (P := fun (x17 : Int32) (w18 : Wd) => ∀ (H : Heap) (locs : List Loc) (ls : Array Slot), Hp B D n w18 s H locs → lv_has ls 11 [(0, .ref (B + t)), (1, .ref (B + a0)), (3, .int a2), (4, .int x3), (5, .int x5), (6, .int x6), (7, .int x17)] → W p l e (rmk 2 44 0 0) s m args below meth c H locs 0 0 (MZ below B D n w' (some (.int r)) args s 0 0) (F0 m 44 ls [])) hf (fun x17 w18 k19 ih20 hf  H locs ls hh hl => ?_)  _ _ _ hh (lv_sub hl [1, 2, 3, 4, 5, 6, 0] rfl)
        refine lv_iload hx hb dX4_bestRow_44 (lv_at hl 6 rfl) ?_
        refine lv_aload_n hx hb dX4_bestRow_46 rfl (lv_at hl 1 rfl) ?_
        refine r_gi X hh ha0 fk_X4_22 dX4_bestRow_47 ?_
        refine lv_icmp_gt (tgt := 177) hx hb dX4_bestRow_50 (by decide) (fun hc21 => ?_) (fun hc21 => ?_)
        · have hf := if_t hc21 hf
          obtain ⟨x22, e23⟩ : ∃ y : Int32, y = (x6 + (1 : Int32)) := ⟨_, rfl⟩
          have hf := lt_e e23 hf
          refine lv_iinc (v := x22) (lv' := [(6, .int x22), (0, .ref (B + t)), (1, .ref (B + a0)), (3, .int a2), (4, .int x3), (5, .int x5), (7, .int x17)]) hx hb dX4_bestRow_177 hl (k := 5) rfl (by rw [e23]; rfl) (by decide) rfl (fun ls hl => ?_)
          refine lv_goto (tgt := 32) hx hb dX4_bestRow_180 (by decide) ?_
          exact ih9 _ _ hf  _ _ _ hh (lv_sub hl [1, 2, 3, 4, 5, 0] rfl)
        · have hf := if_f hc21 hf
          refine lv_aload_n hx hb dX4_bestRow_53 rfl (lv_at hl 1 rfl) ?_
          refine lv_iload hx hb dX4_bestRow_54 (lv_at hl 5 rfl) ?_
          refine lv_iload hx hb dX4_bestRow_56 (lv_at hl 4 rfl) ?_
          refine mg_W (P := fun (x25 : Int32) => ∀ (ls : Array Slot), lv_has ls 11 [(0, .ref (B + t)), (1, .ref (B + a0)), (3, .int a2), (4, .int x3), (5, .int x5), (6, .int x6), (7, .int x17)] → W p l e (rmk 2 44 0 0) s m args below meth c H locs 0 0 (MZ below B D n w' (some (.int r)) args s 0 0) (F0 m 75 ls [.int x25, .int x6, .ref (B + a0)])) hf (fun x25 hf ls hl => ?_) (fun hj67 => ?_)
          · obtain ⟨v27, hc26, hf⟩ := c1_e hf
            refine q_V (w' := w18) (rest := []) X hml hh (some (.int v27)) (m_X0_numberAt l B D hN ha0 hc26) cf_X0_numberAt k_383 ha0 ci_0 rfl rfl hl.1 rfl (Nat.le_of_ble_eq_true rfl) ⟨Nat.le_of_ble_eq_true rfl, Nat.le_of_ble_eq_true rfl⟩ ⟨Nat.zero_le _, Nat.zero_le _⟩ dX4_bestRow_75 rfl (fun H locs hh => ?_)
            refine lv_istore (lv' := [(8, .int v27), (0, .ref (B + t)), (1, .ref (B + a0)), (3, .int a2), (4, .int x3), (5, .int x5), (6, .int x6), (7, .int x17)]) hx hb dX4_bestRow_78 hl (by decide) rfl (fun ls hl => ?_)
            refine lv_iload_n hx hb dX4_bestRow_80 rfl (lv_at hl 3 rfl) ?_
            refine mg_W (P := fun (x29 : Int32) => ∀ (ls : Array Slot), lv_has ls 11 [(0, .ref (B + t)), (1, .ref (B + a0)), (3, .int a2), (4, .int x3), (5, .int x5), (6, .int x6), (7, .int x17)] → W p l e (rmk 2 44 0 0) s m args below meth c H locs 0 0 (MZ below B D n w' (some (.int r)) args s 0 0) (F0 m 95 ls [.int x29])) hf (fun x29 hf ls hl => ?_) (fun hj66 => ?_)
            · refine lv_istore (lv' := [(9, .int x29), (0, .ref (B + t)), (1, .ref (B + a0)), (3, .int a2), (4, .int x3), (5, .int x5), (6, .int x6), (7, .int x17)]) hx hb dX4_bestRow_95 hl (by decide) rfl (fun ls hl => ?_)
              refine lv_aload_n hx hb dX4_bestRow_97 rfl (lv_at hl 1 rfl) ?_
              refine q_gr (P := 13) X hh ht fk_X4_11 dX4_bestRow_98 hN hf (fun t30 h31 hf => ?_)
              refine lv_iload hx hb dX4_bestRow_101 (lv_at hl 6 rfl) ?_
              refine lv_iconst (v := (1 : Int32)) hx hb dX4_bestRow_103 (by decide) ?_
              refine lv_isub hx hb dX4_bestRow_104 ?_
              refine q_aald (P := 9) X hh h31 ⟨by decide, by decide⟩ dX4_bestRow_105 hN hf (fun t33 h34 hf => ?_)
              refine lv_iload hx hb dX4_bestRow_106 (lv_at hl 7 rfl) ?_
              refine q_ald X hh h34 dX4_bestRow_108 hf (fun hf => ?_)
              refine lv_aload_n hx hb dX4_bestRow_109 rfl (lv_at hl 1 rfl) ?_
              refine q_gr (P := 13) X hh ht fk_X4_11 dX4_bestRow_110 hN hf (fun t36 h37 hf => ?_)
              refine lv_iload hx hb dX4_bestRow_113 (lv_at hl 6 rfl) ?_
              refine q_aald (P := 9) X hh h37 ⟨by decide, by decide⟩ dX4_bestRow_115 hN hf (fun t39 h40 hf => ?_)
              refine lv_iload hx hb dX4_bestRow_116 (lv_at hl 7 rfl) ?_
              refine lv_iconst (v := (1 : Int32)) hx hb dX4_bestRow_118 (by decide) ?_
              refine lv_isub hx hb dX4_bestRow_119 ?_
              refine q_ald X hh h40 dX4_bestRow_120 hf (fun hf => ?_)
              refine q_max X hml hl.1 k_385 (Nat.le_of_ble_eq_true rfl) ⟨Nat.le_of_ble_eq_true rfl, Nat.le_of_ble_eq_true rfl⟩ ⟨Nat.zero_le _, Nat.zero_le _⟩ dX4_bestRow_121 ?_
              refine lv_topi (fun x42 e43 => ?_)
              have hf := lt_e e43 hf
              refine lv_istore (lv' := [(10, .int x42), (9, .int x29), (0, .ref (B + t)), (1, .ref (B + a0)), (3, .int a2), (4, .int x3), (5, .int x5), (6, .int x6), (7, .int x17)]) hx hb dX4_bestRow_124 hl (by decide) rfl (fun ls hl => ?_)
              refine lv_aload_n hx hb dX4_bestRow_126 rfl (lv_at hl 2 rfl) ?_
              refine q_gr (P := 13) X hh ht fk_X4_11 dX4_bestRow_127 hN hf (fun t44 h45 hf => ?_)
              refine lv_iload hx hb dX4_bestRow_130 (lv_at hl 7 rfl) ?_
              refine q_aald (P := 9) X hh h45 ⟨by decide, by decide⟩ dX4_bestRow_132 hN hf (fun t47 h48 hf => ?_)
              refine lv_iload hx hb dX4_bestRow_133 (lv_at hl 8 rfl) ?_
              refine lv_iload hx hb dX4_bestRow_135 (lv_at hl 5 rfl) ?_
              refine jn_W (P := fun j51 => ∀ (x50 : Int32), j51 x50 = some (r, w') → ∀ (H : Heap) (locs : List Loc) (ls : Array Slot), Hp B D n w18 s H locs → lv_has ls 11 [(0, .ref (B + t)), (1, .ref (B + a0)), (3, .int a2), (4, .int x3), (5, .int x5), (6, .int x6), (7, .int x17)] → W p l e (rmk 2 44 0 0) s m args below meth c H locs 0 0 (MZ below B D n w' (some (.int r)) args s 0 0) (F0 m 170 ls [.int x50, .int x17, .ref (B + t47)])) hf (fun x50 hf  H locs ls hh hl => ?_) (fun j51 hj51 hf => ?_)
              · refine q_ast X hh h48 dX4_bestRow_170 hf (fun w53 H locs hf hh => ?_)
                obtain ⟨x54, e55⟩ : ∃ y : Int32, y = (x17 + (1 : Int32)) := ⟨_, rfl⟩
                have hf := lt_e e55 hf
                refine lv_iinc (v := x54) (lv' := [(7, .int x54), (0, .ref (B + t)), (1, .ref (B + a0)), (3, .int a2), (4, .int x3), (5, .int x5), (6, .int x6)]) hx hb dX4_bestRow_171 hl (k := 6) rfl (by rw [e55]; rfl) (by decide) rfl (fun ls hl => ?_)
                refine lv_goto (tgt := 44) hx hb dX4_bestRow_174 (by decide) ?_
                exact ih20 _ _ hf  _ _ _ hh (lv_sub hl [1, 2, 3, 4, 5, 6, 0] rfl)
              · refine lv_if_eq (tgt := 165) hx hb dX4_bestRow_137 (by decide) (fun hc49 => ?_) (fun hc49 => ?_)
                · have hf := if_t hc49 hf
                  refine lv_iload hx hb dX4_bestRow_165 (lv_at hl 0 rfl) ?_
                  refine lv_iload hx hb dX4_bestRow_167 (lv_at hl 1 rfl) ?_
                  refine lv_iadd hx hb dX4_bestRow_169 ?_
                  refine lv_topi (fun x56 e57 => ?_)
                  have hf := lt_e e57 hf
                  exact hj51 _ hf  _ _ _ hh (lv_sub hl [2, 3, 4, 5, 6, 7, 8] rfl)
                · have hf := if_f hc49 hf
                  refine lv_iload hx hb dX4_bestRow_140 (lv_at hl 0 rfl) ?_
                  refine lv_aload_n hx hb dX4_bestRow_142 rfl (lv_at hl 2 rfl) ?_
                  refine q_gr (P := 13) X hh ht fk_X4_11 dX4_bestRow_143 hN hf (fun t58 h59 hf => ?_)
                  refine lv_iload hx hb dX4_bestRow_146 (lv_at hl 7 rfl) ?_
                  refine lv_iconst (v := (1 : Int32)) hx hb dX4_bestRow_148 (by decide) ?_
                  refine lv_isub hx hb dX4_bestRow_149 ?_
                  refine q_aald (P := 9) X hh h59 ⟨by decide, by decide⟩ dX4_bestRow_150 hN hf (fun t61 h62 hf => ?_)
                  refine lv_iload hx hb dX4_bestRow_151 (lv_at hl 8 rfl) ?_
                  refine lv_iconst (v := (1 : Int32)) hx hb dX4_bestRow_153 (by decide) ?_
                  refine lv_isub hx hb dX4_bestRow_154 ?_
                  refine q_ald X hh h62 dX4_bestRow_155 hf (fun hf => ?_)
                  refine lv_iload hx hb dX4_bestRow_156 (lv_at hl 1 rfl) ?_
                  refine lv_iadd hx hb dX4_bestRow_158 ?_
                  refine q_max X hml hl.1 k_385 (Nat.le_of_ble_eq_true rfl) ⟨Nat.le_of_ble_eq_true rfl, Nat.le_of_ble_eq_true rfl⟩ ⟨Nat.zero_le _, Nat.zero_le _⟩ dX4_bestRow_159 ?_
                  refine lv_topi (fun x64 e65 => ?_)
                  have hf := lt_e e65 hf
                  refine lv_goto (tgt := 170) hx hb dX4_bestRow_162 (by decide) ?_
                  exact hj51 _ hf  _ _ _ hh (lv_sub hl [2, 3, 4, 5, 6, 7, 8] rfl)
            · refine lv_if_eq (tgt := 93) hx hb dX4_bestRow_81 (by decide) (fun hc28 => ?_) (fun hc28 => ?_)
              · refine lv_iload hx hb dX4_bestRow_93 (lv_at hl 0 rfl) ?_
                exact hj66 _ (by rw [if_pos hc28]) ls (lv_sub hl [1, 2, 3, 4, 5, 6, 7] rfl)
              · refine lv_iload hx hb dX4_bestRow_84 (lv_at hl 0 rfl) ?_
                refine lv_iconst (v := (1 : Int32)) hx hb dX4_bestRow_86 (by decide) ?_
                refine q_min X hml hl.1 k_384 (Nat.le_of_ble_eq_true rfl) ⟨Nat.le_of_ble_eq_true rfl, Nat.le_of_ble_eq_true rfl⟩ ⟨Nat.zero_le _, Nat.zero_le _⟩ dX4_bestRow_87 ?_
                refine lv_goto (tgt := 95) hx hb dX4_bestRow_90 (by decide) ?_
                exact hj66 _ (by rw [if_neg hc28]) ls (lv_sub hl [1, 2, 3, 4, 5, 6, 7] rfl)
          · refine lv_if_eq (tgt := 73) hx hb dX4_bestRow_58 (by decide) (fun hc24 => ?_) (fun hc24 => ?_)
            · refine lv_iload hx hb dX4_bestRow_73 (lv_at hl 6 rfl) ?_
              exact hj67 _ (by rw [if_pos hc24]) ls (lv_sub hl [0, 1, 2, 3, 4, 5, 6] rfl)
            · refine lv_aload_n hx hb dX4_bestRow_61 rfl (lv_at hl 1 rfl) ?_
              refine r_gi X hh ha0 fk_X4_22 dX4_bestRow_62 ?_
              refine lv_iconst (v := (1 : Int32)) hx hb dX4_bestRow_65 (by decide) ?_
              refine lv_iadd hx hb dX4_bestRow_66 ?_
              refine lv_iload hx hb dX4_bestRow_67 (lv_at hl 6 rfl) ?_
              refine lv_isub hx hb dX4_bestRow_69 ?_
              refine lv_goto (tgt := 75) hx hb dX4_bestRow_70 (by decide) ?_
              exact hj67 _ (by rw [if_neg hc24]) ls (lv_sub hl [0, 1, 2, 3, 4, 5, 6] rfl)
    · refine lv_icmp_lt (tgt := 26) hx hb dX4_bestRow_19 (by decide) (fun hc4 => ?_) (fun hc4 => ?_)
      · refine lv_iconst (v := (0 : Int32)) hx hb dX4_bestRow_26 (by decide) ?_
        exact hj68 _ (by rw [if_pos hc4]) ls (lv_sub hl [1, 2, 4, 0] rfl)
      · refine lv_iconst (v := (1 : Int32)) hx hb dX4_bestRow_22 (by decide) ?_
        refine lv_goto (tgt := 27) hx hb dX4_bestRow_23 (by decide) ?_
        exact hj68 _ (by rw [if_neg hc4]) ls (lv_sub hl [1, 2, 4, 0] rfl)
  · refine lv_icmp_eq (tgt := 10) hx hb dX4_bestRow_2 (by decide) (fun hc1 => ?_) (fun hc1 => ?_)
    · refine lv_iconst (v := (1 : Int32)) hx hb dX4_bestRow_10 (by decide) ?_
      refine lv_goto (tgt := 15) hx hb dX4_bestRow_11 (by decide) ?_
      exact hj69 _ (by rw [if_pos hc1]) ls (lv_sub hl [0, 1, 2, 3] rfl)
    · refine lv_iload_n hx hb dX4_bestRow_5 rfl (lv_at hl 2 rfl) ?_
      refine lv_iconst (v := (3 : Int32)) hx hb dX4_bestRow_6 (by decide) ?_
      refine lv_icmp_ne (tgt := 14) hx hb dX4_bestRow_7 (by decide) (fun hc2 => ?_) (fun hc2 => ?_)
      · refine lv_iconst (v := (0 : Int32)) hx hb dX4_bestRow_14 (by decide) ?_
        exact hj69 _ (by rw [if_neg hc1, if_neg hc2]) ls (lv_sub hl [0, 1, 2, 3] rfl)
      · refine lv_iconst (v := (1 : Int32)) hx hb dX4_bestRow_10 (by decide) ?_
        refine lv_goto (tgt := 15) hx hb dX4_bestRow_11 (by decide) ?_
        exact hj69 _ (by rw [if_neg hc1, if_pos hc2]) ls (lv_sub hl [0, 1, 2, 3] rfl)

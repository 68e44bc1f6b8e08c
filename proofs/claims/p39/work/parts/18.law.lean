def f_main (L : Nat) (xs : Nat → Int32) (w : Wd) : Option Int32 := c1 (f_X7_count 0 (0 : Int32) w) (fun v2 => (if v2 = (3 : Int32) then c1 (f_X7_count 0 (1 : Int32) w) (fun v5 => (if v5 = (3 : Int32) then c1 (f_X7_count 0 (2 : Int32) w) (fun v8 => (if v8 = 0 then c1 (f_X7_count 0 (3 : Int32) w) (fun v11 => (if v11 = 0 then c2 (f_X7_shape 0 (3 : Int32) (3 : Int32) (0 : Int32) w) (fun v14 w15 => (if v14 = 0 then c1 (f_X7_spelled 0 w15) (fun v18 => (if v18 = 0 then c2 (f_X7_fits 0 (3 : Int32) w15) (fun v21 w22 => (if v21 = (1 : Int32) then c2 (f_X7_standard 0 (3 : Int32) (3 : Int32) w22) (fun v25 w26 => (if (lg_cmp v25 (1 : Int64)) = 0 then c2 (f_X7_product 0 (0 : Int32) (0 : Int32) w26) (fun v29 w30 => (if v29 = (1 : Int32) then c2 (f_X7_undo 0 w30) (fun v33 w34 => (if v33 = (-5 : Int32) then c2 (f_X7_restore 0 w34) (fun v37 w38 => (if v37 = (-5 : Int32) then c1 (f_L_setUp L xs 0 (0 : Int32) w38) (fun w41 => c1 (f_X7_count 0 (0 : Int32) w41) (fun v43 => c1 (f_X7_count 0 (1 : Int32) w41) (fun v45 => wl3 (fun (x46 : Int32) (w47 : Wd) (n48 : Nat) k49 => (if (4 : Int32) ≤ x46 then some (1 : Int32) else c2 (f_X7_rule 0 x46 w47) (fun v53 w54 => mk n48 (0 + 143) 9 36 (lt2 (n48 + 1) (clr w54 n48) (fun n55 w56 => wl2 (fun (x59 : Int32) (w60 : Wd) k61 => (if v43 < x59 then wl2 (fun (x64 : Int32) (w65 : Wd) k66 => (if v43 < x64 then c2 (f_X7_shape 0 v43 v45 (1 : Int32) w65) (fun v70 w71 => wl4 (fun (x72 : Int32) (x73 : Int32) (x74 : Int32) (w75 : Wd) k76 => (if (77 : Int32) ≤ x74 then c2 (f_X7_shape 0 v43 v45 (0 : Int32) w75) (fun v80 w81 => (if x72 = v80 then (if x73 = x72 then c2 (f_X7_turned 0 v43 v45 (0 : Int32) w81) (fun v85 w86 => (if v85 = v70 then jn (fun (w89 : Wd) => jn (fun (w92 : Wd) => c2 (f_X7_fits 0 x46 w92) (fun v95 w96 => (if v95 = (1 : Int32) then wl2 (fun (x98 : Int32) (x99 : Int32) k100 => (if v43 < x99 then c2 (f_X7_back 0 x46 w96) (fun v104 w105 => (if v104 = x98 then c1 (f_X7_count 0 (2 : Int32) w105) (fun v108 => (if v108 = x46 then c2 (f_X7_undo 0 w105) (fun v111 w112 => (if 0 ≤ v111 then c2 (f_X7_again 0 w112) (fun v115 w116 => wl1 (fun (x117 : Int32) k118 => (if v43 < x117 then c2 (f_X7_shape 0 v43 v45 (0 : Int32) w116) (fun v122 w123 => (if v122 = x72 then c2 (f_X7_undo 0 w123) (fun v126 w127 => lt (x46 + (1 : Int32)) (fun x128 => k49 x128 w127 n55)) else some (0 : Int32))) else wl1 (fun (x130 : Int32) k131 => (if v45 < x130 then lt (x117 + (1 : Int32)) (fun x134 => k118 x134) else c1 (f_X7_cell 0 x117 x130 w116) (fun v137 => ix (((6 : Int32) * x117) + x130) (ln n48) (fun j138 => (if v137 = (w116.1 n48 j138) then lt (x130 + (1 : Int32)) (fun x140 => k131 x140) else some (0 : Int32)))))) fu (1 : Int32))) fu (1 : Int32)) else some (0 : Int32))) else some (0 : Int32))) else some (0 : Int32))) else wl2 (fun (x142 : Int32) (x143 : Int32) k144 => (if v45 < x143 then lt (x99 + (1 : Int32)) (fun x147 => k100 x142 x147) else c1 (f_X7_cell 0 x99 x143 w96) (fun v150 => ix (((6 : Int32) * x99) + x143) (ln n48) (fun j151 => lt (if v150 = (w96.1 n48 j151) then (0 : Int32) else (1 : Int32)) (fun x153 => lt (x142 + x153) (fun x154 => lt (x143 + (1 : Int32)) (fun x156 => k144 x154 x156))))))) fu x98 (1 : Int32))) fu (0 : Int32) (1 : Int32) else some (0 : Int32)))) (fun j93 => (if x46 = (3 : Int32) then c2 (f_X7_part 0 v43 v45 (0 : Int32) w89) (fun v160 w161 => c2 (f_X7_longest 0 (1 : Int32) (1 : Int32) w161) (fun v163 w164 => (if v160 = v163 then c2 (f_X7_longest 0 (2 : Int32) (0 : Int32) w164) (fun v167 w168 => (if v70 = v167 then j93 w168 else some (0 : Int32))) else some (0 : Int32)))) else j93 w89))) (fun j90 => (if x46 = 0 then c2 (f_X7_part 0 v43 v45 (0 : Int32) w86) (fun v171 w172 => c2 (f_X7_longest 0 (0 : Int32) (0 : Int32) w172) (fun v174 w175 => (if v171 = v174 then c2 (f_X7_longest 0 (3 : Int32) (1 : Int32) w175) (fun v178 w179 => (if v70 = v178 then j90 w179 else some (0 : Int32))) else some (0 : Int32)))) else j90 w86)) else some (0 : Int32))) else some (0 : Int32)) else some (0 : Int32))) else c2 (f_X7_part 0 v43 v45 x74 w75) (fun v182 w183 => lt (x72 + v182) (fun x184 => c2 (f_X7_turned 0 v43 v45 x74 w183) (fun v187 w188 => lt (x73 + v187) (fun x189 => c2 (f_X7_part 0 v43 v45 (x74 + (1 : Int32)) w188) (fun v192 w193 => c2 (f_X7_part 0 v43 v45 x74 w193) (fun v195 w196 => (if v195 < v192 then some (0 : Int32) else c2 (f_X7_turned 0 v43 v45 (x74 + (1 : Int32)) w196) (fun v199 w200 => c2 (f_X7_turned 0 v43 v45 x74 w200) (fun v202 w203 => (if v202 < v199 then some (0 : Int32) else c2 (f_X7_part 0 v43 v45 x74 w203) (fun v206 w207 => lt (if v206 ≤ 0 then (0 : Int32) else (1 : Int32)) (fun x209 => lt (if v70 ≤ x74 then (0 : Int32) else (1 : Int32)) (fun x211 => (if x209 = x211 then lt (x74 + (1 : Int32)) (fun x213 => k76 x184 x189 x213 w207) else some (0 : Int32))))))))))))))))) fu (0 : Int32) (0 : Int32) (0 : Int32) w71) else wl2 (fun (x217 : Int32) (w218 : Wd) k219 => (if v45 < x217 then lt (x64 + (1 : Int32)) (fun x222 => k66 x222 w218) else wl2 (fun (x224 : Int32) (x225 : Int32) k226 => (if x64 < x225 then c2 (f_X7_shape 0 x64 x217 (0 : Int32) w218) (fun v230 w231 => (if v230 = x224 then lt (x217 + (1 : Int32)) (fun x233 => k219 x233 w231) else some (0 : Int32))) else wl2 (fun (x235 : Int32) (x236 : Int32) k237 => (if x217 < x236 then lt (x225 + (1 : Int32)) (fun x240 => k226 x235 x240) else ix (((6 : Int32) * x225) + x236) (ln n48) (fun j242 => lt (x235 + (w218.1 n48 j242)) (fun x243 => lt (x236 + (1 : Int32)) (fun x245 => k237 x243 x245))))) fu x224 (1 : Int32))) fu (0 : Int32) (1 : Int32))) fu (0 : Int32) w65)) fu (0 : Int32) w60 else wl2 (fun (x247 : Int32) (w248 : Wd) k249 => (if v45 < x247 then lt (x59 + (1 : Int32)) (fun x252 => k61 x252 w248) else lt (((6 : Int32) * x59) + x247) (fun x254 => jn (fun (x257 : Int32) => ix x254 (ln n48) (fun j259 => lt (upI w248 n48 j259 x257) (fun w260 => lt (x247 + (1 : Int32)) (fun x261 => k249 x261 w260)))) (fun j258 => jn (c1 (f_X7_cell 0 x59 x247 w248) (fun v265 => lt (if v265 < (1 : Int32) then v265 else (1 : Int32)) (fun x266 => j258 x266))) (fun j263 => (if x46 = (1 : Int32) then j263 else (if x46 = (2 : Int32) then j263 else c1 (f_X7_cell 0 x59 x247 w248) (fun v270 => j258 v270)))))))) fu (1 : Int32) w60)) fu (1 : Int32) w56))))) fu (0 : Int32) w41 139))) else some (0 : Int32))) else some (0 : Int32))) else some (0 : Int32))) else some (0 : Int32))) else some (0 : Int32))) else some (0 : Int32))) else some (0 : Int32))) else some (0 : Int32))) else some (0 : Int32))) else some (0 : Int32))) else some (0 : Int32)))
def w00 : Wd := (fun _ _ => 0, fun _ _ => none)
def f_law (L : Nat) (xs : Nat → Int32) : Option Int32 := mk 0 (0 + 143) 7 0 (lt2 (0 + 1) (clr w00 0) (fun n1 w1 => c1 (f_X7_init 0 n1 w1) (fun w2 => if n1 + 138 ≤ 0 + 143 then lt2 (n1 + 138) w2 (fun n2 w3 => f_main L xs w3) else none)))
theorem z_room {n : Nat} (h : n ≤ 143) : n - 0 ≤ room_1.cells ∧ 2880 * (n - 0) ≤ room_1.slots := by
  show n - 0 ≤ 600000 ∧ 2880 * (n - 0) ≤ 7302249
  omega
set_option maxHeartbeats 8000000 in
set_option maxRecDepth 100000 in
theorem m_main (l : Launch) {p : Program} {e : Env} {s : State} {m : MethodId} {below : List Frame} {meth : Method} {c : Code} {b L : Nat} {xs : Nat → Int32} {B : Nat} {D : DD} (X : Cx p s m #[Value.ref b] c code "GrowthGridLaw" D) (hml : c.maxLocals = 12) (hr : meth.sig.returnType = ret) (hlk : meth.locks = false) (hX : va_X b L xs s s.heap) (hbl : b < s.heap.size) (hbA : ¬ (fun q : Nat => B ≤ q) b) (hBs : B = s.heap.size) {w : Wd} (hf : f_main L xs w = some (1 : Int32)) {H : Heap} {locs : List Loc} {ls : Array Slot} (hh : Hp B D 139 w s H locs) (hl : lv_has ls 12 [(0, .ref b)]) : W p l e room_1 s m #[Value.ref b] below meth c H locs (139 - 0) (2880 * (139 - 0)) (lw_Z below #[Value.ref b] s) (F0 m 7 ls [.ref (B + 0)]) := by
  have hx := X.1
  have hb := X.2.1
  have hg0 : 0 < 139 ∧ kd 0 = 7 := ⟨by decide, by decide⟩
  have hN : 139 ≤ 139 := Nat.le_refl _
  have hZ := z_room (n := 139) (by decide)
  have hRR : 0 + 143 ≤ 0 + room_1.cells ∧ 2880 * (0 + 143 - 0) ≤ room_1.slots := ⟨Nat.le_of_ble_eq_true rfl, Nat.le_of_ble_eq_true rfl⟩
  unfold f_main at hf
  refine lv_astore_n (lv' := [(1, .ref (B + 0)), (0, .ref b)]) hx hb dL_law_7 rfl hl (by decide) rfl (fun ls hl => ?_)
  refine lv_aload_n hx hb dL_law_8 rfl (lv_at hl 0 rfl) ?_
  refine lv_iconst (v := (0 : Int32)) hx hb dL_law_9 (by decide) ?_
  obtain ⟨v2, hc1, hf⟩ := c1_e hf
  refine q_V (w' := w) (rest := []) X hml hh (some (.int v2)) (m_X7_count l B D hN hg0 hc1) cf_X7_count k_422 hg0 ci_7 rfl rfl hl.1 rfl (Nat.le_of_ble_eq_true rfl) ⟨Nat.le_of_ble_eq_true rfl, Nat.le_of_ble_eq_true rfl⟩ hZ dL_law_10 rfl (fun H locs hh => ?_)
  refine lv_iconst (v := (3 : Int32)) hx hb dL_law_13 (by decide) ?_
  refine lv_icmp_ne (tgt := 107) hx hb dL_law_14 (by decide) (fun hc3 => ?_) (fun hc3 => ?_)
  · have hf := if_f hc3 hf
    refine lv_iconst (v := (0 : Int32)) hx hb dL_law_107 (by decide) ?_
    exact absurd (so_e hf) (by decide)
  · have hf := if_t hc3 hf
    refine lv_aload_n hx hb dL_law_17 rfl (lv_at hl 0 rfl) ?_
    refine lv_iconst (v := (1 : Int32)) hx hb dL_law_18 (by decide) ?_
    obtain ⟨v5, hc4, hf⟩ := c1_e hf
    refine q_V (w' := w) (rest := []) X hml hh (some (.int v5)) (m_X7_count l B D hN hg0 hc4) cf_X7_count k_422 hg0 ci_7 rfl rfl hl.1 rfl (Nat.le_of_ble_eq_true rfl) ⟨Nat.le_of_ble_eq_true rfl, Nat.le_of_ble_eq_true rfl⟩ hZ dL_law_19 rfl (fun H locs hh => ?_)
    refine lv_iconst (v := (3 : Int32)) hx hb dL_law_22 (by decide) ?_
    refine lv_icmp_ne (tgt := 107) hx hb dL_law_23 (by decide) (fun hc6 => ?_) (fun hc6 => ?_)
    · have hf := if_f hc6 hf
      refine lv_iconst (v := (0 : Int32)) hx hb dL_law_107 (by decide) ?_
      exact absurd (so_e hf) (by decide)
    · have hf := if_t hc6 hf
      refine lv_aload_n hx hb dL_law_26 rfl (lv_at hl 0 rfl) ?_
      refine lv_iconst (v := (2 : Int32)) hx hb dL_law_27 (by decide) ?_
      obtain ⟨v8, hc7, hf⟩ := c1_e hf
      refine q_V (w' := w) (rest := []) X hml hh (some (.int v8)) (m_X7_count l B D hN hg0 hc7) cf_X7_count k_422 hg0 ci_7 rfl rfl hl.1 rfl (Nat.le_of_ble_eq_true rfl) ⟨Nat.le_of_ble_eq_true rfl, Nat.le_of_ble_eq_true rfl⟩ hZ dL_law_28 rfl (fun H locs hh => ?_)
      refine lv_if_ne (tgt := 107) hx hb dL_law_31 (by decide) (fun hc9 => ?_) (fun hc9 => ?_)
      · have hf := if_f hc9 hf
        refine lv_iconst (v := (0 : Int32)) hx hb dL_law_107 (by decide) ?_
        exact absurd (so_e hf) (by decide)
      · have hf := if_t hc9 hf
        refine lv_aload_n hx hb dL_law_34 rfl (lv_at hl 0 rfl) ?_
        refine lv_iconst (v := (3 : Int32)) hx hb dL_law_35 (by decide) ?_
        obtain ⟨v11, hc10, hf⟩ := c1_e hf
        refine q_V (w' := w) (rest := []) X hml hh (some (.int v11)) (m_X7_count l B D hN hg0 hc10) cf_X7_count k_422 hg0 ci_7 rfl rfl hl.1 rfl (Nat.le_of_ble_eq_true rfl) ⟨Nat.le_of_ble_eq_true rfl, Nat.le_of_ble_eq_true rfl⟩ hZ dL_law_36 rfl (fun H locs hh => ?_)
        refine lv_if_ne (tgt := 107) hx hb dL_law_39 (by decide) (fun hc12 => ?_) (fun hc12 => ?_)
        · have hf := if_f hc12 hf
          refine lv_iconst (v := (0 : Int32)) hx hb dL_law_107 (by decide) ?_
          exact absurd (so_e hf) (by decide)
        · have hf := if_t hc12 hf
          refine lv_aload_n hx hb dL_law_42 rfl (lv_at hl 0 rfl) ?_
          refine lv_iconst (v := (3 : Int32)) hx hb dL_law_43 (by decide) ?_
          refine lv_iconst (v := (3 : Int32)) hx hb dL_law_44 (by decide) ?_
          refine lv_iconst (v := (0 : Int32)) hx hb dL_law_45 (by decide) ?_
          obtain ⟨v14, w15, hc13, hf⟩ := c2_e hf
          refine q_V (w' := w15) (rest := []) X hml hh (some (.int v14)) (m_X7_shape l B D hN hg0 hc13) cf_X7_shape k_298 hg0 ci_7 rfl rfl hl.1 rfl (Nat.le_of_ble_eq_true rfl) ⟨Nat.le_of_ble_eq_true rfl, Nat.le_of_ble_eq_true rfl⟩ hZ dL_law_46 rfl (fun H locs hh => ?_)
          refine lv_if_ne (tgt := 107) hx hb dL_law_49 (by decide) (fun hc16 => ?_) (fun hc16 => ?_)
          · have hf := if_f hc16 hf
            refine lv_iconst (v := (0 : Int32)) hx hb dL_law_107 (by decide) ?_
            exact absurd (so_e hf) (by decide)
          · have hf := if_t hc16 hf
            refine lv_aload_n hx hb dL_law_52 rfl (lv_at hl 0 rfl) ?_
            obtain ⟨v18, hc17, hf⟩ := c1_e hf
            refine q_V (w' := w15) (rest := []) X hml hh (some (.int v18)) (m_X7_spelled l B D hN hg0 hc17) cf_X7_spelled k_233 hg0 ci_7 rfl rfl hl.1 rfl (Nat.le_of_ble_eq_true rfl) ⟨Nat.le_of_ble_eq_true rfl, Nat.le_of_ble_eq_true rfl⟩ hZ dL_law_53 rfl (fun H locs hh => ?_)
            refine lv_if_ne (tgt := 107) hx hb dL_law_56 (by decide) (fun hc19 => ?_) (fun hc19 => ?_)
            · have hf := if_f hc19 hf
              refine lv_iconst (v := (0 : Int32)) hx hb dL_law_107 (by decide) ?_
              exact absurd (so_e hf) (by decide)
            · have hf := if_t hc19 hf
              refine lv_aload_n hx hb dL_law_59 rfl (lv_at hl 0 rfl) ?_
              refine lv_iconst (v := (3 : Int32)) hx hb dL_law_60 (by decide) ?_
              obtain ⟨v21, w22, hc20, hf⟩ := c2_e hf
              refine q_V (w' := w22) (rest := []) X hml hh (some (.int v21)) (m_X7_fits l B D hN hg0 hc20) cf_X7_fits k_330 hg0 ci_7 rfl rfl hl.1 rfl (Nat.le_of_ble_eq_true rfl) ⟨Nat.le_of_ble_eq_true rfl, Nat.le_of_ble_eq_true rfl⟩ hZ dL_law_61 rfl (fun H locs hh => ?_)
              refine lv_iconst (v := (1 : Int32)) hx hb dL_law_64 (by decide) ?_
              refine lv_icmp_ne (tgt := 107) hx hb dL_law_65 (by decide) (fun hc23 => ?_) (fun hc23 => ?_)
              · have hf := if_f hc23 hf
                refine lv_iconst (v := (0 : Int32)) hx hb dL_law_107 (by decide) ?_
                exact absurd (so_e hf) (by decide)
              · have hf := if_t hc23 hf
                refine lv_aload_n hx hb dL_law_68 rfl (lv_at hl 0 rfl) ?_
                refine lv_iconst (v := (3 : Int32)) hx hb dL_law_69 (by decide) ?_
                refine lv_iconst (v := (3 : Int32)) hx hb dL_law_70 (by decide) ?_
                obtain ⟨v25, w26, hc24, hf⟩ := c2_e hf
                refine q_V (w' := w26) (rest := []) X hml hh (some (.long v25)) (m_X7_standard l B D hN hg0 hc24) cf_X7_standard k_310 hg0 ci_7 rfl rfl hl.1 rfl (Nat.le_of_ble_eq_true rfl) ⟨Nat.le_of_ble_eq_true rfl, Nat.le_of_ble_eq_true rfl⟩ hZ dL_law_71 rfl (fun H locs hh => ?_)
                refine lv_lconst (v := (1 : Int64)) hx hb dL_law_74 (by decide) ?_
                refine W.lcmp hx hb dL_law_75 ?_
                refine lv_if_ne (tgt := 107) hx hb dL_law_76 (by decide) (fun hc27 => ?_) (fun hc27 => ?_)
                · have hf := if_f hc27 hf
                  refine lv_iconst (v := (0 : Int32)) hx hb dL_law_107 (by decide) ?_
                  exact absurd (so_e hf) (by decide)
                · have hf := if_t hc27 hf
                  refine lv_aload_n hx hb dL_law_79 rfl (lv_at hl 0 rfl) ?_
                  refine lv_iconst (v := (0 : Int32)) hx hb dL_law_80 (by decide) ?_
                  refine lv_iconst (v := (0 : Int32)) hx hb dL_law_81 (by decide) ?_
                  obtain ⟨v29, w30, hc28, hf⟩ := c2_e hf
                  refine q_V (w' := w30) (rest := []) X hml hh (some (.int v29)) (m_X7_product l B D hN hg0 hc28) cf_X7_product k_321 hg0 ci_7 rfl rfl hl.1 rfl (Nat.le_of_ble_eq_true rfl) ⟨Nat.le_of_ble_eq_true rfl, Nat.le_of_ble_eq_true rfl⟩ hZ dL_law_82 rfl (fun H locs hh => ?_)
                  refine lv_iconst (v := (1 : Int32)) hx hb dL_law_85 (by decide) ?_
                  refine lv_icmp_ne (tgt := 107) hx hb dL_law_86 (by decide) (fun hc31 => ?_) (fun hc31 => ?_)
                  · have hf := if_f hc31 hf
                    refine lv_iconst (v := (0 : Int32)) hx hb dL_law_107 (by decide) ?_
                    exact absurd (so_e hf) (by decide)
                  · have hf := if_t hc31 hf
                    refine lv_aload_n hx hb dL_law_89 rfl (lv_at hl 0 rfl) ?_
                    obtain ⟨v33, w34, hc32, hf⟩ := c2_e hf
                    refine q_V (w' := w34) (rest := []) X hml hh (some (.int v33)) (m_X7_undo l B D hN hg0 hc32) cf_X7_undo k_386 hg0 ci_7 rfl rfl hl.1 rfl (Nat.le_of_ble_eq_true rfl) ⟨Nat.le_of_ble_eq_true rfl, Nat.le_of_ble_eq_true rfl⟩ hZ dL_law_90 rfl (fun H locs hh => ?_)
                    refine lv_bipush (v := (-5 : Int32)) hx hb dL_law_93 (by decide) ?_
                    refine lv_icmp_ne (tgt := 107) hx hb dL_law_95 (by decide) (fun hc35 => ?_) (fun hc35 => ?_)
                    · have hf := if_f hc35 hf
                      refine lv_iconst (v := (0 : Int32)) hx hb dL_law_107 (by decide) ?_
                      exact absurd (so_e hf) (by decide)
                    · have hf := if_t hc35 hf
                      refine lv_aload_n hx hb dL_law_98 rfl (lv_at hl 0 rfl) ?_
                      obtain ⟨v37, w38, hc36, hf⟩ := c2_e hf
                      refine q_V (w' := w38) (rest := []) X hml hh (some (.int v37)) (m_X7_restore l B D hN hg0 hc36) cf_X7_restore k_410 hg0 ci_7 rfl rfl hl.1 rfl (Nat.le_of_ble_eq_true rfl) ⟨Nat.le_of_ble_eq_true rfl, Nat.le_of_ble_eq_true rfl⟩ hZ dL_law_99 rfl (fun H locs hh => ?_)
                      refine lv_bipush (v := (-5 : Int32)) hx hb dL_law_102 (by decide) ?_
                      refine lv_icmp_eq (tgt := 109) hx hb dL_law_104 (by decide) (fun hc39 => ?_) (fun hc39 => ?_)
                      · have hf := if_t hc39 hf
                        refine lv_aload_n hx hb dL_law_109 rfl (lv_at hl 0 rfl) ?_
                        refine lv_aload_n hx hb dL_law_110 rfl (lv_at hl 1 rfl) ?_
                        refine lv_iconst (v := (0 : Int32)) hx hb dL_law_111 (by decide) ?_
                        obtain ⟨w41, hc40, hf⟩ := c1_e hf
                        refine q_SX (w' := w41) (rest := []) X hml hh hX hbl hbA none (m_L_setUp l B D hN hg0 hc40) cf_L_setUp k_430 rfl hl.1 rfl (Nat.le_of_ble_eq_true rfl) ⟨Nat.le_of_ble_eq_true rfl, Nat.le_of_ble_eq_true rfl⟩ hZ dL_law_112 rfl (fun H locs hh => ?_)
                        refine lv_aload_n hx hb dL_law_115 rfl (lv_at hl 0 rfl) ?_
                        refine lv_iconst (v := (0 : Int32)) hx hb dL_law_116 (by decide) ?_
                        obtain ⟨v43, hc42, hf⟩ := c1_e hf
                        refine q_V (w' := w41) (rest := []) X hml hh (some (.int v43)) (m_X7_count l B D hN hg0 hc42) cf_X7_count k_422 hg0 ci_7 rfl rfl hl.1 rfl (Nat.le_of_ble_eq_true rfl) ⟨Nat.le_of_ble_eq_true rfl, Nat.le_of_ble_eq_true rfl⟩ hZ dL_law_117 rfl (fun H locs hh => ?_)
                        refine lv_istore_n (lv' := [(2, .int v43), (1, .ref (B + 0)), (0, .ref b)]) hx hb dL_law_120 rfl hl (by decide) rfl (fun ls hl => ?_)
                        refine lv_aload_n hx hb dL_law_121 rfl (lv_at hl 1 rfl) ?_
                        refine lv_iconst (v := (1 : Int32)) hx hb dL_law_122 (by decide) ?_
                        obtain ⟨v45, hc44, hf⟩ := c1_e hf
                        refine q_V (w' := w41) (rest := []) X hml hh (some (.int v45)) (m_X7_count l B D hN hg0 hc44) cf_X7_count k_422 hg0 ci_7 rfl rfl hl.1 rfl (Nat.le_of_ble_eq_true rfl) ⟨Nat.le_of_ble_eq_true rfl, Nat.le_of_ble_eq_true rfl⟩ hZ dL_law_123 rfl (fun H locs hh => ?_)
                        refine lv_istore_n (lv' := [(3, .int v45), (2, .int v43), (1, .ref (B + 0)), (0, .ref b)]) hx hb dL_law_126 rfl hl (by decide) rfl (fun ls hl => ?_)
                        refine lv_iconst (v := (0 : Int32)) hx hb dL_law_127 (by decide) ?_
                        refine lv_istore (lv' := [(4, .int (0 : Int32)), (3, .int v45), (2, .int v43), (1, .ref (B + 0)), (0, .ref b)]) hx hb dL_law_128 hl (by decide) rfl (fun ls hl => ?_)
                        refine wl3_W (P := fun (x46 : Int32) (w47 : Wd) (n48 : Nat) => 139 ≤ n48 → n48 ≤ 143 → ∀ (H : Heap) (locs : List Loc) (ls : Array Slot), Hp B D n48 w47 s H locs → lv_has ls 12 [(1, .ref (B + 0)), (2, .int v43), (3, .int v45), (4, .int x46)] → W p l e room_1 s m #[Value.ref b] below meth c H locs (n48 - 0) (2880 * (n48 - 0)) (lw_Z below #[Value.ref b] s) (F0 m 130 ls [])) hf (fun x46 w47 n48 k49 ih50 hf hN hM H locs ls hh hl => ?_) (by omega) (by omega) _ _ _ hh (lv_sub hl [3, 2, 1, 0] rfl)
                        have hZ := z_room hM
                        have hg0 : 0 < n48 ∧ kd 0 = 7 := ⟨by omega, hg0.2⟩
                        refine lv_iload hx hb dL_law_130 (lv_at hl 3 rfl) ?_
                        refine lv_iconst (v := (4 : Int32)) hx hb dL_law_132 (by decide) ?_
                        refine lv_icmp_ge (tgt := 747) hx hb dL_law_133 (by decide) (fun hc51 => ?_) (fun hc51 => ?_)
                        · have hf := if_t hc51 hf
                          refine lv_iconst (v := (1 : Int32)) hx hb dL_law_747 (by decide) ?_
                          refine va_forget (fun q hq => by rw [← hBs]; exact hh.2.2.2 q hq) ?_
                          refine W.widen (k := 600000) (n := 7302249) (by omega) (by omega) ?_
                          exact lw_ret hx hb hr hlk dL_law_748
                        · have hf := if_f hc51 hf
                          refine lv_aload_n hx hb dL_law_136 rfl (lv_at hl 0 rfl) ?_
                          refine lv_iload hx hb dL_law_137 (lv_at hl 3 rfl) ?_
                          obtain ⟨v53, w54, hc52, hf⟩ := c2_e hf
                          refine q_V (w' := w54) (rest := []) X hml hh (some (.int v53)) (m_X7_rule l B D hN hg0 hc52) cf_X7_rule k_210 hg0 ci_7 rfl rfl hl.1 rfl (Nat.le_of_ble_eq_true rfl) ⟨Nat.le_of_ble_eq_true rfl, Nat.le_of_ble_eq_true rfl⟩ hZ dL_law_139 rfl (fun H locs hh => ?_)
                          refine lv_pop hx hb dL_law_142 rfl ?_
                          refine lv_bipush (v := (36 : Int32)) hx hb dL_law_143 (by decide) ?_
                          refine r_newa (n0 := 0) (len := 36) X hh k_51 (by decide) (by decide) (by decide) (by omega) hRR dL_law_145 hf (fun n55 w56 H e57 h58 hf hh => ?_)
                          have hM : n55 ≤ 143 := by have := kd_b (t := n48) (by rw [h58.2]; decide); omega
                          have hN : 139 ≤ n55 := by omega
                          have hZ := z_room hM
                          have hg0 : 0 < n55 ∧ kd 0 = 7 := ⟨by omega, hg0.2⟩
                          refine lv_astore (lv' := [(5, .ref (B + n48)), (1, .ref (B + 0)), (2, .int v43), (3, .int v45), (4, .int x46)]) hx hb dL_law_147 hl (by decide) rfl (fun ls hl => ?_)
                          refine lv_iconst (v := (1 : Int32)) hx hb dL_law_149 (by decide) ?_
                          refine lv_istore (lv' := [(6, .int (1 : Int32)), (5, .ref (B + n48)), (1, .ref (B + 0)), (2, .int v43), (3, .int v45), (4, .int x46)]) hx hb dL_law_150 hl (by decide) rfl (fun ls hl => ?_)
                          refine wl2_W (P := fun (x59 : Int32) (w60 : Wd) => ∀ (H : Heap) (locs : List Loc) (ls : Array Slot), Hp B D n55 w60 s H locs → lv_has ls 12 [(1, .ref (B + 0)), (2, .int v43), (3, .int v45), (4, .int x46), (5, .ref (B + n48)), (6, .int x59)] → W p l e room_1 s m #[Value.ref b] below meth c H locs (n55 - 0) (2880 * (n55 - 0)) (lw_Z below #[Value.ref b] s) (F0 m 152 ls [])) hf (fun x59 w60 k61 ih62 hf  H locs ls hh hl => ?_)  _ _ _ hh (lv_sub hl [2, 3, 4, 5, 1, 0] rfl)
                          refine lv_iload hx hb dL_law_152 (lv_at hl 5 rfl) ?_
                          refine lv_iload_n hx hb dL_law_154 rfl (lv_at hl 1 rfl) ?_
                          refine lv_icmp_gt (tgt := 225) hx hb dL_law_155 (by decide) (fun hc63 => ?_) (fun hc63 => ?_)
                          · have hf := if_t hc63 hf
                            refine lv_iconst (v := (0 : Int32)) hx hb dL_law_225 (by decide) ?_
                            refine lv_istore (lv' := [(6, .int (0 : Int32)), (1, .ref (B + 0)), (2, .int v43), (3, .int v45), (4, .int x46), (5, .ref (B + n48))]) hx hb dL_law_226 hl (by decide) rfl (fun ls hl => ?_)
                            refine wl2_W (P := fun (x64 : Int32) (w65 : Wd) => ∀ (H : Heap) (locs : List Loc) (ls : Array Slot), Hp B D n55 w65 s H locs → lv_has ls 12 [(1, .ref (B + 0)), (2, .int v43), (3, .int v45), (4, .int x46), (5, .ref (B + n48)), (6, .int x64)] → W p l e room_1 s m #[Value.ref b] below meth c H locs (n55 - 0) (2880 * (n55 - 0)) (lw_Z below #[Value.ref b] s) (F0 m 228 ls [])) hf (fun x64 w65 k66 ih67 hf  H locs ls hh hl => ?_)  _ _ _ hh (lv_sub hl [1, 2, 3, 4, 5, 0] rfl)
                            refine lv_iload hx hb dL_law_228 (lv_at hl 5 rfl) ?_
                            refine lv_iload_n hx hb dL_law_230 rfl (lv_at hl 1 rfl) ?_
                            refine lv_icmp_gt (tgt := 322) hx hb dL_law_231 (by decide) (fun hc68 => ?_) (fun hc68 => ?_)
                            · have hf := if_t hc68 hf
                              refine lv_aload_n hx hb dL_law_322 rfl (lv_at hl 0 rfl) ?_
                              refine lv_iload_n hx hb dL_law_323 rfl (lv_at hl 1 rfl) ?_
                              refine lv_iload_n hx hb dL_law_324 rfl (lv_at hl 2 rfl) ?_
                              refine lv_iconst (v := (1 : Int32)) hx hb dL_law_325 (by decide) ?_
                              obtain ⟨v70, w71, hc69, hf⟩ := c2_e hf
                              refine q_V (w' := w71) (rest := []) X hml hh (some (.int v70)) (m_X7_shape l B D hN hg0 hc69) cf_X7_shape k_298 hg0 ci_7 rfl rfl hl.1 rfl (Nat.le_of_ble_eq_true rfl) ⟨Nat.le_of_ble_eq_true rfl, Nat.le_of_ble_eq_true rfl⟩ hZ dL_law_326 rfl (fun H locs hh => ?_)
                              refine lv_istore (lv' := [(6, .int v70), (1, .ref (B + 0)), (2, .int v43), (3, .int v45), (4, .int x46), (5, .ref (B + n48))]) hx hb dL_law_329 hl (by decide) rfl (fun ls hl => ?_)
                              refine lv_iconst (v := (0 : Int32)) hx hb dL_law_331 (by decide) ?_
                              refine lv_istore (lv' := [(7, .int (0 : Int32)), (6, .int v70), (1, .ref (B + 0)), (2, .int v43), (3, .int v45), (4, .int x46), (5, .ref (B + n48))]) hx hb dL_law_332 hl (by decide) rfl (fun ls hl => ?_)
                              refine lv_iconst (v := (0 : Int32)) hx hb dL_law_334 (by decide) ?_
                              refine lv_istore (lv' := [(8, .int (0 : Int32)), (7, .int (0 : Int32)), (6, .int v70), (1, .ref (B + 0)), (2, .int v43), (3, .int v45), (4, .int x46), (5, .ref (B + n48))]) hx hb dL_law_335 hl (by decide) rfl (fun ls hl => ?_)
                              refine lv_iconst (v := (0 : Int32)) hx hb dL_law_337 (by decide) ?_
                              refine lv_istore (lv' := [(9, .int (0 : Int32)), (8, .int (0 : Int32)), (7, .int (0 : Int32)), (6, .int v70), (1, .ref (B + 0)), (2, .int v43), (3, .int v45), (4, .int x46), (5, .ref (B + n48))]) hx hb dL_law_338 hl (by decide) rfl (fun ls hl => ?_)
                              refine wl4_W (P := fun (x72 : Int32) (x73 : Int32) (x74 : Int32) (w75 : Wd) => ∀ (H : Heap) (locs : List Loc) (ls : Array Slot), Hp B D n55 w75 s H locs → lv_has ls 12 [(1, .ref (B + 0)), (2, .int v43), (3, .int v45), (4, .int x46), (5, .ref (B + n48)), (6, .int v70), (7, .int x72), (8, .int x73), (9, .int x74)] → W p l e room_1 s m #[Value.ref b] below meth c H locs (n55 - 0) (2880 * (n55 - 0)) (lw_Z below #[Value.ref b] s) (F0 m 340 ls [])) hf (fun x72 x73 x74 w75 k76 ih77 hf  H locs ls hh hl => ?_)  _ _ _ hh (lv_sub hl [4, 5, 6, 7, 8, 3, 2, 1, 0] rfl)
                              refine lv_iload hx hb dL_law_340 (lv_at hl 8 rfl) ?_
                              refine lv_bipush (v := (77 : Int32)) hx hb dL_law_342 (by decide) ?_
                              refine lv_icmp_ge (tgt := 454) hx hb dL_law_344 (by decide) (fun hc78 => ?_) (fun hc78 => ?_)
                              · have hf := if_t hc78 hf
                                refine lv_iload hx hb dL_law_454 (lv_at hl 6 rfl) ?_
                                refine lv_aload_n hx hb dL_law_456 rfl (lv_at hl 0 rfl) ?_
                                refine lv_iload_n hx hb dL_law_457 rfl (lv_at hl 1 rfl) ?_
                                refine lv_iload_n hx hb dL_law_458 rfl (lv_at hl 2 rfl) ?_
                                refine lv_iconst (v := (0 : Int32)) hx hb dL_law_459 (by decide) ?_
                                obtain ⟨v80, w81, hc79, hf⟩ := c2_e hf
                                refine q_V (w' := w81) (rest := [.int x72]) X hml hh (some (.int v80)) (m_X7_shape l B D hN hg0 hc79) cf_X7_shape k_298 hg0 ci_7 rfl rfl hl.1 rfl (Nat.le_of_ble_eq_true rfl) ⟨Nat.le_of_ble_eq_true rfl, Nat.le_of_ble_eq_true rfl⟩ hZ dL_law_460 rfl (fun H locs hh => ?_)
                                refine lv_icmp_ne (tgt := 485) hx hb dL_law_463 (by decide) (fun hc82 => ?_) (fun hc82 => ?_)
                                · have hf := if_f hc82 hf
                                  refine lv_iconst (v := (0 : Int32)) hx hb dL_law_485 (by decide) ?_
                                  exact absurd (so_e hf) (by decide)
                                · have hf := if_t hc82 hf
                                  refine lv_iload hx hb dL_law_466 (lv_at hl 7 rfl) ?_
                                  refine lv_iload hx hb dL_law_468 (lv_at hl 6 rfl) ?_
                                  refine lv_icmp_ne (tgt := 485) hx hb dL_law_470 (by decide) (fun hc83 => ?_) (fun hc83 => ?_)
                                  · have hf := if_f hc83 hf
                                    refine lv_iconst (v := (0 : Int32)) hx hb dL_law_485 (by decide) ?_
                                    exact absurd (so_e hf) (by decide)
                                  · have hf := if_t hc83 hf
                                    refine lv_aload_n hx hb dL_law_473 rfl (lv_at hl 0 rfl) ?_
                                    refine lv_iload_n hx hb dL_law_474 rfl (lv_at hl 1 rfl) ?_
                                    refine lv_iload_n hx hb dL_law_475 rfl (lv_at hl 2 rfl) ?_
                                    refine lv_iconst (v := (0 : Int32)) hx hb dL_law_476 (by decide) ?_
                                    obtain ⟨v85, w86, hc84, hf⟩ := c2_e hf
                                    refine q_V (w' := w86) (rest := []) X hml hh (some (.int v85)) (m_X7_turned l B D hN hg0 hc84) cf_X7_turned k_302 hg0 ci_7 rfl rfl hl.1 rfl (Nat.le_of_ble_eq_true rfl) ⟨Nat.le_of_ble_eq_true rfl, Nat.le_of_ble_eq_true rfl⟩ hZ dL_law_477 rfl (fun H locs hh => ?_)
                                    refine lv_iload hx hb dL_law_480 (lv_at hl 5 rfl) ?_
                                    refine lv_icmp_eq (tgt := 487) hx hb dL_law_482 (by decide) (fun hc87 => ?_) (fun hc87 => ?_)
                                    · have hf := if_t hc87 hf
                                      refine lv_iload hx hb dL_law_487 (lv_at hl 3 rfl) ?_
                                      refine jn_W (P := fun j90 => ∀ (w89 : Wd), j90 w89 = some (1 : Int32) → ∀ (H : Heap) (locs : List Loc) (ls : Array Slot), Hp B D n55 w89 s H locs → lv_has ls 12 [(1, .ref (B + 0)), (2, .int v43), (3, .int v45), (4, .int x46), (5, .ref (B + n48)), (6, .int v70), (7, .int x72)] → W p l e room_1 s m #[Value.ref b] below meth c H locs (n55 - 0) (2880 * (n55 - 0)) (lw_Z below #[Value.ref b] s) (F0 m 521 ls [])) hf (fun w89 hf  H locs ls hh hl => ?_) (fun j90 hj90 hf => ?_)
                                      · refine lv_iload hx hb dL_law_521 (lv_at hl 3 rfl) ?_
                                        refine lv_iconst (v := (3 : Int32)) hx hb dL_law_523 (by decide) ?_
                                        refine jn_W (P := fun j93 => ∀ (w92 : Wd), j93 w92 = some (1 : Int32) → ∀ (H : Heap) (locs : List Loc) (ls : Array Slot), Hp B D n55 w92 s H locs → lv_has ls 12 [(1, .ref (B + 0)), (2, .int v43), (3, .int v45), (4, .int x46), (5, .ref (B + n48)), (7, .int x72)] → W p l e room_1 s m #[Value.ref b] below meth c H locs (n55 - 0) (2880 * (n55 - 0)) (lw_Z below #[Value.ref b] s) (F0 m 556 ls [])) hf (fun w92 hf  H locs ls hh hl => ?_) (fun j93 hj93 hf => ?_)
                                        · refine lv_aload_n hx hb dL_law_556 rfl (lv_at hl 0 rfl) ?_
                                          refine lv_iload hx hb dL_law_557 (lv_at hl 3 rfl) ?_
                                          obtain ⟨v95, w96, hc94, hf⟩ := c2_e hf
                                          refine q_V (w' := w96) (rest := []) X hml hh (some (.int v95)) (m_X7_fits l B D hN hg0 hc94) cf_X7_fits k_330 hg0 ci_7 rfl rfl hl.1 rfl (Nat.le_of_ble_eq_true rfl) ⟨Nat.le_of_ble_eq_true rfl, Nat.le_of_ble_eq_true rfl⟩ hZ dL_law_559 rfl (fun H locs hh => ?_)
                                          refine lv_iconst (v := (1 : Int32)) hx hb dL_law_562 (by decide) ?_
                                          refine lv_icmp_eq (tgt := 568) hx hb dL_law_563 (by decide) (fun hc97 => ?_) (fun hc97 => ?_)
                                          · have hf := if_t hc97 hf
                                            refine lv_iconst (v := (0 : Int32)) hx hb dL_law_568 (by decide) ?_
                                            refine lv_istore (lv' := [(9, .int (0 : Int32)), (1, .ref (B + 0)), (2, .int v43), (3, .int v45), (4, .int x46), (5, .ref (B + n48)), (7, .int x72)]) hx hb dL_law_569 hl (by decide) rfl (fun ls hl => ?_)
                                            refine lv_iconst (v := (1 : Int32)) hx hb dL_law_571 (by decide) ?_
                                            refine lv_istore (lv' := [(10, .int (1 : Int32)), (9, .int (0 : Int32)), (1, .ref (B + 0)), (2, .int v43), (3, .int v45), (4, .int x46), (5, .ref (B + n48)), (7, .int x72)]) hx hb dL_law_572 hl (by decide) rfl (fun ls hl => ?_)
                                            refine wl2_W (P := fun (x98 : Int32) (x99 : Int32) => ∀ (H : Heap) (locs : List Loc) (ls : Array Slot), Hp B D n55 w96 s H locs → lv_has ls 12 [(1, .ref (B + 0)), (2, .int v43), (3, .int v45), (4, .int x46), (5, .ref (B + n48)), (7, .int x72), (9, .int x98), (10, .int x99)] → W p l e room_1 s m #[Value.ref b] below meth c H locs (n55 - 0) (2880 * (n55 - 0)) (lw_Z below #[Value.ref b] s) (F0 m 574 ls [])) hf (fun x98 x99 k100 ih101 hf  H locs ls hh hl => ?_)  _ _ _ hh (lv_sub hl [2, 3, 4, 5, 6, 7, 1, 0] rfl)
                                            refine lv_iload hx hb dL_law_574 (lv_at hl 7 rfl) ?_
                                            refine lv_iload_n hx hb dL_law_576 rfl (lv_at hl 1 rfl) ?_
                                            refine lv_icmp_gt (tgt := 633) hx hb dL_law_577 (by decide) (fun hc102 => ?_) (fun hc102 => ?_)
                                            · have hf := if_t hc102 hf
                                              refine lv_aload_n hx hb dL_law_633 rfl (lv_at hl 0 rfl) ?_
                                              refine lv_iload hx hb dL_law_634 (lv_at hl 3 rfl) ?_
                                              obtain ⟨v104, w105, hc103, hf⟩ := c2_e hf
                                              refine q_V (w' := w105) (rest := []) X hml hh (some (.int v104)) (m_X7_back l B D hN hg0 hc103) cf_X7_back k_350 hg0 ci_7 rfl rfl hl.1 rfl (Nat.le_of_ble_eq_true rfl) ⟨Nat.le_of_ble_eq_true rfl, Nat.le_of_ble_eq_true rfl⟩ hZ dL_law_636 rfl (fun H locs hh => ?_)
                                              refine lv_iload hx hb dL_law_639 (lv_at hl 6 rfl) ?_
                                              refine lv_icmp_ne (tgt := 661) hx hb dL_law_641 (by decide) (fun hc106 => ?_) (fun hc106 => ?_)
                                              · have hf := if_f hc106 hf
                                                refine lv_iconst (v := (0 : Int32)) hx hb dL_law_661 (by decide) ?_
                                                exact absurd (so_e hf) (by decide)
                                              · have hf := if_t hc106 hf
                                                refine lv_aload_n hx hb dL_law_644 rfl (lv_at hl 0 rfl) ?_
                                                refine lv_iconst (v := (2 : Int32)) hx hb dL_law_645 (by decide) ?_
                                                obtain ⟨v108, hc107, hf⟩ := c1_e hf
                                                refine q_V (w' := w105) (rest := []) X hml hh (some (.int v108)) (m_X7_count l B D hN hg0 hc107) cf_X7_count k_422 hg0 ci_7 rfl rfl hl.1 rfl (Nat.le_of_ble_eq_true rfl) ⟨Nat.le_of_ble_eq_true rfl, Nat.le_of_ble_eq_true rfl⟩ hZ dL_law_646 rfl (fun H locs hh => ?_)
                                                refine lv_iload hx hb dL_law_649 (lv_at hl 3 rfl) ?_
                                                refine lv_icmp_ne (tgt := 661) hx hb dL_law_651 (by decide) (fun hc109 => ?_) (fun hc109 => ?_)
                                                · have hf := if_f hc109 hf
                                                  refine lv_iconst (v := (0 : Int32)) hx hb dL_law_661 (by decide) ?_
                                                  exact absurd (so_e hf) (by decide)
                                                · have hf := if_t hc109 hf
                                                  refine lv_aload_n hx hb dL_law_654 rfl (lv_at hl 0 rfl) ?_
                                                  obtain ⟨v111, w112, hc110, hf⟩ := c2_e hf
                                                  refine q_V (w' := w112) (rest := []) X hml hh (some (.int v111)) (m_X7_undo l B D hN hg0 hc110) cf_X7_undo k_386 hg0 ci_7 rfl rfl hl.1 rfl (Nat.le_of_ble_eq_true rfl) ⟨Nat.le_of_ble_eq_true rfl, Nat.le_of_ble_eq_true rfl⟩ hZ dL_law_655 rfl (fun H locs hh => ?_)
                                                  refine lv_if_ge (tgt := 663) hx hb dL_law_658 (by decide) (fun hc113 => ?_) (fun hc113 => ?_)
                                                  · have hf := if_t hc113 hf
                                                    refine lv_aload_n hx hb dL_law_663 rfl (lv_at hl 0 rfl) ?_
                                                    obtain ⟨v115, w116, hc114, hf⟩ := c2_e hf
                                                    refine q_V (w' := w116) (rest := []) X hml hh (some (.int v115)) (m_X7_again l B D hN hg0 hc114) cf_X7_again k_398 hg0 ci_7 rfl rfl hl.1 rfl (Nat.le_of_ble_eq_true rfl) ⟨Nat.le_of_ble_eq_true rfl, Nat.le_of_ble_eq_true rfl⟩ hZ dL_law_664 rfl (fun H locs hh => ?_)
                                                    refine lv_pop hx hb dL_law_667 rfl ?_
                                                    refine lv_iconst (v := (1 : Int32)) hx hb dL_law_668 (by decide) ?_
                                                    refine lv_istore (lv' := [(10, .int (1 : Int32)), (1, .ref (B + 0)), (2, .int v43), (3, .int v45), (4, .int x46), (5, .ref (B + n48)), (7, .int x72), (9, .int x98)]) hx hb dL_law_669 hl (by decide) rfl (fun ls hl => ?_)
                                                    refine wl1_W (P := fun (x117 : Int32) => ∀ (H : Heap) (locs : List Loc) (ls : Array Slot), Hp B D n55 w116 s H locs → lv_has ls 12 [(1, .ref (B + 0)), (2, .int v43), (3, .int v45), (4, .int x46), (5, .ref (B + n48)), (7, .int x72), (10, .int x117)] → W p l e room_1 s m #[Value.ref b] below meth c H locs (n55 - 0) (2880 * (n55 - 0)) (lw_Z below #[Value.ref b] s) (F0 m 671 ls [])) hf (fun x117 k118 ih119 hf  H locs ls hh hl => ?_)  _ _ _ hh (lv_sub hl [1, 2, 3, 4, 5, 6, 0] rfl)
                                                    refine lv_iload hx hb dL_law_671 (lv_at hl 6 rfl) ?_
                                                    refine lv_iload_n hx hb dL_law_673 rfl (lv_at hl 1 rfl) ?_
                                                    refine lv_icmp_gt (tgt := 722) hx hb dL_law_674 (by decide) (fun hc120 => ?_) (fun hc120 => ?_)
                                                    · have hf := if_t hc120 hf
                                                      refine lv_aload_n hx hb dL_law_722 rfl (lv_at hl 0 rfl) ?_
                                                      refine lv_iload_n hx hb dL_law_723 rfl (lv_at hl 1 rfl) ?_
                                                      refine lv_iload_n hx hb dL_law_724 rfl (lv_at hl 2 rfl) ?_
                                                      refine lv_iconst (v := (0 : Int32)) hx hb dL_law_725 (by decide) ?_
                                                      obtain ⟨v122, w123, hc121, hf⟩ := c2_e hf
                                                      refine q_V (w' := w123) (rest := []) X hml hh (some (.int v122)) (m_X7_shape l B D hN hg0 hc121) cf_X7_shape k_298 hg0 ci_7 rfl rfl hl.1 rfl (Nat.le_of_ble_eq_true rfl) ⟨Nat.le_of_ble_eq_true rfl, Nat.le_of_ble_eq_true rfl⟩ hZ dL_law_726 rfl (fun H locs hh => ?_)
                                                      refine lv_iload hx hb dL_law_729 (lv_at hl 5 rfl) ?_
                                                      refine lv_icmp_eq (tgt := 736) hx hb dL_law_731 (by decide) (fun hc124 => ?_) (fun hc124 => ?_)
                                                      · have hf := if_t hc124 hf
                                                        refine lv_aload_n hx hb dL_law_736 rfl (lv_at hl 0 rfl) ?_
                                                        obtain ⟨v126, w127, hc125, hf⟩ := c2_e hf
                                                        refine q_V (w' := w127) (rest := []) X hml hh (some (.int v126)) (m_X7_undo l B D hN hg0 hc125) cf_X7_undo k_386 hg0 ci_7 rfl rfl hl.1 rfl (Nat.le_of_ble_eq_true rfl) ⟨Nat.le_of_ble_eq_true rfl, Nat.le_of_ble_eq_true rfl⟩ hZ dL_law_737 rfl (fun H locs hh => ?_)
                                                        refine lv_pop hx hb dL_law_740 rfl ?_
                                                        obtain ⟨x128, e129⟩ : ∃ y : Int32, y = (x46 + (1 : Int32)) := ⟨_, rfl⟩
                                                        have hf := lt_e e129 hf
                                                        refine lv_iinc (v := x128) (lv' := [(4, .int x128), (1, .ref (B + 0)), (2, .int v43), (3, .int v45), (5, .ref (B + n48)), (7, .int x72), (10, .int x117)]) hx hb dL_law_741 hl (k := 3) rfl (by rw [e129]; rfl) (by decide) rfl (fun ls hl => ?_)
                                                        refine lv_goto (tgt := 130) hx hb dL_law_744 (by decide) ?_
                                                        exact ih50 _ _ _ hf hN hM _ _ _ hh (lv_sub hl [1, 2, 3, 0] rfl)
                                                      · have hf := if_f hc124 hf
                                                        refine lv_iconst (v := (0 : Int32)) hx hb dL_law_734 (by decide) ?_
                                                        exact absurd (so_e hf) (by decide)
                                                    · have hf := if_f hc120 hf
                                                      refine lv_iconst (v := (1 : Int32)) hx hb dL_law_677 (by decide) ?_
                                                      refine lv_istore (lv' := [(11, .int (1 : Int32)), (1, .ref (B + 0)), (2, .int v43), (3, .int v45), (4, .int x46), (5, .ref (B + n48)), (7, .int x72), (10, .int x117)]) hx hb dL_law_678 hl (by decide) rfl (fun ls hl => ?_)
                                                      refine wl1_W (P := fun (x130 : Int32) => ∀ (H : Heap) (locs : List Loc) (ls : Array Slot), Hp B D n55 w116 s H locs → lv_has ls 12 [(1, .ref (B + 0)), (2, .int v43), (3, .int v45), (4, .int x46), (5, .ref (B + n48)), (7, .int x72), (10, .int x117), (11, .int x130)] → W p l e room_1 s m #[Value.ref b] below meth c H locs (n55 - 0) (2880 * (n55 - 0)) (lw_Z below #[Value.ref b] s) (F0 m 680 ls [])) hf (fun x130 k131 ih132 hf  H locs ls hh hl => ?_)  _ _ _ hh (lv_sub hl [1, 2, 3, 4, 5, 6, 7, 0] rfl)
                                                      refine lv_iload hx hb dL_law_680 (lv_at hl 7 rfl) ?_
                                                      refine lv_iload_n hx hb dL_law_682 rfl (lv_at hl 2 rfl) ?_
                                                      refine lv_icmp_gt (tgt := 716) hx hb dL_law_683 (by decide) (fun hc133 => ?_) (fun hc133 => ?_)
                                                      · have hf := if_t hc133 hf
                                                        obtain ⟨x134, e135⟩ : ∃ y : Int32, y = (x117 + (1 : Int32)) := ⟨_, rfl⟩
                                                        have hf := lt_e e135 hf
                                                        refine lv_iinc (v := x134) (lv' := [(10, .int x134), (1, .ref (B + 0)), (2, .int v43), (3, .int v45), (4, .int x46), (5, .ref (B + n48)), (7, .int x72), (11, .int x130)]) hx hb dL_law_716 hl (k := 6) rfl (by rw [e135]; rfl) (by decide) rfl (fun ls hl => ?_)
                                                        refine lv_goto (tgt := 671) hx hb dL_law_719 (by decide) ?_
                                                        exact ih119 _ hf  _ _ _ hh (lv_sub hl [1, 2, 3, 4, 5, 6, 0] rfl)
                                                      · have hf := if_f hc133 hf
                                                        refine lv_aload_n hx hb dL_law_686 rfl (lv_at hl 0 rfl) ?_
                                                        refine lv_iload hx hb dL_law_687 (lv_at hl 6 rfl) ?_
                                                        refine lv_iload hx hb dL_law_689 (lv_at hl 7 rfl) ?_
                                                        obtain ⟨v137, hc136, hf⟩ := c1_e hf
                                                        refine q_V (w' := w116) (rest := []) X hml hh (some (.int v137)) (m_X7_cell l B D hN hg0 hc136) cf_X7_cell k_194 hg0 ci_7 rfl rfl hl.1 rfl (Nat.le_of_ble_eq_true rfl) ⟨Nat.le_of_ble_eq_true rfl, Nat.le_of_ble_eq_true rfl⟩ hZ dL_law_691 rfl (fun H locs hh => ?_)
                                                        refine lv_aload hx hb dL_law_694 (lv_at hl 4 rfl) ?_
                                                        refine lv_bipush (v := (6 : Int32)) hx hb dL_law_696 (by decide) ?_
                                                        refine lv_iload hx hb dL_law_698 (lv_at hl 6 rfl) ?_
                                                        refine lv_imul hx hb dL_law_700 ?_
                                                        refine lv_iload hx hb dL_law_701 (lv_at hl 7 rfl) ?_
                                                        refine lv_iadd hx hb dL_law_703 ?_
                                                        refine q_ald X hh h58 dL_law_704 hf (fun hf => ?_)
                                                        refine lv_icmp_eq (tgt := 710) hx hb dL_law_705 (by decide) (fun hc139 => ?_) (fun hc139 => ?_)
                                                        · have hf := if_t hc139 hf
                                                          obtain ⟨x140, e141⟩ : ∃ y : Int32, y = (x130 + (1 : Int32)) := ⟨_, rfl⟩
                                                          have hf := lt_e e141 hf
                                                          refine lv_iinc (v := x140) (lv' := [(11, .int x140), (1, .ref (B + 0)), (2, .int v43), (3, .int v45), (4, .int x46), (5, .ref (B + n48)), (7, .int x72), (10, .int x117)]) hx hb dL_law_710 hl (k := 7) rfl (by rw [e141]; rfl) (by decide) rfl (fun ls hl => ?_)
                                                          refine lv_goto (tgt := 680) hx hb dL_law_713 (by decide) ?_
                                                          exact ih132 _ hf  _ _ _ hh (lv_sub hl [1, 2, 3, 4, 5, 6, 7, 0] rfl)
                                                        · have hf := if_f hc139 hf
                                                          refine lv_iconst (v := (0 : Int32)) hx hb dL_law_708 (by decide) ?_
                                                          exact absurd (so_e hf) (by decide)
                                                  · have hf := if_f hc113 hf
                                                    refine lv_iconst (v := (0 : Int32)) hx hb dL_law_661 (by decide) ?_
                                                    exact absurd (so_e hf) (by decide)
                                            · have hf := if_f hc102 hf
                                              refine lv_iconst (v := (1 : Int32)) hx hb dL_law_580 (by decide) ?_
                                              refine lv_istore (lv' := [(11, .int (1 : Int32)), (1, .ref (B + 0)), (2, .int v43), (3, .int v45), (4, .int x46), (5, .ref (B + n48)), (7, .int x72), (9, .int x98), (10, .int x99)]) hx hb dL_law_581 hl (by decide) rfl (fun ls hl => ?_)
                                              refine wl2_W (P := fun (x142 : Int32) (x143 : Int32) => ∀ (H : Heap) (locs : List Loc) (ls : Array Slot), Hp B D n55 w96 s H locs → lv_has ls 12 [(1, .ref (B + 0)), (2, .int v43), (3, .int v45), (4, .int x46), (5, .ref (B + n48)), (7, .int x72), (9, .int x142), (10, .int x99), (11, .int x143)] → W p l e room_1 s m #[Value.ref b] below meth c H locs (n55 - 0) (2880 * (n55 - 0)) (lw_Z below #[Value.ref b] s) (F0 m 583 ls [])) hf (fun x142 x143 k144 ih145 hf  H locs ls hh hl => ?_)  _ _ _ hh (lv_sub hl [1, 2, 3, 4, 5, 6, 7, 8, 0] rfl)
                                              refine lv_iload hx hb dL_law_583 (lv_at hl 8 rfl) ?_
                                              refine lv_iload_n hx hb dL_law_585 rfl (lv_at hl 2 rfl) ?_
                                              refine lv_icmp_gt (tgt := 627) hx hb dL_law_586 (by decide) (fun hc146 => ?_) (fun hc146 => ?_)
                                              · have hf := if_t hc146 hf
                                                obtain ⟨x147, e148⟩ : ∃ y : Int32, y = (x99 + (1 : Int32)) := ⟨_, rfl⟩
                                                have hf := lt_e e148 hf
                                                refine lv_iinc (v := x147) (lv' := [(10, .int x147), (1, .ref (B + 0)), (2, .int v43), (3, .int v45), (4, .int x46), (5, .ref (B + n48)), (7, .int x72), (9, .int x142), (11, .int x143)]) hx hb dL_law_627 hl (k := 7) rfl (by rw [e148]; rfl) (by decide) rfl (fun ls hl => ?_)
                                                refine lv_goto (tgt := 574) hx hb dL_law_630 (by decide) ?_
                                                exact ih101 _ _ hf  _ _ _ hh (lv_sub hl [1, 2, 3, 4, 5, 6, 7, 0] rfl)
                                              · have hf := if_f hc146 hf
                                                refine lv_iload hx hb dL_law_589 (lv_at hl 6 rfl) ?_
                                                refine lv_aload_n hx hb dL_law_591 rfl (lv_at hl 0 rfl) ?_
                                                refine lv_iload hx hb dL_law_592 (lv_at hl 7 rfl) ?_
                                                refine lv_iload hx hb dL_law_594 (lv_at hl 8 rfl) ?_
                                                obtain ⟨v150, hc149, hf⟩ := c1_e hf
                                                refine q_V (w' := w96) (rest := [.int x142]) X hml hh (some (.int v150)) (m_X7_cell l B D hN hg0 hc149) cf_X7_cell k_194 hg0 ci_7 rfl rfl hl.1 rfl (Nat.le_of_ble_eq_true rfl) ⟨Nat.le_of_ble_eq_true rfl, Nat.le_of_ble_eq_true rfl⟩ hZ dL_law_596 rfl (fun H locs hh => ?_)
                                                refine lv_aload hx hb dL_law_599 (lv_at hl 4 rfl) ?_
                                                refine lv_bipush (v := (6 : Int32)) hx hb dL_law_601 (by decide) ?_
                                                refine lv_iload hx hb dL_law_603 (lv_at hl 7 rfl) ?_
                                                refine lv_imul hx hb dL_law_605 ?_
                                                refine lv_iload hx hb dL_law_606 (lv_at hl 8 rfl) ?_
                                                refine lv_iadd hx hb dL_law_608 ?_
                                                refine q_ald X hh h58 dL_law_609 hf (fun hf => ?_)
                                                refine mg_W (P := fun (x153 : Int32) => ∀ (ls : Array Slot), lv_has ls 12 [(1, .ref (B + 0)), (2, .int v43), (3, .int v45), (4, .int x46), (5, .ref (B + n48)), (7, .int x72), (10, .int x99), (11, .int x143)] → W p l e room_1 s m #[Value.ref b] below meth c H locs (n55 - 0) (2880 * (n55 - 0)) (lw_Z below #[Value.ref b] s) (F0 m 618 ls [.int x153, .int x142])) hf (fun x153 hf ls hl => ?_) (fun hj158 => ?_)
                                                · refine lv_iadd hx hb dL_law_618 ?_
                                                  refine lv_topi (fun x154 e155 => ?_)
                                                  have hf := lt_e e155 hf
                                                  refine lv_istore (lv' := [(9, .int x154), (1, .ref (B + 0)), (2, .int v43), (3, .int v45), (4, .int x46), (5, .ref (B + n48)), (7, .int x72), (10, .int x99), (11, .int x143)]) hx hb dL_law_619 hl (by decide) rfl (fun ls hl => ?_)
                                                  obtain ⟨x156, e157⟩ : ∃ y : Int32, y = (x143 + (1 : Int32)) := ⟨_, rfl⟩
                                                  have hf := lt_e e157 hf
                                                  refine lv_iinc (v := x156) (lv' := [(11, .int x156), (9, .int x154), (1, .ref (B + 0)), (2, .int v43), (3, .int v45), (4, .int x46), (5, .ref (B + n48)), (7, .int x72), (10, .int x99)]) hx hb dL_law_621 hl (k := 8) rfl (by rw [e157]; rfl) (by decide) rfl (fun ls hl => ?_)
                                                  refine lv_goto (tgt := 583) hx hb dL_law_624 (by decide) ?_
                                                  exact ih145 _ _ hf  _ _ _ hh (lv_sub hl [2, 3, 4, 5, 6, 7, 1, 8, 0] rfl)
                                                · refine lv_icmp_ne (tgt := 617) hx hb dL_law_610 (by decide) (fun hc152 => ?_) (fun hc152 => ?_)
                                                  · refine lv_iconst (v := (1 : Int32)) hx hb dL_law_617 (by decide) ?_
                                                    exact hj158 _ (by rw [if_neg hc152]) ls (lv_sub hl [0, 1, 2, 3, 4, 5, 7, 8] rfl)
                                                  · refine lv_iconst (v := (0 : Int32)) hx hb dL_law_613 (by decide) ?_
                                                    refine lv_goto (tgt := 618) hx hb dL_law_614 (by decide) ?_
                                                    exact hj158 _ (by rw [if_pos hc152]) ls (lv_sub hl [0, 1, 2, 3, 4, 5, 7, 8] rfl)
                                          · have hf := if_f hc97 hf
                                            refine lv_iconst (v := (0 : Int32)) hx hb dL_law_566 (by decide) ?_
                                            exact absurd (so_e hf) (by decide)
                                        · refine lv_icmp_ne (tgt := 556) hx hb dL_law_524 (by decide) (fun hc91 => ?_) (fun hc91 => ?_)
                                          · have hf := if_f hc91 hf
                                            exact hj93 _ hf  _ _ _ hh (lv_sub hl [0, 1, 2, 3, 4, 6] rfl)
                                          · have hf := if_t hc91 hf
                                            refine lv_aload_n hx hb dL_law_527 rfl (lv_at hl 0 rfl) ?_
                                            refine lv_iload_n hx hb dL_law_528 rfl (lv_at hl 1 rfl) ?_
                                            refine lv_iload_n hx hb dL_law_529 rfl (lv_at hl 2 rfl) ?_
                                            refine lv_iconst (v := (0 : Int32)) hx hb dL_law_530 (by decide) ?_
                                            obtain ⟨v160, w161, hc159, hf⟩ := c2_e hf
                                            refine q_V (w' := w161) (rest := []) X hml hh (some (.int v160)) (m_X7_part l B D hN hg0 hc159) cf_X7_part k_242 hg0 ci_7 rfl rfl hl.1 rfl (Nat.le_of_ble_eq_true rfl) ⟨Nat.le_of_ble_eq_true rfl, Nat.le_of_ble_eq_true rfl⟩ hZ dL_law_531 rfl (fun H locs hh => ?_)
                                            refine lv_aload_n hx hb dL_law_534 rfl (lv_at hl 0 rfl) ?_
                                            refine lv_iconst (v := (1 : Int32)) hx hb dL_law_535 (by decide) ?_
                                            refine lv_iconst (v := (1 : Int32)) hx hb dL_law_536 (by decide) ?_
                                            obtain ⟨v163, w164, hc162, hf⟩ := c2_e hf
                                            refine q_V (w' := w164) (rest := [.int v160]) X hml hh (some (.int v163)) (m_X7_longest l B D hN hg0 hc162) cf_X7_longest k_375 hg0 ci_7 rfl rfl hl.1 rfl (Nat.le_of_ble_eq_true rfl) ⟨Nat.le_of_ble_eq_true rfl, Nat.le_of_ble_eq_true rfl⟩ hZ dL_law_537 rfl (fun H locs hh => ?_)
                                            refine lv_icmp_ne (tgt := 554) hx hb dL_law_540 (by decide) (fun hc165 => ?_) (fun hc165 => ?_)
                                            · have hf := if_f hc165 hf
                                              refine lv_iconst (v := (0 : Int32)) hx hb dL_law_554 (by decide) ?_
                                              exact absurd (so_e hf) (by decide)
                                            · have hf := if_t hc165 hf
                                              refine lv_iload hx hb dL_law_543 (lv_at hl 5 rfl) ?_
                                              refine lv_aload_n hx hb dL_law_545 rfl (lv_at hl 0 rfl) ?_
                                              refine lv_iconst (v := (2 : Int32)) hx hb dL_law_546 (by decide) ?_
                                              refine lv_iconst (v := (0 : Int32)) hx hb dL_law_547 (by decide) ?_
                                              obtain ⟨v167, w168, hc166, hf⟩ := c2_e hf
                                              refine q_V (w' := w168) (rest := [.int v70]) X hml hh (some (.int v167)) (m_X7_longest l B D hN hg0 hc166) cf_X7_longest k_375 hg0 ci_7 rfl rfl hl.1 rfl (Nat.le_of_ble_eq_true rfl) ⟨Nat.le_of_ble_eq_true rfl, Nat.le_of_ble_eq_true rfl⟩ hZ dL_law_548 rfl (fun H locs hh => ?_)
                                              refine lv_icmp_eq (tgt := 556) hx hb dL_law_551 (by decide) (fun hc169 => ?_) (fun hc169 => ?_)
                                              · have hf := if_t hc169 hf
                                                exact hj93 _ hf  _ _ _ hh (lv_sub hl [0, 1, 2, 3, 4, 6] rfl)
                                              · have hf := if_f hc169 hf
                                                refine lv_iconst (v := (0 : Int32)) hx hb dL_law_554 (by decide) ?_
                                                exact absurd (so_e hf) (by decide)
                                      · refine lv_if_ne (tgt := 521) hx hb dL_law_489 (by decide) (fun hc88 => ?_) (fun hc88 => ?_)
                                        · have hf := if_f hc88 hf
                                          exact hj90 _ hf  _ _ _ hh (lv_sub hl [0, 1, 2, 3, 4, 5, 6] rfl)
                                        · have hf := if_t hc88 hf
                                          refine lv_aload_n hx hb dL_law_492 rfl (lv_at hl 0 rfl) ?_
                                          refine lv_iload_n hx hb dL_law_493 rfl (lv_at hl 1 rfl) ?_
                                          refine lv_iload_n hx hb dL_law_494 rfl (lv_at hl 2 rfl) ?_
                                          refine lv_iconst (v := (0 : Int32)) hx hb dL_law_495 (by decide) ?_
                                          obtain ⟨v171, w172, hc170, hf⟩ := c2_e hf
                                          refine q_V (w' := w172) (rest := []) X hml hh (some (.int v171)) (m_X7_part l B D hN hg0 hc170) cf_X7_part k_242 hg0 ci_7 rfl rfl hl.1 rfl (Nat.le_of_ble_eq_true rfl) ⟨Nat.le_of_ble_eq_true rfl, Nat.le_of_ble_eq_true rfl⟩ hZ dL_law_496 rfl (fun H locs hh => ?_)
                                          refine lv_aload_n hx hb dL_law_499 rfl (lv_at hl 0 rfl) ?_
                                          refine lv_iconst (v := (0 : Int32)) hx hb dL_law_500 (by decide) ?_
                                          refine lv_iconst (v := (0 : Int32)) hx hb dL_law_501 (by decide) ?_
                                          obtain ⟨v174, w175, hc173, hf⟩ := c2_e hf
                                          refine q_V (w' := w175) (rest := [.int v171]) X hml hh (some (.int v174)) (m_X7_longest l B D hN hg0 hc173) cf_X7_longest k_375 hg0 ci_7 rfl rfl hl.1 rfl (Nat.le_of_ble_eq_true rfl) ⟨Nat.le_of_ble_eq_true rfl, Nat.le_of_ble_eq_true rfl⟩ hZ dL_law_502 rfl (fun H locs hh => ?_)
                                          refine lv_icmp_ne (tgt := 519) hx hb dL_law_505 (by decide) (fun hc176 => ?_) (fun hc176 => ?_)
                                          · have hf := if_f hc176 hf
                                            refine lv_iconst (v := (0 : Int32)) hx hb dL_law_519 (by decide) ?_
                                            exact absurd (so_e hf) (by decide)
                                          · have hf := if_t hc176 hf
                                            refine lv_iload hx hb dL_law_508 (lv_at hl 5 rfl) ?_
                                            refine lv_aload_n hx hb dL_law_510 rfl (lv_at hl 0 rfl) ?_
                                            refine lv_iconst (v := (3 : Int32)) hx hb dL_law_511 (by decide) ?_
                                            refine lv_iconst (v := (1 : Int32)) hx hb dL_law_512 (by decide) ?_
                                            obtain ⟨v178, w179, hc177, hf⟩ := c2_e hf
                                            refine q_V (w' := w179) (rest := [.int v70]) X hml hh (some (.int v178)) (m_X7_longest l B D hN hg0 hc177) cf_X7_longest k_375 hg0 ci_7 rfl rfl hl.1 rfl (Nat.le_of_ble_eq_true rfl) ⟨Nat.le_of_ble_eq_true rfl, Nat.le_of_ble_eq_true rfl⟩ hZ dL_law_513 rfl (fun H locs hh => ?_)
                                            refine lv_icmp_eq (tgt := 521) hx hb dL_law_516 (by decide) (fun hc180 => ?_) (fun hc180 => ?_)
                                            · have hf := if_t hc180 hf
                                              exact hj90 _ hf  _ _ _ hh (lv_sub hl [0, 1, 2, 3, 4, 5, 6] rfl)
                                            · have hf := if_f hc180 hf
                                              refine lv_iconst (v := (0 : Int32)) hx hb dL_law_519 (by decide) ?_
                                              exact absurd (so_e hf) (by decide)
                                    · have hf := if_f hc87 hf
                                      refine lv_iconst (v := (0 : Int32)) hx hb dL_law_485 (by decide) ?_
                                      exact absurd (so_e hf) (by decide)
                              · have hf := if_f hc78 hf
                                refine lv_iload hx hb dL_law_347 (lv_at hl 6 rfl) ?_
                                refine lv_aload_n hx hb dL_law_349 rfl (lv_at hl 0 rfl) ?_
                                refine lv_iload_n hx hb dL_law_350 rfl (lv_at hl 1 rfl) ?_
                                refine lv_iload_n hx hb dL_law_351 rfl (lv_at hl 2 rfl) ?_
                                refine lv_iload hx hb dL_law_352 (lv_at hl 8 rfl) ?_
                                obtain ⟨v182, w183, hc181, hf⟩ := c2_e hf
                                refine q_V (w' := w183) (rest := [.int x72]) X hml hh (some (.int v182)) (m_X7_part l B D hN hg0 hc181) cf_X7_part k_242 hg0 ci_7 rfl rfl hl.1 rfl (Nat.le_of_ble_eq_true rfl) ⟨Nat.le_of_ble_eq_true rfl, Nat.le_of_ble_eq_true rfl⟩ hZ dL_law_354 rfl (fun H locs hh => ?_)
                                refine lv_iadd hx hb dL_law_357 ?_
                                refine lv_topi (fun x184 e185 => ?_)
                                have hf := lt_e e185 hf
                                refine lv_istore (lv' := [(7, .int x184), (1, .ref (B + 0)), (2, .int v43), (3, .int v45), (4, .int x46), (5, .ref (B + n48)), (6, .int v70), (8, .int x73), (9, .int x74)]) hx hb dL_law_358 hl (by decide) rfl (fun ls hl => ?_)
                                refine lv_iload hx hb dL_law_360 (lv_at hl 7 rfl) ?_
                                refine lv_aload_n hx hb dL_law_362 rfl (lv_at hl 1 rfl) ?_
                                refine lv_iload_n hx hb dL_law_363 rfl (lv_at hl 2 rfl) ?_
                                refine lv_iload_n hx hb dL_law_364 rfl (lv_at hl 3 rfl) ?_
                                refine lv_iload hx hb dL_law_365 (lv_at hl 8 rfl) ?_
                                obtain ⟨v187, w188, hc186, hf⟩ := c2_e hf
                                refine q_V (w' := w188) (rest := [.int x73]) X hml hh (some (.int v187)) (m_X7_turned l B D hN hg0 hc186) cf_X7_turned k_302 hg0 ci_7 rfl rfl hl.1 rfl (Nat.le_of_ble_eq_true rfl) ⟨Nat.le_of_ble_eq_true rfl, Nat.le_of_ble_eq_true rfl⟩ hZ dL_law_367 rfl (fun H locs hh => ?_)
                                refine lv_iadd hx hb dL_law_370 ?_
                                refine lv_topi (fun x189 e190 => ?_)
                                have hf := lt_e e190 hf
                                refine lv_istore (lv' := [(8, .int x189), (7, .int x184), (1, .ref (B + 0)), (2, .int v43), (3, .int v45), (4, .int x46), (5, .ref (B + n48)), (6, .int v70), (9, .int x74)]) hx hb dL_law_371 hl (by decide) rfl (fun ls hl => ?_)
                                refine lv_aload_n hx hb dL_law_373 rfl (lv_at hl 2 rfl) ?_
                                refine lv_iload_n hx hb dL_law_374 rfl (lv_at hl 3 rfl) ?_
                                refine lv_iload_n hx hb dL_law_375 rfl (lv_at hl 4 rfl) ?_
                                refine lv_iload hx hb dL_law_376 (lv_at hl 8 rfl) ?_
                                refine lv_iconst (v := (1 : Int32)) hx hb dL_law_378 (by decide) ?_
                                refine lv_iadd hx hb dL_law_379 ?_
                                obtain ⟨v192, w193, hc191, hf⟩ := c2_e hf
                                refine q_V (w' := w193) (rest := []) X hml hh (some (.int v192)) (m_X7_part l B D hN hg0 hc191) cf_X7_part k_242 hg0 ci_7 rfl rfl hl.1 rfl (Nat.le_of_ble_eq_true rfl) ⟨Nat.le_of_ble_eq_true rfl, Nat.le_of_ble_eq_true rfl⟩ hZ dL_law_380 rfl (fun H locs hh => ?_)
                                refine lv_aload_n hx hb dL_law_383 rfl (lv_at hl 2 rfl) ?_
                                refine lv_iload_n hx hb dL_law_384 rfl (lv_at hl 3 rfl) ?_
                                refine lv_iload_n hx hb dL_law_385 rfl (lv_at hl 4 rfl) ?_
                                refine lv_iload hx hb dL_law_386 (lv_at hl 8 rfl) ?_
                                obtain ⟨v195, w196, hc194, hf⟩ := c2_e hf
                                refine q_V (w' := w196) (rest := [.int v192]) X hml hh (some (.int v195)) (m_X7_part l B D hN hg0 hc194) cf_X7_part k_242 hg0 ci_7 rfl rfl hl.1 rfl (Nat.le_of_ble_eq_true rfl) ⟨Nat.le_of_ble_eq_true rfl, Nat.le_of_ble_eq_true rfl⟩ hZ dL_law_388 rfl (fun H locs hh => ?_)
                                refine lv_icmp_gt (tgt := 446) hx hb dL_law_391 (by decide) (fun hc197 => ?_) (fun hc197 => ?_)
                                · have hf := if_t hc197 hf
                                  refine lv_iconst (v := (0 : Int32)) hx hb dL_law_446 (by decide) ?_
                                  exact absurd (so_e hf) (by decide)
                                · have hf := if_f hc197 hf
                                  refine lv_aload_n hx hb dL_law_394 rfl (lv_at hl 2 rfl) ?_
                                  refine lv_iload_n hx hb dL_law_395 rfl (lv_at hl 3 rfl) ?_
                                  refine lv_iload_n hx hb dL_law_396 rfl (lv_at hl 4 rfl) ?_
                                  refine lv_iload hx hb dL_law_397 (lv_at hl 8 rfl) ?_
                                  refine lv_iconst (v := (1 : Int32)) hx hb dL_law_399 (by decide) ?_
                                  refine lv_iadd hx hb dL_law_400 ?_
                                  obtain ⟨v199, w200, hc198, hf⟩ := c2_e hf
                                  refine q_V (w' := w200) (rest := []) X hml hh (some (.int v199)) (m_X7_turned l B D hN hg0 hc198) cf_X7_turned k_302 hg0 ci_7 rfl rfl hl.1 rfl (Nat.le_of_ble_eq_true rfl) ⟨Nat.le_of_ble_eq_true rfl, Nat.le_of_ble_eq_true rfl⟩ hZ dL_law_401 rfl (fun H locs hh => ?_)
                                  refine lv_aload_n hx hb dL_law_404 rfl (lv_at hl 2 rfl) ?_
                                  refine lv_iload_n hx hb dL_law_405 rfl (lv_at hl 3 rfl) ?_
                                  refine lv_iload_n hx hb dL_law_406 rfl (lv_at hl 4 rfl) ?_
                                  refine lv_iload hx hb dL_law_407 (lv_at hl 8 rfl) ?_
                                  obtain ⟨v202, w203, hc201, hf⟩ := c2_e hf
                                  refine q_V (w' := w203) (rest := [.int v199]) X hml hh (some (.int v202)) (m_X7_turned l B D hN hg0 hc201) cf_X7_turned k_302 hg0 ci_7 rfl rfl hl.1 rfl (Nat.le_of_ble_eq_true rfl) ⟨Nat.le_of_ble_eq_true rfl, Nat.le_of_ble_eq_true rfl⟩ hZ dL_law_409 rfl (fun H locs hh => ?_)
                                  refine lv_icmp_gt (tgt := 446) hx hb dL_law_412 (by decide) (fun hc204 => ?_) (fun hc204 => ?_)
                                  · have hf := if_t hc204 hf
                                    refine lv_iconst (v := (0 : Int32)) hx hb dL_law_446 (by decide) ?_
                                    exact absurd (so_e hf) (by decide)
                                  · have hf := if_f hc204 hf
                                    refine lv_aload_n hx hb dL_law_415 rfl (lv_at hl 2 rfl) ?_
                                    refine lv_iload_n hx hb dL_law_416 rfl (lv_at hl 3 rfl) ?_
                                    refine lv_iload_n hx hb dL_law_417 rfl (lv_at hl 4 rfl) ?_
                                    refine lv_iload hx hb dL_law_418 (lv_at hl 8 rfl) ?_
                                    obtain ⟨v206, w207, hc205, hf⟩ := c2_e hf
                                    refine q_V (w' := w207) (rest := []) X hml hh (some (.int v206)) (m_X7_part l B D hN hg0 hc205) cf_X7_part k_242 hg0 ci_7 rfl rfl hl.1 rfl (Nat.le_of_ble_eq_true rfl) ⟨Nat.le_of_ble_eq_true rfl, Nat.le_of_ble_eq_true rfl⟩ hZ dL_law_420 rfl (fun H locs hh => ?_)
                                    refine mg_W (P := fun (x209 : Int32) => ∀ (ls : Array Slot), lv_has ls 12 [(1, .ref (B + 0)), (2, .int v43), (3, .int v45), (4, .int x46), (5, .ref (B + n48)), (6, .int v70), (7, .int x184), (8, .int x189), (9, .int x74)] → W p l e room_1 s m #[Value.ref b] below meth c H locs (n55 - 0) (2880 * (n55 - 0)) (lw_Z below #[Value.ref b] s) (F0 m 431 ls [.int x209])) hf (fun x209 hf ls hl => ?_) (fun hj216 => ?_)
                                    · refine lv_iload hx hb dL_law_431 (lv_at hl 8 rfl) ?_
                                      refine lv_iload hx hb dL_law_433 (lv_at hl 5 rfl) ?_
                                      refine mg_W (P := fun (x211 : Int32) => ∀ (ls : Array Slot), lv_has ls 12 [(1, .ref (B + 0)), (2, .int v43), (3, .int v45), (4, .int x46), (5, .ref (B + n48)), (6, .int v70), (7, .int x184), (8, .int x189), (9, .int x74)] → W p l e room_1 s m #[Value.ref b] below meth c H locs (n55 - 0) (2880 * (n55 - 0)) (lw_Z below #[Value.ref b] s) (F0 m 443 ls [.int x211, .int x209])) hf (fun x211 hf ls hl => ?_) (fun hj215 => ?_)
                                      · refine lv_icmp_eq (tgt := 448) hx hb dL_law_443 (by decide) (fun hc212 => ?_) (fun hc212 => ?_)
                                        · have hf := if_t hc212 hf
                                          obtain ⟨x213, e214⟩ : ∃ y : Int32, y = (x74 + (1 : Int32)) := ⟨_, rfl⟩
                                          have hf := lt_e e214 hf
                                          refine lv_iinc (v := x213) (lv' := [(9, .int x213), (1, .ref (B + 0)), (2, .int v43), (3, .int v45), (4, .int x46), (5, .ref (B + n48)), (6, .int v70), (7, .int x184), (8, .int x189)]) hx hb dL_law_448 hl (k := 8) rfl (by rw [e214]; rfl) (by decide) rfl (fun ls hl => ?_)
                                          refine lv_goto (tgt := 340) hx hb dL_law_451 (by decide) ?_
                                          exact ih77 _ _ _ _ hf  _ _ _ hh (lv_sub hl [1, 2, 3, 4, 5, 6, 7, 8, 0] rfl)
                                        · have hf := if_f hc212 hf
                                          refine lv_iconst (v := (0 : Int32)) hx hb dL_law_446 (by decide) ?_
                                          exact absurd (so_e hf) (by decide)
                                      · refine lv_icmp_ge (tgt := 442) hx hb dL_law_435 (by decide) (fun hc210 => ?_) (fun hc210 => ?_)
                                        · refine lv_iconst (v := (0 : Int32)) hx hb dL_law_442 (by decide) ?_
                                          exact hj215 _ (by rw [if_pos hc210]) ls (lv_sub hl [0, 1, 2, 3, 4, 5, 6, 7, 8] rfl)
                                        · refine lv_iconst (v := (1 : Int32)) hx hb dL_law_438 (by decide) ?_
                                          refine lv_goto (tgt := 443) hx hb dL_law_439 (by decide) ?_
                                          exact hj215 _ (by rw [if_neg hc210]) ls (lv_sub hl [0, 1, 2, 3, 4, 5, 6, 7, 8] rfl)
                                    · refine lv_if_le (tgt := 430) hx hb dL_law_423 (by decide) (fun hc208 => ?_) (fun hc208 => ?_)
                                      · refine lv_iconst (v := (0 : Int32)) hx hb dL_law_430 (by decide) ?_
                                        exact hj216 _ (by rw [if_pos hc208]) ls (lv_sub hl [2, 3, 4, 5, 6, 7, 1, 0, 8] rfl)
                                      · refine lv_iconst (v := (1 : Int32)) hx hb dL_law_426 (by decide) ?_
                                        refine lv_goto (tgt := 431) hx hb dL_law_427 (by decide) ?_
                                        exact hj216 _ (by rw [if_neg hc208]) ls (lv_sub hl [2, 3, 4, 5, 6, 7, 1, 0, 8] rfl)
                            · have hf := if_f hc68 hf
                              refine lv_iconst (v := (0 : Int32)) hx hb dL_law_234 (by decide) ?_
                              refine lv_istore (lv' := [(7, .int (0 : Int32)), (1, .ref (B + 0)), (2, .int v43), (3, .int v45), (4, .int x46), (5, .ref (B + n48)), (6, .int x64)]) hx hb dL_law_235 hl (by decide) rfl (fun ls hl => ?_)
                              refine wl2_W (P := fun (x217 : Int32) (w218 : Wd) => ∀ (H : Heap) (locs : List Loc) (ls : Array Slot), Hp B D n55 w218 s H locs → lv_has ls 12 [(1, .ref (B + 0)), (2, .int v43), (3, .int v45), (4, .int x46), (5, .ref (B + n48)), (6, .int x64), (7, .int x217)] → W p l e room_1 s m #[Value.ref b] below meth c H locs (n55 - 0) (2880 * (n55 - 0)) (lw_Z below #[Value.ref b] s) (F0 m 237 ls [])) hf (fun x217 w218 k219 ih220 hf  H locs ls hh hl => ?_)  _ _ _ hh (lv_sub hl [1, 2, 3, 4, 5, 6, 0] rfl)
                              refine lv_iload hx hb dL_law_237 (lv_at hl 6 rfl) ?_
                              refine lv_iload_n hx hb dL_law_239 rfl (lv_at hl 2 rfl) ?_
                              refine lv_icmp_gt (tgt := 316) hx hb dL_law_240 (by decide) (fun hc221 => ?_) (fun hc221 => ?_)
                              · have hf := if_t hc221 hf
                                obtain ⟨x222, e223⟩ : ∃ y : Int32, y = (x64 + (1 : Int32)) := ⟨_, rfl⟩
                                have hf := lt_e e223 hf
                                refine lv_iinc (v := x222) (lv' := [(6, .int x222), (1, .ref (B + 0)), (2, .int v43), (3, .int v45), (4, .int x46), (5, .ref (B + n48)), (7, .int x217)]) hx hb dL_law_316 hl (k := 5) rfl (by rw [e223]; rfl) (by decide) rfl (fun ls hl => ?_)
                                refine lv_goto (tgt := 228) hx hb dL_law_319 (by decide) ?_
                                exact ih67 _ _ hf  _ _ _ hh (lv_sub hl [1, 2, 3, 4, 5, 0] rfl)
                              · have hf := if_f hc221 hf
                                refine lv_iconst (v := (0 : Int32)) hx hb dL_law_243 (by decide) ?_
                                refine lv_istore (lv' := [(8, .int (0 : Int32)), (1, .ref (B + 0)), (2, .int v43), (3, .int v45), (4, .int x46), (5, .ref (B + n48)), (6, .int x64), (7, .int x217)]) hx hb dL_law_244 hl (by decide) rfl (fun ls hl => ?_)
                                refine lv_iconst (v := (1 : Int32)) hx hb dL_law_246 (by decide) ?_
                                refine lv_istore (lv' := [(9, .int (1 : Int32)), (8, .int (0 : Int32)), (1, .ref (B + 0)), (2, .int v43), (3, .int v45), (4, .int x46), (5, .ref (B + n48)), (6, .int x64), (7, .int x217)]) hx hb dL_law_247 hl (by decide) rfl (fun ls hl => ?_)
                                refine wl2_W (P := fun (x224 : Int32) (x225 : Int32) => ∀ (H : Heap) (locs : List Loc) (ls : Array Slot), Hp B D n55 w218 s H locs → lv_has ls 12 [(1, .ref (B + 0)), (2, .int v43), (3, .int v45), (4, .int x46), (5, .ref (B + n48)), (6, .int x64), (7, .int x217), (8, .int x224), (9, .int x225)] → W p l e room_1 s m #[Value.ref b] below meth c H locs (n55 - 0) (2880 * (n55 - 0)) (lw_Z below #[Value.ref b] s) (F0 m 249 ls [])) hf (fun x224 x225 k226 ih227 hf  H locs ls hh hl => ?_)  _ _ _ hh (lv_sub hl [2, 3, 4, 5, 6, 7, 8, 1, 0] rfl)
                                refine lv_iload hx hb dL_law_249 (lv_at hl 8 rfl) ?_
                                refine lv_iload hx hb dL_law_251 (lv_at hl 5 rfl) ?_
                                refine lv_icmp_gt (tgt := 294) hx hb dL_law_253 (by decide) (fun hc228 => ?_) (fun hc228 => ?_)
                                · have hf := if_t hc228 hf
                                  refine lv_aload_n hx hb dL_law_294 rfl (lv_at hl 0 rfl) ?_
                                  refine lv_iload hx hb dL_law_295 (lv_at hl 5 rfl) ?_
                                  refine lv_iload hx hb dL_law_297 (lv_at hl 6 rfl) ?_
                                  refine lv_iconst (v := (0 : Int32)) hx hb dL_law_299 (by decide) ?_
                                  obtain ⟨v230, w231, hc229, hf⟩ := c2_e hf
                                  refine q_V (w' := w231) (rest := []) X hml hh (some (.int v230)) (m_X7_shape l B D hN hg0 hc229) cf_X7_shape k_298 hg0 ci_7 rfl rfl hl.1 rfl (Nat.le_of_ble_eq_true rfl) ⟨Nat.le_of_ble_eq_true rfl, Nat.le_of_ble_eq_true rfl⟩ hZ dL_law_300 rfl (fun H locs hh => ?_)
                                  refine lv_iload hx hb dL_law_303 (lv_at hl 7 rfl) ?_
                                  refine lv_icmp_eq (tgt := 310) hx hb dL_law_305 (by decide) (fun hc232 => ?_) (fun hc232 => ?_)
                                  · have hf := if_t hc232 hf
                                    obtain ⟨x233, e234⟩ : ∃ y : Int32, y = (x217 + (1 : Int32)) := ⟨_, rfl⟩
                                    have hf := lt_e e234 hf
                                    refine lv_iinc (v := x233) (lv' := [(7, .int x233), (1, .ref (B + 0)), (2, .int v43), (3, .int v45), (4, .int x46), (5, .ref (B + n48)), (6, .int x64), (8, .int x224), (9, .int x225)]) hx hb dL_law_310 hl (k := 6) rfl (by rw [e234]; rfl) (by decide) rfl (fun ls hl => ?_)
                                    refine lv_goto (tgt := 237) hx hb dL_law_313 (by decide) ?_
                                    exact ih220 _ _ hf  _ _ _ hh (lv_sub hl [1, 2, 3, 4, 5, 6, 0] rfl)
                                  · have hf := if_f hc232 hf
                                    refine lv_iconst (v := (0 : Int32)) hx hb dL_law_308 (by decide) ?_
                                    exact absurd (so_e hf) (by decide)
                                · have hf := if_f hc228 hf
                                  refine lv_iconst (v := (1 : Int32)) hx hb dL_law_256 (by decide) ?_
                                  refine lv_istore (lv' := [(10, .int (1 : Int32)), (1, .ref (B + 0)), (2, .int v43), (3, .int v45), (4, .int x46), (5, .ref (B + n48)), (6, .int x64), (7, .int x217), (8, .int x224), (9, .int x225)]) hx hb dL_law_257 hl (by decide) rfl (fun ls hl => ?_)
                                  refine wl2_W (P := fun (x235 : Int32) (x236 : Int32) => ∀ (H : Heap) (locs : List Loc) (ls : Array Slot), Hp B D n55 w218 s H locs → lv_has ls 12 [(1, .ref (B + 0)), (2, .int v43), (3, .int v45), (4, .int x46), (5, .ref (B + n48)), (6, .int x64), (7, .int x217), (8, .int x235), (9, .int x225), (10, .int x236)] → W p l e room_1 s m #[Value.ref b] below meth c H locs (n55 - 0) (2880 * (n55 - 0)) (lw_Z below #[Value.ref b] s) (F0 m 259 ls [])) hf (fun x235 x236 k237 ih238 hf  H locs ls hh hl => ?_)  _ _ _ hh (lv_sub hl [1, 2, 3, 4, 5, 6, 7, 8, 9, 0] rfl)
                                  refine lv_iload hx hb dL_law_259 (lv_at hl 9 rfl) ?_
                                  refine lv_iload hx hb dL_law_261 (lv_at hl 6 rfl) ?_
                                  refine lv_icmp_gt (tgt := 288) hx hb dL_law_263 (by decide) (fun hc239 => ?_) (fun hc239 => ?_)
                                  · have hf := if_t hc239 hf
                                    obtain ⟨x240, e241⟩ : ∃ y : Int32, y = (x225 + (1 : Int32)) := ⟨_, rfl⟩
                                    have hf := lt_e e241 hf
                                    refine lv_iinc (v := x240) (lv' := [(9, .int x240), (1, .ref (B + 0)), (2, .int v43), (3, .int v45), (4, .int x46), (5, .ref (B + n48)), (6, .int x64), (7, .int x217), (8, .int x235), (10, .int x236)]) hx hb dL_law_288 hl (k := 8) rfl (by rw [e241]; rfl) (by decide) rfl (fun ls hl => ?_)
                                    refine lv_goto (tgt := 249) hx hb dL_law_291 (by decide) ?_
                                    exact ih227 _ _ hf  _ _ _ hh (lv_sub hl [1, 2, 3, 4, 5, 6, 7, 8, 0] rfl)
                                  · have hf := if_f hc239 hf
                                    refine lv_iload hx hb dL_law_266 (lv_at hl 7 rfl) ?_
                                    refine lv_aload hx hb dL_law_268 (lv_at hl 4 rfl) ?_
                                    refine lv_bipush (v := (6 : Int32)) hx hb dL_law_270 (by decide) ?_
                                    refine lv_iload hx hb dL_law_272 (lv_at hl 8 rfl) ?_
                                    refine lv_imul hx hb dL_law_274 ?_
                                    refine lv_iload hx hb dL_law_275 (lv_at hl 9 rfl) ?_
                                    refine lv_iadd hx hb dL_law_277 ?_
                                    refine q_ald X hh h58 dL_law_278 hf (fun hf => ?_)
                                    refine lv_iadd hx hb dL_law_279 ?_
                                    refine lv_topi (fun x243 e244 => ?_)
                                    have hf := lt_e e244 hf
                                    refine lv_istore (lv' := [(8, .int x243), (1, .ref (B + 0)), (2, .int v43), (3, .int v45), (4, .int x46), (5, .ref (B + n48)), (6, .int x64), (7, .int x217), (9, .int x225), (10, .int x236)]) hx hb dL_law_280 hl (by decide) rfl (fun ls hl => ?_)
                                    obtain ⟨x245, e246⟩ : ∃ y : Int32, y = (x236 + (1 : Int32)) := ⟨_, rfl⟩
                                    have hf := lt_e e246 hf
                                    refine lv_iinc (v := x245) (lv' := [(10, .int x245), (8, .int x243), (1, .ref (B + 0)), (2, .int v43), (3, .int v45), (4, .int x46), (5, .ref (B + n48)), (6, .int x64), (7, .int x217), (9, .int x225)]) hx hb dL_law_282 hl (k := 9) rfl (by rw [e246]; rfl) (by decide) rfl (fun ls hl => ?_)
                                    refine lv_goto (tgt := 259) hx hb dL_law_285 (by decide) ?_
                                    exact ih238 _ _ hf  _ _ _ hh (lv_sub hl [2, 3, 4, 5, 6, 7, 8, 1, 9, 0] rfl)
                          · have hf := if_f hc63 hf
                            refine lv_iconst (v := (1 : Int32)) hx hb dL_law_158 (by decide) ?_
                            refine lv_istore (lv' := [(7, .int (1 : Int32)), (1, .ref (B + 0)), (2, .int v43), (3, .int v45), (4, .int x46), (5, .ref (B + n48)), (6, .int x59)]) hx hb dL_law_159 hl (by decide) rfl (fun ls hl => ?_)
                            refine wl2_W (P := fun (x247 : Int32) (w248 : Wd) => ∀ (H : Heap) (locs : List Loc) (ls : Array Slot), Hp B D n55 w248 s H locs → lv_has ls 12 [(1, .ref (B + 0)), (2, .int v43), (3, .int v45), (4, .int x46), (5, .ref (B + n48)), (6, .int x59), (7, .int x247)] → W p l e room_1 s m #[Value.ref b] below meth c H locs (n55 - 0) (2880 * (n55 - 0)) (lw_Z below #[Value.ref b] s) (F0 m 161 ls [])) hf (fun x247 w248 k249 ih250 hf  H locs ls hh hl => ?_)  _ _ _ hh (lv_sub hl [1, 2, 3, 4, 5, 6, 0] rfl)
                            refine lv_iload hx hb dL_law_161 (lv_at hl 6 rfl) ?_
                            refine lv_iload_n hx hb dL_law_163 rfl (lv_at hl 2 rfl) ?_
                            refine lv_icmp_gt (tgt := 219) hx hb dL_law_164 (by decide) (fun hc251 => ?_) (fun hc251 => ?_)
                            · have hf := if_t hc251 hf
                              obtain ⟨x252, e253⟩ : ∃ y : Int32, y = (x59 + (1 : Int32)) := ⟨_, rfl⟩
                              have hf := lt_e e253 hf
                              refine lv_iinc (v := x252) (lv' := [(6, .int x252), (1, .ref (B + 0)), (2, .int v43), (3, .int v45), (4, .int x46), (5, .ref (B + n48)), (7, .int x247)]) hx hb dL_law_219 hl (k := 5) rfl (by rw [e253]; rfl) (by decide) rfl (fun ls hl => ?_)
                              refine lv_goto (tgt := 152) hx hb dL_law_222 (by decide) ?_
                              exact ih62 _ _ hf  _ _ _ hh (lv_sub hl [1, 2, 3, 4, 5, 0] rfl)
                            · have hf := if_f hc251 hf
                              refine lv_aload hx hb dL_law_167 (lv_at hl 4 rfl) ?_
                              refine lv_bipush (v := (6 : Int32)) hx hb dL_law_169 (by decide) ?_
                              refine lv_iload hx hb dL_law_171 (lv_at hl 5 rfl) ?_
                              refine lv_imul hx hb dL_law_173 ?_
                              refine lv_iload hx hb dL_law_174 (lv_at hl 6 rfl) ?_
                              refine lv_iadd hx hb dL_law_176 ?_
                              refine lv_topi (fun x254 e255 => ?_)
                              have hf := lt_e e255 hf
                              refine lv_iload hx hb dL_law_177 (lv_at hl 3 rfl) ?_
                              refine lv_iconst (v := (1 : Int32)) hx hb dL_law_179 (by decide) ?_
                              refine jn_W (P := fun j258 => ∀ (x257 : Int32), j258 x257 = some (1 : Int32) → ∀ (H : Heap) (locs : List Loc) (ls : Array Slot), Hp B D n55 w248 s H locs → lv_has ls 12 [(1, .ref (B + 0)), (2, .int v43), (3, .int v45), (4, .int x46), (5, .ref (B + n48)), (6, .int x59), (7, .int x247)] → W p l e room_1 s m #[Value.ref b] below meth c H locs (n55 - 0) (2880 * (n55 - 0)) (lw_Z below #[Value.ref b] s) (F0 m 212 ls [.int x257, .int x254, .ref (B + n48)])) hf (fun x257 hf  H locs ls hh hl => ?_) (fun j258 hj258 hf => ?_)
                              · refine q_ast X hh h58 dL_law_212 hf (fun w260 H locs hf hh => ?_)
                                obtain ⟨x261, e262⟩ : ∃ y : Int32, y = (x247 + (1 : Int32)) := ⟨_, rfl⟩
                                have hf := lt_e e262 hf
                                refine lv_iinc (v := x261) (lv' := [(7, .int x261), (1, .ref (B + 0)), (2, .int v43), (3, .int v45), (4, .int x46), (5, .ref (B + n48)), (6, .int x59)]) hx hb dL_law_213 hl (k := 6) rfl (by rw [e262]; rfl) (by decide) rfl (fun ls hl => ?_)
                                refine lv_goto (tgt := 161) hx hb dL_law_216 (by decide) ?_
                                exact ih250 _ _ hf  _ _ _ hh (lv_sub hl [1, 2, 3, 4, 5, 6, 0] rfl)
                              · refine jn_W (P := fun j263 => j263 = some (1 : Int32) → ∀ (H : Heap) (locs : List Loc) (ls : Array Slot), Hp B D n55 w248 s H locs → lv_has ls 12 [(1, .ref (B + 0)), (2, .int v43), (3, .int v45), (4, .int x46), (5, .ref (B + n48)), (6, .int x59), (7, .int x247)] → W p l e room_1 s m #[Value.ref b] below meth c H locs (n55 - 0) (2880 * (n55 - 0)) (lw_Z below #[Value.ref b] s) (F0 m 189 ls [.int x254, .ref (B + n48)])) hf (fun  hf  H locs ls hh hl => ?_) (fun j263 hj263 hf => ?_)
                                · refine lv_iconst (v := (1 : Int32)) hx hb dL_law_189 (by decide) ?_
                                  refine lv_aload_n hx hb dL_law_190 rfl (lv_at hl 0 rfl) ?_
                                  refine lv_iload hx hb dL_law_191 (lv_at hl 5 rfl) ?_
                                  refine lv_iload hx hb dL_law_193 (lv_at hl 6 rfl) ?_
                                  obtain ⟨v265, hc264, hf⟩ := c1_e hf
                                  refine q_V (w' := w248) (rest := [.int (1 : Int32), .int x254, .ref (B + n48)]) X hml hh (some (.int v265)) (m_X7_cell l B D hN hg0 hc264) cf_X7_cell k_194 hg0 ci_7 rfl rfl hl.1 rfl (Nat.le_of_ble_eq_true rfl) ⟨Nat.le_of_ble_eq_true rfl, Nat.le_of_ble_eq_true rfl⟩ hZ dL_law_195 rfl (fun H locs hh => ?_)
                                  refine q_min X hml hl.1 k_458 (Nat.le_of_ble_eq_true rfl) ⟨Nat.le_of_ble_eq_true rfl, Nat.le_of_ble_eq_true rfl⟩ hZ dL_law_198 ?_
                                  refine lv_topi (fun x266 e267 => ?_)
                                  have hf := lt_e e267 hf
                                  refine lv_goto (tgt := 212) hx hb dL_law_201 (by decide) ?_
                                  exact hj258 _ hf  _ _ _ hh (lv_sub hl [0, 1, 2, 3, 4, 5, 6] rfl)
                                · refine lv_icmp_eq (tgt := 189) hx hb dL_law_180 (by decide) (fun hc256 => ?_) (fun hc256 => ?_)
                                  · have hf := if_t hc256 hf
                                    exact hj263  hf  _ _ _ hh (lv_sub hl [0, 1, 2, 3, 4, 5, 6] rfl)
                                  · have hf := if_f hc256 hf
                                    refine lv_iload hx hb dL_law_183 (lv_at hl 3 rfl) ?_
                                    refine lv_iconst (v := (2 : Int32)) hx hb dL_law_185 (by decide) ?_
                                    refine lv_icmp_ne (tgt := 204) hx hb dL_law_186 (by decide) (fun hc268 => ?_) (fun hc268 => ?_)
                                    · have hf := if_f hc268 hf
                                      refine lv_aload_n hx hb dL_law_204 rfl (lv_at hl 0 rfl) ?_
                                      refine lv_iload hx hb dL_law_205 (lv_at hl 5 rfl) ?_
                                      refine lv_iload hx hb dL_law_207 (lv_at hl 6 rfl) ?_
                                      obtain ⟨v270, hc269, hf⟩ := c1_e hf
                                      refine q_V (w' := w248) (rest := [.int x254, .ref (B + n48)]) X hml hh (some (.int v270)) (m_X7_cell l B D hN hg0 hc269) cf_X7_cell k_194 hg0 ci_7 rfl rfl hl.1 rfl (Nat.le_of_ble_eq_true rfl) ⟨Nat.le_of_ble_eq_true rfl, Nat.le_of_ble_eq_true rfl⟩ hZ dL_law_209 rfl (fun H locs hh => ?_)
                                      exact hj258 _ hf  _ _ _ hh (lv_sub hl [0, 1, 2, 3, 4, 5, 6] rfl)
                                    · have hf := if_t hc268 hf
                                      exact hj263  hf  _ _ _ hh (lv_sub hl [0, 1, 2, 3, 4, 5, 6] rfl)
                      · have hf := if_f hc39 hf
                        refine lv_iconst (v := (0 : Int32)) hx hb dL_law_107 (by decide) ?_
                        exact absurd (so_e hf) (by decide)
set_option maxHeartbeats 4000000 in
set_option maxRecDepth 100000 in
theorem m_law (l : Launch) {p : Program} {e : Env} {s : State} {m : MethodId} {below : List Frame} {meth : Method} {c : Code} {b L : Nat} {xs : Nat → Int32} {D : DD} (X : Cx p s m #[Value.ref b] c code "GrowthGridLaw" D) (hml : c.maxLocals = 12) (hr : meth.sig.returnType = ret) (hlk : meth.locks = false) (hX : va_X b L xs s s.heap) (hbl : b < s.heap.size) (hf : f_law L xs = some (1 : Int32)) : W p l e room_1 s m #[Value.ref b] below meth c s.heap [] 0 0 (lw_Z below #[Value.ref b] s) (entryFrame m ([Value.ref b] : List Value).toArray 12) := by
  have hx := X.1
  have hb := X.2.1
  have hbA : ¬ (fun q : Nat => s.heap.size ≤ q) b := Nat.not_le.mpr hbl
  have hl := lv_entry ([.ref b]) (n := 12) (Nat.le_of_ble_eq_true rfl)
  rw [lg_entry_eq]
  generalize (lg_sl ([.ref b]) ++ List.replicate (12 - (lg_sl ([.ref b])).length) Slot.unset).toArray = ls at hl ⊢
  have hl : lv_has ls 12 [(0, .ref b)] := hl
  have hh : Hp s.heap.size D 0 w00 s s.heap [] := ⟨⟨rfl, fun k hk => absurd hk (Nat.not_lt_zero k)⟩, va_S.rf⟩
  obtain ⟨B, hB⟩ : ∃ B, B = s.heap.size := ⟨_, rfl⟩
  have hBs := hB
  rw [← hB] at hh hbA
  generalize hH0 : s.heap = H0 at hh
  generalize hL0 : ([] : List Loc) = locs at hh
  refine W.widen (k := 0 - 0) (n := 2880 * (0 - 0)) (Nat.zero_le _) (Nat.zero_le _) ?_
  have hRR : 0 + 143 ≤ 0 + room_1.cells ∧ 2880 * (0 + 143 - 0) ≤ room_1.slots := ⟨Nat.le_of_ble_eq_true rfl, Nat.le_of_ble_eq_true rfl⟩
  unfold f_law at hf
  refine r_new (n0 := 0) X hh ci_7 cin_7 k_16 k_17 k_7 (by omega) hRR dL_law_0 hf (fun n1 w1 H e1 h1 hf hh => ?_)
  refine lv_dup hx hb dL_law_3 rfl ?_
  obtain ⟨w2, hc2, hf⟩ := c1_e hf
  refine q_I (n0 := 0) (rest := [.ref (B + 0)]) X hml hh rfl (m_X7_init l B D h1 hc2) cf_X7_init k_18 hl.1 (Nat.le_of_ble_eq_true rfl) ⟨Nat.le_of_ble_eq_true rfl, Nat.le_of_ble_eq_true rfl⟩ (by omega) hRR dL_law_4 hf (fun n2 w3 H locs e2 hf hh => ?_)
  have en2 : n2 = 139 := by omega
  rw [en2] at hh ⊢
  exact m_main l X hml hr hlk hX hbl hbA hBs hf hh hl

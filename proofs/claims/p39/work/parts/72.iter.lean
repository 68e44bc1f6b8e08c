/-! one round of the law, a rule -/
theorem pshP_b (p : Nat) : 1 ≤ pshP p ∧ pshP p ≤ 8 := by
  unfold pshP
  split <;> omega
theorem pshG_t (p : Nat) (G : Nat → Gd) (g : Gd) : pshG p G g (pshP p - 1) = g := by
  unfold pshG pshP
  by_cases c : p < 8
  · rw [if_pos c, if_pos c]
    show (if p + 1 - 1 = p then g else G (p + 1 - 1)) = g
    rw [if_pos (by omega)]
  · rw [if_neg c, if_neg c]
    rfl
theorem sg_0 {w : Wd} {g : Gd} {p u n C R : Nat} {G : Nat → Gd} {K : Wd → Option Int32} {Q : Option Int32 → Prop} (H : Iv w g p u G) (hn : 139 ≤ n ∧ n < 143) (hC : g 0 = C) (hR : g 1 = R) (hA : AW w n g C R) (hK : ∀ w', Iv w' g p u G → AW w' n g C R → Q (K w')) :
    Q (if I (g 2) = 0 then c2 (f_X7_part 0 (I (C : Int)) (I (R : Int)) (0 : Int32) w) (fun v171 w172 => c2 (f_X7_longest 0 (0 : Int32) (0 : Int32) w172) (fun v174 w175 => (if v171 = v174 then c2 (f_X7_longest 0 (3 : Int32) (1 : Int32) w175) (fun v178 w179 => (if I ((len (Sg g C R) : Nat) : Int) = v178 then K w179 else some (0 : Int32))) else some (0 : Int32)))) else K w) := by
  have hv := H.2.1
  have v3 := hv.2.2.1
  by_cases c : g 2 = 0
  · obtain ⟨w1, e1, H1, f1⟩ := t_part H (a := C) (b := R) (by omega) (by omega) (i := 0) (by omega)
    obtain ⟨w2, e2, H2, f2⟩ := t_longest H1 hC hR (z := 0) (y := 0) (st := false) (fl := false) (by omega) (Or.inl rfl) (by decide) (by decide)
    obtain ⟨w3, e3, H3, f3⟩ := t_longest H2 hC hR (z := 3) (y := 1) (st := true) (fl := true) (by omega) (Or.inr rfl) (by decide) (by decide)
    have e1 : f_X7_part 0 (I (C : Int)) (I (R : Int)) (0 : Int32) w = some (I (Sg g C R 0), w1) := e1
    have e2 : f_X7_longest 0 (0 : Int32) (0 : Int32) w1 = some (I (BR false (lV g R false 0) C R), w2) := e2
    have e3 : f_X7_longest 0 (3 : Int32) (1 : Int32) w2 = some (I (BR true (lV g R true 1) C R), w3) := e3
    rw [if_pos (show I (g 2) = 0 by rw [c]; rfl), c2_r e1, c2_r e2, part_0 hv hC hR c, if_pos rfl, c2_r e3, length_0 hv hC hR c, if_pos rfl]
    exact hK w3 H3 (hA.of (fun b => by rw [f3 _ _ (Or.inl hn.1), f2 _ _ (Or.inl hn.1), f1 _ _ (Or.inl hn.1)]))
  · rw [if_neg (show ¬ I (g 2) = 0 by rw [i0, I_eq (by omega) (by omega) (by omega) (by omega)]; exact c)]
    exact hK w H hA
theorem sg_3 {w : Wd} {g : Gd} {p u n C R : Nat} {G : Nat → Gd} {K : Wd → Option Int32} {Q : Option Int32 → Prop} (H : Iv w g p u G) (hn : 139 ≤ n ∧ n < 143) (hC : g 0 = C) (hR : g 1 = R) (hA : AW w n g C R) (hK : ∀ w', Iv w' g p u G → AW w' n g C R → Q (K w')) :
    Q (if I (g 2) = (3 : Int32) then c2 (f_X7_part 0 (I (C : Int)) (I (R : Int)) (0 : Int32) w) (fun v160 w161 => c2 (f_X7_longest 0 (1 : Int32) (1 : Int32) w161) (fun v163 w164 => (if v160 = v163 then c2 (f_X7_longest 0 (2 : Int32) (0 : Int32) w164) (fun v167 w168 => (if I ((len (Sg g C R) : Nat) : Int) = v167 then K w168 else some (0 : Int32))) else some (0 : Int32)))) else K w) := by
  have hv := H.2.1
  have v3 := hv.2.2.1
  by_cases c : g 2 = 3
  · obtain ⟨w1, e1, H1, f1⟩ := t_part H (a := C) (b := R) (by omega) (by omega) (i := 0) (by omega)
    obtain ⟨w2, e2, H2, f2⟩ := t_longest H1 hC hR (z := 1) (y := 1) (st := true) (fl := false) (by omega) (Or.inr rfl) (by decide) (by decide)
    obtain ⟨w3, e3, H3, f3⟩ := t_longest H2 hC hR (z := 2) (y := 0) (st := false) (fl := true) (by omega) (Or.inl rfl) (by decide) (by decide)
    have e1 : f_X7_part 0 (I (C : Int)) (I (R : Int)) (0 : Int32) w = some (I (Sg g C R 0), w1) := e1
    have e2 : f_X7_longest 0 (1 : Int32) (1 : Int32) w1 = some (I (BR true (lV g R false 1) C R), w2) := e2
    have e3 : f_X7_longest 0 (2 : Int32) (0 : Int32) w2 = some (I (BR false (lV g R true 0) C R), w3) := e3
    rw [if_pos (show I (g 2) = (3 : Int32) by rw [c]; rfl), c2_r e1, c2_r e2, part_3 hv hC hR c, if_pos rfl, c2_r e3, length_3 hv hC hR c, if_pos rfl]
    exact hK w3 H3 (hA.of (fun b => by rw [f3 _ _ (Or.inl hn.1), f2 _ _ (Or.inl hn.1), f1 _ _ (Or.inl hn.1)]))
  · rw [if_neg (show ¬ I (g 2) = (3 : Int32) by rw [i3, I_eq (by omega) (by omega) (by omega) (by omega)]; exact c)]
    exact hK w H hA
theorem law_iter {w : Wd} {g : Gd} {p u C R i : Nat} {G : Nat → Gd} {k : Int32 → Wd → Nat → Option Int32} {Q : Option Int32 → Prop} (hi : i < 4) (H : Iv w g p u G) (hC : g 0 = C) (hR : g 1 = R) (fin : ∀ w' g' p' u' G', Iv w' g' p' u' G' → g' 0 = (C : Int) → g' 1 = (R : Int) → Q (k (I ((i + 1 : Nat) : Int)) w' (139 + i + 1))) :
    Q (c2 (f_X7_rule 0 (I (i : Int)) w) (fun v53 w54 => mk (139 + i) (0 + 143) 9 36 (lt2 ((139 + i) + 1) (clr w54 (139 + i)) (fun n55 w56 => wl2 (fun (x59 : Int32) (w60 : Wd) k61 => (if (I (C : Int)) < x59 then wl2 (fun (x64 : Int32) (w65 : Wd) k66 => (if (I (C : Int)) < x64 then c2 (f_X7_shape 0 (I (C : Int)) (I (R : Int)) (1 : Int32) w65) (fun v70 w71 => wl4 (fun (x72 : Int32) (x73 : Int32) (x74 : Int32) (w75 : Wd) k76 => (if (77 : Int32) ≤ x74 then c2 (f_X7_shape 0 (I (C : Int)) (I (R : Int)) (0 : Int32) w75) (fun v80 w81 => (if x72 = v80 then (if x73 = x72 then c2 (f_X7_turned 0 (I (C : Int)) (I (R : Int)) (0 : Int32) w81) (fun v85 w86 => (if v85 = v70 then jn (fun (w89 : Wd) => jn (fun (w92 : Wd) => c2 (f_X7_fits 0 (I (i : Int)) w92) (fun v95 w96 => (if v95 = (1 : Int32) then wl2 (fun (x98 : Int32) (x99 : Int32) k100 => (if (I (C : Int)) < x99 then c2 (f_X7_back 0 (I (i : Int)) w96) (fun v104 w105 => (if v104 = x98 then c1 (f_X7_count 0 (2 : Int32) w105) (fun v108 => (if v108 = (I (i : Int)) then c2 (f_X7_undo 0 w105) (fun v111 w112 => (if 0 ≤ v111 then c2 (f_X7_again 0 w112) (fun v115 w116 => wl1 (fun (x117 : Int32) k118 => (if (I (C : Int)) < x117 then c2 (f_X7_shape 0 (I (C : Int)) (I (R : Int)) (0 : Int32) w116) (fun v122 w123 => (if v122 = x72 then c2 (f_X7_undo 0 w123) (fun v126 w127 => lt ((I (i : Int)) + (1 : Int32)) (fun x128 => k x128 w127 n55)) else some (0 : Int32))) else wl1 (fun (x130 : Int32) k131 => (if (I (R : Int)) < x130 then lt (x117 + (1 : Int32)) (fun x134 => k118 x134) else c1 (f_X7_cell 0 x117 x130 w116) (fun v137 => ix (((6 : Int32) * x117) + x130) (ln (139 + i)) (fun j138 => (if v137 = (w116.1 (139 + i) j138) then lt (x130 + (1 : Int32)) (fun x140 => k131 x140) else some (0 : Int32)))))) fu (1 : Int32))) fu (1 : Int32)) else some (0 : Int32))) else some (0 : Int32))) else some (0 : Int32))) else wl2 (fun (x142 : Int32) (x143 : Int32) k144 => (if (I (R : Int)) < x143 then lt (x99 + (1 : Int32)) (fun x147 => k100 x142 x147) else c1 (f_X7_cell 0 x99 x143 w96) (fun v150 => ix (((6 : Int32) * x99) + x143) (ln (139 + i)) (fun j151 => lt (if v150 = (w96.1 (139 + i) j151) then (0 : Int32) else (1 : Int32)) (fun x153 => lt (x142 + x153) (fun x154 => lt (x143 + (1 : Int32)) (fun x156 => k144 x154 x156))))))) fu x98 (1 : Int32))) fu (0 : Int32) (1 : Int32) else some (0 : Int32)))) (fun j93 => (if (I (i : Int)) = (3 : Int32) then c2 (f_X7_part 0 (I (C : Int)) (I (R : Int)) (0 : Int32) w89) (fun v160 w161 => c2 (f_X7_longest 0 (1 : Int32) (1 : Int32) w161) (fun v163 w164 => (if v160 = v163 then c2 (f_X7_longest 0 (2 : Int32) (0 : Int32) w164) (fun v167 w168 => (if v70 = v167 then j93 w168 else some (0 : Int32))) else some (0 : Int32)))) else j93 w89))) (fun j90 => (if (I (i : Int)) = 0 then c2 (f_X7_part 0 (I (C : Int)) (I (R : Int)) (0 : Int32) w86) (fun v171 w172 => c2 (f_X7_longest 0 (0 : Int32) (0 : Int32) w172) (fun v174 w175 => (if v171 = v174 then c2 (f_X7_longest 0 (3 : Int32) (1 : Int32) w175) (fun v178 w179 => (if v70 = v178 then j90 w179 else some (0 : Int32))) else some (0 : Int32)))) else j90 w86)) else some (0 : Int32))) else some (0 : Int32)) else some (0 : Int32))) else c2 (f_X7_part 0 (I (C : Int)) (I (R : Int)) x74 w75) (fun v182 w183 => lt (x72 + v182) (fun x184 => c2 (f_X7_turned 0 (I (C : Int)) (I (R : Int)) x74 w183) (fun v187 w188 => lt (x73 + v187) (fun x189 => c2 (f_X7_part 0 (I (C : Int)) (I (R : Int)) (x74 + (1 : Int32)) w188) (fun v192 w193 => c2 (f_X7_part 0 (I (C : Int)) (I (R : Int)) x74 w193) (fun v195 w196 => (if v195 < v192 then some (0 : Int32) else c2 (f_X7_turned 0 (I (C : Int)) (I (R : Int)) (x74 + (1 : Int32)) w196) (fun v199 w200 => c2 (f_X7_turned 0 (I (C : Int)) (I (R : Int)) x74 w200) (fun v202 w203 => (if v202 < v199 then some (0 : Int32) else c2 (f_X7_part 0 (I (C : Int)) (I (R : Int)) x74 w203) (fun v206 w207 => lt (if v206 ≤ 0 then (0 : Int32) else (1 : Int32)) (fun x209 => lt (if v70 ≤ x74 then (0 : Int32) else (1 : Int32)) (fun x211 => (if x209 = x211 then lt (x74 + (1 : Int32)) (fun x213 => k76 x184 x189 x213 w207) else some (0 : Int32))))))))))))))))) fu (0 : Int32) (0 : Int32) (0 : Int32) w71) else wl2 (fun (x217 : Int32) (w218 : Wd) k219 => (if (I (R : Int)) < x217 then lt (x64 + (1 : Int32)) (fun x222 => k66 x222 w218) else wl2 (fun (x224 : Int32) (x225 : Int32) k226 => (if x64 < x225 then c2 (f_X7_shape 0 x64 x217 (0 : Int32) w218) (fun v230 w231 => (if v230 = x224 then lt (x217 + (1 : Int32)) (fun x233 => k219 x233 w231) else some (0 : Int32))) else wl2 (fun (x235 : Int32) (x236 : Int32) k237 => (if x217 < x236 then lt (x225 + (1 : Int32)) (fun x240 => k226 x235 x240) else ix (((6 : Int32) * x225) + x236) (ln (139 + i)) (fun j242 => lt (x235 + (w218.1 (139 + i) j242)) (fun x243 => lt (x236 + (1 : Int32)) (fun x245 => k237 x243 x245))))) fu x224 (1 : Int32))) fu (0 : Int32) (1 : Int32))) fu (0 : Int32) w65)) fu (0 : Int32) w60 else wl2 (fun (x247 : Int32) (w248 : Wd) k249 => (if (I (R : Int)) < x247 then lt (x59 + (1 : Int32)) (fun x252 => k61 x252 w248) else lt (((6 : Int32) * x59) + x247) (fun x254 => jn (fun (x257 : Int32) => ix x254 (ln (139 + i)) (fun j259 => lt (upI w248 (139 + i) j259 x257) (fun w260 => lt (x247 + (1 : Int32)) (fun x261 => k249 x261 w260)))) (fun j258 => jn (c1 (f_X7_cell 0 x59 x247 w248) (fun v265 => lt (if v265 < (1 : Int32) then v265 else (1 : Int32)) (fun x266 => j258 x266))) (fun j263 => (if (I (i : Int)) = (1 : Int32) then j263 else (if (I (i : Int)) = (2 : Int32) then j263 else c1 (f_X7_cell 0 x59 x247 w248) (fun v270 => j258 v270)))))))) fu (1 : Int32) w60)) fu (1 : Int32) w56)))) := by
  have hv := H.2.1
  have hn : 139 ≤ 139 + i ∧ 139 + i < 143 := by omega
  obtain ⟨wa, e1, Ha, -⟩ := t_rule H (q := (i : Int)) (by omega)
  have mkd : mk (139 + i) (0 + 143) 9 36 = fun (K : Option Int32) => K := funext fun K => if_pos ⟨by omega, kd_l0 (139 + i) hn.2 hn.1⟩
  rw [c2_r e1, mkd]
  show Q (lt2 _ _ _)
  rw [lt2_d]
  have Hb := Ha.fresh (n := 139 + i) hn.1
  obtain ⟨g1, Hb, c0, c1, c2'⟩ : ∃ g1 : Gd, Iv (clr wa (139 + i)) g1 (pshP p) 0 (pshG p G g) ∧ g1 0 = (C : Int) ∧ g1 1 = (R : Int) ∧ g1 2 = (i : Int) := ⟨grl g i, Hb, hC, hR, rfl⟩
  generalize pshP p = p1 at Hb
  generalize pshG p G g = G1 at Hb
  rw [← c2']
  have hv1 := Hb.2.1
  have v1 := hv1.1; have v2 := hv1.2.1
  have hCC : ((C : Nat) : Int) ≤ g1 0 := by omega
  have hRR : ((R : Nat) : Int) ≤ g1 1 := by omega
  have hs := (Sg_ok hv1 (x := C) (y := R) (by omega) (by omega)).1
  refine lp_A (Q := Q) Hb hn c0 c1 (fun w2 H2 A2 => ?_)
  refine lp_B (Q := Q) H2 hn c0 c1 A2 (fun w3 H3 A3 => ?_)
  obtain ⟨w4, e4, H4, f4⟩ := t_length H3 hCC hRR
  have A4 : AW w4 (139 + i) g1 C R := A3.of (fun b => f4 _ _ (Or.inl hn.1))
  rw [c2_r e4]
  refine lp_C (Q := Q) H4 hn c0 c1 A4 (fun w5 H5 A5 => ?_)
  obtain ⟨w6, e6, H6, f6⟩ := t_size H5 hCC hRR
  rw [hs.2.2.2] at e6
  obtain ⟨w7, e7, H7, f7⟩ := t_turned H6 hCC hRR (i := 0) (by omega)
  have e7 : f_X7_turned 0 (I (C : Int)) (I (R : Int)) (0 : Int32) w6 = some (I ((abv (Sg g1 C R) 0 (len (Sg g1 C R)) : Nat) : Int), w7) := e7
  rw [abv_0 hs] at e7
  have A7 : AW w7 (139 + i) g1 C R := A5.of (fun b => by rw [f7 _ _ (Or.inl hn.1), f6 _ _ (Or.inl hn.1)])
  rw [c2_r e6, if_pos rfl, if_pos rfl, c2_r e7, if_pos rfl, jn_d]
  refine sg_0 (Q := Q) H7 hn c0 c1 A7 (fun w8 H8 A8 => ?_)
  rw [jn_d]
  refine sg_3 (Q := Q) H8 hn c0 c1 A8 (fun w9 H9 A9 => ?_)
  obtain ⟨w10, e10, H10, f10⟩ := t_fits H9 c0 c1 hv1.2.2.1 (rim_own hv1 c0 c1)
  have A10 : AW w10 (139 + i) g1 C R := A9.of (fun b => f10 _ _ (Or.inl hn.1))
  rw [c2_r e10, if_pos rfl]
  refine Eq.mpr (congrArg Q (lp_D H10 hn c0 c1 A10)) ?_
  obtain ⟨w11, e11, H11, f11⟩ := t_back H10 c0 c1 hv1.2.2.1 (rim_own hv1 c0 c1) (all_own hv1 c0 c1)
  have e11 : f_X7_back 0 (I (g1 2)) w10 = some (I (WS (nw g1) C R), w11) := by
    rw [← dif_own hv1 c0 c1]
    exact e11
  have H11 : Iv w11 (gown g1 C R) (pshP p1) 0 (pshG p1 G1 g1) := H11
  have e12 : f_X7_count 0 (2 : Int32) w11 = some (I (g1 2)) := (t_count H11).2.2.1
  have hp2 := pshP_b p1
  have hG2 := pshG_t p1 G1 g1
  generalize pshP p1 = p2 at H11 hp2 hG2
  generalize pshG p1 G1 g1 = G2 at H11 hG2
  have hvo := gown_V hv1 c0 c1
  obtain ⟨w12, e13, H12, f12⟩ := t_undo H11 (by omega) (by rw [hG2]; exact hv1)
  rw [hG2] at H12
  obtain ⟨G3, hG3, H12⟩ : ∃ G3 : Nat → Gd, (∀ k, G3 k = if k = p2 then gown g1 C R else G2 k) ∧ Iv w12 g1 (p2 - 1) (0 + 1) G3 := ⟨_, fun k => rfl, H12⟩
  have g31 : G3 (p2 - 1 + 1) = gown g1 C R := by rw [hG3, if_pos (by omega)]
  have g32 : G3 (p2 - 1 + 1 - 1) = g1 := by rw [hG3, if_neg (by omega), show p2 - 1 + 1 - 1 = p2 - 1 by omega, hG2]
  obtain ⟨v13, w13, e14, H13, f13⟩ := t_again H12 (by omega) (by rw [g31]; exact hvo)
  rw [g31] at H13
  have A13 : AW w13 (139 + i) g1 C R := A10.of (fun b => by rw [f13 _ _ hn.1, f12 _ _ hn.1, f11 _ _ hn.1])
  rw [c2_r e11, if_pos rfl, c1_r e12, if_pos rfl, c2_r e13, if_pos (show (0 : Int32) ≤ I ((p2 - 1 : Nat) : Int) by rw [i0, I_le (by omega) (by omega) (by omega) (by omega)]; omega), c2_r e14]
  refine Eq.mpr (congrArg Q (lp_E H13 hn (gown_0 g1 C R) (gown_1 g1 C R) A13 (fun a b ha hb => gown_n hv1 c0 c1 ha hb))) ?_
  obtain ⟨w14, e15, H14, f14⟩ := t_size H13 (a := C) (b := R) (by rw [gown_0]; omega) (by rw [gown_1]; omega)
  have hso : tsum (Sg (gown g1 C R) C R) 75 = Wg g1 C R := by
    have h1 := (Sg_ok hvo (x := C) (y := R) (by omega) (by omega)).1.2.2.2
    rw [h1]
    exact WS_c C (fun a b ha hb => gown_w hv1 c0 c1 ha hb)
  rw [hso] at e15
  obtain ⟨w15, e16, H15, f15⟩ := t_undo H14 (by omega) (by rw [g32]; exact hv1)
  rw [g32] at H15
  rw [c2_r e15, if_pos rfl, c2_r e16, lt_d, c2', i1, I_add, nS]
  exact fin w15 g1 _ _ _ H15 c0 c1

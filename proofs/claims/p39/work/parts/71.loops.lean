/-! the law's loops, one by one; K is what follows -/
/-- the array at n tells the worths -/
def AW (w : Wd) (n : Nat) (g : Gd) (C R : Nat) : Prop := ∀ a b, a < C → b < R → w.1 n (6 * (a + 1) + (b + 1)) = I (wts g a b)
theorem AW.of {w w' : Wd} {n : Nat} {g : Gd} {C R : Nat} (h : AW w n g C R) (f : ∀ b, w'.1 n b = w.1 n b) : AW w' n g C R := fun a b ha hb => (f _).trans (h a b ha hb)
theorem nS1 (i : Nat) : I ((i : Int) + 1 + 1) = I (((i + 1 : Nat) : Int) + 1) := congrArg I (by omega)
theorem lp_A {w : Wd} {g : Gd} {p u n C R : Nat} {G : Nat → Gd} {K : Wd → Option Int32} {Q : Option Int32 → Prop} (H : Iv w g p u G) (hn : 139 ≤ n ∧ n < 143) (hC : g 0 = C) (hR : g 1 = R) (hK : ∀ w', Iv w' g p u G → AW w' n g C R → Q (K w')) :
    Q (wl2 (fun (x59 : Int32) (w60 : Wd) k61 => (if (I (C : Int)) < x59 then K w60 else wl2 (fun (x247 : Int32) (w248 : Wd) k249 => (if (I (R : Int)) < x247 then lt (x59 + (1 : Int32)) (fun x252 => k61 x252 w248) else lt (((6 : Int32) * x59) + x247) (fun x254 => jn (fun (x257 : Int32) => ix x254 (ln n) (fun j259 => lt (upI w248 n j259 x257) (fun w260 => lt (x247 + (1 : Int32)) (fun x261 => k249 x261 w260)))) (fun j258 => jn (c1 (f_X7_cell 0 x59 x247 w248) (fun v265 => lt (if v265 < (1 : Int32) then v265 else (1 : Int32)) (fun x266 => j258 x266))) (fun j263 => (if (I (g 2)) = (1 : Int32) then j263 else (if (I (g 2)) = (2 : Int32) then j263 else c1 (f_X7_cell 0 x59 x247 w248) (fun v270 => j258 v270)))))))) fu (1 : Int32) w60)) fu (1 : Int32) w) := by
  have hv := H.2.1
  have v1 := hv.1; have v2 := hv.2.1; have v3 := hv.2.2.1
  have hl : ln n = 36 := (kd_l0 n hn.2 hn.1).2
  refine wl2_inv (Q := Q) C (fun i x (v : Wd) => x = I ((i : Int) + 1) ∧ Iv v g p u G ∧ ∀ a b, a < i → b < R → v.1 n (6 * (a + 1) + (b + 1)) = I (wts g a b)) (fu_lt (by omega)) ⟨rfl, H, fun a b h => absurd h (by omega)⟩ ?_ ?_
  · rintro i hi x v ⟨rfl, Hv, hA⟩ k
    left
    rw [if_neg (show ¬ (I (C : Int) < I ((i : Int) + 1)) by rw [I_lt (by omega) (by omega) (by omega) (by omega)]; omega)]
    refine wl2_inv (Q := fun r => ∃ t0 t1, (t0 = I (((i + 1 : Nat) : Int) + 1) ∧ Iv t1 g p u G ∧ ∀ a b, a < i + 1 → b < R → t1.1 n (6 * (a + 1) + (b + 1)) = I (wts g a b)) ∧ r = k t0 t1) R (fun j y (v : Wd) => y = I ((j : Int) + 1) ∧ Iv v g p u G ∧ (∀ a b, a < i → b < R → v.1 n (6 * (a + 1) + (b + 1)) = I (wts g a b)) ∧ ∀ b, b < j → v.1 n (6 * (i + 1) + (b + 1)) = I (wts g i b)) (fu_lt (by omega)) ⟨rfl, Hv, hA, fun b h => absurd h (by omega)⟩ ?_ ?_
    · rintro j hj y v ⟨rfl, Hv, hA, hB⟩ kk
      have Hc := t_cell Hv (x := i) (y := j) (by omega) (by omega)
      have hc1 : ∀ {ρ : Type} (K : Int32 → Option ρ), c1 (f_X7_cell 0 (I ((i : Int) + 1)) (I ((j : Int) + 1)) v) K = K (I (g (3 + (5 * i + j)))) := fun K => c1_r Hc K
      have hb := hv.g0 (q := 5 * i + j) (by omega)
      left
      refine ⟨I (((j + 1 : Nat) : Int) + 1), upI v n (6 * (i + 1) + (j + 1)) (I (wts g i j)), ⟨rfl, Hv.far rfl (fun a b h => upI_n (by omega)), fun a b ha hb => by rw [upI_n (by omega)]; exact hA a b ha hb, fun b hb => ?_⟩, ?_⟩
      · by_cases e : b = j
        · subst e; rw [upI_s]
        · rw [upI_n (by omega)]; exact hB b (by omega)
      · have hX : ∀ z : Int32, z = I (wts g i j) → ix (I (6 * ((i : Int) + 1) + ((j : Int) + 1))) (ln n) (fun j259 => kk (I ((j : Int) + 1 + 1)) (upI v n j259 z)) = kk (I (((j + 1 : Nat) : Int) + 1)) (upI v n (6 * (i + 1) + (j + 1)) (I (wts g i j))) := fun z hz => by
          rw [hz, hl, ix_d (by omega) (by omega) (by decide), show (6 * ((i : Int) + 1) + ((j : Int) + 1)).toNat = 6 * (i + 1) + (j + 1) by omega, nS1]
        rw [if_neg (show ¬ (I (R : Int) < I ((j : Int) + 1)) by rw [I_lt (by omega) (by omega) (by omega) (by omega)]; omega)]
        simp only [lt_d, jn_d, hc1, ↓j_m1, ↓j_m2, ↓j_m3, ↓j_m5, ↓j_m6, ↓j_m11, ↓j_m12, ↓j_m13, ↓j_m14, ↓j_m1000, j_0, j_1, j_2, j_3, j_4, j_5, j_6, j_7, j_8, j_9, j_10, j_12, j_14, j_20, j_25, j_26, j_28, j_30, j_36, j_48, j_49, j_50, j_53, j_57, j_59, j_60, j_63, j_75, j_80, j_99, j_100, j_196, j_255, j_1000, I_add, I_mul]
        simp (disch := omega) only [I_eq, I_lt, I_ite]
        by_cases c1 : g 2 = 1
        · rw [if_pos c1]
          refine hX _ (congrArg I ?_)
          unfold wts worth
          rw [if_pos c1]
          (repeat' split) <;> omega
        · rw [if_neg c1]
          by_cases c2 : g 2 = 2
          · rw [if_pos c2]
            refine hX _ (congrArg I ?_)
            unfold wts worth
            rw [if_neg c1, if_pos c2]
            (repeat' split) <;> omega
          · rw [if_neg c2]
            refine hX _ (congrArg I ?_)
            unfold wts worth
            rw [if_neg c1, if_neg c2]
    · rintro y v ⟨rfl, Hv, hA, hB⟩ kk
      rw [if_pos (show I (R : Int) < I ((R : Int) + 1) by rw [I_lt (by omega) (by omega) (by omega) (by omega)]; omega), lt_d, i1, I_add, nS1]
      refine ⟨_, v, ⟨rfl, Hv, fun a b ha hb => ?_⟩, rfl⟩
      by_cases e : a = i
      · subst e; exact hB b hb
      · exact hA a b (by omega) hb
  · rintro x v ⟨rfl, Hv, hA⟩ k
    rw [if_pos (show I (C : Int) < I ((C : Int) + 1) by rw [I_lt (by omega) (by omega) (by omega) (by omega)]; omega)]
    exact hK v Hv hA
theorem lp_B {w : Wd} {g : Gd} {p u n C R : Nat} {G : Nat → Gd} {K : Wd → Option Int32} {Q : Option Int32 → Prop} (H : Iv w g p u G) (hn : 139 ≤ n ∧ n < 143) (hC : g 0 = C) (hR : g 1 = R) (hW : AW w n g C R) (hK : ∀ w', Iv w' g p u G → AW w' n g C R → Q (K w')) :
    Q (wl2 (fun (x64 : Int32) (w65 : Wd) k66 => (if (I (C : Int)) < x64 then K w65 else wl2 (fun (x217 : Int32) (w218 : Wd) k219 => (if (I (R : Int)) < x217 then lt (x64 + (1 : Int32)) (fun x222 => k66 x222 w218) else wl2 (fun (x224 : Int32) (x225 : Int32) k226 => (if x64 < x225 then c2 (f_X7_shape 0 x64 x217 (0 : Int32) w218) (fun v230 w231 => (if v230 = x224 then lt (x217 + (1 : Int32)) (fun x233 => k219 x233 w231) else some (0 : Int32))) else wl2 (fun (x235 : Int32) (x236 : Int32) k237 => (if x217 < x236 then lt (x225 + (1 : Int32)) (fun x240 => k226 x235 x240) else ix (((6 : Int32) * x225) + x236) (ln n) (fun j242 => lt (x235 + (w218.1 n j242)) (fun x243 => lt (x236 + (1 : Int32)) (fun x245 => k237 x243 x245))))) fu x224 (1 : Int32))) fu (0 : Int32) (1 : Int32))) fu (0 : Int32) w65)) fu (0 : Int32) w) := by
  have hv := H.2.1
  have v1 := hv.1; have v2 := hv.2.1; have v3 := hv.2.2.1
  have hl : ln n = 36 := (kd_l0 n hn.2 hn.1).2
  refine wl2_inv (Q := Q) (C + 1) (fun i x (v : Wd) => x = I (i : Int) ∧ Iv v g p u G ∧ AW v n g C R) (fu_lt (by omega)) ⟨rfl, H, hW⟩ ?_ ?_
  · rintro i hi x v ⟨rfl, Hv, hA⟩ k
    left
    rw [if_neg (show ¬ (I (C : Int) < I (i : Int)) by rw [I_lt (by omega) (by omega) (by omega) (by omega)]; omega)]
    refine wl2_inv (Q := fun r => ∃ t0 t1, (t0 = I ((i + 1 : Nat) : Int) ∧ Iv t1 g p u G ∧ AW t1 n g C R) ∧ r = k t0 t1) (R + 1) (fun j y (v : Wd) => y = I (j : Int) ∧ Iv v g p u G ∧ AW v n g C R) (fu_lt (by omega)) ⟨rfl, Hv, hA⟩ ?_ ?_
    · rintro j hj y v ⟨rfl, Hv, hA⟩ kk
      obtain ⟨w', e1, H', f'⟩ := t_size Hv (a := i) (b := j) (by omega) (by omega)
      have hs := (Sg_ok hv (x := i) (y := j) (by omega) (by omega)).1.2.2.2
      have hs : tsum (Sg g i j) 75 = WS (wts g) i j := hs
      rw [hs] at e1
      left
      refine ⟨I ((j + 1 : Nat) : Int), w', ⟨rfl, H', hA.of (fun b => f' _ _ (Or.inl hn.1))⟩, ?_⟩
      rw [if_neg (show ¬ (I (R : Int) < I (j : Int)) by rw [I_lt (by omega) (by omega) (by omega) (by omega)]; omega)]
      refine wl2_for i (fun a => I (WS (wts g) a j)) (fun a => I ((a : Int) + 1)) (fu_lt (by omega)) rfl rfl (fun a ha k3 => ?_) (fun k3 => ?_)
      · rw [if_neg (show ¬ (I (i : Int) < I ((a : Int) + 1)) by rw [I_lt (by omega) (by omega) (by omega) (by omega)]; omega)]
        refine wl2_for j (fun b => I (WS (wts g) a j + csum (wts g a) b)) (fun b => I ((b : Int) + 1)) (fu_lt (by omega)) (congrArg I (by show _ = _ + (0 : Int); omega)) rfl (fun b hb k4 => ?_) (fun k4 => ?_)
        · rw [if_neg (show ¬ (I (j : Int) < I ((b : Int) + 1)) by rw [I_lt (by omega) (by omega) (by omega) (by omega)]; omega)]
          simp only [↓j_m1, ↓j_m2, ↓j_m3, ↓j_m5, ↓j_m6, ↓j_m11, ↓j_m12, ↓j_m13, ↓j_m14, ↓j_m1000, j_0, j_1, j_2, j_3, j_4, j_5, j_6, j_7, j_8, j_9, j_10, j_12, j_14, j_20, j_25, j_26, j_28, j_30, j_36, j_48, j_49, j_50, j_53, j_57, j_59, j_60, j_63, j_75, j_80, j_99, j_100, j_196, j_255, j_1000, I_add, I_mul]
          rw [hl, ix_d (by omega) (by omega) (by decide), show (6 * ((a : Int) + 1) + ((b : Int) + 1)).toNat = 6 * (a + 1) + (b + 1) by omega, hA a b (by omega) (by omega), lt_d, lt_d, I_add, nS1]
          exact congrArg (fun z => k4 z _) (congrArg I (by show _ = WS (wts g) a j + (csum (wts g a) b + wts g a b); omega))
        · rw [if_pos (show I (j : Int) < I ((j : Int) + 1) by rw [I_lt (by omega) (by omega) (by omega) (by omega)]; omega), lt_d, i1, I_add, nS1]
          rfl
      · rw [if_pos (show I (i : Int) < I ((i : Int) + 1) by rw [I_lt (by omega) (by omega) (by omega) (by omega)]; omega), c2_r e1, if_pos rfl, lt_d, i1, I_add, nS]
    · rintro y v ⟨rfl, Hv, hA⟩ kk
      rw [if_pos (show I (R : Int) < I ((R + 1 : Nat) : Int) by rw [I_lt (by omega) (by omega) (by omega) (by omega)]; omega), lt_d, i1, I_add, nS]
      exact ⟨_, v, ⟨rfl, Hv, hA⟩, rfl⟩
  · rintro x v ⟨rfl, Hv, hA⟩ k
    rw [if_pos (show I (C : Int) < I ((C + 1 : Nat) : Int) by rw [I_lt (by omega) (by omega) (by omega) (by omega)]; omega)]
    exact hK v Hv hA
theorem lp_C {w : Wd} {g : Gd} {p u n C R : Nat} {G : Nat → Gd} {K : Int32 → Int32 → Wd → Option Int32} {Q : Option Int32 → Prop} (H : Iv w g p u G) (hn : 139 ≤ n ∧ n < 143) (hC : g 0 = C) (hR : g 1 = R) (hW : AW w n g C R) (hK : ∀ w', Iv w' g p u G → AW w' n g C R → Q (K (I (Wg g C R)) (I (Wg g C R)) w')) :
    Q (wl4 (fun (x72 : Int32) (x73 : Int32) (x74 : Int32) (w75 : Wd) k76 => (if (77 : Int32) ≤ x74 then K x72 x73 w75 else c2 (f_X7_part 0 (I (C : Int)) (I (R : Int)) x74 w75) (fun v182 w183 => lt (x72 + v182) (fun x184 => c2 (f_X7_turned 0 (I (C : Int)) (I (R : Int)) x74 w183) (fun v187 w188 => lt (x73 + v187) (fun x189 => c2 (f_X7_part 0 (I (C : Int)) (I (R : Int)) (x74 + (1 : Int32)) w188) (fun v192 w193 => c2 (f_X7_part 0 (I (C : Int)) (I (R : Int)) x74 w193) (fun v195 w196 => (if v195 < v192 then some (0 : Int32) else c2 (f_X7_turned 0 (I (C : Int)) (I (R : Int)) (x74 + (1 : Int32)) w196) (fun v199 w200 => c2 (f_X7_turned 0 (I (C : Int)) (I (R : Int)) x74 w200) (fun v202 w203 => (if v202 < v199 then some (0 : Int32) else c2 (f_X7_part 0 (I (C : Int)) (I (R : Int)) x74 w203) (fun v206 w207 => lt (if v206 ≤ 0 then (0 : Int32) else (1 : Int32)) (fun x209 => lt (if (I ((len (Sg g C R) : Nat) : Int)) ≤ x74 then (0 : Int32) else (1 : Int32)) (fun x211 => (if x209 = x211 then lt (x74 + (1 : Int32)) (fun x213 => k76 x184 x189 x213 w207) else some (0 : Int32))))))))))))))))) fu (0 : Int32) (0 : Int32) (0 : Int32) w) := by
  have hv := H.2.1
  have v1 := hv.1; have v2 := hv.2.1; have v3 := hv.2.2.1
  have hs := (Sg_ok hv (x := C) (y := R) (by omega) (by omega)).1
  have hwb := Wg_b hv (x := C) (y := R) (by omega) (by omega)
  have hlb := len_b (Sg g C R)
  refine wl4_inv (Q := Q) 77 (fun i x y z (v : Wd) => x = I (tsum (Sg g C R) i) ∧ y = I (tsm (Sg g C R) (len (Sg g C R)) i) ∧ z = I (i : Int) ∧ Iv v g p u G ∧ AW v n g C R) (fu_lt (by omega)) ⟨rfl, rfl, rfl, H, hW⟩ ?_ ?_
  · rintro i hi x y z v ⟨rfl, rfl, rfl, Hv, hA⟩ k
    have hCC : ((C : Nat) : Int) ≤ g 0 := by omega
    have hRR : ((R : Nat) : Int) ≤ g 1 := by omega
    obtain ⟨w1, e1, H1, f1⟩ := t_part Hv hCC hRR (i := i) (by omega)
    obtain ⟨w2, e2, H2, f2⟩ := t_turned H1 hCC hRR (i := i) (by omega)
    obtain ⟨w3, e3, H3, f3⟩ := t_part H2 hCC hRR (i := i + 1) (by omega)
    obtain ⟨w4, e4, H4, f4⟩ := t_part H3 hCC hRR (i := i) (by omega)
    obtain ⟨w5, e5, H5, f5⟩ := t_turned H4 hCC hRR (i := i + 1) (by omega)
    obtain ⟨w6, e6, H6, f6⟩ := t_turned H5 hCC hRR (i := i) (by omega)
    obtain ⟨w7, e7, H7, f7⟩ := t_part H6 hCC hRR (i := i) (by omega)
    have q1 := hs.1 i; have q2 := hs.b i; have q3 := hs.1 (i + 1); have q4 := hs.b (i + 1); have q5 := hs.2.1 i
    have a1 := abv_le (Sg g C R) ((i : Nat) : Int) (len (Sg g C R))
    have a2 := abv_le (Sg g C R) ((i + 1 : Nat) : Int) (len (Sg g C R))
    have a3 := abv_d (Sg g C R) (i : Int) (len (Sg g C R))
    rw [show (i : Int) + 1 = ((i + 1 : Nat) : Int) by omega] at a3
    have a4 := len_p hs i
    have ei : I (i : Int) + (1 : Int32) = I ((i + 1 : Nat) : Int) := by rw [i1, I_add, nS]
    left
    refine ⟨I (tsum (Sg g C R) (i + 1)), I (tsm (Sg g C R) (len (Sg g C R)) (i + 1)), I ((i + 1 : Nat) : Int), w7, ⟨rfl, rfl, rfl, H7, hA.of (fun b => by rw [f7 _ _ (Or.inl hn.1), f6 _ _ (Or.inl hn.1), f5 _ _ (Or.inl hn.1), f4 _ _ (Or.inl hn.1), f3 _ _ (Or.inl hn.1), f2 _ _ (Or.inl hn.1), f1 _ _ (Or.inl hn.1)])⟩, ?_⟩
    have t1 : I (tsum (Sg g C R) i) + I (Sg g C R i) = I (tsum (Sg g C R) (i + 1)) := I_add _ _
    have t2 : I (tsm (Sg g C R) (len (Sg g C R)) i) + I (abv (Sg g C R) i (len (Sg g C R))) = I (tsm (Sg g C R) (len (Sg g C R)) (i + 1)) := I_add _ _
    rw [if_neg (show ¬ ((77 : Int32) ≤ I (i : Int)) by rw [show (77 : Int32) = I 77 from rfl, I_le (by omega) (by omega) (by omega) (by omega)]; omega), ei, c2_r e1, lt_d, t1, c2_r e2, lt_d, t2, c2_r e3, c2_r e4, if_neg (by rw [I_lt (by omega) (by omega) (by omega) (by omega)]; omega), c2_r e5, c2_r e6, if_neg (by rw [I_lt (by omega) (by omega) (by omega) (by omega)]; omega), c2_r e7, lt_d, lt_d, lt_d, if_pos ?_]
    simp (disch := omega) only [↓j_m1, ↓j_m2, ↓j_m3, ↓j_m5, ↓j_m6, ↓j_m11, ↓j_m12, ↓j_m13, ↓j_m14, ↓j_m1000, j_0, j_1, j_2, j_3, j_4, j_5, j_6, j_7, j_8, j_9, j_10, j_12, j_14, j_20, j_25, j_26, j_28, j_30, j_36, j_48, j_49, j_50, j_53, j_57, j_59, j_60, j_63, j_75, j_80, j_99, j_100, j_196, j_255, j_1000, I_le, I_ite]
    exact congrArg I (by (repeat' split) <;> omega)
  · rintro x y z v ⟨rfl, rfl, rfl, Hv, hA⟩ k
    rw [if_pos (show (77 : Int32) ≤ I ((77 : Nat) : Int) by decide), tsm_W hs hwb.2, hs.t 2]
    exact hK v Hv hA
theorem lp_D {w : Wd} {g : Gd} {p u n C R : Nat} {G : Nat → Gd} {K : Int32 → Option Int32} (H : Iv w g p u G) (hn : 139 ≤ n ∧ n < 143) (hC : g 0 = C) (hR : g 1 = R) (hA : AW w n g C R) :
    wl2 (fun (x98 : Int32) (x99 : Int32) k100 => (if (I (C : Int)) < x99 then K x98 else wl2 (fun (x142 : Int32) (x143 : Int32) k144 => (if (I (R : Int)) < x143 then lt (x99 + (1 : Int32)) (fun x147 => k100 x142 x147) else c1 (f_X7_cell 0 x99 x143 w) (fun v150 => ix (((6 : Int32) * x99) + x143) (ln n) (fun j151 => lt (if v150 = (w.1 n j151) then (0 : Int32) else (1 : Int32)) (fun x153 => lt (x142 + x153) (fun x154 => lt (x143 + (1 : Int32)) (fun x156 => k144 x154 x156))))))) fu x98 (1 : Int32))) fu (0 : Int32) (1 : Int32) = K (I (WS (nw g) C R)) := by
  have hv := H.2.1
  have v1 := hv.1; have v2 := hv.2.1; have v3 := hv.2.2.1
  have hl : ln n = 36 := (kd_l0 n hn.2 hn.1).2
  refine wl2_for C (fun a => I (WS (nw g) a R)) (fun a => I ((a : Int) + 1)) (fu_lt (by omega)) rfl rfl (fun a ha k => ?_) (fun k => ?_)
  · rw [if_neg (show ¬ (I (C : Int) < I ((a : Int) + 1)) by rw [I_lt (by omega) (by omega) (by omega) (by omega)]; omega)]
    refine wl2_for R (fun b => I (WS (nw g) a R + csum (nw g a) b)) (fun b => I ((b : Int) + 1)) (fu_lt (by omega)) (congrArg I (by show _ = _ + (0 : Int); omega)) rfl (fun b hb k2 => ?_) (fun k2 => ?_)
    · have Hc := t_cell H (x := a) (y := b) (by omega) (by omega)
      have hb1 := hv.g0 (q := 5 * a + b) (by omega)
      have hb2 := wts_b hv a (by omega) b (by omega)
      rw [if_neg (show ¬ (I (R : Int) < I ((b : Int) + 1)) by rw [I_lt (by omega) (by omega) (by omega) (by omega)]; omega), c1_r Hc]
      simp only [↓j_m1, ↓j_m2, ↓j_m3, ↓j_m5, ↓j_m6, ↓j_m11, ↓j_m12, ↓j_m13, ↓j_m14, ↓j_m1000, j_0, j_1, j_2, j_3, j_4, j_5, j_6, j_7, j_8, j_9, j_10, j_12, j_14, j_20, j_25, j_26, j_28, j_30, j_36, j_48, j_49, j_50, j_53, j_57, j_59, j_60, j_63, j_75, j_80, j_99, j_100, j_196, j_255, j_1000, I_add, I_mul]
      rw [hl, ix_d (by omega) (by omega) (by decide), show (6 * ((a : Int) + 1) + ((b : Int) + 1)).toNat = 6 * (a + 1) + (b + 1) by omega, hA a b ha hb, lt_d, lt_d, lt_d, nS1]
      simp (disch := omega) only [I_eq, I_ite, I_add]
      exact congrArg (fun z => k2 z _) (congrArg I (by show _ = WS (nw g) a R + (csum (nw g a) b + nw g a b); unfold nw; omega))
    · rw [if_pos (show I (R : Int) < I ((R : Int) + 1) by rw [I_lt (by omega) (by omega) (by omega) (by omega)]; omega), lt_d, i1, I_add, nS1]
      rfl
  · rw [if_pos (show I (C : Int) < I ((C : Int) + 1) by rw [I_lt (by omega) (by omega) (by omega) (by omega)]; omega)]
theorem lp_E {w : Wd} {g g1 : Gd} {p u n C R : Nat} {G : Nat → Gd} {K : Option Int32} (H : Iv w g p u G) (hn : 139 ≤ n ∧ n < 143) (hC : g 0 = C) (hR : g 1 = R) (hA : AW w n g1 C R) (he : ∀ a b, a < C → b < R → g (3 + (5 * a + b)) = wts g1 a b) :
    wl1 (fun (x117 : Int32) k118 => (if (I (C : Int)) < x117 then K else wl1 (fun (x130 : Int32) k131 => (if (I (R : Int)) < x130 then lt (x117 + (1 : Int32)) (fun x134 => k118 x134) else c1 (f_X7_cell 0 x117 x130 w) (fun v137 => ix (((6 : Int32) * x117) + x130) (ln n) (fun j138 => (if v137 = (w.1 n j138) then lt (x130 + (1 : Int32)) (fun x140 => k131 x140) else some (0 : Int32)))))) fu (1 : Int32))) fu (1 : Int32) = K := by
  have hv := H.2.1
  have v1 := hv.1; have v2 := hv.2.1; have v3 := hv.2.2.1
  have hl : ln n = 36 := (kd_l0 n hn.2 hn.1).2
  refine wl1_for C (fun a => I ((a : Int) + 1)) (fu_lt (by omega)) rfl (fun a ha k => ?_) (fun k => ?_)
  · rw [if_neg (show ¬ (I (C : Int) < I ((a : Int) + 1)) by rw [I_lt (by omega) (by omega) (by omega) (by omega)]; omega)]
    refine wl1_for R (fun b => I ((b : Int) + 1)) (fu_lt (by omega)) rfl (fun b hb k2 => ?_) (fun k2 => ?_)
    · have Hc := t_cell H (x := a) (y := b) (by omega) (by omega)
      rw [he a b ha hb] at Hc
      rw [if_neg (show ¬ (I (R : Int) < I ((b : Int) + 1)) by rw [I_lt (by omega) (by omega) (by omega) (by omega)]; omega), c1_r Hc]
      simp only [↓j_m1, ↓j_m2, ↓j_m3, ↓j_m5, ↓j_m6, ↓j_m11, ↓j_m12, ↓j_m13, ↓j_m14, ↓j_m1000, j_0, j_1, j_2, j_3, j_4, j_5, j_6, j_7, j_8, j_9, j_10, j_12, j_14, j_20, j_25, j_26, j_28, j_30, j_36, j_48, j_49, j_50, j_53, j_57, j_59, j_60, j_63, j_75, j_80, j_99, j_100, j_196, j_255, j_1000, I_add, I_mul]
      rw [hl, ix_d (by omega) (by omega) (by decide), show (6 * ((a : Int) + 1) + ((b : Int) + 1)).toNat = 6 * (a + 1) + (b + 1) by omega, hA a b ha hb, if_pos rfl, lt_d, nS1]
    · rw [if_pos (show I (R : Int) < I ((R : Int) + 1) by rw [I_lt (by omega) (by omega) (by omega) (by omega)]; omega), lt_d, i1, I_add, nS1]
  · rw [if_pos (show I (C : Int) < I ((C : Int) + 1) by rw [I_lt (by omega) (by omega) (by omega) (by omega)]; omega)]

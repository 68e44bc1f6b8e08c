/-! back, by both -/
def All3 (q : Int) (g : Gd) (C R : Nat) : Prop := ∀ i j, i < C → j < R → BM q g C R i j ≤ 3
def SNf (q : Int) (g : Gd) (C R p : Nat) : Int := SN q g C R (fun _ => 0) C 0 p
def BTm (v : Wd) (q : Int) (g : Gd) (C R i j : Nat) : Prop := ∀ i' j', i' ≤ C → j' ≤ R → (i' = 0 ∨ j' = 0 ∨ i' ≤ i ∨ (i' = i + 1 ∧ j' ≤ j)) → MS v (C - i') (R - j') (BK q g C R i' j')
theorem BTm_0 {v : Wd} {q : Int} {g : Gd} {C R : Nat} (hg : MwC v g) (hC : g 0 = C) (hR : g 1 = R) : BTm v q g C R 0 0 := fun i' j' h1 h2 h3 => by
  have h := fun k (hk : k < 80) => hg (C - i') (R - j') (by omega) (by omega) k hk
  by_cases c : i' = 0
  · subst c; exact h
  · obtain ⟨k, rfl⟩ : ∃ k, i' = k + 1 := ⟨i' - 1, by omega⟩
    obtain rfl : j' = 0 := by omega
    exact h
def FTq (q : Int) (g : Gd) (C R i j : Nat) (x : Int32) : Prop := (x = I 1 ∧ ∀ i' j', i' < C → j' < R → (i' < i ∨ (i' = i ∧ j' < j)) → BM q g C R i' j' ≤ 3) ∨ (x = I 0 ∧ ¬ All3 q g C R)
theorem SN_b {q : Int} {g : Gd} {C R : Nat} (hq : 0 ≤ q ∧ q ≤ 3) (hv : GV g) (hC : g 0 = C) (hR : g 1 = R) (hf : RimF g C R q) (p : Nat) : 0 ≤ SNf q g C R p ∧ SNf q g C R p ≤ 150 ∧ (All3 q g C R → SNf q g C R p ≤ 3) := by
  unfold SNf SN
  by_cases c : (p / 5 < C ∧ p % 5 < R) ∧ (C - 1 - p / 5 < C ∨ (C - 1 - p / 5 = C ∧ R - 1 - p % 5 < 0))
  · rw [if_pos c]
    have h := BM_b hq hv hC hR hf (i := C - 1 - p / 5) (j := R - 1 - p % 5) (by omega) (by omega)
    exact ⟨h.1, h.2, fun e => e _ _ (by omega) (by omega)⟩
  · rw [if_neg c]
    exact ⟨Int.le_refl 0, show (0 : Int) ≤ 150 by decide, fun _ => show (0 : Int) ≤ 3 by decide⟩
theorem SN_f {q : Int} {g : Gd} {C R p : Nat} (hv : GV g) (hC : g 0 = C) (hR : g 1 = R) (hp : p < 25) : SN q g C R (fun p => g (3 + p)) C 0 p = SNf q g C R p := by
  unfold SNf SN
  by_cases c : (p / 5 < C ∧ p % 5 < R) ∧ (C - 1 - p / 5 < C ∨ (C - 1 - p / 5 = C ∧ R - 1 - p % 5 < 0))
  · rw [if_pos c, if_pos c]
  · rw [if_neg c, if_neg c]
    exact hv.2.2.2.2 p hp (by omega)
theorem SN_V {q : Int} {g : Gd} {C R : Nat} (hq : 0 ≤ q ∧ q ≤ 3) (hv : GV g) (hC : g 0 = C) (hR : g 1 = R) (hf : RimF g C R q) (h3 : All3 q g C R) : GV (grd C R q (SNf q g C R)) := by
  have v1 := hv.1; have v2 := hv.2.1
  refine grd_V (by omega) (by omega) hq (fun p _ => ⟨(SN_b hq hv hC hR hf p).1, (SN_b hq hv hC hR hf p).2.2 h3⟩) (fun p hp h => ?_)
  unfold SNf SN
  rw [if_neg (by omega)]
theorem dif_b (g f : Gd) : ∀ n, 0 ≤ dif g f n ∧ dif g f n ≤ n
  | 0 => by show (0 : Int) ≤ 0 ∧ (0 : Int) ≤ _; omega
  | n + 1 => by
    have := dif_b g f n
    show 0 ≤ dif g f n + (if g (3 + n) = f (3 + n) then 0 else 1) ∧ dif g f n + (if g (3 + n) = f (3 + n) then 0 else 1) ≤ ((n + 1 : Nat) : Int)
    split <;> omega
def MBk (r : Option (Int32 × Wd)) (w5 : Wd) (q : Int) (g : Gd) (C R : Nat) : Prop := ∃ w6 : Wd, w6.2 = w5.2 ∧ (∀ a b, a ≠ 143 → a ≠ 144 → w6.1 a b = w5.1 a b) ∧ (¬ All3 q g C R → r = some (I (-5), w6)) ∧
  (All3 q g C R → ∀ w7 : Wd, f_X8_does 139 w6 = some w7 → Wi w7.2 → MG w7 g → (∀ b, w7.1 143 b = w6.1 143 b) → ∃ w8 : Wd, r = some (I (dif g (grd C R q (SNf q g C R)) 25), w8) ∧ w8.2 = w7.2 ∧ MG w8 (grd C R q (SNf q g C R)) ∧ ∀ a b, a ≠ 140 → ¬ (a = 139 ∧ b = 2) → w8.1 a b = w7.1 a b)
theorem m_back {w w5 : Wd} {g : Gd} {C R : Nat} {q : Int} (hW5 : Wi w5.2) (hq : 0 ≤ q ∧ q ≤ 3) (hv : GV g) (hC : g 0 = C) (hR : g 1 = R) (hf : RimF g C R q) (hg : f_X8_growsAll 139 w = some w5) (hm5 : MG w5 g) (hM5 : MwC w5 g) (hfit : f_X8_fitsNow 139 (I q) w5 = some (I 1)) : MBk (f_X8_back 139 (I q) w) w5 q g C R := by
  have v1 := hv.1; have v2 := hv.2.1
  have sb := SN_b hq hv hC hR hf
  unfold f_X8_back
  rw [l0, l3, c1_r (m_chk (by omega) (by omega) (by omega)), if_pos hq, if_neg n10, c1_r hg, c1_r hfit, if_neg n10]
  refine wl2_inv (Q := fun r => MBk r w5 q g C R) 25 (fun i x (v : Wd) => x = I i ∧ v = fill w5 143 i (fun _ => I 0)) (fu_lt (by omega)) ?_ ?_ ?_
  · exact ⟨rfl, (fill_0 _ _ _).symm⟩
  · rintro i hi x v ⟨rfl, rfl⟩ k
    left
    refine ⟨I ((i + 1 : Nat) : Int), fill w5 143 (i + 1) (fun _ => I 0), ⟨rfl, rfl⟩, ?_⟩
    rw [if_neg (by rw [i25, I_le (by omega) (by omega) (by omega) (by omega)]; omega), fill_2, rfc hW5.m8 kd_143 (by decide), ln_143, ix_d (by omega) (by omega) (by decide), lt_d, lt_d, Int.toNat_natCast, i1, I_add, nS, i0, fill_s _ _ i (fun _ => I 0)]
  · rintro x v ⟨rfl, rfl⟩ k
    rw [if_pos (by decide), fill_n (show ¬ (139 = 143 ∧ 0 < 25) by decide), hm5.1, hC, lt_d]
    refine wl3_inv (Q := fun r => MBk r w5 q g C R) C (fun i x y (v : Wd) => FTq q g C R i 0 x ∧ y = I ((C : Int) - i) ∧ v.2 = w5.2 ∧ BTm v q g C R i 0 ∧ (∀ p, p < 25 → v.1 143 p = I (SN q g C R (fun _ => 0) i 0 p)) ∧ ∀ a b, a ≠ 143 → a ≠ 144 → v.1 a b = w5.1 a b) (fu_lt (by omega)) ?_ ?_ ?_
    · refine ⟨Or.inl ⟨rfl, fun i' j' _ _ h => absurd h (by omega)⟩, congrArg I (by omega), rfl, BTm_0 (hM5.of (fun b => fill_n (by omega))) hC hR, fun p hp => by rw [fill_i hp, SN_0], fun a b h1 h2 => fill_n (by omega)⟩
    · rintro i hi x y v ⟨hx, rfl, hv2, hvT, hvs, hfr⟩ k
      rw [if_neg (show ¬ (I ((C : Int) - i) ≤ 0) by rw [i0, I_le (by omega) (by omega) (by omega) (by omega)]; omega), hfr 139 1 (by omega) (by omega), hm5.2.1, hR, lt_d]
      left
      refine wl3_inv (Q := fun r => ∃ (t0 t1 : Int32) (t2 : Wd), (FTq q g C R (i + 1) 0 t0 ∧ t1 = I ((C : Int) - ((i + 1 : Nat) : Int)) ∧ t2.2 = w5.2 ∧ BTm t2 q g C R (i + 1) 0 ∧ (∀ p, p < 25 → t2.1 143 p = I (SN q g C R (fun _ => 0) (i + 1) 0 p)) ∧ ∀ a b, a ≠ 143 → a ≠ 144 → t2.1 a b = w5.1 a b) ∧ r = k t0 t1 t2) R
        (fun j x y (v : Wd) => FTq q g C R i j x ∧ y = I ((R : Int) - j) ∧ v.2 = w5.2 ∧ BTm v q g C R i j ∧ (∀ p, p < 25 → v.1 143 p = I (SN q g C R (fun _ => 0) i j p)) ∧ ∀ a b, a ≠ 143 → a ≠ 144 → v.1 a b = w5.1 a b) (fu_lt (by omega)) ?_ ?_ ?_
      · exact ⟨hx, congrArg I (by omega), hv2, hvT, hvs, hfr⟩
      · rintro j hj x y u ⟨hxu, rfl, hu2, huT, hus, hfu⟩ k2
        have hWu : Wi u.2 := by rw [hu2]; exact hW5
        obtain ⟨i1', i2', -⟩ := BK_ok hq hv hC hR hf i (by omega)
        obtain ⟨j1', j2', j3'⟩ := BK_ok hq hv hC hR hf (i + 1) (by omega)
        have M1 := huT i j (by omega) (by omega) (by omega)
        have M2 := huT (i + 1) j (by omega) (by omega) (by omega)
        have M3 := huT i (j + 1) (by omega) (by omega) (by omega)
        rw [show C - i = C - (i + 1) + 1 by omega, show R - j = R - (j + 1) + 1 by omega] at M1
        rw [show R - j = R - (j + 1) + 1 by omega] at M2
        rw [show C - i = C - (i + 1) + 1 by omega] at M3
        obtain ⟨w', z1, z2, z3, z4⟩ := m_shrinks (x := C - (i + 1)) (y := R - (j + 1)) hWu hq (by omega) (by omega) M1 M2 M3 (i1' j (by omega)).1 (i1' j (by omega)).2.2 (j1' j (by omega)).1 (i1' (j + 1) (by omega)).1 (j3' (by omega) j (by omega)) (i2' j hj)
        have hWw : Wi w'.2 := by rw [z2]; exact hWu
        have bmb := BM_b hq hv hC hR hf hi hj
        have ebm : bm q (BK q g C R i j) (BK q g C R (i + 1) j) (BK q g C R i (j + 1)) = BM q g C R i j := rfl
        rw [ebm, show (((C - (i + 1) : Nat) : Int) + 1) = (C : Int) - i by omega, show (((R - (j + 1) : Nat) : Int) + 1) = (R : Int) - j by omega] at z1
        have ep : (5 * ((C : Int) - i - 1) + ((R : Int) - j) - 1).toNat = 5 * (C - 1 - i) + (R - 1 - j) := by omega
        rw [if_neg (show ¬ (I ((R : Int) - j) ≤ 0) by rw [i0, I_le (by omega) (by omega) (by omega) (by omega)]; omega), rfc hWu.m8 kd_143 (by decide), c1_r (m_at _ _), c2_r z1, ln_143, ix_d (by omega) (by omega) (by decide), ep, lt_d]
        have inv : ∀ x : Int32, FTq q g C R i (j + 1) x → (∃ t0 t1 t2, (FTq q g C R i (j + 1) t0 ∧ t1 = I ((R : Int) - ((j + 1 : Nat) : Int)) ∧ t2.2 = w5.2 ∧ BTm t2 q g C R i (j + 1) ∧ (∀ p, p < 25 → t2.1 143 p = I (SN q g C R (fun _ => 0) i (j + 1) p)) ∧ ∀ a b, a ≠ 143 → a ≠ 144 → t2.1 a b = w5.1 a b) ∧ lt (I ((R : Int) - j) + (-1 : Int32)) (fun x74 => k2 x x74 (upI w' 143 (5 * (C - 1 - i) + (R - 1 - j)) (I (BM q g C R i j)))) = k2 t0 t1 t2) := fun x hx => by
          refine ⟨x, I ((R : Int) - ((j + 1 : Nat) : Int)), upI w' 143 (5 * (C - 1 - i) + (R - 1 - j)) (I (BM q g C R i j)), ⟨hx, rfl, by show w'.2 = w5.2; rw [z2, hu2], fun i' j' h1 h2 h3 => ?_, fun p hp => ?_, fun a b h1 h2 => by rw [upI_n (by omega), z4 _ _ (by omega)]; exact hfu a b h1 h2⟩, ?_⟩
          · by_cases e : i' = i + 1 ∧ j' = j + 1
            · rw [e.1, e.2, BK_s]
              exact z3.of (fun b _ => upI_n (by omega))
            · have hne : 6 * (C - i') + (R - j') ≠ 6 * (C - (i + 1)) + (R - (j + 1)) := by omega
              exact (huT i' j' h1 h2 (by omega)).of (fun b _ => by rw [upI_n (by omega), z4 _ _ (by omega)])
          · by_cases e : p = 5 * (C - 1 - i) + (R - 1 - j)
            · subst e; rw [upI_s, SN_s hi hj (by omega) (by omega)]
            · rw [upI_n (by omega), z4 _ _ (by omega), hus p hp, SN_n hi hj (by omega) (by omega) hp e]
          · rw [lt_d, im1, I_add]
            exact congrArg (fun z => k2 x z _) (congrArg I (by omega))
        left
        rw [jn_d, jn_d]
        obtain ⟨rfl, hx3⟩ | ⟨rfl, hx3⟩ := hxu
        · rw [if_neg n10, rfc (show (upI w' 143 (5 * (C - 1 - i) + (R - 1 - j)) (I (BM q g C R i j))).2 139 8 = some 143 from hWw.m8) kd_143 (by decide), c1_r (m_at _ _), ln_143, ix_d (by omega) (by omega) (by decide), ep, upI_s]
          by_cases e : BM q g C R i j ≤ 3
          · rw [if_neg (show ¬ ((3 : Int32) < I (BM q g C R i j)) by rw [i3, I_lt (by omega) (by omega) (by omega) (by omega)]; omega)]
            refine inv 1 (Or.inl ⟨rfl, fun i' j' h1 h2 h3 => ?_⟩)
            by_cases f : i' = i ∧ j' = j
            · rw [f.1, f.2]; exact e
            · exact hx3 i' j' h1 h2 (by omega)
          · rw [if_pos (show (3 : Int32) < I (BM q g C R i j) by rw [i3, I_lt (by omega) (by omega) (by omega) (by omega)]; omega)]
            exact inv 0 (Or.inr ⟨rfl, fun f => e (f i j hi hj)⟩)
        · rw [if_pos z00]
          exact inv 0 (Or.inr ⟨rfl, hx3⟩)
      · rintro x y u ⟨hxu, rfl, hu2, huT, hus, hfu⟩ k2
        rw [if_pos (show I ((R : Int) - (R : Int)) ≤ 0 by rw [i0, I_le (by omega) (by omega) (by omega) (by omega)]; omega), lt_d, im1, I_add]
        refine ⟨x, _, u, ⟨?_, rfl, hu2, fun i' j' h1 h2 h3 => huT i' j' h1 h2 (by omega), fun p hp => by rw [hus p hp, SN_e (by omega)], hfu⟩, ?_⟩
        · obtain ⟨rfl, h⟩ | h := hxu
          · exact Or.inl ⟨rfl, fun i' j' h1 h2 h3 => h i' j' h1 h2 (by omega)⟩
          · exact Or.inr h
        · exact congrArg (fun z => k _ z _) (congrArg I (by omega))
    · rintro x y v ⟨hx, rfl, hv2, hvT, hvs, hfr⟩ k
      rw [if_pos (show I ((C : Int) - (C : Int)) ≤ 0 by rw [i0, I_le (by omega) (by omega) (by omega) (by omega)]; omega)]
      refine ⟨v, hv2, hfr, ?_⟩
      obtain ⟨rfl, h⟩ | ⟨rfl, h⟩ := hx
      · have h3 : All3 q g C R := fun i j h1 h2 => h i j h1 h2 (by omega)
        refine ⟨fun e => absurd h3 e, fun _ w7 hd hW7 hm7 h143 => ?_⟩
        rw [if_neg n10, c1_r hd]
        refine wl3_inv (Q := fun r => ∃ w8 : Wd, r = some (I (dif g (grd C R q (SNf q g C R)) 25), w8) ∧ w8.2 = w7.2 ∧ MG w8 (grd C R q (SNf q g C R)) ∧ ∀ a b, a ≠ 140 → ¬ (a = 139 ∧ b = 2) → w8.1 a b = w7.1 a b) 25 (fun i x y (v : Wd) => x = I (dif g (grd C R q (SNf q g C R)) i) ∧ y = I i ∧ v.2 = w7.2 ∧ (∀ p, p < i → v.1 140 p = I (SNf q g C R p)) ∧ (∀ p, i ≤ p → p < 25 → v.1 140 p = I (g (3 + p))) ∧ ∀ a b, a ≠ 140 → v.1 a b = w7.1 a b) (fu_lt (by omega)) ?_ ?_ ?_
        · exact ⟨rfl, rfl, rfl, fun p hp => absurd hp (by omega), fun p _ hp => hm7.2.2.2 p hp, fun _ _ _ => rfl⟩
        · rintro i hi x y u ⟨rfl, rfl, hu2, hu3, hu4, hfu⟩ kk
          have hWu : Wi u.2 := by rw [hu2]; exact hW7
          have e140 := hu4 i (Nat.le_refl _) hi
          have e143 : u.1 143 i = I (SNf q g C R i) := by rw [hfu _ _ (by omega), h143]; exact hvs i hi
          have hgb := hv.g0 hi
          have hsb := sb i
          have db := dif_b g (grd C R q (SNf q g C R)) i
          left
          refine ⟨I (dif g (grd C R q (SNf q g C R)) (i + 1)), I ((i + 1 : Nat) : Int), upI u 140 i (I (SNf q g C R i)), ⟨rfl, rfl, hu2, fun p hp => ?_, fun p h1 h2 => by rw [upI_n (by omega)]; exact hu4 p (by omega) h2, fun a b h => by rw [upI_n (by omega)]; exact hfu a b h⟩, ?_⟩
          · by_cases e : p = i
            · subst e; rw [upI_s]
            · rw [upI_n (by omega)]; exact hu3 p (by omega)
          · rw [if_neg (show ¬ ((25 : Int32) ≤ I (i : Int)) by rw [i25, I_le (by omega) (by omega) (by omega) (by omega)]; omega), rfc hWu.m3 kd_140 (by decide), ln_140, ix_d (by omega) (by omega) (by decide), rfc hWu.m8 kd_143 (by decide), ln_143, ix_d (by omega) (by omega) (by decide), Int.toNat_natCast, e140, e143, lt_d, lt_d, rfc hWu.m3 kd_140 (by decide), rfc hWu.m8 kd_143 (by decide), ln_143, ix_d (by omega) (by omega) (by decide), ln_140, ix_d (by omega) (by omega) (by decide), Int.toNat_natCast, e143, lt_d, lt_d, i1, I_add, nS]
            have ed : dif g (grd C R q (SNf q g C R)) (i + 1) = dif g (grd C R q (SNf q g C R)) i + (if g (3 + i) = SNf q g C R i then 0 else 1) := by
              show _ + (if g (3 + i) = grd C R q (SNf q g C R) (3 + i) then (0 : Int) else 1) = _
              rw [grd_n]
            rw [ed]
            by_cases e : g (3 + i) = SNf q g C R i
            · rw [if_pos (show I (g (3 + i)) = I (SNf q g C R i) by rw [e]), if_pos e, i0, I_add]
            · rw [if_neg (show ¬ (I (g (3 + i)) = I (SNf q g C R i)) by rw [I_eq (by omega) (by omega) (by omega) (by omega)]; exact e), if_neg e, I_add]
        · rintro x y u ⟨rfl, rfl, hu2, hu3, hu4, hfu⟩ kk
          rw [if_pos (by decide), lt_d]
          refine ⟨upI u 139 2 (I q), rfl, hu2, grd_MG (by rw [upI_n (by omega), hfu _ _ (by omega), hm7.1, hC]) (by rw [upI_n (by omega), hfu _ _ (by omega), hm7.2.1, hR]) (by rw [upI_s]) (fun p hp => by rw [upI_n (by omega), hu3 p hp]), fun a b h1 h2 => by rw [upI_n (by omega)]; exact hfu a b h1⟩
      · refine ⟨fun _ => ?_, fun e => absurd e h⟩
        rw [if_pos z00]
        rfl
theorem op_back {q : Int} (hq : -2147483648 ≤ q ∧ q < 2147483648) : Op2 (f_X7_back 0 (I q)) (f_X8_back 139 (I q)) := by
  rintro w ⟨g, p, u, G, H⟩
  have hv := H.2.1.1
  have v1 := hv.1; have v2 := hv.2.1
  obtain ⟨C, hC⟩ : ∃ C : Nat, g 0 = C := ⟨(g 0).toNat, by omega⟩
  obtain ⟨R, hR⟩ : ∃ R : Nat, g 1 = R := ⟨(g 1).toNat, by omega⟩
  by_cases d : 0 ≤ q ∧ q ≤ 3
  · obtain ⟨w1, b1, H1, b3, b4, b5, b6, b7⟩ := grownC H
    have hW1 := H1.1
    have c1' := H1.2.1.2.1
    obtain ⟨z1, z2⟩ | ⟨z1, z2⟩ := s_rimFits hW1 hv b4 hC hR d
    · have H0 : Ig (upI w1 0 5 (I 0)) g p u G := H1.of rfl (Or.inl (upI_s _ _ _ _)) (fun a b h => upI_n (by omega))
      have cp : f_X0_copyFrom 3 1 (upI w1 0 5 (I 0)) = some (cpg (upI w1 0 5 (I 0)) 3 1) := s_copyFrom kd_3 (hW1.2.1 _ kd_3) kd_1 (hW1.2.1 _ kd_1) (by decide)
      have c3 : CG (cpg (upI w1 0 5 (I 0)) 3 1) 3 g := cpg_CG H0.2.1.2.1
      have fb : ∀ a b, a ≠ 3 → a ≠ 4 → ¬ (a = 0 ∧ b = 5) → (upI (cpg (upI w1 0 5 (I 0)) 3 1) 3 2 (I q)).1 a b = w1.1 a b := fun a b h1 h2 h3 => by rw [upI_n (by omega), cpg_o (by omega) (by omega), upI_n (by omega)]
      have fz : (upI (cpg (upI w1 0 5 (I 0)) 3 1) 3 2 (I q)).1 0 5 = I 0 := by rw [upI_n (by omega), cpg_o (by omega) (by omega), upI_s]
      have h30 : (upI (cpg (upI w1 0 5 (I 0)) 3 1) 3 2 (I q)).1 3 0 = I C := by rw [upI_n (by omega), c3.1, hC]
      have h31 : (upI (cpg (upI w1 0 5 (I 0)) 3 1) 3 2 (I q)).1 3 1 = I R := by rw [upI_n (by omega), c3.2.1, hR]
      have h32 : (upI (cpg (upI w1 0 5 (I 0)) 3 1) 3 2 (I q)).1 3 2 = I q := by rw [upI_s]
      have h4 : ∀ p, p < 25 → (upI (cpg (upI w1 0 5 (I 0)) 3 1) 3 2 (I q)).1 4 p = I (g (3 + p)) := fun p hp => by rw [upI_n (by omega)]; exact c3.2.2.2 p hp
      have eb : (upI (cpg (upI w1 0 5 (I 0)) 3 1) 3 2 (I q)).2 = w1.2 := rfl
      have cls : ∀ v wl, f_X1_goBackInto 7 3 (upI (cpg (upI w1 0 5 (I 0)) 3 1) 3 2 (I q)) = some (v, wl) → f_X7_back 0 (I q) w = (if v ≤ (3 : Int32) then rf 153 (wl.2 0 0) 0 (fun t29 => rf 153 (wl.2 0 1) 0 (fun t31 => c1 (f_X0_differing t29 t31 wl) (fun v34 => c1 (f_X7_beginDeed 0 wl) (fun w36 => rf 153 (w36.2 0 0) 0 (fun t37 => rf 153 (w36.2 0 1) 0 (fun t39 => c1 (f_X0_copyFrom t37 t39 w36) (fun w42 => some (v34, w42)))))))) else some ((-5 : Int32), wl)) := fun v wl hgb => by
        unfold f_X7_back
        rw [c1_r (s_isRule hq), if_pos d, if_neg n10, c2_r b1, ckc kd_7 (by decide), c1_r z1, if_neg n10, i0, lt_d, rfc (show (upI w1 0 5 (I 0)).2 0 1 = some 3 from hW1.1.2.1) kd_3 (by decide), rfc (show (upI w1 0 5 (I 0)).2 0 0 = some 1 from hW1.1.1) kd_1 (by decide), c1_r cp, rfc (show (cpg (upI w1 0 5 (I 0)) 3 1).2 0 1 = some 3 from hW1.1.2.1) kd_3 (by decide), lt_d, rfc (show (upI (cpg (upI w1 0 5 (I 0)) 3 1) 3 2 (I q)).2 0 4 = some 7 from hW1.1.2.2.2.1) kd_7 (by decide), rfc (show (upI (cpg (upI w1 0 5 (I 0)) 3 1) 3 2 (I q)).2 0 1 = some 3 from hW1.1.2.1) kd_3 (by decide), c2_r hgb]
      generalize upI (cpg (upI w1 0 5 (I 0)) 3 1) 3 2 (I q) = wb at *
      have hWb : Wi wb.2 := by rw [eb]; exact hW1
      have gb : GrC wb g := b4.of hv (fun b h => fb _ _ (by omega) (by omega) (by omega)) (fun a b h1 h2 h3 => fb _ _ (by omega) (by omega) (by omega))
      obtain ⟨gm, wc, k1, k2, k3, k4, k5⟩ := s_goBackInto hWb d hv hC hR z2 gb h30 h31 h32 h4
      have cls := cls _ _ k1
      have Hc : Ig wc g p u G := H1.of (by rw [k2, eb]) (Or.inl (by rw [k5 _ _ (by omega) (by omega), fz])) (fun a b h => by rw [k5 _ _ (by omega) (by omega), fb _ _ (by omega) (by omega) (by omega)])
      have hWc := Hc.1
      have a3 : gm ≤ 3 ↔ All3 q g C R := k3.2.trans ⟨fun f i j h1 h2 => f i j h1 h2 (by omega), fun f i j h1 h2 _ => f i j h1 h2⟩
      have sb := SN_b d hv hC hR z2
      by_cases e : gm ≤ 3
      · have all3 := a3.1 e
        have hgv := SN_V d hv hC hR z2 all3
        have cf : CG wc 3 (grd C R q (SNf q g C R)) := grd_CG (by rw [k5 _ _ (by omega) (by omega), h30]) (by rw [k5 _ _ (by omega) (by omega), h31]) (by rw [k5 _ _ (by omega) (by omega), h32]) (fun p hp => by rw [k4 p hp, SN_f hv hC hR hp])
        have df := s_differing kd_1 (hWc.2.1 _ kd_1) kd_3 (hWc.2.1 _ kd_3) Hc.2.1.2.1 cf (fun j hj => ⟨by have := hv.g0 hj; omega, by rw [grd_n]; have := sb j; omega⟩)
        obtain ⟨w4, d1, d2, d3, d4, d5, d6⟩ := Hc.begin
        have cp2 : f_X0_copyFrom 1 3 w4 = some (cpg w4 1 3) := s_copyFrom kd_1 (d2.2.1 _ kd_1) kd_3 (d2.2.1 _ kd_3) (by decide)
        have cf4 : CG w4 3 (grd C R q (SNf q g C R)) := cf.of (fun b => d5 _ _ (by omega) (by omega) (by omega)) (fun b => d5 _ _ (by omega) (by omega) (by omega))
        have cd : CG (cpg w4 1 3) 1 (grd C R q (SNf q g C R)) := cpg_CG cf4
        have fd : ∀ a b, a ≠ 1 → a ≠ 2 → (cpg w4 1 3).1 a b = w4.1 a b := fun a b h1 h2 => cpg_o h1 (by omega)
        have hq2 : (cpg w4 1 3).2 = w4.2 := rfl
        generalize cpg w4 1 3 = wd at *
        have hWd : Wi wd.2 := by rw [hq2]; exact d2
        have hmd : MG wd g := d4.of (fun b _ => fd _ _ (by omega) (by omega)) (fun b => fd _ _ (by omega) (by omega))
        obtain ⟨w5, g1, g2, g3, g4⟩ := m_growsAll hWd hv hmd
        have hW5 : Wi w5.2 := by rw [g2]; exact hWd
        have hm5 : MG w5 g := hmd.of (fun b _ => g4 _ _ (by omega)) (fun b => g4 _ _ (by omega))
        obtain ⟨y1, y2⟩ | ⟨y1, y2⟩ := m_fitsNow hW5 hv hm5 g3 hC hR d
        · obtain ⟨w6, m1, m2, -, m4⟩ := m_back hW5 d hv hC hR z2 g1 hm5 g3 y1
          obtain ⟨f1, f2, w7, f3, f4, f5, f6, f7⟩ := d6 w6 (by rw [m1, g2, hq2]) (fun a b h1 h2 _ _ => by rw [m2 _ _ (by omega) (by omega), g4 _ _ (by omega), fd _ _ (by omega) (by omega)])
          obtain ⟨w8, n1, n2, n3, n4⟩ := m4 all3 w7 f3 f4 f5 (fun b => f6 _ _ (by omega) (by omega))
          refine ⟨_, wd, w8, ?_, n1, f7 w8 _ n2 (fun a b h => n4 a b (by omega) (by omega)) hgv (cd.of (fun b => by rw [m2 _ _ (by omega) (by omega), g4 _ _ (by omega)]) (fun b => by rw [m2 _ _ (by omega) (by omega), g4 _ _ (by omega)])) n3 (H1.2.2.2.2.2.1.of fun a b h => ?_)⟩
          · rw [cls, if_pos (show I gm ≤ (3 : Int32) by rw [i3, I_le (by have := k3.1; omega) (by have := k3.1; omega) (by omega) (by omega)]; exact e), rfc hWc.1.1 kd_1 (by decide), rfc hWc.1.2.1 kd_3 (by decide), c1_r df, c1_r d1, rfc d2.1.1 kd_1 (by decide), rfc d2.1.2.1 kd_3 (by decide), c1_r cp2]
          · rw [n4 _ _ (by omega) (by omega), f6 _ _ (by omega) (by omega), m2 _ _ (by omega) (by omega), g4 _ _ (by omega), fd _ _ (by omega) (by omega), d5 _ _ (by omega) (by omega) (by omega), k5 _ _ (by omega) (by omega), fb _ _ (by omega) (by omega) (by omega)]
        · exact absurd z2 y2
      · obtain ⟨w5, g1, H5, g3, g4, g5⟩ := growsM Hc
        obtain ⟨y1, y2⟩ | ⟨y1, y2⟩ := m_fitsNow H5.1 hv H5.2.1.2.2 g3 hC hR d
        · obtain ⟨w6, m1, m2, m3, -⟩ := m_back H5.1 d hv hC hR z2 g1 H5.2.1.2.2 g3 y1
          have H6 : Ig w6 g p u G := H5.of m1 (H5.2.2.1.of hv (fun a b h => m2 _ _ (by omega) (by omega))) (fun a b h => m2 _ _ (by omega) (by omega))
          refine ⟨(-5 : Int32), wc, w6, ?_, m3 (fun f => e (a3.2 f)), g, p, u, G, H6⟩
          rw [cls, if_neg (show ¬ I gm ≤ (3 : Int32) by rw [i3, I_le (by have := k3.1; omega) (by have := k3.1; omega) (by omega) (by omega)]; exact e)]
        · exact absurd z2 y2
    · obtain ⟨w2, g1, H2, g3, g4, g5⟩ := growsM H1
      obtain ⟨y1, y2⟩ | ⟨y1, y2⟩ := m_fitsNow H2.1 hv H2.2.1.2.2 g3 hC hR d
      · exact absurd y2 z2
      · refine ⟨(-5 : Int32), w1, w2, ?_, ?_, g, p, u, G, H2⟩
        · unfold f_X7_back
          rw [c1_r (s_isRule hq), if_pos d, if_neg n10, c2_r b1, ckc kd_7 (by decide), c1_r z1, if_pos z00]
        · unfold f_X8_back
          rw [l0, l3, c1_r (m_chk hq (by omega) (by omega)), if_pos d, if_neg n10, c1_r g1, c1_r y1, if_pos z00]
  · refine ⟨(-1 : Int32), w, w, ?_, ?_, g, p, u, G, H⟩
    · unfold f_X7_back
      rw [c1_r (s_isRule hq), if_neg d, if_pos z00]
    · unfold f_X8_back
      rw [l0, l3, c1_r (m_chk hq (by omega) (by omega)), if_neg d, if_pos z00]

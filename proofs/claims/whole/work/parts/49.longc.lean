/-! longest, by the model -/
theorem m_goes {z : Int} {st fl : Bool} {R x k a q : Nat} (hz : 0 ≤ z ∧ z ≤ 3) (hst : st = true ↔ (z = 1 ∨ z = 3)) (hfl : fl = true ↔ 2 ≤ z) (hR : R ≤ 5) (hx : x < 5) (ha : a < 5) (hk : k < R) (hq : q < R) :
    (f_X8_goes (I z) (I ((a : Int) + 1)) (I ((q : Int) + 1)) (I ((x : Int) + 1)) (I ((lyk fl R k : Int) + 1)) = some (I 1) ∧ pv st x k a (lyk fl R q)) ∨ (f_X8_goes (I z) (I ((a : Int) + 1)) (I ((q : Int) + 1)) (I ((x : Int) + 1)) (I ((lyk fl R k : Int) + 1)) = some (I 0) ∧ ¬ pv st x k a (lyk fl R q)) := by
  have fin : ∀ (m : Int) (P : Prop), (m = 1 ∧ P) ∨ (m = 0 ∧ ¬ P) → ((zb (I m) (some (I m)) = some (I 1) ∧ P) ∨ (zb (I m) (some (I m)) = some (I 0) ∧ ¬ P)) := fun m P h => by
    obtain ⟨rfl, h⟩ | ⟨rfl, h⟩ := h
    · rw [zb_1]; exact Or.inl ⟨rfl, h⟩
    · rw [zb_0]; exact Or.inr ⟨rfl, h⟩
  have hly := (lyk_b (fl := fl) hk).1
  have ezz : z = 0 ∨ z = 1 ∨ z = 2 ∨ z = 3 := by omega
  unfold f_X8_goes
  obtain rfl | rfl | rfl | rfl := ezz
  · have es : st = false := by cases st <;> simp_all
    have ef : fl = false := by cases fl <;> simp_all
    subst es ef
    rw [if_pos (by decide), lt_d]
    unfold lyk pv at *
    rw [if_neg (show ¬ (false = true) by decide), if_neg (show ¬ (false = true) by decide), if_neg (show ¬ (false = true) by decide)]
    simp (disch := omega) only [↓j_m1, ↓j_m2, ↓j_m3, ↓j_m5, ↓j_m6, ↓j_m11, ↓j_m12, ↓j_m13, ↓j_m14, ↓j_m1000, j_0, j_1, j_2, j_3, j_4, j_5, j_6, j_7, j_8, j_9, j_10, j_12, j_14, j_20, j_25, j_26, j_28, j_30, j_36, j_48, j_49, j_50, j_53, j_57, j_59, j_60, j_63, j_75, j_80, j_99, j_100, j_196, j_255, j_1000, I_lt, I_le, I_ite]
    refine fin _ _ ?_
    repeat' split
    all_goals omega
  · have es : st = true := by cases st <;> simp_all
    have ef : fl = false := by cases fl <;> simp_all
    subst es ef
    rw [if_neg (by decide), if_pos (by decide), lt_d]
    unfold lyk pv at *
    rw [if_neg (show ¬ (false = true) by decide), if_neg (show ¬ (false = true) by decide), if_pos (show true = true from rfl)]
    simp (disch := omega) only [↓j_m1, ↓j_m2, ↓j_m3, ↓j_m5, ↓j_m6, ↓j_m11, ↓j_m12, ↓j_m13, ↓j_m14, ↓j_m1000, j_0, j_1, j_2, j_3, j_4, j_5, j_6, j_7, j_8, j_9, j_10, j_12, j_14, j_20, j_25, j_26, j_28, j_30, j_36, j_48, j_49, j_50, j_53, j_57, j_59, j_60, j_63, j_75, j_80, j_99, j_100, j_196, j_255, j_1000, I_lt, I_le, I_ite]
    refine fin _ _ ?_
    repeat' split
    all_goals omega
  · have es : st = false := by cases st <;> simp_all
    have ef : fl = true := by cases fl <;> simp_all
    subst es ef
    rw [if_neg (by decide), if_neg (by decide), if_pos (by decide), lt_d]
    unfold lyk pv at *
    rw [if_pos (show true = true from rfl), if_pos (show true = true from rfl), if_neg (show ¬ (false = true) by decide)]
    simp (disch := omega) only [↓j_m1, ↓j_m2, ↓j_m3, ↓j_m5, ↓j_m6, ↓j_m11, ↓j_m12, ↓j_m13, ↓j_m14, ↓j_m1000, j_0, j_1, j_2, j_3, j_4, j_5, j_6, j_7, j_8, j_9, j_10, j_12, j_14, j_20, j_25, j_26, j_28, j_30, j_36, j_48, j_49, j_50, j_53, j_57, j_59, j_60, j_63, j_75, j_80, j_99, j_100, j_196, j_255, j_1000, I_lt, I_le, I_ite]
    refine fin _ _ ?_
    repeat' split
    all_goals omega
  · have es : st = true := by cases st <;> simp_all
    have ef : fl = true := by cases fl <;> simp_all
    subst es ef
    rw [if_neg (by decide), if_neg (by decide), if_neg (by decide), lt_d]
    unfold lyk pv at *
    rw [if_pos (show true = true from rfl), if_pos (show true = true from rfl), if_pos (show true = true from rfl)]
    simp (disch := omega) only [↓j_m1, ↓j_m2, ↓j_m3, ↓j_m5, ↓j_m6, ↓j_m11, ↓j_m12, ↓j_m13, ↓j_m14, ↓j_m1000, j_0, j_1, j_2, j_3, j_4, j_5, j_6, j_7, j_8, j_9, j_10, j_12, j_14, j_20, j_25, j_26, j_28, j_30, j_36, j_48, j_49, j_50, j_53, j_57, j_59, j_60, j_63, j_75, j_80, j_99, j_100, j_196, j_255, j_1000, I_lt, I_le, I_ite]
    refine fin _ _ ?_
    repeat' split
    all_goals omega
theorem IsMx_b {st : Bool} {V : Nat → Nat → Int} {P : Nat → Nat → Prop} {m : Int} (hV : ∀ x y, 0 ≤ V x y ∧ V x y ≤ 3) (h : IsMx (Sx st V) P m) (hP : ∀ a b, P a b → a < 5 ∧ b < 5) : 0 ≤ m ∧ m ≤ 30 := by
  refine ⟨h.1, ?_⟩
  obtain q | ⟨a, b, q, r⟩ := h.2.2
  · omega
  · have h1 := (Sx_b (st := st) hV a b).2
    have h2 := (BR_b (st := st) hV (a + 1) (b + 1)).2
    have := hP a b q
    omega
theorem m_longest {w : Wd} {g : Gd} {C R : Nat} {z d : Int} {st fl : Bool} (hW : Wi w.2) (hv : GV g) (hm : MG w g) (hC : g 0 = C) (hR : g 1 = R) (hz : 0 ≤ z ∧ z ≤ 3) (hst : st = true ↔ (z = 1 ∨ z = 3)) (hfl : fl = true ↔ 2 ≤ z) (hd : d = 0 ∨ d = 1) :
    ∃ w', f_X8_longest 139 (I z) (I d) w = some (I (BR st (lV g R fl d) C R), w') ∧ w'.2 = w.2 ∧ ∀ a b, a ≠ 145 → w'.1 a b = w.1 a b := by
  have v1 := hv.1; have v2 := hv.2.1
  have hV := lV_b hv (show R ≤ 5 by omega) fl d
  unfold f_X8_longest
  rw [l0, l1, l3, c1_r (m_chk (by omega) (by omega) (by omega)), if_pos hz, if_neg n10, c1_r (m_chk (by omega) (by omega) (by omega)), if_pos (show 0 ≤ d ∧ d ≤ 1 by omega), if_neg n10]
  refine wl3_inv (Q := fun r => ∃ w' : Wd, r = some (I (BR st (lV g R fl d) C R), w') ∧ w'.2 = w.2 ∧ ∀ a b, a ≠ 145 → w'.1 a b = w.1 a b) C (fun i x y (v : Wd) => (∃ m, IsMx (Sx st (lV g R fl d)) (fun a b => a < i ∧ b < R) m ∧ x = I m) ∧ y = I ((i : Int) + 1) ∧ v.2 = w.2 ∧ (∀ a b, a < i → b < R → v.1 145 (5 * a + lyk fl R b) = I (Sx st (lV g R fl d) a b)) ∧ ∀ a b, a ≠ 145 → v.1 a b = w.1 a b) (fu_lt (by omega)) ?_ ?_ ?_
  · exact ⟨⟨0, ⟨Int.le_refl _, fun a b h => absurd h.1 (by omega), Or.inl rfl⟩, rfl⟩, rfl, rfl, fun a b h => absurd h (by omega), fun _ _ _ => rfl⟩
  · rintro i hi x y v ⟨⟨m, hm1, rfl⟩, rfl, hv2, hvs, hf⟩ k
    have ec : v.1 139 0 = I C := by rw [hf _ _ (by omega), hm.1, hC]
    rw [ec, if_neg (show ¬ (I (C : Int) < I ((i : Int) + 1)) by rw [I_lt (by omega) (by omega) (by omega) (by omega)]; omega)]
    left
    refine wl3_inv (Q := fun r => ∃ (t0 : Int32) (t1 : Int32) (t2 : Wd), ((∃ m, IsMx (Sx st (lV g R fl d)) (fun a b => a < i + 1 ∧ b < R) m ∧ t0 = I m) ∧ t1 = I (((i + 1 : Nat) : Int) + 1) ∧ t2.2 = w.2 ∧ (∀ a b, a < i + 1 → b < R → t2.1 145 (5 * a + lyk fl R b) = I (Sx st (lV g R fl d) a b)) ∧ ∀ a b, a ≠ 145 → t2.1 a b = w.1 a b) ∧ r = k t0 t1 t2) R (fun j x y (v : Wd) => (∃ m, IsMx (Sx st (lV g R fl d)) (fun a b => b < R ∧ (a < i ∨ (a = i ∧ b < j))) m ∧ x = I m) ∧ y = I j ∧ v.2 = w.2 ∧ (∀ a b, b < R → (a < i ∨ (a = i ∧ b < j)) → v.1 145 (5 * a + lyk fl R b) = I (Sx st (lV g R fl d) a b)) ∧ ∀ a b, a ≠ 145 → v.1 a b = w.1 a b) (fu_lt (by omega)) ?_ ?_ ?_
    · exact ⟨⟨m, IsMx_c hm1 (fun a b => by omega), rfl⟩, rfl, hv2, fun a b h1 h2 => hvs a b (by omega) h1, hf⟩
    · rintro j hj x y u ⟨⟨m2, hm2, rfl⟩, rfl, hu2, hus, hfu⟩ kk
      have hWu : Wi u.2 := by rw [hu2]; exact hW
      have er : u.1 139 1 = I R := by rw [hfu _ _ (by omega), hm.2.1, hR]
      have bm2 := IsMx_b hV hm2 (fun a b h => by omega)
      have ly := lyk_b (fl := fl) hj
      have ey : (if (2 : Int32) ≤ I z then I (R : Int) - I (j : Int) else I (j : Int) + (1 : Int32)) = I ((lyk fl R j : Int) + 1) := by
        unfold lyk
        cases fl
        · have : ¬ 2 ≤ z := fun h => absurd (hfl.2 h) (by decide)
          rw [if_neg (show ¬ (2 : Int32) ≤ I z by rw [i2, I_le (by omega) (by omega) (by omega) (by omega)]; omega), if_neg (show ¬ (false = true) by decide), i1, I_add]
        · have : 2 ≤ z := hfl.1 rfl
          rw [if_pos (show (2 : Int32) ≤ I z by rw [i2, I_le (by omega) (by omega) (by omega) (by omega)]; omega), if_pos (show true = true from rfl), I_sub]
          exact congrArg I (by omega)
      rw [er, if_neg (show ¬ (I (R : Int) ≤ I (j : Int)) by rw [I_le (by omega) (by omega) (by omega) (by omega)]; omega), ey, lt_d]
      left
      refine wl2_inv (Q := fun r => ∃ (t0 : Int32) (t1 : Int32) (t2 : Wd), ((∃ m, IsMx (Sx st (lV g R fl d)) (fun a b => b < R ∧ (a < i ∨ (a = i ∧ b < j + 1))) m ∧ t0 = I m) ∧ t1 = I ((j + 1 : Nat) : Int) ∧ t2.2 = w.2 ∧ (∀ a b, b < R → (a < i ∨ (a = i ∧ b < j + 1)) → t2.1 145 (5 * a + lyk fl R b) = I (Sx st (lV g R fl d) a b)) ∧ ∀ a b, a ≠ 145 → t2.1 a b = w.1 a b) ∧ r = kk t0 t1 t2) (i + 1) (fun e x y => (∃ m, IsMx (Sx st (lV g R fl d)) (fun a b => b < R ∧ a < e ∧ pv st i j a b) m ∧ x = I m) ∧ y = I ((e : Int) + 1)) (fu_lt (by omega)) ?_ ?_ ?_
      · exact ⟨⟨0, ⟨Int.le_refl _, fun a b h => absurd h.2.1 (by omega), Or.inl rfl⟩, rfl⟩, rfl⟩
      · rintro e he x y ⟨⟨m3, hm3, rfl⟩, rfl⟩ k3
        rw [if_neg (show ¬ (I ((i : Int) + 1) < I ((e : Int) + 1)) by rw [I_lt (by omega) (by omega) (by omega) (by omega)]; omega)]
        left
        refine wl2_inv (Q := fun r => ∃ t0 t1, ((∃ m, IsMx (Sx st (lV g R fl d)) (fun a b => b < R ∧ a < e + 1 ∧ pv st i j a b) m ∧ t0 = I m) ∧ t1 = I (((e + 1 : Nat) : Int) + 1)) ∧ r = k3 t0 t1) R (fun f x y => (∃ m, IsMx (Sx st (lV g R fl d)) (fun a b => b < R ∧ (a < e ∨ (a = e ∧ lyk fl R b < f)) ∧ pv st i j a b) m ∧ x = I m) ∧ y = I ((f : Int) + 1)) (fu_lt (by omega)) ?_ ?_ ?_
        · exact ⟨⟨m3, IsMx_c hm3 (fun a b => ⟨fun h => ⟨h.1, by omega, h.2.2⟩, fun h => ⟨h.1, Or.inl h.2.1, h.2.2⟩⟩), rfl⟩, rfl⟩
        · rintro f hfR x y ⟨⟨m4, hm4, rfl⟩, rfl⟩ k4
          have bm4 := IsMx_b hV hm4 (fun a b h => by omega)
          have lf' := lyk_b (fl := fl) hfR
          left
          rw [if_neg (show ¬ (I (R : Int) < I ((f : Int) + 1)) by rw [I_lt (by omega) (by omega) (by omega) (by omega)]; omega)]
          obtain ⟨z1, z2⟩ | ⟨z1, z2⟩ := m_goes (x := i) (k := j) (a := e) (q := f) hz hst hfl (show R ≤ 5 by omega) (by omega) (by omega) hj hfR
          · have hpr : e < i ∨ (e = i ∧ lyk fl R f < j) := by
              unfold pv at z2
              split at z2 <;> omega
            have sv : u.1 145 (5 * e + f) = I (Sx st (lV g R fl d) e (lyk fl R f)) := by
              have := hus e (lyk fl R f) lf'.1 hpr
              rw [lf'.2] at this
              exact this
            have b1 := (Sx_b (st := st) hV e (lyk fl R f))
            have b2 := (BR_b (st := st) hV (e + 1) (lyk fl R f + 1)).2
            refine ⟨I (if Sx st (lV g R fl d) e (lyk fl R f) ≤ m4 then m4 else Sx st (lV g R fl d) e (lyk fl R f)), I (((f + 1 : Nat) : Int) + 1), ⟨⟨_, IsMx_a hm4 e (lyk fl R f) (fun a b => ?_), rfl⟩, rfl⟩, ?_⟩
            · constructor
              · rintro ⟨h1, h2, h3⟩
                by_cases q : a = e ∧ lyk fl R b = f
                · right
                  refine ⟨q.1, ?_⟩
                  have := (lyk_b (fl := fl) h1).2
                  rw [q.2] at this
                  exact this.symm
                · left
                  exact ⟨h1, by omega, h3⟩
              · rintro (⟨h1, h2, h3⟩ | ⟨rfl, rfl⟩)
                · exact ⟨h1, by omega, h3⟩
                · exact ⟨lf'.1, Or.inr ⟨rfl, by rw [lf'.2]; omega⟩, z2⟩
            · rw [c1_r z1, jn_d, if_neg n10, rfc hWu.m10 kd_145 (by decide), c1_r (m_at _ _), ln_145, ix_d (by omega) (by omega) (by decide), show (5 * ((e : Int) + 1 - 1) + ((f : Int) + 1) - 1).toNat = 5 * e + f by omega, sv]
              by_cases q : Sx st (lV g R fl d) e (lyk fl R f) ≤ m4
              · rw [if_pos (show I (Sx st (lV g R fl d) e (lyk fl R f)) ≤ I m4 by rw [I_le (by omega) (by omega) (by omega) (by omega)]; exact q)]
                show lt _ _ = _
                rw [lt_d, if_pos q, i1, I_add]
                rfl
              · rw [if_neg (show ¬ I (Sx st (lV g R fl d) e (lyk fl R f)) ≤ I m4 by rw [I_le (by omega) (by omega) (by omega) (by omega)]; exact q), rfc hWu.m10 kd_145 (by decide), c1_r (m_at _ _), ln_145, ix_d (by omega) (by omega) (by decide), show (5 * ((e : Int) + 1 - 1) + ((f : Int) + 1) - 1).toNat = 5 * e + f by omega, sv, lt_d]
                show lt _ _ = _
                rw [lt_d, if_neg q, i1, I_add]
                rfl
          · refine ⟨I m4, I (((f + 1 : Nat) : Int) + 1), ⟨⟨m4, IsMx_c hm4 (fun a b => ?_), rfl⟩, rfl⟩, ?_⟩
            · constructor
              · rintro ⟨h1, h2, h3⟩
                refine ⟨h1, ?_, h3⟩
                by_cases q : a = e ∧ lyk fl R b = f
                · exfalso
                  have := (lyk_b (fl := fl) h1).2
                  rw [q.2] at this
                  rw [q.1, ← this] at h3
                  exact z2 h3
                · omega
              · rintro ⟨h1, h2, h3⟩
                exact ⟨h1, by omega, h3⟩
            · rw [c1_r z1, jn_d, if_pos z00]
              show lt _ _ = _
              rw [lt_d, i1, I_add]
              rfl
        · rintro x y ⟨⟨m4, hm4, rfl⟩, rfl⟩ k4
          rw [if_pos (show I (R : Int) < I ((R : Int) + 1) by rw [I_lt (by omega) (by omega) (by omega) (by omega)]; omega), lt_d, i1, I_add]
          exact ⟨_, _, ⟨⟨m4, IsMx_c hm4 (fun a b => ⟨fun h => ⟨h.1, by have := (lyk_b (fl := fl) h.1).1; omega, h.2.2⟩, fun h => ⟨h.1, by omega, h.2.2⟩⟩), rfl⟩, rfl⟩, rfl⟩
      · rintro x y ⟨⟨m3, hm3, rfl⟩, rfl⟩ k3
        have e3 : m3 = pm st (lV g R fl d) i j := IsMx_u (IsMx_c hm3 (P' := pv st i j) (fun a b => ⟨fun h => ⟨by unfold pv at h; split at h <;> omega, by unfold pv at h; split at h <;> omega, h⟩, fun h => h.2.2⟩)) (pm_is hV i j)
        have eS := pm_S st (lV g R fl d) i j
        have b1 := (Sx_b (st := st) hV i j)
        have b2 := (BR_b (st := st) hV (i + 1) (j + 1)).2
        have eV : (if I d = 0 then I (g (3 + (5 * i + lyk fl R j))) else (if I (g (3 + (5 * i + lyk fl R j))) ≤ 0 then (0 : Int32) else (1 : Int32))) = I (lV g R fl d i j) := by
          have h2 := hv.g0 (q := 5 * i + lyk fl R j) (by omega)
          unfold lV
          rw [if_pos (show i < 5 ∧ j < R by omega)]
          simp (disch := omega) only [↓j_m1, ↓j_m2, ↓j_m3, ↓j_m5, ↓j_m6, ↓j_m11, ↓j_m12, ↓j_m13, ↓j_m14, ↓j_m1000, j_0, j_1, j_2, j_3, j_4, j_5, j_6, j_7, j_8, j_9, j_10, j_12, j_14, j_20, j_25, j_26, j_28, j_30, j_36, j_48, j_49, j_50, j_53, j_57, j_59, j_60, j_63, j_75, j_80, j_99, j_100, j_196, j_255, j_1000, I_le, I_eq, I_ite]
          (repeat' split) <;> omega
        have eg : u.1 140 (5 * i + lyk fl R j) = I (g (3 + (5 * i + lyk fl R j))) := by rw [hfu _ _ (by omega)]; exact hm.2.2.2 _ (by omega)
        rw [if_pos (show I ((i : Int) + 1) < I (((i + 1 : Nat) : Int) + 1) by rw [I_lt (by omega) (by omega) (by omega) (by omega)]; omega), rfc hWu.m3 kd_140 (by decide), c1_r (m_at _ _), ln_140, ix_d (by omega) (by omega) (by decide), show (5 * ((i : Int) + 1 - 1) + ((lyk fl R j : Int) + 1) - 1).toNat = 5 * i + lyk fl R j by omega, eg, lt_d, rfc hWu.m10 kd_145 (by decide), c1_r (m_at _ _), eV, lt_d, ln_145, ix_d (by omega) (by omega) (by decide), show (5 * ((i : Int) + 1 - 1) + ((lyk fl R j : Int) + 1) - 1).toNat = 5 * i + lyk fl R j by omega, I_add, show m3 + lV g R fl d i j = Sx st (lV g R fl d) i j by omega, lt_d]
        have hWu' : Wi (upI u 145 (5 * i + lyk fl R j) (I (Sx st (lV g R fl d) i j))).2 := hWu
        rw [rfc hWu'.m10 kd_145 (by decide), c1_r (m_at _ _), ln_145, ix_d (by omega) (by omega) (by decide), show (5 * ((i : Int) + 1 - 1) + ((lyk fl R j : Int) + 1) - 1).toNat = 5 * i + lyk fl R j by omega, jn_d, upI_s]
        have inv : (∀ a b, b < R → (a < i ∨ (a = i ∧ b < j + 1)) → (upI u 145 (5 * i + lyk fl R j) (I (Sx st (lV g R fl d) i j))).1 145 (5 * a + lyk fl R b) = I (Sx st (lV g R fl d) a b)) := fun a b h1 h2 => by
          have l1 := lyk_b (fl := fl) h1
          by_cases q : a = i ∧ b = j
          · rw [q.1, q.2, upI_s]
          · have : ¬ (a = i ∧ lyk fl R b = lyk fl R j) := fun f => q ⟨f.1, by have e1 := l1.2; have e2 := ly.2; rw [f.2] at e1; omega⟩
            rw [upI_n (by omega)]
            exact hus a b h1 (by omega)
        refine ⟨I (if Sx st (lV g R fl d) i j ≤ m2 then m2 else Sx st (lV g R fl d) i j), I ((j + 1 : Nat) : Int), upI u 145 (5 * i + lyk fl R j) (I (Sx st (lV g R fl d) i j)), ⟨⟨_, IsMx_a hm2 i j (fun a b => by omega), rfl⟩, rfl, hu2, inv, fun a b h => by rw [upI_n (by omega)]; exact hfu a b h⟩, ?_⟩
        by_cases q : Sx st (lV g R fl d) i j ≤ m2
        · rw [if_pos (show I (Sx st (lV g R fl d) i j) ≤ I m2 by rw [I_le (by omega) (by omega) (by omega) (by omega)]; exact q)]
          show lt _ _ = _
          rw [lt_d, if_pos q, i1, I_add]
          rfl
        · rw [if_neg (show ¬ I (Sx st (lV g R fl d) i j) ≤ I m2 by rw [I_le (by omega) (by omega) (by omega) (by omega)]; exact q), rfc hWu'.m10 kd_145 (by decide), c1_r (m_at _ _), ln_145, ix_d (by omega) (by omega) (by decide), show (5 * ((i : Int) + 1 - 1) + ((lyk fl R j : Int) + 1) - 1).toNat = 5 * i + lyk fl R j by omega, upI_s, lt_d]
          show lt _ _ = _
          rw [lt_d, if_neg q, i1, I_add]
          rfl
    · rintro x y u ⟨⟨m2, hm2, rfl⟩, rfl, hu2, hus, hfu⟩ kk
      have er : u.1 139 1 = I R := by rw [hfu _ _ (by omega), hm.2.1, hR]
      rw [er, if_pos (show I (R : Int) ≤ I (R : Int) by rw [I_le (by omega) (by omega) (by omega) (by omega)]; omega), lt_d, i1, I_add]
      exact ⟨_, _, u, ⟨⟨m2, IsMx_c hm2 (fun a b => by omega), rfl⟩, rfl, hu2, fun a b h1 h2 => hus a b h2 (by omega), hfu⟩, rfl⟩
  · rintro x y v ⟨⟨m, hm1, rfl⟩, rfl, hv2, hvs, hf⟩ k
    have ec : v.1 139 0 = I C := by rw [hf _ _ (by omega), hm.1, hC]
    rw [ec, if_pos (show I (C : Int) < I ((C : Int) + 1) by rw [I_lt (by omega) (by omega) (by omega) (by omega)]; omega), IsMx_u hm1 (BR_is hV C R)]
    exact ⟨v, rfl, hv2, hf⟩
theorem op_longest {z y : Int} (hz : -2147483648 ≤ z ∧ z < 2147483648) (hy : -2147483648 ≤ y ∧ y < 2147483648) : Op2 (f_X7_longest 0 (I z) (I y)) (f_X8_longest 139 (I z) (I y)) := by
  rintro w ⟨g, p, u, G, H⟩
  obtain ⟨hW, ⟨hv, hc, hm⟩, hrc, hrd, hri, hrt, hrh, hrs⟩ := id H
  have v1 := hv.1; have v2 := hv.2.1
  obtain ⟨C, hC⟩ : ∃ C : Nat, g 0 = C := ⟨(g 0).toNat, by omega⟩
  obtain ⟨R, hR⟩ : ∃ R : Nat, g 1 = R := ⟨(g 1).toNat, by omega⟩
  by_cases c : 0 ≤ z ∧ z ≤ 3
  · by_cases d : 0 ≤ y ∧ y ≤ 1
    · obtain ⟨st, hst⟩ : ∃ st : Bool, st = true ↔ (z = 1 ∨ z = 3) := ⟨decide (z = 1 ∨ z = 3), decide_eq_true_iff⟩
      obtain ⟨fl, hfl⟩ : ∃ fl : Bool, fl = true ↔ 2 ≤ z := ⟨decide (2 ≤ z), decide_eq_true_iff⟩
      obtain ⟨w1, b1, b2, b3, b4⟩ := s_bestRow hW hv hc hrs hC hR c hst hfl (show y = 0 ∨ y = 1 by omega)
      have H1 : Ig w1 g p u G := ⟨by rw [b2]; exact hW, ⟨hv, hc.of (fun b => b4 _ _ (by omega)) (fun b => b4 _ _ (by omega)), hm.of (fun b _ => b4 _ _ (by omega)) (fun b => b4 _ _ (by omega))⟩, hrc.of hv (fun a b h => b4 _ _ (by omega)), hrd.of (fun a b h => b4 _ _ (by omega)) (fun b => by rw [b2]), hri.of (fun a b h => b4 _ _ (by omega)), hrt.of (fun a b h => b4 _ _ (by omega)), hrh.of (fun a b h => b4 _ _ (by omega)), b3⟩
      obtain ⟨w2, m1, m2, m3⟩ := m_longest H1.1 hv H1.2.1.2.2 hC hR c hst hfl (show y = 0 ∨ y = 1 by omega)
      refine ⟨_, w1, w2, ?_, m1, g, p, u, G, H1.of m2 (H1.2.2.1.of hv (fun a b h => m3 _ _ (by omega))) (fun a b h => m3 _ _ (by omega))⟩
      unfold f_X7_longest
      have x10 : (if I y = (1 : Int32) then (1 : Int32) else (0 : Int32)) = I y := by
        obtain rfl | rfl : y = 0 ∨ y = 1 := by omega
        · rfl
        · rfl
      rw [if_neg (show ¬ I z < 0 by rw [i0, I_lt (by omega) (by omega) (by omega) (by omega)]; omega), if_neg (show ¬ (4 : Int32) ≤ I z by rw [i4, I_le (by omega) (by omega) (by omega) (by omega)]; omega), if_neg (show ¬ I y < 0 by rw [i0, I_lt (by omega) (by omega) (by omega) (by omega)]; omega), if_pos (show I y ≤ (1 : Int32) by rw [i1, I_le (by omega) (by omega) (by omega) (by omega)]; omega), rfc hW.1.2.2.2.2.1 kd_84 (by decide), rfc hW.1.1 kd_1 (by decide), x10, lt_d, c2_r b1]
    · refine ⟨(-1 : Int32), w, w, ?_, ?_, g, p, u, G, H⟩
      · unfold f_X7_longest
        rw [if_neg (show ¬ I z < 0 by rw [i0, I_lt (by omega) (by omega) (by omega) (by omega)]; omega), if_neg (show ¬ (4 : Int32) ≤ I z by rw [i4, I_le (by omega) (by omega) (by omega) (by omega)]; omega)]
        by_cases e : y < 0
        · rw [if_pos (show I y < 0 by rw [i0, I_lt (by omega) (by omega) (by omega) (by omega)]; omega)]
        · rw [if_neg (show ¬ I y < 0 by rw [i0, I_lt (by omega) (by omega) (by omega) (by omega)]; omega), if_neg (show ¬ I y ≤ (1 : Int32) by rw [i1, I_le (by omega) (by omega) (by omega) (by omega)]; omega)]
      · unfold f_X8_longest
        rw [l0, l1, l3, c1_r (m_chk hz (by omega) (by omega)), if_pos c, if_neg n10, c1_r (m_chk hy (by omega) (by omega)), if_neg d, if_pos z00]
  · refine ⟨(-1 : Int32), w, w, ?_, ?_, g, p, u, G, H⟩
    · unfold f_X7_longest
      by_cases e : z < 0
      · rw [if_pos (show I z < 0 by rw [i0, I_lt (by omega) (by omega) (by omega) (by omega)]; omega)]
      · rw [if_neg (show ¬ I z < 0 by rw [i0, I_lt (by omega) (by omega) (by omega) (by omega)]; omega), if_pos (show (4 : Int32) ≤ I z by rw [i4, I_le (by omega) (by omega) (by omega) (by omega)]; omega)]
    · unfold f_X8_longest
      rw [l0, l3, c1_r (m_chk hz (by omega) (by omega)), if_neg c, if_pos z00]

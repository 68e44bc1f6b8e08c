/-! fits -/
theorem s_goesLevel {w : Wd} {t u : Nat} {s r : Nat → Int} {W V : Int} (kt : kd t = 5) (rt : w.2 t 0 = some (t + 1)) (ku : kd u = 5) (ru : w.2 u 0 = some (u + 1)) (h : ShC w t s) (hs : Gs s W) (hb : W ≤ 75) (h2 : ShC w u r) (hr : Gs r V) (hb2 : V ≤ 75) :
    (f_X5_goesOnLevel t u w = some (I 1) ∧ Sp 0 r s) ∨ (f_X5_goesOnLevel t u w = some (I 0) ∧ ¬ Sp 0 r s) := by
  have l1 := len_b s
  have l2 := len_b r
  obtain ⟨N, e, n1, n2, n3⟩ := mxN l1 l2
  unfold f_X5_goesOnLevel
  rw [h.1, h2.1, e, lt_d]
  refine wl1_inv (Q := fun z => (z = some (I 1) ∧ Sp 0 r s) ∨ (z = some (I 0) ∧ ¬ Sp 0 r s)) N (fun i x => x = I i ∧ ∀ j, j < i → r j ≤ s j ∧ s (j + 1) ≤ r j) (fu_lt (by omega)) ⟨rfl, fun j hj => absurd hj (by omega)⟩ ?_ ?_
  · rintro i hi x ⟨rfl, hd⟩ k
    have x1 := hs.1 i; have x2 := hs.b i; have x3 := hr.1 i; have x4 := hr.b i; have x5 := hs.1 (i + 1); have x6 := hs.b (i + 1)
    simp (disch := omega) only [↓j_m1, ↓j_m2, ↓j_m3, ↓j_m5, ↓j_m6, ↓j_m11, ↓j_m12, ↓j_m13, ↓j_m14, ↓j_m1000, j_0, j_1, j_2, j_3, j_4, j_5, j_6, j_7, j_8, j_9, j_10, j_12, j_14, j_20, j_25, j_26, j_28, j_30, j_36, j_48, j_49, j_50, j_53, j_57, j_59, j_60, j_63, j_75, j_80, j_99, j_100, j_196, j_255, j_1000, I_le]
    rw [if_neg (by omega), c1_r (s_partAt ku ru h2 hr (by omega)), c1_r (s_partAt kt rt h hs (by omega)), I_add, nS, c1_r (s_partAt kt rt h hs (by omega))]
    simp (disch := omega) only [I_lt, I_le, lt_d]
    by_cases c : s i < r i
    · right; right
      rw [if_pos c]
      exact ⟨rfl, fun q => absurd (q.1 i) (by omega)⟩
    · rw [if_neg c]
      by_cases d : s (i + 1) ≤ r i
      · left
        refine ⟨_, ⟨rfl, fun j hj => ?_⟩, by rw [if_pos d]⟩
        by_cases e2 : j = i
        · subst e2; omega
        · exact hd j (by omega)
      · right; right
        rw [if_neg d]
        exact ⟨rfl, fun q => absurd (q.2.1 rfl i) d⟩
  · rintro x ⟨rfl, hd⟩ k
    rw [if_pos (by rw [I_le (by omega) (by omega) (by omega) (by omega)]; omega)]
    have al : ∀ j, r j ≤ s j ∧ s (j + 1) ≤ r j := fun j => by
      by_cases c : j < N
      · exact hd j c
      · rw [len_z hs (k := j) (by omega), len_z hr (k := j) (by omega), len_z hs (k := j + 1) (by omega)]
        omega
    exact Or.inl ⟨rfl, fun k => (al k).1, fun _ k => (al k).2, fun h => absurd h (by decide)⟩
theorem s_goesUp {w : Wd} {t u : Nat} {s r : Nat → Int} {W V : Int} (kt : kd t = 5) (rt : w.2 t 0 = some (t + 1)) (ku : kd u = 5) (ru : w.2 u 0 = some (u + 1)) (h : ShC w t s) (hs : Gs s W) (hb : W ≤ 75) (h2 : ShC w u r) (hr : Gs r V) (hb2 : V ≤ 75) :
    (f_X5_goesOnUpright t u w = some (I 1) ∧ Sp 1 r s) ∨ (f_X5_goesOnUpright t u w = some (I 0) ∧ ¬ Sp 1 r s) := by
  have l1 := len_b s
  have l2 := len_b r
  obtain ⟨N, e, n1, n2, n3⟩ := mxN l1 l2
  unfold f_X5_goesOnUpright
  rw [h.1, h2.1, e, lt_d]
  refine wl1_inv (Q := fun z => (z = some (I 1) ∧ Sp 1 r s) ∨ (z = some (I 0) ∧ ¬ Sp 1 r s)) N (fun i x => x = I i ∧ ∀ j, j < i → r j ≤ s j ∧ s j ≤ r j + 1) (fu_lt (by omega)) ⟨rfl, fun j hj => absurd hj (by omega)⟩ ?_ ?_
  · rintro i hi x ⟨rfl, hd⟩ k
    have x1 := hs.1 i; have x2 := hs.b i; have x3 := hr.1 i; have x4 := hr.b i
    simp (disch := omega) only [↓j_m1, ↓j_m2, ↓j_m3, ↓j_m5, ↓j_m6, ↓j_m11, ↓j_m12, ↓j_m13, ↓j_m14, ↓j_m1000, j_0, j_1, j_2, j_3, j_4, j_5, j_6, j_7, j_8, j_9, j_10, j_12, j_14, j_20, j_25, j_26, j_28, j_30, j_36, j_48, j_49, j_50, j_53, j_57, j_59, j_60, j_63, j_75, j_80, j_99, j_100, j_196, j_255, j_1000, I_le]
    rw [if_neg (by omega), c1_r (s_partAt kt rt h hs (by omega)), c1_r (s_partAt ku ru h2 hr (by omega)), I_sub]
    simp (disch := omega) only [lt_d, I_lt, I_le, I_add, nS]
    by_cases c : s i - r i < 0
    · right; right
      rw [if_pos c]
      exact ⟨rfl, fun q => absurd (q.1 i) (by omega)⟩
    · rw [if_neg c]
      by_cases d : s i - r i ≤ 1
      · left
        refine ⟨_, ⟨rfl, fun j hj => ?_⟩, by rw [if_pos d]⟩
        by_cases e2 : j = i
        · subst e2; omega
        · exact hd j (by omega)
      · right; right
        rw [if_neg d]
        exact ⟨rfl, fun q => absurd (q.2.2 rfl i) (by omega)⟩
  · rintro x ⟨rfl, hd⟩ k
    rw [if_pos (by rw [I_le (by omega) (by omega) (by omega) (by omega)]; omega)]
    have al : ∀ j, r j ≤ s j ∧ s j ≤ r j + 1 := fun j => by
      by_cases c : j < N
      · exact hd j c
      · rw [len_z hs (k := j) (by omega), len_z hr (k := j) (by omega)]
        omega
    exact Or.inl ⟨rfl, fun k => (al k).1, fun h => absurd h (by decide), fun _ k => (al k).2⟩
theorem s_goesOn {w : Wd} {t u : Nat} {s r : Nat → Int} {W V e : Int} (he : e = 0 ∨ e = 1) (kt : kd t = 5) (rt : w.2 t 0 = some (t + 1)) (ku : kd u = 5) (ru : w.2 u 0 = some (u + 1)) (h : ShC w t s) (hs : Gs s W) (hb : W ≤ 75) (h2 : ShC w u r) (hr : Gs r V) (hb2 : V ≤ 75) :
    (f_X5_goesOnFrom t u (I e) w = some (I 1) ∧ Sp e r s) ∨ (f_X5_goesOnFrom t u (I e) w = some (I 0) ∧ ¬ Sp e r s) := by
  unfold f_X5_goesOnFrom
  obtain rfl | rfl := he
  · rw [if_pos z00]
    obtain ⟨q, z⟩ | ⟨q, z⟩ := s_goesLevel kt rt ku ru h hs hb h2 hr hb2
    · rw [c1_r q, zb_1]; exact Or.inl ⟨rfl, z⟩
    · rw [c1_r q, zb_0]; exact Or.inr ⟨rfl, z⟩
  · rw [if_neg n10]
    obtain ⟨q, z⟩ | ⟨q, z⟩ := s_goesUp kt rt ku ru h hs hb h2 hr hb2
    · rw [c1_r q, zb_1]; exact Or.inl ⟨rfl, z⟩
    · rw [c1_r q, zb_0]; exact Or.inr ⟨rfl, z⟩
def RimF (g : Gd) (C R : Nat) (q : Int) : Prop := (∀ x, x < C → Sp (eC q) (Sg g x R) (Sg g (x + 1) R)) ∧ ∀ y, y < R → Sp (eR q) (Sg g C y) (Sg g C (y + 1))
theorem eC_b (q : Int) : eC q = 0 ∨ eC q = 1 := by
  unfold eC
  (repeat' split) <;> omega
theorem eR_b (q : Int) : eR q = 0 ∨ eR q = 1 := by
  unfold eR
  (repeat' split) <;> omega
theorem s_rimFits {w : Wd} {g : Gd} {C R : Nat} {q : Int} (hW : Wi w.2) (hv : GV g) (hg : GrC w g) (hC : g 0 = C) (hR : g 1 = R) (hq : 0 ≤ q ∧ q ≤ 3) : (f_X1_rimFits 7 (I q) w = some (I 1) ∧ RimF g C R q) ∨ (f_X1_rimFits 7 (I q) w = some (I 0) ∧ ¬ RimF g C R q) := by
  have v1 := hv.1; have v2 := hv.2.1
  have kk : ∀ x y : Nat, x ≤ 5 → y ≤ 5 → kd (9 + 2 * (6 * x + y)) = 5 := fun x y _ _ => kd_shape _ (by omega)
  have step : ∀ (a b c d : Nat) (e : Int), (e = 0 ∨ e = 1) → a ≤ C → c ≤ C → b ≤ R → d ≤ R → (f_X5_goesOnFrom (9 + 2 * (6 * a + b)) (9 + 2 * (6 * c + d)) (I e) w = some (I 1) ∧ Sp e (Sg g c d) (Sg g a b)) ∨ (f_X5_goesOnFrom (9 + 2 * (6 * a + b)) (9 + 2 * (6 * c + d)) (I e) w = some (I 0) ∧ ¬ Sp e (Sg g c d) (Sg g a b)) := fun a b c d e he h1 h2 h3 h4 =>
    s_goesOn he (kk a b (by omega) (by omega)) (hW.2.2.1 _ (kk a b (by omega) (by omega))) (kk c d (by omega) (by omega)) (hW.2.2.1 _ (kk c d (by omega) (by omega))) (hg.2.2 a b (by omega) (by omega)) (Sg_ok hv (by omega) (by omega)).1 (Wg_b hv (by omega) (by omega)).2 (hg.2.2 c d (by omega) (by omega)) (Sg_ok hv (by omega) (by omega)).1 (Wg_b hv (by omega) (by omega)).2
  have x3 : (if I q = (1 : Int32) then (1 : Int32) else (if I q = (3 : Int32) then (1 : Int32) else (0 : Int32))) = I (eC q) := by
    unfold eC
    simp (disch := omega) only [↓j_m1, ↓j_m2, ↓j_m3, ↓j_m5, ↓j_m6, ↓j_m11, ↓j_m12, ↓j_m13, ↓j_m14, ↓j_m1000, j_0, j_1, j_2, j_3, j_4, j_5, j_6, j_7, j_8, j_9, j_10, j_12, j_14, j_20, j_25, j_26, j_28, j_30, j_36, j_48, j_49, j_50, j_53, j_57, j_59, j_60, j_63, j_75, j_80, j_99, j_100, j_196, j_255, j_1000, I_eq, I_ite]
  have x6 : (if I q = (2 : Int32) then (1 : Int32) else (if I q = (3 : Int32) then (1 : Int32) else (0 : Int32))) = I (eR q) := by
    unfold eR
    simp (disch := omega) only [↓j_m1, ↓j_m2, ↓j_m3, ↓j_m5, ↓j_m6, ↓j_m11, ↓j_m12, ↓j_m13, ↓j_m14, ↓j_m1000, j_0, j_1, j_2, j_3, j_4, j_5, j_6, j_7, j_8, j_9, j_10, j_12, j_14, j_20, j_25, j_26, j_28, j_30, j_36, j_48, j_49, j_50, j_53, j_57, j_59, j_60, j_63, j_75, j_80, j_99, j_100, j_196, j_255, j_1000, I_eq, I_ite]
  unfold f_X1_rimFits
  rw [x3, x6, lt_d, lt_d, hg.1, hg.2.1, hC, hR]
  refine wl1_inv (Q := fun z => (z = some (I 1) ∧ RimF g C R q) ∨ (z = some (I 0) ∧ ¬ RimF g C R q)) C (fun i x => x = I ((i : Int) + 1) ∧ ∀ j, j < i → Sp (eC q) (Sg g j R) (Sg g (j + 1) R)) (fu_lt (by omega)) ⟨rfl, fun j hj => absurd hj (by omega)⟩ ?_ ?_
  · rintro i hi x ⟨rfl, hd⟩ k
    simp (disch := omega) only [↓j_m1, ↓j_m2, ↓j_m3, ↓j_m5, ↓j_m6, ↓j_m11, ↓j_m12, ↓j_m13, ↓j_m14, ↓j_m1000, j_0, j_1, j_2, j_3, j_4, j_5, j_6, j_7, j_8, j_9, j_10, j_12, j_14, j_20, j_25, j_26, j_28, j_30, j_36, j_48, j_49, j_50, j_53, j_57, j_59, j_60, j_63, j_75, j_80, j_99, j_100, j_196, j_255, j_1000, I_lt, I_sub]
    rw [if_neg (by omega), show (i : Int) + 1 - 1 = (i : Int) by omega, nS i, c1_r (s_at (x := i + 1) (y := R) hW (by omega) (by omega)), ckc (kk _ _ (by omega) (by omega)) (by decide), c1_r (s_at (x := i) (y := R) hW (by omega) (by omega)), ckc (kk _ _ (by omega) (by omega)) (by decide)]
    obtain ⟨z1, z2⟩ | ⟨z1, z2⟩ := step (i + 1) R i R (eC q) (eC_b q) (by omega) (by omega) (by omega) (by omega)
    · left
      refine ⟨I (((i + 1 : Nat) : Int) + 1), ⟨rfl, fun j hj => ?_⟩, ?_⟩
      · by_cases e2 : j = i
        · subst e2; exact z2
        · exact hd j (by omega)
      · rw [c1_r z1, if_neg (by decide), lt_d, I_add]
    · right; right
      rw [c1_r z1, if_pos rfl]
      exact ⟨rfl, fun h => z2 (h.1 i hi)⟩
  · rintro x ⟨rfl, hd⟩ k
    rw [if_pos (by rw [I_lt (by omega) (by omega) (by omega) (by omega)]; omega)]
    refine wl1_inv (Q := fun z => (z = some (I 1) ∧ RimF g C R q) ∨ (z = some (I 0) ∧ ¬ RimF g C R q)) R (fun i x => x = I ((i : Int) + 1) ∧ ∀ j, j < i → Sp (eR q) (Sg g C j) (Sg g C (j + 1))) (fu_lt (by omega)) ⟨rfl, fun j hj => absurd hj (by omega)⟩ ?_ ?_
    · rintro i hi x ⟨rfl, hd2⟩ k
      simp (disch := omega) only [↓j_m1, ↓j_m2, ↓j_m3, ↓j_m5, ↓j_m6, ↓j_m11, ↓j_m12, ↓j_m13, ↓j_m14, ↓j_m1000, j_0, j_1, j_2, j_3, j_4, j_5, j_6, j_7, j_8, j_9, j_10, j_12, j_14, j_20, j_25, j_26, j_28, j_30, j_36, j_48, j_49, j_50, j_53, j_57, j_59, j_60, j_63, j_75, j_80, j_99, j_100, j_196, j_255, j_1000, I_lt, I_sub]
      rw [if_neg (by omega), show (i : Int) + 1 - 1 = (i : Int) by omega, nS i, c1_r (s_at (x := C) (y := i + 1) hW (by omega) (by omega)), ckc (kk _ _ (by omega) (by omega)) (by decide), c1_r (s_at (x := C) (y := i) hW (by omega) (by omega)), ckc (kk _ _ (by omega) (by omega)) (by decide)]
      obtain ⟨z1, z2⟩ | ⟨z1, z2⟩ := step C (i + 1) C i (eR q) (eR_b q) (by omega) (by omega) (by omega) (by omega)
      · left
        refine ⟨I (((i + 1 : Nat) : Int) + 1), ⟨rfl, fun j hj => ?_⟩, ?_⟩
        · by_cases e2 : j = i
          · subst e2; exact z2
          · exact hd2 j (by omega)
        · rw [c1_r z1, if_neg (by decide), lt_d, I_add]
      · right; right
        rw [c1_r z1, if_pos rfl]
        exact ⟨rfl, fun h => z2 (h.2 i hi)⟩
    · rintro x ⟨rfl, hd2⟩ k
      rw [if_pos (by rw [I_lt (by omega) (by omega) (by omega) (by omega)]; omega)]
      exact Or.inl ⟨rfl, hd, hd2⟩

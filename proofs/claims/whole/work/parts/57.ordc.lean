/-! corners put in order -/
theorem s_shapeOf {w : Wd} {g : Gd} {i : Nat} (hW : Wi w.2) (hv : GV g) (hi : i < nc g) : f_X1_shapeOf 7 (I (cod g i)) w = some (9 + 2 * (6 * (i / nR g) + i % nR g)) := by
  have h1 := nc_b hi
  have v1 := hv.1; have v2 := hv.2.1
  have hc : cod g i = 10 * ((i / nR g : Nat) : Int) + ((i % nR g : Nat) : Int) := rfl
  unfold f_X1_shapeOf
  generalize i / nR g = x at *
  generalize i % nR g = y at *
  rw [hc, i10, I_div (by omega) (by omega) (by omega) (by omega), I_mul, I_sub, show (10 * (x : Int) + (y : Int)) / 10 = (x : Int) by omega, show 10 * (x : Int) + (y : Int) - (x : Int) * 10 = (y : Int) by omega, c1_r (s_at hW (by omega) (by omega)), ckc (kd_shape _ (by omega)) (by decide)]
theorem s_orderTo {w : Wd} {t u : Nat} {s r : Nat → Int} {W V : Int} (kt : kd t = 5) (rt : w.2 t 0 = some (t + 1)) (ku : kd u = 5) (ru : w.2 u 0 = some (u + 1)) (h : ShC w t s) (hs : Gs s W) (hb : 0 ≤ W ∧ W ≤ 75) (h2 : ShC w u r) (hr : Gs r V) (hb2 : 0 ≤ V ∧ V ≤ 75) :
    ∃ z : Int, f_X5_orderTo t u w = some (I z) ∧ (-200 ≤ z ∧ z ≤ 200) ∧ ((z < 0 ∧ big s r) ∨ (z = 0 ∧ alike s r) ∨ (0 < z ∧ big r s)) := by
  have l1 := len_b s
  have l2 := len_b r
  obtain ⟨N, e, n1, n2, n3⟩ := mxN l1 l2
  have e1 := hs.2.2.2
  have e2 := hr.2.2.2
  unfold f_X5_orderTo
  rw [h.1, h2.1, h.2.1, h2.2.1, e1, e2, e]
  by_cases c : W = V
  · rw [if_pos (show I W = I V by rw [c]), lt_d]
    refine wl1_inv (Q := fun z' => ∃ z : Int, z' = some (I z) ∧ (-200 ≤ z ∧ z ≤ 200) ∧ ((z < 0 ∧ big s r) ∨ (z = 0 ∧ alike s r) ∨ (0 < z ∧ big r s))) N (fun i x => x = I i ∧ ∀ j, j < i → s j = r j) (fu_lt (by omega)) ⟨rfl, fun j hj => absurd hj (by omega)⟩ ?_ ?_
    · rintro i hi x ⟨rfl, hd⟩ k
      have x1 := hs.1 i; have x2 := hs.b i; have x3 := hr.1 i; have x4 := hr.b i
      rw [if_neg (show ¬ (I (N : Int) ≤ I (i : Int)) by rw [I_le (by omega) (by omega) (by omega) (by omega)]; omega), c1_r (s_partAt kt rt h hs (by omega)), c1_r (s_partAt ku ru h2 hr (by omega))]
      by_cases d : s i = r i
      · left
        refine ⟨I ((i + 1 : Nat) : Int), ⟨rfl, fun j hj => ?_⟩, by rw [if_pos (show I (s i) = I (r i) by rw [d]), lt_d, i1, I_add, nS]⟩
        by_cases f : j = i
        · subst f; exact d
        · exact hd j (by omega)
      · right
        rw [if_neg (show ¬ (I (s i) = I (r i)) by rw [I_eq (by omega) (by omega) (by omega) (by omega)]; exact d), c1_r (s_partAt ku ru h2 hr (by omega)), c1_r (s_partAt kt rt h hs (by omega)), I_sub]
        refine ⟨_, rfl, by omega, ?_⟩
        by_cases f : r i < s i
        · exact Or.inl ⟨by omega, Or.inr ⟨by omega, i, f, hd⟩⟩
        · exact Or.inr (Or.inr ⟨by omega, Or.inr ⟨by omega, i, by omega, fun j hj => (hd j hj).symm⟩⟩)
    · rintro x ⟨rfl, hd⟩ k
      rw [if_pos (show I (N : Int) ≤ I (N : Int) by rw [I_le (by omega) (by omega) (by omega) (by omega)]; omega)]
      refine ⟨0, rfl, by omega, Or.inr (Or.inl ⟨rfl, fun j => ?_⟩)⟩
      by_cases f : j < N
      · exact hd j f
      · rw [len_z hs (by omega), len_z hr (by omega)]
  · rw [if_neg (show ¬ (I W = I V) by rw [I_eq (by omega) (by omega) (by omega) (by omega)]; exact c), I_sub]
    refine ⟨_, rfl, by omega, ?_⟩
    by_cases f : V < W
    · exact Or.inl ⟨by omega, Or.inl (by omega)⟩
    · exact Or.inr (Or.inr ⟨by omega, Or.inl (by omega)⟩)
theorem s_ordI {w : Wd} {g : Gd} {i j : Nat} (hW : Wi w.2) (hv : GV g) (hg : GrC w g) (hi : i < nc g) (hj : j < nc g) :
    ∃ z : Int, f_X5_orderTo (9 + 2 * (6 * (i / nR g) + i % nR g)) (9 + 2 * (6 * (j / nR g) + j % nR g)) w = some (I z) ∧ (-200 ≤ z ∧ z ≤ 200) ∧ ((z < 0 ∧ big (sh g i) (sh g j)) ∨ (z = 0 ∧ alike (sh g i) (sh g j)) ∨ (0 < z ∧ big (sh g j) (sh g i))) := by
  have h1 := nc_b hi
  have h2 := nc_b hj
  have v1 := hv.1; have v2 := hv.2.1
  have k1 := kd_shape (6 * (i / nR g) + i % nR g) (by omega)
  have k2 := kd_shape (6 * (j / nR g) + j % nR g) (by omega)
  exact s_orderTo k1 (hW.2.2.1 _ k1) k2 (hW.2.2.1 _ k2) (hg.2.2 _ _ (by omega) (by omega)) (Sg_ok hv (by omega) (by omega)).1 (Wg_b hv (by omega) (by omega)) (hg.2.2 _ _ (by omega) (by omega)) (Sg_ok hv (by omega) (by omega)).1 (Wg_b hv (by omega) (by omega))
theorem s_insert {w : Wd} {g : Gd} {m : Nat} (hW : Wi w.2) (hv : GV g) (hg : GrC w g) (hm : m < nc g) (hm36 : m < 36) (ho : OrM w g m) : ∃ w' : Wd, f_X1_insert 7 (I (cod g m)) w = some w' ∧ w'.2 = w.2 ∧ OrM w' g (m + 1) ∧ ∀ a b, a ≠ 83 → ¬ (a = 7 ∧ b = 5) → w'.1 a b = w.1 a b := by
  obtain ⟨o1, σ, o2⟩ := ho
  have v1 := hv.1; have v2 := hv.2.1
  have r83 : w.2 7 4 = some 83 := hW.2.2.2.1.2.2
  unfold f_X1_insert
  rw [o1, if_pos (show I (m : Int) < (36 : Int32) by rw [i36, I_lt (by omega) (by omega) (by omega) (by omega)]; omega), lt_d]
  have fin : ∀ (v : Wd) (p : Nat), p ≤ m → v.2 = w.2 → (∀ j, j < p → v.1 83 j = I (cod g (σ j))) → (∀ j, p < j → j ≤ m → v.1 83 j = I (cod g (σ (j - 1)))) → (∀ a b, a ≠ 83 → v.1 a b = w.1 a b) → (0 < p → bef g (σ (p - 1)) m) → (∀ j, p ≤ j → j < m → bef g m (σ j)) → ∃ w' : Wd, rf 153 (v.2 7 4) 9 (fun t10 => ix (I (p : Int)) (ln t10) (fun j12 => lt (upI v t10 j12 (I (cod g m))) (fun w13 => lt (upI w13 7 5 ((w13.1 7 5) + (1 : Int32))) (fun w14 => some w14)))) = some w' ∧ w'.2 = w.2 ∧ OrM w' g (m + 1) ∧ ∀ a b, a ≠ 83 → ¬ (a = 7 ∧ b = 5) → w'.1 a b = w.1 a b := fun v p hp hv2 ha hb hf b1 b2 => by
    have hins := ins_ok hv hm (fun j hj => ⟨(o2 j hj).1, (o2 j hj).2.1⟩) hp b1 b2
    rw [rfc (show v.2 7 4 = some 83 by rw [hv2]; exact r83) kd_83 (by decide), ln_83, ix_d (by omega) (by omega) (by decide), Int.toNat_natCast, lt_d, lt_d, upI_n (show ¬ (7 = 83 ∧ 5 = p) by omega), hf 7 5 (by omega), o1, i1, I_add, nS]
    refine ⟨_, rfl, hv2, ⟨upI_s _ _ _ _, fun j => if j < p then σ j else if j = p then m else σ (j - 1), fun j hj => ⟨(hins j hj).1, (hins j hj).2, ?_⟩⟩, fun a b h1 h2 => by rw [upI_n (by omega), upI_n (by omega)]; exact hf a b h1⟩
    rw [upI_n (by omega)]
    show _ = I (cod g (if j < p then σ j else if j = p then m else σ (j - 1)))
    by_cases c1 : j < p
    · rw [upI_n (by omega), if_pos c1]; exact ha j c1
    · rw [if_neg c1]
      by_cases c2 : j = p
      · subst c2; rw [upI_s, if_pos rfl]
      · rw [upI_n (by omega), if_neg c2]; exact hb j (by omega) (by omega)
  refine wl2_inv (Q := fun r => ∃ w' : Wd, r = some w' ∧ w'.2 = w.2 ∧ OrM w' g (m + 1) ∧ ∀ a b, a ≠ 83 → ¬ (a = 7 ∧ b = 5) → w'.1 a b = w.1 a b) m (fun d x (v : Wd) => x = I ((m - d : Nat) : Int) ∧ v.2 = w.2 ∧ (∀ j, j < m - d → v.1 83 j = I (cod g (σ j))) ∧ (∀ j, m - d < j → j ≤ m → v.1 83 j = I (cod g (σ (j - 1)))) ∧ (∀ a b, a ≠ 83 → v.1 a b = w.1 a b) ∧ ∀ j, m - d ≤ j → j < m → bef g m (σ j)) (fu_lt (by omega)) ?_ ?_ ?_
  · exact ⟨rfl, rfl, fun j hj => (o2 j hj).2.2, fun j h1 h2 => absurd h2 (by omega), fun _ _ _ => rfl, fun j h1 h2 => absurd h2 (by omega)⟩
  · rintro d hd x v ⟨rfl, hv2, ha, hb, hf, hbf⟩ k
    have hWv : Wi v.2 := by rw [hv2]; exact hW
    have gv : GrC v g := hg.of hv (fun b _ => hf _ _ (by omega)) (fun a b _ _ _ => hf _ _ (by omega))
    obtain ⟨p, hp⟩ : ∃ p, m - d = p + 1 := ⟨m - d - 1, by omega⟩
    rw [hp] at ha hb hbf ⊢
    have sp := o2 p (by omega)
    obtain ⟨z, z1, z2, z3⟩ := s_ordI (i := m) (j := σ p) hWv hv gv hm (by omega)
    have h1 := nc_b hm
    have h2 := nc_b (show σ p < nc g by omega)
    have k1 := kd_shape (6 * (m / nR g) + m % nR g) (by omega)
    have k2 := kd_shape (6 * (σ p / nR g) + σ p % nR g) (by omega)
    have e83 : v.2 7 4 = some 83 := by rw [hv2]; exact r83
    rw [jn_d, if_neg (show ¬ (I ((p + 1 : Nat) : Int) ≤ 0) by rw [i0, I_le (by omega) (by omega) (by omega) (by omega)]; omega), c1_r (s_shapeOf hWv hv hm), ckc k1 (by decide), rfc e83 kd_83 (by decide), show I ((p + 1 : Nat) : Int) - (1 : Int32) = I (p : Int) from (I_sub _ 1).trans (congrArg I (by omega)), ln_83, ix_d (by omega) (by omega) (by decide), Int.toNat_natCast, ha p (by omega), c1_r (s_shapeOf hWv hv (show σ p < nc g by omega)), ckc k2 (by decide), c1_r z1]
    obtain ⟨z3, z4⟩ | z3 : (z < 0 ∧ big (sh g m) (sh g (σ p))) ∨ (0 ≤ z ∧ bef g (σ p) m) := by
      obtain ⟨z3, z4⟩ | ⟨z3, z4⟩ | ⟨z3, z4⟩ := z3
      · exact Or.inl ⟨z3, z4⟩
      · exact Or.inr ⟨by omega, Or.inr ⟨fun k => (z4 k).symm, sp.1⟩⟩
      · exact Or.inr ⟨by omega, Or.inl z4⟩
    · left
      refine ⟨I (p : Int), upI v 83 (p + 1) (I (cod g (σ p))), ⟨congrArg I (by omega), hv2, fun j hj => by rw [upI_n (by omega)]; exact ha j (by omega), fun j h1 h2 => ?_, fun a b h => by rw [upI_n (by omega)]; exact hf a b h, fun j h1 h2 => ?_⟩, ?_⟩
      · by_cases e : j = p + 1
        · subst e; rw [upI_s]; rfl
        · rw [upI_n (by omega)]; exact hb j (by omega) h2
      · by_cases e : j = p
        · subst e; exact Or.inl z4
        · exact hbf j (by omega) h2
      · rw [if_neg (show ¬ (0 ≤ I z) by rw [i0, I_le (by omega) (by omega) (by omega) (by omega)]; omega), rfc e83 kd_83 (by decide), rfc e83 kd_83 (by decide), ln_83, ix_d (by omega) (by omega) (by decide), Int.toNat_natCast, ix_d (by omega) (by omega) (by decide), Int.toNat_natCast, ha p (by omega), lt_d, lt_d, im1, I_add]
        exact congrArg (fun q => k q _) (congrArg I (by omega))
    · right
      rw [if_pos (show 0 ≤ I z by rw [i0, I_le (by omega) (by omega) (by omega) (by omega)]; omega)]
      exact fin v (p + 1) (by omega) hv2 ha hb hf (fun _ => z3.2) hbf
  · rintro x v ⟨rfl, hv2, ha, hb, hf, hbf⟩ k
    rw [Nat.sub_self] at ha hb hbf ⊢
    rw [jn_d, if_pos (show I ((0 : Nat) : Int) ≤ 0 by decide)]
    exact fin v 0 (by omega) hv2 ha hb hf (fun h => absurd h (by omega)) hbf
theorem s_putInOrder {w : Wd} {g : Gd} (hW : Wi w.2) (hv : GV g) (hg : GrC w g) (ho : w.1 7 5 = I 0 ∨ OrC w g) : ∃ w' : Wd, f_X1_putInOrder 7 w = some w' ∧ w'.2 = w.2 ∧ OrC w' g ∧ ∀ a b, a ≠ 83 → ¬ (a = 7 ∧ b = 5) → w'.1 a b = w.1 a b := by
  have v1 := hv.1; have v2 := hv.2.1
  obtain ⟨C, hC⟩ : ∃ C : Nat, g 0 = C := ⟨(g 0).toNat, by omega⟩
  obtain ⟨R, hR⟩ : ∃ R : Nat, g 1 = R := ⟨(g 1).toNat, by omega⟩
  have enR : nR g = R + 1 := by unfold nR; omega
  have enc : nc g = (C + 1) * (R + 1) := by unfold nc; rw [enR]; congr 1; omega
  have b36 : (C + 1) * (R + 1) ≤ 36 := Nat.mul_le_mul (show C + 1 ≤ 6 by omega) (show R + 1 ≤ 6 by omega)
  have p1 : 1 ≤ (C + 1) * (R + 1) := Nat.mul_pos (Nat.succ_pos _) (Nat.succ_pos _)
  unfold f_X1_putInOrder
  obtain h0 | h1 := ho
  · rw [if_pos (show w.1 7 5 ≤ 0 by rw [h0]; decide)]
    refine wl2_inv (Q := fun r => ∃ w' : Wd, r = some w' ∧ w'.2 = w.2 ∧ OrC w' g ∧ ∀ a b, a ≠ 83 → ¬ (a = 7 ∧ b = 5) → w'.1 a b = w.1 a b) (C + 1) (fun i x (v : Wd) => x = I i ∧ v.2 = w.2 ∧ OrM v g (i * (R + 1)) ∧ ∀ a b, a ≠ 83 → ¬ (a = 7 ∧ b = 5) → v.1 a b = w.1 a b) (fu_lt (by omega)) ?_ ?_ ?_
    · exact ⟨rfl, rfl, by rw [Nat.zero_mul]; exact ⟨h0, fun _ => 0, fun j hj => absurd hj (by omega)⟩, fun _ _ _ _ => rfl⟩
    · rintro i hi x v ⟨rfl, hv2, hvo, hf⟩ k
      rw [hf 7 2 (by omega) (by omega), hg.1, hC, if_neg (show ¬ (I (C : Int) < I (i : Int)) by rw [I_lt (by omega) (by omega) (by omega) (by omega)]; omega)]
      left
      have hmul : i * (R + 1) + (R + 1) ≤ (C + 1) * (R + 1) := by
        have h : (i + 1) * (R + 1) ≤ (C + 1) * (R + 1) := Nat.mul_le_mul_right _ (by omega)
        rw [Nat.succ_mul] at h
        exact h
      refine wl2_inv (Q := fun r => ∃ (t0 : Int32) (t1 : Wd), (t0 = I ((i + 1 : Nat) : Int) ∧ t1.2 = w.2 ∧ OrM t1 g ((i + 1) * (R + 1)) ∧ ∀ a b, a ≠ 83 → ¬ (a = 7 ∧ b = 5) → t1.1 a b = w.1 a b) ∧ r = k t0 t1) (R + 1) (fun j x (v : Wd) => x = I j ∧ v.2 = w.2 ∧ OrM v g (i * (R + 1) + j) ∧ ∀ a b, a ≠ 83 → ¬ (a = 7 ∧ b = 5) → v.1 a b = w.1 a b) (fu_lt (by omega)) ?_ ?_ ?_
      · exact ⟨rfl, hv2, hvo, hf⟩
      · rintro j hj x u ⟨rfl, hu2, huo, hfu⟩ kk
        have hWu : Wi u.2 := by rw [hu2]; exact hW
        have gu : GrC u g := hg.of hv (fun b _ => hfu _ _ (by omega) (by omega)) (fun a b _ _ _ => hfu _ _ (by omega) (by omega))
        have hdm := dm (x := i) (y := j) (n := R + 1) hj
        have ec : cod g (i * (R + 1) + j) = 10 * (i : Int) + (j : Int) := by
          unfold cod
          rw [enR, hdm.1, hdm.2]
        obtain ⟨w', k1, k2, k3, k4⟩ := s_insert (m := i * (R + 1) + j) hWu hv gu (by omega) (by omega) huo
        left
        refine ⟨I ((j + 1 : Nat) : Int), w', ⟨rfl, by rw [k2, hu2], k3, fun a b h1 h2 => by rw [k4 a b h1 h2]; exact hfu a b h1 h2⟩, ?_⟩
        rw [hfu 7 3 (by omega) (by omega), hg.2.1, hR, if_neg (show ¬ (I (R : Int) < I (j : Int)) by rw [I_lt (by omega) (by omega) (by omega) (by omega)]; omega), i10, I_mul, I_add, ← ec, c1_r k1, lt_d, i1, I_add, nS]
      · rintro x u ⟨rfl, hu2, huo, hfu⟩ kk
        rw [hfu 7 3 (by omega) (by omega), hg.2.1, hR, if_pos (show I (R : Int) < I ((R + 1 : Nat) : Int) by rw [I_lt (by omega) (by omega) (by omega) (by omega)]; omega), lt_d, i1, I_add, nS]
        exact ⟨_, u, ⟨rfl, hu2, by rw [Nat.succ_mul]; exact huo, hfu⟩, rfl⟩
    · rintro x v ⟨rfl, hv2, hvo, hf⟩ k
      rw [hf 7 2 (by omega) (by omega), hg.1, hC, if_pos (show I (C : Int) < I ((C + 1 : Nat) : Int) by rw [I_lt (by omega) (by omega) (by omega) (by omega)]; omega)]
      exact ⟨v, rfl, hv2, by unfold OrC; rw [enc]; exact hvo, hf⟩
  · have e75 : w.1 7 5 = I ((nc g : Nat) : Int) := h1.1
    rw [e75, enc, if_neg (show ¬ (I (((C + 1) * (R + 1) : Nat) : Int) ≤ 0) by rw [i0, I_le (by omega) (by omega) (by omega) (by omega)]; omega)]
    exact ⟨w, rfl, rfl, h1, fun _ _ _ _ => rfl⟩

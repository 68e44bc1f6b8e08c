/-! whether a grid is marked, by both -/
theorem csum_p {f : Nat → Int} : ∀ n, (∀ y, y < n → 0 ≤ f y) → 0 ≤ csum f n
  | 0, _ => Int.le_refl _
  | n + 1, h => by
    have ih := csum_p n (fun y hy => h y (by omega))
    have := h n (by omega)
    show 0 ≤ csum f n + f n
    omega
theorem csum_mn {f : Nat → Int} {a : Nat} : ∀ d, (∀ y, y < a + d → 0 ≤ f y) → csum f a ≤ csum f (a + d)
  | 0, _ => Int.le_refl _
  | d + 1, h => by
    have ih := csum_mn (f := f) (a := a) d (fun y hy => h y (by omega))
    have := h (a + d) (by omega)
    show csum f a ≤ csum f (a + d) + f (a + d)
    omega
theorem csum_3 {f : Nat → Int} : ∀ n, (∀ y, y < n → f y ≤ 3) → csum f n ≤ 3 * n
  | 0, _ => Int.le_refl _
  | n + 1, h => by
    have ih := csum_3 n (fun y hy => h y (by omega))
    have := h n (by omega)
    show csum f n + f n ≤ 3 * ((n + 1 : Nat) : Int)
    omega
def colf (g : Gd) (x : Nat) : Nat → Int := fun y => g (3 + (5 * x + y))
def rowf (g : Gd) (y : Nat) : Nat → Int := fun x => g (3 + (5 * x + y))
def Mark (g : Gd) (C R : Nat) : Prop := (∀ x, x < C → csum (colf g x) R ≤ 1) ∧ ∀ y, y < R → csum (rowf g y) C ≤ 1
theorem colf_b {g : Gd} (hv : GV g) {x y : Nat} (hx : x < 5) (hy : y < 5) : 0 ≤ colf g x y ∧ colf g x y ≤ 3 := hv.g0 (by omega)
theorem rowf_b {g : Gd} (hv : GV g) {x y : Nat} (hx : x < 5) (hy : y < 5) : 0 ≤ rowf g y x ∧ rowf g y x ≤ 3 := hv.g0 (by omega)
theorem num_c {g : Gd} {C R x y : Nat} (hC : g 0 = C) (hR : g 1 = R) (hx : x < C) (hy : y < R) : num g ((x : Int) + 1) ((y : Int) + 1) = g (3 + (5 * x + y)) := by
  unfold num
  rw [if_pos (by omega), show (5 * ((x : Int) + 1 - 1) + ((y : Int) + 1 - 1)).toNat = 5 * x + y by omega]
theorem s_spelling {w : Wd} {g : Gd} {C R : Nat} (hW : Wi w.2) (hv : GV g) (hc : CG w 1 g) (hC : g 0 = C) (hR : g 1 = R) : (f_X0_spelling 1 w = some (I (-2)) ∧ ∃ x, x < C ∧ 1 < csum (colf g x) R) ∨ (∃ z : Int, (0 ≤ z ∧ z < 1000000) ∧ f_X0_spelling 1 w = some (I z) ∧ ∀ x, x < C → csum (colf g x) R ≤ 1) := by
  have v1 := hv.1; have v2 := hv.2.1
  unfold f_X0_spelling
  rw [hc.1, hc.2.1, hC, hR]
  refine wl2_inv (Q := fun r => (r = some (I (-2)) ∧ ∃ x, x < C ∧ 1 < csum (colf g x) R) ∨ (∃ z : Int, (0 ≤ z ∧ z < 1000000) ∧ r = some (I z) ∧ ∀ x, x < C → csum (colf g x) R ≤ 1)) C (fun i s t => (∃ z : Int, (0 ≤ z ∧ z < ((10 ^ i : Nat) : Int)) ∧ s = I z) ∧ t = I ((i : Int) + 1) ∧ ∀ x, x < i → csum (colf g x) R ≤ 1) (fu_lt (by omega)) ?_ ?_ ?_
  · exact ⟨⟨0, by decide, rfl⟩, rfl, fun x hx => absurd hx (by omega)⟩
  · rintro i hi s t ⟨⟨z, hz, rfl⟩, rfl, hd⟩ k
    have p := p10 i (by omega)
    have ps : 10 ^ (i + 1) = 10 ^ i * 10 := Nat.pow_succ ..
    rw [if_neg (show ¬ (I (C : Int) < I ((i : Int) + 1)) by rw [I_lt (by omega) (by omega) (by omega) (by omega)]; omega)]
    refine wl2_inv (Q := fun r => (∃ t0 t1, ((∃ z : Int, (0 ≤ z ∧ z < ((10 ^ (i + 1) : Nat) : Int)) ∧ t0 = I z) ∧ t1 = I (((i + 1 : Nat) : Int) + 1) ∧ ∀ x, x < i + 1 → csum (colf g x) R ≤ 1) ∧ r = k t0 t1) ∨ ((r = some (I (-2)) ∧ ∃ x, x < C ∧ 1 < csum (colf g x) R) ∨ (∃ z : Int, (0 ≤ z ∧ z < 1000000) ∧ r = some (I z) ∧ ∀ x, x < C → csum (colf g x) R ≤ 1))) R (fun j s t => (∃ d : Int, (0 ≤ d ∧ d ≤ 5) ∧ s = I d ∧ csum (colf g i) j = if 0 < d then 1 else 0) ∧ t = I ((j : Int) + 1)) (fu_lt (by omega)) ?_ ?_ ?_
    · exact ⟨⟨0, by omega, rfl, rfl⟩, rfl⟩
    · rintro j hj s t ⟨⟨d, hd5, rfl, hs⟩, rfl⟩ k2
      have cb := colf_b hv (show i < 5 by omega) (show j < 5 by omega)
      have mono := csum_mn (f := colf g i) (a := j + 1) (R - (j + 1)) (fun y hy => (colf_b hv (by omega) (by omega)).1)
      rw [show j + 1 + (R - (j + 1)) = R by omega] at mono
      have es : csum (colf g i) (j + 1) = csum (colf g i) j + colf g i j := rfl
      have ef : g (3 + (5 * i + j)) = colf g i j := rfl
      rw [if_neg (show ¬ (I (R : Int) < I ((j : Int) + 1)) by rw [I_lt (by omega) (by omega) (by omega) (by omega)]; omega), c1_r (s_numberAt kd_1 (hW.2.1 _ kd_1) hc hv (by omega) (by omega)), num_c hC hR hi hj, ef]
      generalize colf g i j = n at *
      have bad : 1 < csum (colf g i) (j + 1) → ((∃ t0 t1, ((∃ d : Int, (0 ≤ d ∧ d ≤ 5) ∧ t0 = I d ∧ csum (colf g i) (j + 1) = if 0 < d then 1 else 0) ∧ t1 = I (((j + 1 : Nat) : Int) + 1)) ∧ some (I (-2)) = k2 t0 t1) ∨ ((∃ t0 t1, ((∃ z : Int, (0 ≤ z ∧ z < ((10 ^ (i + 1) : Nat) : Int)) ∧ t0 = I z) ∧ t1 = I (((i + 1 : Nat) : Int) + 1) ∧ ∀ x, x < i + 1 → csum (colf g x) R ≤ 1) ∧ some (I (-2)) = k t0 t1) ∨ ((some (I (-2)) = some (I (-2)) ∧ ∃ x, x < C ∧ 1 < csum (colf g x) R) ∨ (∃ z : Int, (0 ≤ z ∧ z < 1000000) ∧ some (I (-2)) = some (I z) ∧ ∀ x, x < C → csum (colf g x) R ≤ 1)))) := fun b => Or.inr (Or.inr (Or.inl ⟨rfl, i, hi, by omega⟩))
      by_cases c1 : 1 < n
      · rw [if_pos (show (1 : Int32) < I n by rw [i1, I_lt (by omega) (by omega) (by omega) (by omega)]; exact c1)]
        exact bad (by split at hs <;> omega)
      · rw [if_neg (show ¬ ((1 : Int32) < I n) by rw [i1, I_lt (by omega) (by omega) (by omega) (by omega)]; exact c1), jn_d]
        by_cases c2 : n = 1
        · rw [if_pos (show I n = (1 : Int32) by rw [c2]; rfl)]
          by_cases c3 : d ≤ 0
          · rw [if_pos (show I d ≤ 0 by rw [i0, I_le (by omega) (by omega) (by omega) (by omega)]; exact c3)]
            left
            refine ⟨I ((j : Int) + 1), _, ⟨⟨(j : Int) + 1, by omega, rfl, ?_⟩, rfl⟩, ?_⟩
            · rw [if_neg (by omega)] at hs
              rw [if_pos (by omega)]
              omega
            · rw [if_pos (show I n = (1 : Int32) by rw [c2]; rfl), lt_d, lt_d, i1, I_add]
              rfl
          · rw [if_neg (show ¬ (I d ≤ 0) by rw [i0, I_le (by omega) (by omega) (by omega) (by omega)]; exact c3)]
            exact bad (by rw [if_pos (by omega)] at hs; omega)
        · rw [if_neg (show ¬ (I n = (1 : Int32)) by rw [i1, I_eq (by omega) (by omega) (by omega) (by omega)]; exact c2)]
          left
          refine ⟨I d, _, ⟨⟨d, hd5, rfl, by rw [es, hs]; omega⟩, rfl⟩, ?_⟩
          rw [if_neg (show ¬ (I n = (1 : Int32)) by rw [i1, I_eq (by omega) (by omega) (by omega) (by omega)]; exact c2), lt_d, lt_d, i1, I_add]
          rfl
    · rintro s t ⟨⟨d, hd5, rfl, hs⟩, rfl⟩ k2
      left
      rw [if_pos (show I (R : Int) < I ((R : Int) + 1) by rw [I_lt (by omega) (by omega) (by omega) (by omega)]; omega), i10, I_mul, I_add, lt_d, lt_d, i1, I_add]
      refine ⟨_, _, ⟨⟨_, by omega, rfl⟩, rfl, fun x hx => ?_⟩, rfl⟩
      by_cases e : x = i
      · subst e; split at hs <;> omega
      · exact hd x (by omega)
  · rintro s t ⟨⟨z, hz, rfl⟩, rfl, hd⟩ k
    have p := p10 C (by omega)
    rw [if_pos (show I (C : Int) < I ((C : Int) + 1) by rw [I_lt (by omega) (by omega) (by omega) (by omega)]; omega)]
    exact Or.inr ⟨z, by omega, rfl, hd⟩
theorem s_isMarked {w : Wd} {g : Gd} {C R : Nat} (hW : Wi w.2) (hv : GV g) (hc : CG w 1 g) (hC : g 0 = C) (hR : g 1 = R) : (f_X0_isMarked 1 w = some (I 1) ∧ Mark g C R) ∨ (f_X0_isMarked 1 w = some (I 0) ∧ ¬ Mark g C R) := by
  have v1 := hv.1; have v2 := hv.2.1
  unfold f_X0_isMarked
  obtain ⟨z1, x, z2, z3⟩ | ⟨z, z0, z1, z2⟩ := s_spelling hW hv hc hC hR
  · rw [c1_r z1, if_pos (by decide)]
    exact Or.inr ⟨rfl, fun h => by have := h.1 x z2; omega⟩
  · rw [c1_r z1, if_neg (show ¬ (I z = (-2 : Int32)) by rw [im2, I_eq (by omega) (by omega) (by omega) (by omega)]; omega), hc.1, hc.2.1, hC, hR]
    refine wl1_inv (Q := fun r => (r = some (I 1) ∧ Mark g C R) ∨ (r = some (I 0) ∧ ¬ Mark g C R)) R (fun i t => t = I ((i : Int) + 1) ∧ ∀ y, y < i → csum (rowf g y) C ≤ 1) (fu_lt (by omega)) ⟨rfl, fun y hy => absurd hy (by omega)⟩ ?_ ?_
    · rintro i hi t ⟨rfl, hd⟩ k
      rw [if_neg (show ¬ (I (R : Int) < I ((i : Int) + 1)) by rw [I_lt (by omega) (by omega) (by omega) (by omega)]; omega)]
      refine wl2_inv (Q := fun r => (∃ t0, (t0 = I (((i + 1 : Nat) : Int) + 1) ∧ ∀ y, y < i + 1 → csum (rowf g y) C ≤ 1) ∧ r = k t0) ∨ ((r = some (I 1) ∧ Mark g C R) ∨ (r = some (I 0) ∧ ¬ Mark g C R))) C (fun j s t => s = I (csum (rowf g i) j) ∧ t = I ((j : Int) + 1)) (fu_lt (by omega)) ⟨rfl, rfl⟩ ?_ ?_
      · rintro j hj s t ⟨rfl, rfl⟩ k2
        left
        rw [if_neg (show ¬ (I (C : Int) < I ((j : Int) + 1)) by rw [I_lt (by omega) (by omega) (by omega) (by omega)]; omega), c1_r (s_numberAt kd_1 (hW.2.1 _ kd_1) hc hv (by omega) (by omega)), num_c hC hR hj hi, I_add, lt_d, i1, I_add, lt_d]
        exact ⟨_, _, ⟨rfl, rfl⟩, rfl⟩
      · rintro s t ⟨rfl, rfl⟩ k2
        have b0 := csum_p (f := rowf g i) C (fun x hx => (rowf_b hv (by omega) (by omega)).1)
        have b3 := csum_3 (f := rowf g i) C (fun x hx => (rowf_b hv (by omega) (by omega)).2)
        rw [if_pos (show I (C : Int) < I ((C : Int) + 1) by rw [I_lt (by omega) (by omega) (by omega) (by omega)]; omega)]
        by_cases e : csum (rowf g i) C ≤ 1
        · left
          rw [if_pos (show I (csum (rowf g i) C) ≤ (1 : Int32) by rw [i1, I_le (by omega) (by omega) (by omega) (by omega)]; exact e), lt_d, i1, I_add]
          refine ⟨_, ⟨rfl, fun y hy => ?_⟩, rfl⟩
          by_cases f : y = i
          · subst f; exact e
          · exact hd y (by omega)
        · right; right
          rw [if_neg (show ¬ (I (csum (rowf g i) C) ≤ (1 : Int32)) by rw [i1, I_le (by omega) (by omega) (by omega) (by omega)]; exact e)]
          exact ⟨rfl, fun h => e (h.2 i hi)⟩
    · rintro t ⟨rfl, hd⟩ k
      rw [if_pos (show I (R : Int) < I ((R : Int) + 1) by rw [I_lt (by omega) (by omega) (by omega) (by omega)]; omega)]
      exact Or.inl ⟨rfl, z2, hd⟩
theorem m_isMarked {w : Wd} {g : Gd} {C R : Nat} (hW : Wi w.2) (hv : GV g) (hm : MG w g) (hC : g 0 = C) (hR : g 1 = R) : (f_X8_isMarked 139 w = some (I 1) ∧ Mark g C R) ∨ (f_X8_isMarked 139 w = some (I 0) ∧ ¬ Mark g C R) := by
  have v1 := hv.1; have v2 := hv.2.1
  unfold f_X8_isMarked
  rw [hm.1, hm.2.1, hC, hR]
  refine wl1_inv (Q := fun r => (r = some (I 1) ∧ Mark g C R) ∨ (r = some (I 0) ∧ ¬ Mark g C R)) C (fun i t => t = I ((i : Int) + 1) ∧ ∀ x, x < i → csum (colf g x) R ≤ 1) (fu_lt (by omega)) ⟨rfl, fun y hy => absurd hy (by omega)⟩ ?_ ?_
  · rintro i hi t ⟨rfl, hd⟩ k
    rw [if_neg (show ¬ (I (C : Int) < I ((i : Int) + 1)) by rw [I_lt (by omega) (by omega) (by omega) (by omega)]; omega)]
    refine wl2_inv (Q := fun r => (∃ t0, (t0 = I (((i + 1 : Nat) : Int) + 1) ∧ ∀ x, x < i + 1 → csum (colf g x) R ≤ 1) ∧ r = k t0) ∨ ((r = some (I 1) ∧ Mark g C R) ∨ (r = some (I 0) ∧ ¬ Mark g C R))) R (fun j s t => s = I (csum (colf g i) j) ∧ t = I ((j : Int) + 1)) (fu_lt (by omega)) ⟨rfl, rfl⟩ ?_ ?_
    · rintro j hj s t ⟨rfl, rfl⟩ k2
      left
      rw [if_neg (show ¬ (I (R : Int) < I ((j : Int) + 1)) by rw [I_lt (by omega) (by omega) (by omega) (by omega)]; omega), rfc hW.m3 kd_140 (by decide), c1_r (m_at _ _), ln_140, ix_d (by omega) (by omega) (by decide), show (5 * ((i : Int) + 1 - 1) + ((j : Int) + 1) - 1).toNat = 5 * i + j by omega, hm.2.2.2 _ (by omega), I_add, lt_d, i1, I_add, lt_d]
      exact ⟨_, _, ⟨rfl, rfl⟩, rfl⟩
    · rintro s t ⟨rfl, rfl⟩ k2
      have b0 := csum_p (f := colf g i) R (fun x hx => (colf_b hv (by omega) (by omega)).1)
      have b3 := csum_3 (f := colf g i) R (fun x hx => (colf_b hv (by omega) (by omega)).2)
      rw [if_pos (show I (R : Int) < I ((R : Int) + 1) by rw [I_lt (by omega) (by omega) (by omega) (by omega)]; omega)]
      by_cases e : csum (colf g i) R ≤ 1
      · left
        rw [if_pos (show I (csum (colf g i) R) ≤ (1 : Int32) by rw [i1, I_le (by omega) (by omega) (by omega) (by omega)]; exact e), lt_d, i1, I_add]
        refine ⟨_, ⟨rfl, fun y hy => ?_⟩, rfl⟩
        by_cases f : y = i
        · subst f; exact e
        · exact hd y (by omega)
      · right; right
        rw [if_neg (show ¬ (I (csum (colf g i) R) ≤ (1 : Int32)) by rw [i1, I_le (by omega) (by omega) (by omega) (by omega)]; exact e)]
        exact ⟨rfl, fun h => e (h.1 i hi)⟩
  · rintro t ⟨rfl, hd0⟩ k
    rw [if_pos (show I (C : Int) < I ((C : Int) + 1) by rw [I_lt (by omega) (by omega) (by omega) (by omega)]; omega)]
    refine wl1_inv (Q := fun r => (r = some (I 1) ∧ Mark g C R) ∨ (r = some (I 0) ∧ ¬ Mark g C R)) R (fun i t => t = I ((i : Int) + 1) ∧ ∀ y, y < i → csum (rowf g y) C ≤ 1) (fu_lt (by omega)) ⟨rfl, fun y hy => absurd hy (by omega)⟩ ?_ ?_
    · rintro i hi t ⟨rfl, hd⟩ k
      rw [if_neg (show ¬ (I (R : Int) < I ((i : Int) + 1)) by rw [I_lt (by omega) (by omega) (by omega) (by omega)]; omega)]
      refine wl2_inv (Q := fun r => (∃ t0, (t0 = I (((i + 1 : Nat) : Int) + 1) ∧ ∀ y, y < i + 1 → csum (rowf g y) C ≤ 1) ∧ r = k t0) ∨ ((r = some (I 1) ∧ Mark g C R) ∨ (r = some (I 0) ∧ ¬ Mark g C R))) C (fun j s t => s = I (csum (rowf g i) j) ∧ t = I ((j : Int) + 1)) (fu_lt (by omega)) ⟨rfl, rfl⟩ ?_ ?_
      · rintro j hj s t ⟨rfl, rfl⟩ k2
        left
        rw [if_neg (show ¬ (I (C : Int) < I ((j : Int) + 1)) by rw [I_lt (by omega) (by omega) (by omega) (by omega)]; omega), rfc hW.m3 kd_140 (by decide), c1_r (m_at _ _), ln_140, ix_d (by omega) (by omega) (by decide), show (5 * ((j : Int) + 1 - 1) + ((i : Int) + 1) - 1).toNat = 5 * j + i by omega, hm.2.2.2 _ (by omega), I_add, lt_d, i1, I_add, lt_d]
        exact ⟨_, _, ⟨rfl, rfl⟩, rfl⟩
      · rintro s t ⟨rfl, rfl⟩ k2
        have b0 := csum_p (f := rowf g i) C (fun x hx => (rowf_b hv (by omega) (by omega)).1)
        have b3 := csum_3 (f := rowf g i) C (fun x hx => (rowf_b hv (by omega) (by omega)).2)
        rw [if_pos (show I (C : Int) < I ((C : Int) + 1) by rw [I_lt (by omega) (by omega) (by omega) (by omega)]; omega)]
        by_cases e : csum (rowf g i) C ≤ 1
        · left
          rw [if_pos (show I (csum (rowf g i) C) ≤ (1 : Int32) by rw [i1, I_le (by omega) (by omega) (by omega) (by omega)]; exact e), lt_d, i1, I_add]
          refine ⟨_, ⟨rfl, fun y hy => ?_⟩, rfl⟩
          by_cases f : y = i
          · subst f; exact e
          · exact hd y (by omega)
        · right; right
          rw [if_neg (show ¬ (I (csum (rowf g i) C) ≤ (1 : Int32)) by rw [i1, I_le (by omega) (by omega) (by omega) (by omega)]; exact e)]
          exact ⟨rfl, fun h => e (h.2 i hi)⟩
    · rintro t ⟨rfl, hd⟩ k
      rw [if_pos (show I (R : Int) < I ((R : Int) + 1) by rw [I_lt (by omega) (by omega) (by omega) (by omega)]; omega)]
      exact Or.inl ⟨rfl, hd0, hd⟩
theorem one_d {f : Nat → Int} : ∀ n, (∀ y, y < n → 0 ≤ f y) → csum f n ≤ 1 → ∃ d, d ≤ n ∧ (∀ y, y < n → f y = if d = y + 1 then 1 else 0) ∧ (csum f n = 0 → d = 0)
  | 0, _, _ => ⟨0, Nat.le_refl _, fun y hy => absurd hy (by omega), fun _ => rfl⟩
  | n + 1, h, hs => by
    have hn := h n (by omega)
    have es : csum f (n + 1) = csum f n + f n := rfl
    have p := csum_p n (fun y hy => h y (by omega))
    obtain ⟨d, d1, d2, d3⟩ := one_d n (fun y hy => h y (by omega)) (by omega)
    by_cases c : f n = 0
    · refine ⟨d, by omega, fun y hy => ?_, fun e => d3 (by omega)⟩
      by_cases e : y = n
      · subst e; rw [if_neg (by omega)]; exact c
      · exact d2 y (by omega)
    · have d0 := d3 (by omega)
      refine ⟨n + 1, Nat.le_refl _, fun y hy => ?_, fun e => by omega⟩
      by_cases e : y = n
      · subst e; rw [if_pos rfl]; omega
      · have := d2 y (by omega)
        rw [if_neg (by omega)] at this
        rw [if_neg (by omega)]; exact this
theorem lst_of {P : Nat → Nat → Prop} : ∀ n, (∀ x, x < n → ∃ d, P x d) → ∃ w : List Nat, w.length = n ∧ ∀ x, x < n → P x (w.getD x 0)
  | 0, _ => ⟨[], rfl, fun x hx => absurd hx (by omega)⟩
  | n + 1, h => by
    obtain ⟨w, w1, w2⟩ := lst_of n (fun x hx => h x (by omega))
    obtain ⟨d, hd⟩ := h n (by omega)
    refine ⟨w ++ [d], by rw [List.length_append, w1]; rfl, fun x hx => ?_⟩
    rw [List.getD_eq_getElem?_getD]
    by_cases e : x = n
    · subst e
      rw [List.getElem?_append_right (by omega), w1, Nat.sub_self]
      exact hd
    · rw [List.getElem?_append_left (by omega), ← List.getD_eq_getElem?_getD]
      exact w2 x (by omega)
theorem csum_2 {f : Nat → Int} {i j : Nat} (hij : i < j) : ∀ n, j < n → (∀ y, y < n → 0 ≤ f y) → f i + f j ≤ csum f n
  | 0, hj, _ => absurd hj (by omega)
  | n + 1, hj, h => by
    have hn := h n (by omega)
    have es : csum f (n + 1) = csum f n + f n := rfl
    by_cases e : j = n
    · subst e
      have m := csum_mn (f := f) (a := i + 1) (j - (i + 1)) (fun y hy => h y (by omega))
      rw [show i + 1 + (j - (i + 1)) = j by omega] at m
      have p := csum_p (f := f) i (fun y hy => h y (by omega))
      have es2 : csum f (i + 1) = csum f i + f i := rfl
      omega
    · have ih := csum_2 hij n (by omega) (fun y hy => h y (by omega))
      omega
theorem mark_w {g : Gd} {C R : Nat} (hv : GV g) (hC : g 0 = C) (hR : g 1 = R) (h : Mark g C R) : ∃ w, MkD g C R w ∧ (∀ d, d ∈ w → d ≤ R) ∧ Dst w := by
  have v1 := hv.1; have v2 := hv.2.1
  obtain ⟨w, w1, w2⟩ := lst_of (P := fun x d => d ≤ R ∧ ∀ y, y < R → colf g x y = if d = y + 1 then 1 else 0) C (fun x hx => by
    obtain ⟨d, d1, d2, -⟩ := one_d (f := colf g x) R (fun y hy => (colf_b hv (by omega) (by omega)).1) (h.1 x hx)
    exact ⟨d, d1, d2⟩)
  refine ⟨w, ⟨w1, fun x hx y hy => (w2 x hx).2 y hy, fun x hx => (w2 x hx).1⟩, fun d hd => ?_, fun i j hij hj e => ?_⟩
  · obtain ⟨i, hi, hiv⟩ := List.getElem_of_mem hd
    have := (w2 i (by omega)).1
    rw [List.getD_eq_getElem?_getD, List.getElem?_eq_getElem hi, hiv] at this
    exact this
  · by_cases c : w.getD j 0 = 0
    · exact c
    · exfalso
      obtain ⟨y, hy⟩ : ∃ y, w.getD j 0 = y + 1 := ⟨w.getD j 0 - 1, by omega⟩
      have yR := (w2 j (by omega)).1
      have gi : rowf g y i = 1 := by
        have := (w2 i (by omega)).2 y (by omega)
        rw [if_pos (by omega)] at this
        exact this
      have gj : rowf g y j = 1 := by
        have := (w2 j (by omega)).2 y (by omega)
        rw [if_pos hy] at this
        exact this
      have s2 := csum_2 (f := rowf g y) hij C (by omega) (fun x hx => (rowf_b hv (by omega) (by omega)).1)
      have s1 := h.2 y (by omega)
      omega

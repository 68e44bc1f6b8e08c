/-! corner -/
theorem m_compares {w : Wd} {g : Gd} {a b c d : Nat} (hW : Wi w.2) (hv : GV g) (h : MwC w g) (ha : (a : Int) ≤ g 0) (hb : (b : Int) ≤ g 1) (hc : (c : Int) ≤ g 0) (hd : (d : Int) ≤ g 1) :
    ∃ z : Int, f_X8_compares 139 (I (80 * (6 * (a : Int) + (b : Int)))) (I (80 * (6 * (c : Int) + (d : Int)))) w = some (I z) ∧ ((z = 1 ∧ big (Sg g a b) (Sg g c d)) ∨ (z = 0 ∧ alike (Sg g a b) (Sg g c d)) ∨ (z = -1 ∧ big (Sg g c d) (Sg g a b))) := by
  have v1 := hv.1; have v2 := hv.2.1
  have hs := (Sg_ok hv (x := a) (y := b) (by omega) (by omega)).1
  have hr := (Sg_ok hv (x := c) (y := d) (by omega) (by omega)).1
  have wb1 := Wg_b hv (x := a) (y := b) (by omega) (by omega)
  have wb2 := Wg_b hv (x := c) (y := d) (by omega) (by omega)
  have m1 := fun k (hk : k < 80) => h a b ha hb k hk
  have m2 := fun k (hk : k < 80) => h c d hc hd k hk
  have t1 := hs.t 5
  have t2 := hr.t 5
  have u1 := hs.2.2.2
  have u2 := hr.2.2.2
  generalize Sg g a b = s at *
  generalize Sg g c d = r at *
  have e1 : ∀ {ρ : Type} (K : Nat → Option ρ), rf 153 (w.2 139 9) 9 K = K 144 := fun K => rfc hW.m9 kd_144 (by decide) K
  unfold f_X8_compares
  refine wl3_inv (Q := fun z' => ∃ z : Int, z' = some (I z) ∧ ((z = 1 ∧ big s r) ∨ (z = 0 ∧ alike s r) ∨ (z = -1 ∧ big r s))) 80 (fun i x y t => x = I (tsum s i) ∧ y = I (tsum r i) ∧ t = I i) (fu_lt (by omega)) ⟨rfl, rfl, rfl⟩ ?_ ?_
  · rintro i hi x y t ⟨rfl, rfl, rfl⟩ k
    left
    refine ⟨I (tsum s (i + 1)), I (tsum r (i + 1)), I ((i + 1 : Nat) : Int), ⟨rfl, rfl, rfl⟩, ?_⟩
    rw [if_neg (show ¬ ((80 : Int32) ≤ I (i : Int)) by rw [i80, I_le (by omega) (by omega) (by omega) (by omega)]; omega), e1, I_add, ln_144, ix_d (by omega) (by omega) (by decide), show (80 * (6 * (a : Int) + (b : Int)) + (i : Int)).toNat = 80 * (6 * a + b) + i by omega, m1 i hi, I_add, lt_d, e1, I_add, ln_144, ix_d (by omega) (by omega) (by decide), show (80 * (6 * (c : Int) + (d : Int)) + (i : Int)).toNat = 80 * (6 * c + d) + i by omega, m2 i hi, I_add, lt_d, i1, I_add, lt_d, nS]
    rfl
  · rintro x y t ⟨rfl, rfl, rfl⟩ k
    rw [if_pos (by decide), show 80 = 75 + 5 from rfl, t1, t2]
    by_cases f : Wg g a b = Wg g c d
    · rw [if_pos (show I (Wg g a b) = I (Wg g c d) by rw [f])]
      refine wl1_inv (Q := fun z' => ∃ z : Int, z' = some (I z) ∧ ((z = 1 ∧ big s r) ∨ (z = 0 ∧ alike s r) ∨ (z = -1 ∧ big r s))) 80 (fun i x => x = I i ∧ ∀ j, j < i → s j = r j) (fu_lt (by omega)) ⟨rfl, fun j hj => absurd hj (by omega)⟩ ?_ ?_
      · rintro i hi x ⟨rfl, hdj⟩ k
        have x1 := hs.1 i; have x2 := hs.b i; have x3 := hr.1 i; have x4 := hr.b i
        have e2 : ∀ {ρ : Type} (K : Nat → Option ρ), ix (I (80 * (6 * (a : Int) + (b : Int))) + I (i : Int)) (ln 144) K = K (80 * (6 * a + b) + i) := fun K => by rw [I_add, ln_144, ix_d (by omega) (by omega) (by decide), show (80 * (6 * (a : Int) + (b : Int)) + (i : Int)).toNat = 80 * (6 * a + b) + i by omega]
        have e3 : ∀ {ρ : Type} (K : Nat → Option ρ), ix (I (80 * (6 * (c : Int) + (d : Int))) + I (i : Int)) (ln 144) K = K (80 * (6 * c + d) + i) := fun K => by rw [I_add, ln_144, ix_d (by omega) (by omega) (by decide), show (80 * (6 * (c : Int) + (d : Int)) + (i : Int)).toNat = 80 * (6 * c + d) + i by omega]
        rw [if_neg (show ¬ ((80 : Int32) ≤ I (i : Int)) by rw [i80, I_le (by omega) (by omega) (by omega) (by omega)]; omega), e1, e2, e1, e3, m1 i hi, m2 i hi]
        by_cases q : s i = r i
        · left
          refine ⟨I ((i + 1 : Nat) : Int), ⟨rfl, fun j hj => ?_⟩, by rw [if_pos (show I (s i) = I (r i) by rw [q]), lt_d, i1, I_add, nS]⟩
          by_cases e : j = i
          · subst e; exact q
          · exact hdj j (by omega)
        · right
          rw [if_neg (show ¬ (I (s i) = I (r i)) by rw [I_eq (by omega) (by omega) (by omega) (by omega)]; exact q), e1, e2, e1, e3, m1 i hi, m2 i hi]
          by_cases e : s i ≤ r i
          · rw [if_pos (show I (s i) ≤ I (r i) by rw [I_le (by omega) (by omega) (by omega) (by omega)]; exact e), lt_d]
            exact ⟨-1, rfl, Or.inr (Or.inr ⟨rfl, Or.inr ⟨by omega, i, by omega, fun j hj => (hdj j hj).symm⟩⟩)⟩
          · rw [if_neg (show ¬ (I (s i) ≤ I (r i)) by rw [I_le (by omega) (by omega) (by omega) (by omega)]; exact e), lt_d]
            exact ⟨1, rfl, Or.inl ⟨rfl, Or.inr ⟨by omega, i, by omega, hdj⟩⟩⟩
      · rintro x ⟨rfl, hdj⟩ k
        rw [if_pos (by decide)]
        refine ⟨0, rfl, Or.inr (Or.inl ⟨rfl, fun j => ?_⟩)⟩
        by_cases e : j < 80
        · exact hdj j e
        · rw [hs.z (by omega), hr.z (by omega)]
    · rw [if_neg (show ¬ (I (Wg g a b) = I (Wg g c d)) by rw [I_eq (by omega) (by omega) (by omega) (by omega)]; exact f)]
      by_cases e : Wg g a b ≤ Wg g c d
      · rw [if_pos (show I (Wg g a b) ≤ I (Wg g c d) by rw [I_le (by omega) (by omega) (by omega) (by omega)]; exact e), lt_d]
        exact ⟨-1, rfl, Or.inr (Or.inr ⟨rfl, Or.inl (by omega)⟩)⟩
      · rw [if_neg (show ¬ (I (Wg g a b) ≤ I (Wg g c d)) by rw [I_le (by omega) (by omega) (by omega) (by omega)]; exact e), lt_d]
        exact ⟨1, rfl, Or.inl ⟨rfl, Or.inl (by omega)⟩⟩
theorem lexI {a b x y n : Nat} (hb : b < n) (hy : y < n) : (a * n + b < x * n + y) ↔ (a < x ∨ (a = x ∧ b < y)) := by
  obtain c | c | c := Nat.lt_trichotomy a x
  · have h : (a + 1) * n ≤ x * n := Nat.mul_le_mul_right _ (by omega)
    rw [Nat.succ_mul] at h
    omega
  · subst c; omega
  · have h : (x + 1) * n ≤ a * n := Nat.mul_le_mul_right _ (by omega)
    rw [Nat.succ_mul] at h
    omega
theorem dims {g : Gd} (hv : GV g) : ∃ C R : Nat, g 0 = C ∧ g 1 = R ∧ C ≤ 5 ∧ R ≤ 5 ∧ 1 ≤ C ∧ 1 ≤ R ∧ nR g = R + 1 ∧ nc g = (C + 1) * (R + 1) ∧ nc g ≤ 36 := by
  have v1 := hv.1; have v2 := hv.2.1
  have enR : nR g = (g 1).toNat + 1 := rfl
  have enc : nc g = ((g 0).toNat + 1) * ((g 1).toNat + 1) := rfl
  have b36 : ((g 0).toNat + 1) * ((g 1).toNat + 1) ≤ 36 := Nat.mul_le_mul (show (g 0).toNat + 1 ≤ 6 by omega) (show (g 1).toNat + 1 ≤ 6 by omega)
  exact ⟨(g 0).toNat, (g 1).toNat, by omega, by omega, by omega, by omega, by omega, by omega, enR, enc, by omega⟩
theorem idx_b {x y C R : Nat} (hx : x < C + 1) (hy : y < R + 1) : x * (R + 1) + y < (C + 1) * (R + 1) ∧ x * (R + 1) + (R + 1) ≤ (C + 1) * (R + 1) := by
  have h : (x + 1) * (R + 1) ≤ (C + 1) * (R + 1) := Nat.mul_le_mul_right _ (by omega)
  rw [Nat.succ_mul] at h
  omega
def CS (g : Gd) (k : Int) (v : Int32) : Prop := (∃ i, i < nc g ∧ ((rk g (nc g) i : Nat) : Int) = k ∧ v = I (cod g i)) ∨ ((∀ i, i < nc g → ((rk g (nc g) i : Nat) : Int) ≠ k) ∧ v = I (-2))
theorem CS_u {g : Gd} (hv : GV g) {k : Int} {v v' : Int32} (h : CS g k v) (h' : CS g k v') : v = v' := by
  obtain ⟨i, h1, h2, h3⟩ | ⟨h1, h2⟩ := h <;> obtain ⟨j, g1, g2, g3⟩ | ⟨g1, g2⟩ := h'
  · rw [h3, g3, rk_inj hv (Nat.le_refl _) h1 g1 (by omega)]
  · exact absurd h2 (g1 i h1)
  · exact absurd g2 (h1 j g1)
  · rw [h2, g2]
theorem m_corner {w w2 : Wd} {g : Gd} {k : Int} (hk : 0 ≤ k ∧ k < 2147483648) (hW : Wi w2.2) (hv : GV g) (hm : MG w2 g) (h : MwC w2 g) (hg : f_X8_growsAll 139 w = some w2) : ∃ v, f_X8_corner 139 (I k) w = some (v, w2) ∧ CS g k v := by
  obtain ⟨C, R, hC, hR, C5, R5, C1, R1, enR, enc, b36⟩ := dims hv
  unfold f_X8_corner
  rw [if_pos (show 0 ≤ I k by rw [i0, I_le (by omega) (by omega) (by omega) (by omega)]; omega), c1_r hg, hm.1, hm.2.1, hC, hR]
  refine wl1_inv (Q := fun r => ∃ v, r = some (v, w2) ∧ CS g k v) (C + 1) (fun x t => t = I x ∧ ∀ i, i < x * (R + 1) → ((rk g (nc g) i : Nat) : Int) ≠ k) (fu_lt (by omega)) ⟨rfl, fun i hi => absurd hi (by omega)⟩ ?_ ?_
  · rintro x hx t ⟨rfl, hd⟩ k1
    rw [if_neg (show ¬ (I (C : Int) < I (x : Int)) by rw [I_lt (by omega) (by omega) (by omega) (by omega)]; omega)]
    refine wl1_inv (Q := fun r => (∃ t0, (t0 = I ((x + 1 : Nat) : Int) ∧ ∀ i, i < (x + 1) * (R + 1) → ((rk g (nc g) i : Nat) : Int) ≠ k) ∧ r = k1 t0) ∨ ∃ v, r = some (v, w2) ∧ CS g k v) (R + 1) (fun y t => t = I y ∧ ∀ i, i < x * (R + 1) + y → ((rk g (nc g) i : Nat) : Int) ≠ k) (fu_lt (by omega)) ⟨rfl, hd⟩ ?_ ?_
    · rintro y hy t ⟨rfl, hd2⟩ k2
      have hidx := idx_b hx hy
      have hdm := dm (x := x) (y := y) (n := R + 1) hy
      have shi : sh g (x * (R + 1) + y) = Sg g x y := by unfold sh; rw [enR, hdm.1, hdm.2]
      have cdi : cod g (x * (R + 1) + y) = 10 * (x : Int) + (y : Int) := by unfold cod; rw [enR, hdm.1, hdm.2]
      rw [if_neg (show ¬ (I (R : Int) < I (y : Int)) by rw [I_lt (by omega) (by omega) (by omega) (by omega)]; omega)]
      refine wl2_inv (Q := fun r => (∃ t0, (t0 = I ((y + 1 : Nat) : Int) ∧ ∀ i, i < x * (R + 1) + (y + 1) → ((rk g (nc g) i : Nat) : Int) ≠ k) ∧ r = k2 t0) ∨ ((∃ t0, (t0 = I ((x + 1 : Nat) : Int) ∧ ∀ i, i < (x + 1) * (R + 1) → ((rk g (nc g) i : Nat) : Int) ≠ k) ∧ r = k1 t0) ∨ ∃ v, r = some (v, w2) ∧ CS g k v)) (C + 1) (fun a s t => s = I ((nb (fun q => bef g q (x * (R + 1) + y)) (a * (R + 1)) : Nat) : Int) ∧ t = I a) (fu_lt (by omega)) ?_ ?_ ?_
      · exact ⟨by rw [Nat.zero_mul]; rfl, rfl⟩
      · rintro a ha s t ⟨rfl, rfl⟩ k3
        have n1 := nb_n (fun q => bef g q (x * (R + 1) + y)) (a * (R + 1))
        have hia := idx_b ha (show 0 < R + 1 by omega)
        left
        rw [if_neg (show ¬ (I (C : Int) < I (a : Int)) by rw [I_lt (by omega) (by omega) (by omega) (by omega)]; omega)]
        refine wl2_inv (Q := fun r => ∃ t0 t1, (t0 = I ((nb (fun q => bef g q (x * (R + 1) + y)) ((a + 1) * (R + 1)) : Nat) : Int) ∧ t1 = I ((a + 1 : Nat) : Int)) ∧ r = k3 t0 t1) (R + 1) (fun b s t => s = I ((nb (fun q => bef g q (x * (R + 1) + y)) (a * (R + 1) + b) : Nat) : Int) ∧ t = I b) (fu_lt (by omega)) ⟨rfl, rfl⟩ ?_ ?_
        · rintro b hb s t ⟨rfl, rfl⟩ k4
          have hdm2 := dm (x := a) (y := b) (n := R + 1) hb
          have shb : sh g (a * (R + 1) + b) = Sg g a b := by unfold sh; rw [enR, hdm2.1, hdm2.2]
          have lx := lexI (a := a) (x := x) hb hy
          have n2 := nb_n (fun q => bef g q (x * (R + 1) + y)) (a * (R + 1) + b)
          have hib := idx_b ha hb
          obtain ⟨z, z1, z2⟩ := m_compares (a := a) (b := b) (c := x) (d := y) hW hv h (by omega) (by omega) (by omega) (by omega)
          left
          rw [if_neg (show ¬ (I (R : Int) < I (b : Int)) by rw [I_lt (by omega) (by omega) (by omega) (by omega)]; omega), c1_r (m_from _ _), c1_r (m_from _ _), c1_r z1, lt_d]
          rw [← shi, ← shb] at z2
          by_cases f : bef g (a * (R + 1) + b) (x * (R + 1) + y)
          · refine ⟨I ((nb (fun q => bef g q (x * (R + 1) + y)) (a * (R + 1) + (b + 1)) : Nat) : Int), I ((b + 1 : Nat) : Int), ⟨rfl, rfl⟩, ?_⟩
            have ev : (if 0 < I z then (1 : Int32) else (if I z = 0 then (if I (a : Int) < I (x : Int) then (1 : Int32) else (if I (a : Int) = I (x : Int) then (if I (y : Int) ≤ I (b : Int) then (0 : Int32) else (1 : Int32)) else (0 : Int32))) else (0 : Int32))) = 1 := by
              obtain f | ⟨f1, f2⟩ := f
              · obtain ⟨rfl, -⟩ | ⟨rfl, q⟩ | ⟨rfl, q⟩ := z2
                · rfl
                · exact absurd q (big_n f)
                · exact (big_a f q).elim
              · obtain ⟨rfl, q⟩ | ⟨rfl, -⟩ | ⟨rfl, q⟩ := z2
                · exact absurd f1 (big_n q)
                · rw [if_neg (by decide), if_pos z00]
                  obtain c | ⟨c, c'⟩ := lx.1 f2
                  · rw [if_pos (show I (a : Int) < I (x : Int) by rw [I_lt (by omega) (by omega) (by omega) (by omega)]; omega)]
                  · rw [if_neg (show ¬ (I (a : Int) < I (x : Int)) by rw [I_lt (by omega) (by omega) (by omega) (by omega)]; omega), if_pos (show I (a : Int) = I (x : Int) by rw [c]), if_neg (show ¬ (I (y : Int) ≤ I (b : Int)) by rw [I_le (by omega) (by omega) (by omega) (by omega)]; omega)]
                · exact absurd (fun k => (f1 k).symm) (big_n q)
            rw [ev, lt_d, lt_d, i1, I_add, I_add, nS, show a * (R + 1) + (b + 1) = a * (R + 1) + b + 1 by omega, nb_t (P := fun q => bef g q (x * (R + 1) + y)) f]
            rfl
          · refine ⟨I ((nb (fun q => bef g q (x * (R + 1) + y)) (a * (R + 1) + (b + 1)) : Nat) : Int), I ((b + 1 : Nat) : Int), ⟨rfl, rfl⟩, ?_⟩
            have ev : (if 0 < I z then (1 : Int32) else (if I z = 0 then (if I (a : Int) < I (x : Int) then (1 : Int32) else (if I (a : Int) = I (x : Int) then (if I (y : Int) ≤ I (b : Int) then (0 : Int32) else (1 : Int32)) else (0 : Int32))) else (0 : Int32))) = 0 := by
              obtain ⟨rfl, q⟩ | ⟨rfl, q⟩ | ⟨rfl, q⟩ := z2
              · exact absurd (Or.inl q) f
              · have c : ¬ (a < x ∨ (a = x ∧ b < y)) := fun c => f (Or.inr ⟨q, lx.2 c⟩)
                rw [if_neg (by decide), if_pos z00, if_neg (show ¬ (I (a : Int) < I (x : Int)) by rw [I_lt (by omega) (by omega) (by omega) (by omega)]; omega)]
                by_cases c' : a = x
                · rw [if_pos (show I (a : Int) = I (x : Int) by rw [c']), if_pos (show I (y : Int) ≤ I (b : Int) by rw [I_le (by omega) (by omega) (by omega) (by omega)]; omega)]
                · rw [if_neg (show ¬ (I (a : Int) = I (x : Int)) by rw [I_eq (by omega) (by omega) (by omega) (by omega)]; omega)]
              · rfl
            rw [ev, lt_d, lt_d, i0, i1, I_add, I_add, nS, show a * (R + 1) + (b + 1) = a * (R + 1) + b + 1 by omega, nb_f (P := fun q => bef g q (x * (R + 1) + y)) f, Int.add_zero]
        · rintro s t ⟨rfl, rfl⟩ k4
          rw [if_pos (show I (R : Int) < I ((R + 1 : Nat) : Int) by rw [I_lt (by omega) (by omega) (by omega) (by omega)]; omega), lt_d, i1, I_add, nS]
          exact ⟨_, _, ⟨by rw [Nat.succ_mul], rfl⟩, rfl⟩
      · rintro s t ⟨rfl, rfl⟩ k3
        have n1 := nb_n (fun q => bef g q (x * (R + 1) + y)) ((C + 1) * (R + 1))
        have erk : nb (fun q => bef g q (x * (R + 1) + y)) ((C + 1) * (R + 1)) = rk g (nc g) (x * (R + 1) + y) := by rw [enc]; rfl
        rw [if_pos (show I (C : Int) < I ((C + 1 : Nat) : Int) by rw [I_lt (by omega) (by omega) (by omega) (by omega)]; omega), erk]
        rw [erk] at n1
        by_cases e : ((rk g (nc g) (x * (R + 1) + y) : Nat) : Int) = k
        · right; right
          rw [if_pos (show I ((rk g (nc g) (x * (R + 1) + y) : Nat) : Int) = I k by rw [e]), i10, I_mul, I_add, ← cdi]
          exact ⟨_, rfl, Or.inl ⟨_, by rw [enc]; exact hidx.1, e, rfl⟩⟩
        · left
          refine ⟨I ((y + 1 : Nat) : Int), ⟨rfl, fun i hi => ?_⟩, ?_⟩
          · by_cases f : i = x * (R + 1) + y
            · subst f; exact e
            · exact hd2 i (by omega)
          · rw [if_neg (show ¬ (I ((rk g (nc g) (x * (R + 1) + y) : Nat) : Int) = I k) by rw [I_eq (by omega) (by omega) (by omega) (by omega)]; exact e), lt_d, i1, I_add, nS]
    · rintro t ⟨rfl, hd2⟩ k2
      left
      rw [if_pos (show I (R : Int) < I ((R + 1 : Nat) : Int) by rw [I_lt (by omega) (by omega) (by omega) (by omega)]; omega), lt_d, i1, I_add, nS]
      exact ⟨_, ⟨rfl, by rw [Nat.succ_mul]; exact hd2⟩, rfl⟩
  · rintro t ⟨rfl, hd⟩ k1
    rw [if_pos (show I (C : Int) < I ((C + 1 : Nat) : Int) by rw [I_lt (by omega) (by omega) (by omega) (by omega)]; omega)]
    exact ⟨_, rfl, Or.inr ⟨by rw [enc]; rw [enc] at hd; exact hd, rfl⟩⟩
theorem ordC {w : Wd} {g : Gd} {p u : Nat} {G : Nat → Gd} (H : Ig w g p u G) : ∃ w1 : Wd, (∀ {ρ : Type} (K : Nat → Wd → Option ρ), ∃ w0, c2 (f_X7_grownCorners 0 w) K = K 7 w0 ∧ f_X1_putInOrder 7 w0 = some w1) ∧ Ig w1 g p u G ∧ GrC w1 g ∧ OrC w1 g := by
  obtain ⟨w0, b1, H1, b3, b4, b5, b6, b7⟩ := grownC H
  have hv := H.2.1.1
  obtain ⟨w1, k1, k2, k3, k4⟩ := s_putInOrder H1.1 hv b4 b5
  have g1 : GrC w1 g := b4.of hv (fun b h => k4 _ _ (by omega) (by omega)) (fun a b _ _ _ => k4 _ _ (by omega) (by omega))
  exact ⟨w1, fun K => ⟨w0, c2_r b1 K, k1⟩, H1.of k2 (Or.inr ⟨by rw [k4 _ _ (by omega) (by omega)]; exact b3, g1, Or.inr k3⟩) (fun a b h => k4 _ _ (by omega) (by omega)), g1, k3⟩
theorem op_corner {k : Int} (hk : -2147483648 ≤ k ∧ k < 2147483648) : Op2 (f_X7_corner 0 (I k)) (f_X8_corner 139 (I k)) := by
  rintro w ⟨g, p, u, G, H⟩
  have hv := H.2.1.1
  by_cases c : 0 ≤ k
  · obtain ⟨w1, k1, H1, g1, o1⟩ := ordC H
    obtain ⟨w2, m1, H2, m3, m4, m5⟩ := growsM H1
    obtain ⟨v, f1, f2⟩ := m_corner (w := w1) ⟨c, hk.2⟩ H2.1 hv H2.2.1.2.2 m3 m1
    obtain ⟨C, R, hC, hR, C5, R5, C1, R1, enR, enc, b36⟩ := dims hv
    refine ⟨v, w1, w2, ?_, f1, g, p, u, G, H2⟩
    unfold f_X7_corner
    obtain ⟨w0, e1, e2⟩ := k1 (fun v3 w4 => ck 153 v3 1 (c2 (f_X1_cornerByOrder v3 (I k) w4) (fun v7 w8 => some (v7, w8))))
    rw [if_pos (show 0 ≤ I k by rw [i0, I_le (by omega) (by omega) (by omega) (by omega)]; omega), e1, ckc kd_7 (by decide)]
    unfold f_X1_cornerByOrder
    obtain ⟨o2, σ, o3⟩ := o1
    rw [c1_r e2, jn_d, if_neg (show ¬ (I k < 0) by rw [i0, I_lt (by omega) (by omega) (by omega) (by omega)]; omega), o2]
    by_cases d : ((nc g : Nat) : Int) ≤ k
    · rw [if_pos (show I ((nc g : Nat) : Int) ≤ I k by rw [I_le (by omega) (by omega) (by omega) (by omega)]; exact d), c2_d]
      have : CS g k (I (-2)) := Or.inr ⟨fun i hi => by have := rk_n (g := g) hi; omega, rfl⟩
      rw [CS_u hv f2 this]
      rfl
    · obtain ⟨k, rfl⟩ : ∃ n : Nat, k = n := ⟨k.toNat, by omega⟩
      have ok := o3 k (by omega)
      rw [if_neg (show ¬ (I ((nc g : Nat) : Int) ≤ I (k : Int)) by rw [I_le (by omega) (by omega) (by omega) (by omega)]; exact d), rfc H1.1.2.2.2.1.2.2 kd_83 (by decide), ln_83, ix_d (by omega) (by omega) (by decide), Int.toNat_natCast, lt_d, c2_d, ok.2.2]
      have : CS g k (I (cod g (σ k))) := Or.inl ⟨σ k, ok.1, by rw [ok.2.1], rfl⟩
      rw [CS_u hv f2 this]
  · refine ⟨(-1 : Int32), w, w, ?_, ?_, g, p, u, G, H⟩
    · unfold f_X7_corner
      rw [if_neg (show ¬ (0 ≤ I k) by rw [i0, I_le (by omega) (by omega) (by omega) (by omega)]; omega)]
    · unfold f_X8_corner
      rw [if_neg (show ¬ (0 ≤ I k) by rw [i0, I_le (by omega) (by omega) (by omega) (by omega)]; omega)]

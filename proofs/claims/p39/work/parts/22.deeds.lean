/-! the table at its places -/
theorem kd_0 : kd 0 = 7 := rfl
theorem kd_1 : kd 1 = 0 := rfl
theorem kd_3 : kd 3 = 0 := rfl
theorem kd_5 : kd 5 = 0 := rfl
theorem kd_7 : kd 7 = 1 := rfl
theorem kd_8 : kd 8 = 12 := rfl
theorem ln_8 : ln 8 = 36 := rfl
theorem kd_81 : kd 81 = 5 := rfl
theorem kd_83 : kd 83 = 9 := rfl
theorem ln_83 : ln 83 = 36 := rfl
theorem kd_84 : kd 84 = 4 := rfl
theorem kd_85 : kd 85 = 13 := rfl
theorem ln_85 : ln 85 = 6 := rfl
theorem kd_92 : kd 92 = 2 := rfl
theorem kd_93 : kd 93 = 10 := rfl
theorem ln_93 : ln 93 = 9 := rfl
theorem kd_112 : kd 112 = 6 := rfl
theorem kd_113 : kd 113 = 9 := rfl
theorem ln_113 : ln 113 = 60 := rfl
theorem kd_114 : kd 114 = 11 := rfl
theorem ln_114 : ln 114 = 6 := rfl
theorem kd_best : ∀ x, x < 6 → kd (86 + x) = 9 ∧ ln (86 + x) = 6 := by decide +kernel
theorem kd_hold : ∀ h, h < 6 → kd (115 + 4 * h) = 3 ∧ kd (116 + 4 * h) = 5 ∧ kd (118 + 4 * h) = 9 ∧ ln (118 + 4 * h) = 30 := by decide +kernel
theorem kd_shape : ∀ k, k < 36 → kd (9 + 2 * k) = 5 := by decide +kernel
theorem kd_st : ∀ t, t < 112 → 94 ≤ t → kd t = 0 ∨ kd t = 9 := by decide +kernel
theorem rfc {ρ : Type} {o : Option Nat} {r P : Nat} (h : o = some r) (hk : kd r = P) (hP : P < 99 ∧ P ≠ 9) (K : Nat → Option ρ) : rf 139 o P K = K r := rf_d h (kd_lt hk hP.1 hP.2) hk K
theorem ckc {ρ : Type} {r P : Nat} (hk : kd r = P) (hP : P < 99 ∧ P ≠ 9) (K : Option ρ) : ck 139 r P K = K := ck_d (kd_lt hk hP.1 hP.2) hk K
theorem rf9 {ρ : Type} {o : Option Nat} {r : Nat} {Q : Prop} (h : o = some r) (hk : r < 139 ∧ kd r = 9 ∧ Q) (K : Nat → Option ρ) : rf 139 o 9 K = K r := rf_d h hk.1 hk.2.1 K
/-! deeds, in the class -/
def DC (w : Wd) (p u : Nat) (G : Nat → Gd) : Prop := ∃ P : Nat → Nat, (∀ k, k < 9 → w.2 93 k = some (P k) ∧ kd (P k) = 0 ∧ 94 ≤ P k ∧ P k < 111) ∧ (∀ i j, i < 9 → j < 9 → P i = P j → i = j) ∧ w.1 92 1 = I p ∧ w.1 92 2 = I ((p + u : Nat) : Int) ∧ p + u ≤ 8 ∧ ∀ k, k ≤ p + u → (k < p ∨ 0 < u) → CG w (P k) (G k)
def pshP (p : Nat) : Nat := if p < 8 then p + 1 else 8
def pshG (p : Nat) (G : Nat → Gd) (g : Gd) : Nat → Gd := if p < 8 then (fun k => if k = p then g else G k) else (fun k => if k = 7 then g else G (k + 1))
theorem DC.of {w w' : Wd} {p u : Nat} {G : Nat → Gd} (h : DC w p u G) (h0 : ∀ b, w'.1 92 b = w.1 92 b) (h1 : ∀ a b, 94 ≤ a → a < 112 → w'.1 a b = w.1 a b) (h2 : ∀ b, w'.2 93 b = w.2 93 b) : DC w' p u G := by
  obtain ⟨P, a1, a2, a3, a4, a5, a6⟩ := h
  refine ⟨P, fun k hk => by rw [h2]; exact a1 k hk, a2, by rw [h0]; exact a3, by rw [h0]; exact a4, a5, fun k hk hk2 => (a6 k hk hk2).of (fun b => ?_) (fun b => ?_)⟩
  · have := a1 k (by omega); exact h1 _ b (by omega) (by omega)
  · have := a1 k (by omega); exact h1 _ b (by omega) (by omega)
theorem Wi.up93 {r : Nat → Nat → Option Nat} (h : Wi r) (f : Nat → Option Nat) : Wi (fun a b => if a = 93 then f b else r a b) := by
  obtain ⟨a1, a2, a3, a4, a5, a6, a7, a8, a9, a10⟩ := h
  refine ⟨a1, fun t ht => ?_, fun t ht => ?_, a4, fun k hk => a5 k hk, ⟨a6.1, fun k hk => ?_⟩, a7, a8, fun h hh => ⟨(a9 h hh).1, ?_, ?_⟩, a10⟩
  · have : t ≠ 93 := fun e => by rw [e] at ht; cases ht
    show (if t = 93 then f 3 else r t 3) = _
    rw [if_neg this]; exact a2 t ht
  · have : t ≠ 93 := fun e => by rw [e] at ht; cases ht
    show (if t = 93 then f 0 else r t 0) = _
    rw [if_neg this]; exact a3 t ht
  · exact a6.2 k hk
  · show (if 115 + 4 * h = 93 then f 1 else r (115 + 4 * h) 1) = _
    rw [if_neg (by omega)]; exact (a9 h hh).2.1
  · show (if 115 + 4 * h = 93 then f 2 else r (115 + 4 * h) 2) = _
    rw [if_neg (by omega)]; exact (a9 h hh).2.2
def rot (w : Wd) (P : Nat → Nat) (n : Nat) : Wd := (w.1, fun a b => if a = 93 then (if b < n then some (P (b + 1)) else w.2 93 b) else w.2 a b)
theorem rot_s (w : Wd) (P : Nat → Nat) (n : Nat) : upR (rot w P n) 93 n (P (n + 1)) = rot w P (n + 1) := by
  refine Prod.ext rfl (funext fun a => funext fun b => ?_)
  show (if a = 93 ∧ b = n then some (P (n + 1)) else if a = 93 then (if b < n then some (P (b + 1)) else w.2 93 b) else w.2 a b) = if a = 93 then (if b < n + 1 then some (P (b + 1)) else w.2 93 b) else w.2 a b
  by_cases h1 : a = 93
  · by_cases h2 : b = n
    · rw [if_pos ⟨h1, h2⟩, if_pos h1, if_pos (by omega), h2]
    · rw [if_neg (by omega), if_pos h1, if_pos h1]
      by_cases h3 : b < n
      · rw [if_pos h3, if_pos (by omega)]
      · rw [if_neg h3, if_neg (by omega)]
  · rw [if_neg (by omega), if_neg h1, if_neg h1]
theorem s_forgetOldest {w : Wd} (hW : Wi w.2) (P : Nat → Nat) (hP : ∀ k, k < 9 → w.2 93 k = some (P k) ∧ kd (P k) = 0) : f_X2_forgetOldest 92 w = some (upI (upR (rot w P 8) 93 8 (P 0)) 92 1 (I 7)) := by
  have hw := hW.2.2.2.2.2.2.1
  unfold f_X2_forgetOldest
  rw [rfc hw kd_93 (by decide), ln_93, i0, ix_d (by decide) (by decide) (by decide), show (0 : Int).toNat = 0 from rfl, rfc (hP 0 (by decide)).1 (hP 0 (by decide)).2 (by decide)]
  refine wl2_for 8 (fun i => I i) (fun i => rot w P i) (by decide) rfl ?_ (fun i hi k => ?_) (fun k => ?_)
  · refine Prod.ext rfl (funext fun a => funext fun b => ?_)
    show w.2 a b = if a = 93 then (if b < 0 then some (P (b + 1)) else w.2 93 b) else w.2 a b
    by_cases h1 : a = 93
    · rw [if_pos h1, if_neg (by omega), h1]
    · rw [if_neg h1]
  · have e0 : (rot w P i).2 92 0 = some 93 := hw
    have e1 : (rot w P i).2 93 (i + 1) = some (P (i + 1)) := by
      show (if 93 = 93 then (if i + 1 < i then some (P (i + 1 + 1)) else w.2 93 (i + 1)) else w.2 93 (i + 1)) = _
      rw [if_pos rfl, if_neg (by omega)]; exact (hP (i + 1) (by omega)).1
    simp (disch := omega) only [i0, i1, i2, i3, i4, i5, i6, i7, i8, i9, i10, i12, i14, i20, i25, i26, i28, i30, i36, i48, i49, i50, i53, i57, i59, i60, i63, i75, i80, i99, i100, i196, i255, i1000, im1, im2, im3, im5, im6, im11, im12, im13, im14, im1000, I_le]
    rw [if_neg (by omega), rfc e0 kd_93 (by decide), rfc e0 kd_93 (by decide), ln_93, I_add, ix_d (by omega) (by omega) (by decide)]
    rw [show ((i : Int) + 1).toNat = i + 1 by omega, rfc e1 (hP (i + 1) (by omega)).2 (by decide), ix_d (by omega) (by omega) (by decide), lt_d, lt_d, Int.toNat_natCast, rot_s, nS]
  · have e0 : (rot w P 8).2 92 0 = some 93 := hw
    rw [if_pos (by decide), rfc e0 kd_93 (by decide), ln_93, i8, ix_d (by decide) (by decide) (by decide)]
    rfl
theorem s_remember {w : Wd} {g : Gd} {p u : Nat} {G : Nat → Gd} (hW : Wi w.2) (hd : DC w p u G) (hg : CG w 1 g) : ∃ w', f_X2_remember 92 1 w = some w' ∧ Wi w'.2 ∧ DC w' (pshP p) 0 (pshG p G g) ∧ (∀ a b, a ≠ 92 → (a < 94 ∨ 112 ≤ a) → w'.1 a b = w.1 a b) := by
  obtain ⟨P, a1, a2, a3, a4, a5, a6⟩ := hd
  have hw := hW.2.2.2.2.2.2.1
  have hcell := hW.2.1
  unfold f_X2_remember
  rw [jn_d, a3]
  by_cases c : p < 8
  · simp (disch := omega) only [i0, i1, i2, i3, i4, i5, i6, i7, i8, i9, i10, i12, i14, i20, i25, i26, i28, i30, i36, i48, i49, i50, i53, i57, i59, i60, i63, i75, i80, i99, i100, i196, i255, i1000, im1, im2, im3, im5, im6, im11, im12, im13, im14, im1000, I_lt]
    rw [if_pos (by omega), rfc hw kd_93 (by decide), a3, ln_93, ix_d (by omega) (by omega) (by decide), Int.toNat_natCast]
    obtain ⟨b1, b2, b3, b4⟩ := a1 p (by omega)
    rw [rfc b1 b2 (by decide), c1_r (s_copyFrom b2 (hcell _ b2) kd_1 (hcell _ kd_1) (by omega)), lt_d, lt_d]
    refine ⟨_, rfl, hW, ⟨P, a1, a2, ?_, ?_, by unfold pshP; rw [if_pos c]; omega, ?_⟩, ?_⟩
    · rw [upI_n (by omega), upI_s, cpg_o (by omega) (by omega), a3, I_add]
      unfold pshP; rw [if_pos c]; exact congrArg I (by omega)
    · rw [upI_s, upI_s, cpg_o (by omega) (by omega), a3, I_add]
      unfold pshP; rw [if_pos c]; exact congrArg I (by omega)
    · intro k hk0 hk
      have hk : k < p + 1 := by
        unfold pshP at hk
        rw [if_pos c] at hk
        omega
      unfold pshG
      rw [if_pos c]
      obtain ⟨d1, d2, d3, d4⟩ := a1 k (by omega)
      by_cases e : k = p
      · subst e
        show CG _ _ (if k = k then g else G k)
        rw [if_pos rfl]
        exact (cpg_CG hg).of (fun b => by rw [upI_n (by omega), upI_n (by omega)]) (fun b => by rw [upI_n (by omega), upI_n (by omega)])
      · show CG _ _ (if k = p then g else G k)
        rw [if_neg e]
        have hne : P k ≠ P p := fun z => e (a2 k p (by omega) (by omega) z)
        have hne2 : P k ≠ P p + 1 := fun z => by have := (kdC b2).2.1; rw [← z, d2] at this; cases this
        have hne3 : P k + 1 ≠ P p := fun z => by have := (kdC d2).2.1; rw [z, b2] at this; cases this
        exact (a6 k (by omega) (by omega)).of (fun b => by rw [upI_n (by omega), upI_n (by omega), cpg_o hne hne2]) (fun b => by rw [upI_n (by omega), upI_n (by omega), cpg_o hne3 (by omega)])
    · intro a b h1 h2
      rw [upI_n (by omega), upI_n (by omega), cpg_o (by omega) (by omega)]
  · have hp : p = 8 := by omega
    subst hp
    have hu : u = 0 := by omega
    subst hu
    simp (disch := omega) only [i0, i1, i2, i3, i4, i5, i6, i7, i8, i9, i10, i12, i14, i20, i25, i26, i28, i30, i36, i48, i49, i50, i53, i57, i59, i60, i63, i75, i80, i99, i100, i196, i255, i1000, im1, im2, im3, im5, im6, im11, im12, im13, im14, im1000, I_lt]
    rw [if_neg (by omega), c1_r (s_forgetOldest hW P (fun k hk => ⟨(a1 k hk).1, (a1 k hk).2.1⟩))]
    generalize hw1 : upI (upR (rot w P 8) 93 8 (P 0)) 92 1 (I 7) = w1
    have r1 : ∀ a b, w1.1 a b = if a = 92 ∧ b = 1 then I 7 else w.1 a b := fun a b => by rw [← hw1]; rfl
    have r2 : ∀ b, b < 9 → w1.2 93 b = some (P ((b + 1) % 9)) := fun b hb => by
      rw [← hw1]
      show (if 93 = 93 ∧ b = 8 then some (P 0) else if 93 = 93 then (if b < 8 then some (P (b + 1)) else w.2 93 b) else w.2 93 b) = _
      by_cases h : b = 8
      · rw [if_pos ⟨rfl, h⟩, h]
      · rw [if_neg (by omega), if_pos rfl, if_pos (by omega), Nat.mod_eq_of_lt (by omega)]
    have r3 : ∀ a b, a ≠ 93 → w1.2 a b = w.2 a b := fun a b h => by
      rw [← hw1]
      show (if a = 93 ∧ b = 8 then some (P 0) else if a = 93 then (if b < 8 then some (P (b + 1)) else w.2 93 b) else w.2 a b) = _
      rw [if_neg (by omega), if_neg h]
    have hW1 : Wi w1.2 := by
      have e : w1.2 = fun a b => if a = 93 then w1.2 93 b else w.2 a b := funext fun a => funext fun b => by
        by_cases h : a = 93
        · rw [if_pos h, h]
        · rw [if_neg h, r3 a b h]
      rw [e]
      exact hW.up93 _
    clear hw1
    have hcell := hW1.2.1
    obtain ⟨b1, b2, b3, b4⟩ := a1 8 (by omega)
    rw [rfc hW1.2.2.2.2.2.2.1 kd_93 (by decide), r1, if_pos ⟨rfl, rfl⟩, ln_93, ix_d (by decide) (by decide) (by decide)]
    rw [show ((7 : Int).toNat) = 7 from rfl, rfc (r2 7 (by decide)) b2 (by decide), c1_r (s_copyFrom b2 (hcell _ b2) kd_1 (hcell _ kd_1) (by omega)), lt_d, lt_d]
    have key : ∀ a, a < 9 → kd (P ((a + 1) % 9)) = 0 ∧ 94 ≤ P ((a + 1) % 9) ∧ P ((a + 1) % 9) < 111 := fun a ha => (a1 _ (Nat.mod_lt _ (by decide))).2
    refine ⟨_, rfl, hW1, ⟨fun k => P ((k + 1) % 9), fun k hk => ⟨r2 k hk, key k hk⟩, fun i j hi hj h => ?_, ?_, ?_, by unfold pshP; rw [if_neg c]; omega, ?_⟩, ?_⟩
    · have := a2 _ _ (Nat.mod_lt (i + 1) (by decide)) (Nat.mod_lt (j + 1) (by decide)) h
      omega
    · rw [upI_n (by omega), upI_s, cpg_o (by omega) (by omega), r1, if_pos ⟨rfl, rfl⟩, I_add]
      unfold pshP; rw [if_neg c]; rfl
    · rw [upI_s, upI_s, cpg_o (by omega) (by omega), r1, if_pos ⟨rfl, rfl⟩, I_add]
      unfold pshP; rw [if_neg c]; rfl
    · intro k hk0 hk
      have hk : k < 8 := by
        unfold pshP at hk
        rw [if_neg c] at hk
        omega
      unfold pshG
      rw [if_neg c]
      obtain ⟨d1, d2, d3, d4⟩ := a1 ((k + 1) % 9) (by omega)
      have hg1 : CG w1 1 g := hg.of (fun b => by rw [r1, if_neg (by omega)]) (fun b => by rw [r1, if_neg (by omega)])
      by_cases e : k = 7
      · subst e
        show CG _ (P 8) (if 7 = 7 then g else G _)
        rw [if_pos rfl]
        exact (cpg_CG hg1).of (fun b => by rw [upI_n (by omega), upI_n (by omega)]) (fun b => by rw [upI_n (by omega), upI_n (by omega)])
      · show CG _ _ (if k = 7 then g else G (k + 1))
        rw [if_neg e]
        have hm : (k + 1) % 9 = k + 1 := Nat.mod_eq_of_lt (by omega)
        show CG _ (P ((k + 1) % 9)) _
        rw [hm] at d1 d2 d3 d4 ⊢
        have hne : P (k + 1) ≠ P 8 := fun z => e (by have := a2 (k + 1) 8 (by omega) (by omega) z; omega)
        have hne2 : P (k + 1) ≠ P 8 + 1 := fun z => by have := (kdC b2).2.1; rw [← z, d2] at this; cases this
        have hne3 : P (k + 1) + 1 ≠ P 8 := fun z => by have := (kdC d2).2.1; rw [z, b2] at this; cases this
        exact (a6 (k + 1) (by omega) (by omega)).of (fun b => by rw [upI_n (by omega), upI_n (by omega), cpg_o hne hne2, r1, if_neg (by omega)]) (fun b => by rw [upI_n (by omega), upI_n (by omega), cpg_o hne3 (by omega), r1, if_neg (by omega)])
    · intro a b h1 h2
      rw [upI_n (by omega), upI_n (by omega), cpg_o (by omega) (by omega), r1, if_neg (by omega)]


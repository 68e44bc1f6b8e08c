/-! the model: grid and deeds -/
def MG (w : Wd) (g : Gd) : Prop := w.1 139 0 = I (g 0) ∧ w.1 139 1 = I (g 1) ∧ w.1 139 2 = I (g 2) ∧ ∀ j, j < 25 → w.1 140 j = I (g (3 + j))
theorem MG.of {w w' : Wd} {g : Gd} (h : MG w g) (h1 : ∀ b, b < 3 → w'.1 139 b = w.1 139 b) (h2 : ∀ b, w'.1 140 b = w.1 140 b) : MG w' g := ⟨(h1 0 (by decide)).trans h.1, (h1 1 (by decide)).trans h.2.1, (h1 2 (by decide)).trans h.2.2.1, fun j hj => (h2 j).trans (h.2.2.2 j hj)⟩
abbrev Wn (w : Wd) : Prop := Wi w.2
theorem Wi.m3 {r : Nat → Nat → Option Nat} (h : Wi r) : r 139 3 = some 140 := h.2.2.2.2.2.2.2.2.2.1
theorem Wi.m4 {r : Nat → Nat → Option Nat} (h : Wi r) : r 139 4 = some 141 := h.2.2.2.2.2.2.2.2.2.2.1
theorem Wi.m5 {r : Nat → Nat → Option Nat} (h : Wi r) : r 139 5 = some 142 := h.2.2.2.2.2.2.2.2.2.2.2.1
theorem Wi.m8 {r : Nat → Nat → Option Nat} (h : Wi r) : r 139 8 = some 143 := h.2.2.2.2.2.2.2.2.2.2.2.2.1
theorem Wi.m9 {r : Nat → Nat → Option Nat} (h : Wi r) : r 139 9 = some 144 := h.2.2.2.2.2.2.2.2.2.2.2.2.2.1
theorem Wi.m10 {r : Nat → Nat → Option Nat} (h : Wi r) : r 139 10 = some 145 := h.2.2.2.2.2.2.2.2.2.2.2.2.2.2.1
theorem Wi.m11 {r : Nat → Nat → Option Nat} (h : Wi r) : r 139 11 = some 146 := h.2.2.2.2.2.2.2.2.2.2.2.2.2.2.2.1
theorem Wi.m12 {r : Nat → Nat → Option Nat} (h : Wi r) : r 139 12 = some 147 := h.2.2.2.2.2.2.2.2.2.2.2.2.2.2.2.2.1
theorem Wi.m13 {r : Nat → Nat → Option Nat} (h : Wi r) : r 139 13 = some 148 := h.2.2.2.2.2.2.2.2.2.2.2.2.2.2.2.2.2.1
theorem Wi.m15 {r : Nat → Nat → Option Nat} (h : Wi r) : r 139 15 = some 149 := h.2.2.2.2.2.2.2.2.2.2.2.2.2.2.2.2.2.2.1
theorem Wi.m16 {r : Nat → Nat → Option Nat} (h : Wi r) : r 139 16 = some 150 := h.2.2.2.2.2.2.2.2.2.2.2.2.2.2.2.2.2.2.2.1
theorem Wi.m17 {r : Nat → Nat → Option Nat} (h : Wi r) : r 139 17 = some 151 := h.2.2.2.2.2.2.2.2.2.2.2.2.2.2.2.2.2.2.2.2.1
theorem Wi.m18 {r : Nat → Nat → Option Nat} (h : Wi r) : r 139 18 = some 152 := h.2.2.2.2.2.2.2.2.2.2.2.2.2.2.2.2.2.2.2.2.2
def layn (w : Wd) (t k : Nat) (g : Gd) (n : Nat) : Wd := (fun a b => if a = t ∧ 28 * k ≤ b ∧ b < 28 * k + n then I (g (b - 28 * k)) else w.1 a b, w.2)
theorem layn_i {w : Wd} {t k : Nat} {g : Gd} {n j : Nat} (h : j < n) : (layn w t k g n).1 t (28 * k + j) = I (g j) := by
  show (if t = t ∧ 28 * k ≤ 28 * k + j ∧ 28 * k + j < 28 * k + n then I (g (28 * k + j - 28 * k)) else _) = _
  rw [if_pos ⟨rfl, by omega, by omega⟩, show 28 * k + j - 28 * k = j by omega]
theorem layn_n {w : Wd} {t k : Nat} {g : Gd} {n a b : Nat} (h : ¬ (a = t ∧ 28 * k ≤ b ∧ b < 28 * k + n)) : (layn w t k g n).1 a b = w.1 a b := if_neg h
theorem layn_0 (w : Wd) (t k : Nat) (g : Gd) : layn w t k g 0 = w := W_ext (fun a b => layn_n (by omega)) rfl
theorem layn_s {w : Wd} {t k : Nat} {g : Gd} {n j : Nat} {v : Int32} (hj : j = 28 * k + n) (hv : v = I (g n)) : upI (layn w t k g n) t j v = layn w t k g (n + 1) := by
  subst hj hv
  refine W_ext (fun a b => ?_) rfl
  by_cases h : a = t ∧ b = 28 * k + n
  · obtain ⟨rfl, rfl⟩ := h
    rw [upI_s, layn_i (by omega)]
  · rw [upI_n h]
    by_cases h2 : a = t ∧ 28 * k ≤ b ∧ b < 28 * k + n
    · obtain ⟨rfl, h3, h4⟩ := h2
      obtain ⟨c, rfl⟩ : ∃ c, b = 28 * k + c := ⟨b - 28 * k, by omega⟩
      rw [layn_i (by omega), layn_i (by omega)]
    · rw [layn_n h2, layn_n (by omega)]
theorem m_lays {w : Wd} {t k : Nat} {g : Gd} (hW : Wi w.2) (hg : MG w g) (h9 : 140 < t) (hl : 28 * k + 28 ≤ ln t) (hl2 : ln t < 10000) : f_X8_lays 139 t (I k) w = some (layn w t k g 28) := by
  obtain ⟨g1, g2, g3, g4⟩ := hg
  unfold f_X8_lays
  simp only [i0, i1, i2, i3, i4, i5, i6, i7, i8, i9, i10, i12, i14, i20, i25, i26, i28, i30, i36, i48, i49, i50, i53, i57, i59, i60, i63, i75, i80, i99, i100, i196, i255, i1000, im1, im2, im3, im5, im6, im11, im12, im13, im14, im1000, I_add, I_sub, I_mul, I_nat]
  rw [ix_d (by omega) (by omega) (by omega), lt_d, show ((k : Int) * 28).toNat = 28 * k by omega, g1]
  have e0 : upI w t (28 * k) (I (g 0)) = layn w t k g 1 := by rw [← layn_s (n := 0) rfl rfl, layn_0]; rfl
  rw [e0, ix_d (by omega) (by omega) (by omega), lt_d, show ((k : Int) * 28 + 1).toNat = 28 * k + 1 by omega, layn_n (by omega), g2, layn_s (n := 1) rfl rfl]
  rw [ix_d (by omega) (by omega) (by omega), lt_d, show ((k : Int) * 28 + 2).toNat = 28 * k + 2 by omega, layn_n (by omega), g3, layn_s (n := 2) rfl rfl]
  refine wl2_for 25 (fun i => I i) (fun i => layn w t k g (3 + i)) (by decide) rfl rfl (fun i hi kk => ?_) (fun kk => ?_)
  · simp (disch := omega) only [I_le]
    rw [if_neg (by omega), show (layn w t k g (3 + i)).2 = w.2 from rfl, rfc hW.m3 kd_140 (by decide), ln_140, ix_d (by omega) (by omega) (by decide), I_add, ix_d (by omega) (by omega) (by omega), lt_d, lt_d, Int.toNat_natCast, layn_n (by omega), g4 i hi, layn_s (n := 3 + i) (by omega) rfl, I_add, nS]
    rfl
  · rw [if_pos (by decide)]
def tak (w : Wd) (g : Gd) (n : Nat) : Wd := fill (upI (upI (upI w 139 0 (I (g 0))) 139 1 (I (g 1))) 139 2 (I (g 2))) 140 n (fun j => I (g (3 + j)))
theorem tak_n {w : Wd} {g : Gd} {n a b : Nat} (h1 : ¬ (a = 139 ∧ b < 3)) (h2 : a ≠ 140) : (tak w g n).1 a b = w.1 a b := by
  unfold tak
  rw [fill_n (by omega), upI_n (by omega), upI_n (by omega), upI_n (by omega)]
theorem tak_MG (w : Wd) (g : Gd) : MG (tak w g 25) g := by
  unfold tak
  refine ⟨?_, ?_, ?_, fun j hj => ?_⟩
  · rw [fill_n (by omega), upI_n (by omega), upI_n (by omega), upI_s]
  · rw [fill_n (by omega), upI_n (by omega), upI_s]
  · rw [fill_n (by omega), upI_s]
  · rw [fill_i hj]
theorem m_takes {w : Wd} {t k : Nat} {g : Gd} (hW : Wi w.2) (hg : ∀ j, j < 28 → w.1 t (28 * k + j) = I (g j)) (h9 : 140 < t) (hl : 28 * k + 28 ≤ ln t) (hl2 : ln t < 10000) : f_X8_takes 139 t (I k) w = some (tak w g 25) := by
  unfold f_X8_takes
  simp only [i0, i1, i2, i3, i4, i5, i6, i7, i8, i9, i10, i12, i14, i20, i25, i26, i28, i30, i36, i48, i49, i50, i53, i57, i59, i60, i63, i75, i80, i99, i100, i196, i255, i1000, im1, im2, im3, im5, im6, im11, im12, im13, im14, im1000, I_add, I_sub, I_mul, I_nat]
  rw [ix_d (by omega) (by omega) (by omega), lt_d, show ((k : Int) * 28).toNat = 28 * k + 0 by omega, hg 0 (by omega)]
  rw [ix_d (by omega) (by omega) (by omega), lt_d, show ((k : Int) * 28 + 1).toNat = 28 * k + 1 by omega, upI_n (by omega), hg 1 (by omega)]
  rw [ix_d (by omega) (by omega) (by omega), lt_d, show ((k : Int) * 28 + 2).toNat = 28 * k + 2 by omega, upI_n (by omega), upI_n (by omega), hg 2 (by omega)]
  refine wl2_for 25 (fun i => I i) (fun i => tak w g i) (by decide) rfl (fill_0 _ _ _).symm (fun i hi kk => ?_) (fun kk => ?_)
  · simp (disch := omega) only [I_le]
    rw [if_neg (by omega), show (tak w g i).2 = w.2 from rfl, rfc hW.m3 kd_140 (by decide), I_add, ix_d (by omega) (by omega) (by omega), ln_140, ix_d (by omega) (by omega) (by decide), lt_d, lt_d, Int.toNat_natCast, tak_n (by omega) (by omega), show ((k : Int) * 28 + 3 + i).toNat = 28 * k + (3 + i) by omega, hg (3 + i) (by omega), I_add, nS]
    exact congrArg (kk _) (fill_s _ _ i (fun j => I (g (3 + j))))
  · rw [if_pos (by decide)]
def DM (w : Wd) (p u : Nat) (G : Nat → Gd) : Prop := w.1 139 6 = I p ∧ w.1 139 7 = I u ∧ (∀ k, k < p → ∀ j, j < 28 → w.1 141 (28 * k + j) = I (G k j)) ∧ ∀ q, q < u → ∀ j, j < 28 → w.1 142 (28 * q + j) = I (G (p + u - q) j)
theorem DM.of {w w' : Wd} {p u : Nat} {G : Nat → Gd} (h : DM w p u G) (h1 : ∀ b, 6 ≤ b → b < 8 → w'.1 139 b = w.1 139 b) (h2 : ∀ b, w'.1 141 b = w.1 141 b) (h3 : ∀ b, w'.1 142 b = w.1 142 b) : DM w' p u G := ⟨(h1 6 (by decide) (by decide)).trans h.1, (h1 7 (by decide) (by decide)).trans h.2.1, fun k hk j hj => (h2 _).trans (h.2.2.1 k hk j hj), fun k hk j hj => (h3 _).trans (h.2.2.2 k hk j hj)⟩
def shf (w : Wd) (n : Nat) : Wd := (fun a b => if a = 141 ∧ b < n then w.1 141 (b + 28) else w.1 a b, w.2)
theorem shf_n {w : Wd} {n a b : Nat} (h : ¬ (a = 141 ∧ b < n)) : (shf w n).1 a b = w.1 a b := if_neg h
theorem shf_s (w : Wd) (n : Nat) : upI (shf w n) 141 n (w.1 141 (n + 28)) = shf w (n + 1) := by
  refine W_ext (fun a b => ?_) rfl
  show (if a = 141 ∧ b = n then _ else if a = 141 ∧ b < n then w.1 141 (b + 28) else w.1 a b) = if a = 141 ∧ b < n + 1 then w.1 141 (b + 28) else w.1 a b
  by_cases h : a = 141 ∧ b = n
  · rw [if_pos h, if_pos (by omega), h.2]
  · rw [if_neg h]
    by_cases h2 : a = 141 ∧ b < n
    · rw [if_pos h2, if_pos (by omega)]
    · rw [if_neg h2, if_neg (by omega)]
theorem m_does {w : Wd} {g : Gd} {p u : Nat} {G : Nat → Gd} (hW : Wi w.2) (hd : DM w p u G) (hg : MG w g) (hp : p ≤ 8) : ∃ w', f_X8_does 139 w = some w' ∧ w'.2 = w.2 ∧ DM w' (pshP p) 0 (pshG p G g) ∧ (∀ a b, a ≠ 141 → ¬ (a = 139 ∧ 6 ≤ b ∧ b < 8) → w'.1 a b = w.1 a b) := by
  obtain ⟨a1, a2, a3, a4⟩ := hd
  unfold f_X8_does
  rw [jn_d, a1]
  by_cases c : p < 8
  · simp (disch := omega) only [i0, i1, i2, i3, i4, i5, i6, i7, i8, i9, i10, i12, i14, i20, i25, i26, i28, i30, i36, i48, i49, i50, i53, i57, i59, i60, i63, i75, i80, i99, i100, i196, i255, i1000, im1, im2, im3, im5, im6, im11, im12, im13, im14, im1000, I_eq]
    rw [if_neg (by omega), rfc hW.m4 kd_141 (by decide), a1, c1_r (m_lays hW hg (by decide) (by rw [ln_141]; omega) (by rw [ln_141]; decide)), lt_d, lt_d]
    refine ⟨_, rfl, rfl, ⟨?_, ?_, fun k hk j hj => ?_, fun q hq => by omega⟩, fun a b h1 h2 => ?_⟩
    · rw [upI_n (by omega), upI_s, layn_n (by omega), a1, I_add]
      unfold pshP; rw [if_pos c]; exact congrArg I (by omega)
    · rw [upI_s]; rfl
    · unfold pshP at hk; rw [if_pos c] at hk
      rw [upI_n (by omega), upI_n (by omega)]
      unfold pshG; rw [if_pos c]
      show _ = I ((if k = p then g else G k) j)
      by_cases e : k = p
      · rw [if_pos e, e, layn_i hj]
      · rw [if_neg e, layn_n (by omega)]; exact a3 k (by omega) j hj
    · rw [upI_n (by omega), upI_n (by omega), layn_n (by omega)]
  · have hp : p = 8 := by omega
    subst hp
    simp (disch := omega) only [i0, i1, i2, i3, i4, i5, i6, i7, i8, i9, i10, i12, i14, i20, i25, i26, i28, i30, i36, i48, i49, i50, i53, i57, i59, i60, i63, i75, i80, i99, i100, i196, i255, i1000, im1, im2, im3, im5, im6, im11, im12, im13, im14, im1000, I_eq]
    rw [if_pos (by omega)]
    refine (?_ : ∃ w', _ = some w' ∧ _)
    have key : wl2 (fun (x10 : Int32) (w11 : Wd) k12 => (if (I 196) ≤ x10 then lt (upI w11 139 6 ((w11.1 139 6) - (I 1))) (fun w15 => rf 153 (w15.2 139 4) 9 (fun t4 => c1 (f_X8_lays 139 t4 (w15.1 139 6) w15) (fun w7 => lt (upI w7 139 6 ((w7.1 139 6) + (I 1))) (fun w8 => lt (upI w8 139 7 (I 0)) (fun w9 => some w9))))) else rf 153 (w11.2 139 4) 9 (fun t16 => rf 153 (w11.2 139 4) 9 (fun t18 => ix (x10 + (I 28)) (ln t18) (fun j20 => ix x10 (ln t16) (fun j21 => lt (upI w11 t16 j21 (w11.1 t18 j20)) (fun w22 => lt (x10 + (I 1)) (fun x23 => k12 x23 w22)))))))) fu (I 0) w = some (upI (upI (layn (upI (shf w 196) 139 6 (I 7)) 141 7 g 28) 139 6 (I 8)) 139 7 (I 0)) := by
      refine wl2_for 196 (fun i => I i) (fun i => shf w i) (by decide) rfl (W_ext (fun a b => (if_neg (by omega)).symm) rfl) (fun i hi kk => ?_) (fun kk => ?_)
      · simp (disch := omega) only [I_le]
        rw [if_neg (by omega), show (shf w i).2 = w.2 from rfl, rfc hW.m4 kd_141 (by decide), rfc hW.m4 kd_141 (by decide), ln_141, I_add, ix_d (by omega) (by omega) (by decide), ix_d (by omega) (by omega) (by decide), lt_d, lt_d, Int.toNat_natCast, show ((i : Int) + 28).toNat = i + 28 by omega]
        rw [show (shf w i).1 141 (i + 28) = w.1 141 (i + 28) from if_neg (by omega), shf_s, I_add, nS]
      · rw [if_pos (by decide), lt_d]
        have e6 : (shf w 196).1 139 6 = I 8 := (shf_n (by omega)).trans a1
        rw [e6, I_sub]
        show rf 153 (w.2 139 4) 9 _ = _
        rw [rfc hW.m4 kd_141 (by decide), upI_s]
        have hg2 : MG (upI (shf w 196) 139 6 (I (8 - 1))) g := hg.of (fun b hb => by rw [upI_n (by omega), shf_n (by omega)]) (fun b => by rw [upI_n (by omega), shf_n (by omega)])
        rw [show (8 : Int) - 1 = ((7 : Nat) : Int) from rfl] at hg2 ⊢
        rw [c1_r (m_lays (w := upI (shf w 196) 139 6 (I ((7 : Nat) : Int))) hW hg2 (by decide) (by rw [ln_141]; decide) (by rw [ln_141]; decide)), lt_d, lt_d, layn_n (by omega), upI_s, I_add]
        rfl
    refine ⟨_, key, rfl, ⟨?_, ?_, fun k hk j hj => ?_, fun q hq => by omega⟩, fun a b h1 h2 => ?_⟩
    · rw [upI_n (by omega), upI_s]; rfl
    · rw [upI_s]; rfl
    · unfold pshP at hk; rw [if_neg c] at hk
      rw [upI_n (by omega), upI_n (by omega)]
      unfold pshG; rw [if_neg c]
      show _ = I ((if k = 7 then g else G (k + 1)) j)
      by_cases e : k = 7
      · rw [if_pos e, e, layn_i hj]
      · rw [if_neg e, layn_n (by omega), upI_n (by omega)]
        refine (if_pos (by omega)).trans ?_
        rw [show 28 * k + j + 28 = 28 * (k + 1) + j by omega]
        exact a3 (k + 1) (by omega) j hj
    · rw [upI_n (by omega), upI_n (by omega), layn_n (by omega), upI_n (by omega)]
      exact if_neg (by omega)

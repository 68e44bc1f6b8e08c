/-! the model: words, and all its shapes -/
theorem m_in {a b c : Int} (ha : -9223372036854775808 ≤ a ∧ a < 9223372036854775808) (hb : -9223372036854775808 ≤ b ∧ b < 9223372036854775808) (hc : -9223372036854775808 ≤ c ∧ c < 9223372036854775808) : f_X8_in (LI a) (LI b) (LI c) = some (I (if b ≤ a ∧ a ≤ c then 1 else 0)) := by
  unfold f_X8_in
  rw [LI_cmp ha.1 ha.2 hb.1 hb.2, LI_cmp ha.1 ha.2 hc.1 hc.2]
  simp only [i0, i1, i2, i3, i4, i5, i6, i7, i8, i9, i10, i12, i14, i20, i25, i26, i28, i30, i36, i48, i49, i50, i53, i57, i59, i60, i63, i75, i80, i99, i100, i196, i255, i1000, im1, im2, im3, im5, im6, im11, im12, im13, im14, im1000]
  have e1 : (I (if b < a then 1 else if a = b then 0 else -1) < I 0) = (a < b) := by
    rw [I_lt (by split <;> (try split) <;> omega) (by split <;> (try split) <;> omega) (by omega) (by omega)]
    refine propext ⟨fun h => ?_, fun h => ?_⟩
    · revert h; repeat' split
      all_goals omega
    · repeat' split
      all_goals omega
  have e2 : (I 0 < I (if c < a then 1 else if a = c then 0 else -1)) = (c < a) := by
    rw [I_lt (by omega) (by omega) (by split <;> (try split) <;> omega) (by split <;> (try split) <;> omega)]
    refine propext ⟨fun h => ?_, fun h => ?_⟩
    · revert h; repeat' split
      all_goals omega
    · repeat' split
      all_goals omega
  simp only [e1, e2]
  by_cases h1 : a < b
  · rw [if_pos h1, if_neg (by omega), lt_d, zb_0]
  · rw [if_neg h1]
    by_cases h2 : c < a
    · rw [if_pos h2, if_neg (by omega), lt_d, zb_0]
    · rw [if_neg h2, if_pos (by omega), lt_d, zb_1]
theorem m_inI {a b c : Int} (ha : -2147483648 ≤ a ∧ a < 2147483648) (hb : -2147483648 ≤ b ∧ b < 2147483648) (hc : -2147483648 ≤ c ∧ c < 2147483648) : f_X8_in (I a).toInt64 (LI b) (LI c) = some (I (if b ≤ a ∧ a ≤ c then 1 else 0)) := by
  rw [I_long ha.1 ha.2]
  exact m_in (by omega) (by omega) (by omega)
theorem m_at (x y : Int) : f_X8_at (I x) (I y) = some (I (5 * (x - 1) + y - 1)) := by
  unfold f_X8_at
  simp only [i0, i1, i2, i3, i4, i5, i6, i7, i8, i9, i10, i12, i14, i20, i25, i26, i28, i30, i36, i48, i49, i50, i53, i57, i59, i60, i63, i75, i80, i99, i100, i196, i255, i1000, im1, im2, im3, im5, im6, im11, im12, im13, im14, im1000, I_add, I_sub, I_mul, I_nat]
theorem m_from (x y : Int) : f_X8_from (I x) (I y) = some (I (80 * (6 * x + y))) := by
  unfold f_X8_from
  simp only [i0, i1, i2, i3, i4, i5, i6, i7, i8, i9, i10, i12, i14, i20, i25, i26, i28, i30, i36, i48, i49, i50, i53, i57, i59, i60, i63, i75, i80, i99, i100, i196, i255, i1000, im1, im2, im3, im5, im6, im11, im12, im13, im14, im1000, I_add, I_sub, I_mul, I_nat]
theorem m_isCell {w : Wd} {g : Gd} {x y : Int} (h : MG w g) (hv : GV g) (hx : -2147483648 ≤ x ∧ x < 2147483648) (hy : -2147483648 ≤ y ∧ y < 2147483648) : f_X8_isCell 139 (I x) (I y) w = some (I (if 1 ≤ x ∧ x ≤ g 0 ∧ 1 ≤ y ∧ y ≤ g 1 then 1 else 0)) := by
  obtain ⟨v1, v2, -⟩ := hv
  unfold f_X8_isCell
  rw [h.1, h.2.1, I_long (z := g 0) (by omega) (by omega), I_long (z := g 1) (by omega) (by omega), l1, c1_r (m_inI hx (by omega) (by omega)), jn_d]
  by_cases c : 1 ≤ x ∧ x ≤ g 0
  · rw [if_pos c, if_neg (by decide), c1_r (m_inI hy (by omega) (by omega))]
    by_cases d : 1 ≤ y ∧ y ≤ g 1
    · rw [if_pos d, if_neg (by decide), if_pos (by omega)]; rfl
    · rw [if_neg d, if_pos (by decide), if_neg (by omega)]; rfl
  · rw [if_neg c, if_pos (by decide), if_neg (by omega)]; rfl
theorem m_isCorner {w : Wd} {g : Gd} {x y : Int} (h : MG w g) (hv : GV g) (hx : -2147483648 ≤ x ∧ x < 2147483648) (hy : -2147483648 ≤ y ∧ y < 2147483648) : f_X8_isCorner 139 (I x) (I y) w = some (I (if 0 ≤ x ∧ x ≤ g 0 ∧ 0 ≤ y ∧ y ≤ g 1 then 1 else 0)) := by
  obtain ⟨v1, v2, -⟩ := hv
  unfold f_X8_isCorner
  rw [h.1, h.2.1, I_long (z := g 0) (by omega) (by omega), I_long (z := g 1) (by omega) (by omega), l0, c1_r (m_inI hx (by omega) (by omega)), jn_d]
  by_cases c : 0 ≤ x ∧ x ≤ g 0
  · rw [if_pos c, if_neg (by decide), c1_r (m_inI hy (by omega) (by omega))]
    by_cases d : 0 ≤ y ∧ y ≤ g 1
    · rw [if_pos d, if_neg (by decide), if_pos (by omega)]; rfl
    · rw [if_neg d, if_pos (by decide), if_neg (by omega)]; rfl
  · rw [if_neg c, if_pos (by decide), if_neg (by omega)]; rfl
def mpw (w : Wd) (g : Gd) (m : Nat) : Wd := (fun a b => if a = 144 ∧ b < m ∧ ((b / 80 % 6 : Nat) : Int) ≤ g 1 then I (Sg g (b / 80 / 6) (b / 80 % 6) (b % 80)) else w.1 a b, w.2)
theorem mpw_n {w : Wd} {g : Gd} {m a b : Nat} (h : a ≠ 144) : (mpw w g m).1 a b = w.1 a b := if_neg (fun e => h e.1)
theorem mpw_i {w : Wd} {g : Gd} {m x y k : Nat} (hk : k < 80) (hy : y ≤ 5) (hR : (y : Int) ≤ g 1) (h : 80 * (6 * x + y) + k < m) : (mpw w g m).1 144 (80 * (6 * x + y) + k) = I (Sg g x y k) := by
  have e1 : (80 * (6 * x + y) + k) / 80 = 6 * x + y := by omega
  have e2 : (80 * (6 * x + y) + k) % 80 = k := by omega
  show (if 144 = 144 ∧ 80 * (6 * x + y) + k < m ∧ (((80 * (6 * x + y) + k) / 80 % 6 : Nat) : Int) ≤ g 1 then I (Sg g ((80 * (6 * x + y) + k) / 80 / 6) ((80 * (6 * x + y) + k) / 80 % 6) ((80 * (6 * x + y) + k) % 80)) else _) = _
  rw [e1, e2, show (6 * x + y) / 6 = x by omega, show (6 * x + y) % 6 = y by omega, if_pos ⟨rfl, h, hR⟩]
theorem mpw_s {w : Wd} {g : Gd} {x y k : Nat} (hk : k < 80) (hy : y ≤ 5) (hR : (y : Int) ≤ g 1) : upI (mpw w g (80 * (6 * x + y) + k)) 144 (80 * (6 * x + y) + k) (I (Sg g x y k)) = mpw w g (80 * (6 * x + y) + k + 1) := by
  refine W_ext (fun a b => ?_) rfl
  by_cases h : a = 144 ∧ b = 80 * (6 * x + y) + k
  · obtain ⟨rfl, rfl⟩ := h
    rw [upI_s, mpw_i hk hy hR (by omega)]
  · rw [upI_n h]
    show (if a = 144 ∧ b < _ ∧ _ then _ else _) = if a = 144 ∧ b < _ ∧ _ then _ else _
    by_cases h2 : a = 144 ∧ b < 80 * (6 * x + y) + k ∧ ((b / 80 % 6 : Nat) : Int) ≤ g 1
    · rw [if_pos h2, if_pos ⟨h2.1, by omega, h2.2.2⟩]
    · rw [if_neg h2, if_neg (by omega)]
theorem mpw_0 (w : Wd) (g : Gd) : mpw w g 0 = w := W_ext (fun a b => if_neg (by omega)) rfl
theorem mpw_e {w : Wd} {g : Gd} {x R : Nat} (hR : g 1 = R) (hR5 : R ≤ 5) : mpw w g (80 * (6 * x + (R + 1))) = mpw w g (80 * (6 * (x + 1))) := by
  refine W_ext (fun a b => ?_) rfl
  show (if a = 144 ∧ b < _ ∧ _ then _ else _) = if a = 144 ∧ b < _ ∧ _ then _ else _
  by_cases h2 : a = 144 ∧ b < 80 * (6 * x + (R + 1)) ∧ ((b / 80 % 6 : Nat) : Int) ≤ g 1
  · rw [if_pos h2, if_pos ⟨h2.1, by omega, h2.2.2⟩]
  · rw [if_neg h2, if_neg (by omega)]
def lv (s : Nat → Int) : Nat → Int
  | 0 => 1
  | k + 1 => if s k = 0 then 0 else 1
def MwC (w : Wd) (g : Gd) : Prop := ∀ x y : Nat, (x : Int) ≤ g 0 → (y : Int) ≤ g 1 → ∀ k, k < 80 → w.1 144 (80 * (6 * x + y) + k) = I (Sg g x y k)
theorem m_grows {w : Wd} {g : Gd} {x y : Nat} (hW : Wi w.2) (hv : GV g) (hg : MG w g) (hx : ((x + 1 : Nat) : Int) ≤ g 0) (hy : ((y + 1 : Nat) : Int) ≤ g 1) :
    f_X8_grows 139 (I ((x + 1 : Nat) : Int)) (I ((y + 1 : Nat) : Int)) (mpw w g (80 * (6 * (x + 1) + (y + 1)))) = some (mpw w g (80 * (6 * (x + 1) + (y + 1) + 1))) := by
  have v1 := hv.1; have v2 := hv.2.1; have v3 := hv.2.2.1
  have hn := hv.2.2.2.1 (5 * x + y) (by omega)
  have ko := Sg_ok hv (x := x) (y := y) (by omega) (by omega)
  have ka := Sg_ok hv (x := x) (y := y + 1) (by omega) (by omega)
  have kb := Sg_ok hv (x := x + 1) (y := y) (by omega) (by omega)
  have kn := Sg_ok hv (x := x + 1) (y := y + 1) (by omega) (by omega)
  have bo := Wg_b hv (x := x) (y := y) (by omega) (by omega)
  have ba := Wg_b hv (x := x) (y := y + 1) (by omega) (by omega)
  have bb := Wg_b hv (x := x + 1) (y := y) (by omega) (by omega)
  have bn := Wg_b hv (x := x + 1) (y := y + 1) (by omega) (by omega)
  have eW : wts g x y + Wg g x (y + 1) + Wg g (x + 1) y - Wg g x y = Wg g (x + 1) (y + 1) := by
    have e1 : Wg g (x + 1) y = Wg g x y + csum (wts g x) y := rfl
    have e2 : Wg g (x + 1) (y + 1) = Wg g x (y + 1) + (csum (wts g x) y + wts g x y) := rfl
    omega
  have hwb := wts_b hv x (by omega) y (by omega)
  have hoa := (ka.2.1 (by omega)).1
  have hob := (kb.2.2 (by omega)).1
  rw [show y + 1 - 1 = y by omega] at hoa
  rw [show x + 1 - 1 = x by omega] at hob
  unfold f_X8_grows
  simp only [i0, i1, i2, i3, i4, i5, i6, i7, i8, i9, i10, i12, i14, i20, i25, i26, i28, i30, i36, i48, i49, i50, i53, i57, i59, i60, i63, i75, i80, i99, i100, i196, i255, i1000, im1, im2, im3, im5, im6, im11, im12, im13, im14, im1000, I_sub]
  rw [show ((x + 1 : Nat) : Int) - 1 = (x : Int) by omega, show ((y + 1 : Nat) : Int) - 1 = (y : Int) by omega]
  rw [c1_r (m_from _ _), c1_r (m_from _ _), c1_r (m_from _ _), c1_r (m_from _ _), show (mpw w g (80 * (6 * (x + 1) + (y + 1)))).2 = w.2 from rfl, rfc hW.m3 kd_140 (by decide), c1_r (m_at _ _), ln_140, ix_d (by omega) (by omega) (by decide), lt_d]
  rw [show (5 * (((x + 1 : Nat) : Int) - 1) + ((y + 1 : Nat) : Int) - 1).toNat = 5 * x + y by omega, mpw_n (by omega), hg.2.2.1, mpw_n (by omega), hg.2.2.2 _ (by omega), lt_d]
  have hgp : Sg g (x + 1) (y + 1) = gp (g 2) (wts g x y) (Sg g x y) (Sg g x (y + 1)) (Sg g (x + 1) y) := rfl
  refine wl4_for 80 (fun k => I (gc (g 2) (wts g x y) (Sg g x y) (Sg g x (y + 1)) (Sg g (x + 1) y) k)) (fun k => I (lv (Sg g (x + 1) (y + 1)) k)) (fun k => I k) (fun k => mpw w g (80 * (6 * (x + 1) + (y + 1)) + k)) (by decide) ?_ rfl rfl rfl (fun k hk kk => ?_) (fun kk => ?_)
  · show _ = I (wts g x y)
    simp (disch := omega) only [I_lt, I_le, I_eq, I_ite]
    unfold wts worth
    repeat' split
    all_goals omega
  · have hdn := kn.1.2.1
    have x1 := ko.1.1 k; have x2 := ko.1.b k; have x3 := ka.1.1 k; have x4 := ka.1.b k; have x5 := kb.1.1 k; have x6 := kb.1.b k
    have x7 := gc_b v3 hwb.1 ko.1.1 hoa hob k
    have x12 := hoa k
    have x13 := hob k
    have x14 := kn.1.1 k
    have x15 := kn.1.b k
    have xp := gp_pt v3 hwb.1 ko.1.1 hoa hob k
    have hS : gc (g 2) (wts g x y) (Sg g x y) (Sg g x (y + 1)) (Sg g (x + 1) y) (k + 1) = gc (g 2) (wts g x y) (Sg g x y) (Sg g x (y + 1)) (Sg g (x + 1) y) k + (Sg g x (y + 1) k + Sg g (x + 1) y k - Sg g x y k - Sg g (x + 1) (y + 1) k) := rfl
    rw [← hgp] at xp
    have hlv : lv (Sg g (x + 1) (y + 1)) k = 0 ∨ lv (Sg g (x + 1) (y + 1)) k = 1 := by
      cases k with
      | zero => right; rfl
      | succ k =>
        show (if _ then _ else _) = _ ∨ (if _ then _ else _) = _
        split
        · left; rfl
        · right; rfl
    simp (disch := omega) only [i0, i1, i2, i3, i4, i5, i6, i7, i8, i9, i10, i12, i14, i20, i25, i26, i28, i30, i36, i48, i49, i50, i53, i57, i59, i60, i63, i75, i80, i99, i100, i196, i255, i1000, im1, im2, im3, im5, im6, im11, im12, im13, im14, im1000, I_le, I_eq]
    rw [if_neg (by omega), show (mpw w g (80 * (6 * (x + 1) + (y + 1)) + k)).2 = w.2 from rfl, rfc hW.m9 kd_144 (by decide), ln_144, I_add, ix_d (by omega) (by omega) (by decide), lt_d, jn_d, show (80 * (6 * ((x + 1 : Nat) : Int) + ((y + 1 : Nat) : Int)) + (k : Int)).toNat = 80 * (6 * (x + 1) + (y + 1)) + k by omega]
    have fin1 : ∀ v, v = I (Sg g (x + 1) (y + 1) k) → upI (upI (mpw w g (80 * (6 * (x + 1) + (y + 1)) + k)) 144 (80 * (6 * (x + 1) + (y + 1)) + k) (I 0)) 144 (80 * (6 * (x + 1) + (y + 1)) + k) v = mpw w g (80 * (6 * (x + 1) + (y + 1)) + (k + 1)) := fun v hv2 => by
      rw [hv2, show 80 * (6 * (x + 1) + (y + 1)) + (k + 1) = 80 * (6 * (x + 1) + (y + 1)) + k + 1 by omega, ← mpw_s hk (by omega) hy]
      refine W_ext (fun a b => ?_) rfl
      by_cases h : a = 144 ∧ b = 80 * (6 * (x + 1) + (y + 1)) + k
      · obtain ⟨rfl, rfl⟩ := h
        rw [upI_s, upI_s]
      · rw [upI_n h, upI_n h, upI_n h]
    obtain hl | hl := hlv
    · have z1 : Sg g (x + 1) (y + 1) k = 0 := by
        cases k with
        | zero =>
            have : lv (Sg g (x + 1) (y + 1)) 0 = 1 := rfl
            omega
        | succ k =>
          have h1 : Sg g (x + 1) (y + 1) k = 0 := by
            by_cases c : Sg g (x + 1) (y + 1) k = 0
            · exact c
            · exfalso
              have : lv (Sg g (x + 1) (y + 1)) (k + 1) = 1 := if_neg c
              omega
          have h2 := hdn k
          omega
      have z2 := xp.2.2 z1
      rw [if_pos hl]
      show lt _ _ = _
      rw [lt_d, hl]
      have e1 : lv (Sg g (x + 1) (y + 1)) (k + 1) = 0 := if_pos z1
      rw [e1, I_add, nS, hS]
      have e2 : gc (g 2) (wts g x y) (Sg g x y) (Sg g x (y + 1)) (Sg g (x + 1) y) k + (Sg g x (y + 1) k + Sg g (x + 1) y k - Sg g x y k - Sg g (x + 1) (y + 1) k) = gc (g 2) (wts g x y) (Sg g x y) (Sg g x (y + 1)) (Sg g (x + 1) y) k := by omega
      rw [e2]
      congr 1
      rw [show I 0 = I (Sg g (x + 1) (y + 1) k) by rw [z1]]
      exact mpw_s hk (by omega) hy
    · have x8 : gc (g 2) (wts g x y) (Sg g x y) (Sg g x (y + 1)) (Sg g (x + 1) y) k ≤ 150 := by
        by_cases c : k ≤ 75
        · have := gc_le v3 hwb.1 ko.1 ka.1 kb.1 hoa hob k c
          omega
        · have z1 : Sg g (x + 1) (y + 1) k = 0 := kn.1.z (by omega)
          have := xp.2.2 z1
          omega
      rw [if_neg (by omega)]
      generalize hw2 : upI (mpw w g (80 * (6 * (x + 1) + (y + 1)) + k)) 144 (80 * (6 * (x + 1) + (y + 1)) + k) (I 0) = w2 at fin1 ⊢
      have q2 : w2.2 = w.2 := by rw [← hw2]; rfl
      have rd : ∀ c d : Nat, (d : Int) ≤ g 1 → d ≤ 5 → 6 * c + d < 6 * (x + 1) + (y + 1) → w2.1 144 (80 * (6 * c + d) + k) = I (Sg g c d k) := fun c d hd hd5 hc => by
        rw [← hw2, upI_n (by omega), mpw_i hk hd5 hd (by omega)]
      have r2 : w2.1 139 2 = I (g 2) := by rw [← hw2, upI_n (by omega), mpw_n (by omega)]; exact hg.2.2.1
      clear hw2
      rw [q2, rfc hW.m9 kd_144 (by decide), ln_144, I_add, ix_d (by omega) (by omega) (by decide), lt_d, show (80 * (6 * (x : Int) + (y : Int)) + (k : Int)).toNat = 80 * (6 * x + y) + k by omega, rd x y (by omega) (by omega) (by omega)]
      rw [rfc hW.m9 kd_144 (by decide), ln_144, I_add, ix_d (by omega) (by omega) (by decide), lt_d, show (80 * (6 * (x : Int) + ((y + 1 : Nat) : Int)) + (k : Int)).toNat = 80 * (6 * x + (y + 1)) + k by omega, rd x (y + 1) (by omega) (by omega) (by omega)]
      rw [rfc hW.m9 kd_144 (by decide), ln_144, I_add, ix_d (by omega) (by omega) (by decide), lt_d, show (80 * (6 * ((x + 1 : Nat) : Int) + (y : Int)) + (k : Int)).toNat = 80 * (6 * (x + 1) + y) + k by omega, rd (x + 1) y (by omega) (by omega) (by omega)]
      rw [lt_d, lt_d, jn_d, r2]
      have eS : Sg g (x + 1) (y + 1) k = gN (g 2) (Sg g x y k) (Sg g x (y + 1) k) (Sg g (x + 1) y k) (gc (g 2) (wts g x y) (Sg g x y) (Sg g x (y + 1)) (Sg g (x + 1) y) k) := rfl
      have e1 : lv (Sg g (x + 1) (y + 1)) (k + 1) = if Sg g (x + 1) (y + 1) k = 0 then 0 else 1 := rfl
      rw [hS, e1]
      clear hS e1 hgp xp rd
      generalize gc (g 2) (wts g x y) (Sg g x y) (Sg g x (y + 1)) (Sg g (x + 1) y) k = c at *
      generalize Sg g (x + 1) (y + 1) k = n at *
      generalize Sg g x y k = o at *
      generalize Sg g x (y + 1) k = a at *
      generalize Sg g (x + 1) y k = b at *
      have fin2 : ∀ e1 e2 : Int32, e2 = I n → e1 = I (c + (a + b - o - n)) → (ix (I (80 * (6 * ((x + 1 : Nat) : Int) + ((y + 1 : Nat) : Int)) + (k : Int))) 2880 fun j64 => lt (upI w2 144 j64 e2) fun w65 => lt (if e2 = I 0 then I 0 else I 1) fun x67 => lt (I k + I 1) fun x37 => kk e1 x67 x37 w65) = kk (I (c + (a + b - o - n))) (I (if n = 0 then 0 else 1)) (I ((k + 1 : Nat) : Int)) (mpw w g (80 * (6 * (x + 1) + (y + 1)) + (k + 1))) := fun e1 e2 h2 h1 => by
        subst h2
        subst h1
        rw [ix_d (by omega) (by omega) (by decide), lt_d, lt_d, lt_d, show (80 * (6 * ((x + 1 : Nat) : Int) + ((y + 1 : Nat) : Int)) + (k : Int)).toNat = 80 * (6 * (x + 1) + (y + 1)) + k by omega, fin1 _ rfl, I_add, nS]
        simp (disch := omega) only [I_eq, I_ite]
      simp (disch := omega) only [I_eq]
      unfold gN mx lo tri at eS
      by_cases h0 : g 2 = 0
      · rw [if_pos h0, lt_d, lt_d, rfc hW.m9 kd_144 (by decide), ln_144]
        rw [if_pos h0] at eS
        refine fin2 _ _ ?_ ?_
        · simp (disch := omega) only [I_lt, I_le, I_eq, I_ite, I_add, I_sub]
          congr 1
          revert eS; repeat' split
          all_goals omega
        · simp (disch := omega) only [I_lt, I_le, I_eq, I_ite, I_add, I_sub]
          congr 1
          revert eS; repeat' split
          all_goals omega
      · rw [if_neg h0]
        rw [if_neg h0] at eS
        by_cases h1 : g 2 = 1
        · rw [if_pos h1, lt_d, lt_d, lt_d, rfc hW.m9 kd_144 (by decide), ln_144]
          rw [if_pos h1] at eS
          refine fin2 _ _ ?_ ?_
          · simp (disch := omega) only [I_add, I_lt, I_le, I_eq, I_ite, I_sub]
            congr 1
            revert eS; repeat' split
            all_goals omega
          · simp (disch := omega) only [I_add, I_lt, I_le, I_eq, I_ite, I_sub]
            congr 1
            revert eS; repeat' split
            all_goals omega
        · rw [if_neg h1]
          rw [if_neg h1] at eS
          by_cases h2 : g 2 = 2
          · rw [if_pos h2, lt_d, lt_d, lt_d, rfc hW.m9 kd_144 (by decide), ln_144]
            rw [if_pos h2] at eS
            refine fin2 _ _ ?_ ?_
            · simp (disch := omega) only [I_add, I_lt, I_le, I_eq, I_ite, I_sub]
              congr 1
              revert eS; repeat' split
              all_goals omega
            · simp (disch := omega) only [I_add, I_lt, I_le, I_eq, I_ite, I_sub]
              congr 1
              revert eS; repeat' split
              all_goals omega
          · rw [if_neg h2, lt_d, lt_d, lt_d, lt_d, rfc hW.m9 kd_144 (by decide), ln_144]
            rw [if_neg h2] at eS
            refine fin2 _ _ ?_ ?_
            · simp (disch := omega) only [I_lt, I_le, I_eq, I_ite, I_add, I_sub]
              congr 1
              revert eS; repeat' split
              all_goals omega
            · simp (disch := omega) only [I_lt, I_le, I_eq, I_ite, I_add, I_sub]
              congr 1
              revert eS; repeat' split
              all_goals omega
  · simp (disch := omega) only [i0, i1, i2, i3, i4, i5, i6, i7, i8, i9, i10, i12, i14, i20, i25, i26, i28, i30, i36, i48, i49, i50, i53, i57, i59, i60, i63, i75, i80, i99, i100, i196, i255, i1000, im1, im2, im3, im5, im6, im11, im12, im13, im14, im1000, I_le]
    rw [if_pos (by omega)]
    rfl
theorem if_or {P Q : Prop} [Decidable P] [Decidable Q] {α : Type} {A B : α} (h : P ∨ Q) : (if P then A else if Q then A else B) = A := by
  by_cases c : P
  · rw [if_pos c]
  · rw [if_neg c, if_pos (by cases h with | inl h => exact absurd h c | inr h => exact h)]
theorem m_growsAll {w : Wd} {g : Gd} (hW : Wi w.2) (hv : GV g) (hg : MG w g) : ∃ w', f_X8_growsAll 139 w = some w' ∧ w'.2 = w.2 ∧ MwC w' g ∧ ∀ a b, a ≠ 144 → w'.1 a b = w.1 a b := by
  obtain ⟨C, hC⟩ : ∃ C : Nat, g 0 = C := ⟨(g 0).toNat, by have := hv.1; omega⟩
  obtain ⟨R, hR⟩ : ∃ R : Nat, g 1 = R := ⟨(g 1).toNat, by have := hv.2.1; omega⟩
  have v1 := hv.1; have v2 := hv.2.1; have v3 := hv.2.2.1
  refine ⟨mpw w g (80 * (6 * (C + 1))), ?_, rfl, fun x y hx hy k hk => mpw_i hk (by omega) hy (by omega), fun a b h => mpw_n h⟩
  unfold f_X8_growsAll
  refine wl2_for (C + 1) (fun x => I x) (fun x => mpw w g (80 * (6 * x))) (fu_lt (by omega)) rfl (mpw_0 _ _).symm (fun x hx k => ?_) (fun k => ?_)
  · rw [mpw_n (by omega), hg.1, hC]
    simp (disch := omega) only [I_lt]
    rw [if_neg (by omega)]
    refine wl2_for (R + 1) (fun y => I y) (fun y => mpw w g (80 * (6 * x + y))) (fu_lt (by omega)) rfl rfl (fun y hy k2 => ?_) (fun k2 => ?_)
    · rw [mpw_n (by omega), hg.2.1, hR]
      simp (disch := omega) only [I_lt]
      rw [if_neg (by omega), jn_d, jn_d]
      simp (disch := omega) only [i0, i1, i2, i3, i4, i5, i6, i7, i8, i9, i10, i12, i14, i20, i25, i26, i28, i30, i36, i48, i49, i50, i53, i57, i59, i60, i63, i75, i80, i99, i100, i196, i255, i1000, im1, im2, im3, im5, im6, im11, im12, im13, im14, im1000, I_le]
      by_cases c : (x : Int) ≤ 0 ∨ (y : Int) ≤ 0
      · rw [if_or c]
        have hz : ∀ k, Sg g x y k = 0 := fun k => by
          obtain c | c := c
          · obtain rfl : x = 0 := by omega
            rfl
          · obtain rfl : y = 0 := by omega
            exact SR_y0 _ _ x k
        refine wl2_for 80 (fun i => I i) (fun i => mpw w g (80 * (6 * x + y) + i)) (by decide) rfl rfl (fun i hi k3 => ?_) (fun k3 => ?_)
        · simp (disch := omega) only [I_le]
          rw [if_neg (by omega), show (mpw w g (80 * (6 * x + y) + i)).2 = w.2 from rfl, rfc hW.m9 kd_144 (by decide), c1_r (m_from _ _), ln_144, I_add, ix_d (by omega) (by omega) (by decide), lt_d, lt_d, I_add, nS, show (80 * (6 * (x : Int) + (y : Int)) + (i : Int)).toNat = 80 * (6 * x + y) + i by omega]
          have e := mpw_s (w := w) (g := g) (x := x) (y := y) hi (by omega) (by omega)
          rw [hz i] at e
          rw [e]
          rfl
        · simp (disch := omega) only [I_le]
          rw [if_pos (by omega), lt_d, I_add, nS]
          rfl
      · obtain ⟨x, rfl⟩ : ∃ q, x = q + 1 := ⟨x - 1, by omega⟩
        obtain ⟨y, rfl⟩ : ∃ q, y = q + 1 := ⟨y - 1, by omega⟩
        rw [if_neg (by omega), if_neg (by omega), c1_r (m_grows hW hv hg (by omega) (by omega)), lt_d, I_add, nS]
        rfl
    · rw [mpw_n (by omega), hg.2.1, hR]
      simp (disch := omega) only [I_lt]
      rw [if_pos (by omega), lt_d, mpw_e hR (by omega), i1, I_add, nS]
  · rw [mpw_n (by omega), hg.1, hC]
    simp (disch := omega) only [I_lt]
    rw [if_pos (by omega)]

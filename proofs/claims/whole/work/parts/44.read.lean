/-! read -/
/-- the byte at p is as it must be there; c columns, r rows -/
def okp (s : Nat → Int) (c r p : Nat) : Prop := if p < 2 then 49 ≤ s p ∧ s p ≤ 53 else p < 2 + r * (c + 1) ∧ (if (p - 2) % (c + 1) = 0 then s p = 59 else 48 ≤ s p ∧ s p ≤ 51)
def cs (s : Nat → Int) : Nat := (s 0 - 48).toNat
def rs (s : Nat → Int) : Nat := (s 1 - 48).toNat
def Wh (s : Nat → Int) : Nat := 2 + rs s * (cs s + 1)
def okb (s : Nat → Int) (p : Nat) : Prop := okp s (cs s) (rs s) p
def FTn (s : Nat → Int) (T p : Nat) : Prop := p ≤ T ∧ (∀ q, q < p → okb s q) ∧ ((p < T ∧ ¬ okb s p) ∨ (p = T ∧ (T < 2 ∨ T < Wh s)))
def FTc (s : Nat → Int) (T : Nat) : Prop := 2 ≤ T ∧ T = Wh s ∧ ∀ q, q < T → okb s q
theorem FTn_u {s : Nat → Int} {T p q : Nat} (h : FTn s T p) (h' : FTn s T q) : p = q := by
  obtain ⟨h1, h2, h3⟩ := h
  obtain ⟨g1, g2, g3⟩ := h'
  obtain c | c | c := Nat.lt_trichotomy p q
  · obtain ⟨h4, h5⟩ | ⟨h4, h5⟩ := h3
    · exact absurd (g2 p c) h5
    · omega
  · exact c
  · obtain ⟨h4, h5⟩ | ⟨h4, h5⟩ := g3
    · exact absurd (h2 q c) h5
    · omega
theorem FTn_c {s : Nat → Int} {T p : Nat} (h : FTn s T p) (h' : FTc s T) : False := by
  obtain ⟨h1, h2, h3⟩ := h
  obtain ⟨g1, g2, g3⟩ := h'
  obtain ⟨h4, h5⟩ | ⟨h4, h5⟩ := h3
  · exact h5 (g3 p h4)
  · omega
theorem okb_cr {s : Nat → Int} (h0 : okb s 0) (h1 : okb s 1) : (s 0 = (cs s : Int) + 48 ∧ 1 ≤ cs s ∧ cs s ≤ 5) ∧ (s 1 = (rs s : Int) + 48 ∧ 1 ≤ rs s ∧ rs s ≤ 5) := by
  unfold okb okp at h0 h1
  rw [if_pos (by decide)] at h0 h1
  unfold cs rs
  omega
theorem rc_b {c r : Nat} (hc : c ≤ 5) (hr : r ≤ 5) : r * (c + 1) ≤ 30 := Nat.le_trans (Nat.mul_le_mul hr (Nat.succ_le_succ hc)) (by decide)
def TpC (w : Wd) (T : Nat) (s : Nat → Int) : Prop := w.1 112 1 = I T ∧ ∀ j, j < T → (0 ≤ s j ∧ s j ≤ 255) ∧ w.1 113 j = I (s j)
theorem s_byteAt {w : Wd} {T : Nat} {s : Nat → Int} (hW : Wi w.2) (hT : T ≤ 60) (h : TpC w T s) {p : Nat} (hp : p < 1000) : f_X6_byteAt 112 (I p) w = some (I (if p < T then s p else -1)) := by
  unfold f_X6_byteAt
  rw [jn_d, h.1, if_neg (by rw [i0, I_lt (by omega) (by omega) (by omega) (by omega)]; omega)]
  by_cases c : p < T
  · rw [if_neg (by rw [I_le (by omega) (by omega) (by omega) (by omega)]; omega), rfc hW.2.2.2.2.2.2.2.1 kd_113 (by decide), ln_113, ix_d (by omega) (by omega) (by decide), Int.toNat_natCast, (h.2 p c).2, lt_d, if_pos c]
  · rw [if_pos (by rw [I_le (by omega) (by omega) (by omega) (by omega)]; omega), if_neg c]; rfl
theorem s_hasFigure {w : Wd} {T : Nat} {s : Nat → Int} (hW : Wi w.2) (hT : T ≤ 60) (h : TpC w T s) {p : Nat} (hp : p < 1000) {lo hi : Int} (hlo : 0 ≤ lo ∧ lo < 1000) (hhi : 0 ≤ hi ∧ hi < 1000) : f_X6_hasFigure 112 (I p) (I lo) (I hi) w = some (I (if p < T ∧ lo ≤ s p ∧ s p ≤ hi then 1 else 0)) := by
  unfold f_X6_hasFigure
  rw [c1_r (s_byteAt hW hT h hp), jn_d, c1_r (s_byteAt hW hT h hp)]
  by_cases c : p < T
  · have := (h.2 p c).1
    rw [if_pos c]
    simp (disch := omega) only [I_lt]
    by_cases d : s p < lo
    · rw [if_pos d, if_neg (by omega)]; rfl
    · rw [if_neg d]
      by_cases e : hi < s p
      · rw [if_pos e, if_neg (by omega)]; rfl
      · rw [if_neg e, if_pos (by omega)]; rfl
  · rw [if_neg c, if_pos (by rw [I_lt (by omega) (by omega) (by omega) (by omega)]; omega), if_neg (by omega)]; rfl
theorem s_figureAt {w : Wd} {T : Nat} {s : Nat → Int} (hW : Wi w.2) (hT : T ≤ 60) (h : TpC w T s) {p : Nat} (hp : p < T) : f_X6_figureAt 112 (I p) w = some (I (s p - 48)) := by
  unfold f_X6_figureAt
  rw [c1_r (s_byteAt hW hT h (by omega)), if_pos hp, i48, I_sub]
theorem md_s {c : Nat} (i : Nat) : (i + 1) % (c + 1) = if i % (c + 1) = c then 0 else i % (c + 1) + 1 := by
  have h1 := Nat.mod_lt i (Nat.succ_pos c)
  have h2 := Nat.div_add_mod i (c + 1)
  have e : i + 1 = (i % (c + 1) + 1) + (c + 1) * (i / (c + 1)) := by omega
  by_cases d : i % (c + 1) = c
  · rw [if_pos d, e, Nat.add_mul_mod_self_left, d, Nat.mod_self]
  · rw [if_neg d, e, Nat.add_mul_mod_self_left, Nat.mod_eq_of_lt (by show _ < c + 1; have : i % (c + 1) < c + 1 := h1; omega)]
def lf (c i : Nat) : Int := if i % (c + 1) = 0 then 0 else ((c + 1 - i % (c + 1) : Nat) : Int)
theorem s_faultPlace {w : Wd} {T : Nat} {s : Nat → Int} (hW : Wi w.2) (hT : T ≤ 60) (h : TpC w T s) : (∃ p, FTn s T p ∧ f_X6_faultPlace 112 w = some (I p)) ∨ (FTc s T ∧ f_X6_faultPlace 112 w = some (I (-1))) := by
  unfold f_X6_faultPlace
  refine wl1_inv (Q := fun r => (∃ p, FTn s T p ∧ r = some (I p)) ∨ (FTc s T ∧ r = some (I (-1)))) 2 (fun i x => x = I i ∧ i ≤ T ∧ ∀ q, q < i → okb s q) (fu_lt (by omega)) ?_ ?_ ?_
  · exact ⟨rfl, by omega, fun q hq => absurd hq (by omega)⟩
  · rintro i hi x ⟨rfl, hiT, hd⟩ k
    rw [if_neg (by rw [i2, I_le (by omega) (by omega) (by omega) (by omega)]; omega), i49, i53, c1_r (s_hasFigure hW hT h (by omega) (by omega) (by omega))]
    have ob : okb s i ↔ (49 ≤ s i ∧ s i ≤ 53) := by
      unfold okb okp
      rw [if_pos hi]
    by_cases c : i < T ∧ 49 ≤ s i ∧ s i ≤ 53
    · left
      refine ⟨I ((i + 1 : Nat) : Int), ⟨rfl, by omega, fun q hq => ?_⟩, ?_⟩
      · by_cases e : q = i
        · subst e; exact ob.2 c.2
        · exact hd q (by omega)
      · rw [if_pos c, if_neg n10, lt_d, i1, I_add, nS]
    · right; left
      refine ⟨i, ⟨hiT, hd, ?_⟩, by rw [if_neg c, if_pos z00]⟩
      by_cases e : i < T
      · exact Or.inl ⟨e, fun f => c ⟨e, ob.1 f⟩⟩
      · exact Or.inr ⟨by omega, by omega⟩
  · rintro x ⟨rfl, h2T, hd⟩ k
    obtain ⟨⟨c0, c1', c2'⟩, r0, r1, r2⟩ := okb_cr (hd 0 (by decide)) (hd 1 (by decide))
    have hw : Wh s = 2 + rs s * (cs s + 1) := rfl
    have ho : ∀ p, 2 ≤ p → (okb s p ↔ (p < Wh s ∧ (if (p - 2) % (cs s + 1) = 0 then s p = 59 else 48 ≤ s p ∧ s p ≤ 51))) := fun p hp => by
      unfold okb okp
      rw [if_neg (by omega)]
      rfl
    have hb := rc_b c2' r2
    have f0 : f_X6_figureAt 112 (I ((0 : Nat) : Int)) w = some (I (s 0 - 48)) := s_figureAt hW hT h (by omega)
    have f1 : f_X6_figureAt 112 (I ((1 : Nat) : Int)) w = some (I (s 1 - 48)) := s_figureAt hW hT h (by omega)
    rw [if_pos (by decide)]
    simp only [↓j_m1, ↓j_m2, ↓j_m3, ↓j_m5, ↓j_m6, ↓j_m11, ↓j_m12, ↓j_m13, ↓j_m14, ↓j_m1000, j_0, j_1, j_2, j_3, j_4, j_5, j_6, j_7, j_8, j_9, j_10, j_12, j_14, j_20, j_25, j_26, j_28, j_30, j_36, j_48, j_49, j_50, j_53, j_57, j_59, j_60, j_63, j_75, j_80, j_99, j_100, j_196, j_255, j_1000]
    rw [c1_r (show f_X6_figureAt 112 (I 0) w = _ from f0), lt_d, c1_r (show f_X6_figureAt 112 (I 1) w = _ from f1), lt_d, I_add, I_mul, I_add, show (2 : Int) + (s 1 - 48) * (s 0 - 48 + 1) = ((2 + rs s * (cs s + 1) : Nat) : Int) by rw [c0, r0, show (rs s : Int) + 48 - 48 = (rs s : Int) by omega, show (cs s : Int) + 48 - 48 + 1 = ((cs s + 1 : Nat) : Int) by omega, ← Int.natCast_mul]; omega, show s 0 - 48 + 1 = ((cs s + 1 : Nat) : Int) by omega]
    generalize hc : cs s = c at *
    generalize hr : rs s = r at *
    generalize hN : r * (c + 1) = N at *
    refine wl2_inv (Q := fun z => (∃ p, FTn s T p ∧ z = some (I p)) ∨ (FTc s T ∧ z = some (I (-1)))) N (fun i a b => a = I (lf c i) ∧ b = I ((2 + i : Nat) : Int) ∧ 2 + i ≤ T ∧ ∀ q, q < 2 + i → okb s q) (fu_lt (by omega)) ?_ ?_ ?_
    · exact ⟨by unfold lf; rw [Nat.zero_mod]; rfl, rfl, by omega, fun q hq => hd q (by omega)⟩
    · rintro i hi a b ⟨rfl, rfl, hiT, hd2⟩ k
      have hm := Nat.mod_lt i (Nat.succ_pos c)
      have ms := md_s (c := c) i
      have op := ho (2 + i) (by omega)
      rw [show 2 + i - 2 = i by omega] at op
      rw [if_neg (show ¬ (I ((2 + N : Nat) : Int) ≤ I ((2 + i : Nat) : Int)) by rw [I_le (by omega) (by omega) (by omega) (by omega)]; omega)]
      have bad : ¬ okb s (2 + i) ∨ ¬ 2 + i < T → (∃ p, FTn s T p ∧ some (I ((2 + i : Nat) : Int)) = some (I p)) ∨ (FTc s T ∧ some (I ((2 + i : Nat) : Int)) = some (I (-1))) := fun e => by
        refine Or.inl ⟨2 + i, ⟨hiT, hd2, ?_⟩, rfl⟩
        by_cases f : 2 + i < T
        · exact Or.inl ⟨f, e.resolve_right (fun g => g f)⟩
        · exact Or.inr ⟨by omega, by omega⟩
      have good : okb s (2 + i) → 2 + i < T → 2 + (i + 1) ≤ T ∧ ∀ q, q < 2 + (i + 1) → okb s q := fun e f => ⟨by omega, fun q hq => by
        by_cases e2 : q = 2 + i
        · subst e2; exact e
        · exact hd2 q (by omega)⟩
      have hm' : i % (c + 1) < c + 1 := hm
      have l1' : lf c i = if i % (c + 1) = 0 then 0 else ((c + 1 - i % (c + 1) : Nat) : Int) := rfl
      have l2' : lf c (i + 1) = if (i + 1) % (c + 1) = 0 then 0 else ((c + 1 - (i + 1) % (c + 1) : Nat) : Int) := rfl
      rw [ms] at l2'
      generalize hmm : i % (c + 1) = m at *
      generalize lf c i = z1 at *
      generalize lf c (i + 1) = z2 at *
      by_cases d : m = 0
      · rw [if_pos d] at op l1'
        subst l1'
        rw [jn_d, if_pos (show I 0 = I 0 from rfl), c1_r (s_byteAt hW hT h (by omega))]
        by_cases f : 2 + i < T
        · have := (h.2 _ f).1
          rw [if_pos f]
          by_cases e : s (2 + i) = 59
          · left
            refine ⟨I z2, I ((2 + (i + 1) : Nat) : Int), ⟨rfl, rfl, good (op.2 ⟨by omega, e⟩) f⟩, ?_⟩
            rw [if_pos (by rw [e])]
            show (if I 1 = I 0 then _ else _) = _
            rw [if_neg (by decide), if_pos rfl, lt_d, lt_d, I_sub, I_add]
            rw [if_neg (show ¬ m = c by omega), if_neg (by omega)] at l2'
            exact congr (congrArg k (congrArg I (by omega))) (congrArg I (by omega))
          · right
            rw [if_neg (show ¬ (I (s (2 + i)) = I 59) by rw [I_eq (by omega) (by omega) (by omega) (by omega)]; exact e)]
            show (∃ p, FTn s T p ∧ (if I 0 = I 0 then _ else _) = _) ∨ (FTc s T ∧ (if I 0 = I 0 then _ else _) = _)
            rw [if_pos rfl]
            exact bad (Or.inl (fun g => e (op.1 g).2))
        · right
          rw [if_neg f, if_neg (show ¬ (I (-1) = I 59) by decide)]
          show (∃ p, FTn s T p ∧ (if I 0 = I 0 then _ else _) = _) ∨ (FTc s T ∧ (if I 0 = I 0 then _ else _) = _)
          rw [if_pos rfl]
          exact bad (Or.inr f)
      · rw [if_neg d] at op l1'
        subst l1'
        have n0 : ¬ I ((c + 1 - m : Nat) : Int) = I 0 := by rw [I_eq (by omega) (by omega) (by omega) (by omega)]; omega
        rw [jn_d, if_neg n0, show (51 : Int32) = I 51 from rfl, c1_r (s_hasFigure hW hT h (by omega) (by omega) (by omega))]
        by_cases e : 2 + i < T ∧ 48 ≤ s (2 + i) ∧ s (2 + i) ≤ 51
        · left
          refine ⟨I z2, I ((2 + (i + 1) : Nat) : Int), ⟨rfl, rfl, good (op.2 ⟨by omega, e.2⟩) e.1⟩, ?_⟩
          rw [if_pos e]
          show (if I 1 = I 0 then _ else _) = _
          rw [if_neg (by decide), if_neg n0, lt_d, lt_d, I_sub, I_add]
          by_cases g : m = c
          · rw [if_pos g, if_pos rfl] at l2'
            exact congr (congrArg k (congrArg I (by omega))) (congrArg I (by omega))
          · rw [if_neg g, if_neg (by omega)] at l2'
            exact congr (congrArg k (congrArg I (by omega))) (congrArg I (by omega))
        · right
          rw [if_neg e]
          show (∃ p, FTn s T p ∧ (if I 0 = I 0 then _ else _) = _) ∨ (FTc s T ∧ (if I 0 = I 0 then _ else _) = _)
          rw [if_pos rfl]
          by_cases f : 2 + i < T
          · exact bad (Or.inl (fun g => e ⟨f, (op.1 g).2⟩))
          · exact bad (Or.inr f)
    · rintro a b ⟨rfl, rfl, hiT, hd2⟩ k
      rw [if_pos (by rw [I_le (by omega) (by omega) (by omega) (by omega)]; omega), h.1, lt_d]
      by_cases e : T ≤ 2 + N
      · right
        rw [if_pos (by rw [I_le (by omega) (by omega) (by omega) (by omega)]; omega)]
        exact ⟨⟨h2T, by omega, fun q hq => hd2 q (by omega)⟩, rfl⟩
      · left
        rw [if_neg (by rw [I_le (by omega) (by omega) (by omega) (by omega)]; omega)]
        exact ⟨2 + N, ⟨hiT, hd2, Or.inl ⟨by omega, fun g => by have := ((ho _ (by omega)).1 g).1; omega⟩⟩, rfl⟩

/-! one PART of growth by RULE 3, rows of corners told from the top -/
def Lv3 (C R : Nat) (m w u : Nat → Nat → Int) : Prop := (∀ b, m 0 b = 0) ∧ (∀ x, m x R = 0) ∧ ∀ x b, x < C → b < R → 0 ≤ w x b ∧ 0 ≤ u x b ∧ (m x (b + 1) ≤ m x b ∧ m x (b + 1) ≤ m (x + 1) (b + 1) ∧ m x b ≤ m (x + 1) b ∧ m (x + 1) (b + 1) ≤ m (x + 1) b ∧ m (x + 1) b ≤ m x (b + 1) + 1) ∧ u x b = w x b + m x b + m (x + 1) (b + 1) - m x (b + 1) - m (x + 1) b ∧ (0 < w x b → m (x + 1) b = m x (b + 1) + 1) ∧ (0 < u x b → m (x + 1) b = m x (b + 1) + 1)
/-- the steps at the lines: upright in row b at line x; level in column x at line j -/
def vL (m : Nat → Nat → Int) (b x : Nat) : Int := m x b - m x (b + 1)
def hL (m : Nat → Nat → Int) (x j : Nat) : Int := m (x + 1) j - m x j
theorem gl_w {f e s φ : Nat → Int} {i0 n : Nat} (h : ∀ i, i0 ≤ i → i < n → f i + e i ≤ f (i + 1) ∧ e i = s i + φ i - φ (i + 1) ∧ 0 ≤ s i) : ∀ d, i0 + d ≤ n → f i0 + φ i0 - φ (i0 + d) ≤ f (i0 + d)
  | 0, _ => by show f i0 + φ i0 - φ i0 ≤ f i0; omega
  | d + 1, hd => by
    have ih := gl_w h d (by omega)
    obtain ⟨h1, h2, h3⟩ := h (i0 + d) (by omega) (by omega)
    show f i0 + φ i0 - φ (i0 + d + 1) ≤ f (i0 + d + 1)
    omega
theorem gl_to {f e s φ : Nat → Int} {i0 n i1 : Nat} (h : ∀ i, i0 ≤ i → i < n → f i + e i ≤ f (i + 1) ∧ e i = s i + φ i - φ (i + 1) ∧ 0 ≤ s i) (h0 : i0 ≤ i1) (h1 : i1 ≤ n) : f i0 + φ i0 - φ i1 ≤ f i1 := by
  have := gl_w h (i1 - i0) (by omega)
  rw [show i0 + (i1 - i0) = i1 by omega] at this
  exact this
theorem gl_in {f e s φ : Nat → Int} {i0 n i1 : Nat} (h : ∀ i, i0 ≤ i → i < n → f i + e i ≤ f (i + 1) ∧ e i = s i + φ i - φ (i + 1) ∧ 0 ≤ s i) (h0 : i0 ≤ i1) (h1 : i1 < n) : f i0 + φ i0 + s i1 - φ (i1 + 1) ≤ f (i1 + 1) := by
  have e1 := gl_to h h0 (Nat.le_of_lt h1)
  obtain ⟨h3, h4, h5⟩ := h i1 h0 h1
  omega
def trc (C R : Nat) (w : Nat → Nat → Int) (x b : Nat) : Int := if x < C ∧ b < R then w x b else 0
theorem trc_i {C R : Nat} {w : Nat → Nat → Int} {x b : Nat} (h1 : x < C) (h2 : b < R) : trc C R w x b = w x b := if_pos ⟨h1, h2⟩
theorem trc_p {C R : Nat} {w : Nat → Nat → Int} {x b : Nat} (h : 0 < trc C R w x b) : x < C ∧ b < R ∧ 0 < w x b := by
  unfold trc at h
  by_cases c : x < C ∧ b < R
  · rw [if_pos c] at h
    exact ⟨c.1, c.2, h⟩
  · rw [if_neg c] at h
    omega
theorem Lv3.w0 {C R : Nat} {m w u : Nat → Nat → Int} (h : Lv3 C R m w u) (x b : Nat) : 0 ≤ trc C R w x b ∧ 0 ≤ trc C R u x b := by
  unfold trc
  by_cases c : x < C ∧ b < R
  · rw [if_pos c, if_pos c]
    have := h.2.2 x b c.1 c.2
    exact ⟨this.1, this.2.1⟩
  · rw [if_neg c, if_neg c]
    omega
theorem Lv3.c {C R : Nat} {m w u : Nat → Nat → Int} (h : Lv3 C R m w u) {x b : Nat} (hx : x < C) (hb : b < R) :
    (trc C R u x b = trc C R w x b + vL m b x - vL m b (x + 1) ∧ trc C R u x b = trc C R w x b + hL m x (b + 1) - hL m x b) ∧ (vL m b (x + 1) + hL m x (b + 1) ≤ 1 ∧ vL m b x + hL m x b ≤ 1) ∧ (0 < trc C R w x b → vL m b (x + 1) + hL m x (b + 1) = 1) ∧ (0 < trc C R u x b → vL m b (x + 1) + hL m x (b + 1) = 1) ∧ (0 ≤ vL m b x ∧ 0 ≤ vL m b (x + 1) ∧ 0 ≤ hL m x b ∧ 0 ≤ hL m x (b + 1)) := by
  obtain ⟨h1, h2, ⟨h3, h4, h5, h6, h7⟩, h8, h9, h10⟩ := h.2.2 x b hx hb
  rw [trc_i hx hb, trc_i hx hb]
  unfold vL hL
  refine ⟨⟨by omega, by omega⟩, ⟨by omega, by omega⟩, fun a => by have := h9 a; omega, fun a => by have := h10 a; omega, by omega, by omega, by omega, by omega⟩
/-- the four ways along a row, down a column -/
theorem Lv3.ru {C R : Nat} {m w u : Nat → Nat → Int} (h : Lv3 C R m w u) {b : Nat} (hb : b < R) (i0 : Nat) : ∀ i, i0 ≤ i → i < C → BR false (trc C R u) i (b + 1) + trc C R u i b ≤ BR false (trc C R u) (i + 1) (b + 1) ∧ trc C R u i b = trc C R w i b + vL m b i - vL m b (i + 1) ∧ 0 ≤ trc C R w i b :=
  fun i _ hi => ⟨(bf_x i b).1, (h.c hi hb).1.1, (h.w0 i b).1⟩
theorem Lv3.cu {C R : Nat} {m w u : Nat → Nat → Int} (h : Lv3 C R m w u) {x : Nat} (hx : x < C) (j0 : Nat) : ∀ j, j0 ≤ j → j < R → BR false (trc C R u) (x + 1) j + trc C R u x j ≤ BR false (trc C R u) (x + 1) (j + 1) ∧ trc C R u x j = trc C R w x j + (fun j => - hL m x j) j - (fun j => - hL m x j) (j + 1) ∧ 0 ≤ trc C R w x j :=
  fun j _ hj => ⟨(bf_x x j).2.1, by show trc C R u x j = trc C R w x j + - hL m x j - - hL m x (j + 1); have := (h.c hx hj).1.2; omega, (h.w0 x j).1⟩
theorem Lv3.rw {C R : Nat} {m w u : Nat → Nat → Int} (h : Lv3 C R m w u) {b : Nat} (hb : b < R) (i0 : Nat) : ∀ i, i0 ≤ i → i < C → BR false (trc C R w) i (b + 1) + trc C R w i b ≤ BR false (trc C R w) (i + 1) (b + 1) ∧ trc C R w i b = trc C R u i b + (fun i => - vL m b i) i - (fun i => - vL m b i) (i + 1) ∧ 0 ≤ trc C R u i b :=
  fun i _ hi => ⟨(bf_x i b).1, by show trc C R w i b = trc C R u i b + - vL m b i - - vL m b (i + 1); have := (h.c hi hb).1.1; omega, (h.w0 i b).2⟩
theorem Lv3.cw {C R : Nat} {m w u : Nat → Nat → Int} (h : Lv3 C R m w u) {x : Nat} (hx : x < C) (j0 : Nat) : ∀ j, j0 ≤ j → j < R → BR false (trc C R w) (x + 1) j + trc C R w x j ≤ BR false (trc C R w) (x + 1) (j + 1) ∧ trc C R w x j = trc C R u x j + hL m x j - hL m x (j + 1) ∧ 0 ≤ trc C R u x j :=
  fun j _ hj => ⟨(bf_x x j).2.1, by have := (h.c hx hj).1.2; omega, (h.w0 x j).2⟩
/-- the cell ahead of one in a best row -/
theorem bf_p {V : Nat → Nat → Int} (hV : ∀ x y, 0 ≤ V x y) (a b : Nat) : BR false V (a + 1) (b + 1) = V a b ∨ ∃ a' b', a' ≤ a ∧ b' ≤ b ∧ (a' < a ∨ b' < b) ∧ 0 < V a' b' ∧ BR false V (a + 1) (b + 1) = BR false V (a' + 1) (b' + 1) + V a b := by
  obtain ⟨h1, h2, h3⟩ := bf_x (V := V) a b
  obtain h3 | h3 := h3
  · obtain e | ⟨a', b', q1, q2, q3, q4⟩ := bv_f hV a (b + 1)
    · exact Or.inl (by omega)
    · exact Or.inr ⟨a', b', by omega, by omega, Or.inl q1, q3, by omega⟩
  · obtain e | ⟨a', b', q1, q2, q3, q4⟩ := bv_f hV (a + 1) b
    · exact Or.inl (by omega)
    · exact Or.inr ⟨a', b', by omega, by omega, Or.inr q2, q3, by omega⟩
/-- what is left brings no less than one less -/
theorem lv3_A {C R : Nat} {m w u : Nat → Nat → Int} (h : Lv3 C R m w u) : ∀ n a b, a + b ≤ n → a < C → b < R → 0 < trc C R w a b → BR false (trc C R w) (a + 1) (b + 1) ≤ BR false (trc C R u) (a + 1) (b + 1) + vL m b (a + 1) := by
  intro n
  induction n with
  | zero =>
    intro a b hn ha hb hp
    have hw : ∀ x y, 0 ≤ trc C R w x y := fun x y => (h.w0 x y).1
    have hu : ∀ x y, 0 ≤ trc C R u x y := fun x y => (h.w0 x y).2
    obtain ⟨⟨c1, c2⟩, c3, c4, c5, c6⟩ := h.c ha hb
    have b0 := bv_0 (st := false) hu a (b + 1)
    have b1 := (bf_x (V := trc C R u) a b).1
    have c4 := c4 hp
    obtain e | ⟨a', b', q1, q2, q3, q4, q5⟩ := bf_p hw a b
    · omega
    · omega
  | succ n ih =>
    intro a b hn ha hb hp
    have hw : ∀ x y, 0 ≤ trc C R w x y := fun x y => (h.w0 x y).1
    have hu : ∀ x y, 0 ≤ trc C R u x y := fun x y => (h.w0 x y).2
    obtain ⟨⟨c1, c2⟩, c3, c4, c5, c6⟩ := h.c ha hb
    have b0 := bv_0 (st := false) hu a (b + 1)
    have b1 := (bf_x (V := trc C R u) a b).1
    have c4 := c4 hp
    obtain e | ⟨a', b', q1, q2, q3, q4, q5⟩ := bf_p hw a b
    · omega
    · have i1 := ih a' b' (by omega) (by omega) (by omega) q4
      have r1 := gl_to (h.ru (show b' < R by omega) (a' + 1)) (show a' + 1 ≤ a + 1 by omega) (by omega)
      by_cases c : b' = b
      · subst c
        have r2 := gl_in (h.ru hb (a' + 1)) (show a' + 1 ≤ a by omega) ha
        omega
      · have r2 := gl_in (h.cu ha (b' + 1)) (show b' + 1 ≤ b by omega) hb
        have c7 := (h.c ha (show b' < R by omega)).2.1
        have r3 : BR false (trc C R u) (a + 1) (b' + 1) + - hL m a (b' + 1) + trc C R w a b - - hL m a (b + 1) ≤ BR false (trc C R u) (a + 1) (b + 1) := r2
        omega
/-- and no more -/
theorem lv3_B {C R : Nat} {m w u : Nat → Nat → Int} (h : Lv3 C R m w u) : ∀ n a b, a + b ≤ n → a < C → b < R → 0 < trc C R u a b → BR false (trc C R u) (a + 1) (b + 1) + vL m b (a + 1) ≤ BR false (trc C R w) (a + 1) (b + 1) := by
  intro n
  have hw : ∀ x y, 0 ≤ trc C R w x y := fun x y => (h.w0 x y).1
  have hu : ∀ x y, 0 ≤ trc C R u x y := fun x y => (h.w0 x y).2
  have base : ∀ a b, a < C → b < R → trc C R u a b + vL m b (a + 1) ≤ BR false (trc C R w) (a + 1) (b + 1) := fun a b ha hb => by
    have r2 : BR false (trc C R w) 0 (b + 1) + - vL m b 0 + trc C R u a b - - vL m b (a + 1) ≤ BR false (trc C R w) (a + 1) (b + 1) := gl_in (h.rw hb 0) (Nat.zero_le a) ha
    have z : vL m b 0 = 0 := by unfold vL; rw [h.1, h.1]; rfl
    have z2 : BR false (trc C R w) 0 (b + 1) = 0 := rfl
    omega
  induction n with
  | zero =>
    intro a b hn ha hb hp
    have b1 := base a b ha hb
    obtain e | ⟨a', b', q1, q2, q3, q4, q5⟩ := bf_p hu a b
    · omega
    · omega
  | succ n ih =>
    intro a b hn ha hb hp
    have b1 := base a b ha hb
    obtain ⟨⟨c1, c2⟩, c3, c4, c5, c6⟩ := h.c ha hb
    have c5 := c5 hp
    obtain e | ⟨a', b', q1, q2, q3, q4, q5⟩ := bf_p hu a b
    · omega
    · have i1 := ih a' b' (by omega) (by omega) (by omega) q4
      have d5 := (h.c (show a' < C by omega) (show b' < R by omega)).2.2.2.1 q4
      by_cases c : b' = b
      · subst c
        have r2 : BR false (trc C R w) (a' + 1) (b' + 1) + - vL m b' (a' + 1) + trc C R u a b' - - vL m b' (a + 1) ≤ BR false (trc C R w) (a + 1) (b' + 1) := gl_in (h.rw hb (a' + 1)) (show a' + 1 ≤ a by omega) ha
        omega
      · by_cases d : a' = a
        · subst d
          have r2 := gl_in (h.cw ha (b' + 1)) (show b' + 1 ≤ b by omega) hb
          omega
        · have r1 := gl_to (h.cw (show a' < C by omega) (b' + 1)) (show b' + 1 ≤ b + 1 by omega) (by omega)
          have r2 : BR false (trc C R w) (a' + 1) (b + 1) + - vL m b (a' + 1) + trc C R u a b - - vL m b (a + 1) ≤ BR false (trc C R w) (a + 1) (b + 1) := gl_in (h.rw hb (a' + 1)) (show a' + 1 ≤ a by omega) ha
          have c7 := (h.c (show a' < C by omega) hb).2.1
          omega
/-- the best falling row falls by one from PART to PART -/
theorem lv3_step {C R : Nat} {m w u : Nat → Nat → Int} (h : Lv3 C R m w u) (hn : ∃ x b, x < C ∧ b < R ∧ 0 < w x b) : BR false (trc C R w) C R = BR false (trc C R u) C R + 1 := by
  have hw : ∀ x y, 0 ≤ trc C R w x y := fun x y => (h.w0 x y).1
  have hu : ∀ x y, 0 ≤ trc C R u x y := fun x y => (h.w0 x y).2
  have nu := bv_0 (st := false) hu C R
  obtain ⟨x0, y0, n1, n2, n3⟩ := hn
  have one : 1 ≤ BR false (trc C R w) C R := by
    have e1 := (bf_x (V := trc C R w) x0 y0).1
    have e2 := bv_0 (st := false) hw x0 (y0 + 1)
    have e3 := bv_mm (st := false) hw (show x0 + 1 ≤ C by omega) (show y0 + 1 ≤ R by omega)
    rw [trc_i n1 n2] at e1
    omega
  have g1 : BR false (trc C R w) C R - 1 ≤ BR false (trc C R u) C R := by
    obtain e | ⟨a, b, q1, q2, q3, q4⟩ := bv_f hw C R
    · omega
    · have e1 := lv3_A h (a + b) a b (Nat.le_refl _) q1 q2 q3
      have e2 := bv_mm (st := false) hu (show a + 1 ≤ C by omega) (show b + 1 ≤ R by omega)
      obtain ⟨⟨c1, c2⟩, c3, c4, c5, c6⟩ := h.c q1 q2
      omega
  have g2 : BR false (trc C R u) C R + 1 ≤ BR false (trc C R w) C R := by
    obtain e | ⟨a, b, q1, q2, q3, q4⟩ := bv_f hu C R
    · omega
    · have e1 := lv3_B h (a + b) a b (Nat.le_refl _) q1 q2 q3
      have c5 := (h.c q1 q2).2.2.2.1 q3
      have r1 := gl_to (h.cw q1 (b + 1)) (show b + 1 ≤ R by omega) (Nat.le_refl R)
      have z : hL m a R = 0 := by unfold hL; rw [h.2.1, h.2.1]; rfl
      have e2 := bv_mm (st := false) hw (show a + 1 ≤ C by omega) (Nat.le_refl R)
      omega
  omega
theorem lv3_z {C R : Nat} {m w u : Nat → Nat → Int} (h : Lv3 C R m w u) (hn : ¬ ∃ x b, x < C ∧ b < R ∧ 0 < w x b) : BR false (trc C R w) C R = 0 := by
  have hw : ∀ x y, 0 ≤ trc C R w x y := fun x y => (h.w0 x y).1
  obtain e | ⟨a, b, q1, q2, q3, q4⟩ := bv_f hw C R
  · exact e
  · exact absurd ⟨a, b, trc_p q3⟩ hn

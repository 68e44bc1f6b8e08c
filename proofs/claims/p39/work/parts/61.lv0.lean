/-! one PART of growth by RULE 0, rows of corners told from the top: m is what the corners have there, w what comes to each cell, u what it leaves -/
def Lv0 (C R : Nat) (m w u : Nat → Nat → Int) : Prop := (∀ b, m 0 b = 0) ∧ (∀ x, m x R = 0) ∧ ∀ x b, x < C → b < R → 0 ≤ w x b ∧ 0 ≤ u x b ∧ m (x + 1) b = mx (m x b) (m (x + 1) (b + 1)) + w x b ∧ u x b = lo (m x b) (m (x + 1) (b + 1)) - m x (b + 1)
theorem Lv0.c {C R : Nat} {m w u : Nat → Nat → Int} (h : Lv0 C R m w u) {x b : Nat} (hx : x < C) (hb : b < R) :
    m x (b + 1) ≤ m x b ∧ m x (b + 1) ≤ m (x + 1) (b + 1) ∧ m x b + w x b ≤ m (x + 1) b ∧ m (x + 1) (b + 1) + w x b ≤ m (x + 1) b ∧ 0 ≤ w x b ∧ (m x (b + 1) < m x b → m x (b + 1) < m (x + 1) (b + 1) → 0 < u x b) ∧ (0 < u x b → m x (b + 1) < m x b ∧ m x (b + 1) < m (x + 1) (b + 1)) ∧ (m x b < m (x + 1) b → m (x + 1) (b + 1) < m (x + 1) b → 0 < w x b) := by
  obtain ⟨h1, h2, h3, h4⟩ := h.2.2 x b hx hb
  have m1 := mx_c (m x b) (m (x + 1) (b + 1))
  have l1 := lo_c (m x b) (m (x + 1) (b + 1))
  refine ⟨by omega, by omega, by omega, by omega, h1, fun a c => by omega, fun a => by omega, fun a c => by omega⟩
theorem lv_vr {C R : Nat} {m w u : Nat → Nat → Int} (h : Lv0 C R m w u) {x b : Nat} (hb : b < R) (hs : m x (b + 1) < m x b) : ∀ d, x + d ≤ C → (∃ i, x ≤ i ∧ i < x + d ∧ 0 < u i b) ∨ m (x + d) (b + 1) < m (x + d) b
  | 0, _ => Or.inr hs
  | d + 1, hd => by
    obtain ⟨i, a1, a2, a3⟩ | h1 := lv_vr h hb hs d (by omega)
    · exact Or.inl ⟨i, a1, by omega, a3⟩
    · obtain ⟨c1, c2, c3, c4, c5, c6, c7, c8⟩ := h.c (show x + d < C by omega) hb
      by_cases e : m (x + d) (b + 1) < m (x + d + 1) (b + 1)
      · exact Or.inl ⟨x + d, by omega, by omega, c6 h1 e⟩
      · exact Or.inr (by show m (x + d + 1) (b + 1) < m (x + d + 1) b; omega)
theorem lv_hu {C R : Nat} {m w u : Nat → Nat → Int} (h : Lv0 C R m w u) {x j : Nat} (hx : x < C) (hj : j ≤ R) (hs : m x j < m (x + 1) j) : ∀ d, d ≤ j → (∃ i, j - d ≤ i ∧ i < j ∧ 0 < u x i) ∨ m x (j - d) < m (x + 1) (j - d)
  | 0, _ => Or.inr hs
  | d + 1, hd => by
    obtain ⟨i, a1, a2, a3⟩ | h1 := lv_hu h hx hj hs d (by omega)
    · exact Or.inl ⟨i, by omega, by omega, a3⟩
    · obtain ⟨c1, c2, c3, c4, c5, c6, c7, c8⟩ := h.c hx (show j - (d + 1) < R by omega)
      rw [show j - (d + 1) + 1 = j - d by omega] at c1 c2 c4 c6 c7 c8
      by_cases e : m x (j - d) < m x (j - (d + 1))
      · exact Or.inl ⟨j - (d + 1), by omega, by omega, c6 e h1⟩
      · exact Or.inr (by omega)
theorem lv_hd {C R : Nat} {m w u : Nat → Nat → Int} (h : Lv0 C R m w u) {x j : Nat} (hx : x < C) (hs : m x j < m (x + 1) j) : ∀ d, j + d ≤ R → (∃ i, j ≤ i ∧ i < j + d ∧ 0 < w x i) ∨ m x (j + d) < m (x + 1) (j + d)
  | 0, _ => Or.inr hs
  | d + 1, hd => by
    obtain ⟨i, a1, a2, a3⟩ | h1 := lv_hd h hx hs d (by omega)
    · exact Or.inl ⟨i, a1, by omega, a3⟩
    · obtain ⟨c1, c2, c3, c4, c5, c6, c7, c8⟩ := h.c hx (show j + d < R by omega)
      by_cases e : m (x + 1) (j + d + 1) < m (x + 1) (j + d)
      · exact Or.inl ⟨j + d, by omega, by omega, c8 h1 e⟩
      · exact Or.inr (by show m x (j + d + 1) < m (x + 1) (j + d + 1); omega)
theorem lv_vl {C R : Nat} {m w u : Nat → Nat → Int} (h : Lv0 C R m w u) {x b : Nat} (hx : x ≤ C) (hb : b < R) (hs : m x (b + 1) < m x b) : ∀ d, d ≤ x → (∃ i, x - d ≤ i ∧ i < x ∧ 0 < w i b) ∨ m (x - d) (b + 1) < m (x - d) b
  | 0, _ => Or.inr hs
  | d + 1, hd => by
    obtain ⟨i, a1, a2, a3⟩ | h1 := lv_vl h hx hb hs d (by omega)
    · exact Or.inl ⟨i, by omega, by omega, a3⟩
    · obtain ⟨c1, c2, c3, c4, c5, c6, c7, c8⟩ := h.c (show x - (d + 1) < C by omega) hb
      rw [show x - (d + 1) + 1 = x - d by omega] at c2 c3 c4 c6 c7 c8
      by_cases e : m (x - (d + 1)) b < m (x - d) b
      · exact Or.inl ⟨x - (d + 1), by omega, by omega, c8 e h1⟩
      · exact Or.inr (by omega)
/-- between two cells that something comes to, one that leaves something -/
theorem lv_b1 {C R : Nat} {m w u : Nat → Nat → Int} (h : Lv0 C R m w u) {a1 b1 a0 b0 : Nat} (ha : a1 < a0) (hb : b1 < b0) (h1 : a0 < C) (h2 : b0 < R) (hp : 0 < w a1 b1) (hq : 0 < w a0 b0) : ∃ x b, a1 < x ∧ x ≤ a0 ∧ b1 ≤ b ∧ b < b0 ∧ 0 < u x b := by
  obtain ⟨c1, c2, c3, c4, c5, c6, c7, c8⟩ := h.c (show a1 < C by omega) (show b1 < R by omega)
  obtain ⟨d1, d2, d3, d4, d5, d6, d7, d8⟩ := h.c h1 h2
  obtain ⟨i, e1, e2, e3⟩ | v1 := lv_vr h (show b1 < R by omega) (show m (a1 + 1) (b1 + 1) < m (a1 + 1) b1 by omega) (a0 - (a1 + 1)) (by omega)
  · exact ⟨i, b1, by omega, by omega, Nat.le_refl _, hb, e3⟩
  · obtain ⟨i, e1, e2, e3⟩ | v2 := lv_hu h h1 (show b0 ≤ R by omega) (show m a0 b0 < m (a0 + 1) b0 by omega) (b0 - (b1 + 1)) (by omega)
    · exact ⟨a0, i, ha, Nat.le_refl _, by omega, e2, e3⟩
    · rw [show a1 + 1 + (a0 - (a1 + 1)) = a0 by omega] at v1
      rw [show b0 - (b0 - (b1 + 1)) = b1 + 1 by omega] at v2
      exact ⟨a0, b1, ha, Nat.le_refl _, Nat.le_refl _, hb, (h.c h1 (show b1 < R by omega)).2.2.2.2.2.1 v1 v2⟩
/-- between two cells that leave something, one that something comes to -/
theorem lv_b2 {C R : Nat} {m w u : Nat → Nat → Int} (h : Lv0 C R m w u) {a1 b1 a0 b0 : Nat} (ha : a1 < a0) (hb : b1 < b0) (h1 : a0 < C) (h2 : b0 < R) (hp : 0 < u a1 b1) (hq : 0 < u a0 b0) : ∃ x b, a1 ≤ x ∧ x < a0 ∧ b1 < b ∧ b ≤ b0 ∧ 0 < w x b := by
  obtain ⟨c1, c2, c3, c4, c5, c6, c7, c8⟩ := h.c (show a1 < C by omega) (show b1 < R by omega)
  obtain ⟨d1, d2, d3, d4, d5, d6, d7, d8⟩ := h.c h1 h2
  obtain ⟨i, e1, e2, e3⟩ | v1 := lv_hd h (show a1 < C by omega) (c7 hp).2 (b0 - (b1 + 1)) (by omega)
  · exact ⟨a1, i, Nat.le_refl _, ha, by omega, by omega, e3⟩
  · obtain ⟨i, e1, e2, e3⟩ | v2 := lv_vl h (show a0 ≤ C by omega) h2 (d7 hq).1 (a0 - (a1 + 1)) (by omega)
    · exact ⟨i, b0, by omega, e2, hb, Nat.le_refl _, e3⟩
    · rw [show b1 + 1 + (b0 - (b1 + 1)) = b0 by omega] at v1
      rw [show a0 - (a0 - (a1 + 1)) = a1 + 1 by omega] at v2
      exact ⟨a1, b0, Nat.le_refl _, ha, hb, Nat.le_refl _, (h.c (show a1 < C by omega) h2).2.2.2.2.2.2.2 v1 v2⟩
theorem lv_el {C R : Nat} {m w u : Nat → Nat → Int} (h : Lv0 C R m w u) {a b : Nat} (ha : a < C) (hb : b < R) (hp : 0 < u a b) : ∃ i, i < a ∧ 0 < w i b := by
  obtain ⟨i, e1, e2, e3⟩ | v1 := lv_vl h (Nat.le_of_lt ha) hb ((h.c ha hb).2.2.2.2.2.2.1 hp).1 a (Nat.le_refl _)
  · exact ⟨i, e2, e3⟩
  · rw [Nat.sub_self, h.1, h.1] at v1
    exact absurd v1 (by omega)
theorem lv_eb {C R : Nat} {m w u : Nat → Nat → Int} (h : Lv0 C R m w u) {a b : Nat} (ha : a < C) (hb : b < R) (hp : 0 < u a b) : ∃ i, b < i ∧ i < R ∧ 0 < w a i := by
  obtain ⟨i, e1, e2, e3⟩ | v1 := lv_hd h ha ((h.c ha hb).2.2.2.2.2.2.1 hp).2 (R - (b + 1)) (by omega)
  · exact ⟨i, by omega, by omega, e3⟩
  · rw [show b + 1 + (R - (b + 1)) = R by omega, h.2.1, h.2.1] at v1
    exact absurd v1 (by omega)
def sup1 (C R : Nat) (w : Nat → Nat → Int) (x b : Nat) : Int := if x < C ∧ b < R ∧ 0 < w x b then 1 else 0
theorem sup1_b (C R : Nat) (w : Nat → Nat → Int) (x b : Nat) : sup1 C R w x b = 0 ∨ sup1 C R w x b = 1 := by
  unfold sup1
  split <;> omega
theorem sup1_i {C R : Nat} {w : Nat → Nat → Int} {x b : Nat} (h : sup1 C R w x b = 1) : x < C ∧ b < R ∧ 0 < w x b := by
  unfold sup1 at h
  by_cases c : x < C ∧ b < R ∧ 0 < w x b
  · exact c
  · rw [if_neg c] at h
    omega
theorem sup1_p {C R : Nat} {w : Nat → Nat → Int} {x b : Nat} (h : x < C ∧ b < R ∧ 0 < w x b) : sup1 C R w x b = 1 := if_pos h
theorem lv_chA {C R : Nat} {m w u : Nat → Nat → Int} (h : Lv0 C R m w u) : ∀ n a b, sup1 C R w a b = 1 → hCh (fun a b => sup1 C R w a b = 1) n a b → hCh (fun a b => sup1 C R u a b = 1) n (a + 1) b
  | 0, _, _, _, _ => trivial
  | n + 1, a, b, hs, ⟨a1, b1, q1, q2, q3, q4⟩ => by
    have ih := lv_chA h n a1 b1 q3 q4
    have s1 := sup1_i hs
    have s2 := sup1_i q3
    obtain ⟨x, y, e1, e2, e3, e4, e5⟩ := lv_b1 h q1 q2 s1.1 s1.2.1 s2.2.2 s1.2.2
    exact ⟨x, y, by omega, e4, sup1_p ⟨by omega, by omega, e5⟩, hCh_m ih (by omega) e3⟩
theorem lv_chB {C R : Nat} {m w u : Nat → Nat → Int} (h : Lv0 C R m w u) : ∀ n a b, sup1 C R u a b = 1 → hCh (fun a b => sup1 C R u a b = 1) n a b → hCh (fun a b => sup1 C R w a b = 1) (n + 1) a (b + 1)
  | 0, a, b, hs, _ => by
    have s1 := sup1_i hs
    obtain ⟨i, e1, e2⟩ := lv_el h s1.1 s1.2.1 s1.2.2
    exact ⟨i, b, e1, by omega, sup1_p ⟨by omega, s1.2.1, e2⟩, trivial⟩
  | n + 1, a, b, hs, ⟨a1, b1, q1, q2, q3, q4⟩ => by
    have ih := lv_chB h n a1 b1 q3 q4
    have s1 := sup1_i hs
    have s2 := sup1_i q3
    obtain ⟨x, y, e1, e2, e3, e4, e5⟩ := lv_b2 h q1 q2 s1.1 s1.2.1 s2.2.2 s1.2.2
    exact ⟨x, y, e2, by omega, sup1_p ⟨by omega, by omega, e5⟩, hCh_m ih e1 (by omega)⟩
/-- the densest row falls by one from PART to PART -/
theorem lv0_step {C R : Nat} {m w u : Nat → Nat → Int} (h : Lv0 C R m w u) (hn : ∃ x b, x < C ∧ b < R ∧ 0 < w x b) : BR true (sup1 C R w) C R = BR true (sup1 C R u) C R + 1 := by
  have bw := hCh_b (sup1_b C R w)
  have bu := hCh_b (sup1_b C R u)
  have nw : 0 ≤ BR true (sup1 C R w) C R := (bw 0 C R).1 trivial
  have nu : 0 ≤ BR true (sup1 C R u) C R := (bu 0 C R).1 trivial
  obtain ⟨k, hk⟩ : ∃ k : Nat, BR true (sup1 C R u) C R = k := ⟨_, (Int.toNat_of_nonneg nu).symm⟩
  obtain ⟨l, hl⟩ : ∃ l : Nat, BR true (sup1 C R w) C R = l := ⟨_, (Int.toNat_of_nonneg nw).symm⟩
  have g1 : ((k + 1 : Nat) : Int) ≤ BR true (sup1 C R w) C R := by
    refine (bw _ _ _).1 ?_
    have hc := (bu k C R).2 (by omega)
    cases k with
    | zero =>
      obtain ⟨x, b, h1, h2, h3⟩ := hn
      exact ⟨x, b, h1, h2, sup1_p ⟨h1, h2, h3⟩, trivial⟩
    | succ k =>
      obtain ⟨a, b, q1, q2, q3, q4⟩ := hc
      have s1 := sup1_i q3
      obtain ⟨i, e1, e2, e3⟩ := lv_eb h q1 q2 s1.2.2
      exact ⟨a, i, q1, e2, sup1_p ⟨q1, e2, e3⟩, hCh_m (lv_chB h k a b q3 q4) (Nat.le_refl _) (by omega)⟩
  have g2 : (l : Int) - 1 ≤ BR true (sup1 C R u) C R := by
    have hc := (bw l C R).2 (by omega)
    cases l with
    | zero => omega
    | succ l =>
      obtain ⟨a, b, q1, q2, q3, q4⟩ := hc
      have := (bu l C R).1 (hCh_m (lv_chA h l a b q3 q4) (by omega) (by omega))
      omega
  omega
theorem lv0_z {C R : Nat} {w : Nat → Nat → Int} (hn : ¬ ∃ x b, x < C ∧ b < R ∧ 0 < w x b) : BR true (sup1 C R w) C R = 0 := by
  have nw : 0 ≤ BR true (sup1 C R w) C R := (hCh_b (sup1_b C R w) 0 C R).1 trivial
  by_cases c : BR true (sup1 C R w) C R = 0
  · exact c
  · obtain ⟨a, b, q1, q2, q3, q4⟩ := (hCh_b (sup1_b C R w) 1 C R).2 (by show (1 : Int) ≤ _; omega)
    exact absurd ⟨a, b, sup1_i q3⟩ hn

/-! counting, and the order of corners -/
theorem nb_t {P : Nat → Prop} {n : Nat} (h : P n) : nb P (n + 1) = nb P n + 1 := by
  show nb P n + @ite Nat (P n) (Classical.propDecidable (P n)) 1 0 = _
  rw [if_pos h]
theorem nb_f {P : Nat → Prop} {n : Nat} (h : ¬ P n) : nb P (n + 1) = nb P n := by
  show nb P n + @ite Nat (P n) (Classical.propDecidable (P n)) 1 0 = _
  rw [if_neg h]
  rfl
theorem nb_le {P Q : Nat → Prop} : ∀ n, (∀ k, k < n → P k → Q k) → nb P n ≤ nb Q n
  | 0, _ => Nat.le_refl _
  | n + 1, h => by
    have ih := nb_le n (fun k hk => h k (by omega))
    by_cases p : P n
    · rw [nb_t p, nb_t (h n (by omega) p)]; omega
    · rw [nb_f p]
      by_cases q : Q n
      · rw [nb_t q]; omega
      · rw [nb_f q]; exact ih
theorem nb_c {P Q : Nat → Prop} {n : Nat} (h : ∀ k, k < n → (P k ↔ Q k)) : nb P n = nb Q n :=
  Nat.le_antisymm (nb_le n (fun k hk => (h k hk).1)) (nb_le n (fun k hk => (h k hk).2))
theorem nb_n (P : Nat → Prop) : ∀ n, nb P n ≤ n
  | 0 => Nat.le_refl _
  | n + 1 => by
    have ih := nb_n P n
    by_cases p : P n
    · rw [nb_t p]; omega
    · rw [nb_f p]; omega
theorem nb_lt {P Q : Nat → Prop} {b : Nat} : ∀ n, (∀ k, k < n → P k → Q k) → b < n → Q b → ¬ P b → nb P n < nb Q n
  | 0, _, hb, _, _ => absurd hb (by omega)
  | n + 1, h, hb, q, p => by
    by_cases e : b = n
    · subst e
      rw [nb_t q, nb_f p]
      have := nb_le b (fun k hk => h k (by omega))
      omega
    · have ih := nb_lt n (fun k hk => h k (by omega)) (by omega) q p
      by_cases p' : P n
      · rw [nb_t p', nb_t (h n (by omega) p')]; omega
      · rw [nb_f p']
        by_cases q' : Q n
        · rw [nb_t q']; omega
        · rw [nb_f q']; exact ih
theorem nb_rm {P : Nat → Prop} {b : Nat} : ∀ m, b < m → P b → nb P m = nb (fun k => P k ∧ k ≠ b) m + 1
  | 0, hb, _ => absurd hb (by omega)
  | m + 1, hb, p => by
    by_cases e : b = m
    · subst e
      rw [nb_t p, nb_f (P := fun k => P k ∧ k ≠ b) (fun h => h.2 rfl)]
      rw [nb_c (P := P) (Q := fun k => P k ∧ k ≠ b) (fun k hk => ⟨fun h => ⟨h, by omega⟩, fun h => h.1⟩)]
    · have ih := nb_rm m (by omega) p
      by_cases q : P m
      · rw [nb_t q, nb_t (P := fun k => P k ∧ k ≠ b) ⟨q, fun h => e h.symm⟩, ih]
      · rw [nb_f q, nb_f (P := fun k => P k ∧ k ≠ b) (fun h => q h.1), ih]
theorem nb_inj {σ : Nat → Nat} {m : Nat} : ∀ n (P : Nat → Prop), (∀ j, j < n → σ j < m) → (∀ i j, i < n → j < n → σ i = σ j → i = j) → nb (fun k => P (σ k)) n ≤ nb P m
  | 0, _, _, _ => Nat.zero_le _
  | n + 1, P, h1, h2 => by
    by_cases p : P (σ n)
    · have ih := nb_inj n (fun k => P k ∧ k ≠ σ n) (fun j hj => h1 j (by omega)) (fun i j hi hj => h2 i j (by omega) (by omega))
      rw [nb_t (P := fun k => P (σ k)) p, nb_rm m (h1 n (by omega)) p]
      rw [nb_c (P := fun k => P (σ k)) (Q := fun k => P (σ k) ∧ σ k ≠ σ n) (fun k hk => ⟨fun h => ⟨h, fun e => by have := h2 k n (by omega) (by omega) e; omega⟩, fun h => h.1⟩)]
      omega
    · rw [nb_f (P := fun k => P (σ k)) p]
      exact nb_inj n P (fun j hj => h1 j (by omega)) (fun i j hi hj => h2 i j (by omega) (by omega))
theorem nb_not (P : Nat → Prop) : ∀ n, nb P n + nb (fun k => ¬ P k) n = n
  | 0 => rfl
  | n + 1 => by
    have ih := nb_not P n
    by_cases p : P n
    · rw [nb_t p, nb_f (P := fun k => ¬ P k) (fun h => h p)]; omega
    · rw [nb_f p, nb_t (P := fun k => ¬ P k) p]; omega
theorem nb_perm {σ : Nat → Nat} {n : Nat} (P : Nat → Prop) (h1 : ∀ j, j < n → σ j < n) (h2 : ∀ i j, i < n → j < n → σ i = σ j → i = j) : nb (fun k => P (σ k)) n = nb P n := by
  have a := nb_inj n P h1 h2
  have b := nb_inj n (fun k => ¬ P k) h1 h2
  have c := nb_not P n
  have d := nb_not (fun k => P (σ k)) n
  omega
theorem nb_pos {P : Nat → Prop} {b : Nat} {n : Nat} (hb : b < n) (p : P b) : 0 < nb P n := by
  have := nb_rm n hb p
  omega
theorem nb_ex {P : Nat → Prop} : ∀ n, 0 < nb P n → ∃ b, b < n ∧ P b ∧ ∀ k, b < k → k < n → ¬ P k
  | 0, h => absurd h (Nat.lt_irrefl 0)
  | n + 1, h => by
    by_cases p : P n
    · exact ⟨n, by omega, p, fun k h1 h2 => by omega⟩
    · rw [nb_f p] at h
      obtain ⟨b, h1, h2, h3⟩ := nb_ex n h
      refine ⟨b, by omega, h2, fun k h4 h5 => ?_⟩
      by_cases e : k = n
      · subst e; exact p
      · exact h3 k h4 (by omega)
theorem nb_cut {P : Nat → Prop} {a : Nat} : ∀ d, (∀ k, a ≤ k → k < a + d → ¬ P k) → nb P (a + d) = nb P a
  | 0, _ => rfl
  | d + 1, h => by
    rw [show a + (d + 1) = a + d + 1 by omega, nb_f (h (a + d) (by omega) (by omega))]
    exact nb_cut d (fun k h1 h2 => h k h1 (by omega))
theorem alike_e {s t : Nat → Int} (h : alike s t) : s = t := funext h
theorem alike_r (s : Nat → Int) : alike s s := fun _ => rfl
theorem big_n {s t : Nat → Int} (h : big s t) : ¬ alike s t := fun e => by
  rw [alike_e e] at h
  obtain h | ⟨-, k, h, -⟩ := h <;> omega
theorem big_a {s t : Nat → Int} (h : big s t) (h' : big t s) : False := by
  obtain h | ⟨h1, k, h2, h3⟩ := h <;> obtain g | ⟨g1, l, g2, g3⟩ := h'
  · omega
  · omega
  · omega
  · obtain c | c | c := Nat.lt_trichotomy k l
    · have := g3 k c; omega
    · subst c; omega
    · have := h3 l c; omega
theorem big_t {s t u : Nat → Int} (h : big s t) (h' : big t u) : big s u := by
  obtain h | ⟨h1, k, h2, h3⟩ := h <;> obtain g | ⟨g1, l, g2, g3⟩ := h'
  · exact Or.inl (by omega)
  · exact Or.inl (by omega)
  · exact Or.inl (by omega)
  · refine Or.inr ⟨by omega, ?_⟩
    obtain c | c | c := Nat.lt_trichotomy k l
    · exact ⟨k, by have := g3 k c; omega, fun j hj => (h3 j hj).trans (g3 j (by omega))⟩
    · subst c
      exact ⟨k, by omega, fun j hj => (h3 j hj).trans (g3 j hj)⟩
    · exact ⟨l, by have := h3 l c; omega, fun j hj => (h3 j (by omega)).trans (g3 j hj)⟩
theorem fst_diff {s t : Nat → Int} : ∀ n, (∀ j, j < n → s j = t j) ∨ ∃ k, k < n ∧ s k ≠ t k ∧ ∀ j, j < k → s j = t j
  | 0 => Or.inl (fun j h => absurd h (by omega))
  | n + 1 => by
    obtain h | ⟨k, h1, h2, h3⟩ := fst_diff (s := s) (t := t) n
    · by_cases e : s n = t n
      · refine Or.inl (fun j hj => ?_)
        by_cases f : j = n
        · subst f; exact e
        · exact h j (by omega)
      · exact Or.inr ⟨n, by omega, e, h⟩
    · exact Or.inr ⟨k, by omega, h2, h3⟩
theorem big_3 {s t : Nat → Int} {V W : Int} (hs : Gs s V) (ht : Gs t W) : alike s t ∨ big s t ∨ big t s := by
  by_cases c : tsum s 75 = tsum t 75
  · obtain h | ⟨k, h1, h2, h3⟩ := fst_diff (s := s) (t := t) 75
    · refine Or.inl (fun k => ?_)
      by_cases e : k < 75
      · exact h k e
      · rw [hs.z (by omega), ht.z (by omega)]
    · right
      by_cases e : t k < s k
      · exact Or.inl (Or.inr ⟨c, k, e, h3⟩)
      · exact Or.inr (Or.inr ⟨c.symm, k, by omega, fun j hj => (h3 j hj).symm⟩)
  · right
    by_cases e : tsum t 75 < tsum s 75
    · exact Or.inl (Or.inl e)
    · exact Or.inr (Or.inl (by omega))
theorem dm {x y n : Nat} (h : y < n) : (x * n + y) / n = x ∧ (x * n + y) % n = y := by
  rw [Nat.add_comm]
  refine ⟨?_, ?_⟩
  · rw [Nat.add_mul_div_right _ _ (by omega), Nat.div_eq_of_lt h, Nat.zero_add]
  · rw [Nat.add_mul_mod_self_right, Nat.mod_eq_of_lt h]
theorem nc_b {g : Gd} {i : Nat} (h : i < nc g) : i / nR g ≤ (g 0).toNat ∧ i % nR g ≤ (g 1).toNat := by
  have hn : 0 < nR g := Nat.succ_pos _
  have h1 : i / nR g < (g 0).toNat + 1 := (Nat.div_lt_iff_lt_mul hn).2 h
  have h2 : i % nR g < nR g := Nat.mod_lt _ hn
  unfold nR at *
  omega
theorem sh_G {g : Gd} (hv : GV g) {i : Nat} (h : i < nc g) : Gs (sh g i) (Wg g (i / nR g) (i % nR g)) := by
  have h1 := nc_b h
  have v1 := hv.1; have v2 := hv.2.1
  exact (Sg_ok hv (by omega) (by omega)).1
theorem bef_irr (g : Gd) (i : Nat) : ¬ bef g i i := fun h => by
  obtain h | ⟨-, h⟩ := h
  · exact big_n h (alike_r _)
  · omega
theorem bef_t {g : Gd} {a b c : Nat} (h : bef g a b) (h' : bef g b c) : bef g a c := by
  obtain h | ⟨h1, h2⟩ := h <;> obtain g | ⟨g1, g2⟩ := h'
  · exact Or.inl (big_t h g)
  · rw [alike_e g1] at h; exact Or.inl h
  · rw [← alike_e h1] at g; exact Or.inl g
  · exact Or.inr ⟨fun k => (h1 k).trans (g1 k), by omega⟩
theorem bef_3 {g : Gd} (hv : GV g) {a b : Nat} (ha : a < nc g) (hb : b < nc g) (hne : a ≠ b) : bef g a b ∨ bef g b a := by
  obtain h | h | h := big_3 (sh_G hv ha) (sh_G hv hb)
  · by_cases c : a < b
    · exact Or.inl (Or.inr ⟨h, c⟩)
    · exact Or.inr (Or.inr ⟨fun k => (h k).symm, by omega⟩)
  · exact Or.inl (Or.inl h)
  · exact Or.inr (Or.inl h)
theorem rk_lt {g : Gd} {m a b : Nat} (ha : a < m) (h : bef g a b) : rk g m a < rk g m b :=
  nb_lt m (fun k _ hk => bef_t hk h) ha h (bef_irr g a)
theorem rk_bef {g : Gd} (hv : GV g) {m a b : Nat} (hm : m ≤ nc g) (ha : a < m) (hb : b < m) (h : rk g m a < rk g m b) : bef g a b := by
  by_cases e : a = b
  · subst e; omega
  · obtain c | c := bef_3 hv (show a < nc g by omega) (show b < nc g by omega) e
    · exact c
    · have := rk_lt hb c; omega
theorem rk_inj {g : Gd} (hv : GV g) {m a b : Nat} (hm : m ≤ nc g) (ha : a < m) (hb : b < m) (h : rk g m a = rk g m b) : a = b := by
  by_cases e : a = b
  · exact e
  · obtain c | c := bef_3 hv (show a < nc g by omega) (show b < nc g by omega) e
    · have := rk_lt ha c; omega
    · have := rk_lt hb c; omega
theorem rk_n {g : Gd} {m a : Nat} (ha : a < m) : rk g m a < m := by
  have h1 := nb_lt (P := fun k => bef g k a) (Q := fun _ => True) m (fun _ _ _ => trivial) ha trivial (bef_irr g a)
  have h2 := nb_n (fun _ => True) m
  show nb _ m < m
  omega
/-- a corner put into the order -/
theorem ins_ok {g : Gd} (hv : GV g) {m p : Nat} {σ : Nat → Nat} (hm : m < nc g) (h : ∀ j, j < m → σ j < m ∧ rk g m (σ j) = j) (hp : p ≤ m) (h1 : 0 < p → bef g (σ (p - 1)) m) (h2 : ∀ j, p ≤ j → j < m → bef g m (σ j)) :
    ∀ j, j < m + 1 → (if j < p then σ j else if j = p then m else σ (j - 1)) < m + 1 ∧ rk g (m + 1) (if j < p then σ j else if j = p then m else σ (j - 1)) = j := by
  have lo' : ∀ j, j < p → bef g (σ j) m := fun j hj => by
    by_cases e : j = p - 1
    · subst e; exact h1 (by omega)
    · exact bef_t (rk_bef hv (by omega) (h j (by omega)).1 (h (p - 1) (by omega)).1 (by rw [(h j (by omega)).2, (h (p - 1) (by omega)).2]; omega)) (h1 (by omega))
  have no : ∀ a b, bef g a b → ¬ bef g b a := fun a b h h' => bef_irr g a (bef_t h h')
  have rs : ∀ i, bef g m i → rk g (m + 1) i = rk g m i + 1 := fun i hi => nb_t (P := fun k => bef g k i) hi
  have rf : ∀ i, ¬ bef g m i → rk g (m + 1) i = rk g m i := fun i hi => nb_f (P := fun k => bef g k i) hi
  intro j hj
  by_cases c1 : j < p
  · rw [if_pos c1]
    have := h j (by omega)
    exact ⟨by omega, by rw [rf _ (no _ _ (lo' j c1)), this.2]⟩
  · rw [if_neg c1]
    by_cases c2 : j = p
    · rw [if_pos c2]
      refine ⟨by omega, ?_⟩
      rw [rf _ (bef_irr g m), c2]
      have inj : ∀ a b, a < m → b < m → σ a = σ b → a = b := fun a b ha hb e => by
        have e1 := (h a ha).2
        have e2 := (h b hb).2
        rw [e] at e1
        omega
      have pp := nb_perm (n := m) (σ := σ) (fun k => bef g k m) (fun j hj => (h j hj).1) inj
      show nb (fun k => bef g k m) m = p
      have cut := nb_cut (P := fun k => bef g (σ k) m) (a := p) (m - p) (fun k h3 h4 => no _ _ (h2 k h3 (by omega)))
      rw [show p + (m - p) = m by omega] at cut
      rw [← pp, cut]
      have all : ∀ n, n ≤ p → nb (fun k => bef g (σ k) m) n = n := fun n => by
        induction n with
        | zero => exact fun _ => rfl
        | succ n ih =>
          intro hn
          rw [nb_t (P := fun k => bef g (σ k) m) (lo' n (by omega)), ih (by omega)]
      exact all p (Nat.le_refl _)
    · rw [if_neg c2]
      have := h (j - 1) (by omega)
      exact ⟨by omega, by rw [rs _ (h2 (j - 1) (by omega) (by omega)), this.2]; omega⟩

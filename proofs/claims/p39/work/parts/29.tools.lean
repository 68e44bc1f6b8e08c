/-! loops with an invariant, and two loops side by side -/
theorem wl1_inv {α0 ρ : Type} {body : α0 → (α0 → Option ρ) → Option ρ} {Q : Option ρ → Prop} (N : Nat) (Inv : Nat → α0 → Prop) {n : Nat} {a0 : α0} (hn : N < n) (h0 : Inv 0 a0) (step : ∀ i, i < N → ∀ s0, Inv i s0 → ∀ k, (∃ t0, Inv (i + 1) t0 ∧ body s0 k = k t0) ∨ Q (body s0 k)) (fin : ∀ s0, Inv N s0 → ∀ k, Q (body s0 k)) : Q (wl1 body n a0) := by
  have key : ∀ d i m s0, i + d = N → d < m → Inv i s0 → Q (wl1 body m s0) := by
    intro d
    induction d with
    | zero =>
      intro i m s0 hi hm h
      obtain ⟨m, rfl⟩ : ∃ q, m = q + 1 := ⟨m - 1, by omega⟩
      obtain rfl : i = N := by omega
      exact fin s0 h _
    | succ d ih =>
      intro i m s0 hi hm h
      obtain ⟨m, rfl⟩ : ∃ q, m = q + 1 := ⟨m - 1, by omega⟩
      show Q (body s0 (wl1 body m))
      obtain ⟨t0, h1, h2⟩ | h1 := step i (by omega) s0 h (wl1 body m)
      · rw [h2]
        exact ih (i + 1) m t0 (by omega) (by omega) h1
      · exact h1
  exact key N 0 n a0 (by omega) hn h0
theorem wl2_inv {α0 α1 ρ : Type} {body : α0 → α1 → (α0 → α1 → Option ρ) → Option ρ} {Q : Option ρ → Prop} (N : Nat) (Inv : Nat → α0 → α1 → Prop) {n : Nat} {a0 : α0} {a1 : α1} (hn : N < n) (h0 : Inv 0 a0 a1) (step : ∀ i, i < N → ∀ s0 s1, Inv i s0 s1 → ∀ k, (∃ t0 t1, Inv (i + 1) t0 t1 ∧ body s0 s1 k = k t0 t1) ∨ Q (body s0 s1 k)) (fin : ∀ s0 s1, Inv N s0 s1 → ∀ k, Q (body s0 s1 k)) : Q (wl2 body n a0 a1) := by
  have key : ∀ d i m s0 s1, i + d = N → d < m → Inv i s0 s1 → Q (wl2 body m s0 s1) := by
    intro d
    induction d with
    | zero =>
      intro i m s0 s1 hi hm h
      obtain ⟨m, rfl⟩ : ∃ q, m = q + 1 := ⟨m - 1, by omega⟩
      obtain rfl : i = N := by omega
      exact fin s0 s1 h _
    | succ d ih =>
      intro i m s0 s1 hi hm h
      obtain ⟨m, rfl⟩ : ∃ q, m = q + 1 := ⟨m - 1, by omega⟩
      show Q (body s0 s1 (wl2 body m))
      obtain ⟨t0, t1, h1, h2⟩ | h1 := step i (by omega) s0 s1 h (wl2 body m)
      · rw [h2]
        exact ih (i + 1) m t0 t1 (by omega) (by omega) h1
      · exact h1
  exact key N 0 n a0 a1 (by omega) hn h0
theorem wl3_inv {α0 α1 α2 ρ : Type} {body : α0 → α1 → α2 → (α0 → α1 → α2 → Option ρ) → Option ρ} {Q : Option ρ → Prop} (N : Nat) (Inv : Nat → α0 → α1 → α2 → Prop) {n : Nat} {a0 : α0} {a1 : α1} {a2 : α2} (hn : N < n) (h0 : Inv 0 a0 a1 a2) (step : ∀ i, i < N → ∀ s0 s1 s2, Inv i s0 s1 s2 → ∀ k, (∃ t0 t1 t2, Inv (i + 1) t0 t1 t2 ∧ body s0 s1 s2 k = k t0 t1 t2) ∨ Q (body s0 s1 s2 k)) (fin : ∀ s0 s1 s2, Inv N s0 s1 s2 → ∀ k, Q (body s0 s1 s2 k)) : Q (wl3 body n a0 a1 a2) := by
  have key : ∀ d i m s0 s1 s2, i + d = N → d < m → Inv i s0 s1 s2 → Q (wl3 body m s0 s1 s2) := by
    intro d
    induction d with
    | zero =>
      intro i m s0 s1 s2 hi hm h
      obtain ⟨m, rfl⟩ : ∃ q, m = q + 1 := ⟨m - 1, by omega⟩
      obtain rfl : i = N := by omega
      exact fin s0 s1 s2 h _
    | succ d ih =>
      intro i m s0 s1 s2 hi hm h
      obtain ⟨m, rfl⟩ : ∃ q, m = q + 1 := ⟨m - 1, by omega⟩
      show Q (body s0 s1 s2 (wl3 body m))
      obtain ⟨t0, t1, t2, h1, h2⟩ | h1 := step i (by omega) s0 s1 s2 h (wl3 body m)
      · rw [h2]
        exact ih (i + 1) m t0 t1 t2 (by omega) (by omega) h1
      · exact h1
  exact key N 0 n a0 a1 a2 (by omega) hn h0
theorem wl4_inv {α0 α1 α2 α3 ρ : Type} {body : α0 → α1 → α2 → α3 → (α0 → α1 → α2 → α3 → Option ρ) → Option ρ} {Q : Option ρ → Prop} (N : Nat) (Inv : Nat → α0 → α1 → α2 → α3 → Prop) {n : Nat} {a0 : α0} {a1 : α1} {a2 : α2} {a3 : α3} (hn : N < n) (h0 : Inv 0 a0 a1 a2 a3) (step : ∀ i, i < N → ∀ s0 s1 s2 s3, Inv i s0 s1 s2 s3 → ∀ k, (∃ t0 t1 t2 t3, Inv (i + 1) t0 t1 t2 t3 ∧ body s0 s1 s2 s3 k = k t0 t1 t2 t3) ∨ Q (body s0 s1 s2 s3 k)) (fin : ∀ s0 s1 s2 s3, Inv N s0 s1 s2 s3 → ∀ k, Q (body s0 s1 s2 s3 k)) : Q (wl4 body n a0 a1 a2 a3) := by
  have key : ∀ d i m s0 s1 s2 s3, i + d = N → d < m → Inv i s0 s1 s2 s3 → Q (wl4 body m s0 s1 s2 s3) := by
    intro d
    induction d with
    | zero =>
      intro i m s0 s1 s2 s3 hi hm h
      obtain ⟨m, rfl⟩ : ∃ q, m = q + 1 := ⟨m - 1, by omega⟩
      obtain rfl : i = N := by omega
      exact fin s0 s1 s2 s3 h _
    | succ d ih =>
      intro i m s0 s1 s2 s3 hi hm h
      obtain ⟨m, rfl⟩ : ∃ q, m = q + 1 := ⟨m - 1, by omega⟩
      show Q (body s0 s1 s2 s3 (wl4 body m))
      obtain ⟨t0, t1, t2, t3, h1, h2⟩ | h1 := step i (by omega) s0 s1 s2 s3 h (wl4 body m)
      · rw [h2]
        exact ih (i + 1) m t0 t1 t2 t3 (by omega) (by omega) h1
      · exact h1
  exact key N 0 n a0 a1 a2 a3 (by omega) hn h0
theorem wl5_inv {α0 α1 α2 α3 α4 ρ : Type} {body : α0 → α1 → α2 → α3 → α4 → (α0 → α1 → α2 → α3 → α4 → Option ρ) → Option ρ} {Q : Option ρ → Prop} (N : Nat) (Inv : Nat → α0 → α1 → α2 → α3 → α4 → Prop) {n : Nat} {a0 : α0} {a1 : α1} {a2 : α2} {a3 : α3} {a4 : α4} (hn : N < n) (h0 : Inv 0 a0 a1 a2 a3 a4) (step : ∀ i, i < N → ∀ s0 s1 s2 s3 s4, Inv i s0 s1 s2 s3 s4 → ∀ k, (∃ t0 t1 t2 t3 t4, Inv (i + 1) t0 t1 t2 t3 t4 ∧ body s0 s1 s2 s3 s4 k = k t0 t1 t2 t3 t4) ∨ Q (body s0 s1 s2 s3 s4 k)) (fin : ∀ s0 s1 s2 s3 s4, Inv N s0 s1 s2 s3 s4 → ∀ k, Q (body s0 s1 s2 s3 s4 k)) : Q (wl5 body n a0 a1 a2 a3 a4) := by
  have key : ∀ d i m s0 s1 s2 s3 s4, i + d = N → d < m → Inv i s0 s1 s2 s3 s4 → Q (wl5 body m s0 s1 s2 s3 s4) := by
    intro d
    induction d with
    | zero =>
      intro i m s0 s1 s2 s3 s4 hi hm h
      obtain ⟨m, rfl⟩ : ∃ q, m = q + 1 := ⟨m - 1, by omega⟩
      obtain rfl : i = N := by omega
      exact fin s0 s1 s2 s3 s4 h _
    | succ d ih =>
      intro i m s0 s1 s2 s3 s4 hi hm h
      obtain ⟨m, rfl⟩ : ∃ q, m = q + 1 := ⟨m - 1, by omega⟩
      show Q (body s0 s1 s2 s3 s4 (wl5 body m))
      obtain ⟨t0, t1, t2, t3, t4, h1, h2⟩ | h1 := step i (by omega) s0 s1 s2 s3 s4 h (wl5 body m)
      · rw [h2]
        exact ih (i + 1) m t0 t1 t2 t3 t4 (by omega) (by omega) h1
      · exact h1
  exact key N 0 n a0 a1 a2 a3 a4 (by omega) hn h0
/-! literals, not by rfl, so that simp looks after what decides them -/
theorem j_0 : (0 : Int32) = I 0 := Eq.trans i0 (Eq.refl (I 0))
theorem j_1 : (1 : Int32) = I 1 := Eq.trans i1 (Eq.refl (I 1))
theorem j_2 : (2 : Int32) = I 2 := Eq.trans i2 (Eq.refl (I 2))
theorem j_3 : (3 : Int32) = I 3 := Eq.trans i3 (Eq.refl (I 3))
theorem j_4 : (4 : Int32) = I 4 := Eq.trans i4 (Eq.refl (I 4))
theorem j_5 : (5 : Int32) = I 5 := Eq.trans i5 (Eq.refl (I 5))
theorem j_6 : (6 : Int32) = I 6 := Eq.trans i6 (Eq.refl (I 6))
theorem j_7 : (7 : Int32) = I 7 := Eq.trans i7 (Eq.refl (I 7))
theorem j_8 : (8 : Int32) = I 8 := Eq.trans i8 (Eq.refl (I 8))
theorem j_9 : (9 : Int32) = I 9 := Eq.trans i9 (Eq.refl (I 9))
theorem j_10 : (10 : Int32) = I 10 := Eq.trans i10 (Eq.refl (I 10))
theorem j_12 : (12 : Int32) = I 12 := Eq.trans i12 (Eq.refl (I 12))
theorem j_14 : (14 : Int32) = I 14 := Eq.trans i14 (Eq.refl (I 14))
theorem j_20 : (20 : Int32) = I 20 := Eq.trans i20 (Eq.refl (I 20))
theorem j_25 : (25 : Int32) = I 25 := Eq.trans i25 (Eq.refl (I 25))
theorem j_26 : (26 : Int32) = I 26 := Eq.trans i26 (Eq.refl (I 26))
theorem j_28 : (28 : Int32) = I 28 := Eq.trans i28 (Eq.refl (I 28))
theorem j_30 : (30 : Int32) = I 30 := Eq.trans i30 (Eq.refl (I 30))
theorem j_36 : (36 : Int32) = I 36 := Eq.trans i36 (Eq.refl (I 36))
theorem j_48 : (48 : Int32) = I 48 := Eq.trans i48 (Eq.refl (I 48))
theorem j_49 : (49 : Int32) = I 49 := Eq.trans i49 (Eq.refl (I 49))
theorem j_50 : (50 : Int32) = I 50 := Eq.trans i50 (Eq.refl (I 50))
theorem j_53 : (53 : Int32) = I 53 := Eq.trans i53 (Eq.refl (I 53))
theorem j_57 : (57 : Int32) = I 57 := Eq.trans i57 (Eq.refl (I 57))
theorem j_59 : (59 : Int32) = I 59 := Eq.trans i59 (Eq.refl (I 59))
theorem j_60 : (60 : Int32) = I 60 := Eq.trans i60 (Eq.refl (I 60))
theorem j_63 : (63 : Int32) = I 63 := Eq.trans i63 (Eq.refl (I 63))
theorem j_75 : (75 : Int32) = I 75 := Eq.trans i75 (Eq.refl (I 75))
theorem j_80 : (80 : Int32) = I 80 := Eq.trans i80 (Eq.refl (I 80))
theorem j_99 : (99 : Int32) = I 99 := Eq.trans i99 (Eq.refl (I 99))
theorem j_100 : (100 : Int32) = I 100 := Eq.trans i100 (Eq.refl (I 100))
theorem j_196 : (196 : Int32) = I 196 := Eq.trans i196 (Eq.refl (I 196))
theorem j_255 : (255 : Int32) = I 255 := Eq.trans i255 (Eq.refl (I 255))
theorem j_1000 : (1000 : Int32) = I 1000 := Eq.trans i1000 (Eq.refl (I 1000))
theorem j_m1 : (-1 : Int32) = I (-1) := Eq.trans im1 (Eq.refl (I (-1)))
theorem j_m2 : (-2 : Int32) = I (-2) := Eq.trans im2 (Eq.refl (I (-2)))
theorem j_m3 : (-3 : Int32) = I (-3) := Eq.trans im3 (Eq.refl (I (-3)))
theorem j_m5 : (-5 : Int32) = I (-5) := Eq.trans im5 (Eq.refl (I (-5)))
theorem j_m6 : (-6 : Int32) = I (-6) := Eq.trans im6 (Eq.refl (I (-6)))
theorem j_m11 : (-11 : Int32) = I (-11) := Eq.trans im11 (Eq.refl (I (-11)))
theorem j_m12 : (-12 : Int32) = I (-12) := Eq.trans im12 (Eq.refl (I (-12)))
theorem j_m13 : (-13 : Int32) = I (-13) := Eq.trans im13 (Eq.refl (I (-13)))
theorem j_m14 : (-14 : Int32) = I (-14) := Eq.trans im14 (Eq.refl (I (-14)))
theorem j_m1000 : (-1000 : Int32) = I (-1000) := Eq.trans im1000 (Eq.refl (I (-1000)))


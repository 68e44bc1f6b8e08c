/-! unlike -/
def MaxN (f : Nat → Nat) (n m : Nat) : Prop := (∀ j, j < n → f j ≤ m) ∧ (m = 0 ∨ ∃ j, j < n ∧ f j = m)
theorem MaxN_s {f : Nat → Nat} {n m : Nat} (h : MaxN f n m) : MaxN f (n + 1) (if f n ≤ m then m else f n) := by
  obtain ⟨h1, h2⟩ := h
  by_cases c : f n ≤ m
  · rw [if_pos c]
    refine ⟨fun j hj => ?_, h2.elim Or.inl (fun ⟨j, h3, h4⟩ => Or.inr ⟨j, by omega, h4⟩)⟩
    by_cases e : j = n
    · subst e; exact c
    · exact h1 j (by omega)
  · rw [if_neg c]
    refine ⟨fun j hj => ?_, Or.inr ⟨n, by omega, rfl⟩⟩
    by_cases e : j = n
    · subst e; exact Nat.le_refl _
    · have := h1 j (by omega); omega
theorem MaxN_e {f f' : Nat → Nat} {n m m' : Nat} (h : MaxN f n m) (h' : MaxN f' n m') (a : ∀ j, j < n → ∃ k, k < n ∧ f j ≤ f' k) (b : ∀ j, j < n → ∃ k, k < n ∧ f' j ≤ f k) : m = m' := by
  obtain ⟨h1, h2⟩ := h
  obtain ⟨g1, g2⟩ := h'
  have le : m ≤ m' := by
    obtain h2 | ⟨j, h2, h3⟩ := h2
    · omega
    · obtain ⟨k, k1, k2⟩ := a j h2
      have := g1 k k1
      omega
  have ge : m' ≤ m := by
    obtain g2 | ⟨j, g2, g3⟩ := g2
    · omega
    · obtain ⟨k, k1, k2⟩ := b j g2
      have := h1 k k1
      omega
  omega
theorem nb_mn (P : Nat → Prop) (a : Nat) : ∀ d, nb P a ≤ nb P (a + d)
  | 0 => Nat.le_refl _
  | d + 1 => by
    have ih := nb_mn P a d
    by_cases p : P (a + d)
    · rw [show a + (d + 1) = a + d + 1 by omega, nb_t p]; omega
    · rw [show a + (d + 1) = a + d + 1 by omega, nb_f p]; exact ih
def Al (g : Gd) (i j : Nat) : Prop := alike (sh g i) (sh g j)
def fst1 (g : Gd) (i : Nat) : Prop := ∀ k, k < nc g → Al g k i → i ≤ k
noncomputable def cl (g : Gd) (i : Nat) : Nat := nb (fun k => Al g k i) (nc g)
noncomputable def run (g : Gd) (σ : Nat → Nat) (k : Nat) : Nat := nb (fun j => Al g (σ j) (σ k)) (k + 1)
def Srt (g : Gd) (σ : Nat → Nat) : Prop := ∀ j, j < nc g → σ j < nc g ∧ rk g (nc g) (σ j) = j
theorem Srt_b {g : Gd} {σ : Nat → Nat} (hv : GV g) (h : Srt g σ) {i j : Nat} (hij : i < j) (hj : j < nc g) : bef g (σ i) (σ j) :=
  rk_bef hv (Nat.le_refl _) (h i (by omega)).1 (h j hj).1 (by rw [(h i (by omega)).2, (h j hj).2]; exact hij)
theorem Srt_i {g : Gd} {σ : Nat → Nat} (h : Srt g σ) : ∀ i j, i < nc g → j < nc g → σ i = σ j → i = j := fun i j hi hj e => by
  have e1 := (h i hi).2
  have e2 := (h j hj).2
  rw [e] at e1
  omega
theorem Srt_s {g : Gd} {σ : Nat → Nat} (hv : GV g) (h : Srt g σ) {i : Nat} (hi : i < nc g) : σ (rk g (nc g) i) = i :=
  rk_inj hv (Nat.le_refl _) (h _ (rk_n hi)).1 hi (h _ (rk_n hi)).2
theorem Al_s {g : Gd} {i j : Nat} (h : Al g i j) : Al g j i := fun k => (h k).symm
theorem Al_t {g : Gd} {i j k : Nat} (h : Al g i j) (h' : Al g j k) : Al g i k := fun x => (h x).trans (h' x)
theorem Srt_w {g : Gd} {σ : Nat → Nat} (hv : GV g) (h : Srt g σ) {i j k : Nat} (hij : i ≤ j) (hjk : j ≤ k) (hk : k < nc g) (a : Al g (σ i) (σ k)) : Al g (σ j) (σ k) := by
  by_cases e1 : i = j
  · subst e1; exact a
  · by_cases e2 : j = k
    · subst e2; exact alike_r _
    · obtain b1 | ⟨b1, -⟩ := Srt_b hv h (show i < j by omega) (by omega)
      · obtain b2 | ⟨b2, -⟩ := Srt_b hv h (show j < k by omega) hk
        · exact absurd a (big_n (big_t b1 b2))
        · exact b2
      · exact Al_t (Al_s b1) a
theorem fst1_k {g : Gd} {σ : Nat → Nat} (hv : GV g) (h : Srt g σ) {k : Nat} (hk : k < nc g) : (k = 0 ∨ ¬ Al g (σ k) (σ (k - 1))) ↔ fst1 g (σ k) := by
  constructor
  · intro hh k' hk' a
    by_cases c : σ k ≤ k'
    · exact c
    · exfalso
      have b : bef g k' (σ k) := Or.inr ⟨a, by omega⟩
      have r := rk_lt hk' b
      have s1 := Srt_s hv h hk'
      rw [(h k hk).2] at r
      generalize rk g (nc g) k' = j at *
      obtain e | e := hh
      · omega
      · refine e (Al_s (Srt_w hv h (show j ≤ k - 1 by omega) (by omega) hk ?_))
        rw [s1]; exact a
  · intro f
    by_cases e : k = 0
    · exact Or.inl e
    · refine Or.inr (fun a => ?_)
      have l := f (σ (k - 1)) (h (k - 1) (by omega)).1 (Al_s a)
      obtain b | ⟨-, b⟩ := Srt_b hv h (show k - 1 < k by omega) hk
      · exact big_n b (Al_s a)
      · omega
theorem kinds_e {g : Gd} {σ : Nat → Nat} (hv : GV g) (h : Srt g σ) : nb (fun k => k = 0 ∨ ¬ Al g (σ k) (σ (k - 1))) (nc g) = nb (fst1 g) (nc g) := by
  rw [← nb_perm (fst1 g) (fun j hj => (h j hj).1) (Srt_i h)]
  exact nb_c (fun k hk => fst1_k hv h hk)
theorem run_a {g : Gd} {σ : Nat → Nat} (h : Srt g σ) {k : Nat} (hk : k < nc g) : run g σ k ≤ cl g (σ k) := by
  have p := nb_perm (fun i => Al g i (σ k)) (fun j hj => (h j hj).1) (Srt_i h)
  have m := nb_mn (fun j => Al g (σ j) (σ k)) (k + 1) (nc g - (k + 1))
  rw [show k + 1 + (nc g - (k + 1)) = nc g by omega] at m
  unfold run cl
  omega
theorem run_b {g : Gd} {σ : Nat → Nat} (hv : GV g) (h : Srt g σ) {i : Nat} (hi : i < nc g) : ∃ k, k < nc g ∧ cl g i ≤ run g σ k := by
  have p := nb_perm (fun j => Al g j i) (fun j hj => (h j hj).1) (Srt_i h)
  have pos := nb_pos (P := fun j => Al g (σ j) i) (rk_n (g := g) hi) (by show Al g (σ (rk g (nc g) i)) i; rw [Srt_s hv h hi]; exact alike_r _)
  obtain ⟨b, b1, b2, b3⟩ := nb_ex _ pos
  have c := nb_cut (P := fun j => Al g (σ j) i) (a := b + 1) (nc g - (b + 1)) (fun k h1 h2 => b3 k (by omega) (by omega))
  rw [show b + 1 + (nc g - (b + 1)) = nc g by omega] at c
  refine ⟨b, b1, ?_⟩
  have e : run g σ b = nb (fun j => Al g (σ j) i) (b + 1) := nb_c (fun j hj => ⟨fun a => Al_t a b2, fun a => Al_t a (Al_s b2)⟩)
  unfold cl
  omega
theorem run_s {g : Gd} {σ : Nat → Nat} (hv : GV g) (h : Srt g σ) {k : Nat} (hk : k < nc g) : (k = 0 → run g σ k = 1) ∧ (k ≠ 0 → (Al g (σ k) (σ (k - 1)) → run g σ k = run g σ (k - 1) + 1) ∧ (¬ Al g (σ k) (σ (k - 1)) → run g σ k = 1)) := by
  have t : run g σ k = nb (fun j => Al g (σ j) (σ k)) k + 1 := nb_t (P := fun j => Al g (σ j) (σ k)) (alike_r _)
  refine ⟨fun e => ?_, fun e => ⟨fun a => ?_, fun a => ?_⟩⟩
  · subst e
    exact t
  · rw [t]
    congr 1
    show _ = nb (fun j => Al g (σ j) (σ (k - 1))) (k - 1 + 1)
    rw [show k - 1 + 1 = k by omega]
    exact nb_c (fun j hj => ⟨fun b => Al_t b a, fun b => Al_t b (Al_s a)⟩)
  · rw [t]
    have z := nb_cut (P := fun j => Al g (σ j) (σ k)) (a := 0) k (fun j h1 h2 b => a (Al_s (Srt_w hv h (show j ≤ k - 1 by omega) (by omega) hk b)))
    rw [Nat.zero_add] at z
    rw [z]
    rfl
theorem s_isLike {w : Wd} {g : Gd} {σ : Nat → Nat} {k : Nat} (hW : Wi w.2) (hv : GV g) (hg : GrC w g) (o1 : w.1 7 5 = I ((nc g : Nat) : Int)) (h : Srt g σ) (o3 : ∀ j, j < nc g → w.1 83 j = I (cod g (σ j))) (hk : 0 < k) (hk2 : k < nc g) :
    (f_X1_isLikeTheOneAhead 7 (I k) w = some (I 1) ∧ Al g (σ k) (σ (k - 1))) ∨ (f_X1_isLikeTheOneAhead 7 (I k) w = some (I 0) ∧ ¬ Al g (σ k) (σ (k - 1))) := by
  obtain ⟨C, R, hC, hR, C5, R5, C1, R1, enR, enc, b36⟩ := dims hv
  have r83 : w.2 7 4 = some 83 := hW.2.2.2.1.2.2
  have s1 := (h k hk2).1
  have s2 := (h (k - 1) (by omega)).1
  have h1 := nc_b s1
  have h2 := nc_b s2
  have v1 := hv.1; have v2 := hv.2.1
  have k1 := kd_shape (6 * (σ k / nR g) + σ k % nR g) (by omega)
  have k2 := kd_shape (6 * (σ (k - 1) / nR g) + σ (k - 1) % nR g) (by omega)
  obtain ⟨z, z1, z2, z3⟩ := s_ordI (i := σ k) (j := σ (k - 1)) hW hv hg s1 s2
  unfold f_X1_isLikeTheOneAhead
  rw [jn_d, if_neg (show ¬ (I (k : Int) ≤ 0) by rw [i0, I_le (by omega) (by omega) (by omega) (by omega)]; omega), o1, if_neg (show ¬ (I ((nc g : Nat) : Int) ≤ I (k : Int)) by rw [I_le (by omega) (by omega) (by omega) (by omega)]; omega), rfc r83 kd_83 (by decide), ln_83, ix_d (by omega) (by omega) (by decide), Int.toNat_natCast, o3 k hk2, c1_r (s_shapeOf hW hv s1), ckc k1 (by decide), rfc r83 kd_83 (by decide), show I (k : Int) - (1 : Int32) = I ((k - 1 : Nat) : Int) from (I_sub _ 1).trans (congrArg I (by omega)), ln_83, ix_d (by omega) (by omega) (by decide), Int.toNat_natCast, o3 (k - 1) (by omega), c1_r (s_shapeOf hW hv s2), ckc k2 (by decide), c1_r z1]
  by_cases e : z = 0
  · rw [if_pos (show I z = 0 by rw [e]; rfl)]
    refine Or.inl ⟨rfl, ?_⟩
    obtain ⟨q, -⟩ | ⟨-, q⟩ | ⟨q, -⟩ := z3
    · omega
    · exact q
    · omega
  · rw [if_neg (show ¬ (I z = 0) by rw [i0, I_eq (by omega) (by omega) (by omega) (by omega)]; exact e)]
    refine Or.inr ⟨rfl, ?_⟩
    obtain ⟨-, q⟩ | ⟨q, -⟩ | ⟨-, q⟩ := z3
    · exact big_n q
    · exact absurd q e
    · exact fun a => big_n q (Al_s a)
theorem s_unlike {w w1 : Wd} {g : Gd} {σ : Nat → Nat} (hW : Wi w1.2) (hv : GV g) (hg : GrC w1 g) (hp : f_X1_putInOrder 7 w = some w1) (o1 : w1.1 7 5 = I ((nc g : Nat) : Int)) (h : Srt g σ) (o3 : ∀ j, j < nc g → w1.1 83 j = I (cod g (σ j))) : f_X1_unlikeShapes 7 w = some (I ((nb (fst1 g) (nc g) : Nat) : Int), w1) := by
  obtain ⟨C, R, hC, hR, C5, R5, C1, R1, enR, enc, b36⟩ := dims hv
  unfold f_X1_unlikeShapes
  rw [c1_r hp, o1, ← kinds_e hv h]
  refine wl2_inv (Q := fun r => r = some (I ((nb (fun k => k = 0 ∨ ¬ Al g (σ k) (σ (k - 1))) (nc g) : Nat) : Int), w1)) (nc g) (fun k x y => x = I ((nb (fun k => k = 0 ∨ ¬ Al g (σ k) (σ (k - 1))) k : Nat) : Int) ∧ y = I k) (fu_lt (by omega)) ⟨rfl, rfl⟩ ?_ ?_
  · rintro k hk x y ⟨rfl, rfl⟩ kk
    left
    have b1 := nb_n (fun k => k = 0 ∨ ¬ Al g (σ k) (σ (k - 1))) k
    have fin1 : (k = 0 ∨ ¬ Al g (σ k) (σ (k - 1))) → lt (I ((nb (fun k => k = 0 ∨ ¬ Al g (σ k) (σ (k - 1))) k : Nat) : Int) + (1 : Int32)) (fun x11 => lt (I (k : Int) + (1 : Int32)) (fun x13 => kk x11 x13)) = kk (I ((nb (fun k => k = 0 ∨ ¬ Al g (σ k) (σ (k - 1))) (k + 1) : Nat) : Int)) (I ((k + 1 : Nat) : Int)) := fun f => by
      rw [nb_t (P := fun k => k = 0 ∨ ¬ Al g (σ k) (σ (k - 1))) f, lt_d, lt_d, i1, I_add, I_add, nS, nS]
    refine ⟨_, _, ⟨rfl, rfl⟩, ?_⟩
    rw [if_neg (show ¬ (I ((nc g : Nat) : Int) ≤ I (k : Int)) by rw [I_le (by omega) (by omega) (by omega) (by omega)]; omega), jn_d, jn_d]
    by_cases e : k = 0
    · rw [if_pos (show I (k : Int) = 0 by rw [e]; rfl)]
      exact fin1 (Or.inl e)
    · rw [if_neg (show ¬ (I (k : Int) = 0) by rw [i0, I_eq (by omega) (by omega) (by omega) (by omega)]; omega)]
      obtain ⟨z1, z2⟩ | ⟨z1, z2⟩ := s_isLike hW hv hg o1 h o3 (show 0 < k by omega) hk
      · rw [c1_r z1, if_neg n10]
        show lt _ _ = _
        rw [nb_f (P := fun k => k = 0 ∨ ¬ Al g (σ k) (σ (k - 1))) (fun f => f.elim e (fun q => q z2)), lt_d, lt_d, i0, i1, I_add, I_add, nS, Int.add_zero]
      · rw [c1_r z1, if_pos z00]
        exact fin1 (Or.inr z2)
  · rintro x y ⟨rfl, rfl⟩ kk
    rw [if_pos (show I ((nc g : Nat) : Int) ≤ I ((nc g : Nat) : Int) by rw [I_le (by omega) (by omega) (by omega) (by omega)]; omega)]
theorem s_mostAlike {w w1 : Wd} {g : Gd} {σ : Nat → Nat} (hW : Wi w1.2) (hv : GV g) (hg : GrC w1 g) (hp : f_X1_putInOrder 7 w = some w1) (o1 : w1.1 7 5 = I ((nc g : Nat) : Int)) (h : Srt g σ) (o3 : ∀ j, j < nc g → w1.1 83 j = I (cod g (σ j))) : ∃ m, f_X1_mostAlike 7 w = some (I ((m : Nat) : Int), w1) ∧ MaxN (run g σ) (nc g) m := by
  obtain ⟨C, R, hC, hR, C5, R5, C1, R1, enR, enc, b36⟩ := dims hv
  unfold f_X1_mostAlike
  rw [c1_r hp, o1]
  refine wl3_inv (Q := fun r => ∃ m, r = some (I ((m : Nat) : Int), w1) ∧ MaxN (run g σ) (nc g) m) (nc g) (fun k x y t => (∃ m : Nat, m ≤ 100 ∧ MaxN (run g σ) k m ∧ x = I m) ∧ (y = I ((if k = 0 then 0 else run g σ (k - 1) : Nat) : Int)) ∧ t = I k) (fu_lt (by omega)) ⟨⟨0, by omega, ⟨fun j hj => absurd hj (by omega), Or.inl rfl⟩, rfl⟩, rfl, rfl⟩ ?_ ?_
  · rintro k hk x y t ⟨⟨m, hm, hm2, rfl⟩, rfl, rfl⟩ kk
    left
    have rs := run_s hv h hk
    have rb := nb_n (fun j => Al g (σ j) (σ k)) (k + 1)
    have rr : run g σ k = nb (fun j => Al g (σ j) (σ k)) (k + 1) := rfl
    have mx' := MaxN_s hm2
    have fin : ∀ x : Int32, x = I ((run g σ k : Nat) : Int) → (∃ t0 t1 t2, ((∃ m : Nat, m ≤ 100 ∧ MaxN (run g σ) (k + 1) m ∧ t0 = I m) ∧ (t1 = I ((if k + 1 = 0 then 0 else run g σ (k + 1 - 1) : Nat) : Int)) ∧ t2 = I ((k + 1 : Nat) : Int)) ∧ lt (if I (m : Int) < x then x else I (m : Int)) (fun x12 => lt (I (k : Int) + (1 : Int32)) (fun x14 => kk x12 x x14)) = kk t0 t1 t2) := fun x hx => by
      subst hx
      refine ⟨I ((if run g σ k ≤ m then m else run g σ k : Nat) : Int), I ((run g σ k : Nat) : Int), I ((k + 1 : Nat) : Int), ⟨⟨_, by split <;> omega, mx', rfl⟩, by rw [if_neg (by omega)]; rfl, rfl⟩, ?_⟩
      rw [lt_d, lt_d, i1, I_add, nS]
      congr 1
      by_cases c : run g σ k ≤ m
      · rw [if_pos c, if_neg (show ¬ (I (m : Int) < I ((run g σ k : Nat) : Int)) by rw [I_lt (by omega) (by omega) (by omega) (by omega)]; omega)]
      · rw [if_neg c, if_pos (show I (m : Int) < I ((run g σ k : Nat) : Int) by rw [I_lt (by omega) (by omega) (by omega) (by omega)]; omega)]
    rw [if_neg (show ¬ (I ((nc g : Nat) : Int) ≤ I (k : Int)) by rw [I_le (by omega) (by omega) (by omega) (by omega)]; omega), jn_d, jn_d]
    by_cases e : k = 0
    · rw [if_pos (show I (k : Int) ≤ 0 by rw [e]; decide)]
      exact fin 1 (by rw [rs.1 e]; rfl)
    · rw [if_neg (show ¬ (I (k : Int) ≤ 0) by rw [i0, I_le (by omega) (by omega) (by omega) (by omega)]; omega)]
      obtain ⟨z1, z2⟩ | ⟨z1, z2⟩ := s_isLike hW hv hg o1 h o3 (show 0 < k by omega) hk
      · rw [c1_r z1, if_neg n10, lt_d]
        exact fin _ (by rw [if_neg e, i1, I_add, nS, (rs.2 e).1 z2])
      · rw [c1_r z1, if_pos z00]
        exact fin 1 (by rw [(rs.2 e).2 z2]; rfl)
  · rintro x y t ⟨⟨m, hm, hm2, rfl⟩, rfl, rfl⟩ kk
    rw [if_pos (show I ((nc g : Nat) : Int) ≤ I ((nc g : Nat) : Int) by rw [I_le (by omega) (by omega) (by omega) (by omega)]; omega)]
    exact ⟨m, rfl, hm2⟩

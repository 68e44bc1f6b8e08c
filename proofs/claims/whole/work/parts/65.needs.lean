/-! needs -/
def av (kd : Nat) (w : List Nat) (S x : Nat) : Nat := cond (Nat.beq (bt S x) 0) 0 (mxa kd w S (agl kd w S x) x x)
theorem agl_s (kd : Nat) (w : List Nat) (S x : Nat) : agl kd w S (x + 1) = agl kd w S x + 8 ^ x * av kd w S x := by
  show fc (agl kd w S x) _ = _
  rw [fc_e]
  rfl
theorem mxa_s (kd : Nat) (w : List Nat) (S acc x a : Nat) : mxa kd w S acc x (a + 1) = if (bt S a = 1 ∧ rl kd w a x = true) ∧ mxa kd w S acc x a + 1 ≤ dg acc a + 1 then dg acc a + 1 else mxa kd w S acc x a := by
  show fc (mxa kd w S acc x a) _ = _
  rw [fc_e]
  by_cases c : (bt S a = 1 ∧ rl kd w a x = true) ∧ mxa kd w S acc x a + 1 ≤ dg acc a + 1
  · rw [if_pos c, c.1.1, c.1.2, Nat.ble_eq_true_of_le c.2]
    rfl
  · rw [if_neg c]
    have : (Nat.beq (bt S a) 1 && (rl kd w a x && Nat.ble (mxa kd w S acc x a + 1) (dg acc a + 1))) = false := by
      refine Bool.eq_false_iff.2 (fun h => c ?_)
      rw [Bool.and_eq_true, Bool.and_eq_true] at h
      exact ⟨⟨Nat.eq_of_beq_eq_true h.1, h.2.1⟩, Nat.le_of_ble_eq_true h.2.2⟩
    rw [this]
    rfl
theorem nmost_s (acc x : Nat) : nmost acc (x + 1) = if dg acc x ≤ nmost acc x then nmost acc x else dg acc x := by
  show fc (nmost acc x) _ = _
  rw [fc_e, ble_c]
theorem dg_lo {A v n j : Nat} (h : j < n) : dg (A + 8 ^ n * v) j = dg A j := by
  unfold dg
  obtain ⟨m, hm⟩ : ∃ m, n = j + (m + 1) := ⟨n - j - 1, by omega⟩
  rw [hm, Nat.pow_add, Nat.mul_assoc, Nat.add_mul_div_left _ _ (Nat.pow_pos (by decide)), Nat.pow_succ, Nat.mul_comm (8 ^ m) 8, Nat.mul_assoc]
  omega
theorem dg_hi {A v n : Nat} (hA : A < 8 ^ n) (hv : v < 8) : dg (A + 8 ^ n * v) n = v := by
  unfold dg
  rw [Nat.add_mul_div_left _ _ (Nat.pow_pos (by decide)), Nat.div_eq_of_lt hA]
  omega
theorem mxa_b {kd : Nat} {w : List Nat} {S acc x : Nat} (h : ∀ j, j < x → dg acc j ≤ j + 1) : ∀ a, a ≤ x → 1 ≤ mxa kd w S acc x a ∧ mxa kd w S acc x a ≤ x + 1
  | 0, _ => by show 1 ≤ 1 ∧ 1 ≤ x + 1; omega
  | a + 1, ha => by
    have ih := mxa_b (kd := kd) (w := w) (S := S) h a (by omega)
    have hj := h a (by omega)
    rw [mxa_s]
    split <;> omega
theorem agl_ok (kd : Nat) (w : List Nat) (S : Nat) : ∀ n, n ≤ 6 → agl kd w S n < 8 ^ n ∧ ∀ j, j < n → dg (agl kd w S n) j = av kd w S j ∧ av kd w S j ≤ j + 1
  | 0, _ => ⟨by show 0 < 1; decide, fun j hj => absurd hj (by omega)⟩
  | n + 1, hn => by
    obtain ⟨h1, h2⟩ := agl_ok kd w S n (by omega)
    have hv : av kd w S n ≤ n + 1 := by
      unfold av
      rw [beq_c]
      have := mxa_b (kd := kd) (w := w) (S := S) (acc := agl kd w S n) (x := n) (fun j hj => by rw [(h2 j hj).1]; exact (h2 j hj).2) n (Nat.le_refl _)
      split <;> omega
    rw [agl_s]
    refine ⟨?_, fun j hj => ?_⟩
    · have e : 8 ^ (n + 1) = 8 ^ n * 8 := Nat.pow_succ ..
      have m : 8 ^ n * av kd w S n ≤ 8 ^ n * 7 := Nat.mul_le_mul_left _ (by omega)
      omega
    · by_cases e : j = n
      · subst e
        exact ⟨dg_hi h1 (by omega), hv⟩
      · rw [dg_lo (by omega)]
        exact h2 j (by omega)
theorem needs_e (kd : Nat) (w : List Nat) (S C : Nat) : needs kd w S C = nmost (agl kd w S C) C := fc_e _ _
theorem bt_h (s x : Nat) : bt s (x + 1) = bt (s / 2) x := by
  unfold bt
  rw [Nat.pow_succ, Nat.mul_comm, ← Nat.div_div_eq_div_mul]
theorem rl_e {kd : Nat} {w : List Nat} {a x : Nat} : rl kd w a x = true ↔ (if kd = 1 then w.getD x 0 < w.getD a 0 else w.getD a 0 < w.getD x 0) := by
  unfold rl
  rw [beq_c]
  split
  · exact ⟨fun h => Nat.le_of_ble_eq_true h, fun h => Nat.ble_eq_true_of_le h⟩
  · exact ⟨fun h => Nat.le_of_ble_eq_true h, fun h => Nat.ble_eq_true_of_le h⟩
theorem needs_b (kd : Nat) (w : List Nat) (S C : Nat) (hC : C ≤ 6) : needs kd w S C ≤ C := by
  obtain ⟨-, ag⟩ := agl_ok kd w S C hC
  have nb : ∀ i, i ≤ C → nmost (agl kd w S C) i ≤ i := fun i => by
    induction i with
    | zero => exact fun _ => Nat.le_refl _
    | succ i ih =>
      intro hi
      have := ih (by omega)
      have := ag i (by omega)
      rw [nmost_s]
      split <;> omega
  rw [needs_e]
  exact nb C (Nat.le_refl _)
theorem m_needs {v : Wd} {C kd s : Nat} {w : List Nat} (hW : Wi v.2) (hC : v.1 139 0 = I C) (hC5 : C ≤ 5) (hs : s < 64) (hkd : kd = 1 ∨ kd = 3) (hr : ∀ x, x < C → v.1 146 (x + 1) = I ((w.getD x 0 : Nat) : Int)) (hw : ∀ x, x < C → w.getD x 0 ≤ 5) :
    ∃ v' : Wd, f_X8_needs 139 (I s) (I kd) v = some (I ((needs kd w (s / 2) C : Nat) : Int), v') ∧ v'.2 = v.2 ∧ ∀ a b, a ≠ 147 → v'.1 a b = v.1 a b := by
  obtain ⟨-, ag⟩ := agl_ok kd w (s / 2) C (by omega)
  have nb : ∀ i, i ≤ C → nmost (agl kd w (s / 2) C) i ≤ i := fun i => by
    induction i with
    | zero => exact fun _ => Nat.le_refl _
    | succ i ih =>
      intro hi
      have := ih (by omega)
      have := ag i (by omega)
      rw [nmost_s]
      split <;> omega
  unfold f_X8_needs
  rw [needs_e]
  refine wl3_inv (Q := fun r => ∃ v' : Wd, r = some (I ((nmost (agl kd w (s / 2) C) C : Nat) : Int), v') ∧ v'.2 = v.2 ∧ ∀ a b, a ≠ 147 → v'.1 a b = v.1 a b) C (fun i x y (u : Wd) => x = I ((nmost (agl kd w (s / 2) C) i : Nat) : Int) ∧ y = I ((i : Int) + 1) ∧ u.2 = v.2 ∧ (∀ x, x < i → u.1 147 (x + 1) = I ((av kd w (s / 2) x : Nat) : Int)) ∧ ∀ a b, a ≠ 147 → u.1 a b = v.1 a b) (fu_lt (by omega)) ?_ ?_ ?_
  · exact ⟨rfl, rfl, rfl, fun x hx => absurd hx (by omega), fun _ _ _ => rfl⟩
  · rintro i hi x y u ⟨rfl, rfl, hu2, hua, hf⟩ k
    have hWu : Wi u.2 := by rw [hu2]; exact hW
    have nbi := nb i (by omega)
    have agi := ag i hi
    have e12 : ∀ (u' : Wd), u'.2 = u.2 → ∀ {ρ : Type} (K : Nat → Option ρ), rf 153 (u'.2 139 12) 9 K = K 147 := fun u' h => fun K => rfc (by rw [h]; exact hWu.m12) kd_147 (by decide) K
    have ix1 : ∀ {ρ : Type} (K : Nat → Option ρ), ix (I ((i : Int) + 1)) (ln 147) K = K (i + 1) := fun K => by rw [ln_147, ix_d (by omega) (by omega) (by decide), show ((i : Int) + 1).toNat = i + 1 by omega]
    have ix2 : ∀ {ρ : Type} (K : Nat → Option ρ), ix (I ((i : Int) + 1)) (ln 146) K = K (i + 1) := fun K => by rw [ln_146, ix_d (by omega) (by omega) (by decide), show ((i : Int) + 1).toNat = i + 1 by omega]
    rw [hf 139 0 (by omega), hC, if_neg (show ¬ (I (C : Int) < I ((i : Int) + 1)) by rw [I_lt (by omega) (by omega) (by omega) (by omega)]; omega), e12 u rfl, ix1, lt_d, jn_d, show (I (s : Int) >>> (I ((i : Int) + 1) &&& 31)) &&& (1 : Int32) = I ((bt (s / 2) i : Nat) : Int) by
      have := bit_c s (by omega) (i + 1) (by omega)
      rw [← bt_h]
      exact this]
    have b2 : bt (s / 2) i < 2 := Nat.mod_lt _ (by decide)
    left
    have fin : ∀ (u' : Wd) (m : Nat), u'.2 = u.2 → (∀ x, x < i → u'.1 147 (x + 1) = u.1 147 (x + 1)) → u'.1 147 (i + 1) = I ((av kd w (s / 2) i : Nat) : Int) → (∀ a b, a ≠ 147 → u'.1 a b = u.1 a b) → m = nmost (agl kd w (s / 2) C) (i + 1) → ∃ t0 t1 t2, (t0 = I ((nmost (agl kd w (s / 2) C) (i + 1) : Nat) : Int) ∧ t1 = I (((i + 1 : Nat) : Int) + 1) ∧ t2.2 = v.2 ∧ (∀ x, x < i + 1 → t2.1 147 (x + 1) = I ((av kd w (s / 2) x : Nat) : Int)) ∧ ∀ a b, a ≠ 147 → t2.1 a b = v.1 a b) ∧ lt (I ((i : Int) + 1) + (1 : Int32)) (fun x15 => k (I ((m : Nat) : Int)) x15 u') = k t0 t1 t2 := fun u' m h1 h2 h3 h4 h5 => by
      refine ⟨_, _, u', ⟨rfl, rfl, by rw [h1, hu2], fun x hx => ?_, fun a b h => by rw [h4 a b h]; exact hf a b h⟩, by rw [lt_d, i1, I_add, h5]; rfl⟩
      by_cases e : x = i
      · subst e; exact h3
      · rw [h2 x (by omega)]; exact hua x (by omega)
    by_cases z : bt (s / 2) i = 0
    · have a0 : av kd w (s / 2) i = 0 := by unfold av; rw [z]; rfl
      rw [if_pos (show I ((bt (s / 2) i : Nat) : Int) = 0 by rw [z]; rfl)]
      refine fin (upI u 147 (i + 1) 0) _ rfl (fun x hx => upI_n (by omega)) (by rw [upI_s, a0]; rfl) (fun a b h => upI_n (by omega)) ?_
      rw [nmost_s, agi.1, a0, if_pos (Nat.zero_le _)]
    · rw [if_neg (show ¬ (I ((bt (s / 2) i : Nat) : Int) = 0) by rw [i0, I_eq (by omega) (by omega) (by omega) (by omega)]; omega), e12 (upI u 147 (i + 1) 0) rfl, ix1, lt_d]
      have ea : av kd w (s / 2) i = mxa kd w (s / 2) (agl kd w (s / 2) i) i i := by unfold av; rw [beq_c, if_neg z]
      obtain ⟨-, agI⟩ := agl_ok kd w (s / 2) i (by omega)
      have mb := mxa_b (kd := kd) (w := w) (S := s / 2) (acc := agl kd w (s / 2) i) (x := i) (fun j hj => by rw [(agI j hj).1]; exact (agI j hj).2)
      refine wl2_inv (Q := fun r => ∃ t0 t1 t2, (t0 = I ((nmost (agl kd w (s / 2) C) (i + 1) : Nat) : Int) ∧ t1 = I (((i + 1 : Nat) : Int) + 1) ∧ t2.2 = v.2 ∧ (∀ x, x < i + 1 → t2.1 147 (x + 1) = I ((av kd w (s / 2) x : Nat) : Int)) ∧ ∀ a b, a ≠ 147 → t2.1 a b = v.1 a b) ∧ r = k t0 t1 t2) i (fun a x (u' : Wd) => x = I ((a : Int) + 1) ∧ u'.2 = u.2 ∧ (∀ x, x < i → u'.1 147 (x + 1) = u.1 147 (x + 1)) ∧ u'.1 147 (i + 1) = I ((mxa kd w (s / 2) (agl kd w (s / 2) i) i a : Nat) : Int) ∧ ∀ a b, a ≠ 147 → u'.1 a b = u.1 a b) (fu_lt (by omega)) ?_ ?_ ?_
      · exact ⟨rfl, rfl, fun x hx => by rw [upI_n (by omega), upI_n (by omega)], by rw [upI_s]; rfl, fun a b h => by rw [upI_n (by omega), upI_n (by omega)]⟩
      · rintro a ha x u' ⟨rfl, h1, h2, h3, h4⟩ k2
        have hWu' : Wi u'.2 := by rw [h1]; exact hWu
        have mba := mb a (by omega)
        have aga := agI a ha
        have mxs := mxa_s kd w (s / 2) (agl kd w (s / 2) i) i a
        rw [aga.1] at mxs
        have va : u'.1 147 (a + 1) = I ((av kd w (s / 2) a : Nat) : Int) := by rw [h2 a ha]; exact hua a ha
        have ra : u'.1 146 (a + 1) = I ((w.getD a 0 : Nat) : Int) := by rw [h4 _ _ (by omega), hf _ _ (by omega)]; exact hr a (by omega)
        have ri : u'.1 146 (i + 1) = I ((w.getD i 0 : Nat) : Int) := by rw [h4 _ _ (by omega), hf _ _ (by omega)]; exact hr i (by omega)
        have wa := hw a (by omega)
        have wi := hw i (by omega)
        have e11 : ∀ {ρ : Type} (K : Nat → Option ρ), rf 153 (u'.2 139 11) 9 K = K 146 := fun K => rfc hWu'.m11 kd_146 (by decide) K
        have jx1 : ∀ {ρ : Type} (K : Nat → Option ρ), ix (I ((a : Int) + 1)) (ln 147) K = K (a + 1) := fun K => by rw [ln_147, ix_d (by omega) (by omega) (by decide), show ((a : Int) + 1).toNat = a + 1 by omega]
        have jx2 : ∀ {ρ : Type} (K : Nat → Option ρ), ix (I ((a : Int) + 1)) (ln 146) K = K (a + 1) := fun K => by rw [ln_146, ix_d (by omega) (by omega) (by decide), show ((a : Int) + 1).toNat = a + 1 by omega]
        have ba : bt (s / 2) a < 2 := Nat.mod_lt _ (by decide)
        rw [if_neg (show ¬ (I ((i : Int) + 1) ≤ I ((a : Int) + 1)) by rw [I_le (by omega) (by omega) (by omega) (by omega)]; omega), show (I (s : Int) >>> (I ((a : Int) + 1) &&& 31)) &&& (1 : Int32) = I ((bt (s / 2) a : Nat) : Int) by
          have := bit_c s (by omega) (a + 1) (by omega)
          rw [← bt_h]
          exact this]
        left
        have no : ¬ (bt (s / 2) a = 1 ∧ rl kd w a i = true) → ∃ t0 t1, (t0 = I (((a + 1 : Nat) : Int) + 1) ∧ t1.2 = u.2 ∧ (∀ x, x < i → t1.1 147 (x + 1) = u.1 147 (x + 1)) ∧ t1.1 147 (i + 1) = I ((mxa kd w (s / 2) (agl kd w (s / 2) i) i (a + 1) : Nat) : Int) ∧ ∀ a b, a ≠ 147 → t1.1 a b = u.1 a b) ∧ k2 (I ((a : Int) + 1) + (1 : Int32)) u' = k2 t0 t1 := fun h => by
          refine ⟨_, u', ⟨rfl, h1, h2, by rw [mxs, if_neg (fun f => h f.1)]; exact h3, h4⟩, by rw [i1, I_add]; rfl⟩
        have yes : (bt (s / 2) a = 1 ∧ rl kd w a i = true) → ∃ t0 t1, (t0 = I (((a + 1 : Nat) : Int) + 1) ∧ t1.2 = u.2 ∧ (∀ x, x < i → t1.1 147 (x + 1) = u.1 147 (x + 1)) ∧ t1.1 147 (i + 1) = I ((mxa kd w (s / 2) (agl kd w (s / 2) i) i (a + 1) : Nat) : Int) ∧ ∀ a b, a ≠ 147 → t1.1 a b = u.1 a b) ∧ (if (I ((av kd w (s / 2) a : Nat) : Int) + (1 : Int32)) ≤ I ((mxa kd w (s / 2) (agl kd w (s / 2) i) i a : Nat) : Int) then k2 (I ((a : Int) + 1) + (1 : Int32)) u' else k2 (I ((a : Int) + 1) + (1 : Int32)) (upI u' 147 (i + 1) (I ((av kd w (s / 2) a : Nat) : Int) + (1 : Int32)))) = k2 t0 t1 := fun h => by
          rw [show I ((av kd w (s / 2) a : Nat) : Int) + (1 : Int32) = I ((av kd w (s / 2) a + 1 : Nat) : Int) from I_add _ 1]
          by_cases c : av kd w (s / 2) a + 1 ≤ mxa kd w (s / 2) (agl kd w (s / 2) i) i a
          · rw [if_pos (show I ((av kd w (s / 2) a + 1 : Nat) : Int) ≤ I ((mxa kd w (s / 2) (agl kd w (s / 2) i) i a : Nat) : Int) by rw [I_le (by omega) (by omega) (by omega) (by omega)]; omega)]
            refine ⟨_, u', ⟨rfl, h1, h2, by rw [mxs, if_neg (fun f => by omega)]; exact h3, h4⟩, by rw [i1, I_add]; rfl⟩
          · rw [if_neg (show ¬ (I ((av kd w (s / 2) a + 1 : Nat) : Int) ≤ I ((mxa kd w (s / 2) (agl kd w (s / 2) i) i a : Nat) : Int)) by rw [I_le (by omega) (by omega) (by omega) (by omega)]; omega)]
            refine ⟨_, upI u' 147 (i + 1) (I ((av kd w (s / 2) a + 1 : Nat) : Int)), ⟨rfl, h1, fun x hx => by rw [upI_n (by omega)]; exact h2 x hx, by rw [upI_s, mxs, if_pos ⟨h, by omega⟩], fun a b h => by rw [upI_n (by omega)]; exact h4 a b h⟩, by rw [i1, I_add]; rfl⟩
        simp only [jn_d, lt_d, e12 u' h1, e11, ix1, ix2, jx1, jx2, va, h3, ra, ri]
        rw [if_pos trivial, if_neg (show ¬ ((1 : Int32) = 0) by decide)]
        by_cases hb : bt (s / 2) a = 1
        · rw [if_pos (show I ((bt (s / 2) a : Nat) : Int) = (1 : Int32) by rw [hb]; rfl)]
          have rle := rl_e (kd := kd) (w := w) (a := a) (x := i)
          obtain rfl | rfl := hkd
          · rw [if_pos rfl] at rle
            rw [if_pos (show I ((1 : Nat) : Int) = (1 : Int32) from rfl)]
            by_cases c : w.getD a 0 ≤ w.getD i 0
            · rw [if_pos (show I ((w.getD a 0 : Nat) : Int) ≤ I ((w.getD i 0 : Nat) : Int) by rw [I_le (by omega) (by omega) (by omega) (by omega)]; omega)]
              exact no (fun h => by have := rle.1 h.2; omega)
            · rw [if_neg (show ¬ (I ((w.getD a 0 : Nat) : Int) ≤ I ((w.getD i 0 : Nat) : Int)) by rw [I_le (by omega) (by omega) (by omega) (by omega)]; omega)]
              exact yes ⟨hb, rle.2 (by omega)⟩
          · rw [if_neg (by decide)] at rle
            rw [if_neg (show ¬ (I ((3 : Nat) : Int) = (1 : Int32)) by decide)]
            by_cases c : w.getD i 0 ≤ w.getD a 0
            · rw [if_pos (show I ((w.getD i 0 : Nat) : Int) ≤ I ((w.getD a 0 : Nat) : Int) by rw [I_le (by omega) (by omega) (by omega) (by omega)]; omega)]
              exact no (fun h => by have := rle.1 h.2; omega)
            · rw [if_neg (show ¬ (I ((w.getD i 0 : Nat) : Int) ≤ I ((w.getD a 0 : Nat) : Int)) by rw [I_le (by omega) (by omega) (by omega) (by omega)]; omega)]
              exact yes ⟨hb, rle.2 (by omega)⟩
        · rw [if_neg (show ¬ (I ((bt (s / 2) a : Nat) : Int) = (1 : Int32)) by rw [i1, I_eq (by omega) (by omega) (by omega) (by omega)]; omega)]
          exact no (fun h => hb h.1)
      · rintro x u' ⟨rfl, h1, h2, h3, h4⟩ k2
        have mbi := mb i (Nat.le_refl _)
        rw [← ea] at h3 mbi
        rw [if_pos (show I ((i : Int) + 1) ≤ I ((i : Int) + 1) by rw [I_le (by omega) (by omega) (by omega) (by omega)]; omega), e12 u' h1, ix1, jn_d, h3]
        by_cases c : av kd w (s / 2) i ≤ nmost (agl kd w (s / 2) C) i
        · rw [if_pos (show I ((av kd w (s / 2) i : Nat) : Int) ≤ I ((nmost (agl kd w (s / 2) C) i : Nat) : Int) by rw [I_le (by omega) (by omega) (by omega) (by omega)]; omega)]
          exact fin u' _ h1 h2 h3 h4 (by rw [nmost_s, agi.1, if_pos c])
        · rw [if_neg (show ¬ (I ((av kd w (s / 2) i : Nat) : Int) ≤ I ((nmost (agl kd w (s / 2) C) i : Nat) : Int)) by rw [I_le (by omega) (by omega) (by omega) (by omega)]; omega), e12 u' h1, ix1, lt_d, h3]
          exact fin u' _ h1 h2 h3 h4 (by rw [nmost_s, agi.1, if_neg c])
  · rintro x y u ⟨rfl, rfl, hu2, hua, hf⟩ k
    rw [hf 139 0 (by omega), hC, if_pos (show I (C : Int) < I ((C : Int) + 1) by rw [I_lt (by omega) (by omega) (by omega) (by omega)]; omega)]
    exact ⟨u, rfl, hu2, hf⟩

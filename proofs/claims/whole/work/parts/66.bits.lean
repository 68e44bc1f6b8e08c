/-! sets of columns -/
theorem or_z : ∀ a : Nat, a < 64 → I (a : Int) ||| (0 : Int32) = I (a : Int) := by decide +kernel
theorem or_b : ∀ n : Nat, n < 6 → ∀ a : Nat, a < 2 ^ n → I (a : Int) ||| I ((2 ^ n : Nat) : Int) = I ((a + 2 ^ n : Nat) : Int) := by decide +kernel
theorem shl_b : ∀ n : Nat, n < 6 → (1 : Int32) <<< (I (n : Int) &&& 31) = I ((2 ^ n : Nat) : Int) := by decide +kernel
theorem bt_p : ∀ n : Nat, n < 6 → ∀ a : Nat, a < 2 ^ n → ∀ j : Nat, j < 6 → bt (a + 2 ^ n) j = if j = n then 1 else bt a j := by decide +kernel
abbrev sub6 (s a : Nat) : Prop := (I (s : Int) &&& (I (a : Int) ^^^ (-1 : Int32))) = 0
theorem sub_1 : ∀ a : Nat, a < 64 → ∀ s : Nat, s < 64 → (sub6 s a → s ≤ a ∧ ∀ x : Nat, x < 6 → bt s x = 1 → bt a x = 1) := by decide +kernel
theorem sub_2 : ∀ a : Nat, a < 64 → ∀ s : Nat, s < 64 → ((∀ x : Nat, x < 6 → bt s x = 1 → bt a x = 1) → sub6 s a) := by decide +kernel
theorem bt_2 (s x : Nat) : bt s x < 2 := Nat.mod_lt _ (by decide)
theorem bt_z {s x : Nat} (h : s < 2 ^ x) : bt s x = 0 := by
  unfold bt
  rw [Nat.div_eq_of_lt h]
theorem vld_e {w : List Nat} {S : Nat} : ∀ {n : Nat}, vld w S n = true ↔ ∀ x, x < n → bt S x = 1 → 0 < w.getD x 0
  | 0 => ⟨fun _ x hx => absurd hx (by omega), fun _ => rfl⟩
  | n + 1 => by
    have ih := vld_e (w := w) (S := S) (n := n)
    show (vld w S n && (Nat.beq (bt S n) 0 || Nat.ble 1 (w.getD n 0))) = true ↔ _
    rw [Bool.and_eq_true, Bool.or_eq_true, ih]
    constructor
    · rintro ⟨h1, h2⟩ x hx hb
      by_cases e : x = n
      · subst e
        obtain h | h := h2
        · have := Nat.eq_of_beq_eq_true h
          omega
        · exact Nat.le_of_ble_eq_true h
      · exact h1 x (by omega) hb
    · intro h
      refine ⟨fun x hx hb => h x (by omega) hb, ?_⟩
      by_cases e : bt S n = 1
      · exact Or.inr (Nat.ble_eq_true_of_le (h n (by omega) e))
      · have := bt_2 S n
        left
        rw [show bt S n = 0 by omega]
        rfl
def allc (w : List Nat) : Nat → Nat
  | 0 => 0
  | x + 1 => allc w x + (if 0 < w.getD x 0 then 2 ^ (x + 1) else 0)
theorem allc_b (w : List Nat) : ∀ n, n ≤ 5 → allc w n < 2 ^ (n + 1) ∧ allc w n < 64 ∧ bt (allc w n) 0 = 0 ∧ ∀ x, x < 5 → bt (allc w n) (x + 1) = if x < n ∧ 0 < w.getD x 0 then 1 else 0
  | 0, _ => ⟨by show 0 < 2; omega, by show 0 < 64; omega, by show bt 0 0 = 0; decide, fun x hx => by rw [if_neg (by omega)]; exact bt_z (Nat.pow_pos (by decide))⟩
  | n + 1, hn => by
    obtain ⟨h1, h2, h3, h4⟩ := allc_b w n (by omega)
    have e : allc w (n + 1) = allc w n + (if 0 < w.getD n 0 then 2 ^ (n + 1) else 0) := rfl
    have p2 : 2 ^ (n + 1 + 1) = 2 ^ (n + 1) * 2 := Nat.pow_succ ..
    have p3 : 2 ^ (n + 1) ≤ 2 ^ 5 := Nat.pow_le_pow_right (by decide) (by omega)
    by_cases c : 0 < w.getD n 0
    · rw [if_pos c] at e
      have bp := bt_p (n + 1) (by omega) (allc w n) h1
      rw [e]
      refine ⟨by omega, by omega, by rw [bp 0 (by omega), if_neg (by omega)]; exact h3, fun x hx => ?_⟩
      rw [bp (x + 1) (by omega)]
      by_cases d : x = n
      · subst d
        rw [if_pos rfl, if_pos ⟨by omega, c⟩]
      · rw [if_neg (by omega), h4 x hx]
        by_cases f : x < n ∧ 0 < w.getD x 0
        · rw [if_pos f, if_pos ⟨by omega, f.2⟩]
        · rw [if_neg f, if_neg (fun q => f ⟨by omega, q.2⟩)]
    · rw [if_neg c, show allc w n + 0 = allc w n from rfl] at e
      rw [e]
      refine ⟨by omega, h2, h3, fun x hx => ?_⟩
      rw [h4 x hx]
      by_cases f : x < n ∧ 0 < w.getD x 0
      · rw [if_pos f, if_pos ⟨by omega, f.2⟩]
      · rw [if_neg f, if_neg (fun q => f ⟨by
          by_cases d : x = n
          · subst d; exact absurd q.2 c
          · omega, q.2⟩)]
theorem sub_a {w : List Nat} {C s : Nat} (hC : C ≤ 5) (h64 : s < 64) (h : sub6 s (allc w C)) : s ≤ allc w C ∧ s / 2 < 2 ^ C ∧ vld w (s / 2) C = true := by
  obtain ⟨a1, a2, -, a4⟩ := allc_b w C hC
  obtain ⟨h1, h2⟩ := sub_1 _ a2 s h64 h
  have p2 : 2 ^ (C + 1) = 2 ^ C * 2 := Nat.pow_succ ..
  refine ⟨h1, by omega, vld_e.2 (fun x hx hb => ?_)⟩
  rw [← bt_h] at hb
  have := h2 (x + 1) (by omega) hb
  rw [a4 x (by omega)] at this
  split at this
  · rename_i f; exact f.2
  · omega
theorem sub_b {w : List Nat} {C S : Nat} (hC : C ≤ 5) (hS : S < 2 ^ C) (h : vld w S C = true) : 2 * S < 64 ∧ sub6 (2 * S) (allc w C) := by
  obtain ⟨a1, a2, -, a4⟩ := allc_b w C hC
  have p3 : 2 ^ C ≤ 2 ^ 5 := Nat.pow_le_pow_right (by decide) (by omega)
  have h64 : 2 * S < 64 := by omega
  refine ⟨h64, sub_2 _ a2 _ h64 (fun x hx hb => ?_)⟩
  cases x with
  | zero =>
    exfalso
    unfold bt at hb
    rw [Nat.pow_zero, Nat.div_one] at hb
    omega
  | succ y =>
    rw [bt_h, show 2 * S / 2 = S by omega] at hb
    rw [a4 y (by omega)]
    by_cases c : y < C
    · rw [if_pos ⟨c, vld_e.1 h y c hb⟩]
    · exfalso
      have p4 : 2 ^ C ≤ 2 ^ y := Nat.pow_le_pow_right (by decide) (by omega)
      have := bt_z (s := S) (x := y) (by omega)
      omega
def okS (kd : Nat) (w : List Nat) (C k s : Nat) : Prop := sub6 s (allc w C) ∧ needs kd w (s / 2) C ≤ k
theorem best_e {kd C c k b : Nat} {w : List Nat} (hC : C ≤ 5) (hU : UBd kd w C c) (hk : 1 ≤ k ∧ k ≤ 5) (h1 : ∀ s, s < allc w C + 1 → okS kd w C k s → pcs (s / 2) C ≤ b) (h2 : b = 0 ∨ ∃ s, s < allc w C + 1 ∧ okS kd w C k s ∧ pcs (s / 2) C = b) : b = PP kd c k := by
  obtain ⟨u1, S, s1, s2, s3, s4⟩ := hU k hk.1 hk.2
  obtain ⟨a1, a2, -, -⟩ := allc_b w C hC
  refine Nat.le_antisymm ?_ ?_
  · obtain rfl | ⟨s, t1, t2, t3⟩ := h2
    · exact Nat.zero_le _
    · have := sub_a hC (by omega) t2.1
      rw [← t3]
      exact u1 (s / 2) this.2.1 this.2.2 t2.2
  · obtain ⟨q1, q2⟩ := sub_b hC s1 s2
    have q3 := sub_1 _ a2 _ q1 q2
    have e : 2 * S / 2 = S := by omega
    have := h1 (2 * S) (by omega) ⟨q2, by rw [e]; exact s3⟩
    rw [e] at this
    omega

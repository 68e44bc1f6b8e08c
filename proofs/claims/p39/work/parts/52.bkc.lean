/-! back, by cells of corners -/
theorem s_formerPart {q n a b c : Int} (hq : 0 ≤ q ∧ q ≤ 3) (hn : 0 ≤ n ∧ n < 1000) (ha : 0 ≤ a ∧ a < 1000) (hb : 0 ≤ b ∧ b < 1000) (hc : 0 ≤ c ∧ c < 1000) : f_X5_formerPart (I q) (I n) (I a) (I b) (I c) = some (I (bO q n a b c)) := by
  have hz : q = 0 ∨ q = 1 ∨ q = 2 ∨ q = 3 := by omega
  have ls : ∀ x y : Int, -1000 ≤ x ∧ x < 1000 → -1000 ≤ y ∧ y < 1000 → (if I y < I x then I y else I x) = I (lo x y) := fun x y hx hy => by
    have l := lo_c x y
    by_cases c : y < x
    · rw [if_pos (show I y < I x by rw [I_lt (by omega) (by omega) (by omega) (by omega)]; exact c)]
      exact congrArg I (by omega)
    · rw [if_neg (show ¬ I y < I x by rw [I_lt (by omega) (by omega) (by omega) (by omega)]; exact c)]
      exact congrArg I (by omega)
  unfold f_X5_formerPart
  rw [I_toInt (by omega) (by omega)]
  obtain rfl | rfl | rfl | rfl := hz
  · rw [if_pos rfl, show bO 0 n a b c = lo a b - c from rfl, ls a b (by omega) (by omega), lt_d, I_sub]
  · rw [if_neg (by decide), if_pos rfl, show bO 1 n a b c = lo a (b - c) from rfl, I_sub, ls a (b - c) (by omega) (by omega), lt_d]
  · rw [if_neg (by decide), if_neg (by decide), if_pos rfl, show bO 2 n a b c = lo (a - c) b from rfl, I_sub, ls (a - c) b (by omega) (by omega), lt_d]
  · have et : (if I n = I a then (if I a = I b then (1 : Int32) else (0 : Int32)) else (0 : Int32)) = I (tri n a b) := by
      unfold tri
      simp (disch := omega) only [↓j_m1, ↓j_m2, ↓j_m3, ↓j_m5, ↓j_m6, ↓j_m11, ↓j_m12, ↓j_m13, ↓j_m14, ↓j_m1000, j_0, j_1, j_2, j_3, j_4, j_5, j_6, j_7, j_8, j_9, j_10, j_12, j_14, j_20, j_25, j_26, j_28, j_30, j_36, j_48, j_49, j_50, j_53, j_57, j_59, j_60, j_63, j_75, j_80, j_99, j_100, j_196, j_255, j_1000, I_eq, I_ite]
    have t01 : 0 ≤ tri n a b ∧ tri n a b ≤ 1 := by
      unfold tri
      (repeat' split) <;> omega
    have lt1 : (if I (tri n a b) < I c then I (tri n a b) else I c) = I (lo (tri n a b) c) := by
      have l := lo_c (tri n a b) c
      by_cases d : tri n a b < c
      · rw [if_pos (show I (tri n a b) < I c by rw [I_lt (by omega) (by omega) (by omega) (by omega)]; exact d)]
        exact congrArg I (by omega)
      · rw [if_neg (show ¬ I (tri n a b) < I c by rw [I_lt (by omega) (by omega) (by omega) (by omega)]; exact d)]
        exact congrArg I (by omega)
    rw [if_neg (by decide), if_neg (by decide), if_neg (by decide), show bO 3 n a b c = lo a b - lo (tri n a b) c from rfl, ls a b (by omega) (by omega), lt_d, et, lt_d, lt1, lt_d, I_sub]
theorem s_goBackFrom {w : Wd} {t n a b : Nat} {q : Int} {sn sa sb : Nat → Int} {Wn Wa Wb : Int} (hW : Wi w.2) (hq : 0 ≤ q ∧ q ≤ 3) (kt : kd t = 5) (kn : kd n = 5) (ka : kd a = 5) (kb : kd b = 5) (nn : n ≠ t) (na : a ≠ t) (nb : b ≠ t) (Cn : ShC w n sn) (Ca : ShC w a sa) (Cb : ShC w b sb) (hn : Gs sn Wn) (hWn : Wn ≤ 75) (ha : Gs sa Wa) (hb : Gs sb Wb) (Sa : Sp (eC q) sa sn) (Sb : Sp (eR q) sb sn) :
    ∃ w', f_X5_goBackFrom t n a b (I q) w = some (I (bm q sn sa sb), w') ∧ w'.2 = w.2 ∧ ShC w' t (bo q sn sa sb) ∧ ∀ x y, ¬ (x = t ∧ (y = 1 ∨ y = 2)) → x ≠ t + 1 → w'.1 x y = w.1 x y := by
  obtain ⟨gO, gW, -, -, gm, gl⟩ := bk_ok hq hn hWn ha hb Sa Sb
  have all := bk_all hq hn hWn ha hb Sa Sb
  have hl := len_b sn
  have rt := hW.2.2.1 _ kt
  have kt1 := (kdS kt).2.1
  have kn1 := (kdS kn).2.1
  have ka1 := (kdS ka).2.1
  have kb1 := (kdS kb).2.1
  have d1 : n ≠ t + 1 := fun e => by rw [e, kt1] at kn; cases kn
  have d2 : a ≠ t + 1 := fun e => by rw [e, kt1] at ka; cases ka
  have d3 : b ≠ t + 1 := fun e => by rw [e, kt1] at kb; cases kb
  have e1 : n + 1 ≠ t := fun e => by rw [e, kt] at kn1; cases kn1
  have e2 : a + 1 ≠ t := fun e => by rw [e, kt] at ka1; cases ka1
  have e3 : b + 1 ≠ t := fun e => by rw [e, kt] at kb1; cases kb1
  have oz := fun k => (bo_z (q := q) (n := sn) (a := sa) (b := sb) (i := k))
  have tl := tsum_len gO
  generalize hO : bo q sn sa sb = o at *
  unfold f_X5_goBackFrom
  rw [Cn.1, lt_d, lt_d, upI_n (show ¬ (n = t ∧ 1 = 2) by omega), upI_n (show ¬ (n = t ∧ 1 = 1) by omega), Cn.1, lt_d, show I (len sn : Int) - (1 : Int32) = I ((len sn : Int) - 1) from I_sub _ 1]
  refine wl3_inv (Q := fun r => ∃ w' : Wd, r = some (I (bm q sn sa sb), w') ∧ w'.2 = w.2 ∧ ShC w' t o ∧ ∀ x y, ¬ (x = t ∧ (y = 1 ∨ y = 2)) → x ≠ t + 1 → w'.1 x y = w.1 x y) (len sn) (fun d x y (v : Wd) => x = I (bc q sn sa sb (len sn) d) ∧ y = I ((len sn : Int) - 1 - d) ∧ v.2 = w.2 ∧ v.1 t 1 = I ((if len o ≤ len sn - d then len sn - d else len o : Nat) : Int) ∧ v.1 t 2 = I (tsum o (len sn) - tsum o (len sn - d)) ∧ (∀ k, len sn - d ≤ k → k < len sn → v.1 (t + 1) k = I (o k)) ∧ ∀ x y, ¬ (x = t ∧ (y = 1 ∨ y = 2)) → x ≠ t + 1 → v.1 x y = w.1 x y) (fu_lt (by omega)) ?_ ?_ ?_
  · refine ⟨rfl, congrArg I (by omega), rfl, ?_, ?_, fun k h1 h2 => absurd h2 (by omega), fun x y h1 h2 => by rw [upI_n (by omega), upI_n (by omega)]⟩
    · rw [upI_n (by omega), upI_s, Nat.sub_zero, if_pos gl]
    · rw [upI_s, Nat.sub_zero, Int.sub_self]
      rfl
  · rintro d hd x y v ⟨rfl, rfl, hv2, hv3, hv4, hv5, hf⟩ k
    obtain ⟨A1, A2, A3⟩ := all d (by omega)
    obtain ⟨B1, B2, B3⟩ := all (d + 1) (by omega)
    have hWv : Wi v.2 := by rw [hv2]; exact hW
    have cn : ShC v n sn := Cn.of (fun b _ => hf _ _ (by omega) (by omega)) (fun b => hf _ _ (by omega) (by omega))
    have ca : ShC v a sa := Ca.of (fun b _ => hf _ _ (by omega) (by omega)) (fun b => hf _ _ (by omega) (by omega))
    have cb : ShC v b sb := Cb.of (fun b _ => hf _ _ (by omega) (by omega)) (fun b => hf _ _ (by omega) (by omega))
    have hbs := bc_s q sn sa sb d hd
    have hbd := bo_d (q := q) (a := sa) (b := sb) hd
    rw [hO] at hbs hbd
    have ei : (len sn : Int) - 1 - d = ((len sn - 1 - d : Nat) : Int) := by omega
    have et : tsum o (len sn - d) = tsum o (len sn - 1 - d) + o (len sn - 1 - d) := by
      rw [show len sn - d = (len sn - 1 - d) + 1 by omega]
      rfl
    have ed : len sn - (d + 1) = len sn - 1 - d := by omega
    have olen := len_p gO (len sn - 1 - d)
    rw [ed] at B1
    have bf := B1 (len sn - 1 - d) (Nat.le_refl _)
    unfold BF at bf
    rw [hO] at bf
    have nb := hn.b (len sn - 1 - d); have n0 := hn.1 (len sn - 1 - d); have a0 := ha.1 (len sn - 1 - d); have b0 := hb.1 (len sn - 1 - d); have a1 := Sa.1 (len sn - 1 - d); have b1 := Sb.1 (len sn - 1 - d)
    rw [ei]
    generalize hii : len sn - 1 - d = i at *
    rw [if_neg (show ¬ (I (i : Int) < 0) by rw [i0, I_lt (by omega) (by omega) (by omega) (by omega)]; omega), c1_r (s_partAt kn (hWv.2.2.1 _ kn) cn hn (by omega)), c1_r (s_partAt ka (hWv.2.2.1 _ ka) ca ha (by omega)), c1_r (s_partAt kb (hWv.2.2.1 _ kb) cb hb (by omega)), c1_r (s_formerPart hq (by omega) (by omega) (by omega) (by omega)), ← hbd, rf9 (hWv.2.2.1 _ kt) (kdS kt), (kdS kt).2.2, ix_d (by omega) (by omega) (by decide), lt_d, Int.toNat_natCast, upI_n (show ¬ (t = t + 1 ∧ 2 = i) by omega), hv4, I_add, lt_d, jn_d]
    have e4 : tsum o (len sn) - tsum o (len sn - d) + o i = tsum o (len sn) - tsum o i := by omega
    rw [e4]
    left
    have ey : (I (i : Int) + (-1 : Int32)) = I ((len sn : Int) - 1 - ((d + 1 : Nat) : Int)) := by rw [im1, I_add]; exact congrArg I (by omega)
    have ex : I (bc q sn sa sb (len sn) d) + (((I (sn i) + I (o i)) - I (sa i)) - I (sb i)) = I (bc q sn sa sb (len sn) (d + 1)) := by rw [I_add, I_sub, I_sub, I_add, hbs]
    have fr : ∀ u : Wd, (∀ x y, ¬ (x = t ∧ y = 1) → u.1 x y = (upI (upI v (t + 1) i (I (o i))) t 2 (I (tsum o (len sn) - tsum o i))).1 x y) → u.2 = v.2 → u.1 t 1 = I ((if len o ≤ i then i else len o : Nat) : Int) → ∃ t0 t1 t2, (t0 = I (bc q sn sa sb (len sn) (d + 1)) ∧ t1 = I ((len sn : Int) - 1 - ((d + 1 : Nat) : Int)) ∧ t2.2 = w.2 ∧ t2.1 t 1 = I ((if len o ≤ len sn - (d + 1) then len sn - (d + 1) else len o : Nat) : Int) ∧ t2.1 t 2 = I (tsum o (len sn) - tsum o (len sn - (d + 1))) ∧ (∀ k, len sn - (d + 1) ≤ k → k < len sn → t2.1 (t + 1) k = I (o k)) ∧ ∀ x y, ¬ (x = t ∧ (y = 1 ∨ y = 2)) → x ≠ t + 1 → t2.1 x y = w.1 x y) ∧ lt (I (bc q sn sa sb (len sn) d) + (((I (sn i) + I (o i)) - I (sa i)) - I (sb i))) (fun x27 => lt (I (i : Int) + (-1 : Int32)) (fun x29 => k x27 x29 u)) = k t0 t1 t2 := fun u hu hu2 hu1 => by
      refine ⟨_, _, u, ⟨rfl, rfl, by rw [hu2, hv2], ?_, ?_, fun kk h1 h2 => ?_, fun x y h1 h2 => ?_⟩, by rw [lt_d, lt_d, ex, ey]⟩
      · rw [ed]; exact hu1
      · rw [ed, hu _ _ (by omega), upI_s]
      · rw [hu _ _ (by omega), upI_n (by omega)]
        by_cases e : kk = i
        · subst e; rw [upI_s]
        · rw [upI_n (by omega)]; exact hv5 kk (by omega) h2
      · rw [hu _ _ (by omega), upI_n (by omega), upI_n (by omega)]; exact hf x y h1 h2
    have q1 : (upI (upI v (t + 1) i (I (o i))) t 2 (I (tsum o (len sn) - tsum o i))).1 t 1 = I ((if len o ≤ len sn - d then len sn - d else len o : Nat) : Int) := by rw [upI_n (by omega), upI_n (by omega), hv3]
    rw [q1]
    by_cases z : o i = 0
    · have lo' : len o ≤ i := by omega
      rw [if_pos (show I (o i) = 0 by rw [z]; rfl), if_pos (show len o ≤ len sn - d by omega), if_pos (show I ((len sn - d : Nat) : Int) = I (i : Int) + (1 : Int32) by rw [i1, I_add]; exact congrArg I (by omega)), lt_d]
      exact fr (upI (upI (upI v (t + 1) i (I (o i))) t 2 (I (tsum o (len sn) - tsum o i))) t 1 (I (i : Int))) (fun x y h => upI_n h) rfl (by rw [upI_s, if_pos lo'])
    · have lo' : ¬ len o ≤ i := by omega
      rw [if_neg (show ¬ I (o i) = 0 by rw [i0, I_eq (by omega) (by omega) (by omega) (by omega)]; exact z)]
      refine fr _ (fun x y _ => rfl) rfl ?_
      rw [q1, if_neg lo']
      congr 2
      split <;> omega
  · rintro x y v ⟨rfl, rfl, hv2, hv3, hv4, hv5, hf⟩ k
    rw [if_pos (show I ((len sn : Int) - 1 - (len sn : Int)) < 0 by rw [i0, I_lt (by omega) (by omega) (by omega) (by omega)]; omega)]
    rw [Nat.sub_self] at hv3 hv4 hv5
    refine ⟨v, rfl, hv2, ⟨?_, ?_, fun k hk => hv5 k (by omega) (by omega)⟩, hf⟩
    · rw [hv3]
      congr 2
      split <;> omega
    · have key : ∀ d, tsum o (len sn + d) = tsum o (len sn) := fun d => by
        induction d with
        | zero => rfl
        | succ d ih =>
          show tsum o (len sn + d) + o (len sn + d) = _
          rw [ih, oz _ (by omega)]
          omega
      have k75 := key (75 - len sn)
      rw [show len sn + (75 - len sn) = 75 by omega] at k75
      rw [hv4, k75]
      exact congrArg I (by show tsum o (len sn) - 0 = _; omega)


/-! unlike, by the model -/
def FI (g : Gd) (i t : Nat) (x : Int32) : Prop := (x = I 1 ∧ ∀ k, k < t → Al g k i → i ≤ k) ∨ (x = I 0 ∧ ∃ k, k < t ∧ Al g k i ∧ k < i)
theorem m_unlike {w w2 : Wd} {g : Gd} {z : Int} (hz : 0 ≤ z ∧ z ≤ 1) (hW : Wi w2.2) (hv : GV g) (hm : MG w2 g) (h : MwC w2 g) (hg : f_X8_growsAll 139 w = some w2) : ∃ m, MaxN (cl g) (nc g) m ∧ f_X8_unlike 139 (I z) w = some (I (if z = 0 then ((nb (fst1 g) (nc g) : Nat) : Int) else ((m : Nat) : Int)), w2) := by
  obtain ⟨C, R, hC, hR, C5, R5, C1, R1, enR, enc, b36⟩ := dims hv
  unfold f_X8_unlike
  rw [l0, l1, c1_r (m_chk (by omega) (by omega) (by omega)), if_pos hz, if_neg n10, c1_r hg, hm.1, hm.2.1, hC, hR]
  refine wl3_inv (Q := fun r => ∃ m, MaxN (cl g) (nc g) m ∧ r = some (I (if z = 0 then ((nb (fst1 g) (nc g) : Nat) : Int) else ((m : Nat) : Int)), w2)) (C + 1) (fun x s t q => s = I ((nb (fst1 g) (x * (R + 1)) : Nat) : Int) ∧ (∃ m : Nat, m ≤ 100 ∧ MaxN (cl g) (x * (R + 1)) m ∧ t = I m) ∧ q = I x) (fu_lt (by omega)) ?_ ?_ ?_
  · exact ⟨by rw [Nat.zero_mul]; rfl, ⟨0, by omega, ⟨fun j hj => absurd hj (by omega), Or.inl rfl⟩, rfl⟩, rfl⟩
  · rintro x hx s t q ⟨rfl, ⟨m, hm1, hm2, rfl⟩, rfl⟩ k1
    rw [if_neg (show ¬ (I (C : Int) < I (x : Int)) by rw [I_lt (by omega) (by omega) (by omega) (by omega)]; omega)]
    left
    refine wl3_inv (Q := fun r => ∃ t0 t1 t2, (t0 = I ((nb (fst1 g) ((x + 1) * (R + 1)) : Nat) : Int) ∧ (∃ m : Nat, m ≤ 100 ∧ MaxN (cl g) ((x + 1) * (R + 1)) m ∧ t1 = I m) ∧ t2 = I ((x + 1 : Nat) : Int)) ∧ r = k1 t0 t1 t2) (R + 1) (fun y s t q => s = I ((nb (fst1 g) (x * (R + 1) + y) : Nat) : Int) ∧ (∃ m : Nat, m ≤ 100 ∧ MaxN (cl g) (x * (R + 1) + y) m ∧ t = I m) ∧ q = I y) (fu_lt (by omega)) ?_ ?_ ?_
    · exact ⟨rfl, ⟨m, hm1, hm2, rfl⟩, rfl⟩
    · rintro y hy s t q ⟨rfl, ⟨m, hm1, hm2, rfl⟩, rfl⟩ k2
      have hidx := idx_b hx hy
      have hdm := dm (x := x) (y := y) (n := R + 1) hy
      have shi : sh g (x * (R + 1) + y) = Sg g x y := by unfold sh; rw [enR, hdm.1, hdm.2]
      have nf := nb_n (fst1 g) (x * (R + 1) + y)
      rw [if_neg (show ¬ (I (R : Int) < I (y : Int)) by rw [I_lt (by omega) (by omega) (by omega) (by omega)]; omega)]
      left
      refine wl3_inv (Q := fun r => ∃ t0 t1 t2, (t0 = I ((nb (fst1 g) (x * (R + 1) + (y + 1)) : Nat) : Int) ∧ (∃ m : Nat, m ≤ 100 ∧ MaxN (cl g) (x * (R + 1) + (y + 1)) m ∧ t1 = I m) ∧ t2 = I ((y + 1 : Nat) : Int)) ∧ r = k2 t0 t1 t2) (C + 1) (fun a s t q => s = I ((nb (fun q => Al g q (x * (R + 1) + y)) (a * (R + 1)) : Nat) : Int) ∧ FI g (x * (R + 1) + y) (a * (R + 1)) t ∧ q = I a) (fu_lt (by omega)) ?_ ?_ ?_
      · exact ⟨by rw [Nat.zero_mul]; rfl, Or.inl ⟨rfl, fun k hk => absurd hk (by omega)⟩, rfl⟩
      · rintro a ha s t q ⟨rfl, hf, rfl⟩ k3
        have hia := idx_b ha (show 0 < R + 1 by omega)
        rw [if_neg (show ¬ (I (C : Int) < I (a : Int)) by rw [I_lt (by omega) (by omega) (by omega) (by omega)]; omega)]
        left
        refine wl3_inv (Q := fun r => ∃ t0 t1 t2, (t0 = I ((nb (fun q => Al g q (x * (R + 1) + y)) ((a + 1) * (R + 1)) : Nat) : Int) ∧ FI g (x * (R + 1) + y) ((a + 1) * (R + 1)) t1 ∧ t2 = I ((a + 1 : Nat) : Int)) ∧ r = k3 t0 t1 t2) (R + 1) (fun b s t q => s = I ((nb (fun q => Al g q (x * (R + 1) + y)) (a * (R + 1) + b) : Nat) : Int) ∧ FI g (x * (R + 1) + y) (a * (R + 1) + b) t ∧ q = I b) (fu_lt (by omega)) ?_ ?_ ?_
        · exact ⟨rfl, hf, rfl⟩
        · rintro b hb s t q ⟨rfl, hf2, rfl⟩ k4
          have hdm2 := dm (x := a) (y := b) (n := R + 1) hb
          have shb : sh g (a * (R + 1) + b) = Sg g a b := by unfold sh; rw [enR, hdm2.1, hdm2.2]
          have lx := lexI (a := a) (x := x) hb hy
          have n2 := nb_n (fun q => Al g q (x * (R + 1) + y)) (a * (R + 1) + b)
          have hib := idx_b ha hb
          obtain ⟨z', z1, z2⟩ := m_compares (a := a) (b := b) (c := x) (d := y) hW hv h (by omega) (by omega) (by omega) (by omega)
          rw [← shi, ← shb] at z2
          left
          rw [if_neg (show ¬ (I (R : Int) < I (b : Int)) by rw [I_lt (by omega) (by omega) (by omega) (by omega)]; omega), c1_r (m_from _ _), c1_r (m_from _ _), c1_r z1, jn_d]
          by_cases f : Al g (a * (R + 1) + b) (x * (R + 1) + y)
          · have e0 : z' = 0 := by
              obtain ⟨-, q⟩ | ⟨q, -⟩ | ⟨-, q⟩ := z2
              · exact absurd f (big_n q)
              · exact q
              · exact absurd (Al_s f) (big_n q)
            rw [if_pos (show I z' = 0 by rw [e0]; rfl), lt_d, lt_d]
            have fx : ∀ t, FI g (x * (R + 1) + y) (a * (R + 1) + b) t → FI g (x * (R + 1) + y) (a * (R + 1) + (b + 1)) (if t = 0 then (0 : Int32) else (if I (x : Int) < I (a : Int) then (1 : Int32) else (if I (a : Int) = I (x : Int) then (if I (b : Int) < I (y : Int) then (0 : Int32) else (1 : Int32)) else (0 : Int32)))) := fun t ht => by
              obtain ⟨rfl, ht⟩ | ⟨rfl, k', q1, q2, q3⟩ := ht
              · rw [if_neg n10]
                by_cases c : a * (R + 1) + b < x * (R + 1) + y
                · have c' := lx.1 c
                  have ev : (if I (x : Int) < I (a : Int) then (1 : Int32) else (if I (a : Int) = I (x : Int) then (if I (b : Int) < I (y : Int) then (0 : Int32) else (1 : Int32)) else (0 : Int32))) = I 0 := by
                    rw [if_neg (show ¬ (I (x : Int) < I (a : Int)) by rw [I_lt (by omega) (by omega) (by omega) (by omega)]; omega)]
                    by_cases d : a = x
                    · rw [if_pos (show I (a : Int) = I (x : Int) by rw [d]), if_pos (show I (b : Int) < I (y : Int) by rw [I_lt (by omega) (by omega) (by omega) (by omega)]; omega)]; rfl
                    · rw [if_neg (show ¬ (I (a : Int) = I (x : Int)) by rw [I_eq (by omega) (by omega) (by omega) (by omega)]; omega)]; rfl
                  rw [ev]
                  exact Or.inr ⟨rfl, a * (R + 1) + b, by omega, f, c⟩
                · have c' : ¬ (a < x ∨ (a = x ∧ b < y)) := fun q => c (lx.2 q)
                  have ev : (if I (x : Int) < I (a : Int) then (1 : Int32) else (if I (a : Int) = I (x : Int) then (if I (b : Int) < I (y : Int) then (0 : Int32) else (1 : Int32)) else (0 : Int32))) = I 1 := by
                    by_cases d : x < a
                    · rw [if_pos (show I (x : Int) < I (a : Int) by rw [I_lt (by omega) (by omega) (by omega) (by omega)]; omega)]; rfl
                    · rw [if_neg (show ¬ (I (x : Int) < I (a : Int)) by rw [I_lt (by omega) (by omega) (by omega) (by omega)]; omega), if_pos (show I (a : Int) = I (x : Int) by rw [show a = x by omega]), if_neg (show ¬ (I (b : Int) < I (y : Int)) by rw [I_lt (by omega) (by omega) (by omega) (by omega)]; omega)]; rfl
                  rw [ev]
                  refine Or.inl ⟨rfl, fun k hk q => ?_⟩
                  by_cases e : k = a * (R + 1) + b
                  · omega
                  · exact ht k (by omega) q
              · rw [if_pos z00]
                exact Or.inr ⟨rfl, k', by omega, q2, q3⟩
            refine ⟨I ((nb (fun q => Al g q (x * (R + 1) + y)) (a * (R + 1) + (b + 1)) : Nat) : Int), _, I ((b + 1 : Nat) : Int), ⟨rfl, fx t hf2, rfl⟩, ?_⟩
            rw [i1, I_add, I_add, nS]
            show lt _ _ = _
            rw [lt_d, show a * (R + 1) + (b + 1) = a * (R + 1) + b + 1 by omega, nb_t (P := fun q => Al g q (x * (R + 1) + y)) f, nS]
          · have e0 : z' = 1 ∨ z' = -1 := by
              obtain ⟨q, -⟩ | ⟨-, q⟩ | ⟨q, -⟩ := z2
              · exact Or.inl q
              · exact absurd q f
              · exact Or.inr q
            rw [if_neg (show ¬ (I z' = 0) by rw [i0, I_eq (by omega) (by omega) (by omega) (by omega)]; omega)]
            refine ⟨I ((nb (fun q => Al g q (x * (R + 1) + y)) (a * (R + 1) + (b + 1)) : Nat) : Int), t, I ((b + 1 : Nat) : Int), ⟨rfl, ?_, rfl⟩, ?_⟩
            · obtain ⟨e, ht⟩ | ⟨e, k', q1, q2, q3⟩ := hf2
              · refine Or.inl ⟨e, fun k hk q => ?_⟩
                by_cases e : k = a * (R + 1) + b
                · subst e; exact absurd q f
                · exact ht k (by omega) q
              · exact Or.inr ⟨e, k', by omega, q2, q3⟩
            · show lt _ _ = _
              rw [lt_d, i1, I_add, nS, show a * (R + 1) + (b + 1) = a * (R + 1) + b + 1 by omega, nb_f (P := fun q => Al g q (x * (R + 1) + y)) f]
        · rintro s t q ⟨rfl, hf2, rfl⟩ k4
          rw [if_pos (show I (R : Int) < I ((R + 1 : Nat) : Int) by rw [I_lt (by omega) (by omega) (by omega) (by omega)]; omega), lt_d, i1, I_add, nS]
          exact ⟨_, _, _, ⟨by rw [Nat.succ_mul], by rw [Nat.succ_mul]; exact hf2, rfl⟩, rfl⟩
      · rintro s t q ⟨rfl, hf, rfl⟩ k3
        have n1 := nb_n (fun q => Al g q (x * (R + 1) + y)) ((C + 1) * (R + 1))
        have ecl : nb (fun q => Al g q (x * (R + 1) + y)) ((C + 1) * (R + 1)) = cl g (x * (R + 1) + y) := by rw [← enc]; rfl
        rw [ecl] at n1
        rw [← enc] at hf
        rw [if_pos (show I (C : Int) < I ((C + 1 : Nat) : Int) by rw [I_lt (by omega) (by omega) (by omega) (by omega)]; omega), ecl, lt_d, lt_d]
        have mx' := MaxN_s hm2
        have emax : (if I ((cl g (x * (R + 1) + y) : Nat) : Int) ≤ I (m : Int) then I (m : Int) else I ((cl g (x * (R + 1) + y) : Nat) : Int)) = I ((if cl g (x * (R + 1) + y) ≤ m then m else cl g (x * (R + 1) + y) : Nat) : Int) := by
          by_cases c : cl g (x * (R + 1) + y) ≤ m
          · rw [if_pos c, if_pos (show I ((cl g (x * (R + 1) + y) : Nat) : Int) ≤ I (m : Int) by rw [I_le (by omega) (by omega) (by omega) (by omega)]; omega)]
          · rw [if_neg c, if_neg (show ¬ (I ((cl g (x * (R + 1) + y) : Nat) : Int) ≤ I (m : Int)) by rw [I_le (by omega) (by omega) (by omega) (by omega)]; omega)]
        have efst : I ((nb (fst1 g) (x * (R + 1) + y) : Nat) : Int) + (if t = 0 then (0 : Int32) else (1 : Int32)) = I ((nb (fst1 g) (x * (R + 1) + (y + 1)) : Nat) : Int) := by
          obtain ⟨rfl, ht⟩ | ⟨rfl, k', q1, q2, q3⟩ := hf
          · rw [if_neg n10, i1, I_add, nS, show x * (R + 1) + (y + 1) = x * (R + 1) + y + 1 by omega, nb_t (P := fst1 g) ht]
          · rw [if_pos z00, i0, I_add, Int.add_zero, show x * (R + 1) + (y + 1) = x * (R + 1) + y + 1 by omega, nb_f (P := fst1 g) (fun f => by have := f k' q1 q2; omega)]
        rw [emax, efst, lt_d, lt_d, i1, I_add, nS]
        exact ⟨_, _, _, ⟨rfl, ⟨_, by split <;> omega, mx', rfl⟩, rfl⟩, rfl⟩
    · rintro s t q ⟨rfl, ⟨m, hm1, hm2, rfl⟩, rfl⟩ k2
      rw [if_pos (show I (R : Int) < I ((R + 1 : Nat) : Int) by rw [I_lt (by omega) (by omega) (by omega) (by omega)]; omega), lt_d, i1, I_add, nS]
      exact ⟨_, _, _, ⟨by rw [Nat.succ_mul], ⟨m, hm1, by rw [Nat.succ_mul]; exact hm2, rfl⟩, rfl⟩, rfl⟩
  · rintro s t q ⟨rfl, ⟨m, hm1, hm2, rfl⟩, rfl⟩ k1
    rw [← enc] at hm2
    refine ⟨m, hm2, ?_⟩
    rw [if_pos (show I (C : Int) < I ((C + 1 : Nat) : Int) by rw [I_lt (by omega) (by omega) (by omega) (by omega)]; omega), ← enc, lt_d]
    by_cases e : z = 0
    · rw [if_pos (show I z = 0 by rw [e]; rfl), if_pos e]
    · rw [if_neg (show ¬ (I z = 0) by rw [i0, I_eq (by omega) (by omega) (by omega) (by omega)]; exact e), if_neg e]
theorem op_unlike {z : Int} (hz : -2147483648 ≤ z ∧ z < 2147483648) : Op2 (f_X7_unlike 0 (I z)) (f_X8_unlike 139 (I z)) := by
  rintro w ⟨g, p, u, G, H⟩
  have hv := H.2.1.1
  by_cases c : 0 ≤ z ∧ z ≤ 1
  · obtain ⟨w1, k1, H1, g1, o2, σ, o3⟩ := ordC H
    obtain ⟨w2, m1, H2, m3, m4, m5⟩ := growsM H1
    obtain ⟨m, f1, f2⟩ := m_unlike (w := w1) c H2.1 hv H2.2.1.2.2 m3 m1
    have srt : Srt g σ := fun j hj => ⟨(o3 j hj).1, (o3 j hj).2.1⟩
    have o4 : ∀ j, j < nc g → w1.1 83 j = I (cod g (σ j)) := fun j hj => (o3 j hj).2.2
    refine ⟨_, w1, w2, ?_, f2, g, p, u, G, H2⟩
    unfold f_X7_unlike
    rw [if_neg (show ¬ (I z < 0) by rw [i0, I_lt (by omega) (by omega) (by omega) (by omega)]; omega), if_pos (show I z ≤ (1 : Int32) by rw [i1, I_le (by omega) (by omega) (by omega) (by omega)]; omega)]
    by_cases e : z = 0
    · obtain ⟨w0, e1, e2⟩ := k1 (fun v12 w13 => ck 153 v12 1 (c2 (f_X1_unlikeShapes v12 w13) (fun v16 w17 => some (v16, w17))))
      rw [if_pos (show I z = 0 by rw [e]; rfl), e1, ckc kd_7 (by decide), c2_r (s_unlike H1.1 hv g1 e2 o2 srt o4), if_pos e]
    · obtain ⟨w0, e1, e2⟩ := k1 (fun v5 w6 => ck 153 v5 1 (c2 (f_X1_mostAlike v5 w6) (fun v9 w10 => some (v9, w10))))
      obtain ⟨m', q1, q2⟩ := s_mostAlike H1.1 hv g1 e2 o2 srt o4
      rw [if_neg (show ¬ (I z = 0) by rw [i0, I_eq (by omega) (by omega) (by omega) (by omega)]; exact e), e1, ckc kd_7 (by decide), c2_r q1, if_neg e, MaxN_e q2 f1 (fun j hj => ⟨σ j, (srt j hj).1, run_a srt hj⟩) (fun j hj => run_b hv srt hj)]
  · refine ⟨(-1 : Int32), w, w, ?_, ?_, g, p, u, G, H⟩
    · unfold f_X7_unlike
      by_cases e : z < 0
      · rw [if_pos (show I z < 0 by rw [i0, I_lt (by omega) (by omega) (by omega) (by omega)]; omega)]
      · rw [if_neg (show ¬ (I z < 0) by rw [i0, I_lt (by omega) (by omega) (by omega) (by omega)]; omega), if_neg (show ¬ (I z ≤ (1 : Int32)) by rw [i1, I_le (by omega) (by omega) (by omega) (by omega)]; omega)]
    · unfold f_X8_unlike
      rw [l0, l1, c1_r (m_chk hz (by omega) (by omega)), if_neg c, if_pos z00]

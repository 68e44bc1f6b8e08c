/-! union, in the mirror -/
theorem m_union {v : Wd} {g : Gd} {C R kd k c : Nat} {w : List Nat} (hW : Wi v.2) (hv : GV g) (hm : MG v g) (hC : g 0 = C) (hR : g 1 = R) (hk : 1 ≤ k ∧ k ≤ 5) (hkd : kd = 1 ∨ kd = 3) (hM : Mark g C R) (hD : MkD g C R w) (hU : UBd kd w C c) :
    ∃ v' : Wd, f_X8_union 139 (I (k : Int)) (I (kd : Int)) v = some (I ((PP kd c k : Nat) : Int), v') ∧ v'.2 = v.2 ∧ ∀ a b, a ≠ 146 → a ≠ 147 → v'.1 a b = v.1 a b := by
  have v1 := hv.1; have v2 := hv.2.1
  have hC5 : C ≤ 5 := by omega
  have hw5 : ∀ x, x < C → w.getD x 0 ≤ R := hD.2.2
  have ek : ∀ {κ : Type} (F b : Option κ), jn F (fun j => if I (kd : Int) = (1 : Int32) then j else if I (kd : Int) = (3 : Int32) then j else b) = F := fun F b => by
    rw [jn_d]
    obtain rfl | rfl := hkd
    · rw [if_pos (show I ((1 : Nat) : Int) = (1 : Int32) from rfl)]
    · rw [if_neg (show ¬ (I ((3 : Nat) : Int) = (1 : Int32)) by decide), if_pos (show I ((3 : Nat) : Int) = (3 : Int32) from rfl)]
  unfold f_X8_union
  rw [l1, l5, c1_r (m_chk (show -2147483648 ≤ (k : Int) ∧ (k : Int) < 2147483648 by omega) (by omega) (by omega)), if_pos (show 1 ≤ (k : Int) ∧ (k : Int) ≤ 5 by omega), if_neg n10, ek]
  obtain ⟨q1, -⟩ | ⟨-, q2⟩ := m_isMarked hW hv hm hC hR
  case inr => exact absurd hM q2
  rw [c1_r q1, if_neg n10]
  have e11 : ∀ (u' : Wd), u'.2 = v.2 → ∀ {ρ : Type} (K : Nat → Option ρ), rf 153 (u'.2 139 11) 9 K = K 146 := fun u' h => fun K => rfc (by rw [h]; exact hW.m11) kd_146 (by decide) K
  have e3 : ∀ (u' : Wd), u'.2 = v.2 → ∀ {ρ : Type} (K : Nat → Option ρ), rf 153 (u'.2 139 3) 9 K = K 140 := fun u' h => fun K => rfc (by rw [h]; exact hW.m3) kd_140 (by decide) K
  refine wl3_inv (Q := fun r => ∃ v' : Wd, r = some (I ((PP kd c k : Nat) : Int), v') ∧ v'.2 = v.2 ∧ ∀ a b, a ≠ 146 → a ≠ 147 → v'.1 a b = v.1 a b) C (fun i x y (u : Wd) => x = I ((allc w i : Nat) : Int) ∧ y = I ((i : Int) + 1) ∧ u.2 = v.2 ∧ (∀ x, x < i → u.1 146 (x + 1) = I ((w.getD x 0 : Nat) : Int)) ∧ ∀ a b, a ≠ 146 → a ≠ 147 → u.1 a b = v.1 a b) (fu_lt (by omega)) ?_ ?_ ?_
  · exact ⟨rfl, rfl, rfl, fun x hx => absurd hx (by omega), fun _ _ _ _ => rfl⟩
  · rintro i hi x y u ⟨rfl, rfl, hu2, hua, hf⟩ k1
    have ix1 : ∀ {ρ : Type} (K : Nat → Option ρ), ix (I ((i : Int) + 1)) (ln 146) K = K (i + 1) := fun K => by rw [ln_146, ix_d (by omega) (by omega) (by decide), show ((i : Int) + 1).toNat = i + 1 by omega]
    have wi := hw5 i hi
    rw [hf 139 0 (by omega) (by omega), hm.1, hC, if_neg (show ¬ (I (C : Int) < I ((i : Int) + 1)) by rw [I_lt (by omega) (by omega) (by omega) (by omega)]; omega), e11 u hu2, ix1, lt_d]
    left
    refine wl2_inv (Q := fun r => ∃ t0 t1 t2, (t0 = I ((allc w (i + 1) : Nat) : Int) ∧ t1 = I (((i + 1 : Nat) : Int) + 1) ∧ t2.2 = v.2 ∧ (∀ x, x < i + 1 → t2.1 146 (x + 1) = I ((w.getD x 0 : Nat) : Int)) ∧ ∀ a b, a ≠ 146 → a ≠ 147 → t2.1 a b = v.1 a b) ∧ r = k1 t0 t1 t2) R (fun j x (u' : Wd) => x = I ((j : Int) + 1) ∧ u'.2 = v.2 ∧ (∃ e : Nat, u'.1 146 (i + 1) = I (e : Int) ∧ (w.getD i 0 ≤ j → e = w.getD i 0) ∧ (j < w.getD i 0 → e = 0)) ∧ ∀ a b, (a ≠ 146 ∨ b ≠ i + 1) → u'.1 a b = u.1 a b) (fu_lt (by omega)) ?_ ?_ ?_
    · exact ⟨rfl, hu2, ⟨0, by rw [upI_s]; rfl, fun h => by omega, fun _ => rfl⟩, fun a b h => by rw [upI_n (by omega)]⟩
    · rintro j hj x u' ⟨rfl, h1, ⟨e, h2, h3, h4⟩, h5⟩ k2
      left
      have jx : ∀ {ρ : Type} (K : Nat → Option ρ), ix (I (5 * ((i : Int) + 1 - 1) + ((j : Int) + 1) - 1)) (ln 140) K = K (5 * i + j) := fun K => by rw [ln_140, ix_d (by omega) (by omega) (by decide), show (5 * ((i : Int) + 1 - 1) + ((j : Int) + 1) - 1).toNat = 5 * i + j by omega]
      have eg : u'.1 140 (5 * i + j) = I (g (3 + (5 * i + j))) := by rw [h5 _ _ (by omega), hf _ _ (by omega) (by omega)]; exact hm.2.2.2 _ (by omega)
      have gd := hD.2.1 i hi j hj
      rw [h5 139 1 (by omega), hf 139 1 (by omega) (by omega), hm.2.1, hR, if_neg (show ¬ (I (R : Int) < I ((j : Int) + 1)) by rw [I_lt (by omega) (by omega) (by omega) (by omega)]; omega)]
      simp only [jn_d, lt_d, e11 u' h1, e3 u' h1, c1_r (m_at ((i : Int) + 1) ((j : Int) + 1)), jx, ix1, eg]
      by_cases c1 : w.getD i 0 = j + 1
      · rw [if_pos c1] at gd
        rw [gd, if_pos (show I 1 = (1 : Int32) from rfl)]
        refine ⟨_, upI u' 146 (i + 1) (I ((j : Int) + 1)), ⟨rfl, h1, ⟨j + 1, by rw [upI_s]; rfl, fun _ => c1.symm, fun h => by omega⟩, fun a b h => by rw [upI_n (by omega)]; exact h5 a b h⟩, by rw [i1, I_add]; rfl⟩
      · rw [if_neg c1] at gd
        rw [gd, if_neg (show ¬ (I 0 = (1 : Int32)) by decide)]
        refine ⟨_, upI u' 146 (i + 1) (u'.1 146 (i + 1)), ⟨rfl, h1, ⟨e, by rw [upI_s]; exact h2, fun h => by
          by_cases q : w.getD i 0 ≤ j
          · exact h3 q
          · omega, fun h => h4 (by omega)⟩, fun a b h => by rw [upI_n (by omega)]; exact h5 a b h⟩, by rw [i1, I_add]; rfl⟩
    · rintro x u' ⟨rfl, h1, ⟨e, h2, h3, -⟩, h5⟩ k2
      have ee := h3 wi
      subst ee
      obtain ⟨b1, b2, -⟩ := allc_b w i (by omega)
      rw [h5 139 1 (by omega), hf 139 1 (by omega) (by omega), hm.2.1, hR, if_pos (show I (R : Int) < I ((R : Int) + 1) by rw [I_lt (by omega) (by omega) (by omega) (by omega)]; omega), e11 u' h1, ix1, h2]
      have ea : I ((allc w i : Nat) : Int) ||| (if I ((w.getD i 0 : Nat) : Int) ≤ 0 then (0 : Int32) else (1 : Int32) <<< (I ((i : Int) + 1) &&& 31)) = I ((allc w (i + 1) : Nat) : Int) := by
        show _ = I ((allc w i + (if 0 < w.getD i 0 then 2 ^ (i + 1) else 0) : Nat) : Int)
        by_cases c1 : 0 < w.getD i 0
        · rw [if_pos c1, if_neg (show ¬ (I ((w.getD i 0 : Nat) : Int) ≤ 0) by rw [i0, I_le (by omega) (by omega) (by omega) (by omega)]; omega)]
          have sb := shl_b (i + 1) (by omega)
          rw [show ((i + 1 : Nat) : Int) = (i : Int) + 1 from rfl] at sb
          rw [sb]
          exact or_b (i + 1) (by omega) _ b1
        · rw [if_neg c1, if_pos (show I ((w.getD i 0 : Nat) : Int) ≤ 0 by rw [i0, I_le (by omega) (by omega) (by omega) (by omega)]; omega)]
          exact or_z _ b2
      rw [lt_d, lt_d, lt_d, ea]
      refine ⟨_, _, u', ⟨rfl, rfl, h1, fun x hx => ?_, fun a b h h' => by rw [h5 a b (by omega)]; exact hf a b h h'⟩, by rw [i1, I_add]; rfl⟩
      by_cases d : x = i
      · subst d; exact h2
      · rw [h5 _ _ (by omega)]; exact hua x (by omega)
  · rintro x y u ⟨rfl, rfl, hu2, hua, hf⟩ k1
    obtain ⟨b1, b2, -⟩ := allc_b w C hC5
    rw [hf 139 0 (by omega) (by omega), hm.1, hC, if_pos (show I (C : Int) < I ((C : Int) + 1) by rw [I_lt (by omega) (by omega) (by omega) (by omega)]; omega)]
    refine wl3_inv (Q := fun r => ∃ v' : Wd, r = some (I ((PP kd c k : Nat) : Int), v') ∧ v'.2 = v.2 ∧ ∀ a b, a ≠ 146 → a ≠ 147 → v'.1 a b = v.1 a b) (allc w C + 1) (fun s x y (u' : Wd) => (∃ b : Nat, x = I (b : Int) ∧ b ≤ 5 ∧ (∀ s', s' < s → okS kd w C k s' → pcs (s' / 2) C ≤ b) ∧ (b = 0 ∨ ∃ s', s' < s ∧ okS kd w C k s' ∧ pcs (s' / 2) C = b)) ∧ y = I (s : Int) ∧ u'.2 = v.2 ∧ ∀ a b, a ≠ 147 → u'.1 a b = u.1 a b) (fu_lt (by omega)) ?_ ?_ ?_
    · exact ⟨⟨0, rfl, by omega, fun s' h => absurd h (by omega), Or.inl rfl⟩, rfl, hu2, fun _ _ _ => rfl⟩
    · rintro s hs x y u' ⟨⟨b, rfl, hb5, hb1, hb2⟩, rfl, h1, h5⟩ k2
      left
      have fin : ∀ (u'' : Wd) (b' : Nat), u''.2 = v.2 → (∀ a b, a ≠ 147 → u''.1 a b = u.1 a b) → b' ≤ 5 → b ≤ b' → (okS kd w C k s → pcs (s / 2) C ≤ b') → (b' = b ∨ (okS kd w C k s ∧ pcs (s / 2) C = b')) → ∃ t0 t1 t2, ((∃ b : Nat, t0 = I (b : Int) ∧ b ≤ 5 ∧ (∀ s', s' < s + 1 → okS kd w C k s' → pcs (s' / 2) C ≤ b) ∧ (b = 0 ∨ ∃ s', s' < s + 1 ∧ okS kd w C k s' ∧ pcs (s' / 2) C = b)) ∧ t1 = I ((s + 1 : Nat) : Int) ∧ t2.2 = v.2 ∧ ∀ a b, a ≠ 147 → t2.1 a b = u.1 a b) ∧ lt (I (s : Int) + (1 : Int32)) (fun x25 => k2 (I (b' : Int)) x25 u'') = k2 t0 t1 t2 := fun u'' b' f1 f2 f3 f4 f5 f6 => by
        refine ⟨_, _, u'', ⟨⟨b', rfl, f3, fun s' h o => ?_, ?_⟩, rfl, f1, f2⟩, by rw [lt_d, i1, I_add]; rfl⟩
        · by_cases d : s' = s
          · subst d; exact f5 o
          · have := hb1 s' (by omega) o; omega
        · obtain rfl | ⟨o, f⟩ := f6
          · obtain z | ⟨s', t1, t2, t3⟩ := hb2
            · exact Or.inl z
            · exact Or.inr ⟨s', by omega, t2, t3⟩
          · exact Or.inr ⟨s, by omega, o, f⟩
      rw [if_neg (show ¬ (I ((allc w C : Nat) : Int) < I (s : Int)) by rw [I_lt (by omega) (by omega) (by omega) (by omega)]; omega), jn_d]
      by_cases c1 : sub6 s (allc w C)
      · obtain ⟨u2, n1, n2, n3⟩ := m_needs (v := u') (C := C) (kd := kd) (s := s) (w := w) (by rw [h1]; exact hW) (by rw [h5 _ _ (by omega), hf _ _ (by omega) (by omega), hm.1, hC]) hC5 (by omega) hkd (fun x hx => by rw [h5 _ _ (by omega)]; exact hua x hx) (fun x hx => by have := hw5 x hx; omega)
        have n2' : u2.2 = v.2 := n2.trans h1
        have n3' : ∀ a b, a ≠ 147 → u2.1 a b = u.1 a b := fun a b h => by rw [n3 a b h]; exact h5 a b h
        have nb : needs kd w (s / 2) C < 100 := by
          have := needs_b kd w (s / 2) C (by omega)
          omega
        rw [if_pos (show (I (s : Int) &&& (I ((allc w C : Nat) : Int) ^^^ (-1 : Int32))) = 0 from c1), c2_r n1]
        by_cases c2 : needs kd w (s / 2) C ≤ k
        · rw [if_pos (show I ((needs kd w (s / 2) C : Nat) : Int) ≤ I (k : Int) by rw [I_le (by omega) (by omega) (by omega) (by omega)]; omega)]
          refine wl2_inv (Q := fun r => ∃ t0 t1 t2, ((∃ b : Nat, t0 = I (b : Int) ∧ b ≤ 5 ∧ (∀ s', s' < s + 1 → okS kd w C k s' → pcs (s' / 2) C ≤ b) ∧ (b = 0 ∨ ∃ s', s' < s + 1 ∧ okS kd w C k s' ∧ pcs (s' / 2) C = b)) ∧ t1 = I ((s + 1 : Nat) : Int) ∧ t2.2 = v.2 ∧ ∀ a b, a ≠ 147 → t2.1 a b = u.1 a b) ∧ r = k2 t0 t1 t2) C (fun j x y => x = I ((pcs (s / 2) j : Nat) : Int) ∧ y = I ((j : Int) + 1)) (fu_lt (by omega)) ⟨rfl, rfl⟩ ?_ ?_
          · rintro j hj x y ⟨rfl, rfl⟩ k3
            left
            have bc := bit_c s (by omega) (j + 1) (by omega)
            rw [show ((j + 1 : Nat) : Int) = (j : Int) + 1 from rfl, show s / 2 ^ (j + 1) % 2 = bt (s / 2) j from bt_h s j] at bc
            rw [n3' 139 0 (by omega), hf 139 0 (by omega) (by omega), hm.1, hC, if_neg (show ¬ (I (C : Int) < I ((j : Int) + 1)) by rw [I_lt (by omega) (by omega) (by omega) (by omega)]; omega), bc, lt_d, lt_d]
            exact ⟨_, _, ⟨rfl, rfl⟩, by rw [i1, I_add, I_add]; rfl⟩
          · rintro x y ⟨rfl, rfl⟩ k3
            have pb := pcs_b (s / 2) C
            rw [n3' 139 0 (by omega), hf 139 0 (by omega) (by omega), hm.1, hC, if_pos (show I (C : Int) < I ((C : Int) + 1) by rw [I_lt (by omega) (by omega) (by omega) (by omega)]; omega), lt_d]
            by_cases c3 : pcs (s / 2) C ≤ b
            · rw [if_pos (show I ((pcs (s / 2) C : Nat) : Int) ≤ I (b : Int) by rw [I_le (by omega) (by omega) (by omega) (by omega)]; omega)]
              exact fin u2 b n2' n3' hb5 (Nat.le_refl _) (fun _ => c3) (Or.inl rfl)
            · rw [if_neg (show ¬ (I ((pcs (s / 2) C : Nat) : Int) ≤ I (b : Int)) by rw [I_le (by omega) (by omega) (by omega) (by omega)]; omega)]
              exact fin u2 (pcs (s / 2) C) n2' n3' (by omega) (by omega) (fun _ => Nat.le_refl _) (Or.inr ⟨⟨c1, c2⟩, rfl⟩)
        · rw [if_neg (show ¬ (I ((needs kd w (s / 2) C : Nat) : Int) ≤ I (k : Int)) by rw [I_le (by omega) (by omega) (by omega) (by omega)]; omega)]
          exact fin u2 b n2' n3' hb5 (Nat.le_refl _) (fun o => absurd o.2 c2) (Or.inl rfl)
      · rw [if_neg (show ¬ (I (s : Int) &&& (I ((allc w C : Nat) : Int) ^^^ (-1 : Int32))) = 0 from c1)]
        exact fin u' b h1 h5 hb5 (Nat.le_refl _) (fun o => absurd o.1 c1) (Or.inl rfl)
    · rintro x y u' ⟨⟨b, rfl, hb5, hb1, hb2⟩, rfl, h1, h5⟩ k2
      rw [if_pos (show I ((allc w C : Nat) : Int) < I ((allc w C + 1 : Nat) : Int) by rw [I_lt (by omega) (by omega) (by omega) (by omega)]; omega), best_e hC5 hU hk hb1 hb2]
      exact ⟨u', rfl, h1, fun a b h h' => by rw [h5 a b h']; exact hf a b h h'⟩

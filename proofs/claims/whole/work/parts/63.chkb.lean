/-! what the check tells -/
theorem allL_e {f : Nat → Bool} : ∀ {l : List Nat}, allL f l = true → ∀ v, v ∈ l → f v = true
  | [], _, v, hv => absurd hv (List.not_mem_nil)
  | a :: as, h, v, hv => by
    have h' : (f a && allL f as) = true := h
    rw [Bool.and_eq_true] at h'
    obtain e | e := List.mem_cons.1 hv
    · rw [e]; exact h'.1
    · exact allL_e h'.2 v e
theorem anyL_e {f : Nat → Bool} : ∀ {l : List Nat}, anyL f l = true → ∃ v, v ∈ l ∧ f v = true
  | [], h => absurd h (by simp [anyL])
  | a :: as, h => by
    have h' : (f a || anyL f as) = true := h
    rw [Bool.or_eq_true] at h'
    obtain e | e := h'
    · exact ⟨a, List.mem_cons_self .., e⟩
    · obtain ⟨v, h1, h2⟩ := anyL_e e
      exact ⟨v, List.mem_cons_of_mem _ h1, h2⟩
theorem allB_e {f : Nat → Bool} : ∀ {n : Nat}, allB f n = true → ∀ d, d < n → f d = true
  | 0, _, d, hd => absurd hd (by omega)
  | n + 1, h, d, hd => by
    have h' : (f n && allB f n) = true := h
    rw [Bool.and_eq_true] at h'
    by_cases e : d = n
    · rw [e]; exact h'.1
    · exact allB_e h'.2 d (by omega)
theorem vals_m {kd : Nat} {w : List Nat} {C : Nat} : ∀ {n v : Nat}, v ∈ vals kd w C n ↔ ∃ S, S < n ∧ vld w S C = true ∧ v = 8 * needs kd w S C + pcs S C
  | 0, v => ⟨fun h => absurd h (List.not_mem_nil), fun ⟨S, h, _⟩ => absurd h (by omega)⟩
  | n + 1, v => by
    have ih := vals_m (kd := kd) (w := w) (C := C) (n := n) (v := v)
    show v ∈ cond (vld w n C) (fc (8 * needs kd w n C + pcs n C) (fun v => v :: vals kd w C n)) (vals kd w C n) ↔ _
    rw [fc_e]
    cases hb : vld w n C
    · show v ∈ vals kd w C n ↔ _
      rw [ih]
      constructor
      · rintro ⟨S, h1, h2, h3⟩
        exact ⟨S, by omega, h2, h3⟩
      · rintro ⟨S, h1, h2, h3⟩
        by_cases e : S = n
        · subst e; rw [hb] at h2; cases h2
        · exact ⟨S, by omega, h2, h3⟩
    · show v ∈ (8 * needs kd w n C + pcs n C) :: vals kd w C n ↔ _
      rw [List.mem_cons, ih]
      constructor
      · rintro (e | ⟨S, h1, h2, h3⟩)
        · exact ⟨n, by omega, hb, e⟩
        · exact ⟨S, by omega, h2, h3⟩
      · rintro ⟨S, h1, h2, h3⟩
        by_cases e : S = n
        · subst e; exact Or.inl h3
        · exact Or.inr ⟨S, by omega, h2, h3⟩
theorem pcs_b (S : Nat) : ∀ n, pcs S n ≤ n
  | 0 => Nat.le_refl _
  | n + 1 => by
    have := pcs_b S n
    have h : bt S n < 2 := Nat.mod_lt _ (by decide)
    show pcs S n + bt S n ≤ n + 1
    omega
theorem PP_m (kd c k : Nat) : ∀ d, PP kd c k ≤ PP kd c (k + d)
  | 0 => Nat.le_refl _
  | d + 1 => by
    refine Nat.le_trans (PP_m kd c k d) ?_
    unfold PP
    rw [beq_c, beq_c]
    by_cases e : kd = 1
    · rw [if_pos e, if_pos e]; exact Nat.le_add_right _ _
    · rw [if_neg e, if_neg e]; exact Nat.le_add_right _ _
def UBd (kd : Nat) (w : List Nat) (C c : Nat) : Prop := ∀ k, 1 ≤ k → k ≤ 5 → (∀ S, S < 2 ^ C → vld w S C = true → needs kd w S C ≤ k → pcs S C ≤ PP kd c k) ∧ ∃ S, S < 2 ^ C ∧ vld w S C = true ∧ needs kd w S C ≤ k ∧ pcs S C = PP kd c k
theorem PL_e (kd c : Nat) : ∀ k, k ≤ 5 → [PP kd c 0, PP kd c 1, PP kd c 2, PP kd c 3, PP kd c 4, PP kd c 5].getD k 0 = PP kd c k := fun k hk => by
  obtain rfl | rfl | rfl | rfl | rfl | rfl : k = 0 ∨ k = 1 ∨ k = 2 ∨ k = 3 ∨ k = 4 ∨ k = 5 := by omega
  all_goals rfl
theorem chkK_ok {kd : Nat} {w : List Nat} {C c : Nat} (hC : C ≤ 5) (h : chkK kd w C c = true) : UBd kd w C c := by
  unfold chkK at h
  rw [flN_e, flN_e, Bool.and_eq_true] at h
  intro k hk1 hk5
  refine ⟨fun S hS hv hn => ?_, ?_⟩
  · have h1 := allL_e h.1 (8 * needs kd w S C + pcs S C) (vals_m.2 ⟨S, hS, hv, rfl⟩)
    have pb := pcs_b S C
    have h2 := Nat.le_of_ble_eq_true h1
    rw [show (8 * needs kd w S C + pcs S C) % 8 = pcs S C by omega, show (8 * needs kd w S C + pcs S C) / 8 = needs kd w S C by omega, PL_e _ _ _ (by omega)] at h2
    have h3 := PP_m kd c (needs kd w S C) (k - needs kd w S C)
    rw [show needs kd w S C + (k - needs kd w S C) = k by omega] at h3
    omega
  · have hk : k ∈ [1, 2, 3, 4, 5] := by
      obtain rfl | rfl | rfl | rfl | rfl : k = 1 ∨ k = 2 ∨ k = 3 ∨ k = 4 ∨ k = 5 := by omega
      all_goals simp
    obtain ⟨v, h1, h2⟩ := anyL_e (allL_e h.2 k hk)
    obtain ⟨S, s1, s2, rfl⟩ := vals_m.1 h1
    have pb := pcs_b S C
    rw [Bool.and_eq_true] at h2
    have h3 := Nat.le_of_ble_eq_true h2.1
    have h4 := Nat.eq_of_beq_eq_true h2.2
    rw [show (8 * needs kd w S C + pcs S C) / 8 = needs kd w S C by omega] at h3
    rw [show (8 * needs kd w S C + pcs S C) % 8 = pcs S C by omega, PL_e _ _ _ hk5] at h4
    exact ⟨S, s1, s2, h3, h4⟩
theorem chkW_ok {R : Nat} {w : List Nat} (hC : w.length ≤ 5) (h : chkW R w = true) : (∀ r, r ≤ 3 → fin5 r R w = fin5 0 R w) ∧ UBd 1 w w.length (fin5 0 R w) ∧ UBd 3 w w.length (fin5 0 R w) := by
  unfold chkW at h
  rw [fc_e, Bool.and_eq_true, Bool.and_eq_true, Bool.and_eq_true, Bool.and_eq_true] at h
  obtain ⟨h1, h2, h3, h4, h5⟩ := h
  refine ⟨fun r hr => ?_, chkK_ok hC h4, chkK_ok hC h5⟩
  obtain rfl | rfl | rfl | rfl : r = 0 ∨ r = 1 ∨ r = 2 ∨ r = 3 := by omega
  · rfl
  · exact Nat.eq_of_beq_eq_true h1
  · exact Nat.eq_of_beq_eq_true h2
  · exact Nat.eq_of_beq_eq_true h3
def Dst (w : List Nat) : Prop := ∀ i j, i < j → j < w.length → w.getD i 0 = w.getD j 0 → w.getD j 0 = 0
theorem anyL_n {f : Nat → Bool} {l : List Nat} (h : ∀ v, v ∈ l → f v = false) : anyL f l = false := by
  cases e : anyL f l
  · rfl
  · obtain ⟨v, h1, h2⟩ := anyL_e e
    rw [h v h1] at h2
    cases h2
theorem chkA_ok {R : Nat} : ∀ (n : Nat) (w ds : List Nat), ds.length = n → chkA R n w = true → (∀ d, d ∈ ds → d ≤ R) → Dst (w ++ ds) → chkW R (w ++ ds) = true
  | 0, w, ds, hl, h, _, _ => by
    rw [List.length_eq_zero_iff.1 hl, List.append_nil]
    exact h
  | n + 1, w, [], hl, _, _, _ => by cases hl
  | n + 1, w, d :: ds, hl, h, hd, hD => by
    have hdR := hd d (List.mem_cons_self ..)
    have h1 := allB_e h d (by omega)
    have h1' : ((cond (Nat.beq d 0) false (anyL (fun a => Nat.beq a d) w)) || flN (w ++ [d]) (fun w' => chkA R n w')) = true := h1
    have h2 : cond (Nat.beq d 0) false (anyL (fun a => Nat.beq a d) w) = false := by
      rw [beq_c]
      by_cases e : d = 0
      · rw [if_pos e]
      · rw [if_neg e]
        refine anyL_n (fun v hv => ?_)
        obtain ⟨i, hi, hiv⟩ := List.getElem_of_mem hv
        cases hb : Nat.beq v d
        · rfl
        · exfalso
          have evd := Nat.eq_of_beq_eq_true hb
          have g1 : (w ++ d :: ds).getD i 0 = v := by
            rw [List.getD_eq_getElem?_getD, List.getElem?_append_left hi, List.getElem?_eq_getElem hi, hiv]
            rfl
          have g2 : (w ++ d :: ds).getD w.length 0 = d := by
            rw [List.getD_eq_getElem?_getD, List.getElem?_append_right (Nat.le_refl _), Nat.sub_self]
            rfl
          have := hD i w.length hi (by rw [List.length_append]; show w.length < w.length + (ds.length + 1); omega) (by rw [g1, g2, evd])
          rw [g2] at this
          exact e this
    rw [h2, Bool.false_or, flN_e] at h1'
    have e : w ++ d :: ds = (w ++ [d]) ++ ds := by rw [List.append_assoc]; rfl
    rw [e] at hD ⊢
    exact chkA_ok n (w ++ [d]) ds (Nat.succ.inj hl) h1' (fun x hx => hd x (List.mem_cons_of_mem _ hx)) hD
theorem marked_ok {C R : Nat} {w : List Nat} (hC : C ≤ 5) (hR : R ≤ 5) (hl : w.length = C) (hd : ∀ d, d ∈ w → d ≤ R) (hD : Dst w) : (∀ r, r ≤ 3 → fin5 r R w = fin5 0 R w) ∧ UBd 1 w C (fin5 0 R w) ∧ UBd 3 w C (fin5 0 R w) := by
  have h := chkA_ok C [] w hl (chk_all R (by omega) C (by omega)) hd hD
  have := chkW_ok (w := w) (by omega) h
  rw [hl] at this
  exact this

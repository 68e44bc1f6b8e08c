/-! what holds between the law's calls; the calls -/
def Rc (w : Wd) (g : Gd) : Prop := w.1 0 5 = I 0 ∨ (w.1 0 5 = I 1 ∧ GrC w g)
def Iv (w : Wd) (g : Gd) (p u : Nat) (G : Nat → Gd) : Prop := Wi w.2 ∧ GV g ∧ CG w 1 g ∧ Rc w g ∧ DC w p u G ∧ Rs w
theorem Rc.of {w w' : Wd} {g : Gd} (hv : GV g) (h : Rc w g) (f : ∀ a b, ((a = 0 ∧ b = 5) ∨ (7 ≤ a ∧ a < 84)) → w'.1 a b = w.1 a b) : Rc w' g := by
  obtain h | ⟨h1, h2⟩ := h
  · exact Or.inl ((f _ _ (by omega)).trans h)
  · exact Or.inr ⟨(f _ _ (by omega)).trans h1, h2.of hv (fun b _ => f _ _ (by omega)) (fun a b _ _ _ => f _ _ (by omega))⟩
/-- nothing but scratch has changed -/
theorem Iv.of {w w' : Wd} {g : Gd} {p u : Nat} {G : Nat → Gd} (h : Iv w g p u G) (h2 : w'.2 = w.2) (hc : Rc w' g) (f : ∀ a b, (a = 1 ∨ a = 2 ∨ (84 ≤ a ∧ a < 112)) → w'.1 a b = w.1 a b) : Iv w' g p u G := by
  obtain ⟨a1, a2, a3, a4, a5, a6⟩ := h
  exact ⟨by rw [h2]; exact a1, a2, a3.of (fun b => f _ _ (by omega)) (fun b => f _ _ (by omega)), hc, a5.of (fun b => f _ _ (by omega)) (fun a b _ _ => f _ _ (by omega)) (fun b => by rw [h2]), a6.of (fun a b h => f _ _ (by omega))⟩
/-- only the law's own arrays have changed -/
theorem Iv.far {w w' : Wd} {g : Gd} {p u : Nat} {G : Nat → Gd} (h : Iv w g p u G) (h2 : w'.2 = w.2) (f : ∀ a b, a < 139 → w'.1 a b = w.1 a b) : Iv w' g p u G :=
  h.of h2 (h.2.2.2.1.of h.2.1 (fun a b q => f _ _ (by omega))) (fun a b q => f _ _ (by omega))
theorem Wi.fresh {w : Wd} (h : Wi w.2) {n : Nat} (hn : 139 ≤ n) : Wi (clr w n).2 := by
  obtain ⟨a1, a2, a3, a4, a5, a6, a7, a8, a9, a10⟩ := h
  have e : ∀ a b, a < 139 → (clr w n).2 a b = w.2 a b := fun a b h => if_neg (by omega)
  refine ⟨?_, fun t ht => ?_, fun t ht => ?_, ?_, fun k hk => ?_, ⟨?_, fun k hk => ?_⟩, ?_, ?_, fun h hh => ?_, trivial⟩
  · rw [e 0 0 (by decide), e 0 1 (by decide), e 0 2 (by decide), e 0 4 (by decide), e 0 6 (by decide), e 0 7 (by decide), e 0 8 (by decide), e 0 9 (by decide)]; exact a1
  · rw [e _ _ (kd_lt ht (by decide) (by decide))]; exact a2 t ht
  · rw [e _ _ (kd_lt ht (by decide) (by decide))]; exact a3 t ht
  · rw [e 7 0 (by decide), e 7 1 (by decide), e 7 4 (by decide)]; exact a4
  · rw [e 8 k (by decide)]; exact a5 k hk
  · rw [e 84 0 (by decide)]; exact a6.1
  · rw [e 85 k (by decide)]; exact a6.2 k hk
  · rw [e 92 0 (by decide)]; exact a7
  · rw [e 112 0 (by decide)]; exact a8
  · rw [e 114 h (by decide), e (115 + 4 * h) 1 (by omega), e (115 + 4 * h) 2 (by omega)]; exact a9 h hh
theorem Iv.fresh {w : Wd} {g : Gd} {p u : Nat} {G : Nat → Gd} (h : Iv w g p u G) {n : Nat} (hn : 139 ≤ n) : Iv (clr w n) g p u G := by
  obtain ⟨a1, a2, a3, a4, a5, a6⟩ := h
  have e : ∀ a b, a < 139 → (clr w n).1 a b = w.1 a b := fun a b h => if_neg (by omega)
  have e2 : ∀ a b, a < 139 → (clr w n).2 a b = w.2 a b := fun a b h => if_neg (by omega)
  exact ⟨a1.fresh hn, a2, a3.of (fun b => e _ _ (by decide)) (fun b => e _ _ (by decide)), a4.of a2 (fun a b h => e _ _ (by omega)), a5.of (fun b => e _ _ (by decide)) (fun a b _ _ => e _ _ (by omega)) (fun b => e2 _ _ (by decide)), a6.of (fun a b h => e _ _ (by omega))⟩
/-- a deed, from its beginning to its end -/
theorem Iv.deed {w : Wd} {g : Gd} {p u : Nat} {G : Nat → Gd} (H : Iv w g p u G) : ∃ w1, f_X7_beginDeed 0 w = some w1 ∧ Wi w1.2 ∧ CG w1 1 g ∧ (∀ a b, a ≠ 92 → (a < 94 ∨ 112 ≤ a) → ¬ (a = 0 ∧ b = 5) → w1.1 a b = w.1 a b) ∧
    ∀ w2 g', w2.2 = w1.2 → (∀ a b, a ≠ 1 → a ≠ 2 → w2.1 a b = w1.1 a b) → GV g' → CG w2 1 g' → Iv w2 g' (pshP p) 0 (pshG p G g) ∧ ∀ a b, 139 ≤ a → w2.1 a b = w.1 a b := by
  obtain ⟨a1, a2, a3, a4, a5, a6⟩ := id H
  obtain ⟨w1, b1, b2, b3, b4, b5, b6⟩ := s_begin a1 a5 a3
  refine ⟨w1, b1, b2, b3, b6, fun w2 g' e2 f2 hv hc => ⟨⟨by rw [e2]; exact b2, hv, hc, Or.inl ?_, b4.of (fun b => f2 _ _ (by omega) (by omega)) (fun a b _ _ => f2 _ _ (by omega) (by omega)) (fun b => by rw [e2]), a6.of (fun a b h => by rw [f2 _ _ (by omega) (by omega), b6 _ _ (by omega) (by omega) (by omega)])⟩, fun a b h => by rw [f2 _ _ (by omega) (by omega), b6 _ _ (by omega) (by omega) (by omega)]⟩⟩
  rw [f2 _ _ (by omega) (by omega), b5]; rfl
/-- an answer v, the grid and the deeds as they were, the law's own arrays too -/
def Rz (w : Wd) (g : Gd) (p u : Nat) (G : Nat → Gd) (o : Option (Int32 × Wd)) (v : Int32) : Prop := ∃ w', o = some (v, w') ∧ Iv w' g p u G ∧ ∀ a b, (139 ≤ a ∨ (a = 0 ∧ b = 3)) → w'.1 a b = w.1 a b
theorem t_count {w : Wd} {g : Gd} {p u : Nat} {G : Nat → Gd} (H : Iv w g p u G) : f_X7_count 0 (0 : Int32) w = some (I (g 0)) ∧ f_X7_count 0 (1 : Int32) w = some (I (g 1)) ∧ f_X7_count 0 (2 : Int32) w = some (I (g 2)) ∧ f_X7_count 0 (3 : Int32) w = some (I p) := by
  obtain ⟨hW, hv, hc, -, ⟨P, -, -, a3, -⟩, -⟩ := H
  have e1 := hW.1.1
  have e7 := hW.1.2.2.2.2.2.1
  refine ⟨?_, ?_, ?_, ?_⟩
  · unfold f_X7_count
    rw [if_pos (by decide), rfc e1 kd_1 (by decide), hc.1]
  · unfold f_X7_count
    rw [if_neg (by decide), if_pos (by decide), rfc e1 kd_1 (by decide), hc.2.1]
  · unfold f_X7_count
    rw [if_neg (by decide), if_neg (by decide), if_pos (by decide), rfc e1 kd_1 (by decide), hc.2.2.1]
  · unfold f_X7_count
    rw [if_neg (by decide), if_neg (by decide), if_neg (by decide), if_pos (by decide), rfc e7 kd_92 (by decide)]
    unfold f_X2_undoable
    rw [c1_d, a3]
theorem t_cell {w : Wd} {g : Gd} {p u : Nat} {G : Nat → Gd} (H : Iv w g p u G) {x y : Nat} (hx : ((x + 1 : Nat) : Int) ≤ g 0) (hy : ((y + 1 : Nat) : Int) ≤ g 1) : f_X7_cell 0 (I ((x : Int) + 1)) (I ((y : Int) + 1)) w = some (I (g (3 + (5 * x + y)))) := by
  obtain ⟨hW, hv, hc, -⟩ := H
  have v1 := hv.1; have v2 := hv.2.1
  have e1 := hW.1.1
  unfold f_X7_cell
  rw [rfc e1 kd_1 (by decide), c1_r (s_hasCell hc hv (by omega) (by omega)), if_pos (show 1 ≤ (x : Int) + 1 ∧ (x : Int) + 1 ≤ g 0 ∧ 1 ≤ (y : Int) + 1 ∧ (y : Int) + 1 ≤ g 1 by omega), if_neg (by decide), rfc e1 kd_1 (by decide), c1_r (s_numberAt kd_1 (hW.2.1 _ kd_1) hc hv (by omega) (by omega))]
  unfold num
  rw [if_pos (by omega), show (5 * ((x : Int) + 1 - 1) + ((y : Int) + 1 - 1)).toNat = 5 * x + y by omega]
/-- g by another rule -/
def grl (g : Gd) (q : Int) : Gd := fun j => if j = 2 then q else g j
theorem grl_0 (g : Gd) (q : Int) : grl g q 0 = g 0 := rfl
theorem grl_1 (g : Gd) (q : Int) : grl g q 1 = g 1 := rfl
theorem grl_2 (g : Gd) (q : Int) : grl g q 2 = q := rfl
theorem grl_n (g : Gd) (q : Int) (j : Nat) : grl g q (3 + j) = g (3 + j) := if_neg (by omega)
theorem grl_V {g : Gd} {q : Int} (hv : GV g) (hq : 0 ≤ q ∧ q ≤ 3) : GV (grl g q) :=
  ⟨hv.1, hv.2.1, hq, fun j hj => by rw [grl_n]; exact hv.2.2.2.1 j hj, fun j hj h => by rw [grl_n]; exact hv.2.2.2.2 j hj h⟩
theorem t_rule {w : Wd} {g : Gd} {p u : Nat} {G : Nat → Gd} (H : Iv w g p u G) {q : Int} (hq : 0 ≤ q ∧ q ≤ 3) : ∃ w', f_X7_rule 0 (I q) w = some (I (g 2), w') ∧ Iv w' (grl g q) (pshP p) 0 (pshG p G g) ∧ ∀ a b, 139 ≤ a → w'.1 a b = w.1 a b := by
  obtain ⟨w1, b1, b2, b3, b4, b5⟩ := H.deed
  obtain ⟨hW, hv, hc, -⟩ := H
  obtain ⟨d1, d2⟩ := b5 (upI w1 1 2 (I q)) (grl g q) rfl (fun a b h1 h2 => upI_n (by omega)) (grl_V hv hq) ⟨by rw [upI_n (by omega)]; exact b3.1, by rw [upI_n (by omega)]; exact b3.2.1, upI_s _ _ _ _, fun j hj => by rw [upI_n (by omega), grl_n]; exact b3.2.2.2 j hj⟩
  refine ⟨_, ?_, d1, d2⟩
  unfold f_X7_rule
  rw [c1_r (s_isRule (by omega)), if_pos hq, if_neg (by decide), rfc hW.1.1 kd_1 (by decide), lt_d, c1_r b1, rfc b2.1.1 kd_1 (by decide), lt_d, hc.2.2.1]
theorem t_grid {w : Wd} {g : Gd} {p u : Nat} {G : Nat → Gd} (H : Iv w g p u G) {x y : Int} (c : 1 ≤ x ∧ x ≤ 5) (d : 1 ≤ y ∧ y ≤ 5) : ∃ v w', f_X7_grid 0 (I x) (I y) w = some (v, w') ∧ Iv w' (gst x y (g 2)) (pshP p) 0 (pshG p G g) ∧ ∀ a b, 139 ≤ a → w'.1 a b = w.1 a b := by
  obtain ⟨w1, b1, b2, b3, b4, b5⟩ := H.deed
  obtain ⟨hW, hv, hc, -⟩ := H
  obtain ⟨d1, d2⟩ := b5 (clg w1 1 (I x) (I y)) (gst x y (g 2)) rfl (fun a b h1 h2 => clg_o (by omega) (by omega)) (gst_V c d hv.2.2.1) (clg_CG b3)
  have e : ∃ v, f_X7_grid 0 (I x) (I y) w = some (v, clg w1 1 (I x) (I y)) := by
    unfold f_X7_grid
    rw [c1_r (s_isSide (by omega)), if_pos c, if_neg (by decide), c1_r (s_isSide (by omega)), if_pos d, if_neg (by decide), rfc hW.1.1 kd_1 (by decide), rfc hW.1.1 kd_1 (by decide), lt_d, c1_r b1, rfc b2.1.1 kd_1 (by decide), c1_r (s_clearTo (I x) (I y) kd_1 (b2.2.1 _ kd_1))]
    exact ⟨_, rfl⟩
  obtain ⟨v, e⟩ := e
  exact ⟨v, _, e, d1, d2⟩
theorem t_put {w : Wd} {g : Gd} {p u : Nat} {G : Nat → Gd} (H : Iv w g p u G) {x y z : Int} (c : 1 ≤ x ∧ x ≤ g 0 ∧ 1 ≤ y ∧ y ≤ g 1) (d : 0 ≤ z ∧ z ≤ 3) : ∃ v w', f_X7_put 0 (I x) (I y) (I z) w = some (v, w') ∧ Iv w' (gset g (5 * (x - 1) + (y - 1)).toNat z) (pshP p) 0 (pshG p G g) ∧ ∀ a b, 139 ≤ a → w'.1 a b = w.1 a b := by
  obtain ⟨w1, b1, b2, b3, b4, b5⟩ := H.deed
  obtain ⟨hW, hv, hc, -⟩ := H
  have v1 := hv.1; have v2 := hv.2.1
  obtain ⟨d1, d2⟩ := b5 (upI w1 (1 + 1) (5 * (x - 1) + (y - 1)).toNat (I z)) (gset g (5 * (x - 1) + (y - 1)).toNat z) rfl (fun a b h1 h2 => upI_n (by omega)) (gset_V hv d ⟨c.1, c.2.1⟩ c.2.2) (gset_CG b3)
  have e : ∃ v, f_X7_put 0 (I x) (I y) (I z) w = some (v, upI w1 (1 + 1) (5 * (x - 1) + (y - 1)).toNat (I z)) := by
    unfold f_X7_put
    rw [rfc hW.1.1 kd_1 (by decide), c1_r (s_hasCell hc hv (by omega) (by omega)), if_pos c, if_neg (by decide), c1_r (s_isNumber (by omega)), if_pos d, if_neg (by decide), rfc hW.1.1 kd_1 (by decide), c1_r (s_numberAt kd_1 (hW.2.1 _ kd_1) hc hv (by omega) (by omega)), c1_r b1, rfc b2.1.1 kd_1 (by decide), c1_r (s_setNumber (I z) kd_1 (b2.2.1 _ kd_1) b3 hv ⟨c.1, c.2.1⟩ c.2.2)]
    exact ⟨_, rfl⟩
  obtain ⟨v, e⟩ := e
  exact ⟨v, _, e, d1, d2⟩
theorem t_undo {w : Wd} {g : Gd} {p u : Nat} {G : Nat → Gd} (H : Iv w g p u G) (hp : 0 < p) (hv' : GV (G (p - 1))) : ∃ w', f_X7_undo 0 w = some (I ((p - 1 : Nat) : Int), w') ∧ Iv w' (G (p - 1)) (p - 1) (u + 1) (fun k => if k = p then g else G k) ∧ ∀ a b, 139 ≤ a → w'.1 a b = w.1 a b := by
  obtain ⟨hW, hv, hc, hr, hd, hs⟩ := H
  obtain ⟨P, -, -, a3, a4, a5, -⟩ := id hd
  have e1 := hW.1.1
  have e7 := hW.1.2.2.2.2.2.1
  obtain ⟨w1, b1, b2, b3, b4, b5⟩ := s_stepBack hW hd hc hp
  obtain ⟨P', -, -, a3', -⟩ := id b4
  refine ⟨upI w1 0 5 0, ?_, ⟨?_, hv', b3.of (fun b => upI_n (by omega)) (fun b => upI_n (by omega)), Or.inl (upI_s _ _ _ _), b4.of (fun b => upI_n (by omega)) (fun a b _ _ => upI_n (by omega)) (fun b => rfl), hs.of (fun a b h => by rw [upI_n (by omega), b5 _ _ (by omega) (by omega) (by omega) (by omega)])⟩, fun a b h => by rw [upI_n (by omega), b5 _ _ (by omega) (by omega) (by omega) (by omega)]⟩
  · unfold f_X7_undo f_X2_undoable
    rw [rfc e7 kd_92 (by decide), c1_d, a3, if_neg (by rw [i0, I_eq (by omega) (by omega) (by omega) (by omega)]; omega), rfc e7 kd_92 (by decide), rfc e1 kd_1 (by decide), c1_r b1, lt_d, rfc (show (upI w1 0 5 0).2 0 7 = some 92 by rw [upI_2, b2]; exact e7) kd_92 (by decide), c1_d, upI_n (by omega), a3']
  · show Wi w1.2
    rw [b2]; exact hW
theorem t_again {w : Wd} {g : Gd} {p u : Nat} {G : Nat → Gd} (H : Iv w g p u G) (hu : 0 < u) (hv' : GV (G (p + 1))) : ∃ v w', f_X7_again 0 w = some (v, w') ∧ Iv w' (G (p + 1)) (p + 1) (u - 1) G ∧ ∀ a b, 139 ≤ a → w'.1 a b = w.1 a b := by
  obtain ⟨hW, hv, hc, hr, hd, hs⟩ := H
  obtain ⟨P, -, -, a3, a4, a5, -⟩ := id hd
  have e1 := hW.1.1
  have e7 := hW.1.2.2.2.2.2.1
  obtain ⟨w1, b1, b2, b3, b4, b5⟩ := s_stepOn hW hd hu
  have e : ∃ v, f_X7_again 0 w = some (v, upI w1 0 5 0) := by
    unfold f_X7_again f_X2_redoable
    rw [rfc e7 kd_92 (by decide), c1_d, a3, a4, I_sub, if_neg (by rw [i0, I_eq (by omega) (by omega) (by omega) (by omega)]; omega), rfc e7 kd_92 (by decide), rfc e1 kd_1 (by decide), c1_r b1, lt_d, i0, rfc (show (upI w1 0 5 (I 0)).2 0 7 = some 92 by rw [upI_2, b2]; exact e7) kd_92 (by decide), c1_d]
    exact ⟨_, rfl⟩
  obtain ⟨v, e⟩ := e
  refine ⟨v, upI w1 0 5 0, e, ⟨?_, hv', b3.of (fun b => upI_n (by omega)) (fun b => upI_n (by omega)), Or.inl (upI_s _ _ _ _), b4.of (fun b => upI_n (by omega)) (fun a b _ _ => upI_n (by omega)) (fun b => rfl), hs.of (fun a b h => by rw [upI_n (by omega), b5 _ _ (by omega) (by omega) (by omega)])⟩, fun a b h => by rw [upI_n (by omega), b5 _ _ (by omega) (by omega) (by omega)]⟩
  show Wi w1.2
  rw [b2]; exact hW
theorem t_grown {w : Wd} {g : Gd} {p u : Nat} {G : Nat → Gd} (H : Iv w g p u G) : ∃ w1, f_X7_grownCorners 0 w = some (7, w1) ∧ Iv w1 g p u G ∧ GrC w1 g ∧ ∀ a b, (84 ≤ a ∨ (a = 0 ∧ b = 3)) → w1.1 a b = w.1 a b := by
  obtain ⟨hW, hv, hc, hrc, -⟩ := id H
  have e1 := hW.1
  unfold f_X7_grownCorners
  obtain h0 | ⟨h1, h2⟩ := hrc
  · obtain ⟨w', b1, b2, b3, b4, b5⟩ := s_growOver hW hv hc
    have hg : GrC (upI w' 0 5 (I 1)) g := b3.of hv (fun b _ => upI_n (by omega)) (fun a b _ _ _ => upI_n (by omega))
    refine ⟨upI w' 0 5 (I 1), ?_, ?_, hg, fun a b h => by rw [upI_n (by omega), b5 _ _ (by omega) (by omega)]⟩
    · rw [jn_d, h0, if_pos z00, rfc e1.2.2.2.1 kd_7 (by decide), rfc e1.1 kd_1 (by decide), c1_r b1, lt_d]
      show rf 139 (w'.2 0 4) 1 _ = _
      rw [b2, rfc e1.2.2.2.1 kd_7 (by decide)]
      rfl
    · exact H.of b2 (Or.inr ⟨upI_s _ _ _ _, hg⟩) (fun a b h => by rw [upI_n (by omega), b5 _ _ (by omega) (by omega)])
  · refine ⟨w, ?_, H, h2, fun _ _ _ => rfl⟩
    rw [jn_d, h1, if_neg n10]
    show rf 139 (w.2 0 4) 1 _ = _
    rw [rfc e1.2.2.2.1 kd_7 (by decide)]
/-- the shape of a corner -/
theorem t_ask {w : Wd} {g : Gd} {p u : Nat} {G : Nat → Gd} (H : Iv w g p u G) {a b : Nat} (ha : (a : Int) ≤ g 0) (hb : (b : Int) ≤ g 1) :
    ∃ w1 t, f_X7_shapeAt 0 (I a) (I b) w = some (t, w1) ∧ kd t = 5 ∧ w1.2 t 0 = some (t + 1) ∧ ShC w1 t (Sg g a b) ∧ Gs (Sg g a b) (Wg g a b) ∧ (0 ≤ Wg g a b ∧ Wg g a b ≤ 75) ∧ Iv w1 g p u G ∧ ∀ c d, (84 ≤ c ∨ (c = 0 ∧ d = 3)) → w1.1 c d = w.1 c d := by
  obtain ⟨w1, b1, b2, b4, b7⟩ := t_grown H
  have hv := H.2.1
  have v1 := hv.1; have v2 := hv.2.1
  have kt := kd_shape (6 * a + b) (by omega)
  refine ⟨w1, 9 + 2 * (6 * a + b), ?_, kt, b2.1.2.2.1 _ kt, b4.2.2 a b ha hb, (Sg_ok hv (by omega) (by omega)).1, Wg_b hv (by omega) (by omega), b2, b7⟩
  unfold f_X7_shapeAt
  rw [c2_r b1, ckc kd_7 (by decide), c1_r (s_at b2.1 (by omega) (by omega)), ckc kt (by decide)]
theorem t_corner {w : Wd} {g : Gd} {p u : Nat} {G : Nat → Gd} (H : Iv w g p u G) {a b : Nat} (ha : (a : Int) ≤ g 0) (hb : (b : Int) ≤ g 1) : f_X0_hasCorner 1 (I a) (I b) w = some (I 1) := by
  obtain ⟨hW, hv, hc, -⟩ := H
  have v1 := hv.1; have v2 := hv.2.1
  rw [s_hasCorner hc hv (by omega) (by omega), if_pos (by omega)]
theorem t_part {w : Wd} {g : Gd} {p u : Nat} {G : Nat → Gd} (H : Iv w g p u G) {a b : Nat} (ha : (a : Int) ≤ g 0) (hb : (b : Int) ≤ g 1) {i : Nat} (hi : i ≤ 99) : Rz w g p u G (f_X7_part 0 (I a) (I b) (I i) w) (I (Sg g a b i)) := by
  obtain ⟨w1, t, q1, kt, rt, hS, hs, hwb, H1, hf⟩ := t_ask H ha hb
  refine ⟨w1, ?_, H1, fun c d h => hf c d (by omega)⟩
  unfold f_X7_part
  rw [rfc H.1.1.1 kd_1 (by decide), c1_r (t_corner H ha hb), if_neg n10, c1_r (s_isPlace (by omega)), if_pos (show 0 ≤ (i : Int) ∧ (i : Int) ≤ 99 by omega), if_neg n10, c2_r q1, ckc kt (by decide), c1_r (s_partAt kt rt hS hs (by omega))]
theorem t_turned {w : Wd} {g : Gd} {p u : Nat} {G : Nat → Gd} (H : Iv w g p u G) {a b : Nat} (ha : (a : Int) ≤ g 0) (hb : (b : Int) ≤ g 1) {i : Nat} (hi : i ≤ 99) : Rz w g p u G (f_X7_turned 0 (I a) (I b) (I i) w) (I (abv (Sg g a b) i (len (Sg g a b)))) := by
  obtain ⟨w1, t, q1, kt, rt, hS, hs, hwb, H1, hf⟩ := t_ask H ha hb
  refine ⟨w1, ?_, H1, fun c d h => hf c d (by omega)⟩
  unfold f_X7_turned
  rw [rfc H.1.1.1 kd_1 (by decide), c1_r (t_corner H ha hb), if_neg n10, c1_r (s_isPlace (by omega)), if_pos (show 0 ≤ (i : Int) ∧ (i : Int) ≤ 99 by omega), if_neg n10, c2_r q1, ckc kt (by decide), c1_r (s_partsAbove kt rt hS hs hwb.2 (by omega))]
theorem t_size {w : Wd} {g : Gd} {p u : Nat} {G : Nat → Gd} (H : Iv w g p u G) {a b : Nat} (ha : (a : Int) ≤ g 0) (hb : (b : Int) ≤ g 1) : Rz w g p u G (f_X7_shape 0 (I a) (I b) (0 : Int32) w) (I (tsum (Sg g a b) 75)) := by
  obtain ⟨w1, t, q1, kt, rt, hS, hs, hwb, H1, hf⟩ := t_ask H ha hb
  refine ⟨w1, ?_, H1, fun c d h => hf c d (by omega)⟩
  unfold f_X7_shape
  rw [rfc H.1.1.1 kd_1 (by decide), c1_r (t_corner H ha hb), if_neg n10, if_neg (by decide), if_pos (by decide), c2_r q1, ckc kt (by decide), lt_d, if_pos rfl, hS.2.1]
theorem t_length {w : Wd} {g : Gd} {p u : Nat} {G : Nat → Gd} (H : Iv w g p u G) {a b : Nat} (ha : (a : Int) ≤ g 0) (hb : (b : Int) ≤ g 1) : Rz w g p u G (f_X7_shape 0 (I a) (I b) (1 : Int32) w) (I (len (Sg g a b))) := by
  obtain ⟨w1, t, q1, kt, rt, hS, hs, hwb, H1, hf⟩ := t_ask H ha hb
  refine ⟨w1, ?_, H1, fun c d h => hf c d (by omega)⟩
  unfold f_X7_shape
  rw [rfc H.1.1.1 kd_1 (by decide), c1_r (t_corner H ha hb), if_neg n10, if_neg (by decide), if_pos (by decide), c2_r q1, ckc kt (by decide), lt_d, if_neg (by decide), hS.1]
theorem t_fits {w : Wd} {g : Gd} {p u : Nat} {G : Nat → Gd} (H : Iv w g p u G) {C R : Nat} (hC : g 0 = C) (hR : g 1 = R) {q : Int} (hq : 0 ≤ q ∧ q ≤ 3) (hf : RimF g C R q) : Rz w g p u G (f_X7_fits 0 (I q) w) (1 : Int32) := by
  obtain ⟨w1, b1, b2, b4, b7⟩ := t_grown H
  obtain ⟨z1, -⟩ | ⟨-, z2⟩ := s_rimFits b2.1 H.2.1 b4 hC hR hq
  · refine ⟨w1, ?_, b2, fun c d h => b7 c d (by omega)⟩
    unfold f_X7_fits
    rw [c1_r (s_isRule (by omega)), if_pos hq, if_neg n10, c2_r b1, ckc kd_7 (by decide), c1_r z1, lt_d, if_neg n10]
  · exact absurd hf z2
theorem t_longest {w : Wd} {g : Gd} {p u : Nat} {G : Nat → Gd} (H : Iv w g p u G) {C R : Nat} (hC : g 0 = C) (hR : g 1 = R) {z y : Int} {st fl : Bool} (hz : 0 ≤ z ∧ z ≤ 3) (hy : y = 0 ∨ y = 1) (hst : st = true ↔ (z = 1 ∨ z = 3)) (hfl : fl = true ↔ 2 ≤ z) : Rz w g p u G (f_X7_longest 0 (I z) (I y) w) (I (BR st (lV g R fl y) C R)) := by
  obtain ⟨hW, hv, hc, hrc, hd, hrs⟩ := id H
  obtain ⟨w1, b1, b2, b3, b4⟩ := s_bestRow hW hv hc hrs hC hR hz hst hfl hy
  refine ⟨w1, ?_, ⟨by rw [b2]; exact hW, hv, hc.of (fun b => b4 _ _ (by omega)) (fun b => b4 _ _ (by omega)), hrc.of hv (fun a b h => b4 _ _ (by omega)), hd.of (fun b => b4 _ _ (by omega)) (fun a b _ _ => b4 _ _ (by omega)) (fun b => by rw [b2]), b3⟩, fun a b h => b4 _ _ (by omega)⟩
  have x10 : (if I y = (1 : Int32) then (1 : Int32) else (0 : Int32)) = I y := by
    obtain rfl | rfl := hy
    · rfl
    · rfl
  unfold f_X7_longest
  rw [if_neg (show ¬ I z < 0 by rw [i0, I_lt (by omega) (by omega) (by omega) (by omega)]; omega), if_neg (show ¬ (4 : Int32) ≤ I z by rw [i4, I_le (by omega) (by omega) (by omega) (by omega)]; omega), if_neg (show ¬ I y < 0 by rw [i0, I_lt (by omega) (by omega) (by omega) (by omega)]; omega), if_pos (show I y ≤ (1 : Int32) by rw [i1, I_le (by omega) (by omega) (by omega) (by omega)]; omega), rfc hW.1.2.2.2.2.1 kd_84 (by decide), rfc hW.1.1 kd_1 (by decide), x10, lt_d, c2_r b1]
theorem t_back {w : Wd} {g : Gd} {p u : Nat} {G : Nat → Gd} (H : Iv w g p u G) {C R : Nat} (hC : g 0 = C) (hR : g 1 = R) {q : Int} (d : 0 ≤ q ∧ q ≤ 3) (z2 : RimF g C R q) (all3 : All3 q g C R) : ∃ w', f_X7_back 0 (I q) w = some (I (dif g (grd C R q (SNf q g C R)) 25), w') ∧ Iv w' (grd C R q (SNf q g C R)) (pshP p) 0 (pshG p G g) ∧ ∀ a b, 139 ≤ a → w'.1 a b = w.1 a b := by
  have hv := H.2.1
  have v1 := hv.1; have v2 := hv.2.1
  obtain ⟨w1, b1, H1, b4, b7⟩ := t_grown H
  have hW1 := H1.1
  obtain ⟨z1, -⟩ | ⟨-, zz⟩ := s_rimFits hW1 hv b4 hC hR d
  · have H0 : Iv (upI w1 0 5 (I 0)) g p u G := H1.of rfl (Or.inl (upI_s _ _ _ _)) (fun a b h => upI_n (by omega))
    have cp : f_X0_copyFrom 3 1 (upI w1 0 5 (I 0)) = some (cpg (upI w1 0 5 (I 0)) 3 1) := s_copyFrom kd_3 (hW1.2.1 _ kd_3) kd_1 (hW1.2.1 _ kd_1) (by decide)
    have c3 : CG (cpg (upI w1 0 5 (I 0)) 3 1) 3 g := cpg_CG H0.2.2.1
    have fb : ∀ a b, a ≠ 3 → a ≠ 4 → ¬ (a = 0 ∧ b = 5) → (upI (cpg (upI w1 0 5 (I 0)) 3 1) 3 2 (I q)).1 a b = w1.1 a b := fun a b h1 h2 h3 => by rw [upI_n (by omega), cpg_o (by omega) (by omega), upI_n (by omega)]
    have fz : (upI (cpg (upI w1 0 5 (I 0)) 3 1) 3 2 (I q)).1 0 5 = I 0 := by rw [upI_n (by omega), cpg_o (by omega) (by omega), upI_s]
    have h30 : (upI (cpg (upI w1 0 5 (I 0)) 3 1) 3 2 (I q)).1 3 0 = I C := by rw [upI_n (by omega), c3.1, hC]
    have h31 : (upI (cpg (upI w1 0 5 (I 0)) 3 1) 3 2 (I q)).1 3 1 = I R := by rw [upI_n (by omega), c3.2.1, hR]
    have h32 : (upI (cpg (upI w1 0 5 (I 0)) 3 1) 3 2 (I q)).1 3 2 = I q := by rw [upI_s]
    have h4 : ∀ p, p < 25 → (upI (cpg (upI w1 0 5 (I 0)) 3 1) 3 2 (I q)).1 4 p = I (g (3 + p)) := fun p hp => by rw [upI_n (by omega)]; exact c3.2.2.2 p hp
    have eb : (upI (cpg (upI w1 0 5 (I 0)) 3 1) 3 2 (I q)).2 = w1.2 := rfl
    have cls : ∀ v wl, f_X1_goBackInto 7 3 (upI (cpg (upI w1 0 5 (I 0)) 3 1) 3 2 (I q)) = some (v, wl) → f_X7_back 0 (I q) w = (if v ≤ (3 : Int32) then rf 139 (wl.2 0 0) 0 (fun t29 => rf 139 (wl.2 0 1) 0 (fun t31 => c1 (f_X0_differing t29 t31 wl) (fun v34 => c1 (f_X7_beginDeed 0 wl) (fun w36 => rf 139 (w36.2 0 0) 0 (fun t37 => rf 139 (w36.2 0 1) 0 (fun t39 => c1 (f_X0_copyFrom t37 t39 w36) (fun w42 => some (v34, w42)))))))) else some ((-5 : Int32), wl)) := fun v wl hgb => by
      unfold f_X7_back
      rw [c1_r (s_isRule (by omega)), if_pos d, if_neg n10, c2_r b1, ckc kd_7 (by decide), c1_r z1, if_neg n10, i0, lt_d, rfc (show (upI w1 0 5 (I 0)).2 0 1 = some 3 from hW1.1.2.1) kd_3 (by decide), rfc (show (upI w1 0 5 (I 0)).2 0 0 = some 1 from hW1.1.1) kd_1 (by decide), c1_r cp, rfc (show (cpg (upI w1 0 5 (I 0)) 3 1).2 0 1 = some 3 from hW1.1.2.1) kd_3 (by decide), lt_d, rfc (show (upI (cpg (upI w1 0 5 (I 0)) 3 1) 3 2 (I q)).2 0 4 = some 7 from hW1.1.2.2.2.1) kd_7 (by decide), rfc (show (upI (cpg (upI w1 0 5 (I 0)) 3 1) 3 2 (I q)).2 0 1 = some 3 from hW1.1.2.1) kd_3 (by decide), c2_r hgb]
    generalize upI (cpg (upI w1 0 5 (I 0)) 3 1) 3 2 (I q) = wb at *
    have hWb : Wi wb.2 := by rw [eb]; exact hW1
    have gb : GrC wb g := b4.of hv (fun b h => fb _ _ (by omega) (by omega) (by omega)) (fun a b h1 h2 h3 => fb _ _ (by omega) (by omega) (by omega))
    obtain ⟨gm, wc, k1, k2, k3, k4, k5⟩ := s_goBackInto hWb d hv hC hR z2 gb h30 h31 h32 h4
    have cls := cls _ _ k1
    have Hc : Iv wc g p u G := H1.of (by rw [k2, eb]) (Or.inl (by rw [k5 _ _ (by omega) (by omega), fz])) (fun a b h => by rw [k5 _ _ (by omega) (by omega), fb _ _ (by omega) (by omega) (by omega)])
    have hWc := Hc.1
    have a3 : gm ≤ 3 := k3.2.2 (fun i j h1 h2 _ => all3 i j h1 h2)
    have sb := SN_b d hv hC hR z2
    have hgv := SN_V d hv hC hR z2 all3
    have cf : CG wc 3 (grd C R q (SNf q g C R)) := grd_CG (by rw [k5 _ _ (by omega) (by omega), h30]) (by rw [k5 _ _ (by omega) (by omega), h31]) (by rw [k5 _ _ (by omega) (by omega), h32]) (fun p hp => by rw [k4 p hp, SN_f hv hC hR hp])
    have df := s_differing kd_1 (hWc.2.1 _ kd_1) kd_3 (hWc.2.1 _ kd_3) Hc.2.2.1 cf (fun j hj => ⟨by have := hv.g0 hj; omega, by rw [grd_n]; have := sb j; omega⟩)
    obtain ⟨w4, d1, d2, d3, d5, d6⟩ := Hc.deed
    have cp2 : f_X0_copyFrom 1 3 w4 = some (cpg w4 1 3) := s_copyFrom kd_1 (d2.2.1 _ kd_1) kd_3 (d2.2.1 _ kd_3) (by decide)
    have cf4 : CG w4 3 (grd C R q (SNf q g C R)) := cf.of (fun b => d5 _ _ (by omega) (by omega) (by omega)) (fun b => d5 _ _ (by omega) (by omega) (by omega))
    obtain ⟨y1, y2⟩ := d6 (cpg w4 1 3) (grd C R q (SNf q g C R)) rfl (fun a b h1 h2 => cpg_o h1 (by omega)) hgv (cpg_CG cf4)
    refine ⟨_, ?_, y1, fun a b h => by rw [y2 _ _ h, k5 _ _ (by omega) (by omega), fb _ _ (by omega) (by omega) (by omega), b7 _ _ (by omega)]⟩
    rw [cls, if_pos (show I gm ≤ (3 : Int32) by rw [i3, I_le (by have := k3.1; omega) (by have := k3.1; omega) (by omega) (by omega)]; exact a3), rfc hWc.1.1 kd_1 (by decide), rfc hWc.1.2.1 kd_3 (by decide), c1_r df, c1_r d1, rfc d2.1.1 kd_1 (by decide), rfc d2.1.2.1 kd_3 (by decide), c1_r cp2]
  · exact absurd z2 zz

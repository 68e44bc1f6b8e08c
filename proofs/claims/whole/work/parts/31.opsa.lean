/-! grid, put, cell, rule -/
theorem op_cell {x y : Int} (hx : -2147483648 ≤ x ∧ x < 2147483648) (hy : -2147483648 ≤ y ∧ y < 2147483648) : Op1 (f_X7_cell 0 (I x) (I y)) (f_X8_cell 139 (I x) (I y)) := by
  rintro w ⟨g, p, u, G, hW, ⟨hv, hc, hm⟩, -⟩
  have v1 := hv.1; have v2 := hv.2.1
  have e1 := hW.1.1
  unfold f_X7_cell f_X8_cell
  rw [rfc e1 kd_1 (by decide), c1_r (s_hasCell hc hv hx hy), c1_r (m_isCell hm hv hx hy)]
  by_cases c : 1 ≤ x ∧ x ≤ g 0 ∧ 1 ≤ y ∧ y ≤ g 1
  · rw [if_pos c, if_neg (by decide), if_neg (by decide), rfc e1 kd_1 (by decide), c1_r (s_numberAt kd_1 (hW.2.1 _ kd_1) hc hv hx hy), rfc hW.m3 kd_140 (by decide), c1_r (m_at _ _), ln_140, ix_d (by omega) (by omega) (by decide), lt_d, hm.2.2.2 _ (by omega)]
    refine ⟨_, rfl, ?_⟩
    unfold num
    rw [if_pos c, show 5 * (x - 1) + (y - 1) = 5 * (x - 1) + y - 1 by omega]
  · rw [if_neg c, if_pos (by decide), if_pos (by decide)]
    exact ⟨_, rfl, rfl⟩
def gst (a b r : Int) : Gd := fun j => if j = 0 then a else if j = 1 then b else if j = 2 then r else 0
theorem gst_0 (a b r : Int) : gst a b r 0 = a := rfl
theorem gst_1 (a b r : Int) : gst a b r 1 = b := rfl
theorem gst_2 (a b r : Int) : gst a b r 2 = r := rfl
theorem gst_n (a b r : Int) (j : Nat) : gst a b r (3 + j) = 0 := by
  unfold gst
  rw [if_neg (by omega), if_neg (by omega), if_neg (by omega)]
theorem gst_V {a b r : Int} (ha : 1 ≤ a ∧ a ≤ 5) (hb : 1 ≤ b ∧ b ≤ 5) (hr : 0 ≤ r ∧ r ≤ 3) : GV (gst a b r) := by
  refine ⟨ha, hb, hr, fun j hj => ?_, fun j hj _ => gst_n _ _ _ _⟩
  rw [gst_n]; omega
theorem clg_CG {w : Wd} {t : Nat} {a b : Int} {g : Gd} (h : CG w t g) : CG (clg w t (I a) (I b)) t (gst a b (g 2)) := by
  unfold clg
  refine ⟨?_, ?_, ?_, fun j hj => ?_⟩
  · rw [fill_n (by omega), upI_n (by omega), upI_s]; rfl
  · rw [fill_n (by omega), upI_s]; rfl
  · rw [fill_n (by omega), upI_n (by omega), upI_n (by omega), h.2.2.1]; rfl
  · rw [fill_i hj, gst_n]
theorem op_grid {x y : Int} (hx : -2147483648 ≤ x ∧ x < 2147483648) (hy : -2147483648 ≤ y ∧ y < 2147483648) : Op2 (f_X7_grid 0 (I x) (I y)) (f_X8_grid 139 (I x) (I y)) := by
  rintro w ⟨g, p, u, G, H⟩
  obtain ⟨hW, ⟨hv, hc, hm⟩, hrc, hrd, hri, hrt, -⟩ := id H
  have e1 := hW.1.1
  unfold f_X7_grid f_X8_grid
  rw [c1_r (s_isSide hx), l1, l5]
  by_cases c : 1 ≤ x ∧ x ≤ 5
  · rw [if_pos c, if_neg (by decide), c1_r (s_isSide hy)]
    by_cases d : 1 ≤ y ∧ y ≤ 5
    · obtain ⟨w1, b1, b2, b3, b4, b5, b6⟩ := H.begin
      rw [if_pos d, if_neg (by decide), rfc e1 kd_1 (by decide), rfc e1 kd_1 (by decide), lt_d, c1_r b1, rfc b2.1.1 kd_1 (by decide), c1_r (s_clearTo (I x) (I y) kd_1 (b2.2.1 _ kd_1)), hc.1, hc.2.1]
      obtain ⟨d1, d2, w3, d3, d4, d5, d6, d7⟩ := b6 (clg w1 1 (I x) (I y)) rfl (fun a b h1 h2 _ _ => clg_o (by omega) (by omega))
      refine ⟨_, _, fill (upI (upI w3 139 0 (I x)) 139 1 (I y)) 140 25 (fun _ => I 0), rfl, ?_⟩
      rw [c1_r (m_chk hx (by omega) (by omega)), if_pos c, if_neg (by decide), c1_r (m_chk hy (by omega) (by omega)), if_pos d, if_neg (by decide), lt_d, c1_r d3, lt_d, lt_d, c1_r (m_empties (w := upI (upI w3 139 0 (I x)) 139 1 (I y)) d4), d2.1, d2.2.1]
      refine ⟨rfl, d7 _ (gst x y (g 2)) rfl (fun a b h => ?_) (gst_V c d hv.2.2.1) (clg_CG b3) ⟨?_, ?_, ?_, fun j hj => ?_⟩ (hrt.of fun a b h => ?_)⟩
      · rw [fill_n (by omega), upI_n (by omega), upI_n (by omega)]
      · rw [fill_n (by omega), upI_n (by omega), upI_s]; rfl
      · rw [fill_n (by omega), upI_s]; rfl
      · rw [fill_n (by omega), upI_n (by omega), upI_n (by omega), d5.2.2.1]; rfl
      · rw [fill_i hj, gst_n]
      · rw [fill_n (by omega), upI_n (by omega), upI_n (by omega), d6 _ _ (by omega) (by omega), clg_o (by omega) (by omega), b5 _ _ (by omega) (by omega) (by omega)]
    · rw [if_neg d, if_pos (by decide)]
      refine ⟨_, _, w, rfl, ?_, ⟨g, p, u, G, H⟩⟩
      rw [c1_r (m_chk hx (by omega) (by omega)), if_pos c, if_neg (by decide), c1_r (m_chk hy (by omega) (by omega)), if_neg d, if_pos (by decide)]
  · rw [if_neg c, if_pos (by decide)]
    refine ⟨_, _, w, rfl, ?_, ⟨g, p, u, G, H⟩⟩
    rw [c1_r (m_chk hx (by omega) (by omega)), if_neg c, if_pos (by decide)]
theorem op_rule {x : Int} (hx : -2147483648 ≤ x ∧ x < 2147483648) : Op2 (f_X7_rule 0 (I x)) (f_X8_rule 139 (I x)) := by
  rintro w ⟨g, p, u, G, H⟩
  obtain ⟨hW, ⟨hv, hc, hm⟩, hrc, hrd, hri, hrt, -⟩ := id H
  have e1 := hW.1.1
  unfold f_X7_rule f_X8_rule
  rw [c1_r (s_isRule hx), l0, l3]
  by_cases c : 0 ≤ x ∧ x ≤ 3
  · obtain ⟨w1, b1, b2, b3, b4, b5, b6⟩ := H.begin
    rw [if_pos c, if_neg (by decide), rfc e1 kd_1 (by decide), lt_d, c1_r b1, rfc b2.1.1 kd_1 (by decide), lt_d, hc.2.2.1]
    obtain ⟨d1, d2, w3, d3, d4, d5, d6, d7⟩ := b6 (upI w1 1 2 (I x)) rfl (fun a b h1 h2 _ _ => upI_n (by omega))
    refine ⟨_, _, upI w3 139 2 (I x), rfl, ?_⟩
    rw [c1_r (m_chk hx (by omega) (by omega)), if_pos c, if_neg (by decide), lt_d, c1_r d3, lt_d, d2.2.2.1]
    refine ⟨rfl, d7 _ (fun j => if j = 2 then x else g j) rfl (fun a b h => upI_n (by omega)) ⟨hv.1, hv.2.1, c, fun j hj => ?_, fun j hj hz => ?_⟩ ⟨?_, ?_, ?_, fun j hj => ?_⟩ ⟨?_, ?_, ?_, fun j hj => ?_⟩ (hrt.of fun a b h => ?_)⟩
    · show 0 ≤ (if 3 + j = 2 then x else g (3 + j)) ∧ (if 3 + j = 2 then x else g (3 + j)) ≤ 3
      rw [if_neg (by omega)]; exact hv.2.2.2.1 j hj
    · show (if 3 + j = 2 then x else g (3 + j)) = 0
      rw [if_neg (by omega)]; exact hv.2.2.2.2 j hj hz
    · rw [upI_n (by omega)]; exact b3.1
    · rw [upI_n (by omega)]; exact b3.2.1
    · rw [upI_s]; rfl
    · show _ = I (if 3 + j = 2 then x else g (3 + j))
      rw [upI_n (by omega), if_neg (by omega)]; exact b3.2.2.2 j hj
    · rw [upI_n (by omega)]; exact d5.1
    · rw [upI_n (by omega)]; exact d5.2.1
    · rw [upI_s]; rfl
    · show _ = I (if 3 + j = 2 then x else g (3 + j))
      rw [upI_n (by omega), if_neg (by omega)]; exact d5.2.2.2 j hj
    · rw [upI_n (by omega), d6 _ _ (by omega) (by omega), upI_n (by omega), b5 _ _ (by omega) (by omega) (by omega)]
  · rw [if_neg c, if_pos (by decide)]
    refine ⟨_, _, w, rfl, ?_, ⟨g, p, u, G, H⟩⟩
    rw [c1_r (m_chk hx (by omega) (by omega)), if_neg c, if_pos (by decide)]
/-- g with number v at place k -/
def gset (g : Gd) (k : Nat) (v : Int) : Gd := fun j => if j = 3 + k then v else g j
theorem gset_V {g : Gd} {x y : Int} {v : Int} (hv : GV g) (h : 0 ≤ v ∧ v ≤ 3) (hx : 1 ≤ x ∧ x ≤ g 0) (hy : 1 ≤ y ∧ y ≤ g 1) : GV (gset g (5 * (x - 1) + (y - 1)).toNat v) := by
  have v1 := hv.1; have v2 := hv.2.1
  generalize hk : (5 * (x - 1) + (y - 1)).toNat = k
  have a0 : gset g k v 0 = g 0 := if_neg (by omega)
  have a1 : gset g k v 1 = g 1 := if_neg (by omega)
  have a2 : gset g k v 2 = g 2 := if_neg (by omega)
  refine ⟨by rw [a0]; exact v1, by rw [a1]; exact v2, by rw [a2]; exact hv.2.2.1, fun j hj => ?_, fun j hj hz => ?_⟩
  · unfold gset
    by_cases e : 3 + j = 3 + k
    · rw [if_pos e]; exact h
    · rw [if_neg e]; exact hv.2.2.2.1 j hj
  · rw [a0, a1] at hz
    unfold gset
    by_cases e : 3 + j = 3 + k
    · exfalso; omega
    · rw [if_neg e]; exact hv.2.2.2.2 j hj hz
theorem gset_CG {w : Wd} {t k : Nat} {g : Gd} {v : Int} (h : CG w t g) : CG (upI w (t + 1) k (I v)) t (gset g k v) := by
  refine ⟨?_, ?_, ?_, fun j hj => ?_⟩
  · rw [upI_n (by omega)]; exact h.1.trans (congrArg I (if_neg (by omega)).symm)
  · rw [upI_n (by omega)]; exact h.2.1.trans (congrArg I (if_neg (by omega)).symm)
  · rw [upI_n (by omega)]; exact h.2.2.1.trans (congrArg I (if_neg (by omega)).symm)
  · unfold gset
    by_cases e : j = k
    · subst e; rw [upI_s, if_pos rfl]
    · rw [upI_n (by omega), if_neg (by omega)]; exact h.2.2.2 j hj
theorem gset_MG {w : Wd} {k : Nat} {g : Gd} {v : Int} (h : MG w g) : MG (upI w 140 k (I v)) (gset g k v) := by
  refine ⟨?_, ?_, ?_, fun j hj => ?_⟩
  · rw [upI_n (by omega)]; exact h.1.trans (congrArg I (if_neg (by omega)).symm)
  · rw [upI_n (by omega)]; exact h.2.1.trans (congrArg I (if_neg (by omega)).symm)
  · rw [upI_n (by omega)]; exact h.2.2.1.trans (congrArg I (if_neg (by omega)).symm)
  · unfold gset
    by_cases e : j = k
    · subst e; rw [upI_s, if_pos rfl]
    · rw [upI_n (by omega), if_neg (by omega)]; exact h.2.2.2 j hj
theorem op_put {x y z : Int} (hx : -2147483648 ≤ x ∧ x < 2147483648) (hy : -2147483648 ≤ y ∧ y < 2147483648) (hz : -2147483648 ≤ z ∧ z < 2147483648) : Op2 (f_X7_put 0 (I x) (I y) (I z)) (f_X8_put 139 (I x) (I y) (I z)) := by
  rintro w ⟨g, p, u, G, H⟩
  obtain ⟨hW, ⟨hv, hc, hm⟩, hrc, hrd, hri, hrt, -⟩ := id H
  have e1 := hW.1.1
  have v1 := hv.1; have v2 := hv.2.1
  unfold f_X7_put f_X8_put
  rw [rfc e1 kd_1 (by decide), c1_r (s_hasCell hc hv hx hy), l0, l3]
  by_cases c : 1 ≤ x ∧ x ≤ g 0 ∧ 1 ≤ y ∧ y ≤ g 1
  · rw [if_pos c, if_neg (by decide), c1_r (s_isNumber hz)]
    by_cases d : 0 ≤ z ∧ z ≤ 3
    · obtain ⟨w1, b1, b2, b3, b4, b5, b6⟩ := H.begin
      rw [if_pos d, if_neg (by decide), rfc e1 kd_1 (by decide), c1_r (s_numberAt kd_1 (hW.2.1 _ kd_1) hc hv hx hy), c1_r b1, rfc b2.1.1 kd_1 (by decide), c1_r (s_setNumber (I z) kd_1 (b2.2.1 _ kd_1) b3 hv ⟨c.1, c.2.1⟩ c.2.2)]
      obtain ⟨d1, d2, w3, d3, d4, d5, d6, d7⟩ := b6 (upI w1 (1 + 1) (5 * (x - 1) + (y - 1)).toNat (I z)) rfl (fun a b h1 h2 _ _ => upI_n (by omega))
      refine ⟨_, _, upI w3 140 (5 * (x - 1) + (y - 1)).toNat (I z), rfl, ?_⟩
      rw [c1_r (m_isCell d2 hv hx hy), if_pos c, if_neg (by decide), c1_r (m_chk hz (by omega) (by omega)), if_pos d, if_neg (by decide), rfc d1.m3 kd_140 (by decide), c1_r (m_at _ _), ln_140, ix_d (by omega) (by omega) (by decide), lt_d, c1_r d3, rfc d4.m3 kd_140 (by decide), c1_r (m_at _ _), ln_140, ix_d (by omega) (by omega) (by decide), lt_d, show 5 * (x - 1) + y - 1 = 5 * (x - 1) + (y - 1) by omega, d2.2.2.2 _ (by omega)]
      refine ⟨?_, d7 _ (gset g (5 * (x - 1) + (y - 1)).toNat z) rfl (fun a b h => upI_n (by omega)) (gset_V hv d ⟨c.1, c.2.1⟩ c.2.2) (gset_CG b3) (gset_MG d5) (hrt.of fun a b h => ?_)⟩
      · unfold num
        rw [if_pos c]
      · rw [upI_n (by omega), d6 _ _ (by omega) (by omega), upI_n (by omega), b5 _ _ (by omega) (by omega) (by omega)]
    · rw [if_neg d, if_pos (by decide)]
      refine ⟨_, _, w, rfl, ?_, ⟨g, p, u, G, H⟩⟩
      rw [c1_r (m_isCell hm hv hx hy), if_pos c, if_neg (by decide), c1_r (m_chk hz (by omega) (by omega)), if_neg d, if_pos (by decide)]
  · rw [if_neg c, if_pos (by decide)]
    refine ⟨_, _, w, rfl, ?_, ⟨g, p, u, G, H⟩⟩
    rw [c1_r (m_isCell hm hv hx hy), if_neg c, if_pos (by decide)]

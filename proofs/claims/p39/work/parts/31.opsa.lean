def gst (a b r : Int) : Gd := fun j => if j = 0 then a else if j = 1 then b else if j = 2 then r else 0
theorem gst_0 (a b r : Int) : gst a b r 0 = a := rfl
theorem gst_1 (a b r : Int) : gst a b r 1 = b := rfl
theorem gst_2 (a b r : Int) : gst a b r 2 = r := rfl
theorem gst_n (a b r : Int) (j : Nat) : gst a b r (3 + j) = 0 := by
  unfold gst
  rw [if_neg (by omega), if_neg (by omega), if_neg (by omega)]
theorem gst_V {a b r : Int} (ha : 1 ≤ a ∧ a ≤ 5) (hb : 1 ≤ b ∧ b ≤ 5) (hr : 0 ≤ r ∧ r ≤ 3) : GV (gst a b r) := by
  refine ⟨ha, hb, hr, fun j hj => ?_, fun j hj _ => gst_n _ _ _ _⟩
  rw [gst_n]; omega
theorem clg_CG {w : Wd} {t : Nat} {a b : Int} {g : Gd} (h : CG w t g) : CG (clg w t (I a) (I b)) t (gst a b (g 2)) := by
  unfold clg
  refine ⟨?_, ?_, ?_, fun j hj => ?_⟩
  · rw [fill_n (by omega), upI_n (by omega), upI_s]; rfl
  · rw [fill_n (by omega), upI_s]; rfl
  · rw [fill_n (by omega), upI_n (by omega), upI_n (by omega), h.2.2.1]; rfl
  · rw [fill_i hj, gst_n]
/-- g with number v at place k -/
def gset (g : Gd) (k : Nat) (v : Int) : Gd := fun j => if j = 3 + k then v else g j
theorem gset_V {g : Gd} {x y : Int} {v : Int} (hv : GV g) (h : 0 ≤ v ∧ v ≤ 3) (hx : 1 ≤ x ∧ x ≤ g 0) (hy : 1 ≤ y ∧ y ≤ g 1) : GV (gset g (5 * (x - 1) + (y - 1)).toNat v) := by
  have v1 := hv.1; have v2 := hv.2.1
  generalize hk : (5 * (x - 1) + (y - 1)).toNat = k
  have a0 : gset g k v 0 = g 0 := if_neg (by omega)
  have a1 : gset g k v 1 = g 1 := if_neg (by omega)
  have a2 : gset g k v 2 = g 2 := if_neg (by omega)
  refine ⟨by rw [a0]; exact v1, by rw [a1]; exact v2, by rw [a2]; exact hv.2.2.1, fun j hj => ?_, fun j hj hz => ?_⟩
  · unfold gset
    by_cases e : 3 + j = 3 + k
    · rw [if_pos e]; exact h
    · rw [if_neg e]; exact hv.2.2.2.1 j hj
  · rw [a0, a1] at hz
    unfold gset
    by_cases e : 3 + j = 3 + k
    · exfalso; omega
    · rw [if_neg e]; exact hv.2.2.2.2 j hj hz
theorem gset_CG {w : Wd} {t k : Nat} {g : Gd} {v : Int} (h : CG w t g) : CG (upI w (t + 1) k (I v)) t (gset g k v) := by
  refine ⟨?_, ?_, ?_, fun j hj => ?_⟩
  · rw [upI_n (by omega)]; exact h.1.trans (congrArg I (if_neg (by omega)).symm)
  · rw [upI_n (by omega)]; exact h.2.1.trans (congrArg I (if_neg (by omega)).symm)
  · rw [upI_n (by omega)]; exact h.2.2.1.trans (congrArg I (if_neg (by omega)).symm)
  · unfold gset
    by_cases e : j = k
    · subst e; rw [upI_s, if_pos rfl]
    · rw [upI_n (by omega), if_neg (by omega)]; exact h.2.2.2 j hj

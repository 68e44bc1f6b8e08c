/-! word -/
def grd (a b r : Int) (T : Nat → Int) : Gd := fun j => if j = 0 then a else if j = 1 then b else if j = 2 then r else T (j - 3)
theorem grd_0 (a b r : Int) (T : Nat → Int) : grd a b r T 0 = a := rfl
theorem grd_1 (a b r : Int) (T : Nat → Int) : grd a b r T 1 = b := rfl
theorem grd_2 (a b r : Int) (T : Nat → Int) : grd a b r T 2 = r := rfl
theorem grd_n (a b r : Int) (T : Nat → Int) (q : Nat) : grd a b r T (3 + q) = T q := by
  unfold grd
  rw [if_neg (by omega), if_neg (by omega), if_neg (by omega), show 3 + q - 3 = q by omega]
/-! turn -/
theorem grd_V {a b r : Int} {T : Nat → Int} (ha : 1 ≤ a ∧ a ≤ 5) (hb : 1 ≤ b ∧ b ≤ 5) (hr : 0 ≤ r ∧ r ≤ 3) (h1 : ∀ q, q < 25 → 0 ≤ T q ∧ T q ≤ 3) (h2 : ∀ q : Nat, q < 25 → (a ≤ ((q / 5 : Nat) : Int) ∨ b ≤ ((q % 5 : Nat) : Int)) → T q = 0) : GV (grd a b r T) :=
  ⟨ha, hb, hr, fun j hj => by rw [grd_n]; exact h1 j hj, fun j hj h => by rw [grd_n]; exact h2 j hj h⟩
theorem grd_CG {w : Wd} {t : Nat} {a b r : Int} {T : Nat → Int} (h0 : w.1 t 0 = I a) (h1 : w.1 t 1 = I b) (h2 : w.1 t 2 = I r) (h3 : ∀ q, q < 25 → w.1 (t + 1) q = I (T q)) : CG w t (grd a b r T) :=
  ⟨h0, h1, h2, fun j hj => by rw [grd_n]; exact h3 j hj⟩
theorem GV.g0 {g : Gd} (hv : GV g) {q : Nat} (hq : q < 25) : 0 ≤ g (3 + q) ∧ g (3 + q) ≤ 3 := hv.2.2.2.1 q hq

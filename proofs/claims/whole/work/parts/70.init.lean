/-! the two objects as they are made -/
theorem iA : (f_X7_init 0 1 (clr w00 0)).isSome = true := by decide +kernel
def wA : Wd := (f_X7_init 0 1 (clr w00 0)).get iA
theorem hA : f_X7_init 0 1 (clr w00 0) = some wA := (Option.some_get iA).symm
theorem iB : (f_X8_init 139 140 (clr wA 139)).isSome = true := by decide +kernel
def wB : Wd := (f_X8_init 139 140 (clr wA 139)).get iB
theorem hB : f_X8_init 139 140 (clr wA 139) = some wB := (Option.some_get iB).symm
theorem wB_r0 : wB.2 0 0 = some 1 ∧ wB.2 0 1 = some 3 ∧ wB.2 0 2 = some 5 ∧ wB.2 0 4 = some 7 ∧ wB.2 0 6 = some 84 ∧ wB.2 0 7 = some 92 ∧ wB.2 0 8 = some 112 ∧ wB.2 0 9 = some 114 := by decide +kernel
theorem wB_rc : ∀ t, t < 153 → kd t = 0 → wB.2 t 3 = some (t + 1) := by decide +kernel
theorem wB_rs : ∀ t, t < 153 → kd t = 5 → wB.2 t 0 = some (t + 1) := by decide +kernel
theorem wB_r7 : wB.2 7 0 = some 8 ∧ wB.2 7 1 = some 81 ∧ wB.2 7 4 = some 83 := by decide +kernel
theorem wB_r8 : ∀ k, k < 36 → wB.2 8 k = some (9 + 2 * k) := by decide +kernel
theorem wB_r84 : wB.2 84 0 = some 85 ∧ ∀ k, k < 6 → wB.2 85 k = some (86 + k) := by decide +kernel
theorem wB_r92 : wB.2 92 0 = some 93 ∧ wB.2 112 0 = some 113 := by decide +kernel
theorem wB_rh : ∀ h, h < 6 → wB.2 114 h = some (115 + 4 * h) ∧ wB.2 (115 + 4 * h) 1 = some (116 + 4 * h) ∧ wB.2 (115 + 4 * h) 2 = some (118 + 4 * h) := by decide +kernel
theorem wB_rm : wB.2 139 3 = some 140 ∧ wB.2 139 4 = some 141 ∧ wB.2 139 5 = some 142 ∧ wB.2 139 8 = some 143 ∧ wB.2 139 9 = some 144 ∧ wB.2 139 10 = some 145 ∧ wB.2 139 11 = some 146 ∧ wB.2 139 12 = some 147 ∧ wB.2 139 13 = some 148 ∧ wB.2 139 15 = some 149 ∧ wB.2 139 16 = some 150 ∧ wB.2 139 17 = some 151 ∧ wB.2 139 18 = some 152 := by decide +kernel
theorem wB_d : ∀ k, k < 9 → wB.2 93 k = some (94 + 2 * k) ∧ kd (94 + 2 * k) = 0 := by decide +kernel
theorem wB_i : (wB.1 1 0 = I 3 ∧ wB.1 1 1 = I 3 ∧ wB.1 1 2 = I 0) ∧ (wB.1 139 0 = I 3 ∧ wB.1 139 1 = I 3 ∧ wB.1 139 2 = I 0) ∧ wB.1 0 5 = I 0 ∧ (wB.1 92 1 = I 0 ∧ wB.1 92 2 = I 0) ∧ (wB.1 139 6 = I 0 ∧ wB.1 139 7 = I 0) ∧ (wB.1 0 3 = I 0 ∧ wB.1 139 19 = I 0) ∧ (wB.1 112 1 = I 0 ∧ wB.1 139 14 = I 0) := by decide +kernel
theorem wB_n : ∀ j, j < 25 → wB.1 2 j = I 0 ∧ wB.1 140 j = I 0 := by decide +kernel
theorem wB_h : ∀ h, h < 6 → wB.1 (115 + 4 * h) 0 = I 0 ∧ wB.1 149 h = I 0 := by decide +kernel
theorem wB_s : (∀ y, y < 6 → wB.1 86 y = I 0) ∧ ∀ x, x < 6 → wB.1 (86 + x) 0 = I 0 := by decide +kernel
theorem In_of {w : Wd} (xr0 : w.2 0 0 = some 1 ∧ w.2 0 1 = some 3 ∧ w.2 0 2 = some 5 ∧ w.2 0 4 = some 7 ∧ w.2 0 6 = some 84 ∧ w.2 0 7 = some 92 ∧ w.2 0 8 = some 112 ∧ w.2 0 9 = some 114) (xrc : ∀ t, t < 153 → kd t = 0 → w.2 t 3 = some (t + 1)) (xrs : ∀ t, t < 153 → kd t = 5 → w.2 t 0 = some (t + 1)) (xr7 : w.2 7 0 = some 8 ∧ w.2 7 1 = some 81 ∧ w.2 7 4 = some 83) (xr8 : ∀ k, k < 36 → w.2 8 k = some (9 + 2 * k)) (xr84 : w.2 84 0 = some 85 ∧ ∀ k, k < 6 → w.2 85 k = some (86 + k)) (xr92 : w.2 92 0 = some 93 ∧ w.2 112 0 = some 113) (xrh : ∀ h, h < 6 → w.2 114 h = some (115 + 4 * h) ∧ w.2 (115 + 4 * h) 1 = some (116 + 4 * h) ∧ w.2 (115 + 4 * h) 2 = some (118 + 4 * h)) (xrm : w.2 139 3 = some 140 ∧ w.2 139 4 = some 141 ∧ w.2 139 5 = some 142 ∧ w.2 139 8 = some 143 ∧ w.2 139 9 = some 144 ∧ w.2 139 10 = some 145 ∧ w.2 139 11 = some 146 ∧ w.2 139 12 = some 147 ∧ w.2 139 13 = some 148 ∧ w.2 139 15 = some 149 ∧ w.2 139 16 = some 150 ∧ w.2 139 17 = some 151 ∧ w.2 139 18 = some 152) (xd : ∀ k, k < 9 → w.2 93 k = some (94 + 2 * k) ∧ kd (94 + 2 * k) = 0) (xi : (w.1 1 0 = I 3 ∧ w.1 1 1 = I 3 ∧ w.1 1 2 = I 0) ∧ (w.1 139 0 = I 3 ∧ w.1 139 1 = I 3 ∧ w.1 139 2 = I 0) ∧ w.1 0 5 = I 0 ∧ (w.1 92 1 = I 0 ∧ w.1 92 2 = I 0) ∧ (w.1 139 6 = I 0 ∧ w.1 139 7 = I 0) ∧ (w.1 0 3 = I 0 ∧ w.1 139 19 = I 0) ∧ (w.1 112 1 = I 0 ∧ w.1 139 14 = I 0)) (xn : ∀ j, j < 25 → w.1 2 j = I 0 ∧ w.1 140 j = I 0) (xh : ∀ h, h < 6 → w.1 (115 + 4 * h) 0 = I 0 ∧ w.1 149 h = I 0) (xs : (∀ y, y < 6 → w.1 86 y = I 0) ∧ ∀ x, x < 6 → w.1 (86 + x) 0 = I 0) : In w := by
  have hv : GV (gst 3 3 0) := gst_V (by omega) (by omega) (by omega)
  have hW : Wi w.2 := ⟨xr0, fun t h => xrc t (kd_lt h (by decide)) h, fun t h => xrs t (kd_lt h (by decide)) h, xr7, xr8, xr84, xr92.1, xr92.2, xrh, xrm⟩
  obtain ⟨c, m, f, d, e, r, t⟩ := xi
  refine ⟨gst 3 3 0, 0, 0, fun _ => gst 3 3 0, hW, ⟨hv, ⟨c.1, c.2.1, c.2.2, fun j hj => ?_⟩, ⟨m.1, m.2.1, m.2.2, fun j hj => ?_⟩⟩, Or.inl f, ⟨fun _ => hv, fun h => absurd h (by decide), by decide, ⟨fun k => 94 + 2 * k, fun k hk => ⟨(xd k hk).1, (xd k hk).2, show 94 ≤ 94 + 2 * k by omega, show 94 + 2 * k < 111 by omega⟩, fun i j _ _ h => ?_, d.1, d.2, by decide, fun k _ h => absurd h (by omega)⟩, ⟨e.1, e.2, fun k h => absurd h (by omega), fun q h => absurd h (by omega)⟩⟩, Or.inl r, ⟨0, fun _ => 0, by decide, t.1, t.2, fun j h => absurd h (by omega)⟩, fun h hh => Or.inl (xh h hh), xs⟩
  · rw [gst_n]; exact (xn j hj).1
  · rw [gst_n]; exact (xn j hj).2
  · have h' : 94 + 2 * i = 94 + 2 * j := h
    omega
theorem wB_In : In wB := In_of wB_r0 wB_rc wB_rs wB_r7 wB_r8 wB_r84 wB_r92 wB_rh wB_rm wB_d wB_i wB_n wB_h wB_s
theorem law_init (L : Nat) (xs : Nat → Int32) : f_law L xs = f_loop L xs 0 wB := by
  unfold f_law
  rw [show mk 0 (0 + 153) 7 0 = fun (K : Option Int32) => K from funext fun K => if_pos (by decide)]
  show lt2 _ _ _ = _
  rw [lt2_d, show (0 : Nat) + 1 = 1 from rfl, c1_r hA, if_pos (by decide), lt2_d]
  rw [show mk (1 + 138) (0 + 153) 8 0 = fun (K : Option Int32) => K from funext fun K => if_pos (by decide)]
  show lt2 _ _ _ = _
  rw [lt2_d, show (1 : Nat) + 138 = 139 from rfl, show (139 : Nat) + 1 = 140 from rfl, c1_r hB, if_pos (by decide), lt2_d]

/-! back, by both -/
def All3 (q : Int) (g : Gd) (C R : Nat) : Prop := ∀ i j, i < C → j < R → BM q g C R i j ≤ 3
def SNf (q : Int) (g : Gd) (C R p : Nat) : Int := SN q g C R (fun _ => 0) C 0 p
def FTq (q : Int) (g : Gd) (C R i j : Nat) (x : Int32) : Prop := (x = I 1 ∧ ∀ i' j', i' < C → j' < R → (i' < i ∨ (i' = i ∧ j' < j)) → BM q g C R i' j' ≤ 3) ∨ (x = I 0 ∧ ¬ All3 q g C R)
theorem SN_b {q : Int} {g : Gd} {C R : Nat} (hq : 0 ≤ q ∧ q ≤ 3) (hv : GV g) (hC : g 0 = C) (hR : g 1 = R) (hf : RimF g C R q) (p : Nat) : 0 ≤ SNf q g C R p ∧ SNf q g C R p ≤ 150 ∧ (All3 q g C R → SNf q g C R p ≤ 3) := by
  unfold SNf SN
  by_cases c : (p / 5 < C ∧ p % 5 < R) ∧ (C - 1 - p / 5 < C ∨ (C - 1 - p / 5 = C ∧ R - 1 - p % 5 < 0))
  · rw [if_pos c]
    have h := BM_b hq hv hC hR hf (i := C - 1 - p / 5) (j := R - 1 - p % 5) (by omega) (by omega)
    exact ⟨h.1, h.2, fun e => e _ _ (by omega) (by omega)⟩
  · rw [if_neg c]
    exact ⟨Int.le_refl 0, show (0 : Int) ≤ 150 by decide, fun _ => show (0 : Int) ≤ 3 by decide⟩
theorem SN_f {q : Int} {g : Gd} {C R p : Nat} (hv : GV g) (hC : g 0 = C) (hR : g 1 = R) (hp : p < 25) : SN q g C R (fun p => g (3 + p)) C 0 p = SNf q g C R p := by
  unfold SNf SN
  by_cases c : (p / 5 < C ∧ p % 5 < R) ∧ (C - 1 - p / 5 < C ∨ (C - 1 - p / 5 = C ∧ R - 1 - p % 5 < 0))
  · rw [if_pos c, if_pos c]
  · rw [if_neg c, if_neg c]
    exact hv.2.2.2.2 p hp (by omega)
theorem SN_V {q : Int} {g : Gd} {C R : Nat} (hq : 0 ≤ q ∧ q ≤ 3) (hv : GV g) (hC : g 0 = C) (hR : g 1 = R) (hf : RimF g C R q) (h3 : All3 q g C R) : GV (grd C R q (SNf q g C R)) := by
  have v1 := hv.1; have v2 := hv.2.1
  refine grd_V (by omega) (by omega) hq (fun p _ => ⟨(SN_b hq hv hC hR hf p).1, (SN_b hq hv hC hR hf p).2.2 h3⟩) (fun p hp h => ?_)
  unfold SNf SN
  rw [if_neg (by omega)]
theorem dif_b (g f : Gd) : ∀ n, 0 ≤ dif g f n ∧ dif g f n ≤ n
  | 0 => by show (0 : Int) ≤ 0 ∧ (0 : Int) ≤ _; omega
  | n + 1 => by
    have := dif_b g f n
    show 0 ≤ dif g f n + (if g (3 + n) = f (3 + n) then 0 else 1) ∧ dif g f n + (if g (3 + n) = f (3 + n) then 0 else 1) ≤ ((n + 1 : Nat) : Int)
    split <;> omega

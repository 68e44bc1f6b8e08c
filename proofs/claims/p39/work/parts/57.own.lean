/-! back by the own rule: OLD and the worth come again -/
theorem ov_1 {r o a b c : Int} (hr : 0 ≤ r ∧ r ≤ 3) (hc : 0 ≤ c) (h1 : o ≤ a) (h2 : o ≤ b) (ha : eR r = 1 → a ≤ o + 1) (hb : eC r = 1 → b ≤ o + 1) : bO r (gN r o a b c) a b (c + (a + b - o - gN r o a b c)) = o := by
  have m := mx_c a b
  have l := lo_c a b
  obtain rfl | rfl | rfl | rfl : r = 0 ∨ r = 1 ∨ r = 2 ∨ r = 3 := by omega
  · show lo a b - (c + (a + b - o - (mx a b + c))) = o
    omega
  · have hb := hb rfl
    have m2 := mx_c (a + c) b
    show lo a (b - (c + (a + b - o - mx (a + c) b))) = o
    have l2 := lo_c a (b - (c + (a + b - o - mx (a + c) b)))
    omega
  · have ha := ha rfl
    have m2 := mx_c a (b + c)
    show lo (a - (c + (a + b - o - mx a (b + c)))) b = o
    have l2 := lo_c (a - (c + (a + b - o - mx a (b + c)))) b
    omega
  · have ha := ha rfl
    have hb := hb rfl
    show lo a b - lo (tri (mx a b + lo (tri o a b) c) a b) (c + (a + b - o - (mx a b + lo (tri o a b) c))) = o
    have t : (o = a ∧ a = b ∧ tri o a b = 1) ∨ (¬ (o = a ∧ a = b) ∧ tri o a b = 0) := by unfold tri; (repeat' split) <;> omega
    have l2 := lo_c (tri o a b) c
    generalize hn : mx a b + lo (tri o a b) c = n
    have t2 : (n = a ∧ a = b ∧ tri n a b = 1) ∨ (¬ (n = a ∧ a = b) ∧ tri n a b = 0) := by unfold tri; (repeat' split) <;> omega
    have l3 := lo_c (tri n a b) (c + (a + b - o - n))
    omega
/-- the carry at i of growing is the carry ahead of i of going back -/
theorem ov_c {r w W : Int} {o a b n : Nat → Int} (hr : 0 ≤ r ∧ r ≤ 3) (hw : 0 ≤ w) (ho : ∀ k, 0 ≤ o k) (Sa : Sp (eR r) o a) (Sb : Sp (eC r) o b) (hn : n = gp r w o a b) (Gn : Gs n W) : ∀ d, d ≤ len n → bc r n a b (len n) d = gc r w o a b (len n - d) := by
  intro d
  induction d with
  | zero =>
    intro _
    have h := (gp_pt hr hw ho Sa.1 Sb.1 (len n)).2.2 (by rw [← hn]; exact len_z Gn (Nat.le_refl _))
    rw [Nat.sub_zero, h]
    rfl
  | succ d ih =>
    intro hd
    have e1 : len n - d = (len n - 1 - d) + 1 := by omega
    have e2 : len n - (d + 1) = len n - 1 - d := by omega
    have e : bc r n a b (len n) (d + 1) = bc r n a b (len n) d + (n (len n - 1 - d) + bO r (n (len n - 1 - d)) (a (len n - 1 - d)) (b (len n - 1 - d)) (bc r n a b (len n) d) - a (len n - 1 - d) - b (len n - 1 - d)) := rfl
    have ih := ih (by omega)
    rw [e1] at ih
    rw [e, ih, e2]
    generalize len n - 1 - d = i
    have s : gc r w o a b (i + 1) = gc r w o a b i + (a i + b i - o i - gN r (o i) (a i) (b i) (gc r w o a b i)) := rfl
    have ni : n i = gN r (o i) (a i) (b i) (gc r w o a b i) := by rw [hn]; rfl
    have v := ov_1 hr (gc_b hr hw ho Sa.1 Sb.1 i) (Sa.1 i) (Sb.1 i) (fun h => Sa.2.2 h i) (fun h => Sb.2.2 h i)
    rw [s, ni, v]
    omega
theorem ov_o {r w W : Int} {o a b n : Nat → Int} (hr : 0 ≤ r ∧ r ≤ 3) (hw : 0 ≤ w) (ho : ∀ k, 0 ≤ o k) (Sa : Sp (eR r) o a) (Sb : Sp (eC r) o b) (hn : n = gp r w o a b) (Gn : Gs n W) (k : Nat) : bo r n a b k = o k := by
  by_cases c : k < len n
  · unfold bo
    rw [if_pos c, ov_c hr hw ho Sa Sb hn Gn _ (by omega), show len n - (len n - 1 - k) = k + 1 by omega]
    have s : gc r w o a b (k + 1) = gc r w o a b k + (a k + b k - o k - gN r (o k) (a k) (b k) (gc r w o a b k)) := rfl
    have nk : n k = gN r (o k) (a k) (b k) (gc r w o a b k) := by rw [hn]; rfl
    rw [s, nk]
    exact ov_1 hr (gc_b hr hw ho Sa.1 Sb.1 k) (Sa.1 k) (Sb.1 k) (fun h => Sa.2.2 h k) (fun h => Sb.2.2 h k)
  · rw [bo_z (by omega)]
    have h1 := (gp_pt hr hw ho Sa.1 Sb.1 k).1
    rw [← hn, len_z Gn (by omega)] at h1
    have h2 := Sa.1 k
    have h3 := ho k
    omega
theorem ov_m {r w W : Int} {o a b n : Nat → Int} (hr : 0 ≤ r ∧ r ≤ 3) (hw : 0 ≤ w) (ho : ∀ k, 0 ≤ o k) (Sa : Sp (eR r) o a) (Sb : Sp (eC r) o b) (hn : n = gp r w o a b) (Gn : Gs n W) : bm r n a b = w := by
  unfold bm
  rw [ov_c hr hw ho Sa Sb hn Gn _ (Nat.le_refl _), Nat.sub_self]
  rfl
theorem ov_cell {g : Gd} (hv : GV g) {x y : Nat} (hx : x < 5) (hy : y < 5) : bo (g 2) (Sg g (x + 1) (y + 1)) (Sg g x (y + 1)) (Sg g (x + 1) y) = Sg g x y ∧ bm (g 2) (Sg g (x + 1) (y + 1)) (Sg g x (y + 1)) (Sg g (x + 1) y) = wts g x y := by
  have ko := (Sg_ok hv (x := x) (y := y) (by omega) (by omega)).1
  have ka := (Sg_ok hv (x := x) (y := y + 1) (by omega) (by omega)).2.1 (by omega)
  have kb := (Sg_ok hv (x := x + 1) (y := y) (by omega) (by omega)).2.2 (by omega)
  have kn := (Sg_ok hv (x := x + 1) (y := y + 1) (by omega) (by omega)).1
  have hw := (wts_b hv x hx y hy).1
  have hn : Sg g (x + 1) (y + 1) = gp (g 2) (wts g x y) (Sg g x y) (Sg g x (y + 1)) (Sg g (x + 1) y) := rfl
  exact ⟨funext fun k => ov_o hv.2.2.1 hw ko.1 ka kb hn kn k, ov_m hv.2.2.1 hw ko.1 ka kb hn kn⟩
theorem BK_own {g : Gd} {C R : Nat} (hv : GV g) (hC : g 0 = C) (hR : g 1 = R) : ∀ i, i ≤ C → ∀ j, j ≤ R → BK (g 2) g C R i j = Sg g (C - i) (R - j) := by
  have v1 := hv.1; have v2 := hv.2.1
  intro i
  induction i with
  | zero => exact fun _ j _ => rfl
  | succ i ih =>
    intro hi j
    induction j with
    | zero => exact fun _ => rfl
    | succ j ihj =>
      intro hj
      rw [BK_s, ih (by omega) j (by omega), ihj (by omega), ih (by omega) (j + 1) hj]
      have e1 : C - i = (C - (i + 1)) + 1 := by omega
      have e2 : R - j = (R - (j + 1)) + 1 := by omega
      rw [e1, e2]
      exact (ov_cell hv (by omega) (by omega)).1
theorem BM_own {g : Gd} {C R : Nat} (hv : GV g) (hC : g 0 = C) (hR : g 1 = R) {i j : Nat} (hi : i < C) (hj : j < R) : BM (g 2) g C R i j = wts g (C - 1 - i) (R - 1 - j) := by
  have v1 := hv.1; have v2 := hv.2.1
  unfold BM
  rw [BK_own hv hC hR i (by omega) j (by omega), BK_own hv hC hR (i + 1) (by omega) j (by omega), BK_own hv hC hR i (by omega) (j + 1) (by omega)]
  have e1 : C - i = (C - 1 - i) + 1 := by omega
  have e2 : R - j = (R - 1 - j) + 1 := by omega
  rw [e1, e2, show C - (i + 1) = C - 1 - i by omega, show R - (j + 1) = R - 1 - j by omega]
  exact (ov_cell hv (by omega) (by omega)).2
theorem all_own {g : Gd} {C R : Nat} (hv : GV g) (hC : g 0 = C) (hR : g 1 = R) : All3 (g 2) g C R := fun i j hi hj => by
  have v1 := hv.1; have v2 := hv.2.1
  rw [BM_own hv hC hR hi hj]
  exact (wts_b hv _ (by omega) _ (by omega)).2
theorem SN_own {g : Gd} {C R : Nat} (hv : GV g) (hC : g 0 = C) (hR : g 1 = R) {x y : Nat} (hx : x < C) (hy : y < R) : SNf (g 2) g C R (5 * x + y) = wts g x y := by
  have v1 := hv.1; have v2 := hv.2.1
  unfold SNf SN
  rw [show (5 * x + y) / 5 = x by omega, show (5 * x + y) % 5 = y by omega, if_pos (by omega), BM_own hv hC hR (by omega) (by omega), show C - 1 - (C - 1 - x) = x by omega, show R - 1 - (R - 1 - y) = y by omega]
theorem SN_out {g : Gd} {C R : Nat} {q : Int} {p : Nat} (h : ¬ (p / 5 < C ∧ p % 5 < R)) : SNf q g C R p = 0 := by
  unfold SNf SN
  rw [if_neg (fun z => h z.1)]
theorem rim_own {g : Gd} {C R : Nat} (hv : GV g) (hC : g 0 = C) (hR : g 1 = R) : RimF g C R (g 2) := by
  have v1 := hv.1; have v2 := hv.2.1
  refine ⟨fun x hx => ?_, fun y hy => ?_⟩
  · exact (Sg_ok hv (x := x + 1) (y := R) (by omega) (by omega)).2.2 (by omega)
  · exact (Sg_ok hv (x := C) (y := y + 1) (by omega) (by omega)).2.1 (by omega)
/-- the grid that comes: its worths are the old ones -/
def gown (g : Gd) (C R : Nat) : Gd := grd C R (g 2) (SNf (g 2) g C R)
theorem gown_0 (g : Gd) (C R : Nat) : gown g C R 0 = C := rfl
theorem gown_1 (g : Gd) (C R : Nat) : gown g C R 1 = R := rfl
theorem gown_2 (g : Gd) (C R : Nat) : gown g C R 2 = g 2 := rfl
theorem gown_V {g : Gd} {C R : Nat} (hv : GV g) (hC : g 0 = C) (hR : g 1 = R) : GV (gown g C R) := SN_V hv.2.2.1 hv hC hR (rim_own hv hC hR) (all_own hv hC hR)
theorem gown_n {g : Gd} {C R : Nat} (hv : GV g) (hC : g 0 = C) (hR : g 1 = R) {x y : Nat} (hx : x < C) (hy : y < R) : gown g C R (3 + (5 * x + y)) = wts g x y := by
  unfold gown
  rw [grd_n, SN_own hv hC hR hx hy]
theorem worth_2 (r v : Int) : worth r (worth r v) = worth r v := by
  unfold worth
  repeat' split
  all_goals omega
theorem gown_w {g : Gd} {C R : Nat} (hv : GV g) (hC : g 0 = C) (hR : g 1 = R) {x y : Nat} (hx : x < C) (hy : y < R) : wts (gown g C R) x y = wts g x y := by
  unfold wts
  rw [gown_n hv hC hR hx hy, gown_2]
  exact worth_2 _ _

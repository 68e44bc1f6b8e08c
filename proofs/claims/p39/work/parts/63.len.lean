/-! PART 0 and LENGTH of the last corner -/
theorem BR_cg {st : Bool} {V V' : Nat → Nat → Int} {C R : Nat} (h : ∀ x y, x < C → y < R → V x y = V' x y) : ∀ x, x ≤ C → ∀ y, y ≤ R → BR st V x y = BR st V' x y := by
  intro x
  induction x with
  | zero => exact fun _ y _ => rfl
  | succ x ih =>
    intro hx y
    induction y with
    | zero => exact fun _ => rfl
    | succ y ihy =>
      intro hy
      rw [BR_s, BR_s, ih (by omega) (y + 1) hy, ihy (by omega), ih (by omega) y (by omega), h x y (by omega) (by omega)]
theorem wts_0 {g : Gd} (h : g 2 = 0 ∨ g 2 = 3) (x y : Nat) : wts g x y = g (3 + (5 * x + y)) := by
  unfold wts worth
  rw [if_neg (by omega), if_neg (by omega)]
theorem lV_d0 {g : Gd} {R x k : Nat} {fl : Bool} (hx : x < 5) (hk : k < R) : lV g R fl 0 x k = g (3 + (5 * x + lyk fl R k)) := by
  unfold lV
  rw [if_pos ⟨hx, hk⟩, if_pos rfl]
theorem lV_d1 {g : Gd} {R x k : Nat} {fl : Bool} (hx : x < 5) (hk : k < R) : lV g R fl 1 x k = if 1 < g (3 + (5 * x + lyk fl R k)) then 1 else g (3 + (5 * x + lyk fl R k)) := by
  unfold lV
  rw [if_pos ⟨hx, hk⟩, if_neg (by decide)]
theorem lyk_f (R k : Nat) : lyk false R k = k := rfl
theorem lyk_t (R k : Nat) : lyk true R k = R - 1 - k := rfl
theorem top_0 {wt V : Nat → Nat → Int} {C R : Nat} (h : ∀ x y, x < C → y < R → wt x y = V x y) : ∀ x, x ≤ C → ∀ y, y ≤ R → SR 0 wt x y 0 = BR false V x y := by
  intro x
  induction x with
  | zero => exact fun _ y _ => rfl
  | succ x ih =>
    intro hx y
    induction y with
    | zero => exact fun _ => rfl
    | succ y ihy =>
      intro hy
      show mx (SR 0 wt x (y + 1) 0) (SR 0 wt (x + 1) y 0) + wt x y = _
      rw [BR_s, if_neg (by decide), ih (by omega) (y + 1) hy, ihy (by omega), h x y (by omega) (by omega)]
theorem top_3 {g : Gd} (hv : GV g) (h3 : g 2 = 3) {V : Nat → Nat → Int} {C R : Nat} (hC : C ≤ 5) (hR : R ≤ 5) (h : ∀ x y, x < C → y < R → V x y = if 1 < wts g x y then 1 else wts g x y) : ∀ x, x ≤ C → ∀ y, y ≤ R → Sg g x y 0 = BR true V x y := by
  intro x
  induction x with
  | zero => exact fun _ y _ => rfl
  | succ x ih =>
    intro hx y
    induction y with
    | zero => exact fun _ => rfl
    | succ y ihy =>
      intro hy
      have ka := (Sg_ok hv (x := x) (y := y + 1) (by omega) (by omega)).2.1 (by omega)
      have kb := (Sg_ok hv (x := x + 1) (y := y) (by omega) (by omega)).2.2 (by omega)
      have a1 := ka.1 0
      have a2 := ka.2.2 (by rw [h3]; rfl) 0
      have b1 := kb.1 0
      have b2 := kb.2.2 (by rw [h3]; rfl) 0
      rw [Nat.add_sub_cancel] at a1 a2 b1 b2
      have hw := wts_b hv x (by omega) y (by omega)
      have hn : Sg g (x + 1) (y + 1) 0 = gN (g 2) (Sg g x y 0) (Sg g x (y + 1) 0) (Sg g (x + 1) y 0) (wts g x y) := rfl
      rw [hn, h3, BR_s, if_pos rfl, ← ih (by omega) (y + 1) hy, ← ihy (by omega), ← ih (by omega) y (by omega), h x y (by omega) (by omega)]
      show mx (Sg g x (y + 1) 0) (Sg g (x + 1) y 0) + lo (tri (Sg g x y 0) (Sg g x (y + 1) 0) (Sg g (x + 1) y 0)) (wts g x y) = _
      generalize Sg g x y 0 = o at *
      generalize Sg g x (y + 1) 0 = a at *
      generalize Sg g (x + 1) y 0 = b at *
      generalize wts g x y = c at *
      have m := mx_c a b
      have t : (o = a ∧ a = b ∧ tri o a b = 1) ∨ (¬ (o = a ∧ a = b) ∧ tri o a b = 0) := by unfold tri; (repeat' split) <;> omega
      have l := lo_c (tri o a b) c
      by_cases e : 1 < c
      · rw [if_pos e]
        have m2 := mx_c (mx a b) (o + 1)
        omega
      · rw [if_neg e]
        have m2 := mx_c (mx a b) (o + c)
        omega
theorem part_0 {g : Gd} {C R : Nat} (hv : GV g) (hC : g 0 = C) (hR : g 1 = R) (h0 : g 2 = 0) : Sg g C R 0 = BR false (lV g R false 0) C R := by
  have v1 := hv.1; have v2 := hv.2.1
  unfold Sg
  rw [h0]
  exact top_0 (fun x y hx hy => by rw [wts_0 (Or.inl h0), lV_d0 (by omega) hy, lyk_f]) C (Nat.le_refl _) R (Nat.le_refl _)
theorem part_3 {g : Gd} {C R : Nat} (hv : GV g) (hC : g 0 = C) (hR : g 1 = R) (h3 : g 2 = 3) : Sg g C R 0 = BR true (lV g R false 1) C R := by
  have v1 := hv.1; have v2 := hv.2.1
  exact top_3 hv h3 (by omega) (by omega) (fun x y hx hy => by rw [wts_0 (Or.inr h3), lV_d1 (by omega) hy, lyk_f]) C (Nat.le_refl _) R (Nat.le_refl _)
/-! the levels, told from the top -/
def lm (g : Gd) (R k x j : Nat) : Int := Sg g x (R - j) k
def lw (g : Gd) (R k x b : Nat) : Int := gc (g 2) (wts g x (R - 1 - b)) (Sg g x (R - 1 - b)) (Sg g x (R - b)) (Sg g (x + 1) (R - 1 - b)) k
theorem lev_e {g : Gd} {C R : Nat} (hv : GV g) (hC : g 0 = C) (hR : g 1 = R) (k : Nat) {x b : Nat} (hx : x < C) (hb : b < R) :
    lm g R k (x + 1) b = gN (g 2) (lm g R k x (b + 1)) (lm g R k x b) (lm g R k (x + 1) (b + 1)) (lw g R k x b) ∧ lw g R (k + 1) x b = lw g R k x b + (lm g R k x b + lm g R k (x + 1) (b + 1) - lm g R k x (b + 1) - lm g R k (x + 1) b) ∧
      (0 ≤ lw g R k x b ∧ 0 ≤ lw g R (k + 1) x b) ∧ (0 ≤ lm g R k x (b + 1) ∧ lm g R k x (b + 1) ≤ lm g R k x b ∧ lm g R k x (b + 1) ≤ lm g R k (x + 1) (b + 1)) ∧ (g 2 = 3 → lm g R k x b ≤ lm g R k x (b + 1) + 1 ∧ lm g R k (x + 1) (b + 1) ≤ lm g R k x (b + 1) + 1) := by
  have v1 := hv.1; have v2 := hv.2.1
  unfold lm lw
  have e1 : R - b = (R - 1 - b) + 1 := by omega
  have e2 : R - (b + 1) = R - 1 - b := by omega
  have hy : R - 1 - b < 5 := by omega
  rw [e1, e2]
  generalize R - 1 - b = y at *
  have ko := (Sg_ok hv (x := x) (y := y) (by omega) (by omega)).1
  have ka := (Sg_ok hv (x := x) (y := y + 1) (by omega) (by omega)).2.1 (by omega)
  have kb := (Sg_ok hv (x := x + 1) (y := y) (by omega) (by omega)).2.2 (by omega)
  have hw := (wts_b hv x (by omega) y (by omega)).1
  rw [Nat.add_sub_cancel] at ka kb
  have gb := gc_b hv.2.2.1 hw ko.1 ka.1 kb.1
  exact ⟨rfl, rfl, ⟨gb k, gb (k + 1)⟩, ⟨ko.1 k, ka.1 k, kb.1 k⟩, fun h => ⟨ka.2.2 (by rw [h]; rfl) k, kb.2.2 (by rw [h]; rfl) k⟩⟩
theorem lev_0 {g : Gd} {C R : Nat} (hv : GV g) (hC : g 0 = C) (hR : g 1 = R) (h0 : g 2 = 0) (k : Nat) : Lv0 C R (lm g R k) (lw g R k) (lw g R (k + 1)) := by
  refine ⟨fun b => rfl, fun x => ?_, fun x b hx hb => ?_⟩
  · unfold lm
    rw [Nat.sub_self]
    exact SR_y0 _ _ x k
  · obtain ⟨d1, d2, d3, d4, -⟩ := lev_e hv hC hR k hx hb
    rw [h0] at d1
    have d1 : lm g R k (x + 1) b = mx (lm g R k x b) (lm g R k (x + 1) (b + 1)) + lw g R k x b := d1
    have m := mx_c (lm g R k x b) (lm g R k (x + 1) (b + 1))
    have l := lo_c (lm g R k x b) (lm g R k (x + 1) (b + 1))
    exact ⟨d3.1, d3.2, d1, by omega⟩
theorem lev_3 {g : Gd} {C R : Nat} (hv : GV g) (hC : g 0 = C) (hR : g 1 = R) (h3 : g 2 = 3) (k : Nat) : Lv3 C R (lm g R k) (lw g R k) (lw g R (k + 1)) := by
  refine ⟨fun b => rfl, fun x => ?_, fun x b hx hb => ?_⟩
  · unfold lm
    rw [Nat.sub_self]
    exact SR_y0 _ _ x k
  · obtain ⟨d1, d2, d3, d4, d5⟩ := lev_e hv hC hR k hx hb
    have d5 := d5 h3
    rw [h3] at d1
    have d1 : lm g R k (x + 1) b = mx (lm g R k x b) (lm g R k (x + 1) (b + 1)) + lo (tri (lm g R k x (b + 1)) (lm g R k x b) (lm g R k (x + 1) (b + 1))) (lw g R k x b) := d1
    generalize lm g R k x (b + 1) = o at *
    generalize lm g R k x b = a at *
    generalize lm g R k (x + 1) (b + 1) = e at *
    generalize lm g R k (x + 1) b = n at *
    generalize lw g R (k + 1) x b = u at *
    generalize lw g R k x b = c at *
    have m := mx_c a e
    have t : (o = a ∧ a = e ∧ tri o a e = 1) ∨ (¬ (o = a ∧ a = e) ∧ tri o a e = 0) := by unfold tri; (repeat' split) <;> omega
    have l := lo_c (tri o a e) c
    refine ⟨d3.1, d3.2, ⟨by omega, by omega, by omega, by omega, by omega⟩, by omega, fun h => by omega, fun h => by omega⟩
theorem Sg_mx {g : Gd} (hv : GV g) {x y : Nat} (k : Nat) (hy : y ≤ 5) : ∀ d, x + d ≤ 5 → Sg g x y k ≤ Sg g (x + d) y k
  | 0, _ => Int.le_refl _
  | d + 1, h => Int.le_trans (Sg_mx hv k hy d (by omega)) (((Sg_ok hv (x := x + d + 1) (y := y) (by omega) hy).2.2 (by omega)).1 k)
theorem Sg_my {g : Gd} (hv : GV g) {x y : Nat} (k : Nat) (hx : x ≤ 5) : ∀ d, y + d ≤ 5 → Sg g x y k ≤ Sg g x (y + d) k
  | 0, _ => Int.le_refl _
  | d + 1, h => Int.le_trans (Sg_my hv k hx d (by omega)) (((Sg_ok hv (x := x) (y := y + d + 1) hx (by omega)).2.1 (by omega)).1 k)
theorem Sg_mm {g : Gd} (hv : GV g) {x y C R : Nat} (k : Nat) (hx : x ≤ C) (hy : y ≤ R) (hC : C ≤ 5) (hR : R ≤ 5) : Sg g x y k ≤ Sg g C R k := by
  have h1 := Sg_mx hv (x := x) (y := y) k (by omega) (C - x) (by omega)
  have h2 := Sg_my hv (x := x + (C - x)) (y := y) k (by omega) (R - y) (by omega)
  rw [show x + (C - x) = C by omega] at h1 h2
  rw [show y + (R - y) = R by omega] at h2
  exact Int.le_trans h1 h2
theorem lw_p {g : Gd} {C R : Nat} (hv : GV g) (hC : g 0 = C) (hR : g 1 = R) {k : Nat} (h : ∃ x b, x < C ∧ b < R ∧ 0 < lw g R k x b) : 0 < Sg g C R k := by
  have v1 := hv.1; have v2 := hv.2.1
  obtain ⟨x, b, hx, hb, hp⟩ := h
  unfold lw at hp
  have e1 : R - b = (R - 1 - b) + 1 := by omega
  have hy : R - 1 - b < R := by omega
  rw [e1] at hp
  generalize R - 1 - b = y at *
  have ko := (Sg_ok hv (x := x) (y := y) (by omega) (by omega)).1
  have ka := (Sg_ok hv (x := x) (y := y + 1) (by omega) (by omega)).2.1 (by omega)
  have kb := (Sg_ok hv (x := x + 1) (y := y) (by omega) (by omega)).2.2 (by omega)
  have kn := (Sg_ok hv (x := x + 1) (y := y + 1) (by omega) (by omega)).1
  have hw := (wts_b hv x (by omega) y (by omega)).1
  have pt := (gp_pt hv.2.2.1 hw ko.1 ka.1 kb.1 k).2.2
  have hn : Sg g (x + 1) (y + 1) k = gp (g 2) (wts g x y) (Sg g x y) (Sg g x (y + 1)) (Sg g (x + 1) y) k := rfl
  have n0 := kn.1 k
  have mm := Sg_mm hv (x := x + 1) (y := y + 1) k (show x + 1 ≤ C by omega) (show y + 1 ≤ R by omega) (by omega) (by omega)
  have ne : Sg g (x + 1) (y + 1) k ≠ 0 := fun z => by
    rw [hn] at z
    have := pt z
    have e : gc (g 2) (wts g x y) (Sg g x y) (Sg g x (y + 1)) (Sg g (x + 1) y) k = 0 := this
    omega
  omega
theorem gN_z (r : Int) : gN r 0 0 0 0 = 0 := by
  unfold gN mx lo tri
  repeat' split
  all_goals omega
theorem lw_z {g : Gd} {C R : Nat} (hv : GV g) (hC : g 0 = C) (hR : g 1 = R) {k : Nat} (h : ∀ x b, x < C → b < R → lw g R k x b = 0) : ∀ x, x ≤ C → ∀ y, y ≤ R → Sg g x y k = 0 := by
  intro x
  induction x with
  | zero => exact fun _ y _ => rfl
  | succ x ih =>
    intro hx y
    induction y with
    | zero => exact fun _ => SR_y0 _ _ (x + 1) k
    | succ y ihy =>
      intro hy
      have hn : Sg g (x + 1) (y + 1) k = gN (g 2) (Sg g x y k) (Sg g x (y + 1) k) (Sg g (x + 1) y k) (gc (g 2) (wts g x y) (Sg g x y) (Sg g x (y + 1)) (Sg g (x + 1) y) k) := rfl
      have hl := h x (R - 1 - y) (by omega) (by omega)
      unfold lw at hl
      rw [show R - 1 - (R - 1 - y) = y by omega, show R - (R - 1 - y) = y + 1 by omega] at hl
      rw [hn, ih (by omega) y (by omega), ih (by omega) (y + 1) hy, ihy (by omega), hl]
      exact gN_z _
theorem lw_n {g : Gd} {C R : Nat} (hv : GV g) (hC : g 0 = C) (hR : g 1 = R) {k : Nat} (h : 0 < Sg g C R k) : ∃ x b, x < C ∧ b < R ∧ 0 < lw g R k x b := by
  by_cases c : ∃ x b, x < C ∧ b < R ∧ 0 < lw g R k x b
  · exact c
  · exfalso
    have z := lw_z hv hC hR (k := k) (fun x b hx hb => by
      have h2 := (lev_e hv hC hR k hx hb).2.2.1.1
      by_cases d : 0 < lw g R k x b
      · exact absurd ⟨x, b, hx, hb, d⟩ c
      · omega) C (Nat.le_refl _) R (Nat.le_refl _)
    omega
theorem len_lev {D : Nat → Int} {s : Nat → Int} {W : Int} (hs : Gs s W) (h1 : ∀ k, 0 < s k → D k = D (k + 1) + 1) (h2 : ∀ k, s k = 0 → D k = 0) : D 0 = len s := by
  have key : ∀ d : Nat, d ≤ len s → D (len s - d) = d := fun d => by
    induction d with
    | zero => exact fun _ => h2 _ (len_z hs (Nat.le_refl _))
    | succ d ih =>
      intro hd
      have e := h1 (len s - (d + 1)) ((len_p hs _).1 (by omega))
      rw [show len s - (d + 1) + 1 = len s - d by omega, ih (by omega)] at e
      rw [e]
      omega
  have h := key (len s) (Nat.le_refl _)
  rw [Nat.sub_self] at h
  exact h
theorem length_0 {g : Gd} {C R : Nat} (hv : GV g) (hC : g 0 = C) (hR : g 1 = R) (h0 : g 2 = 0) : (len (Sg g C R) : Int) = BR true (lV g R true 1) C R := by
  have v1 := hv.1; have v2 := hv.2.1
  have hs := (Sg_ok hv (x := C) (y := R) (by omega) (by omega)).1
  have h := len_lev (D := fun k => BR true (sup1 C R (lw g R k)) C R) hs (fun k hk => lv0_step (lev_0 hv hC hR h0 k) (lw_n hv hC hR hk)) (fun k hk => lv0_z (fun z => by have := lw_p hv hC hR z; omega))
  rw [← h]
  refine BR_cg (fun x b hx hb => ?_) C (Nat.le_refl _) R (Nat.le_refl _)
  have hb2 := hv.g0 (q := 5 * x + (R - 1 - b)) (by omega)
  have e : lw g R 0 x b = g (3 + (5 * x + (R - 1 - b))) := wts_0 (Or.inl h0) x (R - 1 - b)
  rw [lV_d1 (by omega) hb, lyk_t]
  unfold sup1
  rw [e]
  generalize g (3 + (5 * x + (R - 1 - b))) = v at *
  by_cases c : 0 < v
  · rw [if_pos ⟨hx, hb, c⟩]
    (repeat' split) <;> omega
  · rw [if_neg (fun z => c z.2.2)]
    (repeat' split) <;> omega
theorem length_3 {g : Gd} {C R : Nat} (hv : GV g) (hC : g 0 = C) (hR : g 1 = R) (h3 : g 2 = 3) : (len (Sg g C R) : Int) = BR false (lV g R true 0) C R := by
  have v1 := hv.1; have v2 := hv.2.1
  have hs := (Sg_ok hv (x := C) (y := R) (by omega) (by omega)).1
  have h := len_lev (D := fun k => BR false (trc C R (lw g R k)) C R) hs (fun k hk => lv3_step (lev_3 hv hC hR h3 k) (lw_n hv hC hR hk)) (fun k hk => lv3_z (lev_3 hv hC hR h3 k) (fun z => by have := lw_p hv hC hR z; omega))
  rw [← h]
  refine BR_cg (fun x b hx hb => ?_) C (Nat.le_refl _) R (Nat.le_refl _)
  have e : lw g R 0 x b = g (3 + (5 * x + (R - 1 - b))) := wts_0 (Or.inr h3) x (R - 1 - b)
  rw [lV_d0 (by omega) hb, lyk_t, ← e]
  exact trc_i hx hb

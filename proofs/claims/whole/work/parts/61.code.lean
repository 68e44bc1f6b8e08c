/-! marked grids: shapes as numbers of five figures, base 8 -/
def fc {α : Type} (n : Nat) (k : Nat → α) : α := match n with
  | 0 => k 0
  | m + 1 => k (m + 1)
theorem fc_e {α : Type} (n : Nat) (k : Nat → α) : fc n k = k n := by
  cases n <;> rfl
def dg (c k : Nat) : Nat := c / 8 ^ k % 8
def mxn (a b : Nat) : Nat := cond (Nat.ble a b) b a
def mnn (a b : Nat) : Nat := cond (Nat.ble a b) a b
def gNn (r o a b c : Nat) : Nat := cond (Nat.beq r 0) (mxn a b + c) (cond (Nat.beq r 1) (mxn (a + c) b) (cond (Nat.beq r 2) (mxn a (b + c)) (mxn a b + mnn (cond (Nat.beq o a) (cond (Nat.beq a b) 1 0) 0) c)))
def gc8 (r o a b : Nat) : Nat → Nat → Nat → Nat
  | 0, _, _ => 0
  | f + 1, k, c => fc (gNn r (dg o k) (dg a k) (dg b k) c) (fun n => fc (c + dg a k + dg b k - dg o k - n) (fun c' => n + 8 * gc8 r o a b f (k + 1) c'))
theorem dg_0 {n X : Nat} (h : n < 8) : dg (n + 8 * X) 0 = n := by
  unfold dg
  rw [Nat.pow_zero, Nat.div_one]
  omega
theorem dg_s {n X : Nat} (h : n < 8) (j : Nat) : dg (n + 8 * X) (j + 1) = dg X j := by
  unfold dg
  rw [Nat.pow_succ, Nat.mul_comm (8 ^ j) 8, ← Nat.div_div_eq_div_mul, show (n + 8 * X) / 8 = X by omega]
theorem ble_c {α : Type} (a b : Nat) (x y : α) : cond (Nat.ble a b) x y = if a ≤ b then x else y := by
  by_cases c : a ≤ b
  · rw [if_pos c, Nat.ble_eq_true_of_le c]; rfl
  · rw [if_neg c, Bool.eq_false_iff.2 (fun h => c (Nat.le_of_ble_eq_true h))]; rfl
theorem beq_c {α : Type} (a b : Nat) (x y : α) : cond (Nat.beq a b) x y = if a = b then x else y := by
  by_cases c : a = b
  · subst c
    rw [if_pos rfl, Nat.beq_refl]; rfl
  · rw [if_neg c, Bool.eq_false_iff.2 (fun h => c (Nat.eq_of_beq_eq_true h))]; rfl
theorem mxn_e (a b : Nat) : ((mxn a b : Nat) : Int) = mx a b := by
  unfold mxn mx
  rw [ble_c]
  (repeat' split) <;> omega
theorem gNn_e {r o a b c : Nat} : ((gNn r o a b c : Nat) : Int) = gN r o a b c := by
  unfold gNn gN
  rw [beq_c, beq_c, beq_c]
  by_cases h0 : r = 0
  · rw [if_pos h0, if_pos (show (r : Int) = 0 by omega), ← mxn_e]; rfl
  · rw [if_neg h0, if_neg (show ¬ (r : Int) = 0 by omega)]
    by_cases h1 : r = 1
    · rw [if_pos h1, if_pos (show (r : Int) = 1 by omega), mxn_e]; rfl
    · rw [if_neg h1, if_neg (show ¬ (r : Int) = 1 by omega)]
      by_cases h2 : r = 2
      · rw [if_pos h2, if_pos (show (r : Int) = 2 by omega), mxn_e]; rfl
      · rw [if_neg h2, if_neg (show ¬ (r : Int) = 2 by omega), beq_c, beq_c, ← mxn_e]
        unfold mnn lo tri
        rw [ble_c]
        (repeat' split) <;> omega
def RP (s : Nat → Int) (c : Nat) : Prop := ∀ k, k < 5 → s k = (dg c k : Int)
theorem gc8_ok {r w : Nat} {so sa sb : Nat → Int} {o a b : Nat} (ho : RP so o) (ha : RP sa a) (hb : RP sb b) (hc : ∀ k, 0 ≤ gc r w so sa sb k) (hn : ∀ k, gp r w so sa sb k ≤ 7) : ∀ f k c : Nat, k + f = 5 → gc r w so sa sb k = c → ∀ j, j < f → gp r w so sa sb (k + j) = (dg (gc8 r o a b f k c) j : Int) := by
  intro f
  induction f with
  | zero => exact fun k c _ _ j hj => absurd hj (by omega)
  | succ f ih =>
    intro k c hk hkc j hj
    have e1 : gp r w so sa sb k = ((gNn r (dg o k) (dg a k) (dg b k) c : Nat) : Int) := by
      rw [gNn_e]
      show gN r (so k) (sa k) (sb k) (gc r w so sa sb k) = _
      rw [ho k (by omega), ha k (by omega), hb k (by omega), hkc]
    have e2 : gc r w so sa sb (k + 1) = gc r w so sa sb k + (sa k + sb k - so k - gp r w so sa sb k) := rfl
    have n7 := hn k
    have cn := hc (k + 1)
    rw [hkc, ho k (by omega), ha k (by omega), hb k (by omega), e1] at e2
    show _ = (dg (fc _ _) j : Int)
    rw [fc_e, fc_e]
    rw [e1] at n7
    generalize gNn r (dg o k) (dg a k) (dg b k) c = n at *
    cases j with
    | zero => rw [dg_0 (by omega), Nat.add_zero]; exact e1
    | succ j =>
      rw [dg_s (by omega)]
      have := ih (k + 1) (c + dg a k + dg b k - dg o k - n) (by omega) (by omega) j (by omega)
      rw [show k + 1 + j = k + (j + 1) by omega] at this
      exact this
/-- the next column of shapes: d is its digit -/
def colN (r d : Nat) : List Nat → Nat → Nat → List Nat
  | p0 :: ps, y, low => match ps with
    | [] => []
    | p1 :: _ => fc (gc8 r p0 p1 low 5 0 (cond (Nat.beq d (y + 1)) 1 0)) (fun n => n :: colN r d ps (y + 1) n)
  | [], _, _ => []
def wcol (r : Nat) : List Nat → List Nat → List Nat
  | [], p => p
  | d :: ds, p => wcol r ds (0 :: colN r d p 0 0)
theorem colN_ok {r d R : Nat} {prev row : Nat → Nat → Int} (st : ∀ y o a b, y < R → RP (prev y) o → RP (prev (y + 1)) a → RP (row y) b → RP (row (y + 1)) (gc8 r o a b 5 0 (cond (Nat.beq d (y + 1)) 1 0))) : ∀ (L : List Nat) (y low : Nat), y + L.length = R + 1 → (∀ j, j < L.length → RP (prev (y + j)) (L.getD j 0)) → RP (row y) low → (colN r d L y low).length = L.length - 1 ∧ ∀ j, j + 1 < L.length → RP (row (y + j + 1)) ((colN r d L y low).getD j 0)
  | [], _, _, _, _, _ => ⟨rfl, fun j hj => absurd hj (Nat.not_lt_zero _)⟩
  | [p0], _, _, _, _, _ => ⟨rfl, fun j hj => absurd hj (by show ¬ j + 1 < 1; omega)⟩
  | p0 :: p1 :: ps, y, low, hl, hp, hr => by
    have hl' : y + (ps.length + 1 + 1) = R + 1 := hl
    have h0 : RP (prev y) p0 := hp 0 (Nat.succ_pos _)
    have h1 : RP (prev (y + 1)) p1 := hp 1 (by show 1 < ps.length + 1 + 1; omega)
    have s1 := st y p0 p1 low (by omega) h0 h1 hr
    have ih := colN_ok st (p1 :: ps) (y + 1) (gc8 r p0 p1 low 5 0 (cond (Nat.beq d (y + 1)) 1 0)) (by show y + 1 + (ps.length + 1) = R + 1; omega) (fun j hj => by
      have := hp (j + 1) (by show j + 1 < ps.length + 1 + 1; have : j < ps.length + 1 := hj; omega)
      rw [show y + (j + 1) = y + 1 + j by omega] at this
      exact this) s1
    have e : colN r d (p0 :: p1 :: ps) y low = gc8 r p0 p1 low 5 0 (cond (Nat.beq d (y + 1)) 1 0) :: colN r d (p1 :: ps) (y + 1) (gc8 r p0 p1 low 5 0 (cond (Nat.beq d (y + 1)) 1 0)) := by
      rw [colN]
      exact fc_e _ _
    rw [e]
    refine ⟨by show (colN r d (p1 :: ps) (y + 1) _).length + 1 = ps.length + 1 + 1 - 1; rw [ih.1]; show ps.length + 1 - 1 + 1 = _; omega, fun j hj => ?_⟩
    cases j with
    | zero => exact s1
    | succ j =>
      have := ih.2 j (by show j + 1 < ps.length + 1; have : j + 1 + 1 < ps.length + 1 + 1 := hj; omega)
      rw [show y + 1 + j + 1 = y + (j + 1) + 1 by omega] at this
      exact this
/-- the digit of a column in a marked grid -/
def MkD (g : Gd) (C R : Nat) (w : List Nat) : Prop := w.length = C ∧ (∀ x, x < C → ∀ y, y < R → g (3 + (5 * x + y)) = if w.getD x 0 = y + 1 then 1 else 0) ∧ (∀ x, x < C → w.getD x 0 ≤ R)
theorem csum_1 {f : Nat → Int} {d : Nat} (h : ∀ y, f y = if d = y + 1 then 1 else 0) : ∀ n, csum f n = if 1 ≤ d ∧ d ≤ n then 1 else 0
  | 0 => by show (0 : Int) = _; rw [if_neg (by omega)]
  | n + 1 => by
    have ih := csum_1 h n
    show csum f n + f n = _
    rw [ih, h n]
    (repeat' split) <;> omega
theorem csum_le {f : Nat → Int} {d R : Nat} (h : ∀ y, y < R → f y = if d = y + 1 then 1 else 0) : ∀ n, n ≤ R → csum f n = if 1 ≤ d ∧ d ≤ n then 1 else 0
  | 0, _ => by show (0 : Int) = _; rw [if_neg (by omega)]
  | n + 1, hn => by
    have ih := csum_le h n (by omega)
    show csum f n + f n = _
    rw [ih, h n (by omega)]
    (repeat' split) <;> omega
theorem wts_m {g : Gd} {C R : Nat} {w : List Nat} (hv : GV g) (hm : MkD g C R w) {x y : Nat} (hx : x < C) (hy : y < R) : wts g x y = if w.getD x 0 = y + 1 then 1 else 0 := by
  have h := hm.2.1 x hx y hy
  unfold wts worth
  rw [h]
  (repeat' split) <;> omega
theorem Wg_m {g : Gd} {C R : Nat} {w : List Nat} (hv : GV g) (hm : MkD g C R w) {y : Nat} (hy : y ≤ R) : ∀ x, x ≤ C → 0 ≤ Wg g x y ∧ Wg g x y ≤ x
  | 0, _ => by show (0 : Int) ≤ 0 ∧ (0 : Int) ≤ _; omega
  | x + 1, hx => by
    have ih := Wg_m hv hm hy x (by omega)
    have c := csum_le (f := wts g x) (d := w.getD x 0) (R := R) (fun y hy => wts_m hv hm (by omega) hy) y hy
    show 0 ≤ Wg g x y + csum (wts g x) y ∧ Wg g x y + csum (wts g x) y ≤ ((x + 1 : Nat) : Int)
    rw [c]
    split <;> omega
theorem wcol_ok {g : Gd} {C R r : Nat} {w : List Nat} (hv : GV g) (hC : C ≤ 5) (hR : R ≤ 5) (hr : g 2 = r) (hm : MkD g C R w) : ∀ (ds p : List Nat) (x : Nat), x + ds.length = C → (∀ j, j < ds.length → ds.getD j 0 = w.getD (x + j) 0) → p.length = R + 1 → (∀ y, y ≤ R → RP (Sg g x y) (p.getD y 0)) → (∀ y, y ≤ R → RP (Sg g C y) ((wcol r ds p).getD y 0))
  | [], p, x, hx, _, _, hp => by
    have : x = C := hx
    subst this
    exact hp
  | d :: ds, p, x, hx, hd, hl, hp => by
    have hx' : x + (ds.length + 1) = C := hx
    have hd0 : d = w.getD x 0 := hd 0 (Nat.succ_pos _)
    have st : ∀ y o a b, y < R → RP (Sg g x y) o → RP (Sg g x (y + 1)) a → RP (Sg g (x + 1) y) b → RP (Sg g (x + 1) (y + 1)) (gc8 r o a b 5 0 (cond (Nat.beq d (y + 1)) 1 0)) := fun y o a b hy ho ha hb => by
      have v3 := hv.2.2.1
      have k1 := Sg_ok hv (x := x) (y := y) (by omega) (by omega)
      have k2 := (Sg_ok hv (x := x) (y := y + 1) (by omega) (by omega)).2.1 (Nat.succ_pos _)
      have k3 := (Sg_ok hv (x := x + 1) (y := y) (by omega) (by omega)).2.2 (Nat.succ_pos _)
      have k4 := (Sg_ok hv (x := x + 1) (y := y + 1) (by omega) (by omega)).1
      have k5 := Wg_m hv hm (show y + 1 ≤ R by omega) (x + 1) (by omega)
      have ew : wts g x y = ((cond (Nat.beq d (y + 1)) 1 0 : Nat) : Int) := by
        rw [wts_m hv hm (by omega) hy, beq_c, hd0]
        (repeat' split) <;> omega
      have es : Sg g (x + 1) (y + 1) = gp (r : Int) ((cond (Nat.beq d (y + 1)) 1 0 : Nat) : Int) (Sg g x y) (Sg g x (y + 1)) (Sg g (x + 1) y) := by
        rw [← ew, ← hr]
        rfl
      have nn : (0 : Int) ≤ ((cond (Nat.beq d (y + 1)) 1 0 : Nat) : Int) := Int.natCast_nonneg _
      have gb := gc_b (r := (r : Int)) (w := ((cond (Nat.beq d (y + 1)) 1 0 : Nat) : Int)) (by omega) nn k1.1.1 k2.1 k3.1
      have gk := gc8_ok (r := r) (w := cond (Nat.beq d (y + 1)) 1 0) ho ha hb gb (fun k => by rw [← es]; have := k4.b k; omega) 5 0 (cond (Nat.beq d (y + 1)) 1 0) rfl rfl
      intro k hk
      rw [es]
      have := gk k hk
      rw [Nat.zero_add] at this
      exact this
    have col := colN_ok (r := r) (d := d) (R := R) (prev := Sg g x) (row := Sg g (x + 1)) st p 0 0 (by omega) (fun j hj => by rw [Nat.zero_add]; exact hp j (by omega)) (fun k _ => by
      show SR _ _ (x + 1) 0 k = _
      rw [SR_y0]
      unfold dg
      rw [Nat.zero_div]
      rfl)
    refine wcol_ok hv hC hR hr hm ds (0 :: colN r d p 0 0) (x + 1) (by omega) (fun j hj => ?_) ?_ (fun y hy => ?_)
    · have := hd (j + 1) (by show j + 1 < ds.length + 1; omega)
      rw [show x + (j + 1) = x + 1 + j by omega] at this
      exact this
    · show (colN r d p 0 0).length + 1 = R + 1
      rw [col.1]; omega
    · cases y with
      | zero =>
        intro k _
        show SR _ _ (x + 1) 0 k = (dg 0 k : Int)
        rw [SR_y0]
        unfold dg
        rw [Nat.zero_div]
        rfl
      | succ y =>
        have := col.2 y (by omega)
        rw [Nat.zero_add] at this
        exact this
def fin5 (r R : Nat) (w : List Nat) : Nat := (wcol r w (List.replicate (R + 1) 0)).getD R 0
theorem fin5_ok {g : Gd} {C R r : Nat} {w : List Nat} (hv : GV g) (hC : C ≤ 5) (hR : R ≤ 5) (hr : g 2 = r) (hm : MkD g C R w) : RP (Sg g C R) (fin5 r R w) := by
  refine wcol_ok hv hC hR hr hm w (List.replicate (R + 1) 0) 0 (by rw [Nat.zero_add]; exact hm.1) (fun j _ => by rw [Nat.zero_add]) (List.length_replicate ..) (fun y hy => ?_) R (Nat.le_refl _)
  intro k _
  show (0 : Int) = _
  rw [List.getD_eq_getElem?_getD, List.getElem?_replicate, if_pos (by omega)]
  show (0 : Int) = (dg 0 k : Int)
  unfold dg
  rw [Nat.zero_div]
  rfl

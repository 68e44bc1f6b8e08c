/-! sums over cells, over parts -/
theorem csum_c {f h : Nat → Int} : ∀ y, (∀ b, b < y → f b = h b) → csum f y = csum h y
  | 0, _ => rfl
  | y + 1, e => by
    show csum f y + f y = csum h y + h y
    rw [csum_c y (fun b hb => e b (by omega)), e y (by omega)]
theorem WS_c {f h : Nat → Nat → Int} {y : Nat} : ∀ x, (∀ a b, a < x → b < y → f a b = h a b) → WS f x y = WS h x y
  | 0, _ => rfl
  | x + 1, e => by
    show WS f x y + csum (f x) y = WS h x y + csum (h x) y
    rw [WS_c x (fun a b ha hb => e a b (by omega) hb), csum_c y (fun b hb => e x b (by omega) hb)]
theorem csum_z {f : Nat → Int} {R : Nat} (h : ∀ b, R ≤ b → f b = 0) : ∀ d, csum f (R + d) = csum f R
  | 0 => rfl
  | d + 1 => by
    show csum f (R + d) + f (R + d) = csum f R
    rw [csum_z h d, h _ (by omega)]
    omega
theorem csum_0 {f : Nat → Int} (h : ∀ b, f b = 0) : ∀ y, csum f y = 0
  | 0 => rfl
  | y + 1 => by
    show csum f y + f y = 0
    rw [csum_0 h y, h y]
    rfl
theorem WS_z {f : Nat → Nat → Int} {C R : Nat} (h : ∀ a b, C ≤ a → f a b = 0) : ∀ d, WS f (C + d) R = WS f C R
  | 0 => rfl
  | d + 1 => by
    show WS f (C + d) R + csum (f (C + d)) R = WS f C R
    rw [WS_z h d, csum_0 (fun b => h _ b (by omega))]
    omega
theorem WS_r {f : Nat → Nat → Int} {R : Nat} (h : ∀ a b, R ≤ b → f a b = 0) (e : Nat) : ∀ x, WS f x (R + e) = WS f x R
  | 0 => rfl
  | x + 1 => by
    show WS f x (R + e) + csum (f x) (R + e) = WS f x R + csum (f x) R
    rw [WS_r h e x, csum_z (fun b hb => h x b hb) e]
/-- where two grids differ -/
def neq (g f : Gd) (x y : Nat) : Int := if g (3 + (5 * x + y)) = f (3 + (5 * x + y)) then 0 else 1
theorem dif_r (g f : Gd) (x : Nat) : ∀ y, dif g f (5 * x + y) = dif g f (5 * x) + csum (neq g f x) y
  | 0 => by show _ = _ + (0 : Int); rw [Nat.add_zero]; omega
  | y + 1 => by
    show dif g f (5 * x + y) + (if g (3 + (5 * x + y)) = f (3 + (5 * x + y)) then 0 else 1) = dif g f (5 * x) + (csum (neq g f x) y + neq g f x y)
    rw [dif_r g f x y]
    show dif g f (5 * x) + csum (neq g f x) y + neq g f x y = _
    omega
theorem dif_s (g f : Gd) : ∀ x, dif g f (5 * x) = WS (neq g f) x 5
  | 0 => rfl
  | x + 1 => by
    show dif g f (5 * x + 5) = WS (neq g f) x 5 + csum (neq g f x) 5
    rw [dif_r g f x 5, dif_s g f x]
/-- how many numbers are not what their cell is worth -/
def nw (g : Gd) (x y : Nat) : Int := if g (3 + (5 * x + y)) = wts g x y then 0 else 1
def nz2 (g f : Gd) (C R x y : Nat) : Int := if x < C ∧ y < R then neq g f x y else 0
theorem dif_own {g : Gd} {C R : Nat} (hv : GV g) (hC : g 0 = C) (hR : g 1 = R) : dif g (gown g C R) 25 = WS (nw g) C R := by
  have v1 := hv.1; have v2 := hv.2.1
  have e0 : dif g (gown g C R) 25 = WS (neq g (gown g C R)) 5 5 := dif_s g (gown g C R) 5
  have e1 : WS (neq g (gown g C R)) 5 5 = WS (nz2 g (gown g C R) C R) 5 5 := WS_c 5 (fun a b ha hb => by
    unfold nz2
    by_cases c : a < C ∧ b < R
    · rw [if_pos c]
    · rw [if_neg c]
      unfold neq gown
      rw [hv.2.2.2.2 (5 * a + b) (by omega) (by rw [show (5 * a + b) / 5 = a by omega, show (5 * a + b) % 5 = b by omega]; omega), grd_n, SN_out (by rw [show (5 * a + b) / 5 = a by omega, show (5 * a + b) % 5 = b by omega]; exact c), if_pos rfl])
  have e2 : WS (nz2 g (gown g C R) C R) 5 5 = WS (nz2 g (gown g C R) C R) 5 R := by
    have h := WS_r (f := nz2 g (gown g C R) C R) (R := R) (fun a b hb => if_neg (by omega)) (5 - R) 5
    rw [show R + (5 - R) = 5 by omega] at h
    exact h
  have e3 : WS (nz2 g (gown g C R) C R) 5 R = WS (nz2 g (gown g C R) C R) C R := by
    have h := WS_z (f := nz2 g (gown g C R) C R) (C := C) (R := R) (fun a b ha => if_neg (by omega)) (5 - C)
    rw [show C + (5 - C) = 5 by omega] at h
    exact h
  rw [e0, e1, e2, e3]
  refine WS_c C (fun a b ha hb => ?_)
  unfold nz2 neq nw
  rw [if_pos ⟨ha, hb⟩, gown_n hv hC hR ha hb]
theorem nw_b (g : Gd) (x y : Nat) : 0 ≤ nw g x y ∧ nw g x y ≤ 3 := by
  unfold nw
  split <;> omega
/-- sums of what is turned -/
def tsm (s : Nat → Int) (n : Nat) : Nat → Int
  | 0 => 0
  | j + 1 => tsm s n j + (abv s j n : Int)
theorem tsm_b (s : Nat → Int) (n : Nat) : ∀ j, 0 ≤ tsm s n j ∧ tsm s n j ≤ (n : Int) * j
  | 0 => by show (0 : Int) ≤ 0 ∧ (0 : Int) ≤ (n : Int) * (0 : Nat); simp
  | j + 1 => by
    have h := tsm_b s n j
    have h2 := abv_le s j n
    show 0 ≤ tsm s n j + (abv s j n : Int) ∧ tsm s n j + (abv s j n : Int) ≤ (n : Int) * ((j + 1 : Nat) : Int)
    have e : (n : Int) * ((j + 1 : Nat) : Int) = (n : Int) * (j : Int) + n := by
      rw [show ((j + 1 : Nat) : Int) = (j : Int) + 1 by omega, Int.mul_add, Int.mul_one]
    rw [e]
    omega
def blw (v : Int) : Nat → Int
  | 0 => 0
  | j + 1 => blw v j + if (j : Int) < v then 1 else 0
theorem blw_v {v : Int} (h : 0 ≤ v) : ∀ j : Nat, blw v j = if (j : Int) ≤ v then (j : Int) else v
  | 0 => by rw [if_pos (by omega)]; rfl
  | j + 1 => by
    show blw v j + (if (j : Int) < v then 1 else 0) = _
    rw [blw_v h j]
    (repeat' split) <;> omega
theorem tsm_s (s : Nat → Int) (n : Nat) : ∀ J, tsm s (n + 1) J = tsm s n J + blw (s n) J
  | 0 => rfl
  | J + 1 => by
    show tsm s (n + 1) J + ((abv s J (n + 1) : Nat) : Int) = tsm s n J + (abv s J n : Int) + (blw (s n) J + if (J : Int) < s n then 1 else 0)
    rw [tsm_s s n J, abv_s]
    omega
theorem tsm_0 (s : Nat → Int) : ∀ J, tsm s 0 J = 0
  | 0 => rfl
  | J + 1 => by
    show tsm s 0 J + ((0 : Nat) : Int) = 0
    rw [tsm_0 s J]
    rfl
theorem tsm_t {s : Nat → Int} {J : Nat} (h : ∀ k, 0 ≤ s k ∧ s k ≤ J) : ∀ n, tsm s n J = tsum s n
  | 0 => tsm_0 s J
  | n + 1 => by
    show _ = tsum s n + s n
    have h2 := h n
    rw [tsm_s, tsm_t h n, blw_v h2.1]
    (repeat' split) <;> omega
theorem tsm_W {s : Nat → Int} {W : Int} (hs : Gs s W) (hb : W ≤ 75) : tsm s (len s) 77 = W := by
  rw [tsm_t (J := 77) (fun k => ⟨hs.1 k, by have := hs.b k; omega⟩), tsum_len hs]
theorem abv_d (s : Nat → Int) (j : Int) : ∀ n, abv s (j + 1) n ≤ abv s j n
  | 0 => Nat.le_refl _
  | n + 1 => by
    have h := abv_d s j n
    show abv s (j + 1) n + (if j + 1 < s n then 1 else 0) ≤ abv s j n + (if j < s n then 1 else 0)
    (repeat' split) <;> omega
theorem abv_0 {s : Nat → Int} {W : Int} (hs : Gs s W) : abv s 0 (len s) = len s := by
  have h : ∀ n, abv s 0 n = cnt s n := fun n => by
    induction n with
    | zero => rfl
    | succ n ih =>
      show abv s 0 n + (if 0 < s n then 1 else 0) = cnt s n + (if 0 < s n then 1 else 0)
      rw [ih]
  have hl := len_b s
  have e := abv_len hs (j := 0) (Int.le_refl _) (75 - len s)
  rw [show len s + (75 - len s) = 75 by omega, h 75] at e
  exact e.symm

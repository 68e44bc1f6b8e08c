/-! growth, on whole numbers -/
def mx (a b : Int) : Int := if a < b then b else a
def eqi (a b : Int) : Int := if a = b then 1 else 0
def tri (o a b : Int) : Int := if o = a then (if a = b then 1 else 0) else 0
def lo (a b : Int) : Int := if a < b then a else b
def gN (r o a b c : Int) : Int := if r = 0 then mx a b + c else if r = 1 then mx (a + c) b else if r = 2 then mx a (b + c) else mx a b + lo (tri o a b) c
def worth (r v : Int) : Int := if r = 1 then (if 1 < v then 1 else v) else if r = 2 then (if 1 < v then 1 else v) else v
def gc (r w : Int) (o a b : Nat → Int) : Nat → Int
  | 0 => w
  | k + 1 => gc r w o a b k + (a k + b k - o k - gN r (o k) (a k) (b k) (gc r w o a b k))
def gp (r w : Int) (o a b : Nat → Int) (k : Nat) : Int := gN r (o k) (a k) (b k) (gc r w o a b k)
def rowS (r : Int) (wt : Nat → Int) (prev : Nat → Nat → Int) : Nat → Nat → Int
  | 0 => fun _ => 0
  | y + 1 => gp r (wt y) (prev y) (prev (y + 1)) (rowS r wt prev y)
def SR (r : Int) (wt : Nat → Nat → Int) : Nat → Nat → Nat → Int
  | 0 => fun _ _ => 0
  | x + 1 => rowS r (wt x) (SR r wt x)
theorem SR_0 (r : Int) (wt : Nat → Nat → Int) (y k : Nat) : SR r wt 0 y k = 0 := rfl
theorem SR_y0 (r : Int) (wt : Nat → Nat → Int) : ∀ x k, SR r wt x 0 k = 0
  | 0, _ => rfl
  | _ + 1, _ => rfl
theorem SR_s (r : Int) (wt : Nat → Nat → Int) (x y : Nat) : SR r wt (x + 1) (y + 1) = gp r (wt x y) (SR r wt x y) (SR r wt x (y + 1)) (SR r wt (x + 1) y) := rfl
def tsum (s : Nat → Int) : Nat → Int
  | 0 => 0
  | k + 1 => tsum s k + s k
/-- a shape of total size W -/
def Gs (s : Nat → Int) (W : Int) : Prop := (∀ k, 0 ≤ s k) ∧ (∀ k, s (k + 1) ≤ s k) ∧ s 75 = 0 ∧ tsum s 75 = W
theorem Gs.dn {s : Nat → Int} {W : Int} (h : Gs s W) {k j : Nat} (hk : k ≤ j) : s j ≤ s k := by
  induction j with
  | zero => have : k = 0 := by omega
            subst this; exact Int.le_refl _
  | succ j ih =>
    by_cases e : k = j + 1
    · subst e; exact Int.le_refl _
    · exact Int.le_trans (h.2.1 j) (ih (by omega))
theorem Gs.z {s : Nat → Int} {W : Int} (h : Gs s W) {k : Nat} (hk : 75 ≤ k) : s k = 0 := by
  have h1 := h.dn hk
  have h2 := h.1 k
  rw [h.2.2.1] at h1
  omega
theorem Gs.t {s : Nat → Int} {W : Int} (h : Gs s W) : ∀ d, tsum s (75 + d) = W
  | 0 => h.2.2.2
  | d + 1 => by
    have h1 := h.t d
    have h2 := h.z (k := 75 + d) (by omega)
    show tsum s (75 + d) + s (75 + d) = W
    omega
theorem tsum_b {s : Nat → Int} (h : ∀ k, 0 ≤ s k) {i j : Nat} (hij : i ≤ j) : tsum s i ≤ tsum s j := by
  induction j with
  | zero => have : i = 0 := by omega
            subst this; exact Int.le_refl _
  | succ j ih =>
    by_cases e : i = j + 1
    · subst e; exact Int.le_refl _
    · have h1 := ih (by omega)
      have h2 := h j
      show tsum s i ≤ tsum s j + s j
      omega
theorem Gs.tb {s : Nat → Int} {W : Int} (h : Gs s W) (K : Nat) : 0 ≤ tsum s K ∧ tsum s K ≤ W := by
  refine ⟨tsum_b h.1 (Nat.zero_le K), ?_⟩
  rw [← h.t K]
  exact tsum_b h.1 (by omega)
theorem Gs.b {s : Nat → Int} {W : Int} (h : Gs s W) (k : Nat) : s k ≤ W := by
  have h1 := (h.tb (k + 1)).2
  have h2 := (h.tb k).1
  have h3 : tsum s (k + 1) = tsum s k + s k := rfl
  omega
/-- from s to t: contained, and level (0) or upright (1) -/
def Sp (e : Int) (s t : Nat → Int) : Prop := (∀ k, s k ≤ t k) ∧ (e = 0 → ∀ k, t (k + 1) ≤ s k) ∧ (e = 1 → ∀ k, t k ≤ s k + 1)
def eC (r : Int) : Int := if r = 1 then 1 else if r = 3 then 1 else 0
def eR (r : Int) : Int := if r = 2 then 1 else if r = 3 then 1 else 0
theorem gc_b {r w : Int} {o a b : Nat → Int} (hr : 0 ≤ r ∧ r ≤ 3) (hw : 0 ≤ w) (ho : ∀ k, 0 ≤ o k) (h1 : ∀ k, o k ≤ a k) (h2 : ∀ k, o k ≤ b k) : ∀ k, 0 ≤ gc r w o a b k
  | 0 => hw
  | k + 1 => by
    have ih := gc_b hr hw ho h1 h2 k
    have x0 := ho k; have x1 := h1 k; have x2 := h2 k
    show 0 ≤ gc r w o a b k + (a k + b k - o k - gN r (o k) (a k) (b k) (gc r w o a b k))
    unfold gN mx lo tri
    repeat' split
    all_goals omega
theorem gp_sum {r w : Int} {o a b : Nat → Int} : ∀ k, tsum (gp r w o a b) k + gc r w o a b k = w + tsum a k + tsum b k - tsum o k
  | 0 => by show (0 : Int) + w = w + 0 + 0 - 0; omega
  | k + 1 => by
    have ih := gp_sum (r := r) (w := w) (o := o) (a := a) (b := b) k
    show tsum (gp r w o a b) k + gp r w o a b k + (gc r w o a b k + (a k + b k - o k - gp r w o a b k)) = w + (tsum a k + a k) + (tsum b k + b k) - (tsum o k + o k)
    omega
theorem gp_pt {r w : Int} {o a b : Nat → Int} (hr : 0 ≤ r ∧ r ≤ 3) (hw : 0 ≤ w) (ho : ∀ k, 0 ≤ o k) (h1 : ∀ k, o k ≤ a k) (h2 : ∀ k, o k ≤ b k) (k : Nat) : a k ≤ gp r w o a b k ∧ b k ≤ gp r w o a b k ∧ (gp r w o a b k = 0 → gc r w o a b k = 0) := by
  have ih := gc_b hr hw ho h1 h2 k
  have x0 := ho k; have x1 := h1 k; have x2 := h2 k
  unfold gp gN mx lo tri
  refine ⟨?_, ?_, fun h => ?_⟩
  · repeat' split
    all_goals omega
  · repeat' split
    all_goals omega
  · revert h
    repeat' split
    all_goals omega
theorem gp_step {r w : Int} {o a b : Nat → Int} {Wo Wa Wb : Int} (hr : 0 ≤ r ∧ r ≤ 3) (hw : 0 ≤ w) (hw1 : r = 1 ∨ r = 2 → w ≤ 1) (Ho : Gs o Wo) (Ha : Gs a Wa) (Hb : Gs b Wb) (Sa : Sp (eR r) o a) (Sb : Sp (eC r) o b) (hb : w + Wa + Wb - Wo ≤ 75) :
    Gs (gp r w o a b) (w + Wa + Wb - Wo) ∧ Sp (eC r) a (gp r w o a b) ∧ Sp (eR r) b (gp r w o a b) := by
  have hc := gc_b hr hw Ho.1 Sa.1 Sb.1
  have hp := gp_pt hr hw Ho.1 Sa.1 Sb.1
  have hs : ∀ k, gc r w o a b (k + 1) = gc r w o a b k + (a k + b k - o k - gp r w o a b k) := fun k => rfl
  have hc1 : r = 1 ∨ r = 2 → ∀ k, gc r w o a b k ≤ 1 := fun h k => by
    cases k with
    | zero => exact hw1 h
    | succ k =>
      rw [hs]
      have x1 := hc k; have x2 := Sa.1 k; have x3 := Sb.1 k
      have x4 := Sa.2.2; have x5 := Sb.2.2
      unfold eR at x4; unfold eC at x5
      unfold gp gN mx
      obtain h | h := h
      · have x6 := x5 (by rw [if_pos h]) k
        rw [if_neg (by omega), if_pos h]
        split <;> omega
      · have x6 := x4 (by rw [if_pos h]) k
        rw [if_neg (by omega), if_neg (by omega), if_pos h]
        split <;> omega
  have hC : Sp (eC r) a (gp r w o a b) := by
    refine ⟨fun k => (hp k).1, fun h k => ?_, fun h k => ?_⟩
    · have x1 := hc k; have x2 := Sa.1 k; have x3 := Sb.1 k; have x7 := Ha.2.1 k; have x8 := Hb.2.1 k; have x9 := hs k
      have x4 := Sa.2.1; have x5 := Sb.2.1; have x6 := Sa.2.2
      unfold eC at h x5; unfold eR at x4 x6
      have hr2 : r = 0 ∨ r = 2 := by
        revert h
        repeat' split
        all_goals omega
      obtain h0 | h0 := hr2
      · have y1 := x4 (by rw [if_neg (by omega), if_neg (by omega)]) k
        have y2 := x5 (by rw [if_neg (by omega), if_neg (by omega)]) k
        unfold gp gN mx at x9 ⊢
        rw [if_pos h0] at x9 ⊢
        revert x9
        repeat' split
        all_goals omega
      · have y1 := x6 (by rw [if_pos (by omega)]) k
        have y2 := x5 (by rw [if_neg (by omega), if_neg (by omega)]) k
        unfold gp gN mx at x9 ⊢
        rw [if_neg (by omega), if_neg (by omega), if_pos h0] at x9 ⊢
        revert x9
        repeat' split
        all_goals omega
    · have x1 := hc k; have x2 := Sa.1 k; have x3 := Sb.1 k
      have x5 := Sb.2.2 h k
      unfold eC at h
      have hr2 : r = 1 ∨ r = 3 := by
        revert h
        repeat' split
        all_goals omega
      obtain h0 | h0 := hr2
      · have y1 := hc1 (by omega) k
        unfold gp gN mx
        rw [if_neg (by omega), if_pos h0]
        split <;> omega
      · have y1 := Sa.2.2 (by unfold eR; rw [if_neg (by omega), if_pos h0]) k
        unfold gp gN mx lo tri
        rw [if_neg (by omega), if_neg (by omega), if_neg (by omega)]
        repeat' split
        all_goals omega
  have hR : Sp (eR r) b (gp r w o a b) := by
    refine ⟨fun k => (hp k).2.1, fun h k => ?_, fun h k => ?_⟩
    · have x1 := hc k; have x2 := Sa.1 k; have x3 := Sb.1 k; have x7 := Ha.2.1 k; have x8 := Hb.2.1 k; have x9 := hs k
      have x4 := Sa.2.1; have x5 := Sb.2.1; have x6 := Sb.2.2
      unfold eC at x5 x6; unfold eR at h x4
      have hr2 : r = 0 ∨ r = 1 := by
        revert h
        repeat' split
        all_goals omega
      obtain h0 | h0 := hr2
      · have y1 := x4 (by rw [if_neg (by omega), if_neg (by omega)]) k
        have y2 := x5 (by rw [if_neg (by omega), if_neg (by omega)]) k
        unfold gp gN mx at x9 ⊢
        rw [if_pos h0] at x9 ⊢
        revert x9
        repeat' split
        all_goals omega
      · have y1 := x6 (by rw [if_pos (by omega)]) k
        have y2 := x4 (by rw [if_neg (by omega), if_neg (by omega)]) k
        unfold gp gN mx at x9 ⊢
        rw [if_neg (by omega), if_pos h0] at x9 ⊢
        revert x9
        repeat' split
        all_goals omega
    · have x1 := hc k; have x2 := Sa.1 k; have x3 := Sb.1 k
      have x5 := Sa.2.2 h k
      unfold eR at h
      have hr2 : r = 2 ∨ r = 3 := by
        revert h
        repeat' split
        all_goals omega
      obtain h0 | h0 := hr2
      · have y1 := hc1 (by omega) k
        unfold gp gN mx
        rw [if_neg (by omega), if_neg (by omega), if_pos h0]
        split <;> omega
      · have y1 := Sb.2.2 (by unfold eC; rw [if_neg (by omega), if_pos h0]) k
        unfold gp gN mx lo tri
        rw [if_neg (by omega), if_neg (by omega), if_neg (by omega)]
        repeat' split
        all_goals omega
  have hdn : ∀ k, gp r w o a b (k + 1) ≤ gp r w o a b k := fun k => by
    by_cases h : r = 3
    · have x1 := hc k; have x2 := Sa.1 k; have x3 := Sb.1 k; have x9 := hs k
      have y1 := Sa.2.2 (by unfold eR; rw [if_neg (by omega), if_pos h]) k
      have y2 := Sb.2.2 (by unfold eC; rw [if_neg (by omega), if_pos h]) k
      have z1 := Ho.2.1 k; have z2 := Ha.2.1 k; have z3 := Hb.2.1 k
      have e : ∀ k, gp r w o a b k = mx (a k) (b k) + lo (tri (o k) (a k) (b k)) (gc r w o a b k) := fun k => by
        unfold gp gN
        rw [if_neg (by omega), if_neg (by omega), if_neg (by omega)]
      rw [e (k + 1), e k]
      rw [e k] at x9
      revert x9
      generalize gc r w o a b (k + 1) = c1
      revert x1
      generalize gc r w o a b k = c0
      intro x1
      unfold mx lo tri
      repeat' split
      all_goals intro x9
      all_goals omega
    · by_cases h2 : r = 1
      · have := hR.2.1 (by unfold eR; rw [if_neg (by omega), if_neg (by omega)]) k
        have := (hp k).2.1
        omega
      · have := hC.2.1 (by unfold eC; rw [if_neg (by omega), if_neg (by omega)]) k
        have := (hp k).1
        omega
  have h0 : ∀ k, 0 ≤ gp r w o a b k := fun k => Int.le_trans (Ha.1 k) (hp k).1
  have hsum := gp_sum (r := r) (w := w) (o := o) (a := a) (b := b)
  have hz : gp r w o a b 75 = 0 := by
    by_cases c : gp r w o a b 75 = 0
    · exact c
    · exfalso
      have hpos : ∀ k, k ≤ 75 → 1 ≤ gp r w o a b k := fun k hk => by
        have key : ∀ d, d ≤ 75 → gp r w o a b 75 ≤ gp r w o a b (75 - d) := fun d => by
          induction d with
          | zero => intro _; exact Int.le_refl _
          | succ d ih =>
            intro hd
            have e1 := ih (by omega)
            have e2 := hdn (75 - (d + 1))
            rw [show 75 - (d + 1) + 1 = 75 - d by omega] at e2
            omega
        have e1 := key (75 - k) (by omega)
        rw [show 75 - (75 - k) = k by omega] at e1
        have e2 := h0 75
        omega
      have hbig : ∀ K : Nat, K ≤ 76 → (K : Int) ≤ tsum (gp r w o a b) K := fun K => by
        induction K with
        | zero => intro _; exact Int.le_refl _
        | succ K ih =>
          intro hK
          have e1 := ih (by omega)
          have e2 := hpos K (by omega)
          show ((K + 1 : Nat) : Int) ≤ tsum (gp r w o a b) K + gp r w o a b K
          omega
      have e1 := hbig 76 (by omega)
      have e2 := hsum 76
      have e3 := hc 76
      have e4 : tsum a 76 = Wa := Ha.t 1
      have e5 : tsum b 76 = Wb := Hb.t 1
      have e6 : tsum o 76 = Wo := Ho.t 1
      omega
  refine ⟨⟨h0, hdn, hz, ?_⟩, hC, hR⟩
  have e1 := hsum 75
  have e2 := (hp 75).2.2 hz
  have e4 := Ha.2.2.2; have e5 := Hb.2.2.2; have e6 := Ho.2.2.2
  omega
def csum (wt : Nat → Int) : Nat → Int
  | 0 => 0
  | y + 1 => csum wt y + wt y
def WS (wt : Nat → Nat → Int) : Nat → Nat → Int
  | 0, _ => 0
  | x + 1, y => WS wt x y + csum (wt x) y
theorem Gs0 : Gs (fun _ => 0) 0 := ⟨fun _ => Int.le_refl _, fun _ => Int.le_refl _, rfl, by decide⟩
theorem Sp0 (e : Int) {t : Nat → Int} (h : ∀ k, t k = 0) : Sp e (fun _ => 0) t := ⟨fun k => by rw [h]; exact Int.le_refl _, fun _ k => by rw [h]; exact Int.le_refl _, fun _ k => by rw [h]; show (0 : Int) ≤ 0 + 1; decide⟩
theorem csum_b {wt : Nat → Int} (h : ∀ y, y < 5 → 0 ≤ wt y ∧ wt y ≤ 3) : ∀ y, y ≤ 5 → 0 ≤ csum wt y ∧ csum wt y ≤ 15
  | y, hy => by
    have key : ∀ y, y ≤ 5 → 0 ≤ csum wt y ∧ csum wt y ≤ 3 * y := fun y => by
      induction y with
      | zero => intro _; exact ⟨Int.le_refl _, Int.le_refl _⟩
      | succ y ih =>
        intro hy
        have e1 := ih (by omega)
        have e2 := h y (by omega)
        show 0 ≤ csum wt y + wt y ∧ csum wt y + wt y ≤ 3 * ((y + 1 : Nat) : Int)
        omega
    have := key y hy
    omega
theorem WS_b {wt : Nat → Nat → Int} (h : ∀ x, x < 5 → ∀ y, y < 5 → 0 ≤ wt x y ∧ wt x y ≤ 3) {y : Nat} (hy : y ≤ 5) : ∀ x, x ≤ 5 → 0 ≤ WS wt x y ∧ WS wt x y ≤ 15 * x
  | 0, _ => by show (0 : Int) ≤ 0 ∧ (0 : Int) ≤ _; omega
  | x + 1, hx => by
    have e1 := WS_b h hy x (by omega)
    have e2 := csum_b (h x (by omega)) y hy
    show 0 ≤ WS wt x y + csum (wt x) y ∧ WS wt x y + csum (wt x) y ≤ 15 * ((x + 1 : Nat) : Int)
    omega
theorem WS_y0 (wt : Nat → Nat → Int) : ∀ x, WS wt x 0 = 0
  | 0 => rfl
  | x + 1 => by show WS wt x 0 + 0 = 0; rw [WS_y0 wt x]; rfl
theorem SR_ok {r : Int} {wt : Nat → Nat → Int} (hr : 0 ≤ r ∧ r ≤ 3) (h : ∀ x, x < 5 → ∀ y, y < 5 → 0 ≤ wt x y ∧ wt x y ≤ 3) (h1 : r = 1 ∨ r = 2 → ∀ x y, wt x y ≤ 1) : ∀ x, x ≤ 5 → ∀ y, y ≤ 5 → Gs (SR r wt x y) (WS wt x y) ∧ (0 < y → Sp (eR r) (SR r wt x (y - 1)) (SR r wt x y)) ∧ (0 < x → Sp (eC r) (SR r wt (x - 1) y) (SR r wt x y)) := by
  intro x
  induction x with
  | zero =>
    intro _ y hy
    exact ⟨Gs0, fun _ => Sp0 _ (fun _ => rfl), fun h => absurd h (by decide)⟩
  | succ x ihx =>
    intro hx y
    have ihx := ihx (by omega)
    induction y with
    | zero =>
      intro _
      rw [WS_y0]
      refine ⟨Gs0, fun h => absurd h (by decide), fun _ => ?_⟩
      have e : SR r wt x 0 = fun _ => 0 := funext fun k => SR_y0 r wt x k
      show Sp (eC r) (SR r wt x 0) (fun _ => 0)
      rw [e]; exact Sp0 _ (fun _ => rfl)
    | succ y ihy =>
      intro hy
      have ihy := ihy (by omega)
      have o := ihx y (by omega)
      have a := ihx (y + 1) (by omega)
      have hw := h x (by omega) y (by omega)
      have e2 := WS_b h hy (x + 1) hx
      have e3 : WS wt (x + 1) (y + 1) = WS wt x (y + 1) + (csum (wt x) y + wt x y) := rfl
      have e4 : WS wt (x + 1) y = WS wt x y + csum (wt x) y := rfl
      have key := gp_step hr hw.1 (fun h => h1 h x y) o.1 a.1 ihy.1 (a.2.1 (by omega)) (ihy.2.2 (by omega)) (by omega)
      rw [show wt x y + WS wt x (y + 1) + WS wt (x + 1) y - WS wt x y = WS wt (x + 1) (y + 1) by omega] at key
      exact ⟨key.1, fun _ => key.2.2, fun _ => key.2.1⟩
def wts (g : Gd) (x y : Nat) : Int := worth (g 2) (g (3 + (5 * x + y)))
def Sg (g : Gd) : Nat → Nat → Nat → Int := SR (g 2) (wts g)
def Wg (g : Gd) : Nat → Nat → Int := WS (wts g)
theorem wts_b {g : Gd} (hv : GV g) : ∀ x, x < 5 → ∀ y, y < 5 → 0 ≤ wts g x y ∧ wts g x y ≤ 3 := fun x hx y hy => by
  have := hv.2.2.2.1 (5 * x + y) (by omega)
  unfold wts worth
  repeat' split
  all_goals omega
theorem Sg_ok {g : Gd} (hv : GV g) {x y : Nat} (hx : x ≤ 5) (hy : y ≤ 5) : Gs (Sg g x y) (Wg g x y) ∧ (0 < y → Sp (eR (g 2)) (Sg g x (y - 1)) (Sg g x y)) ∧ (0 < x → Sp (eC (g 2)) (Sg g (x - 1) y) (Sg g x y)) :=
  SR_ok hv.2.2.1 (wts_b hv) (fun h x y => by
    unfold wts worth
    repeat' split
    all_goals omega) x hx y hy
theorem Wg_b {g : Gd} (hv : GV g) {x y : Nat} (hx : x ≤ 5) (hy : y ≤ 5) : 0 ≤ Wg g x y ∧ Wg g x y ≤ 75 := by
  have := WS_b (wts_b hv) hy x hx
  unfold Wg
  omega
theorem gc_le {r w : Int} {o a b : Nat → Int} {Wo Wa Wb : Int} (hr : 0 ≤ r ∧ r ≤ 3) (hw : 0 ≤ w) (Ho : Gs o Wo) (Ha : Gs a Wa) (Hb : Gs b Wb) (h1 : ∀ k, o k ≤ a k) (h2 : ∀ k, o k ≤ b k) (k : Nat) (hk : k ≤ 75) : gc r w o a b k ≤ w + Wa + Wb - Wo := by
  have key : ∀ d, d ≤ 75 → tsum a (75 - d) + tsum b (75 - d) - tsum o (75 - d) ≤ Wa + Wb - Wo := fun d => by
    induction d with
    | zero =>
      intro _
      have e4 : tsum a 75 = Wa := Ha.2.2.2
      have e5 : tsum b 75 = Wb := Hb.2.2.2
      have e6 : tsum o 75 = Wo := Ho.2.2.2
      show tsum a 75 + tsum b 75 - tsum o 75 ≤ _
      omega
    | succ d ih =>
      intro hd
      have e1 := ih (by omega)
      obtain ⟨q, hq⟩ : ∃ q, q = 75 - (d + 1) := ⟨_, rfl⟩
      rw [show 75 - d = q + 1 by omega] at e1
      rw [← hq]
      have e2 := h1 q; have e3 := h2 q; have e4 := Ha.1 q; have e5 := Hb.1 q
      have f1 : tsum a (q + 1) = tsum a q + a q := rfl
      have f2 : tsum b (q + 1) = tsum b q + b q := rfl
      have f3 : tsum o (q + 1) = tsum o q + o q := rfl
      omega
  have e1 := key (75 - k) (by omega)
  rw [show 75 - (75 - k) = k by omega] at e1
  have e2 := gp_sum (r := r) (w := w) (o := o) (a := a) (b := b) k
  have e3 : 0 ≤ tsum (gp r w o a b) k := tsum_b (i := 0) (fun k => Int.le_trans (Ha.1 k) (gp_pt hr hw Ho.1 h1 h2 k).1) (Nat.zero_le k)
  omega
/-- how many of the first n are above 0 -/
def cnt (s : Nat → Int) : Nat → Nat
  | 0 => 0
  | k + 1 => cnt s k + if 0 < s k then 1 else 0
def len (s : Nat → Int) : Nat := cnt s 75
theorem cnt_le (s : Nat → Int) : ∀ n, cnt s n ≤ n
  | 0 => Nat.le_refl _
  | n + 1 => by
    have := cnt_le s n
    show cnt s n + (if 0 < s n then 1 else 0) ≤ n + 1
    split <;> omega
theorem cnt_p {s : Nat → Int} {W : Int} (h : Gs s W) : ∀ n k, k < n → (k < cnt s n ↔ 0 < s k)
  | 0, _, hk => absurd hk (Nat.not_lt_zero _)
  | n + 1, k, hk => by
    have e0 := cnt_le s n
    have e1 : cnt s (n + 1) = cnt s n + (if 0 < s n then 1 else 0) := rfl
    rw [e1]
    by_cases c : 0 < s n
    · rw [if_pos c]
      have e2 : cnt s n = n := by
        by_cases z : n = 0
        · rw [z]; rfl
        · have f1 := cnt_p h n (n - 1) (by omega)
          have f2 := h.dn (k := n - 1) (j := n) (by omega)
          have f3 := f1.2 (by omega)
          omega
      have f2 := h.dn (k := k) (j := n) (by omega)
      omega
    · rw [if_neg c]
      by_cases z : k = n
      · subst z; omega
      · have := cnt_p h n k (by omega)
        omega
theorem len_b (s : Nat → Int) : len s ≤ 75 := cnt_le s 75
theorem len_p {s : Nat → Int} {W : Int} (h : Gs s W) (k : Nat) : k < len s ↔ 0 < s k := by
  by_cases c : k < 75
  · exact cnt_p h 75 k c
  · have e1 := h.z (k := k) (by omega)
    have e2 := len_b s
    omega
theorem len_z {s : Nat → Int} {W : Int} (h : Gs s W) {k : Nat} (hk : len s ≤ k) : s k = 0 := by
  have e1 := len_p h k
  have e2 := h.1 k
  omega


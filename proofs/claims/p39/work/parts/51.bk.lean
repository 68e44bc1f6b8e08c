/-! back: the shapes and the numbers -/
def bO (q n a b c : Int) : Int := if q = 0 then lo a b - c else if q = 1 then lo a (b - c) else if q = 2 then lo (a - c) b else lo a b - lo (tri n a b) c
def J (q n a b o c : Int) : Prop := (q = 0 → c = n - mx a b) ∧ (q = 1 → c ≤ 1 ∧ c ≤ n - a) ∧ (q = 2 → c ≤ 1 ∧ c ≤ n - b) ∧ (q = 3 → 1 ≤ c → n = a → a = b → o ≤ n - 1)
theorem lo_c (a b : Int) : (a < b ∧ lo a b = a) ∨ (b ≤ a ∧ lo a b = b) := by
  unfold lo
  (repeat' split) <;> omega
theorem mx_c (a b : Int) : (a < b ∧ mx a b = b) ∨ (b ≤ a ∧ mx a b = a) := by
  unfold mx
  (repeat' split) <;> omega
theorem bk_step {q n a b c n' a' b' o' : Int} (hq : 0 ≤ q ∧ q ≤ 3) (hn : 1 ≤ n) (ha : 0 ≤ a ∧ a ≤ n) (hb : 0 ≤ b ∧ b ≤ n) (hn' : n' ≤ n) (ha' : 0 ≤ a' ∧ a' ≤ a ∧ a' ≤ n') (hb' : 0 ≤ b' ∧ b' ≤ b ∧ b' ≤ n') (h1 : eC q = 0 → n' ≤ a) (h2 : eC q = 1 → n ≤ a + 1) (h3 : eR q = 0 → n' ≤ b) (h4 : eR q = 1 → n ≤ b + 1) (hc : 0 ≤ c) (hJ : J q n' a' b' o' c) (ho : 0 ≤ o' ∧ o' ≤ a' ∧ o' ≤ b') :
    (0 ≤ bO q n a b c ∧ bO q n a b c ≤ a ∧ bO q n a b c ≤ b) ∧ (eC q = 0 → b' ≤ bO q n a b c) ∧ (eC q = 1 → b ≤ bO q n a b c + 1) ∧ (eR q = 0 → a' ≤ bO q n a b c) ∧ (eR q = 1 → a ≤ bO q n a b c + 1) ∧ o' ≤ bO q n a b c ∧ 0 ≤ c + (n + bO q n a b c - a - b) ∧ J q n a b (bO q n a b c) (c + (n + bO q n a b c - a - b)) ∧ (c + (n + bO q n a b c - a - b) ≤ n ∨ c + (n + bO q n a b c - a - b) ≤ c + 1) := by
  obtain ⟨j0, j1, j2, j3⟩ := hJ
  have hz : q = 0 ∨ q = 1 ∨ q = 2 ∨ q = 3 := by omega
  obtain rfl | rfl | rfl | rfl := hz
  · have e1 : eC 0 = 0 := rfl
    have e2 : eR 0 = 0 := rfl
    have k := j0 rfl
    have eb : bO 0 n a b c = lo a b - c := rfl
    have l1 := lo_c a b
    have l2 := mx_c a b
    have l3 := mx_c a' b'
    generalize bO 0 n a b c = o at *
    unfold J
    refine ⟨by omega, by omega, by omega, by omega, by omega, by omega, by omega, ⟨fun _ => by omega, fun h => by omega, fun h => by omega, fun h => by omega⟩, by omega⟩
  · have e1 : eC 1 = 1 := rfl
    have e2 : eR 1 = 0 := rfl
    have k := j1 rfl
    have eb : bO 1 n a b c = lo a (b - c) := rfl
    have l1 := lo_c a (b - c)
    generalize bO 1 n a b c = o at *
    unfold J
    refine ⟨by omega, by omega, by omega, by omega, by omega, by omega, by omega, ⟨fun h => by omega, fun _ => by omega, fun h => by omega, fun h => by omega⟩, by omega⟩
  · have e1 : eC 2 = 0 := rfl
    have e2 : eR 2 = 1 := rfl
    have k := j2 rfl
    have eb : bO 2 n a b c = lo (a - c) b := rfl
    have l1 := lo_c (a - c) b
    generalize bO 2 n a b c = o at *
    unfold J
    refine ⟨by omega, by omega, by omega, by omega, by omega, by omega, by omega, ⟨fun h => by omega, fun h => by omega, fun _ => by omega, fun h => by omega⟩, by omega⟩
  · have e1 : eC 3 = 1 := rfl
    have e2 : eR 3 = 1 := rfl
    have k := j3 rfl
    have eb : bO 3 n a b c = lo a b - lo (tri n a b) c := rfl
    have et : (n = a ∧ a = b ∧ tri n a b = 1) ∨ (¬ (n = a ∧ a = b) ∧ tri n a b = 0) := by
      unfold tri
      (repeat' split) <;> omega
    have l1 := lo_c a b
    have l2 := lo_c (tri n a b) c
    generalize lo (tri n a b) c = u at *
    generalize tri n a b = t at *
    generalize bO 3 n a b c = o at *
    generalize lo a b = v at *
    unfold J
    have oo : o' ≤ o := by
      by_cases f : n' = a' ∧ a' = b' ∧ 1 ≤ c
      · have := k f.2.2 f.1 f.2.1
        omega
      · omega
    refine ⟨by omega, by omega, by omega, by omega, by omega, oo, by omega, ⟨fun h => by omega, fun h => by omega, fun h => by omega, fun _ => by omega⟩, by omega⟩
/-- the carry when d parts are done, from the last one on -/
def bc (q : Int) (n a b : Nat → Int) (L : Nat) : Nat → Int
  | 0 => 0
  | d + 1 => bc q n a b L d + (n (L - 1 - d) + bO q (n (L - 1 - d)) (a (L - 1 - d)) (b (L - 1 - d)) (bc q n a b L d) - a (L - 1 - d) - b (L - 1 - d))
def bo (q : Int) (n a b : Nat → Int) (i : Nat) : Int := if i < len n then bO q (n i) (a i) (b i) (bc q n a b (len n) (len n - 1 - i)) else 0
def bm (q : Int) (n a b : Nat → Int) : Int := bc q n a b (len n) (len n)
theorem bo_z {q : Int} {n a b : Nat → Int} {i : Nat} (h : len n ≤ i) : bo q n a b i = 0 := if_neg (by omega)
theorem bo_d {q : Int} {n a b : Nat → Int} {d : Nat} (h : d < len n) : bo q n a b (len n - 1 - d) = bO q (n (len n - 1 - d)) (a (len n - 1 - d)) (b (len n - 1 - d)) (bc q n a b (len n) d) := by
  unfold bo
  rw [if_pos (by omega), show len n - 1 - (len n - 1 - d) = d by omega]
theorem bc_s (q : Int) (n a b : Nat → Int) (d : Nat) (h : d < len n) : bc q n a b (len n) (d + 1) = bc q n a b (len n) d + (n (len n - 1 - d) + bo q n a b (len n - 1 - d) - a (len n - 1 - d) - b (len n - 1 - d)) := by
  rw [bo_d h]
  rfl
def BF (q : Int) (n a b : Nat → Int) (i : Nat) : Prop := (0 ≤ bo q n a b i ∧ bo q n a b i ≤ a i ∧ bo q n a b i ≤ b i) ∧ (eC q = 0 → b (i + 1) ≤ bo q n a b i) ∧ (eC q = 1 → b i ≤ bo q n a b i + 1) ∧ (eR q = 0 → a (i + 1) ≤ bo q n a b i) ∧ (eR q = 1 → a i ≤ bo q n a b i + 1) ∧ bo q n a b (i + 1) ≤ bo q n a b i
theorem bk_all {q Wn Wa Wb : Int} {n a b : Nat → Int} (hq : 0 ≤ q ∧ q ≤ 3) (hn : Gs n Wn) (hW : Wn ≤ 75) (ha : Gs a Wa) (hb : Gs b Wb) (sa : Sp (eC q) a n) (sb : Sp (eR q) b n) : ∀ d, d ≤ len n → (∀ i, len n - d ≤ i → BF q n a b i) ∧ (0 ≤ bc q n a b (len n) d ∧ bc q n a b (len n) d ≤ 75 + d) ∧ J q (n (len n - d)) (a (len n - d)) (b (len n - d)) (bo q n a b (len n - d)) (bc q n a b (len n) d) := by
  have az : ∀ i, len n ≤ i → a i = 0 := fun i h => by have := sa.1 i; have := ha.1 i; have := len_z hn h; omega
  have bz : ∀ i, len n ≤ i → b i = 0 := fun i h => by have := sb.1 i; have := hb.1 i; have := len_z hn h; omega
  intro d
  induction d with
  | zero =>
    intro _
    refine ⟨fun i hi => ?_, ⟨Int.le_refl _, by show (0 : Int) ≤ _; omega⟩, ?_⟩
    · unfold BF
      rw [bo_z (q := q) (a := a) (b := b) (show len n ≤ i by omega), bo_z (q := q) (a := a) (b := b) (show len n ≤ i + 1 by omega), az i (by omega), bz i (by omega), az (i + 1) (by omega), bz (i + 1) (by omega)]
      omega
    · show J q (n (len n)) (a (len n)) (b (len n)) _ 0
      rw [len_z hn (Nat.le_refl _), az _ (Nat.le_refl _), bz _ (Nat.le_refl _)]
      unfold J mx
      omega
  | succ d ih =>
    intro hd
    obtain ⟨i1, i2, i3⟩ := ih (by omega)
    have e1 : len n - d = (len n - 1 - d) + 1 := by omega
    have e2 : len n - (d + 1) = len n - 1 - d := by omega
    have f1 := i1 (len n - d) (Nat.le_refl _)
    rw [e1] at i3 f1
    rw [e2]
    have hs := bc_s q n a b d (by omega)
    have ho := bo_d (q := q) (a := a) (b := b) (show d < len n by omega)
    have np := (len_p hn (len n - 1 - d)).1 (by omega)
    generalize len n - 1 - d = i at *
    have st := bk_step hq (by omega) ⟨ha.1 i, sa.1 i⟩ ⟨hb.1 i, sb.1 i⟩ (hn.2.1 i) ⟨ha.1 (i + 1), ha.2.1 i, sa.1 (i + 1)⟩ ⟨hb.1 (i + 1), hb.2.1 i, sb.1 (i + 1)⟩ (fun h => sa.2.1 h i) (fun h => sa.2.2 h i) (fun h => sb.2.1 h i) (fun h => sb.2.2 h i) i2.1 i3 f1.1
    rw [← ho, ← hs] at st
    obtain ⟨t1, t2, t3, t4, t5, t6, t7, t8, t9⟩ := st
    have nb := hn.b i
    refine ⟨fun k hk => ?_, ⟨t7, by omega⟩, t8⟩
    by_cases e : k = i
    · subst e
      exact ⟨t1, t2, t3, t4, t5, t6⟩
    · exact i1 k (by omega)
theorem bk_ok {q Wn Wa Wb : Int} {n a b : Nat → Int} (hq : 0 ≤ q ∧ q ≤ 3) (hn : Gs n Wn) (hW : Wn ≤ 75) (ha : Gs a Wa) (hb : Gs b Wb) (sa : Sp (eC q) a n) (sb : Sp (eR q) b n) :
    Gs (bo q n a b) (tsum (bo q n a b) 75) ∧ (0 ≤ tsum (bo q n a b) 75 ∧ tsum (bo q n a b) 75 ≤ Wa) ∧ Sp (eC q) (bo q n a b) b ∧ Sp (eR q) (bo q n a b) a ∧ (0 ≤ bm q n a b ∧ bm q n a b ≤ 150) ∧ len (bo q n a b) ≤ len n := by
  obtain ⟨i1, i2, i3⟩ := bk_all hq hn hW ha hb sa sb (len n) (Nat.le_refl _)
  have f : ∀ i, BF q n a b i := fun i => i1 i (by omega)
  have hl := len_b n
  have g : Gs (bo q n a b) (tsum (bo q n a b) 75) := ⟨fun k => (f k).1.1, fun k => (f k).2.2.2.2.2, bo_z (by omega), rfl⟩
  have ts : ∀ k, tsum (bo q n a b) k ≤ tsum a k := fun k => by
    induction k with
    | zero => exact Int.le_refl _
    | succ k ih =>
      have := (f k).1.2.1
      show tsum (bo q n a b) k + bo q n a b k ≤ tsum a k + a k
      omega
  refine ⟨g, ⟨(g.tb 75).1, by have := ts 75; rw [ha.2.2.2] at this; exact this⟩, ⟨fun k => (f k).1.2.2, fun h k => (f k).2.1 h, fun h k => (f k).2.2.1 h⟩, ⟨fun k => (f k).1.2.1, fun h k => (f k).2.2.2.1 h, fun h k => (f k).2.2.2.2.1 h⟩, ⟨i2.1, by have := i2.2; show bc q n a b (len n) (len n) ≤ 150; omega⟩, ?_⟩
  by_cases c : len (bo q n a b) ≤ len n
  · exact c
  · have := (len_p g (len n)).1 (by omega)
    rw [bo_z (Nat.le_refl _)] at this
    omega
def bkrow (q : Int) (prev : Nat → Nat → Int) (h0 : Nat → Int) : Nat → Nat → Int
  | 0 => h0
  | j + 1 => bo q (prev j) (bkrow q prev h0 j) (prev (j + 1))
/-- the shape of (C - i, R - j), found back -/
def BK (q : Int) (g : Gd) (C R : Nat) : Nat → Nat → Nat → Int
  | 0 => fun j => Sg g C (R - j)
  | i + 1 => bkrow q (BK q g C R i) (Sg g (C - (i + 1)) R)
def BM (q : Int) (g : Gd) (C R i j : Nat) : Int := bm q (BK q g C R i j) (BK q g C R (i + 1) j) (BK q g C R i (j + 1))
theorem BK_s (q : Int) (g : Gd) (C R i j : Nat) : BK q g C R (i + 1) (j + 1) = bo q (BK q g C R i j) (BK q g C R (i + 1) j) (BK q g C R i (j + 1)) := rfl
theorem BK_ok {q : Int} {g : Gd} {C R : Nat} (hq : 0 ≤ q ∧ q ≤ 3) (hv : GV g) (hC : g 0 = C) (hR : g 1 = R) (hf : RimF g C R q) : ∀ i, i ≤ C → (∀ j, j ≤ R → Gs (BK q g C R i j) (tsum (BK q g C R i j) 75) ∧ 0 ≤ tsum (BK q g C R i j) 75 ∧ tsum (BK q g C R i j) 75 ≤ 75) ∧ (∀ j, j < R → Sp (eR q) (BK q g C R i (j + 1)) (BK q g C R i j)) ∧ (0 < i → ∀ j, j ≤ R → Sp (eC q) (BK q g C R i j) (BK q g C R (i - 1) j)) := by
  have v1 := hv.1; have v2 := hv.2.1
  have sgo : ∀ x y : Nat, x ≤ 5 → y ≤ 5 → Gs (Sg g x y) (tsum (Sg g x y) 75) ∧ 0 ≤ tsum (Sg g x y) 75 ∧ tsum (Sg g x y) 75 ≤ 75 := fun x y hx hy => by
    have h1 := (Sg_ok hv hx hy).1
    have h2 := Wg_b hv hx hy
    rw [h1.2.2.2]
    exact ⟨h1, h2⟩
  intro i
  induction i with
  | zero =>
    intro _
    refine ⟨fun j hj => sgo C (R - j) (by omega) (by omega), fun j hj => ?_, fun h => absurd h (by omega)⟩
    have := hf.2 (R - (j + 1)) (by omega)
    rw [show R - (j + 1) + 1 = R - j by omega] at this
    exact this
  | succ i ih =>
    intro hi
    obtain ⟨i1, i2, -⟩ := ih (by omega)
    have key : ∀ j, j ≤ R → (Gs (BK q g C R (i + 1) j) (tsum (BK q g C R (i + 1) j) 75) ∧ 0 ≤ tsum (BK q g C R (i + 1) j) 75 ∧ tsum (BK q g C R (i + 1) j) 75 ≤ 75) ∧ Sp (eC q) (BK q g C R (i + 1) j) (BK q g C R i j) ∧ (0 < j → Sp (eR q) (BK q g C R (i + 1) j) (BK q g C R (i + 1) (j - 1))) := by
      intro j
      induction j with
      | zero =>
        intro _
        refine ⟨sgo (C - (i + 1)) R (by omega) (by omega), ?_, fun h => absurd h (by omega)⟩
        show Sp (eC q) (Sg g (C - (i + 1)) R) (BK q g C R i 0)
        have h1 := hf.1 (C - (i + 1)) (by omega)
        rw [show C - (i + 1) + 1 = C - i by omega] at h1
        cases i with
        | zero => exact h1
        | succ i => exact h1
      | succ j ihj =>
        intro hj
        obtain ⟨k1, k2, k3⟩ := ihj (by omega)
        obtain ⟨b1, b2, b3, b4, -, -⟩ := bk_ok hq (i1 j (by omega)).1 (i1 j (by omega)).2.2 k1.1 (i1 (j + 1) hj).1 k2 (i2 j (by omega))
        rw [BK_s]
        exact ⟨⟨b1, b2.1, Int.le_trans b2.2 k1.2.2⟩, b3, fun _ => b4⟩
    exact ⟨fun j hj => (key j hj).1, fun j hj => (key (j + 1) hj).2.2 (by omega), fun _ j hj => (key j hj).2.1⟩
theorem BM_b {q : Int} {g : Gd} {C R i j : Nat} (hq : 0 ≤ q ∧ q ≤ 3) (hv : GV g) (hC : g 0 = C) (hR : g 1 = R) (hf : RimF g C R q) (hi : i < C) (hj : j < R) : 0 ≤ BM q g C R i j ∧ BM q g C R i j ≤ 150 := by
  obtain ⟨i1, i2, -⟩ := BK_ok hq hv hC hR hf i (by omega)
  obtain ⟨k1, k2, k3⟩ := BK_ok hq hv hC hR hf (i + 1) (by omega)
  exact (bk_ok hq (i1 j (by omega)).1 (i1 j (by omega)).2.2 (k1 j (by omega)).1 (i1 (j + 1) hj).1 (k3 (by omega) j (by omega)) (i2 j hj)).2.2.2.2.1


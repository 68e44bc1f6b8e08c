def wl1 {α0 ρ : Type} (body : α0 → (α0 → Option ρ) → Option ρ) : Nat → α0 → Option ρ
  | 0, _ => none
  | n + 1, a0 => body a0 (wl1 body n)
theorem wl1_W {α0 ρ : Type} {body : α0 → (α0 → Option ρ) → Option ρ} {r : ρ} {n : Nat} {a0 : α0} {P : α0 → Prop} (hf : wl1 body n a0 = some r) (hs : ∀ a0 k, (∀ a0, k a0 = some r → P a0) → body a0 k = some r → P a0) : P a0 := by
  induction n generalizing a0 with
  | zero => cases hf
  | succ n ih => exact hs a0 _ (fun a0 h => ih h) hf
def wl2 {α0 α1 ρ : Type} (body : α0 → α1 → (α0 → α1 → Option ρ) → Option ρ) : Nat → α0 → α1 → Option ρ
  | 0, _, _ => none
  | n + 1, a0, a1 => body a0 a1 (wl2 body n)
theorem wl2_W {α0 α1 ρ : Type} {body : α0 → α1 → (α0 → α1 → Option ρ) → Option ρ} {r : ρ} {n : Nat} {a0 : α0} {a1 : α1} {P : α0 → α1 → Prop} (hf : wl2 body n a0 a1 = some r) (hs : ∀ a0 a1 k, (∀ a0 a1, k a0 a1 = some r → P a0 a1) → body a0 a1 k = some r → P a0 a1) : P a0 a1 := by
  induction n generalizing a0 a1 with
  | zero => cases hf
  | succ n ih => exact hs a0 a1 _ (fun a0 a1 h => ih h) hf
def wl3 {α0 α1 α2 ρ : Type} (body : α0 → α1 → α2 → (α0 → α1 → α2 → Option ρ) → Option ρ) : Nat → α0 → α1 → α2 → Option ρ
  | 0, _, _, _ => none
  | n + 1, a0, a1, a2 => body a0 a1 a2 (wl3 body n)
theorem wl3_W {α0 α1 α2 ρ : Type} {body : α0 → α1 → α2 → (α0 → α1 → α2 → Option ρ) → Option ρ} {r : ρ} {n : Nat} {a0 : α0} {a1 : α1} {a2 : α2} {P : α0 → α1 → α2 → Prop} (hf : wl3 body n a0 a1 a2 = some r) (hs : ∀ a0 a1 a2 k, (∀ a0 a1 a2, k a0 a1 a2 = some r → P a0 a1 a2) → body a0 a1 a2 k = some r → P a0 a1 a2) : P a0 a1 a2 := by
  induction n generalizing a0 a1 a2 with
  | zero => cases hf
  | succ n ih => exact hs a0 a1 a2 _ (fun a0 a1 a2 h => ih h) hf
def wl4 {α0 α1 α2 α3 ρ : Type} (body : α0 → α1 → α2 → α3 → (α0 → α1 → α2 → α3 → Option ρ) → Option ρ) : Nat → α0 → α1 → α2 → α3 → Option ρ
  | 0, _, _, _, _ => none
  | n + 1, a0, a1, a2, a3 => body a0 a1 a2 a3 (wl4 body n)
theorem wl4_W {α0 α1 α2 α3 ρ : Type} {body : α0 → α1 → α2 → α3 → (α0 → α1 → α2 → α3 → Option ρ) → Option ρ} {r : ρ} {n : Nat} {a0 : α0} {a1 : α1} {a2 : α2} {a3 : α3} {P : α0 → α1 → α2 → α3 → Prop} (hf : wl4 body n a0 a1 a2 a3 = some r) (hs : ∀ a0 a1 a2 a3 k, (∀ a0 a1 a2 a3, k a0 a1 a2 a3 = some r → P a0 a1 a2 a3) → body a0 a1 a2 a3 k = some r → P a0 a1 a2 a3) : P a0 a1 a2 a3 := by
  induction n generalizing a0 a1 a2 a3 with
  | zero => cases hf
  | succ n ih => exact hs a0 a1 a2 a3 _ (fun a0 a1 a2 a3 h => ih h) hf
def wl5 {α0 α1 α2 α3 α4 ρ : Type} (body : α0 → α1 → α2 → α3 → α4 → (α0 → α1 → α2 → α3 → α4 → Option ρ) → Option ρ) : Nat → α0 → α1 → α2 → α3 → α4 → Option ρ
  | 0, _, _, _, _, _ => none
  | n + 1, a0, a1, a2, a3, a4 => body a0 a1 a2 a3 a4 (wl5 body n)
theorem wl5_W {α0 α1 α2 α3 α4 ρ : Type} {body : α0 → α1 → α2 → α3 → α4 → (α0 → α1 → α2 → α3 → α4 → Option ρ) → Option ρ} {r : ρ} {n : Nat} {a0 : α0} {a1 : α1} {a2 : α2} {a3 : α3} {a4 : α4} {P : α0 → α1 → α2 → α3 → α4 → Prop} (hf : wl5 body n a0 a1 a2 a3 a4 = some r) (hs : ∀ a0 a1 a2 a3 a4 k, (∀ a0 a1 a2 a3 a4, k a0 a1 a2 a3 a4 = some r → P a0 a1 a2 a3 a4) → body a0 a1 a2 a3 a4 k = some r → P a0 a1 a2 a3 a4) : P a0 a1 a2 a3 a4 := by
  induction n generalizing a0 a1 a2 a3 a4 with
  | zero => cases hf
  | succ n ih => exact hs a0 a1 a2 a3 a4 _ (fun a0 a1 a2 a3 a4 h => ih h) hf
def wl6 {α0 α1 α2 α3 α4 α5 ρ : Type} (body : α0 → α1 → α2 → α3 → α4 → α5 → (α0 → α1 → α2 → α3 → α4 → α5 → Option ρ) → Option ρ) : Nat → α0 → α1 → α2 → α3 → α4 → α5 → Option ρ
  | 0, _, _, _, _, _, _ => none
  | n + 1, a0, a1, a2, a3, a4, a5 => body a0 a1 a2 a3 a4 a5 (wl6 body n)
theorem wl6_W {α0 α1 α2 α3 α4 α5 ρ : Type} {body : α0 → α1 → α2 → α3 → α4 → α5 → (α0 → α1 → α2 → α3 → α4 → α5 → Option ρ) → Option ρ} {r : ρ} {n : Nat} {a0 : α0} {a1 : α1} {a2 : α2} {a3 : α3} {a4 : α4} {a5 : α5} {P : α0 → α1 → α2 → α3 → α4 → α5 → Prop} (hf : wl6 body n a0 a1 a2 a3 a4 a5 = some r) (hs : ∀ a0 a1 a2 a3 a4 a5 k, (∀ a0 a1 a2 a3 a4 a5, k a0 a1 a2 a3 a4 a5 = some r → P a0 a1 a2 a3 a4 a5) → body a0 a1 a2 a3 a4 a5 k = some r → P a0 a1 a2 a3 a4 a5) : P a0 a1 a2 a3 a4 a5 := by
  induction n generalizing a0 a1 a2 a3 a4 a5 with
  | zero => cases hf
  | succ n ih => exact hs a0 a1 a2 a3 a4 a5 _ (fun a0 a1 a2 a3 a4 a5 h => ih h) hf
def wl7 {α0 α1 α2 α3 α4 α5 α6 ρ : Type} (body : α0 → α1 → α2 → α3 → α4 → α5 → α6 → (α0 → α1 → α2 → α3 → α4 → α5 → α6 → Option ρ) → Option ρ) : Nat → α0 → α1 → α2 → α3 → α4 → α5 → α6 → Option ρ
  | 0, _, _, _, _, _, _, _ => none
  | n + 1, a0, a1, a2, a3, a4, a5, a6 => body a0 a1 a2 a3 a4 a5 a6 (wl7 body n)
theorem wl7_W {α0 α1 α2 α3 α4 α5 α6 ρ : Type} {body : α0 → α1 → α2 → α3 → α4 → α5 → α6 → (α0 → α1 → α2 → α3 → α4 → α5 → α6 → Option ρ) → Option ρ} {r : ρ} {n : Nat} {a0 : α0} {a1 : α1} {a2 : α2} {a3 : α3} {a4 : α4} {a5 : α5} {a6 : α6} {P : α0 → α1 → α2 → α3 → α4 → α5 → α6 → Prop} (hf : wl7 body n a0 a1 a2 a3 a4 a5 a6 = some r) (hs : ∀ a0 a1 a2 a3 a4 a5 a6 k, (∀ a0 a1 a2 a3 a4 a5 a6, k a0 a1 a2 a3 a4 a5 a6 = some r → P a0 a1 a2 a3 a4 a5 a6) → body a0 a1 a2 a3 a4 a5 a6 k = some r → P a0 a1 a2 a3 a4 a5 a6) : P a0 a1 a2 a3 a4 a5 a6 := by
  induction n generalizing a0 a1 a2 a3 a4 a5 a6 with
  | zero => cases hf
  | succ n ih => exact hs a0 a1 a2 a3 a4 a5 a6 _ (fun a0 a1 a2 a3 a4 a5 a6 h => ih h) hf
def wl8 {α0 α1 α2 α3 α4 α5 α6 α7 ρ : Type} (body : α0 → α1 → α2 → α3 → α4 → α5 → α6 → α7 → (α0 → α1 → α2 → α3 → α4 → α5 → α6 → α7 → Option ρ) → Option ρ) : Nat → α0 → α1 → α2 → α3 → α4 → α5 → α6 → α7 → Option ρ
  | 0, _, _, _, _, _, _, _, _ => none
  | n + 1, a0, a1, a2, a3, a4, a5, a6, a7 => body a0 a1 a2 a3 a4 a5 a6 a7 (wl8 body n)
theorem wl8_W {α0 α1 α2 α3 α4 α5 α6 α7 ρ : Type} {body : α0 → α1 → α2 → α3 → α4 → α5 → α6 → α7 → (α0 → α1 → α2 → α3 → α4 → α5 → α6 → α7 → Option ρ) → Option ρ} {r : ρ} {n : Nat} {a0 : α0} {a1 : α1} {a2 : α2} {a3 : α3} {a4 : α4} {a5 : α5} {a6 : α6} {a7 : α7} {P : α0 → α1 → α2 → α3 → α4 → α5 → α6 → α7 → Prop} (hf : wl8 body n a0 a1 a2 a3 a4 a5 a6 a7 = some r) (hs : ∀ a0 a1 a2 a3 a4 a5 a6 a7 k, (∀ a0 a1 a2 a3 a4 a5 a6 a7, k a0 a1 a2 a3 a4 a5 a6 a7 = some r → P a0 a1 a2 a3 a4 a5 a6 a7) → body a0 a1 a2 a3 a4 a5 a6 a7 k = some r → P a0 a1 a2 a3 a4 a5 a6 a7) : P a0 a1 a2 a3 a4 a5 a6 a7 := by
  induction n generalizing a0 a1 a2 a3 a4 a5 a6 a7 with
  | zero => cases hf
  | succ n ih => exact hs a0 a1 a2 a3 a4 a5 a6 a7 _ (fun a0 a1 a2 a3 a4 a5 a6 a7 h => ih h) hf
def wl9 {α0 α1 α2 α3 α4 α5 α6 α7 α8 ρ : Type} (body : α0 → α1 → α2 → α3 → α4 → α5 → α6 → α7 → α8 → (α0 → α1 → α2 → α3 → α4 → α5 → α6 → α7 → α8 → Option ρ) → Option ρ) : Nat → α0 → α1 → α2 → α3 → α4 → α5 → α6 → α7 → α8 → Option ρ
  | 0, _, _, _, _, _, _, _, _, _ => none
  | n + 1, a0, a1, a2, a3, a4, a5, a6, a7, a8 => body a0 a1 a2 a3 a4 a5 a6 a7 a8 (wl9 body n)
theorem wl9_W {α0 α1 α2 α3 α4 α5 α6 α7 α8 ρ : Type} {body : α0 → α1 → α2 → α3 → α4 → α5 → α6 → α7 → α8 → (α0 → α1 → α2 → α3 → α4 → α5 → α6 → α7 → α8 → Option ρ) → Option ρ} {r : ρ} {n : Nat} {a0 : α0} {a1 : α1} {a2 : α2} {a3 : α3} {a4 : α4} {a5 : α5} {a6 : α6} {a7 : α7} {a8 : α8} {P : α0 → α1 → α2 → α3 → α4 → α5 → α6 → α7 → α8 → Prop} (hf : wl9 body n a0 a1 a2 a3 a4 a5 a6 a7 a8 = some r) (hs : ∀ a0 a1 a2 a3 a4 a5 a6 a7 a8 k, (∀ a0 a1 a2 a3 a4 a5 a6 a7 a8, k a0 a1 a2 a3 a4 a5 a6 a7 a8 = some r → P a0 a1 a2 a3 a4 a5 a6 a7 a8) → body a0 a1 a2 a3 a4 a5 a6 a7 a8 k = some r → P a0 a1 a2 a3 a4 a5 a6 a7 a8) : P a0 a1 a2 a3 a4 a5 a6 a7 a8 := by
  induction n generalizing a0 a1 a2 a3 a4 a5 a6 a7 a8 with
  | zero => cases hf
  | succ n ih => exact hs a0 a1 a2 a3 a4 a5 a6 a7 a8 _ (fun a0 a1 a2 a3 a4 a5 a6 a7 a8 h => ih h) hf
def wl10 {α0 α1 α2 α3 α4 α5 α6 α7 α8 α9 ρ : Type} (body : α0 → α1 → α2 → α3 → α4 → α5 → α6 → α7 → α8 → α9 → (α0 → α1 → α2 → α3 → α4 → α5 → α6 → α7 → α8 → α9 → Option ρ) → Option ρ) : Nat → α0 → α1 → α2 → α3 → α4 → α5 → α6 → α7 → α8 → α9 → Option ρ
  | 0, _, _, _, _, _, _, _, _, _, _ => none
  | n + 1, a0, a1, a2, a3, a4, a5, a6, a7, a8, a9 => body a0 a1 a2 a3 a4 a5 a6 a7 a8 a9 (wl10 body n)
theorem wl10_W {α0 α1 α2 α3 α4 α5 α6 α7 α8 α9 ρ : Type} {body : α0 → α1 → α2 → α3 → α4 → α5 → α6 → α7 → α8 → α9 → (α0 → α1 → α2 → α3 → α4 → α5 → α6 → α7 → α8 → α9 → Option ρ) → Option ρ} {r : ρ} {n : Nat} {a0 : α0} {a1 : α1} {a2 : α2} {a3 : α3} {a4 : α4} {a5 : α5} {a6 : α6} {a7 : α7} {a8 : α8} {a9 : α9} {P : α0 → α1 → α2 → α3 → α4 → α5 → α6 → α7 → α8 → α9 → Prop} (hf : wl10 body n a0 a1 a2 a3 a4 a5 a6 a7 a8 a9 = some r) (hs : ∀ a0 a1 a2 a3 a4 a5 a6 a7 a8 a9 k, (∀ a0 a1 a2 a3 a4 a5 a6 a7 a8 a9, k a0 a1 a2 a3 a4 a5 a6 a7 a8 a9 = some r → P a0 a1 a2 a3 a4 a5 a6 a7 a8 a9) → body a0 a1 a2 a3 a4 a5 a6 a7 a8 a9 k = some r → P a0 a1 a2 a3 a4 a5 a6 a7 a8 a9) : P a0 a1 a2 a3 a4 a5 a6 a7 a8 a9 := by
  induction n generalizing a0 a1 a2 a3 a4 a5 a6 a7 a8 a9 with
  | zero => cases hf
  | succ n ih => exact hs a0 a1 a2 a3 a4 a5 a6 a7 a8 a9 _ (fun a0 a1 a2 a3 a4 a5 a6 a7 a8 a9 h => ih h) hf
/-! what the class's methods do, as functions: the words of them -/
def fu : Nat := 3000
def lt {α β : Type} (a : α) (f : α → β) : β := f a
def lt2 {α α2 β : Type} (a : α) (b : α2) (f : α → α2 → β) : β := f a b
def lt3 {α α2 α3 β : Type} (a : α) (b : α2) (c : α3) (f : α → α2 → α3 → β) : β := f a b c
def jn {κ β : Type} (K : κ) (f : κ → β) : β := f K
def ix {ρ : Type} (i : Int32) (n : Nat) (K : Nat → Option ρ) : Option ρ := if 0 ≤ i.toInt ∧ i.toInt < (n : Int) then K i.toNatClampNeg else none
def ck {ρ : Type} (n r P : Nat) (K : Option ρ) : Option ρ := if r < n ∧ kd r = P then K else none
def rf {ρ : Type} (n : Nat) (o : Option Nat) (P : Nat) (K : Nat → Option ρ) : Option ρ := match o with
  | some r => ck n r P (K r)
  | none => none
def c1 {α ρ : Type} (x : Option α) (K : α → Option ρ) : Option ρ := match x with
  | some a => K a
  | none => none
def c2 {α ρ : Type} (x : Option (α × Wd)) (K : α → Wd → Option ρ) : Option ρ := match x with
  | some a => K a.1 a.2
  | none => none
def nz {ρ : Type} (y : Int32) (K : Option ρ) : Option ρ := if y = 0 then none else K
def nzl {ρ : Type} (y : Int64) (K : Option ρ) : Option ρ := if y = 0 then none else K
def zb {ρ : Type} (y : Int32) (K : Option ρ) : Option ρ := if y = 0 ∨ y = 1 then K else none
theorem lt_e {α β : Type} {a x : α} {f : α → β} {y : β} (h : x = a) (hf : lt a f = y) : f x = y := by rw [h]; exact hf
theorem jn_W {κ ρ : Type} {K : κ} {f : κ → Option ρ} {r : ρ} {P : κ → Prop} {G : Prop} (hf : jn K f = some r) (hK : P K) (go : ∀ j, P j → f j = some r → G) : G := go K hK hf
theorem mg_W {α ρ : Type} {E : α} {f : α → Option ρ} {r : ρ} {P : α → Prop} {G : Prop} (hf : lt E f = some r) (hK : ∀ x, f x = some r → P x) (go : (∀ x, x = E → P x) → G) : G := go (fun x hx => hK x (by rw [hx]; exact hf))
theorem mg_W2 {α α2 ρ : Type} {E : α} {E2 : α2} {f : α → α2 → Option ρ} {r : ρ} {P : α → α2 → Prop} {G : Prop} (hf : lt2 E E2 f = some r) (hK : ∀ x y, f x y = some r → P x y) (go : (∀ x, x = E → ∀ y, y = E2 → P x y) → G) : G := go (fun x hx y hy => hK x y (by rw [hx, hy]; exact hf))
theorem mg_W3 {α α2 α3 ρ : Type} {E : α} {E2 : α2} {E3 : α3} {f : α → α2 → α3 → Option ρ} {r : ρ} {P : α → α2 → α3 → Prop} {G : Prop} (hf : lt3 E E2 E3 f = some r) (hK : ∀ x y z, f x y z = some r → P x y z) (go : (∀ x, x = E → ∀ y, y = E2 → ∀ z, z = E3 → P x y z) → G) : G := go (fun x hx y hy z hz => hK x y z (by rw [hx, hy, hz]; exact hf))
theorem if_t {c : Prop} [Decidable c] {α : Type} {A B x : α} (hc : c) (h : ite c A B = x) : A = x := (if_pos hc).symm.trans h
theorem if_f {c : Prop} [Decidable c] {α : Type} {A B x : α} (hc : ¬ c) (h : ite c A B = x) : B = x := (if_neg hc).symm.trans h
theorem ix_e {ρ : Type} {i : Int32} {n : Nat} {K : Nat → Option ρ} {r : ρ} (h : ix i n K = some r) : vp_in i n ∧ K i.toNatClampNeg = some r := by
  unfold ix at h
  split at h
  · rename_i hc; exact ⟨vp_in_iff.mpr hc, h⟩
  · cases h
theorem ck_e {ρ : Type} {n a P : Nat} {K : Option ρ} {r : ρ} (h : ck n a P K = some r) : (a < n ∧ kd a = P) ∧ K = some r := by
  unfold ck at h
  split at h
  · rename_i hc; exact ⟨hc, h⟩
  · cases h
theorem rf_e {ρ : Type} {n P : Nat} {o : Option Nat} {K : Nat → Option ρ} {r : ρ} (h : rf n o P K = some r) : ∃ x, o = some x ∧ (x < n ∧ kd x = P) ∧ K x = some r := by
  unfold rf at h
  split at h
  · rename_i x; obtain ⟨h1, h2⟩ := ck_e h; exact ⟨x, rfl, h1, h2⟩
  · cases h
theorem c1_e {α ρ : Type} {x : Option α} {K : α → Option ρ} {r : ρ} (h : c1 x K = some r) : ∃ a, x = some a ∧ K a = some r := by
  unfold c1 at h
  split at h
  · rename_i a; exact ⟨a, rfl, h⟩
  · cases h
theorem c2_e {α ρ : Type} {x : Option (α × Wd)} {K : α → Wd → Option ρ} {r : ρ} (h : c2 x K = some r) : ∃ a w, x = some (a, w) ∧ K a w = some r := by
  unfold c2 at h
  split at h
  · rename_i a; exact ⟨a.1, a.2, rfl, h⟩
  · cases h
theorem nz_e {ρ : Type} {y : Int32} {K : Option ρ} {r : ρ} (h : nz y K = some r) : ¬ y = 0 ∧ K = some r := by
  unfold nz at h
  split at h
  · cases h
  · rename_i hc; exact ⟨hc, h⟩
theorem nzl_e {ρ : Type} {y : Int64} {K : Option ρ} {r : ρ} (h : nzl y K = some r) : ¬ y = 0 ∧ K = some r := by
  unfold nzl at h
  split at h
  · cases h
  · rename_i hc; exact ⟨hc, h⟩
theorem zb_e {ρ : Type} {y : Int32} {K : Option ρ} {r : ρ} (h : zb y K = some r) : (y = 0 ∨ y = 1) ∧ K = some r := by
  unfold zb at h
  split at h
  · rename_i hc; exact ⟨hc, h⟩
  · cases h
theorem ck_n {ρ : Type} {n0 n a P : Nat} {K : Option ρ} {r : ρ} (hN : n0 ≤ n) (h : ck n0 a P K = some r) : (a < n ∧ kd a = P) ∧ K = some r := by
  obtain ⟨h1, h2⟩ := ck_e h
  exact ⟨⟨Nat.lt_of_lt_of_le h1.1 hN, h1.2⟩, h2⟩
theorem kd_b {t : Nat} (h : kd t < 99) : t < 143 := by
  by_cases c : t < 143
  · exact c
  · unfold kd at h
    rw [List.getD_eq_getElem?_getD, List.getElem?_eq_none (by show 143 ≤ t; omega)] at h
    simp at h
theorem so_e {α : Type} {a b : α} (h : some a = some b) : a = b := Option.some.inj h
theorem so2_e {α β : Type} {a c : α} {b d : β} (h : some (a, b) = some (c, d)) : a = c ∧ b = d := by
  have := Option.some.inj h
  exact ⟨congrArg Prod.fst this, congrArg Prod.snd this⟩
section CB
variable {p : Program} {l : Launch} {e : Env} {R : Room} {s : State} {m : MethodId} {args : Array Value} {below : List Frame} {meth : Method} {c : Code} {H : Heap} {locs : List Loc} {cells slots : Nat} {Q : State → Prop}
variable {cc : ByteArray} {pc : Nat} {ls : Array Slot} {rest : List Value} {D : DD} {own : String} {B n : Nat} {w : Wd}
theorem q_gr {ρ : Type} {z : ρ} {K : Nat → Option ρ} (X : Cx p s m args c cc own D) (h : Hp B D n w s H locs) {t ci j idx P n0 : Nat} (ht : t < n ∧ kd t = ci) (hf : FK own idx ci j true) (hdg : decode cc pc = .ok (.getfield idx, 3)) (hN : n0 ≤ n) (hr : rf n0 (w.2 t j) P K = some z)
    (kk : ∀ x, (x < n ∧ kd x = P) → K x = some z → W p l e R s m args below meth c H locs cells slots Q (F0 m (pc + 3) ls (.ref (B + x) :: rest))) : W p l e R s m args below meth c H locs cells slots Q (F0 m pc ls (.ref (B + t) :: rest)) := by
  obtain ⟨x, h1, h2, h3⟩ := rf_e hr
  exact r_gr X h ht hf h1 hdg (kk x ⟨Nat.lt_of_lt_of_le h2.1 hN, h2.2⟩ h3)
theorem q_pi {ρ : Type} {z : ρ} {K : Wd → Option ρ} (X : Cx p s m args c cc own D) (h : Hp B D n w s H locs) {t ci j idx : Nat} {ty : FieldType} (ht : t < n ∧ kd t = ci) (hf : FK own idx ci j false) (hp : PKf ci j false ty) {x : Int32} (hnv : narrow ty (.int x) = .int x) (hfv : fits ty (.int x) = true) (hdg : decode cc pc = .ok (.putfield idx, 3)) (hr : lt (upI w t j x) K = some z)
    (kk : ∀ (w1 : Wd) (H1 : Heap) (locs1 : List Loc), K w1 = some z → Hp B D n w1 s H1 locs1 → W p l e R s m args below meth c H1 locs1 cells slots Q (F0 m (pc + 3) ls rest)) : W p l e R s m args below meth c H locs cells slots Q (F0 m pc ls (.int x :: .ref (B + t) :: rest)) :=
  r_pi X h ht hf hp hnv hfv hdg (fun H1 l1 h1 => kk _ H1 l1 hr h1)
theorem q_ald {ρ : Type} {z : ρ} {K : Nat → Option ρ} (X : Cx p s m args c cc own D) (h : Hp B D n w s H locs) {a : Nat} (ha : a < n ∧ kd a = 9) {i : Int32} (hdg : decode cc pc = .ok (.iaload, 1)) (hr : ix i (ln a) K = some z)
    (kk : K i.toNatClampNeg = some z → W p l e R s m args below meth c H locs cells slots Q (F0 m (pc + 1) ls (.int (w.1 a i.toNatClampNeg) :: rest))) : W p l e R s m args below meth c H locs cells slots Q (F0 m pc ls (.int i :: .ref (B + a) :: rest)) :=
  r_ald X h ha (ix_e hr).1 hdg (kk (ix_e hr).2)
theorem q_ast {ρ : Type} {z : ρ} {K : Wd → Option ρ} (X : Cx p s m args c cc own D) (h : Hp B D n w s H locs) {a : Nat} (ha : a < n ∧ kd a = 9) {i x : Int32} (hdg : decode cc pc = .ok (.iastore, 1)) (hr : ix i (ln a) (fun j => lt (upI w a j x) K) = some z)
    (kk : ∀ (w1 : Wd) (H1 : Heap) (locs1 : List Loc), K w1 = some z → Hp B D n w1 s H1 locs1 → W p l e R s m args below meth c H1 locs1 cells slots Q (F0 m (pc + 1) ls rest)) : W p l e R s m args below meth c H locs cells slots Q (F0 m pc ls (.int x :: .int i :: .ref (B + a) :: rest)) :=
  r_ast X h ha (ix_e hr).1 hdg (fun H1 l1 h1 => kk _ H1 l1 (ix_e hr).2 h1)
theorem q_aald {ρ : Type} {z : ρ} {K : Nat → Option ρ} (X : Cx p s m args c cc own D) (h : Hp B D n w s H locs) {a ka P n0 : Nat} (ha : a < n ∧ kd a = ka) (hka : 10 ≤ ka ∧ ka < 14) {i : Int32} (hdg : decode cc pc = .ok (.aaload, 1)) (hN : n0 ≤ n) (hr : ix i (ln a) (fun j => rf n0 (w.2 a j) P K) = some z)
    (kk : ∀ x, (x < n ∧ kd x = P) → K x = some z → W p l e R s m args below meth c H locs cells slots Q (F0 m (pc + 1) ls (.ref (B + x) :: rest))) : W p l e R s m args below meth c H locs cells slots Q (F0 m pc ls (.int i :: .ref (B + a) :: rest)) := by
  obtain ⟨h0, hr⟩ := ix_e hr
  obtain ⟨x, h1, h2, h3⟩ := rf_e hr
  exact r_aald X h ha hka h0 h1 hdg (kk x ⟨Nat.lt_of_lt_of_le h2.1 hN, h2.2⟩ h3)
theorem q_aast {ρ : Type} {z : ρ} {K : Wd → Option ρ} (X : Cx p s m args c cc own D) (h : Hp B D n w s H locs) {a ka t ci : Nat} (ha : a < n ∧ kd a = ka) (hka : 10 ≤ ka ∧ ka < 13) (ht : t < n ∧ kd t = ci) {q : vw_C} (hq : CI ci q) (hel : aty ka = .object q.1) {i : Int32} (hdg : decode cc pc = .ok (.aastore, 1)) (hr : ix i (ln a) (fun j => lt (upR w a j t) K) = some z)
    (kk : ∀ (w1 : Wd) (H1 : Heap) (locs1 : List Loc), K w1 = some z → Hp B D n w1 s H1 locs1 → W p l e R s m args below meth c H1 locs1 cells slots Q (F0 m (pc + 1) ls rest)) : W p l e R s m args below meth c H locs cells slots Q (F0 m pc ls (.ref (B + t) :: .int i :: .ref (B + a) :: rest)) :=
  r_aast X h ha hka ht hq hel (ix_e hr).1 hdg (fun H1 l1 h1 => kk _ H1 l1 (ix_e hr).2 h1)
theorem q_V {nL : Nat} (X : Cx p s m args c cc own D) (hml : c.maxLocals = nL) (h : Hp B D n w s H locs) (o : Option Value) {y : MethodName} {bytes : ByteArray} {maxL fr lo np t ci idx : Nat} {ret : Option FieldType} {As : List Value} {w' : Wd} {st0 : List Value}
    (hM : Ct l y bytes maxL ret fr lo 0 0 B D (.ref (B + t) :: As) n w o n w') (hF : CFv y bytes maxL ret np) (hl : Cond.methodLink own idx y ∈ AL) (ht : t < n ∧ kd t = ci) {q : vw_C} (hq : CI ci q) (hcl : q.1 = y.cls) (hn : As.length = np) (hls : ls.size = nL) (hst : st0 = As.reverse ++ .ref (B + t) :: rest) (hW : (rest.map fun v => v.category).sum ≤ 8) (hR : fr + 1 ≤ R.frames ∧ 8 + (maxL + 11) + lo ≤ R.locals) (hc : cells ≤ R.cells ∧ slots ≤ R.slots) (hdg : decode cc pc = .ok (.invokevirtual idx, 3))
    {st1 : List Value} (h1 : o.toList ++ rest = st1) (kk : ∀ (H1 : Heap) (locs1 : List Loc), Hp B D n w' s H1 locs1 → W p l e R s m args below meth c H1 locs1 cells slots Q (F0 m (pc + 3) ls st1)) : W p l e R s m args below meth c H locs cells slots Q (F0 m pc ls st0) := by
  subst h1
  exact kV X hml h hM hF hl ht hq hcl hn hls hst hW hR hc hdg kk
theorem q_S {nL : Nat} (X : Cx p s m args c cc own D) (hml : c.maxLocals = nL) (h : Hp B D n w s H locs) (o : Option Value) {y : MethodName} {bytes : ByteArray} {maxL fr lo np idx : Nat} {ret : Option FieldType} {As : List Value} {w' : Wd} {st0 : List Value}
    (hM : Ct l y bytes maxL ret fr lo 0 0 B D As n w o n w') (hF : CFs y bytes maxL ret np) (hl : Cond.methodLink own idx y ∈ AL) (hn : As.length = np) (hls : ls.size = nL) (hst : st0 = As.reverse ++ rest) (hW : (rest.map fun v => v.category).sum ≤ 8) (hR : fr + 1 ≤ R.frames ∧ 8 + (maxL + 11) + lo ≤ R.locals) (hc : cells ≤ R.cells ∧ slots ≤ R.slots) (hdg : decode cc pc = .ok (.invokestatic idx, 3))
    {st1 : List Value} (h1 : o.toList ++ rest = st1) (kk : ∀ (H1 : Heap) (locs1 : List Loc), Hp B D n w' s H1 locs1 → W p l e R s m args below meth c H1 locs1 cells slots Q (F0 m (pc + 3) ls st1)) : W p l e R s m args below meth c H locs cells slots Q (F0 m pc ls st0) := by
  subst h1
  exact kS X hml h hM hF hl hn hls hst hW hR hc hdg kk
theorem q_SX {nL : Nat} (X : Cx p s m args c cc own D) (hml : c.maxLocals = nL) (h : Hp B D n w s H locs) {b L : Nat} {xs : Nat → Int32} (hX : va_X b L xs s s.heap) (hbl : b < s.heap.size) (hbA : ¬ (fun q : Nat => B ≤ q) b) (o : Option Value) {y : MethodName} {bytes : ByteArray} {maxL fr lo np idx : Nat} {ret : Option FieldType} {As : List Value} {w' : Wd} {st0 : List Value}
    (hM : CtX l y bytes maxL ret fr lo 0 0 B D b L xs As n w o n w') (hF : CFs y bytes maxL ret np) (hl : Cond.methodLink own idx y ∈ AL) (hn : As.length = np) (hls : ls.size = nL) (hst : st0 = As.reverse ++ rest) (hW : (rest.map fun v => v.category).sum ≤ 8) (hR : fr + 1 ≤ R.frames ∧ 8 + (maxL + 11) + lo ≤ R.locals) (hc : cells ≤ R.cells ∧ slots ≤ R.slots) (hdg : decode cc pc = .ok (.invokestatic idx, 3))
    {st1 : List Value} (h1 : o.toList ++ rest = st1) (kk : ∀ (H1 : Heap) (locs1 : List Loc), Hp B D n w' s H1 locs1 → W p l e R s m args below meth c H1 locs1 cells slots Q (F0 m (pc + 3) ls st1)) : W p l e R s m args below meth c H locs cells slots Q (F0 m pc ls st0) := by
  subst h1
  exact kSX X hml h hX hbl hbA hM hF hl hn hls hst hW hR hc hdg kk
theorem km_1 : Cond.static Lib.Math.max.name ∈ AL := al_mem 293 (by decide +kernel) rfl
theorem km_2 : Cond.code Lib.Math.max.name Lib.Math.max.code 2 (some .int) ∈ AL := al_mem 294 (by decide +kernel) rfl
theorem km_3 : Cond.static Lib.Math.min.name ∈ AL := al_mem 278 (by decide +kernel) rfl
theorem km_4 : Cond.code Lib.Math.min.name Lib.Math.min.code 2 (some .int) ∈ AL := al_mem 279 (by decide +kernel) rfl
theorem q_max {nL idx : Nat} (X : Cx p s m args c cc own D) (hml : c.maxLocals = nL) (hls : ls.size = nL) (hl : Cond.methodLink own idx Lib.Math.max.name ∈ AL) (hW : (rest.map fun v => v.category).sum ≤ 8) (hR : 1 ≤ R.frames ∧ 21 ≤ R.locals) (hc : cells ≤ R.cells ∧ slots ≤ R.slots) {x y : Int32} (hdg : decode cc pc = .ok (.invokestatic idx, 3))
    (kk : W p l e R s m args below meth c H locs cells slots Q (F0 m (pc + 3) ls (.int (if x < y then y else x) :: rest))) : W p l e R s m args below meth c H locs cells slots Q (F0 m pc ls (.int y :: .int x :: rest)) :=
  va_mmax X.1 X.2.1 (hml.trans hls.symm) X.2.2.1 (X.2.2.2.1 _ hl) (X.2.2.2.1 _ km_1) (X.2.2.2.1 _ k_15) (X.2.2.2.1 _ km_2) hR.1 (by omega) hc.1 hc.2 hdg kk
theorem q_min {nL idx : Nat} (X : Cx p s m args c cc own D) (hml : c.maxLocals = nL) (hls : ls.size = nL) (hl : Cond.methodLink own idx Lib.Math.min.name ∈ AL) (hW : (rest.map fun v => v.category).sum ≤ 8) (hR : 1 ≤ R.frames ∧ 21 ≤ R.locals) (hc : cells ≤ R.cells ∧ slots ≤ R.slots) {x y : Int32} (hdg : decode cc pc = .ok (.invokestatic idx, 3))
    (kk : W p l e R s m args below meth c H locs cells slots Q (F0 m (pc + 3) ls (.int (if y < x then y else x) :: rest))) : W p l e R s m args below meth c H locs cells slots Q (F0 m pc ls (.int y :: .int x :: rest)) :=
  va_mmin X.1 X.2.1 (hml.trans hls.symm) X.2.2.1 (X.2.2.2.1 _ hl) (X.2.2.2.1 _ km_3) (X.2.2.2.1 _ k_15) (X.2.2.2.1 _ km_4) hR.1 (by omega) hc.1 hc.2 hdg kk
theorem q_top2 {x : Int32} {v : Value} (k : ∀ y : Int32, y = x → W p l e R s m args below meth c H locs cells slots Q (F0 m pc ls (v :: .int y :: rest))) : W p l e R s m args below meth c H locs cells slots Q (F0 m pc ls (v :: .int x :: rest)) := k x rfl
end CB

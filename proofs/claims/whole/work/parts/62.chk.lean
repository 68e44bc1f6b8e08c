/-! marked grids: the finite check -/
def bt (S x : Nat) : Nat := S / 2 ^ x % 2
def rl (kd : Nat) (w : List Nat) (a x : Nat) : Bool := cond (Nat.beq kd 1) (Nat.ble (w.getD x 0 + 1) (w.getD a 0)) (Nat.ble (w.getD a 0 + 1) (w.getD x 0))
/-- the longest chain that ends at column x, of columns below a before it -/
def mxa (kd : Nat) (w : List Nat) (S acc x : Nat) : Nat → Nat
  | 0 => 1
  | a + 1 => fc (mxa kd w S acc x a) (fun m => cond (Nat.beq (bt S a) 1 && (rl kd w a x && Nat.ble (m + 1) (dg acc a + 1))) (dg acc a + 1) m)
def agl (kd : Nat) (w : List Nat) (S : Nat) : Nat → Nat
  | 0 => 0
  | x + 1 => fc (agl kd w S x) (fun acc => acc + 8 ^ x * cond (Nat.beq (bt S x) 0) 0 (mxa kd w S acc x x))
def nmost (acc : Nat) : Nat → Nat
  | 0 => 0
  | x + 1 => fc (nmost acc x) (fun m => cond (Nat.ble (dg acc x) m) m (dg acc x))
def needs (kd : Nat) (w : List Nat) (S C : Nat) : Nat := fc (agl kd w S C) (fun acc => nmost acc C)
def pcs (S : Nat) : Nat → Nat
  | 0 => 0
  | x + 1 => pcs S x + bt S x
def vld (w : List Nat) (S : Nat) : Nat → Bool
  | 0 => true
  | x + 1 => vld w S x && (Nat.beq (bt S x) 0 || Nat.ble 1 (w.getD x 0))
def P1 (c : Nat) : Nat → Nat
  | 0 => 0
  | k + 1 => P1 c k + dg c k
def cab (c i : Nat) : Nat → Nat
  | 0 => 0
  | j + 1 => cab c i j + cond (Nat.ble (i + 1) (dg c j)) 1 0
def P3 (c : Nat) : Nat → Nat
  | 0 => 0
  | k + 1 => P3 c k + cab c k 5
def PP (kd c k : Nat) : Nat := cond (Nat.beq kd 1) (P1 c k) (P3 c k)
def vals (kd : Nat) (w : List Nat) (C : Nat) : Nat → List Nat
  | 0 => []
  | S + 1 => cond (vld w S C) (fc (8 * needs kd w S C + pcs S C) (fun v => v :: vals kd w C S)) (vals kd w C S)
def flN {α : Type} : List Nat → (List Nat → α) → α
  | [], k => k []
  | a :: as, k => fc a (fun a => flN as (fun as => k (a :: as)))
theorem flN_e {α : Type} : ∀ (l : List Nat) (k : List Nat → α), flN l k = k l
  | [], _ => rfl
  | a :: as, k => by
    show fc a (fun a => flN as (fun as => k (a :: as))) = _
    rw [fc_e, flN_e as]
def allL (f : Nat → Bool) : List Nat → Bool
  | [] => true
  | a :: as => f a && allL f as
def anyL (f : Nat → Bool) : List Nat → Bool
  | [] => false
  | a :: as => f a || anyL f as
def chkK (kd : Nat) (w : List Nat) (C c : Nat) : Bool := flN [PP kd c 0, PP kd c 1, PP kd c 2, PP kd c 3, PP kd c 4, PP kd c 5] (fun P => flN (vals kd w C (2 ^ C)) (fun L => allL (fun v => Nat.ble (v % 8) (P.getD (v / 8) 0)) L && allL (fun k => anyL (fun v => Nat.ble (v / 8) k && Nat.beq (v % 8) (P.getD k 0)) L) [1, 2, 3, 4, 5]))
def chkW (R : Nat) (w : List Nat) : Bool := fc (fin5 0 R w) (fun c => Nat.beq (fin5 1 R w) c && (Nat.beq (fin5 2 R w) c && (Nat.beq (fin5 3 R w) c && (chkK 1 w w.length c && chkK 3 w w.length c))))
def allB (f : Nat → Bool) : Nat → Bool
  | 0 => true
  | n + 1 => f n && allB f n
def chkA (R : Nat) : Nat → List Nat → Bool
  | 0, w => chkW R w
  | n + 1, w => allB (fun d => (cond (Nat.beq d 0) false (anyL (fun a => Nat.beq a d) w)) || flN (w ++ [d]) (fun w' => chkA R n w')) (R + 1)
theorem allB_i {f : Nat → Bool} : ∀ {n : Nat}, (∀ d, d < n → f d = true) → allB f n = true
  | 0, _ => rfl
  | n + 1, h => by
    show (f n && allB f n) = true
    rw [h n (Nat.lt_succ_self n), allB_i (fun d hd => h d (Nat.lt_succ_of_lt hd))]
    rfl
theorem chkA_i {R n : Nat} {w : List Nat} (h : ∀ d, d < R + 1 → (Nat.beq d 0 = false ∧ anyL (fun a => Nat.beq a d) w = true) ∨ chkA R n (w ++ [d]) = true) : chkA R (n + 1) w = true :=
  allB_i (fun d hd => by
    show ((cond (Nat.beq d 0) false (anyL (fun a => Nat.beq a d) w)) || flN (w ++ [d]) (fun w' => chkA R n w')) = true
    obtain ⟨h1, h2⟩ | h := h d hd
    · rw [h1, h2]; rfl
    · rw [flN_e, h, Bool.or_true])
theorem ck_0_0_ : chkA 0 0 [] = true := by decide +kernel
theorem ck_0_1_ : chkA 0 1 [] = true := by decide +kernel
theorem ck_0_2_ : chkA 0 2 [] = true := by decide +kernel
theorem ck_0_3_ : chkA 0 3 [] = true := by decide +kernel
theorem ck_0_4_ : chkA 0 4 [] = true := by decide +kernel
theorem ck_0_5_ : chkA 0 5 [] = true := by decide +kernel
theorem ck_1_0_ : chkA 1 0 [] = true := by decide +kernel
theorem ck_1_1_ : chkA 1 1 [] = true := by decide +kernel
theorem ck_1_2_ : chkA 1 2 [] = true := by decide +kernel
theorem ck_1_3_ : chkA 1 3 [] = true := by decide +kernel
theorem ck_1_4_ : chkA 1 4 [] = true := by decide +kernel
theorem ck_1_5_ : chkA 1 5 [] = true := by decide +kernel
theorem ck_2_0_ : chkA 2 0 [] = true := by decide +kernel
theorem ck_2_1_ : chkA 2 1 [] = true := by decide +kernel
theorem ck_2_2_ : chkA 2 2 [] = true := by decide +kernel
theorem ck_2_3_ : chkA 2 3 [] = true := by decide +kernel
theorem ck_2_4_ : chkA 2 4 [] = true := by decide +kernel
theorem ck_2_5_ : chkA 2 5 [] = true := by decide +kernel
theorem ck_3_0_ : chkA 3 0 [] = true := by decide +kernel
theorem ck_3_1_ : chkA 3 1 [] = true := by decide +kernel
theorem ck_3_2_ : chkA 3 2 [] = true := by decide +kernel
theorem ck_3_3_ : chkA 3 3 [] = true := by decide +kernel
theorem ck_3_4_ : chkA 3 4 [] = true := by decide +kernel
theorem ck_3_4_0 : chkA 3 4 [0] = true := by decide +kernel
theorem ck_3_4_1 : chkA 3 4 [1] = true := by decide +kernel
theorem ck_3_4_2 : chkA 3 4 [2] = true := by decide +kernel
theorem ck_3_4_3 : chkA 3 4 [3] = true := by decide +kernel
theorem ck_3_5_ : chkA 3 5 [] = true := chkA_i (fun d hd => by
  obtain rfl | rfl | rfl | rfl : d = 0 ∨ d = 1 ∨ d = 2 ∨ d = 3 := by omega
  · exact Or.inr ck_3_4_0
  · exact Or.inr ck_3_4_1
  · exact Or.inr ck_3_4_2
  · exact Or.inr ck_3_4_3)
theorem ck_4_0_ : chkA 4 0 [] = true := by decide +kernel
theorem ck_4_1_ : chkA 4 1 [] = true := by decide +kernel
theorem ck_4_2_ : chkA 4 2 [] = true := by decide +kernel
theorem ck_4_3_ : chkA 4 3 [] = true := by decide +kernel
theorem ck_4_3_0 : chkA 4 3 [0] = true := by decide +kernel
theorem ck_4_3_1 : chkA 4 3 [1] = true := by decide +kernel
theorem ck_4_3_2 : chkA 4 3 [2] = true := by decide +kernel
theorem ck_4_3_3 : chkA 4 3 [3] = true := by decide +kernel
theorem ck_4_3_4 : chkA 4 3 [4] = true := by decide +kernel
theorem ck_4_4_ : chkA 4 4 [] = true := chkA_i (fun d hd => by
  obtain rfl | rfl | rfl | rfl | rfl : d = 0 ∨ d = 1 ∨ d = 2 ∨ d = 3 ∨ d = 4 := by omega
  · exact Or.inr ck_4_3_0
  · exact Or.inr ck_4_3_1
  · exact Or.inr ck_4_3_2
  · exact Or.inr ck_4_3_3
  · exact Or.inr ck_4_3_4)
theorem ck_4_3_00 : chkA 4 3 [0, 0] = true := by decide +kernel
theorem ck_4_3_01 : chkA 4 3 [0, 1] = true := by decide +kernel
theorem ck_4_3_02 : chkA 4 3 [0, 2] = true := by decide +kernel
theorem ck_4_3_03 : chkA 4 3 [0, 3] = true := by decide +kernel
theorem ck_4_3_04 : chkA 4 3 [0, 4] = true := by decide +kernel
theorem ck_4_4_0 : chkA 4 4 [0] = true := chkA_i (fun d hd => by
  obtain rfl | rfl | rfl | rfl | rfl : d = 0 ∨ d = 1 ∨ d = 2 ∨ d = 3 ∨ d = 4 := by omega
  · exact Or.inr ck_4_3_00
  · exact Or.inr ck_4_3_01
  · exact Or.inr ck_4_3_02
  · exact Or.inr ck_4_3_03
  · exact Or.inr ck_4_3_04)
theorem ck_4_4_1 : chkA 4 4 [1] = true := by decide +kernel
theorem ck_4_4_2 : chkA 4 4 [2] = true := by decide +kernel
theorem ck_4_4_3 : chkA 4 4 [3] = true := by decide +kernel
theorem ck_4_4_4 : chkA 4 4 [4] = true := by decide +kernel
theorem ck_4_5_ : chkA 4 5 [] = true := chkA_i (fun d hd => by
  obtain rfl | rfl | rfl | rfl | rfl : d = 0 ∨ d = 1 ∨ d = 2 ∨ d = 3 ∨ d = 4 := by omega
  · exact Or.inr ck_4_4_0
  · exact Or.inr ck_4_4_1
  · exact Or.inr ck_4_4_2
  · exact Or.inr ck_4_4_3
  · exact Or.inr ck_4_4_4)
theorem ck_5_0_ : chkA 5 0 [] = true := by decide +kernel
theorem ck_5_1_ : chkA 5 1 [] = true := by decide +kernel
theorem ck_5_2_ : chkA 5 2 [] = true := by decide +kernel
theorem ck_5_3_ : chkA 5 3 [] = true := by decide +kernel
theorem ck_5_3_0 : chkA 5 3 [0] = true := by decide +kernel
theorem ck_5_3_1 : chkA 5 3 [1] = true := by decide +kernel
theorem ck_5_3_2 : chkA 5 3 [2] = true := by decide +kernel
theorem ck_5_3_3 : chkA 5 3 [3] = true := by decide +kernel
theorem ck_5_3_4 : chkA 5 3 [4] = true := by decide +kernel
theorem ck_5_3_5 : chkA 5 3 [5] = true := by decide +kernel
theorem ck_5_4_ : chkA 5 4 [] = true := chkA_i (fun d hd => by
  obtain rfl | rfl | rfl | rfl | rfl | rfl : d = 0 ∨ d = 1 ∨ d = 2 ∨ d = 3 ∨ d = 4 ∨ d = 5 := by omega
  · exact Or.inr ck_5_3_0
  · exact Or.inr ck_5_3_1
  · exact Or.inr ck_5_3_2
  · exact Or.inr ck_5_3_3
  · exact Or.inr ck_5_3_4
  · exact Or.inr ck_5_3_5)
theorem ck_5_2_000 : chkA 5 2 [0, 0, 0] = true := by decide +kernel
theorem ck_5_2_001 : chkA 5 2 [0, 0, 1] = true := by decide +kernel
theorem ck_5_2_002 : chkA 5 2 [0, 0, 2] = true := by decide +kernel
theorem ck_5_2_003 : chkA 5 2 [0, 0, 3] = true := by decide +kernel
theorem ck_5_2_004 : chkA 5 2 [0, 0, 4] = true := by decide +kernel
theorem ck_5_2_005 : chkA 5 2 [0, 0, 5] = true := by decide +kernel
theorem ck_5_3_00 : chkA 5 3 [0, 0] = true := chkA_i (fun d hd => by
  obtain rfl | rfl | rfl | rfl | rfl | rfl : d = 0 ∨ d = 1 ∨ d = 2 ∨ d = 3 ∨ d = 4 ∨ d = 5 := by omega
  · exact Or.inr ck_5_2_000
  · exact Or.inr ck_5_2_001
  · exact Or.inr ck_5_2_002
  · exact Or.inr ck_5_2_003
  · exact Or.inr ck_5_2_004
  · exact Or.inr ck_5_2_005)
theorem ck_5_3_01 : chkA 5 3 [0, 1] = true := by decide +kernel
theorem ck_5_3_02 : chkA 5 3 [0, 2] = true := by decide +kernel
theorem ck_5_3_03 : chkA 5 3 [0, 3] = true := by decide +kernel
theorem ck_5_3_04 : chkA 5 3 [0, 4] = true := by decide +kernel
theorem ck_5_3_05 : chkA 5 3 [0, 5] = true := by decide +kernel
theorem ck_5_4_0 : chkA 5 4 [0] = true := chkA_i (fun d hd => by
  obtain rfl | rfl | rfl | rfl | rfl | rfl : d = 0 ∨ d = 1 ∨ d = 2 ∨ d = 3 ∨ d = 4 ∨ d = 5 := by omega
  · exact Or.inr ck_5_3_00
  · exact Or.inr ck_5_3_01
  · exact Or.inr ck_5_3_02
  · exact Or.inr ck_5_3_03
  · exact Or.inr ck_5_3_04
  · exact Or.inr ck_5_3_05)
theorem ck_5_3_10 : chkA 5 3 [1, 0] = true := by decide +kernel
theorem ck_5_3_12 : chkA 5 3 [1, 2] = true := by decide +kernel
theorem ck_5_3_13 : chkA 5 3 [1, 3] = true := by decide +kernel
theorem ck_5_3_14 : chkA 5 3 [1, 4] = true := by decide +kernel
theorem ck_5_3_15 : chkA 5 3 [1, 5] = true := by decide +kernel
theorem ck_5_4_1 : chkA 5 4 [1] = true := chkA_i (fun d hd => by
  obtain rfl | rfl | rfl | rfl | rfl | rfl : d = 0 ∨ d = 1 ∨ d = 2 ∨ d = 3 ∨ d = 4 ∨ d = 5 := by omega
  · exact Or.inr ck_5_3_10
  · exact Or.inl ⟨by decide, by decide⟩
  · exact Or.inr ck_5_3_12
  · exact Or.inr ck_5_3_13
  · exact Or.inr ck_5_3_14
  · exact Or.inr ck_5_3_15)
theorem ck_5_3_20 : chkA 5 3 [2, 0] = true := by decide +kernel
theorem ck_5_3_21 : chkA 5 3 [2, 1] = true := by decide +kernel
theorem ck_5_3_23 : chkA 5 3 [2, 3] = true := by decide +kernel
theorem ck_5_3_24 : chkA 5 3 [2, 4] = true := by decide +kernel
theorem ck_5_3_25 : chkA 5 3 [2, 5] = true := by decide +kernel
theorem ck_5_4_2 : chkA 5 4 [2] = true := chkA_i (fun d hd => by
  obtain rfl | rfl | rfl | rfl | rfl | rfl : d = 0 ∨ d = 1 ∨ d = 2 ∨ d = 3 ∨ d = 4 ∨ d = 5 := by omega
  · exact Or.inr ck_5_3_20
  · exact Or.inr ck_5_3_21
  · exact Or.inl ⟨by decide, by decide⟩
  · exact Or.inr ck_5_3_23
  · exact Or.inr ck_5_3_24
  · exact Or.inr ck_5_3_25)
theorem ck_5_3_30 : chkA 5 3 [3, 0] = true := by decide +kernel
theorem ck_5_3_31 : chkA 5 3 [3, 1] = true := by decide +kernel
theorem ck_5_3_32 : chkA 5 3 [3, 2] = true := by decide +kernel
theorem ck_5_3_34 : chkA 5 3 [3, 4] = true := by decide +kernel
theorem ck_5_3_35 : chkA 5 3 [3, 5] = true := by decide +kernel
theorem ck_5_4_3 : chkA 5 4 [3] = true := chkA_i (fun d hd => by
  obtain rfl | rfl | rfl | rfl | rfl | rfl : d = 0 ∨ d = 1 ∨ d = 2 ∨ d = 3 ∨ d = 4 ∨ d = 5 := by omega
  · exact Or.inr ck_5_3_30
  · exact Or.inr ck_5_3_31
  · exact Or.inr ck_5_3_32
  · exact Or.inl ⟨by decide, by decide⟩
  · exact Or.inr ck_5_3_34
  · exact Or.inr ck_5_3_35)
theorem ck_5_3_40 : chkA 5 3 [4, 0] = true := by decide +kernel
theorem ck_5_3_41 : chkA 5 3 [4, 1] = true := by decide +kernel
theorem ck_5_3_42 : chkA 5 3 [4, 2] = true := by decide +kernel
theorem ck_5_3_43 : chkA 5 3 [4, 3] = true := by decide +kernel
theorem ck_5_3_45 : chkA 5 3 [4, 5] = true := by decide +kernel
theorem ck_5_4_4 : chkA 5 4 [4] = true := chkA_i (fun d hd => by
  obtain rfl | rfl | rfl | rfl | rfl | rfl : d = 0 ∨ d = 1 ∨ d = 2 ∨ d = 3 ∨ d = 4 ∨ d = 5 := by omega
  · exact Or.inr ck_5_3_40
  · exact Or.inr ck_5_3_41
  · exact Or.inr ck_5_3_42
  · exact Or.inr ck_5_3_43
  · exact Or.inl ⟨by decide, by decide⟩
  · exact Or.inr ck_5_3_45)
theorem ck_5_3_50 : chkA 5 3 [5, 0] = true := by decide +kernel
theorem ck_5_3_51 : chkA 5 3 [5, 1] = true := by decide +kernel
theorem ck_5_3_52 : chkA 5 3 [5, 2] = true := by decide +kernel
theorem ck_5_3_53 : chkA 5 3 [5, 3] = true := by decide +kernel
theorem ck_5_3_54 : chkA 5 3 [5, 4] = true := by decide +kernel
theorem ck_5_4_5 : chkA 5 4 [5] = true := chkA_i (fun d hd => by
  obtain rfl | rfl | rfl | rfl | rfl | rfl : d = 0 ∨ d = 1 ∨ d = 2 ∨ d = 3 ∨ d = 4 ∨ d = 5 := by omega
  · exact Or.inr ck_5_3_50
  · exact Or.inr ck_5_3_51
  · exact Or.inr ck_5_3_52
  · exact Or.inr ck_5_3_53
  · exact Or.inr ck_5_3_54
  · exact Or.inl ⟨by decide, by decide⟩)
theorem ck_5_5_ : chkA 5 5 [] = true := chkA_i (fun d hd => by
  obtain rfl | rfl | rfl | rfl | rfl | rfl : d = 0 ∨ d = 1 ∨ d = 2 ∨ d = 3 ∨ d = 4 ∨ d = 5 := by omega
  · exact Or.inr ck_5_4_0
  · exact Or.inr ck_5_4_1
  · exact Or.inr ck_5_4_2
  · exact Or.inr ck_5_4_3
  · exact Or.inr ck_5_4_4
  · exact Or.inr ck_5_4_5)
theorem chk_all : ∀ R, R < 6 → ∀ C, C < 6 → chkA R C [] = true := fun R hR C hC => by
  obtain rfl | rfl | rfl | rfl | rfl | rfl : R = 0 ∨ R = 1 ∨ R = 2 ∨ R = 3 ∨ R = 4 ∨ R = 5 := by omega
  · obtain rfl | rfl | rfl | rfl | rfl | rfl : C = 0 ∨ C = 1 ∨ C = 2 ∨ C = 3 ∨ C = 4 ∨ C = 5 := by omega
    · exact ck_0_0_
    · exact ck_0_1_
    · exact ck_0_2_
    · exact ck_0_3_
    · exact ck_0_4_
    · exact ck_0_5_
  · obtain rfl | rfl | rfl | rfl | rfl | rfl : C = 0 ∨ C = 1 ∨ C = 2 ∨ C = 3 ∨ C = 4 ∨ C = 5 := by omega
    · exact ck_1_0_
    · exact ck_1_1_
    · exact ck_1_2_
    · exact ck_1_3_
    · exact ck_1_4_
    · exact ck_1_5_
  · obtain rfl | rfl | rfl | rfl | rfl | rfl : C = 0 ∨ C = 1 ∨ C = 2 ∨ C = 3 ∨ C = 4 ∨ C = 5 := by omega
    · exact ck_2_0_
    · exact ck_2_1_
    · exact ck_2_2_
    · exact ck_2_3_
    · exact ck_2_4_
    · exact ck_2_5_
  · obtain rfl | rfl | rfl | rfl | rfl | rfl : C = 0 ∨ C = 1 ∨ C = 2 ∨ C = 3 ∨ C = 4 ∨ C = 5 := by omega
    · exact ck_3_0_
    · exact ck_3_1_
    · exact ck_3_2_
    · exact ck_3_3_
    · exact ck_3_4_
    · exact ck_3_5_
  · obtain rfl | rfl | rfl | rfl | rfl | rfl : C = 0 ∨ C = 1 ∨ C = 2 ∨ C = 3 ∨ C = 4 ∨ C = 5 := by omega
    · exact ck_4_0_
    · exact ck_4_1_
    · exact ck_4_2_
    · exact ck_4_3_
    · exact ck_4_4_
    · exact ck_4_5_
  · obtain rfl | rfl | rfl | rfl | rfl | rfl : C = 0 ∨ C = 1 ∨ C = 2 ∨ C = 3 ∨ C = 4 ∨ C = 5 := by omega
    · exact ck_5_0_
    · exact ck_5_1_
    · exact ck_5_2_
    · exact ck_5_3_
    · exact ck_5_4_
    · exact ck_5_5_

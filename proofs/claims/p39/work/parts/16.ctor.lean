theorem k_obj1 : Cond.instanceMethod Lib.objectInit ∈ AL := al_mem 22 (by decide +kernel) rfl
theorem k_obj2 : Cond.code Lib.objectInit ⟨#[0xb1]⟩ 1 none ∈ AL := al_mem 23 (by decide +kernel) rfl
/-! makings: a new cell is the next place; its kind is looked up -/
theorem up_r {t a b k : Nat} (h : t < a ∧ kd t = k) (hab : a ≤ b) : t < b ∧ kd t = k := ⟨Nat.lt_of_lt_of_le h.1 hab, h.2⟩
def mk {ρ : Type} (N top k len : Nat) (K : Option ρ) : Option ρ := if N + 1 ≤ top ∧ kd N = k ∧ ln N = len then K else none
def mk2 {ρ : Type} (N top n len : Nat) (K : Option ρ) : Option ρ := if N + 1 + n ≤ top ∧ kd N = 13 ∧ ln N = n ∧ (∀ i, i < n → kd (N + 1 + i) = 9 ∧ ln (N + 1 + i) = len) then K else none
def clr2 (w : Wd) (N n : Nat) : Wd := (fun a b => if N ≤ a ∧ a < N + 1 + n then 0 else w.1 a b, fun a b => if a = N then (if b < n then some (N + 1 + b) else none) else if N ≤ a ∧ a < N + 1 + n then none else w.2 a b)
def ckn {ρ : Type} (N top : Nat) (K : Option ρ) : Option ρ := if N = top then K else none
theorem mk_e {ρ : Type} {N top k len : Nat} {K : Option ρ} {r : ρ} (h : mk N top k len K = some r) : (N + 1 ≤ top ∧ kd N = k ∧ ln N = len) ∧ K = some r := by
  unfold mk at h
  split at h
  · rename_i hc; exact ⟨hc, h⟩
  · cases h
theorem ckn_e {ρ : Type} {N top : Nat} {K : Option ρ} {r : ρ} (h : ckn N top K = some r) : N = top ∧ K = some r := by
  unfold ckn at h
  split at h
  · rename_i hc; exact ⟨hc, h⟩
  · cases h
def CIn (ci : Nat) (q : vw_C) (ty0 : Nat → FieldType) : Prop := (∀ j, j < q.2.2 → parseFieldDescriptor (q.2.1 j).2.2.1 = some (ty0 j)) ∧ (∀ j, j < q.2.2 → defaultValue (ty0 j) = if isRf ci j = true then .null else .int 0) ∧ q.2.2 ≤ 2880
theorem vl_clr {B : Nat} {w : Wd} {N j : Nat} : vl B (clr w N) N j = if isRf (kd N) j = true then .null else .int 0 := by
  unfold vl clr
  by_cases h : isRf (kd N) j = true
  · rw [if_pos h, if_pos h]; simp [va_rf]
  · rw [if_neg h, if_neg h]; simp
section CT
variable {p : Program} {l : Launch} {e : Env} {R : Room} {s : State} {m : MethodId} {args : Array Value} {below : List Frame} {meth : Method} {c : Code} {H : Heap} {locs : List Loc} {cells slots : Nat} {Q : State → Prop}
variable {cc : ByteArray} {pc : Nat} {ls : Array Slot} {rest : List Value} {D : DD} {own : String} {B n0 N : Nat} {w : Wd}
theorem Hp.push {B : Nat} {D : DD} {n : Nat} {w w1 : Wd} {s : State} {H H1 : Heap} {locs : List Loc} {n1 : Nat} (h : Hp B D n w s H locs) (hR : Rep B D n1 w1 H1) (z : H.size ≤ H1.size) (oq : ∀ q : Nat, q < H.size → H1[q]? = H[q]?) : Hp B D n1 w1 s H1 locs :=
  ⟨hR, Nat.le_trans h.2.1 z, fun q h1 h2 => (oq q (Nat.lt_of_lt_of_le h1 h.2.1)).trans (h.2.2.1 q h1 h2), h.2.2.2⟩
theorem r_new {ρ : Type} {z : ρ} {K : Nat → Wd → Option ρ} (X : Cx p s m args c cc own D) (h : Hp B D N w s H locs) {ci idx top : Nat} {q : vw_C} (hq : CI ci q) {ty0 : Nat → FieldType} (hn : CIn ci q ty0) (hcl : Cond.classLink own idx q.1 ∈ AL) (hins : Cond.instantiable q.1 q.2.2 ∈ AL) (hini : Cond.initialized q.1 ∈ AL) (h0 : n0 ≤ N) (hR : top ≤ n0 + R.cells ∧ 2880 * (top - n0) ≤ R.slots) (hdg : decode cc pc = .ok (.new idx, 3)) (hr : mk N top ci 0 (lt2 (N + 1) (clr w N) K) = some z)
    (kk : ∀ (N1 : Nat) (w1 : Wd) (H1 : Heap), N1 = N + 1 → (N < N1 ∧ kd N = ci) → K N1 w1 = some z → Hp B D N1 w1 s H1 locs → W p l e R s m args below meth c H1 locs (N1 - n0) (2880 * (N1 - n0)) Q (F0 m (pc + 3) ls (.ref (B + N) :: rest))) : W p l e R s m args below meth c H locs (N - n0) (2880 * (N - n0)) Q (F0 m pc ls rest) := by
  obtain ⟨⟨ht, hk, hl⟩, hr⟩ := mk_e hr
  have hX := X
  obtain ⟨hx, hb, hown, hts, hK, -⟩ := X
  obtain ⟨hc, hnf, h9, hin, -⟩ := hq
  have hKn := hK.1 ci _ hc
  refine W.newcK hx hb hown (hts _ hcl) (hts _ hins) (hts _ hini) rfl hdg (by omega) (by have := hn.2.2; omega) hKn.2.1 h.1.1 fun H1 kC hkC e1 z1 o1 => ?_
  have hsz : H.size = B + N := h.1.1
  refine W.widen (k := N + 1 - n0) (n := 2880 * (N + 1 - n0)) (by omega) (by have := hn.2.2; omega) ?_
  refine kk _ _ H1 rfl ⟨Nat.lt_succ_self _, hk⟩ hr (h.push (h.1.push (by omega) (fun x hx2 => o1 x hx2) ⟨fun _ => ?_, fun a1 _ => by rw [hk] at a1; omega⟩) (by omega) (fun x hx2 => o1 x (by omega)))
  rw [hk, hnf]
  refine (u_born ty0 hts hin hKn hkC e1 hn.1).to (fun j hj => ?_)
  rw [vl_clr, hk]
  exact hn.2.1 j hj
theorem r_newa {ρ : Type} {z : ρ} {K : Nat → Wd → Option ρ} (X : Cx p s m args c cc own D) (h : Hp B D N w s H locs) {top len : Nat} {x : Int32} (hw : Cond.arrayClass .int ∈ AL) (hx0 : ¬ x < 0) (hxl : x.toNatClampNeg = len) (hlen : len ≤ 2880) (h0 : n0 ≤ N) (hR : top ≤ n0 + R.cells ∧ 2880 * (top - n0) ≤ R.slots) (hdg : decode cc pc = .ok (.newarray .int, 2)) (hr : mk N top 9 len (lt2 (N + 1) (clr w N) K) = some z)
    (kk : ∀ (N1 : Nat) (w1 : Wd) (H1 : Heap), N1 = N + 1 → (N < N1 ∧ kd N = 9) → K N1 w1 = some z → Hp B D N1 w1 s H1 locs → W p l e R s m args below meth c H1 locs (N1 - n0) (2880 * (N1 - n0)) Q (F0 m (pc + 2) ls (.ref (B + N) :: rest))) : W p l e R s m args below meth c H locs (N - n0) (2880 * (N - n0)) Q (F0 m pc ls (.int x :: rest)) := by
  obtain ⟨⟨ht, hk, hl⟩, hr⟩ := mk_e hr
  obtain ⟨hx, hb, hown, hts, hK, hA, -⟩ := X
  have hsz : H.size = B + N := h.1.1
  refine va_newaK (atype := .int) hx hb (hts _ hw) rfl hdg rfl hx0 hxl (by show len * 4 ≤ _; omega) (by omega) (by omega) h.1.1 fun H1 cA e1 z1 o1 _ hcn => ?_
  have hcA : cA = D.2 9 := Option.some.inj (hcn.symm.trans (hA 9 (by decide) (by decide)).2)
  refine W.widen (k := N + 1 - n0) (n := 2880 * (N + 1 - n0)) (by omega) (by omega) ?_
  refine kk _ _ H1 rfl ⟨Nat.lt_succ_self _, hk⟩ hr (h.push (h.1.push (by omega) (fun x hx2 => o1 x hx2) ⟨fun a1 => by rw [hk] at a1; omega, fun _ _ => ?_⟩) (by omega) (fun x hx2 => o1 x (by omega)))
  rw [e1, hcA, hk, hl]
  refine congrArg (fun f => some (arrV (D.2 9) len f)) (funext fun j => ?_)
  rw [vl_clr, hk]; rfl
theorem r_newq {ρ : Type} {z : ρ} {K : Nat → Wd → Option ρ} (X : Cx p s m args c cc own D) (h : Hp B D N w s H locs) {top len ka idx : Nat} {C : String} {x : Int32} (hcl : Cond.classLink own idx C ∈ AL) (hka : 10 ≤ ka ∧ ka < 13) (hel : aty ka = .object C) (hao : va_AO C s) (hx0 : ¬ x < 0) (hxl : x.toNatClampNeg = len) (hlen : len ≤ 2880) (h0 : n0 ≤ N) (hR : top ≤ n0 + R.cells ∧ 2880 * (top - n0) ≤ R.slots) (hdg : decode cc pc = .ok (.anewarray idx, 3)) (hr : mk N top ka len (lt2 (N + 1) (clr w N) K) = some z)
    (kk : ∀ (N1 : Nat) (w1 : Wd) (H1 : Heap), N1 = N + 1 → (N < N1 ∧ kd N = ka) → K N1 w1 = some z → Hp B D N1 w1 s H1 locs → W p l e R s m args below meth c H1 locs (N1 - n0) (2880 * (N1 - n0)) Q (F0 m (pc + 3) ls (.ref (B + N) :: rest))) : W p l e R s m args below meth c H locs (N - n0) (2880 * (N - n0)) Q (F0 m pc ls (.int x :: rest)) := by
  obtain ⟨⟨ht, hk, hl⟩, hr2⟩ := mk_e hr
  obtain ⟨hx, hb, hown, hts, hK, hA, -⟩ := X
  have hsz : H.size = B + N := h.1.1
  subst hxl
  refine W.anew hx hb hown (hts _ hcl) (va_AO.use hao) rfl hdg rfl hx0 (by omega) (by omega) (by omega) fun cA kA comp f1 f2 f3 f4 => ?_
  generalize hH1 : H.push ({ cls := cA, slots := Array.replicate x.toNatClampNeg .null, vm := .none } : Cell) = H1
  have z1 : H1.size = H.size + 1 := by rw [← hH1, Array.size_push]
  have e1 : H1[H.size]? = some (arrV cA x.toNatClampNeg (fun _ => .null)) := by rw [← hH1, Array.getElem?_push_size, ← arrV_new]
  have o1 : ∀ q : Nat, q < H.size → H1[q]? = H[q]? := fun q hq => by rw [← hH1, Array.getElem?_push, if_neg (Nat.ne_of_lt hq)]
  have hRA := (hA ka (by omega) (by omega)).2
  rw [hel] at hRA
  obtain ⟨kA2, comp2, -, -, -, g4⟩ := hRA
  have hcA : cA = D.2 ka := Option.some.inj (f1.symm.trans g4)
  refine W.widen (k := N + 1 - n0) (n := 2880 * (N + 1 - n0)) (by omega) (by omega) ?_
  rw [hsz]
  refine kk _ _ H1 rfl ⟨Nat.lt_succ_self _, hk⟩ hr2 (h.push (h.1.push (by omega) (fun x hx2 => o1 x (by omega)) ⟨fun a1 => by rw [hk] at a1; omega, fun _ _ => ?_⟩) (by omega) (fun x hx2 => o1 x (by omega)))
  rw [← hsz, e1, hcA, hk, hl]
  refine congrArg (fun f => some (arrV (D.2 ka) x.toNatClampNeg f)) (funext fun j => ?_)
  have hrf : isRf ka j = true := by
    unfold isRf
    rw [if_neg (by omega)]
    exact decide_eq_true hka.1
  rw [vl_clr, hk, if_pos hrf]
theorem q_prF {ρ : Type} {z : ρ} {K : Wd → Option ρ} (X : Cx p s m args c cc own D) (h : Hp B D N w s H locs) {t ci j idx : Nat} {ty : FieldType} (ht : t < N ∧ kd t = ci) (hf : FK own idx ci j true) (hp : PKf ci j true ty) (hin2 : meth.name = "<init>") (hcl : ∀ q : vw_C, vwCl[ci]? = some q → q.1 = own) {x : Nat} (hnv : ∀ a : Nat, narrow ty (.ref a) = .ref a ∧ fits ty (.ref a) = true) (hdg : decode cc pc = .ok (.putfield idx, 3)) (hr : lt (upR w t j x) K = some z)
    (kk : ∀ (w1 : Wd) (H1 : Heap) (locs1 : List Loc), K w1 = some z → Hp B D N w1 s H1 locs1 → W p l e R s m args below meth c H1 locs1 cells slots Q (F0 m (pc + 3) ls rest)) : W p l e R s m args below meth c H locs cells slots Q (F0 m pc ls (.ref (B + x) :: .ref (B + t) :: rest)) :=
  r_prF X h ht hf hp hin2 hcl hnv hdg (fun H1 l1 h1 => kk _ H1 l1 hr h1)
theorem q_I {ρ : Type} {z : ρ} {K : Nat → Wd → Option ρ} {nL : Nat} (X : Cx p s m args c cc own D) (hml : c.maxLocals = nL) (h : Hp B D N w s H locs) {y : MethodName} {bytes : ByteArray} {maxL fr lo cX t idx : Nat} {w' : Wd} (hy1 : y.name = "<init>")
    (hM : Ct l y bytes maxL none fr lo cX (2880 * cX) B D [.ref (B + t)] N w none (N + cX) w') (hF : CFi y bytes maxL none 0) (hl : Cond.methodLink own idx y ∈ AL) (hls : ls.size = nL) (hW : (rest.map fun v => v.category).sum ≤ 8) (hR : fr + 1 ≤ R.frames ∧ 8 + (maxL + 11) + lo ≤ R.locals) (h0 : n0 ≤ N) {top : Nat} (hR2 : top ≤ n0 + R.cells ∧ 2880 * (top - n0) ≤ R.slots) (hdg : decode cc pc = .ok (.invokespecial idx, 3)) (hr : (if N + cX ≤ top then lt2 (N + cX) w' K else none) = some z)
    (kk : ∀ (N1 : Nat) (w1 : Wd) (H1 : Heap) (locs1 : List Loc), N1 = N + cX → K N1 w1 = some z → Hp B D N1 w1 s H1 locs1 → W p l e R s m args below meth c H1 locs1 (N1 - n0) (2880 * (N1 - n0)) Q (F0 m (pc + 3) ls rest)) : W p l e R s m args below meth c H locs (N - n0) (2880 * (N - n0)) Q (F0 m pc ls (.ref (B + t) :: rest)) := by
  by_cases htop : N + cX ≤ top
  · have hr := (if_pos htop).symm.trans hr
    exact kI X hml h (As := []) hy1 hM hF hl rfl hls rfl hW hR ⟨by omega, by omega⟩ hdg (fun H1 l1 h1 => W.widen (k := N + cX - n0) (n := 2880 * (N + cX - n0)) (by omega) (by omega) (kk _ _ H1 l1 rfl hr h1))
  · rw [if_neg htop] at hr; cases hr
theorem q_obj (X : Cx p s m args c cc own D) {nL idx : Nat} (hml : c.maxLocals = nL) (hls : ls.size = nL) (hl : Cond.methodLink own idx Lib.objectInit ∈ AL) (hR : 1 ≤ R.frames ∧ 20 ≤ R.locals) (hdg : decode cc pc = .ok (.invokespecial idx, 3)) {a : Nat}
    (kk : W p l e R s m args below meth c H locs cells slots Q (F0 m (pc + 3) ls [])) : W p l e R s m args below meth c H locs cells slots Q (F0 m pc ls [.ref a]) :=
  W.objInit X.1 X.2.1 X.2.2.1 (X.2.2.2.1 _ hl) (X.2.2.2.1 _ k_obj1) (X.2.2.2.1 _ k_obj2) rfl (by rw [hml]; exact hls) rfl hdg hR.1 (by show 2 * 0 + 0 + 12 ≤ _; omega) (W.eq rfl kk)
end CT

theorem cin_0 : CIn 0 ("GrowthGrid$Cells", TX0, 4) tyX0 := ⟨tyX0_ok, by decide +kernel, by decide⟩
theorem cin_1 : CIn 1 ("GrowthGrid$Corners", TX1, 6) tyX1 := ⟨tyX1_ok, by decide +kernel, by decide⟩
theorem cin_2 : CIn 2 ("GrowthGrid$Deeds", TX2, 3) tyX2 := ⟨tyX2_ok, by decide +kernel, by decide⟩
theorem cin_3 : CIn 3 ("GrowthGrid$Holder", TX3, 4) tyX3 := ⟨tyX3_ok, by decide +kernel, by decide⟩
theorem cin_4 : CIn 4 ("GrowthGrid$RowSearch", TX4, 1) tyX4 := ⟨tyX4_ok, by decide +kernel, by decide⟩
theorem cin_5 : CIn 5 ("GrowthGrid$Shape", TX5, 3) tyX5 := ⟨tyX5_ok, by decide +kernel, by decide⟩
theorem cin_6 : CIn 6 ("GrowthGrid$Tape", TX6, 2) tyX6 := ⟨tyX6_ok, by decide +kernel, by decide⟩
theorem cin_7 : CIn 7 ("GrowthGrid", TX7, 10) tyX7 := ⟨tyX7_ok, by decide +kernel, by decide⟩
def f_X5_init (t n : Nat) (w : Wd) : Option Wd := mk n (n + 1) 9 75 (lt2 (n + 1) (clr w n) (fun n1 w2 => lt (upR w2 t 0 n) (fun w5 => lt (upI w5 t 1 (0 : Int32)) (fun w6 => lt (upI w6 t 2 (0 : Int32)) (fun w7 => ckn n1 (n + 1) (some w7))))))
set_option maxHeartbeats 4000000 in
set_option maxRecDepth 100000 in
theorem m_X5_init (l : Launch) (B : Nat) (D : DD) {t n : Nat} {w w' : Wd} (ht : t < n ∧ kd t = 5) (hf : f_X5_init t n w = some w') : Ct l yX5_init cX5_init 1 none 1 20 1 2880 B D [.ref (B + t)] n w none (n + 1) w' := by
  refine m_of (by decide) (Nat.le_of_ble_eq_true rfl) (fun p e s m args below meth c X hml hr hlk hin H locs hh ls hl => ?_)
  have hx := X.1
  have hb := X.2.1
  have hl : lv_has ls 1 [(0, .ref (B + t))] := hl
  have hRR : n + 1 ≤ n + (rmk 1 20 1 2880).cells ∧ 2880 * (n + 1 - n) ≤ (rmk 1 20 1 2880).slots := ⟨Nat.le_refl _, by show 2880 * (n + 1 - n) ≤ 2880; omega⟩
  refine W.widen (k := n - n) (n := 2880 * (n - n)) (Nat.zero_le _) (Nat.zero_le _) ?_
  unfold f_X5_init at hf
  refine lv_aload_n hx hb dX5_init_0 rfl (lv_at hl 0 rfl) ?_
  refine q_obj X hml hl.1 k_64 ⟨Nat.le_of_ble_eq_true rfl, Nat.le_of_ble_eq_true rfl⟩ dX5_init_1 ?_
  refine lv_aload_n hx hb dX5_init_4 rfl (lv_at hl 0 rfl) ?_
  refine lv_bipush (v := (75 : Int32)) hx hb dX5_init_5 (by decide) ?_
  refine r_newa (n0 := n) (len := 75) X hh k_51 (by decide) (by decide) (by decide) (by omega) hRR dX5_init_7 hf (fun n1 w2 H e3 h4 hf hh => ?_)
  refine q_prF X hh (up_r ht (by omega)) fk_X5_9 pk_5_0 hin (fun q h => by cases h; rfl) (fun _ => ⟨rfl, rfl⟩) dX5_init_9 hf (fun w5 H locs hf hh => ?_)
  refine lv_aload_n hx hb dX5_init_12 rfl (lv_at hl 0 rfl) ?_
  refine lv_iconst (v := (0 : Int32)) hx hb dX5_init_13 (by decide) ?_
  refine q_pi X hh (up_r ht (by omega)) fk_X5_15 pk_5_1 rfl rfl dX5_init_14 hf (fun w6 H locs hf hh => ?_)
  refine lv_aload_n hx hb dX5_init_17 rfl (lv_at hl 0 rfl) ?_
  refine lv_iconst (v := (0 : Int32)) hx hb dX5_init_18 (by decide) ?_
  refine q_pi X hh (up_r ht (by omega)) fk_X5_19 pk_5_2 rfl rfl dX5_init_19 hf (fun w7 H locs hf hh => ?_)
  have hz := ckn_e hf
  refine W.widen (k := 1) (n := 2880) (by omega) (by omega) ?_
  exact e_v X hr hlk hh ⟨hz.1, so_e hz.2⟩ dX5_init_22
def f_X0_init (t n : Nat) (w : Wd) : Option Wd := lt (upI w t 0 (3 : Int32)) (fun w1 => lt (upI w1 t 1 (3 : Int32)) (fun w2 => lt (upI w2 t 2 (0 : Int32)) (fun w3 => mk n (n + 1) 9 25 (lt2 (n + 1) (clr w3 n) (fun n4 w5 => lt (upR w5 t 3 n) (fun w8 => ckn n4 (n + 1) (some w8)))))))
set_option maxHeartbeats 4000000 in
set_option maxRecDepth 100000 in
theorem m_X0_init (l : Launch) (B : Nat) (D : DD) {t n : Nat} {w w' : Wd} (ht : t < n ∧ kd t = 0) (hf : f_X0_init t n w = some w') : Ct l yX0_init cX0_init 1 none 1 20 1 2880 B D [.ref (B + t)] n w none (n + 1) w' := by
  refine m_of (by decide) (Nat.le_of_ble_eq_true rfl) (fun p e s m args below meth c X hml hr hlk hin H locs hh ls hl => ?_)
  have hx := X.1
  have hb := X.2.1
  have hl : lv_has ls 1 [(0, .ref (B + t))] := hl
  have hRR : n + 1 ≤ n + (rmk 1 20 1 2880).cells ∧ 2880 * (n + 1 - n) ≤ (rmk 1 20 1 2880).slots := ⟨Nat.le_refl _, by show 2880 * (n + 1 - n) ≤ 2880; omega⟩
  refine W.widen (k := n - n) (n := 2880 * (n - n)) (Nat.zero_le _) (Nat.zero_le _) ?_
  unfold f_X0_init at hf
  refine lv_aload_n hx hb dX0_init_0 rfl (lv_at hl 0 rfl) ?_
  refine q_obj X hml hl.1 k_29 ⟨Nat.le_of_ble_eq_true rfl, Nat.le_of_ble_eq_true rfl⟩ dX0_init_1 ?_
  refine lv_aload_n hx hb dX0_init_4 rfl (lv_at hl 0 rfl) ?_
  refine lv_iconst (v := (3 : Int32)) hx hb dX0_init_5 (by decide) ?_
  refine q_pi X hh ht fk_X0_9 pk_0_0 rfl rfl dX0_init_6 hf (fun w1 H locs hf hh => ?_)
  refine lv_aload_n hx hb dX0_init_9 rfl (lv_at hl 0 rfl) ?_
  refine lv_iconst (v := (3 : Int32)) hx hb dX0_init_10 (by decide) ?_
  refine q_pi X hh ht fk_X0_15 pk_0_1 rfl rfl dX0_init_11 hf (fun w2 H locs hf hh => ?_)
  refine lv_aload_n hx hb dX0_init_14 rfl (lv_at hl 0 rfl) ?_
  refine lv_iconst (v := (0 : Int32)) hx hb dX0_init_15 (by decide) ?_
  refine q_pi X hh ht fk_X0_18 pk_0_2 rfl rfl dX0_init_16 hf (fun w3 H locs hf hh => ?_)
  refine lv_aload_n hx hb dX0_init_19 rfl (lv_at hl 0 rfl) ?_
  refine lv_bipush (v := (25 : Int32)) hx hb dX0_init_20 (by decide) ?_
  refine r_newa (n0 := n) (len := 25) X hh k_51 (by decide) (by decide) (by decide) (by omega) hRR dX0_init_22 hf (fun n4 w5 H e6 h7 hf hh => ?_)
  refine q_prF X hh (up_r ht (by omega)) fk_X0_21 pk_0_3 hin (fun q h => by cases h; rfl) (fun _ => ⟨rfl, rfl⟩) dX0_init_24 hf (fun w8 H locs hf hh => ?_)
  have hz := ckn_e hf
  refine W.widen (k := 1) (n := 2880) (by omega) (by omega) ?_
  exact e_v X hr hlk hh ⟨hz.1, so_e hz.2⟩ dX0_init_27
def f_X6_init (t n : Nat) (w : Wd) : Option Wd := mk n (n + 1) 9 60 (lt2 (n + 1) (clr w n) (fun n1 w2 => lt (upR w2 t 0 n) (fun w5 => lt (upI w5 t 1 (0 : Int32)) (fun w6 => ckn n1 (n + 1) (some w6)))))
set_option maxHeartbeats 4000000 in
set_option maxRecDepth 100000 in
theorem m_X6_init (l : Launch) (B : Nat) (D : DD) {t n : Nat} {w w' : Wd} (ht : t < n ∧ kd t = 6) (hf : f_X6_init t n w = some w') : Ct l yX6_init cX6_init 1 none 1 20 1 2880 B D [.ref (B + t)] n w none (n + 1) w' := by
  refine m_of (by decide) (Nat.le_of_ble_eq_true rfl) (fun p e s m args below meth c X hml hr hlk hin H locs hh ls hl => ?_)
  have hx := X.1
  have hb := X.2.1
  have hl : lv_has ls 1 [(0, .ref (B + t))] := hl
  have hRR : n + 1 ≤ n + (rmk 1 20 1 2880).cells ∧ 2880 * (n + 1 - n) ≤ (rmk 1 20 1 2880).slots := ⟨Nat.le_refl _, by show 2880 * (n + 1 - n) ≤ 2880; omega⟩
  refine W.widen (k := n - n) (n := 2880 * (n - n)) (Nat.zero_le _) (Nat.zero_le _) ?_
  unfold f_X6_init at hf
  refine lv_aload_n hx hb dX6_init_0 rfl (lv_at hl 0 rfl) ?_
  refine q_obj X hml hl.1 k_132 ⟨Nat.le_of_ble_eq_true rfl, Nat.le_of_ble_eq_true rfl⟩ dX6_init_1 ?_
  refine lv_aload_n hx hb dX6_init_4 rfl (lv_at hl 0 rfl) ?_
  refine lv_bipush (v := (60 : Int32)) hx hb dX6_init_5 (by decide) ?_
  refine r_newa (n0 := n) (len := 60) X hh k_51 (by decide) (by decide) (by decide) (by omega) hRR dX6_init_7 hf (fun n1 w2 H e3 h4 hf hh => ?_)
  refine q_prF X hh (up_r ht (by omega)) fk_X6_9 pk_6_0 hin (fun q h => by cases h; rfl) (fun _ => ⟨rfl, rfl⟩) dX6_init_9 hf (fun w5 H locs hf hh => ?_)
  refine lv_aload_n hx hb dX6_init_12 rfl (lv_at hl 0 rfl) ?_
  refine lv_iconst (v := (0 : Int32)) hx hb dX6_init_13 (by decide) ?_
  refine q_pi X hh (up_r ht (by omega)) fk_X6_15 pk_6_1 rfl rfl dX6_init_14 hf (fun w6 H locs hf hh => ?_)
  have hz := ckn_e hf
  refine W.widen (k := 1) (n := 2880) (by omega) (by omega) ?_
  exact e_v X hr hlk hh ⟨hz.1, so_e hz.2⟩ dX6_init_17
def f_X3_init (t n : Nat) (w : Wd) : Option Wd := lt (upI w t 0 (0 : Int32)) (fun w1 => mk n (n + 3) 5 0 (lt2 (n + 1) (clr w1 n) (fun n2 w3 => c1 (f_X5_init n n2 w3) (fun w8 => if n2 + 1 ≤ (n + 3) then lt2 (n2 + 1) w8 (fun n6 w7 => lt (upR w7 t 1 n) (fun w11 => mk n6 (n + 3) 9 30 (lt2 (n6 + 1) (clr w11 n6) (fun n12 w13 => lt (upR w13 t 2 n6) (fun w16 => lt (upI w16 t 3 (0 : Int32)) (fun w17 => ckn n12 (n + 3) (some w17))))))) else none))))
set_option maxHeartbeats 4000000 in
set_option maxRecDepth 100000 in
theorem m_X3_init (l : Launch) (B : Nat) (D : DD) {t n : Nat} {w w' : Wd} (ht : t < n ∧ kd t = 3) (hf : f_X3_init t n w = some w') : Ct l yX3_init cX3_init 1 none 2 40 3 8640 B D [.ref (B + t)] n w none (n + 3) w' := by
  refine m_of (by decide) (Nat.le_of_ble_eq_true rfl) (fun p e s m args below meth c X hml hr hlk hin H locs hh ls hl => ?_)
  have hx := X.1
  have hb := X.2.1
  have hl : lv_has ls 1 [(0, .ref (B + t))] := hl
  have hRR : n + 3 ≤ n + (rmk 2 40 3 8640).cells ∧ 2880 * (n + 3 - n) ≤ (rmk 2 40 3 8640).slots := ⟨Nat.le_refl _, by show 2880 * (n + 3 - n) ≤ 8640; omega⟩
  refine W.widen (k := n - n) (n := 2880 * (n - n)) (Nat.zero_le _) (Nat.zero_le _) ?_
  unfold f_X3_init at hf
  refine lv_aload_n hx hb dX3_init_0 rfl (lv_at hl 0 rfl) ?_
  refine q_obj X hml hl.1 k_147 ⟨Nat.le_of_ble_eq_true rfl, Nat.le_of_ble_eq_true rfl⟩ dX3_init_1 ?_
  refine lv_aload_n hx hb dX3_init_4 rfl (lv_at hl 0 rfl) ?_
  refine lv_iconst (v := (0 : Int32)) hx hb dX3_init_5 (by decide) ?_
  refine q_pi X hh ht fk_X3_9 pk_3_0 rfl rfl dX3_init_6 hf (fun w1 H locs hf hh => ?_)
  refine lv_aload_n hx hb dX3_init_9 rfl (lv_at hl 0 rfl) ?_
  refine r_new (n0 := n) X hh ci_5 cin_5 k_148 k_60 k_10 (by omega) hRR dX3_init_10 hf (fun n2 w3 H e4 h5 hf hh => ?_)
  refine lv_dup hx hb dX3_init_13 rfl ?_
  obtain ⟨w8, hc10, hf⟩ := c1_e hf
  refine q_I (n0 := n) (rest := [.ref (B + n), .ref (B + t)]) X hml hh rfl (m_X5_init l B D h5 hc10) cf_X5_init k_149 hl.1 (Nat.le_of_ble_eq_true rfl) ⟨Nat.le_of_ble_eq_true rfl, Nat.le_of_ble_eq_true rfl⟩ (by omega) hRR dX3_init_14 hf (fun n6 w7 H locs e9 hf hh => ?_)
  refine q_prF X hh (up_r ht (by omega)) fk_X3_18 pk_3_1 hin (fun q h => by cases h; rfl) (fun _ => ⟨rfl, rfl⟩) dX3_init_17 hf (fun w11 H locs hf hh => ?_)
  refine lv_aload_n hx hb dX3_init_20 rfl (lv_at hl 0 rfl) ?_
  refine lv_bipush (v := (30 : Int32)) hx hb dX3_init_21 (by decide) ?_
  refine r_newa (n0 := n) (len := 30) X hh k_51 (by decide) (by decide) (by decide) (by omega) hRR dX3_init_23 hf (fun n12 w13 H e14 h15 hf hh => ?_)
  refine q_prF X hh (up_r ht (by omega)) fk_X3_22 pk_3_2 hin (fun q h => by cases h; rfl) (fun _ => ⟨rfl, rfl⟩) dX3_init_25 hf (fun w16 H locs hf hh => ?_)
  refine lv_aload_n hx hb dX3_init_28 rfl (lv_at hl 0 rfl) ?_
  refine lv_iconst (v := (0 : Int32)) hx hb dX3_init_29 (by decide) ?_
  refine q_pi X hh (up_r ht (by omega)) fk_X3_26 pk_3_3 rfl rfl dX3_init_30 hf (fun w17 H locs hf hh => ?_)
  have hz := ckn_e hf
  refine W.widen (k := 3) (n := 8640) (by omega) (by omega) ?_
  exact e_v X hr hlk hh ⟨hz.1, so_e hz.2⟩ dX3_init_33
def f_X2_init (t n : Nat) (w : Wd) : Option Wd := mk n (n + 19) 10 9 (lt2 (n + 1) (clr w n) (fun n1 w2 => lt (upR w2 t 0 n) (fun w5 => wl3 (fun (x6 : Int32) (w7 : Wd) (n8 : Nat) k10 => (if (8 : Int32) < x6 then lt (upI w7 t 1 (0 : Int32)) (fun w13 => lt (upI w13 t 2 (0 : Int32)) (fun w14 => ckn n8 (n + 19) (some w14))) else rf n8 (w7.2 t 0) 10 (fun t15 => mk n8 (n + 19) 0 0 (lt2 (n8 + 1) (clr w7 n8) (fun n17 w18 => c1 (f_X0_init n8 n17 w18) (fun w23 => if n17 + 1 ≤ (n + 19) then lt2 (n17 + 1) w23 (fun n21 w22 => ix x6 (ln t15) (fun j26 => lt (upR w22 t15 j26 n8) (fun w27 => lt (x6 + (1 : Int32)) (fun x28 => k10 x28 w27 n21)))) else none)))))) fu (0 : Int32) w5 n1)))
set_option maxHeartbeats 4000000 in
set_option maxRecDepth 100000 in
theorem m_X2_init (l : Launch) (B : Nat) (D : DD) {t n : Nat} {w w' : Wd} (ht : t < n ∧ kd t = 2) (hf : f_X2_init t n w = some w') : Ct l yX2_init cX2_init 2 none 2 40 19 54720 B D [.ref (B + t)] n w none (n + 19) w' := by
  refine m_of (by decide) (Nat.le_of_ble_eq_true rfl) (fun p e s m args below meth c X hml hr hlk hin H locs hh ls hl => ?_)
  have hx := X.1
  have hb := X.2.1
  have hl : lv_has ls 2 [(0, .ref (B + t))] := hl
  have hRR : n + 19 ≤ n + (rmk 2 40 19 54720).cells ∧ 2880 * (n + 19 - n) ≤ (rmk 2 40 19 54720).slots := ⟨Nat.le_refl _, by show 2880 * (n + 19 - n) ≤ 54720; omega⟩
  refine W.widen (k := n - n) (n := 2880 * (n - n)) (Nat.zero_le _) (Nat.zero_le _) ?_
  unfold f_X2_init at hf
  refine lv_aload_n hx hb dX2_init_0 rfl (lv_at hl 0 rfl) ?_
  refine q_obj X hml hl.1 k_113 ⟨Nat.le_of_ble_eq_true rfl, Nat.le_of_ble_eq_true rfl⟩ dX2_init_1 ?_
  refine lv_aload_n hx hb dX2_init_4 rfl (lv_at hl 0 rfl) ?_
  refine lv_bipush (v := (9 : Int32)) hx hb dX2_init_5 (by decide) ?_
  refine r_newq (n0 := n) (len := 9) (ka := 10) X hh k_114 ⟨by decide, by decide⟩ rfl X.2.2.2.2.2.2.1 (by decide) (by decide) (by decide) (by omega) hRR dX2_init_7 hf (fun n1 w2 H e3 h4 hf hh => ?_)
  refine q_prF X hh (up_r ht (by omega)) fk_X2_11 pk_2_0 hin (fun q h => by cases h; rfl) (fun _ => ⟨rfl, rfl⟩) dX2_init_10 hf (fun w5 H locs hf hh => ?_)
  refine lv_iconst (v := (0 : Int32)) hx hb dX2_init_13 (by decide) ?_
  refine lv_istore_n (lv' := [(1, .int (0 : Int32)), (0, .ref (B + t))]) hx hb dX2_init_14 rfl hl (by decide) rfl (fun ls hl => ?_)
  refine wl3_W (P := fun (x6 : Int32) (w7 : Wd) (n8 : Nat) => n ≤ n8 → ∀ (H : Heap) (locs : List Loc) (ls : Array Slot), Hp B D n8 w7 s H locs → lv_has ls 2 [(0, .ref (B + t)), (1, .int x6)] → W p l e (rmk 2 40 19 54720) s m args below meth c H locs (n8 - n) (2880 * (n8 - n)) (MZ below B D (n + 19) w' none args s 19 54720) (F0 m 15 ls [])) hf (fun x6 w7 n8 k10 ih11 hf hn9 H locs ls hh hl => ?_) (by omega) _ _ _ hh (lv_sub hl [1, 0] rfl)
  refine lv_iload_n hx hb dX2_init_15 rfl (lv_at hl 1 rfl) ?_
  refine lv_bipush (v := (8 : Int32)) hx hb dX2_init_16 (by decide) ?_
  refine lv_icmp_gt (tgt := 40) hx hb dX2_init_18 (by decide) (fun hc12 => ?_) (fun hc12 => ?_)
  · have hf := if_t hc12 hf
    refine lv_aload_n hx hb dX2_init_40 rfl (lv_at hl 0 rfl) ?_
    refine lv_iconst (v := (0 : Int32)) hx hb dX2_init_41 (by decide) ?_
    refine q_pi X hh (up_r ht (by omega)) fk_X2_18 pk_2_1 rfl rfl dX2_init_42 hf (fun w13 H locs hf hh => ?_)
    refine lv_aload_n hx hb dX2_init_45 rfl (lv_at hl 0 rfl) ?_
    refine lv_iconst (v := (0 : Int32)) hx hb dX2_init_46 (by decide) ?_
    refine q_pi X hh (up_r ht (by omega)) fk_X2_22 pk_2_2 rfl rfl dX2_init_47 hf (fun w14 H locs hf hh => ?_)
    have hz := ckn_e hf
    refine W.widen (k := 19) (n := 54720) (by omega) (by omega) ?_
    exact e_v X hr hlk hh ⟨hz.1, so_e hz.2⟩ dX2_init_50
  · have hf := if_f hc12 hf
    refine lv_aload_n hx hb dX2_init_21 rfl (lv_at hl 0 rfl) ?_
    refine q_gr (P := 10) X hh (up_r ht (by omega)) fk_X2_11 dX2_init_22 (Nat.le_refl _) hf (fun t15 h16 hf => ?_)
    refine lv_iload_n hx hb dX2_init_25 rfl (lv_at hl 1 rfl) ?_
    refine r_new (n0 := n) X hh ci_0 cin_0 k_114 k_25 k_8 (by omega) hRR dX2_init_26 hf (fun n17 w18 H e19 h20 hf hh => ?_)
    refine lv_dup hx hb dX2_init_29 rfl ?_
    obtain ⟨w23, hc25, hf⟩ := c1_e hf
    refine q_I (n0 := n) (rest := [.ref (B + n8), .int x6, .ref (B + t15)]) X hml hh rfl (m_X0_init l B D h20 hc25) cf_X0_init k_116 hl.1 (Nat.le_of_ble_eq_true rfl) ⟨Nat.le_of_ble_eq_true rfl, Nat.le_of_ble_eq_true rfl⟩ (by omega) hRR dX2_init_30 hf (fun n21 w22 H locs e24 hf hh => ?_)
    refine q_aast X hh (up_r h16 (by omega)) ⟨by decide, by decide⟩ (up_r h20 (by omega)) ci_0 rfl dX2_init_33 hf (fun w27 H locs hf hh => ?_)
    obtain ⟨x28, e29⟩ : ∃ y : Int32, y = (x6 + (1 : Int32)) := ⟨_, rfl⟩
    have hf := lt_e e29 hf
    refine lv_iinc (v := x28) (lv' := [(1, .int x28), (0, .ref (B + t))]) hx hb dX2_init_34 hl (k := 1) rfl (by rw [e29]; rfl) (by decide) rfl (fun ls hl => ?_)
    refine lv_goto (tgt := 15) hx hb dX2_init_37 (by decide) ?_
    exact ih11 _ _ _ hf (by omega) _ _ _ hh (lv_sub hl [1, 0] rfl)
def f_X1_init (t n : Nat) (w : Wd) : Option Wd := mk n (n + 76) 12 36 (lt2 (n + 1) (clr w n) (fun n1 w2 => lt (upR w2 t 0 n) (fun w5 => wl3 (fun (x6 : Int32) (w7 : Wd) (n8 : Nat) k10 => (if (36 : Int32) ≤ x6 then mk n8 (n + 76) 5 0 (lt2 (n8 + 1) (clr w7 n8) (fun n13 w14 => c1 (f_X5_init n8 n13 w14) (fun w19 => if n13 + 1 ≤ (n + 76) then lt2 (n13 + 1) w19 (fun n17 w18 => lt (upR w18 t 1 n8) (fun w22 => lt (upI w22 t 2 (0 : Int32)) (fun w23 => lt (upI w23 t 3 (0 : Int32)) (fun w24 => mk n17 (n + 76) 9 36 (lt2 (n17 + 1) (clr w24 n17) (fun n25 w26 => lt (upR w26 t 4 n17) (fun w29 => lt (upI w29 t 5 (0 : Int32)) (fun w30 => ckn n25 (n + 76) (some w30))))))))) else none))) else rf n8 (w7.2 t 0) 12 (fun t31 => mk n8 (n + 76) 5 0 (lt2 (n8 + 1) (clr w7 n8) (fun n33 w34 => c1 (f_X5_init n8 n33 w34) (fun w39 => if n33 + 1 ≤ (n + 76) then lt2 (n33 + 1) w39 (fun n37 w38 => ix x6 (ln t31) (fun j42 => lt (upR w38 t31 j42 n8) (fun w43 => lt (x6 + (1 : Int32)) (fun x44 => k10 x44 w43 n37)))) else none)))))) fu (0 : Int32) w5 n1)))
set_option maxHeartbeats 4000000 in
set_option maxRecDepth 100000 in
theorem m_X1_init (l : Launch) (B : Nat) (D : DD) {t n : Nat} {w w' : Wd} (ht : t < n ∧ kd t = 1) (hf : f_X1_init t n w = some w') : Ct l yX1_init cX1_init 2 none 2 40 76 218880 B D [.ref (B + t)] n w none (n + 76) w' := by
  refine m_of (by decide) (Nat.le_of_ble_eq_true rfl) (fun p e s m args below meth c X hml hr hlk hin H locs hh ls hl => ?_)
  have hx := X.1
  have hb := X.2.1
  have hl : lv_has ls 2 [(0, .ref (B + t))] := hl
  have hRR : n + 76 ≤ n + (rmk 2 40 76 218880).cells ∧ 2880 * (n + 76 - n) ≤ (rmk 2 40 76 218880).slots := ⟨Nat.le_refl _, by show 2880 * (n + 76 - n) ≤ 218880; omega⟩
  refine W.widen (k := n - n) (n := 2880 * (n - n)) (Nat.zero_le _) (Nat.zero_le _) ?_
  unfold f_X1_init at hf
  refine lv_aload_n hx hb dX1_init_0 rfl (lv_at hl 0 rfl) ?_
  refine q_obj X hml hl.1 k_57 ⟨Nat.le_of_ble_eq_true rfl, Nat.le_of_ble_eq_true rfl⟩ dX1_init_1 ?_
  refine lv_aload_n hx hb dX1_init_4 rfl (lv_at hl 0 rfl) ?_
  refine lv_bipush (v := (36 : Int32)) hx hb dX1_init_5 (by decide) ?_
  refine r_newq (n0 := n) (len := 36) (ka := 12) X hh k_58 ⟨by decide, by decide⟩ rfl X.2.2.2.2.2.2.2.2.1 (by decide) (by decide) (by decide) (by omega) hRR dX1_init_7 hf (fun n1 w2 H e3 h4 hf hh => ?_)
  refine q_prF X hh (up_r ht (by omega)) fk_X1_11 pk_1_0 hin (fun q h => by cases h; rfl) (fun _ => ⟨rfl, rfl⟩) dX1_init_10 hf (fun w5 H locs hf hh => ?_)
  refine lv_iconst (v := (0 : Int32)) hx hb dX1_init_13 (by decide) ?_
  refine lv_istore_n (lv' := [(1, .int (0 : Int32)), (0, .ref (B + t))]) hx hb dX1_init_14 rfl hl (by decide) rfl (fun ls hl => ?_)
  refine wl3_W (P := fun (x6 : Int32) (w7 : Wd) (n8 : Nat) => n ≤ n8 → ∀ (H : Heap) (locs : List Loc) (ls : Array Slot), Hp B D n8 w7 s H locs → lv_has ls 2 [(0, .ref (B + t)), (1, .int x6)] → W p l e (rmk 2 40 76 218880) s m args below meth c H locs (n8 - n) (2880 * (n8 - n)) (MZ below B D (n + 76) w' none args s 76 218880) (F0 m 15 ls [])) hf (fun x6 w7 n8 k10 ih11 hf hn9 H locs ls hh hl => ?_) (by omega) _ _ _ hh (lv_sub hl [1, 0] rfl)
  refine lv_iload_n hx hb dX1_init_15 rfl (lv_at hl 1 rfl) ?_
  refine lv_bipush (v := (36 : Int32)) hx hb dX1_init_16 (by decide) ?_
  refine lv_icmp_ge (tgt := 40) hx hb dX1_init_18 (by decide) (fun hc12 => ?_) (fun hc12 => ?_)
  · have hf := if_t hc12 hf
    refine lv_aload_n hx hb dX1_init_40 rfl (lv_at hl 0 rfl) ?_
    refine r_new (n0 := n) X hh ci_5 cin_5 k_58 k_60 k_10 (by omega) hRR dX1_init_41 hf (fun n13 w14 H e15 h16 hf hh => ?_)
    refine lv_dup hx hb dX1_init_44 rfl ?_
    obtain ⟨w19, hc21, hf⟩ := c1_e hf
    refine q_I (n0 := n) (rest := [.ref (B + n8), .ref (B + t)]) X hml hh rfl (m_X5_init l B D h16 hc21) cf_X5_init k_61 hl.1 (Nat.le_of_ble_eq_true rfl) ⟨Nat.le_of_ble_eq_true rfl, Nat.le_of_ble_eq_true rfl⟩ (by omega) hRR dX1_init_45 hf (fun n17 w18 H locs e20 hf hh => ?_)
    refine q_prF X hh (up_r ht (by omega)) fk_X1_18 pk_1_1 hin (fun q h => by cases h; rfl) (fun _ => ⟨rfl, rfl⟩) dX1_init_48 hf (fun w22 H locs hf hh => ?_)
    refine lv_aload_n hx hb dX1_init_51 rfl (lv_at hl 0 rfl) ?_
    refine lv_iconst (v := (0 : Int32)) hx hb dX1_init_52 (by decide) ?_
    refine q_pi X hh (up_r ht (by omega)) fk_X1_22 pk_1_2 rfl rfl dX1_init_53 hf (fun w23 H locs hf hh => ?_)
    refine lv_aload_n hx hb dX1_init_56 rfl (lv_at hl 0 rfl) ?_
    refine lv_iconst (v := (0 : Int32)) hx hb dX1_init_57 (by decide) ?_
    refine q_pi X hh (up_r ht (by omega)) fk_X1_26 pk_1_3 rfl rfl dX1_init_58 hf (fun w24 H locs hf hh => ?_)
    refine lv_aload_n hx hb dX1_init_61 rfl (lv_at hl 0 rfl) ?_
    refine lv_bipush (v := (36 : Int32)) hx hb dX1_init_62 (by decide) ?_
    refine r_newa (n0 := n) (len := 36) X hh k_51 (by decide) (by decide) (by decide) (by omega) hRR dX1_init_64 hf (fun n25 w26 H e27 h28 hf hh => ?_)
    refine q_prF X hh (up_r ht (by omega)) fk_X1_29 pk_1_4 hin (fun q h => by cases h; rfl) (fun _ => ⟨rfl, rfl⟩) dX1_init_66 hf (fun w29 H locs hf hh => ?_)
    refine lv_aload_n hx hb dX1_init_69 rfl (lv_at hl 0 rfl) ?_
    refine lv_iconst (v := (0 : Int32)) hx hb dX1_init_70 (by decide) ?_
    refine q_pi X hh (up_r ht (by omega)) fk_X1_33 pk_1_5 rfl rfl dX1_init_71 hf (fun w30 H locs hf hh => ?_)
    have hz := ckn_e hf
    refine W.widen (k := 76) (n := 218880) (by omega) (by omega) ?_
    exact e_v X hr hlk hh ⟨hz.1, so_e hz.2⟩ dX1_init_74
  · have hf := if_f hc12 hf
    refine lv_aload_n hx hb dX1_init_21 rfl (lv_at hl 0 rfl) ?_
    refine q_gr (P := 12) X hh (up_r ht (by omega)) fk_X1_11 dX1_init_22 (Nat.le_refl _) hf (fun t31 h32 hf => ?_)
    refine lv_iload_n hx hb dX1_init_25 rfl (lv_at hl 1 rfl) ?_
    refine r_new (n0 := n) X hh ci_5 cin_5 k_58 k_60 k_10 (by omega) hRR dX1_init_26 hf (fun n33 w34 H e35 h36 hf hh => ?_)
    refine lv_dup hx hb dX1_init_29 rfl ?_
    obtain ⟨w39, hc41, hf⟩ := c1_e hf
    refine q_I (n0 := n) (rest := [.ref (B + n8), .int x6, .ref (B + t31)]) X hml hh rfl (m_X5_init l B D h36 hc41) cf_X5_init k_61 hl.1 (Nat.le_of_ble_eq_true rfl) ⟨Nat.le_of_ble_eq_true rfl, Nat.le_of_ble_eq_true rfl⟩ (by omega) hRR dX1_init_30 hf (fun n37 w38 H locs e40 hf hh => ?_)
    refine q_aast X hh (up_r h32 (by omega)) ⟨by decide, by decide⟩ (up_r h36 (by omega)) ci_5 rfl dX1_init_33 hf (fun w43 H locs hf hh => ?_)
    obtain ⟨x44, e45⟩ : ∃ y : Int32, y = (x6 + (1 : Int32)) := ⟨_, rfl⟩
    have hf := lt_e e45 hf
    refine lv_iinc (v := x44) (lv' := [(1, .int x44), (0, .ref (B + t))]) hx hb dX1_init_34 hl (k := 1) rfl (by rw [e45]; rfl) (by decide) rfl (fun ls hl => ?_)
    refine lv_goto (tgt := 15) hx hb dX1_init_37 (by decide) ?_
    exact ih11 _ _ _ hf (by omega) _ _ _ hh (lv_sub hl [1, 0] rfl)

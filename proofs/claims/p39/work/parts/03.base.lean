/-! the world: ints and references of all cells by their place; what kind each place has, and how long it is, is fixed -/
abbrev Wd : Type := (Nat → Nat → Int32) × (Nat → Nat → Option Nat)
def upI (w : Wd) (k j : Nat) (v : Int32) : Wd := (fun a b => if a = k ∧ b = j then v else w.1 a b, w.2)
def upR (w : Wd) (k j : Nat) (v : Nat) : Wd := (w.1, fun a b => if a = k ∧ b = j then some v else w.2 a b)
def clr (w : Wd) (k : Nat) : Wd := (fun a b => if a = k then 0 else w.1 a b, fun a b => if a = k then none else w.2 a b)
def kdL : List Nat := [7, 0, 9, 0, 9, 0, 9, 1, 12, 5, 9, 5, 9, 5, 9, 5, 9, 5, 9, 5, 9, 5, 9, 5, 9, 5, 9, 5, 9, 5, 9, 5, 9, 5, 9, 5, 9, 5, 9, 5, 9, 5, 9, 5, 9, 5, 9, 5, 9, 5, 9, 5, 9, 5, 9, 5, 9, 5, 9, 5, 9, 5, 9, 5, 9, 5, 9, 5, 9, 5, 9, 5, 9, 5, 9, 5, 9, 5, 9, 5, 9, 5, 9, 9, 4, 13, 9, 9, 9, 9, 9, 9, 2, 10, 0, 9, 0, 9, 0, 9, 0, 9, 0, 9, 0, 9, 0, 9, 0, 9, 0, 9, 6, 9, 11, 3, 5, 9, 9, 3, 5, 9, 9, 3, 5, 9, 9, 3, 5, 9, 9, 3, 5, 9, 9, 3, 5, 9, 9, 9, 9, 9, 9]
def lnL : List Nat := [0, 0, 25, 0, 25, 0, 25, 0, 36, 0, 75, 0, 75, 0, 75, 0, 75, 0, 75, 0, 75, 0, 75, 0, 75, 0, 75, 0, 75, 0, 75, 0, 75, 0, 75, 0, 75, 0, 75, 0, 75, 0, 75, 0, 75, 0, 75, 0, 75, 0, 75, 0, 75, 0, 75, 0, 75, 0, 75, 0, 75, 0, 75, 0, 75, 0, 75, 0, 75, 0, 75, 0, 75, 0, 75, 0, 75, 0, 75, 0, 75, 0, 75, 36, 0, 6, 6, 6, 6, 6, 6, 6, 0, 9, 0, 25, 0, 25, 0, 25, 0, 25, 0, 25, 0, 25, 0, 25, 0, 25, 0, 25, 0, 60, 6, 0, 0, 75, 30, 0, 0, 75, 30, 0, 0, 75, 30, 0, 0, 75, 30, 0, 0, 75, 30, 0, 0, 75, 30, 36, 36, 36, 36]
def kd (k : Nat) : Nat := kdL.getD k 99
def ln (k : Nat) : Nat := lnL.getD k 0
def nfL : List Nat := [4, 6, 3, 4, 1, 3, 2, 10]
def nf (c : Nat) : Nat := nfL.getD c 0
def rfL : List (List Bool) := [[false, false, false, true], [true, true, false, false, true, false], [true, false, false], [false, true, true, false], [true], [true, false, false], [true, false], [true, true, true, false, true, false, true, true, true, true]]
def isRf (c j : Nat) : Bool := if c < 9 then (rfL.getD c []).getD j false else decide (10 ≤ c)
def vl (B : Nat) (w : Wd) (k j : Nat) : Value := if isRf (kd k) j = true then va_rf ((w.2 k j).map (fun r => B + r)) else .int (w.1 k j)
abbrev DD : Type := va_G × (Nat → ClassId)
def aty : Nat → FieldType := fun a => match a with
  | 9 => .int
  | 10 => .object "GrowthGrid$Cells"
  | 11 => .object "GrowthGrid$Holder"
  | 12 => .object "GrowthGrid$Shape"
  | _ => .array .int
theorem vl_I {B : Nat} {w : Wd} {t j : Nat} (h : isRf (kd t) j = false) : vl B w t j = .int (w.1 t j) := by
  unfold vl
  rw [if_neg (by rw [h]; decide)]
theorem vl_R {B : Nat} {w : Wd} {t j r : Nat} (h : isRf (kd t) j = true) (hr : w.2 t j = some r) : vl B w t j = .ref (B + r) := by
  unfold vl
  rw [if_pos h, hr]
  rfl
theorem vl_upI {B : Nat} {w : Wd} {t j : Nat} {x : Int32} (h : isRf (kd t) j = false) (k i : Nat) : vl B (upI w t j x) k i = if k = t ∧ i = j then .int x else vl B w k i := by
  by_cases e : k = t ∧ i = j
  · obtain ⟨rfl, rfl⟩ := e
    rw [if_pos ⟨rfl, rfl⟩, vl_I h]
    simp [upI]
  · rw [if_neg e]
    unfold vl
    by_cases h2 : isRf (kd k) i = true
    · rw [if_pos h2, if_pos h2]; rfl
    · rw [if_neg h2, if_neg h2]
      simp [upI, e]
theorem vl_upR {B : Nat} {w : Wd} {t j x : Nat} (h : isRf (kd t) j = true) (k i : Nat) : vl B (upR w t j x) k i = if k = t ∧ i = j then .ref (B + x) else vl B w k i := by
  by_cases e : k = t ∧ i = j
  · obtain ⟨rfl, rfl⟩ := e
    rw [if_pos ⟨rfl, rfl⟩]
    exact vl_R h (by simp [upR])
  · rw [if_neg e]
    unfold vl
    by_cases h2 : isRf (kd k) i = true
    · rw [if_pos h2, if_pos h2]
      simp [upR, e]
    · rw [if_neg h2, if_neg h2]; rfl
def ao_A (U : State) : Prop := (Cond.arrayOver (.array .int)).before #[] U = true
theorem ao_A.moved {u U : State} (hvm : u.vm.Alike U.vm) (h : ao_A u) : ao_A U := by
  obtain ⟨comp, c, k, h1, h2, h3, h4, h5⟩ := arrayOverA_spec h
  obtain ⟨k', hk', he⟩ := hvm.2.2 _ _ h3
  have hi : (U.vm.classes.findIdx? fun (x : Class) => match x.kind with | .array component _ => component == comp | _ => false) = some c := by
    refine (va_idx_bare U.vm comp).symm.trans ?_
    first | rw [hvm.bare_eq] | rw [← hvm.bare_eq]
    exact (va_idx_bare u.vm comp).trans h2
  have hkind : k'.kind = .array comp (.array .int) := by rw [he]; exact h4
  have f1 : U.vm.findClass (FieldType.array .int).toString = some comp := by rw [hvm.findClass]; exact h1
  have f2 : U.vm.findClass ("[" ++ (FieldType.array .int).toString) = some c := by rw [hvm.findClass]; exact h5
  unfold ao_A Cond.before Cond.holds
  simp only [Cond.value]
  rw [f1, Option.bind_some]
  refine (congrArg (fun o : Option Nat => (o.bind (fun c => (U.vm.classes[c]?).map fun (k : Class) => match k.kind with | .array _ ty => decide (ty = FieldType.array .int) && decide (U.vm.findClass ("[" ++ (FieldType.array .int).toString) = some c) | _ => false) == some true)) hi).trans ?_
  simp [hk', hkind, f2]
def rK (D : DD) (U : State) : Prop := va_K D.1 vwCl [] U ∧ (∀ a, 9 ≤ a → a < 14 → ArrOfT U (D.2 a) (aty a) ∧ va_RA U (D.2 a) (aty a)) ∧ (va_AO "GrowthGrid$Cells" U ∧ va_AO "GrowthGrid$Holder" U ∧ va_AO "GrowthGrid$Shape" U ∧ ao_A U)
theorem rK.moved {D : DD} {u U : State} (hvm : u.vm.Alike U.vm) (h : rK D u) : rK D U :=
  ⟨h.1.moved hvm, fun a h1 h2 => ⟨arrOfT_moved hvm (h.2.1 a h1 h2).1, (h.2.1 a h1 h2).2.moved hvm⟩, h.2.2.1.moved hvm, h.2.2.2.1.moved hvm, h.2.2.2.2.1.moved hvm, h.2.2.2.2.2.moved hvm⟩
def cOK (B : Nat) (D : DD) (w : Wd) (k : Nat) (H : Heap) : Prop :=
  (kd k < 9 → t_OB (B + k) (D.1.1 (kd k)) (nf (kd k)) (D.1.2 (kd k)) H (vl B w k)) ∧ (9 ≤ kd k → kd k < 14 → H[B + k]? = some (arrV (D.2 (kd k)) (ln k) (vl B w k)))
theorem cOK.kept {B : Nat} {D : DD} {w w' : Wd} {k : Nat} {H H1 : Heap} (h : cOK B D w k H) (hq : H1[B + k]? = H[B + k]?) (hv : ∀ j, vl B w' k j = vl B w k j) : cOK B D w' k H1 := by
  have e : vl B w' k = vl B w k := funext hv
  unfold cOK
  rw [e]
  exact ⟨fun h9 => (h.1 h9).kept hq, fun h9 h14 => by rw [hq]; exact h.2 h9 h14⟩
def Rep (B : Nat) (D : DD) (n : Nat) (w : Wd) (H : Heap) : Prop := H.size = B + n ∧ ∀ k, k < n → cOK B D w k H
theorem Rep.upd {B : Nat} {D : DD} {n : Nat} {w w' : Wd} {H H1 : Heap} {t : Nat} (h : Rep B D n w H) (z : H1.size = H.size) (oq : ∀ q : Nat, q ≠ B + t → H1[q]? = H[q]?) (hv : ∀ k, k ≠ t → ∀ j, vl B w' k j = vl B w k j) (hc : cOK B D w' t H1) : Rep B D n w' H1 := by
  refine ⟨z.trans h.1, fun k hk => ?_⟩
  by_cases e : k = t
  · rw [e]; exact hc
  · exact (h.2 k hk).kept (oq (B + k) (by omega)) (hv k e)
theorem Rep.push {B : Nat} {D : DD} {n : Nat} {w : Wd} {H H1 : Heap} (h : Rep B D n w H) (z : H1.size = B + n + 1) (oq : ∀ q : Nat, q < B + n → H1[q]? = H[q]?) (hc : cOK B D (clr w n) n H1) : Rep B D (n + 1) (clr w n) H1 := by
  refine ⟨by omega, fun k hk => ?_⟩
  by_cases e : k = n
  · rw [e]; exact hc
  · refine (h.2 k (by omega)).kept (oq (B + k) (by omega)) (fun j => ?_)
    unfold vl clr
    simp [e]
def CI (ci : Nat) (q : vw_C) : Prop := vwCl[ci]? = some q ∧ nf ci = q.2.2 ∧ ci < 9 ∧ (∀ x ∈ u_ws q.1 q.2.1 q.2.2, x ∈ AL) ∧ ∃ ty0 : Nat → FieldType, (∀ j, j < q.2.2 → parseFieldDescriptor (q.2.1 j).2.2.1 = some (ty0 j)) ∧ ∀ a, a < q.2.2 → ∀ b, b < q.2.2 → a ≠ b → (q.2.1 a).2.1 ≠ (q.2.1 b).2.1
def FK (own : String) (idx ci j : Nat) (rf : Bool) : Prop := ∃ q : vw_C, CI ci q ∧ j < q.2.2 ∧ Cond.fieldLink own idx q.1 (q.2.1 j).2.1 (q.2.1 j).2.2.1 ∈ AL ∧ (q.2.1 j).1 = q.1 ∧ isRf ci j = rf
def PKf (ci j : Nat) (fin : Bool) (ty : FieldType) : Prop := ∃ q : vw_C, CI ci q ∧ j < q.2.2 ∧ (q.2.1 j).2.2.2 = fin ∧ parseFieldDescriptor (q.2.1 j).2.2.1 = some ty
def CFv (y : MethodName) (bytes : ByteArray) (maxL : Nat) (ret : Option FieldType) (np : Nat) : Prop := Cond.code y bytes maxL ret ∈ AL ∧ Cond.initialized y.cls ∈ AL ∧ Cond.instanceMethod y ∈ AL ∧ Cond.selects y.cls y y ∈ AL ∧ y.cls ≠ "java/lang/invoke/MethodHandle" ∧ y.cls ≠ "java/lang/invoke/VarHandle" ∧ (parseMethodDescriptor y.desc).map (fun d => d.parameters.length) = some np
def CFs (y : MethodName) (bytes : ByteArray) (maxL : Nat) (ret : Option FieldType) (np : Nat) : Prop := Cond.code y bytes maxL ret ∈ AL ∧ Cond.initialized y.cls ∈ AL ∧ Cond.static y ∈ AL ∧ y.cls ≠ "java/lang/invoke/MethodHandle" ∧ y.cls ≠ "java/lang/invoke/VarHandle" ∧ (parseMethodDescriptor y.desc).map (fun d => d.parameters.length) = some np
def CFi (y : MethodName) (bytes : ByteArray) (maxL : Nat) (ret : Option FieldType) (np : Nat) : Prop := Cond.code y bytes maxL ret ∈ AL ∧ Cond.initialized y.cls ∈ AL ∧ Cond.instanceMethod y ∈ AL ∧ y.cls ≠ "java/lang/invoke/MethodHandle" ∧ y.cls ≠ "java/lang/invoke/VarHandle" ∧ (parseMethodDescriptor y.desc).map (fun d => d.parameters.length) = some np
def Cx (p : Program) (s : State) (m : MethodId) (args : Array Value) (c : Code) (cc : ByteArray) (own : String) (D : DD) : Prop :=
  p.tables.exec = Jvm.exec ∧ c.code = cc ∧ s.vm.findClass own = some m.cls ∧ (∀ x ∈ AL, x.before args s = true) ∧ rK D s
def Hp (B : Nat) (D : DD) (n : Nat) (w : Wd) (s : State) (H : Heap) (locs : List Loc) : Prop := Rep B D n w H ∧ va_S (fun q => B ≤ q) s.heap H locs
def PC (B : Nat) (D : DD) (n : Nat) (w : Wd) (av : List Value) : Array Value → State → Prop := fun a U => a = av.toArray ∧ Rep B D n w U.heap ∧ B ≤ U.heap.size ∧ rK D U
def QC (B : Nat) (D : DD) (n' : Nat) (w' : Wd) (o : Option Value) : Array Value → State → Outcome → State → Prop := fun _ st oc t => oc = .returned o ∧ Rep B D n' w' t.heap ∧ va_F (fun q => B ≤ q) st t
abbrev rmk (fr lo mc ms : Nat) : Room := { frames := fr, cells := mc, slots := ms, locals := lo }
abbrev MZ (below : List Frame) (B : Nat) (D : DD) (n : Nat) (w : Wd) (o : Option Value) (args : Array Value) (s : State) (mc ms : Nat) : State → Prop := MQ below (QC B D n w o) args s mc ms (fun q => B ≤ q)
def Ct (l : Launch) (y : MethodName) (bytes : ByteArray) (maxL : Nat) (ret : Option FieldType) (fr lo mc ms : Nat) (B : Nat) (D : DD) (av : List Value) (n : Nat) (w : Wd) (o : Option Value) (n' : Nat) (w' : Wd) : Prop :=
  Met l y (Cond.code y bytes maxL ret :: AL) (rmk fr lo mc ms) (PC B D n w av) (QC B D n' w' o) mc ms (fun q => B ≤ q)
def PCX (B : Nat) (D : DD) (n : Nat) (w : Wd) (b L : Nat) (xs : Nat → Int32) (av : List Value) : Array Value → State → Prop := fun a U => PC B D n w av a U ∧ b < B ∧ va_X b L xs U U.heap
def CtX (l : Launch) (y : MethodName) (bytes : ByteArray) (maxL : Nat) (ret : Option FieldType) (fr lo mc ms : Nat) (B : Nat) (D : DD) (b L : Nat) (xs : Nat → Int32) (av : List Value) (n : Nat) (w : Wd) (o : Option Value) (n' : Nat) (w' : Wd) : Prop :=
  Met l y (Cond.code y bytes maxL ret :: AL) (rmk fr lo mc ms) (PCX B D n w b L xs av) (QC B D n' w' o) mc ms (fun q => B ≤ q)
theorem al_in {y : Cond} (hy : y ∈ AL) : GoodIn AL (y :: AL) := fun x h => by
  rcases List.mem_cons.mp h with e | e
  · rw [e]; exact ⟨hy, good_of_word (al_good hy)⟩
  · exact ⟨e, good_of_word (al_good e)⟩
section RW
variable {p : Program} {l : Launch} {e : Env} {R : Room} {s : State} {m : MethodId} {args : Array Value} {below : List Frame} {meth : Method} {c : Code} {H : Heap} {locs : List Loc} {cells slots : Nat} {Q : State → Prop}
variable {cc : ByteArray} {pc : Nat} {ls : Array Slot} {rest : List Value} {D : DD} {own : String} {B n : Nat} {w : Wd}
theorem r_get (X : Cx p s m args c cc own D) (h : Hp B D n w s H locs) {t ci j idx : Nat} {rf : Bool} (ht : t < n ∧ kd t = ci) (hf : FK own idx ci j rf) {v : Value} (hv : vl B w t j = v) (hdg : decode cc pc = .ok (.getfield idx, 3))
    (kk : W p l e R s m args below meth c H locs cells slots Q (F0 m (pc + 3) ls (v :: rest))) : W p l e R s m args below meth c H locs cells slots Q (F0 m pc ls (.ref (B + t) :: rest)) := by
  obtain ⟨hx, hb, hown, hts, hK, -⟩ := X
  obtain ⟨q, ⟨hc, hn, h9, hin, -⟩, hj, hl, hsm, -⟩ := hf
  obtain ⟨⟨-, hcell⟩, -⟩ := h
  have hob := (hcell t ht.1).1 (by rw [ht.2]; exact h9)
  rw [ht.2, hn] at hob
  obtain ⟨cell, q1, q2, q3, q4⟩ := hob
  obtain ⟨hS, hfc, kC, hkC, hkind⟩ := hK.1 ci _ hc
  obtain ⟨cf, kf, fi, f, hi, hsl⟩ := hS j hj
  refine W.getf hx hb hown (hts _ hl) (v := v) (by rw [hsm] at hi; exact hi) (u_facts hfc hkC (u_lays hts hin hj) hi).1 q1 (by rw [q3]; exact fun h => by cases h) ?_ rfl rfl hdg kk
  rw [hsl, q4 j hj, hv]
theorem r_gi (X : Cx p s m args c cc own D) (h : Hp B D n w s H locs) {t ci j idx : Nat} (ht : t < n ∧ kd t = ci) (hf : FK own idx ci j false) (hdg : decode cc pc = .ok (.getfield idx, 3))
    (kk : W p l e R s m args below meth c H locs cells slots Q (F0 m (pc + 3) ls (.int (w.1 t j) :: rest))) : W p l e R s m args below meth c H locs cells slots Q (F0 m pc ls (.ref (B + t) :: rest)) :=
  r_get X h ht hf (vl_I (by rw [ht.2]; obtain ⟨q, -, -, -, -, hr⟩ := hf; exact hr)) hdg kk
theorem r_gr (X : Cx p s m args c cc own D) (h : Hp B D n w s H locs) {t ci j idx r : Nat} (ht : t < n ∧ kd t = ci) (hf : FK own idx ci j true) (hr : w.2 t j = some r) (hdg : decode cc pc = .ok (.getfield idx, 3))
    (kk : W p l e R s m args below meth c H locs cells slots Q (F0 m (pc + 3) ls (.ref (B + r) :: rest))) : W p l e R s m args below meth c H locs cells slots Q (F0 m pc ls (.ref (B + t) :: rest)) :=
  r_get X h ht hf (vl_R (by rw [ht.2]; obtain ⟨q, -, -, -, -, hr⟩ := hf; exact hr) hr) hdg kk
theorem r_put (X : Cx p s m args c cc own D) (h : Hp B D n w s H locs) {t ci j idx : Nat} {rf : Bool} {ty : FieldType} (ht : t < n ∧ kd t = ci) (hf : FK own idx ci j rf) (hp : PKf ci j false ty) {v : Value} {w' : Wd} (hnv : narrow ty v = v) (hfv : fits ty v = true) (hw : ∀ k i, vl B w' k i = if k = t ∧ i = j then v else vl B w k i) (hdg : decode cc pc = .ok (.putfield idx, 3))
    (kk : ∀ (H1 : Heap) (locs1 : List Loc), Hp B D n w' s H1 locs1 → W p l e R s m args below meth c H1 locs1 cells slots Q (F0 m (pc + 3) ls rest)) : W p l e R s m args below meth c H locs cells slots Q (F0 m pc ls (v :: .ref (B + t) :: rest)) := by
  obtain ⟨hx, hb, hown, hts, hK, -⟩ := X
  obtain ⟨q, ⟨hc, hn, h9, hin, ty0, hty, hnm⟩, hj, hl, hsm, -⟩ := hf
  obtain ⟨q', ⟨hc', -⟩, -, hfin, hd⟩ := hp
  obtain rfl : q' = q := Option.some.inj (hc'.symm.trans hc)
  have hap := va_apart (own := own) hts hin ty0 hty hnm hK hc
  have hob := (h.1.2 t ht.1).1 (by rw [ht.2]; exact h9)
  rw [ht.2, hn] at hob
  obtain ⟨cell, q1, q2, q3, q4⟩ := hob
  obtain ⟨hS, hfc, kC, hkC, hkind⟩ := hK.1 ci _ hc
  obtain ⟨cf, kf, fi, f, hi, hsl⟩ := hS j hj
  have hlay := hts _ (hin _ (u_in_lay hj))
  unfold u_lay at hlay
  rw [if_neg (by rw [hfin]; decide)] at hlay
  have hst := (u_facts hfc hkC (u_lays hts hin hj) hi).1
  have h6 := u_store hfc hkC hkind hlay hi hd hnv hfv
  refine W.putK hx hb (f := f) ⟨hown, hts _ hl, ⟨_, _, _, by rw [hsm] at hi; exact hi⟩, hst⟩ (by rw [q2]; exact h6) q1 q3 (by rw [hsl]; exact k2_hasslot (q4 j hj)) rfl rfl hdg fun H' e1 e2 e3 => ?_
  rw [hsl] at e1 ⊢
  refine kk H' _ ⟨h.1.upd e2 e3 (fun k hk i => by rw [hw, if_neg (fun z => hk z.1)]) ⟨fun _ => ?_, fun a1 a2 => by rw [ht.2] at a1; omega⟩, h.2.put e2 e3 (Nat.le_add_right _ _)⟩
  rw [ht.2, hn]
  exact t_OB.to (V := updV (vl B w t) j v) ⟨_, e1, q2, q3, t_set q4 hap hj v⟩ (fun i _ => by rw [hw]; by_cases z : i = j <;> simp [updV, z])
theorem r_putF (X : Cx p s m args c cc own D) (h : Hp B D n w s H locs) {t ci j idx : Nat} {rf : Bool} {ty : FieldType} (ht : t < n ∧ kd t = ci) (hf : FK own idx ci j rf) (hp : PKf ci j true ty) (hin2 : meth.name = "<init>") (hcl : ∀ q : vw_C, vwCl[ci]? = some q → q.1 = own) {v : Value} {w' : Wd} (hnv : narrow ty v = v) (hfv : fits ty v = true) (hw : ∀ k i, vl B w' k i = if k = t ∧ i = j then v else vl B w k i) (hdg : decode cc pc = .ok (.putfield idx, 3))
    (kk : ∀ (H1 : Heap) (locs1 : List Loc), Hp B D n w' s H1 locs1 → W p l e R s m args below meth c H1 locs1 cells slots Q (F0 m (pc + 3) ls rest)) : W p l e R s m args below meth c H locs cells slots Q (F0 m pc ls (v :: .ref (B + t) :: rest)) := by
  obtain ⟨hx, hb, hown, hts, hK, -⟩ := X
  obtain ⟨q, ⟨hc, hn, h9, hin, ty0, hty, hnm⟩, hj, hl, hsm, -⟩ := hf
  obtain ⟨q', ⟨hc', -⟩, -, hfin, hd⟩ := hp
  obtain rfl : q' = q := Option.some.inj (hc'.symm.trans hc)
  have hap := va_apart (own := own) hts hin ty0 hty hnm hK hc
  have hob := (h.1.2 t ht.1).1 (by rw [ht.2]; exact h9)
  rw [ht.2, hn] at hob
  obtain ⟨cell, q1, q2, q3, q4⟩ := hob
  obtain ⟨hS, hfc, kC, hkC, hkind⟩ := hK.1 ci _ hc
  obtain ⟨cf, kf, fi, f, hi, hsl⟩ := hS j hj
  have hlay := hts _ (hin _ (u_in_lay hj))
  unfold u_lay at hlay
  rw [if_pos hfin] at hlay
  have hst := (u_facts hfc hkC (u_lays hts hin hj) hi).1
  have hcf : m.cls = cf := by
    obtain ⟨_, _, c', _, _, _, -, -, hf', -, -, -, hown2, -⟩ := Cond.laysFinal_spec hlay
    have e1 : c' = cf := by have := hi.symm.trans hf'; simp at this; exact this.1.symm
    rw [hsm, hcl _ hc] at hown2
    rw [← e1]; exact Option.some.inj (hown.symm.trans hown2)
  have h6 := u_fits hfc hkC hkind (Or.inr hlay) hi hd hnv hfv
  refine W.putFinK hx hb hown (hts _ hl) (by rw [hsm] at hi; exact hi) hst hcf hin2 (by rw [q2]; exact h6) q1 q3 (by rw [hsl]; exact k2_hasslot (q4 j hj)) rfl rfl hdg fun H' e1 e2 e3 => ?_
  rw [hsl] at e1 ⊢
  refine kk H' _ ⟨h.1.upd e2 e3 (fun k hk i => by rw [hw, if_neg (fun z => hk z.1)]) ⟨fun _ => ?_, fun a1 a2 => by rw [ht.2] at a1; omega⟩, h.2.put e2 e3 (Nat.le_add_right _ _)⟩
  rw [ht.2, hn]
  exact t_OB.to (V := updV (vl B w t) j v) ⟨_, e1, q2, q3, t_set q4 hap hj v⟩ (fun i _ => by rw [hw]; by_cases z : i = j <;> simp [updV, z])
theorem r_pi (X : Cx p s m args c cc own D) (h : Hp B D n w s H locs) {t ci j idx : Nat} {ty : FieldType} (ht : t < n ∧ kd t = ci) (hf : FK own idx ci j false) (hp : PKf ci j false ty) {x : Int32} (hnv : narrow ty (.int x) = .int x) (hfv : fits ty (.int x) = true) (hdg : decode cc pc = .ok (.putfield idx, 3))
    (kk : ∀ (H1 : Heap) (locs1 : List Loc), Hp B D n (upI w t j x) s H1 locs1 → W p l e R s m args below meth c H1 locs1 cells slots Q (F0 m (pc + 3) ls rest)) : W p l e R s m args below meth c H locs cells slots Q (F0 m pc ls (.int x :: .ref (B + t) :: rest)) :=
  r_put X h ht hf hp hnv hfv (vl_upI (by rw [ht.2]; obtain ⟨q, -, -, -, -, hr⟩ := hf; exact hr)) hdg kk
theorem r_prF (X : Cx p s m args c cc own D) (h : Hp B D n w s H locs) {t ci j idx : Nat} {ty : FieldType} (ht : t < n ∧ kd t = ci) (hf : FK own idx ci j true) (hp : PKf ci j true ty) (hin2 : meth.name = "<init>") (hcl : ∀ q : vw_C, vwCl[ci]? = some q → q.1 = own) {x : Nat} (hnv : ∀ a : Nat, narrow ty (.ref a) = .ref a ∧ fits ty (.ref a) = true) (hdg : decode cc pc = .ok (.putfield idx, 3))
    (kk : ∀ (H1 : Heap) (locs1 : List Loc), Hp B D n (upR w t j x) s H1 locs1 → W p l e R s m args below meth c H1 locs1 cells slots Q (F0 m (pc + 3) ls rest)) : W p l e R s m args below meth c H locs cells slots Q (F0 m pc ls (.ref (B + x) :: .ref (B + t) :: rest)) :=
  r_putF X h ht hf hp hin2 hcl (hnv _).1 (hnv _).2 (vl_upR (by rw [ht.2]; obtain ⟨q, -, -, -, -, hr⟩ := hf; exact hr)) hdg kk
theorem r_ald (X : Cx p s m args c cc own D) (h : Hp B D n w s H locs) {a : Nat} (ha : a < n ∧ kd a = 9) {i : Int32} (hin : vp_in i (ln a)) (hdg : decode cc pc = .ok (.iaload, 1))
    (kk : W p l e R s m args below meth c H locs cells slots Q (F0 m (pc + 1) ls (.int (w.1 a i.toNatClampNeg) :: rest))) : W p l e R s m args below meth c H locs cells slots Q (F0 m pc ls (.int i :: .ref (B + a) :: rest)) := by
  obtain ⟨hx, hb, hown, hts, hK, hA, -⟩ := X
  have hc := (h.1.2 a ha.1).2 (by rw [ha.2]; decide) (by rw [ha.2]; decide)
  rw [ha.2] at hc
  have hlt : i.toNatClampNeg < ln a := Nat.not_le.mp fun q => hin (Or.inr q)
  exact W.iald (v := .int (w.1 a i.toNatClampNeg)) hx hb hc ((hA 9 (by decide) (by decide)).1 (ln a) (vl B w a)) (fun q => by cases q) (by show ¬ (i < 0 ∨ (arrV _ _ _).slots.size ≤ _); rw [arrV_size]; exact hin) (by show (arrV _ _ _).slots[_]? = _; rw [arrV_read _ _ hlt, vl_I (by rw [ha.2]; rfl)]) rfl rfl hdg kk
theorem r_ast (X : Cx p s m args c cc own D) (h : Hp B D n w s H locs) {a : Nat} (ha : a < n ∧ kd a = 9) {i x : Int32} (hin : vp_in i (ln a)) (hdg : decode cc pc = .ok (.iastore, 1))
    (kk : ∀ (H1 : Heap) (locs1 : List Loc), Hp B D n (upI w a i.toNatClampNeg x) s H1 locs1 → W p l e R s m args below meth c H1 locs1 cells slots Q (F0 m (pc + 1) ls rest)) : W p l e R s m args below meth c H locs cells slots Q (F0 m pc ls (.int x :: .int i :: .ref (B + a) :: rest)) := by
  obtain ⟨hx, hb, hown, hts, hK, hA, -⟩ := X
  have hc := (h.1.2 a ha.1).2 (by rw [ha.2]; decide) (by rw [ha.2]; decide)
  rw [ha.2] at hc
  have hv := vl_upI (B := B) (w := w) (x := x) (t := a) (j := i.toNatClampNeg) (by rw [ha.2]; rfl)
  refine W.iast hx hb hc ((hA 9 (by decide) (by decide)).1 (ln a) (vl B w a)) (fun q => by cases q) (by show ¬ (i < 0 ∨ (arrV _ _ _).slots.size ≤ _); rw [arrV_size]; exact hin) rfl rfl hdg fun H1 e1 e2 e3 => ?_
  refine kk H1 _ ⟨h.1.upd e2 e3 (fun k hk j => by rw [hv, if_neg (fun z => hk z.1)]) ⟨fun h9 => by rw [ha.2] at h9; omega, fun _ _ => ?_⟩, h.2.put e2 e3 (Nat.le_add_right _ _)⟩
  rw [e1, ha.2, arrV_store]
  refine congrArg (fun f => some (arrV (D.2 9) (ln a) f)) (funext fun j => ?_)
  rw [hv]
  by_cases z : j = i.toNatClampNeg <;> simp [updV, z]
theorem r_aald (X : Cx p s m args c cc own D) (h : Hp B D n w s H locs) {a ka r : Nat} (ha : a < n ∧ kd a = ka) (hka : 10 ≤ ka ∧ ka < 14) {i : Int32} (hin : vp_in i (ln a)) (hr : w.2 a i.toNatClampNeg = some r) (hdg : decode cc pc = .ok (.aaload, 1))
    (kk : W p l e R s m args below meth c H locs cells slots Q (F0 m (pc + 1) ls (.ref (B + r) :: rest))) : W p l e R s m args below meth c H locs cells slots Q (F0 m pc ls (.int i :: .ref (B + a) :: rest)) := by
  obtain ⟨hx, hb, hown, hts, hK, hA, -⟩ := X
  have hc := (h.1.2 a ha.1).2 (by rw [ha.2]; omega) (by rw [ha.2]; omega)
  rw [ha.2] at hc
  have hlt : i.toNatClampNeg < ln a := Nat.not_le.mp fun q => hin (Or.inr q)
  have hrf : isRf (kd a) i.toNatClampNeg = true := by rw [ha.2]; unfold isRf; rw [if_neg (by omega)]; exact decide_eq_true hka.1
  have hty : (aty ka).isReference = true := by
    obtain ⟨h1, h2⟩ := hka
    rcases (show ka = 10 ∨ ka = 11 ∨ ka = 12 ∨ ka = 13 by omega) with e | e | e | e <;> rw [e] <;> rfl
  exact W.aald (v := .ref (B + r)) (ty := aty ka) hx hb hc ((hA ka (by omega) (by omega)).1 (ln a) (vl B w a)) hty (fun q => by cases q) (by show ¬ (i < 0 ∨ (arrV _ _ _).slots.size ≤ _); rw [arrV_size]; exact hin) (by show (arrV _ _ _).slots[_]? = _; rw [arrV_read _ _ hlt, vl_R hrf hr]) rfl rfl hdg kk
theorem r_aast (X : Cx p s m args c cc own D) (h : Hp B D n w s H locs) {a ka t ci : Nat} (ha : a < n ∧ kd a = ka) (hka : 10 ≤ ka ∧ ka < 13) (ht : t < n ∧ kd t = ci) {q : vw_C} (hq : CI ci q) (hel : aty ka = .object q.1) {i : Int32} (hin : vp_in i (ln a)) (hdg : decode cc pc = .ok (.aastore, 1))
    (kk : ∀ (H1 : Heap) (locs1 : List Loc), Hp B D n (upR w a i.toNatClampNeg t) s H1 locs1 → W p l e R s m args below meth c H1 locs1 cells slots Q (F0 m (pc + 1) ls rest)) : W p l e R s m args below meth c H locs cells slots Q (F0 m pc ls (.ref (B + t) :: .int i :: .ref (B + a) :: rest)) := by
  obtain ⟨hx, hb, hown, hts, hK, hA, -⟩ := X
  have hc := (h.1.2 a ha.1).2 (by rw [ha.2]; omega) (by rw [ha.2]; omega)
  rw [ha.2] at hc
  have hlt : i.toNatClampNeg < ln a := Nat.not_le.mp fun q => hin (Or.inr q)
  have h0 : ¬ i < 0 := fun q => hin (Or.inl q)
  have hrf : isRf (kd a) i.toNatClampNeg = true := by rw [ha.2]; unfold isRf; rw [if_neg (by omega)]; exact decide_eq_true hka.1
  obtain ⟨hc2, hn2, h92, -⟩ := hq
  have hob := (h.1.2 t ht.1).1 (by rw [ht.2]; exact h92)
  rw [ht.2] at hob
  obtain ⟨cellV, g1, g2, g3, -⟩ := hob
  have hcls := (hK.1 ci q hc2).2
  have hRA := (hA ka (by omega) (by omega)).2
  rw [hel] at hRA
  obtain ⟨kA, comp, k1, k2, k3, -⟩ := hRA
  have hcomp : comp = D.1.1 ci := Option.some.inj (k3.symm.trans hcls.1)
  subst hcomp
  obtain ⟨kC, hkC, -⟩ := hcls.2
  have hv := vl_upR (B := B) (w := w) (x := t) (t := a) (j := i.toNatClampNeg) hrf
  refine W.aast hx hb hc (fun q h => by cases h) (fun h => by cases h) k1 k2 rfl hkC ⟨h0, by show _ < (arrV _ _ _).slots.size; rw [arrV_size]; exact hlt⟩ g1 (fun q h => by rw [g3] at h; cases h) (by rw [g2]; exact hkC) (by rw [g2]; exact va_assign hcls) rfl rfl hdg fun H1 e1 e2 e3 => ?_
  refine kk H1 _ ⟨h.1.upd e2 e3 (fun k hk j => by rw [hv, if_neg (fun z => hk z.1)]) ⟨fun h9 => by rw [ha.2] at h9; omega, fun _ _ => ?_⟩, h.2.put e2 e3 (Nat.le_add_right _ _)⟩
  rw [e1, ha.2, arrV_store]
  refine congrArg (fun f => some (arrV (D.2 ka) (ln a) f)) (funext fun j => ?_)
  rw [hv]
  by_cases z : j = i.toNatClampNeg <;> simp [updV, z]
theorem r_alen (X : Cx p s m args c cc own D) (h : Hp B D n w s H locs) {a ka : Nat} (ha : a < n ∧ kd a = ka) (hka : 9 ≤ ka ∧ ka < 14) (hdg : decode cc pc = .ok (.arraylength, 1))
    (kk : W p l e R s m args below meth c H locs cells slots Q (F0 m (pc + 1) ls (.int (Int32.ofNat (ln a)) :: rest))) : W p l e R s m args below meth c H locs cells slots Q (F0 m pc ls (.ref (B + a) :: rest)) := by
  obtain ⟨hx, hb, hown, hts, hK, hA, -⟩ := X
  have hc := (h.1.2 a ha.1).2 (by rw [ha.2]; omega) (by rw [ha.2]; omega)
  rw [ha.2] at hc
  exact W.alen (n := Int32.ofNat (ln a)) hx hb hc ((hA ka (by omega) (by omega)).1 (ln a) (vl B w a)) (by rw [arrV_size] <;> rfl) rfl rfl hdg kk
theorem kc {st0 : List Value} {a : Array Value} {mc ms n' : Nat} {w' : Wd} {o : Option Value} (hr : va_Run p l e R s m args below meth c H locs cells slots mc ms (F0 m pc ls st0) rest (QC B D n' w' o a) (fun q => B ≤ q)) (h : Hp B D n w s H locs)
    (kk : ∀ (H1 : Heap) (locs1 : List Loc), Hp B D n' w' s H1 locs1 → W p l e R s m args below meth c H1 locs1 (cells + mc) (slots + ms) Q (F0 m (pc + 3) ls (o.toList ++ rest))) : W p l e R s m args below meth c H locs cells slots Q (F0 m pc ls st0) := by
  intro T hT X
  obtain ⟨v, st₀, t, T', L, h0, X', hL, e1, e2, ⟨hv, hRp, hz, hk⟩, st⟩ := hr T hT X
  cases hv
  rw [h0] at hz hk
  obtain ⟨t2, a1, b1⟩ := kk T'.heap (locs ++ L) ⟨by rw [e1]; exact hRp, Nat.le_trans h.2.1 (by rw [e1]; exact hz), fun q h1 h2 => by rw [e1, hk q (Nat.lt_of_lt_of_le h1 h.2.1) h2]; exact h.2.2.1 q h1 h2, fun q hq => by
      rcases List.mem_append.mp hq with h1 | h1
      · exact h.2.2.2 q h1
      · exact hL q h1⟩ T' rfl X'
  exact ⟨t2, st t2 a1, b1⟩
theorem pc_ok (X : Cx p s m args c cc own D) (h : Hp B D n w s H locs) (av : List Value) : ∀ U : State, U.heap = H → s.WarmedH U.vm → PC B D n w av av.toArray U := fun U hU hW => ⟨rfl, by rw [hU]; exact h.1, by rw [hU, h.1.1]; omega, X.2.2.2.2.moved hW.alike⟩
theorem pc_blind {av : List Value} : FrameBlind (PC B D n w av) := fun a U g mk q => ⟨q.1, q.2.1, q.2.2.1, q.2.2.2.moved (u := U) (U := U.calling g mk a) (Vm.Alike.refl U.vm)⟩
theorem kV (X : Cx p s m args c cc own D) {nL : Nat} (hml : c.maxLocals = nL) (h : Hp B D n w s H locs) {y : MethodName} {bytes : ByteArray} {maxL fr lo mc ms np t ci idx n' : Nat} {ret : Option FieldType} {As : List Value} {w' : Wd} {o : Option Value} {st0 : List Value}
    (hM : Ct l y bytes maxL ret fr lo mc ms B D (.ref (B + t) :: As) n w o n' w') (hF : CFv y bytes maxL ret np) (hl : Cond.methodLink own idx y ∈ AL) (ht : t < n ∧ kd t = ci) {q : vw_C} (hq : CI ci q) (hcl : q.1 = y.cls) (hn : As.length = np) (hls : ls.size = nL) (hst : st0 = As.reverse ++ .ref (B + t) :: rest) (hW : (rest.map fun v => v.category).sum ≤ 8) (hR : fr + 1 ≤ R.frames ∧ 8 + (maxL + 11) + lo ≤ R.locals) (hf : cells + mc ≤ R.cells ∧ slots + ms ≤ R.slots) (hdg : decode cc pc = .ok (.invokevirtual idx, 3))
    (kk : ∀ (H1 : Heap) (locs1 : List Loc), Hp B D n' w' s H1 locs1 → W p l e R s m args below meth c H1 locs1 (cells + mc) (slots + ms) Q (F0 m (pc + 3) ls (o.toList ++ rest))) : W p l e R s m args below meth c H locs cells slots Q (F0 m pc ls st0) := by
  have X0 := X
  obtain ⟨hx, hb, hown, hts, hK, -⟩ := X
  obtain ⟨f1, f2, f3, f4, f5, f6, f7⟩ := hF
  obtain ⟨hc2, hn2, h92, -⟩ := hq
  have hob := (h.1.2 t ht.1).1 (by rw [ht.2]; exact h92)
  rw [ht.2] at hob
  obtain ⟨cell, g1, g2, g3, -⟩ := hob
  have hcls := (hK.1 ci q hc2).2
  refine kc (va_runV (Ts := AL) (As := As) (rest := rest) (C := y.cls) (b := B + t) ⟨hx, hb, hml, hown, hts⟩ hM ⟨callB_of np hts (al_in f1) rfl rfl rfl (hts _ f2) (hts _ hl) ⟨f5, f6, f7⟩ hR, hts _ f3, hts _ f4⟩ ⟨pc_blind, ⟨cell, g1, by rw [g3]; rfl, by rw [g2, ← hcl]; exact hcls.1⟩, pc_ok X0 h _⟩ rfl hn hls hst (lv_room hW) hdg hf) h kk
theorem kS (X : Cx p s m args c cc own D) {nL : Nat} (hml : c.maxLocals = nL) (h : Hp B D n w s H locs) {y : MethodName} {bytes : ByteArray} {maxL fr lo mc ms np idx n' : Nat} {ret : Option FieldType} {As : List Value} {w' : Wd} {o : Option Value} {st0 : List Value}
    (hM : Ct l y bytes maxL ret fr lo mc ms B D As n w o n' w') (hF : CFs y bytes maxL ret np) (hl : Cond.methodLink own idx y ∈ AL) (hn : As.length = np) (hls : ls.size = nL) (hst : st0 = As.reverse ++ rest) (hW : (rest.map fun v => v.category).sum ≤ 8) (hR : fr + 1 ≤ R.frames ∧ 8 + (maxL + 11) + lo ≤ R.locals) (hf : cells + mc ≤ R.cells ∧ slots + ms ≤ R.slots) (hdg : decode cc pc = .ok (.invokestatic idx, 3))
    (kk : ∀ (H1 : Heap) (locs1 : List Loc), Hp B D n' w' s H1 locs1 → W p l e R s m args below meth c H1 locs1 (cells + mc) (slots + ms) Q (F0 m (pc + 3) ls (o.toList ++ rest))) : W p l e R s m args below meth c H locs cells slots Q (F0 m pc ls st0) := by
  have X0 := X
  obtain ⟨hx, hb, hown, hts, hK, -⟩ := X
  obtain ⟨f1, f2, f3, f5, f6, f7⟩ := hF
  refine kc (va_runS (Ts := AL) (As := As) (rest := rest) ⟨hx, hb, hml, hown, hts⟩ hM ⟨callB_of np hts (al_in f1) rfl rfl rfl (hts _ f2) (hts _ hl) ⟨f5, f6, f7⟩ hR, hts _ f3⟩ ⟨pc_blind, pc_ok X0 h _⟩ rfl hn hls hst (lv_room hW) hdg hf) h kk
theorem kI (X : Cx p s m args c cc own D) {nL : Nat} (hml : c.maxLocals = nL) (h : Hp B D n w s H locs) {y : MethodName} {bytes : ByteArray} {maxL fr lo mc ms np t idx n' : Nat} {As : List Value} {w' : Wd} {st0 : List Value} (hy1 : y.name = "<init>")
    (hM : Ct l y bytes maxL none fr lo mc ms B D (.ref (B + t) :: As) n w none n' w') (hF : CFi y bytes maxL none np) (hl : Cond.methodLink own idx y ∈ AL) (hn : As.length = np) (hls : ls.size = nL) (hst : st0 = As.reverse ++ .ref (B + t) :: rest) (hW : (rest.map fun v => v.category).sum ≤ 8) (hR : fr + 1 ≤ R.frames ∧ 8 + (maxL + 11) + lo ≤ R.locals) (hf : cells + mc ≤ R.cells ∧ slots + ms ≤ R.slots) (hdg : decode cc pc = .ok (.invokespecial idx, 3))
    (kk : ∀ (H1 : Heap) (locs1 : List Loc), Hp B D n' w' s H1 locs1 → W p l e R s m args below meth c H1 locs1 (cells + mc) (slots + ms) Q (F0 m (pc + 3) ls rest)) : W p l e R s m args below meth c H locs cells slots Q (F0 m pc ls st0) := by
  have X0 := X
  obtain ⟨hx, hb, hown, hts, hK, -⟩ := X
  obtain ⟨f1, f2, f3, f5, f6, f7⟩ := hF
  refine kc (o := none) (va_runI (Ts := AL) (As := As) (rest := rest) (b := B + t) ⟨hx, hb, hml, hown, hts⟩ hM ⟨callB_of np hts (al_in f1) rfl rfl rfl (hts _ f2) (hts _ hl) ⟨f5, f6, f7⟩ hR, hy1, hts _ f3⟩ ⟨pc_blind, pc_ok X0 h _⟩ rfl hn hls hst (lv_room hW) hdg hf) h kk
theorem m_of {y : MethodName} {bytes : ByteArray} {maxL fr lo mc ms n' : Nat} {ret : Option FieldType} {av : List Value} {w' : Wd} {o : Option Value} (hy : plainName y.cls = true) (hlen : (lg_sl av).length ≤ maxL)
    (body : ∀ (p : Program) (e : Env) (s : State) (m : MethodId) (args : Array Value) (below : List Frame) (meth : Method) (c : Code), Cx p s m args c bytes y.cls D → c.maxLocals = maxL → meth.sig.returnType = ret → meth.locks = false → meth.name = y.name → ∀ (H : Heap) (locs : List Loc), Hp B D n w s H locs → ∀ ls, lv_has ls maxL (lv_args 0 av) →
      W p l e (rmk fr lo mc ms) s m args below meth c H locs 0 0 (MZ below B D n' w' o args s mc ms) (F0 m 0 ls [])) : Ct l y bytes maxL ret fr lo mc ms B D av n w o n' w' := by
  refine Met.ofW (cc := bytes) (maxL := maxL) (ret := ret) hy rfl ?_
  intro p e s m args below meth c s₁ Bd hml hv
  obtain ⟨rfl, hRp, hBs, hK⟩ := hv
  have hts := atoms_spec (ws := Cond.code y bytes maxL ret :: AL) Bd.pre
  rw [lg_entry_eq]
  exact body p e s m _ below meth c ⟨Bd.exec, Bd.bytes, findClass_of_methodNamed Bd.named, fun x hx => hts x (List.mem_cons_of_mem _ hx), hK⟩ hml Bd.returns Bd.notSynchronized (name_of_methodNamed Bd.named Bd.method).1 _ _ ⟨hRp, va_S.rf⟩ _ (lv_entry av hlen)
theorem pcx_ok (X : Cx p s m args c cc own D) (h : Hp B D n w s H locs) {b L : Nat} {xs : Nat → Int32} (hX : va_X b L xs s s.heap) (hbl : b < s.heap.size) (hbA : ¬ (fun q : Nat => B ≤ q) b) (av : List Value) : ∀ U : State, U.heap = H → s.WarmedH U.vm → PCX B D n w b L xs av av.toArray U := fun U hU hW => ⟨pc_ok X h av U hU hW, Nat.lt_of_not_le hbA, by rw [hU]; exact (hX.kept (h.2.2.1 b hbl hbA)).moved hW.alike⟩
theorem pcx_blind {b L : Nat} {xs : Nat → Int32} {av : List Value} : FrameBlind (PCX B D n w b L xs av) := fun a U g mk q => ⟨pc_blind a U g mk q.1, q.2.1, q.2.2.moved (u := U) (U := U.calling g mk a) (Vm.Alike.refl U.vm)⟩
theorem kSX (X : Cx p s m args c cc own D) {nL : Nat} (hml : c.maxLocals = nL) (h : Hp B D n w s H locs) {b L : Nat} {xs : Nat → Int32} (hX : va_X b L xs s s.heap) (hbl : b < s.heap.size) (hbA : ¬ (fun q : Nat => B ≤ q) b) {y : MethodName} {bytes : ByteArray} {maxL fr lo mc ms np idx n' : Nat} {ret : Option FieldType} {As : List Value} {w' : Wd} {o : Option Value} {st0 : List Value}
    (hM : CtX l y bytes maxL ret fr lo mc ms B D b L xs As n w o n' w') (hF : CFs y bytes maxL ret np) (hl : Cond.methodLink own idx y ∈ AL) (hn : As.length = np) (hls : ls.size = nL) (hst : st0 = As.reverse ++ rest) (hW : (rest.map fun v => v.category).sum ≤ 8) (hR : fr + 1 ≤ R.frames ∧ 8 + (maxL + 11) + lo ≤ R.locals) (hf : cells + mc ≤ R.cells ∧ slots + ms ≤ R.slots) (hdg : decode cc pc = .ok (.invokestatic idx, 3))
    (kk : ∀ (H1 : Heap) (locs1 : List Loc), Hp B D n' w' s H1 locs1 → W p l e R s m args below meth c H1 locs1 (cells + mc) (slots + ms) Q (F0 m (pc + 3) ls (o.toList ++ rest))) : W p l e R s m args below meth c H locs cells slots Q (F0 m pc ls st0) := by
  have X0 := X
  obtain ⟨hx, hb, hown, hts, hK, -⟩ := X
  obtain ⟨f1, f2, f3, f5, f6, f7⟩ := hF
  refine kc (va_runS (Ts := AL) (As := As) (rest := rest) ⟨hx, hb, hml, hown, hts⟩ hM ⟨callB_of np hts (al_in f1) rfl rfl rfl (hts _ f2) (hts _ hl) ⟨f5, f6, f7⟩ hR, hts _ f3⟩ ⟨pcx_blind, pcx_ok X0 h hX hbl hbA _⟩ rfl hn hls hst (lv_room hW) hdg hf) h kk
theorem mX_of {b L : Nat} {xs : Nat → Int32} {y : MethodName} {bytes : ByteArray} {maxL fr lo mc ms n' : Nat} {ret : Option FieldType} {av : List Value} {w' : Wd} {o : Option Value} (hy : plainName y.cls = true) (hlen : (lg_sl av).length ≤ maxL)
    (body : ∀ (p : Program) (e : Env) (s : State) (m : MethodId) (args : Array Value) (below : List Frame) (meth : Method) (c : Code), Cx p s m args c bytes y.cls D → c.maxLocals = maxL → meth.sig.returnType = ret → meth.locks = false → va_X b L xs s s.heap → b < s.heap.size → ¬ (fun q : Nat => B ≤ q) b → ∀ (H : Heap) (locs : List Loc), Hp B D n w s H locs → ∀ ls, lv_has ls maxL (lv_args 0 av) →
      W p l e (rmk fr lo mc ms) s m args below meth c H locs 0 0 (MZ below B D n' w' o args s mc ms) (F0 m 0 ls [])) : CtX l y bytes maxL ret fr lo mc ms B D b L xs av n w o n' w' := by
  refine Met.ofW (cc := bytes) (maxL := maxL) (ret := ret) hy rfl ?_
  intro p e s m args below meth c s₁ Bd hml hv
  obtain ⟨⟨rfl, hRp, hBs, hK⟩, hbB, hX⟩ := hv
  have hts := atoms_spec (ws := Cond.code y bytes maxL ret :: AL) Bd.pre
  rw [lg_entry_eq]
  exact body p e s m _ below meth c ⟨Bd.exec, Bd.bytes, findClass_of_methodNamed Bd.named, fun x hx => hts x (List.mem_cons_of_mem _ hx), hK⟩ hml Bd.returns Bd.notSynchronized hX (Nat.lt_of_lt_of_le hbB hBs) (Nat.not_le.mpr hbB) _ _ ⟨hRp, va_S.rf⟩ _ (lv_entry av hlen)
theorem e_i (X : Cx p s m args c cc own D) (hr : meth.sig.returnType = some .int) (hlk : meth.locks = false) (h : Hp B D n w s H locs) {x x' : Int32} {w' : Wd} (he : x = x' ∧ w = w') (hdg : decode cc pc = .ok (.ireturn, 1)) : W p l e R s m args below meth c H locs cells slots (MQ below (QC B D n w' (some (.int x'))) args s cells slots (fun q => B ≤ q)) (F0 m pc ls [.int x]) := by
  obtain ⟨rfl, rfl⟩ := he
  exact W.iret X.1 X.2.1 hr (fun t ht hW => ⟨rfl, by rw [ht]; exact h.1, h.2.F ht⟩) h.2.2.2 hdg hlk
theorem e_z (X : Cx p s m args c cc own D) (hr : meth.sig.returnType = some .boolean) (hlk : meth.locks = false) (h : Hp B D n w s H locs) {x x' : Int32} {w' : Wd} (hx : x = 0 ∨ x = 1) (he : x = x' ∧ w = w') (hdg : decode cc pc = .ok (.ireturn, 1)) : W p l e R s m args below meth c H locs cells slots (MQ below (QC B D n w' (some (.int x'))) args s cells slots (fun q => B ≤ q)) (F0 m pc ls [.int x]) := by
  obtain ⟨rfl, rfl⟩ := he
  exact W.zret X.1 X.2.1 hr (by rcases hx with e | e <;> rw [e] <;> rfl) (fun t ht hW => ⟨rfl, by rw [ht]; exact h.1, h.2.F ht⟩) h.2.2.2 hdg hlk
theorem e_l (X : Cx p s m args c cc own D) (hr : meth.sig.returnType = some .long) (hlk : meth.locks = false) (h : Hp B D n w s H locs) {x x' : Int64} {w' : Wd} (he : x = x' ∧ w = w') (hdg : decode cc pc = .ok (.lreturn, 1)) : W p l e R s m args below meth c H locs cells slots (MQ below (QC B D n w' (some (.long x'))) args s cells slots (fun q => B ≤ q)) (F0 m pc ls [.long x]) := by
  obtain ⟨rfl, rfl⟩ := he
  exact W.lret X.1 X.2.1 hr (fun t ht hW => ⟨rfl, by rw [ht]; exact h.1, h.2.F ht⟩) h.2.2.2 hdg hlk
theorem e_a (X : Cx p s m args c cc own D) {C : String} (hr : meth.sig.returnType = some (.object C)) (hlk : meth.locks = false) (h : Hp B D n w s H locs) {x x' : Nat} {w' : Wd} (he : x = x' ∧ w = w') (hdg : decode cc pc = .ok (.areturn, 1)) : W p l e R s m args below meth c H locs cells slots (MQ below (QC B D n w' (some (.ref (B + x')))) args s cells slots (fun q => B ≤ q)) (F0 m pc ls [.ref (B + x)]) := by
  obtain ⟨rfl, rfl⟩ := he
  exact W.aret X.1 X.2.1 hr (Or.inl ⟨C, rfl⟩) (Or.inr ⟨_, rfl⟩) (fun t ht hW => ⟨rfl, by rw [ht]; exact h.1, h.2.F ht⟩) h.2.2.2 hdg hlk
theorem e_v (X : Cx p s m args c cc own D) (hr : meth.sig.returnType = none) (hlk : meth.locks = false) {n' : Nat} (h : Hp B D n w s H locs) {w' : Wd} (he : n = n' ∧ w = w') (hdg : decode cc pc = .ok (.return_, 1)) : W p l e R s m args below meth c H locs cells slots (MQ below (QC B D n' w' none) args s cells slots (fun q => B ≤ q)) (F0 m pc ls []) := by
  obtain ⟨rfl, rfl⟩ := he
  exact W.vret X.1 X.2.1 hr (fun t ht hW => ⟨rfl, by rw [ht]; exact h.1, h.2.F ht⟩) h.2.2.2 hdg hlk
end RW

theorem ci_0 : CI 0 ("GrowthGrid$Cells", TX0, 4) := ⟨rfl, rfl, by decide, inX0, tyX0, tyX0_ok, nmX0⟩
theorem ci_1 : CI 1 ("GrowthGrid$Corners", TX1, 6) := ⟨rfl, rfl, by decide, inX1, tyX1, tyX1_ok, nmX1⟩
theorem ci_2 : CI 2 ("GrowthGrid$Deeds", TX2, 3) := ⟨rfl, rfl, by decide, inX2, tyX2, tyX2_ok, nmX2⟩
theorem ci_3 : CI 3 ("GrowthGrid$Holder", TX3, 4) := ⟨rfl, rfl, by decide, inX3, tyX3, tyX3_ok, nmX3⟩
theorem ci_4 : CI 4 ("GrowthGrid$RowSearch", TX4, 1) := ⟨rfl, rfl, by decide, inX4, tyX4, tyX4_ok, nmX4⟩
theorem ci_5 : CI 5 ("GrowthGrid$Shape", TX5, 3) := ⟨rfl, rfl, by decide, inX5, tyX5, tyX5_ok, nmX5⟩
theorem ci_6 : CI 6 ("GrowthGrid$Tape", TX6, 2) := ⟨rfl, rfl, by decide, inX6, tyX6, tyX6_ok, nmX6⟩
theorem ci_7 : CI 7 ("GrowthGrid", TX7, 10) := ⟨rfl, rfl, by decide, inX7, tyX7, tyX7_ok, nmX7⟩
theorem fk_X0_9 : FK "GrowthGrid$Cells" 9 0 0 false := ⟨_, ci_0, by decide, k_30, rfl, rfl⟩
theorem fk_X7_70 : FK "GrowthGrid" 70 0 0 false := ⟨_, ci_0, by decide, k_31, rfl, rfl⟩
theorem fk_X4_16 : FK "GrowthGrid$RowSearch" 16 0 0 false := ⟨_, ci_0, by decide, k_32, rfl, rfl⟩
theorem fk_X1_36 : FK "GrowthGrid$Corners" 36 0 0 false := ⟨_, ci_0, by decide, k_33, rfl, rfl⟩
theorem fk_X0_15 : FK "GrowthGrid$Cells" 15 0 1 false := ⟨_, ci_0, by decide, k_34, rfl, rfl⟩
theorem fk_X7_74 : FK "GrowthGrid" 74 0 1 false := ⟨_, ci_0, by decide, k_35, rfl, rfl⟩
theorem fk_X4_22 : FK "GrowthGrid$RowSearch" 22 0 1 false := ⟨_, ci_0, by decide, k_36, rfl, rfl⟩
theorem fk_X1_39 : FK "GrowthGrid$Corners" 39 0 1 false := ⟨_, ci_0, by decide, k_37, rfl, rfl⟩
theorem fk_X0_18 : FK "GrowthGrid$Cells" 18 0 2 false := ⟨_, ci_0, by decide, k_38, rfl, rfl⟩
theorem fk_X1_51 : FK "GrowthGrid$Corners" 51 0 2 false := ⟨_, ci_0, by decide, k_39, rfl, rfl⟩
theorem fk_X7_102 : FK "GrowthGrid" 102 0 2 false := ⟨_, ci_0, by decide, k_40, rfl, rfl⟩
theorem fk_X0_21 : FK "GrowthGrid$Cells" 21 0 3 true := ⟨_, ci_0, by decide, k_41, rfl, rfl⟩
theorem fk_X5_9 : FK "GrowthGrid$Shape" 9 5 0 true := ⟨_, ci_5, by decide, k_65, rfl, rfl⟩
theorem fk_X5_15 : FK "GrowthGrid$Shape" 15 5 1 false := ⟨_, ci_5, by decide, k_66, rfl, rfl⟩
theorem fk_X7_142 : FK "GrowthGrid" 142 5 1 false := ⟨_, ci_5, by decide, k_67, rfl, rfl⟩
theorem fk_X5_19 : FK "GrowthGrid$Shape" 19 5 2 false := ⟨_, ci_5, by decide, k_68, rfl, rfl⟩
theorem fk_X7_139 : FK "GrowthGrid" 139 5 2 false := ⟨_, ci_5, by decide, k_69, rfl, rfl⟩
theorem fk_X1_11 : FK "GrowthGrid$Corners" 11 1 0 true := ⟨_, ci_1, by decide, k_77, rfl, rfl⟩
theorem fk_X1_18 : FK "GrowthGrid$Corners" 18 1 1 true := ⟨_, ci_1, by decide, k_78, rfl, rfl⟩
theorem fk_X1_22 : FK "GrowthGrid$Corners" 22 1 2 false := ⟨_, ci_1, by decide, k_79, rfl, rfl⟩
theorem fk_X1_26 : FK "GrowthGrid$Corners" 26 1 3 false := ⟨_, ci_1, by decide, k_80, rfl, rfl⟩
theorem fk_X1_29 : FK "GrowthGrid$Corners" 29 1 4 true := ⟨_, ci_1, by decide, k_81, rfl, rfl⟩
theorem fk_X1_33 : FK "GrowthGrid$Corners" 33 1 5 false := ⟨_, ci_1, by decide, k_82, rfl, rfl⟩
theorem fk_X4_11 : FK "GrowthGrid$RowSearch" 11 4 0 true := ⟨_, ci_4, by decide, k_104, rfl, rfl⟩
theorem fk_X2_11 : FK "GrowthGrid$Deeds" 11 2 0 true := ⟨_, ci_2, by decide, k_117, rfl, rfl⟩
theorem fk_X2_18 : FK "GrowthGrid$Deeds" 18 2 1 false := ⟨_, ci_2, by decide, k_118, rfl, rfl⟩
theorem fk_X2_22 : FK "GrowthGrid$Deeds" 22 2 2 false := ⟨_, ci_2, by decide, k_119, rfl, rfl⟩
theorem fk_X6_9 : FK "GrowthGrid$Tape" 9 6 0 true := ⟨_, ci_6, by decide, k_133, rfl, rfl⟩
theorem fk_X6_15 : FK "GrowthGrid$Tape" 15 6 1 false := ⟨_, ci_6, by decide, k_134, rfl, rfl⟩
theorem fk_X7_205 : FK "GrowthGrid" 205 6 1 false := ⟨_, ci_6, by decide, k_135, rfl, rfl⟩
theorem fk_X3_9 : FK "GrowthGrid$Holder" 9 3 0 false := ⟨_, ci_3, by decide, k_150, rfl, rfl⟩
theorem fk_X3_18 : FK "GrowthGrid$Holder" 18 3 1 true := ⟨_, ci_3, by decide, k_151, rfl, rfl⟩
theorem fk_X3_22 : FK "GrowthGrid$Holder" 22 3 2 true := ⟨_, ci_3, by decide, k_152, rfl, rfl⟩
theorem fk_X3_26 : FK "GrowthGrid$Holder" 26 3 3 false := ⟨_, ci_3, by decide, k_153, rfl, rfl⟩
theorem fk_X7_14 : FK "GrowthGrid" 14 7 0 true := ⟨_, ci_7, by decide, k_163, rfl, rfl⟩
theorem fk_X7_18 : FK "GrowthGrid" 18 7 1 true := ⟨_, ci_7, by decide, k_164, rfl, rfl⟩
theorem fk_X7_21 : FK "GrowthGrid" 21 7 2 true := ⟨_, ci_7, by decide, k_165, rfl, rfl⟩
theorem fk_X7_24 : FK "GrowthGrid" 24 7 3 false := ⟨_, ci_7, by decide, k_166, rfl, rfl⟩
theorem fk_X7_31 : FK "GrowthGrid" 31 7 4 true := ⟨_, ci_7, by decide, k_167, rfl, rfl⟩
theorem fk_X7_35 : FK "GrowthGrid" 35 7 5 false := ⟨_, ci_7, by decide, k_168, rfl, rfl⟩
theorem fk_X7_41 : FK "GrowthGrid" 41 7 6 true := ⟨_, ci_7, by decide, k_169, rfl, rfl⟩
theorem fk_X7_48 : FK "GrowthGrid" 48 7 7 true := ⟨_, ci_7, by decide, k_170, rfl, rfl⟩
theorem fk_X7_55 : FK "GrowthGrid" 55 7 8 true := ⟨_, ci_7, by decide, k_171, rfl, rfl⟩
theorem fk_X7_61 : FK "GrowthGrid" 61 7 9 true := ⟨_, ci_7, by decide, k_172, rfl, rfl⟩
theorem pk_0_0 : PKf 0 0 false .int := ⟨_, ci_0, by decide, rfl, by decide +kernel⟩
theorem pk_0_1 : PKf 0 1 false .int := ⟨_, ci_0, by decide, rfl, by decide +kernel⟩
theorem pk_0_2 : PKf 0 2 false .int := ⟨_, ci_0, by decide, rfl, by decide +kernel⟩
theorem pk_0_3 : PKf 0 3 true (tyX0 3) := ⟨_, ci_0, by decide, rfl, by decide +kernel⟩
theorem pk_1_0 : PKf 1 0 true (tyX1 0) := ⟨_, ci_1, by decide, rfl, by decide +kernel⟩
theorem pk_1_1 : PKf 1 1 true (tyX1 1) := ⟨_, ci_1, by decide, rfl, by decide +kernel⟩
theorem pk_1_2 : PKf 1 2 false .int := ⟨_, ci_1, by decide, rfl, by decide +kernel⟩
theorem pk_1_3 : PKf 1 3 false .int := ⟨_, ci_1, by decide, rfl, by decide +kernel⟩
theorem pk_1_4 : PKf 1 4 true (tyX1 4) := ⟨_, ci_1, by decide, rfl, by decide +kernel⟩
theorem pk_1_5 : PKf 1 5 false .int := ⟨_, ci_1, by decide, rfl, by decide +kernel⟩
theorem pk_2_0 : PKf 2 0 true (tyX2 0) := ⟨_, ci_2, by decide, rfl, by decide +kernel⟩
theorem pk_2_1 : PKf 2 1 false .int := ⟨_, ci_2, by decide, rfl, by decide +kernel⟩
theorem pk_2_2 : PKf 2 2 false .int := ⟨_, ci_2, by decide, rfl, by decide +kernel⟩
theorem pk_3_0 : PKf 3 0 false .int := ⟨_, ci_3, by decide, rfl, by decide +kernel⟩
theorem pk_3_1 : PKf 3 1 true (tyX3 1) := ⟨_, ci_3, by decide, rfl, by decide +kernel⟩
theorem pk_3_2 : PKf 3 2 true (tyX3 2) := ⟨_, ci_3, by decide, rfl, by decide +kernel⟩
theorem pk_3_3 : PKf 3 3 false .int := ⟨_, ci_3, by decide, rfl, by decide +kernel⟩
theorem pk_4_0 : PKf 4 0 true (tyX4 0) := ⟨_, ci_4, by decide, rfl, by decide +kernel⟩
theorem pk_5_0 : PKf 5 0 true (tyX5 0) := ⟨_, ci_5, by decide, rfl, by decide +kernel⟩
theorem pk_5_1 : PKf 5 1 false .int := ⟨_, ci_5, by decide, rfl, by decide +kernel⟩
theorem pk_5_2 : PKf 5 2 false .int := ⟨_, ci_5, by decide, rfl, by decide +kernel⟩
theorem pk_6_0 : PKf 6 0 true (tyX6 0) := ⟨_, ci_6, by decide, rfl, by decide +kernel⟩
theorem pk_6_1 : PKf 6 1 false .int := ⟨_, ci_6, by decide, rfl, by decide +kernel⟩
theorem pk_7_0 : PKf 7 0 true (tyX7 0) := ⟨_, ci_7, by decide, rfl, by decide +kernel⟩
theorem pk_7_1 : PKf 7 1 true (tyX7 1) := ⟨_, ci_7, by decide, rfl, by decide +kernel⟩
theorem pk_7_2 : PKf 7 2 true (tyX7 2) := ⟨_, ci_7, by decide, rfl, by decide +kernel⟩
theorem pk_7_3 : PKf 7 3 false .boolean := ⟨_, ci_7, by decide, rfl, by decide +kernel⟩
theorem pk_7_4 : PKf 7 4 true (tyX7 4) := ⟨_, ci_7, by decide, rfl, by decide +kernel⟩
theorem pk_7_5 : PKf 7 5 false .boolean := ⟨_, ci_7, by decide, rfl, by decide +kernel⟩
theorem pk_7_6 : PKf 7 6 true (tyX7 6) := ⟨_, ci_7, by decide, rfl, by decide +kernel⟩
theorem pk_7_7 : PKf 7 7 true (tyX7 7) := ⟨_, ci_7, by decide, rfl, by decide +kernel⟩
theorem pk_7_8 : PKf 7 8 true (tyX7 8) := ⟨_, ci_7, by decide, rfl, by decide +kernel⟩
theorem pk_7_9 : PKf 7 9 true (tyX7 9) := ⟨_, ci_7, by decide, rfl, by decide +kernel⟩
theorem cf_X0_init : CFi yX0_init cX0_init 1 none 0 := ⟨k_28, k_8, k_27, by decide, by decide, by decide +kernel⟩
theorem cf_X0_hasCell : CFv yX0_hasCell cX0_hasCell 3 (some .boolean) 2 := ⟨k_201, k_8, k_199, k_200, by decide, by decide, by decide +kernel⟩
theorem cf_X0_hasCorner : CFv yX0_hasCorner cX0_hasCorner 3 (some .boolean) 2 := ⟨k_249, k_8, k_247, k_248, by decide, by decide, by decide +kernel⟩
theorem cf_X0_numberAt : CFv yX0_numberAt cX0_numberAt 3 (some .int) 2 := ⟨k_205, k_8, k_203, k_204, by decide, by decide, by decide +kernel⟩
theorem cf_X0_setNumber : CFv yX0_setNumber cX0_setNumber 4 none 3 := ⟨k_369, k_8, k_367, k_368, by decide, by decide, by decide +kernel⟩
theorem cf_X0_placeOf : CFs yX0_placeOf cX0_placeOf 2 (some .int) 2 := ⟨k_209, k_8, k_208, by decide, by decide, by decide +kernel⟩
theorem cf_X0_worthAt : CFv yX0_worthAt cX0_worthAt 4 (some .int) 2 := ⟨k_276, k_8, k_274, k_275, by decide, by decide, by decide +kernel⟩
theorem cf_X0_clearTo : CFv yX0_clearTo cX0_clearTo 4 none 2 := ⟨k_449, k_8, k_447, k_448, by decide, by decide, by decide +kernel⟩
theorem cf_X0_copyFrom : CFv yX0_copyFrom cX0_copyFrom 3 none 1 := ⟨k_232, k_8, k_230, k_231, by decide, by decide, by decide +kernel⟩
theorem cf_X0_filled : CFv yX0_filled cX0_filled 3 (some .int) 0 := ⟨k_421, k_8, k_419, k_420, by decide, by decide, by decide +kernel⟩
theorem cf_X0_total : CFv yX0_total cX0_total 3 (some .int) 0 := ⟨k_429, k_8, k_427, k_428, by decide, by decide, by decide +kernel⟩
theorem cf_X0_differing : CFv yX0_differing cX0_differing 4 (some .int) 1 := ⟨k_374, k_8, k_372, k_373, by decide, by decide, by decide +kernel⟩
theorem cf_X0_spelling : CFv yX0_spelling cX0_spelling 6 (some .int) 0 := ⟨k_240, k_8, k_238, k_239, by decide, by decide, by decide +kernel⟩
theorem cf_X1_init : CFi yX1_init cX1_init 2 none 0 := ⟨k_56, k_9, k_55, by decide, by decide, by decide +kernel⟩
theorem cf_X1_at : CFv yX1_at cX1_at 3 (some (.object "GrowthGrid$Shape")) 2 := ⟨k_268, k_9, k_266, k_267, by decide, by decide, by decide +kernel⟩
theorem cf_X1_growOver : CFv yX1_growOver cX1_growOver 4 none 1 := ⟨k_264, k_9, k_262, k_263, by decide, by decide, by decide +kernel⟩
theorem cf_X1_goBackInto : CFv yX1_goBackInto cX1_goBackInto 6 (some .int) 1 := ⟨k_358, k_9, k_356, k_357, by decide, by decide, by decide +kernel⟩
theorem cf_X1_rimFits : CFv yX1_rimFits cX1_rimFits 5 (some .boolean) 1 := ⟨k_337, k_9, k_335, k_336, by decide, by decide, by decide +kernel⟩
theorem cf_X2_init : CFi yX2_init cX2_init 2 none 0 := ⟨k_112, k_12, k_111, by decide, by decide, by decide +kernel⟩
theorem cf_X2_undoable : CFv yX2_undoable cX2_undoable 1 (some .int) 0 := ⟨k_393, k_12, k_391, k_392, by decide, by decide, by decide +kernel⟩
theorem cf_X2_redoable : CFv yX2_redoable cX2_redoable 1 (some .int) 0 := ⟨k_405, k_12, k_403, k_404, by decide, by decide, by decide +kernel⟩
theorem cf_X2_forgetAll : CFv yX2_forgetAll cX2_forgetAll 1 none 0 := ⟨k_417, k_12, k_415, k_416, by decide, by decide, by decide +kernel⟩
theorem cf_X2_remember : CFv yX2_remember cX2_remember 2 none 1 := ⟨k_224, k_12, k_222, k_223, by decide, by decide, by decide +kernel⟩
theorem cf_X2_forgetOldest : CFv yX2_forgetOldest cX2_forgetOldest 3 none 0 := ⟨k_228, k_12, k_227, k_1, by decide, by decide, by decide +kernel⟩
theorem cf_X2_stepBack : CFv yX2_stepBack cX2_stepBack 2 none 1 := ⟨k_397, k_12, k_395, k_396, by decide, by decide, by decide +kernel⟩
theorem cf_X2_stepOn : CFv yX2_stepOn cX2_stepOn 2 none 1 := ⟨k_409, k_12, k_407, k_408, by decide, by decide, by decide +kernel⟩
theorem cf_X3_init : CFi yX3_init cX3_init 1 none 0 := ⟨k_146, k_14, k_145, by decide, by decide, by decide +kernel⟩
theorem cf_X4_init : CFi yX4_init cX4_init 1 none 0 := ⟨k_100, k_11, k_99, by decide, by decide, by decide +kernel⟩
theorem cf_X4_bestRow : CFv yX4_bestRow cX4_bestRow 11 (some .int) 3 := ⟨k_382, k_11, k_380, k_381, by decide, by decide, by decide +kernel⟩
theorem cf_X5_init : CFi yX5_init cX5_init 1 none 0 := ⟨k_63, k_10, k_62, by decide, by decide, by decide +kernel⟩
theorem cf_X5_partAt : CFv yX5_partAt cX5_partAt 2 (some .int) 1 := ⟨k_288, k_10, k_286, k_287, by decide, by decide, by decide +kernel⟩
theorem cf_X5_partsAbove : CFv yX5_partsAbove cX5_partsAbove 4 (some .int) 1 := ⟨k_309, k_10, k_307, k_308, by decide, by decide, by decide +kernel⟩
theorem cf_X5_makeEmpty : CFv yX5_makeEmpty cX5_makeEmpty 1 none 0 := ⟨k_272, k_10, k_270, k_271, by decide, by decide, by decide +kernel⟩
theorem cf_X5_growFrom : CFv yX5_growFrom cX5_growFrom 12 none 5 := ⟨k_283, k_10, k_281, k_282, by decide, by decide, by decide +kernel⟩
theorem cf_X5_grownPart : CFs yX5_grownPart cX5_grownPart 5 (some .int) 5 := ⟨k_291, k_10, k_290, by decide, by decide, by decide +kernel⟩
theorem cf_X5_goBackFrom : CFv yX5_goBackFrom cX5_goBackFrom 11 (some .int) 4 := ⟨k_362, k_10, k_360, k_361, by decide, by decide, by decide +kernel⟩
theorem cf_X5_formerPart : CFs yX5_formerPart cX5_formerPart 5 (some .int) 5 := ⟨k_365, k_10, k_364, by decide, by decide, by decide +kernel⟩
theorem cf_X5_goesOnFrom : CFv yX5_goesOnFrom cX5_goesOnFrom 3 (some .boolean) 2 := ⟨k_341, k_10, k_339, k_340, by decide, by decide, by decide +kernel⟩
theorem cf_X5_goesOnLevel : CFv yX5_goesOnLevel cX5_goesOnLevel 5 (some .boolean) 1 := ⟨k_349, k_10, k_348, k_5, by decide, by decide, by decide +kernel⟩
theorem cf_X5_goesOnUpright : CFv yX5_goesOnUpright cX5_goesOnUpright 5 (some .boolean) 1 := ⟨k_345, k_10, k_344, k_4, by decide, by decide, by decide +kernel⟩
theorem cf_X5_standardFillings : CFv yX5_standardFillings cX5_standardFillings 7 (some .long) 0 := ⟨k_318, k_10, k_316, k_317, by decide, by decide, by decide +kernel⟩
theorem cf_X5_productOrWide : CFv yX5_productOrWide cX5_productOrWide 4 (some .int) 0 := ⟨k_328, k_10, k_326, k_327, by decide, by decide, by decide +kernel⟩
theorem cf_X6_init : CFi yX6_init cX6_init 1 none 0 := ⟨k_131, k_13, k_130, by decide, by decide, by decide +kernel⟩
theorem cf_X7_init : CFi yX7_init cX7_init 2 none 0 := ⟨k_20, k_7, k_19, by decide, by decide, by decide +kernel⟩
theorem cf_X7_grid : CFv yX7_grid cX7_grid 4 (some .int) 2 := ⟨k_442, k_7, k_440, k_441, by decide, by decide, by decide +kernel⟩
theorem cf_X7_put : CFv yX7_put cX7_put 5 (some .int) 3 := ⟨k_453, k_7, k_451, k_452, by decide, by decide, by decide +kernel⟩
theorem cf_X7_cell : CFv yX7_cell cX7_cell 3 (some .int) 2 := ⟨k_197, k_7, k_195, k_196, by decide, by decide, by decide +kernel⟩
theorem cf_X7_rule : CFv yX7_rule cX7_rule 3 (some .int) 1 := ⟨k_213, k_7, k_211, k_212, by decide, by decide, by decide +kernel⟩
theorem cf_X7_spelled : CFv yX7_spelled cX7_spelled 1 (some .int) 0 := ⟨k_236, k_7, k_234, k_235, by decide, by decide, by decide +kernel⟩
theorem cf_X7_part : CFv yX7_part cX7_part 4 (some .int) 3 := ⟨k_245, k_7, k_243, k_244, by decide, by decide, by decide +kernel⟩
theorem cf_X7_shape : CFv yX7_shape cX7_shape 5 (some .int) 3 := ⟨k_301, k_7, k_299, k_300, by decide, by decide, by decide +kernel⟩
theorem cf_X7_turned : CFv yX7_turned cX7_turned 4 (some .int) 3 := ⟨k_305, k_7, k_303, k_304, by decide, by decide, by decide +kernel⟩
theorem cf_X7_standard : CFv yX7_standard cX7_standard 4 (some .long) 2 := ⟨k_313, k_7, k_311, k_312, by decide, by decide, by decide +kernel⟩
theorem cf_X7_product : CFv yX7_product cX7_product 3 (some .int) 2 := ⟨k_324, k_7, k_322, k_323, by decide, by decide, by decide +kernel⟩
theorem cf_X7_fits : CFv yX7_fits cX7_fits 2 (some .int) 1 := ⟨k_333, k_7, k_331, k_332, by decide, by decide, by decide +kernel⟩
theorem cf_X7_back : CFv yX7_back cX7_back 3 (some .int) 1 := ⟨k_353, k_7, k_351, k_352, by decide, by decide, by decide +kernel⟩
theorem cf_X7_longest : CFv yX7_longest cX7_longest 3 (some .int) 2 := ⟨k_378, k_7, k_376, k_377, by decide, by decide, by decide +kernel⟩
theorem cf_X7_undo : CFv yX7_undo cX7_undo 1 (some .int) 0 := ⟨k_389, k_7, k_387, k_388, by decide, by decide, by decide +kernel⟩
theorem cf_X7_again : CFv yX7_again cX7_again 1 (some .int) 0 := ⟨k_401, k_7, k_399, k_400, by decide, by decide, by decide +kernel⟩
theorem cf_X7_restore : CFv yX7_restore cX7_restore 1 (some .int) 0 := ⟨k_413, k_7, k_411, k_412, by decide, by decide, by decide +kernel⟩
theorem cf_X7_count : CFv yX7_count cX7_count 2 (some .int) 1 := ⟨k_425, k_7, k_423, k_424, by decide, by decide, by decide +kernel⟩
theorem cf_X7_isSide : CFs yX7_isSide cX7_isSide 1 (some .boolean) 1 := ⟨k_445, k_7, k_444, by decide, by decide, by decide +kernel⟩
theorem cf_X7_isNumber : CFs yX7_isNumber cX7_isNumber 1 (some .boolean) 1 := ⟨k_456, k_7, k_455, by decide, by decide, by decide +kernel⟩
theorem cf_X7_isRule : CFs yX7_isRule cX7_isRule 1 (some .boolean) 1 := ⟨k_216, k_7, k_215, by decide, by decide, by decide +kernel⟩
theorem cf_X7_isPlace : CFs yX7_isPlace cX7_isPlace 1 (some .boolean) 1 := ⟨k_252, k_7, k_251, by decide, by decide, by decide +kernel⟩
theorem cf_X7_beginDeed : CFv yX7_beginDeed cX7_beginDeed 1 none 0 := ⟨k_220, k_7, k_219, k_0, by decide, by decide, by decide +kernel⟩
theorem cf_X7_grownCorners : CFv yX7_grownCorners cX7_grownCorners 1 (some (.object "GrowthGrid$Corners")) 0 := ⟨k_260, k_7, k_259, k_3, by decide, by decide, by decide +kernel⟩
theorem cf_X7_shapeAt : CFv yX7_shapeAt cX7_shapeAt 3 (some (.object "GrowthGrid$Shape")) 2 := ⟨k_256, k_7, k_255, k_2, by decide, by decide, by decide +kernel⟩
theorem cf_J9_max_7cf53 : CFs yJ9_max_7cf53 cJ9_max_7cf53 2 (some .int) 2 := ⟨k_294, k_15, k_293, by decide, by decide, by decide +kernel⟩
theorem cf_J9_min_7cf53 : CFs yJ9_min_7cf53 cJ9_min_7cf53 2 (some .int) 2 := ⟨k_279, k_15, k_278, by decide, by decide, by decide +kernel⟩
theorem cf_L_cell : CFs yL_cell cL_cell 2 (some .int) 2 := ⟨k_438, k_6, k_437, by decide, by decide, by decide +kernel⟩
theorem cf_L_some : CFs yL_some cL_some 3 (some .int) 3 := ⟨k_435, k_6, k_434, by decide, by decide, by decide +kernel⟩
theorem cf_L_setUp : CFs yL_setUp cL_setUp 7 none 3 := ⟨k_432, k_6, k_431, by decide, by decide, by decide +kernel⟩

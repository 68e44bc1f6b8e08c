/-! new int[n][m] -/
theorem mk2_e {ρ : Type} {N top n len : Nat} {K : Option ρ} {r : ρ} (h : mk2 N top n len K = some r) : (N + 1 + n ≤ top ∧ kd N = 13 ∧ ln N = n ∧ (∀ i, i < n → kd (N + 1 + i) = 9 ∧ ln (N + 1 + i) = len)) ∧ K = some r := by
  unfold mk2 at h
  split at h
  · rename_i hc; exact ⟨hc, h⟩
  · cases h
theorem mn_outer (c : ClassId) (N h0 : Nat) : ∀ i : Nat, Jvm.Free.Multi.outerC c N h0 i = arrV c N (fun j => va_rf (if j < i then some (h0 + 1 + j) else none))
  | 0 => by
    show ({ cls := c, slots := Array.replicate N .null, vm := .none } : Cell) = _
    rw [arrV_new]
    refine congrArg (arrV c N) (funext fun j => ?_)
    simp [va_rf]
  | i + 1 => by
    show (Jvm.Free.Multi.outerC c N h0 i).setSlot i (.ref (h0 + 1 + i)) = _
    rw [mn_outer c N h0 i, arrV_store]
    refine congrArg (arrV c N) (funext fun j => ?_)
    by_cases e : j = i
    · subst e
      simp [updV, va_rf]
    · by_cases h : j < i
      · simp [updV, e, h, Nat.lt_succ_of_lt h]
      · simp [updV, e, h, show ¬ j < i + 1 by omega]
section MN
variable {p : Program} {l : Launch} {e : Env} {R : Room} {s : State} {m : MethodId} {args : Array Value} {below : List Frame} {meth : Method} {c : Code} {H : Heap} {locs : List Loc} {Q : State → Prop}
variable {cc : ByteArray} {pc : Nat} {ls : Array Slot} {rest : List Value} {D : DD} {own : String} {B n0 N : Nat} {w : Wd}
theorem r_mna {ρ : Type} {z : ρ} {K : Nat → Wd → Option ρ} (X : Cx p s m args c cc own D) (h : Hp B D N w s H locs) {top idx nn len : Nat} {x y : Int32} (hcl : Cond.classLink own idx "[[I" ∈ AL) (hw : Cond.arrayClass .int ∈ AL) (hx0 : ¬ x < 0) (hxl : x.toNatClampNeg = nn) (hy0 : ¬ y < 0) (hyl : y.toNatClampNeg = len) (hb9 : nn + nn * len ≤ 2880 ∧ len ≤ 2880) (h0 : n0 ≤ N) (hR : top ≤ n0 + R.cells ∧ 2880 * (top - n0) ≤ R.slots) (hdg : decode cc pc = .ok (.multianewarray idx 2, 4)) (hr : mk2 N top nn len (lt2 (N + 1 + nn) (clr2 w N nn) K) = some z)
    (kk : ∀ (N1 : Nat) (w1 : Wd) (H1 : Heap), N1 = N + 1 + nn → (N < N1 ∧ kd N = 13) → K N1 w1 = some z → Hp B D N1 w1 s H1 locs → W p l e R s m args below meth c H1 locs (N1 - n0) (2880 * (N1 - n0)) Q (F0 m (pc + 4) ls (.ref (B + N) :: rest))) : W p l e R s m args below meth c H locs (N - n0) (2880 * (N - n0)) Q (F0 m pc ls (.int y :: .int x :: rest)) := by
  obtain ⟨⟨ht, hk, hl, hin⟩, hr2⟩ := mk2_e hr
  obtain ⟨hx, hb, hown, hts, hK, hA, -, -, -, hao⟩ := X
  have hsz : H.size = B + N := h.1.1
  subst hxl
  subst hyl
  have hcl2 : (Cond.classLink own idx ("[" ++ (FieldType.array .int).toString)).before args s = true := hts _ hcl
  intro T hT Xs
  have hao2 : (Cond.arrayOver (.array .int)).before args s = true := hao
  obtain ⟨vm₁, cA, comp, -, fA, fC, hO, -, X', step⟩ := Xs.multianewarray2F (ty := .int) hx hown hcl2 hao2 (hts _ hw) (g := F0 m pc ls (.int y :: .int x :: rest)) rfl (by rw [hb]; exact hdg) rfl hx0 hy0 (by omega) (by show y.toNatClampNeg * 4 ≤ _; omega) (by omega) rfl rfl (by omega) (by omega)
  have hcA : cA = D.2 13 := Option.some.inj (fA.symm.trans (hA 13 (by decide) (by decide)).2)
  have hcy : comp = D.2 9 := Option.some.inj (fC.symm.trans (hA 9 (by decide) (by decide)).2)
  subst hcA
  subst hcy
  generalize hF : Jvm.Free.Multi.fill (T.setVm vm₁) (D.2 13) (D.2 9) x.toNatClampNeg y.toNatClampNeg (defaultValue .int) x.toNatClampNeg = F at X' step
  have hTh : (T.setVm vm₁).heap = H := hT
  obtain ⟨f1, f2, -, -⟩ := Jvm.Free.Multi.fill_facts (T.setVm vm₁) (D.2 13) (D.2 9) x.toNatClampNeg y.toNatClampNeg (defaultValue .int) x.toNatClampNeg
  rw [hF, hTh] at f1 f2
  have hold : ∀ q : Nat, q < H.size → F.heap[q]? = H[q]? := fun q hq => by
    have := Jvm.Free.Multi.fill_old (T.setVm vm₁) (D.2 13) (D.2 9) x.toNatClampNeg y.toNatClampNeg (defaultValue .int) (a := q) (by rw [hTh]; exact hq) x.toNatClampNeg
    rw [hF, hTh] at this
    exact this
  have hrow : ∀ j : Nat, j < x.toNatClampNeg → F.heap[H.size + 1 + j]? = some (arrV (D.2 9) y.toNatClampNeg (fun _ => .int 0)) := fun j hj => by
    have := Jvm.Free.Multi.fill_inner (T.setVm vm₁) (D.2 13) (D.2 9) x.toNatClampNeg y.toNatClampNeg (defaultValue .int) x.toNatClampNeg j hj
    rw [hF, hTh] at this
    rw [this]
    show some ({ cls := D.2 9, slots := Array.replicate y.toNatClampNeg (.int 0), vm := .none } : Cell) = _
    rw [arrV_new]
  rw [mn_outer] at f2
  have hRp : Rep B D (N + 1 + x.toNatClampNeg) (clr2 w N x.toNatClampNeg) F.heap := by
    refine ⟨by omega, fun k hk2 => ?_⟩
    by_cases e1 : k < N
    · refine (h.1.2 k e1).kept (hold _ (by omega)) (fun j => ?_)
      unfold vl clr2
      simp [show ¬ N ≤ k by omega, show ¬ k = N by omega]
    · by_cases e2 : k = N
      · subst e2
        refine ⟨fun a1 => by rw [hk] at a1; omega, fun _ _ => ?_⟩
        rw [← hsz, f2, hk, hl]
        refine congrArg (fun f => some (arrV (D.2 13) x.toNatClampNeg f)) (funext fun j => ?_)
        have hrf : isRf (kd k) j = true := by rw [hk]; rfl
        by_cases e3 : j < x.toNatClampNeg
        · rw [vl_R (r := k + 1 + j) hrf (by simp [clr2, e3]), if_pos e3, hsz]
          exact congrArg Value.ref (show (B + k + 1 + j : Nat) = B + (k + 1 + j) by omega)
        · rw [if_neg e3]
          unfold vl
          rw [if_pos hrf]
          simp [clr2, e3, va_rf]
      · obtain ⟨i, rfl⟩ : ∃ i, k = N + 1 + i := ⟨k - (N + 1), by omega⟩
        have hi := hin i (by omega)
        refine ⟨fun a1 => by rw [hi.1] at a1; omega, fun _ _ => ?_⟩
        have e4 := hrow i (by omega)
        rw [show B + (N + 1 + i) = H.size + 1 + i by omega, e4, hi.1, hi.2]
        refine congrArg (fun f => some (arrV (D.2 9) y.toNatClampNeg f)) (funext fun j => ?_)
        rw [vl_I (by rw [hi.1]; rfl)]
        simp [clr2, show N ≤ N + 1 + i by omega, show N + 1 + i < N + 1 + x.toNatClampNeg by omega]
  obtain ⟨t, a1, b1⟩ := (W.widen (k := N + 1 + x.toNatClampNeg - n0) (n := 2880 * (N + 1 + x.toNatClampNeg - n0)) (cells := N - n0 + 1 + x.toNatClampNeg) (slots := 2880 * (N - n0) + x.toNatClampNeg + x.toNatClampNeg * y.toNatClampNeg) (by omega) (by omega) (kk _ _ F.heap rfl ⟨by omega, hk⟩ hr2 (h.push hRp (by omega) hold))) F rfl X'
  refine ⟨t, step t ?_, b1⟩
  have e : T.heap.size = H.size := by rw [hT]
  rw [e, hsz]
  exact a1
end MN

def f_X4_init (t n : Nat) (w : Wd) : Option Wd := mk2 n (n + 7) 6 6 (lt2 (n + 1 + 6) (clr2 w n 6) (fun n1 w2 => lt (upR w2 t 0 n) (fun w5 => ckn n1 (n + 7) (some w5))))
set_option maxHeartbeats 4000000 in
set_option maxRecDepth 100000 in
theorem m_X4_init (l : Launch) (B : Nat) (D : DD) {t n : Nat} {w w' : Wd} (ht : t < n ∧ kd t = 4) (hf : f_X4_init t n w = some w') : Ct l yX4_init cX4_init 1 none 1 20 7 20160 B D [.ref (B + t)] n w none (n + 7) w' := by
  refine m_of (by decide) (Nat.le_of_ble_eq_true rfl) (fun p e s m args below meth c X hml hr hlk hin H locs hh ls hl => ?_)
  have hx := X.1
  have hb := X.2.1
  have hl : lv_has ls 1 [(0, .ref (B + t))] := hl
  have hRR : n + 7 ≤ n + (rmk 1 20 7 20160).cells ∧ 2880 * (n + 7 - n) ≤ (rmk 1 20 7 20160).slots := ⟨Nat.le_refl _, by show 2880 * (n + 7 - n) ≤ 20160; omega⟩
  refine W.widen (k := n - n) (n := 2880 * (n - n)) (Nat.zero_le _) (Nat.zero_le _) ?_
  unfold f_X4_init at hf
  refine lv_aload_n hx hb dX4_init_0 rfl (lv_at hl 0 rfl) ?_
  refine q_obj X hml hl.1 k_101 ⟨Nat.le_of_ble_eq_true rfl, Nat.le_of_ble_eq_true rfl⟩ dX4_init_1 ?_
  refine lv_aload_n hx hb dX4_init_4 rfl (lv_at hl 0 rfl) ?_
  refine lv_bipush (v := (6 : Int32)) hx hb dX4_init_5 (by decide) ?_
  refine lv_bipush (v := (6 : Int32)) hx hb dX4_init_7 (by decide) ?_
  refine r_mna (n0 := n) (nn := 6) (len := 6) X hh k_102 k_51 (by decide) (by decide) (by decide) (by decide) (by decide) (by omega) hRR dX4_init_9 hf (fun n1 w2 H e3 h4 hf hh => ?_)
  refine q_prF X hh (up_r ht (by omega)) fk_X4_11 pk_4_0 hin (fun q h => by cases h; rfl) (fun _ => ⟨rfl, rfl⟩) dX4_init_13 hf (fun w5 H locs hf hh => ?_)
  have hz := ckn_e hf
  refine W.widen (k := 7) (n := 20160) (by omega) (by omega) ?_
  exact e_v X hr hlk hh ⟨hz.1, so_e hz.2⟩ dX4_init_16
def f_X7_init (t n : Nat) (w : Wd) : Option Wd := mk n (n + 138) 0 0 (lt2 (n + 1) (clr w n) (fun n1 w2 => c1 (f_X0_init n n1 w2) (fun w7 => if n1 + 1 ≤ (n + 138) then lt2 (n1 + 1) w7 (fun n5 w6 => lt (upR w6 t 0 n) (fun w10 => mk n5 (n + 138) 0 0 (lt2 (n5 + 1) (clr w10 n5) (fun n11 w12 => c1 (f_X0_init n5 n11 w12) (fun w17 => if n11 + 1 ≤ (n + 138) then lt2 (n11 + 1) w17 (fun n15 w16 => lt (upR w16 t 1 n5) (fun w20 => mk n15 (n + 138) 0 0 (lt2 (n15 + 1) (clr w20 n15) (fun n21 w22 => c1 (f_X0_init n15 n21 w22) (fun w27 => if n21 + 1 ≤ (n + 138) then lt2 (n21 + 1) w27 (fun n25 w26 => lt (upR w26 t 2 n15) (fun w30 => lt (upI w30 t 3 (0 : Int32)) (fun w31 => mk n25 (n + 138) 1 0 (lt2 (n25 + 1) (clr w31 n25) (fun n32 w33 => c1 (f_X1_init n25 n32 w33) (fun w38 => if n32 + 76 ≤ (n + 138) then lt2 (n32 + 76) w38 (fun n36 w37 => lt (upR w37 t 4 n25) (fun w41 => lt (upI w41 t 5 (0 : Int32)) (fun w42 => mk n36 (n + 138) 4 0 (lt2 (n36 + 1) (clr w42 n36) (fun n43 w44 => c1 (f_X4_init n36 n43 w44) (fun w49 => if n43 + 7 ≤ (n + 138) then lt2 (n43 + 7) w49 (fun n47 w48 => lt (upR w48 t 6 n36) (fun w52 => mk n47 (n + 138) 2 0 (lt2 (n47 + 1) (clr w52 n47) (fun n53 w54 => c1 (f_X2_init n47 n53 w54) (fun w59 => if n53 + 19 ≤ (n + 138) then lt2 (n53 + 19) w59 (fun n57 w58 => lt (upR w58 t 7 n47) (fun w62 => mk n57 (n + 138) 6 0 (lt2 (n57 + 1) (clr w62 n57) (fun n63 w64 => c1 (f_X6_init n57 n63 w64) (fun w69 => if n63 + 1 ≤ (n + 138) then lt2 (n63 + 1) w69 (fun n67 w68 => lt (upR w68 t 8 n57) (fun w72 => mk n67 (n + 138) 11 6 (lt2 (n67 + 1) (clr w72 n67) (fun n73 w74 => lt (upR w74 t 9 n67) (fun w77 => wl3 (fun (x78 : Int32) (w79 : Wd) (n80 : Nat) k82 => (if (6 : Int32) ≤ x78 then ckn n80 (n + 138) (some w79) else rf n80 (w79.2 t 9) 11 (fun t85 => mk n80 (n + 138) 3 0 (lt2 (n80 + 1) (clr w79 n80) (fun n87 w88 => c1 (f_X3_init n80 n87 w88) (fun w93 => if n87 + 3 ≤ (n + 138) then lt2 (n87 + 3) w93 (fun n91 w92 => ix x78 (ln t85) (fun j96 => lt (upR w92 t85 j96 n80) (fun w97 => lt (x78 + (1 : Int32)) (fun x98 => k82 x98 w97 n91)))) else none)))))) fu (0 : Int32) w77 n73))))) else none))))) else none))))) else none)))))) else none)))))) else none))))) else none))))) else none)))
set_option maxHeartbeats 4000000 in
set_option maxRecDepth 100000 in
theorem m_X7_init (l : Launch) (B : Nat) (D : DD) {t n : Nat} {w w' : Wd} (ht : t < n ∧ kd t = 7) (hf : f_X7_init t n w = some w') : Ct l yX7_init cX7_init 2 none 3 61 138 397440 B D [.ref (B + t)] n w none (n + 138) w' := by
  refine m_of (by decide) (Nat.le_of_ble_eq_true rfl) (fun p e s m args below meth c X hml hr hlk hin H locs hh ls hl => ?_)
  have hx := X.1
  have hb := X.2.1
  have hl : lv_has ls 2 [(0, .ref (B + t))] := hl
  have hRR : n + 138 ≤ n + (rmk 3 61 138 397440).cells ∧ 2880 * (n + 138 - n) ≤ (rmk 3 61 138 397440).slots := ⟨Nat.le_refl _, by show 2880 * (n + 138 - n) ≤ 397440; omega⟩
  refine W.widen (k := n - n) (n := 2880 * (n - n)) (Nat.zero_le _) (Nat.zero_le _) ?_
  unfold f_X7_init at hf
  refine lv_aload_n hx hb dX7_init_0 rfl (lv_at hl 0 rfl) ?_
  refine q_obj X hml hl.1 k_21 ⟨Nat.le_of_ble_eq_true rfl, Nat.le_of_ble_eq_true rfl⟩ dX7_init_1 ?_
  refine lv_aload_n hx hb dX7_init_4 rfl (lv_at hl 0 rfl) ?_
  refine r_new (n0 := n) X hh ci_0 cin_0 k_24 k_25 k_8 (by omega) hRR dX7_init_5 hf (fun n1 w2 H e3 h4 hf hh => ?_)
  refine lv_dup hx hb dX7_init_8 rfl ?_
  obtain ⟨w7, hc9, hf⟩ := c1_e hf
  refine q_I (n0 := n) (rest := [.ref (B + n), .ref (B + t)]) X hml hh rfl (m_X0_init l B D h4 hc9) cf_X0_init k_26 hl.1 (Nat.le_of_ble_eq_true rfl) ⟨Nat.le_of_ble_eq_true rfl, Nat.le_of_ble_eq_true rfl⟩ (by omega) hRR dX7_init_9 hf (fun n5 w6 H locs e8 hf hh => ?_)
  refine q_prF X hh (up_r ht (by omega)) fk_X7_14 pk_7_0 hin (fun q h => by cases h; rfl) (fun _ => ⟨rfl, rfl⟩) dX7_init_12 hf (fun w10 H locs hf hh => ?_)
  refine lv_aload_n hx hb dX7_init_15 rfl (lv_at hl 0 rfl) ?_
  refine r_new (n0 := n) X hh ci_0 cin_0 k_24 k_25 k_8 (by omega) hRR dX7_init_16 hf (fun n11 w12 H e13 h14 hf hh => ?_)
  refine lv_dup hx hb dX7_init_19 rfl ?_
  obtain ⟨w17, hc19, hf⟩ := c1_e hf
  refine q_I (n0 := n) (rest := [.ref (B + n5), .ref (B + t)]) X hml hh rfl (m_X0_init l B D h14 hc19) cf_X0_init k_26 hl.1 (Nat.le_of_ble_eq_true rfl) ⟨Nat.le_of_ble_eq_true rfl, Nat.le_of_ble_eq_true rfl⟩ (by omega) hRR dX7_init_20 hf (fun n15 w16 H locs e18 hf hh => ?_)
  refine q_prF X hh (up_r ht (by omega)) fk_X7_18 pk_7_1 hin (fun q h => by cases h; rfl) (fun _ => ⟨rfl, rfl⟩) dX7_init_23 hf (fun w20 H locs hf hh => ?_)
  refine lv_aload_n hx hb dX7_init_26 rfl (lv_at hl 0 rfl) ?_
  refine r_new (n0 := n) X hh ci_0 cin_0 k_24 k_25 k_8 (by omega) hRR dX7_init_27 hf (fun n21 w22 H e23 h24 hf hh => ?_)
  refine lv_dup hx hb dX7_init_30 rfl ?_
  obtain ⟨w27, hc29, hf⟩ := c1_e hf
  refine q_I (n0 := n) (rest := [.ref (B + n15), .ref (B + t)]) X hml hh rfl (m_X0_init l B D h24 hc29) cf_X0_init k_26 hl.1 (Nat.le_of_ble_eq_true rfl) ⟨Nat.le_of_ble_eq_true rfl, Nat.le_of_ble_eq_true rfl⟩ (by omega) hRR dX7_init_31 hf (fun n25 w26 H locs e28 hf hh => ?_)
  refine q_prF X hh (up_r ht (by omega)) fk_X7_21 pk_7_2 hin (fun q h => by cases h; rfl) (fun _ => ⟨rfl, rfl⟩) dX7_init_34 hf (fun w30 H locs hf hh => ?_)
  refine lv_aload_n hx hb dX7_init_37 rfl (lv_at hl 0 rfl) ?_
  refine lv_iconst (v := (0 : Int32)) hx hb dX7_init_38 (by decide) ?_
  refine q_pi X hh (up_r ht (by omega)) fk_X7_24 pk_7_3 rfl rfl dX7_init_39 hf (fun w31 H locs hf hh => ?_)
  refine lv_aload_n hx hb dX7_init_42 rfl (lv_at hl 0 rfl) ?_
  refine r_new (n0 := n) X hh ci_1 cin_1 k_52 k_53 k_9 (by omega) hRR dX7_init_43 hf (fun n32 w33 H e34 h35 hf hh => ?_)
  refine lv_dup hx hb dX7_init_46 rfl ?_
  obtain ⟨w38, hc40, hf⟩ := c1_e hf
  refine q_I (n0 := n) (rest := [.ref (B + n25), .ref (B + t)]) X hml hh rfl (m_X1_init l B D h35 hc40) cf_X1_init k_54 hl.1 (Nat.le_of_ble_eq_true rfl) ⟨Nat.le_of_ble_eq_true rfl, Nat.le_of_ble_eq_true rfl⟩ (by omega) hRR dX7_init_47 hf (fun n36 w37 H locs e39 hf hh => ?_)
  refine q_prF X hh (up_r ht (by omega)) fk_X7_31 pk_7_4 hin (fun q h => by cases h; rfl) (fun _ => ⟨rfl, rfl⟩) dX7_init_50 hf (fun w41 H locs hf hh => ?_)
  refine lv_aload_n hx hb dX7_init_53 rfl (lv_at hl 0 rfl) ?_
  refine lv_iconst (v := (0 : Int32)) hx hb dX7_init_54 (by decide) ?_
  refine q_pi X hh (up_r ht (by omega)) fk_X7_35 pk_7_5 rfl rfl dX7_init_55 hf (fun w42 H locs hf hh => ?_)
  refine lv_aload_n hx hb dX7_init_58 rfl (lv_at hl 0 rfl) ?_
  refine r_new (n0 := n) X hh ci_4 cin_4 k_96 k_97 k_11 (by omega) hRR dX7_init_59 hf (fun n43 w44 H e45 h46 hf hh => ?_)
  refine lv_dup hx hb dX7_init_62 rfl ?_
  obtain ⟨w49, hc51, hf⟩ := c1_e hf
  refine q_I (n0 := n) (rest := [.ref (B + n36), .ref (B + t)]) X hml hh rfl (m_X4_init l B D h46 hc51) cf_X4_init k_98 hl.1 (Nat.le_of_ble_eq_true rfl) ⟨Nat.le_of_ble_eq_true rfl, Nat.le_of_ble_eq_true rfl⟩ (by omega) hRR dX7_init_63 hf (fun n47 w48 H locs e50 hf hh => ?_)
  refine q_prF X hh (up_r ht (by omega)) fk_X7_41 pk_7_6 hin (fun q h => by cases h; rfl) (fun _ => ⟨rfl, rfl⟩) dX7_init_66 hf (fun w52 H locs hf hh => ?_)
  refine lv_aload_n hx hb dX7_init_69 rfl (lv_at hl 0 rfl) ?_
  refine r_new (n0 := n) X hh ci_2 cin_2 k_108 k_109 k_12 (by omega) hRR dX7_init_70 hf (fun n53 w54 H e55 h56 hf hh => ?_)
  refine lv_dup hx hb dX7_init_73 rfl ?_
  obtain ⟨w59, hc61, hf⟩ := c1_e hf
  refine q_I (n0 := n) (rest := [.ref (B + n47), .ref (B + t)]) X hml hh rfl (m_X2_init l B D h56 hc61) cf_X2_init k_110 hl.1 (Nat.le_of_ble_eq_true rfl) ⟨Nat.le_of_ble_eq_true rfl, Nat.le_of_ble_eq_true rfl⟩ (by omega) hRR dX7_init_74 hf (fun n57 w58 H locs e60 hf hh => ?_)
  refine q_prF X hh (up_r ht (by omega)) fk_X7_48 pk_7_7 hin (fun q h => by cases h; rfl) (fun _ => ⟨rfl, rfl⟩) dX7_init_77 hf (fun w62 H locs hf hh => ?_)
  refine lv_aload_n hx hb dX7_init_80 rfl (lv_at hl 0 rfl) ?_
  refine r_new (n0 := n) X hh ci_6 cin_6 k_127 k_128 k_13 (by omega) hRR dX7_init_81 hf (fun n63 w64 H e65 h66 hf hh => ?_)
  refine lv_dup hx hb dX7_init_84 rfl ?_
  obtain ⟨w69, hc71, hf⟩ := c1_e hf
  refine q_I (n0 := n) (rest := [.ref (B + n57), .ref (B + t)]) X hml hh rfl (m_X6_init l B D h66 hc71) cf_X6_init k_129 hl.1 (Nat.le_of_ble_eq_true rfl) ⟨Nat.le_of_ble_eq_true rfl, Nat.le_of_ble_eq_true rfl⟩ (by omega) hRR dX7_init_85 hf (fun n67 w68 H locs e70 hf hh => ?_)
  refine q_prF X hh (up_r ht (by omega)) fk_X7_55 pk_7_8 hin (fun q h => by cases h; rfl) (fun _ => ⟨rfl, rfl⟩) dX7_init_88 hf (fun w72 H locs hf hh => ?_)
  refine lv_aload_n hx hb dX7_init_91 rfl (lv_at hl 0 rfl) ?_
  refine lv_bipush (v := (6 : Int32)) hx hb dX7_init_92 (by decide) ?_
  refine r_newq (n0 := n) (len := 6) (ka := 11) X hh k_141 ⟨by decide, by decide⟩ rfl X.2.2.2.2.2.2.2.1 (by decide) (by decide) (by decide) (by omega) hRR dX7_init_94 hf (fun n73 w74 H e75 h76 hf hh => ?_)
  refine q_prF X hh (up_r ht (by omega)) fk_X7_61 pk_7_9 hin (fun q h => by cases h; rfl) (fun _ => ⟨rfl, rfl⟩) dX7_init_97 hf (fun w77 H locs hf hh => ?_)
  refine lv_iconst (v := (0 : Int32)) hx hb dX7_init_100 (by decide) ?_
  refine lv_istore_n (lv' := [(1, .int (0 : Int32)), (0, .ref (B + t))]) hx hb dX7_init_101 rfl hl (by decide) rfl (fun ls hl => ?_)
  refine wl3_W (P := fun (x78 : Int32) (w79 : Wd) (n80 : Nat) => n ≤ n80 → ∀ (H : Heap) (locs : List Loc) (ls : Array Slot), Hp B D n80 w79 s H locs → lv_has ls 2 [(0, .ref (B + t)), (1, .int x78)] → W p l e (rmk 3 61 138 397440) s m args below meth c H locs (n80 - n) (2880 * (n80 - n)) (MZ below B D (n + 138) w' none args s 138 397440) (F0 m 102 ls [])) hf (fun x78 w79 n80 k82 ih83 hf hn81 H locs ls hh hl => ?_) (by omega) _ _ _ hh (lv_sub hl [1, 0] rfl)
  refine lv_iload_n hx hb dX7_init_102 rfl (lv_at hl 1 rfl) ?_
  refine lv_bipush (v := (6 : Int32)) hx hb dX7_init_103 (by decide) ?_
  refine lv_icmp_ge (tgt := 127) hx hb dX7_init_105 (by decide) (fun hc84 => ?_) (fun hc84 => ?_)
  · have hf := if_t hc84 hf
    have hz := ckn_e hf
    refine W.widen (k := 138) (n := 397440) (by omega) (by omega) ?_
    exact e_v X hr hlk hh ⟨hz.1, so_e hz.2⟩ dX7_init_127
  · have hf := if_f hc84 hf
    refine lv_aload_n hx hb dX7_init_108 rfl (lv_at hl 0 rfl) ?_
    refine q_gr (P := 11) X hh (up_r ht (by omega)) fk_X7_61 dX7_init_109 (Nat.le_refl _) hf (fun t85 h86 hf => ?_)
    refine lv_iload_n hx hb dX7_init_112 rfl (lv_at hl 1 rfl) ?_
    refine r_new (n0 := n) X hh ci_3 cin_3 k_141 k_143 k_14 (by omega) hRR dX7_init_113 hf (fun n87 w88 H e89 h90 hf hh => ?_)
    refine lv_dup hx hb dX7_init_116 rfl ?_
    obtain ⟨w93, hc95, hf⟩ := c1_e hf
    refine q_I (n0 := n) (rest := [.ref (B + n80), .int x78, .ref (B + t85)]) X hml hh rfl (m_X3_init l B D h90 hc95) cf_X3_init k_144 hl.1 (Nat.le_of_ble_eq_true rfl) ⟨Nat.le_of_ble_eq_true rfl, Nat.le_of_ble_eq_true rfl⟩ (by omega) hRR dX7_init_117 hf (fun n91 w92 H locs e94 hf hh => ?_)
    refine q_aast X hh (up_r h86 (by omega)) ⟨by decide, by decide⟩ (up_r h90 (by omega)) ci_3 rfl dX7_init_120 hf (fun w97 H locs hf hh => ?_)
    obtain ⟨x98, e99⟩ : ∃ y : Int32, y = (x78 + (1 : Int32)) := ⟨_, rfl⟩
    have hf := lt_e e99 hf
    refine lv_iinc (v := x98) (lv' := [(1, .int x98), (0, .ref (B + t))]) hx hb dX7_init_121 hl (k := 1) rfl (by rw [e99]; rfl) (by decide) rfl (fun ls hl => ?_)
    refine lv_goto (tgt := 102) hx hb dX7_init_124 (by decide) ?_
    exact ih83 _ _ _ hf (by omega) _ _ _ hh (lv_sub hl [1, 0] rfl)

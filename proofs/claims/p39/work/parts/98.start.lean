theorem rK_start {s : State} {args : Array Value} (hts : ∀ w ∈ lw_tbl, w.before args s = true) : ∃ D : DD, rK D s := by
  have hal : ∀ x ∈ AL, x.before args s = true := fun x hx => hts x (al_tbl hx)
  obtain ⟨c0, i0, hk0⟩ := u_known (C := "GrowthGrid$Cells") (T := TX0) (N := 4) (n := 4) hal inX0 (hal _ k_25)
  obtain ⟨c1, i1, hk1⟩ := u_known (C := "GrowthGrid$Corners") (T := TX1) (N := 6) (n := 6) hal inX1 (hal _ k_53)
  obtain ⟨c2, i2, hk2⟩ := u_known (C := "GrowthGrid$Deeds") (T := TX2) (N := 3) (n := 3) hal inX2 (hal _ k_109)
  obtain ⟨c3, i3, hk3⟩ := u_known (C := "GrowthGrid$Holder") (T := TX3) (N := 4) (n := 4) hal inX3 (hal _ k_143)
  obtain ⟨c4, i4, hk4⟩ := u_known (C := "GrowthGrid$RowSearch") (T := TX4) (N := 1) (n := 1) hal inX4 (hal _ k_97)
  obtain ⟨c5, i5, hk5⟩ := u_known (C := "GrowthGrid$Shape") (T := TX5) (N := 3) (n := 3) hal inX5 (hal _ k_60)
  obtain ⟨c6, i6, hk6⟩ := u_known (C := "GrowthGrid$Tape") (T := TX6) (N := 2) (n := 2) hal inX6 (hal _ k_128)
  obtain ⟨c7, i7, hk7⟩ := u_known (C := "GrowthGrid") (T := TX7) (N := 10) (n := 10) hal inX7 (hal _ k_17)
  obtain ⟨a9, ka9, co9, p1, p2, p3⟩ := Cond.arrayClass_spec (hal _ k_51)
  have ho10 : (Cond.arrayOver (.object "GrowthGrid$Cells")).before args s = true := hts _ (List.mem_of_getElem? (i := 115) (by decide +kernel))
  obtain ⟨co10, a10, ka10, q10, -, r10, t10, v10⟩ := Cond.arrayOver_spec ho10
  have ho11 : (Cond.arrayOver (.object "GrowthGrid$Holder")).before args s = true := hts _ (List.mem_of_getElem? (i := 142) (by decide +kernel))
  obtain ⟨co11, a11, ka11, q11, -, r11, t11, v11⟩ := Cond.arrayOver_spec ho11
  have ho12 : (Cond.arrayOver (.object "GrowthGrid$Shape")).before args s = true := hts _ (List.mem_of_getElem? (i := 59) (by decide +kernel))
  obtain ⟨co12, a12, ka12, q12, -, r12, t12, v12⟩ := Cond.arrayOver_spec ho12
  have ho13 : (Cond.arrayOver (.array .int)).before args s = true := hts _ (List.mem_of_getElem? (i := 103) (by decide +kernel))
  obtain ⟨co13, a13, ka13, q13, -, r13, t13, v13⟩ := arrayOverA_spec ho13
  refine ⟨((fun k => match k with | 0 => c0 | 1 => c1 | 2 => c2 | 3 => c3 | 4 => c4 | 5 => c5 | 6 => c6 | _ => c7, fun k => match k with | 0 => i0 | 1 => i1 | 2 => i2 | 3 => i3 | 4 => i4 | 5 => i5 | 6 => i6 | _ => i7), fun a => match a with | 9 => a9 | 10 => a10 | 11 => a11 | 12 => a12 | _ => a13), ⟨fun k q hq => ?_, fun k q h => by simp at h⟩, fun a h1 h2 => ?_, va_AO.of ho10, va_AO.of ho11, va_AO.of ho12, ho13⟩
  · match k, hq with
    | 0, hq => cases hq; exact hk0
    | 1, hq => cases hq; exact hk1
    | 2, hq => cases hq; exact hk2
    | 3, hq => cases hq; exact hk3
    | 4, hq => cases hq; exact hk4
    | 5, hq => cases hq; exact hk5
    | 6, hq => cases hq; exact hk6
    | 7, hq => cases hq; exact hk7
    | k + 8, hq => simp [vwCl] at hq
  · rcases (show a = 9 ∨ a = 10 ∨ a = 11 ∨ a = 12 ∨ a = 13 by omega) with e | e | e | e | e <;> subst e
    · exact ⟨fun n z => ⟨(fun k h => by cases h), ka9, p2, co9, p3⟩, p1⟩
    · exact ⟨fun n z => ⟨(fun k h => by cases h), ka10, r10, co10, t10⟩, ka10, co10, r10, t10, q10, v10⟩
    · exact ⟨fun n z => ⟨(fun k h => by cases h), ka11, r11, co11, t11⟩, ka11, co11, r11, t11, q11, v11⟩
    · exact ⟨fun n z => ⟨(fun k h => by cases h), ka12, r12, co12, t12⟩, ka12, co12, r12, t12, q12, v12⟩
    · exact ⟨fun n z => ⟨(fun k h => by cases h), ka13, r13, co13, t13⟩, v13⟩
theorem whole_start {p : Program} {e : Env} {s : State} {m : MethodId} {below : List Frame} {meth : Method} {c : Code} (l : Launch) (hflags : l.flags = flags0) {b L : Nat} {xs : Nat → Int32} (hL : L ≤ 260) (C0 : lw_At p s m meth c b L xs) : W p l e room_1 s m #[Value.ref b] below meth c s.heap [] 0 0 (lw_Z below #[Value.ref b] s) (entryFrame m ([Value.ref b] : List Value).toArray 12) := by
  obtain ⟨hx, hb, hr, hml, hown, hts, hX, hbl, hlocks, hgv⟩ := C0
  obtain ⟨D, hD⟩ := rK_start hts
  exact m_law l ⟨hx, hb, hown, fun x h => hts x (al_tbl h), hD⟩ hml hr hlocks hX hbl (law_ok L xs hL)

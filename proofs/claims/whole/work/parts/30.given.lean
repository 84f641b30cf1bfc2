/-! what the law's start gives: classes, array classes, flags -/
theorem gv_flags {l : Launch} (h : l.flags = flags0) : l.stackTraces = false := by
  unfold Launch.stackTraces
  rw [h]
  decide +kernel
theorem gv_arr {s : State} {args : Array Value} {ty : FieldType} (hp : ∀ C, ty ≠ .object C) (h : (Cond.arrayClass ty).before args s = true) : ∃ cA : ClassId, ArrOfT s cA ty ∧ va_RA s cA ty := by
  obtain ⟨c, k, comp, h1, h2, h3⟩ := Cond.arrayClass_spec h
  refine ⟨c, fun N z => ⟨(fun k h => by cases h), k, h2, comp, h3⟩, ?_⟩
  cases ty with
  | object C => exact absurd rfl (hp C)
  | _ => exact h1
theorem gv_arq {s : State} {args : Array Value} {C : String} (h : (Cond.arrayOver (.object C)).before args s = true) : ∃ cA : ClassId, ArrOfT s cA (.object C) ∧ va_RA s cA (.object C) := by
  obtain ⟨comp, c, k, h1, -, h2, h3, h4⟩ := Cond.arrayOver_spec h
  exact ⟨c, fun N z => ⟨(fun k h => by cases h), k, h2, comp, h3⟩, k, comp, h2, h3, h1, h4⟩
theorem gv_K {s : State} {args : Array Value} (hts : ∀ w ∈ lw_tbl, w.before args s = true) : ∃ (dC : Nat → ClassId) (dI : Nat → Nat → Nat) (cs : Nat → ClassId), va_K (dC, dI) vwCl (th_ty cs) s := by
  have ht : ∀ w ∈ th_BIG, w.before args s = true := fun w hw => hts w (List.mem_filter.mp hw).1
  obtain ⟨c0, i0, h0⟩ := u_known (C := RX0) (T := TX0) (N := 6) (n := 6) ht in0X0 (ht _ (th_b1 187 rfl rfl))
  obtain ⟨c1, i1, h1⟩ := u_known (C := RX1) (T := TX1) (N := 9) (n := 9) ht in0X1 (ht _ (th_b2 70 rfl rfl))
  obtain ⟨c2, i2, h2⟩ := u_known (C := RX2) (T := TX2) (N := 8) (n := 8) ht in0X2 (ht _ (th_b1 195 rfl rfl))
  obtain ⟨c3, i3, h3⟩ := u_known (C := RX3) (T := TX3) (N := 3) (n := 3) ht in0X3 (ht _ (th_b2 132 rfl rfl))
  obtain ⟨c4, i4, h4⟩ := u_known (C := RX4) (T := TX4) (N := 14) (n := 14) ht in0X4 (ht _ (th_b1 54 rfl rfl))
  obtain ⟨c5, i5, h5⟩ := u_known (C := RX5) (T := TX5) (N := 3) (n := 3) ht in0X5 (ht _ (th_b1 196 rfl rfl))
  obtain ⟨c6, i6, h6⟩ := u_known (C := RX6) (T := TX6) (N := 2) (n := 2) ht in0X6 (ht _ (th_b1 35 rfl rfl))
  obtain ⟨c7, i7, h7⟩ := u_known (C := RX7) (T := TX7) (N := 15) (n := 15) ht in0X7 (ht _ (th_b1 62 rfl rfl))
  obtain ⟨c8, i8, h8⟩ := u_known (C := RX9) (T := TX9) (N := 9) (n := 9) ht in0X9 (ht _ (th_b2 32 rfl rfl))
  obtain ⟨c9, i9, h9⟩ := u_known (C := RX10) (T := TX10) (N := 5) (n := 5) ht in0X10 (ht _ (th_b2 108 rfl rfl))
  obtain ⟨c10, i10, h10⟩ := u_known (C := RX11) (T := TX11) (N := 13) (n := 13) ht in0X11 (ht _ (th_b1 27 rfl rfl))
  obtain ⟨c11, i11, h11⟩ := u_known (C := RX12) (T := TX12) (N := 67) (n := 67) ht in0X12 (ht _ (th_b5 179 rfl rfl))
  obtain ⟨a0, g0⟩ := gv_arr (ty := .byte) (fun C h => by cases h) (ht _ (th_b1 52 rfl rfl))
  obtain ⟨a1, g1⟩ := gv_arr (ty := .int) (fun C h => by cases h) (ht _ (th_b1 136 rfl rfl))
  obtain ⟨a2, g2⟩ := gv_arr (ty := .long) (fun C h => by cases h) (ht _ (th_b2 68 rfl rfl))
  obtain ⟨a3, g3⟩ := gv_arr (ty := .boolean) (fun C h => by cases h) (ht _ (th_b1 137 rfl rfl))
  obtain ⟨a4, g4⟩ := gv_arq (C := "ThreadHouse$Row") (hts _ (List.mem_append_right _ (List.mem_append_left _ (List.mem_of_getElem? (i := 193) rfl))))
  obtain ⟨a5, g5⟩ := gv_arq (C := "ThreadHouse$Token") (hts _ (List.mem_append_right _ (List.mem_append_left _ (List.mem_of_getElem? (i := 60) rfl))))
  refine ⟨fun k => [c0, c1, c2, c3, c4, c5, c6, c7, c8, c9, c10, c11].getD k 0, fun k => [i0, i1, i2, i3, i4, i5, i6, i7, i8, i9, i10, i11].getD k (fun _ => 0), fun k => [a0, a1, a2, a3, a4, a5].getD k 0, fun c q hq => ?_, fun k q hq => ?_⟩
  · match c, hq with
    | 0, hq => cases hq; exact h0
    | 1, hq => cases hq; exact h1
    | 2, hq => cases hq; exact h2
    | 3, hq => cases hq; exact h3
    | 4, hq => cases hq; exact h4
    | 5, hq => cases hq; exact h5
    | 6, hq => cases hq; exact h6
    | 7, hq => cases hq; exact h7
    | 8, hq => cases hq; exact h8
    | 9, hq => cases hq; exact h9
    | 10, hq => cases hq; exact h10
    | 11, hq => cases hq; exact h11
    | c + 12, hq => cases hq
  · match k, hq with
    | 0, hq => cases hq; exact g0
    | 1, hq => cases hq; exact g1
    | 2, hq => cases hq; exact g2
    | 3, hq => cases hq; exact g3
    | 4, hq => cases hq; exact g4
    | 5, hq => cases hq; exact g5
    | k + 6, hq => cases hq

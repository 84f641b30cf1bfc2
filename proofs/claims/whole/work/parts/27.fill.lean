/-! Arrays.fill over one row of 48, Text.empty over the new Text -/
def wF (cs : Nat → ClassId) (a : Nat) (f : Nat → Int32) : va_W := [(a, .inl (cs 1, (48, .inl f)))]
def wI9 (ws : va_W) : va_W := ws
/-- what a constructor needs beside the world -/
def xE5 (ad ak : Nat → Nat) : th_Ex := fun A U H => xE ad ak A U H ∧ va_AO "ThreadHouse$Row" U ∧ va_AO "ThreadHouse$Token" U
theorem xE5_ok (ad ak : Nat → Nat) : th_EO (xE5 ad ak) := ⟨fun A A' s U H0 H locs h hS hW hAA => ⟨(xE_ok ad ak).1 A A' s U H0 H locs h.1 hS hW hAA, h.2.1.moved hW.alike, h.2.2.moved hW.alike⟩, fun A U g mk a H h => ⟨(xE_ok ad ak).2 A U g mk a H h.1, va_AO.moved (u := U) (U := U.calling g mk a) (Vm.Alike.refl U.vm) h.2.1, va_AO.moved (u := U) (U := U.calling g mk a) (Vm.Alike.refl U.vm) h.2.2⟩⟩
section
variable {p : Program} {l : Launch} {e : Env} {R : Room} {s : State} {m : MethodId} {args : Array Value} {below : List Frame} {meth : Method} {c : Code} {H : Heap} {locs : List Loc} {cells slots : Nat} {Q : State → Prop} {cc : ByteArray} {nL pc idx : Nat} {ret : Option FieldType} {dC : Nat → ClassId} {dI : Nat → Nat → Nat} {cs : Nat → ClassId} {ad ak : Nat → Nat} {E : th_Ex} {A : Nat → Prop} {ls : Array Slot} {rest : List Value} {own : String}
theorem nf_lw {a : Nat} {val : Int32} (C : th_Cx p s m args meth c cJ7_fill_53178 RJ7 4 none (dC, dI) (th_ty cs) E A) (n : Nat) : ∀ (k : Nat) (f : Nat → Int32) (H : Heap) (locs : List Loc) (ls : Array Slot), k + n = 48 → (∀ j, j < k → f j = val) → th_wI (dC, dI) (wF cs a) A s.heap f H locs → lv_has ls 4 [(0, .ref a), (1, .int val), (2, .int (nI k)), (3, .int (nI 48))] → W p l e (th_rm 0 0 0) s m args below meth c H locs 0 0 (MQ below (va_Qv (fun f : Nat → Int32 => ∀ j, j < 48 → f j = val) (th_Post (dC, dI) (wF cs a) A) A) args s 0 0 A) (F0 m 5 ls []) := by
  have hx := C.1
  have hb := C.2.1
  induction n with
  | zero =>
    intro k f H locs ls hk hf hw hl
    refine lv_iload_n hx hb dJ7_fill_53178_5 rfl (lv_at hl 2 rfl) ?_
    refine lv_iload_n hx hb dJ7_fill_53178_6 rfl (lv_at hl 3 rfl) ?_
    refine lv_icmp_ge (tgt := 20) hx hb dJ7_fill_53178_7 (by decide) (fun hc => ?_) (fun hc => ?_)
    · exact th_vret C hw (fun j hj => hf j (by omega)) dJ7_fill_53178_20
    · exact absurd (nI_le (by omega) (by omega)) hc
  | succ n ih =>
    intro k f H locs ls hk hf hw hl
    refine lv_iload_n hx hb dJ7_fill_53178_5 rfl (lv_at hl 2 rfl) ?_
    refine lv_iload_n hx hb dJ7_fill_53178_6 rfl (lv_at hl 3 rfl) ?_
    refine lv_icmp_ge (tgt := 20) hx hb dJ7_fill_53178_7 (by decide) (fun hc => ?_) (fun hc => ?_)
    · exact absurd hc (nI_ge (by omega) (by decide))
    · refine lv_aload_n hx hb dJ7_fill_53178_10 rfl (lv_at hl 0 rfl) ?_
      refine lv_iload_n hx hb dJ7_fill_53178_11 rfl (lv_at hl 2 rfl) ?_
      refine lv_iload_n hx hb dJ7_fill_53178_12 rfl (lv_at hl 1 rfl) ?_
      refine va_iast (D := (dC, dI)) hx hb C.2.2.2.2.2.1 hw.1 hw.2.1 hw.2.2 0 1 rfl rfl (vp_in_nI (show k < 48 by omega) (by decide)) dJ7_fill_53178_13 (fun H locs hP hD hS => ?_)
      refine lv_iinc (v := nI (k + 1)) (lv' := [(2, .int (nI (k + 1))), (0, .ref a), (1, .int val), (3, .int (nI 48))]) hx hb dJ7_fill_53178_14 hl (k := 2) rfl (nI_succ k).symm (by decide) rfl (fun ls hl => ?_)
      refine lv_goto (tgt := 5) hx hb dJ7_fill_53178_17 (by decide) ?_
      refine ih (k + 1) (upd f (nI k).toNatClampNeg val) _ _ _ (by omega) (fun j hj => ?_) ⟨hP, hD, hS⟩ (lv_sub hl [1, 2, 0, 3] rfl)
      rw [nI_clamp (by omega)]
      unfold upd
      by_cases e : j = k
      · simp [e]
      · simp only [e, if_false]; exact hf j (by omega)
theorem nf_c {l : Launch} {a : Nat} {val : Int32} {f : Nat → Int32} (hE : th_EO E) : th_Cv l yJ7_fill_53178 cJ7_fill_53178 4 none 0 0 0 (dC, dI) (th_ty cs) E (wF cs a) [.ref a, .int val] f (fun f : Nat → Int32 => ∀ j, j < 48 → f j = val) := by
  refine th_ofv (by decide) (Nat.le_of_ble_eq_true rfl) hE ?_
  intro p e s m below meth c A ls C hw hl
  have hx := C.1
  have hb := C.2.1
  refine lv_iconst (v := (0 : Int32)) hx hb dJ7_fill_53178_0 (by decide) ?_
  refine lv_istore_n (lv' := [(2, .int (0 : Int32)), (0, .ref a), (1, .int val)]) hx hb dJ7_fill_53178_1 rfl hl (by decide) rfl (fun ls hl => ?_)
  refine lv_aload_n hx hb dJ7_fill_53178_2 rfl (lv_at hl 1 rfl) ?_
  refine va_alen (D := (dC, dI)) hx hb C.2.2.2.2.2.1 hw.1 0 1 rfl (ty := .int) rfl (show Int32.ofNat 48 = (48 : Int32) from by decide) dJ7_fill_53178_3 ?_
  refine lv_istore_n (lv' := [(3, .int (48 : Int32)), (2, .int (0 : Int32)), (0, .ref a), (1, .int val)]) hx hb dJ7_fill_53178_4 rfl hl (by decide) rfl (fun ls hl => ?_)
  exact nf_lw C 48 0 f _ _ _ rfl (fun j hj => absurd hj (Nat.not_lt_zero j)) hw (lv_sub hl [2, 3, 1, 0] rfl)
/-- the new Text: its object, fixed, hold -/
def wT9 (cs : Nat → ClassId) (x : Nat) (i : List Int32) (t : Nat → Nat) (h : Nat → Int32) : va_W := [(x, .inr (7, [.int (i.getD 0 0), .int (i.getD 1 0), .int (i.getD 2 0), .int (i.getD 3 0), .int (i.getD 4 0), .int (i.getD 5 0), .int (i.getD 6 0), .ref (t 0), .ref (t 1), .ref (t 2), .ref (t 3), .ref (t 4), .ref (t 5), .ref (t 6), .ref (t 7)])), (t 0, .inl (cs 3, (48, .inl (fun _ => 0)))), (t 1, .inl (cs 1, (48, .inl h)))]
theorem ne_upd {k : Nat} : upd (fun _ => (0 : Int32)) k (vp_nar .boolean 0) = (fun _ => (0 : Int32)) := by
  funext j
  unfold upd
  by_cases e : j = k
  · simp [e]; rfl
  · simp [e]
theorem ne_lw {x : Nat} {t : Nat → Nat} {h : Nat → Int32} {i : List Int32} {K : va_W → Prop} (C : th_Cx p s m args meth c cX7_empty RX7 2 none (dC, dI) (th_ty cs) E A) (hK : K (wT9 cs x i t h)) (n : Nat) : ∀ (k : Nat) (H : Heap) (locs : List Loc) (ls : Array Slot), k + n = 48 → th_wI (dC, dI) wI9 A s.heap (wT9 cs x i t h) H locs → lv_has ls 2 [(0, .ref x), (1, .int (nI k))] → W p l e (th_rm 1 0 0) s m args below meth c H locs 0 0 (MQ below (va_Qv K (th_Post (dC, dI) wI9 A) A) args s 0 0 A) (F0 m 47 ls []) := by
  have hx := C.1
  have hb := C.2.1
  induction n with
  | zero =>
    intro k H locs ls hk hw hl
    refine lv_iload_n hx hb dX7_empty_47 rfl (lv_at hl 1 rfl) ?_
    refine lv_bipush (v := (48 : Int32)) hx hb dX7_empty_48 (by decide) ?_
    refine lv_icmp_ge (tgt := 66) hx hb dX7_empty_50 (by decide) (fun hc => ?_) (fun hc => ?_)
    · exact th_vret C hw hK dX7_empty_66
    · exact absurd (nI_le (show 48 ≤ k by omega) (by omega)) hc
  | succ n ih =>
    intro k H locs ls hk hw hl
    refine lv_iload_n hx hb dX7_empty_47 rfl (lv_at hl 1 rfl) ?_
    refine lv_bipush (v := (48 : Int32)) hx hb dX7_empty_48 (by decide) ?_
    refine lv_icmp_ge (tgt := 66) hx hb dX7_empty_50 (by decide) (fun hc => ?_) (fun hc => ?_)
    · exact absurd hc (nI_ge (show k < 48 by omega) (by decide))
    · refine lv_aload_n hx hb dX7_empty_53 rfl (lv_at hl 0 rfl) ?_
      refine va_get (D := (dC, dI)) (ci := 7) (v := .ref (t 0)) (C := RX7) (T := TX7) (N := 15) C.1 C.2.1 C.2.2.2.2.1 in0X7 C.2.2.2.1 C.2.2.2.2.2.1 hw.1 0 rfl rfl 7 (by decide) (C.2.2.2.2.1 _ hwF_X7_9) (fun _ h => h) rfl dX7_empty_54 ?_
      refine lv_iload_n hx hb dX7_empty_57 rfl (lv_at hl 1 rfl) ?_
      refine lv_iconst (v := (0 : Int32)) hx hb dX7_empty_58 (by decide) ?_
      refine va_zast (D := (dC, dI)) hx hb C.2.2.2.2.2.1 hw.1 hw.2.1 hw.2.2 1 3 (f := fun _ => 0) (n := 48) (cA := cs 3) rfl rfl (vp_in_nI (show k < 48 by omega) (by decide)) dX7_empty_59 (fun H locs hP hD hS => ?_)
      rw [ne_upd] at hP hD
      refine lv_iinc (v := nI (k + 1)) (lv' := [(1, .int (nI (k + 1))), (0, .ref x)]) hx hb dX7_empty_60 hl (k := 1) rfl (nI_succ k).symm (by decide) rfl (fun ls hl => ?_)
      refine lv_goto (tgt := 47) hx hb dX7_empty_63 (by decide) ?_
      exact ih (k + 1) _ _ _ (by omega) ⟨hP, hD, hS⟩ (lv_sub hl [1, 0] rfl)
theorem ne_c {l : Launch} {x : Nat} {t : Nat → Nat} (hE : th_EO E) : th_Cv l yX7_empty cX7_empty 2 none 1 0 0 (dC, dI) (th_ty cs) E wI9 [.ref x] (wT9 cs x [0, 0, 0, 0, 0, 0, 0] t (fun _ => 0)) (fun ws => ∃ h : Nat → Int32, (∀ j, j < 48 → h j = 10) ∧ ws = wT9 cs x [24, 1, 1, 0, 0, 0, 0] t h) := by
  refine th_ofv (by decide) (Nat.le_of_ble_eq_true rfl) hE ?_
  intro p e s m below meth c A ls C hw hl
  have C : th_Cx p s m _ meth c cX7_empty RX7 2 (none) (dC, dI) (th_ty cs) E A := C
  have hl : lv_has ls 2 [(0, .ref x)] := hl
  generalize (List.toArray _ : Array Value) = args at C ⊢
  have hx := C.1
  have hb := C.2.1
  refine lv_aload_n hx hb dX7_empty_0 rfl (lv_at hl 0 rfl) ?_
  refine lv_bipush (v := (24 : Int32)) hx hb dX7_empty_1 (by decide) ?_
  refine va_put (D := (dC, dI)) (ci := 7) (v := .int 24) (ty := .int) (C := RX7) (T := TX7) (N := 15) C.1 C.2.1 C.2.2.2.2.1 in0X7 tyX7 tyX7_ok nmX7 C.2.2.2.1 C.2.2.2.2.2.1 hw.1 hw.2.1 hw.2.2 0 rfl rfl 0 (by decide) (C.2.2.2.2.1 _ hwF_X7_43) (fun _ h => h) rfl (by decide +kernel) rfl rfl (Nat.le_of_ble_eq_true rfl) dX7_empty_3 (fun H locs hP hD hS => ?_)
  replace hw : th_wI (dC, dI) wI9 A s.heap (wT9 cs x [24, 0, 0, 0, 0, 0, 0] t (fun _ => 0)) H locs := ⟨hP, hD, hS⟩
  clear hP hD hS
  refine lv_aload_n hx hb dX7_empty_6 rfl (lv_at hl 0 rfl) ?_
  refine lv_iconst (v := (1 : Int32)) hx hb dX7_empty_7 (by decide) ?_
  refine va_put (D := (dC, dI)) (ci := 7) (v := .int 1) (ty := .int) (C := RX7) (T := TX7) (N := 15) C.1 C.2.1 C.2.2.2.2.1 in0X7 tyX7 tyX7_ok nmX7 C.2.2.2.1 C.2.2.2.2.2.1 hw.1 hw.2.1 hw.2.2 0 rfl rfl 1 (by decide) (C.2.2.2.2.1 _ hwF_X7_47) (fun _ h => h) rfl (by decide +kernel) rfl rfl (Nat.le_of_ble_eq_true rfl) dX7_empty_8 (fun H locs hP hD hS => ?_)
  replace hw : th_wI (dC, dI) wI9 A s.heap (wT9 cs x [24, 1, 0, 0, 0, 0, 0] t (fun _ => 0)) H locs := ⟨hP, hD, hS⟩
  clear hP hD hS
  refine lv_aload_n hx hb dX7_empty_11 rfl (lv_at hl 0 rfl) ?_
  refine lv_iconst (v := (1 : Int32)) hx hb dX7_empty_12 (by decide) ?_
  refine va_put (D := (dC, dI)) (ci := 7) (v := .int 1) (ty := .int) (C := RX7) (T := TX7) (N := 15) C.1 C.2.1 C.2.2.2.2.1 in0X7 tyX7 tyX7_ok nmX7 C.2.2.2.1 C.2.2.2.2.2.1 hw.1 hw.2.1 hw.2.2 0 rfl rfl 2 (by decide) (C.2.2.2.2.1 _ hwF_X7_50) (fun _ h => h) rfl (by decide +kernel) rfl rfl (Nat.le_of_ble_eq_true rfl) dX7_empty_13 (fun H locs hP hD hS => ?_)
  replace hw : th_wI (dC, dI) wI9 A s.heap (wT9 cs x [24, 1, 1, 0, 0, 0, 0] t (fun _ => 0)) H locs := ⟨hP, hD, hS⟩
  clear hP hD hS
  refine lv_aload_n hx hb dX7_empty_16 rfl (lv_at hl 0 rfl) ?_
  refine lv_iconst (v := (0 : Int32)) hx hb dX7_empty_17 (by decide) ?_
  refine va_put (D := (dC, dI)) (ci := 7) (v := .int 0) (ty := .int) (C := RX7) (T := TX7) (N := 15) C.1 C.2.1 C.2.2.2.2.1 in0X7 tyX7 tyX7_ok nmX7 C.2.2.2.1 C.2.2.2.2.2.1 hw.1 hw.2.1 hw.2.2 0 rfl rfl 3 (by decide) (C.2.2.2.2.1 _ hwF_X7_53) (fun _ h => h) rfl (by decide +kernel) rfl rfl (Nat.le_of_ble_eq_true rfl) dX7_empty_18 (fun H locs hP hD hS => ?_)
  replace hw : th_wI (dC, dI) wI9 A s.heap (wT9 cs x [24, 1, 1, 0, 0, 0, 0] t (fun _ => 0)) H locs := ⟨hP, hD, hS⟩
  clear hP hD hS
  refine lv_aload_n hx hb dX7_empty_21 rfl (lv_at hl 0 rfl) ?_
  refine lv_iconst (v := (0 : Int32)) hx hb dX7_empty_22 (by decide) ?_
  refine va_put (D := (dC, dI)) (ci := 7) (v := .int 0) (ty := .int) (C := RX7) (T := TX7) (N := 15) C.1 C.2.1 C.2.2.2.2.1 in0X7 tyX7 tyX7_ok nmX7 C.2.2.2.1 C.2.2.2.2.2.1 hw.1 hw.2.1 hw.2.2 0 rfl rfl 4 (by decide) (C.2.2.2.2.1 _ hwF_X7_56) (fun _ h => h) rfl (by decide +kernel) rfl rfl (Nat.le_of_ble_eq_true rfl) dX7_empty_23 (fun H locs hP hD hS => ?_)
  replace hw : th_wI (dC, dI) wI9 A s.heap (wT9 cs x [24, 1, 1, 0, 0, 0, 0] t (fun _ => 0)) H locs := ⟨hP, hD, hS⟩
  clear hP hD hS
  refine lv_aload_n hx hb dX7_empty_26 rfl (lv_at hl 0 rfl) ?_
  refine lv_iconst (v := (0 : Int32)) hx hb dX7_empty_27 (by decide) ?_
  refine va_put (D := (dC, dI)) (ci := 7) (v := .int 0) (ty := .int) (C := RX7) (T := TX7) (N := 15) C.1 C.2.1 C.2.2.2.2.1 in0X7 tyX7 tyX7_ok nmX7 C.2.2.2.1 C.2.2.2.2.2.1 hw.1 hw.2.1 hw.2.2 0 rfl rfl 5 (by decide) (C.2.2.2.2.1 _ hwF_X7_59) (fun _ h => h) rfl (by decide +kernel) rfl rfl (Nat.le_of_ble_eq_true rfl) dX7_empty_28 (fun H locs hP hD hS => ?_)
  replace hw : th_wI (dC, dI) wI9 A s.heap (wT9 cs x [24, 1, 1, 0, 0, 0, 0] t (fun _ => 0)) H locs := ⟨hP, hD, hS⟩
  clear hP hD hS
  refine lv_aload_n hx hb dX7_empty_31 rfl (lv_at hl 0 rfl) ?_
  refine lv_iconst (v := (0 : Int32)) hx hb dX7_empty_32 (by decide) ?_
  refine va_put (D := (dC, dI)) (ci := 7) (v := .int 0) (ty := .int) (C := RX7) (T := TX7) (N := 15) C.1 C.2.1 C.2.2.2.2.1 in0X7 tyX7 tyX7_ok nmX7 C.2.2.2.1 C.2.2.2.2.2.1 hw.1 hw.2.1 hw.2.2 0 rfl rfl 6 (by decide) (C.2.2.2.2.1 _ hwF_X7_62) (fun _ h => h) rfl (by decide +kernel) rfl rfl (Nat.le_of_ble_eq_true rfl) dX7_empty_33 (fun H locs hP hD hS => ?_)
  replace hw : th_wI (dC, dI) wI9 A s.heap (wT9 cs x [24, 1, 1, 0, 0, 0, 0] t (fun _ => 0)) H locs := ⟨hP, hD, hS⟩
  clear hP hD hS
  refine lv_aload_n hx hb dX7_empty_36 rfl (lv_at hl 0 rfl) ?_
  refine va_get (D := (dC, dI)) (ci := 7) (v := .ref (t 1)) (C := RX7) (T := TX7) (N := 15) C.1 C.2.1 C.2.2.2.2.1 in0X7 C.2.2.2.1 C.2.2.2.2.2.1 hw.1 0 rfl rfl 8 (by decide) (C.2.2.2.2.1 _ hwF_X7_15) (fun _ h => h) rfl dX7_empty_37 ?_
  refine lv_bipush (v := (10 : Int32)) hx hb dX7_empty_40 (by decide) ?_
  refine th_callSv (As := [.ref (t 1), .int (10 : Int32)]) (rest := []) (K := fun ws => ∃ h : Nat → Int32, (∀ j, j < 48 → h j = 10) ∧ ws = wT9 cs x [24, 1, 1, 0, 0, 0, 0] t h) C lkJX7_65 (fr_Cv (W9 := wI9) (f := fun h => wT9 cs x [24, 1, 1, 0, 0, 0, 0] t h) (w := wF cs (t 1)) (a := (wT9 cs x [24, 1, 1, 0, 0, 0, 0] t (fun _ => 0)).take 2) (c := []) hE (fun _ _ _ h => h) (fun _ => rfl) (fun h hh => ⟨h, hh, rfl⟩) (nf_c hE)) hw rfl rfl ⟨Nat.le_of_ble_eq_true rfl, Nat.le_of_ble_eq_true rfl⟩ hl.1 (Nat.le_of_ble_eq_true rfl) ⟨Nat.le_of_ble_eq_true rfl, Nat.le_of_ble_eq_true rfl⟩ dX7_empty_42 (fun ws H locs hf hw => ?_)
  obtain ⟨h, hh, rfl⟩ := hf
  refine lv_iconst (v := (0 : Int32)) hx hb dX7_empty_45 (by decide) ?_
  refine lv_istore_n (lv' := [(1, .int (0 : Int32)), (0, .ref x)]) hx hb dX7_empty_46 rfl hl (by decide) rfl (fun ls hl => ?_)
  exact ne_lw C ⟨h, hh, rfl⟩ 48 0 _ _ _ rfl hw (lv_sub hl [1, 0] rfl)
end

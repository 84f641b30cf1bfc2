section
variable {p : Program} {l : Launch} {e : Env} {s : State} {m : MethodId} {args : Array Value} {below : List Frame} {meth : Method} {c : Code} {dC : Nat → ClassId} {dI : Nat → Nat → Nat} {cs : Nat → ClassId} {ad ak : Nat → Nat} {q v : Nat → Nat} {A : Nat → Prop}
/-! X_S0_charAt_5068e_s -/
theorem dJ0_charAt_5068e_0 : decode cJ0_charAt_5068e 0 = .ok (.aload_n 0, 1) := by decide +kernel
theorem dJ0_charAt_5068e_1 : decode cJ0_charAt_5068e 1 = .ok (.invokevirtual 492, 3) := by decide +kernel
theorem dJ0_charAt_5068e_4 : decode cJ0_charAt_5068e 4 = .ok (.ifCond .eq 12, 3) := by decide +kernel
theorem dJ0_charAt_5068e_7 : decode cJ0_charAt_5068e 7 = .ok (.aload_n 0, 1) := by decide +kernel
theorem dJ0_charAt_5068e_8 : decode cJ0_charAt_5068e 8 = .ok (.getfield 9, 3) := by decide +kernel
theorem dJ0_charAt_5068e_11 : decode cJ0_charAt_5068e 11 = .ok (.iload_n 1, 1) := by decide +kernel
theorem dJ0_charAt_5068e_12 : decode cJ0_charAt_5068e 12 = .ok (.invokestatic 495, 3) := by decide +kernel
theorem dJ0_charAt_5068e_15 : decode cJ0_charAt_5068e 15 = .ok (.ireturn, 1) := by decide +kernel
theorem dJ0_charAt_5068e_16 : decode cJ0_charAt_5068e 16 = .ok (.aload_n 0, 1) := by decide +kernel
theorem dJ0_charAt_5068e_17 : decode cJ0_charAt_5068e 17 = .ok (.getfield 9, 3) := by decide +kernel
theorem dJ0_charAt_5068e_20 : decode cJ0_charAt_5068e 20 = .ok (.iload_n 1, 1) := by decide +kernel
theorem dJ0_charAt_5068e_21 : decode cJ0_charAt_5068e 21 = .ok (.invokestatic 498, 3) := by decide +kernel
def X_S0_charAt_5068e_s (a0 : Nat) (a1 : Int32) (u : xs_St) (K : Int32 → xs_St → Prop) : Prop :=
  (a0 < 27 ∧ X_S0_isLatin1_aae02_s a0 u (fun r_2 u_1 => ((r_2 = 0 → (a0 < 27 ∧ False)) ∧ (¬ r_2 = 0 → (a0 < 27 ∧ X_S1_charAt_3b067 a0 a1 u_1 (fun r_4 u_3 => (narrow .char (.int r_4) = .int r_4 ∧ K r_4 u_3)))))))
set_option maxHeartbeats 4000000 in
set_option maxRecDepth 100000 in
theorem X_S0_charAt_5068e_s_c {l : Launch} {dC : Nat → ClassId} {dI : Nat → Nat → Nat} {cs : Nat → ClassId} {ad ak : Nat → Nat} {q v : Nat → Nat} {a0 : Nat} {a1 : Int32} {u : xs_St} {K : Int32 → xs_St → Prop} (hf : X_S0_charAt_5068e_s a0 a1 u K) : th_Ci l yJ0_charAt_5068e cJ0_charAt_5068e 2 (some .char) 4 0 0 (dC, dI) (th_ty cs) (xE ad ak) (wX cs ad q v v) [.ref (ak (100 + a0)), .int a1] u K := by
  refine th_ofi (by decide) (Nat.le_of_ble_eq_true rfl) (xE_ok ad ak) ?_
  intro p e s m below meth c A ls C hw hl
  have C : th_Cx p s m _ meth c cJ0_charAt_5068e RJ0 2 (some .char) (dC, dI) (th_ty cs) (xE ad ak) A := C
  have hl : lv_has ls 2 [(0, .ref (ak (100 + a0))), (1, .int a1)] := hl
  generalize (List.toArray _ : Array Value) = args at C ⊢
  have hx := C.1
  have hb := C.2.1
  unfold X_S0_charAt_5068e_s at hf
  refine lv_aload_n hx hb dJ0_charAt_5068e_0 rfl (lv_at hl 0 rfl) ?_
  obtain ⟨hf9, hf⟩ := hf
  refine th_callVi (As := []) (rest := []) C lkJ0_492 (X_S0_isLatin1_aae02_s_c hf) hw (x_src C hw hf9) rfl rfl ⟨Nat.le_of_ble_eq_true rfl, Nat.le_of_ble_eq_true rfl⟩ hl.1 (Nat.le_of_ble_eq_true rfl) ⟨Nat.le_of_ble_eq_true rfl, Nat.le_of_ble_eq_true rfl⟩ dJ0_charAt_5068e_1 (fun r_2 u_1 H locs hf hw => ?_)
  refine lv_if_eq (tgt := 16) hx hb dJ0_charAt_5068e_4 (by decide) (fun hc => ?_) (fun hc => ?_)
  · replace hf := hf.1 hc
    clear hc
    refine lv_aload_n hx hb dJ0_charAt_5068e_16 rfl (lv_at hl 0 rfl) ?_
    refine x_sval C hw hf.1 (C.2.2.2.2.1 _ hwF_J0_9) dJ0_charAt_5068e_17 ?_
    replace hf := hf.2
    refine lv_iload_n hx hb dJ0_charAt_5068e_20 rfl (lv_at hl 1 rfl) ?_
    exact hf.elim
  · replace hf := hf.2 hc
    clear hc
    refine lv_aload_n hx hb dJ0_charAt_5068e_7 rfl (lv_at hl 0 rfl) ?_
    refine x_sval C hw hf.1 (C.2.2.2.2.1 _ hwF_J0_9) dJ0_charAt_5068e_8 ?_
    replace hf := hf.2
    refine lv_iload_n hx hb dJ0_charAt_5068e_11 rfl (lv_at hl 1 rfl) ?_
    refine th_callSji (As := [.ref (ak (200 + a0)), .int a1]) (rest := []) C lkJJ0_495 (X_S1_charAt_3b067_c hf) hw rfl rfl ⟨Nat.le_of_ble_eq_true rfl, Nat.le_of_ble_eq_true rfl⟩ hl.1 (Nat.le_of_ble_eq_true rfl) ⟨Nat.le_of_ble_eq_true rfl, Nat.le_of_ble_eq_true rfl⟩ dJ0_charAt_5068e_12 (fun r_4 u_3 H locs hf hw => ?_)
    exact th_nret C hw hf.1 hf.2 dJ0_charAt_5068e_15
/-! X_TH_gauges -/
theorem dX11_gauges_0 : decode cX11_gauges 0 = .ok (.iconst (-1), 1) := by decide +kernel
theorem dX11_gauges_1 : decode cX11_gauges 1 = .ok (.istore_n 1, 1) := by decide +kernel
theorem dX11_gauges_2 : decode cX11_gauges 2 = .ok (.aload_n 0, 1) := by decide +kernel
theorem dX11_gauges_3 : decode cX11_gauges 3 = .ok (.invokevirtual 269, 3) := by decide +kernel
theorem dX11_gauges_6 : decode cX11_gauges 6 = .ok (.ifCond .eq 8, 3) := by decide +kernel
theorem dX11_gauges_9 : decode cX11_gauges 9 = .ok (.aload_n 0, 1) := by decide +kernel
theorem dX11_gauges_10 : decode cX11_gauges 10 = .ok (.invokevirtual 273, 3) := by decide +kernel
theorem dX11_gauges_13 : decode cX11_gauges 13 = .ok (.istore_n 1, 1) := by decide +kernel
theorem dX11_gauges_14 : decode cX11_gauges 14 = .ok (.aload_n 0, 1) := by decide +kernel
theorem dX11_gauges_15 : decode cX11_gauges 15 = .ok (.getfield 10, 3) := by decide +kernel
theorem dX11_gauges_18 : decode cX11_gauges 18 = .ok (.invokevirtual 110, 3) := by decide +kernel
theorem dX11_gauges_21 : decode cX11_gauges 21 = .ok (.iload_n 1, 1) := by decide +kernel
theorem dX11_gauges_22 : decode cX11_gauges 22 = .ok (.ireturn, 1) := by decide +kernel
def X_TH_gauges_14 (K : Int32 → xs_St → Prop) (x1 : Int32) (u : xs_St) : Prop :=
  X_TP_clear u (fun u_1 => K x1 u_1)
set_option maxHeartbeats 4000000 in
set_option maxRecDepth 100000 in
theorem X_TH_gauges_14_w {K : Int32 → xs_St → Prop} (C : th_Cx p s m args meth c cX11_gauges RX11 2 (some .int) (dC, dI) (th_ty cs) (xE ad ak) A) (x1 : Int32) (u : xs_St) (H : Heap) (locs : List Loc) (ls : Array Slot) (hf : X_TH_gauges_14 K x1 u) (hw : th_wI (dC, dI) (wX cs ad q v v) A s.heap u H locs) (hl : lv_has ls 2 [(0, .ref (q 99)), (1, .int x1)]) : W p l e (th_rm 4 0 0) s m args below meth c H locs 0 0 (MQ below (va_Qi K (th_Post (dC, dI) (wX cs ad q v v) A) A) args s 0 0 A) (F0 m 14 ls []) := by
  have hx := C.1
  have hb := C.2.1
  unfold X_TH_gauges_14 at hf
  refine lv_aload_n hx hb dX11_gauges_14 rfl (lv_at hl 0 rfl) ?_
  refine xg_0 C hw (C.2.2.2.2.1 _ hwF_X11_10) dX11_gauges_15 ?_
  refine th_callVv (As := []) (rest := []) C lkX11_110 (X_TP_clear_c hf) hw (xRc_TP C hw) rfl rfl ⟨Nat.le_of_ble_eq_true rfl, Nat.le_of_ble_eq_true rfl⟩ hl.1 (Nat.le_of_ble_eq_true rfl) ⟨Nat.le_of_ble_eq_true rfl, Nat.le_of_ble_eq_true rfl⟩ dX11_gauges_18 (fun u_1 H locs hf hw => ?_)
  refine lv_iload_n hx hb dX11_gauges_21 rfl (lv_at hl 1 rfl) ?_
  exact th_iret C hw hf dX11_gauges_22
def X_TH_gauges (u : xs_St) (K : Int32 → xs_St → Prop) : Prop :=
  X_TH_areStretches u (fun r_2 u_1 => ((r_2 = 0 → X_TH_gauges_14 K (-1 : Int32) u_1) ∧ (¬ r_2 = 0 → X_TH_placeGauges u_1 (fun r_4 u_3 => X_TH_gauges_14 K r_4 u_3))))
set_option maxHeartbeats 4000000 in
set_option maxRecDepth 100000 in
theorem X_TH_gauges_c {l : Launch} {dC : Nat → ClassId} {dI : Nat → Nat → Nat} {cs : Nat → ClassId} {ad ak : Nat → Nat} {q v : Nat → Nat} {u : xs_St} {K : Int32 → xs_St → Prop} (hf : X_TH_gauges u K) : th_Ci l yX11_gauges cX11_gauges 2 (some .int) 4 0 0 (dC, dI) (th_ty cs) (xE ad ak) (wX cs ad q v v) [.ref (q 99)] u K := by
  refine th_ofi (by decide) (Nat.le_of_ble_eq_true rfl) (xE_ok ad ak) ?_
  intro p e s m below meth c A ls C hw hl
  have C : th_Cx p s m _ meth c cX11_gauges RX11 2 (some .int) (dC, dI) (th_ty cs) (xE ad ak) A := C
  have hl : lv_has ls 2 [(0, .ref (q 99))] := hl
  generalize (List.toArray _ : Array Value) = args at C ⊢
  have hx := C.1
  have hb := C.2.1
  unfold X_TH_gauges at hf
  refine lv_iconst (v := (-1 : Int32)) hx hb dX11_gauges_0 (by decide) ?_
  refine lv_istore_n (lv' := [(1, .int (-1 : Int32)), (0, .ref (q 99))]) hx hb dX11_gauges_1 rfl hl (by decide) rfl (fun ls hl => ?_)
  refine lv_aload_n hx hb dX11_gauges_2 rfl (lv_at hl 1 rfl) ?_
  refine th_callVi (As := []) (rest := []) C lkX11_269 (X_TH_areStretches_c hf) hw (xRc_TH C hw) rfl rfl ⟨Nat.le_of_ble_eq_true rfl, Nat.le_of_ble_eq_true rfl⟩ hl.1 (Nat.le_of_ble_eq_true rfl) ⟨Nat.le_of_ble_eq_true rfl, Nat.le_of_ble_eq_true rfl⟩ dX11_gauges_3 (fun r_2 u_1 H locs hf hw => ?_)
  refine lv_if_eq (tgt := 14) hx hb dX11_gauges_6 (by decide) (fun hc => ?_) (fun hc => ?_)
  · replace hf := hf.1 hc
    clear hc
    exact X_TH_gauges_14_w C (-1 : Int32) u_1 _ _ _ hf hw (lv_sub hl [1, 0] rfl)
  · replace hf := hf.2 hc
    clear hc
    refine lv_aload_n hx hb dX11_gauges_9 rfl (lv_at hl 1 rfl) ?_
    refine th_callVi (As := []) (rest := []) C lkX11_273 (X_TH_placeGauges_c hf) hw (xRc_TH C hw) rfl rfl ⟨Nat.le_of_ble_eq_true rfl, Nat.le_of_ble_eq_true rfl⟩ hl.1 (Nat.le_of_ble_eq_true rfl) ⟨Nat.le_of_ble_eq_true rfl, Nat.le_of_ble_eq_true rfl⟩ dX11_gauges_10 (fun r_4 u_3 H locs hf hw => ?_)
    refine lv_istore_n (lv' := [(1, .int r_4), (0, .ref (q 99))]) hx hb dX11_gauges_13 rfl hl (by decide) rfl (fun ls hl => ?_)
    exact X_TH_gauges_14_w C r_4 u_3 _ _ _ hf hw (lv_sub hl [1, 0] rfl)
/-! X_TH_hour -/
theorem dX11_hour_0 : decode cX11_hour 0 = .ok (.iconst (-1), 1) := by decide +kernel
theorem dX11_hour_1 : decode cX11_hour 1 = .ok (.istore_n 1, 1) := by decide +kernel
theorem dX11_hour_2 : decode cX11_hour 2 = .ok (.aload_n 0, 1) := by decide +kernel
theorem dX11_hour_3 : decode cX11_hour 3 = .ok (.getfield 26, 3) := by decide +kernel
theorem dX11_hour_6 : decode cX11_hour 6 = .ok (.getfield 94, 3) := by decide +kernel
theorem dX11_hour_9 : decode cX11_hour 9 = .ok (.bipush 40, 2) := by decide +kernel
theorem dX11_hour_11 : decode cX11_hour 11 = .ok (.if_icmp .ge 40, 3) := by decide +kernel
theorem dX11_hour_14 : decode cX11_hour 14 = .ok (.aload_n 0, 1) := by decide +kernel
theorem dX11_hour_15 : decode cX11_hour 15 = .ok (.getfield 26, 3) := by decide +kernel
theorem dX11_hour_18 : decode cX11_hour 18 = .ok (.aload_n 0, 1) := by decide +kernel
theorem dX11_hour_19 : decode cX11_hour 19 = .ok (.getfield 10, 3) := by decide +kernel
theorem dX11_hour_22 : decode cX11_hour 22 = .ok (.aload_n 0, 1) := by decide +kernel
theorem dX11_hour_23 : decode cX11_hour 23 = .ok (.getfield 69, 3) := by decide +kernel
theorem dX11_hour_26 : decode cX11_hour 26 = .ok (.getfield 126, 3) := by decide +kernel
theorem dX11_hour_29 : decode cX11_hour 29 = .ok (.invokevirtual 129, 3) := by decide +kernel
theorem dX11_hour_32 : decode cX11_hour 32 = .ok (.ifCond .eq 19, 3) := by decide +kernel
theorem dX11_hour_35 : decode cX11_hour 35 = .ok (.aload_n 0, 1) := by decide +kernel
theorem dX11_hour_36 : decode cX11_hour 36 = .ok (.getfield 26, 3) := by decide +kernel
theorem dX11_hour_39 : decode cX11_hour 39 = .ok (.aload_n 0, 1) := by decide +kernel
theorem dX11_hour_40 : decode cX11_hour 40 = .ok (.getfield 10, 3) := by decide +kernel
theorem dX11_hour_43 : decode cX11_hour 43 = .ok (.aload_n 0, 1) := by decide +kernel
theorem dX11_hour_44 : decode cX11_hour 44 = .ok (.getfield 80, 3) := by decide +kernel
theorem dX11_hour_47 : decode cX11_hour 47 = .ok (.invokevirtual 133, 3) := by decide +kernel
theorem dX11_hour_50 : decode cX11_hour 50 = .ok (.istore_n 1, 1) := by decide +kernel
theorem dX11_hour_51 : decode cX11_hour 51 = .ok (.aload_n 0, 1) := by decide +kernel
theorem dX11_hour_52 : decode cX11_hour 52 = .ok (.getfield 10, 3) := by decide +kernel
theorem dX11_hour_55 : decode cX11_hour 55 = .ok (.invokevirtual 110, 3) := by decide +kernel
theorem dX11_hour_58 : decode cX11_hour 58 = .ok (.iload_n 1, 1) := by decide +kernel
theorem dX11_hour_59 : decode cX11_hour 59 = .ok (.ireturn, 1) := by decide +kernel
def X_TH_hour_51 (K : Int32 → xs_St → Prop) (x1 : Int32) (u : xs_St) : Prop :=
  X_TP_clear u (fun u_1 => K x1 u_1)
set_option maxHeartbeats 4000000 in
set_option maxRecDepth 100000 in
theorem X_TH_hour_51_w {K : Int32 → xs_St → Prop} (C : th_Cx p s m args meth c cX11_hour RX11 2 (some .int) (dC, dI) (th_ty cs) (xE ad ak) A) (x1 : Int32) (u : xs_St) (H : Heap) (locs : List Loc) (ls : Array Slot) (hf : X_TH_hour_51 K x1 u) (hw : th_wI (dC, dI) (wX cs ad q v v) A s.heap u H locs) (hl : lv_has ls 2 [(0, .ref (q 99)), (1, .int x1)]) (n9 m9 : Nat) (h9 : n9 + 0 ≤ 2) (g9 : m9 + 0 ≤ 443) : W p l e (th_rm 4 2 443) s m args below meth c H locs n9 m9 (MQ below (va_Qi K (th_Post (dC, dI) (wX cs ad q v v) A) A) args s 2 443 A) (F0 m 51 ls []) := by
  have hx := C.1
  have hb := C.2.1
  unfold X_TH_hour_51 at hf
  refine lv_aload_n hx hb dX11_hour_51 rfl (lv_at hl 0 rfl) ?_
  refine xg_0 C hw (C.2.2.2.2.1 _ hwF_X11_10) dX11_hour_52 ?_
  refine th_callVv (As := []) (rest := []) C lkX11_110 (X_TP_clear_c hf) hw (xRc_TP C hw) rfl rfl ⟨Nat.le_of_ble_eq_true rfl, Nat.le_of_ble_eq_true rfl⟩ hl.1 (Nat.le_of_ble_eq_true rfl) ⟨by simp only [th_rm]; omega, by simp only [th_rm]; omega⟩ dX11_hour_55 (fun u_1 H locs hf hw => ?_)
  refine lv_iload_n hx hb dX11_hour_58 rfl (lv_at hl 1 rfl) ?_
  refine W.widen (k := 2) (n := 443) (by omega) (by omega) ?_
  exact th_iret C hw hf dX11_hour_59
def X_TH_hour (u : xs_St) (K : Int32 → xs_St → Prop) : Prop :=
  (((40 : Int32) ≤ (xi u 504) → X_TH_hour_51 K (-1 : Int32) u) ∧ (¬ (40 : Int32) ≤ (xi u 504) → X_BD_isRow (xi u 300) u (fun r_2 u_1 => ((r_2 = 0 → X_TH_hour_51 K (-1 : Int32) u_1) ∧ (¬ r_2 = 0 → X_BD_addHour (xi u_1 12) u_1 (fun r_4 u_3 => X_TH_hour_51 K r_4 u_3))))))
set_option maxHeartbeats 4000000 in
set_option maxRecDepth 100000 in
theorem X_TH_hour_c {l : Launch} {dC : Nat → ClassId} {dI : Nat → Nat → Nat} {cs : Nat → ClassId} {ad ak : Nat → Nat} {q v : Nat → Nat} {u : xs_St} {K : Int32 → xs_St → Prop} (hf : X_TH_hour u K) : th_Ci l yX11_hour cX11_hour 2 (some .int) 4 2 443 (dC, dI) (th_ty cs) (xE ad ak) (wX cs ad q v v) [.ref (q 99)] u K := by
  refine th_ofi (by decide) (Nat.le_of_ble_eq_true rfl) (xE_ok ad ak) ?_
  intro p e s m below meth c A ls C hw hl
  have C : th_Cx p s m _ meth c cX11_hour RX11 2 (some .int) (dC, dI) (th_ty cs) (xE ad ak) A := C
  have hl : lv_has ls 2 [(0, .ref (q 99))] := hl
  generalize (List.toArray _ : Array Value) = args at C ⊢
  have hx := C.1
  have hb := C.2.1
  unfold X_TH_hour at hf
  refine lv_iconst (v := (-1 : Int32)) hx hb dX11_hour_0 (by decide) ?_
  refine lv_istore_n (lv' := [(1, .int (-1 : Int32)), (0, .ref (q 99))]) hx hb dX11_hour_1 rfl hl (by decide) rfl (fun ls hl => ?_)
  refine lv_aload_n hx hb dX11_hour_2 rfl (lv_at hl 1 rfl) ?_
  refine xg_2 C hw (C.2.2.2.2.1 _ hwF_X11_26) dX11_hour_3 ?_
  refine xgn_504 C hw (va_Nw.use rfl (xN C hwG_X11_94)) dX11_hour_6 ?_
  refine lv_bipush (v := (40 : Int32)) hx hb dX11_hour_9 (by decide) ?_
  refine lv_icmp_ge (tgt := 51) hx hb dX11_hour_11 (by decide) (fun hc => ?_) (fun hc => ?_)
  · replace hf := hf.1 hc
    clear hc
    exact X_TH_hour_51_w C (-1 : Int32) u _ _ _ hf hw (lv_sub hl [1, 0] rfl) _ _ (by omega) (by omega)
  · replace hf := hf.2 hc
    clear hc
    refine lv_aload_n hx hb dX11_hour_14 rfl (lv_at hl 1 rfl) ?_
    refine xg_2 C hw (C.2.2.2.2.1 _ hwF_X11_26) dX11_hour_15 ?_
    refine lv_aload_n hx hb dX11_hour_18 rfl (lv_at hl 1 rfl) ?_
    refine xg_0 C hw (C.2.2.2.2.1 _ hwF_X11_10) dX11_hour_19 ?_
    refine lv_aload_n hx hb dX11_hour_22 rfl (lv_at hl 1 rfl) ?_
    refine xg_9 C hw (C.2.2.2.2.1 _ hwF_X11_69) dX11_hour_23 ?_
    refine xgn_300 C hw (va_Nw.use rfl (xN C hwG_X11_126)) dX11_hour_26 ?_
    refine th_callVi (As := [.ref (q 199), .int (xi u 300)]) (rest := []) C lkX11_129 (X_BD_isRow_c hf) hw (xRc_BD C hw) rfl rfl ⟨Nat.le_of_ble_eq_true rfl, Nat.le_of_ble_eq_true rfl⟩ hl.1 (Nat.le_of_ble_eq_true rfl) ⟨by simp only [th_rm]; omega, by simp only [th_rm]; omega⟩ dX11_hour_29 (fun r_2 u_1 H locs hf hw => ?_)
    refine lv_if_eq (tgt := 51) hx hb dX11_hour_32 (by decide) (fun hc => ?_) (fun hc => ?_)
    · replace hf := hf.1 hc
      clear hc
      exact X_TH_hour_51_w C (-1 : Int32) u_1 _ _ _ hf hw (lv_sub hl [1, 0] rfl) _ _ (by omega) (by omega)
    · replace hf := hf.2 hc
      clear hc
      refine lv_aload_n hx hb dX11_hour_35 rfl (lv_at hl 1 rfl) ?_
      refine xg_2 C hw (C.2.2.2.2.1 _ hwF_X11_26) dX11_hour_36 ?_
      refine lv_aload_n hx hb dX11_hour_39 rfl (lv_at hl 1 rfl) ?_
      refine xg_0 C hw (C.2.2.2.2.1 _ hwF_X11_10) dX11_hour_40 ?_
      refine lv_aload_n hx hb dX11_hour_43 rfl (lv_at hl 1 rfl) ?_
      refine xg_12 C hw (C.2.2.2.2.1 _ hwF_X11_80) dX11_hour_44 ?_
      refine th_callVi (As := [.ref (q 199), .int (xi u_1 12)]) (rest := []) C lkX11_133 (X_BD_addHour_c hf) hw (xRc_BD C hw) rfl rfl ⟨Nat.le_of_ble_eq_true rfl, Nat.le_of_ble_eq_true rfl⟩ hl.1 (Nat.le_of_ble_eq_true rfl) ⟨by simp only [th_rm]; omega, by simp only [th_rm]; omega⟩ dX11_hour_47 (fun r_4 u_3 H locs hf hw => ?_)
      refine lv_istore_n (lv' := [(1, .int r_4), (0, .ref (q 99))]) hx hb dX11_hour_50 rfl hl (by decide) rfl (fun ls hl => ?_)
      exact X_TH_hour_51_w C r_4 u_3 _ _ _ hf hw (lv_sub hl [1, 0] rfl) _ _ (by omega) (by omega)
/-! X_TH_mend -/
theorem dX11_mend_0 : decode cX11_mend 0 = .ok (.iload_n 1, 1) := by decide +kernel
theorem dX11_mend_1 : decode cX11_mend 1 = .ok (.ifCond .lt 51, 3) := by decide +kernel
theorem dX11_mend_4 : decode cX11_mend 4 = .ok (.iload_n 1, 1) := by decide +kernel
theorem dX11_mend_5 : decode cX11_mend 5 = .ok (.aload_n 0, 1) := by decide +kernel
theorem dX11_mend_6 : decode cX11_mend 6 = .ok (.getfield 26, 3) := by decide +kernel
theorem dX11_mend_9 : decode cX11_mend 9 = .ok (.getfield 94, 3) := by decide +kernel
theorem dX11_mend_12 : decode cX11_mend 12 = .ok (.if_icmp .ge 40, 3) := by decide +kernel
theorem dX11_mend_15 : decode cX11_mend 15 = .ok (.aload_n 0, 1) := by decide +kernel
theorem dX11_mend_16 : decode cX11_mend 16 = .ok (.getfield 26, 3) := by decide +kernel
theorem dX11_mend_19 : decode cX11_mend 19 = .ok (.getfield 137, 3) := by decide +kernel
theorem dX11_mend_22 : decode cX11_mend 22 = .ok (.bipush 60, 2) := by decide +kernel
theorem dX11_mend_24 : decode cX11_mend 24 = .ok (.if_icmp .ge 28, 3) := by decide +kernel
theorem dX11_mend_27 : decode cX11_mend 27 = .ok (.aload_n 0, 1) := by decide +kernel
theorem dX11_mend_28 : decode cX11_mend 28 = .ok (.getfield 26, 3) := by decide +kernel
theorem dX11_mend_31 : decode cX11_mend 31 = .ok (.aload_n 0, 1) := by decide +kernel
theorem dX11_mend_32 : decode cX11_mend 32 = .ok (.getfield 10, 3) := by decide +kernel
theorem dX11_mend_35 : decode cX11_mend 35 = .ok (.aload_n 0, 1) := by decide +kernel
theorem dX11_mend_36 : decode cX11_mend 36 = .ok (.getfield 69, 3) := by decide +kernel
theorem dX11_mend_39 : decode cX11_mend 39 = .ok (.getfield 126, 3) := by decide +kernel
theorem dX11_mend_42 : decode cX11_mend 42 = .ok (.invokevirtual 129, 3) := by decide +kernel
theorem dX11_mend_45 : decode cX11_mend 45 = .ok (.ifCond .eq 7, 3) := by decide +kernel
theorem dX11_mend_48 : decode cX11_mend 48 = .ok (.iconst 1, 1) := by decide +kernel
theorem dX11_mend_49 : decode cX11_mend 49 = .ok (.goto 4, 3) := by decide +kernel
theorem dX11_mend_52 : decode cX11_mend 52 = .ok (.iconst 0, 1) := by decide +kernel
theorem dX11_mend_53 : decode cX11_mend 53 = .ok (.istore_n 2, 1) := by decide +kernel
theorem dX11_mend_54 : decode cX11_mend 54 = .ok (.iload_n 2, 1) := by decide +kernel
theorem dX11_mend_55 : decode cX11_mend 55 = .ok (.ifCond .eq 19, 3) := by decide +kernel
theorem dX11_mend_58 : decode cX11_mend 58 = .ok (.aload_n 0, 1) := by decide +kernel
theorem dX11_mend_59 : decode cX11_mend 59 = .ok (.getfield 26, 3) := by decide +kernel
theorem dX11_mend_62 : decode cX11_mend 62 = .ok (.aload_n 0, 1) := by decide +kernel
theorem dX11_mend_63 : decode cX11_mend 63 = .ok (.getfield 10, 3) := by decide +kernel
theorem dX11_mend_66 : decode cX11_mend 66 = .ok (.aload_n 0, 1) := by decide +kernel
theorem dX11_mend_67 : decode cX11_mend 67 = .ok (.getfield 80, 3) := by decide +kernel
theorem dX11_mend_70 : decode cX11_mend 70 = .ok (.iload_n 1, 1) := by decide +kernel
theorem dX11_mend_71 : decode cX11_mend 71 = .ok (.invokevirtual 140, 3) := by decide +kernel
theorem dX11_mend_74 : decode cX11_mend 74 = .ok (.aload_n 0, 1) := by decide +kernel
theorem dX11_mend_75 : decode cX11_mend 75 = .ok (.getfield 10, 3) := by decide +kernel
theorem dX11_mend_78 : decode cX11_mend 78 = .ok (.invokevirtual 110, 3) := by decide +kernel
theorem dX11_mend_81 : decode cX11_mend 81 = .ok (.iload_n 2, 1) := by decide +kernel
theorem dX11_mend_82 : decode cX11_mend 82 = .ok (.ireturn, 1) := by decide +kernel
def X_TH_mend_74 (K : Int32 → xs_St → Prop) (x2 : Int32) (u : xs_St) : Prop :=
  X_TP_clear u (fun u_1 => ((x2 = 0 ∨ x2 = 1) ∧ K x2 u_1))
set_option maxHeartbeats 4000000 in
set_option maxRecDepth 100000 in
theorem X_TH_mend_74_w {K : Int32 → xs_St → Prop} (C : th_Cx p s m args meth c cX11_mend RX11 3 (some .boolean) (dC, dI) (th_ty cs) (xE ad ak) A) (x2 : Int32) (u : xs_St) (H : Heap) (locs : List Loc) (ls : Array Slot) (hf : X_TH_mend_74 K x2 u) (hw : th_wI (dC, dI) (wX cs ad q v v) A s.heap u H locs) (hl : lv_has ls 3 [(0, .ref (q 99)), (2, .int x2)]) (n9 m9 : Nat) (h9 : n9 + 0 ≤ 2) (g9 : m9 + 0 ≤ 443) : W p l e (th_rm 4 2 443) s m args below meth c H locs n9 m9 (MQ below (va_Qi K (th_Post (dC, dI) (wX cs ad q v v) A) A) args s 2 443 A) (F0 m 74 ls []) := by
  have hx := C.1
  have hb := C.2.1
  unfold X_TH_mend_74 at hf
  refine lv_aload_n hx hb dX11_mend_74 rfl (lv_at hl 0 rfl) ?_
  refine xg_0 C hw (C.2.2.2.2.1 _ hwF_X11_10) dX11_mend_75 ?_
  refine th_callVv (As := []) (rest := []) C lkX11_110 (X_TP_clear_c hf) hw (xRc_TP C hw) rfl rfl ⟨Nat.le_of_ble_eq_true rfl, Nat.le_of_ble_eq_true rfl⟩ hl.1 (Nat.le_of_ble_eq_true rfl) ⟨by simp only [th_rm]; omega, by simp only [th_rm]; omega⟩ dX11_mend_78 (fun u_1 H locs hf hw => ?_)
  refine lv_iload_n hx hb dX11_mend_81 rfl (lv_at hl 1 rfl) ?_
  refine W.widen (k := 2) (n := 443) (by omega) (by omega) ?_
  exact th_zret C hw hf dX11_mend_82
def X_TH_mend_53 (K : Int32 → xs_St → Prop) (x1 : Int32) (z0 : Int32) (u : xs_St) : Prop :=
  ((z0 = 0 → X_TH_mend_74 K z0 u) ∧ (¬ z0 = 0 → X_BD_addMended (xi u 12) x1 u (fun u_1 => X_TH_mend_74 K z0 u_1)))
set_option maxHeartbeats 4000000 in
set_option maxRecDepth 100000 in
theorem X_TH_mend_53_w {K : Int32 → xs_St → Prop} (C : th_Cx p s m args meth c cX11_mend RX11 3 (some .boolean) (dC, dI) (th_ty cs) (xE ad ak) A) (x1 : Int32) (z0 : Int32) (u : xs_St) (H : Heap) (locs : List Loc) (ls : Array Slot) (hf : X_TH_mend_53 K x1 z0 u) (hw : th_wI (dC, dI) (wX cs ad q v v) A s.heap u H locs) (hl : lv_has ls 3 [(0, .ref (q 99)), (1, .int x1)]) (n9 m9 : Nat) (h9 : n9 + 2 ≤ 2) (g9 : m9 + 443 ≤ 443) : W p l e (th_rm 4 2 443) s m args below meth c H locs n9 m9 (MQ below (va_Qi K (th_Post (dC, dI) (wX cs ad q v v) A) A) args s 2 443 A) (F0 m 53 ls [.int z0]) := by
  have hx := C.1
  have hb := C.2.1
  unfold X_TH_mend_53 at hf
  refine lv_istore_n (lv' := [(2, .int z0), (0, .ref (q 99)), (1, .int x1)]) hx hb dX11_mend_53 rfl hl (by decide) rfl (fun ls hl => ?_)
  refine lv_iload_n hx hb dX11_mend_54 rfl (lv_at hl 0 rfl) ?_
  refine lv_if_eq (tgt := 74) hx hb dX11_mend_55 (by decide) (fun hc => ?_) (fun hc => ?_)
  · replace hf := hf.1 hc
    clear hc
    exact X_TH_mend_74_w C z0 u _ _ _ hf hw (lv_sub hl [1, 0] rfl) _ _ (by omega) (by omega)
  · replace hf := hf.2 hc
    clear hc
    refine lv_aload_n hx hb dX11_mend_58 rfl (lv_at hl 1 rfl) ?_
    refine xg_2 C hw (C.2.2.2.2.1 _ hwF_X11_26) dX11_mend_59 ?_
    refine lv_aload_n hx hb dX11_mend_62 rfl (lv_at hl 1 rfl) ?_
    refine xg_0 C hw (C.2.2.2.2.1 _ hwF_X11_10) dX11_mend_63 ?_
    refine lv_aload_n hx hb dX11_mend_66 rfl (lv_at hl 1 rfl) ?_
    refine xg_12 C hw (C.2.2.2.2.1 _ hwF_X11_80) dX11_mend_67 ?_
    refine lv_iload_n hx hb dX11_mend_70 rfl (lv_at hl 2 rfl) ?_
    refine th_callVv (As := [.ref (q 199), .int (xi u 12), .int x1]) (rest := []) C lkX11_140 (X_BD_addMended_c hf) hw (xRc_BD C hw) rfl rfl ⟨Nat.le_of_ble_eq_true rfl, Nat.le_of_ble_eq_true rfl⟩ hl.1 (Nat.le_of_ble_eq_true rfl) ⟨by simp only [th_rm]; omega, by simp only [th_rm]; omega⟩ dX11_mend_71 (fun u_1 H locs hf hw => ?_)
    exact X_TH_mend_74_w C z0 u_1 _ _ _ hf hw (lv_sub hl [1, 0] rfl) _ _ (by omega) (by omega)
def X_TH_mend_52 (K : Int32 → xs_St → Prop) (x1 : Int32) (u : xs_St) : Prop :=
  X_TH_mend_53 K x1 (0 : Int32) u
set_option maxHeartbeats 4000000 in
set_option maxRecDepth 100000 in
theorem X_TH_mend_52_w {K : Int32 → xs_St → Prop} (C : th_Cx p s m args meth c cX11_mend RX11 3 (some .boolean) (dC, dI) (th_ty cs) (xE ad ak) A) (x1 : Int32) (u : xs_St) (H : Heap) (locs : List Loc) (ls : Array Slot) (hf : X_TH_mend_52 K x1 u) (hw : th_wI (dC, dI) (wX cs ad q v v) A s.heap u H locs) (hl : lv_has ls 3 [(0, .ref (q 99)), (1, .int x1)]) (n9 m9 : Nat) (h9 : n9 + 2 ≤ 2) (g9 : m9 + 443 ≤ 443) : W p l e (th_rm 4 2 443) s m args below meth c H locs n9 m9 (MQ below (va_Qi K (th_Post (dC, dI) (wX cs ad q v v) A) A) args s 2 443 A) (F0 m 52 ls []) := by
  have hx := C.1
  have hb := C.2.1
  unfold X_TH_mend_52 at hf
  refine lv_iconst (v := (0 : Int32)) hx hb dX11_mend_52 (by decide) ?_
  exact X_TH_mend_53_w C x1 (0 : Int32) u _ _ _ hf hw (lv_sub hl [0, 1] rfl) _ _ (by omega) (by omega)
def X_TH_mend (a1 : Int32) (u : xs_St) (K : Int32 → xs_St → Prop) : Prop :=
  ((a1 < 0 → X_TH_mend_52 K a1 u) ∧ (¬ a1 < 0 → (((xi u 504) ≤ a1 → X_TH_mend_52 K a1 u) ∧ (¬ (xi u 504) ≤ a1 → (((60 : Int32) ≤ (xi u 505) → X_TH_mend_52 K a1 u) ∧ (¬ (60 : Int32) ≤ (xi u 505) → X_BD_isRow (xi u 300) u (fun r_2 u_1 => ((r_2 = 0 → X_TH_mend_52 K a1 u_1) ∧ (¬ r_2 = 0 → X_TH_mend_53 K a1 (1 : Int32) u_1)))))))))
set_option maxHeartbeats 4000000 in
set_option maxRecDepth 100000 in
theorem X_TH_mend_c {l : Launch} {dC : Nat → ClassId} {dI : Nat → Nat → Nat} {cs : Nat → ClassId} {ad ak : Nat → Nat} {q v : Nat → Nat} {a1 : Int32} {u : xs_St} {K : Int32 → xs_St → Prop} (hf : X_TH_mend a1 u K) : th_Ci l yX11_mend cX11_mend 3 (some .boolean) 4 2 443 (dC, dI) (th_ty cs) (xE ad ak) (wX cs ad q v v) [.ref (q 99), .int a1] u K := by
  refine th_ofi (by decide) (Nat.le_of_ble_eq_true rfl) (xE_ok ad ak) ?_
  intro p e s m below meth c A ls C hw hl
  have C : th_Cx p s m _ meth c cX11_mend RX11 3 (some .boolean) (dC, dI) (th_ty cs) (xE ad ak) A := C
  have hl : lv_has ls 3 [(0, .ref (q 99)), (1, .int a1)] := hl
  generalize (List.toArray _ : Array Value) = args at C ⊢
  have hx := C.1
  have hb := C.2.1
  unfold X_TH_mend at hf
  refine lv_iload_n hx hb dX11_mend_0 rfl (lv_at hl 1 rfl) ?_
  refine lv_if_lt (tgt := 52) hx hb dX11_mend_1 (by decide) (fun hc => ?_) (fun hc => ?_)
  · replace hf := hf.1 hc
    clear hc
    exact X_TH_mend_52_w C a1 u _ _ _ hf hw (lv_sub hl [0, 1] rfl) _ _ (by omega) (by omega)
  · replace hf := hf.2 hc
    clear hc
    refine lv_iload_n hx hb dX11_mend_4 rfl (lv_at hl 1 rfl) ?_
    refine lv_aload_n hx hb dX11_mend_5 rfl (lv_at hl 0 rfl) ?_
    refine xg_2 C hw (C.2.2.2.2.1 _ hwF_X11_26) dX11_mend_6 ?_
    refine xgn_504 C hw (va_Nw.use rfl (xN C hwG_X11_94)) dX11_mend_9 ?_
    refine lv_icmp_ge (tgt := 52) hx hb dX11_mend_12 (by decide) (fun hc => ?_) (fun hc => ?_)
    · replace hf := hf.1 hc
      clear hc
      exact X_TH_mend_52_w C a1 u _ _ _ hf hw (lv_sub hl [0, 1] rfl) _ _ (by omega) (by omega)
    · replace hf := hf.2 hc
      clear hc
      refine lv_aload_n hx hb dX11_mend_15 rfl (lv_at hl 0 rfl) ?_
      refine xg_2 C hw (C.2.2.2.2.1 _ hwF_X11_26) dX11_mend_16 ?_
      refine xgn_505 C hw (va_Nw.use rfl (xN C hwG_X11_137)) dX11_mend_19 ?_
      refine lv_bipush (v := (60 : Int32)) hx hb dX11_mend_22 (by decide) ?_
      refine lv_icmp_ge (tgt := 52) hx hb dX11_mend_24 (by decide) (fun hc => ?_) (fun hc => ?_)
      · replace hf := hf.1 hc
        clear hc
        exact X_TH_mend_52_w C a1 u _ _ _ hf hw (lv_sub hl [0, 1] rfl) _ _ (by omega) (by omega)
      · replace hf := hf.2 hc
        clear hc
        refine lv_aload_n hx hb dX11_mend_27 rfl (lv_at hl 0 rfl) ?_
        refine xg_2 C hw (C.2.2.2.2.1 _ hwF_X11_26) dX11_mend_28 ?_
        refine lv_aload_n hx hb dX11_mend_31 rfl (lv_at hl 0 rfl) ?_
        refine xg_0 C hw (C.2.2.2.2.1 _ hwF_X11_10) dX11_mend_32 ?_
        refine lv_aload_n hx hb dX11_mend_35 rfl (lv_at hl 0 rfl) ?_
        refine xg_9 C hw (C.2.2.2.2.1 _ hwF_X11_69) dX11_mend_36 ?_
        refine xgn_300 C hw (va_Nw.use rfl (xN C hwG_X11_126)) dX11_mend_39 ?_
        refine th_callVi (As := [.ref (q 199), .int (xi u 300)]) (rest := []) C lkX11_129 (X_BD_isRow_c hf) hw (xRc_BD C hw) rfl rfl ⟨Nat.le_of_ble_eq_true rfl, Nat.le_of_ble_eq_true rfl⟩ hl.1 (Nat.le_of_ble_eq_true rfl) ⟨by simp only [th_rm]; omega, by simp only [th_rm]; omega⟩ dX11_mend_42 (fun r_2 u_1 H locs hf hw => ?_)
        refine lv_if_eq (tgt := 52) hx hb dX11_mend_45 (by decide) (fun hc => ?_) (fun hc => ?_)
        · replace hf := hf.1 hc
          clear hc
          exact X_TH_mend_52_w C a1 u_1 _ _ _ hf hw (lv_sub hl [0, 1] rfl) _ _ (by omega) (by omega)
        · replace hf := hf.2 hc
          clear hc
          refine lv_iconst (v := (1 : Int32)) hx hb dX11_mend_48 (by decide) ?_
          refine lv_goto (tgt := 53) hx hb dX11_mend_49 (by decide) ?_
          exact X_TH_mend_53_w C a1 (1 : Int32) u_1 _ _ _ hf hw (lv_sub hl [0, 1] rfl) _ _ (by omega) (by omega)
/-! X_T_holds_A -/
theorem dX7_holds_0 : decode cX7_holds 0 = .ok (.lconst 0, 1) := by decide +kernel
theorem dX7_holds_1 : decode cX7_holds 1 = .ok (.lstore_n 3, 1) := by decide +kernel
theorem dX7_holds_2 : decode cX7_holds 2 = .ok (.iload_n 1, 1) := by decide +kernel
theorem dX7_holds_3 : decode cX7_holds 3 = .ok (.ifCond .ne 7, 3) := by decide +kernel
theorem dX7_holds_6 : decode cX7_holds 6 = .ok (.iconst 0, 1) := by decide +kernel
theorem dX7_holds_7 : decode cX7_holds 7 = .ok (.goto 11, 3) := by decide +kernel
theorem dX7_holds_10 : decode cX7_holds 10 = .ok (.aload_n 0, 1) := by decide +kernel
theorem dX7_holds_11 : decode cX7_holds 11 = .ok (.getfield 22, 3) := by decide +kernel
theorem dX7_holds_14 : decode cX7_holds 14 = .ok (.iload_n 1, 1) := by decide +kernel
theorem dX7_holds_15 : decode cX7_holds 15 = .ok (.iconst 1, 1) := by decide +kernel
theorem dX7_holds_16 : decode cX7_holds 16 = .ok (.isub, 1) := by decide +kernel
theorem dX7_holds_17 : decode cX7_holds 17 = .ok (.iaload, 1) := by decide +kernel
theorem dX7_holds_18 : decode cX7_holds 18 = .ok (.istore 5, 2) := by decide +kernel
theorem dX7_holds_20 : decode cX7_holds 20 = .ok (.iload 5, 2) := by decide +kernel
theorem dX7_holds_22 : decode cX7_holds 22 = .ok (.aload_n 0, 1) := by decide +kernel
theorem dX7_holds_23 : decode cX7_holds 23 = .ok (.getfield 22, 3) := by decide +kernel
theorem dX7_holds_26 : decode cX7_holds 26 = .ok (.iload_n 1, 1) := by decide +kernel
theorem dX7_holds_27 : decode cX7_holds 27 = .ok (.iaload, 1) := by decide +kernel
theorem dX7_holds_28 : decode cX7_holds 28 = .ok (.if_icmp .ge 102, 3) := by decide +kernel
theorem dX7_holds_31 : decode cX7_holds 31 = .ok (.aload_n 0, 1) := by decide +kernel
theorem dX7_holds_32 : decode cX7_holds 32 = .ok (.getfield 27, 3) := by decide +kernel
theorem dX7_holds_35 : decode cX7_holds 35 = .ok (.iload 5, 2) := by decide +kernel
theorem dX7_holds_37 : decode cX7_holds 37 = .ok (.aaload, 1) := by decide +kernel
theorem dX7_holds_38 : decode cX7_holds 38 = .ok (.getstatic 89, 3) := by decide +kernel
theorem dX7_holds_41 : decode cX7_holds 41 = .ok (.if_acmp .ne 10, 3) := by decide +kernel
theorem dX7_holds_44 : decode cX7_holds 44 = .ok (.lload_n 3, 1) := by decide +kernel
theorem dX7_holds_45 : decode cX7_holds 45 = .ok (.lconst 1, 1) := by decide +kernel
theorem dX7_holds_46 : decode cX7_holds 46 = .ok (.lxor, 1) := by decide +kernel
theorem dX7_holds_47 : decode cX7_holds 47 = .ok (.lstore_n 3, 1) := by decide +kernel
theorem dX7_holds_48 : decode cX7_holds 48 = .ok (.goto 76, 3) := by decide +kernel
theorem dX7_holds_51 : decode cX7_holds 51 = .ok (.aload_n 0, 1) := by decide +kernel
theorem dX7_holds_52 : decode cX7_holds 52 = .ok (.getfield 27, 3) := by decide +kernel
theorem dX7_holds_55 : decode cX7_holds 55 = .ok (.iload 5, 2) := by decide +kernel
theorem dX7_holds_57 : decode cX7_holds 57 = .ok (.aaload, 1) := by decide +kernel
theorem dX7_holds_58 : decode cX7_holds 58 = .ok (.getstatic 93, 3) := by decide +kernel
theorem dX7_holds_61 : decode cX7_holds 61 = .ok (.if_acmp .ne 18, 3) := by decide +kernel
theorem dX7_holds_64 : decode cX7_holds 64 = .ok (.lload_n 3, 1) := by decide +kernel
theorem dX7_holds_65 : decode cX7_holds 65 = .ok (.iconst 1, 1) := by decide +kernel
theorem dX7_holds_66 : decode cX7_holds 66 = .ok (.lshr, 1) := by decide +kernel
theorem dX7_holds_67 : decode cX7_holds 67 = .ok (.lload_n 3, 1) := by decide +kernel
theorem dX7_holds_68 : decode cX7_holds 68 = .ok (.lconst 1, 1) := by decide +kernel
theorem dX7_holds_69 : decode cX7_holds 69 = .ok (.land, 1) := by decide +kernel
theorem dX7_holds_70 : decode cX7_holds 70 = .ok (.ldc2_w 96, 3) := by decide +kernel
theorem dX7_holds_73 : decode cX7_holds 73 = .ok (.lor, 1) := by decide +kernel
theorem dX7_holds_74 : decode cX7_holds 74 = .ok (.land, 1) := by decide +kernel
theorem dX7_holds_75 : decode cX7_holds 75 = .ok (.lstore_n 3, 1) := by decide +kernel
theorem dX7_holds_76 : decode cX7_holds 76 = .ok (.goto 48, 3) := by decide +kernel
theorem dX7_holds_79 : decode cX7_holds 79 = .ok (.aload_n 0, 1) := by decide +kernel
theorem dX7_holds_80 : decode cX7_holds 80 = .ok (.getfield 27, 3) := by decide +kernel
theorem dX7_holds_83 : decode cX7_holds 83 = .ok (.iload 5, 2) := by decide +kernel
theorem dX7_holds_85 : decode cX7_holds 85 = .ok (.aaload, 1) := by decide +kernel
theorem dX7_holds_86 : decode cX7_holds 86 = .ok (.getstatic 98, 3) := by decide +kernel
theorem dX7_holds_89 : decode cX7_holds 89 = .ok (.if_acmp .ne 14, 3) := by decide +kernel
theorem dX7_holds_92 : decode cX7_holds 92 = .ok (.lload_n 3, 1) := by decide +kernel
theorem dX7_holds_93 : decode cX7_holds 93 = .ok (.iconst 1, 1) := by decide +kernel
theorem dX7_holds_94 : decode cX7_holds 94 = .ok (.lshr, 1) := by decide +kernel
theorem dX7_holds_95 : decode cX7_holds 95 = .ok (.lload_n 3, 1) := by decide +kernel
theorem dX7_holds_96 : decode cX7_holds 96 = .ok (.lconst 1, 1) := by decide +kernel
theorem dX7_holds_97 : decode cX7_holds 97 = .ok (.land, 1) := by decide +kernel
theorem dX7_holds_98 : decode cX7_holds 98 = .ok (.lor, 1) := by decide +kernel
theorem dX7_holds_99 : decode cX7_holds 99 = .ok (.lstore_n 3, 1) := by decide +kernel
theorem dX7_holds_100 : decode cX7_holds 100 = .ok (.goto 24, 3) := by decide +kernel
theorem dX7_holds_103 : decode cX7_holds 103 = .ok (.lload_n 3, 1) := by decide +kernel
theorem dX7_holds_104 : decode cX7_holds 104 = .ok (.iconst 1, 1) := by decide +kernel
theorem dX7_holds_105 : decode cX7_holds 105 = .ok (.lshl, 1) := by decide +kernel
theorem dX7_holds_106 : decode cX7_holds 106 = .ok (.aload_n 0, 1) := by decide +kernel
theorem dX7_holds_107 : decode cX7_holds 107 = .ok (.iload 5, 2) := by decide +kernel
theorem dX7_holds_109 : decode cX7_holds 109 = .ok (.aload_n 2, 1) := by decide +kernel
theorem dX7_holds_110 : decode cX7_holds 110 = .ok (.invokevirtual 101, 3) := by decide +kernel
theorem dX7_holds_113 : decode cX7_holds 113 = .ok (.ifCond .eq 7, 3) := by decide +kernel
theorem dX7_holds_116 : decode cX7_holds 116 = .ok (.iconst 1, 1) := by decide +kernel
theorem dX7_holds_117 : decode cX7_holds 117 = .ok (.goto 4, 3) := by decide +kernel
theorem dX7_holds_120 : decode cX7_holds 120 = .ok (.iconst 0, 1) := by decide +kernel
theorem dX7_holds_121 : decode cX7_holds 121 = .ok (.i2l, 1) := by decide +kernel
theorem dX7_holds_122 : decode cX7_holds 122 = .ok (.lor, 1) := by decide +kernel
theorem dX7_holds_123 : decode cX7_holds 123 = .ok (.lstore_n 3, 1) := by decide +kernel
theorem dX7_holds_124 : decode cX7_holds 124 = .ok (.iinc 5 1, 3) := by decide +kernel
theorem dX7_holds_127 : decode cX7_holds 127 = .ok (.goto (-107), 3) := by decide +kernel
theorem dX7_holds_130 : decode cX7_holds 130 = .ok (.lload_n 3, 1) := by decide +kernel
theorem dX7_holds_131 : decode cX7_holds 131 = .ok (.lconst 1, 1) := by decide +kernel
theorem dX7_holds_132 : decode cX7_holds 132 = .ok (.land, 1) := by decide +kernel
theorem dX7_holds_133 : decode cX7_holds 133 = .ok (.lconst 1, 1) := by decide +kernel
theorem dX7_holds_134 : decode cX7_holds 134 = .ok (.lcmp, 1) := by decide +kernel
theorem dX7_holds_135 : decode cX7_holds 135 = .ok (.ifCond .ne 7, 3) := by decide +kernel
theorem dX7_holds_138 : decode cX7_holds 138 = .ok (.iconst 1, 1) := by decide +kernel
theorem dX7_holds_139 : decode cX7_holds 139 = .ok (.goto 4, 3) := by decide +kernel
theorem dX7_holds_142 : decode cX7_holds 142 = .ok (.iconst 0, 1) := by decide +kernel
theorem dX7_holds_143 : decode cX7_holds 143 = .ok (.ireturn, 1) := by decide +kernel
def X_T_holds_A_124 (K : Int32 → xs_St → Prop) (k20 : Int32 → Option Nat → Int64 → Int32 → xs_St → Prop) (x1 : Int32) (x2 : Option Nat) (x3 : Int64) (x5 : Int32) (u : xs_St) : Prop :=
  ∀ x5_1 : Int32, x5_1 = x5 + (1 : Int32) → k20 x1 x2 x3 x5_1 u
set_option maxHeartbeats 4000000 in
set_option maxRecDepth 100000 in
theorem X_T_holds_A_124_w {K : Int32 → xs_St → Prop} {k20 : Int32 → Option Nat → Int64 → Int32 → xs_St → Prop} (C : th_Cx p s m args meth c cX7_holds RX7 6 (some .boolean) (dC, dI) (th_ty cs) (xE ad ak) A) (hk20 : ∀ (x1 : Int32) (x2 : Option Nat) (x3 : Int64) (x5 : Int32) (u : xs_St) (H : Heap) (locs : List Loc) (ls : Array Slot), k20 x1 x2 x3 x5 u → th_wI (dC, dI) (wX cs ad q v v) A s.heap u H locs → lv_has ls 6 [(0, .ref (v 399)), (1, .int x1), (2, va_rf x2), (3, .long x3), (5, .int x5)] → W p l e (th_rm 4 0 0) s m args below meth c H locs 0 0 (MQ below (va_Qi K (th_Post (dC, dI) (wX cs ad q v v) A) A) args s 0 0 A) (F0 m 20 ls [])) (x1 : Int32) (x2 : Option Nat) (x3 : Int64) (x5 : Int32) (u : xs_St) (H : Heap) (locs : List Loc) (ls : Array Slot) (hf : X_T_holds_A_124 K k20 x1 x2 x3 x5 u) (hw : th_wI (dC, dI) (wX cs ad q v v) A s.heap u H locs) (hl : lv_has ls 6 [(0, .ref (v 399)), (1, .int x1), (2, va_rf x2), (3, .long x3), (5, .int x5)]) : W p l e (th_rm 4 0 0) s m args below meth c H locs 0 0 (MQ below (va_Qi K (th_Post (dC, dI) (wX cs ad q v v) A) A) args s 0 0 A) (F0 m 124 ls []) := by
  have hx := C.1
  have hb := C.2.1
  unfold X_T_holds_A_124 at hf
  obtain ⟨x5_1, e9⟩ : ∃ y : Int32, y = x5 + (1 : Int32) := ⟨_, rfl⟩
  replace hf := hf x5_1 e9
  refine lv_iinc (v := x5_1) (lv' := [(5, .int x5_1), (0, .ref (v 399)), (1, .int x1), (2, va_rf x2), (3, .long x3)]) hx hb dX7_holds_124 hl (k := 4) rfl (by rw [e9]; rfl) (by decide) rfl (fun ls hl => ?_)
  clear e9
  refine lv_goto (tgt := 20) hx hb dX7_holds_127 (by decide) ?_
  exact hk20 x1 x2 x3 x5_1 u _ _ _ hf hw (lv_sub hl [1, 2, 3, 4, 0] rfl)
def X_T_holds_A_121 (K : Int32 → xs_St → Prop) (k20 : Int32 → Option Nat → Int64 → Int32 → xs_St → Prop) (x1 : Int32) (x2 : Option Nat) (x5 : Int32) (z0 : Int32) (z1 : Int64) (u : xs_St) : Prop :=
  ∀ y_1 : Int64, y_1 = (z1 ||| (z0).toInt64) → X_T_holds_A_124 K k20 x1 x2 y_1 x5 u
set_option maxHeartbeats 4000000 in
set_option maxRecDepth 100000 in
theorem X_T_holds_A_121_w {K : Int32 → xs_St → Prop} {k20 : Int32 → Option Nat → Int64 → Int32 → xs_St → Prop} (C : th_Cx p s m args meth c cX7_holds RX7 6 (some .boolean) (dC, dI) (th_ty cs) (xE ad ak) A) (hk20 : ∀ (x1 : Int32) (x2 : Option Nat) (x3 : Int64) (x5 : Int32) (u : xs_St) (H : Heap) (locs : List Loc) (ls : Array Slot), k20 x1 x2 x3 x5 u → th_wI (dC, dI) (wX cs ad q v v) A s.heap u H locs → lv_has ls 6 [(0, .ref (v 399)), (1, .int x1), (2, va_rf x2), (3, .long x3), (5, .int x5)] → W p l e (th_rm 4 0 0) s m args below meth c H locs 0 0 (MQ below (va_Qi K (th_Post (dC, dI) (wX cs ad q v v) A) A) args s 0 0 A) (F0 m 20 ls [])) (x1 : Int32) (x2 : Option Nat) (x5 : Int32) (z0 : Int32) (z1 : Int64) (u : xs_St) (H : Heap) (locs : List Loc) (ls : Array Slot) (hf : X_T_holds_A_121 K k20 x1 x2 x5 z0 z1 u) (hw : th_wI (dC, dI) (wX cs ad q v v) A s.heap u H locs) (hl : lv_has ls 6 [(0, .ref (v 399)), (1, .int x1), (2, va_rf x2), (5, .int x5)]) : W p l e (th_rm 4 0 0) s m args below meth c H locs 0 0 (MQ below (va_Qi K (th_Post (dC, dI) (wX cs ad q v v) A) A) args s 0 0 A) (F0 m 121 ls [.int z0, .long z1]) := by
  have hx := C.1
  have hb := C.2.1
  unfold X_T_holds_A_121 at hf
  refine lv_i2l hx hb dX7_holds_121 rfl ?_
  refine lv_lor hx hb dX7_holds_122 ?_
  refine lv_topl (fun y_1 e9 => ?_)
  replace hf := hf y_1 e9
  clear e9
  refine lv_lstore_n (i := 3) (lv' := [(3, .long y_1), (0, .ref (v 399)), (1, .int x1), (2, va_rf x2), (5, .int x5)]) hx hb dX7_holds_123 rfl hl (by decide) (by simp [List.filter, th_cat, th_cate]) (fun ls hl => ?_)
  exact X_T_holds_A_124_w C hk20 x1 x2 y_1 x5 u _ _ _ hf hw (lv_sub hl [1, 2, 3, 0, 4] rfl)
def X_T_holds_A_143 (K : Int32 → xs_St → Prop) (z0 : Int32) (u : xs_St) : Prop :=
  ((z0 = 0 ∨ z0 = 1) ∧ K z0 u)
set_option maxHeartbeats 4000000 in
set_option maxRecDepth 100000 in
theorem X_T_holds_A_143_w {K : Int32 → xs_St → Prop} (C : th_Cx p s m args meth c cX7_holds RX7 6 (some .boolean) (dC, dI) (th_ty cs) (xE ad ak) A) (z0 : Int32) (u : xs_St) (H : Heap) (locs : List Loc) (ls : Array Slot) (hf : X_T_holds_A_143 K z0 u) (hw : th_wI (dC, dI) (wX cs ad q v v) A s.heap u H locs) (hl : lv_has ls 6 []) : W p l e (th_rm 4 0 0) s m args below meth c H locs 0 0 (MQ below (va_Qi K (th_Post (dC, dI) (wX cs ad q v v) A) A) args s 0 0 A) (F0 m 143 ls [.int z0]) := by
  have hx := C.1
  have hb := C.2.1
  unfold X_T_holds_A_143 at hf
  exact th_zret C hw hf dX7_holds_143
def X_T_holds_A_20 (K : Int32 → xs_St → Prop) (k20 : Int32 → Option Nat → Int64 → Int32 → xs_St → Prop) (x1 : Int32) (x2 : Option Nat) (x3 : Int64) (x5 : Int32) (u : xs_St) : Prop :=
  (vp_in x1 6 ∧ ∀ y_1 : Int32, y_1 = xa u 310 (x1).toNatClampNeg → ((y_1 ≤ x5 → ((¬ (lg_cmp (x3 &&& (1 : Int64)) (1 : Int64)) = 0 → X_T_holds_A_143 K (0 : Int32) u) ∧ ((lg_cmp (x3 &&& (1 : Int64)) (1 : Int64)) = 0 → X_T_holds_A_143 K (1 : Int32) u))) ∧ (¬ y_1 ≤ x5 → (vp_in x5 80 ∧ ∀ y_2 : Option Nat, y_2 = xo u 311 (x5).toNatClampNeg → ((¬ y_2 = (some 21) → (vp_in x5 80 ∧ ∀ y_3 : Option Nat, y_3 = xo u 311 (x5).toNatClampNeg → ((¬ y_3 = (some 20) → (vp_in x5 80 ∧ ∀ y_4 : Option Nat, y_4 = xo u 311 (x5).toNatClampNeg → ((¬ y_4 = (some 19) → X_T_isSo_A x5 x2 u (fun r_6 u_5 => ((r_6 = 0 → X_T_holds_A_121 K k20 x1 x2 x5 (0 : Int32) (x3 <<< (((1 : Int32)).toInt64 &&& 63)) u_5) ∧ (¬ r_6 = 0 → X_T_holds_A_121 K k20 x1 x2 x5 (1 : Int32) (x3 <<< (((1 : Int32)).toInt64 &&& 63)) u_5)))) ∧ (y_4 = (some 19) → ∀ y_7 : Int64, y_7 = ((x3 >>> (((1 : Int32)).toInt64 &&& 63)) ||| (x3 &&& (1 : Int64))) → X_T_holds_A_124 K k20 x1 x2 y_7 x5 u)))) ∧ (y_3 = (some 20) → ∀ y_8 : Int64, y_8 = ((x3 >>> (((1 : Int32)).toInt64 &&& 63)) &&& ((x3 &&& (1 : Int64)) ||| (-2 : Int64))) → X_T_holds_A_124 K k20 x1 x2 y_8 x5 u)))) ∧ (y_2 = (some 21) → ∀ y_9 : Int64, y_9 = (x3 ^^^ (1 : Int64)) → X_T_holds_A_124 K k20 x1 x2 y_9 x5 u))))))
set_option maxHeartbeats 4000000 in
set_option maxRecDepth 100000 in
theorem X_T_holds_A_20_w {K : Int32 → xs_St → Prop} {k20 : Int32 → Option Nat → Int64 → Int32 → xs_St → Prop} (C : th_Cx p s m args meth c cX7_holds RX7 6 (some .boolean) (dC, dI) (th_ty cs) (xE ad ak) A) (hk20 : ∀ (x1 : Int32) (x2 : Option Nat) (x3 : Int64) (x5 : Int32) (u : xs_St) (H : Heap) (locs : List Loc) (ls : Array Slot), k20 x1 x2 x3 x5 u → th_wI (dC, dI) (wX cs ad q v v) A s.heap u H locs → lv_has ls 6 [(0, .ref (v 399)), (1, .int x1), (2, va_rf x2), (3, .long x3), (5, .int x5)] → W p l e (th_rm 4 0 0) s m args below meth c H locs 0 0 (MQ below (va_Qi K (th_Post (dC, dI) (wX cs ad q v v) A) A) args s 0 0 A) (F0 m 20 ls [])) (x1 : Int32) (x2 : Option Nat) (x3 : Int64) (x5 : Int32) (u : xs_St) (H : Heap) (locs : List Loc) (ls : Array Slot) (hf : X_T_holds_A_20 K k20 x1 x2 x3 x5 u) (hw : th_wI (dC, dI) (wX cs ad q v v) A s.heap u H locs) (hl : lv_has ls 6 [(0, .ref (v 399)), (1, .int x1), (2, va_rf x2), (3, .long x3), (5, .int x5)]) : W p l e (th_rm 4 0 0) s m args below meth c H locs 0 0 (MQ below (va_Qi K (th_Post (dC, dI) (wX cs ad q v v) A) A) args s 0 0 A) (F0 m 20 ls []) := by
  have hx := C.1
  have hb := C.2.1
  unfold X_T_holds_A_20 at hf
  refine lv_iload hx hb dX7_holds_20 (lv_at hl 4 rfl) ?_
  refine lv_aload_n hx hb dX7_holds_22 rfl (lv_at hl 0 rfl) ?_
  refine xg_310 C hw (C.2.2.2.2.1 _ hwF_X7_22) dX7_holds_23 ?_
  refine lv_iload_n hx hb dX7_holds_26 rfl (lv_at hl 1 rfl) ?_
  refine yl_310 C hw hf.1 dX7_holds_27 (fun y_1 e9 => ?_)
  replace hf := hf.2 y_1 e9
  clear e9
  refine lv_icmp_ge (tgt := 130) hx hb dX7_holds_28 (by decide) (fun hc => ?_) (fun hc => ?_)
  · replace hf := hf.1 hc
    clear hc
    refine lv_lload_n hx hb dX7_holds_130 rfl (lv_at hl 3 rfl) ?_
    refine lv_lconst (v := (1 : Int64)) hx hb dX7_holds_131 (by decide) ?_
    refine lv_land hx hb dX7_holds_132 ?_
    refine lv_lconst (v := (1 : Int64)) hx hb dX7_holds_133 (by decide) ?_
    refine W.lcmp hx hb dX7_holds_134 ?_
    refine lv_if_ne (tgt := 142) hx hb dX7_holds_135 (by decide) (fun hc => ?_) (fun hc => ?_)
    · replace hf := hf.1 hc
      clear hc
      refine lv_iconst (v := (0 : Int32)) hx hb dX7_holds_142 (by decide) ?_
      exact X_T_holds_A_143_w C (0 : Int32) u _ _ _ hf hw (lv_sub hl [] rfl)
    · replace hf := hf.2 hc
      clear hc
      refine lv_iconst (v := (1 : Int32)) hx hb dX7_holds_138 (by decide) ?_
      refine lv_goto (tgt := 143) hx hb dX7_holds_139 (by decide) ?_
      exact X_T_holds_A_143_w C (1 : Int32) u _ _ _ hf hw (lv_sub hl [] rfl)
  · replace hf := hf.2 hc
    clear hc
    refine lv_aload_n hx hb dX7_holds_31 rfl (lv_at hl 0 rfl) ?_
    refine xg_311 C hw (C.2.2.2.2.1 _ hwF_X7_27) dX7_holds_32 ?_
    refine lv_iload hx hb dX7_holds_35 (lv_at hl 4 rfl) ?_
    refine yl_311 C hw hf.1 dX7_holds_37 (fun y_2 e9 => ?_)
    replace hf := hf.2 y_2 e9
    clear e9
    refine xst C hw 21 (by decide) (C.2.2.2.2.1 _ hwF_X7_89) dX7_holds_38 ?_
    refine x_acmp_ne (tgt := 51) C dX7_holds_41 (by decide) (fun hc => ?_) (fun hc => ?_)
    · replace hf := hf.1 hc
      clear hc
      refine lv_aload_n hx hb dX7_holds_51 rfl (lv_at hl 0 rfl) ?_
      refine xg_311 C hw (C.2.2.2.2.1 _ hwF_X7_27) dX7_holds_52 ?_
      refine lv_iload hx hb dX7_holds_55 (lv_at hl 4 rfl) ?_
      refine yl_311 C hw hf.1 dX7_holds_57 (fun y_3 e9 => ?_)
      replace hf := hf.2 y_3 e9
      clear e9
      refine xst C hw 20 (by decide) (C.2.2.2.2.1 _ hwF_X7_93) dX7_holds_58 ?_
      refine x_acmp_ne (tgt := 79) C dX7_holds_61 (by decide) (fun hc => ?_) (fun hc => ?_)
      · replace hf := hf.1 hc
        clear hc
        refine lv_aload_n hx hb dX7_holds_79 rfl (lv_at hl 0 rfl) ?_
        refine xg_311 C hw (C.2.2.2.2.1 _ hwF_X7_27) dX7_holds_80 ?_
        refine lv_iload hx hb dX7_holds_83 (lv_at hl 4 rfl) ?_
        refine yl_311 C hw hf.1 dX7_holds_85 (fun y_4 e9 => ?_)
        replace hf := hf.2 y_4 e9
        clear e9
        refine xst C hw 19 (by decide) (C.2.2.2.2.1 _ hwF_X7_98) dX7_holds_86 ?_
        refine x_acmp_ne (tgt := 103) C dX7_holds_89 (by decide) (fun hc => ?_) (fun hc => ?_)
        · replace hf := hf.1 hc
          clear hc
          refine lv_lload_n hx hb dX7_holds_103 rfl (lv_at hl 3 rfl) ?_
          refine lv_iconst (v := (1 : Int32)) hx hb dX7_holds_104 (by decide) ?_
          refine lv_lshl hx hb dX7_holds_105 rfl ?_
          refine lv_aload_n hx hb dX7_holds_106 rfl (lv_at hl 0 rfl) ?_
          refine lv_iload hx hb dX7_holds_107 (lv_at hl 4 rfl) ?_
          refine th_aload_n hx hb dX7_holds_109 rfl (lv_at hl 2 rfl) ?_
          refine th_callVi (As := [.int x5, va_rf x2]) (rest := [.long (x3 <<< (((1 : Int32)).toInt64 &&& 63))]) C lkX7_101 (X_T_isSo_A_c hf) hw (xRc_TA C hw) rfl rfl ⟨Nat.le_of_ble_eq_true rfl, Nat.le_of_ble_eq_true rfl⟩ hl.1 (Nat.le_of_ble_eq_true rfl) ⟨Nat.le_of_ble_eq_true rfl, Nat.le_of_ble_eq_true rfl⟩ dX7_holds_110 (fun r_6 u_5 H locs hf hw => ?_)
          refine lv_if_eq (tgt := 120) hx hb dX7_holds_113 (by decide) (fun hc => ?_) (fun hc => ?_)
          · replace hf := hf.1 hc
            clear hc
            refine lv_iconst (v := (0 : Int32)) hx hb dX7_holds_120 (by decide) ?_
            exact X_T_holds_A_121_w C hk20 x1 x2 x5 (0 : Int32) (x3 <<< (((1 : Int32)).toInt64 &&& 63)) u_5 _ _ _ hf hw (lv_sub hl [0, 1, 2, 4] rfl)
          · replace hf := hf.2 hc
            clear hc
            refine lv_iconst (v := (1 : Int32)) hx hb dX7_holds_116 (by decide) ?_
            refine lv_goto (tgt := 121) hx hb dX7_holds_117 (by decide) ?_
            exact X_T_holds_A_121_w C hk20 x1 x2 x5 (1 : Int32) (x3 <<< (((1 : Int32)).toInt64 &&& 63)) u_5 _ _ _ hf hw (lv_sub hl [0, 1, 2, 4] rfl)
        · replace hf := hf.2 hc
          clear hc
          refine lv_lload_n hx hb dX7_holds_92 rfl (lv_at hl 3 rfl) ?_
          refine lv_iconst (v := (1 : Int32)) hx hb dX7_holds_93 (by decide) ?_
          refine lv_lshr hx hb dX7_holds_94 rfl ?_
          refine lv_lload_n hx hb dX7_holds_95 rfl (lv_at hl 3 rfl) ?_
          refine lv_lconst (v := (1 : Int64)) hx hb dX7_holds_96 (by decide) ?_
          refine lv_land hx hb dX7_holds_97 ?_
          refine lv_lor hx hb dX7_holds_98 ?_
          refine lv_topl (fun y_7 e9 => ?_)
          replace hf := hf y_7 e9
          clear e9
          refine lv_lstore_n (i := 3) (lv' := [(3, .long y_7), (0, .ref (v 399)), (1, .int x1), (2, va_rf x2), (5, .int x5)]) hx hb dX7_holds_99 rfl hl (by decide) (by simp [List.filter, th_cat, th_cate]) (fun ls hl => ?_)
          refine lv_goto (tgt := 124) hx hb dX7_holds_100 (by decide) ?_
          exact X_T_holds_A_124_w C hk20 x1 x2 y_7 x5 u _ _ _ hf hw (lv_sub hl [1, 2, 3, 0, 4] rfl)
      · replace hf := hf.2 hc
        clear hc
        refine lv_lload_n hx hb dX7_holds_64 rfl (lv_at hl 3 rfl) ?_
        refine lv_iconst (v := (1 : Int32)) hx hb dX7_holds_65 (by decide) ?_
        refine lv_lshr hx hb dX7_holds_66 rfl ?_
        refine lv_lload_n hx hb dX7_holds_67 rfl (lv_at hl 3 rfl) ?_
        refine lv_lconst (v := (1 : Int64)) hx hb dX7_holds_68 (by decide) ?_
        refine lv_land hx hb dX7_holds_69 ?_
        refine lv_ldc2 hx hb C.2.2.2.1 (C.2.2.2.2.1 _ hwK_X7_96) dX7_holds_70 ?_
        refine lv_lor hx hb dX7_holds_73 ?_
        refine lv_land hx hb dX7_holds_74 ?_
        refine lv_topl (fun y_8 e9 => ?_)
        replace hf := hf y_8 e9
        clear e9
        refine lv_lstore_n (i := 3) (lv' := [(3, .long y_8), (0, .ref (v 399)), (1, .int x1), (2, va_rf x2), (5, .int x5)]) hx hb dX7_holds_75 rfl hl (by decide) (by simp [List.filter, th_cat, th_cate]) (fun ls hl => ?_)
        refine lv_goto (tgt := 124) hx hb dX7_holds_76 (by decide) ?_
        exact X_T_holds_A_124_w C hk20 x1 x2 y_8 x5 u _ _ _ hf hw (lv_sub hl [1, 2, 3, 0, 4] rfl)
    · replace hf := hf.2 hc
      clear hc
      refine lv_lload_n hx hb dX7_holds_44 rfl (lv_at hl 3 rfl) ?_
      refine lv_lconst (v := (1 : Int64)) hx hb dX7_holds_45 (by decide) ?_
      refine lv_lxor hx hb dX7_holds_46 ?_
      refine lv_topl (fun y_9 e9 => ?_)
      replace hf := hf y_9 e9
      clear e9
      refine lv_lstore_n (i := 3) (lv' := [(3, .long y_9), (0, .ref (v 399)), (1, .int x1), (2, va_rf x2), (5, .int x5)]) hx hb dX7_holds_47 rfl hl (by decide) (by simp [List.filter, th_cat, th_cate]) (fun ls hl => ?_)
      refine lv_goto (tgt := 124) hx hb dX7_holds_48 (by decide) ?_
      exact X_T_holds_A_124_w C hk20 x1 x2 y_9 x5 u _ _ _ hf hw (lv_sub hl [1, 2, 3, 0, 4] rfl)
def X_T_holds_A_20_lp (K : Int32 → xs_St → Prop) : Nat → Int32 → Option Nat → Int64 → Int32 → xs_St → Prop
  | 0, _, _, _, _, _ => False
  | n + 1, x1, x2, x3, x5, u => X_T_holds_A_20 K (X_T_holds_A_20_lp K n) x1 x2 x3 x5 u
set_option maxHeartbeats 4000000 in
set_option maxRecDepth 100000 in
theorem X_T_holds_A_20_lw {K : Int32 → xs_St → Prop} (C : th_Cx p s m args meth c cX7_holds RX7 6 (some .boolean) (dC, dI) (th_ty cs) (xE ad ak) A) (n : Nat) : ∀ (x1 : Int32) (x2 : Option Nat) (x3 : Int64) (x5 : Int32) (u : xs_St) (H : Heap) (locs : List Loc) (ls : Array Slot), X_T_holds_A_20_lp K n x1 x2 x3 x5 u → th_wI (dC, dI) (wX cs ad q v v) A s.heap u H locs → lv_has ls 6 [(0, .ref (v 399)), (1, .int x1), (2, va_rf x2), (3, .long x3), (5, .int x5)] → W p l e (th_rm 4 0 0) s m args below meth c H locs 0 0 (MQ below (va_Qi K (th_Post (dC, dI) (wX cs ad q v v) A) A) args s 0 0 A) (F0 m 20 ls []) := by
  induction n with
  | zero => intro x1 x2 x3 x5 u H locs ls hf; exact hf.elim
  | succ n ih =>
    intro x1 x2 x3 x5 u H locs ls hf hw hl
    exact X_T_holds_A_20_w C ih x1 x2 x3 x5 u H locs ls hf hw hl
def X_T_holds_A_18 (K : Int32 → xs_St → Prop) (x1 : Int32) (x2 : Option Nat) (x3 : Int64) (z0 : Int32) (u : xs_St) : Prop :=
  ∃ n, X_T_holds_A_20_lp K n x1 x2 x3 z0 u
set_option maxHeartbeats 4000000 in
set_option maxRecDepth 100000 in
theorem X_T_holds_A_18_w {K : Int32 → xs_St → Prop} (C : th_Cx p s m args meth c cX7_holds RX7 6 (some .boolean) (dC, dI) (th_ty cs) (xE ad ak) A) (x1 : Int32) (x2 : Option Nat) (x3 : Int64) (z0 : Int32) (u : xs_St) (H : Heap) (locs : List Loc) (ls : Array Slot) (hf : X_T_holds_A_18 K x1 x2 x3 z0 u) (hw : th_wI (dC, dI) (wX cs ad q v v) A s.heap u H locs) (hl : lv_has ls 6 [(0, .ref (v 399)), (1, .int x1), (2, va_rf x2), (3, .long x3)]) : W p l e (th_rm 4 0 0) s m args below meth c H locs 0 0 (MQ below (va_Qi K (th_Post (dC, dI) (wX cs ad q v v) A) A) args s 0 0 A) (F0 m 18 ls [.int z0]) := by
  have hx := C.1
  have hb := C.2.1
  unfold X_T_holds_A_18 at hf
  refine lv_istore (lv' := [(5, .int z0), (0, .ref (v 399)), (1, .int x1), (2, va_rf x2), (3, .long x3)]) hx hb dX7_holds_18 hl (by decide) rfl (fun ls hl => ?_)
  obtain ⟨n, hf⟩ := hf
  exact X_T_holds_A_20_lw C n x1 x2 x3 z0 u _ _ _ hf hw (lv_sub hl [1, 2, 3, 4, 0] rfl)
def X_T_holds_A (a1 : Int32) (a2 : Option Nat) (u : xs_St) (K : Int32 → xs_St → Prop) : Prop :=
  ((¬ a1 = 0 → (vp_in (a1 - (1 : Int32)) 6 ∧ ∀ y_1 : Int32, y_1 = xa u 310 ((a1 - (1 : Int32))).toNatClampNeg → X_T_holds_A_18 K a1 a2 (0 : Int64) y_1 u)) ∧ (a1 = 0 → X_T_holds_A_18 K a1 a2 (0 : Int64) (0 : Int32) u))
set_option maxHeartbeats 4000000 in
set_option maxRecDepth 100000 in
theorem X_T_holds_A_c {l : Launch} {dC : Nat → ClassId} {dI : Nat → Nat → Nat} {cs : Nat → ClassId} {ad ak : Nat → Nat} {q v : Nat → Nat} {a1 : Int32} {a2 : Option Nat} {u : xs_St} {K : Int32 → xs_St → Prop} (hf : X_T_holds_A a1 a2 u K) : th_Ci l yX7_holds cX7_holds 6 (some .boolean) 4 0 0 (dC, dI) (th_ty cs) (xE ad ak) (wX cs ad q v v) [.ref (v 399), .int a1, va_rf a2] u K := by
  refine th_ofi (by decide) (by cases a2 <;> exact Nat.le_of_ble_eq_true rfl) (xE_ok ad ak) ?_
  intro p e s m below meth c A ls C hw hl
  have C : th_Cx p s m _ meth c cX7_holds RX7 6 (some .boolean) (dC, dI) (th_ty cs) (xE ad ak) A := C
  have hl : lv_has ls 6 [(0, .ref (v 399)), (1, .int a1), (2, va_rf a2)] := by cases a2 <;> exact hl
  generalize (List.toArray _ : Array Value) = args at C ⊢
  have hx := C.1
  have hb := C.2.1
  unfold X_T_holds_A at hf
  refine lv_lconst (v := (0 : Int64)) hx hb dX7_holds_0 (by decide) ?_
  refine lv_lstore_n (i := 3) (lv' := [(3, .long (0 : Int64)), (0, .ref (v 399)), (1, .int a1), (2, va_rf a2)]) hx hb dX7_holds_1 rfl hl (by decide) (by simp [List.filter, th_cat, th_cate]) (fun ls hl => ?_)
  refine lv_iload_n hx hb dX7_holds_2 rfl (lv_at hl 2 rfl) ?_
  refine lv_if_ne (tgt := 10) hx hb dX7_holds_3 (by decide) (fun hc => ?_) (fun hc => ?_)
  · replace hf := hf.1 hc
    clear hc
    refine lv_aload_n hx hb dX7_holds_10 rfl (lv_at hl 1 rfl) ?_
    refine xg_310 C hw (C.2.2.2.2.1 _ hwF_X7_22) dX7_holds_11 ?_
    refine lv_iload_n hx hb dX7_holds_14 rfl (lv_at hl 2 rfl) ?_
    refine lv_iconst (v := (1 : Int32)) hx hb dX7_holds_15 (by decide) ?_
    refine lv_isub hx hb dX7_holds_16 ?_
    refine yl_310 C hw hf.1 dX7_holds_17 (fun y_1 e9 => ?_)
    replace hf := hf.2 y_1 e9
    clear e9
    exact X_T_holds_A_18_w C a1 a2 (0 : Int64) y_1 u _ _ _ hf hw (lv_sub hl [1, 2, 3, 0] rfl)
  · replace hf := hf.2 hc
    clear hc
    refine lv_iconst (v := (0 : Int32)) hx hb dX7_holds_6 (by decide) ?_
    refine lv_goto (tgt := 18) hx hb dX7_holds_7 (by decide) ?_
    exact X_T_holds_A_18_w C a1 a2 (0 : Int64) (0 : Int32) u _ _ _ hf hw (lv_sub hl [1, 2, 3, 0] rfl)
/-! X_US_unsmear -/
theorem dX9_unsmear_0 : decode cX9_unsmear 0 = .ok (.aload_n 0, 1) := by decide +kernel
theorem dX9_unsmear_1 : decode cX9_unsmear 1 = .ok (.getfield 22, 3) := by decide +kernel
theorem dX9_unsmear_4 : decode cX9_unsmear 4 = .ok (.lconst 0, 1) := by decide +kernel
theorem dX9_unsmear_5 : decode cX9_unsmear 5 = .ok (.invokestatic 41, 3) := by decide +kernel
theorem dX9_unsmear_8 : decode cX9_unsmear 8 = .ok (.iconst 0, 1) := by decide +kernel
theorem dX9_unsmear_9 : decode cX9_unsmear 9 = .ok (.istore 4, 2) := by decide +kernel
theorem dX9_unsmear_11 : decode cX9_unsmear 11 = .ok (.iload 4, 2) := by decide +kernel
theorem dX9_unsmear_13 : decode cX9_unsmear 13 = .ok (.bipush 31, 2) := by decide +kernel
theorem dX9_unsmear_15 : decode cX9_unsmear 15 = .ok (.if_icmp .ge 21, 3) := by decide +kernel
theorem dX9_unsmear_18 : decode cX9_unsmear 18 = .ok (.aload_n 0, 1) := by decide +kernel
theorem dX9_unsmear_19 : decode cX9_unsmear 19 = .ok (.getfield 22, 3) := by decide +kernel
theorem dX9_unsmear_22 : decode cX9_unsmear 22 = .ok (.sipush 465, 3) := by decide +kernel
theorem dX9_unsmear_25 : decode cX9_unsmear 25 = .ok (.iload 4, 2) := by decide +kernel
theorem dX9_unsmear_27 : decode cX9_unsmear 27 = .ok (.iadd, 1) := by decide +kernel
theorem dX9_unsmear_28 : decode cX9_unsmear 28 = .ok (.lconst 1, 1) := by decide +kernel
theorem dX9_unsmear_29 : decode cX9_unsmear 29 = .ok (.lastore, 1) := by decide +kernel
theorem dX9_unsmear_30 : decode cX9_unsmear 30 = .ok (.iinc 4 1, 3) := by decide +kernel
theorem dX9_unsmear_33 : decode cX9_unsmear 33 = .ok (.goto (-22), 3) := by decide +kernel
theorem dX9_unsmear_36 : decode cX9_unsmear 36 = .ok (.iconst 0, 1) := by decide +kernel
theorem dX9_unsmear_37 : decode cX9_unsmear 37 = .ok (.istore 4, 2) := by decide +kernel
theorem dX9_unsmear_39 : decode cX9_unsmear 39 = .ok (.iload 4, 2) := by decide +kernel
theorem dX9_unsmear_41 : decode cX9_unsmear 41 = .ok (.iload_n 2, 1) := by decide +kernel
theorem dX9_unsmear_42 : decode cX9_unsmear 42 = .ok (.if_icmp .ge 22, 3) := by decide +kernel
theorem dX9_unsmear_45 : decode cX9_unsmear 45 = .ok (.aload_n 0, 1) := by decide +kernel
theorem dX9_unsmear_46 : decode cX9_unsmear 46 = .ok (.iload 4, 2) := by decide +kernel
theorem dX9_unsmear_48 : decode cX9_unsmear 48 = .ok (.aload_n 1, 1) := by decide +kernel
theorem dX9_unsmear_49 : decode cX9_unsmear 49 = .ok (.iload 4, 2) := by decide +kernel
theorem dX9_unsmear_51 : decode cX9_unsmear 51 = .ok (.invokevirtual 47, 3) := by decide +kernel
theorem dX9_unsmear_54 : decode cX9_unsmear 54 = .ok (.iload_n 3, 1) := by decide +kernel
theorem dX9_unsmear_55 : decode cX9_unsmear 55 = .ok (.invokevirtual 53, 3) := by decide +kernel
theorem dX9_unsmear_58 : decode cX9_unsmear 58 = .ok (.iinc 4 1, 3) := by decide +kernel
theorem dX9_unsmear_61 : decode cX9_unsmear 61 = .ok (.goto (-22), 3) := by decide +kernel
theorem dX9_unsmear_64 : decode cX9_unsmear 64 = .ok (.lconst 0, 1) := by decide +kernel
theorem dX9_unsmear_65 : decode cX9_unsmear 65 = .ok (.lstore 4, 2) := by decide +kernel
theorem dX9_unsmear_67 : decode cX9_unsmear 67 = .ok (.iconst 0, 1) := by decide +kernel
theorem dX9_unsmear_68 : decode cX9_unsmear 68 = .ok (.istore 6, 2) := by decide +kernel
theorem dX9_unsmear_70 : decode cX9_unsmear 70 = .ok (.iload 6, 2) := by decide +kernel
theorem dX9_unsmear_72 : decode cX9_unsmear 72 = .ok (.bipush 31, 2) := by decide +kernel
theorem dX9_unsmear_74 : decode cX9_unsmear 74 = .ok (.if_icmp .ge 30, 3) := by decide +kernel
theorem dX9_unsmear_77 : decode cX9_unsmear 77 = .ok (.lload 4, 2) := by decide +kernel
theorem dX9_unsmear_79 : decode cX9_unsmear 79 = .ok (.aload_n 0, 1) := by decide +kernel
theorem dX9_unsmear_80 : decode cX9_unsmear 80 = .ok (.getfield 22, 3) := by decide +kernel
theorem dX9_unsmear_83 : decode cX9_unsmear 83 = .ok (.iload 6, 2) := by decide +kernel
theorem dX9_unsmear_85 : decode cX9_unsmear 85 = .ok (.bipush 31, 2) := by decide +kernel
theorem dX9_unsmear_87 : decode cX9_unsmear 87 = .ok (.imul, 1) := by decide +kernel
theorem dX9_unsmear_88 : decode cX9_unsmear 88 = .ok (.bipush 15, 2) := by decide +kernel
theorem dX9_unsmear_90 : decode cX9_unsmear 90 = .ok (.iadd, 1) := by decide +kernel
theorem dX9_unsmear_91 : decode cX9_unsmear 91 = .ok (.laload, 1) := by decide +kernel
theorem dX9_unsmear_92 : decode cX9_unsmear 92 = .ok (.ladd, 1) := by decide +kernel
theorem dX9_unsmear_93 : decode cX9_unsmear 93 = .ok (.invokestatic 57, 3) := by decide +kernel
theorem dX9_unsmear_96 : decode cX9_unsmear 96 = .ok (.lstore 4, 2) := by decide +kernel
theorem dX9_unsmear_98 : decode cX9_unsmear 98 = .ok (.iinc 6 1, 3) := by decide +kernel
theorem dX9_unsmear_101 : decode cX9_unsmear 101 = .ok (.goto (-31), 3) := by decide +kernel
theorem dX9_unsmear_104 : decode cX9_unsmear 104 = .ok (.lload 4, 2) := by decide +kernel
theorem dX9_unsmear_106 : decode cX9_unsmear 106 = .ok (.lconst 0, 1) := by decide +kernel
theorem dX9_unsmear_107 : decode cX9_unsmear 107 = .ok (.lcmp, 1) := by decide +kernel
theorem dX9_unsmear_108 : decode cX9_unsmear 108 = .ok (.ifCond .le 10, 3) := by decide +kernel
theorem dX9_unsmear_111 : decode cX9_unsmear 111 = .ok (.aload_n 0, 1) := by decide +kernel
theorem dX9_unsmear_112 : decode cX9_unsmear 112 = .ok (.aload_n 1, 1) := by decide +kernel
theorem dX9_unsmear_113 : decode cX9_unsmear 113 = .ok (.iload_n 2, 1) := by decide +kernel
theorem dX9_unsmear_114 : decode cX9_unsmear 114 = .ok (.iload_n 3, 1) := by decide +kernel
theorem dX9_unsmear_115 : decode cX9_unsmear 115 = .ok (.invokevirtual 61, 3) := by decide +kernel
theorem dX9_unsmear_118 : decode cX9_unsmear 118 = .ok (.lload 4, 2) := by decide +kernel
theorem dX9_unsmear_120 : decode cX9_unsmear 120 = .ok (.lreturn, 1) := by decide +kernel
def X_US_unsmear_118 (K : Int64 → xs_St → Prop) (x4 : Int64) (u : xs_St) : Prop :=
  K x4 u
set_option maxHeartbeats 4000000 in
set_option maxRecDepth 100000 in
theorem X_US_unsmear_118_w {K : Int64 → xs_St → Prop} (C : th_Cx p s m args meth c cX9_unsmear RX9 7 (some .long) (dC, dI) (th_ty cs) (xE ad ak) A) (x4 : Int64) (v : Nat → Nat) (u : xs_St) (H : Heap) (locs : List Loc) (ls : Array Slot) (hf : X_US_unsmear_118 K x4 u) (hw : th_wI (dC, dI) (wX cs ad q v v) A s.heap u H locs) (hl : lv_has ls 7 [(4, .long x4)]) : W p l e (th_rm 4 0 0) s m args below meth c H locs 0 0 (MQ below (va_Ql (fun r9 a9 => K r9 a9.2) (th_Post (dC, dI) (wXs cs ad q) A) A) args s 0 0 A) (F0 m 118 ls []) := by
  have hx := C.1
  have hb := C.2.1
  unfold X_US_unsmear_118 at hf
  refine lv_lload hx hb dX9_unsmear_118 (lv_at hl 0 rfl) ?_
  exact th_lret (K := (fun r9 a9 => K r9 a9.2)) (w := wXs cs ad q) (u := (v, u)) C hw hf dX9_unsmear_120
def X_US_unsmear_70 (K : Int64 → xs_St → Prop) (k70 : Int32 → Int32 → Int64 → Int32 → xs_St → Prop) (x2 : Int32) (x3 : Int32) (x4 : Int64) (x6 : Int32) (u : xs_St) : Prop :=
  (((31 : Int32) ≤ x6 → (((lg_cmp x4 (0 : Int64)) ≤ 0 → X_US_unsmear_118 K x4 u) ∧ (¬ (lg_cmp x4 (0 : Int64)) ≤ 0 → X_US_noteBounds x2 x3 u (fun u_1 => X_US_unsmear_118 K x4 u_1)))) ∧ (¬ (31 : Int32) ≤ x6 → (vp_in ((x6 * (31 : Int32)) + (15 : Int32)) 961 ∧ ∀ y_4 : Int64, y_4 = xl u 603 (((x6 * (31 : Int32)) + (15 : Int32))).toNatClampNeg → X_US_atMost (x4 + y_4) u (fun r_6 u_5 => ∀ x6_7 : Int32, x6_7 = x6 + (1 : Int32) → k70 x2 x3 r_6 x6_7 u_5))))
set_option maxHeartbeats 4000000 in
set_option maxRecDepth 100000 in
theorem X_US_unsmear_70_w {K : Int64 → xs_St → Prop} {k70 : Int32 → Int32 → Int64 → Int32 → xs_St → Prop} (C : th_Cx p s m args meth c cX9_unsmear RX9 7 (some .long) (dC, dI) (th_ty cs) (xE ad ak) A) (hk70 : ∀ (x2 : Int32) (x3 : Int32) (x4 : Int64) (x6 : Int32) (v : Nat → Nat) (u : xs_St) (H : Heap) (locs : List Loc) (ls : Array Slot), k70 x2 x3 x4 x6 u → th_wI (dC, dI) (wX cs ad q v v) A s.heap u H locs → lv_has ls 7 [(0, .ref (q 699)), (1, .ref (q 199)), (2, .int x2), (3, .int x3), (4, .long x4), (6, .int x6)] → W p l e (th_rm 4 0 0) s m args below meth c H locs 0 0 (MQ below (va_Ql (fun r9 a9 => K r9 a9.2) (th_Post (dC, dI) (wXs cs ad q) A) A) args s 0 0 A) (F0 m 70 ls [])) (x2 : Int32) (x3 : Int32) (x4 : Int64) (x6 : Int32) (v : Nat → Nat) (u : xs_St) (H : Heap) (locs : List Loc) (ls : Array Slot) (hf : X_US_unsmear_70 K k70 x2 x3 x4 x6 u) (hw : th_wI (dC, dI) (wX cs ad q v v) A s.heap u H locs) (hl : lv_has ls 7 [(0, .ref (q 699)), (1, .ref (q 199)), (2, .int x2), (3, .int x3), (4, .long x4), (6, .int x6)]) : W p l e (th_rm 4 0 0) s m args below meth c H locs 0 0 (MQ below (va_Ql (fun r9 a9 => K r9 a9.2) (th_Post (dC, dI) (wXs cs ad q) A) A) args s 0 0 A) (F0 m 70 ls []) := by
  have hx := C.1
  have hb := C.2.1
  unfold X_US_unsmear_70 at hf
  refine lv_iload hx hb dX9_unsmear_70 (lv_at hl 5 rfl) ?_
  refine lv_bipush (v := (31 : Int32)) hx hb dX9_unsmear_72 (by decide) ?_
  refine lv_icmp_ge (tgt := 104) hx hb dX9_unsmear_74 (by decide) (fun hc => ?_) (fun hc => ?_)
  · replace hf := hf.1 hc
    clear hc
    refine lv_lload hx hb dX9_unsmear_104 (lv_at hl 4 rfl) ?_
    refine lv_lconst (v := (0 : Int64)) hx hb dX9_unsmear_106 (by decide) ?_
    refine W.lcmp hx hb dX9_unsmear_107 ?_
    refine lv_if_le (tgt := 118) hx hb dX9_unsmear_108 (by decide) (fun hc => ?_) (fun hc => ?_)
    · replace hf := hf.1 hc
      clear hc
      exact X_US_unsmear_118_w C x4 v u _ _ _ hf hw (lv_sub hl [4] rfl)
    · replace hf := hf.2 hc
      clear hc
      refine lv_aload_n hx hb dX9_unsmear_111 rfl (lv_at hl 0 rfl) ?_
      refine lv_aload_n hx hb dX9_unsmear_112 rfl (lv_at hl 1 rfl) ?_
      refine lv_iload_n hx hb dX9_unsmear_113 rfl (lv_at hl 2 rfl) ?_
      refine lv_iload_n hx hb dX9_unsmear_114 rfl (lv_at hl 3 rfl) ?_
      refine th_callVv (As := [.ref (q 199), .int x2, .int x3]) (rest := []) (w := wXs cs ad q) (u := (v, u)) C lkX9_61 (X_US_noteBounds_c hf) (show th_wI (dC, dI) (wXs cs ad q) A s.heap (v, u) _ _ from hw) (xRc_US C hw) rfl rfl ⟨Nat.le_of_ble_eq_true rfl, Nat.le_of_ble_eq_true rfl⟩ hl.1 (Nat.le_of_ble_eq_true rfl) ⟨Nat.le_of_ble_eq_true rfl, Nat.le_of_ble_eq_true rfl⟩ dX9_unsmear_115 (fun a9 H locs hf hw => ?_)
      obtain ⟨v_3, u_1⟩ := a9
      have hw : th_wI (dC, dI) (wX cs ad q v_3 v_3) A s.heap u_1 _ _ := hw
      exact X_US_unsmear_118_w C x4 v_3 u_1 _ _ _ hf hw (lv_sub hl [4] rfl)
  · replace hf := hf.2 hc
    clear hc
    refine lv_lload hx hb dX9_unsmear_77 (lv_at hl 4 rfl) ?_
    refine lv_aload_n hx hb dX9_unsmear_79 rfl (lv_at hl 0 rfl) ?_
    refine xg_603 C hw (C.2.2.2.2.1 _ hwF_X9_22) dX9_unsmear_80 ?_
    refine lv_iload hx hb dX9_unsmear_83 (lv_at hl 5 rfl) ?_
    refine lv_bipush (v := (31 : Int32)) hx hb dX9_unsmear_85 (by decide) ?_
    refine lv_imul hx hb dX9_unsmear_87 ?_
    refine lv_bipush (v := (15 : Int32)) hx hb dX9_unsmear_88 (by decide) ?_
    refine lv_iadd hx hb dX9_unsmear_90 ?_
    refine yl_603 C hw hf.1 dX9_unsmear_91 (fun y_4 e9 => ?_)
    replace hf := hf.2 y_4 e9
    clear e9
    refine lv_ladd hx hb dX9_unsmear_92 ?_
    refine th_callSl (As := [.long (x4 + y_4)]) (rest := []) C lkX9_57 (X_US_atMost_c hf) hw rfl rfl ⟨Nat.le_of_ble_eq_true rfl, Nat.le_of_ble_eq_true rfl⟩ hl.1 (Nat.le_of_ble_eq_true rfl) ⟨Nat.le_of_ble_eq_true rfl, Nat.le_of_ble_eq_true rfl⟩ dX9_unsmear_93 (fun r_6 u_5 H locs hf hw => ?_)
    refine lv_lstore (lv' := [(4, .long r_6), (0, .ref (q 699)), (1, .ref (q 199)), (2, .int x2), (3, .int x3), (6, .int x6)]) hx hb dX9_unsmear_96 hl (by decide) rfl (fun ls hl => ?_)
    obtain ⟨x6_7, e9⟩ : ∃ y : Int32, y = x6 + (1 : Int32) := ⟨_, rfl⟩
    replace hf := hf x6_7 e9
    refine lv_iinc (v := x6_7) (lv' := [(6, .int x6_7), (4, .long r_6), (0, .ref (q 699)), (1, .ref (q 199)), (2, .int x2), (3, .int x3)]) hx hb dX9_unsmear_98 hl (k := 5) rfl (by rw [e9]; rfl) (by decide) rfl (fun ls hl => ?_)
    clear e9
    refine lv_goto (tgt := 70) hx hb dX9_unsmear_101 (by decide) ?_
    exact hk70 x2 x3 r_6 x6_7 v u_5 _ _ _ hf hw (lv_sub hl [2, 3, 4, 5, 1, 0] rfl)
def X_US_unsmear_70_lp (K : Int64 → xs_St → Prop) : Nat → Int32 → Int32 → Int64 → Int32 → xs_St → Prop
  | 0, _, _, _, _, _ => False
  | n + 1, x2, x3, x4, x6, u => X_US_unsmear_70 K (X_US_unsmear_70_lp K n) x2 x3 x4 x6 u
set_option maxHeartbeats 4000000 in
set_option maxRecDepth 100000 in
theorem X_US_unsmear_70_lw {K : Int64 → xs_St → Prop} (C : th_Cx p s m args meth c cX9_unsmear RX9 7 (some .long) (dC, dI) (th_ty cs) (xE ad ak) A) (n : Nat) : ∀ (x2 : Int32) (x3 : Int32) (x4 : Int64) (x6 : Int32) (v : Nat → Nat) (u : xs_St) (H : Heap) (locs : List Loc) (ls : Array Slot), X_US_unsmear_70_lp K n x2 x3 x4 x6 u → th_wI (dC, dI) (wX cs ad q v v) A s.heap u H locs → lv_has ls 7 [(0, .ref (q 699)), (1, .ref (q 199)), (2, .int x2), (3, .int x3), (4, .long x4), (6, .int x6)] → W p l e (th_rm 4 0 0) s m args below meth c H locs 0 0 (MQ below (va_Ql (fun r9 a9 => K r9 a9.2) (th_Post (dC, dI) (wXs cs ad q) A) A) args s 0 0 A) (F0 m 70 ls []) := by
  induction n with
  | zero => intro x2 x3 x4 x6 v u H locs ls hf; exact hf.elim
  | succ n ih =>
    intro x2 x3 x4 x6 v u H locs ls hf hw hl
    exact X_US_unsmear_70_w C ih x2 x3 x4 x6 v u H locs ls hf hw hl
def X_US_unsmear_39 (K : Int64 → xs_St → Prop) (k39 : Int32 → Int32 → Int32 → xs_St → Prop) (x2 : Int32) (x3 : Int32) (x4 : Int32) (u : xs_St) : Prop :=
  ((x2 ≤ x4 → ∃ n, X_US_unsmear_70_lp K n x2 x3 (0 : Int64) (0 : Int32) u) ∧ (¬ x2 ≤ x4 → X_TP_signedPair x4 u (fun r_2 u_1 => X_US_goPast x4 r_2 x3 u_1 (fun u_3 => ∀ x4_6 : Int32, x4_6 = x4 + (1 : Int32) → k39 x2 x3 x4_6 u_3))))
set_option maxHeartbeats 4000000 in
set_option maxRecDepth 100000 in
theorem X_US_unsmear_39_w {K : Int64 → xs_St → Prop} {k39 : Int32 → Int32 → Int32 → xs_St → Prop} (C : th_Cx p s m args meth c cX9_unsmear RX9 7 (some .long) (dC, dI) (th_ty cs) (xE ad ak) A) (hk39 : ∀ (x2 : Int32) (x3 : Int32) (x4 : Int32) (v : Nat → Nat) (u : xs_St) (H : Heap) (locs : List Loc) (ls : Array Slot), k39 x2 x3 x4 u → th_wI (dC, dI) (wX cs ad q v v) A s.heap u H locs → lv_has ls 7 [(0, .ref (q 699)), (1, .ref (q 199)), (2, .int x2), (3, .int x3), (4, .int x4)] → W p l e (th_rm 4 0 0) s m args below meth c H locs 0 0 (MQ below (va_Ql (fun r9 a9 => K r9 a9.2) (th_Post (dC, dI) (wXs cs ad q) A) A) args s 0 0 A) (F0 m 39 ls [])) (x2 : Int32) (x3 : Int32) (x4 : Int32) (v : Nat → Nat) (u : xs_St) (H : Heap) (locs : List Loc) (ls : Array Slot) (hf : X_US_unsmear_39 K k39 x2 x3 x4 u) (hw : th_wI (dC, dI) (wX cs ad q v v) A s.heap u H locs) (hl : lv_has ls 7 [(0, .ref (q 699)), (1, .ref (q 199)), (2, .int x2), (3, .int x3), (4, .int x4)]) : W p l e (th_rm 4 0 0) s m args below meth c H locs 0 0 (MQ below (va_Ql (fun r9 a9 => K r9 a9.2) (th_Post (dC, dI) (wXs cs ad q) A) A) args s 0 0 A) (F0 m 39 ls []) := by
  have hx := C.1
  have hb := C.2.1
  unfold X_US_unsmear_39 at hf
  refine lv_iload hx hb dX9_unsmear_39 (lv_at hl 4 rfl) ?_
  refine lv_iload_n hx hb dX9_unsmear_41 rfl (lv_at hl 2 rfl) ?_
  refine lv_icmp_ge (tgt := 64) hx hb dX9_unsmear_42 (by decide) (fun hc => ?_) (fun hc => ?_)
  · replace hf := hf.1 hc
    clear hc
    refine lv_lconst (v := (0 : Int64)) hx hb dX9_unsmear_64 (by decide) ?_
    refine lv_lstore (lv' := [(4, .long (0 : Int64)), (0, .ref (q 699)), (1, .ref (q 199)), (2, .int x2), (3, .int x3)]) hx hb dX9_unsmear_65 hl (by decide) rfl (fun ls hl => ?_)
    refine lv_iconst (v := (0 : Int32)) hx hb dX9_unsmear_67 (by decide) ?_
    refine lv_istore (lv' := [(6, .int (0 : Int32)), (4, .long (0 : Int64)), (0, .ref (q 699)), (1, .ref (q 199)), (2, .int x2), (3, .int x3)]) hx hb dX9_unsmear_68 hl (by decide) rfl (fun ls hl => ?_)
    obtain ⟨n, hf⟩ := hf
    exact X_US_unsmear_70_lw C n x2 x3 (0 : Int64) (0 : Int32) v u _ _ _ hf hw (lv_sub hl [2, 3, 4, 5, 1, 0] rfl)
  · replace hf := hf.2 hc
    clear hc
    refine lv_aload_n hx hb dX9_unsmear_45 rfl (lv_at hl 0 rfl) ?_
    refine lv_iload hx hb dX9_unsmear_46 (lv_at hl 4 rfl) ?_
    refine lv_aload_n hx hb dX9_unsmear_48 rfl (lv_at hl 1 rfl) ?_
    refine lv_iload hx hb dX9_unsmear_49 (lv_at hl 4 rfl) ?_
    refine th_callVi (As := [.int x4]) (rest := [.int x4, .ref (q 699)]) C lkX9_47 (X_TP_signedPair_c hf) hw (xRc_TP C hw) rfl rfl ⟨Nat.le_of_ble_eq_true rfl, Nat.le_of_ble_eq_true rfl⟩ hl.1 (Nat.le_of_ble_eq_true rfl) ⟨Nat.le_of_ble_eq_true rfl, Nat.le_of_ble_eq_true rfl⟩ dX9_unsmear_51 (fun r_2 u_1 H locs hf hw => ?_)
    refine lv_iload_n hx hb dX9_unsmear_54 rfl (lv_at hl 3 rfl) ?_
    refine th_callVv (As := [.int x4, .int r_2, .int x3]) (rest := []) (w := wXs cs ad q) (u := (v, u_1)) C lkX9_53 (X_US_goPast_c hf) (show th_wI (dC, dI) (wXs cs ad q) A s.heap (v, u_1) _ _ from hw) (xRc_US C hw) rfl rfl ⟨Nat.le_of_ble_eq_true rfl, Nat.le_of_ble_eq_true rfl⟩ hl.1 (Nat.le_of_ble_eq_true rfl) ⟨Nat.le_of_ble_eq_true rfl, Nat.le_of_ble_eq_true rfl⟩ dX9_unsmear_55 (fun a9 H locs hf hw => ?_)
    obtain ⟨v_5, u_3⟩ := a9
    have hw : th_wI (dC, dI) (wX cs ad q v_5 v_5) A s.heap u_3 _ _ := hw
    obtain ⟨x4_6, e9⟩ : ∃ y : Int32, y = x4 + (1 : Int32) := ⟨_, rfl⟩
    replace hf := hf x4_6 e9
    refine lv_iinc (v := x4_6) (lv' := [(4, .int x4_6), (0, .ref (q 699)), (1, .ref (q 199)), (2, .int x2), (3, .int x3)]) hx hb dX9_unsmear_58 hl (k := 4) rfl (by rw [e9]; rfl) (by decide) rfl (fun ls hl => ?_)
    clear e9
    refine lv_goto (tgt := 39) hx hb dX9_unsmear_61 (by decide) ?_
    exact hk39 x2 x3 x4_6 v_5 u_3 _ _ _ hf hw (lv_sub hl [1, 2, 3, 4, 0] rfl)
def X_US_unsmear_39_lp (K : Int64 → xs_St → Prop) : Nat → Int32 → Int32 → Int32 → xs_St → Prop
  | 0, _, _, _, _ => False
  | n + 1, x2, x3, x4, u => X_US_unsmear_39 K (X_US_unsmear_39_lp K n) x2 x3 x4 u
set_option maxHeartbeats 4000000 in
set_option maxRecDepth 100000 in
theorem X_US_unsmear_39_lw {K : Int64 → xs_St → Prop} (C : th_Cx p s m args meth c cX9_unsmear RX9 7 (some .long) (dC, dI) (th_ty cs) (xE ad ak) A) (n : Nat) : ∀ (x2 : Int32) (x3 : Int32) (x4 : Int32) (v : Nat → Nat) (u : xs_St) (H : Heap) (locs : List Loc) (ls : Array Slot), X_US_unsmear_39_lp K n x2 x3 x4 u → th_wI (dC, dI) (wX cs ad q v v) A s.heap u H locs → lv_has ls 7 [(0, .ref (q 699)), (1, .ref (q 199)), (2, .int x2), (3, .int x3), (4, .int x4)] → W p l e (th_rm 4 0 0) s m args below meth c H locs 0 0 (MQ below (va_Ql (fun r9 a9 => K r9 a9.2) (th_Post (dC, dI) (wXs cs ad q) A) A) args s 0 0 A) (F0 m 39 ls []) := by
  induction n with
  | zero => intro x2 x3 x4 v u H locs ls hf; exact hf.elim
  | succ n ih =>
    intro x2 x3 x4 v u H locs ls hf hw hl
    exact X_US_unsmear_39_w C ih x2 x3 x4 v u H locs ls hf hw hl
def X_US_unsmear_11 (K : Int64 → xs_St → Prop) (k11 : Int32 → Int32 → Int32 → xs_St → Prop) (x2 : Int32) (x3 : Int32) (x4 : Int32) (u : xs_St) : Prop :=
  (((31 : Int32) ≤ x4 → ∃ n, X_US_unsmear_39_lp K n x2 x3 (0 : Int32) u) ∧ (¬ (31 : Int32) ≤ x4 → (vp_in ((465 : Int32) + x4) 961 ∧ ∀ u_1 : xs_St, u_1 = xs_sl u 603 (vp_updL (xl u 603) (((465 : Int32) + x4)).toNatClampNeg (1 : Int64)) → ∀ x4_2 : Int32, x4_2 = x4 + (1 : Int32) → k11 x2 x3 x4_2 u_1)))
set_option maxHeartbeats 4000000 in
set_option maxRecDepth 100000 in
theorem X_US_unsmear_11_w {K : Int64 → xs_St → Prop} {k11 : Int32 → Int32 → Int32 → xs_St → Prop} (C : th_Cx p s m args meth c cX9_unsmear RX9 7 (some .long) (dC, dI) (th_ty cs) (xE ad ak) A) (hk11 : ∀ (x2 : Int32) (x3 : Int32) (x4 : Int32) (v : Nat → Nat) (u : xs_St) (H : Heap) (locs : List Loc) (ls : Array Slot), k11 x2 x3 x4 u → th_wI (dC, dI) (wX cs ad q v v) A s.heap u H locs → lv_has ls 7 [(0, .ref (q 699)), (1, .ref (q 199)), (2, .int x2), (3, .int x3), (4, .int x4)] → W p l e (th_rm 4 0 0) s m args below meth c H locs 0 0 (MQ below (va_Ql (fun r9 a9 => K r9 a9.2) (th_Post (dC, dI) (wXs cs ad q) A) A) args s 0 0 A) (F0 m 11 ls [])) (x2 : Int32) (x3 : Int32) (x4 : Int32) (v : Nat → Nat) (u : xs_St) (H : Heap) (locs : List Loc) (ls : Array Slot) (hf : X_US_unsmear_11 K k11 x2 x3 x4 u) (hw : th_wI (dC, dI) (wX cs ad q v v) A s.heap u H locs) (hl : lv_has ls 7 [(0, .ref (q 699)), (1, .ref (q 199)), (2, .int x2), (3, .int x3), (4, .int x4)]) : W p l e (th_rm 4 0 0) s m args below meth c H locs 0 0 (MQ below (va_Ql (fun r9 a9 => K r9 a9.2) (th_Post (dC, dI) (wXs cs ad q) A) A) args s 0 0 A) (F0 m 11 ls []) := by
  have hx := C.1
  have hb := C.2.1
  unfold X_US_unsmear_11 at hf
  refine lv_iload hx hb dX9_unsmear_11 (lv_at hl 4 rfl) ?_
  refine lv_bipush (v := (31 : Int32)) hx hb dX9_unsmear_13 (by decide) ?_
  refine lv_icmp_ge (tgt := 36) hx hb dX9_unsmear_15 (by decide) (fun hc => ?_) (fun hc => ?_)
  · replace hf := hf.1 hc
    clear hc
    refine lv_iconst (v := (0 : Int32)) hx hb dX9_unsmear_36 (by decide) ?_
    refine lv_istore (lv' := [(4, .int (0 : Int32)), (0, .ref (q 699)), (1, .ref (q 199)), (2, .int x2), (3, .int x3)]) hx hb dX9_unsmear_37 hl (by decide) rfl (fun ls hl => ?_)
    obtain ⟨n, hf⟩ := hf
    exact X_US_unsmear_39_lw C n x2 x3 (0 : Int32) v u _ _ _ hf hw (lv_sub hl [1, 2, 3, 4, 0] rfl)
  · replace hf := hf.2 hc
    clear hc
    refine lv_aload_n hx hb dX9_unsmear_18 rfl (lv_at hl 0 rfl) ?_
    refine xg_603 C hw (C.2.2.2.2.1 _ hwF_X9_22) dX9_unsmear_19 ?_
    refine lv_sipush (v := (465 : Int32)) hx hb dX9_unsmear_22 (by decide) ?_
    refine lv_iload hx hb dX9_unsmear_25 (lv_at hl 4 rfl) ?_
    refine lv_iadd hx hb dX9_unsmear_27 ?_
    refine lv_lconst (v := (1 : Int64)) hx hb dX9_unsmear_28 (by decide) ?_
    refine ys_603 C hw hf.1 dX9_unsmear_29 (fun u_1 e9 H locs hw => ?_)
    replace hf := hf.2 u_1 e9
    clear e9
    obtain ⟨x4_2, e9⟩ : ∃ y : Int32, y = x4 + (1 : Int32) := ⟨_, rfl⟩
    replace hf := hf x4_2 e9
    refine lv_iinc (v := x4_2) (lv' := [(4, .int x4_2), (0, .ref (q 699)), (1, .ref (q 199)), (2, .int x2), (3, .int x3)]) hx hb dX9_unsmear_30 hl (k := 4) rfl (by rw [e9]; rfl) (by decide) rfl (fun ls hl => ?_)
    clear e9
    refine lv_goto (tgt := 11) hx hb dX9_unsmear_33 (by decide) ?_
    exact hk11 x2 x3 x4_2 v u_1 _ _ _ hf hw (lv_sub hl [1, 2, 3, 4, 0] rfl)
def X_US_unsmear_11_lp (K : Int64 → xs_St → Prop) : Nat → Int32 → Int32 → Int32 → xs_St → Prop
  | 0, _, _, _, _ => False
  | n + 1, x2, x3, x4, u => X_US_unsmear_11 K (X_US_unsmear_11_lp K n) x2 x3 x4 u
set_option maxHeartbeats 4000000 in
set_option maxRecDepth 100000 in
theorem X_US_unsmear_11_lw {K : Int64 → xs_St → Prop} (C : th_Cx p s m args meth c cX9_unsmear RX9 7 (some .long) (dC, dI) (th_ty cs) (xE ad ak) A) (n : Nat) : ∀ (x2 : Int32) (x3 : Int32) (x4 : Int32) (v : Nat → Nat) (u : xs_St) (H : Heap) (locs : List Loc) (ls : Array Slot), X_US_unsmear_11_lp K n x2 x3 x4 u → th_wI (dC, dI) (wX cs ad q v v) A s.heap u H locs → lv_has ls 7 [(0, .ref (q 699)), (1, .ref (q 199)), (2, .int x2), (3, .int x3), (4, .int x4)] → W p l e (th_rm 4 0 0) s m args below meth c H locs 0 0 (MQ below (va_Ql (fun r9 a9 => K r9 a9.2) (th_Post (dC, dI) (wXs cs ad q) A) A) args s 0 0 A) (F0 m 11 ls []) := by
  induction n with
  | zero => intro x2 x3 x4 v u H locs ls hf; exact hf.elim
  | succ n ih =>
    intro x2 x3 x4 v u H locs ls hf hw hl
    exact X_US_unsmear_11_w C ih x2 x3 x4 v u H locs ls hf hw hl
def X_US_unsmear (a2 : Int32) (a3 : Int32) (u : xs_St) (K : Int64 → xs_St → Prop) : Prop :=
  X_J_fill_d0a16_603 (0 : Int64) u (fun u_1 => ∃ n, X_US_unsmear_11_lp K n a2 a3 (0 : Int32) u_1)
set_option maxHeartbeats 4000000 in
set_option maxRecDepth 100000 in
theorem X_US_unsmear_c {l : Launch} {dC : Nat → ClassId} {dI : Nat → Nat → Nat} {cs : Nat → ClassId} {ad ak : Nat → Nat} {q v : Nat → Nat} {a2 : Int32} {a3 : Int32} {u : xs_St} {K : Int64 → xs_St → Prop} (hf : X_US_unsmear a2 a3 u K) : th_Cl l yX9_unsmear cX9_unsmear 7 (some .long) 4 0 0 (dC, dI) (th_ty cs) (xE ad ak) (wXs cs ad q) [.ref (q 699), .ref (q 199), .int a2, .int a3] (v, u) (fun r9 a9 => K r9 a9.2) := by
  refine th_ofl (by decide) (Nat.le_of_ble_eq_true rfl) (xE_ok ad ak) ?_
  intro p e s m below meth c A ls C hw hl
  have C : th_Cx p s m _ meth c cX9_unsmear RX9 7 (some .long) (dC, dI) (th_ty cs) (xE ad ak) A := C
  have hl : lv_has ls 7 [(0, .ref (q 699)), (1, .ref (q 199)), (2, .int a2), (3, .int a3)] := hl
  generalize (List.toArray _ : Array Value) = args at C ⊢
  have hx := C.1
  have hb := C.2.1
  unfold X_US_unsmear at hf
  refine lv_aload_n hx hb dX9_unsmear_0 rfl (lv_at hl 0 rfl) ?_
  refine xg_603 C hw (C.2.2.2.2.1 _ hwF_X9_22) dX9_unsmear_1 ?_
  refine lv_lconst (v := (0 : Int64)) hx hb dX9_unsmear_4 (by decide) ?_
  refine th_callSv (As := [.ref (v 603), .long (0 : Int64)]) (rest := []) C lkJX9_41 (X_J_fill_d0a16_603_c hf) hw rfl rfl ⟨Nat.le_of_ble_eq_true rfl, Nat.le_of_ble_eq_true rfl⟩ hl.1 (Nat.le_of_ble_eq_true rfl) ⟨Nat.le_of_ble_eq_true rfl, Nat.le_of_ble_eq_true rfl⟩ dX9_unsmear_5 (fun u_1 H locs hf hw => ?_)
  refine lv_iconst (v := (0 : Int32)) hx hb dX9_unsmear_8 (by decide) ?_
  refine lv_istore (lv' := [(4, .int (0 : Int32)), (0, .ref (q 699)), (1, .ref (q 199)), (2, .int a2), (3, .int a3)]) hx hb dX9_unsmear_9 hl (by decide) rfl (fun ls hl => ?_)
  obtain ⟨n, hf⟩ := hf
  exact X_US_unsmear_11_lw C n a2 a3 (0 : Int32) v u_1 _ _ _ hf hw (lv_sub hl [1, 2, 3, 4, 0] rfl)
/-! X_RD_isWritten -/
theorem dX4_isWritten_0 : decode cX4_isWritten 0 = .ok (.aload_n 0, 1) := by decide +kernel
theorem dX4_isWritten_1 : decode cX4_isWritten 1 = .ok (.invokevirtual 152, 3) := by decide +kernel
theorem dX4_isWritten_4 : decode cX4_isWritten 4 = .ok (.iload_n 3, 1) := by decide +kernel
theorem dX4_isWritten_5 : decode cX4_isWritten 5 = .ok (.iload_n 2, 1) := by decide +kernel
theorem dX4_isWritten_6 : decode cX4_isWritten 6 = .ok (.isub, 1) := by decide +kernel
theorem dX4_isWritten_7 : decode cX4_isWritten 7 = .ok (.if_icmp .eq 5, 3) := by decide +kernel
theorem dX4_isWritten_10 : decode cX4_isWritten 10 = .ok (.iconst 0, 1) := by decide +kernel
theorem dX4_isWritten_11 : decode cX4_isWritten 11 = .ok (.ireturn, 1) := by decide +kernel
theorem dX4_isWritten_12 : decode cX4_isWritten 12 = .ok (.iconst 0, 1) := by decide +kernel
theorem dX4_isWritten_13 : decode cX4_isWritten 13 = .ok (.istore 4, 2) := by decide +kernel
theorem dX4_isWritten_15 : decode cX4_isWritten 15 = .ok (.iload 4, 2) := by decide +kernel
theorem dX4_isWritten_17 : decode cX4_isWritten 17 = .ok (.aload_n 0, 1) := by decide +kernel
theorem dX4_isWritten_18 : decode cX4_isWritten 18 = .ok (.invokevirtual 152, 3) := by decide +kernel
theorem dX4_isWritten_21 : decode cX4_isWritten 21 = .ok (.if_icmp .ge 28, 3) := by decide +kernel
theorem dX4_isWritten_24 : decode cX4_isWritten 24 = .ok (.aload_n 1, 1) := by decide +kernel
theorem dX4_isWritten_25 : decode cX4_isWritten 25 = .ok (.iload_n 2, 1) := by decide +kernel
theorem dX4_isWritten_26 : decode cX4_isWritten 26 = .ok (.iload 4, 2) := by decide +kernel
theorem dX4_isWritten_28 : decode cX4_isWritten 28 = .ok (.iadd, 1) := by decide +kernel
theorem dX4_isWritten_29 : decode cX4_isWritten 29 = .ok (.invokevirtual 113, 3) := by decide +kernel
theorem dX4_isWritten_32 : decode cX4_isWritten 32 = .ok (.aload_n 0, 1) := by decide +kernel
theorem dX4_isWritten_33 : decode cX4_isWritten 33 = .ok (.iload 4, 2) := by decide +kernel
theorem dX4_isWritten_35 : decode cX4_isWritten 35 = .ok (.invokevirtual 157, 3) := by decide +kernel
theorem dX4_isWritten_38 : decode cX4_isWritten 38 = .ok (.if_icmp .eq 5, 3) := by decide +kernel
theorem dX4_isWritten_41 : decode cX4_isWritten 41 = .ok (.iconst 0, 1) := by decide +kernel
theorem dX4_isWritten_42 : decode cX4_isWritten 42 = .ok (.ireturn, 1) := by decide +kernel
theorem dX4_isWritten_43 : decode cX4_isWritten 43 = .ok (.iinc 4 1, 3) := by decide +kernel
theorem dX4_isWritten_46 : decode cX4_isWritten 46 = .ok (.goto (-31), 3) := by decide +kernel
theorem dX4_isWritten_49 : decode cX4_isWritten 49 = .ok (.iconst 1, 1) := by decide +kernel
theorem dX4_isWritten_50 : decode cX4_isWritten 50 = .ok (.ireturn, 1) := by decide +kernel
def X_RD_isWritten_15 (K : Int32 → xs_St → Prop) (k15 : Nat → Int32 → Int32 → xs_St → Prop) (x0 : Nat) (x2 : Int32) (x4 : Int32) (u : xs_St) : Prop :=
  (x0 < 27 ∧ X_S0_length_8abf5_s x0 u (fun r_2 u_1 => ((r_2 ≤ x4 → (((1 : Int32) = 0 ∨ (1 : Int32) = 1) ∧ K (1 : Int32) u_1)) ∧ (¬ r_2 ≤ x4 → X_TP_unsigned (x2 + x4) u_1 (fun r_4 u_3 => (x0 < 27 ∧ X_S0_charAt_5068e_s x0 x4 u_3 (fun r_6 u_5 => ((r_4 = r_6 → ∀ x4_7 : Int32, x4_7 = x4 + (1 : Int32) → k15 x0 x2 x4_7 u_5) ∧ (¬ r_4 = r_6 → (((0 : Int32) = 0 ∨ (0 : Int32) = 1) ∧ K (0 : Int32) u_5))))))))))
set_option maxHeartbeats 4000000 in
set_option maxRecDepth 100000 in
theorem X_RD_isWritten_15_w {K : Int32 → xs_St → Prop} {k15 : Nat → Int32 → Int32 → xs_St → Prop} (C : th_Cx p s m args meth c cX4_isWritten RX4 5 (some .boolean) (dC, dI) (th_ty cs) (xE ad ak) A) (hk15 : ∀ (x0 : Nat) (x2 : Int32) (x4 : Int32) (u : xs_St) (H : Heap) (locs : List Loc) (ls : Array Slot), k15 x0 x2 x4 u → th_wI (dC, dI) (wX cs ad q v v) A s.heap u H locs → lv_has ls 5 [(0, .ref (ak (100 + x0))), (1, .ref (q 199)), (2, .int x2), (4, .int x4)] → W p l e (th_rm 5 0 0) s m args below meth c H locs 0 0 (MQ below (va_Qi K (th_Post (dC, dI) (wX cs ad q v v) A) A) args s 0 0 A) (F0 m 15 ls [])) (x0 : Nat) (x2 : Int32) (x4 : Int32) (u : xs_St) (H : Heap) (locs : List Loc) (ls : Array Slot) (hf : X_RD_isWritten_15 K k15 x0 x2 x4 u) (hw : th_wI (dC, dI) (wX cs ad q v v) A s.heap u H locs) (hl : lv_has ls 5 [(0, .ref (ak (100 + x0))), (1, .ref (q 199)), (2, .int x2), (4, .int x4)]) : W p l e (th_rm 5 0 0) s m args below meth c H locs 0 0 (MQ below (va_Qi K (th_Post (dC, dI) (wX cs ad q v v) A) A) args s 0 0 A) (F0 m 15 ls []) := by
  have hx := C.1
  have hb := C.2.1
  unfold X_RD_isWritten_15 at hf
  refine lv_iload hx hb dX4_isWritten_15 (lv_at hl 3 rfl) ?_
  refine lv_aload_n hx hb dX4_isWritten_17 rfl (lv_at hl 0 rfl) ?_
  obtain ⟨hf9, hf⟩ := hf
  refine th_callVi (As := []) (rest := [.int x4]) C lkX4_152 (X_S0_length_8abf5_s_c hf) hw (x_src C hw hf9) rfl rfl ⟨Nat.le_of_ble_eq_true rfl, Nat.le_of_ble_eq_true rfl⟩ hl.1 (Nat.le_of_ble_eq_true rfl) ⟨Nat.le_of_ble_eq_true rfl, Nat.le_of_ble_eq_true rfl⟩ dX4_isWritten_18 (fun r_2 u_1 H locs hf hw => ?_)
  refine lv_icmp_ge (tgt := 49) hx hb dX4_isWritten_21 (by decide) (fun hc => ?_) (fun hc => ?_)
  · replace hf := hf.1 hc
    clear hc
    refine lv_iconst (v := (1 : Int32)) hx hb dX4_isWritten_49 (by decide) ?_
    exact th_zret C hw hf dX4_isWritten_50
  · replace hf := hf.2 hc
    clear hc
    refine lv_aload_n hx hb dX4_isWritten_24 rfl (lv_at hl 1 rfl) ?_
    refine lv_iload_n hx hb dX4_isWritten_25 rfl (lv_at hl 2 rfl) ?_
    refine lv_iload hx hb dX4_isWritten_26 (lv_at hl 3 rfl) ?_
    refine lv_iadd hx hb dX4_isWritten_28 ?_
    refine th_callVi (As := [.int (x2 + x4)]) (rest := []) C lkX4_113 (X_TP_unsigned_c hf) hw (xRc_TP C hw) rfl rfl ⟨Nat.le_of_ble_eq_true rfl, Nat.le_of_ble_eq_true rfl⟩ hl.1 (Nat.le_of_ble_eq_true rfl) ⟨Nat.le_of_ble_eq_true rfl, Nat.le_of_ble_eq_true rfl⟩ dX4_isWritten_29 (fun r_4 u_3 H locs hf hw => ?_)
    refine lv_aload_n hx hb dX4_isWritten_32 rfl (lv_at hl 0 rfl) ?_
    refine lv_iload hx hb dX4_isWritten_33 (lv_at hl 3 rfl) ?_
    obtain ⟨hf9, hf⟩ := hf
    refine th_callVi (As := [.int x4]) (rest := [.int r_4]) C lkX4_157 (X_S0_charAt_5068e_s_c hf) hw (x_src C hw hf9) rfl rfl ⟨Nat.le_of_ble_eq_true rfl, Nat.le_of_ble_eq_true rfl⟩ hl.1 (Nat.le_of_ble_eq_true rfl) ⟨Nat.le_of_ble_eq_true rfl, Nat.le_of_ble_eq_true rfl⟩ dX4_isWritten_35 (fun r_6 u_5 H locs hf hw => ?_)
    refine lv_icmp_eq (tgt := 43) hx hb dX4_isWritten_38 (by decide) (fun hc => ?_) (fun hc => ?_)
    · replace hf := hf.1 hc
      clear hc
      obtain ⟨x4_7, e9⟩ : ∃ y : Int32, y = x4 + (1 : Int32) := ⟨_, rfl⟩
      replace hf := hf x4_7 e9
      refine lv_iinc (v := x4_7) (lv' := [(4, .int x4_7), (0, .ref (ak (100 + x0))), (1, .ref (q 199)), (2, .int x2)]) hx hb dX4_isWritten_43 hl (k := 3) rfl (by rw [e9]; rfl) (by decide) rfl (fun ls hl => ?_)
      clear e9
      refine lv_goto (tgt := 15) hx hb dX4_isWritten_46 (by decide) ?_
      exact hk15 x0 x2 x4_7 u_5 _ _ _ hf hw (lv_sub hl [1, 2, 3, 0] rfl)
    · replace hf := hf.2 hc
      clear hc
      refine lv_iconst (v := (0 : Int32)) hx hb dX4_isWritten_41 (by decide) ?_
      exact th_zret C hw hf dX4_isWritten_42
def X_RD_isWritten_15_lp (K : Int32 → xs_St → Prop) : Nat → Nat → Int32 → Int32 → xs_St → Prop
  | 0, _, _, _, _ => False
  | n + 1, x0, x2, x4, u => X_RD_isWritten_15 K (X_RD_isWritten_15_lp K n) x0 x2 x4 u
set_option maxHeartbeats 4000000 in
set_option maxRecDepth 100000 in
theorem X_RD_isWritten_15_lw {K : Int32 → xs_St → Prop} (C : th_Cx p s m args meth c cX4_isWritten RX4 5 (some .boolean) (dC, dI) (th_ty cs) (xE ad ak) A) (n : Nat) : ∀ (x0 : Nat) (x2 : Int32) (x4 : Int32) (u : xs_St) (H : Heap) (locs : List Loc) (ls : Array Slot), X_RD_isWritten_15_lp K n x0 x2 x4 u → th_wI (dC, dI) (wX cs ad q v v) A s.heap u H locs → lv_has ls 5 [(0, .ref (ak (100 + x0))), (1, .ref (q 199)), (2, .int x2), (4, .int x4)] → W p l e (th_rm 5 0 0) s m args below meth c H locs 0 0 (MQ below (va_Qi K (th_Post (dC, dI) (wX cs ad q v v) A) A) args s 0 0 A) (F0 m 15 ls []) := by
  induction n with
  | zero => intro x0 x2 x4 u H locs ls hf; exact hf.elim
  | succ n ih =>
    intro x0 x2 x4 u H locs ls hf hw hl
    exact X_RD_isWritten_15_w C ih x0 x2 x4 u H locs ls hf hw hl
def X_RD_isWritten (a1 : Nat) (a3 : Int32) (a4 : Int32) (u : xs_St) (K : Int32 → xs_St → Prop) : Prop :=
  (a1 < 27 ∧ X_S0_length_8abf5_s a1 u (fun r_2 u_1 => ((r_2 = (a4 - a3) → ∃ n, X_RD_isWritten_15_lp K n a1 a3 (0 : Int32) u_1) ∧ (¬ r_2 = (a4 - a3) → (((0 : Int32) = 0 ∨ (0 : Int32) = 1) ∧ K (0 : Int32) u_1)))))
set_option maxHeartbeats 4000000 in
set_option maxRecDepth 100000 in
theorem X_RD_isWritten_c {l : Launch} {dC : Nat → ClassId} {dI : Nat → Nat → Nat} {cs : Nat → ClassId} {ad ak : Nat → Nat} {q v : Nat → Nat} {a1 : Nat} {a3 : Int32} {a4 : Int32} {u : xs_St} {K : Int32 → xs_St → Prop} (hf : X_RD_isWritten a1 a3 a4 u K) : th_Ci l yX4_isWritten cX4_isWritten 5 (some .boolean) 5 0 0 (dC, dI) (th_ty cs) (xE ad ak) (wX cs ad q v v) [.ref (ak (100 + a1)), .ref (q 199), .int a3, .int a4] u K := by
  refine th_ofi (by decide) (Nat.le_of_ble_eq_true rfl) (xE_ok ad ak) ?_
  intro p e s m below meth c A ls C hw hl
  have C : th_Cx p s m _ meth c cX4_isWritten RX4 5 (some .boolean) (dC, dI) (th_ty cs) (xE ad ak) A := C
  have hl : lv_has ls 5 [(0, .ref (ak (100 + a1))), (1, .ref (q 199)), (2, .int a3), (3, .int a4)] := hl
  generalize (List.toArray _ : Array Value) = args at C ⊢
  have hx := C.1
  have hb := C.2.1
  unfold X_RD_isWritten at hf
  refine lv_aload_n hx hb dX4_isWritten_0 rfl (lv_at hl 0 rfl) ?_
  obtain ⟨hf9, hf⟩ := hf
  refine th_callVi (As := []) (rest := []) C lkX4_152 (X_S0_length_8abf5_s_c hf) hw (x_src C hw hf9) rfl rfl ⟨Nat.le_of_ble_eq_true rfl, Nat.le_of_ble_eq_true rfl⟩ hl.1 (Nat.le_of_ble_eq_true rfl) ⟨Nat.le_of_ble_eq_true rfl, Nat.le_of_ble_eq_true rfl⟩ dX4_isWritten_1 (fun r_2 u_1 H locs hf hw => ?_)
  refine lv_iload_n hx hb dX4_isWritten_4 rfl (lv_at hl 3 rfl) ?_
  refine lv_iload_n hx hb dX4_isWritten_5 rfl (lv_at hl 2 rfl) ?_
  refine lv_isub hx hb dX4_isWritten_6 ?_
  refine lv_icmp_eq (tgt := 12) hx hb dX4_isWritten_7 (by decide) (fun hc => ?_) (fun hc => ?_)
  · replace hf := hf.1 hc
    clear hc
    refine lv_iconst (v := (0 : Int32)) hx hb dX4_isWritten_12 (by decide) ?_
    refine lv_istore (lv' := [(4, .int (0 : Int32)), (0, .ref (ak (100 + a1))), (1, .ref (q 199)), (2, .int a3), (3, .int a4)]) hx hb dX4_isWritten_13 hl (by decide) rfl (fun ls hl => ?_)
    obtain ⟨n, hf⟩ := hf
    exact X_RD_isWritten_15_lw C n a1 a3 (0 : Int32) u_1 _ _ _ hf hw (lv_sub hl [1, 2, 3, 0] rfl)
  · replace hf := hf.2 hc
    clear hc
    refine lv_iconst (v := (0 : Int32)) hx hb dX4_isWritten_10 (by decide) ?_
    exact th_zret C hw hf dX4_isWritten_11
/-! X_TH_explain -/
theorem dX11_explain_0 : decode cX11_explain 0 = .ok (.iconst (-1), 1) := by decide +kernel
theorem dX11_explain_1 : decode cX11_explain 1 = .ok (.istore_n 1, 1) := by decide +kernel
theorem dX11_explain_2 : decode cX11_explain 2 = .ok (.aload_n 0, 1) := by decide +kernel
theorem dX11_explain_3 : decode cX11_explain 3 = .ok (.getfield 10, 3) := by decide +kernel
theorem dX11_explain_6 : decode cX11_explain 6 = .ok (.getfield 91, 3) := by decide +kernel
theorem dX11_explain_9 : decode cX11_explain 9 = .ok (.aload_n 0, 1) := by decide +kernel
theorem dX11_explain_10 : decode cX11_explain 10 = .ok (.getfield 69, 3) := by decide +kernel
theorem dX11_explain_13 : decode cX11_explain 13 = .ok (.getfield 126, 3) := by decide +kernel
theorem dX11_explain_16 : decode cX11_explain 16 = .ok (.if_icmp .ne 29, 3) := by decide +kernel
theorem dX11_explain_19 : decode cX11_explain 19 = .ok (.aload_n 0, 1) := by decide +kernel
theorem dX11_explain_20 : decode cX11_explain 20 = .ok (.getfield 40, 3) := by decide +kernel
theorem dX11_explain_23 : decode cX11_explain 23 = .ok (.aload_n 0, 1) := by decide +kernel
theorem dX11_explain_24 : decode cX11_explain 24 = .ok (.getfield 10, 3) := by decide +kernel
theorem dX11_explain_27 : decode cX11_explain 27 = .ok (.aload_n 0, 1) := by decide +kernel
theorem dX11_explain_28 : decode cX11_explain 28 = .ok (.getfield 69, 3) := by decide +kernel
theorem dX11_explain_31 : decode cX11_explain 31 = .ok (.getfield 126, 3) := by decide +kernel
theorem dX11_explain_34 : decode cX11_explain 34 = .ok (.aload_n 0, 1) := by decide +kernel
theorem dX11_explain_35 : decode cX11_explain 35 = .ok (.getfield 69, 3) := by decide +kernel
theorem dX11_explain_38 : decode cX11_explain 38 = .ok (.getfield 189, 3) := by decide +kernel
theorem dX11_explain_41 : decode cX11_explain 41 = .ok (.invokevirtual 209, 3) := by decide +kernel
theorem dX11_explain_44 : decode cX11_explain 44 = .ok (.istore_n 1, 1) := by decide +kernel
theorem dX11_explain_45 : decode cX11_explain 45 = .ok (.aload_n 0, 1) := by decide +kernel
theorem dX11_explain_46 : decode cX11_explain 46 = .ok (.getfield 10, 3) := by decide +kernel
theorem dX11_explain_49 : decode cX11_explain 49 = .ok (.invokevirtual 110, 3) := by decide +kernel
theorem dX11_explain_52 : decode cX11_explain 52 = .ok (.iload_n 1, 1) := by decide +kernel
theorem dX11_explain_53 : decode cX11_explain 53 = .ok (.ireturn, 1) := by decide +kernel
def X_TH_explain_45 (K : Int32 → xs_St → Prop) (x1 : Int32) (u : xs_St) : Prop :=
  X_TP_clear u (fun u_1 => K x1 u_1)
set_option maxHeartbeats 4000000 in
set_option maxRecDepth 100000 in
theorem X_TH_explain_45_w {K : Int32 → xs_St → Prop} (C : th_Cx p s m args meth c cX11_explain RX11 2 (some .int) (dC, dI) (th_ty cs) (xE ad ak) A) (x1 : Int32) (u : xs_St) (H : Heap) (locs : List Loc) (ls : Array Slot) (hf : X_TH_explain_45 K x1 u) (hw : th_wI (dC, dI) (wX cs ad q v v) A s.heap u H locs) (hl : lv_has ls 2 [(0, .ref (q 99)), (1, .int x1)]) : W p l e (th_rm 5 0 0) s m args below meth c H locs 0 0 (MQ below (va_Qi K (th_Post (dC, dI) (wX cs ad q v v) A) A) args s 0 0 A) (F0 m 45 ls []) := by
  have hx := C.1
  have hb := C.2.1
  unfold X_TH_explain_45 at hf
  refine lv_aload_n hx hb dX11_explain_45 rfl (lv_at hl 0 rfl) ?_
  refine xg_0 C hw (C.2.2.2.2.1 _ hwF_X11_10) dX11_explain_46 ?_
  refine th_callVv (As := []) (rest := []) C lkX11_110 (X_TP_clear_c hf) hw (xRc_TP C hw) rfl rfl ⟨Nat.le_of_ble_eq_true rfl, Nat.le_of_ble_eq_true rfl⟩ hl.1 (Nat.le_of_ble_eq_true rfl) ⟨Nat.le_of_ble_eq_true rfl, Nat.le_of_ble_eq_true rfl⟩ dX11_explain_49 (fun u_1 H locs hf hw => ?_)
  refine lv_iload_n hx hb dX11_explain_52 rfl (lv_at hl 1 rfl) ?_
  exact th_iret C hw hf dX11_explain_53
def X_TH_explain (u : xs_St) (K : Int32 → xs_St → Prop) : Prop :=
  ((¬ (xi u 101) = (xi u 300) → X_TH_explain_45 K (-1 : Int32) u) ∧ ((xi u 101) = (xi u 300) → X_EX_fewestEvents (xi u 300) (xi u 303) u (fun r_2 u_1 => X_TH_explain_45 K r_2 u_1)))
set_option maxHeartbeats 4000000 in
set_option maxRecDepth 100000 in
theorem X_TH_explain_c {l : Launch} {dC : Nat → ClassId} {dI : Nat → Nat → Nat} {cs : Nat → ClassId} {ad ak : Nat → Nat} {q v : Nat → Nat} {u : xs_St} {K : Int32 → xs_St → Prop} (hf : X_TH_explain u K) : th_Ci l yX11_explain cX11_explain 2 (some .int) 5 0 0 (dC, dI) (th_ty cs) (xE ad ak) (wX cs ad q v v) [.ref (q 99)] u K := by
  refine th_ofi (by decide) (Nat.le_of_ble_eq_true rfl) (xE_ok ad ak) ?_
  intro p e s m below meth c A ls C hw hl
  have C : th_Cx p s m _ meth c cX11_explain RX11 2 (some .int) (dC, dI) (th_ty cs) (xE ad ak) A := C
  have hl : lv_has ls 2 [(0, .ref (q 99))] := hl
  generalize (List.toArray _ : Array Value) = args at C ⊢
  have hx := C.1
  have hb := C.2.1
  unfold X_TH_explain at hf
  refine lv_iconst (v := (-1 : Int32)) hx hb dX11_explain_0 (by decide) ?_
  refine lv_istore_n (lv' := [(1, .int (-1 : Int32)), (0, .ref (q 99))]) hx hb dX11_explain_1 rfl hl (by decide) rfl (fun ls hl => ?_)
  refine lv_aload_n hx hb dX11_explain_2 rfl (lv_at hl 1 rfl) ?_
  refine xg_0 C hw (C.2.2.2.2.1 _ hwF_X11_10) dX11_explain_3 ?_
  refine xgn_101 C hw (va_Nw.use rfl (xN C hwG_X11_91)) dX11_explain_6 ?_
  refine lv_aload_n hx hb dX11_explain_9 rfl (lv_at hl 1 rfl) ?_
  refine xg_9 C hw (C.2.2.2.2.1 _ hwF_X11_69) dX11_explain_10 ?_
  refine xgn_300 C hw (va_Nw.use rfl (xN C hwG_X11_126)) dX11_explain_13 ?_
  refine lv_icmp_ne (tgt := 45) hx hb dX11_explain_16 (by decide) (fun hc => ?_) (fun hc => ?_)
  · replace hf := hf.1 hc
    clear hc
    exact X_TH_explain_45_w C (-1 : Int32) u _ _ _ hf hw (lv_sub hl [1, 0] rfl)
  · replace hf := hf.2 hc
    clear hc
    refine lv_aload_n hx hb dX11_explain_19 rfl (lv_at hl 1 rfl) ?_
    refine xg_4 C hw (C.2.2.2.2.1 _ hwF_X11_40) dX11_explain_20 ?_
    refine lv_aload_n hx hb dX11_explain_23 rfl (lv_at hl 1 rfl) ?_
    refine xg_0 C hw (C.2.2.2.2.1 _ hwF_X11_10) dX11_explain_24 ?_
    refine lv_aload_n hx hb dX11_explain_27 rfl (lv_at hl 1 rfl) ?_
    refine xg_9 C hw (C.2.2.2.2.1 _ hwF_X11_69) dX11_explain_28 ?_
    refine xgn_300 C hw (va_Nw.use rfl (xN C hwG_X11_126)) dX11_explain_31 ?_
    refine lv_aload_n hx hb dX11_explain_34 rfl (lv_at hl 1 rfl) ?_
    refine xg_9 C hw (C.2.2.2.2.1 _ hwF_X11_69) dX11_explain_35 ?_
    refine xgn_303 C hw (va_Nw.use rfl (xN C hwG_X11_189)) dX11_explain_38 ?_
    refine th_callVi (As := [.ref (q 199), .int (xi u 300), .int (xi u 303)]) (rest := []) C lkX11_209 (X_EX_fewestEvents_c hf) hw (xRc_EX C hw) rfl rfl ⟨Nat.le_of_ble_eq_true rfl, Nat.le_of_ble_eq_true rfl⟩ hl.1 (Nat.le_of_ble_eq_true rfl) ⟨Nat.le_of_ble_eq_true rfl, Nat.le_of_ble_eq_true rfl⟩ dX11_explain_41 (fun r_2 u_1 H locs hf hw => ?_)
    refine lv_istore_n (lv' := [(1, .int r_2), (0, .ref (q 99))]) hx hb dX11_explain_44 rfl hl (by decide) rfl (fun ls hl => ?_)
    exact X_TH_explain_45_w C r_2 u_1 _ _ _ hf hw (lv_sub hl [1, 0] rfl)
/-! X_TH_lined -/
theorem dX11_lined_0 : decode cX11_lined 0 = .ok (.iconst (-1), 1) := by decide +kernel
theorem dX11_lined_1 : decode cX11_lined 1 = .ok (.istore_n 3, 1) := by decide +kernel
theorem dX11_lined_2 : decode cX11_lined 2 = .ok (.aload_n 0, 1) := by decide +kernel
theorem dX11_lined_3 : decode cX11_lined 3 = .ok (.getfield 54, 3) := by decide +kernel
theorem dX11_lined_6 : decode cX11_lined 6 = .ok (.aload_n 0, 1) := by decide +kernel
theorem dX11_lined_7 : decode cX11_lined 7 = .ok (.getfield 10, 3) := by decide +kernel
theorem dX11_lined_10 : decode cX11_lined 10 = .ok (.getfield 91, 3) := by decide +kernel
theorem dX11_lined_13 : decode cX11_lined 13 = .ok (.iload_n 1, 1) := by decide +kernel
theorem dX11_lined_14 : decode cX11_lined 14 = .ok (.invokevirtual 233, 3) := by decide +kernel
theorem dX11_lined_17 : decode cX11_lined 17 = .ok (.ifCond .eq 28, 3) := by decide +kernel
theorem dX11_lined_20 : decode cX11_lined 20 = .ok (.iload_n 2, 1) := by decide +kernel
theorem dX11_lined_21 : decode cX11_lined 21 = .ok (.ifCond .lt 24, 3) := by decide +kernel
theorem dX11_lined_24 : decode cX11_lined 24 = .ok (.iload_n 2, 1) := by decide +kernel
theorem dX11_lined_25 : decode cX11_lined 25 = .ok (.sipush 255, 3) := by decide +kernel
theorem dX11_lined_28 : decode cX11_lined 28 = .ok (.if_icmp .gt 17, 3) := by decide +kernel
theorem dX11_lined_31 : decode cX11_lined 31 = .ok (.aload_n 0, 1) := by decide +kernel
theorem dX11_lined_32 : decode cX11_lined 32 = .ok (.getfield 54, 3) := by decide +kernel
theorem dX11_lined_35 : decode cX11_lined 35 = .ok (.aload_n 0, 1) := by decide +kernel
theorem dX11_lined_36 : decode cX11_lined 36 = .ok (.getfield 10, 3) := by decide +kernel
theorem dX11_lined_39 : decode cX11_lined 39 = .ok (.iload_n 1, 1) := by decide +kernel
theorem dX11_lined_40 : decode cX11_lined 40 = .ok (.iload_n 2, 1) := by decide +kernel
theorem dX11_lined_41 : decode cX11_lined 41 = .ok (.invokevirtual 237, 3) := by decide +kernel
theorem dX11_lined_44 : decode cX11_lined 44 = .ok (.istore_n 3, 1) := by decide +kernel
theorem dX11_lined_45 : decode cX11_lined 45 = .ok (.aload_n 0, 1) := by decide +kernel
theorem dX11_lined_46 : decode cX11_lined 46 = .ok (.getfield 10, 3) := by decide +kernel
theorem dX11_lined_49 : decode cX11_lined 49 = .ok (.invokevirtual 110, 3) := by decide +kernel
theorem dX11_lined_52 : decode cX11_lined 52 = .ok (.iload_n 3, 1) := by decide +kernel
theorem dX11_lined_53 : decode cX11_lined 53 = .ok (.ireturn, 1) := by decide +kernel
def X_TH_lined_45 (K : Int32 → xs_St → Prop) (x3 : Int32) (u : xs_St) : Prop :=
  X_TP_clear u (fun u_1 => K x3 u_1)
set_option maxHeartbeats 4000000 in
set_option maxRecDepth 100000 in
theorem X_TH_lined_45_w {K : Int32 → xs_St → Prop} (C : th_Cx p s m args meth c cX11_lined RX11 4 (some .int) (dC, dI) (th_ty cs) (xE ad ak) A) (x3 : Int32) (u : xs_St) (H : Heap) (locs : List Loc) (ls : Array Slot) (hf : X_TH_lined_45 K x3 u) (hw : th_wI (dC, dI) (wX cs ad q v v) A s.heap u H locs) (hl : lv_has ls 4 [(0, .ref (q 99)), (3, .int x3)]) : W p l e (th_rm 5 0 0) s m args below meth c H locs 0 0 (MQ below (va_Qi K (th_Post (dC, dI) (wX cs ad q v v) A) A) args s 0 0 A) (F0 m 45 ls []) := by
  have hx := C.1
  have hb := C.2.1
  unfold X_TH_lined_45 at hf
  refine lv_aload_n hx hb dX11_lined_45 rfl (lv_at hl 0 rfl) ?_
  refine xg_0 C hw (C.2.2.2.2.1 _ hwF_X11_10) dX11_lined_46 ?_
  refine th_callVv (As := []) (rest := []) C lkX11_110 (X_TP_clear_c hf) hw (xRc_TP C hw) rfl rfl ⟨Nat.le_of_ble_eq_true rfl, Nat.le_of_ble_eq_true rfl⟩ hl.1 (Nat.le_of_ble_eq_true rfl) ⟨Nat.le_of_ble_eq_true rfl, Nat.le_of_ble_eq_true rfl⟩ dX11_lined_49 (fun u_1 H locs hf hw => ?_)
  refine lv_iload_n hx hb dX11_lined_52 rfl (lv_at hl 1 rfl) ?_
  exact th_iret C hw hf dX11_lined_53
def X_TH_lined (a1 : Int32) (a2 : Int32) (u : xs_St) (K : Int32 → xs_St → Prop) : Prop :=
  X_LN_areRows (xi u 101) a1 u (fun r_2 u_1 => ((r_2 = 0 → X_TH_lined_45 K (-1 : Int32) u_1) ∧ (¬ r_2 = 0 → ((a2 < 0 → X_TH_lined_45 K (-1 : Int32) u_1) ∧ (¬ a2 < 0 → (((255 : Int32) < a2 → X_TH_lined_45 K (-1 : Int32) u_1) ∧ (¬ (255 : Int32) < a2 → X_LN_leastCost a1 a2 u_1 (fun r_4 u_3 => X_TH_lined_45 K r_4 u_3))))))))
set_option maxHeartbeats 4000000 in
set_option maxRecDepth 100000 in
theorem X_TH_lined_c {l : Launch} {dC : Nat → ClassId} {dI : Nat → Nat → Nat} {cs : Nat → ClassId} {ad ak : Nat → Nat} {q v : Nat → Nat} {a1 : Int32} {a2 : Int32} {u : xs_St} {K : Int32 → xs_St → Prop} (hf : X_TH_lined a1 a2 u K) : th_Ci l yX11_lined cX11_lined 4 (some .int) 5 0 0 (dC, dI) (th_ty cs) (xE ad ak) (wX cs ad q v v) [.ref (q 99), .int a1, .int a2] u K := by
  refine th_ofi (by decide) (Nat.le_of_ble_eq_true rfl) (xE_ok ad ak) ?_
  intro p e s m below meth c A ls C hw hl
  have C : th_Cx p s m _ meth c cX11_lined RX11 4 (some .int) (dC, dI) (th_ty cs) (xE ad ak) A := C
  have hl : lv_has ls 4 [(0, .ref (q 99)), (1, .int a1), (2, .int a2)] := hl
  generalize (List.toArray _ : Array Value) = args at C ⊢
  have hx := C.1
  have hb := C.2.1
  unfold X_TH_lined at hf
  refine lv_iconst (v := (-1 : Int32)) hx hb dX11_lined_0 (by decide) ?_
  refine lv_istore_n (lv' := [(3, .int (-1 : Int32)), (0, .ref (q 99)), (1, .int a1), (2, .int a2)]) hx hb dX11_lined_1 rfl hl (by decide) rfl (fun ls hl => ?_)
  refine lv_aload_n hx hb dX11_lined_2 rfl (lv_at hl 1 rfl) ?_
  refine xg_6 C hw (C.2.2.2.2.1 _ hwF_X11_54) dX11_lined_3 ?_
  refine lv_aload_n hx hb dX11_lined_6 rfl (lv_at hl 1 rfl) ?_
  refine xg_0 C hw (C.2.2.2.2.1 _ hwF_X11_10) dX11_lined_7 ?_
  refine xgn_101 C hw (va_Nw.use rfl (xN C hwG_X11_91)) dX11_lined_10 ?_
  refine lv_iload_n hx hb dX11_lined_13 rfl (lv_at hl 2 rfl) ?_
  refine th_callVi (As := [.int (xi u 101), .int a1]) (rest := []) C lkX11_233 (X_LN_areRows_c hf) hw (xRc_LN C hw) rfl rfl ⟨Nat.le_of_ble_eq_true rfl, Nat.le_of_ble_eq_true rfl⟩ hl.1 (Nat.le_of_ble_eq_true rfl) ⟨Nat.le_of_ble_eq_true rfl, Nat.le_of_ble_eq_true rfl⟩ dX11_lined_14 (fun r_2 u_1 H locs hf hw => ?_)
  refine lv_if_eq (tgt := 45) hx hb dX11_lined_17 (by decide) (fun hc => ?_) (fun hc => ?_)
  · replace hf := hf.1 hc
    clear hc
    exact X_TH_lined_45_w C (-1 : Int32) u_1 _ _ _ hf hw (lv_sub hl [1, 0] rfl)
  · replace hf := hf.2 hc
    clear hc
    refine lv_iload_n hx hb dX11_lined_20 rfl (lv_at hl 3 rfl) ?_
    refine lv_if_lt (tgt := 45) hx hb dX11_lined_21 (by decide) (fun hc => ?_) (fun hc => ?_)
    · replace hf := hf.1 hc
      clear hc
      exact X_TH_lined_45_w C (-1 : Int32) u_1 _ _ _ hf hw (lv_sub hl [1, 0] rfl)
    · replace hf := hf.2 hc
      clear hc
      refine lv_iload_n hx hb dX11_lined_24 rfl (lv_at hl 3 rfl) ?_
      refine lv_sipush (v := (255 : Int32)) hx hb dX11_lined_25 (by decide) ?_
      refine lv_icmp_gt (tgt := 45) hx hb dX11_lined_28 (by decide) (fun hc => ?_) (fun hc => ?_)
      · replace hf := hf.1 hc
        clear hc
        exact X_TH_lined_45_w C (-1 : Int32) u_1 _ _ _ hf hw (lv_sub hl [1, 0] rfl)
      · replace hf := hf.2 hc
        clear hc
        refine lv_aload_n hx hb dX11_lined_31 rfl (lv_at hl 1 rfl) ?_
        refine xg_6 C hw (C.2.2.2.2.1 _ hwF_X11_54) dX11_lined_32 ?_
        refine lv_aload_n hx hb dX11_lined_35 rfl (lv_at hl 1 rfl) ?_
        refine xg_0 C hw (C.2.2.2.2.1 _ hwF_X11_10) dX11_lined_36 ?_
        refine lv_iload_n hx hb dX11_lined_39 rfl (lv_at hl 2 rfl) ?_
        refine lv_iload_n hx hb dX11_lined_40 rfl (lv_at hl 3 rfl) ?_
        refine th_callVi (As := [.ref (q 199), .int a1, .int a2]) (rest := []) C lkX11_237 (X_LN_leastCost_c hf) hw (xRc_LN C hw) rfl rfl ⟨Nat.le_of_ble_eq_true rfl, Nat.le_of_ble_eq_true rfl⟩ hl.1 (Nat.le_of_ble_eq_true rfl) ⟨Nat.le_of_ble_eq_true rfl, Nat.le_of_ble_eq_true rfl⟩ dX11_lined_41 (fun r_4 u_3 H locs hf hw => ?_)
        refine lv_istore_n (lv' := [(3, .int r_4), (0, .ref (q 99)), (1, .int a1), (2, .int a2)]) hx hb dX11_lined_44 rfl hl (by decide) rfl (fun ls hl => ?_)
        exact X_TH_lined_45_w C r_4 u_3 _ _ _ hf hw (lv_sub hl [1, 0] rfl)
/-! X_TH_slips -/
theorem dX11_slips_0 : decode cX11_slips 0 = .ok (.aload_n 0, 1) := by decide +kernel
theorem dX11_slips_1 : decode cX11_slips 1 = .ok (.getfield 26, 3) := by decide +kernel
theorem dX11_slips_4 : decode cX11_slips 4 = .ok (.aload_n 0, 1) := by decide +kernel
theorem dX11_slips_5 : decode cX11_slips 5 = .ok (.getfield 69, 3) := by decide +kernel
theorem dX11_slips_8 : decode cX11_slips 8 = .ok (.iload_n 1, 1) := by decide +kernel
theorem dX11_slips_9 : decode cX11_slips 9 = .ok (.iload_n 2, 1) := by decide +kernel
theorem dX11_slips_10 : decode cX11_slips 10 = .ok (.invokevirtual 144, 3) := by decide +kernel
theorem dX11_slips_13 : decode cX11_slips 13 = .ok (.astore_n 3, 1) := by decide +kernel
theorem dX11_slips_14 : decode cX11_slips 14 = .ok (.aload_n 3, 1) := by decide +kernel
theorem dX11_slips_15 : decode cX11_slips 15 = .ok (.ifnonnull 7, 3) := by decide +kernel
theorem dX11_slips_18 : decode cX11_slips 18 = .ok (.iconst (-1), 1) := by decide +kernel
theorem dX11_slips_19 : decode cX11_slips 19 = .ok (.goto 7, 3) := by decide +kernel
theorem dX11_slips_22 : decode cX11_slips 22 = .ok (.aload_n 3, 1) := by decide +kernel
theorem dX11_slips_23 : decode cX11_slips 23 = .ok (.getfield 161, 3) := by decide +kernel
theorem dX11_slips_26 : decode cX11_slips 26 = .ok (.ireturn, 1) := by decide +kernel
def X_TH_slips_26 (K : Int32 → xs_St → Prop) (z0 : Int32) (u : xs_St) : Prop :=
  K z0 u
set_option maxHeartbeats 4000000 in
set_option maxRecDepth 100000 in
theorem X_TH_slips_26_w {K : Int32 → xs_St → Prop} (C : th_Cx p s m args meth c cX11_slips RX11 4 (some .int) (dC, dI) (th_ty cs) (xE ad ak) A) (z0 : Int32) (u : xs_St) (H : Heap) (locs : List Loc) (ls : Array Slot) (hf : X_TH_slips_26 K z0 u) (hw : th_wI (dC, dI) (wX cs ad q v v) A s.heap u H locs) (hl : lv_has ls 4 []) (n9 m9 : Nat) (h9 : n9 + 0 ≤ 82) (g9 : m9 + 0 ≤ 2296) : W p l e (th_rm 5 82 2296) s m args below meth c H locs n9 m9 (MQ below (va_Qi K (th_Post (dC, dI) (wX cs ad q v v) A) A) args s 82 2296 A) (F0 m 26 ls [.int z0]) := by
  have hx := C.1
  have hb := C.2.1
  unfold X_TH_slips_26 at hf
  refine W.widen (k := 82) (n := 2296) (by omega) (by omega) ?_
  exact th_iret C hw hf dX11_slips_26
def X_TH_slips (a1 : Int32) (a2 : Int32) (u : xs_St) (K : Int32 → xs_St → Prop) : Prop :=
  X_BD_feelOf a1 a2 u (fun r_2 u_1 => ((¬ r_2 = none → (∃ b_3 : Nat, r_2 = some b_3 ∧ xd_is u_1 b_3 3 ∧ X_TH_slips_26 K (xdI u_1 2 b_3) u_1)) ∧ (r_2 = none → X_TH_slips_26 K (-1 : Int32) u_1)))
set_option maxHeartbeats 4000000 in
set_option maxRecDepth 100000 in
theorem X_TH_slips_c {l : Launch} {dC : Nat → ClassId} {dI : Nat → Nat → Nat} {cs : Nat → ClassId} {ad ak : Nat → Nat} {q v : Nat → Nat} {a1 : Int32} {a2 : Int32} {u : xs_St} {K : Int32 → xs_St → Prop} (hf : X_TH_slips a1 a2 u K) : th_Ci l yX11_slips cX11_slips 4 (some .int) 5 82 2296 (dC, dI) (th_ty cs) (xE ad ak) (wX cs ad q v v) [.ref (q 99), .int a1, .int a2] u K := by
  refine th_ofi (by decide) (Nat.le_of_ble_eq_true rfl) (xE_ok ad ak) ?_
  intro p e s m below meth c A ls C hw hl
  have C : th_Cx p s m _ meth c cX11_slips RX11 4 (some .int) (dC, dI) (th_ty cs) (xE ad ak) A := C
  have hl : lv_has ls 4 [(0, .ref (q 99)), (1, .int a1), (2, .int a2)] := hl
  generalize (List.toArray _ : Array Value) = args at C ⊢
  have hx := C.1
  have hb := C.2.1
  unfold X_TH_slips at hf
  refine lv_aload_n hx hb dX11_slips_0 rfl (lv_at hl 0 rfl) ?_
  refine xg_2 C hw (C.2.2.2.2.1 _ hwF_X11_26) dX11_slips_1 ?_
  refine lv_aload_n hx hb dX11_slips_4 rfl (lv_at hl 0 rfl) ?_
  refine xg_9 C hw (C.2.2.2.2.1 _ hwF_X11_69) dX11_slips_5 ?_
  refine lv_iload_n hx hb dX11_slips_8 rfl (lv_at hl 1 rfl) ?_
  refine lv_iload_n hx hb dX11_slips_9 rfl (lv_at hl 2 rfl) ?_
  refine th_callVq (As := [.ref (v 399), .int a1, .int a2]) (rest := []) C lkX11_144 (X_BD_feelOf_c hf) hw (xRc_BD C hw) rfl rfl ⟨Nat.le_of_ble_eq_true rfl, Nat.le_of_ble_eq_true rfl⟩ hl.1 (Nat.le_of_ble_eq_true rfl) ⟨by simp only [th_rm]; omega, by simp only [th_rm]; omega⟩ dX11_slips_10 (fun r_2 u_1 H locs hf hw => ?_)
  refine th_astore_n (r := r_2) (lv' := [(3, va_rf r_2), (0, .ref (q 99)), (1, .int a1), (2, .int a2)]) hx hb dX11_slips_13 rfl hl (by decide) rfl (fun ls hl => ?_)
  refine th_aload_n hx hb dX11_slips_14 rfl (lv_at hl 0 rfl) ?_
  refine th_ifnonnull (tgt := 22) hx hb dX11_slips_15 (by decide) (fun hc => ?_) (fun hc => ?_)
  · replace hf := hf.1 hc
    clear hc
    refine th_aload_n hx hb dX11_slips_22 rfl (lv_at hl 0 rfl) ?_
    obtain ⟨b_3, e9, hm, hf⟩ := hf
    refine W.eq (g2 := F0 m 23 ls [.ref b_3]) (congrArg (fun z9 => F0 m 23 ls [va_rf z9]) e9) ?_
    clear e9
    refine xdgn_Feel_slips C hw hm (va_Nw.use rfl (xN C hwG_X11_161)) dX11_slips_23 ?_
    exact X_TH_slips_26_w C (xdI u_1 2 b_3) u_1 _ _ _ hf hw (lv_sub hl [] rfl) _ _ (by omega) (by omega)
  · replace hf := hf.2 hc
    clear hc
    refine lv_iconst (v := (-1 : Int32)) hx hb dX11_slips_18 (by decide) ?_
    refine lv_goto (tgt := 26) hx hb dX11_slips_19 (by decide) ?_
    exact X_TH_slips_26_w C (-1 : Int32) u_1 _ _ _ hf hw (lv_sub hl [] rfl) _ _ (by omega) (by omega)
/-! X_TH_tellings -/
theorem dX11_tellings_0 : decode cX11_tellings 0 = .ok (.ldc2_w 187, 3) := by decide +kernel
theorem dX11_tellings_3 : decode cX11_tellings 3 = .ok (.lstore_n 1, 1) := by decide +kernel
theorem dX11_tellings_4 : decode cX11_tellings 4 = .ok (.aload_n 0, 1) := by decide +kernel
theorem dX11_tellings_5 : decode cX11_tellings 5 = .ok (.getfield 10, 3) := by decide +kernel
theorem dX11_tellings_8 : decode cX11_tellings 8 = .ok (.getfield 91, 3) := by decide +kernel
theorem dX11_tellings_11 : decode cX11_tellings 11 = .ok (.iconst 2, 1) := by decide +kernel
theorem dX11_tellings_12 : decode cX11_tellings 12 = .ok (.aload_n 0, 1) := by decide +kernel
theorem dX11_tellings_13 : decode cX11_tellings 13 = .ok (.getfield 69, 3) := by decide +kernel
theorem dX11_tellings_16 : decode cX11_tellings 16 = .ok (.getfield 126, 3) := by decide +kernel
theorem dX11_tellings_19 : decode cX11_tellings 19 = .ok (.imul, 1) := by decide +kernel
theorem dX11_tellings_20 : decode cX11_tellings 20 = .ok (.if_icmp .ne 29, 3) := by decide +kernel
theorem dX11_tellings_23 : decode cX11_tellings 23 = .ok (.aload_n 0, 1) := by decide +kernel
theorem dX11_tellings_24 : decode cX11_tellings 24 = .ok (.getfield 33, 3) := by decide +kernel
theorem dX11_tellings_27 : decode cX11_tellings 27 = .ok (.aload_n 0, 1) := by decide +kernel
theorem dX11_tellings_28 : decode cX11_tellings 28 = .ok (.getfield 10, 3) := by decide +kernel
theorem dX11_tellings_31 : decode cX11_tellings 31 = .ok (.aload_n 0, 1) := by decide +kernel
theorem dX11_tellings_32 : decode cX11_tellings 32 = .ok (.getfield 69, 3) := by decide +kernel
theorem dX11_tellings_35 : decode cX11_tellings 35 = .ok (.getfield 126, 3) := by decide +kernel
theorem dX11_tellings_38 : decode cX11_tellings 38 = .ok (.aload_n 0, 1) := by decide +kernel
theorem dX11_tellings_39 : decode cX11_tellings 39 = .ok (.getfield 69, 3) := by decide +kernel
theorem dX11_tellings_42 : decode cX11_tellings 42 = .ok (.getfield 189, 3) := by decide +kernel
theorem dX11_tellings_45 : decode cX11_tellings 45 = .ok (.invokevirtual 192, 3) := by decide +kernel
theorem dX11_tellings_48 : decode cX11_tellings 48 = .ok (.lstore_n 1, 1) := by decide +kernel
theorem dX11_tellings_49 : decode cX11_tellings 49 = .ok (.aload_n 0, 1) := by decide +kernel
theorem dX11_tellings_50 : decode cX11_tellings 50 = .ok (.getfield 10, 3) := by decide +kernel
theorem dX11_tellings_53 : decode cX11_tellings 53 = .ok (.invokevirtual 110, 3) := by decide +kernel
theorem dX11_tellings_56 : decode cX11_tellings 56 = .ok (.lload_n 1, 1) := by decide +kernel
theorem dX11_tellings_57 : decode cX11_tellings 57 = .ok (.lreturn, 1) := by decide +kernel
def X_TH_tellings_49 (K : Int64 → xs_St → Prop) (x1 : Int64) (u : xs_St) : Prop :=
  X_TP_clear u (fun u_1 => K x1 u_1)
set_option maxHeartbeats 4000000 in
set_option maxRecDepth 100000 in
theorem X_TH_tellings_49_w {K : Int64 → xs_St → Prop} (C : th_Cx p s m args meth c cX11_tellings RX11 3 (some .long) (dC, dI) (th_ty cs) (xE ad ak) A) (x1 : Int64) (v : Nat → Nat) (u : xs_St) (H : Heap) (locs : List Loc) (ls : Array Slot) (hf : X_TH_tellings_49 K x1 u) (hw : th_wI (dC, dI) (wX cs ad q v v) A s.heap u H locs) (hl : lv_has ls 3 [(0, .ref (q 99)), (1, .long x1)]) : W p l e (th_rm 5 0 0) s m args below meth c H locs 0 0 (MQ below (va_Ql (fun r9 a9 => K r9 a9.2) (th_Post (dC, dI) (wXs cs ad q) A) A) args s 0 0 A) (F0 m 49 ls []) := by
  have hx := C.1
  have hb := C.2.1
  unfold X_TH_tellings_49 at hf
  refine lv_aload_n hx hb dX11_tellings_49 rfl (lv_at hl 0 rfl) ?_
  refine xg_0 C hw (C.2.2.2.2.1 _ hwF_X11_10) dX11_tellings_50 ?_
  refine th_callVv (As := []) (rest := []) C lkX11_110 (X_TP_clear_c hf) hw (xRc_TP C hw) rfl rfl ⟨Nat.le_of_ble_eq_true rfl, Nat.le_of_ble_eq_true rfl⟩ hl.1 (Nat.le_of_ble_eq_true rfl) ⟨Nat.le_of_ble_eq_true rfl, Nat.le_of_ble_eq_true rfl⟩ dX11_tellings_53 (fun u_1 H locs hf hw => ?_)
  refine lv_lload_n hx hb dX11_tellings_56 rfl (lv_at hl 1 rfl) ?_
  exact th_lret (K := (fun r9 a9 => K r9 a9.2)) (w := wXs cs ad q) (u := (v, u_1)) C hw hf dX11_tellings_57
def X_TH_tellings (u : xs_St) (K : Int64 → xs_St → Prop) : Prop :=
  ((¬ (xi u 101) = ((2 : Int32) * (xi u 300)) → X_TH_tellings_49 K (-1 : Int64) u) ∧ ((xi u 101) = ((2 : Int32) * (xi u 300)) → X_US_unsmear (xi u 300) (xi u 303) u (fun r_2 u_1 => X_TH_tellings_49 K r_2 u_1)))
set_option maxHeartbeats 4000000 in
set_option maxRecDepth 100000 in
theorem X_TH_tellings_c {l : Launch} {dC : Nat → ClassId} {dI : Nat → Nat → Nat} {cs : Nat → ClassId} {ad ak : Nat → Nat} {q v : Nat → Nat} {u : xs_St} {K : Int64 → xs_St → Prop} (hf : X_TH_tellings u K) : th_Cl l yX11_tellings cX11_tellings 3 (some .long) 5 0 0 (dC, dI) (th_ty cs) (xE ad ak) (wXs cs ad q) [.ref (q 99)] (v, u) (fun r9 a9 => K r9 a9.2) := by
  refine th_ofl (by decide) (Nat.le_of_ble_eq_true rfl) (xE_ok ad ak) ?_
  intro p e s m below meth c A ls C hw hl
  have C : th_Cx p s m _ meth c cX11_tellings RX11 3 (some .long) (dC, dI) (th_ty cs) (xE ad ak) A := C
  have hl : lv_has ls 3 [(0, .ref (q 99))] := hl
  generalize (List.toArray _ : Array Value) = args at C ⊢
  have hx := C.1
  have hb := C.2.1
  unfold X_TH_tellings at hf
  refine lv_ldc2 hx hb C.2.2.2.1 (C.2.2.2.2.1 _ hwK_X11_187) dX11_tellings_0 ?_
  refine lv_lstore_n (lv' := [(1, .long (-1 : Int64)), (0, .ref (q 99))]) hx hb dX11_tellings_3 rfl hl (by decide) rfl (fun ls hl => ?_)
  refine lv_aload_n hx hb dX11_tellings_4 rfl (lv_at hl 1 rfl) ?_
  refine xg_0 C hw (C.2.2.2.2.1 _ hwF_X11_10) dX11_tellings_5 ?_
  refine xgn_101 C hw (va_Nw.use rfl (xN C hwG_X11_91)) dX11_tellings_8 ?_
  refine lv_iconst (v := (2 : Int32)) hx hb dX11_tellings_11 (by decide) ?_
  refine lv_aload_n hx hb dX11_tellings_12 rfl (lv_at hl 1 rfl) ?_
  refine xg_9 C hw (C.2.2.2.2.1 _ hwF_X11_69) dX11_tellings_13 ?_
  refine xgn_300 C hw (va_Nw.use rfl (xN C hwG_X11_126)) dX11_tellings_16 ?_
  refine lv_imul hx hb dX11_tellings_19 ?_
  refine lv_icmp_ne (tgt := 49) hx hb dX11_tellings_20 (by decide) (fun hc => ?_) (fun hc => ?_)
  · replace hf := hf.1 hc
    clear hc
    exact X_TH_tellings_49_w C (-1 : Int64) v u _ _ _ hf hw (lv_sub hl [1, 0] rfl)
  · replace hf := hf.2 hc
    clear hc
    refine lv_aload_n hx hb dX11_tellings_23 rfl (lv_at hl 1 rfl) ?_
    refine xg_3 C hw (C.2.2.2.2.1 _ hwF_X11_33) dX11_tellings_24 ?_
    refine lv_aload_n hx hb dX11_tellings_27 rfl (lv_at hl 1 rfl) ?_
    refine xg_0 C hw (C.2.2.2.2.1 _ hwF_X11_10) dX11_tellings_28 ?_
    refine lv_aload_n hx hb dX11_tellings_31 rfl (lv_at hl 1 rfl) ?_
    refine xg_9 C hw (C.2.2.2.2.1 _ hwF_X11_69) dX11_tellings_32 ?_
    refine xgn_300 C hw (va_Nw.use rfl (xN C hwG_X11_126)) dX11_tellings_35 ?_
    refine lv_aload_n hx hb dX11_tellings_38 rfl (lv_at hl 1 rfl) ?_
    refine xg_9 C hw (C.2.2.2.2.1 _ hwF_X11_69) dX11_tellings_39 ?_
    refine xgn_303 C hw (va_Nw.use rfl (xN C hwG_X11_189)) dX11_tellings_42 ?_
    refine th_callVl (As := [.ref (q 199), .int (xi u 300), .int (xi u 303)]) (rest := []) (w := wXs cs ad q) (u := (v, u)) C lkX11_192 (X_US_unsmear_c hf) (show th_wI (dC, dI) (wXs cs ad q) A s.heap (v, u) _ _ from hw) (xRc_US C hw) rfl rfl ⟨Nat.le_of_ble_eq_true rfl, Nat.le_of_ble_eq_true rfl⟩ hl.1 (Nat.le_of_ble_eq_true rfl) ⟨Nat.le_of_ble_eq_true rfl, Nat.le_of_ble_eq_true rfl⟩ dX11_tellings_45 (fun r_2 a9 H locs hf hw => ?_)
    obtain ⟨v_3, u_1⟩ := a9
    have hw : th_wI (dC, dI) (wX cs ad q v_3 v_3) A s.heap u_1 _ _ := hw
    refine lv_lstore_n (lv' := [(1, .long r_2), (0, .ref (q 99))]) hx hb dX11_tellings_48 rfl hl (by decide) rfl (fun ls hl => ?_)
    exact X_TH_tellings_49_w C r_2 v_3 u_1 _ _ _ hf hw (lv_sub hl [1, 0] rfl)
end

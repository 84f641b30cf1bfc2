section
variable {p : Program} {l : Launch} {e : Env} {s : State} {m : MethodId} {args : Array Value} {below : List Frame} {meth : Method} {c : Code} {dC : Nat → ClassId} {dI : Nat → Nat → Nat} {cs : Nat → ClassId} {ad : Nat → Nat} {q v : Nat → Nat} {A : Nat → Prop}
/-! X_TH_tellings -/
theorem dX11_tellings_0 : decode cX11_tellings 0 = .ok (.ldc2_w 187, 3) := by decide +kernel
theorem dX11_tellings_3 : decode cX11_tellings 3 = .ok (.lstore_n 1, 1) := by decide +kernel
theorem dX11_tellings_4 : decode cX11_tellings 4 = .ok (.aload_n 0, 1) := by decide +kernel
theorem dX11_tellings_5 : decode cX11_tellings 5 = .ok (.getfield 10, 3) := by decide +kernel
theorem dX11_tellings_8 : decode cX11_tellings 8 = .ok (.getfield 91, 3) := by decide +kernel
theorem dX11_tellings_11 : decode cX11_tellings 11 = .ok (.iconst 2, 1) := by decide +kernel
theorem dX11_tellings_12 : decode cX11_tellings 12 = .ok (.aload_n 0, 1) := by decide +kernel
theorem dX11_tellings_13 : decode cX11_tellings 13 = .ok (.getfield 69, 3) := by decide +kernel
theorem dX11_tellings_16 : decode cX11_tellings 16 = .ok (.getfield 126, 3) := by decide +kernel
theorem dX11_tellings_19 : decode cX11_tellings 19 = .ok (.imul, 1) := by decide +kernel
theorem dX11_tellings_20 : decode cX11_tellings 20 = .ok (.if_icmp .ne 29, 3) := by decide +kernel
theorem dX11_tellings_23 : decode cX11_tellings 23 = .ok (.aload_n 0, 1) := by decide +kernel
theorem dX11_tellings_24 : decode cX11_tellings 24 = .ok (.getfield 33, 3) := by decide +kernel
theorem dX11_tellings_27 : decode cX11_tellings 27 = .ok (.aload_n 0, 1) := by decide +kernel
theorem dX11_tellings_28 : decode cX11_tellings 28 = .ok (.getfield 10, 3) := by decide +kernel
theorem dX11_tellings_31 : decode cX11_tellings 31 = .ok (.aload_n 0, 1) := by decide +kernel
theorem dX11_tellings_32 : decode cX11_tellings 32 = .ok (.getfield 69, 3) := by decide +kernel
theorem dX11_tellings_35 : decode cX11_tellings 35 = .ok (.getfield 126, 3) := by decide +kernel
theorem dX11_tellings_38 : decode cX11_tellings 38 = .ok (.aload_n 0, 1) := by decide +kernel
theorem dX11_tellings_39 : decode cX11_tellings 39 = .ok (.getfield 69, 3) := by decide +kernel
theorem dX11_tellings_42 : decode cX11_tellings 42 = .ok (.getfield 189, 3) := by decide +kernel
theorem dX11_tellings_45 : decode cX11_tellings 45 = .ok (.invokevirtual 192, 3) := by decide +kernel
theorem dX11_tellings_48 : decode cX11_tellings 48 = .ok (.lstore_n 1, 1) := by decide +kernel
theorem dX11_tellings_49 : decode cX11_tellings 49 = .ok (.aload_n 0, 1) := by decide +kernel
theorem dX11_tellings_50 : decode cX11_tellings 50 = .ok (.getfield 10, 3) := by decide +kernel
theorem dX11_tellings_53 : decode cX11_tellings 53 = .ok (.invokevirtual 110, 3) := by decide +kernel
theorem dX11_tellings_56 : decode cX11_tellings 56 = .ok (.lload_n 1, 1) := by decide +kernel
theorem dX11_tellings_57 : decode cX11_tellings 57 = .ok (.lreturn, 1) := by decide +kernel
def X_TH_tellings_49 (K : Int64 → xs_St → Prop) (x1 : Int64) (u : xs_St) : Prop :=
  X_TP_clear u (fun u_1 => K x1 u_1)
set_option maxHeartbeats 4000000 in
set_option maxRecDepth 100000 in
theorem X_TH_tellings_49_w {K : Int64 → xs_St → Prop} (C : th_Cx p s m args meth c cX11_tellings RX11 3 (some .long) (dC, dI) (th_ty cs) (xE ad) A) (x1 : Int64) (v : Nat → Nat) (u : xs_St) (H : Heap) (locs : List Loc) (ls : Array Slot) (hf : X_TH_tellings_49 K x1 u) (hw : th_wI (dC, dI) (wX cs ad q v v) A s.heap u H locs) (hl : lv_has ls 3 [(0, .ref (q 99)), (1, .long x1)]) : W p l e (th_rm 5 0 0) s m args below meth c H locs 0 0 (MQ below (va_Ql (fun r9 a9 => K r9 a9.2) (th_Post (dC, dI) (wXs cs ad q) A) A) args s 0 0 A) (F0 m 49 ls []) := by
  have hx := C.1
  have hb := C.2.1
  unfold X_TH_tellings_49 at hf
  refine lv_aload_n hx hb dX11_tellings_49 rfl (lv_at hl 0 rfl) ?_
  refine xg_0 C hw (C.2.2.2.2.1 _ hwF_X11_10) dX11_tellings_50 ?_
  refine th_callVv (As := []) (rest := []) C lkX11_110 (X_TP_clear_c hf) hw (xRc_TP C hw) rfl rfl ⟨Nat.le_of_ble_eq_true rfl, Nat.le_of_ble_eq_true rfl⟩ hl.1 (Nat.le_of_ble_eq_true rfl) ⟨Nat.le_of_ble_eq_true rfl, Nat.le_of_ble_eq_true rfl⟩ dX11_tellings_53 (fun u_1 H locs hf hw => ?_)
  refine lv_lload_n hx hb dX11_tellings_56 rfl (lv_at hl 1 rfl) ?_
  exact th_lret (K := (fun r9 a9 => K r9 a9.2)) (w := wXs cs ad q) (u := (v, u_1)) C hw hf dX11_tellings_57
def X_TH_tellings (u : xs_St) (K : Int64 → xs_St → Prop) : Prop :=
  ((¬ (xi u 101) = ((2 : Int32) * (xi u 300)) → X_TH_tellings_49 K (-1 : Int64) u) ∧ ((xi u 101) = ((2 : Int32) * (xi u 300)) → X_US_unsmear (xi u 300) (xi u 303) u (fun r_2 u_1 => X_TH_tellings_49 K r_2 u_1)))
set_option maxHeartbeats 4000000 in
set_option maxRecDepth 100000 in
theorem X_TH_tellings_c {l : Launch} {dC : Nat → ClassId} {dI : Nat → Nat → Nat} {cs : Nat → ClassId} {ad : Nat → Nat} {q v : Nat → Nat} {u : xs_St} {K : Int64 → xs_St → Prop} (hf : X_TH_tellings u K) : th_Cl l yX11_tellings cX11_tellings 3 (some .long) 5 0 0 (dC, dI) (th_ty cs) (xE ad) (wXs cs ad q) [.ref (q 99)] (v, u) (fun r9 a9 => K r9 a9.2) := by
  refine th_ofl (by decide) (Nat.le_of_ble_eq_true rfl) (xE_ok ad) ?_
  intro p e s m below meth c A ls C hw hl
  have C : th_Cx p s m _ meth c cX11_tellings RX11 3 (some .long) (dC, dI) (th_ty cs) (xE ad) A := C
  have hl : lv_has ls 3 [(0, .ref (q 99))] := hl
  generalize (List.toArray _ : Array Value) = args at C ⊢
  have hx := C.1
  have hb := C.2.1
  unfold X_TH_tellings at hf
  refine lv_ldc2 hx hb C.2.2.2.1 (C.2.2.2.2.1 _ hwK_X11_187) dX11_tellings_0 ?_
  refine lv_lstore_n (lv' := [(1, .long (-1 : Int64)), (0, .ref (q 99))]) hx hb dX11_tellings_3 rfl hl (by decide) rfl (fun ls hl => ?_)
  refine lv_aload_n hx hb dX11_tellings_4 rfl (lv_at hl 1 rfl) ?_
  refine xg_0 C hw (C.2.2.2.2.1 _ hwF_X11_10) dX11_tellings_5 ?_
  refine xgn_101 C hw (va_Nw.use rfl (xN C hwG_X11_91)) dX11_tellings_8 ?_
  refine lv_iconst (v := (2 : Int32)) hx hb dX11_tellings_11 (by decide) ?_
  refine lv_aload_n hx hb dX11_tellings_12 rfl (lv_at hl 1 rfl) ?_
  refine xg_9 C hw (C.2.2.2.2.1 _ hwF_X11_69) dX11_tellings_13 ?_
  refine xgn_300 C hw (va_Nw.use rfl (xN C hwG_X11_126)) dX11_tellings_16 ?_
  refine lv_imul hx hb dX11_tellings_19 ?_
  refine lv_icmp_ne (tgt := 49) hx hb dX11_tellings_20 (by decide) (fun hc => ?_) (fun hc => ?_)
  · replace hf := hf.1 hc
    clear hc
    exact X_TH_tellings_49_w C (-1 : Int64) v u _ _ _ hf hw (lv_sub hl [1, 0] rfl)
  · replace hf := hf.2 hc
    clear hc
    refine lv_aload_n hx hb dX11_tellings_23 rfl (lv_at hl 1 rfl) ?_
    refine xg_3 C hw (C.2.2.2.2.1 _ hwF_X11_33) dX11_tellings_24 ?_
    refine lv_aload_n hx hb dX11_tellings_27 rfl (lv_at hl 1 rfl) ?_
    refine xg_0 C hw (C.2.2.2.2.1 _ hwF_X11_10) dX11_tellings_28 ?_
    refine lv_aload_n hx hb dX11_tellings_31 rfl (lv_at hl 1 rfl) ?_
    refine xg_9 C hw (C.2.2.2.2.1 _ hwF_X11_69) dX11_tellings_32 ?_
    refine xgn_300 C hw (va_Nw.use rfl (xN C hwG_X11_126)) dX11_tellings_35 ?_
    refine lv_aload_n hx hb dX11_tellings_38 rfl (lv_at hl 1 rfl) ?_
    refine xg_9 C hw (C.2.2.2.2.1 _ hwF_X11_69) dX11_tellings_39 ?_
    refine xgn_303 C hw (va_Nw.use rfl (xN C hwG_X11_189)) dX11_tellings_42 ?_
    refine th_callVl (As := [.ref (q 199), .int (xi u 300), .int (xi u 303)]) (rest := []) (w := wXs cs ad q) (u := (v, u)) C lkX11_192 (X_US_unsmear_c hf) (show th_wI (dC, dI) (wXs cs ad q) A s.heap (v, u) _ _ from hw) (xRc_US C hw) rfl rfl ⟨Nat.le_of_ble_eq_true rfl, Nat.le_of_ble_eq_true rfl⟩ hl.1 (Nat.le_of_ble_eq_true rfl) ⟨Nat.le_of_ble_eq_true rfl, Nat.le_of_ble_eq_true rfl⟩ dX11_tellings_45 (fun r_2 a9 H locs hf hw => ?_)
    obtain ⟨v_3, u_1⟩ := a9
    have hw : th_wI (dC, dI) (wX cs ad q v_3 v_3) A s.heap u_1 _ _ := hw
    refine lv_lstore_n (lv' := [(1, .long r_2), (0, .ref (q 99))]) hx hb dX11_tellings_48 rfl hl (by decide) rfl (fun ls hl => ?_)
    exact X_TH_tellings_49_w C r_2 v_3 u_1 _ _ _ hf hw (lv_sub hl [1, 0] rfl)
end

section
variable {p : Program} {l : Launch} {e : Env} {s : State} {m : MethodId} {args : Array Value} {below : List Frame} {meth : Method} {c : Code} {dC : Nat → ClassId} {dI : Nat → Nat → Nat} {cs : Nat → ClassId} {q : Nat → Nat} {A : Nat → Prop}
/-! X12_felt -/
theorem dX12_felt_0 : decode cX12_felt 0 = .ok (.aload_n 0, 1) := by decide +kernel
theorem dX12_felt_1 : decode cX12_felt 1 = .ok (.aload_n 0, 1) := by decide +kernel
theorem dX12_felt_2 : decode cX12_felt 2 = .ok (.iload_n 1, 1) := by decide +kernel
theorem dX12_felt_3 : decode cX12_felt 3 = .ok (.iload_n 2, 1) := by decide +kernel
theorem dX12_felt_4 : decode cX12_felt 4 = .ok (.iload_n 3, 1) := by decide +kernel
theorem dX12_felt_5 : decode cX12_felt 5 = .ok (.invokevirtual 340, 3) := by decide +kernel
theorem dX12_felt_8 : decode cX12_felt 8 = .ok (.ifCond .ne 7, 3) := by decide +kernel
theorem dX12_felt_11 : decode cX12_felt 11 = .ok (.iconst 1, 1) := by decide +kernel
theorem dX12_felt_12 : decode cX12_felt 12 = .ok (.goto 4, 3) := by decide +kernel
theorem dX12_felt_15 : decode cX12_felt 15 = .ok (.iconst 0, 1) := by decide +kernel
theorem dX12_felt_16 : decode cX12_felt 16 = .ok (.invokevirtual 343, 3) := by decide +kernel
theorem dX12_felt_19 : decode cX12_felt 19 = .ok (.ifCond .eq 5, 3) := by decide +kernel
theorem dX12_felt_22 : decode cX12_felt 22 = .ok (.iconst 0, 1) := by decide +kernel
theorem dX12_felt_23 : decode cX12_felt 23 = .ok (.ireturn, 1) := by decide +kernel
theorem dX12_felt_24 : decode cX12_felt 24 = .ok (.aload_n 0, 1) := by decide +kernel
theorem dX12_felt_25 : decode cX12_felt 25 = .ok (.getfield 96, 3) := by decide +kernel
theorem dX12_felt_28 : decode cX12_felt 28 = .ok (.bipush 48, 2) := by decide +kernel
theorem dX12_felt_30 : decode cX12_felt 30 = .ok (.iload_n 2, 1) := by decide +kernel
theorem dX12_felt_31 : decode cX12_felt 31 = .ok (.iconst 1, 1) := by decide +kernel
theorem dX12_felt_32 : decode cX12_felt 32 = .ok (.iadd, 1) := by decide +kernel
theorem dX12_felt_33 : decode cX12_felt 33 = .ok (.imul, 1) := by decide +kernel
theorem dX12_felt_34 : decode cX12_felt 34 = .ok (.iload_n 1, 1) := by decide +kernel
theorem dX12_felt_35 : decode cX12_felt 35 = .ok (.iadd, 1) := by decide +kernel
theorem dX12_felt_36 : decode cX12_felt 36 = .ok (.iaload, 1) := by decide +kernel
theorem dX12_felt_37 : decode cX12_felt 37 = .ok (.ireturn, 1) := by decide +kernel
def M_felt_16 (K : Int32 → th_St → Prop) (x1 : Int32) (x2 : Int32) (z0 : Int32) (u : th_St) : Prop :=
  M_throwsIf z0 u (fun r_2 u_1 => ((r_2 = 0 → (vp_in (((48 : Int32) * (x2 + (1 : Int32))) + x1) 1968 ∧ ∀ y_3 : Int32, y_3 = u_1.2.2.1 38 ((((48 : Int32) * (x2 + (1 : Int32))) + x1)).toNatClampNeg → K y_3 u_1)) ∧ (¬ r_2 = 0 → K (0 : Int32) u_1)))
set_option maxHeartbeats 4000000 in
set_option maxRecDepth 100000 in
theorem M_felt_16_w {K : Int32 → th_St → Prop} (C : th_Cx p s m args meth c cX12_felt RX12 4 (some .int) (dC, dI) (th_ty cs) th_E0 A) (x1 : Int32) (x2 : Int32) (z0 : Int32) (u : th_St) (H : Heap) (locs : List Loc) (ls : Array Slot) (hf : M_felt_16 K x1 x2 z0 u) (hw : th_wI (dC, dI) (wM cs q) A s.heap u H locs) (hl : lv_has ls 4 [(0, .ref (q 0)), (1, .int x1), (2, .int x2)]) : W p l e (th_rm 4 0 0) s m args below meth c H locs 0 0 (MQ below (va_Qi K (th_Post (dC, dI) (wM cs q) A) A) args s 0 0 A) (F0 m 16 ls [.int z0, .ref (q 0)]) := by
  have hx := C.1
  have hb := C.2.1
  unfold M_felt_16 at hf
  refine th_callVi (As := [.int z0]) (rest := []) C lkX12_343 (M_throwsIf_c hf) hw (mRc C hw) rfl rfl ⟨Nat.le_of_ble_eq_true rfl, Nat.le_of_ble_eq_true rfl⟩ hl.1 (Nat.le_of_ble_eq_true rfl) ⟨Nat.le_refl _, Nat.le_refl _⟩ dX12_felt_16 (fun r_2 u_1 H locs hf hw => ?_)
  refine lv_if_eq (tgt := 24) hx hb dX12_felt_19 (by decide) (fun hc => ?_) (fun hc => ?_)
  · replace hf := hf.1 hc
    clear hc
    refine lv_aload_n hx hb dX12_felt_24 rfl (lv_at hl 0 rfl) ?_
    refine mg_38 C hw dX12_felt_25 ?_
    refine lv_bipush (v := (48 : Int32)) hx hb dX12_felt_28 (by decide) ?_
    refine lv_iload_n hx hb dX12_felt_30 rfl (lv_at hl 2 rfl) ?_
    refine lv_iconst (v := (1 : Int32)) hx hb dX12_felt_31 (by decide) ?_
    refine lv_iadd hx hb dX12_felt_32 ?_
    refine lv_imul hx hb dX12_felt_33 ?_
    refine lv_iload_n hx hb dX12_felt_34 rfl (lv_at hl 1 rfl) ?_
    refine lv_iadd hx hb dX12_felt_35 ?_
    refine ml_38 C hw hf.1 dX12_felt_36 (fun y_3 e9 => ?_)
    replace hf := hf.2 y_3 e9
    clear e9
    exact th_iret C hw hf dX12_felt_37
  · replace hf := hf.2 hc
    clear hc
    refine lv_iconst (v := (0 : Int32)) hx hb dX12_felt_22 (by decide) ?_
    exact th_iret C hw hf dX12_felt_23
def M_felt (a1 : Int32) (a2 : Int32) (a3 : Int32) (u : th_St) (K : Int32 → th_St → Prop) : Prop :=
  M_isThere a1 a2 a3 u (fun r_2 u_1 => ((¬ r_2 = 0 → M_felt_16 K a1 a2 (0 : Int32) u_1) ∧ (r_2 = 0 → M_felt_16 K a1 a2 (1 : Int32) u_1)))
set_option maxHeartbeats 4000000 in
set_option maxRecDepth 100000 in
theorem M_felt_c {l : Launch} {dC : Nat → ClassId} {dI : Nat → Nat → Nat} {cs : Nat → ClassId} {q : Nat → Nat} {a1 : Int32} {a2 : Int32} {a3 : Int32} {u : th_St} {K : Int32 → th_St → Prop} (hf : M_felt a1 a2 a3 u K) : th_Ci l yX12_felt cX12_felt 4 (some .int) 4 0 0 (dC, dI) (th_ty cs) th_E0 (wM cs q) [.ref (q 0), .int a1, .int a2, .int a3] u K := by
  refine th_ofi (by decide) (Nat.le_of_ble_eq_true rfl) th_E0_ok ?_
  intro p e s m below meth c A ls C hw hl
  have C : th_Cx p s m _ meth c cX12_felt RX12 4 (some .int) (dC, dI) (th_ty cs) th_E0 A := C
  have hl : lv_has ls 4 [(0, .ref (q 0)), (1, .int a1), (2, .int a2), (3, .int a3)] := hl
  generalize (List.toArray _ : Array Value) = args at C ⊢
  have hx := C.1
  have hb := C.2.1
  unfold M_felt at hf
  refine lv_aload_n hx hb dX12_felt_0 rfl (lv_at hl 0 rfl) ?_
  refine lv_aload_n hx hb dX12_felt_1 rfl (lv_at hl 0 rfl) ?_
  refine lv_iload_n hx hb dX12_felt_2 rfl (lv_at hl 1 rfl) ?_
  refine lv_iload_n hx hb dX12_felt_3 rfl (lv_at hl 2 rfl) ?_
  refine lv_iload_n hx hb dX12_felt_4 rfl (lv_at hl 3 rfl) ?_
  refine th_callVi (As := [.int a1, .int a2, .int a3]) (rest := [.ref (q 0)]) C lkX12_340 (M_isThere_c hf) hw (mRc C hw) rfl rfl ⟨Nat.le_of_ble_eq_true rfl, Nat.le_of_ble_eq_true rfl⟩ hl.1 (Nat.le_of_ble_eq_true rfl) ⟨Nat.le_refl _, Nat.le_refl _⟩ dX12_felt_5 (fun r_2 u_1 H locs hf hw => ?_)
  refine lv_if_ne (tgt := 15) hx hb dX12_felt_8 (by decide) (fun hc => ?_) (fun hc => ?_)
  · replace hf := hf.1 hc
    clear hc
    refine lv_iconst (v := (0 : Int32)) hx hb dX12_felt_15 (by decide) ?_
    exact M_felt_16_w C a1 a2 (0 : Int32) u_1 _ _ _ hf hw (lv_sub hl [0, 1, 2] rfl)
  · replace hf := hf.2 hc
    clear hc
    refine lv_iconst (v := (1 : Int32)) hx hb dX12_felt_11 (by decide) ?_
    refine lv_goto (tgt := 16) hx hb dX12_felt_12 (by decide) ?_
    exact M_felt_16_w C a1 a2 (1 : Int32) u_1 _ _ _ hf hw (lv_sub hl [0, 1, 2] rfl)
/-! X12_slips -/
theorem dX12_slips_0 : decode cX12_slips 0 = .ok (.aload_n 0, 1) := by decide +kernel
theorem dX12_slips_1 : decode cX12_slips 1 = .ok (.iconst 0, 1) := by decide +kernel
theorem dX12_slips_2 : decode cX12_slips 2 = .ok (.putfield 1, 3) := by decide +kernel
theorem dX12_slips_5 : decode cX12_slips 5 = .ok (.aload_n 0, 1) := by decide +kernel
theorem dX12_slips_6 : decode cX12_slips 6 = .ok (.iconst 0, 1) := by decide +kernel
theorem dX12_slips_7 : decode cX12_slips 7 = .ok (.iload_n 1, 1) := by decide +kernel
theorem dX12_slips_8 : decode cX12_slips 8 = .ok (.iload_n 2, 1) := by decide +kernel
theorem dX12_slips_9 : decode cX12_slips 9 = .ok (.invokevirtual 340, 3) := by decide +kernel
theorem dX12_slips_12 : decode cX12_slips 12 = .ok (.ifCond .eq 12, 3) := by decide +kernel
theorem dX12_slips_15 : decode cX12_slips 15 = .ok (.aload_n 0, 1) := by decide +kernel
theorem dX12_slips_16 : decode cX12_slips 16 = .ok (.getfield 99, 3) := by decide +kernel
theorem dX12_slips_19 : decode cX12_slips 19 = .ok (.iload_n 1, 1) := by decide +kernel
theorem dX12_slips_20 : decode cX12_slips 20 = .ok (.iaload, 1) := by decide +kernel
theorem dX12_slips_21 : decode cX12_slips 21 = .ok (.goto 4, 3) := by decide +kernel
theorem dX12_slips_24 : decode cX12_slips 24 = .ok (.iconst (-1), 1) := by decide +kernel
theorem dX12_slips_25 : decode cX12_slips 25 = .ok (.ireturn, 1) := by decide +kernel
def M_slips_25 (K : Int32 → th_St → Prop) (z0 : Int32) (u : th_St) : Prop :=
  K z0 u
set_option maxHeartbeats 4000000 in
set_option maxRecDepth 100000 in
theorem M_slips_25_w {K : Int32 → th_St → Prop} (C : th_Cx p s m args meth c cX12_slips RX12 3 (some .int) (dC, dI) (th_ty cs) th_E0 A) (z0 : Int32) (u : th_St) (H : Heap) (locs : List Loc) (ls : Array Slot) (hf : M_slips_25 K z0 u) (hw : th_wI (dC, dI) (wM cs q) A s.heap u H locs) (hl : lv_has ls 3 []) : W p l e (th_rm 4 0 0) s m args below meth c H locs 0 0 (MQ below (va_Qi K (th_Post (dC, dI) (wM cs q) A) A) args s 0 0 A) (F0 m 25 ls [.int z0]) := by
  have hx := C.1
  have hb := C.2.1
  unfold M_slips_25 at hf
  exact th_iret C hw hf dX12_slips_25
def M_slips (a1 : Int32) (a2 : Int32) (u : th_St) (K : Int32 → th_St → Prop) : Prop :=
  ∀ u_1 : th_St, u_1 = th_si u 0 (0 : Int32) → M_isThere (0 : Int32) a1 a2 u_1 (fun r_3 u_2 => ((r_3 = 0 → M_slips_25 K (-1 : Int32) u_2) ∧ (¬ r_3 = 0 → (vp_in a1 40 ∧ ∀ y_4 : Int32, y_4 = u_2.2.2.1 39 (a1).toNatClampNeg → M_slips_25 K y_4 u_2))))
set_option maxHeartbeats 4000000 in
set_option maxRecDepth 100000 in
theorem M_slips_c {l : Launch} {dC : Nat → ClassId} {dI : Nat → Nat → Nat} {cs : Nat → ClassId} {q : Nat → Nat} {a1 : Int32} {a2 : Int32} {u : th_St} {K : Int32 → th_St → Prop} (hf : M_slips a1 a2 u K) : th_Ci l yX12_slips cX12_slips 3 (some .int) 4 0 0 (dC, dI) (th_ty cs) th_E0 (wM cs q) [.ref (q 0), .int a1, .int a2] u K := by
  refine th_ofi (by decide) (Nat.le_of_ble_eq_true rfl) th_E0_ok ?_
  intro p e s m below meth c A ls C hw hl
  have C : th_Cx p s m _ meth c cX12_slips RX12 3 (some .int) (dC, dI) (th_ty cs) th_E0 A := C
  have hl : lv_has ls 3 [(0, .ref (q 0)), (1, .int a1), (2, .int a2)] := hl
  generalize (List.toArray _ : Array Value) = args at C ⊢
  have hx := C.1
  have hb := C.2.1
  unfold M_slips at hf
  refine lv_aload_n hx hb dX12_slips_0 rfl (lv_at hl 0 rfl) ?_
  refine lv_iconst (v := (0 : Int32)) hx hb dX12_slips_1 (by decide) ?_
  refine mp_0 C hw dX12_slips_2 (fun u_1 e9 H locs hw => ?_)
  replace hf := hf u_1 e9
  clear e9
  refine lv_aload_n hx hb dX12_slips_5 rfl (lv_at hl 0 rfl) ?_
  refine lv_iconst (v := (0 : Int32)) hx hb dX12_slips_6 (by decide) ?_
  refine lv_iload_n hx hb dX12_slips_7 rfl (lv_at hl 1 rfl) ?_
  refine lv_iload_n hx hb dX12_slips_8 rfl (lv_at hl 2 rfl) ?_
  refine th_callVi (As := [.int (0 : Int32), .int a1, .int a2]) (rest := []) C lkX12_340 (M_isThere_c hf) hw (mRc C hw) rfl rfl ⟨Nat.le_of_ble_eq_true rfl, Nat.le_of_ble_eq_true rfl⟩ hl.1 (Nat.le_of_ble_eq_true rfl) ⟨Nat.le_refl _, Nat.le_refl _⟩ dX12_slips_9 (fun r_3 u_2 H locs hf hw => ?_)
  refine lv_if_eq (tgt := 24) hx hb dX12_slips_12 (by decide) (fun hc => ?_) (fun hc => ?_)
  · replace hf := hf.1 hc
    clear hc
    refine lv_iconst (v := (-1 : Int32)) hx hb dX12_slips_24 (by decide) ?_
    exact M_slips_25_w C (-1 : Int32) u_2 _ _ _ hf hw (lv_sub hl [] rfl)
  · replace hf := hf.2 hc
    clear hc
    refine lv_aload_n hx hb dX12_slips_15 rfl (lv_at hl 0 rfl) ?_
    refine mg_39 C hw dX12_slips_16 ?_
    refine lv_iload_n hx hb dX12_slips_19 rfl (lv_at hl 1 rfl) ?_
    refine ml_39 C hw hf.1 dX12_slips_20 (fun y_4 e9 => ?_)
    replace hf := hf.2 y_4 e9
    clear e9
    refine lv_goto (tgt := 25) hx hb dX12_slips_21 (by decide) ?_
    exact M_slips_25_w C y_4 u_2 _ _ _ hf hw (lv_sub hl [] rfl)
/-! X12_read_ -/
theorem dX12_read__0 : decode cX12_read_ 0 = .ok (.aload_n 0, 1) := by decide +kernel
theorem dX12_read__1 : decode cX12_read_ 1 = .ok (.aload_n 0, 1) := by decide +kernel
theorem dX12_read__2 : decode cX12_read_ 2 = .ok (.iload_n 1, 1) := by decide +kernel
theorem dX12_read__3 : decode cX12_read_ 3 = .ok (.iload_n 2, 1) := by decide +kernel
theorem dX12_read__4 : decode cX12_read_ 4 = .ok (.iload_n 3, 1) := by decide +kernel
theorem dX12_read__5 : decode cX12_read_ 5 = .ok (.invokevirtual 340, 3) := by decide +kernel
theorem dX12_read__8 : decode cX12_read_ 8 = .ok (.ifCond .eq 13, 3) := by decide +kernel
theorem dX12_read__11 : decode cX12_read_ 11 = .ok (.iload 4, 2) := by decide +kernel
theorem dX12_read__13 : decode cX12_read_ 13 = .ok (.iconst 0, 1) := by decide +kernel
theorem dX12_read__14 : decode cX12_read_ 14 = .ok (.iconst 1, 1) := by decide +kernel
theorem dX12_read__15 : decode cX12_read_ 15 = .ok (.invokestatic 24, 3) := by decide +kernel
theorem dX12_read__18 : decode cX12_read_ 18 = .ok (.ifCond .ne 7, 3) := by decide +kernel
theorem dX12_read__21 : decode cX12_read_ 21 = .ok (.iconst 1, 1) := by decide +kernel
theorem dX12_read__22 : decode cX12_read_ 22 = .ok (.goto 4, 3) := by decide +kernel
theorem dX12_read__25 : decode cX12_read_ 25 = .ok (.iconst 0, 1) := by decide +kernel
theorem dX12_read__26 : decode cX12_read_ 26 = .ok (.invokevirtual 343, 3) := by decide +kernel
theorem dX12_read__29 : decode cX12_read_ 29 = .ok (.ifCond .eq 5, 3) := by decide +kernel
theorem dX12_read__32 : decode cX12_read_ 32 = .ok (.iconst 0, 1) := by decide +kernel
theorem dX12_read__33 : decode cX12_read_ 33 = .ok (.ireturn, 1) := by decide +kernel
theorem dX12_read__34 : decode cX12_read_ 34 = .ok (.aload_n 0, 1) := by decide +kernel
theorem dX12_read__35 : decode cX12_read_ 35 = .ok (.iload_n 2, 1) := by decide +kernel
theorem dX12_read__36 : decode cX12_read_ 36 = .ok (.iload_n 3, 1) := by decide +kernel
theorem dX12_read__37 : decode cX12_read_ 37 = .ok (.invokevirtual 326, 3) := by decide +kernel
theorem dX12_read__40 : decode cX12_read_ 40 = .ok (.istore 5, 2) := by decide +kernel
theorem dX12_read__42 : decode cX12_read_ 42 = .ok (.iconst 0, 1) := by decide +kernel
theorem dX12_read__43 : decode cX12_read_ 43 = .ok (.istore 6, 2) := by decide +kernel
theorem dX12_read__45 : decode cX12_read_ 45 = .ok (.iload_n 1, 1) := by decide +kernel
theorem dX12_read__46 : decode cX12_read_ 46 = .ok (.iconst 1, 1) := by decide +kernel
theorem dX12_read__47 : decode cX12_read_ 47 = .ok (.isub, 1) := by decide +kernel
theorem dX12_read__48 : decode cX12_read_ 48 = .ok (.istore 7, 2) := by decide +kernel
theorem dX12_read__50 : decode cX12_read_ 50 = .ok (.iload 7, 2) := by decide +kernel
theorem dX12_read__52 : decode cX12_read_ 52 = .ok (.iload_n 1, 1) := by decide +kernel
theorem dX12_read__53 : decode cX12_read_ 53 = .ok (.iconst 1, 1) := by decide +kernel
theorem dX12_read__54 : decode cX12_read_ 54 = .ok (.iadd, 1) := by decide +kernel
theorem dX12_read__55 : decode cX12_read_ 55 = .ok (.if_icmp .gt 105, 3) := by decide +kernel
theorem dX12_read__58 : decode cX12_read_ 58 = .ok (.iload 7, 2) := by decide +kernel
theorem dX12_read__60 : decode cX12_read_ 60 = .ok (.iconst 0, 1) := by decide +kernel
theorem dX12_read__61 : decode cX12_read_ 61 = .ok (.aload_n 0, 1) := by decide +kernel
theorem dX12_read__62 : decode cX12_read_ 62 = .ok (.getfield 54, 3) := by decide +kernel
theorem dX12_read__65 : decode cX12_read_ 65 = .ok (.iconst 0, 1) := by decide +kernel
theorem dX12_read__66 : decode cX12_read_ 66 = .ok (.iaload, 1) := by decide +kernel
theorem dX12_read__67 : decode cX12_read_ 67 = .ok (.iconst 1, 1) := by decide +kernel
theorem dX12_read__68 : decode cX12_read_ 68 = .ok (.isub, 1) := by decide +kernel
theorem dX12_read__69 : decode cX12_read_ 69 = .ok (.invokestatic 24, 3) := by decide +kernel
theorem dX12_read__72 : decode cX12_read_ 72 = .ok (.ifCond .ne 6, 3) := by decide +kernel
theorem dX12_read__75 : decode cX12_read_ 75 = .ok (.goto 79, 3) := by decide +kernel
theorem dX12_read__78 : decode cX12_read_ 78 = .ok (.aload_n 0, 1) := by decide +kernel
theorem dX12_read__79 : decode cX12_read_ 79 = .ok (.getfield 60, 3) := by decide +kernel
theorem dX12_read__82 : decode cX12_read_ 82 = .ok (.iconst 0, 1) := by decide +kernel
theorem dX12_read__83 : decode cX12_read_ 83 = .ok (.iaload, 1) := by decide +kernel
theorem dX12_read__84 : decode cX12_read_ 84 = .ok (.aload_n 0, 1) := by decide +kernel
theorem dX12_read__85 : decode cX12_read_ 85 = .ok (.getfield 87, 3) := by decide +kernel
theorem dX12_read__88 : decode cX12_read_ 88 = .ok (.bipush 96, 2) := by decide +kernel
theorem dX12_read__90 : decode cX12_read_ 90 = .ok (.iload 5, 2) := by decide +kernel
theorem dX12_read__92 : decode cX12_read_ 92 = .ok (.imul, 1) := by decide +kernel
theorem dX12_read__93 : decode cX12_read_ 93 = .ok (.bipush 48, 2) := by decide +kernel
theorem dX12_read__95 : decode cX12_read_ 95 = .ok (.iadd, 1) := by decide +kernel
theorem dX12_read__96 : decode cX12_read_ 96 = .ok (.iload 7, 2) := by decide +kernel
theorem dX12_read__98 : decode cX12_read_ 98 = .ok (.iadd, 1) := by decide +kernel
theorem dX12_read__99 : decode cX12_read_ 99 = .ok (.iaload, 1) := by decide +kernel
theorem dX12_read__100 : decode cX12_read_ 100 = .ok (.imul, 1) := by decide +kernel
theorem dX12_read__101 : decode cX12_read_ 101 = .ok (.iload 4, 2) := by decide +kernel
theorem dX12_read__103 : decode cX12_read_ 103 = .ok (.ifCond .ne 27, 3) := by decide +kernel
theorem dX12_read__106 : decode cX12_read_ 106 = .ok (.aload_n 0, 1) := by decide +kernel
theorem dX12_read__107 : decode cX12_read_ 107 = .ok (.getfield 57, 3) := by decide +kernel
theorem dX12_read__110 : decode cX12_read_ 110 = .ok (.iconst 0, 1) := by decide +kernel
theorem dX12_read__111 : decode cX12_read_ 111 = .ok (.iaload, 1) := by decide +kernel
theorem dX12_read__112 : decode cX12_read_ 112 = .ok (.aload_n 0, 1) := by decide +kernel
theorem dX12_read__113 : decode cX12_read_ 113 = .ok (.getfield 96, 3) := by decide +kernel
theorem dX12_read__116 : decode cX12_read_ 116 = .ok (.bipush 48, 2) := by decide +kernel
theorem dX12_read__118 : decode cX12_read_ 118 = .ok (.iload_n 2, 1) := by decide +kernel
theorem dX12_read__119 : decode cX12_read_ 119 = .ok (.iconst 1, 1) := by decide +kernel
theorem dX12_read__120 : decode cX12_read_ 120 = .ok (.iadd, 1) := by decide +kernel
theorem dX12_read__121 : decode cX12_read_ 121 = .ok (.imul, 1) := by decide +kernel
theorem dX12_read__122 : decode cX12_read_ 122 = .ok (.iload 7, 2) := by decide +kernel
theorem dX12_read__124 : decode cX12_read_ 124 = .ok (.iadd, 1) := by decide +kernel
theorem dX12_read__125 : decode cX12_read_ 125 = .ok (.iaload, 1) := by decide +kernel
theorem dX12_read__126 : decode cX12_read_ 126 = .ok (.imul, 1) := by decide +kernel
theorem dX12_read__127 : decode cX12_read_ 127 = .ok (.goto 4, 3) := by decide +kernel
theorem dX12_read__130 : decode cX12_read_ 130 = .ok (.iconst 0, 1) := by decide +kernel
theorem dX12_read__131 : decode cX12_read_ 131 = .ok (.iadd, 1) := by decide +kernel
theorem dX12_read__132 : decode cX12_read_ 132 = .ok (.istore 8, 2) := by decide +kernel
theorem dX12_read__134 : decode cX12_read_ 134 = .ok (.iload 6, 2) := by decide +kernel
theorem dX12_read__136 : decode cX12_read_ 136 = .ok (.iload 7, 2) := by decide +kernel
theorem dX12_read__138 : decode cX12_read_ 138 = .ok (.iload_n 1, 1) := by decide +kernel
theorem dX12_read__139 : decode cX12_read_ 139 = .ok (.if_icmp .ne 10, 3) := by decide +kernel
theorem dX12_read__142 : decode cX12_read_ 142 = .ok (.iconst 2, 1) := by decide +kernel
theorem dX12_read__143 : decode cX12_read_ 143 = .ok (.iload 8, 2) := by decide +kernel
theorem dX12_read__145 : decode cX12_read_ 145 = .ok (.imul, 1) := by decide +kernel
theorem dX12_read__146 : decode cX12_read_ 146 = .ok (.goto 5, 3) := by decide +kernel
theorem dX12_read__149 : decode cX12_read_ 149 = .ok (.iload 8, 2) := by decide +kernel
theorem dX12_read__151 : decode cX12_read_ 151 = .ok (.iadd, 1) := by decide +kernel
theorem dX12_read__152 : decode cX12_read_ 152 = .ok (.istore 6, 2) := by decide +kernel
theorem dX12_read__154 : decode cX12_read_ 154 = .ok (.iinc 7 1, 3) := by decide +kernel
theorem dX12_read__157 : decode cX12_read_ 157 = .ok (.goto (-107), 3) := by decide +kernel
theorem dX12_read__160 : decode cX12_read_ 160 = .ok (.iload 6, 2) := by decide +kernel
theorem dX12_read__162 : decode cX12_read_ 162 = .ok (.ireturn, 1) := by decide +kernel
def M_read__154 (K : Int32 → th_St → Prop) (k50 : Int32 → Int32 → Int32 → Int32 → Int32 → Int32 → th_St → Prop) (x1 : Int32) (x2 : Int32) (x4 : Int32) (x5 : Int32) (x6 : Int32) (x7 : Int32) (u : th_St) : Prop :=
  ∀ x7_1 : Int32, x7_1 = x7 + (1 : Int32) → k50 x1 x2 x4 x5 x6 x7_1 u
set_option maxHeartbeats 4000000 in
set_option maxRecDepth 100000 in
theorem M_read__154_w {K : Int32 → th_St → Prop} {k50 : Int32 → Int32 → Int32 → Int32 → Int32 → Int32 → th_St → Prop} (C : th_Cx p s m args meth c cX12_read_ RX12 9 (some .int) (dC, dI) (th_ty cs) th_E0 A) (hk50 : ∀ (x1 : Int32) (x2 : Int32) (x4 : Int32) (x5 : Int32) (x6 : Int32) (x7 : Int32) (u : th_St) (H : Heap) (locs : List Loc) (ls : Array Slot), k50 x1 x2 x4 x5 x6 x7 u → th_wI (dC, dI) (wM cs q) A s.heap u H locs → lv_has ls 9 [(0, .ref (q 0)), (1, .int x1), (2, .int x2), (4, .int x4), (5, .int x5), (6, .int x6), (7, .int x7)] → W p l e (th_rm 4 0 0) s m args below meth c H locs 0 0 (MQ below (va_Qi K (th_Post (dC, dI) (wM cs q) A) A) args s 0 0 A) (F0 m 50 ls [])) (x1 : Int32) (x2 : Int32) (x4 : Int32) (x5 : Int32) (x6 : Int32) (x7 : Int32) (u : th_St) (H : Heap) (locs : List Loc) (ls : Array Slot) (hf : M_read__154 K k50 x1 x2 x4 x5 x6 x7 u) (hw : th_wI (dC, dI) (wM cs q) A s.heap u H locs) (hl : lv_has ls 9 [(0, .ref (q 0)), (1, .int x1), (2, .int x2), (4, .int x4), (5, .int x5), (6, .int x6), (7, .int x7)]) : W p l e (th_rm 4 0 0) s m args below meth c H locs 0 0 (MQ below (va_Qi K (th_Post (dC, dI) (wM cs q) A) A) args s 0 0 A) (F0 m 154 ls []) := by
  have hx := C.1
  have hb := C.2.1
  unfold M_read__154 at hf
  obtain ⟨x7_1, e9⟩ : ∃ y : Int32, y = x7 + (1 : Int32) := ⟨_, rfl⟩
  replace hf := hf x7_1 e9
  refine lv_iinc (v := x7_1) (lv' := [(7, .int x7_1), (0, .ref (q 0)), (1, .int x1), (2, .int x2), (4, .int x4), (5, .int x5), (6, .int x6)]) hx hb dX12_read__154 hl (k := 6) rfl (by rw [e9]; rfl) (by decide) rfl (fun ls hl => ?_)
  clear e9
  refine lv_goto (tgt := 50) hx hb dX12_read__157 (by decide) ?_
  exact hk50 x1 x2 x4 x5 x6 x7_1 u _ _ _ hf hw (lv_sub hl [1, 2, 3, 4, 5, 6, 0] rfl)
def M_read__151 (K : Int32 → th_St → Prop) (k50 : Int32 → Int32 → Int32 → Int32 → Int32 → Int32 → th_St → Prop) (x1 : Int32) (x2 : Int32) (x4 : Int32) (x5 : Int32) (x7 : Int32) (z0 : Int32) (z1 : Int32) (u : th_St) : Prop :=
  ∀ y_1 : Int32, y_1 = (z1 + z0) → M_read__154 K k50 x1 x2 x4 x5 y_1 x7 u
set_option maxHeartbeats 4000000 in
set_option maxRecDepth 100000 in
theorem M_read__151_w {K : Int32 → th_St → Prop} {k50 : Int32 → Int32 → Int32 → Int32 → Int32 → Int32 → th_St → Prop} (C : th_Cx p s m args meth c cX12_read_ RX12 9 (some .int) (dC, dI) (th_ty cs) th_E0 A) (hk50 : ∀ (x1 : Int32) (x2 : Int32) (x4 : Int32) (x5 : Int32) (x6 : Int32) (x7 : Int32) (u : th_St) (H : Heap) (locs : List Loc) (ls : Array Slot), k50 x1 x2 x4 x5 x6 x7 u → th_wI (dC, dI) (wM cs q) A s.heap u H locs → lv_has ls 9 [(0, .ref (q 0)), (1, .int x1), (2, .int x2), (4, .int x4), (5, .int x5), (6, .int x6), (7, .int x7)] → W p l e (th_rm 4 0 0) s m args below meth c H locs 0 0 (MQ below (va_Qi K (th_Post (dC, dI) (wM cs q) A) A) args s 0 0 A) (F0 m 50 ls [])) (x1 : Int32) (x2 : Int32) (x4 : Int32) (x5 : Int32) (x7 : Int32) (z0 : Int32) (z1 : Int32) (u : th_St) (H : Heap) (locs : List Loc) (ls : Array Slot) (hf : M_read__151 K k50 x1 x2 x4 x5 x7 z0 z1 u) (hw : th_wI (dC, dI) (wM cs q) A s.heap u H locs) (hl : lv_has ls 9 [(0, .ref (q 0)), (1, .int x1), (2, .int x2), (4, .int x4), (5, .int x5), (7, .int x7)]) : W p l e (th_rm 4 0 0) s m args below meth c H locs 0 0 (MQ below (va_Qi K (th_Post (dC, dI) (wM cs q) A) A) args s 0 0 A) (F0 m 151 ls [.int z0, .int z1]) := by
  have hx := C.1
  have hb := C.2.1
  unfold M_read__151 at hf
  refine lv_iadd hx hb dX12_read__151 ?_
  refine lv_topi (fun y_1 e9 => ?_)
  replace hf := hf y_1 e9
  clear e9
  refine lv_istore (lv' := [(6, .int y_1), (0, .ref (q 0)), (1, .int x1), (2, .int x2), (4, .int x4), (5, .int x5), (7, .int x7)]) hx hb dX12_read__152 hl (by decide) rfl (fun ls hl => ?_)
  exact M_read__154_w C hk50 x1 x2 x4 x5 y_1 x7 u _ _ _ hf hw (lv_sub hl [1, 2, 3, 4, 5, 0, 6] rfl)
def M_read__131 (K : Int32 → th_St → Prop) (k50 : Int32 → Int32 → Int32 → Int32 → Int32 → Int32 → th_St → Prop) (x1 : Int32) (x2 : Int32) (x4 : Int32) (x5 : Int32) (x6 : Int32) (x7 : Int32) (z0 : Int32) (z1 : Int32) (u : th_St) : Prop :=
  ∀ y_1 : Int32, y_1 = (z1 + z0) → ((¬ x7 = x1 → M_read__151 K k50 x1 x2 x4 x5 x7 y_1 x6 u) ∧ (x7 = x1 → M_read__151 K k50 x1 x2 x4 x5 x7 ((2 : Int32) * y_1) x6 u))
set_option maxHeartbeats 4000000 in
set_option maxRecDepth 100000 in
theorem M_read__131_w {K : Int32 → th_St → Prop} {k50 : Int32 → Int32 → Int32 → Int32 → Int32 → Int32 → th_St → Prop} (C : th_Cx p s m args meth c cX12_read_ RX12 9 (some .int) (dC, dI) (th_ty cs) th_E0 A) (hk50 : ∀ (x1 : Int32) (x2 : Int32) (x4 : Int32) (x5 : Int32) (x6 : Int32) (x7 : Int32) (u : th_St) (H : Heap) (locs : List Loc) (ls : Array Slot), k50 x1 x2 x4 x5 x6 x7 u → th_wI (dC, dI) (wM cs q) A s.heap u H locs → lv_has ls 9 [(0, .ref (q 0)), (1, .int x1), (2, .int x2), (4, .int x4), (5, .int x5), (6, .int x6), (7, .int x7)] → W p l e (th_rm 4 0 0) s m args below meth c H locs 0 0 (MQ below (va_Qi K (th_Post (dC, dI) (wM cs q) A) A) args s 0 0 A) (F0 m 50 ls [])) (x1 : Int32) (x2 : Int32) (x4 : Int32) (x5 : Int32) (x6 : Int32) (x7 : Int32) (z0 : Int32) (z1 : Int32) (u : th_St) (H : Heap) (locs : List Loc) (ls : Array Slot) (hf : M_read__131 K k50 x1 x2 x4 x5 x6 x7 z0 z1 u) (hw : th_wI (dC, dI) (wM cs q) A s.heap u H locs) (hl : lv_has ls 9 [(0, .ref (q 0)), (1, .int x1), (2, .int x2), (4, .int x4), (5, .int x5), (6, .int x6), (7, .int x7)]) : W p l e (th_rm 4 0 0) s m args below meth c H locs 0 0 (MQ below (va_Qi K (th_Post (dC, dI) (wM cs q) A) A) args s 0 0 A) (F0 m 131 ls [.int z0, .int z1]) := by
  have hx := C.1
  have hb := C.2.1
  unfold M_read__131 at hf
  refine lv_iadd hx hb dX12_read__131 ?_
  refine lv_topi (fun y_1 e9 => ?_)
  replace hf := hf y_1 e9
  clear e9
  refine lv_istore (lv' := [(8, .int y_1), (0, .ref (q 0)), (1, .int x1), (2, .int x2), (4, .int x4), (5, .int x5), (6, .int x6), (7, .int x7)]) hx hb dX12_read__132 hl (by decide) rfl (fun ls hl => ?_)
  refine lv_iload hx hb dX12_read__134 (lv_at hl 6 rfl) ?_
  refine lv_iload hx hb dX12_read__136 (lv_at hl 7 rfl) ?_
  refine lv_iload_n hx hb dX12_read__138 rfl (lv_at hl 2 rfl) ?_
  refine lv_icmp_ne (tgt := 149) hx hb dX12_read__139 (by decide) (fun hc => ?_) (fun hc => ?_)
  · replace hf := hf.1 hc
    clear hc
    refine lv_iload hx hb dX12_read__149 (lv_at hl 0 rfl) ?_
    exact M_read__151_w C hk50 x1 x2 x4 x5 x7 y_1 x6 u _ _ _ hf hw (lv_sub hl [1, 2, 3, 4, 5, 7] rfl)
  · replace hf := hf.2 hc
    clear hc
    refine lv_iconst (v := (2 : Int32)) hx hb dX12_read__142 (by decide) ?_
    refine lv_iload hx hb dX12_read__143 (lv_at hl 0 rfl) ?_
    refine lv_imul hx hb dX12_read__145 ?_
    refine lv_goto (tgt := 151) hx hb dX12_read__146 (by decide) ?_
    exact M_read__151_w C hk50 x1 x2 x4 x5 x7 ((2 : Int32) * y_1) x6 u _ _ _ hf hw (lv_sub hl [1, 2, 3, 4, 5, 7] rfl)
def M_read__50 (K : Int32 → th_St → Prop) (k50 : Int32 → Int32 → Int32 → Int32 → Int32 → Int32 → th_St → Prop) (x1 : Int32) (x2 : Int32) (x4 : Int32) (x5 : Int32) (x6 : Int32) (x7 : Int32) (u : th_St) : Prop :=
  (((x1 + (1 : Int32)) < x7 → K x6 u) ∧ (¬ (x1 + (1 : Int32)) < x7 → (vp_in (0 : Int32) 2 ∧ ∀ y_1 : Int32, y_1 = u.2.2.1 11 ((0 : Int32)).toNatClampNeg → M_isIn x7 (0 : Int32) (y_1 - (1 : Int32)) u (fun r_3 u_2 => ((¬ r_3 = 0 → (vp_in (0 : Int32) 2 ∧ ∀ y_4 : Int32, y_4 = u_2.2.2.1 13 ((0 : Int32)).toNatClampNeg → (vp_in ((((96 : Int32) * x5) + (48 : Int32)) + x7) 9600 ∧ ∀ y_5 : Int32, y_5 = u_2.2.2.1 35 (((((96 : Int32) * x5) + (48 : Int32)) + x7)).toNatClampNeg → ((¬ x4 = 0 → M_read__131 K k50 x1 x2 x4 x5 x6 x7 (0 : Int32) (y_4 * y_5) u_2) ∧ (x4 = 0 → (vp_in (0 : Int32) 2 ∧ ∀ y_6 : Int32, y_6 = u_2.2.2.1 12 ((0 : Int32)).toNatClampNeg → (vp_in (((48 : Int32) * (x2 + (1 : Int32))) + x7) 1968 ∧ ∀ y_7 : Int32, y_7 = u_2.2.2.1 38 ((((48 : Int32) * (x2 + (1 : Int32))) + x7)).toNatClampNeg → M_read__131 K k50 x1 x2 x4 x5 x6 x7 (y_6 * y_7) (y_4 * y_5) u_2))))))) ∧ (r_3 = 0 → M_read__154 K k50 x1 x2 x4 x5 x6 x7 u_2))))))
set_option maxHeartbeats 4000000 in
set_option maxRecDepth 100000 in
theorem M_read__50_w {K : Int32 → th_St → Prop} {k50 : Int32 → Int32 → Int32 → Int32 → Int32 → Int32 → th_St → Prop} (C : th_Cx p s m args meth c cX12_read_ RX12 9 (some .int) (dC, dI) (th_ty cs) th_E0 A) (hk50 : ∀ (x1 : Int32) (x2 : Int32) (x4 : Int32) (x5 : Int32) (x6 : Int32) (x7 : Int32) (u : th_St) (H : Heap) (locs : List Loc) (ls : Array Slot), k50 x1 x2 x4 x5 x6 x7 u → th_wI (dC, dI) (wM cs q) A s.heap u H locs → lv_has ls 9 [(0, .ref (q 0)), (1, .int x1), (2, .int x2), (4, .int x4), (5, .int x5), (6, .int x6), (7, .int x7)] → W p l e (th_rm 4 0 0) s m args below meth c H locs 0 0 (MQ below (va_Qi K (th_Post (dC, dI) (wM cs q) A) A) args s 0 0 A) (F0 m 50 ls [])) (x1 : Int32) (x2 : Int32) (x4 : Int32) (x5 : Int32) (x6 : Int32) (x7 : Int32) (u : th_St) (H : Heap) (locs : List Loc) (ls : Array Slot) (hf : M_read__50 K k50 x1 x2 x4 x5 x6 x7 u) (hw : th_wI (dC, dI) (wM cs q) A s.heap u H locs) (hl : lv_has ls 9 [(0, .ref (q 0)), (1, .int x1), (2, .int x2), (4, .int x4), (5, .int x5), (6, .int x6), (7, .int x7)]) : W p l e (th_rm 4 0 0) s m args below meth c H locs 0 0 (MQ below (va_Qi K (th_Post (dC, dI) (wM cs q) A) A) args s 0 0 A) (F0 m 50 ls []) := by
  have hx := C.1
  have hb := C.2.1
  unfold M_read__50 at hf
  refine lv_iload hx hb dX12_read__50 (lv_at hl 6 rfl) ?_
  refine lv_iload_n hx hb dX12_read__52 rfl (lv_at hl 1 rfl) ?_
  refine lv_iconst (v := (1 : Int32)) hx hb dX12_read__53 (by decide) ?_
  refine lv_iadd hx hb dX12_read__54 ?_
  refine lv_icmp_gt (tgt := 160) hx hb dX12_read__55 (by decide) (fun hc => ?_) (fun hc => ?_)
  · replace hf := hf.1 hc
    clear hc
    refine lv_iload hx hb dX12_read__160 (lv_at hl 5 rfl) ?_
    exact th_iret C hw hf dX12_read__162
  · replace hf := hf.2 hc
    clear hc
    refine lv_iload hx hb dX12_read__58 (lv_at hl 6 rfl) ?_
    refine lv_iconst (v := (0 : Int32)) hx hb dX12_read__60 (by decide) ?_
    refine lv_aload_n hx hb dX12_read__61 rfl (lv_at hl 0 rfl) ?_
    refine mg_11 C hw dX12_read__62 ?_
    refine lv_iconst (v := (0 : Int32)) hx hb dX12_read__65 (by decide) ?_
    refine ml_11 C hw hf.1 dX12_read__66 (fun y_1 e9 => ?_)
    replace hf := hf.2 y_1 e9
    clear e9
    refine lv_iconst (v := (1 : Int32)) hx hb dX12_read__67 (by decide) ?_
    refine lv_isub hx hb dX12_read__68 ?_
    refine th_callSi (As := [.int x7, .int (0 : Int32), .int (y_1 - (1 : Int32))]) (rest := []) C lkX12_24 (M_isIn_c hf) hw rfl rfl ⟨Nat.le_of_ble_eq_true rfl, Nat.le_of_ble_eq_true rfl⟩ hl.1 (Nat.le_of_ble_eq_true rfl) ⟨Nat.le_refl _, Nat.le_refl _⟩ dX12_read__69 (fun r_3 u_2 H locs hf hw => ?_)
    refine lv_if_ne (tgt := 78) hx hb dX12_read__72 (by decide) (fun hc => ?_) (fun hc => ?_)
    · replace hf := hf.1 hc
      clear hc
      refine lv_aload_n hx hb dX12_read__78 rfl (lv_at hl 0 rfl) ?_
      refine mg_13 C hw dX12_read__79 ?_
      refine lv_iconst (v := (0 : Int32)) hx hb dX12_read__82 (by decide) ?_
      refine ml_13 C hw hf.1 dX12_read__83 (fun y_4 e9 => ?_)
      replace hf := hf.2 y_4 e9
      clear e9
      refine lv_aload_n hx hb dX12_read__84 rfl (lv_at hl 0 rfl) ?_
      refine mg_35 C hw dX12_read__85 ?_
      refine lv_bipush (v := (96 : Int32)) hx hb dX12_read__88 (by decide) ?_
      refine lv_iload hx hb dX12_read__90 (lv_at hl 4 rfl) ?_
      refine lv_imul hx hb dX12_read__92 ?_
      refine lv_bipush (v := (48 : Int32)) hx hb dX12_read__93 (by decide) ?_
      refine lv_iadd hx hb dX12_read__95 ?_
      refine lv_iload hx hb dX12_read__96 (lv_at hl 6 rfl) ?_
      refine lv_iadd hx hb dX12_read__98 ?_
      refine ml_35 C hw hf.1 dX12_read__99 (fun y_5 e9 => ?_)
      replace hf := hf.2 y_5 e9
      clear e9
      refine lv_imul hx hb dX12_read__100 ?_
      refine lv_iload hx hb dX12_read__101 (lv_at hl 3 rfl) ?_
      refine lv_if_ne (tgt := 130) hx hb dX12_read__103 (by decide) (fun hc => ?_) (fun hc => ?_)
      · replace hf := hf.1 hc
        clear hc
        refine lv_iconst (v := (0 : Int32)) hx hb dX12_read__130 (by decide) ?_
        exact M_read__131_w C hk50 x1 x2 x4 x5 x6 x7 (0 : Int32) (y_4 * y_5) u_2 _ _ _ hf hw (lv_sub hl [0, 1, 2, 3, 4, 5, 6] rfl)
      · replace hf := hf.2 hc
        clear hc
        refine lv_aload_n hx hb dX12_read__106 rfl (lv_at hl 0 rfl) ?_
        refine mg_12 C hw dX12_read__107 ?_
        refine lv_iconst (v := (0 : Int32)) hx hb dX12_read__110 (by decide) ?_
        refine ml_12 C hw hf.1 dX12_read__111 (fun y_6 e9 => ?_)
        replace hf := hf.2 y_6 e9
        clear e9
        refine lv_aload_n hx hb dX12_read__112 rfl (lv_at hl 0 rfl) ?_
        refine mg_38 C hw dX12_read__113 ?_
        refine lv_bipush (v := (48 : Int32)) hx hb dX12_read__116 (by decide) ?_
        refine lv_iload_n hx hb dX12_read__118 rfl (lv_at hl 2 rfl) ?_
        refine lv_iconst (v := (1 : Int32)) hx hb dX12_read__119 (by decide) ?_
        refine lv_iadd hx hb dX12_read__120 ?_
        refine lv_imul hx hb dX12_read__121 ?_
        refine lv_iload hx hb dX12_read__122 (lv_at hl 6 rfl) ?_
        refine lv_iadd hx hb dX12_read__124 ?_
        refine ml_38 C hw hf.1 dX12_read__125 (fun y_7 e9 => ?_)
        replace hf := hf.2 y_7 e9
        clear e9
        refine lv_imul hx hb dX12_read__126 ?_
        refine lv_goto (tgt := 131) hx hb dX12_read__127 (by decide) ?_
        exact M_read__131_w C hk50 x1 x2 x4 x5 x6 x7 (y_6 * y_7) (y_4 * y_5) u_2 _ _ _ hf hw (lv_sub hl [0, 1, 2, 3, 4, 5, 6] rfl)
    · replace hf := hf.2 hc
      clear hc
      refine lv_goto (tgt := 154) hx hb dX12_read__75 (by decide) ?_
      exact M_read__154_w C hk50 x1 x2 x4 x5 x6 x7 u_2 _ _ _ hf hw (lv_sub hl [0, 1, 2, 3, 4, 5, 6] rfl)
def M_read__50_lp (K : Int32 → th_St → Prop) : Nat → Int32 → Int32 → Int32 → Int32 → Int32 → Int32 → th_St → Prop
  | 0, _, _, _, _, _, _, _ => False
  | n + 1, x1, x2, x4, x5, x6, x7, u => M_read__50 K (M_read__50_lp K n) x1 x2 x4 x5 x6 x7 u
set_option maxHeartbeats 4000000 in
set_option maxRecDepth 100000 in
theorem M_read__50_lw {K : Int32 → th_St → Prop} (C : th_Cx p s m args meth c cX12_read_ RX12 9 (some .int) (dC, dI) (th_ty cs) th_E0 A) (n : Nat) : ∀ (x1 : Int32) (x2 : Int32) (x4 : Int32) (x5 : Int32) (x6 : Int32) (x7 : Int32) (u : th_St) (H : Heap) (locs : List Loc) (ls : Array Slot), M_read__50_lp K n x1 x2 x4 x5 x6 x7 u → th_wI (dC, dI) (wM cs q) A s.heap u H locs → lv_has ls 9 [(0, .ref (q 0)), (1, .int x1), (2, .int x2), (4, .int x4), (5, .int x5), (6, .int x6), (7, .int x7)] → W p l e (th_rm 4 0 0) s m args below meth c H locs 0 0 (MQ below (va_Qi K (th_Post (dC, dI) (wM cs q) A) A) args s 0 0 A) (F0 m 50 ls []) := by
  induction n with
  | zero => intro x1 x2 x4 x5 x6 x7 u H locs ls hf; exact hf.elim
  | succ n ih =>
    intro x1 x2 x4 x5 x6 x7 u H locs ls hf hw hl
    exact M_read__50_w C ih x1 x2 x4 x5 x6 x7 u H locs ls hf hw hl
def M_read__26 (K : Int32 → th_St → Prop) (x1 : Int32) (x2 : Int32) (x3 : Int32) (x4 : Int32) (z0 : Int32) (u : th_St) : Prop :=
  M_throwsIf z0 u (fun r_2 u_1 => ((r_2 = 0 → M_rowOf x2 x3 u_1 (fun r_4 u_3 => ∀ y_5 : Int32, y_5 = (x1 - (1 : Int32)) → ∃ n, M_read__50_lp K n x1 x2 x4 r_4 (0 : Int32) y_5 u_3)) ∧ (¬ r_2 = 0 → K (0 : Int32) u_1)))
set_option maxHeartbeats 4000000 in
set_option maxRecDepth 100000 in
theorem M_read__26_w {K : Int32 → th_St → Prop} (C : th_Cx p s m args meth c cX12_read_ RX12 9 (some .int) (dC, dI) (th_ty cs) th_E0 A) (x1 : Int32) (x2 : Int32) (x3 : Int32) (x4 : Int32) (z0 : Int32) (u : th_St) (H : Heap) (locs : List Loc) (ls : Array Slot) (hf : M_read__26 K x1 x2 x3 x4 z0 u) (hw : th_wI (dC, dI) (wM cs q) A s.heap u H locs) (hl : lv_has ls 9 [(0, .ref (q 0)), (1, .int x1), (2, .int x2), (3, .int x3), (4, .int x4)]) : W p l e (th_rm 4 0 0) s m args below meth c H locs 0 0 (MQ below (va_Qi K (th_Post (dC, dI) (wM cs q) A) A) args s 0 0 A) (F0 m 26 ls [.int z0, .ref (q 0)]) := by
  have hx := C.1
  have hb := C.2.1
  unfold M_read__26 at hf
  refine th_callVi (As := [.int z0]) (rest := []) C lkX12_343 (M_throwsIf_c hf) hw (mRc C hw) rfl rfl ⟨Nat.le_of_ble_eq_true rfl, Nat.le_of_ble_eq_true rfl⟩ hl.1 (Nat.le_of_ble_eq_true rfl) ⟨Nat.le_refl _, Nat.le_refl _⟩ dX12_read__26 (fun r_2 u_1 H locs hf hw => ?_)
  refine lv_if_eq (tgt := 34) hx hb dX12_read__29 (by decide) (fun hc => ?_) (fun hc => ?_)
  · replace hf := hf.1 hc
    clear hc
    refine lv_aload_n hx hb dX12_read__34 rfl (lv_at hl 0 rfl) ?_
    refine lv_iload_n hx hb dX12_read__35 rfl (lv_at hl 2 rfl) ?_
    refine lv_iload_n hx hb dX12_read__36 rfl (lv_at hl 3 rfl) ?_
    refine th_callVi (As := [.int x2, .int x3]) (rest := []) C lkX12_326 (M_rowOf_c hf) hw (mRc C hw) rfl rfl ⟨Nat.le_of_ble_eq_true rfl, Nat.le_of_ble_eq_true rfl⟩ hl.1 (Nat.le_of_ble_eq_true rfl) ⟨Nat.le_refl _, Nat.le_refl _⟩ dX12_read__37 (fun r_4 u_3 H locs hf hw => ?_)
    refine lv_istore (lv' := [(5, .int r_4), (0, .ref (q 0)), (1, .int x1), (2, .int x2), (3, .int x3), (4, .int x4)]) hx hb dX12_read__40 hl (by decide) rfl (fun ls hl => ?_)
    refine lv_iconst (v := (0 : Int32)) hx hb dX12_read__42 (by decide) ?_
    refine lv_istore (lv' := [(6, .int (0 : Int32)), (5, .int r_4), (0, .ref (q 0)), (1, .int x1), (2, .int x2), (3, .int x3), (4, .int x4)]) hx hb dX12_read__43 hl (by decide) rfl (fun ls hl => ?_)
    refine lv_iload_n hx hb dX12_read__45 rfl (lv_at hl 3 rfl) ?_
    refine lv_iconst (v := (1 : Int32)) hx hb dX12_read__46 (by decide) ?_
    refine lv_isub hx hb dX12_read__47 ?_
    refine lv_topi (fun y_5 e9 => ?_)
    replace hf := hf y_5 e9
    clear e9
    refine lv_istore (lv' := [(7, .int y_5), (6, .int (0 : Int32)), (5, .int r_4), (0, .ref (q 0)), (1, .int x1), (2, .int x2), (3, .int x3), (4, .int x4)]) hx hb dX12_read__48 hl (by decide) rfl (fun ls hl => ?_)
    obtain ⟨n, hf⟩ := hf
    exact M_read__50_lw C n x1 x2 x4 r_4 (0 : Int32) y_5 u_3 _ _ _ hf hw (lv_sub hl [3, 4, 5, 7, 2, 1, 0] rfl)
  · replace hf := hf.2 hc
    clear hc
    refine lv_iconst (v := (0 : Int32)) hx hb dX12_read__32 (by decide) ?_
    exact th_iret C hw hf dX12_read__33
def M_read__21 (K : Int32 → th_St → Prop) (x1 : Int32) (x2 : Int32) (x3 : Int32) (x4 : Int32) (u : th_St) : Prop :=
  M_read__26 K x1 x2 x3 x4 (1 : Int32) u
set_option maxHeartbeats 4000000 in
set_option maxRecDepth 100000 in
theorem M_read__21_w {K : Int32 → th_St → Prop} (C : th_Cx p s m args meth c cX12_read_ RX12 9 (some .int) (dC, dI) (th_ty cs) th_E0 A) (x1 : Int32) (x2 : Int32) (x3 : Int32) (x4 : Int32) (u : th_St) (H : Heap) (locs : List Loc) (ls : Array Slot) (hf : M_read__21 K x1 x2 x3 x4 u) (hw : th_wI (dC, dI) (wM cs q) A s.heap u H locs) (hl : lv_has ls 9 [(0, .ref (q 0)), (1, .int x1), (2, .int x2), (3, .int x3), (4, .int x4)]) : W p l e (th_rm 4 0 0) s m args below meth c H locs 0 0 (MQ below (va_Qi K (th_Post (dC, dI) (wM cs q) A) A) args s 0 0 A) (F0 m 21 ls [.ref (q 0)]) := by
  have hx := C.1
  have hb := C.2.1
  unfold M_read__21 at hf
  refine lv_iconst (v := (1 : Int32)) hx hb dX12_read__21 (by decide) ?_
  refine lv_goto (tgt := 26) hx hb dX12_read__22 (by decide) ?_
  exact M_read__26_w C x1 x2 x3 x4 (1 : Int32) u _ _ _ hf hw (lv_sub hl [0, 1, 2, 3, 4] rfl)
def M_read_ (a1 : Int32) (a2 : Int32) (a3 : Int32) (a4 : Int32) (u : th_St) (K : Int32 → th_St → Prop) : Prop :=
  M_isThere a1 a2 a3 u (fun r_2 u_1 => ((r_2 = 0 → M_read__21 K a1 a2 a3 a4 u_1) ∧ (¬ r_2 = 0 → M_isIn a4 (0 : Int32) (1 : Int32) u_1 (fun r_4 u_3 => ((¬ r_4 = 0 → M_read__26 K a1 a2 a3 a4 (0 : Int32) u_3) ∧ (r_4 = 0 → M_read__21 K a1 a2 a3 a4 u_3))))))
set_option maxHeartbeats 4000000 in
set_option maxRecDepth 100000 in
theorem M_read__c {l : Launch} {dC : Nat → ClassId} {dI : Nat → Nat → Nat} {cs : Nat → ClassId} {q : Nat → Nat} {a1 : Int32} {a2 : Int32} {a3 : Int32} {a4 : Int32} {u : th_St} {K : Int32 → th_St → Prop} (hf : M_read_ a1 a2 a3 a4 u K) : th_Ci l yX12_read_ cX12_read_ 9 (some .int) 4 0 0 (dC, dI) (th_ty cs) th_E0 (wM cs q) [.ref (q 0), .int a1, .int a2, .int a3, .int a4] u K := by
  refine th_ofi (by decide) (Nat.le_of_ble_eq_true rfl) th_E0_ok ?_
  intro p e s m below meth c A ls C hw hl
  have C : th_Cx p s m _ meth c cX12_read_ RX12 9 (some .int) (dC, dI) (th_ty cs) th_E0 A := C
  have hl : lv_has ls 9 [(0, .ref (q 0)), (1, .int a1), (2, .int a2), (3, .int a3), (4, .int a4)] := hl
  generalize (List.toArray _ : Array Value) = args at C ⊢
  have hx := C.1
  have hb := C.2.1
  unfold M_read_ at hf
  refine lv_aload_n hx hb dX12_read__0 rfl (lv_at hl 0 rfl) ?_
  refine lv_aload_n hx hb dX12_read__1 rfl (lv_at hl 0 rfl) ?_
  refine lv_iload_n hx hb dX12_read__2 rfl (lv_at hl 1 rfl) ?_
  refine lv_iload_n hx hb dX12_read__3 rfl (lv_at hl 2 rfl) ?_
  refine lv_iload_n hx hb dX12_read__4 rfl (lv_at hl 3 rfl) ?_
  refine th_callVi (As := [.int a1, .int a2, .int a3]) (rest := [.ref (q 0)]) C lkX12_340 (M_isThere_c hf) hw (mRc C hw) rfl rfl ⟨Nat.le_of_ble_eq_true rfl, Nat.le_of_ble_eq_true rfl⟩ hl.1 (Nat.le_of_ble_eq_true rfl) ⟨Nat.le_refl _, Nat.le_refl _⟩ dX12_read__5 (fun r_2 u_1 H locs hf hw => ?_)
  refine lv_if_eq (tgt := 21) hx hb dX12_read__8 (by decide) (fun hc => ?_) (fun hc => ?_)
  · replace hf := hf.1 hc
    clear hc
    exact M_read__21_w C a1 a2 a3 a4 u_1 _ _ _ hf hw (lv_sub hl [0, 1, 2, 3, 4] rfl)
  · replace hf := hf.2 hc
    clear hc
    refine lv_iload hx hb dX12_read__11 (lv_at hl 4 rfl) ?_
    refine lv_iconst (v := (0 : Int32)) hx hb dX12_read__13 (by decide) ?_
    refine lv_iconst (v := (1 : Int32)) hx hb dX12_read__14 (by decide) ?_
    refine th_callSi (As := [.int a4, .int (0 : Int32), .int (1 : Int32)]) (rest := [.ref (q 0)]) C lkX12_24 (M_isIn_c hf) hw rfl rfl ⟨Nat.le_of_ble_eq_true rfl, Nat.le_of_ble_eq_true rfl⟩ hl.1 (Nat.le_of_ble_eq_true rfl) ⟨Nat.le_refl _, Nat.le_refl _⟩ dX12_read__15 (fun r_4 u_3 H locs hf hw => ?_)
    refine lv_if_ne (tgt := 25) hx hb dX12_read__18 (by decide) (fun hc => ?_) (fun hc => ?_)
    · replace hf := hf.1 hc
      clear hc
      refine lv_iconst (v := (0 : Int32)) hx hb dX12_read__25 (by decide) ?_
      exact M_read__26_w C a1 a2 a3 a4 (0 : Int32) u_3 _ _ _ hf hw (lv_sub hl [0, 1, 2, 3, 4] rfl)
    · replace hf := hf.2 hc
      clear hc
      exact M_read__21_w C a1 a2 a3 a4 u_3 _ _ _ hf hw (lv_sub hl [0, 1, 2, 3, 4] rfl)
/-! X12_alarm -/
theorem dX12_alarm_0 : decode cX12_alarm 0 = .ok (.aload_n 0, 1) := by decide +kernel
theorem dX12_alarm_1 : decode cX12_alarm 1 = .ok (.iconst 0, 1) := by decide +kernel
theorem dX12_alarm_2 : decode cX12_alarm 2 = .ok (.putfield 1, 3) := by decide +kernel
theorem dX12_alarm_5 : decode cX12_alarm 5 = .ok (.iload_n 1, 1) := by decide +kernel
theorem dX12_alarm_6 : decode cX12_alarm 6 = .ok (.iconst 0, 1) := by decide +kernel
theorem dX12_alarm_7 : decode cX12_alarm 7 = .ok (.aload_n 0, 1) := by decide +kernel
theorem dX12_alarm_8 : decode cX12_alarm 8 = .ok (.getfield 66, 3) := by decide +kernel
theorem dX12_alarm_11 : decode cX12_alarm 11 = .ok (.iconst 0, 1) := by decide +kernel
theorem dX12_alarm_12 : decode cX12_alarm 12 = .ok (.iaload, 1) := by decide +kernel
theorem dX12_alarm_13 : decode cX12_alarm 13 = .ok (.iconst 1, 1) := by decide +kernel
theorem dX12_alarm_14 : decode cX12_alarm 14 = .ok (.isub, 1) := by decide +kernel
theorem dX12_alarm_15 : decode cX12_alarm 15 = .ok (.invokestatic 24, 3) := by decide +kernel
theorem dX12_alarm_18 : decode cX12_alarm 18 = .ok (.ifCond .eq 13, 3) := by decide +kernel
theorem dX12_alarm_21 : decode cX12_alarm 21 = .ok (.aload_n 0, 1) := by decide +kernel
theorem dX12_alarm_22 : decode cX12_alarm 22 = .ok (.iconst 0, 1) := by decide +kernel
theorem dX12_alarm_23 : decode cX12_alarm 23 = .ok (.iload_n 2, 1) := by decide +kernel
theorem dX12_alarm_24 : decode cX12_alarm 24 = .ok (.iload_n 3, 1) := by decide +kernel
theorem dX12_alarm_25 : decode cX12_alarm 25 = .ok (.invokevirtual 340, 3) := by decide +kernel
theorem dX12_alarm_28 : decode cX12_alarm 28 = .ok (.ifCond .ne 5, 3) := by decide +kernel
theorem dX12_alarm_31 : decode cX12_alarm 31 = .ok (.iconst (-1), 1) := by decide +kernel
theorem dX12_alarm_32 : decode cX12_alarm 32 = .ok (.ireturn, 1) := by decide +kernel
theorem dX12_alarm_33 : decode cX12_alarm 33 = .ok (.aload_n 0, 1) := by decide +kernel
theorem dX12_alarm_34 : decode cX12_alarm 34 = .ok (.iload_n 1, 1) := by decide +kernel
theorem dX12_alarm_35 : decode cX12_alarm 35 = .ok (.iload_n 2, 1) := by decide +kernel
theorem dX12_alarm_36 : decode cX12_alarm 36 = .ok (.invokevirtual 356, 3) := by decide +kernel
theorem dX12_alarm_39 : decode cX12_alarm 39 = .ok (.ifCond .eq 7, 3) := by decide +kernel
theorem dX12_alarm_42 : decode cX12_alarm 42 = .ok (.iconst 1, 1) := by decide +kernel
theorem dX12_alarm_43 : decode cX12_alarm 43 = .ok (.goto 4, 3) := by decide +kernel
theorem dX12_alarm_46 : decode cX12_alarm 46 = .ok (.iconst 0, 1) := by decide +kernel
theorem dX12_alarm_47 : decode cX12_alarm 47 = .ok (.ireturn, 1) := by decide +kernel
def M_alarm_31 (K : Int32 → th_St → Prop) (u : th_St) : Prop :=
  K (-1 : Int32) u
set_option maxHeartbeats 4000000 in
set_option maxRecDepth 100000 in
theorem M_alarm_31_w {K : Int32 → th_St → Prop} (C : th_Cx p s m args meth c cX12_alarm RX12 4 (some .int) (dC, dI) (th_ty cs) th_E0 A) (u : th_St) (H : Heap) (locs : List Loc) (ls : Array Slot) (hf : M_alarm_31 K u) (hw : th_wI (dC, dI) (wM cs q) A s.heap u H locs) (hl : lv_has ls 4 []) : W p l e (th_rm 4 0 0) s m args below meth c H locs 0 0 (MQ below (va_Qi K (th_Post (dC, dI) (wM cs q) A) A) args s 0 0 A) (F0 m 31 ls []) := by
  have hx := C.1
  have hb := C.2.1
  unfold M_alarm_31 at hf
  refine lv_iconst (v := (-1 : Int32)) hx hb dX12_alarm_31 (by decide) ?_
  exact th_iret C hw hf dX12_alarm_32
def M_alarm_47 (K : Int32 → th_St → Prop) (z0 : Int32) (u : th_St) : Prop :=
  K z0 u
set_option maxHeartbeats 4000000 in
set_option maxRecDepth 100000 in
theorem M_alarm_47_w {K : Int32 → th_St → Prop} (C : th_Cx p s m args meth c cX12_alarm RX12 4 (some .int) (dC, dI) (th_ty cs) th_E0 A) (z0 : Int32) (u : th_St) (H : Heap) (locs : List Loc) (ls : Array Slot) (hf : M_alarm_47 K z0 u) (hw : th_wI (dC, dI) (wM cs q) A s.heap u H locs) (hl : lv_has ls 4 []) : W p l e (th_rm 4 0 0) s m args below meth c H locs 0 0 (MQ below (va_Qi K (th_Post (dC, dI) (wM cs q) A) A) args s 0 0 A) (F0 m 47 ls [.int z0]) := by
  have hx := C.1
  have hb := C.2.1
  unfold M_alarm_47 at hf
  exact th_iret C hw hf dX12_alarm_47
def M_alarm (a1 : Int32) (a2 : Int32) (a3 : Int32) (u : th_St) (K : Int32 → th_St → Prop) : Prop :=
  ∀ u_1 : th_St, u_1 = th_si u 0 (0 : Int32) → (vp_in (0 : Int32) 2 ∧ ∀ y_2 : Int32, y_2 = u_1.2.2.1 15 ((0 : Int32)).toNatClampNeg → M_isIn a1 (0 : Int32) (y_2 - (1 : Int32)) u_1 (fun r_4 u_3 => ((r_4 = 0 → M_alarm_31 K u_3) ∧ (¬ r_4 = 0 → M_isThere (0 : Int32) a2 a3 u_3 (fun r_6 u_5 => ((¬ r_6 = 0 → M_isAlarm a1 a2 u_5 (fun r_8 u_7 => ((r_8 = 0 → M_alarm_47 K (0 : Int32) u_7) ∧ (¬ r_8 = 0 → M_alarm_47 K (1 : Int32) u_7)))) ∧ (r_6 = 0 → M_alarm_31 K u_5)))))))
set_option maxHeartbeats 4000000 in
set_option maxRecDepth 100000 in
theorem M_alarm_c {l : Launch} {dC : Nat → ClassId} {dI : Nat → Nat → Nat} {cs : Nat → ClassId} {q : Nat → Nat} {a1 : Int32} {a2 : Int32} {a3 : Int32} {u : th_St} {K : Int32 → th_St → Prop} (hf : M_alarm a1 a2 a3 u K) : th_Ci l yX12_alarm cX12_alarm 4 (some .int) 4 0 0 (dC, dI) (th_ty cs) th_E0 (wM cs q) [.ref (q 0), .int a1, .int a2, .int a3] u K := by
  refine th_ofi (by decide) (Nat.le_of_ble_eq_true rfl) th_E0_ok ?_
  intro p e s m below meth c A ls C hw hl
  have C : th_Cx p s m _ meth c cX12_alarm RX12 4 (some .int) (dC, dI) (th_ty cs) th_E0 A := C
  have hl : lv_has ls 4 [(0, .ref (q 0)), (1, .int a1), (2, .int a2), (3, .int a3)] := hl
  generalize (List.toArray _ : Array Value) = args at C ⊢
  have hx := C.1
  have hb := C.2.1
  unfold M_alarm at hf
  refine lv_aload_n hx hb dX12_alarm_0 rfl (lv_at hl 0 rfl) ?_
  refine lv_iconst (v := (0 : Int32)) hx hb dX12_alarm_1 (by decide) ?_
  refine mp_0 C hw dX12_alarm_2 (fun u_1 e9 H locs hw => ?_)
  replace hf := hf u_1 e9
  clear e9
  refine lv_iload_n hx hb dX12_alarm_5 rfl (lv_at hl 1 rfl) ?_
  refine lv_iconst (v := (0 : Int32)) hx hb dX12_alarm_6 (by decide) ?_
  refine lv_aload_n hx hb dX12_alarm_7 rfl (lv_at hl 0 rfl) ?_
  refine mg_15 C hw dX12_alarm_8 ?_
  refine lv_iconst (v := (0 : Int32)) hx hb dX12_alarm_11 (by decide) ?_
  refine ml_15 C hw hf.1 dX12_alarm_12 (fun y_2 e9 => ?_)
  replace hf := hf.2 y_2 e9
  clear e9
  refine lv_iconst (v := (1 : Int32)) hx hb dX12_alarm_13 (by decide) ?_
  refine lv_isub hx hb dX12_alarm_14 ?_
  refine th_callSi (As := [.int a1, .int (0 : Int32), .int (y_2 - (1 : Int32))]) (rest := []) C lkX12_24 (M_isIn_c hf) hw rfl rfl ⟨Nat.le_of_ble_eq_true rfl, Nat.le_of_ble_eq_true rfl⟩ hl.1 (Nat.le_of_ble_eq_true rfl) ⟨Nat.le_refl _, Nat.le_refl _⟩ dX12_alarm_15 (fun r_4 u_3 H locs hf hw => ?_)
  refine lv_if_eq (tgt := 31) hx hb dX12_alarm_18 (by decide) (fun hc => ?_) (fun hc => ?_)
  · replace hf := hf.1 hc
    clear hc
    exact M_alarm_31_w C  u_3 _ _ _ hf hw (lv_sub hl [] rfl)
  · replace hf := hf.2 hc
    clear hc
    refine lv_aload_n hx hb dX12_alarm_21 rfl (lv_at hl 0 rfl) ?_
    refine lv_iconst (v := (0 : Int32)) hx hb dX12_alarm_22 (by decide) ?_
    refine lv_iload_n hx hb dX12_alarm_23 rfl (lv_at hl 2 rfl) ?_
    refine lv_iload_n hx hb dX12_alarm_24 rfl (lv_at hl 3 rfl) ?_
    refine th_callVi (As := [.int (0 : Int32), .int a2, .int a3]) (rest := []) C lkX12_340 (M_isThere_c hf) hw (mRc C hw) rfl rfl ⟨Nat.le_of_ble_eq_true rfl, Nat.le_of_ble_eq_true rfl⟩ hl.1 (Nat.le_of_ble_eq_true rfl) ⟨Nat.le_refl _, Nat.le_refl _⟩ dX12_alarm_25 (fun r_6 u_5 H locs hf hw => ?_)
    refine lv_if_ne (tgt := 33) hx hb dX12_alarm_28 (by decide) (fun hc => ?_) (fun hc => ?_)
    · replace hf := hf.1 hc
      clear hc
      refine lv_aload_n hx hb dX12_alarm_33 rfl (lv_at hl 0 rfl) ?_
      refine lv_iload_n hx hb dX12_alarm_34 rfl (lv_at hl 1 rfl) ?_
      refine lv_iload_n hx hb dX12_alarm_35 rfl (lv_at hl 2 rfl) ?_
      refine th_callVi (As := [.int a1, .int a2]) (rest := []) C lkX12_356 (M_isAlarm_c hf) hw (mRc C hw) rfl rfl ⟨Nat.le_of_ble_eq_true rfl, Nat.le_of_ble_eq_true rfl⟩ hl.1 (Nat.le_of_ble_eq_true rfl) ⟨Nat.le_refl _, Nat.le_refl _⟩ dX12_alarm_36 (fun r_8 u_7 H locs hf hw => ?_)
      refine lv_if_eq (tgt := 46) hx hb dX12_alarm_39 (by decide) (fun hc => ?_) (fun hc => ?_)
      · replace hf := hf.1 hc
        clear hc
        refine lv_iconst (v := (0 : Int32)) hx hb dX12_alarm_46 (by decide) ?_
        exact M_alarm_47_w C (0 : Int32) u_7 _ _ _ hf hw (lv_sub hl [] rfl)
      · replace hf := hf.2 hc
        clear hc
        refine lv_iconst (v := (1 : Int32)) hx hb dX12_alarm_42 (by decide) ?_
        refine lv_goto (tgt := 47) hx hb dX12_alarm_43 (by decide) ?_
        exact M_alarm_47_w C (1 : Int32) u_7 _ _ _ hf hw (lv_sub hl [] rfl)
    · replace hf := hf.2 hc
      clear hc
      exact M_alarm_31_w C  u_5 _ _ _ hf hw (lv_sub hl [] rfl)
/-! X12_alarmed -/
theorem dX12_alarmed_0 : decode cX12_alarmed 0 = .ok (.aload_n 0, 1) := by decide +kernel
theorem dX12_alarmed_1 : decode cX12_alarmed 1 = .ok (.iconst 0, 1) := by decide +kernel
theorem dX12_alarmed_2 : decode cX12_alarmed 2 = .ok (.putfield 1, 3) := by decide +kernel
theorem dX12_alarmed_5 : decode cX12_alarmed 5 = .ok (.iload_n 1, 1) := by decide +kernel
theorem dX12_alarmed_6 : decode cX12_alarmed 6 = .ok (.iconst 0, 1) := by decide +kernel
theorem dX12_alarmed_7 : decode cX12_alarmed 7 = .ok (.aload_n 0, 1) := by decide +kernel
theorem dX12_alarmed_8 : decode cX12_alarmed 8 = .ok (.getfield 66, 3) := by decide +kernel
theorem dX12_alarmed_11 : decode cX12_alarmed 11 = .ok (.iconst 0, 1) := by decide +kernel
theorem dX12_alarmed_12 : decode cX12_alarmed 12 = .ok (.iaload, 1) := by decide +kernel
theorem dX12_alarmed_13 : decode cX12_alarmed 13 = .ok (.iconst 1, 1) := by decide +kernel
theorem dX12_alarmed_14 : decode cX12_alarmed 14 = .ok (.isub, 1) := by decide +kernel
theorem dX12_alarmed_15 : decode cX12_alarmed 15 = .ok (.invokestatic 24, 3) := by decide +kernel
theorem dX12_alarmed_18 : decode cX12_alarmed 18 = .ok (.ifCond .ne 5, 3) := by decide +kernel
theorem dX12_alarmed_21 : decode cX12_alarmed 21 = .ok (.iconst (-1), 1) := by decide +kernel
theorem dX12_alarmed_22 : decode cX12_alarmed 22 = .ok (.ireturn, 1) := by decide +kernel
theorem dX12_alarmed_23 : decode cX12_alarmed 23 = .ok (.aload_n 0, 1) := by decide +kernel
theorem dX12_alarmed_24 : decode cX12_alarmed 24 = .ok (.iload_n 2, 1) := by decide +kernel
theorem dX12_alarmed_25 : decode cX12_alarmed 25 = .ok (.invokevirtual 337, 3) := by decide +kernel
theorem dX12_alarmed_28 : decode cX12_alarmed 28 = .ok (.iconst 0, 1) := by decide +kernel
theorem dX12_alarmed_29 : decode cX12_alarmed 29 = .ok (.istore_n 3, 1) := by decide +kernel
theorem dX12_alarmed_30 : decode cX12_alarmed 30 = .ok (.iload_n 3, 1) := by decide +kernel
theorem dX12_alarmed_31 : decode cX12_alarmed 31 = .ok (.aload_n 0, 1) := by decide +kernel
theorem dX12_alarmed_32 : decode cX12_alarmed 32 = .ok (.getfield 323, 3) := by decide +kernel
theorem dX12_alarmed_35 : decode cX12_alarmed 35 = .ok (.if_icmp .ge 20, 3) := by decide +kernel
theorem dX12_alarmed_38 : decode cX12_alarmed 38 = .ok (.aload_n 0, 1) := by decide +kernel
theorem dX12_alarmed_39 : decode cX12_alarmed 39 = .ok (.iload_n 1, 1) := by decide +kernel
theorem dX12_alarmed_40 : decode cX12_alarmed 40 = .ok (.iload_n 3, 1) := by decide +kernel
theorem dX12_alarmed_41 : decode cX12_alarmed 41 = .ok (.invokevirtual 356, 3) := by decide +kernel
theorem dX12_alarmed_44 : decode cX12_alarmed 44 = .ok (.ifCond .eq 5, 3) := by decide +kernel
theorem dX12_alarmed_47 : decode cX12_alarmed 47 = .ok (.iload_n 3, 1) := by decide +kernel
theorem dX12_alarmed_48 : decode cX12_alarmed 48 = .ok (.ireturn, 1) := by decide +kernel
theorem dX12_alarmed_49 : decode cX12_alarmed 49 = .ok (.iinc 3 1, 3) := by decide +kernel
theorem dX12_alarmed_52 : decode cX12_alarmed 52 = .ok (.goto (-22), 3) := by decide +kernel
theorem dX12_alarmed_55 : decode cX12_alarmed 55 = .ok (.iconst (-1), 1) := by decide +kernel
theorem dX12_alarmed_56 : decode cX12_alarmed 56 = .ok (.ireturn, 1) := by decide +kernel
def M_alarmed_30 (K : Int32 → th_St → Prop) (k30 : Int32 → Int32 → th_St → Prop) (x1 : Int32) (x3 : Int32) (u : th_St) : Prop :=
  (((u.1 42) ≤ x3 → K (-1 : Int32) u) ∧ (¬ (u.1 42) ≤ x3 → M_isAlarm x1 x3 u (fun r_2 u_1 => ((r_2 = 0 → ∀ x3_3 : Int32, x3_3 = x3 + (1 : Int32) → k30 x1 x3_3 u_1) ∧ (¬ r_2 = 0 → K x3 u_1)))))
set_option maxHeartbeats 4000000 in
set_option maxRecDepth 100000 in
theorem M_alarmed_30_w {K : Int32 → th_St → Prop} {k30 : Int32 → Int32 → th_St → Prop} (C : th_Cx p s m args meth c cX12_alarmed RX12 4 (some .int) (dC, dI) (th_ty cs) th_E0 A) (hk30 : ∀ (x1 : Int32) (x3 : Int32) (u : th_St) (H : Heap) (locs : List Loc) (ls : Array Slot), k30 x1 x3 u → th_wI (dC, dI) (wM cs q) A s.heap u H locs → lv_has ls 4 [(0, .ref (q 0)), (1, .int x1), (3, .int x3)] → W p l e (th_rm 4 0 0) s m args below meth c H locs 0 0 (MQ below (va_Qi K (th_Post (dC, dI) (wM cs q) A) A) args s 0 0 A) (F0 m 30 ls [])) (x1 : Int32) (x3 : Int32) (u : th_St) (H : Heap) (locs : List Loc) (ls : Array Slot) (hf : M_alarmed_30 K k30 x1 x3 u) (hw : th_wI (dC, dI) (wM cs q) A s.heap u H locs) (hl : lv_has ls 4 [(0, .ref (q 0)), (1, .int x1), (3, .int x3)]) : W p l e (th_rm 4 0 0) s m args below meth c H locs 0 0 (MQ below (va_Qi K (th_Post (dC, dI) (wM cs q) A) A) args s 0 0 A) (F0 m 30 ls []) := by
  have hx := C.1
  have hb := C.2.1
  unfold M_alarmed_30 at hf
  refine lv_iload_n hx hb dX12_alarmed_30 rfl (lv_at hl 2 rfl) ?_
  refine lv_aload_n hx hb dX12_alarmed_31 rfl (lv_at hl 0 rfl) ?_
  refine mg_42 C hw dX12_alarmed_32 ?_
  refine lv_icmp_ge (tgt := 55) hx hb dX12_alarmed_35 (by decide) (fun hc => ?_) (fun hc => ?_)
  · replace hf := hf.1 hc
    clear hc
    refine lv_iconst (v := (-1 : Int32)) hx hb dX12_alarmed_55 (by decide) ?_
    exact th_iret C hw hf dX12_alarmed_56
  · replace hf := hf.2 hc
    clear hc
    refine lv_aload_n hx hb dX12_alarmed_38 rfl (lv_at hl 0 rfl) ?_
    refine lv_iload_n hx hb dX12_alarmed_39 rfl (lv_at hl 1 rfl) ?_
    refine lv_iload_n hx hb dX12_alarmed_40 rfl (lv_at hl 2 rfl) ?_
    refine th_callVi (As := [.int x1, .int x3]) (rest := []) C lkX12_356 (M_isAlarm_c hf) hw (mRc C hw) rfl rfl ⟨Nat.le_of_ble_eq_true rfl, Nat.le_of_ble_eq_true rfl⟩ hl.1 (Nat.le_of_ble_eq_true rfl) ⟨Nat.le_refl _, Nat.le_refl _⟩ dX12_alarmed_41 (fun r_2 u_1 H locs hf hw => ?_)
    refine lv_if_eq (tgt := 49) hx hb dX12_alarmed_44 (by decide) (fun hc => ?_) (fun hc => ?_)
    · replace hf := hf.1 hc
      clear hc
      obtain ⟨x3_3, e9⟩ : ∃ y : Int32, y = x3 + (1 : Int32) := ⟨_, rfl⟩
      replace hf := hf x3_3 e9
      refine lv_iinc (v := x3_3) (lv' := [(3, .int x3_3), (0, .ref (q 0)), (1, .int x1)]) hx hb dX12_alarmed_49 hl (k := 2) rfl (by rw [e9]; rfl) (by decide) rfl (fun ls hl => ?_)
      clear e9
      refine lv_goto (tgt := 30) hx hb dX12_alarmed_52 (by decide) ?_
      exact hk30 x1 x3_3 u_1 _ _ _ hf hw (lv_sub hl [1, 2, 0] rfl)
    · replace hf := hf.2 hc
      clear hc
      refine lv_iload_n hx hb dX12_alarmed_47 rfl (lv_at hl 2 rfl) ?_
      exact th_iret C hw hf dX12_alarmed_48
def M_alarmed_30_lp (K : Int32 → th_St → Prop) : Nat → Int32 → Int32 → th_St → Prop
  | 0, _, _, _ => False
  | n + 1, x1, x3, u => M_alarmed_30 K (M_alarmed_30_lp K n) x1 x3 u
set_option maxHeartbeats 4000000 in
set_option maxRecDepth 100000 in
theorem M_alarmed_30_lw {K : Int32 → th_St → Prop} (C : th_Cx p s m args meth c cX12_alarmed RX12 4 (some .int) (dC, dI) (th_ty cs) th_E0 A) (n : Nat) : ∀ (x1 : Int32) (x3 : Int32) (u : th_St) (H : Heap) (locs : List Loc) (ls : Array Slot), M_alarmed_30_lp K n x1 x3 u → th_wI (dC, dI) (wM cs q) A s.heap u H locs → lv_has ls 4 [(0, .ref (q 0)), (1, .int x1), (3, .int x3)] → W p l e (th_rm 4 0 0) s m args below meth c H locs 0 0 (MQ below (va_Qi K (th_Post (dC, dI) (wM cs q) A) A) args s 0 0 A) (F0 m 30 ls []) := by
  induction n with
  | zero => intro x1 x3 u H locs ls hf; exact hf.elim
  | succ n ih =>
    intro x1 x3 u H locs ls hf hw hl
    exact M_alarmed_30_w C ih x1 x3 u H locs ls hf hw hl
def M_alarmed (a1 : Int32) (a2 : Int32) (u : th_St) (K : Int32 → th_St → Prop) : Prop :=
  ∀ u_1 : th_St, u_1 = th_si u 0 (0 : Int32) → (vp_in (0 : Int32) 2 ∧ ∀ y_2 : Int32, y_2 = u_1.2.2.1 15 ((0 : Int32)).toNatClampNeg → M_isIn a1 (0 : Int32) (y_2 - (1 : Int32)) u_1 (fun r_4 u_3 => ((¬ r_4 = 0 → M_look a2 u_3 (fun u_5 => ∃ n, M_alarmed_30_lp K n a1 (0 : Int32) u_5)) ∧ (r_4 = 0 → K (-1 : Int32) u_3))))
set_option maxHeartbeats 4000000 in
set_option maxRecDepth 100000 in
theorem M_alarmed_c {l : Launch} {dC : Nat → ClassId} {dI : Nat → Nat → Nat} {cs : Nat → ClassId} {q : Nat → Nat} {a1 : Int32} {a2 : Int32} {u : th_St} {K : Int32 → th_St → Prop} (hf : M_alarmed a1 a2 u K) : th_Ci l yX12_alarmed cX12_alarmed 4 (some .int) 4 0 0 (dC, dI) (th_ty cs) th_E0 (wM cs q) [.ref (q 0), .int a1, .int a2] u K := by
  refine th_ofi (by decide) (Nat.le_of_ble_eq_true rfl) th_E0_ok ?_
  intro p e s m below meth c A ls C hw hl
  have C : th_Cx p s m _ meth c cX12_alarmed RX12 4 (some .int) (dC, dI) (th_ty cs) th_E0 A := C
  have hl : lv_has ls 4 [(0, .ref (q 0)), (1, .int a1), (2, .int a2)] := hl
  generalize (List.toArray _ : Array Value) = args at C ⊢
  have hx := C.1
  have hb := C.2.1
  unfold M_alarmed at hf
  refine lv_aload_n hx hb dX12_alarmed_0 rfl (lv_at hl 0 rfl) ?_
  refine lv_iconst (v := (0 : Int32)) hx hb dX12_alarmed_1 (by decide) ?_
  refine mp_0 C hw dX12_alarmed_2 (fun u_1 e9 H locs hw => ?_)
  replace hf := hf u_1 e9
  clear e9
  refine lv_iload_n hx hb dX12_alarmed_5 rfl (lv_at hl 1 rfl) ?_
  refine lv_iconst (v := (0 : Int32)) hx hb dX12_alarmed_6 (by decide) ?_
  refine lv_aload_n hx hb dX12_alarmed_7 rfl (lv_at hl 0 rfl) ?_
  refine mg_15 C hw dX12_alarmed_8 ?_
  refine lv_iconst (v := (0 : Int32)) hx hb dX12_alarmed_11 (by decide) ?_
  refine ml_15 C hw hf.1 dX12_alarmed_12 (fun y_2 e9 => ?_)
  replace hf := hf.2 y_2 e9
  clear e9
  refine lv_iconst (v := (1 : Int32)) hx hb dX12_alarmed_13 (by decide) ?_
  refine lv_isub hx hb dX12_alarmed_14 ?_
  refine th_callSi (As := [.int a1, .int (0 : Int32), .int (y_2 - (1 : Int32))]) (rest := []) C lkX12_24 (M_isIn_c hf) hw rfl rfl ⟨Nat.le_of_ble_eq_true rfl, Nat.le_of_ble_eq_true rfl⟩ hl.1 (Nat.le_of_ble_eq_true rfl) ⟨Nat.le_refl _, Nat.le_refl _⟩ dX12_alarmed_15 (fun r_4 u_3 H locs hf hw => ?_)
  refine lv_if_ne (tgt := 23) hx hb dX12_alarmed_18 (by decide) (fun hc => ?_) (fun hc => ?_)
  · replace hf := hf.1 hc
    clear hc
    refine lv_aload_n hx hb dX12_alarmed_23 rfl (lv_at hl 0 rfl) ?_
    refine lv_iload_n hx hb dX12_alarmed_24 rfl (lv_at hl 2 rfl) ?_
    refine th_callVv (As := [.int a2]) (rest := []) C lkX12_337 (M_look_c hf) hw (mRc C hw) rfl rfl ⟨Nat.le_of_ble_eq_true rfl, Nat.le_of_ble_eq_true rfl⟩ hl.1 (Nat.le_of_ble_eq_true rfl) ⟨Nat.le_refl _, Nat.le_refl _⟩ dX12_alarmed_25 (fun u_5 H locs hf hw => ?_)
    refine lv_iconst (v := (0 : Int32)) hx hb dX12_alarmed_28 (by decide) ?_
    refine lv_istore_n (lv' := [(3, .int (0 : Int32)), (0, .ref (q 0)), (1, .int a1), (2, .int a2)]) hx hb dX12_alarmed_29 rfl hl (by decide) rfl (fun ls hl => ?_)
    obtain ⟨n, hf⟩ := hf
    exact M_alarmed_30_lw C n a1 (0 : Int32) u_5 _ _ _ hf hw (lv_sub hl [1, 2, 0] rfl)
  · replace hf := hf.2 hc
    clear hc
    refine lv_iconst (v := (-1 : Int32)) hx hb dX12_alarmed_21 (by decide) ?_
    exact th_iret C hw hf dX12_alarmed_22
/-! X12_alarmLine -/
theorem dX12_alarmLine_0 : decode cX12_alarmLine 0 = .ok (.bipush 6, 2) := by decide +kernel
theorem dX12_alarmLine_2 : decode cX12_alarmLine 2 = .ok (.aload_n 0, 1) := by decide +kernel
theorem dX12_alarmLine_3 : decode cX12_alarmLine 3 = .ok (.getfield 66, 3) := by decide +kernel
theorem dX12_alarmLine_6 : decode cX12_alarmLine 6 = .ok (.iconst 1, 1) := by decide +kernel
theorem dX12_alarmLine_7 : decode cX12_alarmLine 7 = .ok (.iaload, 1) := by decide +kernel
theorem dX12_alarmLine_8 : decode cX12_alarmLine 8 = .ok (.iadd, 1) := by decide +kernel
theorem dX12_alarmLine_9 : decode cX12_alarmLine 9 = .ok (.istore_n 1, 1) := by decide +kernel
theorem dX12_alarmLine_10 : decode cX12_alarmLine 10 = .ok (.aload_n 0, 1) := by decide +kernel
theorem dX12_alarmLine_11 : decode cX12_alarmLine 11 = .ok (.getfield 45, 3) := by decide +kernel
theorem dX12_alarmLine_14 : decode cX12_alarmLine 14 = .ok (.iload_n 1, 1) := by decide +kernel
theorem dX12_alarmLine_15 : decode cX12_alarmLine 15 = .ok (.aload_n 0, 1) := by decide +kernel
theorem dX12_alarmLine_16 : decode cX12_alarmLine 16 = .ok (.getfield 173, 3) := by decide +kernel
theorem dX12_alarmLine_19 : decode cX12_alarmLine 19 = .ok (.iastore, 1) := by decide +kernel
theorem dX12_alarmLine_20 : decode cX12_alarmLine 20 = .ok (.aload_n 0, 1) := by decide +kernel
theorem dX12_alarmLine_21 : decode cX12_alarmLine 21 = .ok (.invokevirtual 263, 3) := by decide +kernel
theorem dX12_alarmLine_24 : decode cX12_alarmLine 24 = .ok (.ifCond .ne 5, 3) := by decide +kernel
theorem dX12_alarmLine_27 : decode cX12_alarmLine 27 = .ok (.iconst 0, 1) := by decide +kernel
theorem dX12_alarmLine_28 : decode cX12_alarmLine 28 = .ok (.ireturn, 1) := by decide +kernel
theorem dX12_alarmLine_29 : decode cX12_alarmLine 29 = .ok (.aload_n 0, 1) := by decide +kernel
theorem dX12_alarmLine_30 : decode cX12_alarmLine 30 = .ok (.getfield 48, 3) := by decide +kernel
theorem dX12_alarmLine_33 : decode cX12_alarmLine 33 = .ok (.iload_n 1, 1) := by decide +kernel
theorem dX12_alarmLine_34 : decode cX12_alarmLine 34 = .ok (.aload_n 0, 1) := by decide +kernel
theorem dX12_alarmLine_35 : decode cX12_alarmLine 35 = .ok (.getfield 173, 3) := by decide +kernel
theorem dX12_alarmLine_38 : decode cX12_alarmLine 38 = .ok (.iastore, 1) := by decide +kernel
theorem dX12_alarmLine_39 : decode cX12_alarmLine 39 = .ok (.aload_n 0, 1) := by decide +kernel
theorem dX12_alarmLine_40 : decode cX12_alarmLine 40 = .ok (.ldc2_w 266, 3) := by decide +kernel
theorem dX12_alarmLine_43 : decode cX12_alarmLine 43 = .ok (.invokevirtual 258, 3) := by decide +kernel
theorem dX12_alarmLine_46 : decode cX12_alarmLine 46 = .ok (.ifCond .eq 13, 3) := by decide +kernel
theorem dX12_alarmLine_49 : decode cX12_alarmLine 49 = .ok (.aload_n 0, 1) := by decide +kernel
theorem dX12_alarmLine_50 : decode cX12_alarmLine 50 = .ok (.iconst 1, 1) := by decide +kernel
theorem dX12_alarmLine_51 : decode cX12_alarmLine 51 = .ok (.bipush 9, 2) := by decide +kernel
theorem dX12_alarmLine_53 : decode cX12_alarmLine 53 = .ok (.invokevirtual 230, 3) := by decide +kernel
theorem dX12_alarmLine_56 : decode cX12_alarmLine 56 = .ok (.ifCond .ne 5, 3) := by decide +kernel
theorem dX12_alarmLine_59 : decode cX12_alarmLine 59 = .ok (.iconst 0, 1) := by decide +kernel
theorem dX12_alarmLine_60 : decode cX12_alarmLine 60 = .ok (.ireturn, 1) := by decide +kernel
theorem dX12_alarmLine_61 : decode cX12_alarmLine 61 = .ok (.aload_n 0, 1) := by decide +kernel
theorem dX12_alarmLine_62 : decode cX12_alarmLine 62 = .ok (.getfield 51, 3) := by decide +kernel
theorem dX12_alarmLine_65 : decode cX12_alarmLine 65 = .ok (.iload_n 1, 1) := by decide +kernel
theorem dX12_alarmLine_66 : decode cX12_alarmLine 66 = .ok (.aload_n 0, 1) := by decide +kernel
theorem dX12_alarmLine_67 : decode cX12_alarmLine 67 = .ok (.getfield 221, 3) := by decide +kernel
theorem dX12_alarmLine_70 : decode cX12_alarmLine 70 = .ok (.iastore, 1) := by decide +kernel
theorem dX12_alarmLine_71 : decode cX12_alarmLine 71 = .ok (.aload_n 0, 1) := by decide +kernel
theorem dX12_alarmLine_72 : decode cX12_alarmLine 72 = .ok (.getfield 66, 3) := by decide +kernel
theorem dX12_alarmLine_75 : decode cX12_alarmLine 75 = .ok (.iconst 1, 1) := by decide +kernel
theorem dX12_alarmLine_76 : decode cX12_alarmLine 76 = .ok (.dup2, 1) := by decide +kernel
theorem dX12_alarmLine_77 : decode cX12_alarmLine 77 = .ok (.iaload, 1) := by decide +kernel
theorem dX12_alarmLine_78 : decode cX12_alarmLine 78 = .ok (.iconst 1, 1) := by decide +kernel
theorem dX12_alarmLine_79 : decode cX12_alarmLine 79 = .ok (.iadd, 1) := by decide +kernel
theorem dX12_alarmLine_80 : decode cX12_alarmLine 80 = .ok (.iastore, 1) := by decide +kernel
theorem dX12_alarmLine_81 : decode cX12_alarmLine 81 = .ok (.iconst 1, 1) := by decide +kernel
theorem dX12_alarmLine_82 : decode cX12_alarmLine 82 = .ok (.ireturn, 1) := by decide +kernel
def M_alarmLine_59 (K : Int32 → th_St → Prop) (u : th_St) : Prop :=
  (((0 : Int32) = 0 ∨ (0 : Int32) = 1) ∧ K (0 : Int32) u)
set_option maxHeartbeats 4000000 in
set_option maxRecDepth 100000 in
theorem M_alarmLine_59_w {K : Int32 → th_St → Prop} (C : th_Cx p s m args meth c cX12_alarmLine RX12 2 (some .boolean) (dC, dI) (th_ty cs) th_E0 A) (u : th_St) (H : Heap) (locs : List Loc) (ls : Array Slot) (hf : M_alarmLine_59 K u) (hw : th_wI (dC, dI) (wM cs q) A s.heap u H locs) (hl : lv_has ls 2 []) : W p l e (th_rm 5 0 0) s m args below meth c H locs 0 0 (MQ below (va_Qi K (th_Post (dC, dI) (wM cs q) A) A) args s 0 0 A) (F0 m 59 ls []) := by
  have hx := C.1
  have hb := C.2.1
  unfold M_alarmLine_59 at hf
  refine lv_iconst (v := (0 : Int32)) hx hb dX12_alarmLine_59 (by decide) ?_
  exact th_zret C hw hf dX12_alarmLine_60
def M_alarmLine (u : th_St) (K : Int32 → th_St → Prop) : Prop :=
  (vp_in (1 : Int32) 2 ∧ ∀ y_1 : Int32, y_1 = u.2.2.1 15 ((1 : Int32)).toNatClampNeg → ∀ y_2 : Int32, y_2 = ((6 : Int32) + y_1) → (vp_in y_2 12 ∧ ∀ u_3 : th_St, u_3 = th_sa u 8 (upd (u.2.2.1 8) (y_2).toNatClampNeg (u.1 21)) → M_cond u_3 (fun r_5 u_4 => ((¬ r_5 = 0 → (vp_in y_2 12 ∧ ∀ u_6 : th_St, u_6 = th_sa u_4 9 (upd (u_4.2.2.1 9) (y_2).toNatClampNeg (u_4.1 21)) → M_takesWord (6713202 : Int64) u_6 (fun r_8 u_7 => ((r_8 = 0 → M_alarmLine_59 K u_7) ∧ (¬ r_8 = 0 → M_takes (1 : Int32) (9 : Int32) u_7 (fun r_10 u_9 => ((¬ r_10 = 0 → (vp_in y_2 12 ∧ ∀ u_11 : th_St, u_11 = th_sa u_9 10 (upd (u_9.2.2.1 10) (y_2).toNatClampNeg (u_9.1 33)) → (vp_in (1 : Int32) 2 ∧ ∀ y_12 : Int32, y_12 = u_11.2.2.1 15 ((1 : Int32)).toNatClampNeg → (vp_in (1 : Int32) 2 ∧ ∀ u_13 : th_St, u_13 = th_sa u_11 15 (upd (u_11.2.2.1 15) ((1 : Int32)).toNatClampNeg (y_12 + (1 : Int32))) → (((1 : Int32) = 0 ∨ (1 : Int32) = 1) ∧ K (1 : Int32) u_13))))) ∧ (r_10 = 0 → M_alarmLine_59 K u_9)))))))) ∧ (r_5 = 0 → (((0 : Int32) = 0 ∨ (0 : Int32) = 1) ∧ K (0 : Int32) u_4))))))
set_option maxHeartbeats 4000000 in
set_option maxRecDepth 100000 in
theorem M_alarmLine_c {l : Launch} {dC : Nat → ClassId} {dI : Nat → Nat → Nat} {cs : Nat → ClassId} {q : Nat → Nat} {u : th_St} {K : Int32 → th_St → Prop} (hf : M_alarmLine u K) : th_Ci l yX12_alarmLine cX12_alarmLine 2 (some .boolean) 5 0 0 (dC, dI) (th_ty cs) th_E0 (wM cs q) [.ref (q 0)] u K := by
  refine th_ofi (by decide) (Nat.le_of_ble_eq_true rfl) th_E0_ok ?_
  intro p e s m below meth c A ls C hw hl
  have C : th_Cx p s m _ meth c cX12_alarmLine RX12 2 (some .boolean) (dC, dI) (th_ty cs) th_E0 A := C
  have hl : lv_has ls 2 [(0, .ref (q 0))] := hl
  generalize (List.toArray _ : Array Value) = args at C ⊢
  have hx := C.1
  have hb := C.2.1
  unfold M_alarmLine at hf
  refine lv_bipush (v := (6 : Int32)) hx hb dX12_alarmLine_0 (by decide) ?_
  refine lv_aload_n hx hb dX12_alarmLine_2 rfl (lv_at hl 0 rfl) ?_
  refine mg_15 C hw dX12_alarmLine_3 ?_
  refine lv_iconst (v := (1 : Int32)) hx hb dX12_alarmLine_6 (by decide) ?_
  refine ml_15 C hw hf.1 dX12_alarmLine_7 (fun y_1 e9 => ?_)
  replace hf := hf.2 y_1 e9
  clear e9
  refine lv_iadd hx hb dX12_alarmLine_8 ?_
  refine lv_topi (fun y_2 e9 => ?_)
  replace hf := hf y_2 e9
  clear e9
  refine lv_istore_n (lv' := [(1, .int y_2), (0, .ref (q 0))]) hx hb dX12_alarmLine_9 rfl hl (by decide) rfl (fun ls hl => ?_)
  refine lv_aload_n hx hb dX12_alarmLine_10 rfl (lv_at hl 1 rfl) ?_
  refine mg_8 C hw dX12_alarmLine_11 ?_
  refine lv_iload_n hx hb dX12_alarmLine_14 rfl (lv_at hl 0 rfl) ?_
  refine lv_aload_n hx hb dX12_alarmLine_15 rfl (lv_at hl 1 rfl) ?_
  refine mg_21 C hw dX12_alarmLine_16 ?_
  refine ms_8 C hw hf.1 dX12_alarmLine_19 (fun u_3 e9 H locs hw => ?_)
  replace hf := hf.2 u_3 e9
  clear e9
  refine lv_aload_n hx hb dX12_alarmLine_20 rfl (lv_at hl 1 rfl) ?_
  refine th_callVi (As := []) (rest := []) C lkX12_263 (M_cond_c hf) hw (mRc C hw) rfl rfl ⟨Nat.le_of_ble_eq_true rfl, Nat.le_of_ble_eq_true rfl⟩ hl.1 (Nat.le_of_ble_eq_true rfl) ⟨Nat.le_refl _, Nat.le_refl _⟩ dX12_alarmLine_21 (fun r_5 u_4 H locs hf hw => ?_)
  refine lv_if_ne (tgt := 29) hx hb dX12_alarmLine_24 (by decide) (fun hc => ?_) (fun hc => ?_)
  · replace hf := hf.1 hc
    clear hc
    refine lv_aload_n hx hb dX12_alarmLine_29 rfl (lv_at hl 1 rfl) ?_
    refine mg_9 C hw dX12_alarmLine_30 ?_
    refine lv_iload_n hx hb dX12_alarmLine_33 rfl (lv_at hl 0 rfl) ?_
    refine lv_aload_n hx hb dX12_alarmLine_34 rfl (lv_at hl 1 rfl) ?_
    refine mg_21 C hw dX12_alarmLine_35 ?_
    refine ms_9 C hw hf.1 dX12_alarmLine_38 (fun u_6 e9 H locs hw => ?_)
    replace hf := hf.2 u_6 e9
    clear e9
    refine lv_aload_n hx hb dX12_alarmLine_39 rfl (lv_at hl 1 rfl) ?_
    refine lv_ldc2 hx hb C.2.2.2.1 (C.2.2.2.2.1 _ hwK_X12_266) dX12_alarmLine_40 ?_
    refine th_callVi (As := [.long (6713202 : Int64)]) (rest := []) C lkX12_258 (M_takesWord_c hf) hw (mRc C hw) rfl rfl ⟨Nat.le_of_ble_eq_true rfl, Nat.le_of_ble_eq_true rfl⟩ hl.1 (Nat.le_of_ble_eq_true rfl) ⟨Nat.le_refl _, Nat.le_refl _⟩ dX12_alarmLine_43 (fun r_8 u_7 H locs hf hw => ?_)
    refine lv_if_eq (tgt := 59) hx hb dX12_alarmLine_46 (by decide) (fun hc => ?_) (fun hc => ?_)
    · replace hf := hf.1 hc
      clear hc
      exact M_alarmLine_59_w C  u_7 _ _ _ hf hw (lv_sub hl [] rfl)
    · replace hf := hf.2 hc
      clear hc
      refine lv_aload_n hx hb dX12_alarmLine_49 rfl (lv_at hl 1 rfl) ?_
      refine lv_iconst (v := (1 : Int32)) hx hb dX12_alarmLine_50 (by decide) ?_
      refine lv_bipush (v := (9 : Int32)) hx hb dX12_alarmLine_51 (by decide) ?_
      refine th_callVi (As := [.int (1 : Int32), .int (9 : Int32)]) (rest := []) C lkX12_230 (M_takes_c hf) hw (mRc C hw) rfl rfl ⟨Nat.le_of_ble_eq_true rfl, Nat.le_of_ble_eq_true rfl⟩ hl.1 (Nat.le_of_ble_eq_true rfl) ⟨Nat.le_refl _, Nat.le_refl _⟩ dX12_alarmLine_53 (fun r_10 u_9 H locs hf hw => ?_)
      refine lv_if_ne (tgt := 61) hx hb dX12_alarmLine_56 (by decide) (fun hc => ?_) (fun hc => ?_)
      · replace hf := hf.1 hc
        clear hc
        refine lv_aload_n hx hb dX12_alarmLine_61 rfl (lv_at hl 1 rfl) ?_
        refine mg_10 C hw dX12_alarmLine_62 ?_
        refine lv_iload_n hx hb dX12_alarmLine_65 rfl (lv_at hl 0 rfl) ?_
        refine lv_aload_n hx hb dX12_alarmLine_66 rfl (lv_at hl 1 rfl) ?_
        refine mg_33 C hw dX12_alarmLine_67 ?_
        refine ms_10 C hw hf.1 dX12_alarmLine_70 (fun u_11 e9 H locs hw => ?_)
        replace hf := hf.2 u_11 e9
        clear e9
        refine lv_aload_n hx hb dX12_alarmLine_71 rfl (lv_at hl 1 rfl) ?_
        refine mg_15 C hw dX12_alarmLine_72 ?_
        refine lv_iconst (v := (1 : Int32)) hx hb dX12_alarmLine_75 (by decide) ?_
        refine lv_dup2_11 hx hb dX12_alarmLine_76 rfl rfl ?_
        refine ml_15 C hw hf.1 dX12_alarmLine_77 (fun y_12 e9 => ?_)
        replace hf := hf.2 y_12 e9
        clear e9
        refine lv_iconst (v := (1 : Int32)) hx hb dX12_alarmLine_78 (by decide) ?_
        refine lv_iadd hx hb dX12_alarmLine_79 ?_
        refine ms_15 C hw hf.1 dX12_alarmLine_80 (fun u_13 e9 H locs hw => ?_)
        replace hf := hf.2 u_13 e9
        clear e9
        refine lv_iconst (v := (1 : Int32)) hx hb dX12_alarmLine_81 (by decide) ?_
        exact th_zret C hw hf dX12_alarmLine_82
      · replace hf := hf.2 hc
        clear hc
        exact M_alarmLine_59_w C  u_9 _ _ _ hf hw (lv_sub hl [] rfl)
  · replace hf := hf.2 hc
    clear hc
    refine lv_iconst (v := (0 : Int32)) hx hb dX12_alarmLine_27 (by decide) ?_
    exact th_zret C hw hf dX12_alarmLine_28
/-! X12_line -/
theorem dX12_line_0 : decode cX12_line 0 = .ok (.iload_n 1, 1) := by decide +kernel
theorem dX12_line_1 : decode cX12_line 1 = .ok (.iconst 3, 1) := by decide +kernel
theorem dX12_line_2 : decode cX12_line 2 = .ok (.if_icmp .ge 70, 3) := by decide +kernel
theorem dX12_line_5 : decode cX12_line 5 = .ok (.aload_n 0, 1) := by decide +kernel
theorem dX12_line_6 : decode cX12_line 6 = .ok (.iload_n 1, 1) := by decide +kernel
theorem dX12_line_7 : decode cX12_line 7 = .ok (.iconst 2, 1) := by decide +kernel
theorem dX12_line_8 : decode cX12_line 8 = .ok (.if_icmp .ne 7, 3) := by decide +kernel
theorem dX12_line_11 : decode cX12_line 11 = .ok (.iconst 0, 1) := by decide +kernel
theorem dX12_line_12 : decode cX12_line 12 = .ok (.goto 4, 3) := by decide +kernel
theorem dX12_line_15 : decode cX12_line 15 = .ok (.iconst 1, 1) := by decide +kernel
theorem dX12_line_16 : decode cX12_line 16 = .ok (.bipush 9, 2) := by decide +kernel
theorem dX12_line_18 : decode cX12_line 18 = .ok (.invokevirtual 230, 3) := by decide +kernel
theorem dX12_line_21 : decode cX12_line 21 = .ok (.ifCond .ne 5, 3) := by decide +kernel
theorem dX12_line_24 : decode cX12_line 24 = .ok (.iconst 0, 1) := by decide +kernel
theorem dX12_line_25 : decode cX12_line 25 = .ok (.ireturn, 1) := by decide +kernel
theorem dX12_line_26 : decode cX12_line 26 = .ok (.iload_n 1, 1) := by decide +kernel
theorem dX12_line_27 : decode cX12_line 27 = .ok (.ifCond .ne 13, 3) := by decide +kernel
theorem dX12_line_30 : decode cX12_line 30 = .ok (.aload_n 0, 1) := by decide +kernel
theorem dX12_line_31 : decode cX12_line 31 = .ok (.getfield 57, 3) := by decide +kernel
theorem dX12_line_34 : decode cX12_line 34 = .ok (.iconst 1, 1) := by decide +kernel
theorem dX12_line_35 : decode cX12_line 35 = .ok (.aload_n 0, 1) := by decide +kernel
theorem dX12_line_36 : decode cX12_line 36 = .ok (.getfield 221, 3) := by decide +kernel
theorem dX12_line_39 : decode cX12_line 39 = .ok (.iastore, 1) := by decide +kernel
theorem dX12_line_40 : decode cX12_line 40 = .ok (.iload_n 1, 1) := by decide +kernel
theorem dX12_line_41 : decode cX12_line 41 = .ok (.iconst 1, 1) := by decide +kernel
theorem dX12_line_42 : decode cX12_line 42 = .ok (.if_icmp .ne 13, 3) := by decide +kernel
theorem dX12_line_45 : decode cX12_line 45 = .ok (.aload_n 0, 1) := by decide +kernel
theorem dX12_line_46 : decode cX12_line 46 = .ok (.getfield 60, 3) := by decide +kernel
theorem dX12_line_49 : decode cX12_line 49 = .ok (.iconst 1, 1) := by decide +kernel
theorem dX12_line_50 : decode cX12_line 50 = .ok (.aload_n 0, 1) := by decide +kernel
theorem dX12_line_51 : decode cX12_line 51 = .ok (.getfield 221, 3) := by decide +kernel
theorem dX12_line_54 : decode cX12_line 54 = .ok (.iastore, 1) := by decide +kernel
theorem dX12_line_55 : decode cX12_line 55 = .ok (.iload_n 1, 1) := by decide +kernel
theorem dX12_line_56 : decode cX12_line 56 = .ok (.iconst 2, 1) := by decide +kernel
theorem dX12_line_57 : decode cX12_line 57 = .ok (.if_icmp .ne 13, 3) := by decide +kernel
theorem dX12_line_60 : decode cX12_line 60 = .ok (.aload_n 0, 1) := by decide +kernel
theorem dX12_line_61 : decode cX12_line 61 = .ok (.getfield 63, 3) := by decide +kernel
theorem dX12_line_64 : decode cX12_line 64 = .ok (.iconst 1, 1) := by decide +kernel
theorem dX12_line_65 : decode cX12_line 65 = .ok (.aload_n 0, 1) := by decide +kernel
theorem dX12_line_66 : decode cX12_line 66 = .ok (.getfield 221, 3) := by decide +kernel
theorem dX12_line_69 : decode cX12_line 69 = .ok (.iastore, 1) := by decide +kernel
theorem dX12_line_70 : decode cX12_line 70 = .ok (.iconst 1, 1) := by decide +kernel
theorem dX12_line_71 : decode cX12_line 71 = .ok (.ireturn, 1) := by decide +kernel
theorem dX12_line_72 : decode cX12_line 72 = .ok (.iload_n 1, 1) := by decide +kernel
theorem dX12_line_73 : decode cX12_line 73 = .ok (.iconst 5, 1) := by decide +kernel
theorem dX12_line_74 : decode cX12_line 74 = .ok (.if_icmp .ne 8, 3) := by decide +kernel
theorem dX12_line_77 : decode cX12_line 77 = .ok (.aload_n 0, 1) := by decide +kernel
theorem dX12_line_78 : decode cX12_line 78 = .ok (.invokevirtual 252, 3) := by decide +kernel
theorem dX12_line_81 : decode cX12_line 81 = .ok (.ireturn, 1) := by decide +kernel
theorem dX12_line_82 : decode cX12_line 82 = .ok (.iconst 0, 1) := by decide +kernel
theorem dX12_line_83 : decode cX12_line 83 = .ok (.istore_n 2, 1) := by decide +kernel
theorem dX12_line_84 : decode cX12_line 84 = .ok (.iload_n 1, 1) := by decide +kernel
theorem dX12_line_85 : decode cX12_line 85 = .ok (.iconst 4, 1) := by decide +kernel
theorem dX12_line_86 : decode cX12_line 86 = .ok (.if_icmp .ne 32, 3) := by decide +kernel
theorem dX12_line_89 : decode cX12_line 89 = .ok (.aload_n 0, 1) := by decide +kernel
theorem dX12_line_90 : decode cX12_line 90 = .ok (.iconst 1, 1) := by decide +kernel
theorem dX12_line_91 : decode cX12_line 91 = .ok (.bipush 99, 2) := by decide +kernel
theorem dX12_line_93 : decode cX12_line 93 = .ok (.invokevirtual 230, 3) := by decide +kernel
theorem dX12_line_96 : decode cX12_line 96 = .ok (.ifCond .ne 5, 3) := by decide +kernel
theorem dX12_line_99 : decode cX12_line 99 = .ok (.iconst 0, 1) := by decide +kernel
theorem dX12_line_100 : decode cX12_line 100 = .ok (.ireturn, 1) := by decide +kernel
theorem dX12_line_101 : decode cX12_line 101 = .ok (.aload_n 0, 1) := by decide +kernel
theorem dX12_line_102 : decode cX12_line 102 = .ok (.getfield 221, 3) := by decide +kernel
theorem dX12_line_105 : decode cX12_line 105 = .ok (.istore_n 2, 1) := by decide +kernel
theorem dX12_line_106 : decode cX12_line 106 = .ok (.aload_n 0, 1) := by decide +kernel
theorem dX12_line_107 : decode cX12_line 107 = .ok (.ldc2_w 256, 3) := by decide +kernel
theorem dX12_line_110 : decode cX12_line 110 = .ok (.invokevirtual 258, 3) := by decide +kernel
theorem dX12_line_113 : decode cX12_line 113 = .ok (.ifCond .ne 5, 3) := by decide +kernel
theorem dX12_line_116 : decode cX12_line 116 = .ok (.iconst 0, 1) := by decide +kernel
theorem dX12_line_117 : decode cX12_line 117 = .ok (.ireturn, 1) := by decide +kernel
theorem dX12_line_118 : decode cX12_line 118 = .ok (.aload_n 0, 1) := by decide +kernel
theorem dX12_line_119 : decode cX12_line 119 = .ok (.iconst 0, 1) := by decide +kernel
theorem dX12_line_120 : decode cX12_line 120 = .ok (.aload_n 0, 1) := by decide +kernel
theorem dX12_line_121 : decode cX12_line 121 = .ok (.getfield 54, 3) := by decide +kernel
theorem dX12_line_124 : decode cX12_line 124 = .ok (.iconst 1, 1) := by decide +kernel
theorem dX12_line_125 : decode cX12_line 125 = .ok (.iaload, 1) := by decide +kernel
theorem dX12_line_126 : decode cX12_line 126 = .ok (.iconst 1, 1) := by decide +kernel
theorem dX12_line_127 : decode cX12_line 127 = .ok (.isub, 1) := by decide +kernel
theorem dX12_line_128 : decode cX12_line 128 = .ok (.invokevirtual 230, 3) := by decide +kernel
theorem dX12_line_131 : decode cX12_line 131 = .ok (.ifCond .ne 5, 3) := by decide +kernel
theorem dX12_line_134 : decode cX12_line 134 = .ok (.iconst 0, 1) := by decide +kernel
theorem dX12_line_135 : decode cX12_line 135 = .ok (.ireturn, 1) := by decide +kernel
theorem dX12_line_136 : decode cX12_line 136 = .ok (.aload_n 0, 1) := by decide +kernel
theorem dX12_line_137 : decode cX12_line 137 = .ok (.getfield 221, 3) := by decide +kernel
theorem dX12_line_140 : decode cX12_line 140 = .ok (.istore_n 3, 1) := by decide +kernel
theorem dX12_line_141 : decode cX12_line 141 = .ok (.aload_n 0, 1) := by decide +kernel
theorem dX12_line_142 : decode cX12_line 142 = .ok (.ldc2_w 261, 3) := by decide +kernel
theorem dX12_line_145 : decode cX12_line 145 = .ok (.invokevirtual 258, 3) := by decide +kernel
theorem dX12_line_148 : decode cX12_line 148 = .ok (.ifCond .eq 19, 3) := by decide +kernel
theorem dX12_line_151 : decode cX12_line 151 = .ok (.aload_n 0, 1) := by decide +kernel
theorem dX12_line_152 : decode cX12_line 152 = .ok (.iload_n 3, 1) := by decide +kernel
theorem dX12_line_153 : decode cX12_line 153 = .ok (.aload_n 0, 1) := by decide +kernel
theorem dX12_line_154 : decode cX12_line 154 = .ok (.getfield 54, 3) := by decide +kernel
theorem dX12_line_157 : decode cX12_line 157 = .ok (.iconst 1, 1) := by decide +kernel
theorem dX12_line_158 : decode cX12_line 158 = .ok (.iaload, 1) := by decide +kernel
theorem dX12_line_159 : decode cX12_line 159 = .ok (.iconst 1, 1) := by decide +kernel
theorem dX12_line_160 : decode cX12_line 160 = .ok (.isub, 1) := by decide +kernel
theorem dX12_line_161 : decode cX12_line 161 = .ok (.invokevirtual 230, 3) := by decide +kernel
theorem dX12_line_164 : decode cX12_line 164 = .ok (.ifCond .ne 5, 3) := by decide +kernel
theorem dX12_line_167 : decode cX12_line 167 = .ok (.iconst 0, 1) := by decide +kernel
theorem dX12_line_168 : decode cX12_line 168 = .ok (.ireturn, 1) := by decide +kernel
theorem dX12_line_169 : decode cX12_line 169 = .ok (.iload_n 3, 1) := by decide +kernel
theorem dX12_line_170 : decode cX12_line 170 = .ok (.istore 4, 2) := by decide +kernel
theorem dX12_line_172 : decode cX12_line 172 = .ok (.iload 4, 2) := by decide +kernel
theorem dX12_line_174 : decode cX12_line 174 = .ok (.aload_n 0, 1) := by decide +kernel
theorem dX12_line_175 : decode cX12_line 175 = .ok (.getfield 221, 3) := by decide +kernel
theorem dX12_line_178 : decode cX12_line 178 = .ok (.if_icmp .gt 39, 3) := by decide +kernel
theorem dX12_line_181 : decode cX12_line 181 = .ok (.iload_n 1, 1) := by decide +kernel
theorem dX12_line_182 : decode cX12_line 182 = .ok (.iconst 3, 1) := by decide +kernel
theorem dX12_line_183 : decode cX12_line 183 = .ok (.if_icmp .ne 17, 3) := by decide +kernel
theorem dX12_line_186 : decode cX12_line 186 = .ok (.aload_n 0, 1) := by decide +kernel
theorem dX12_line_187 : decode cX12_line 187 = .ok (.getfield 37, 3) := by decide +kernel
theorem dX12_line_190 : decode cX12_line 190 = .ok (.bipush 48, 2) := by decide +kernel
theorem dX12_line_192 : decode cX12_line 192 = .ok (.iload 4, 2) := by decide +kernel
theorem dX12_line_194 : decode cX12_line 194 = .ok (.iadd, 1) := by decide +kernel
theorem dX12_line_195 : decode cX12_line 195 = .ok (.iconst 1, 1) := by decide +kernel
theorem dX12_line_196 : decode cX12_line 196 = .ok (.bastore, 1) := by decide +kernel
theorem dX12_line_197 : decode cX12_line 197 = .ok (.goto 14, 3) := by decide +kernel
theorem dX12_line_200 : decode cX12_line 200 = .ok (.aload_n 0, 1) := by decide +kernel
theorem dX12_line_201 : decode cX12_line 201 = .ok (.getfield 41, 3) := by decide +kernel
theorem dX12_line_204 : decode cX12_line 204 = .ok (.bipush 48, 2) := by decide +kernel
theorem dX12_line_206 : decode cX12_line 206 = .ok (.iload 4, 2) := by decide +kernel
theorem dX12_line_208 : decode cX12_line 208 = .ok (.iadd, 1) := by decide +kernel
theorem dX12_line_209 : decode cX12_line 209 = .ok (.iload_n 2, 1) := by decide +kernel
theorem dX12_line_210 : decode cX12_line 210 = .ok (.iastore, 1) := by decide +kernel
theorem dX12_line_211 : decode cX12_line 211 = .ok (.iinc 4 1, 3) := by decide +kernel
theorem dX12_line_214 : decode cX12_line 214 = .ok (.goto (-42), 3) := by decide +kernel
theorem dX12_line_217 : decode cX12_line 217 = .ok (.iconst 1, 1) := by decide +kernel
theorem dX12_line_218 : decode cX12_line 218 = .ok (.ireturn, 1) := by decide +kernel
def M_line_70 (K : Int32 → th_St → Prop) (u : th_St) : Prop :=
  (((1 : Int32) = 0 ∨ (1 : Int32) = 1) ∧ K (1 : Int32) u)
set_option maxHeartbeats 4000000 in
set_option maxRecDepth 100000 in
theorem M_line_70_w {K : Int32 → th_St → Prop} (C : th_Cx p s m args meth c cX12_line RX12 5 (some .boolean) (dC, dI) (th_ty cs) th_E0 A) (u : th_St) (H : Heap) (locs : List Loc) (ls : Array Slot) (hf : M_line_70 K u) (hw : th_wI (dC, dI) (wM cs q) A s.heap u H locs) (hl : lv_has ls 5 []) : W p l e (th_rm 6 0 0) s m args below meth c H locs 0 0 (MQ below (va_Qi K (th_Post (dC, dI) (wM cs q) A) A) args s 0 0 A) (F0 m 70 ls []) := by
  have hx := C.1
  have hb := C.2.1
  unfold M_line_70 at hf
  refine lv_iconst (v := (1 : Int32)) hx hb dX12_line_70 (by decide) ?_
  exact th_zret C hw hf dX12_line_71
def M_line_55 (K : Int32 → th_St → Prop) (x1 : Int32) (u : th_St) : Prop :=
  ((¬ x1 = (2 : Int32) → M_line_70 K u) ∧ (x1 = (2 : Int32) → (vp_in (1 : Int32) 2 ∧ ∀ u_1 : th_St, u_1 = th_sa u 14 (upd (u.2.2.1 14) ((1 : Int32)).toNatClampNeg (u.1 33)) → M_line_70 K u_1)))
set_option maxHeartbeats 4000000 in
set_option maxRecDepth 100000 in
theorem M_line_55_w {K : Int32 → th_St → Prop} (C : th_Cx p s m args meth c cX12_line RX12 5 (some .boolean) (dC, dI) (th_ty cs) th_E0 A) (x1 : Int32) (u : th_St) (H : Heap) (locs : List Loc) (ls : Array Slot) (hf : M_line_55 K x1 u) (hw : th_wI (dC, dI) (wM cs q) A s.heap u H locs) (hl : lv_has ls 5 [(0, .ref (q 0)), (1, .int x1)]) : W p l e (th_rm 6 0 0) s m args below meth c H locs 0 0 (MQ below (va_Qi K (th_Post (dC, dI) (wM cs q) A) A) args s 0 0 A) (F0 m 55 ls []) := by
  have hx := C.1
  have hb := C.2.1
  unfold M_line_55 at hf
  refine lv_iload_n hx hb dX12_line_55 rfl (lv_at hl 1 rfl) ?_
  refine lv_iconst (v := (2 : Int32)) hx hb dX12_line_56 (by decide) ?_
  refine lv_icmp_ne (tgt := 70) hx hb dX12_line_57 (by decide) (fun hc => ?_) (fun hc => ?_)
  · replace hf := hf.1 hc
    clear hc
    exact M_line_70_w C  u _ _ _ hf hw (lv_sub hl [] rfl)
  · replace hf := hf.2 hc
    clear hc
    refine lv_aload_n hx hb dX12_line_60 rfl (lv_at hl 0 rfl) ?_
    refine mg_14 C hw dX12_line_61 ?_
    refine lv_iconst (v := (1 : Int32)) hx hb dX12_line_64 (by decide) ?_
    refine lv_aload_n hx hb dX12_line_65 rfl (lv_at hl 0 rfl) ?_
    refine mg_33 C hw dX12_line_66 ?_
    refine ms_14 C hw hf.1 dX12_line_69 (fun u_1 e9 H locs hw => ?_)
    replace hf := hf.2 u_1 e9
    clear e9
    exact M_line_70_w C  u_1 _ _ _ hf hw (lv_sub hl [] rfl)
def M_line_40 (K : Int32 → th_St → Prop) (x1 : Int32) (u : th_St) : Prop :=
  ((¬ x1 = (1 : Int32) → M_line_55 K x1 u) ∧ (x1 = (1 : Int32) → (vp_in (1 : Int32) 2 ∧ ∀ u_1 : th_St, u_1 = th_sa u 13 (upd (u.2.2.1 13) ((1 : Int32)).toNatClampNeg (u.1 33)) → M_line_55 K x1 u_1)))
set_option maxHeartbeats 4000000 in
set_option maxRecDepth 100000 in
theorem M_line_40_w {K : Int32 → th_St → Prop} (C : th_Cx p s m args meth c cX12_line RX12 5 (some .boolean) (dC, dI) (th_ty cs) th_E0 A) (x1 : Int32) (u : th_St) (H : Heap) (locs : List Loc) (ls : Array Slot) (hf : M_line_40 K x1 u) (hw : th_wI (dC, dI) (wM cs q) A s.heap u H locs) (hl : lv_has ls 5 [(0, .ref (q 0)), (1, .int x1)]) : W p l e (th_rm 6 0 0) s m args below meth c H locs 0 0 (MQ below (va_Qi K (th_Post (dC, dI) (wM cs q) A) A) args s 0 0 A) (F0 m 40 ls []) := by
  have hx := C.1
  have hb := C.2.1
  unfold M_line_40 at hf
  refine lv_iload_n hx hb dX12_line_40 rfl (lv_at hl 1 rfl) ?_
  refine lv_iconst (v := (1 : Int32)) hx hb dX12_line_41 (by decide) ?_
  refine lv_icmp_ne (tgt := 55) hx hb dX12_line_42 (by decide) (fun hc => ?_) (fun hc => ?_)
  · replace hf := hf.1 hc
    clear hc
    exact M_line_55_w C x1 u _ _ _ hf hw (lv_sub hl [0, 1] rfl)
  · replace hf := hf.2 hc
    clear hc
    refine lv_aload_n hx hb dX12_line_45 rfl (lv_at hl 0 rfl) ?_
    refine mg_13 C hw dX12_line_46 ?_
    refine lv_iconst (v := (1 : Int32)) hx hb dX12_line_49 (by decide) ?_
    refine lv_aload_n hx hb dX12_line_50 rfl (lv_at hl 0 rfl) ?_
    refine mg_33 C hw dX12_line_51 ?_
    refine ms_13 C hw hf.1 dX12_line_54 (fun u_1 e9 H locs hw => ?_)
    replace hf := hf.2 u_1 e9
    clear e9
    exact M_line_55_w C x1 u_1 _ _ _ hf hw (lv_sub hl [0, 1] rfl)
def M_line_16 (K : Int32 → th_St → Prop) (x1 : Int32) (z0 : Int32) (u : th_St) : Prop :=
  M_takes z0 (9 : Int32) u (fun r_2 u_1 => ((¬ r_2 = 0 → ((¬ x1 = 0 → M_line_40 K x1 u_1) ∧ (x1 = 0 → (vp_in (1 : Int32) 2 ∧ ∀ u_3 : th_St, u_3 = th_sa u_1 12 (upd (u_1.2.2.1 12) ((1 : Int32)).toNatClampNeg (u_1.1 33)) → M_line_40 K x1 u_3)))) ∧ (r_2 = 0 → (((0 : Int32) = 0 ∨ (0 : Int32) = 1) ∧ K (0 : Int32) u_1))))
set_option maxHeartbeats 4000000 in
set_option maxRecDepth 100000 in
theorem M_line_16_w {K : Int32 → th_St → Prop} (C : th_Cx p s m args meth c cX12_line RX12 5 (some .boolean) (dC, dI) (th_ty cs) th_E0 A) (x1 : Int32) (z0 : Int32) (u : th_St) (H : Heap) (locs : List Loc) (ls : Array Slot) (hf : M_line_16 K x1 z0 u) (hw : th_wI (dC, dI) (wM cs q) A s.heap u H locs) (hl : lv_has ls 5 [(0, .ref (q 0)), (1, .int x1)]) : W p l e (th_rm 6 0 0) s m args below meth c H locs 0 0 (MQ below (va_Qi K (th_Post (dC, dI) (wM cs q) A) A) args s 0 0 A) (F0 m 16 ls [.int z0, .ref (q 0)]) := by
  have hx := C.1
  have hb := C.2.1
  unfold M_line_16 at hf
  refine lv_bipush (v := (9 : Int32)) hx hb dX12_line_16 (by decide) ?_
  refine th_callVi (As := [.int z0, .int (9 : Int32)]) (rest := []) C lkX12_230 (M_takes_c hf) hw (mRc C hw) rfl rfl ⟨Nat.le_of_ble_eq_true rfl, Nat.le_of_ble_eq_true rfl⟩ hl.1 (Nat.le_of_ble_eq_true rfl) ⟨Nat.le_refl _, Nat.le_refl _⟩ dX12_line_18 (fun r_2 u_1 H locs hf hw => ?_)
  refine lv_if_ne (tgt := 26) hx hb dX12_line_21 (by decide) (fun hc => ?_) (fun hc => ?_)
  · replace hf := hf.1 hc
    clear hc
    refine lv_iload_n hx hb dX12_line_26 rfl (lv_at hl 1 rfl) ?_
    refine lv_if_ne (tgt := 40) hx hb dX12_line_27 (by decide) (fun hc => ?_) (fun hc => ?_)
    · replace hf := hf.1 hc
      clear hc
      exact M_line_40_w C x1 u_1 _ _ _ hf hw (lv_sub hl [0, 1] rfl)
    · replace hf := hf.2 hc
      clear hc
      refine lv_aload_n hx hb dX12_line_30 rfl (lv_at hl 0 rfl) ?_
      refine mg_12 C hw dX12_line_31 ?_
      refine lv_iconst (v := (1 : Int32)) hx hb dX12_line_34 (by decide) ?_
      refine lv_aload_n hx hb dX12_line_35 rfl (lv_at hl 0 rfl) ?_
      refine mg_33 C hw dX12_line_36 ?_
      refine ms_12 C hw hf.1 dX12_line_39 (fun u_3 e9 H locs hw => ?_)
      replace hf := hf.2 u_3 e9
      clear e9
      exact M_line_40_w C x1 u_3 _ _ _ hf hw (lv_sub hl [0, 1] rfl)
  · replace hf := hf.2 hc
    clear hc
    refine lv_iconst (v := (0 : Int32)) hx hb dX12_line_24 (by decide) ?_
    exact th_zret C hw hf dX12_line_25
def M_line_167 (K : Int32 → th_St → Prop) (u : th_St) : Prop :=
  (((0 : Int32) = 0 ∨ (0 : Int32) = 1) ∧ K (0 : Int32) u)
set_option maxHeartbeats 4000000 in
set_option maxRecDepth 100000 in
theorem M_line_167_w {K : Int32 → th_St → Prop} (C : th_Cx p s m args meth c cX12_line RX12 5 (some .boolean) (dC, dI) (th_ty cs) th_E0 A) (u : th_St) (H : Heap) (locs : List Loc) (ls : Array Slot) (hf : M_line_167 K u) (hw : th_wI (dC, dI) (wM cs q) A s.heap u H locs) (hl : lv_has ls 5 []) : W p l e (th_rm 6 0 0) s m args below meth c H locs 0 0 (MQ below (va_Qi K (th_Post (dC, dI) (wM cs q) A) A) args s 0 0 A) (F0 m 167 ls []) := by
  have hx := C.1
  have hb := C.2.1
  unfold M_line_167 at hf
  refine lv_iconst (v := (0 : Int32)) hx hb dX12_line_167 (by decide) ?_
  exact th_zret C hw hf dX12_line_168
def M_line_211 (K : Int32 → th_St → Prop) (k172 : Int32 → Int32 → Int32 → th_St → Prop) (x1 : Int32) (x2 : Int32) (x4 : Int32) (u : th_St) : Prop :=
  ∀ x4_1 : Int32, x4_1 = x4 + (1 : Int32) → k172 x1 x2 x4_1 u
set_option maxHeartbeats 4000000 in
set_option maxRecDepth 100000 in
theorem M_line_211_w {K : Int32 → th_St → Prop} {k172 : Int32 → Int32 → Int32 → th_St → Prop} (C : th_Cx p s m args meth c cX12_line RX12 5 (some .boolean) (dC, dI) (th_ty cs) th_E0 A) (hk172 : ∀ (x1 : Int32) (x2 : Int32) (x4 : Int32) (u : th_St) (H : Heap) (locs : List Loc) (ls : Array Slot), k172 x1 x2 x4 u → th_wI (dC, dI) (wM cs q) A s.heap u H locs → lv_has ls 5 [(0, .ref (q 0)), (1, .int x1), (2, .int x2), (4, .int x4)] → W p l e (th_rm 6 0 0) s m args below meth c H locs 0 0 (MQ below (va_Qi K (th_Post (dC, dI) (wM cs q) A) A) args s 0 0 A) (F0 m 172 ls [])) (x1 : Int32) (x2 : Int32) (x4 : Int32) (u : th_St) (H : Heap) (locs : List Loc) (ls : Array Slot) (hf : M_line_211 K k172 x1 x2 x4 u) (hw : th_wI (dC, dI) (wM cs q) A s.heap u H locs) (hl : lv_has ls 5 [(0, .ref (q 0)), (1, .int x1), (2, .int x2), (4, .int x4)]) : W p l e (th_rm 6 0 0) s m args below meth c H locs 0 0 (MQ below (va_Qi K (th_Post (dC, dI) (wM cs q) A) A) args s 0 0 A) (F0 m 211 ls []) := by
  have hx := C.1
  have hb := C.2.1
  unfold M_line_211 at hf
  obtain ⟨x4_1, e9⟩ : ∃ y : Int32, y = x4 + (1 : Int32) := ⟨_, rfl⟩
  replace hf := hf x4_1 e9
  refine lv_iinc (v := x4_1) (lv' := [(4, .int x4_1), (0, .ref (q 0)), (1, .int x1), (2, .int x2)]) hx hb dX12_line_211 hl (k := 3) rfl (by rw [e9]; rfl) (by decide) rfl (fun ls hl => ?_)
  clear e9
  refine lv_goto (tgt := 172) hx hb dX12_line_214 (by decide) ?_
  exact hk172 x1 x2 x4_1 u _ _ _ hf hw (lv_sub hl [1, 2, 3, 0] rfl)
def M_line_172 (K : Int32 → th_St → Prop) (k172 : Int32 → Int32 → Int32 → th_St → Prop) (x1 : Int32) (x2 : Int32) (x4 : Int32) (u : th_St) : Prop :=
  (((u.1 33) < x4 → (((1 : Int32) = 0 ∨ (1 : Int32) = 1) ∧ K (1 : Int32) u)) ∧ (¬ (u.1 33) < x4 → ((¬ x1 = (3 : Int32) → (vp_in ((48 : Int32) + x4) 96 ∧ ∀ u_1 : th_St, u_1 = th_sa u 7 (upd (u.2.2.1 7) (((48 : Int32) + x4)).toNatClampNeg x2) → M_line_211 K k172 x1 x2 x4 u_1)) ∧ (x1 = (3 : Int32) → (vp_in ((48 : Int32) + x4) 96 ∧ ∀ u_2 : th_St, u_2 = th_sa u 6 (upd (u.2.2.1 6) (((48 : Int32) + x4)).toNatClampNeg (vp_nar .boolean (1 : Int32))) → M_line_211 K k172 x1 x2 x4 u_2)))))
set_option maxHeartbeats 4000000 in
set_option maxRecDepth 100000 in
theorem M_line_172_w {K : Int32 → th_St → Prop} {k172 : Int32 → Int32 → Int32 → th_St → Prop} (C : th_Cx p s m args meth c cX12_line RX12 5 (some .boolean) (dC, dI) (th_ty cs) th_E0 A) (hk172 : ∀ (x1 : Int32) (x2 : Int32) (x4 : Int32) (u : th_St) (H : Heap) (locs : List Loc) (ls : Array Slot), k172 x1 x2 x4 u → th_wI (dC, dI) (wM cs q) A s.heap u H locs → lv_has ls 5 [(0, .ref (q 0)), (1, .int x1), (2, .int x2), (4, .int x4)] → W p l e (th_rm 6 0 0) s m args below meth c H locs 0 0 (MQ below (va_Qi K (th_Post (dC, dI) (wM cs q) A) A) args s 0 0 A) (F0 m 172 ls [])) (x1 : Int32) (x2 : Int32) (x4 : Int32) (u : th_St) (H : Heap) (locs : List Loc) (ls : Array Slot) (hf : M_line_172 K k172 x1 x2 x4 u) (hw : th_wI (dC, dI) (wM cs q) A s.heap u H locs) (hl : lv_has ls 5 [(0, .ref (q 0)), (1, .int x1), (2, .int x2), (4, .int x4)]) : W p l e (th_rm 6 0 0) s m args below meth c H locs 0 0 (MQ below (va_Qi K (th_Post (dC, dI) (wM cs q) A) A) args s 0 0 A) (F0 m 172 ls []) := by
  have hx := C.1
  have hb := C.2.1
  unfold M_line_172 at hf
  refine lv_iload hx hb dX12_line_172 (lv_at hl 3 rfl) ?_
  refine lv_aload_n hx hb dX12_line_174 rfl (lv_at hl 0 rfl) ?_
  refine mg_33 C hw dX12_line_175 ?_
  refine lv_icmp_gt (tgt := 217) hx hb dX12_line_178 (by decide) (fun hc => ?_) (fun hc => ?_)
  · replace hf := hf.1 hc
    clear hc
    refine lv_iconst (v := (1 : Int32)) hx hb dX12_line_217 (by decide) ?_
    exact th_zret C hw hf dX12_line_218
  · replace hf := hf.2 hc
    clear hc
    refine lv_iload_n hx hb dX12_line_181 rfl (lv_at hl 1 rfl) ?_
    refine lv_iconst (v := (3 : Int32)) hx hb dX12_line_182 (by decide) ?_
    refine lv_icmp_ne (tgt := 200) hx hb dX12_line_183 (by decide) (fun hc => ?_) (fun hc => ?_)
    · replace hf := hf.1 hc
      clear hc
      refine lv_aload_n hx hb dX12_line_200 rfl (lv_at hl 0 rfl) ?_
      refine mg_7 C hw dX12_line_201 ?_
      refine lv_bipush (v := (48 : Int32)) hx hb dX12_line_204 (by decide) ?_
      refine lv_iload hx hb dX12_line_206 (lv_at hl 3 rfl) ?_
      refine lv_iadd hx hb dX12_line_208 ?_
      refine lv_iload_n hx hb dX12_line_209 rfl (lv_at hl 2 rfl) ?_
      refine ms_7 C hw hf.1 dX12_line_210 (fun u_1 e9 H locs hw => ?_)
      replace hf := hf.2 u_1 e9
      clear e9
      exact M_line_211_w C hk172 x1 x2 x4 u_1 _ _ _ hf hw (lv_sub hl [0, 1, 2, 3] rfl)
    · replace hf := hf.2 hc
      clear hc
      refine lv_aload_n hx hb dX12_line_186 rfl (lv_at hl 0 rfl) ?_
      refine mg_6 C hw dX12_line_187 ?_
      refine lv_bipush (v := (48 : Int32)) hx hb dX12_line_190 (by decide) ?_
      refine lv_iload hx hb dX12_line_192 (lv_at hl 3 rfl) ?_
      refine lv_iadd hx hb dX12_line_194 ?_
      refine lv_iconst (v := (1 : Int32)) hx hb dX12_line_195 (by decide) ?_
      refine ms_6 C hw hf.1 dX12_line_196 (fun u_2 e9 H locs hw => ?_)
      replace hf := hf.2 u_2 e9
      clear e9
      refine lv_goto (tgt := 211) hx hb dX12_line_197 (by decide) ?_
      exact M_line_211_w C hk172 x1 x2 x4 u_2 _ _ _ hf hw (lv_sub hl [0, 1, 2, 3] rfl)
def M_line_172_lp (K : Int32 → th_St → Prop) : Nat → Int32 → Int32 → Int32 → th_St → Prop
  | 0, _, _, _, _ => False
  | n + 1, x1, x2, x4, u => M_line_172 K (M_line_172_lp K n) x1 x2 x4 u
set_option maxHeartbeats 4000000 in
set_option maxRecDepth 100000 in
theorem M_line_172_lw {K : Int32 → th_St → Prop} (C : th_Cx p s m args meth c cX12_line RX12 5 (some .boolean) (dC, dI) (th_ty cs) th_E0 A) (n : Nat) : ∀ (x1 : Int32) (x2 : Int32) (x4 : Int32) (u : th_St) (H : Heap) (locs : List Loc) (ls : Array Slot), M_line_172_lp K n x1 x2 x4 u → th_wI (dC, dI) (wM cs q) A s.heap u H locs → lv_has ls 5 [(0, .ref (q 0)), (1, .int x1), (2, .int x2), (4, .int x4)] → W p l e (th_rm 6 0 0) s m args below meth c H locs 0 0 (MQ below (va_Qi K (th_Post (dC, dI) (wM cs q) A) A) args s 0 0 A) (F0 m 172 ls []) := by
  induction n with
  | zero => intro x1 x2 x4 u H locs ls hf; exact hf.elim
  | succ n ih =>
    intro x1 x2 x4 u H locs ls hf hw hl
    exact M_line_172_w C ih x1 x2 x4 u H locs ls hf hw hl
def M_line_118 (K : Int32 → th_St → Prop) (x1 : Int32) (x2 : Int32) (u : th_St) : Prop :=
  (vp_in (1 : Int32) 2 ∧ ∀ y_1 : Int32, y_1 = u.2.2.1 11 ((1 : Int32)).toNatClampNeg → M_takes (0 : Int32) (y_1 - (1 : Int32)) u (fun r_3 u_2 => ((¬ r_3 = 0 → M_takesWord (29807 : Int64) u_2 (fun r_5 u_4 => ((r_5 = 0 → M_line_167 K u_4) ∧ (¬ r_5 = 0 → (vp_in (1 : Int32) 2 ∧ ∀ y_6 : Int32, y_6 = u_4.2.2.1 11 ((1 : Int32)).toNatClampNeg → M_takes (u_2.1 33) (y_6 - (1 : Int32)) u_4 (fun r_8 u_7 => ((¬ r_8 = 0 → ∃ n, M_line_172_lp K n x1 x2 (u_2.1 33) u_7) ∧ (r_8 = 0 → M_line_167 K u_7)))))))) ∧ (r_3 = 0 → (((0 : Int32) = 0 ∨ (0 : Int32) = 1) ∧ K (0 : Int32) u_2)))))
set_option maxHeartbeats 4000000 in
set_option maxRecDepth 100000 in
theorem M_line_118_w {K : Int32 → th_St → Prop} (C : th_Cx p s m args meth c cX12_line RX12 5 (some .boolean) (dC, dI) (th_ty cs) th_E0 A) (x1 : Int32) (x2 : Int32) (u : th_St) (H : Heap) (locs : List Loc) (ls : Array Slot) (hf : M_line_118 K x1 x2 u) (hw : th_wI (dC, dI) (wM cs q) A s.heap u H locs) (hl : lv_has ls 5 [(0, .ref (q 0)), (1, .int x1), (2, .int x2)]) : W p l e (th_rm 6 0 0) s m args below meth c H locs 0 0 (MQ below (va_Qi K (th_Post (dC, dI) (wM cs q) A) A) args s 0 0 A) (F0 m 118 ls []) := by
  have hx := C.1
  have hb := C.2.1
  unfold M_line_118 at hf
  refine lv_aload_n hx hb dX12_line_118 rfl (lv_at hl 0 rfl) ?_
  refine lv_iconst (v := (0 : Int32)) hx hb dX12_line_119 (by decide) ?_
  refine lv_aload_n hx hb dX12_line_120 rfl (lv_at hl 0 rfl) ?_
  refine mg_11 C hw dX12_line_121 ?_
  refine lv_iconst (v := (1 : Int32)) hx hb dX12_line_124 (by decide) ?_
  refine ml_11 C hw hf.1 dX12_line_125 (fun y_1 e9 => ?_)
  replace hf := hf.2 y_1 e9
  clear e9
  refine lv_iconst (v := (1 : Int32)) hx hb dX12_line_126 (by decide) ?_
  refine lv_isub hx hb dX12_line_127 ?_
  refine th_callVi (As := [.int (0 : Int32), .int (y_1 - (1 : Int32))]) (rest := []) C lkX12_230 (M_takes_c hf) hw (mRc C hw) rfl rfl ⟨Nat.le_of_ble_eq_true rfl, Nat.le_of_ble_eq_true rfl⟩ hl.1 (Nat.le_of_ble_eq_true rfl) ⟨Nat.le_refl _, Nat.le_refl _⟩ dX12_line_128 (fun r_3 u_2 H locs hf hw => ?_)
  refine lv_if_ne (tgt := 136) hx hb dX12_line_131 (by decide) (fun hc => ?_) (fun hc => ?_)
  · replace hf := hf.1 hc
    clear hc
    refine lv_aload_n hx hb dX12_line_136 rfl (lv_at hl 0 rfl) ?_
    refine mg_33 C hw dX12_line_137 ?_
    refine lv_istore_n (lv' := [(3, .int (u_2.1 33)), (0, .ref (q 0)), (1, .int x1), (2, .int x2)]) hx hb dX12_line_140 rfl hl (by decide) rfl (fun ls hl => ?_)
    refine lv_aload_n hx hb dX12_line_141 rfl (lv_at hl 1 rfl) ?_
    refine lv_ldc2 hx hb C.2.2.2.1 (C.2.2.2.2.1 _ hwK_X12_261) dX12_line_142 ?_
    refine th_callVi (As := [.long (29807 : Int64)]) (rest := []) C lkX12_258 (M_takesWord_c hf) hw (mRc C hw) rfl rfl ⟨Nat.le_of_ble_eq_true rfl, Nat.le_of_ble_eq_true rfl⟩ hl.1 (Nat.le_of_ble_eq_true rfl) ⟨Nat.le_refl _, Nat.le_refl _⟩ dX12_line_145 (fun r_5 u_4 H locs hf hw => ?_)
    refine lv_if_eq (tgt := 167) hx hb dX12_line_148 (by decide) (fun hc => ?_) (fun hc => ?_)
    · replace hf := hf.1 hc
      clear hc
      exact M_line_167_w C  u_4 _ _ _ hf hw (lv_sub hl [] rfl)
    · replace hf := hf.2 hc
      clear hc
      refine lv_aload_n hx hb dX12_line_151 rfl (lv_at hl 1 rfl) ?_
      refine lv_iload_n hx hb dX12_line_152 rfl (lv_at hl 0 rfl) ?_
      refine lv_aload_n hx hb dX12_line_153 rfl (lv_at hl 1 rfl) ?_
      refine mg_11 C hw dX12_line_154 ?_
      refine lv_iconst (v := (1 : Int32)) hx hb dX12_line_157 (by decide) ?_
      refine ml_11 C hw hf.1 dX12_line_158 (fun y_6 e9 => ?_)
      replace hf := hf.2 y_6 e9
      clear e9
      refine lv_iconst (v := (1 : Int32)) hx hb dX12_line_159 (by decide) ?_
      refine lv_isub hx hb dX12_line_160 ?_
      refine th_callVi (As := [.int (u_2.1 33), .int (y_6 - (1 : Int32))]) (rest := []) C lkX12_230 (M_takes_c hf) hw (mRc C hw) rfl rfl ⟨Nat.le_of_ble_eq_true rfl, Nat.le_of_ble_eq_true rfl⟩ hl.1 (Nat.le_of_ble_eq_true rfl) ⟨Nat.le_refl _, Nat.le_refl _⟩ dX12_line_161 (fun r_8 u_7 H locs hf hw => ?_)
      refine lv_if_ne (tgt := 169) hx hb dX12_line_164 (by decide) (fun hc => ?_) (fun hc => ?_)
      · replace hf := hf.1 hc
        clear hc
        refine lv_iload_n hx hb dX12_line_169 rfl (lv_at hl 0 rfl) ?_
        refine lv_istore (lv' := [(4, .int (u_2.1 33)), (3, .int (u_2.1 33)), (0, .ref (q 0)), (1, .int x1), (2, .int x2)]) hx hb dX12_line_170 hl (by decide) rfl (fun ls hl => ?_)
        obtain ⟨n, hf⟩ := hf
        exact M_line_172_lw C n x1 x2 (u_2.1 33) u_7 _ _ _ hf hw (lv_sub hl [2, 3, 4, 0] rfl)
      · replace hf := hf.2 hc
        clear hc
        exact M_line_167_w C  u_7 _ _ _ hf hw (lv_sub hl [] rfl)
  · replace hf := hf.2 hc
    clear hc
    refine lv_iconst (v := (0 : Int32)) hx hb dX12_line_134 (by decide) ?_
    exact th_zret C hw hf dX12_line_135
def M_line (a1 : Int32) (u : th_St) (K : Int32 → th_St → Prop) : Prop :=
  (((3 : Int32) ≤ a1 → ((¬ a1 = (5 : Int32) → ((¬ a1 = (4 : Int32) → M_line_118 K a1 (0 : Int32) u) ∧ (a1 = (4 : Int32) → M_takes (1 : Int32) (99 : Int32) u (fun r_2 u_1 => ((¬ r_2 = 0 → M_takesWord (1718775661 : Int64) u_1 (fun r_4 u_3 => ((¬ r_4 = 0 → M_line_118 K a1 (u_1.1 33) u_3) ∧ (r_4 = 0 → (((0 : Int32) = 0 ∨ (0 : Int32) = 1) ∧ K (0 : Int32) u_3))))) ∧ (r_2 = 0 → (((0 : Int32) = 0 ∨ (0 : Int32) = 1) ∧ K (0 : Int32) u_1))))))) ∧ (a1 = (5 : Int32) → M_alarmLine u (fun r_6 u_5 => ((r_6 = 0 ∨ r_6 = 1) ∧ K r_6 u_5))))) ∧ (¬ (3 : Int32) ≤ a1 → ((¬ a1 = (2 : Int32) → M_line_16 K a1 (1 : Int32) u) ∧ (a1 = (2 : Int32) → M_line_16 K a1 (0 : Int32) u))))
set_option maxHeartbeats 4000000 in
set_option maxRecDepth 100000 in
theorem M_line_c {l : Launch} {dC : Nat → ClassId} {dI : Nat → Nat → Nat} {cs : Nat → ClassId} {q : Nat → Nat} {a1 : Int32} {u : th_St} {K : Int32 → th_St → Prop} (hf : M_line a1 u K) : th_Ci l yX12_line cX12_line 5 (some .boolean) 6 0 0 (dC, dI) (th_ty cs) th_E0 (wM cs q) [.ref (q 0), .int a1] u K := by
  refine th_ofi (by decide) (Nat.le_of_ble_eq_true rfl) th_E0_ok ?_
  intro p e s m below meth c A ls C hw hl
  have C : th_Cx p s m _ meth c cX12_line RX12 5 (some .boolean) (dC, dI) (th_ty cs) th_E0 A := C
  have hl : lv_has ls 5 [(0, .ref (q 0)), (1, .int a1)] := hl
  generalize (List.toArray _ : Array Value) = args at C ⊢
  have hx := C.1
  have hb := C.2.1
  unfold M_line at hf
  refine lv_iload_n hx hb dX12_line_0 rfl (lv_at hl 1 rfl) ?_
  refine lv_iconst (v := (3 : Int32)) hx hb dX12_line_1 (by decide) ?_
  refine lv_icmp_ge (tgt := 72) hx hb dX12_line_2 (by decide) (fun hc => ?_) (fun hc => ?_)
  · replace hf := hf.1 hc
    clear hc
    refine lv_iload_n hx hb dX12_line_72 rfl (lv_at hl 1 rfl) ?_
    refine lv_iconst (v := (5 : Int32)) hx hb dX12_line_73 (by decide) ?_
    refine lv_icmp_ne (tgt := 82) hx hb dX12_line_74 (by decide) (fun hc => ?_) (fun hc => ?_)
    · replace hf := hf.1 hc
      clear hc
      refine lv_iconst (v := (0 : Int32)) hx hb dX12_line_82 (by decide) ?_
      refine lv_istore_n (lv' := [(2, .int (0 : Int32)), (0, .ref (q 0)), (1, .int a1)]) hx hb dX12_line_83 rfl hl (by decide) rfl (fun ls hl => ?_)
      refine lv_iload_n hx hb dX12_line_84 rfl (lv_at hl 2 rfl) ?_
      refine lv_iconst (v := (4 : Int32)) hx hb dX12_line_85 (by decide) ?_
      refine lv_icmp_ne (tgt := 118) hx hb dX12_line_86 (by decide) (fun hc => ?_) (fun hc => ?_)
      · replace hf := hf.1 hc
        clear hc
        exact M_line_118_w C a1 (0 : Int32) u _ _ _ hf hw (lv_sub hl [1, 2, 0] rfl)
      · replace hf := hf.2 hc
        clear hc
        refine lv_aload_n hx hb dX12_line_89 rfl (lv_at hl 1 rfl) ?_
        refine lv_iconst (v := (1 : Int32)) hx hb dX12_line_90 (by decide) ?_
        refine lv_bipush (v := (99 : Int32)) hx hb dX12_line_91 (by decide) ?_
        refine th_callVi (As := [.int (1 : Int32), .int (99 : Int32)]) (rest := []) C lkX12_230 (M_takes_c hf) hw (mRc C hw) rfl rfl ⟨Nat.le_of_ble_eq_true rfl, Nat.le_of_ble_eq_true rfl⟩ hl.1 (Nat.le_of_ble_eq_true rfl) ⟨Nat.le_refl _, Nat.le_refl _⟩ dX12_line_93 (fun r_2 u_1 H locs hf hw => ?_)
        refine lv_if_ne (tgt := 101) hx hb dX12_line_96 (by decide) (fun hc => ?_) (fun hc => ?_)
        · replace hf := hf.1 hc
          clear hc
          refine lv_aload_n hx hb dX12_line_101 rfl (lv_at hl 1 rfl) ?_
          refine mg_33 C hw dX12_line_102 ?_
          refine lv_istore_n (lv' := [(2, .int (u_1.1 33)), (0, .ref (q 0)), (1, .int a1)]) hx hb dX12_line_105 rfl hl (by decide) rfl (fun ls hl => ?_)
          refine lv_aload_n hx hb dX12_line_106 rfl (lv_at hl 1 rfl) ?_
          refine lv_ldc2 hx hb C.2.2.2.1 (C.2.2.2.2.1 _ hwK_X12_256) dX12_line_107 ?_
          refine th_callVi (As := [.long (1718775661 : Int64)]) (rest := []) C lkX12_258 (M_takesWord_c hf) hw (mRc C hw) rfl rfl ⟨Nat.le_of_ble_eq_true rfl, Nat.le_of_ble_eq_true rfl⟩ hl.1 (Nat.le_of_ble_eq_true rfl) ⟨Nat.le_refl _, Nat.le_refl _⟩ dX12_line_110 (fun r_4 u_3 H locs hf hw => ?_)
          refine lv_if_ne (tgt := 118) hx hb dX12_line_113 (by decide) (fun hc => ?_) (fun hc => ?_)
          · replace hf := hf.1 hc
            clear hc
            exact M_line_118_w C a1 (u_1.1 33) u_3 _ _ _ hf hw (lv_sub hl [1, 2, 0] rfl)
          · replace hf := hf.2 hc
            clear hc
            refine lv_iconst (v := (0 : Int32)) hx hb dX12_line_116 (by decide) ?_
            exact th_zret C hw hf dX12_line_117
        · replace hf := hf.2 hc
          clear hc
          refine lv_iconst (v := (0 : Int32)) hx hb dX12_line_99 (by decide) ?_
          exact th_zret C hw hf dX12_line_100
    · replace hf := hf.2 hc
      clear hc
      refine lv_aload_n hx hb dX12_line_77 rfl (lv_at hl 0 rfl) ?_
      refine th_callVi (As := []) (rest := []) C lkX12_252 (M_alarmLine_c hf) hw (mRc C hw) rfl rfl ⟨Nat.le_of_ble_eq_true rfl, Nat.le_of_ble_eq_true rfl⟩ hl.1 (Nat.le_of_ble_eq_true rfl) ⟨Nat.le_refl _, Nat.le_refl _⟩ dX12_line_78 (fun r_6 u_5 H locs hf hw => ?_)
      exact th_zret C hw hf dX12_line_81
  · replace hf := hf.2 hc
    clear hc
    refine lv_aload_n hx hb dX12_line_5 rfl (lv_at hl 0 rfl) ?_
    refine lv_iload_n hx hb dX12_line_6 rfl (lv_at hl 1 rfl) ?_
    refine lv_iconst (v := (2 : Int32)) hx hb dX12_line_7 (by decide) ?_
    refine lv_icmp_ne (tgt := 15) hx hb dX12_line_8 (by decide) (fun hc => ?_) (fun hc => ?_)
    · replace hf := hf.1 hc
      clear hc
      refine lv_iconst (v := (1 : Int32)) hx hb dX12_line_15 (by decide) ?_
      exact M_line_16_w C a1 (1 : Int32) u _ _ _ hf hw (lv_sub hl [0, 1] rfl)
    · replace hf := hf.2 hc
      clear hc
      refine lv_iconst (v := (0 : Int32)) hx hb dX12_line_11 (by decide) ?_
      refine lv_goto (tgt := 16) hx hb dX12_line_12 (by decide) ?_
      exact M_line_16_w C a1 (0 : Int32) u _ _ _ hf hw (lv_sub hl [0, 1] rfl)
end

section
variable {p : Program} {l : Launch} {e : Env} {s : State} {m : MethodId} {args : Array Value} {below : List Frame} {meth : Method} {c : Code} {dC : Nat → ClassId} {dI : Nat → Nat → Nat} {cs : Nat → ClassId} {ad ak : Nat → Nat} {q v : Nat → Nat} {A : Nat → Prop}
/-! X_RD_readHolds -/
theorem dX4_readHolds_0 : decode cX4_readHolds 0 = .ok (.aload_n 0, 1) := by decide +kernel
theorem dX4_readHolds_1 : decode cX4_readHolds 1 = .ok (.iconst 1, 1) := by decide +kernel
theorem dX4_readHolds_2 : decode cX4_readHolds 2 = .ok (.bipush 99, 2) := by decide +kernel
theorem dX4_readHolds_4 : decode cX4_readHolds 4 = .ok (.invokevirtual 161, 3) := by decide +kernel
theorem dX4_readHolds_7 : decode cX4_readHolds 7 = .ok (.ifCond .ne 5, 3) := by decide +kernel
theorem dX4_readHolds_10 : decode cX4_readHolds 10 = .ok (.iconst 0, 1) := by decide +kernel
theorem dX4_readHolds_11 : decode cX4_readHolds 11 = .ok (.ireturn, 1) := by decide +kernel
theorem dX4_readHolds_12 : decode cX4_readHolds 12 = .ok (.aload_n 0, 1) := by decide +kernel
theorem dX4_readHolds_13 : decode cX4_readHolds 13 = .ok (.getfield 45, 3) := by decide +kernel
theorem dX4_readHolds_16 : decode cX4_readHolds 16 = .ok (.istore_n 1, 1) := by decide +kernel
theorem dX4_readHolds_17 : decode cX4_readHolds 17 = .ok (.aload_n 0, 1) := by decide +kernel
theorem dX4_readHolds_18 : decode cX4_readHolds 18 = .ok (.getstatic 224, 3) := by decide +kernel
theorem dX4_readHolds_21 : decode cX4_readHolds 21 = .ok (.invokevirtual 90, 3) := by decide +kernel
theorem dX4_readHolds_24 : decode cX4_readHolds 24 = .ok (.ifCond .eq 20, 3) := by decide +kernel
theorem dX4_readHolds_27 : decode cX4_readHolds 27 = .ok (.aload_n 0, 1) := by decide +kernel
theorem dX4_readHolds_28 : decode cX4_readHolds 28 = .ok (.iconst 0, 1) := by decide +kernel
theorem dX4_readHolds_29 : decode cX4_readHolds 29 = .ok (.aload_n 0, 1) := by decide +kernel
theorem dX4_readHolds_30 : decode cX4_readHolds 30 = .ok (.getfield 31, 3) := by decide +kernel
theorem dX4_readHolds_33 : decode cX4_readHolds 33 = .ok (.getfield 165, 3) := by decide +kernel
theorem dX4_readHolds_36 : decode cX4_readHolds 36 = .ok (.iconst 1, 1) := by decide +kernel
theorem dX4_readHolds_37 : decode cX4_readHolds 37 = .ok (.isub, 1) := by decide +kernel
theorem dX4_readHolds_38 : decode cX4_readHolds 38 = .ok (.invokevirtual 161, 3) := by decide +kernel
theorem dX4_readHolds_41 : decode cX4_readHolds 41 = .ok (.ifCond .ne 5, 3) := by decide +kernel
theorem dX4_readHolds_44 : decode cX4_readHolds 44 = .ok (.iconst 0, 1) := by decide +kernel
theorem dX4_readHolds_45 : decode cX4_readHolds 45 = .ok (.ireturn, 1) := by decide +kernel
theorem dX4_readHolds_46 : decode cX4_readHolds 46 = .ok (.aload_n 0, 1) := by decide +kernel
theorem dX4_readHolds_47 : decode cX4_readHolds 47 = .ok (.getfield 45, 3) := by decide +kernel
theorem dX4_readHolds_50 : decode cX4_readHolds 50 = .ok (.istore_n 2, 1) := by decide +kernel
theorem dX4_readHolds_51 : decode cX4_readHolds 51 = .ok (.aload_n 0, 1) := by decide +kernel
theorem dX4_readHolds_52 : decode cX4_readHolds 52 = .ok (.getstatic 217, 3) := by decide +kernel
theorem dX4_readHolds_55 : decode cX4_readHolds 55 = .ok (.invokevirtual 90, 3) := by decide +kernel
theorem dX4_readHolds_58 : decode cX4_readHolds 58 = .ok (.ifCond .eq 20, 3) := by decide +kernel
theorem dX4_readHolds_61 : decode cX4_readHolds 61 = .ok (.aload_n 0, 1) := by decide +kernel
theorem dX4_readHolds_62 : decode cX4_readHolds 62 = .ok (.iload_n 2, 1) := by decide +kernel
theorem dX4_readHolds_63 : decode cX4_readHolds 63 = .ok (.aload_n 0, 1) := by decide +kernel
theorem dX4_readHolds_64 : decode cX4_readHolds 64 = .ok (.getfield 31, 3) := by decide +kernel
theorem dX4_readHolds_67 : decode cX4_readHolds 67 = .ok (.getfield 165, 3) := by decide +kernel
theorem dX4_readHolds_70 : decode cX4_readHolds 70 = .ok (.iconst 1, 1) := by decide +kernel
theorem dX4_readHolds_71 : decode cX4_readHolds 71 = .ok (.isub, 1) := by decide +kernel
theorem dX4_readHolds_72 : decode cX4_readHolds 72 = .ok (.invokevirtual 161, 3) := by decide +kernel
theorem dX4_readHolds_75 : decode cX4_readHolds 75 = .ok (.ifCond .ne 5, 3) := by decide +kernel
theorem dX4_readHolds_78 : decode cX4_readHolds 78 = .ok (.iconst 0, 1) := by decide +kernel
theorem dX4_readHolds_79 : decode cX4_readHolds 79 = .ok (.ireturn, 1) := by decide +kernel
theorem dX4_readHolds_80 : decode cX4_readHolds 80 = .ok (.aload_n 0, 1) := by decide +kernel
theorem dX4_readHolds_81 : decode cX4_readHolds 81 = .ok (.getfield 31, 3) := by decide +kernel
theorem dX4_readHolds_84 : decode cX4_readHolds 84 = .ok (.iload_n 1, 1) := by decide +kernel
theorem dX4_readHolds_85 : decode cX4_readHolds 85 = .ok (.iload_n 2, 1) := by decide +kernel
theorem dX4_readHolds_86 : decode cX4_readHolds 86 = .ok (.aload_n 0, 1) := by decide +kernel
theorem dX4_readHolds_87 : decode cX4_readHolds 87 = .ok (.getfield 45, 3) := by decide +kernel
theorem dX4_readHolds_90 : decode cX4_readHolds 90 = .ok (.invokevirtual 227, 3) := by decide +kernel
theorem dX4_readHolds_93 : decode cX4_readHolds 93 = .ok (.iconst 1, 1) := by decide +kernel
theorem dX4_readHolds_94 : decode cX4_readHolds 94 = .ok (.ireturn, 1) := by decide +kernel
def X_RD_readHolds_44 (K : Int32 → xs_St → Prop) (u : xs_St) : Prop :=
  (((0 : Int32) = 0 ∨ (0 : Int32) = 1) ∧ K (0 : Int32) u)
set_option maxHeartbeats 4000000 in
set_option maxRecDepth 100000 in
theorem X_RD_readHolds_44_w {K : Int32 → xs_St → Prop} (C : th_Cx p s m args meth c cX4_readHolds RX4 3 (some .boolean) (dC, dI) (th_ty cs) (xE ad ak) A) (u : xs_St) (H : Heap) (locs : List Loc) (ls : Array Slot) (hf : X_RD_readHolds_44 K u) (hw : th_wI (dC, dI) (wX cs ad q v v) A s.heap u H locs) (hl : lv_has ls 3 []) : W p l e (th_rm 2 0 0) s m args below meth c H locs 0 0 (MQ below (va_Qi K (th_Post (dC, dI) (wX cs ad q v v) A) A) args s 0 0 A) (F0 m 44 ls []) := by
  have hx := C.1
  have hb := C.2.1
  unfold X_RD_readHolds_44 at hf
  refine lv_iconst (v := (0 : Int32)) hx hb dX4_readHolds_44 (by decide) ?_
  exact th_zret C hw hf dX4_readHolds_45
def X_RD_readHolds_78 (K : Int32 → xs_St → Prop) (u : xs_St) : Prop :=
  (((0 : Int32) = 0 ∨ (0 : Int32) = 1) ∧ K (0 : Int32) u)
set_option maxHeartbeats 4000000 in
set_option maxRecDepth 100000 in
theorem X_RD_readHolds_78_w {K : Int32 → xs_St → Prop} (C : th_Cx p s m args meth c cX4_readHolds RX4 3 (some .boolean) (dC, dI) (th_ty cs) (xE ad ak) A) (u : xs_St) (H : Heap) (locs : List Loc) (ls : Array Slot) (hf : X_RD_readHolds_78 K u) (hw : th_wI (dC, dI) (wX cs ad q v v) A s.heap u H locs) (hl : lv_has ls 3 []) : W p l e (th_rm 2 0 0) s m args below meth c H locs 0 0 (MQ below (va_Qi K (th_Post (dC, dI) (wX cs ad q v v) A) A) args s 0 0 A) (F0 m 78 ls []) := by
  have hx := C.1
  have hb := C.2.1
  unfold X_RD_readHolds_78 at hf
  refine lv_iconst (v := (0 : Int32)) hx hb dX4_readHolds_78 (by decide) ?_
  exact th_zret C hw hf dX4_readHolds_79
def X_RD_readHolds (u : xs_St) (K : Int32 → xs_St → Prop) : Prop :=
  X_RD_takeNumber (1 : Int32) (99 : Int32) u (fun r_2 u_1 => ((¬ r_2 = 0 → X_RD_take (some 13) u_1 (fun r_4 u_3 => ((r_4 = 0 → X_RD_readHolds_44 K u_3) ∧ (¬ r_4 = 0 → X_RD_takeNumber (0 : Int32) ((xi u_3 400) - (1 : Int32)) u_3 (fun r_6 u_5 => ((¬ r_6 = 0 → X_RD_take (some 11) u_5 (fun r_8 u_7 => ((r_8 = 0 → X_RD_readHolds_78 K u_7) ∧ (¬ r_8 = 0 → X_RD_takeNumber (xi u_5 207) ((xi u_7 400) - (1 : Int32)) u_7 (fun r_10 u_9 => ((¬ r_10 = 0 → X_T_holdBy_B (xi u_1 207) (xi u_5 207) (xi u_9 207) u_9 (fun u_11 => (((1 : Int32) = 0 ∨ (1 : Int32) = 1) ∧ K (1 : Int32) u_11))) ∧ (r_10 = 0 → X_RD_readHolds_78 K u_9))))))) ∧ (r_6 = 0 → X_RD_readHolds_44 K u_5))))))) ∧ (r_2 = 0 → (((0 : Int32) = 0 ∨ (0 : Int32) = 1) ∧ K (0 : Int32) u_1))))
set_option maxHeartbeats 4000000 in
set_option maxRecDepth 100000 in
theorem X_RD_readHolds_c {l : Launch} {dC : Nat → ClassId} {dI : Nat → Nat → Nat} {cs : Nat → ClassId} {ad ak : Nat → Nat} {q v : Nat → Nat} {u : xs_St} {K : Int32 → xs_St → Prop} (hf : X_RD_readHolds u K) : th_Ci l yX4_readHolds cX4_readHolds 3 (some .boolean) 2 0 0 (dC, dI) (th_ty cs) (xE ad ak) (wX cs ad q v v) [.ref (q 299)] u K := by
  refine th_ofi (by decide) (Nat.le_of_ble_eq_true rfl) (xE_ok ad ak) ?_
  intro p e s m below meth c A ls C hw hl
  have C : th_Cx p s m _ meth c cX4_readHolds RX4 3 (some .boolean) (dC, dI) (th_ty cs) (xE ad ak) A := C
  have hl : lv_has ls 3 [(0, .ref (q 299))] := hl
  generalize (List.toArray _ : Array Value) = args at C ⊢
  have hx := C.1
  have hb := C.2.1
  unfold X_RD_readHolds at hf
  refine lv_aload_n hx hb dX4_readHolds_0 rfl (lv_at hl 0 rfl) ?_
  refine lv_iconst (v := (1 : Int32)) hx hb dX4_readHolds_1 (by decide) ?_
  refine lv_bipush (v := (99 : Int32)) hx hb dX4_readHolds_2 (by decide) ?_
  refine th_callVi (As := [.int (1 : Int32), .int (99 : Int32)]) (rest := []) C lkX4_161 (X_RD_takeNumber_c hf) hw (xRc_RD C hw) rfl rfl ⟨Nat.le_of_ble_eq_true rfl, Nat.le_of_ble_eq_true rfl⟩ hl.1 (Nat.le_of_ble_eq_true rfl) ⟨Nat.le_of_ble_eq_true rfl, Nat.le_of_ble_eq_true rfl⟩ dX4_readHolds_4 (fun r_2 u_1 H locs hf hw => ?_)
  refine lv_if_ne (tgt := 12) hx hb dX4_readHolds_7 (by decide) (fun hc => ?_) (fun hc => ?_)
  · replace hf := hf.1 hc
    clear hc
    refine lv_aload_n hx hb dX4_readHolds_12 rfl (lv_at hl 0 rfl) ?_
    refine xg_207 C hw (C.2.2.2.2.1 _ hwF_X4_45) dX4_readHolds_13 ?_
    refine lv_istore_n (lv' := [(1, .int (xi u_1 207)), (0, .ref (q 299))]) hx hb dX4_readHolds_16 rfl hl (by decide) rfl (fun ls hl => ?_)
    refine lv_aload_n hx hb dX4_readHolds_17 rfl (lv_at hl 1 rfl) ?_
    refine xst C hw 13 (by decide) (C.2.2.2.2.1 _ hwF_X4_224) dX4_readHolds_18 ?_
    refine th_callVi (As := [va_re ad (some 13)]) (rest := []) C lkX4_90 (X_RD_take_c hf) hw (xRc_RD C hw) rfl rfl ⟨Nat.le_of_ble_eq_true rfl, Nat.le_of_ble_eq_true rfl⟩ hl.1 (Nat.le_of_ble_eq_true rfl) ⟨Nat.le_of_ble_eq_true rfl, Nat.le_of_ble_eq_true rfl⟩ dX4_readHolds_21 (fun r_4 u_3 H locs hf hw => ?_)
    refine lv_if_eq (tgt := 44) hx hb dX4_readHolds_24 (by decide) (fun hc => ?_) (fun hc => ?_)
    · replace hf := hf.1 hc
      clear hc
      exact X_RD_readHolds_44_w C  u_3 _ _ _ hf hw (lv_sub hl [] rfl)
    · replace hf := hf.2 hc
      clear hc
      refine lv_aload_n hx hb dX4_readHolds_27 rfl (lv_at hl 1 rfl) ?_
      refine lv_iconst (v := (0 : Int32)) hx hb dX4_readHolds_28 (by decide) ?_
      refine lv_aload_n hx hb dX4_readHolds_29 rfl (lv_at hl 1 rfl) ?_
      refine xg_204 C hw (C.2.2.2.2.1 _ hwF_X4_31) dX4_readHolds_30 ?_
      refine xgn_400 C hw (va_Nw.use rfl (xN C hwG_X4_165)) dX4_readHolds_33 ?_
      refine lv_iconst (v := (1 : Int32)) hx hb dX4_readHolds_36 (by decide) ?_
      refine lv_isub hx hb dX4_readHolds_37 ?_
      refine th_callVi (As := [.int (0 : Int32), .int ((xi u_3 400) - (1 : Int32))]) (rest := []) C lkX4_161 (X_RD_takeNumber_c hf) hw (xRc_RD C hw) rfl rfl ⟨Nat.le_of_ble_eq_true rfl, Nat.le_of_ble_eq_true rfl⟩ hl.1 (Nat.le_of_ble_eq_true rfl) ⟨Nat.le_of_ble_eq_true rfl, Nat.le_of_ble_eq_true rfl⟩ dX4_readHolds_38 (fun r_6 u_5 H locs hf hw => ?_)
      refine lv_if_ne (tgt := 46) hx hb dX4_readHolds_41 (by decide) (fun hc => ?_) (fun hc => ?_)
      · replace hf := hf.1 hc
        clear hc
        refine lv_aload_n hx hb dX4_readHolds_46 rfl (lv_at hl 1 rfl) ?_
        refine xg_207 C hw (C.2.2.2.2.1 _ hwF_X4_45) dX4_readHolds_47 ?_
        refine lv_istore_n (lv' := [(2, .int (xi u_5 207)), (1, .int (xi u_1 207)), (0, .ref (q 299))]) hx hb dX4_readHolds_50 rfl hl (by decide) rfl (fun ls hl => ?_)
        refine lv_aload_n hx hb dX4_readHolds_51 rfl (lv_at hl 2 rfl) ?_
        refine xst C hw 11 (by decide) (C.2.2.2.2.1 _ hwF_X4_217) dX4_readHolds_52 ?_
        refine th_callVi (As := [va_re ad (some 11)]) (rest := []) C lkX4_90 (X_RD_take_c hf) hw (xRc_RD C hw) rfl rfl ⟨Nat.le_of_ble_eq_true rfl, Nat.le_of_ble_eq_true rfl⟩ hl.1 (Nat.le_of_ble_eq_true rfl) ⟨Nat.le_of_ble_eq_true rfl, Nat.le_of_ble_eq_true rfl⟩ dX4_readHolds_55 (fun r_8 u_7 H locs hf hw => ?_)
        refine lv_if_eq (tgt := 78) hx hb dX4_readHolds_58 (by decide) (fun hc => ?_) (fun hc => ?_)
        · replace hf := hf.1 hc
          clear hc
          exact X_RD_readHolds_78_w C  u_7 _ _ _ hf hw (lv_sub hl [] rfl)
        · replace hf := hf.2 hc
          clear hc
          refine lv_aload_n hx hb dX4_readHolds_61 rfl (lv_at hl 2 rfl) ?_
          refine lv_iload_n hx hb dX4_readHolds_62 rfl (lv_at hl 0 rfl) ?_
          refine lv_aload_n hx hb dX4_readHolds_63 rfl (lv_at hl 2 rfl) ?_
          refine xg_204 C hw (C.2.2.2.2.1 _ hwF_X4_31) dX4_readHolds_64 ?_
          refine xgn_400 C hw (va_Nw.use rfl (xN C hwG_X4_165)) dX4_readHolds_67 ?_
          refine lv_iconst (v := (1 : Int32)) hx hb dX4_readHolds_70 (by decide) ?_
          refine lv_isub hx hb dX4_readHolds_71 ?_
          refine th_callVi (As := [.int (xi u_5 207), .int ((xi u_7 400) - (1 : Int32))]) (rest := []) C lkX4_161 (X_RD_takeNumber_c hf) hw (xRc_RD C hw) rfl rfl ⟨Nat.le_of_ble_eq_true rfl, Nat.le_of_ble_eq_true rfl⟩ hl.1 (Nat.le_of_ble_eq_true rfl) ⟨Nat.le_of_ble_eq_true rfl, Nat.le_of_ble_eq_true rfl⟩ dX4_readHolds_72 (fun r_10 u_9 H locs hf hw => ?_)
          refine lv_if_ne (tgt := 80) hx hb dX4_readHolds_75 (by decide) (fun hc => ?_) (fun hc => ?_)
          · replace hf := hf.1 hc
            clear hc
            refine lv_aload_n hx hb dX4_readHolds_80 rfl (lv_at hl 2 rfl) ?_
            refine xg_204 C hw (C.2.2.2.2.1 _ hwF_X4_31) dX4_readHolds_81 ?_
            refine lv_iload_n hx hb dX4_readHolds_84 rfl (lv_at hl 1 rfl) ?_
            refine lv_iload_n hx hb dX4_readHolds_85 rfl (lv_at hl 0 rfl) ?_
            refine lv_aload_n hx hb dX4_readHolds_86 rfl (lv_at hl 2 rfl) ?_
            refine xg_207 C hw (C.2.2.2.2.1 _ hwF_X4_45) dX4_readHolds_87 ?_
            refine th_callVv (As := [.int (xi u_1 207), .int (xi u_5 207), .int (xi u_9 207)]) (rest := []) C lkX4_227 (X_T_holdBy_B_c hf) hw (xRc_TB C hw) rfl rfl ⟨Nat.le_of_ble_eq_true rfl, Nat.le_of_ble_eq_true rfl⟩ hl.1 (Nat.le_of_ble_eq_true rfl) ⟨Nat.le_of_ble_eq_true rfl, Nat.le_of_ble_eq_true rfl⟩ dX4_readHolds_90 (fun u_11 H locs hf hw => ?_)
            refine lv_iconst (v := (1 : Int32)) hx hb dX4_readHolds_93 (by decide) ?_
            exact th_zret C hw hf dX4_readHolds_94
          · replace hf := hf.2 hc
            clear hc
            exact X_RD_readHolds_78_w C  u_9 _ _ _ hf hw (lv_sub hl [] rfl)
      · replace hf := hf.2 hc
        clear hc
        exact X_RD_readHolds_44_w C  u_5 _ _ _ hf hw (lv_sub hl [] rfl)
  · replace hf := hf.2 hc
    clear hc
    refine lv_iconst (v := (0 : Int32)) hx hb dX4_readHolds_10 (by decide) ?_
    exact th_zret C hw hf dX4_readHolds_11
/-! X_RD_readMeasured -/
theorem dX4_readMeasured_0 : decode cX4_readMeasured 0 = .ok (.iconst 0, 1) := by decide +kernel
theorem dX4_readMeasured_1 : decode cX4_readMeasured 1 = .ok (.istore_n 2, 1) := by decide +kernel
theorem dX4_readMeasured_2 : decode cX4_readMeasured 2 = .ok (.aload_n 1, 1) := by decide +kernel
theorem dX4_readMeasured_3 : decode cX4_readMeasured 3 = .ok (.getstatic 280, 3) := by decide +kernel
theorem dX4_readMeasured_6 : decode cX4_readMeasured 6 = .ok (.if_acmp .ne 27, 3) := by decide +kernel
theorem dX4_readMeasured_9 : decode cX4_readMeasured 9 = .ok (.aload_n 0, 1) := by decide +kernel
theorem dX4_readMeasured_10 : decode cX4_readMeasured 10 = .ok (.iconst 0, 1) := by decide +kernel
theorem dX4_readMeasured_11 : decode cX4_readMeasured 11 = .ok (.aload_n 0, 1) := by decide +kernel
theorem dX4_readMeasured_12 : decode cX4_readMeasured 12 = .ok (.getfield 31, 3) := by decide +kernel
theorem dX4_readMeasured_15 : decode cX4_readMeasured 15 = .ok (.getfield 165, 3) := by decide +kernel
theorem dX4_readMeasured_18 : decode cX4_readMeasured 18 = .ok (.iconst 1, 1) := by decide +kernel
theorem dX4_readMeasured_19 : decode cX4_readMeasured 19 = .ok (.isub, 1) := by decide +kernel
theorem dX4_readMeasured_20 : decode cX4_readMeasured 20 = .ok (.invokevirtual 161, 3) := by decide +kernel
theorem dX4_readMeasured_23 : decode cX4_readMeasured 23 = .ok (.ifCond .ne 5, 3) := by decide +kernel
theorem dX4_readMeasured_26 : decode cX4_readMeasured 26 = .ok (.iconst 0, 1) := by decide +kernel
theorem dX4_readMeasured_27 : decode cX4_readMeasured 27 = .ok (.ireturn, 1) := by decide +kernel
theorem dX4_readMeasured_28 : decode cX4_readMeasured 28 = .ok (.aload_n 0, 1) := by decide +kernel
theorem dX4_readMeasured_29 : decode cX4_readMeasured 29 = .ok (.getfield 45, 3) := by decide +kernel
theorem dX4_readMeasured_32 : decode cX4_readMeasured 32 = .ok (.istore_n 2, 1) := by decide +kernel
theorem dX4_readMeasured_33 : decode cX4_readMeasured 33 = .ok (.aload_n 0, 1) := by decide +kernel
theorem dX4_readMeasured_34 : decode cX4_readMeasured 34 = .ok (.getfield 42, 3) := by decide +kernel
theorem dX4_readMeasured_37 : decode cX4_readMeasured 37 = .ok (.astore_n 3, 1) := by decide +kernel
theorem dX4_readMeasured_38 : decode cX4_readMeasured 38 = .ok (.aload_n 3, 1) := by decide +kernel
theorem dX4_readMeasured_39 : decode cX4_readMeasured 39 = .ok (.getstatic 283, 3) := by decide +kernel
theorem dX4_readMeasured_42 : decode cX4_readMeasured 42 = .ok (.if_acmp .eq 23, 3) := by decide +kernel
theorem dX4_readMeasured_45 : decode cX4_readMeasured 45 = .ok (.aload_n 3, 1) := by decide +kernel
theorem dX4_readMeasured_46 : decode cX4_readMeasured 46 = .ok (.getstatic 286, 3) := by decide +kernel
theorem dX4_readMeasured_49 : decode cX4_readMeasured 49 = .ok (.if_acmp .eq 16, 3) := by decide +kernel
theorem dX4_readMeasured_52 : decode cX4_readMeasured 52 = .ok (.aload_n 3, 1) := by decide +kernel
theorem dX4_readMeasured_53 : decode cX4_readMeasured 53 = .ok (.getstatic 289, 3) := by decide +kernel
theorem dX4_readMeasured_56 : decode cX4_readMeasured 56 = .ok (.if_acmp .eq 9, 3) := by decide +kernel
theorem dX4_readMeasured_59 : decode cX4_readMeasured 59 = .ok (.aload_n 0, 1) := by decide +kernel
theorem dX4_readMeasured_60 : decode cX4_readMeasured 60 = .ok (.iconst 1, 1) := by decide +kernel
theorem dX4_readMeasured_61 : decode cX4_readMeasured 61 = .ok (.invokevirtual 99, 3) := by decide +kernel
theorem dX4_readMeasured_64 : decode cX4_readMeasured 64 = .ok (.ireturn, 1) := by decide +kernel
theorem dX4_readMeasured_65 : decode cX4_readMeasured 65 = .ok (.aload_n 0, 1) := by decide +kernel
theorem dX4_readMeasured_66 : decode cX4_readMeasured 66 = .ok (.invokevirtual 74, 3) := by decide +kernel
theorem dX4_readMeasured_69 : decode cX4_readMeasured 69 = .ok (.aload_n 0, 1) := by decide +kernel
theorem dX4_readMeasured_70 : decode cX4_readMeasured 70 = .ok (.iconst 0, 1) := by decide +kernel
theorem dX4_readMeasured_71 : decode cX4_readMeasured 71 = .ok (.sipush 9999, 3) := by decide +kernel
theorem dX4_readMeasured_74 : decode cX4_readMeasured 74 = .ok (.invokevirtual 161, 3) := by decide +kernel
theorem dX4_readMeasured_77 : decode cX4_readMeasured 77 = .ok (.ifCond .ne 5, 3) := by decide +kernel
theorem dX4_readMeasured_80 : decode cX4_readMeasured 80 = .ok (.iconst 0, 1) := by decide +kernel
theorem dX4_readMeasured_81 : decode cX4_readMeasured 81 = .ok (.ireturn, 1) := by decide +kernel
theorem dX4_readMeasured_82 : decode cX4_readMeasured 82 = .ok (.aload_n 0, 1) := by decide +kernel
theorem dX4_readMeasured_83 : decode cX4_readMeasured 83 = .ok (.getfield 31, 3) := by decide +kernel
theorem dX4_readMeasured_86 : decode cX4_readMeasured 86 = .ok (.aload_n 1, 1) := by decide +kernel
theorem dX4_readMeasured_87 : decode cX4_readMeasured 87 = .ok (.iload_n 2, 1) := by decide +kernel
theorem dX4_readMeasured_88 : decode cX4_readMeasured 88 = .ok (.aload_n 3, 1) := by decide +kernel
theorem dX4_readMeasured_89 : decode cX4_readMeasured 89 = .ok (.aload_n 0, 1) := by decide +kernel
theorem dX4_readMeasured_90 : decode cX4_readMeasured 90 = .ok (.getfield 45, 3) := by decide +kernel
theorem dX4_readMeasured_93 : decode cX4_readMeasured 93 = .ok (.invokevirtual 292, 3) := by decide +kernel
theorem dX4_readMeasured_96 : decode cX4_readMeasured 96 = .ok (.iconst 1, 1) := by decide +kernel
theorem dX4_readMeasured_97 : decode cX4_readMeasured 97 = .ok (.ireturn, 1) := by decide +kernel
def X_RD_readMeasured_65 (K : Int32 → xs_St → Prop) (x1 : Option Nat) (x2 : Int32) (x3 : Option Nat) (u : xs_St) : Prop :=
  X_RD_advance u (fun u_1 => X_RD_takeNumber (0 : Int32) (9999 : Int32) u_1 (fun r_4 u_3 => ((¬ r_4 = 0 → X_T_addMeasured_B x1 x2 x3 (xi u_3 207) u_3 (fun u_5 => (((1 : Int32) = 0 ∨ (1 : Int32) = 1) ∧ K (1 : Int32) u_5))) ∧ (r_4 = 0 → (((0 : Int32) = 0 ∨ (0 : Int32) = 1) ∧ K (0 : Int32) u_3)))))
set_option maxHeartbeats 4000000 in
set_option maxRecDepth 100000 in
theorem X_RD_readMeasured_65_w {K : Int32 → xs_St → Prop} (C : th_Cx p s m args meth c cX4_readMeasured RX4 4 (some .boolean) (dC, dI) (th_ty cs) (xE ad ak) A) (x1 : Option Nat) (x2 : Int32) (x3 : Option Nat) (u : xs_St) (H : Heap) (locs : List Loc) (ls : Array Slot) (hf : X_RD_readMeasured_65 K x1 x2 x3 u) (hw : th_wI (dC, dI) (wX cs ad q v v) A s.heap u H locs) (hl : lv_has ls 4 [(0, .ref (q 299)), (1, va_re ad x1), (2, .int x2), (3, va_re ad x3)]) : W p l e (th_rm 2 0 0) s m args below meth c H locs 0 0 (MQ below (va_Qi K (th_Post (dC, dI) (wX cs ad q v v) A) A) args s 0 0 A) (F0 m 65 ls []) := by
  have hx := C.1
  have hb := C.2.1
  unfold X_RD_readMeasured_65 at hf
  refine lv_aload_n hx hb dX4_readMeasured_65 rfl (lv_at hl 0 rfl) ?_
  refine th_callVv (As := []) (rest := []) C lkX4_74 (X_RD_advance_c hf) hw (xRc_RD C hw) rfl rfl ⟨Nat.le_of_ble_eq_true rfl, Nat.le_of_ble_eq_true rfl⟩ hl.1 (Nat.le_of_ble_eq_true rfl) ⟨Nat.le_of_ble_eq_true rfl, Nat.le_of_ble_eq_true rfl⟩ dX4_readMeasured_66 (fun u_1 H locs hf hw => ?_)
  refine lv_aload_n hx hb dX4_readMeasured_69 rfl (lv_at hl 0 rfl) ?_
  refine lv_iconst (v := (0 : Int32)) hx hb dX4_readMeasured_70 (by decide) ?_
  refine lv_sipush (v := (9999 : Int32)) hx hb dX4_readMeasured_71 (by decide) ?_
  refine th_callVi (As := [.int (0 : Int32), .int (9999 : Int32)]) (rest := []) C lkX4_161 (X_RD_takeNumber_c hf) hw (xRc_RD C hw) rfl rfl ⟨Nat.le_of_ble_eq_true rfl, Nat.le_of_ble_eq_true rfl⟩ hl.1 (Nat.le_of_ble_eq_true rfl) ⟨Nat.le_of_ble_eq_true rfl, Nat.le_of_ble_eq_true rfl⟩ dX4_readMeasured_74 (fun r_4 u_3 H locs hf hw => ?_)
  refine lv_if_ne (tgt := 82) hx hb dX4_readMeasured_77 (by decide) (fun hc => ?_) (fun hc => ?_)
  · replace hf := hf.1 hc
    clear hc
    refine lv_aload_n hx hb dX4_readMeasured_82 rfl (lv_at hl 0 rfl) ?_
    refine xg_204 C hw (C.2.2.2.2.1 _ hwF_X4_31) dX4_readMeasured_83 ?_
    refine th_aload_n hx hb dX4_readMeasured_86 rfl (lv_at hl 1 rfl) ?_
    refine lv_iload_n hx hb dX4_readMeasured_87 rfl (lv_at hl 2 rfl) ?_
    refine th_aload_n hx hb dX4_readMeasured_88 rfl (lv_at hl 3 rfl) ?_
    refine lv_aload_n hx hb dX4_readMeasured_89 rfl (lv_at hl 0 rfl) ?_
    refine xg_207 C hw (C.2.2.2.2.1 _ hwF_X4_45) dX4_readMeasured_90 ?_
    refine th_callVv (As := [va_re ad x1, .int x2, va_re ad x3, .int (xi u_3 207)]) (rest := []) C lkX4_292 (X_T_addMeasured_B_c hf) hw (xRc_TB C hw) rfl rfl ⟨Nat.le_of_ble_eq_true rfl, Nat.le_of_ble_eq_true rfl⟩ hl.1 (Nat.le_of_ble_eq_true rfl) ⟨Nat.le_of_ble_eq_true rfl, Nat.le_of_ble_eq_true rfl⟩ dX4_readMeasured_93 (fun u_5 H locs hf hw => ?_)
    refine lv_iconst (v := (1 : Int32)) hx hb dX4_readMeasured_96 (by decide) ?_
    exact th_zret C hw hf dX4_readMeasured_97
  · replace hf := hf.2 hc
    clear hc
    refine lv_iconst (v := (0 : Int32)) hx hb dX4_readMeasured_80 (by decide) ?_
    exact th_zret C hw hf dX4_readMeasured_81
def X_RD_readMeasured_33 (K : Int32 → xs_St → Prop) (x1 : Option Nat) (x2 : Int32) (u : xs_St) : Prop :=
  (((xr u 206) = (some 6) → X_RD_readMeasured_65 K x1 x2 (xr u 206) u) ∧ (¬ (xr u 206) = (some 6) → (((xr u 206) = (some 7) → X_RD_readMeasured_65 K x1 x2 (xr u 206) u) ∧ (¬ (xr u 206) = (some 7) → (((xr u 206) = (some 8) → X_RD_readMeasured_65 K x1 x2 (xr u 206) u) ∧ (¬ (xr u 206) = (some 8) → X_RD_faulty (1 : Int32) u (fun r_2 u_1 => ((r_2 = 0 ∨ r_2 = 1) ∧ K r_2 u_1))))))))
set_option maxHeartbeats 4000000 in
set_option maxRecDepth 100000 in
theorem X_RD_readMeasured_33_w {K : Int32 → xs_St → Prop} (C : th_Cx p s m args meth c cX4_readMeasured RX4 4 (some .boolean) (dC, dI) (th_ty cs) (xE ad ak) A) (x1 : Option Nat) (x2 : Int32) (u : xs_St) (H : Heap) (locs : List Loc) (ls : Array Slot) (hf : X_RD_readMeasured_33 K x1 x2 u) (hw : th_wI (dC, dI) (wX cs ad q v v) A s.heap u H locs) (hl : lv_has ls 4 [(0, .ref (q 299)), (1, va_re ad x1), (2, .int x2)]) : W p l e (th_rm 2 0 0) s m args below meth c H locs 0 0 (MQ below (va_Qi K (th_Post (dC, dI) (wX cs ad q v v) A) A) args s 0 0 A) (F0 m 33 ls []) := by
  have hx := C.1
  have hb := C.2.1
  unfold X_RD_readMeasured_33 at hf
  refine lv_aload_n hx hb dX4_readMeasured_33 rfl (lv_at hl 0 rfl) ?_
  refine xg_206 C hw (C.2.2.2.2.1 _ hwF_X4_42) dX4_readMeasured_34 ?_
  refine th_astore_n (r := ((xr u 206)).map ad) (lv' := [(3, va_re ad (xr u 206)), (0, .ref (q 299)), (1, va_re ad x1), (2, .int x2)]) hx hb dX4_readMeasured_37 rfl hl (by decide) rfl (fun ls hl => ?_)
  refine th_aload_n hx hb dX4_readMeasured_38 rfl (lv_at hl 0 rfl) ?_
  refine xst C hw 6 (by decide) (C.2.2.2.2.1 _ hwF_X4_283) dX4_readMeasured_39 ?_
  refine x_acmp_eq (tgt := 65) C dX4_readMeasured_42 (by decide) (fun hc => ?_) (fun hc => ?_)
  · replace hf := hf.1 hc
    clear hc
    exact X_RD_readMeasured_65_w C x1 x2 (xr u 206) u _ _ _ hf hw (lv_sub hl [1, 2, 3, 0] rfl)
  · replace hf := hf.2 hc
    clear hc
    refine th_aload_n hx hb dX4_readMeasured_45 rfl (lv_at hl 0 rfl) ?_
    refine xst C hw 7 (by decide) (C.2.2.2.2.1 _ hwF_X4_286) dX4_readMeasured_46 ?_
    refine x_acmp_eq (tgt := 65) C dX4_readMeasured_49 (by decide) (fun hc => ?_) (fun hc => ?_)
    · replace hf := hf.1 hc
      clear hc
      exact X_RD_readMeasured_65_w C x1 x2 (xr u 206) u _ _ _ hf hw (lv_sub hl [1, 2, 3, 0] rfl)
    · replace hf := hf.2 hc
      clear hc
      refine th_aload_n hx hb dX4_readMeasured_52 rfl (lv_at hl 0 rfl) ?_
      refine xst C hw 8 (by decide) (C.2.2.2.2.1 _ hwF_X4_289) dX4_readMeasured_53 ?_
      refine x_acmp_eq (tgt := 65) C dX4_readMeasured_56 (by decide) (fun hc => ?_) (fun hc => ?_)
      · replace hf := hf.1 hc
        clear hc
        exact X_RD_readMeasured_65_w C x1 x2 (xr u 206) u _ _ _ hf hw (lv_sub hl [1, 2, 3, 0] rfl)
      · replace hf := hf.2 hc
        clear hc
        refine lv_aload_n hx hb dX4_readMeasured_59 rfl (lv_at hl 1 rfl) ?_
        refine lv_iconst (v := (1 : Int32)) hx hb dX4_readMeasured_60 (by decide) ?_
        refine th_callVi (As := [.int (1 : Int32)]) (rest := []) C lkX4_99 (X_RD_faulty_c hf) hw (xRc_RD C hw) rfl rfl ⟨Nat.le_of_ble_eq_true rfl, Nat.le_of_ble_eq_true rfl⟩ hl.1 (Nat.le_of_ble_eq_true rfl) ⟨Nat.le_of_ble_eq_true rfl, Nat.le_of_ble_eq_true rfl⟩ dX4_readMeasured_61 (fun r_2 u_1 H locs hf hw => ?_)
        exact th_zret C hw hf dX4_readMeasured_64
def X_RD_readMeasured (a1 : Option Nat) (u : xs_St) (K : Int32 → xs_St → Prop) : Prop :=
  ((¬ a1 = (some 26) → X_RD_readMeasured_33 K a1 (0 : Int32) u) ∧ (a1 = (some 26) → X_RD_takeNumber (0 : Int32) ((xi u 400) - (1 : Int32)) u (fun r_2 u_1 => ((¬ r_2 = 0 → X_RD_readMeasured_33 K a1 (xi u_1 207) u_1) ∧ (r_2 = 0 → (((0 : Int32) = 0 ∨ (0 : Int32) = 1) ∧ K (0 : Int32) u_1))))))
set_option maxHeartbeats 4000000 in
set_option maxRecDepth 100000 in
theorem X_RD_readMeasured_c {l : Launch} {dC : Nat → ClassId} {dI : Nat → Nat → Nat} {cs : Nat → ClassId} {ad ak : Nat → Nat} {q v : Nat → Nat} {a1 : Option Nat} {u : xs_St} {K : Int32 → xs_St → Prop} (hf : X_RD_readMeasured a1 u K) : th_Ci l yX4_readMeasured cX4_readMeasured 4 (some .boolean) 2 0 0 (dC, dI) (th_ty cs) (xE ad ak) (wX cs ad q v v) [.ref (q 299), va_re ad a1] u K := by
  refine th_ofi (by decide) (by cases a1 <;> exact Nat.le_of_ble_eq_true rfl) (xE_ok ad ak) ?_
  intro p e s m below meth c A ls C hw hl
  have C : th_Cx p s m _ meth c cX4_readMeasured RX4 4 (some .boolean) (dC, dI) (th_ty cs) (xE ad ak) A := C
  have hl : lv_has ls 4 [(0, .ref (q 299)), (1, va_re ad a1)] := by cases a1 <;> exact hl
  generalize (List.toArray _ : Array Value) = args at C ⊢
  have hx := C.1
  have hb := C.2.1
  unfold X_RD_readMeasured at hf
  refine lv_iconst (v := (0 : Int32)) hx hb dX4_readMeasured_0 (by decide) ?_
  refine lv_istore_n (i := 2) (lv' := [(2, .int (0 : Int32)), (0, .ref (q 299)), (1, va_re ad a1)]) hx hb dX4_readMeasured_1 rfl hl (by decide) (by simp [List.filter, th_cat, th_cate]) (fun ls hl => ?_)
  refine th_aload_n hx hb dX4_readMeasured_2 rfl (lv_at hl 2 rfl) ?_
  refine xst C hw 26 (by decide) (C.2.2.2.2.1 _ hwF_X4_280) dX4_readMeasured_3 ?_
  refine x_acmp_ne (tgt := 33) C dX4_readMeasured_6 (by decide) (fun hc => ?_) (fun hc => ?_)
  · replace hf := hf.1 hc
    clear hc
    exact X_RD_readMeasured_33_w C a1 (0 : Int32) u _ _ _ hf hw (lv_sub hl [1, 2, 0] rfl)
  · replace hf := hf.2 hc
    clear hc
    refine lv_aload_n hx hb dX4_readMeasured_9 rfl (lv_at hl 1 rfl) ?_
    refine lv_iconst (v := (0 : Int32)) hx hb dX4_readMeasured_10 (by decide) ?_
    refine lv_aload_n hx hb dX4_readMeasured_11 rfl (lv_at hl 1 rfl) ?_
    refine xg_204 C hw (C.2.2.2.2.1 _ hwF_X4_31) dX4_readMeasured_12 ?_
    refine xgn_400 C hw (va_Nw.use rfl (xN C hwG_X4_165)) dX4_readMeasured_15 ?_
    refine lv_iconst (v := (1 : Int32)) hx hb dX4_readMeasured_18 (by decide) ?_
    refine lv_isub hx hb dX4_readMeasured_19 ?_
    refine th_callVi (As := [.int (0 : Int32), .int ((xi u 400) - (1 : Int32))]) (rest := []) C lkX4_161 (X_RD_takeNumber_c hf) hw (xRc_RD C hw) rfl rfl ⟨Nat.le_of_ble_eq_true rfl, Nat.le_of_ble_eq_true rfl⟩ hl.1 (Nat.le_of_ble_eq_true rfl) ⟨Nat.le_of_ble_eq_true rfl, Nat.le_of_ble_eq_true rfl⟩ dX4_readMeasured_20 (fun r_2 u_1 H locs hf hw => ?_)
    refine lv_if_ne (tgt := 28) hx hb dX4_readMeasured_23 (by decide) (fun hc => ?_) (fun hc => ?_)
    · replace hf := hf.1 hc
      clear hc
      refine lv_aload_n hx hb dX4_readMeasured_28 rfl (lv_at hl 1 rfl) ?_
      refine xg_207 C hw (C.2.2.2.2.1 _ hwF_X4_45) dX4_readMeasured_29 ?_
      refine lv_istore_n (i := 2) (lv' := [(2, .int (xi u_1 207)), (0, .ref (q 299)), (1, va_re ad a1)]) hx hb dX4_readMeasured_32 rfl hl (by decide) (by simp [List.filter, th_cat, th_cate]) (fun ls hl => ?_)
      exact X_RD_readMeasured_33_w C a1 (xi u_1 207) u_1 _ _ _ hf hw (lv_sub hl [1, 2, 0] rfl)
    · replace hf := hf.2 hc
      clear hc
      refine lv_iconst (v := (0 : Int32)) hx hb dX4_readMeasured_26 (by decide) ?_
      exact th_zret C hw hf dX4_readMeasured_27
/-! X_RD_readSetting -/
theorem dX4_readSetting_0 : decode cX4_readSetting 0 = .ok (.aload_n 0, 1) := by decide +kernel
theorem dX4_readSetting_1 : decode cX4_readSetting 1 = .ok (.aload_n 1, 1) := by decide +kernel
theorem dX4_readSetting_2 : decode cX4_readSetting 2 = .ok (.getstatic 211, 3) := by decide +kernel
theorem dX4_readSetting_5 : decode cX4_readSetting 5 = .ok (.if_acmp .ne 7, 3) := by decide +kernel
theorem dX4_readSetting_8 : decode cX4_readSetting 8 = .ok (.iconst 0, 1) := by decide +kernel
theorem dX4_readSetting_9 : decode cX4_readSetting 9 = .ok (.goto 4, 3) := by decide +kernel
theorem dX4_readSetting_12 : decode cX4_readSetting 12 = .ok (.iconst 1, 1) := by decide +kernel
theorem dX4_readSetting_13 : decode cX4_readSetting 13 = .ok (.bipush 9, 2) := by decide +kernel
theorem dX4_readSetting_15 : decode cX4_readSetting 15 = .ok (.invokevirtual 161, 3) := by decide +kernel
theorem dX4_readSetting_18 : decode cX4_readSetting 18 = .ok (.ifCond .ne 5, 3) := by decide +kernel
theorem dX4_readSetting_21 : decode cX4_readSetting 21 = .ok (.iconst 0, 1) := by decide +kernel
theorem dX4_readSetting_22 : decode cX4_readSetting 22 = .ok (.ireturn, 1) := by decide +kernel
theorem dX4_readSetting_23 : decode cX4_readSetting 23 = .ok (.aload_n 1, 1) := by decide +kernel
theorem dX4_readSetting_24 : decode cX4_readSetting 24 = .ok (.getstatic 205, 3) := by decide +kernel
theorem dX4_readSetting_27 : decode cX4_readSetting 27 = .ok (.if_acmp .ne 22, 3) := by decide +kernel
theorem dX4_readSetting_30 : decode cX4_readSetting 30 = .ok (.aload_n 0, 1) := by decide +kernel
theorem dX4_readSetting_31 : decode cX4_readSetting 31 = .ok (.getfield 31, 3) := by decide +kernel
theorem dX4_readSetting_34 : decode cX4_readSetting 34 = .ok (.aload_n 0, 1) := by decide +kernel
theorem dX4_readSetting_35 : decode cX4_readSetting 35 = .ok (.getfield 45, 3) := by decide +kernel
theorem dX4_readSetting_38 : decode cX4_readSetting 38 = .ok (.putfield 231, 3) := by decide +kernel
theorem dX4_readSetting_41 : decode cX4_readSetting 41 = .ok (.aload_n 0, 1) := by decide +kernel
theorem dX4_readSetting_42 : decode cX4_readSetting 42 = .ok (.iconst 1, 1) := by decide +kernel
theorem dX4_readSetting_43 : decode cX4_readSetting 43 = .ok (.putfield 51, 3) := by decide +kernel
theorem dX4_readSetting_46 : decode cX4_readSetting 46 = .ok (.goto 45, 3) := by decide +kernel
theorem dX4_readSetting_49 : decode cX4_readSetting 49 = .ok (.aload_n 1, 1) := by decide +kernel
theorem dX4_readSetting_50 : decode cX4_readSetting 50 = .ok (.getstatic 208, 3) := by decide +kernel
theorem dX4_readSetting_53 : decode cX4_readSetting 53 = .ok (.if_acmp .ne 22, 3) := by decide +kernel
theorem dX4_readSetting_56 : decode cX4_readSetting 56 = .ok (.aload_n 0, 1) := by decide +kernel
theorem dX4_readSetting_57 : decode cX4_readSetting 57 = .ok (.getfield 31, 3) := by decide +kernel
theorem dX4_readSetting_60 : decode cX4_readSetting 60 = .ok (.aload_n 0, 1) := by decide +kernel
theorem dX4_readSetting_61 : decode cX4_readSetting 61 = .ok (.getfield 45, 3) := by decide +kernel
theorem dX4_readSetting_64 : decode cX4_readSetting 64 = .ok (.putfield 234, 3) := by decide +kernel
theorem dX4_readSetting_67 : decode cX4_readSetting 67 = .ok (.aload_n 0, 1) := by decide +kernel
theorem dX4_readSetting_68 : decode cX4_readSetting 68 = .ok (.iconst 1, 1) := by decide +kernel
theorem dX4_readSetting_69 : decode cX4_readSetting 69 = .ok (.putfield 55, 3) := by decide +kernel
theorem dX4_readSetting_72 : decode cX4_readSetting 72 = .ok (.goto 19, 3) := by decide +kernel
theorem dX4_readSetting_75 : decode cX4_readSetting 75 = .ok (.aload_n 0, 1) := by decide +kernel
theorem dX4_readSetting_76 : decode cX4_readSetting 76 = .ok (.getfield 31, 3) := by decide +kernel
theorem dX4_readSetting_79 : decode cX4_readSetting 79 = .ok (.aload_n 0, 1) := by decide +kernel
theorem dX4_readSetting_80 : decode cX4_readSetting 80 = .ok (.getfield 45, 3) := by decide +kernel
theorem dX4_readSetting_83 : decode cX4_readSetting 83 = .ok (.putfield 237, 3) := by decide +kernel
theorem dX4_readSetting_86 : decode cX4_readSetting 86 = .ok (.aload_n 0, 1) := by decide +kernel
theorem dX4_readSetting_87 : decode cX4_readSetting 87 = .ok (.iconst 1, 1) := by decide +kernel
theorem dX4_readSetting_88 : decode cX4_readSetting 88 = .ok (.putfield 58, 3) := by decide +kernel
theorem dX4_readSetting_91 : decode cX4_readSetting 91 = .ok (.iconst 1, 1) := by decide +kernel
theorem dX4_readSetting_92 : decode cX4_readSetting 92 = .ok (.ireturn, 1) := by decide +kernel
def X_RD_readSetting_91 (K : Int32 → xs_St → Prop) (u : xs_St) : Prop :=
  (((1 : Int32) = 0 ∨ (1 : Int32) = 1) ∧ K (1 : Int32) u)
set_option maxHeartbeats 4000000 in
set_option maxRecDepth 100000 in
theorem X_RD_readSetting_91_w {K : Int32 → xs_St → Prop} (C : th_Cx p s m args meth c cX4_readSetting RX4 2 (some .boolean) (dC, dI) (th_ty cs) (xE ad ak) A) (u : xs_St) (H : Heap) (locs : List Loc) (ls : Array Slot) (hf : X_RD_readSetting_91 K u) (hw : th_wI (dC, dI) (wX cs ad q v v) A s.heap u H locs) (hl : lv_has ls 2 []) : W p l e (th_rm 2 0 0) s m args below meth c H locs 0 0 (MQ below (va_Qi K (th_Post (dC, dI) (wX cs ad q v v) A) A) args s 0 0 A) (F0 m 91 ls []) := by
  have hx := C.1
  have hb := C.2.1
  unfold X_RD_readSetting_91 at hf
  refine lv_iconst (v := (1 : Int32)) hx hb dX4_readSetting_91 (by decide) ?_
  exact th_zret C hw hf dX4_readSetting_92
def X_RD_readSetting_13 (K : Int32 → xs_St → Prop) (x1 : Option Nat) (z0 : Int32) (u : xs_St) : Prop :=
  X_RD_takeNumber z0 (9 : Int32) u (fun r_2 u_1 => ((¬ r_2 = 0 → ((¬ x1 = (some 14) → ((¬ x1 = (some 15) → ∀ u_3 : xs_St, u_3 = xs_si u_1 403 (xi u_1 207) → (((1 : Int32) = 0 ∨ (1 : Int32) = 1) ∧ ∀ u_4 : xs_St, u_4 = xs_si u_3 211 (1 : Int32) → X_RD_readSetting_91 K u_4)) ∧ (x1 = (some 15) → ∀ u_5 : xs_St, u_5 = xs_si u_1 402 (xi u_1 207) → (((1 : Int32) = 0 ∨ (1 : Int32) = 1) ∧ ∀ u_6 : xs_St, u_6 = xs_si u_5 210 (1 : Int32) → X_RD_readSetting_91 K u_6)))) ∧ (x1 = (some 14) → ∀ u_7 : xs_St, u_7 = xs_si u_1 401 (xi u_1 207) → (((1 : Int32) = 0 ∨ (1 : Int32) = 1) ∧ ∀ u_8 : xs_St, u_8 = xs_si u_7 209 (1 : Int32) → X_RD_readSetting_91 K u_8)))) ∧ (r_2 = 0 → (((0 : Int32) = 0 ∨ (0 : Int32) = 1) ∧ K (0 : Int32) u_1))))
set_option maxHeartbeats 4000000 in
set_option maxRecDepth 100000 in
theorem X_RD_readSetting_13_w {K : Int32 → xs_St → Prop} (C : th_Cx p s m args meth c cX4_readSetting RX4 2 (some .boolean) (dC, dI) (th_ty cs) (xE ad ak) A) (x1 : Option Nat) (z0 : Int32) (u : xs_St) (H : Heap) (locs : List Loc) (ls : Array Slot) (hf : X_RD_readSetting_13 K x1 z0 u) (hw : th_wI (dC, dI) (wX cs ad q v v) A s.heap u H locs) (hl : lv_has ls 2 [(0, .ref (q 299)), (1, va_re ad x1)]) : W p l e (th_rm 2 0 0) s m args below meth c H locs 0 0 (MQ below (va_Qi K (th_Post (dC, dI) (wX cs ad q v v) A) A) args s 0 0 A) (F0 m 13 ls [.int z0, .ref (q 299)]) := by
  have hx := C.1
  have hb := C.2.1
  unfold X_RD_readSetting_13 at hf
  refine lv_bipush (v := (9 : Int32)) hx hb dX4_readSetting_13 (by decide) ?_
  refine th_callVi (As := [.int z0, .int (9 : Int32)]) (rest := []) C lkX4_161 (X_RD_takeNumber_c hf) hw (xRc_RD C hw) rfl rfl ⟨Nat.le_of_ble_eq_true rfl, Nat.le_of_ble_eq_true rfl⟩ hl.1 (Nat.le_of_ble_eq_true rfl) ⟨Nat.le_of_ble_eq_true rfl, Nat.le_of_ble_eq_true rfl⟩ dX4_readSetting_15 (fun r_2 u_1 H locs hf hw => ?_)
  refine lv_if_ne (tgt := 23) hx hb dX4_readSetting_18 (by decide) (fun hc => ?_) (fun hc => ?_)
  · replace hf := hf.1 hc
    clear hc
    refine th_aload_n hx hb dX4_readSetting_23 rfl (lv_at hl 1 rfl) ?_
    refine xst C hw 14 (by decide) (C.2.2.2.2.1 _ hwF_X4_205) dX4_readSetting_24 ?_
    refine x_acmp_ne (tgt := 49) C dX4_readSetting_27 (by decide) (fun hc => ?_) (fun hc => ?_)
    · replace hf := hf.1 hc
      clear hc
      refine th_aload_n hx hb dX4_readSetting_49 rfl (lv_at hl 1 rfl) ?_
      refine xst C hw 15 (by decide) (C.2.2.2.2.1 _ hwF_X4_208) dX4_readSetting_50 ?_
      refine x_acmp_ne (tgt := 75) C dX4_readSetting_53 (by decide) (fun hc => ?_) (fun hc => ?_)
      · replace hf := hf.1 hc
        clear hc
        refine lv_aload_n hx hb dX4_readSetting_75 rfl (lv_at hl 0 rfl) ?_
        refine xg_204 C hw (C.2.2.2.2.1 _ hwF_X4_31) dX4_readSetting_76 ?_
        refine lv_aload_n hx hb dX4_readSetting_79 rfl (lv_at hl 0 rfl) ?_
        refine xg_207 C hw (C.2.2.2.2.1 _ hwF_X4_45) dX4_readSetting_80 ?_
        refine xpn_403 C hw (va_Nw.use rfl (xN C hwG_X4_237)) dX4_readSetting_83 (fun u_3 e9 H locs hw => ?_)
        replace hf := hf u_3 e9
        clear e9
        refine lv_aload_n hx hb dX4_readSetting_86 rfl (lv_at hl 0 rfl) ?_
        refine lv_iconst (v := (1 : Int32)) hx hb dX4_readSetting_87 (by decide) ?_
        refine xp_211 C hw hf.1 (C.2.2.2.2.1 _ hwF_X4_58) dX4_readSetting_88 (fun u_4 e9 H locs hw => ?_)
        replace hf := hf.2 u_4 e9
        clear e9
        exact X_RD_readSetting_91_w C  u_4 _ _ _ hf hw (lv_sub hl [] rfl)
      · replace hf := hf.2 hc
        clear hc
        refine lv_aload_n hx hb dX4_readSetting_56 rfl (lv_at hl 0 rfl) ?_
        refine xg_204 C hw (C.2.2.2.2.1 _ hwF_X4_31) dX4_readSetting_57 ?_
        refine lv_aload_n hx hb dX4_readSetting_60 rfl (lv_at hl 0 rfl) ?_
        refine xg_207 C hw (C.2.2.2.2.1 _ hwF_X4_45) dX4_readSetting_61 ?_
        refine xpn_402 C hw (va_Nw.use rfl (xN C hwG_X4_234)) dX4_readSetting_64 (fun u_5 e9 H locs hw => ?_)
        replace hf := hf u_5 e9
        clear e9
        refine lv_aload_n hx hb dX4_readSetting_67 rfl (lv_at hl 0 rfl) ?_
        refine lv_iconst (v := (1 : Int32)) hx hb dX4_readSetting_68 (by decide) ?_
        refine xp_210 C hw hf.1 (C.2.2.2.2.1 _ hwF_X4_55) dX4_readSetting_69 (fun u_6 e9 H locs hw => ?_)
        replace hf := hf.2 u_6 e9
        clear e9
        refine lv_goto (tgt := 91) hx hb dX4_readSetting_72 (by decide) ?_
        exact X_RD_readSetting_91_w C  u_6 _ _ _ hf hw (lv_sub hl [] rfl)
    · replace hf := hf.2 hc
      clear hc
      refine lv_aload_n hx hb dX4_readSetting_30 rfl (lv_at hl 0 rfl) ?_
      refine xg_204 C hw (C.2.2.2.2.1 _ hwF_X4_31) dX4_readSetting_31 ?_
      refine lv_aload_n hx hb dX4_readSetting_34 rfl (lv_at hl 0 rfl) ?_
      refine xg_207 C hw (C.2.2.2.2.1 _ hwF_X4_45) dX4_readSetting_35 ?_
      refine xpn_401 C hw (va_Nw.use rfl (xN C hwG_X4_231)) dX4_readSetting_38 (fun u_7 e9 H locs hw => ?_)
      replace hf := hf u_7 e9
      clear e9
      refine lv_aload_n hx hb dX4_readSetting_41 rfl (lv_at hl 0 rfl) ?_
      refine lv_iconst (v := (1 : Int32)) hx hb dX4_readSetting_42 (by decide) ?_
      refine xp_209 C hw hf.1 (C.2.2.2.2.1 _ hwF_X4_51) dX4_readSetting_43 (fun u_8 e9 H locs hw => ?_)
      replace hf := hf.2 u_8 e9
      clear e9
      refine lv_goto (tgt := 91) hx hb dX4_readSetting_46 (by decide) ?_
      exact X_RD_readSetting_91_w C  u_8 _ _ _ hf hw (lv_sub hl [] rfl)
  · replace hf := hf.2 hc
    clear hc
    refine lv_iconst (v := (0 : Int32)) hx hb dX4_readSetting_21 (by decide) ?_
    exact th_zret C hw hf dX4_readSetting_22
def X_RD_readSetting (a1 : Option Nat) (u : xs_St) (K : Int32 → xs_St → Prop) : Prop :=
  ((¬ a1 = (some 16) → X_RD_readSetting_13 K a1 (1 : Int32) u) ∧ (a1 = (some 16) → X_RD_readSetting_13 K a1 (0 : Int32) u))
set_option maxHeartbeats 4000000 in
set_option maxRecDepth 100000 in
theorem X_RD_readSetting_c {l : Launch} {dC : Nat → ClassId} {dI : Nat → Nat → Nat} {cs : Nat → ClassId} {ad ak : Nat → Nat} {q v : Nat → Nat} {a1 : Option Nat} {u : xs_St} {K : Int32 → xs_St → Prop} (hf : X_RD_readSetting a1 u K) : th_Ci l yX4_readSetting cX4_readSetting 2 (some .boolean) 2 0 0 (dC, dI) (th_ty cs) (xE ad ak) (wX cs ad q v v) [.ref (q 299), va_re ad a1] u K := by
  refine th_ofi (by decide) (by cases a1 <;> exact Nat.le_of_ble_eq_true rfl) (xE_ok ad ak) ?_
  intro p e s m below meth c A ls C hw hl
  have C : th_Cx p s m _ meth c cX4_readSetting RX4 2 (some .boolean) (dC, dI) (th_ty cs) (xE ad ak) A := C
  have hl : lv_has ls 2 [(0, .ref (q 299)), (1, va_re ad a1)] := by cases a1 <;> exact hl
  generalize (List.toArray _ : Array Value) = args at C ⊢
  have hx := C.1
  have hb := C.2.1
  unfold X_RD_readSetting at hf
  refine lv_aload_n hx hb dX4_readSetting_0 rfl (lv_at hl 0 rfl) ?_
  refine th_aload_n hx hb dX4_readSetting_1 rfl (lv_at hl 1 rfl) ?_
  refine xst C hw 16 (by decide) (C.2.2.2.2.1 _ hwF_X4_211) dX4_readSetting_2 ?_
  refine x_acmp_ne (tgt := 12) C dX4_readSetting_5 (by decide) (fun hc => ?_) (fun hc => ?_)
  · replace hf := hf.1 hc
    clear hc
    refine lv_iconst (v := (1 : Int32)) hx hb dX4_readSetting_12 (by decide) ?_
    exact X_RD_readSetting_13_w C a1 (1 : Int32) u _ _ _ hf hw (lv_sub hl [0, 1] rfl)
  · replace hf := hf.2 hc
    clear hc
    refine lv_iconst (v := (0 : Int32)) hx hb dX4_readSetting_8 (by decide) ?_
    refine lv_goto (tgt := 13) hx hb dX4_readSetting_9 (by decide) ?_
    exact X_RD_readSetting_13_w C a1 (0 : Int32) u _ _ _ hf hw (lv_sub hl [0, 1] rfl)
/-! X_S1_charAt_3b067 -/
theorem dJ1_charAt_3b067_0 : decode cJ1_charAt_3b067 0 = .ok (.iload_n 1, 1) := by decide +kernel
theorem dJ1_charAt_3b067_1 : decode cJ1_charAt_3b067 1 = .ok (.aload_n 0, 1) := by decide +kernel
theorem dJ1_charAt_3b067_2 : decode cJ1_charAt_3b067 2 = .ok (.arraylength, 1) := by decide +kernel
theorem dJ1_charAt_3b067_3 : decode cJ1_charAt_3b067 3 = .ok (.invokestatic 9, 3) := by decide +kernel
theorem dJ1_charAt_3b067_6 : decode cJ1_charAt_3b067 6 = .ok (.aload_n 0, 1) := by decide +kernel
theorem dJ1_charAt_3b067_7 : decode cJ1_charAt_3b067 7 = .ok (.iload_n 1, 1) := by decide +kernel
theorem dJ1_charAt_3b067_8 : decode cJ1_charAt_3b067 8 = .ok (.baload, 1) := by decide +kernel
theorem dJ1_charAt_3b067_9 : decode cJ1_charAt_3b067 9 = .ok (.sipush 255, 3) := by decide +kernel
theorem dJ1_charAt_3b067_12 : decode cJ1_charAt_3b067 12 = .ok (.iand, 1) := by decide +kernel
theorem dJ1_charAt_3b067_13 : decode cJ1_charAt_3b067 13 = .ok (.i2c, 1) := by decide +kernel
theorem dJ1_charAt_3b067_14 : decode cJ1_charAt_3b067 14 = .ok (.ireturn, 1) := by decide +kernel
def X_S1_charAt_3b067 (a1 : Nat) (a2 : Int32) (u : xs_St) (K : Int32 → xs_St → Prop) : Prop :=
  (a1 < 27 ∧ X_S0_checkIndex_df160 a2 (nI (xs_len a1)) u (fun u_1 => (a1 < 27 ∧ vp_in a2 (xs_len a1) ∧ ∀ y_3 : Int32, y_3 = xs_chr a1 (a2).toNatClampNeg → (narrow .char (.int (((y_3 &&& (255 : Int32))).toUInt32 % 65536).toInt32) = .int (((y_3 &&& (255 : Int32))).toUInt32 % 65536).toInt32 ∧ K (((y_3 &&& (255 : Int32))).toUInt32 % 65536).toInt32 u_1))))
set_option maxHeartbeats 4000000 in
set_option maxRecDepth 100000 in
theorem X_S1_charAt_3b067_c {l : Launch} {dC : Nat → ClassId} {dI : Nat → Nat → Nat} {cs : Nat → ClassId} {ad ak : Nat → Nat} {q v : Nat → Nat} {a1 : Nat} {a2 : Int32} {u : xs_St} {K : Int32 → xs_St → Prop} (hf : X_S1_charAt_3b067 a1 a2 u K) : th_Ci l yJ1_charAt_3b067 cJ1_charAt_3b067 2 (some .char) 2 0 0 (dC, dI) (th_ty cs) (xE ad ak) (wX cs ad q v v) [.ref (ak (200 + a1)), .int a2] u K := by
  refine th_ofi (by decide) (Nat.le_of_ble_eq_true rfl) (xE_ok ad ak) ?_
  intro p e s m below meth c A ls C hw hl
  have C : th_Cx p s m _ meth c cJ1_charAt_3b067 RJ1 2 (some .char) (dC, dI) (th_ty cs) (xE ad ak) A := C
  have hl : lv_has ls 2 [(0, .ref (ak (200 + a1))), (1, .int a2)] := hl
  generalize (List.toArray _ : Array Value) = args at C ⊢
  have hx := C.1
  have hb := C.2.1
  unfold X_S1_charAt_3b067 at hf
  refine lv_iload_n hx hb dJ1_charAt_3b067_0 rfl (lv_at hl 1 rfl) ?_
  refine lv_aload_n hx hb dJ1_charAt_3b067_1 rfl (lv_at hl 0 rfl) ?_
  refine x_sln C hw hf.1 dJ1_charAt_3b067_2 ?_
  replace hf := hf.2
  refine th_callSv (As := [.int a2, .int (nI (xs_len a1))]) (rest := []) C lkJJ1_9 (X_S0_checkIndex_df160_c hf) hw rfl rfl ⟨Nat.le_of_ble_eq_true rfl, Nat.le_of_ble_eq_true rfl⟩ hl.1 (Nat.le_of_ble_eq_true rfl) ⟨Nat.le_of_ble_eq_true rfl, Nat.le_of_ble_eq_true rfl⟩ dJ1_charAt_3b067_3 (fun u_1 H locs hf hw => ?_)
  refine lv_aload_n hx hb dJ1_charAt_3b067_6 rfl (lv_at hl 0 rfl) ?_
  refine lv_iload_n hx hb dJ1_charAt_3b067_7 rfl (lv_at hl 1 rfl) ?_
  refine x_sch C hw hf.1 hf.2.1 dJ1_charAt_3b067_8 (fun y_3 e9 => ?_)
  replace hf := hf.2.2 y_3 e9
  clear e9
  refine lv_sipush (v := (255 : Int32)) hx hb dJ1_charAt_3b067_9 (by decide) ?_
  refine lv_iand hx hb dJ1_charAt_3b067_12 ?_
  refine lv_i2c hx hb dJ1_charAt_3b067_13 rfl ?_
  exact th_nret C hw hf.1 hf.2 dJ1_charAt_3b067_14
/-! X_TH_areStretches -/
theorem dX11_areStretches_0 : decode cX11_areStretches 0 = .ok (.aload_n 0, 1) := by decide +kernel
theorem dX11_areStretches_1 : decode cX11_areStretches 1 = .ok (.getfield 10, 3) := by decide +kernel
theorem dX11_areStretches_4 : decode cX11_areStretches 4 = .ok (.getfield 91, 3) := by decide +kernel
theorem dX11_areStretches_7 : decode cX11_areStretches 7 = .ok (.iconst 2, 1) := by decide +kernel
theorem dX11_areStretches_8 : decode cX11_areStretches 8 = .ok (.idiv, 1) := by decide +kernel
theorem dX11_areStretches_9 : decode cX11_areStretches 9 = .ok (.istore_n 1, 1) := by decide +kernel
theorem dX11_areStretches_10 : decode cX11_areStretches 10 = .ok (.aload_n 0, 1) := by decide +kernel
theorem dX11_areStretches_11 : decode cX11_areStretches 11 = .ok (.getfield 10, 3) := by decide +kernel
theorem dX11_areStretches_14 : decode cX11_areStretches 14 = .ok (.getfield 91, 3) := by decide +kernel
theorem dX11_areStretches_17 : decode cX11_areStretches 17 = .ok (.iconst 2, 1) := by decide +kernel
theorem dX11_areStretches_18 : decode cX11_areStretches 18 = .ok (.irem, 1) := by decide +kernel
theorem dX11_areStretches_19 : decode cX11_areStretches 19 = .ok (.ifCond .ne 14, 3) := by decide +kernel
theorem dX11_areStretches_22 : decode cX11_areStretches 22 = .ok (.iload_n 1, 1) := by decide +kernel
theorem dX11_areStretches_23 : decode cX11_areStretches 23 = .ok (.iconst 1, 1) := by decide +kernel
theorem dX11_areStretches_24 : decode cX11_areStretches 24 = .ok (.if_icmp .lt 9, 3) := by decide +kernel
theorem dX11_areStretches_27 : decode cX11_areStretches 27 = .ok (.iload_n 1, 1) := by decide +kernel
theorem dX11_areStretches_28 : decode cX11_areStretches 28 = .ok (.bipush 40, 2) := by decide +kernel
theorem dX11_areStretches_30 : decode cX11_areStretches 30 = .ok (.if_icmp .le 5, 3) := by decide +kernel
theorem dX11_areStretches_33 : decode cX11_areStretches 33 = .ok (.iconst 0, 1) := by decide +kernel
theorem dX11_areStretches_34 : decode cX11_areStretches 34 = .ok (.ireturn, 1) := by decide +kernel
theorem dX11_areStretches_35 : decode cX11_areStretches 35 = .ok (.iconst 0, 1) := by decide +kernel
theorem dX11_areStretches_36 : decode cX11_areStretches 36 = .ok (.istore_n 2, 1) := by decide +kernel
theorem dX11_areStretches_37 : decode cX11_areStretches 37 = .ok (.iload_n 2, 1) := by decide +kernel
theorem dX11_areStretches_38 : decode cX11_areStretches 38 = .ok (.iload_n 1, 1) := by decide +kernel
theorem dX11_areStretches_39 : decode cX11_areStretches 39 = .ok (.if_icmp .ge 49, 3) := by decide +kernel
theorem dX11_areStretches_42 : decode cX11_areStretches 42 = .ok (.aload_n 0, 1) := by decide +kernel
theorem dX11_areStretches_43 : decode cX11_areStretches 43 = .ok (.getfield 10, 3) := by decide +kernel
theorem dX11_areStretches_46 : decode cX11_areStretches 46 = .ok (.iconst 2, 1) := by decide +kernel
theorem dX11_areStretches_47 : decode cX11_areStretches 47 = .ok (.iload_n 2, 1) := by decide +kernel
theorem dX11_areStretches_48 : decode cX11_areStretches 48 = .ok (.imul, 1) := by decide +kernel
theorem dX11_areStretches_49 : decode cX11_areStretches 49 = .ok (.iconst 1, 1) := by decide +kernel
theorem dX11_areStretches_50 : decode cX11_areStretches 50 = .ok (.iadd, 1) := by decide +kernel
theorem dX11_areStretches_51 : decode cX11_areStretches 51 = .ok (.invokevirtual 277, 3) := by decide +kernel
theorem dX11_areStretches_54 : decode cX11_areStretches 54 = .ok (.istore_n 3, 1) := by decide +kernel
theorem dX11_areStretches_55 : decode cX11_areStretches 55 = .ok (.aload_n 0, 1) := by decide +kernel
theorem dX11_areStretches_56 : decode cX11_areStretches 56 = .ok (.getfield 10, 3) := by decide +kernel
theorem dX11_areStretches_59 : decode cX11_areStretches 59 = .ok (.iconst 2, 1) := by decide +kernel
theorem dX11_areStretches_60 : decode cX11_areStretches 60 = .ok (.iload_n 2, 1) := by decide +kernel
theorem dX11_areStretches_61 : decode cX11_areStretches 61 = .ok (.imul, 1) := by decide +kernel
theorem dX11_areStretches_62 : decode cX11_areStretches 62 = .ok (.invokevirtual 277, 3) := by decide +kernel
theorem dX11_areStretches_65 : decode cX11_areStretches 65 = .ok (.iload_n 3, 1) := by decide +kernel
theorem dX11_areStretches_66 : decode cX11_areStretches 66 = .ok (.if_icmp .gt 14, 3) := by decide +kernel
theorem dX11_areStretches_69 : decode cX11_areStretches 69 = .ok (.iload_n 3, 1) := by decide +kernel
theorem dX11_areStretches_70 : decode cX11_areStretches 70 = .ok (.aload_n 0, 1) := by decide +kernel
theorem dX11_areStretches_71 : decode cX11_areStretches 71 = .ok (.getfield 69, 3) := by decide +kernel
theorem dX11_areStretches_74 : decode cX11_areStretches 74 = .ok (.getfield 126, 3) := by decide +kernel
theorem dX11_areStretches_77 : decode cX11_areStretches 77 = .ok (.if_icmp .lt 5, 3) := by decide +kernel
theorem dX11_areStretches_80 : decode cX11_areStretches 80 = .ok (.iconst 0, 1) := by decide +kernel
theorem dX11_areStretches_81 : decode cX11_areStretches 81 = .ok (.ireturn, 1) := by decide +kernel
theorem dX11_areStretches_82 : decode cX11_areStretches 82 = .ok (.iinc 2 1, 3) := by decide +kernel
theorem dX11_areStretches_85 : decode cX11_areStretches 85 = .ok (.goto (-48), 3) := by decide +kernel
theorem dX11_areStretches_88 : decode cX11_areStretches 88 = .ok (.iconst 1, 1) := by decide +kernel
theorem dX11_areStretches_89 : decode cX11_areStretches 89 = .ok (.ireturn, 1) := by decide +kernel
def X_TH_areStretches_33 (K : Int32 → xs_St → Prop) (u : xs_St) : Prop :=
  (((0 : Int32) = 0 ∨ (0 : Int32) = 1) ∧ K (0 : Int32) u)
set_option maxHeartbeats 4000000 in
set_option maxRecDepth 100000 in
theorem X_TH_areStretches_33_w {K : Int32 → xs_St → Prop} (C : th_Cx p s m args meth c cX11_areStretches RX11 4 (some .boolean) (dC, dI) (th_ty cs) (xE ad ak) A) (u : xs_St) (H : Heap) (locs : List Loc) (ls : Array Slot) (hf : X_TH_areStretches_33 K u) (hw : th_wI (dC, dI) (wX cs ad q v v) A s.heap u H locs) (hl : lv_has ls 4 []) : W p l e (th_rm 2 0 0) s m args below meth c H locs 0 0 (MQ below (va_Qi K (th_Post (dC, dI) (wX cs ad q v v) A) A) args s 0 0 A) (F0 m 33 ls []) := by
  have hx := C.1
  have hb := C.2.1
  unfold X_TH_areStretches_33 at hf
  refine lv_iconst (v := (0 : Int32)) hx hb dX11_areStretches_33 (by decide) ?_
  exact th_zret C hw hf dX11_areStretches_34
def X_TH_areStretches_80 (K : Int32 → xs_St → Prop) (u : xs_St) : Prop :=
  (((0 : Int32) = 0 ∨ (0 : Int32) = 1) ∧ K (0 : Int32) u)
set_option maxHeartbeats 4000000 in
set_option maxRecDepth 100000 in
theorem X_TH_areStretches_80_w {K : Int32 → xs_St → Prop} (C : th_Cx p s m args meth c cX11_areStretches RX11 4 (some .boolean) (dC, dI) (th_ty cs) (xE ad ak) A) (u : xs_St) (H : Heap) (locs : List Loc) (ls : Array Slot) (hf : X_TH_areStretches_80 K u) (hw : th_wI (dC, dI) (wX cs ad q v v) A s.heap u H locs) (hl : lv_has ls 4 []) : W p l e (th_rm 2 0 0) s m args below meth c H locs 0 0 (MQ below (va_Qi K (th_Post (dC, dI) (wX cs ad q v v) A) A) args s 0 0 A) (F0 m 80 ls []) := by
  have hx := C.1
  have hb := C.2.1
  unfold X_TH_areStretches_80 at hf
  refine lv_iconst (v := (0 : Int32)) hx hb dX11_areStretches_80 (by decide) ?_
  exact th_zret C hw hf dX11_areStretches_81
def X_TH_areStretches_37 (K : Int32 → xs_St → Prop) (k37 : Int32 → Int32 → xs_St → Prop) (x1 : Int32) (x2 : Int32) (u : xs_St) : Prop :=
  ((x1 ≤ x2 → (((1 : Int32) = 0 ∨ (1 : Int32) = 1) ∧ K (1 : Int32) u)) ∧ (¬ x1 ≤ x2 → X_TP_unsigned (((2 : Int32) * x2) + (1 : Int32)) u (fun r_2 u_1 => X_TP_unsigned ((2 : Int32) * x2) u_1 (fun r_4 u_3 => ((r_2 < r_4 → X_TH_areStretches_80 K u_3) ∧ (¬ r_2 < r_4 → ((r_2 < (xi u_3 300) → ∀ x2_5 : Int32, x2_5 = x2 + (1 : Int32) → k37 x1 x2_5 u_3) ∧ (¬ r_2 < (xi u_3 300) → X_TH_areStretches_80 K u_3))))))))
set_option maxHeartbeats 4000000 in
set_option maxRecDepth 100000 in
theorem X_TH_areStretches_37_w {K : Int32 → xs_St → Prop} {k37 : Int32 → Int32 → xs_St → Prop} (C : th_Cx p s m args meth c cX11_areStretches RX11 4 (some .boolean) (dC, dI) (th_ty cs) (xE ad ak) A) (hk37 : ∀ (x1 : Int32) (x2 : Int32) (u : xs_St) (H : Heap) (locs : List Loc) (ls : Array Slot), k37 x1 x2 u → th_wI (dC, dI) (wX cs ad q v v) A s.heap u H locs → lv_has ls 4 [(0, .ref (q 99)), (1, .int x1), (2, .int x2)] → W p l e (th_rm 2 0 0) s m args below meth c H locs 0 0 (MQ below (va_Qi K (th_Post (dC, dI) (wX cs ad q v v) A) A) args s 0 0 A) (F0 m 37 ls [])) (x1 : Int32) (x2 : Int32) (u : xs_St) (H : Heap) (locs : List Loc) (ls : Array Slot) (hf : X_TH_areStretches_37 K k37 x1 x2 u) (hw : th_wI (dC, dI) (wX cs ad q v v) A s.heap u H locs) (hl : lv_has ls 4 [(0, .ref (q 99)), (1, .int x1), (2, .int x2)]) : W p l e (th_rm 2 0 0) s m args below meth c H locs 0 0 (MQ below (va_Qi K (th_Post (dC, dI) (wX cs ad q v v) A) A) args s 0 0 A) (F0 m 37 ls []) := by
  have hx := C.1
  have hb := C.2.1
  unfold X_TH_areStretches_37 at hf
  refine lv_iload_n hx hb dX11_areStretches_37 rfl (lv_at hl 2 rfl) ?_
  refine lv_iload_n hx hb dX11_areStretches_38 rfl (lv_at hl 1 rfl) ?_
  refine lv_icmp_ge (tgt := 88) hx hb dX11_areStretches_39 (by decide) (fun hc => ?_) (fun hc => ?_)
  · replace hf := hf.1 hc
    clear hc
    refine lv_iconst (v := (1 : Int32)) hx hb dX11_areStretches_88 (by decide) ?_
    exact th_zret C hw hf dX11_areStretches_89
  · replace hf := hf.2 hc
    clear hc
    refine lv_aload_n hx hb dX11_areStretches_42 rfl (lv_at hl 0 rfl) ?_
    refine xg_0 C hw (C.2.2.2.2.1 _ hwF_X11_10) dX11_areStretches_43 ?_
    refine lv_iconst (v := (2 : Int32)) hx hb dX11_areStretches_46 (by decide) ?_
    refine lv_iload_n hx hb dX11_areStretches_47 rfl (lv_at hl 2 rfl) ?_
    refine lv_imul hx hb dX11_areStretches_48 ?_
    refine lv_iconst (v := (1 : Int32)) hx hb dX11_areStretches_49 (by decide) ?_
    refine lv_iadd hx hb dX11_areStretches_50 ?_
    refine th_callVi (As := [.int (((2 : Int32) * x2) + (1 : Int32))]) (rest := []) C lkX11_277 (X_TP_unsigned_c hf) hw (xRc_TP C hw) rfl rfl ⟨Nat.le_of_ble_eq_true rfl, Nat.le_of_ble_eq_true rfl⟩ hl.1 (Nat.le_of_ble_eq_true rfl) ⟨Nat.le_of_ble_eq_true rfl, Nat.le_of_ble_eq_true rfl⟩ dX11_areStretches_51 (fun r_2 u_1 H locs hf hw => ?_)
    refine lv_istore_n (lv' := [(3, .int r_2), (0, .ref (q 99)), (1, .int x1), (2, .int x2)]) hx hb dX11_areStretches_54 rfl hl (by decide) rfl (fun ls hl => ?_)
    refine lv_aload_n hx hb dX11_areStretches_55 rfl (lv_at hl 1 rfl) ?_
    refine xg_0 C hw (C.2.2.2.2.1 _ hwF_X11_10) dX11_areStretches_56 ?_
    refine lv_iconst (v := (2 : Int32)) hx hb dX11_areStretches_59 (by decide) ?_
    refine lv_iload_n hx hb dX11_areStretches_60 rfl (lv_at hl 3 rfl) ?_
    refine lv_imul hx hb dX11_areStretches_61 ?_
    refine th_callVi (As := [.int ((2 : Int32) * x2)]) (rest := []) C lkX11_277 (X_TP_unsigned_c hf) hw (xRc_TP C hw) rfl rfl ⟨Nat.le_of_ble_eq_true rfl, Nat.le_of_ble_eq_true rfl⟩ hl.1 (Nat.le_of_ble_eq_true rfl) ⟨Nat.le_of_ble_eq_true rfl, Nat.le_of_ble_eq_true rfl⟩ dX11_areStretches_62 (fun r_4 u_3 H locs hf hw => ?_)
    refine lv_iload_n hx hb dX11_areStretches_65 rfl (lv_at hl 0 rfl) ?_
    refine lv_icmp_gt (tgt := 80) hx hb dX11_areStretches_66 (by decide) (fun hc => ?_) (fun hc => ?_)
    · replace hf := hf.1 hc
      clear hc
      exact X_TH_areStretches_80_w C  u_3 _ _ _ hf hw (lv_sub hl [] rfl)
    · replace hf := hf.2 hc
      clear hc
      refine lv_iload_n hx hb dX11_areStretches_69 rfl (lv_at hl 0 rfl) ?_
      refine lv_aload_n hx hb dX11_areStretches_70 rfl (lv_at hl 1 rfl) ?_
      refine xg_9 C hw (C.2.2.2.2.1 _ hwF_X11_69) dX11_areStretches_71 ?_
      refine xgn_300 C hw (va_Nw.use rfl (xN C hwG_X11_126)) dX11_areStretches_74 ?_
      refine lv_icmp_lt (tgt := 82) hx hb dX11_areStretches_77 (by decide) (fun hc => ?_) (fun hc => ?_)
      · replace hf := hf.1 hc
        clear hc
        obtain ⟨x2_5, e9⟩ : ∃ y : Int32, y = x2 + (1 : Int32) := ⟨_, rfl⟩
        replace hf := hf x2_5 e9
        refine lv_iinc (v := x2_5) (lv' := [(2, .int x2_5), (3, .int r_2), (0, .ref (q 99)), (1, .int x1)]) hx hb dX11_areStretches_82 hl (k := 3) rfl (by rw [e9]; rfl) (by decide) rfl (fun ls hl => ?_)
        clear e9
        refine lv_goto (tgt := 37) hx hb dX11_areStretches_85 (by decide) ?_
        exact hk37 x1 x2_5 u_3 _ _ _ hf hw (lv_sub hl [2, 3, 0] rfl)
      · replace hf := hf.2 hc
        clear hc
        exact X_TH_areStretches_80_w C  u_3 _ _ _ hf hw (lv_sub hl [] rfl)
def X_TH_areStretches_37_lp (K : Int32 → xs_St → Prop) : Nat → Int32 → Int32 → xs_St → Prop
  | 0, _, _, _ => False
  | n + 1, x1, x2, u => X_TH_areStretches_37 K (X_TH_areStretches_37_lp K n) x1 x2 u
set_option maxHeartbeats 4000000 in
set_option maxRecDepth 100000 in
theorem X_TH_areStretches_37_lw {K : Int32 → xs_St → Prop} (C : th_Cx p s m args meth c cX11_areStretches RX11 4 (some .boolean) (dC, dI) (th_ty cs) (xE ad ak) A) (n : Nat) : ∀ (x1 : Int32) (x2 : Int32) (u : xs_St) (H : Heap) (locs : List Loc) (ls : Array Slot), X_TH_areStretches_37_lp K n x1 x2 u → th_wI (dC, dI) (wX cs ad q v v) A s.heap u H locs → lv_has ls 4 [(0, .ref (q 99)), (1, .int x1), (2, .int x2)] → W p l e (th_rm 2 0 0) s m args below meth c H locs 0 0 (MQ below (va_Qi K (th_Post (dC, dI) (wX cs ad q v v) A) A) args s 0 0 A) (F0 m 37 ls []) := by
  induction n with
  | zero => intro x1 x2 u H locs ls hf; exact hf.elim
  | succ n ih =>
    intro x1 x2 u H locs ls hf hw hl
    exact X_TH_areStretches_37_w C ih x1 x2 u H locs ls hf hw hl
def X_TH_areStretches (u : xs_St) (K : Int32 → xs_St → Prop) : Prop :=
  (¬ (2 : Int32) = 0 ∧ ∀ y_1 : Int32, y_1 = ((xi u 101) / (2 : Int32)) → (¬ (2 : Int32) = 0 ∧ ((¬ ((xi u 101) - (xi u 101) / (2 : Int32) * (2 : Int32)) = 0 → X_TH_areStretches_33 K u) ∧ (((xi u 101) - (xi u 101) / (2 : Int32) * (2 : Int32)) = 0 → ((y_1 < (1 : Int32) → X_TH_areStretches_33 K u) ∧ (¬ y_1 < (1 : Int32) → ((y_1 ≤ (40 : Int32) → ∃ n, X_TH_areStretches_37_lp K n y_1 (0 : Int32) u) ∧ (¬ y_1 ≤ (40 : Int32) → X_TH_areStretches_33 K u))))))))
set_option maxHeartbeats 4000000 in
set_option maxRecDepth 100000 in
theorem X_TH_areStretches_c {l : Launch} {dC : Nat → ClassId} {dI : Nat → Nat → Nat} {cs : Nat → ClassId} {ad ak : Nat → Nat} {q v : Nat → Nat} {u : xs_St} {K : Int32 → xs_St → Prop} (hf : X_TH_areStretches u K) : th_Ci l yX11_areStretches cX11_areStretches 4 (some .boolean) 2 0 0 (dC, dI) (th_ty cs) (xE ad ak) (wX cs ad q v v) [.ref (q 99)] u K := by
  refine th_ofi (by decide) (Nat.le_of_ble_eq_true rfl) (xE_ok ad ak) ?_
  intro p e s m below meth c A ls C hw hl
  have C : th_Cx p s m _ meth c cX11_areStretches RX11 4 (some .boolean) (dC, dI) (th_ty cs) (xE ad ak) A := C
  have hl : lv_has ls 4 [(0, .ref (q 99))] := hl
  generalize (List.toArray _ : Array Value) = args at C ⊢
  have hx := C.1
  have hb := C.2.1
  unfold X_TH_areStretches at hf
  refine lv_aload_n hx hb dX11_areStretches_0 rfl (lv_at hl 0 rfl) ?_
  refine xg_0 C hw (C.2.2.2.2.1 _ hwF_X11_10) dX11_areStretches_1 ?_
  refine xgn_101 C hw (va_Nw.use rfl (xN C hwG_X11_91)) dX11_areStretches_4 ?_
  refine lv_iconst (v := (2 : Int32)) hx hb dX11_areStretches_7 (by decide) ?_
  refine lv_idiv hx hb dX11_areStretches_8 hf.1 ?_
  replace hf := hf.2
  refine lv_topi (fun y_1 e9 => ?_)
  replace hf := hf y_1 e9
  clear e9
  refine lv_istore_n (lv' := [(1, .int y_1), (0, .ref (q 99))]) hx hb dX11_areStretches_9 rfl hl (by decide) rfl (fun ls hl => ?_)
  refine lv_aload_n hx hb dX11_areStretches_10 rfl (lv_at hl 1 rfl) ?_
  refine xg_0 C hw (C.2.2.2.2.1 _ hwF_X11_10) dX11_areStretches_11 ?_
  refine xgn_101 C hw (va_Nw.use rfl (xN C hwG_X11_91)) dX11_areStretches_14 ?_
  refine lv_iconst (v := (2 : Int32)) hx hb dX11_areStretches_17 (by decide) ?_
  refine lv_irem hx hb dX11_areStretches_18 hf.1 ?_
  replace hf := hf.2
  refine lv_if_ne (tgt := 33) hx hb dX11_areStretches_19 (by decide) (fun hc => ?_) (fun hc => ?_)
  · replace hf := hf.1 hc
    clear hc
    exact X_TH_areStretches_33_w C  u _ _ _ hf hw (lv_sub hl [] rfl)
  · replace hf := hf.2 hc
    clear hc
    refine lv_iload_n hx hb dX11_areStretches_22 rfl (lv_at hl 0 rfl) ?_
    refine lv_iconst (v := (1 : Int32)) hx hb dX11_areStretches_23 (by decide) ?_
    refine lv_icmp_lt (tgt := 33) hx hb dX11_areStretches_24 (by decide) (fun hc => ?_) (fun hc => ?_)
    · replace hf := hf.1 hc
      clear hc
      exact X_TH_areStretches_33_w C  u _ _ _ hf hw (lv_sub hl [] rfl)
    · replace hf := hf.2 hc
      clear hc
      refine lv_iload_n hx hb dX11_areStretches_27 rfl (lv_at hl 0 rfl) ?_
      refine lv_bipush (v := (40 : Int32)) hx hb dX11_areStretches_28 (by decide) ?_
      refine lv_icmp_le (tgt := 35) hx hb dX11_areStretches_30 (by decide) (fun hc => ?_) (fun hc => ?_)
      · replace hf := hf.1 hc
        clear hc
        refine lv_iconst (v := (0 : Int32)) hx hb dX11_areStretches_35 (by decide) ?_
        refine lv_istore_n (lv' := [(2, .int (0 : Int32)), (1, .int y_1), (0, .ref (q 99))]) hx hb dX11_areStretches_36 rfl hl (by decide) rfl (fun ls hl => ?_)
        obtain ⟨n, hf⟩ := hf
        exact X_TH_areStretches_37_lw C n y_1 (0 : Int32) u _ _ _ hf hw (lv_sub hl [2, 1, 0] rfl)
      · replace hf := hf.2 hc
        clear hc
        exact X_TH_areStretches_33_w C  u _ _ _ hf hw (lv_sub hl [] rfl)
/-! X_TH_endsUngauged -/
theorem dX11_endsUngauged_0 : decode cX11_endsUngauged 0 = .ok (.iconst 0, 1) := by decide +kernel
theorem dX11_endsUngauged_1 : decode cX11_endsUngauged 1 = .ok (.istore_n 3, 1) := by decide +kernel
theorem dX11_endsUngauged_2 : decode cX11_endsUngauged 2 = .ok (.iload_n 3, 1) := by decide +kernel
theorem dX11_endsUngauged_3 : decode cX11_endsUngauged 3 = .ok (.aload_n 0, 1) := by decide +kernel
theorem dX11_endsUngauged_4 : decode cX11_endsUngauged 4 = .ok (.getfield 10, 3) := by decide +kernel
theorem dX11_endsUngauged_7 : decode cX11_endsUngauged 7 = .ok (.getfield 91, 3) := by decide +kernel
theorem dX11_endsUngauged_10 : decode cX11_endsUngauged 10 = .ok (.iconst 2, 1) := by decide +kernel
theorem dX11_endsUngauged_11 : decode cX11_endsUngauged 11 = .ok (.idiv, 1) := by decide +kernel
theorem dX11_endsUngauged_12 : decode cX11_endsUngauged 12 = .ok (.if_icmp .ge 41, 3) := by decide +kernel
theorem dX11_endsUngauged_15 : decode cX11_endsUngauged 15 = .ok (.aload_n 0, 1) := by decide +kernel
theorem dX11_endsUngauged_16 : decode cX11_endsUngauged 16 = .ok (.getfield 10, 3) := by decide +kernel
theorem dX11_endsUngauged_19 : decode cX11_endsUngauged 19 = .ok (.iconst 2, 1) := by decide +kernel
theorem dX11_endsUngauged_20 : decode cX11_endsUngauged 20 = .ok (.iload_n 3, 1) := by decide +kernel
theorem dX11_endsUngauged_21 : decode cX11_endsUngauged 21 = .ok (.imul, 1) := by decide +kernel
theorem dX11_endsUngauged_22 : decode cX11_endsUngauged 22 = .ok (.iconst 1, 1) := by decide +kernel
theorem dX11_endsUngauged_23 : decode cX11_endsUngauged 23 = .ok (.iadd, 1) := by decide +kernel
theorem dX11_endsUngauged_24 : decode cX11_endsUngauged 24 = .ok (.invokevirtual 277, 3) := by decide +kernel
theorem dX11_endsUngauged_27 : decode cX11_endsUngauged 27 = .ok (.iload_n 1, 1) := by decide +kernel
theorem dX11_endsUngauged_28 : decode cX11_endsUngauged 28 = .ok (.if_icmp .ne 19, 3) := by decide +kernel
theorem dX11_endsUngauged_31 : decode cX11_endsUngauged 31 = .ok (.aload_n 0, 1) := by decide +kernel
theorem dX11_endsUngauged_32 : decode cX11_endsUngauged 32 = .ok (.getfield 10, 3) := by decide +kernel
theorem dX11_endsUngauged_35 : decode cX11_endsUngauged 35 = .ok (.iconst 2, 1) := by decide +kernel
theorem dX11_endsUngauged_36 : decode cX11_endsUngauged 36 = .ok (.iload_n 3, 1) := by decide +kernel
theorem dX11_endsUngauged_37 : decode cX11_endsUngauged 37 = .ok (.imul, 1) := by decide +kernel
theorem dX11_endsUngauged_38 : decode cX11_endsUngauged 38 = .ok (.invokevirtual 277, 3) := by decide +kernel
theorem dX11_endsUngauged_41 : decode cX11_endsUngauged 41 = .ok (.iload_n 2, 1) := by decide +kernel
theorem dX11_endsUngauged_42 : decode cX11_endsUngauged 42 = .ok (.if_icmp .le 5, 3) := by decide +kernel
theorem dX11_endsUngauged_45 : decode cX11_endsUngauged 45 = .ok (.iconst 1, 1) := by decide +kernel
theorem dX11_endsUngauged_46 : decode cX11_endsUngauged 46 = .ok (.ireturn, 1) := by decide +kernel
theorem dX11_endsUngauged_47 : decode cX11_endsUngauged 47 = .ok (.iinc 3 1, 3) := by decide +kernel
theorem dX11_endsUngauged_50 : decode cX11_endsUngauged 50 = .ok (.goto (-48), 3) := by decide +kernel
theorem dX11_endsUngauged_53 : decode cX11_endsUngauged 53 = .ok (.iconst 0, 1) := by decide +kernel
theorem dX11_endsUngauged_54 : decode cX11_endsUngauged 54 = .ok (.ireturn, 1) := by decide +kernel
def X_TH_endsUngauged_47 (K : Int32 → xs_St → Prop) (k2 : Int32 → Int32 → Int32 → xs_St → Prop) (x1 : Int32) (x2 : Int32) (x3 : Int32) (u : xs_St) : Prop :=
  ∀ x3_1 : Int32, x3_1 = x3 + (1 : Int32) → k2 x1 x2 x3_1 u
set_option maxHeartbeats 4000000 in
set_option maxRecDepth 100000 in
theorem X_TH_endsUngauged_47_w {K : Int32 → xs_St → Prop} {k2 : Int32 → Int32 → Int32 → xs_St → Prop} (C : th_Cx p s m args meth c cX11_endsUngauged RX11 4 (some .boolean) (dC, dI) (th_ty cs) (xE ad ak) A) (hk2 : ∀ (x1 : Int32) (x2 : Int32) (x3 : Int32) (u : xs_St) (H : Heap) (locs : List Loc) (ls : Array Slot), k2 x1 x2 x3 u → th_wI (dC, dI) (wX cs ad q v v) A s.heap u H locs → lv_has ls 4 [(0, .ref (q 99)), (1, .int x1), (2, .int x2), (3, .int x3)] → W p l e (th_rm 2 0 0) s m args below meth c H locs 0 0 (MQ below (va_Qi K (th_Post (dC, dI) (wX cs ad q v v) A) A) args s 0 0 A) (F0 m 2 ls [])) (x1 : Int32) (x2 : Int32) (x3 : Int32) (u : xs_St) (H : Heap) (locs : List Loc) (ls : Array Slot) (hf : X_TH_endsUngauged_47 K k2 x1 x2 x3 u) (hw : th_wI (dC, dI) (wX cs ad q v v) A s.heap u H locs) (hl : lv_has ls 4 [(0, .ref (q 99)), (1, .int x1), (2, .int x2), (3, .int x3)]) : W p l e (th_rm 2 0 0) s m args below meth c H locs 0 0 (MQ below (va_Qi K (th_Post (dC, dI) (wX cs ad q v v) A) A) args s 0 0 A) (F0 m 47 ls []) := by
  have hx := C.1
  have hb := C.2.1
  unfold X_TH_endsUngauged_47 at hf
  obtain ⟨x3_1, e9⟩ : ∃ y : Int32, y = x3 + (1 : Int32) := ⟨_, rfl⟩
  replace hf := hf x3_1 e9
  refine lv_iinc (v := x3_1) (lv' := [(3, .int x3_1), (0, .ref (q 99)), (1, .int x1), (2, .int x2)]) hx hb dX11_endsUngauged_47 hl (k := 3) rfl (by rw [e9]; rfl) (by decide) rfl (fun ls hl => ?_)
  clear e9
  refine lv_goto (tgt := 2) hx hb dX11_endsUngauged_50 (by decide) ?_
  exact hk2 x1 x2 x3_1 u _ _ _ hf hw (lv_sub hl [1, 2, 3, 0] rfl)
def X_TH_endsUngauged_2 (K : Int32 → xs_St → Prop) (k2 : Int32 → Int32 → Int32 → xs_St → Prop) (x1 : Int32) (x2 : Int32) (x3 : Int32) (u : xs_St) : Prop :=
  (¬ (2 : Int32) = 0 ∧ ((((xi u 101) / (2 : Int32)) ≤ x3 → (((0 : Int32) = 0 ∨ (0 : Int32) = 1) ∧ K (0 : Int32) u)) ∧ (¬ ((xi u 101) / (2 : Int32)) ≤ x3 → X_TP_unsigned (((2 : Int32) * x3) + (1 : Int32)) u (fun r_2 u_1 => ((¬ r_2 = x1 → X_TH_endsUngauged_47 K k2 x1 x2 x3 u_1) ∧ (r_2 = x1 → X_TP_unsigned ((2 : Int32) * x3) u_1 (fun r_4 u_3 => ((r_4 ≤ x2 → X_TH_endsUngauged_47 K k2 x1 x2 x3 u_3) ∧ (¬ r_4 ≤ x2 → (((1 : Int32) = 0 ∨ (1 : Int32) = 1) ∧ K (1 : Int32) u_3))))))))))
set_option maxHeartbeats 4000000 in
set_option maxRecDepth 100000 in
theorem X_TH_endsUngauged_2_w {K : Int32 → xs_St → Prop} {k2 : Int32 → Int32 → Int32 → xs_St → Prop} (C : th_Cx p s m args meth c cX11_endsUngauged RX11 4 (some .boolean) (dC, dI) (th_ty cs) (xE ad ak) A) (hk2 : ∀ (x1 : Int32) (x2 : Int32) (x3 : Int32) (u : xs_St) (H : Heap) (locs : List Loc) (ls : Array Slot), k2 x1 x2 x3 u → th_wI (dC, dI) (wX cs ad q v v) A s.heap u H locs → lv_has ls 4 [(0, .ref (q 99)), (1, .int x1), (2, .int x2), (3, .int x3)] → W p l e (th_rm 2 0 0) s m args below meth c H locs 0 0 (MQ below (va_Qi K (th_Post (dC, dI) (wX cs ad q v v) A) A) args s 0 0 A) (F0 m 2 ls [])) (x1 : Int32) (x2 : Int32) (x3 : Int32) (u : xs_St) (H : Heap) (locs : List Loc) (ls : Array Slot) (hf : X_TH_endsUngauged_2 K k2 x1 x2 x3 u) (hw : th_wI (dC, dI) (wX cs ad q v v) A s.heap u H locs) (hl : lv_has ls 4 [(0, .ref (q 99)), (1, .int x1), (2, .int x2), (3, .int x3)]) : W p l e (th_rm 2 0 0) s m args below meth c H locs 0 0 (MQ below (va_Qi K (th_Post (dC, dI) (wX cs ad q v v) A) A) args s 0 0 A) (F0 m 2 ls []) := by
  have hx := C.1
  have hb := C.2.1
  unfold X_TH_endsUngauged_2 at hf
  refine lv_iload_n hx hb dX11_endsUngauged_2 rfl (lv_at hl 3 rfl) ?_
  refine lv_aload_n hx hb dX11_endsUngauged_3 rfl (lv_at hl 0 rfl) ?_
  refine xg_0 C hw (C.2.2.2.2.1 _ hwF_X11_10) dX11_endsUngauged_4 ?_
  refine xgn_101 C hw (va_Nw.use rfl (xN C hwG_X11_91)) dX11_endsUngauged_7 ?_
  refine lv_iconst (v := (2 : Int32)) hx hb dX11_endsUngauged_10 (by decide) ?_
  refine lv_idiv hx hb dX11_endsUngauged_11 hf.1 ?_
  replace hf := hf.2
  refine lv_icmp_ge (tgt := 53) hx hb dX11_endsUngauged_12 (by decide) (fun hc => ?_) (fun hc => ?_)
  · replace hf := hf.1 hc
    clear hc
    refine lv_iconst (v := (0 : Int32)) hx hb dX11_endsUngauged_53 (by decide) ?_
    exact th_zret C hw hf dX11_endsUngauged_54
  · replace hf := hf.2 hc
    clear hc
    refine lv_aload_n hx hb dX11_endsUngauged_15 rfl (lv_at hl 0 rfl) ?_
    refine xg_0 C hw (C.2.2.2.2.1 _ hwF_X11_10) dX11_endsUngauged_16 ?_
    refine lv_iconst (v := (2 : Int32)) hx hb dX11_endsUngauged_19 (by decide) ?_
    refine lv_iload_n hx hb dX11_endsUngauged_20 rfl (lv_at hl 3 rfl) ?_
    refine lv_imul hx hb dX11_endsUngauged_21 ?_
    refine lv_iconst (v := (1 : Int32)) hx hb dX11_endsUngauged_22 (by decide) ?_
    refine lv_iadd hx hb dX11_endsUngauged_23 ?_
    refine th_callVi (As := [.int (((2 : Int32) * x3) + (1 : Int32))]) (rest := []) C lkX11_277 (X_TP_unsigned_c hf) hw (xRc_TP C hw) rfl rfl ⟨Nat.le_of_ble_eq_true rfl, Nat.le_of_ble_eq_true rfl⟩ hl.1 (Nat.le_of_ble_eq_true rfl) ⟨Nat.le_of_ble_eq_true rfl, Nat.le_of_ble_eq_true rfl⟩ dX11_endsUngauged_24 (fun r_2 u_1 H locs hf hw => ?_)
    refine lv_iload_n hx hb dX11_endsUngauged_27 rfl (lv_at hl 1 rfl) ?_
    refine lv_icmp_ne (tgt := 47) hx hb dX11_endsUngauged_28 (by decide) (fun hc => ?_) (fun hc => ?_)
    · replace hf := hf.1 hc
      clear hc
      exact X_TH_endsUngauged_47_w C hk2 x1 x2 x3 u_1 _ _ _ hf hw (lv_sub hl [0, 1, 2, 3] rfl)
    · replace hf := hf.2 hc
      clear hc
      refine lv_aload_n hx hb dX11_endsUngauged_31 rfl (lv_at hl 0 rfl) ?_
      refine xg_0 C hw (C.2.2.2.2.1 _ hwF_X11_10) dX11_endsUngauged_32 ?_
      refine lv_iconst (v := (2 : Int32)) hx hb dX11_endsUngauged_35 (by decide) ?_
      refine lv_iload_n hx hb dX11_endsUngauged_36 rfl (lv_at hl 3 rfl) ?_
      refine lv_imul hx hb dX11_endsUngauged_37 ?_
      refine th_callVi (As := [.int ((2 : Int32) * x3)]) (rest := []) C lkX11_277 (X_TP_unsigned_c hf) hw (xRc_TP C hw) rfl rfl ⟨Nat.le_of_ble_eq_true rfl, Nat.le_of_ble_eq_true rfl⟩ hl.1 (Nat.le_of_ble_eq_true rfl) ⟨Nat.le_of_ble_eq_true rfl, Nat.le_of_ble_eq_true rfl⟩ dX11_endsUngauged_38 (fun r_4 u_3 H locs hf hw => ?_)
      refine lv_iload_n hx hb dX11_endsUngauged_41 rfl (lv_at hl 2 rfl) ?_
      refine lv_icmp_le (tgt := 47) hx hb dX11_endsUngauged_42 (by decide) (fun hc => ?_) (fun hc => ?_)
      · replace hf := hf.1 hc
        clear hc
        exact X_TH_endsUngauged_47_w C hk2 x1 x2 x3 u_3 _ _ _ hf hw (lv_sub hl [0, 1, 2, 3] rfl)
      · replace hf := hf.2 hc
        clear hc
        refine lv_iconst (v := (1 : Int32)) hx hb dX11_endsUngauged_45 (by decide) ?_
        exact th_zret C hw hf dX11_endsUngauged_46
def X_TH_endsUngauged_2_lp (K : Int32 → xs_St → Prop) : Nat → Int32 → Int32 → Int32 → xs_St → Prop
  | 0, _, _, _, _ => False
  | n + 1, x1, x2, x3, u => X_TH_endsUngauged_2 K (X_TH_endsUngauged_2_lp K n) x1 x2 x3 u
set_option maxHeartbeats 4000000 in
set_option maxRecDepth 100000 in
theorem X_TH_endsUngauged_2_lw {K : Int32 → xs_St → Prop} (C : th_Cx p s m args meth c cX11_endsUngauged RX11 4 (some .boolean) (dC, dI) (th_ty cs) (xE ad ak) A) (n : Nat) : ∀ (x1 : Int32) (x2 : Int32) (x3 : Int32) (u : xs_St) (H : Heap) (locs : List Loc) (ls : Array Slot), X_TH_endsUngauged_2_lp K n x1 x2 x3 u → th_wI (dC, dI) (wX cs ad q v v) A s.heap u H locs → lv_has ls 4 [(0, .ref (q 99)), (1, .int x1), (2, .int x2), (3, .int x3)] → W p l e (th_rm 2 0 0) s m args below meth c H locs 0 0 (MQ below (va_Qi K (th_Post (dC, dI) (wX cs ad q v v) A) A) args s 0 0 A) (F0 m 2 ls []) := by
  induction n with
  | zero => intro x1 x2 x3 u H locs ls hf; exact hf.elim
  | succ n ih =>
    intro x1 x2 x3 u H locs ls hf hw hl
    exact X_TH_endsUngauged_2_w C ih x1 x2 x3 u H locs ls hf hw hl
def X_TH_endsUngauged (a1 : Int32) (a2 : Int32) (u : xs_St) (K : Int32 → xs_St → Prop) : Prop :=
  ∃ n, X_TH_endsUngauged_2_lp K n a1 a2 (0 : Int32) u
set_option maxHeartbeats 4000000 in
set_option maxRecDepth 100000 in
theorem X_TH_endsUngauged_c {l : Launch} {dC : Nat → ClassId} {dI : Nat → Nat → Nat} {cs : Nat → ClassId} {ad ak : Nat → Nat} {q v : Nat → Nat} {a1 : Int32} {a2 : Int32} {u : xs_St} {K : Int32 → xs_St → Prop} (hf : X_TH_endsUngauged a1 a2 u K) : th_Ci l yX11_endsUngauged cX11_endsUngauged 4 (some .boolean) 2 0 0 (dC, dI) (th_ty cs) (xE ad ak) (wX cs ad q v v) [.ref (q 99), .int a1, .int a2] u K := by
  refine th_ofi (by decide) (Nat.le_of_ble_eq_true rfl) (xE_ok ad ak) ?_
  intro p e s m below meth c A ls C hw hl
  have C : th_Cx p s m _ meth c cX11_endsUngauged RX11 4 (some .boolean) (dC, dI) (th_ty cs) (xE ad ak) A := C
  have hl : lv_has ls 4 [(0, .ref (q 99)), (1, .int a1), (2, .int a2)] := hl
  generalize (List.toArray _ : Array Value) = args at C ⊢
  have hx := C.1
  have hb := C.2.1
  unfold X_TH_endsUngauged at hf
  refine lv_iconst (v := (0 : Int32)) hx hb dX11_endsUngauged_0 (by decide) ?_
  refine lv_istore_n (lv' := [(3, .int (0 : Int32)), (0, .ref (q 99)), (1, .int a1), (2, .int a2)]) hx hb dX11_endsUngauged_1 rfl hl (by decide) rfl (fun ls hl => ?_)
  obtain ⟨n, hf⟩ := hf
  exact X_TH_endsUngauged_2_lw C n a1 a2 (0 : Int32) u _ _ _ hf hw (lv_sub hl [1, 2, 3, 0] rfl)
/-! X_TP_copy -/
theorem dX6_copy_0 : decode cX6_copy 0 = .ok (.aload_n 0, 1) := by decide +kernel
theorem dX6_copy_1 : decode cX6_copy 1 = .ok (.getfield 9, 3) := by decide +kernel
theorem dX6_copy_4 : decode cX6_copy 4 = .ok (.aload_n 0, 1) := by decide +kernel
theorem dX6_copy_5 : decode cX6_copy 5 = .ok (.getfield 13, 3) := by decide +kernel
theorem dX6_copy_8 : decode cX6_copy 8 = .ok (.invokestatic 24, 3) := by decide +kernel
theorem dX6_copy_11 : decode cX6_copy 11 = .ok (.areturn, 1) := by decide +kernel
def X_TP_copy (u : xs_St) (K : Option Nat → xs_St → Prop) : Prop :=
  X_J_copyOf_9075b_100 (xi u 101) u (fun r_2 u_1 => K r_2 u_1)
set_option maxHeartbeats 4000000 in
set_option maxRecDepth 100000 in
theorem X_TP_copy_c {l : Launch} {dC : Nat → ClassId} {dI : Nat → Nat → Nat} {cs : Nat → ClassId} {ad ak : Nat → Nat} {q v : Nat → Nat} {u : xs_St} {K : Option Nat → xs_St → Prop} (hf : X_TP_copy u K) : th_Cq l yX6_copy cX6_copy 1 (some (.array .byte)) 2 1 440 (dC, dI) (th_ty cs) (xE ad ak) (wX cs ad q v v) [.ref (q 199)] u K := by
  refine th_ofq (by decide) (Nat.le_of_ble_eq_true rfl) (xE_ok ad ak) ?_
  intro p e s m below meth c A ls C hw hl
  have C : th_Cx p s m _ meth c cX6_copy RX6 1 (some (.array .byte)) (dC, dI) (th_ty cs) (xE ad ak) A := C
  have hl : lv_has ls 1 [(0, .ref (q 199))] := hl
  generalize (List.toArray _ : Array Value) = args at C ⊢
  have hx := C.1
  have hb := C.2.1
  unfold X_TP_copy at hf
  refine lv_aload_n hx hb dX6_copy_0 rfl (lv_at hl 0 rfl) ?_
  refine xg_100 C hw (C.2.2.2.2.1 _ hwF_X6_9) dX6_copy_1 ?_
  refine lv_aload_n hx hb dX6_copy_4 rfl (lv_at hl 0 rfl) ?_
  refine xg_101 C hw (C.2.2.2.2.1 _ hwF_X6_13) dX6_copy_5 ?_
  refine th_callSq (As := [.ref (q 100), .int (xi u 101)]) (rest := []) C lkJX6_24 (X_J_copyOf_9075b_100_c hf) hw rfl rfl ⟨Nat.le_of_ble_eq_true rfl, Nat.le_of_ble_eq_true rfl⟩ hl.1 (Nat.le_of_ble_eq_true rfl) ⟨by simp only [th_rm]; omega, by simp only [th_rm]; omega⟩ dX6_copy_8 (fun r_2 u_1 H locs hf hw => ?_)
  refine W.widen (k := 1) (n := 440) (by omega) (by omega) ?_
  exact th_qret (r := r_2) (Or.inr ⟨_, rfl⟩) C hw hf dX6_copy_11
/-! X_TP_signedPair -/
theorem dX6_signedPair_0 : decode cX6_signedPair 0 = .ok (.aload_n 0, 1) := by decide +kernel
theorem dX6_signedPair_1 : decode cX6_signedPair 1 = .ok (.iconst 2, 1) := by decide +kernel
theorem dX6_signedPair_2 : decode cX6_signedPair 2 = .ok (.iload_n 1, 1) := by decide +kernel
theorem dX6_signedPair_3 : decode cX6_signedPair 3 = .ok (.imul, 1) := by decide +kernel
theorem dX6_signedPair_4 : decode cX6_signedPair 4 = .ok (.invokevirtual 17, 3) := by decide +kernel
theorem dX6_signedPair_7 : decode cX6_signedPair 7 = .ok (.bipush 8, 2) := by decide +kernel
theorem dX6_signedPair_9 : decode cX6_signedPair 9 = .ok (.ishl, 1) := by decide +kernel
theorem dX6_signedPair_10 : decode cX6_signedPair 10 = .ok (.aload_n 0, 1) := by decide +kernel
theorem dX6_signedPair_11 : decode cX6_signedPair 11 = .ok (.iconst 2, 1) := by decide +kernel
theorem dX6_signedPair_12 : decode cX6_signedPair 12 = .ok (.iload_n 1, 1) := by decide +kernel
theorem dX6_signedPair_13 : decode cX6_signedPair 13 = .ok (.imul, 1) := by decide +kernel
theorem dX6_signedPair_14 : decode cX6_signedPair 14 = .ok (.iconst 1, 1) := by decide +kernel
theorem dX6_signedPair_15 : decode cX6_signedPair 15 = .ok (.iadd, 1) := by decide +kernel
theorem dX6_signedPair_16 : decode cX6_signedPair 16 = .ok (.invokevirtual 21, 3) := by decide +kernel
theorem dX6_signedPair_19 : decode cX6_signedPair 19 = .ok (.ior, 1) := by decide +kernel
theorem dX6_signedPair_20 : decode cX6_signedPair 20 = .ok (.ireturn, 1) := by decide +kernel
def X_TP_signedPair (a1 : Int32) (u : xs_St) (K : Int32 → xs_St → Prop) : Prop :=
  X_TP_signed ((2 : Int32) * a1) u (fun r_2 u_1 => X_TP_unsigned (((2 : Int32) * a1) + (1 : Int32)) u_1 (fun r_4 u_3 => K ((r_2 <<< ((8 : Int32) &&& 31)) ||| r_4) u_3))
set_option maxHeartbeats 4000000 in
set_option maxRecDepth 100000 in
theorem X_TP_signedPair_c {l : Launch} {dC : Nat → ClassId} {dI : Nat → Nat → Nat} {cs : Nat → ClassId} {ad ak : Nat → Nat} {q v : Nat → Nat} {a1 : Int32} {u : xs_St} {K : Int32 → xs_St → Prop} (hf : X_TP_signedPair a1 u K) : th_Ci l yX6_signedPair cX6_signedPair 2 (some .int) 2 0 0 (dC, dI) (th_ty cs) (xE ad ak) (wX cs ad q v v) [.ref (q 199), .int a1] u K := by
  refine th_ofi (by decide) (Nat.le_of_ble_eq_true rfl) (xE_ok ad ak) ?_
  intro p e s m below meth c A ls C hw hl
  have C : th_Cx p s m _ meth c cX6_signedPair RX6 2 (some .int) (dC, dI) (th_ty cs) (xE ad ak) A := C
  have hl : lv_has ls 2 [(0, .ref (q 199)), (1, .int a1)] := hl
  generalize (List.toArray _ : Array Value) = args at C ⊢
  have hx := C.1
  have hb := C.2.1
  unfold X_TP_signedPair at hf
  refine lv_aload_n hx hb dX6_signedPair_0 rfl (lv_at hl 0 rfl) ?_
  refine lv_iconst (v := (2 : Int32)) hx hb dX6_signedPair_1 (by decide) ?_
  refine lv_iload_n hx hb dX6_signedPair_2 rfl (lv_at hl 1 rfl) ?_
  refine lv_imul hx hb dX6_signedPair_3 ?_
  refine th_callVi (As := [.int ((2 : Int32) * a1)]) (rest := []) C lkX6_17 (X_TP_signed_c hf) hw (xRc_TP C hw) rfl rfl ⟨Nat.le_of_ble_eq_true rfl, Nat.le_of_ble_eq_true rfl⟩ hl.1 (Nat.le_of_ble_eq_true rfl) ⟨Nat.le_of_ble_eq_true rfl, Nat.le_of_ble_eq_true rfl⟩ dX6_signedPair_4 (fun r_2 u_1 H locs hf hw => ?_)
  refine lv_bipush (v := (8 : Int32)) hx hb dX6_signedPair_7 (by decide) ?_
  refine lv_ishl hx hb dX6_signedPair_9 ?_
  refine lv_aload_n hx hb dX6_signedPair_10 rfl (lv_at hl 0 rfl) ?_
  refine lv_iconst (v := (2 : Int32)) hx hb dX6_signedPair_11 (by decide) ?_
  refine lv_iload_n hx hb dX6_signedPair_12 rfl (lv_at hl 1 rfl) ?_
  refine lv_imul hx hb dX6_signedPair_13 ?_
  refine lv_iconst (v := (1 : Int32)) hx hb dX6_signedPair_14 (by decide) ?_
  refine lv_iadd hx hb dX6_signedPair_15 ?_
  refine th_callVi (As := [.int (((2 : Int32) * a1) + (1 : Int32))]) (rest := [.int (r_2 <<< ((8 : Int32) &&& 31))]) C lkX6_21 (X_TP_unsigned_c hf) hw (xRc_TP C hw) rfl rfl ⟨Nat.le_of_ble_eq_true rfl, Nat.le_of_ble_eq_true rfl⟩ hl.1 (Nat.le_of_ble_eq_true rfl) ⟨Nat.le_of_ble_eq_true rfl, Nat.le_of_ble_eq_true rfl⟩ dX6_signedPair_16 (fun r_4 u_3 H locs hf hw => ?_)
  refine lv_ior hx hb dX6_signedPair_19 ?_
  exact th_iret C hw hf dX6_signedPair_20
/-! X_T_measure_A -/
theorem dX7_measure_0 : decode cX7_measure 0 = .ok (.aload_n 0, 1) := by decide +kernel
theorem dX7_measure_1 : decode cX7_measure 1 = .ok (.getfield 27, 3) := by decide +kernel
theorem dX7_measure_4 : decode cX7_measure 4 = .ok (.iload_n 1, 1) := by decide +kernel
theorem dX7_measure_5 : decode cX7_measure 5 = .ok (.aaload, 1) := by decide +kernel
theorem dX7_measure_6 : decode cX7_measure 6 = .ok (.getstatic 114, 3) := by decide +kernel
theorem dX7_measure_9 : decode cX7_measure 9 = .ok (.if_acmp .ne 8, 3) := by decide +kernel
theorem dX7_measure_12 : decode cX7_measure 12 = .ok (.aload_n 2, 1) := by decide +kernel
theorem dX7_measure_13 : decode cX7_measure 13 = .ok (.getfield 117, 3) := by decide +kernel
theorem dX7_measure_16 : decode cX7_measure 16 = .ok (.ireturn, 1) := by decide +kernel
theorem dX7_measure_17 : decode cX7_measure 17 = .ok (.aload_n 0, 1) := by decide +kernel
theorem dX7_measure_18 : decode cX7_measure 18 = .ok (.getfield 27, 3) := by decide +kernel
theorem dX7_measure_21 : decode cX7_measure 21 = .ok (.iload_n 1, 1) := by decide +kernel
theorem dX7_measure_22 : decode cX7_measure 22 = .ok (.aaload, 1) := by decide +kernel
theorem dX7_measure_23 : decode cX7_measure 23 = .ok (.getstatic 120, 3) := by decide +kernel
theorem dX7_measure_26 : decode cX7_measure 26 = .ok (.if_acmp .ne 8, 3) := by decide +kernel
theorem dX7_measure_29 : decode cX7_measure 29 = .ok (.aload_n 2, 1) := by decide +kernel
theorem dX7_measure_30 : decode cX7_measure 30 = .ok (.getfield 123, 3) := by decide +kernel
theorem dX7_measure_33 : decode cX7_measure 33 = .ok (.ireturn, 1) := by decide +kernel
theorem dX7_measure_34 : decode cX7_measure 34 = .ok (.aload_n 0, 1) := by decide +kernel
theorem dX7_measure_35 : decode cX7_measure 35 = .ok (.getfield 27, 3) := by decide +kernel
theorem dX7_measure_38 : decode cX7_measure 38 = .ok (.iload_n 1, 1) := by decide +kernel
theorem dX7_measure_39 : decode cX7_measure 39 = .ok (.aaload, 1) := by decide +kernel
theorem dX7_measure_40 : decode cX7_measure 40 = .ok (.getstatic 126, 3) := by decide +kernel
theorem dX7_measure_43 : decode cX7_measure 43 = .ok (.if_acmp .ne 8, 3) := by decide +kernel
theorem dX7_measure_46 : decode cX7_measure 46 = .ok (.aload_n 2, 1) := by decide +kernel
theorem dX7_measure_47 : decode cX7_measure 47 = .ok (.getfield 129, 3) := by decide +kernel
theorem dX7_measure_50 : decode cX7_measure 50 = .ok (.ireturn, 1) := by decide +kernel
theorem dX7_measure_51 : decode cX7_measure 51 = .ok (.aload_n 0, 1) := by decide +kernel
theorem dX7_measure_52 : decode cX7_measure 52 = .ok (.getfield 27, 3) := by decide +kernel
theorem dX7_measure_55 : decode cX7_measure 55 = .ok (.iload_n 1, 1) := by decide +kernel
theorem dX7_measure_56 : decode cX7_measure 56 = .ok (.aaload, 1) := by decide +kernel
theorem dX7_measure_57 : decode cX7_measure 57 = .ok (.getstatic 132, 3) := by decide +kernel
theorem dX7_measure_60 : decode cX7_measure 60 = .ok (.if_acmp .ne 13, 3) := by decide +kernel
theorem dX7_measure_63 : decode cX7_measure 63 = .ok (.aload_n 2, 1) := by decide +kernel
theorem dX7_measure_64 : decode cX7_measure 64 = .ok (.getfield 135, 3) := by decide +kernel
theorem dX7_measure_67 : decode cX7_measure 67 = .ok (.getfield 139, 3) := by decide +kernel
theorem dX7_measure_70 : decode cX7_measure 70 = .ok (.goto 13, 3) := by decide +kernel
theorem dX7_measure_73 : decode cX7_measure 73 = .ok (.aload_n 2, 1) := by decide +kernel
theorem dX7_measure_74 : decode cX7_measure 74 = .ok (.aload_n 0, 1) := by decide +kernel
theorem dX7_measure_75 : decode cX7_measure 75 = .ok (.getfield 34, 3) := by decide +kernel
theorem dX7_measure_78 : decode cX7_measure 78 = .ok (.iload_n 1, 1) := by decide +kernel
theorem dX7_measure_79 : decode cX7_measure 79 = .ok (.iaload, 1) := by decide +kernel
theorem dX7_measure_80 : decode cX7_measure 80 = .ok (.invokevirtual 144, 3) := by decide +kernel
theorem dX7_measure_83 : decode cX7_measure 83 = .ok (.ireturn, 1) := by decide +kernel
def X_T_measure_A_83 (K : Int32 → xs_St → Prop) (z0 : Int32) (u : xs_St) : Prop :=
  K z0 u
set_option maxHeartbeats 4000000 in
set_option maxRecDepth 100000 in
theorem X_T_measure_A_83_w {K : Int32 → xs_St → Prop} (C : th_Cx p s m args meth c cX7_measure RX7 3 (some .int) (dC, dI) (th_ty cs) (xE ad ak) A) (z0 : Int32) (u : xs_St) (H : Heap) (locs : List Loc) (ls : Array Slot) (hf : X_T_measure_A_83 K z0 u) (hw : th_wI (dC, dI) (wX cs ad q v v) A s.heap u H locs) (hl : lv_has ls 3 []) : W p l e (th_rm 2 0 0) s m args below meth c H locs 0 0 (MQ below (va_Qi K (th_Post (dC, dI) (wX cs ad q v v) A) A) args s 0 0 A) (F0 m 83 ls [.int z0]) := by
  have hx := C.1
  have hb := C.2.1
  unfold X_T_measure_A_83 at hf
  exact th_iret C hw hf dX7_measure_83
def X_T_measure_A (a1 : Int32) (a2 : Option Nat) (u : xs_St) (K : Int32 → xs_St → Prop) : Prop :=
  (vp_in a1 80 ∧ ∀ y_1 : Option Nat, y_1 = xo u 311 (a1).toNatClampNeg → ((¬ y_1 = (some 22) → (vp_in a1 80 ∧ ∀ y_2 : Option Nat, y_2 = xo u 311 (a1).toNatClampNeg → ((¬ y_2 = (some 23) → (vp_in a1 80 ∧ ∀ y_3 : Option Nat, y_3 = xo u 311 (a1).toNatClampNeg → ((¬ y_3 = (some 24) → (vp_in a1 80 ∧ ∀ y_4 : Option Nat, y_4 = xo u 311 (a1).toNatClampNeg → ((¬ y_4 = (some 25) → (vp_in a1 80 ∧ ∀ y_5 : Int32, y_5 = xa u 313 (a1).toNatClampNeg → (∃ b_6 : Nat, a2 = some b_6 ∧ xd_is u b_6 3 ∧ X_Feel_loudness_d b_6 y_5 u (fun r_8 u_7 => X_T_measure_A_83 K r_8 u_7)))) ∧ (y_4 = (some 25) → (∃ b_9 : Nat, a2 = some b_9 ∧ xd_is u b_9 3 ∧ (∃ b_10 : Nat, (xdR u 1 b_9) = some b_10 ∧ xd_is u b_10 1 ∧ X_T_measure_A_83 K (xdI u 0 b_10) u)))))) ∧ (y_3 = (some 24) → (∃ b_11 : Nat, a2 = some b_11 ∧ xd_is u b_11 3 ∧ K (xdI u 2 b_11) u))))) ∧ (y_2 = (some 23) → (∃ b_12 : Nat, a2 = some b_12 ∧ xd_is u b_12 3 ∧ K (xdI u 4 b_12) u))))) ∧ (y_1 = (some 22) → (∃ b_13 : Nat, a2 = some b_13 ∧ xd_is u b_13 3 ∧ K (xdI u 3 b_13) u))))
set_option maxHeartbeats 4000000 in
set_option maxRecDepth 100000 in
theorem X_T_measure_A_c {l : Launch} {dC : Nat → ClassId} {dI : Nat → Nat → Nat} {cs : Nat → ClassId} {ad ak : Nat → Nat} {q v : Nat → Nat} {a1 : Int32} {a2 : Option Nat} {u : xs_St} {K : Int32 → xs_St → Prop} (hf : X_T_measure_A a1 a2 u K) : th_Ci l yX7_measure cX7_measure 3 (some .int) 2 0 0 (dC, dI) (th_ty cs) (xE ad ak) (wX cs ad q v v) [.ref (v 399), .int a1, va_rf a2] u K := by
  refine th_ofi (by decide) (by cases a2 <;> exact Nat.le_of_ble_eq_true rfl) (xE_ok ad ak) ?_
  intro p e s m below meth c A ls C hw hl
  have C : th_Cx p s m _ meth c cX7_measure RX7 3 (some .int) (dC, dI) (th_ty cs) (xE ad ak) A := C
  have hl : lv_has ls 3 [(0, .ref (v 399)), (1, .int a1), (2, va_rf a2)] := by cases a2 <;> exact hl
  generalize (List.toArray _ : Array Value) = args at C ⊢
  have hx := C.1
  have hb := C.2.1
  unfold X_T_measure_A at hf
  refine lv_aload_n hx hb dX7_measure_0 rfl (lv_at hl 0 rfl) ?_
  refine xg_311 C hw (C.2.2.2.2.1 _ hwF_X7_27) dX7_measure_1 ?_
  refine lv_iload_n hx hb dX7_measure_4 rfl (lv_at hl 1 rfl) ?_
  refine yl_311 C hw hf.1 dX7_measure_5 (fun y_1 e9 => ?_)
  replace hf := hf.2 y_1 e9
  clear e9
  refine xst C hw 22 (by decide) (C.2.2.2.2.1 _ hwF_X7_114) dX7_measure_6 ?_
  refine x_acmp_ne (tgt := 17) C dX7_measure_9 (by decide) (fun hc => ?_) (fun hc => ?_)
  · replace hf := hf.1 hc
    clear hc
    refine lv_aload_n hx hb dX7_measure_17 rfl (lv_at hl 0 rfl) ?_
    refine xg_311 C hw (C.2.2.2.2.1 _ hwF_X7_27) dX7_measure_18 ?_
    refine lv_iload_n hx hb dX7_measure_21 rfl (lv_at hl 1 rfl) ?_
    refine yl_311 C hw hf.1 dX7_measure_22 (fun y_2 e9 => ?_)
    replace hf := hf.2 y_2 e9
    clear e9
    refine xst C hw 23 (by decide) (C.2.2.2.2.1 _ hwF_X7_120) dX7_measure_23 ?_
    refine x_acmp_ne (tgt := 34) C dX7_measure_26 (by decide) (fun hc => ?_) (fun hc => ?_)
    · replace hf := hf.1 hc
      clear hc
      refine lv_aload_n hx hb dX7_measure_34 rfl (lv_at hl 0 rfl) ?_
      refine xg_311 C hw (C.2.2.2.2.1 _ hwF_X7_27) dX7_measure_35 ?_
      refine lv_iload_n hx hb dX7_measure_38 rfl (lv_at hl 1 rfl) ?_
      refine yl_311 C hw hf.1 dX7_measure_39 (fun y_3 e9 => ?_)
      replace hf := hf.2 y_3 e9
      clear e9
      refine xst C hw 24 (by decide) (C.2.2.2.2.1 _ hwF_X7_126) dX7_measure_40 ?_
      refine x_acmp_ne (tgt := 51) C dX7_measure_43 (by decide) (fun hc => ?_) (fun hc => ?_)
      · replace hf := hf.1 hc
        clear hc
        refine lv_aload_n hx hb dX7_measure_51 rfl (lv_at hl 0 rfl) ?_
        refine xg_311 C hw (C.2.2.2.2.1 _ hwF_X7_27) dX7_measure_52 ?_
        refine lv_iload_n hx hb dX7_measure_55 rfl (lv_at hl 1 rfl) ?_
        refine yl_311 C hw hf.1 dX7_measure_56 (fun y_4 e9 => ?_)
        replace hf := hf.2 y_4 e9
        clear e9
        refine xst C hw 25 (by decide) (C.2.2.2.2.1 _ hwF_X7_132) dX7_measure_57 ?_
        refine x_acmp_ne (tgt := 73) C dX7_measure_60 (by decide) (fun hc => ?_) (fun hc => ?_)
        · replace hf := hf.1 hc
          clear hc
          refine th_aload_n hx hb dX7_measure_73 rfl (lv_at hl 2 rfl) ?_
          refine lv_aload_n hx hb dX7_measure_74 rfl (lv_at hl 0 rfl) ?_
          refine xg_313 C hw (C.2.2.2.2.1 _ hwF_X7_34) dX7_measure_75 ?_
          refine lv_iload_n hx hb dX7_measure_78 rfl (lv_at hl 1 rfl) ?_
          refine yl_313 C hw hf.1 dX7_measure_79 (fun y_5 e9 => ?_)
          replace hf := hf.2 y_5 e9
          clear e9
          obtain ⟨b_6, e9, hm, hf⟩ := hf
          refine W.eq (g2 := F0 m 80 ls [.int y_5, .ref b_6]) (congrArg (fun z9 => F0 m 80 ls [.int y_5, va_rf z9]) e9) ?_
          clear e9
          refine th_callVi (As := [.int y_5]) (rest := []) C lkX7_144 (X_Feel_loudness_d_c hf) hw (xdRc_Feel C hw hm) rfl rfl ⟨Nat.le_of_ble_eq_true rfl, Nat.le_of_ble_eq_true rfl⟩ hl.1 (Nat.le_of_ble_eq_true rfl) ⟨Nat.le_of_ble_eq_true rfl, Nat.le_of_ble_eq_true rfl⟩ dX7_measure_80 (fun r_8 u_7 H locs hf hw => ?_)
          exact X_T_measure_A_83_w C r_8 u_7 _ _ _ hf hw (lv_sub hl [] rfl)
        · replace hf := hf.2 hc
          clear hc
          refine th_aload_n hx hb dX7_measure_63 rfl (lv_at hl 2 rfl) ?_
          obtain ⟨b_9, e9, hm, hf⟩ := hf
          refine W.eq (g2 := F0 m 64 ls [.ref b_9]) (congrArg (fun z9 => F0 m 64 ls [va_rf z9]) e9) ?_
          clear e9
          refine xdgn_Feel_row C hw hm (va_Nw.use rfl (xN C hwG_X7_135)) dX7_measure_64 ?_
          obtain ⟨b_10, e9, hm, hf⟩ := hf
          refine W.eq (g2 := F0 m 67 ls [.ref b_10]) (congrArg (fun z9 => F0 m 67 ls [va_rf z9]) e9) ?_
          clear e9
          refine xdgn_Row_hour C hw hm (va_Nw.use rfl (xN C hwG_X7_139)) dX7_measure_67 ?_
          refine lv_goto (tgt := 83) hx hb dX7_measure_70 (by decide) ?_
          exact X_T_measure_A_83_w C (xdI u 0 b_10) u _ _ _ hf hw (lv_sub hl [] rfl)
      · replace hf := hf.2 hc
        clear hc
        refine th_aload_n hx hb dX7_measure_46 rfl (lv_at hl 2 rfl) ?_
        obtain ⟨b_11, e9, hm, hf⟩ := hf
        refine W.eq (g2 := F0 m 47 ls [.ref b_11]) (congrArg (fun z9 => F0 m 47 ls [va_rf z9]) e9) ?_
        clear e9
        refine xdgn_Feel_slips C hw hm (va_Nw.use rfl (xN C hwG_X7_129)) dX7_measure_47 ?_
        exact th_iret C hw hf dX7_measure_50
    · replace hf := hf.2 hc
      clear hc
      refine th_aload_n hx hb dX7_measure_29 rfl (lv_at hl 2 rfl) ?_
      obtain ⟨b_12, e9, hm, hf⟩ := hf
      refine W.eq (g2 := F0 m 30 ls [.ref b_12]) (congrArg (fun z9 => F0 m 30 ls [va_rf z9]) e9) ?_
      clear e9
      refine xdgn_Feel_sum C hw hm (va_Nw.use rfl (xN C hwG_X7_123)) dX7_measure_30 ?_
      exact th_iret C hw hf dX7_measure_33
  · replace hf := hf.2 hc
    clear hc
    refine th_aload_n hx hb dX7_measure_12 rfl (lv_at hl 2 rfl) ?_
    obtain ⟨b_13, e9, hm, hf⟩ := hf
    refine W.eq (g2 := F0 m 13 ls [.ref b_13]) (congrArg (fun z9 => F0 m 13 ls [va_rf z9]) e9) ?_
    clear e9
    refine xdgn_Feel_peak C hw hm (va_Nw.use rfl (xN C hwG_X7_117)) dX7_measure_13 ?_
    exact th_iret C hw hf dX7_measure_16
/-! X_US_goOn -/
theorem dX9_goOn_0 : decode cX9_goOn 0 = .ok (.iconst 0, 1) := by decide +kernel
theorem dX9_goOn_1 : decode cX9_goOn 1 = .ok (.istore 4, 2) := by decide +kernel
theorem dX9_goOn_3 : decode cX9_goOn 3 = .ok (.iconst 0, 1) := by decide +kernel
theorem dX9_goOn_4 : decode cX9_goOn 4 = .ok (.istore 5, 2) := by decide +kernel
theorem dX9_goOn_6 : decode cX9_goOn 6 = .ok (.iload 5, 2) := by decide +kernel
theorem dX9_goOn_8 : decode cX9_goOn 8 = .ok (.bipush 31, 2) := by decide +kernel
theorem dX9_goOn_10 : decode cX9_goOn 10 = .ok (.if_icmp .ge 56, 3) := by decide +kernel
theorem dX9_goOn_13 : decode cX9_goOn 13 = .ok (.iload_n 2, 1) := by decide +kernel
theorem dX9_goOn_14 : decode cX9_goOn 14 = .ok (.iload_n 3, 1) := by decide +kernel
theorem dX9_goOn_15 : decode cX9_goOn 15 = .ok (.isub, 1) := by decide +kernel
theorem dX9_goOn_16 : decode cX9_goOn 16 = .ok (.iload 5, 2) := by decide +kernel
theorem dX9_goOn_18 : decode cX9_goOn 18 = .ok (.isub, 1) := by decide +kernel
theorem dX9_goOn_19 : decode cX9_goOn 19 = .ok (.iload_n 2, 1) := by decide +kernel
theorem dX9_goOn_20 : decode cX9_goOn 20 = .ok (.iload_n 3, 1) := by decide +kernel
theorem dX9_goOn_21 : decode cX9_goOn 21 = .ok (.iadd, 1) := by decide +kernel
theorem dX9_goOn_22 : decode cX9_goOn 22 = .ok (.iload 5, 2) := by decide +kernel
theorem dX9_goOn_24 : decode cX9_goOn 24 = .ok (.isub, 1) := by decide +kernel
theorem dX9_goOn_25 : decode cX9_goOn 25 = .ok (.invokestatic 91, 3) := by decide +kernel
theorem dX9_goOn_28 : decode cX9_goOn 28 = .ok (.aload_n 0, 1) := by decide +kernel
theorem dX9_goOn_29 : decode cX9_goOn 29 = .ok (.getfield 38, 3) := by decide +kernel
theorem dX9_goOn_32 : decode cX9_goOn 32 = .ok (.iload_n 1, 1) := by decide +kernel
theorem dX9_goOn_33 : decode cX9_goOn 33 = .ok (.iaload, 1) := by decide +kernel
theorem dX9_goOn_34 : decode cX9_goOn 34 = .ok (.iand, 1) := by decide +kernel
theorem dX9_goOn_35 : decode cX9_goOn 35 = .ok (.ifCond .eq 25, 3) := by decide +kernel
theorem dX9_goOn_38 : decode cX9_goOn 38 = .ok (.iload 4, 2) := by decide +kernel
theorem dX9_goOn_40 : decode cX9_goOn 40 = .ok (.iconst 1, 1) := by decide +kernel
theorem dX9_goOn_41 : decode cX9_goOn 41 = .ok (.iload 5, 2) := by decide +kernel
theorem dX9_goOn_43 : decode cX9_goOn 43 = .ok (.ishl, 1) := by decide +kernel
theorem dX9_goOn_44 : decode cX9_goOn 44 = .ok (.ior, 1) := by decide +kernel
theorem dX9_goOn_45 : decode cX9_goOn 45 = .ok (.istore 4, 2) := by decide +kernel
theorem dX9_goOn_47 : decode cX9_goOn 47 = .ok (.aload_n 0, 1) := by decide +kernel
theorem dX9_goOn_48 : decode cX9_goOn 48 = .ok (.getfield 35, 3) := by decide +kernel
theorem dX9_goOn_51 : decode cX9_goOn 51 = .ok (.iload 5, 2) := by decide +kernel
theorem dX9_goOn_53 : decode cX9_goOn 53 = .ok (.dup2, 1) := by decide +kernel
theorem dX9_goOn_54 : decode cX9_goOn 54 = .ok (.iaload, 1) := by decide +kernel
theorem dX9_goOn_55 : decode cX9_goOn 55 = .ok (.iconst 1, 1) := by decide +kernel
theorem dX9_goOn_56 : decode cX9_goOn 56 = .ok (.iload_n 1, 1) := by decide +kernel
theorem dX9_goOn_57 : decode cX9_goOn 57 = .ok (.ishl, 1) := by decide +kernel
theorem dX9_goOn_58 : decode cX9_goOn 58 = .ok (.ior, 1) := by decide +kernel
theorem dX9_goOn_59 : decode cX9_goOn 59 = .ok (.iastore, 1) := by decide +kernel
theorem dX9_goOn_60 : decode cX9_goOn 60 = .ok (.iinc 5 1, 3) := by decide +kernel
theorem dX9_goOn_63 : decode cX9_goOn 63 = .ok (.goto (-57), 3) := by decide +kernel
theorem dX9_goOn_66 : decode cX9_goOn 66 = .ok (.iload 4, 2) := by decide +kernel
theorem dX9_goOn_68 : decode cX9_goOn 68 = .ok (.ireturn, 1) := by decide +kernel
def X_US_goOn_60 (K : Int32 → xs_St → Prop) (k6 : Int32 → Int32 → Int32 → Int32 → Int32 → xs_St → Prop) (x1 : Int32) (x2 : Int32) (x3 : Int32) (x4 : Int32) (x5 : Int32) (u : xs_St) : Prop :=
  ∀ x5_1 : Int32, x5_1 = x5 + (1 : Int32) → k6 x1 x2 x3 x4 x5_1 u
set_option maxHeartbeats 4000000 in
set_option maxRecDepth 100000 in
theorem X_US_goOn_60_w {K : Int32 → xs_St → Prop} {k6 : Int32 → Int32 → Int32 → Int32 → Int32 → xs_St → Prop} (C : th_Cx p s m args meth c cX9_goOn RX9 6 (some .int) (dC, dI) (th_ty cs) (xE ad ak) A) (hk6 : ∀ (x1 : Int32) (x2 : Int32) (x3 : Int32) (x4 : Int32) (x5 : Int32) (u : xs_St) (H : Heap) (locs : List Loc) (ls : Array Slot), k6 x1 x2 x3 x4 x5 u → th_wI (dC, dI) (wX cs ad q v v) A s.heap u H locs → lv_has ls 6 [(0, .ref (q 699)), (1, .int x1), (2, .int x2), (3, .int x3), (4, .int x4), (5, .int x5)] → W p l e (th_rm 2 0 0) s m args below meth c H locs 0 0 (MQ below (va_Qi K (th_Post (dC, dI) (wX cs ad q v v) A) A) args s 0 0 A) (F0 m 6 ls [])) (x1 : Int32) (x2 : Int32) (x3 : Int32) (x4 : Int32) (x5 : Int32) (u : xs_St) (H : Heap) (locs : List Loc) (ls : Array Slot) (hf : X_US_goOn_60 K k6 x1 x2 x3 x4 x5 u) (hw : th_wI (dC, dI) (wX cs ad q v v) A s.heap u H locs) (hl : lv_has ls 6 [(0, .ref (q 699)), (1, .int x1), (2, .int x2), (3, .int x3), (4, .int x4), (5, .int x5)]) : W p l e (th_rm 2 0 0) s m args below meth c H locs 0 0 (MQ below (va_Qi K (th_Post (dC, dI) (wX cs ad q v v) A) A) args s 0 0 A) (F0 m 60 ls []) := by
  have hx := C.1
  have hb := C.2.1
  unfold X_US_goOn_60 at hf
  obtain ⟨x5_1, e9⟩ : ∃ y : Int32, y = x5 + (1 : Int32) := ⟨_, rfl⟩
  replace hf := hf x5_1 e9
  refine lv_iinc (v := x5_1) (lv' := [(5, .int x5_1), (0, .ref (q 699)), (1, .int x1), (2, .int x2), (3, .int x3), (4, .int x4)]) hx hb dX9_goOn_60 hl (k := 5) rfl (by rw [e9]; rfl) (by decide) rfl (fun ls hl => ?_)
  clear e9
  refine lv_goto (tgt := 6) hx hb dX9_goOn_63 (by decide) ?_
  exact hk6 x1 x2 x3 x4 x5_1 u _ _ _ hf hw (lv_sub hl [1, 2, 3, 4, 5, 0] rfl)
def X_US_goOn_6 (K : Int32 → xs_St → Prop) (k6 : Int32 → Int32 → Int32 → Int32 → Int32 → xs_St → Prop) (x1 : Int32) (x2 : Int32) (x3 : Int32) (x4 : Int32) (x5 : Int32) (u : xs_St) : Prop :=
  (((31 : Int32) ≤ x5 → K x4 u) ∧ (¬ (31 : Int32) ≤ x5 → X_US_bits ((x2 - x3) - x5) ((x2 + x3) - x5) u (fun r_2 u_1 => (vp_in x1 31 ∧ ∀ y_3 : Int32, y_3 = xa u_1 608 (x1).toNatClampNeg → (((r_2 &&& y_3) = 0 → X_US_goOn_60 K k6 x1 x2 x3 x4 x5 u_1) ∧ (¬ (r_2 &&& y_3) = 0 → ∀ y_4 : Int32, y_4 = (x4 ||| ((1 : Int32) <<< (x5 &&& 31))) → (vp_in x5 31 ∧ ∀ y_5 : Int32, y_5 = xa u_1 607 (x5).toNatClampNeg → (vp_in x5 31 ∧ ∀ u_6 : xs_St, u_6 = xs_sa u_1 607 (upd (xa u_1 607) (x5).toNatClampNeg (y_5 ||| ((1 : Int32) <<< (x1 &&& 31)))) → X_US_goOn_60 K k6 x1 x2 x3 y_4 x5 u_6))))))))
set_option maxHeartbeats 4000000 in
set_option maxRecDepth 100000 in
theorem X_US_goOn_6_w {K : Int32 → xs_St → Prop} {k6 : Int32 → Int32 → Int32 → Int32 → Int32 → xs_St → Prop} (C : th_Cx p s m args meth c cX9_goOn RX9 6 (some .int) (dC, dI) (th_ty cs) (xE ad ak) A) (hk6 : ∀ (x1 : Int32) (x2 : Int32) (x3 : Int32) (x4 : Int32) (x5 : Int32) (u : xs_St) (H : Heap) (locs : List Loc) (ls : Array Slot), k6 x1 x2 x3 x4 x5 u → th_wI (dC, dI) (wX cs ad q v v) A s.heap u H locs → lv_has ls 6 [(0, .ref (q 699)), (1, .int x1), (2, .int x2), (3, .int x3), (4, .int x4), (5, .int x5)] → W p l e (th_rm 2 0 0) s m args below meth c H locs 0 0 (MQ below (va_Qi K (th_Post (dC, dI) (wX cs ad q v v) A) A) args s 0 0 A) (F0 m 6 ls [])) (x1 : Int32) (x2 : Int32) (x3 : Int32) (x4 : Int32) (x5 : Int32) (u : xs_St) (H : Heap) (locs : List Loc) (ls : Array Slot) (hf : X_US_goOn_6 K k6 x1 x2 x3 x4 x5 u) (hw : th_wI (dC, dI) (wX cs ad q v v) A s.heap u H locs) (hl : lv_has ls 6 [(0, .ref (q 699)), (1, .int x1), (2, .int x2), (3, .int x3), (4, .int x4), (5, .int x5)]) : W p l e (th_rm 2 0 0) s m args below meth c H locs 0 0 (MQ below (va_Qi K (th_Post (dC, dI) (wX cs ad q v v) A) A) args s 0 0 A) (F0 m 6 ls []) := by
  have hx := C.1
  have hb := C.2.1
  unfold X_US_goOn_6 at hf
  refine lv_iload hx hb dX9_goOn_6 (lv_at hl 5 rfl) ?_
  refine lv_bipush (v := (31 : Int32)) hx hb dX9_goOn_8 (by decide) ?_
  refine lv_icmp_ge (tgt := 66) hx hb dX9_goOn_10 (by decide) (fun hc => ?_) (fun hc => ?_)
  · replace hf := hf.1 hc
    clear hc
    refine lv_iload hx hb dX9_goOn_66 (lv_at hl 4 rfl) ?_
    exact th_iret C hw hf dX9_goOn_68
  · replace hf := hf.2 hc
    clear hc
    refine lv_iload_n hx hb dX9_goOn_13 rfl (lv_at hl 2 rfl) ?_
    refine lv_iload_n hx hb dX9_goOn_14 rfl (lv_at hl 3 rfl) ?_
    refine lv_isub hx hb dX9_goOn_15 ?_
    refine lv_iload hx hb dX9_goOn_16 (lv_at hl 5 rfl) ?_
    refine lv_isub hx hb dX9_goOn_18 ?_
    refine lv_iload_n hx hb dX9_goOn_19 rfl (lv_at hl 2 rfl) ?_
    refine lv_iload_n hx hb dX9_goOn_20 rfl (lv_at hl 3 rfl) ?_
    refine lv_iadd hx hb dX9_goOn_21 ?_
    refine lv_iload hx hb dX9_goOn_22 (lv_at hl 5 rfl) ?_
    refine lv_isub hx hb dX9_goOn_24 ?_
    refine th_callSi (As := [.int ((x2 - x3) - x5), .int ((x2 + x3) - x5)]) (rest := []) C lkX9_91 (X_US_bits_c hf) hw rfl rfl ⟨Nat.le_of_ble_eq_true rfl, Nat.le_of_ble_eq_true rfl⟩ hl.1 (Nat.le_of_ble_eq_true rfl) ⟨Nat.le_of_ble_eq_true rfl, Nat.le_of_ble_eq_true rfl⟩ dX9_goOn_25 (fun r_2 u_1 H locs hf hw => ?_)
    refine lv_aload_n hx hb dX9_goOn_28 rfl (lv_at hl 0 rfl) ?_
    refine xg_608 C hw (C.2.2.2.2.1 _ hwF_X9_38) dX9_goOn_29 ?_
    refine lv_iload_n hx hb dX9_goOn_32 rfl (lv_at hl 1 rfl) ?_
    refine yl_608 C hw hf.1 dX9_goOn_33 (fun y_3 e9 => ?_)
    replace hf := hf.2 y_3 e9
    clear e9
    refine lv_iand hx hb dX9_goOn_34 ?_
    refine lv_if_eq (tgt := 60) hx hb dX9_goOn_35 (by decide) (fun hc => ?_) (fun hc => ?_)
    · replace hf := hf.1 hc
      clear hc
      exact X_US_goOn_60_w C hk6 x1 x2 x3 x4 x5 u_1 _ _ _ hf hw (lv_sub hl [0, 1, 2, 3, 4, 5] rfl)
    · replace hf := hf.2 hc
      clear hc
      refine lv_iload hx hb dX9_goOn_38 (lv_at hl 4 rfl) ?_
      refine lv_iconst (v := (1 : Int32)) hx hb dX9_goOn_40 (by decide) ?_
      refine lv_iload hx hb dX9_goOn_41 (lv_at hl 5 rfl) ?_
      refine lv_ishl hx hb dX9_goOn_43 ?_
      refine lv_ior hx hb dX9_goOn_44 ?_
      refine lv_topi (fun y_4 e9 => ?_)
      replace hf := hf y_4 e9
      clear e9
      refine lv_istore (lv' := [(4, .int y_4), (0, .ref (q 699)), (1, .int x1), (2, .int x2), (3, .int x3), (5, .int x5)]) hx hb dX9_goOn_45 hl (by decide) rfl (fun ls hl => ?_)
      refine lv_aload_n hx hb dX9_goOn_47 rfl (lv_at hl 1 rfl) ?_
      refine xg_607 C hw (C.2.2.2.2.1 _ hwF_X9_35) dX9_goOn_48 ?_
      refine lv_iload hx hb dX9_goOn_51 (lv_at hl 5 rfl) ?_
      refine lv_dup2_11 hx hb dX9_goOn_53 rfl rfl ?_
      refine yl_607 C hw hf.1 dX9_goOn_54 (fun y_5 e9 => ?_)
      replace hf := hf.2 y_5 e9
      clear e9
      refine lv_iconst (v := (1 : Int32)) hx hb dX9_goOn_55 (by decide) ?_
      refine lv_iload_n hx hb dX9_goOn_56 rfl (lv_at hl 2 rfl) ?_
      refine lv_ishl hx hb dX9_goOn_57 ?_
      refine lv_ior hx hb dX9_goOn_58 ?_
      refine ys_607 C hw hf.1 dX9_goOn_59 (fun u_6 e9 H locs hw => ?_)
      replace hf := hf.2 u_6 e9
      clear e9
      exact X_US_goOn_60_w C hk6 x1 x2 x3 y_4 x5 u_6 _ _ _ hf hw (lv_sub hl [1, 2, 3, 4, 0, 5] rfl)
def X_US_goOn_6_lp (K : Int32 → xs_St → Prop) : Nat → Int32 → Int32 → Int32 → Int32 → Int32 → xs_St → Prop
  | 0, _, _, _, _, _, _ => False
  | n + 1, x1, x2, x3, x4, x5, u => X_US_goOn_6 K (X_US_goOn_6_lp K n) x1 x2 x3 x4 x5 u
set_option maxHeartbeats 4000000 in
set_option maxRecDepth 100000 in
theorem X_US_goOn_6_lw {K : Int32 → xs_St → Prop} (C : th_Cx p s m args meth c cX9_goOn RX9 6 (some .int) (dC, dI) (th_ty cs) (xE ad ak) A) (n : Nat) : ∀ (x1 : Int32) (x2 : Int32) (x3 : Int32) (x4 : Int32) (x5 : Int32) (u : xs_St) (H : Heap) (locs : List Loc) (ls : Array Slot), X_US_goOn_6_lp K n x1 x2 x3 x4 x5 u → th_wI (dC, dI) (wX cs ad q v v) A s.heap u H locs → lv_has ls 6 [(0, .ref (q 699)), (1, .int x1), (2, .int x2), (3, .int x3), (4, .int x4), (5, .int x5)] → W p l e (th_rm 2 0 0) s m args below meth c H locs 0 0 (MQ below (va_Qi K (th_Post (dC, dI) (wX cs ad q v v) A) A) args s 0 0 A) (F0 m 6 ls []) := by
  induction n with
  | zero => intro x1 x2 x3 x4 x5 u H locs ls hf; exact hf.elim
  | succ n ih =>
    intro x1 x2 x3 x4 x5 u H locs ls hf hw hl
    exact X_US_goOn_6_w C ih x1 x2 x3 x4 x5 u H locs ls hf hw hl
def X_US_goOn (a1 : Int32) (a2 : Int32) (a3 : Int32) (u : xs_St) (K : Int32 → xs_St → Prop) : Prop :=
  ∃ n, X_US_goOn_6_lp K n a1 a2 a3 (0 : Int32) (0 : Int32) u
set_option maxHeartbeats 4000000 in
set_option maxRecDepth 100000 in
theorem X_US_goOn_c {l : Launch} {dC : Nat → ClassId} {dI : Nat → Nat → Nat} {cs : Nat → ClassId} {ad ak : Nat → Nat} {q v : Nat → Nat} {a1 : Int32} {a2 : Int32} {a3 : Int32} {u : xs_St} {K : Int32 → xs_St → Prop} (hf : X_US_goOn a1 a2 a3 u K) : th_Ci l yX9_goOn cX9_goOn 6 (some .int) 2 0 0 (dC, dI) (th_ty cs) (xE ad ak) (wX cs ad q v v) [.ref (q 699), .int a1, .int a2, .int a3] u K := by
  refine th_ofi (by decide) (Nat.le_of_ble_eq_true rfl) (xE_ok ad ak) ?_
  intro p e s m below meth c A ls C hw hl
  have C : th_Cx p s m _ meth c cX9_goOn RX9 6 (some .int) (dC, dI) (th_ty cs) (xE ad ak) A := C
  have hl : lv_has ls 6 [(0, .ref (q 699)), (1, .int a1), (2, .int a2), (3, .int a3)] := hl
  generalize (List.toArray _ : Array Value) = args at C ⊢
  have hx := C.1
  have hb := C.2.1
  unfold X_US_goOn at hf
  refine lv_iconst (v := (0 : Int32)) hx hb dX9_goOn_0 (by decide) ?_
  refine lv_istore (lv' := [(4, .int (0 : Int32)), (0, .ref (q 699)), (1, .int a1), (2, .int a2), (3, .int a3)]) hx hb dX9_goOn_1 hl (by decide) rfl (fun ls hl => ?_)
  refine lv_iconst (v := (0 : Int32)) hx hb dX9_goOn_3 (by decide) ?_
  refine lv_istore (lv' := [(5, .int (0 : Int32)), (4, .int (0 : Int32)), (0, .ref (q 699)), (1, .int a1), (2, .int a2), (3, .int a3)]) hx hb dX9_goOn_4 hl (by decide) rfl (fun ls hl => ?_)
  obtain ⟨n, hf⟩ := hf
  exact X_US_goOn_6_lw C n a1 a2 a3 (0 : Int32) (0 : Int32) u _ _ _ hf hw (lv_sub hl [2, 3, 4, 5, 1, 0] rfl)
end

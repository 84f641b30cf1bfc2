section
variable {p : Program} {l : Launch} {e : Env} {s : State} {m : MethodId} {args : Array Value} {below : List Frame} {meth : Method} {c : Code} {dC : Nat → ClassId} {dI : Nat → Nat → Nat} {cs : Nat → ClassId} {ad : Nat → Nat} {q v : Nat → Nat} {A : Nat → Prop}
/-! X_US_bits -/
theorem dX9_bits_0 : decode cX9_bits 0 = .ok (.iconst 0, 1) := by decide +kernel
theorem dX9_bits_1 : decode cX9_bits 1 = .ok (.iload_n 0, 1) := by decide +kernel
theorem dX9_bits_2 : decode cX9_bits 2 = .ok (.invokestatic 75, 3) := by decide +kernel
theorem dX9_bits_5 : decode cX9_bits 5 = .ok (.istore_n 2, 1) := by decide +kernel
theorem dX9_bits_6 : decode cX9_bits 6 = .ok (.bipush 30, 2) := by decide +kernel
theorem dX9_bits_8 : decode cX9_bits 8 = .ok (.iload_n 1, 1) := by decide +kernel
theorem dX9_bits_9 : decode cX9_bits 9 = .ok (.invokestatic 80, 3) := by decide +kernel
theorem dX9_bits_12 : decode cX9_bits 12 = .ok (.istore_n 3, 1) := by decide +kernel
theorem dX9_bits_13 : decode cX9_bits 13 = .ok (.iload_n 2, 1) := by decide +kernel
theorem dX9_bits_14 : decode cX9_bits 14 = .ok (.iload_n 3, 1) := by decide +kernel
theorem dX9_bits_15 : decode cX9_bits 15 = .ok (.if_icmp .le 7, 3) := by decide +kernel
theorem dX9_bits_18 : decode cX9_bits 18 = .ok (.iconst 0, 1) := by decide +kernel
theorem dX9_bits_19 : decode cX9_bits 19 = .ok (.goto 18, 3) := by decide +kernel
theorem dX9_bits_22 : decode cX9_bits 22 = .ok (.iconst 1, 1) := by decide +kernel
theorem dX9_bits_23 : decode cX9_bits 23 = .ok (.iload_n 3, 1) := by decide +kernel
theorem dX9_bits_24 : decode cX9_bits 24 = .ok (.iconst 1, 1) := by decide +kernel
theorem dX9_bits_25 : decode cX9_bits 25 = .ok (.iadd, 1) := by decide +kernel
theorem dX9_bits_26 : decode cX9_bits 26 = .ok (.ishl, 1) := by decide +kernel
theorem dX9_bits_27 : decode cX9_bits 27 = .ok (.iconst 1, 1) := by decide +kernel
theorem dX9_bits_28 : decode cX9_bits 28 = .ok (.isub, 1) := by decide +kernel
theorem dX9_bits_29 : decode cX9_bits 29 = .ok (.iconst 1, 1) := by decide +kernel
theorem dX9_bits_30 : decode cX9_bits 30 = .ok (.iload_n 2, 1) := by decide +kernel
theorem dX9_bits_31 : decode cX9_bits 31 = .ok (.ishl, 1) := by decide +kernel
theorem dX9_bits_32 : decode cX9_bits 32 = .ok (.iconst 1, 1) := by decide +kernel
theorem dX9_bits_33 : decode cX9_bits 33 = .ok (.isub, 1) := by decide +kernel
theorem dX9_bits_34 : decode cX9_bits 34 = .ok (.iconst (-1), 1) := by decide +kernel
theorem dX9_bits_35 : decode cX9_bits 35 = .ok (.ixor, 1) := by decide +kernel
theorem dX9_bits_36 : decode cX9_bits 36 = .ok (.iand, 1) := by decide +kernel
theorem dX9_bits_37 : decode cX9_bits 37 = .ok (.ireturn, 1) := by decide +kernel
def X_US_bits_37 (K : Int32 → xs_St → Prop) (z0 : Int32) (u : xs_St) : Prop :=
  K z0 u
set_option maxHeartbeats 4000000 in
set_option maxRecDepth 100000 in
theorem X_US_bits_37_w {K : Int32 → xs_St → Prop} (C : th_Cx p s m args meth c cX9_bits RX9 4 (some .int) (dC, dI) (th_ty cs) (xE ad) A) (z0 : Int32) (u : xs_St) (H : Heap) (locs : List Loc) (ls : Array Slot) (hf : X_US_bits_37 K z0 u) (hw : th_wI (dC, dI) (wX cs ad q v v) A s.heap u H locs) (hl : lv_has ls 4 []) : W p l e (th_rm 1 0 0) s m args below meth c H locs 0 0 (MQ below (va_Qi K (th_Post (dC, dI) (wX cs ad q v v) A) A) args s 0 0 A) (F0 m 37 ls [.int z0]) := by
  have hx := C.1
  have hb := C.2.1
  unfold X_US_bits_37 at hf
  exact th_iret C hw hf dX9_bits_37
def X_US_bits (a1 : Int32) (a2 : Int32) (u : xs_St) (K : Int32 → xs_St → Prop) : Prop :=
  ∀ y_1 : Int32, y_1 = (if (0 : Int32) < a1 then a1 else (0 : Int32)) → ∀ y_2 : Int32, y_2 = (if a2 < (30 : Int32) then a2 else (30 : Int32)) → ((y_1 ≤ y_2 → X_US_bits_37 K ((((1 : Int32) <<< ((y_2 + (1 : Int32)) &&& 31)) - (1 : Int32)) &&& ((((1 : Int32) <<< (y_1 &&& 31)) - (1 : Int32)) ^^^ (-1 : Int32))) u) ∧ (¬ y_1 ≤ y_2 → X_US_bits_37 K (0 : Int32) u))
set_option maxHeartbeats 4000000 in
set_option maxRecDepth 100000 in
theorem X_US_bits_c {l : Launch} {dC : Nat → ClassId} {dI : Nat → Nat → Nat} {cs : Nat → ClassId} {ad : Nat → Nat} {q v : Nat → Nat} {a1 : Int32} {a2 : Int32} {u : xs_St} {K : Int32 → xs_St → Prop} (hf : X_US_bits a1 a2 u K) : th_Ci l yX9_bits cX9_bits 4 (some .int) 1 0 0 (dC, dI) (th_ty cs) (xE ad) (wX cs ad q v v) [.int a1, .int a2] u K := by
  refine th_ofi (by decide) (Nat.le_of_ble_eq_true rfl) (xE_ok ad) ?_
  intro p e s m below meth c A ls C hw hl
  have C : th_Cx p s m _ meth c cX9_bits RX9 4 (some .int) (dC, dI) (th_ty cs) (xE ad) A := C
  have hl : lv_has ls 4 [(0, .int a1), (1, .int a2)] := hl
  generalize (List.toArray _ : Array Value) = args at C ⊢
  have hx := C.1
  have hb := C.2.1
  unfold X_US_bits at hf
  refine lv_iconst (v := (0 : Int32)) hx hb dX9_bits_0 (by decide) ?_
  refine lv_iload_n hx hb dX9_bits_1 rfl (lv_at hl 0 rfl) ?_
  refine va_mmax hx hb (C.2.2.1.trans hl.1.symm) C.2.2.2.1 (C.2.2.2.2.1 _ hwM_X9_75) (C.2.2.2.2.1 _ hwS_Math_max) (C.2.2.2.2.1 _ hwI_Math) (C.2.2.2.2.1 _ hwC_Math_max) (Nat.le_of_ble_eq_true rfl) (Nat.le_of_ble_eq_true rfl) (Nat.le_of_ble_eq_true rfl) (Nat.le_of_ble_eq_true rfl) dX9_bits_2 ?_
  refine lv_topi (fun y_1 e9 => ?_)
  replace hf := hf y_1 e9
  clear e9
  refine lv_istore_n (lv' := [(2, .int y_1), (0, .int a1), (1, .int a2)]) hx hb dX9_bits_5 rfl hl (by decide) rfl (fun ls hl => ?_)
  refine lv_bipush (v := (30 : Int32)) hx hb dX9_bits_6 (by decide) ?_
  refine lv_iload_n hx hb dX9_bits_8 rfl (lv_at hl 2 rfl) ?_
  refine va_mmin hx hb (C.2.2.1.trans hl.1.symm) C.2.2.2.1 (C.2.2.2.2.1 _ hwM_X9_80) (C.2.2.2.2.1 _ hwS_Math_min) (C.2.2.2.2.1 _ hwI_Math) (C.2.2.2.2.1 _ hwC_Math_min) (Nat.le_of_ble_eq_true rfl) (Nat.le_of_ble_eq_true rfl) (Nat.le_of_ble_eq_true rfl) (Nat.le_of_ble_eq_true rfl) dX9_bits_9 ?_
  refine lv_topi (fun y_2 e9 => ?_)
  replace hf := hf y_2 e9
  clear e9
  refine lv_istore_n (lv' := [(3, .int y_2), (2, .int y_1), (0, .int a1), (1, .int a2)]) hx hb dX9_bits_12 rfl hl (by decide) rfl (fun ls hl => ?_)
  refine lv_iload_n hx hb dX9_bits_13 rfl (lv_at hl 1 rfl) ?_
  refine lv_iload_n hx hb dX9_bits_14 rfl (lv_at hl 0 rfl) ?_
  refine lv_icmp_le (tgt := 22) hx hb dX9_bits_15 (by decide) (fun hc => ?_) (fun hc => ?_)
  · replace hf := hf.1 hc
    clear hc
    refine lv_iconst (v := (1 : Int32)) hx hb dX9_bits_22 (by decide) ?_
    refine lv_iload_n hx hb dX9_bits_23 rfl (lv_at hl 0 rfl) ?_
    refine lv_iconst (v := (1 : Int32)) hx hb dX9_bits_24 (by decide) ?_
    refine lv_iadd hx hb dX9_bits_25 ?_
    refine lv_ishl hx hb dX9_bits_26 ?_
    refine lv_iconst (v := (1 : Int32)) hx hb dX9_bits_27 (by decide) ?_
    refine lv_isub hx hb dX9_bits_28 ?_
    refine lv_iconst (v := (1 : Int32)) hx hb dX9_bits_29 (by decide) ?_
    refine lv_iload_n hx hb dX9_bits_30 rfl (lv_at hl 1 rfl) ?_
    refine lv_ishl hx hb dX9_bits_31 ?_
    refine lv_iconst (v := (1 : Int32)) hx hb dX9_bits_32 (by decide) ?_
    refine lv_isub hx hb dX9_bits_33 ?_
    refine lv_iconst (v := (-1 : Int32)) hx hb dX9_bits_34 (by decide) ?_
    refine lv_ixor hx hb dX9_bits_35 ?_
    refine lv_iand hx hb dX9_bits_36 ?_
    exact X_US_bits_37_w C ((((1 : Int32) <<< ((y_2 + (1 : Int32)) &&& 31)) - (1 : Int32)) &&& ((((1 : Int32) <<< (y_1 &&& 31)) - (1 : Int32)) ^^^ (-1 : Int32))) u _ _ _ hf hw (lv_sub hl [] rfl)
  · replace hf := hf.2 hc
    clear hc
    refine lv_iconst (v := (0 : Int32)) hx hb dX9_bits_18 (by decide) ?_
    refine lv_goto (tgt := 37) hx hb dX9_bits_19 (by decide) ?_
    exact X_US_bits_37_w C (0 : Int32) u _ _ _ hf hw (lv_sub hl [] rfl)
/-! X_US_goPast -/
theorem dX9_goPast_0 : decode cX9_goPast 0 = .ok (.iconst 0, 1) := by decide +kernel
theorem dX9_goPast_1 : decode cX9_goPast 1 = .ok (.istore 4, 2) := by decide +kernel
theorem dX9_goPast_3 : decode cX9_goPast 3 = .ok (.iload 4, 2) := by decide +kernel
theorem dX9_goPast_5 : decode cX9_goPast 5 = .ok (.bipush 31, 2) := by decide +kernel
theorem dX9_goPast_7 : decode cX9_goPast 7 = .ok (.if_icmp .ge 115, 3) := by decide +kernel
theorem dX9_goPast_10 : decode cX9_goPast 10 = .ok (.aload_n 0, 1) := by decide +kernel
theorem dX9_goPast_11 : decode cX9_goPast 11 = .ok (.iload_n 1, 1) := by decide +kernel
theorem dX9_goPast_12 : decode cX9_goPast 12 = .ok (.iload 4, 2) := by decide +kernel
theorem dX9_goPast_14 : decode cX9_goPast 14 = .ok (.invokevirtual 67, 3) := by decide +kernel
theorem dX9_goPast_17 : decode cX9_goPast 17 = .ok (.iload_n 2, 1) := by decide +kernel
theorem dX9_goPast_18 : decode cX9_goPast 18 = .ok (.iload 4, 2) := by decide +kernel
theorem dX9_goPast_20 : decode cX9_goPast 20 = .ok (.invokestatic 71, 3) := by decide +kernel
theorem dX9_goPast_23 : decode cX9_goPast 23 = .ok (.istore 5, 2) := by decide +kernel
theorem dX9_goPast_25 : decode cX9_goPast 25 = .ok (.iconst 0, 1) := by decide +kernel
theorem dX9_goPast_26 : decode cX9_goPast 26 = .ok (.istore 6, 2) := by decide +kernel
theorem dX9_goPast_28 : decode cX9_goPast 28 = .ok (.iload 6, 2) := by decide +kernel
theorem dX9_goPast_30 : decode cX9_goPast 30 = .ok (.bipush 31, 2) := by decide +kernel
theorem dX9_goPast_32 : decode cX9_goPast 32 = .ok (.if_icmp .ge 84, 3) := by decide +kernel
theorem dX9_goPast_35 : decode cX9_goPast 35 = .ok (.iconst 0, 1) := by decide +kernel
theorem dX9_goPast_36 : decode cX9_goPast 36 = .ok (.iload 5, 2) := by decide +kernel
theorem dX9_goPast_38 : decode cX9_goPast 38 = .ok (.iload_n 3, 1) := by decide +kernel
theorem dX9_goPast_39 : decode cX9_goPast 39 = .ok (.isub, 1) := by decide +kernel
theorem dX9_goPast_40 : decode cX9_goPast 40 = .ok (.iload 6, 2) := by decide +kernel
theorem dX9_goPast_42 : decode cX9_goPast 42 = .ok (.isub, 1) := by decide +kernel
theorem dX9_goPast_43 : decode cX9_goPast 43 = .ok (.invokestatic 75, 3) := by decide +kernel
theorem dX9_goPast_46 : decode cX9_goPast 46 = .ok (.istore 7, 2) := by decide +kernel
theorem dX9_goPast_48 : decode cX9_goPast 48 = .ok (.bipush 30, 2) := by decide +kernel
theorem dX9_goPast_50 : decode cX9_goPast 50 = .ok (.iload 5, 2) := by decide +kernel
theorem dX9_goPast_52 : decode cX9_goPast 52 = .ok (.iload_n 3, 1) := by decide +kernel
theorem dX9_goPast_53 : decode cX9_goPast 53 = .ok (.iadd, 1) := by decide +kernel
theorem dX9_goPast_54 : decode cX9_goPast 54 = .ok (.iload 6, 2) := by decide +kernel
theorem dX9_goPast_56 : decode cX9_goPast 56 = .ok (.isub, 1) := by decide +kernel
theorem dX9_goPast_57 : decode cX9_goPast 57 = .ok (.invokestatic 80, 3) := by decide +kernel
theorem dX9_goPast_60 : decode cX9_goPast 60 = .ok (.istore 8, 2) := by decide +kernel
theorem dX9_goPast_62 : decode cX9_goPast 62 = .ok (.iload 7, 2) := by decide +kernel
theorem dX9_goPast_64 : decode cX9_goPast 64 = .ok (.iload 8, 2) := by decide +kernel
theorem dX9_goPast_66 : decode cX9_goPast 66 = .ok (.if_icmp .gt 23, 3) := by decide +kernel
theorem dX9_goPast_69 : decode cX9_goPast 69 = .ok (.aload_n 0, 1) := by decide +kernel
theorem dX9_goPast_70 : decode cX9_goPast 70 = .ok (.getfield 29, 3) := by decide +kernel
theorem dX9_goPast_73 : decode cX9_goPast 73 = .ok (.iload 8, 2) := by decide +kernel
theorem dX9_goPast_75 : decode cX9_goPast 75 = .ok (.iconst 1, 1) := by decide +kernel
theorem dX9_goPast_76 : decode cX9_goPast 76 = .ok (.iadd, 1) := by decide +kernel
theorem dX9_goPast_77 : decode cX9_goPast 77 = .ok (.laload, 1) := by decide +kernel
theorem dX9_goPast_78 : decode cX9_goPast 78 = .ok (.aload_n 0, 1) := by decide +kernel
theorem dX9_goPast_79 : decode cX9_goPast 79 = .ok (.getfield 29, 3) := by decide +kernel
theorem dX9_goPast_82 : decode cX9_goPast 82 = .ok (.iload 7, 2) := by decide +kernel
theorem dX9_goPast_84 : decode cX9_goPast 84 = .ok (.laload, 1) := by decide +kernel
theorem dX9_goPast_85 : decode cX9_goPast 85 = .ok (.lsub, 1) := by decide +kernel
theorem dX9_goPast_86 : decode cX9_goPast 86 = .ok (.goto 4, 3) := by decide +kernel
theorem dX9_goPast_89 : decode cX9_goPast 89 = .ok (.lconst 0, 1) := by decide +kernel
theorem dX9_goPast_90 : decode cX9_goPast 90 = .ok (.lstore 9, 2) := by decide +kernel
theorem dX9_goPast_92 : decode cX9_goPast 92 = .ok (.aload_n 0, 1) := by decide +kernel
theorem dX9_goPast_93 : decode cX9_goPast 93 = .ok (.getfield 26, 3) := by decide +kernel
theorem dX9_goPast_96 : decode cX9_goPast 96 = .ok (.iload 4, 2) := by decide +kernel
theorem dX9_goPast_98 : decode cX9_goPast 98 = .ok (.bipush 31, 2) := by decide +kernel
theorem dX9_goPast_100 : decode cX9_goPast 100 = .ok (.imul, 1) := by decide +kernel
theorem dX9_goPast_101 : decode cX9_goPast 101 = .ok (.iload 6, 2) := by decide +kernel
theorem dX9_goPast_103 : decode cX9_goPast 103 = .ok (.iadd, 1) := by decide +kernel
theorem dX9_goPast_104 : decode cX9_goPast 104 = .ok (.lload 9, 2) := by decide +kernel
theorem dX9_goPast_106 : decode cX9_goPast 106 = .ok (.invokestatic 57, 3) := by decide +kernel
theorem dX9_goPast_109 : decode cX9_goPast 109 = .ok (.lastore, 1) := by decide +kernel
theorem dX9_goPast_110 : decode cX9_goPast 110 = .ok (.iinc 6 1, 3) := by decide +kernel
theorem dX9_goPast_113 : decode cX9_goPast 113 = .ok (.goto (-85), 3) := by decide +kernel
theorem dX9_goPast_116 : decode cX9_goPast 116 = .ok (.iinc 4 1, 3) := by decide +kernel
theorem dX9_goPast_119 : decode cX9_goPast 119 = .ok (.goto (-116), 3) := by decide +kernel
theorem dX9_goPast_122 : decode cX9_goPast 122 = .ok (.aload_n 0, 1) := by decide +kernel
theorem dX9_goPast_123 : decode cX9_goPast 123 = .ok (.getfield 22, 3) := by decide +kernel
theorem dX9_goPast_126 : decode cX9_goPast 126 = .ok (.astore 4, 2) := by decide +kernel
theorem dX9_goPast_128 : decode cX9_goPast 128 = .ok (.aload_n 0, 1) := by decide +kernel
theorem dX9_goPast_129 : decode cX9_goPast 129 = .ok (.aload_n 0, 1) := by decide +kernel
theorem dX9_goPast_130 : decode cX9_goPast 130 = .ok (.getfield 26, 3) := by decide +kernel
theorem dX9_goPast_133 : decode cX9_goPast 133 = .ok (.putfield 22, 3) := by decide +kernel
theorem dX9_goPast_136 : decode cX9_goPast 136 = .ok (.aload_n 0, 1) := by decide +kernel
theorem dX9_goPast_137 : decode cX9_goPast 137 = .ok (.aload 4, 2) := by decide +kernel
theorem dX9_goPast_139 : decode cX9_goPast 139 = .ok (.putfield 26, 3) := by decide +kernel
theorem dX9_goPast_142 : decode cX9_goPast 142 = .ok (.return_, 1) := by decide +kernel
def X_US_goPast_90 (K : xs_St → Prop) (k3 : Int32 → Int32 → Int32 → Int32 → xs_St → Prop) (k28 : Int32 → Int32 → Int32 → Int32 → Int32 → Int32 → xs_St → Prop) (x1 : Int32) (x2 : Int32) (x3 : Int32) (x4 : Int32) (x5 : Int32) (x6 : Int32) (z0 : Int64) (u : xs_St) : Prop :=
  X_US_atMost z0 u (fun r_2 u_1 => (vp_in ((x4 * (31 : Int32)) + x6) 961 ∧ ∀ u_3 : xs_St, u_3 = xs_sl u_1 604 (vp_updL (xl u_1 604) (((x4 * (31 : Int32)) + x6)).toNatClampNeg r_2) → ∀ x6_4 : Int32, x6_4 = x6 + (1 : Int32) → k28 x1 x2 x3 x4 x5 x6_4 u_3))
set_option maxHeartbeats 4000000 in
set_option maxRecDepth 100000 in
theorem X_US_goPast_90_w {K : xs_St → Prop} {k3 : Int32 → Int32 → Int32 → Int32 → xs_St → Prop} {k28 : Int32 → Int32 → Int32 → Int32 → Int32 → Int32 → xs_St → Prop} (C : th_Cx p s m args meth c cX9_goPast RX9 11 (none) (dC, dI) (th_ty cs) (xE ad) A) (hk3 : ∀ (x1 : Int32) (x2 : Int32) (x3 : Int32) (x4 : Int32) (v : Nat → Nat) (u : xs_St) (H : Heap) (locs : List Loc) (ls : Array Slot), k3 x1 x2 x3 x4 u → th_wI (dC, dI) (wX cs ad q v v) A s.heap u H locs → lv_has ls 11 [(0, .ref (q 699)), (1, .int x1), (2, .int x2), (3, .int x3), (4, .int x4)] → W p l e (th_rm 1 0 0) s m args below meth c H locs 0 0 (MQ below (va_Qv (fun a9 => K a9.2) (th_Post (dC, dI) (wXs cs ad q) A) A) args s 0 0 A) (F0 m 3 ls [])) (hk28 : ∀ (x1 : Int32) (x2 : Int32) (x3 : Int32) (x4 : Int32) (x5 : Int32) (x6 : Int32) (v : Nat → Nat) (u : xs_St) (H : Heap) (locs : List Loc) (ls : Array Slot), k28 x1 x2 x3 x4 x5 x6 u → th_wI (dC, dI) (wX cs ad q v v) A s.heap u H locs → lv_has ls 11 [(0, .ref (q 699)), (1, .int x1), (2, .int x2), (3, .int x3), (4, .int x4), (5, .int x5), (6, .int x6)] → W p l e (th_rm 1 0 0) s m args below meth c H locs 0 0 (MQ below (va_Qv (fun a9 => K a9.2) (th_Post (dC, dI) (wXs cs ad q) A) A) args s 0 0 A) (F0 m 28 ls [])) (x1 : Int32) (x2 : Int32) (x3 : Int32) (x4 : Int32) (x5 : Int32) (x6 : Int32) (z0 : Int64) (v : Nat → Nat) (u : xs_St) (H : Heap) (locs : List Loc) (ls : Array Slot) (hf : X_US_goPast_90 K k3 k28 x1 x2 x3 x4 x5 x6 z0 u) (hw : th_wI (dC, dI) (wX cs ad q v v) A s.heap u H locs) (hl : lv_has ls 11 [(0, .ref (q 699)), (1, .int x1), (2, .int x2), (3, .int x3), (4, .int x4), (5, .int x5), (6, .int x6)]) : W p l e (th_rm 1 0 0) s m args below meth c H locs 0 0 (MQ below (va_Qv (fun a9 => K a9.2) (th_Post (dC, dI) (wXs cs ad q) A) A) args s 0 0 A) (F0 m 90 ls [.long z0]) := by
  have hx := C.1
  have hb := C.2.1
  unfold X_US_goPast_90 at hf
  refine lv_lstore (lv' := [(9, .long z0), (0, .ref (q 699)), (1, .int x1), (2, .int x2), (3, .int x3), (4, .int x4), (5, .int x5), (6, .int x6)]) hx hb dX9_goPast_90 hl (by decide) rfl (fun ls hl => ?_)
  refine lv_aload_n hx hb dX9_goPast_92 rfl (lv_at hl 1 rfl) ?_
  refine xg_604 C hw (C.2.2.2.2.1 _ hwF_X9_26) dX9_goPast_93 ?_
  refine lv_iload hx hb dX9_goPast_96 (lv_at hl 5 rfl) ?_
  refine lv_bipush (v := (31 : Int32)) hx hb dX9_goPast_98 (by decide) ?_
  refine lv_imul hx hb dX9_goPast_100 ?_
  refine lv_iload hx hb dX9_goPast_101 (lv_at hl 7 rfl) ?_
  refine lv_iadd hx hb dX9_goPast_103 ?_
  refine lv_lload hx hb dX9_goPast_104 (lv_at hl 0 rfl) ?_
  refine th_callSl (As := [.long z0]) (rest := [.int ((x4 * (31 : Int32)) + x6), .ref (v 604)]) C lkX9_57 (X_US_atMost_c hf) hw rfl rfl ⟨Nat.le_of_ble_eq_true rfl, Nat.le_of_ble_eq_true rfl⟩ hl.1 (Nat.le_of_ble_eq_true rfl) ⟨Nat.le_of_ble_eq_true rfl, Nat.le_of_ble_eq_true rfl⟩ dX9_goPast_106 (fun r_2 u_1 H locs hf hw => ?_)
  refine ys_604 C hw hf.1 dX9_goPast_109 (fun u_3 e9 H locs hw => ?_)
  replace hf := hf.2 u_3 e9
  clear e9
  obtain ⟨x6_4, e9⟩ : ∃ y : Int32, y = x6 + (1 : Int32) := ⟨_, rfl⟩
  replace hf := hf x6_4 e9
  refine lv_iinc (v := x6_4) (lv' := [(6, .int x6_4), (9, .long z0), (0, .ref (q 699)), (1, .int x1), (2, .int x2), (3, .int x3), (4, .int x4), (5, .int x5)]) hx hb dX9_goPast_110 hl (k := 7) rfl (by rw [e9]; rfl) (by decide) rfl (fun ls hl => ?_)
  clear e9
  refine lv_goto (tgt := 28) hx hb dX9_goPast_113 (by decide) ?_
  exact hk28 x1 x2 x3 x4 x5 x6_4 v u_3 _ _ _ hf hw (lv_sub hl [2, 3, 4, 5, 6, 7, 0] rfl)
def X_US_goPast_28 (K : xs_St → Prop) (k3 : Int32 → Int32 → Int32 → Int32 → xs_St → Prop) (k28 : Int32 → Int32 → Int32 → Int32 → Int32 → Int32 → xs_St → Prop) (x1 : Int32) (x2 : Int32) (x3 : Int32) (x4 : Int32) (x5 : Int32) (x6 : Int32) (u : xs_St) : Prop :=
  (((31 : Int32) ≤ x6 → ∀ x4_1 : Int32, x4_1 = x4 + (1 : Int32) → k3 x1 x2 x3 x4_1 u) ∧ (¬ (31 : Int32) ≤ x6 → ∀ y_2 : Int32, y_2 = (if (0 : Int32) < ((x5 - x3) - x6) then ((x5 - x3) - x6) else (0 : Int32)) → ∀ y_3 : Int32, y_3 = (if ((x5 + x3) - x6) < (30 : Int32) then ((x5 + x3) - x6) else (30 : Int32)) → ((y_3 < y_2 → X_US_goPast_90 K k3 k28 x1 x2 x3 x4 x5 x6 (0 : Int64) u) ∧ (¬ y_3 < y_2 → (vp_in (y_3 + (1 : Int32)) 32 ∧ ∀ y_4 : Int64, y_4 = xl u 605 ((y_3 + (1 : Int32))).toNatClampNeg → (vp_in y_2 32 ∧ ∀ y_5 : Int64, y_5 = xl u 605 (y_2).toNatClampNeg → X_US_goPast_90 K k3 k28 x1 x2 x3 x4 x5 x6 (y_4 - y_5) u))))))
set_option maxHeartbeats 4000000 in
set_option maxRecDepth 100000 in
theorem X_US_goPast_28_w {K : xs_St → Prop} {k3 : Int32 → Int32 → Int32 → Int32 → xs_St → Prop} {k28 : Int32 → Int32 → Int32 → Int32 → Int32 → Int32 → xs_St → Prop} (C : th_Cx p s m args meth c cX9_goPast RX9 11 (none) (dC, dI) (th_ty cs) (xE ad) A) (hk3 : ∀ (x1 : Int32) (x2 : Int32) (x3 : Int32) (x4 : Int32) (v : Nat → Nat) (u : xs_St) (H : Heap) (locs : List Loc) (ls : Array Slot), k3 x1 x2 x3 x4 u → th_wI (dC, dI) (wX cs ad q v v) A s.heap u H locs → lv_has ls 11 [(0, .ref (q 699)), (1, .int x1), (2, .int x2), (3, .int x3), (4, .int x4)] → W p l e (th_rm 1 0 0) s m args below meth c H locs 0 0 (MQ below (va_Qv (fun a9 => K a9.2) (th_Post (dC, dI) (wXs cs ad q) A) A) args s 0 0 A) (F0 m 3 ls [])) (hk28 : ∀ (x1 : Int32) (x2 : Int32) (x3 : Int32) (x4 : Int32) (x5 : Int32) (x6 : Int32) (v : Nat → Nat) (u : xs_St) (H : Heap) (locs : List Loc) (ls : Array Slot), k28 x1 x2 x3 x4 x5 x6 u → th_wI (dC, dI) (wX cs ad q v v) A s.heap u H locs → lv_has ls 11 [(0, .ref (q 699)), (1, .int x1), (2, .int x2), (3, .int x3), (4, .int x4), (5, .int x5), (6, .int x6)] → W p l e (th_rm 1 0 0) s m args below meth c H locs 0 0 (MQ below (va_Qv (fun a9 => K a9.2) (th_Post (dC, dI) (wXs cs ad q) A) A) args s 0 0 A) (F0 m 28 ls [])) (x1 : Int32) (x2 : Int32) (x3 : Int32) (x4 : Int32) (x5 : Int32) (x6 : Int32) (v : Nat → Nat) (u : xs_St) (H : Heap) (locs : List Loc) (ls : Array Slot) (hf : X_US_goPast_28 K k3 k28 x1 x2 x3 x4 x5 x6 u) (hw : th_wI (dC, dI) (wX cs ad q v v) A s.heap u H locs) (hl : lv_has ls 11 [(0, .ref (q 699)), (1, .int x1), (2, .int x2), (3, .int x3), (4, .int x4), (5, .int x5), (6, .int x6)]) : W p l e (th_rm 1 0 0) s m args below meth c H locs 0 0 (MQ below (va_Qv (fun a9 => K a9.2) (th_Post (dC, dI) (wXs cs ad q) A) A) args s 0 0 A) (F0 m 28 ls []) := by
  have hx := C.1
  have hb := C.2.1
  unfold X_US_goPast_28 at hf
  refine lv_iload hx hb dX9_goPast_28 (lv_at hl 6 rfl) ?_
  refine lv_bipush (v := (31 : Int32)) hx hb dX9_goPast_30 (by decide) ?_
  refine lv_icmp_ge (tgt := 116) hx hb dX9_goPast_32 (by decide) (fun hc => ?_) (fun hc => ?_)
  · replace hf := hf.1 hc
    clear hc
    obtain ⟨x4_1, e9⟩ : ∃ y : Int32, y = x4 + (1 : Int32) := ⟨_, rfl⟩
    replace hf := hf x4_1 e9
    refine lv_iinc (v := x4_1) (lv' := [(4, .int x4_1), (0, .ref (q 699)), (1, .int x1), (2, .int x2), (3, .int x3), (5, .int x5), (6, .int x6)]) hx hb dX9_goPast_116 hl (k := 4) rfl (by rw [e9]; rfl) (by decide) rfl (fun ls hl => ?_)
    clear e9
    refine lv_goto (tgt := 3) hx hb dX9_goPast_119 (by decide) ?_
    exact hk3 x1 x2 x3 x4_1 v u _ _ _ hf hw (lv_sub hl [1, 2, 3, 4, 0] rfl)
  · replace hf := hf.2 hc
    clear hc
    refine lv_iconst (v := (0 : Int32)) hx hb dX9_goPast_35 (by decide) ?_
    refine lv_iload hx hb dX9_goPast_36 (lv_at hl 5 rfl) ?_
    refine lv_iload_n hx hb dX9_goPast_38 rfl (lv_at hl 3 rfl) ?_
    refine lv_isub hx hb dX9_goPast_39 ?_
    refine lv_iload hx hb dX9_goPast_40 (lv_at hl 6 rfl) ?_
    refine lv_isub hx hb dX9_goPast_42 ?_
    refine va_mmax hx hb (C.2.2.1.trans hl.1.symm) C.2.2.2.1 (C.2.2.2.2.1 _ hwM_X9_75) (C.2.2.2.2.1 _ hwS_Math_max) (C.2.2.2.2.1 _ hwI_Math) (C.2.2.2.2.1 _ hwC_Math_max) (Nat.le_of_ble_eq_true rfl) (Nat.le_of_ble_eq_true rfl) (Nat.le_of_ble_eq_true rfl) (Nat.le_of_ble_eq_true rfl) dX9_goPast_43 ?_
    refine lv_topi (fun y_2 e9 => ?_)
    replace hf := hf y_2 e9
    clear e9
    refine lv_istore (lv' := [(7, .int y_2), (0, .ref (q 699)), (1, .int x1), (2, .int x2), (3, .int x3), (4, .int x4), (5, .int x5), (6, .int x6)]) hx hb dX9_goPast_46 hl (by decide) rfl (fun ls hl => ?_)
    refine lv_bipush (v := (30 : Int32)) hx hb dX9_goPast_48 (by decide) ?_
    refine lv_iload hx hb dX9_goPast_50 (lv_at hl 6 rfl) ?_
    refine lv_iload_n hx hb dX9_goPast_52 rfl (lv_at hl 4 rfl) ?_
    refine lv_iadd hx hb dX9_goPast_53 ?_
    refine lv_iload hx hb dX9_goPast_54 (lv_at hl 7 rfl) ?_
    refine lv_isub hx hb dX9_goPast_56 ?_
    refine va_mmin hx hb (C.2.2.1.trans hl.1.symm) C.2.2.2.1 (C.2.2.2.2.1 _ hwM_X9_80) (C.2.2.2.2.1 _ hwS_Math_min) (C.2.2.2.2.1 _ hwI_Math) (C.2.2.2.2.1 _ hwC_Math_min) (Nat.le_of_ble_eq_true rfl) (Nat.le_of_ble_eq_true rfl) (Nat.le_of_ble_eq_true rfl) (Nat.le_of_ble_eq_true rfl) dX9_goPast_57 ?_
    refine lv_topi (fun y_3 e9 => ?_)
    replace hf := hf y_3 e9
    clear e9
    refine lv_istore (lv' := [(8, .int y_3), (7, .int y_2), (0, .ref (q 699)), (1, .int x1), (2, .int x2), (3, .int x3), (4, .int x4), (5, .int x5), (6, .int x6)]) hx hb dX9_goPast_60 hl (by decide) rfl (fun ls hl => ?_)
    refine lv_iload hx hb dX9_goPast_62 (lv_at hl 1 rfl) ?_
    refine lv_iload hx hb dX9_goPast_64 (lv_at hl 0 rfl) ?_
    refine lv_icmp_gt (tgt := 89) hx hb dX9_goPast_66 (by decide) (fun hc => ?_) (fun hc => ?_)
    · replace hf := hf.1 hc
      clear hc
      refine lv_lconst (v := (0 : Int64)) hx hb dX9_goPast_89 (by decide) ?_
      exact X_US_goPast_90_w C hk3 hk28 x1 x2 x3 x4 x5 x6 (0 : Int64) v u _ _ _ hf hw (lv_sub hl [2, 3, 4, 5, 6, 7, 8] rfl)
    · replace hf := hf.2 hc
      clear hc
      refine lv_aload_n hx hb dX9_goPast_69 rfl (lv_at hl 2 rfl) ?_
      refine xg_605 C hw (C.2.2.2.2.1 _ hwF_X9_29) dX9_goPast_70 ?_
      refine lv_iload hx hb dX9_goPast_73 (lv_at hl 0 rfl) ?_
      refine lv_iconst (v := (1 : Int32)) hx hb dX9_goPast_75 (by decide) ?_
      refine lv_iadd hx hb dX9_goPast_76 ?_
      refine yl_605 C hw hf.1 dX9_goPast_77 (fun y_4 e9 => ?_)
      replace hf := hf.2 y_4 e9
      clear e9
      refine lv_aload_n hx hb dX9_goPast_78 rfl (lv_at hl 2 rfl) ?_
      refine xg_605 C hw (C.2.2.2.2.1 _ hwF_X9_29) dX9_goPast_79 ?_
      refine lv_iload hx hb dX9_goPast_82 (lv_at hl 1 rfl) ?_
      refine yl_605 C hw hf.1 dX9_goPast_84 (fun y_5 e9 => ?_)
      replace hf := hf.2 y_5 e9
      clear e9
      refine lv_lsub hx hb dX9_goPast_85 ?_
      refine lv_goto (tgt := 90) hx hb dX9_goPast_86 (by decide) ?_
      exact X_US_goPast_90_w C hk3 hk28 x1 x2 x3 x4 x5 x6 (y_4 - y_5) v u _ _ _ hf hw (lv_sub hl [2, 3, 4, 5, 6, 7, 8] rfl)
def X_US_goPast_28_lp (K : xs_St → Prop) (k3 : Int32 → Int32 → Int32 → Int32 → xs_St → Prop) : Nat → Int32 → Int32 → Int32 → Int32 → Int32 → Int32 → xs_St → Prop
  | 0, _, _, _, _, _, _, _ => False
  | n + 1, x1, x2, x3, x4, x5, x6, u => X_US_goPast_28 K k3 (X_US_goPast_28_lp K k3 n) x1 x2 x3 x4 x5 x6 u
set_option maxHeartbeats 4000000 in
set_option maxRecDepth 100000 in
theorem X_US_goPast_28_lw {K : xs_St → Prop} {k3 : Int32 → Int32 → Int32 → Int32 → xs_St → Prop} (C : th_Cx p s m args meth c cX9_goPast RX9 11 (none) (dC, dI) (th_ty cs) (xE ad) A) (hk3 : ∀ (x1 : Int32) (x2 : Int32) (x3 : Int32) (x4 : Int32) (v : Nat → Nat) (u : xs_St) (H : Heap) (locs : List Loc) (ls : Array Slot), k3 x1 x2 x3 x4 u → th_wI (dC, dI) (wX cs ad q v v) A s.heap u H locs → lv_has ls 11 [(0, .ref (q 699)), (1, .int x1), (2, .int x2), (3, .int x3), (4, .int x4)] → W p l e (th_rm 1 0 0) s m args below meth c H locs 0 0 (MQ below (va_Qv (fun a9 => K a9.2) (th_Post (dC, dI) (wXs cs ad q) A) A) args s 0 0 A) (F0 m 3 ls [])) (n : Nat) : ∀ (x1 : Int32) (x2 : Int32) (x3 : Int32) (x4 : Int32) (x5 : Int32) (x6 : Int32) (v : Nat → Nat) (u : xs_St) (H : Heap) (locs : List Loc) (ls : Array Slot), X_US_goPast_28_lp K k3 n x1 x2 x3 x4 x5 x6 u → th_wI (dC, dI) (wX cs ad q v v) A s.heap u H locs → lv_has ls 11 [(0, .ref (q 699)), (1, .int x1), (2, .int x2), (3, .int x3), (4, .int x4), (5, .int x5), (6, .int x6)] → W p l e (th_rm 1 0 0) s m args below meth c H locs 0 0 (MQ below (va_Qv (fun a9 => K a9.2) (th_Post (dC, dI) (wXs cs ad q) A) A) args s 0 0 A) (F0 m 28 ls []) := by
  induction n with
  | zero => intro x1 x2 x3 x4 x5 x6 v u H locs ls hf; exact hf.elim
  | succ n ih =>
    intro x1 x2 x3 x4 x5 x6 v u H locs ls hf hw hl
    exact X_US_goPast_28_w C hk3 ih x1 x2 x3 x4 x5 x6 v u H locs ls hf hw hl
def X_US_goPast_3 (K : xs_St → Prop) (k3 : Int32 → Int32 → Int32 → Int32 → xs_St → Prop) (x1 : Int32) (x2 : Int32) (x3 : Int32) (x4 : Int32) (u : xs_St) : Prop :=
  (((31 : Int32) ≤ x4 → ∀ u_2 : xs_St, u_2 = xw_603_604 u → K u_2) ∧ (¬ (31 : Int32) ≤ x4 → X_US_sumWays x1 x4 u (fun u_3 => X_US_outerSum x2 x4 u_3 (fun r_6 u_5 => ∃ n, X_US_goPast_28_lp K k3 n x1 x2 x3 x4 r_6 (0 : Int32) u_5))))
set_option maxHeartbeats 4000000 in
set_option maxRecDepth 100000 in
theorem X_US_goPast_3_w {K : xs_St → Prop} {k3 : Int32 → Int32 → Int32 → Int32 → xs_St → Prop} (C : th_Cx p s m args meth c cX9_goPast RX9 11 (none) (dC, dI) (th_ty cs) (xE ad) A) (hk3 : ∀ (x1 : Int32) (x2 : Int32) (x3 : Int32) (x4 : Int32) (v : Nat → Nat) (u : xs_St) (H : Heap) (locs : List Loc) (ls : Array Slot), k3 x1 x2 x3 x4 u → th_wI (dC, dI) (wX cs ad q v v) A s.heap u H locs → lv_has ls 11 [(0, .ref (q 699)), (1, .int x1), (2, .int x2), (3, .int x3), (4, .int x4)] → W p l e (th_rm 1 0 0) s m args below meth c H locs 0 0 (MQ below (va_Qv (fun a9 => K a9.2) (th_Post (dC, dI) (wXs cs ad q) A) A) args s 0 0 A) (F0 m 3 ls [])) (x1 : Int32) (x2 : Int32) (x3 : Int32) (x4 : Int32) (v : Nat → Nat) (u : xs_St) (H : Heap) (locs : List Loc) (ls : Array Slot) (hf : X_US_goPast_3 K k3 x1 x2 x3 x4 u) (hw : th_wI (dC, dI) (wX cs ad q v v) A s.heap u H locs) (hl : lv_has ls 11 [(0, .ref (q 699)), (1, .int x1), (2, .int x2), (3, .int x3), (4, .int x4)]) : W p l e (th_rm 1 0 0) s m args below meth c H locs 0 0 (MQ below (va_Qv (fun a9 => K a9.2) (th_Post (dC, dI) (wXs cs ad q) A) A) args s 0 0 A) (F0 m 3 ls []) := by
  have hx := C.1
  have hb := C.2.1
  unfold X_US_goPast_3 at hf
  refine lv_iload hx hb dX9_goPast_3 (lv_at hl 4 rfl) ?_
  refine lv_bipush (v := (31 : Int32)) hx hb dX9_goPast_5 (by decide) ?_
  refine lv_icmp_ge (tgt := 122) hx hb dX9_goPast_7 (by decide) (fun hc => ?_) (fun hc => ?_)
  · replace hf := hf.1 hc
    clear hc
    refine lv_aload_n hx hb dX9_goPast_122 rfl (lv_at hl 0 rfl) ?_
    refine xg_603 C hw (C.2.2.2.2.1 _ hwF_X9_22) dX9_goPast_123 ?_
    refine lv_astore (lv' := [(4, .ref (v 603)), (0, .ref (q 699)), (1, .int x1), (2, .int x2), (3, .int x3)]) hx hb dX9_goPast_126 hl (by decide) rfl (fun ls hl => ?_)
    refine lv_aload_n hx hb dX9_goPast_128 rfl (lv_at hl 1 rfl) ?_
    refine lv_aload_n hx hb dX9_goPast_129 rfl (lv_at hl 1 rfl) ?_
    refine xg_604 C hw (C.2.2.2.2.1 _ hwF_X9_26) dX9_goPast_130 ?_
    refine xq_603 (x := (v 604)) C hw (C.2.2.2.2.1 _ hwF_X9_22) dX9_goPast_133 (fun H locs hw => ?_)
    refine lv_aload_n hx hb dX9_goPast_136 rfl (lv_at hl 1 rfl) ?_
    refine lv_aload hx hb dX9_goPast_137 (lv_at hl 0 rfl) ?_
    refine xq_604 (x := (v 603)) C hw (C.2.2.2.2.1 _ hwF_X9_26) dX9_goPast_139 (fun H locs hw => ?_)
    obtain ⟨v_1, hw⟩ := xw_603_604_f hw
    obtain ⟨u_2, e9⟩ : ∃ z, z = xw_603_604 u := ⟨_, rfl⟩
    rw [← e9] at hw
    replace hf := hf u_2 e9
    clear e9
    replace hl := lv_sub hl [1, 2, 3, 4] rfl
    have hl : lv_has ls 11 [(0, .ref (q 699)), (1, .int x1), (2, .int x2), (3, .int x3)] := hl
    exact th_vret (K := (fun a9 => K a9.2)) (w := wXs cs ad q) (u := (v_1, u_2)) C hw hf dX9_goPast_142
  · replace hf := hf.2 hc
    clear hc
    refine lv_aload_n hx hb dX9_goPast_10 rfl (lv_at hl 0 rfl) ?_
    refine lv_iload_n hx hb dX9_goPast_11 rfl (lv_at hl 1 rfl) ?_
    refine lv_iload hx hb dX9_goPast_12 (lv_at hl 4 rfl) ?_
    refine th_callVv (As := [.int x1, .int x4]) (rest := []) C lkX9_67 (X_US_sumWays_c hf) hw (xRc_US C hw) rfl rfl ⟨Nat.le_of_ble_eq_true rfl, Nat.le_of_ble_eq_true rfl⟩ hl.1 (Nat.le_of_ble_eq_true rfl) ⟨Nat.le_of_ble_eq_true rfl, Nat.le_of_ble_eq_true rfl⟩ dX9_goPast_14 (fun u_3 H locs hf hw => ?_)
    refine lv_iload_n hx hb dX9_goPast_17 rfl (lv_at hl 2 rfl) ?_
    refine lv_iload hx hb dX9_goPast_18 (lv_at hl 4 rfl) ?_
    refine th_callSi (As := [.int x2, .int x4]) (rest := []) C lkX9_71 (X_US_outerSum_c hf) hw rfl rfl ⟨Nat.le_of_ble_eq_true rfl, Nat.le_of_ble_eq_true rfl⟩ hl.1 (Nat.le_of_ble_eq_true rfl) ⟨Nat.le_of_ble_eq_true rfl, Nat.le_of_ble_eq_true rfl⟩ dX9_goPast_20 (fun r_6 u_5 H locs hf hw => ?_)
    refine lv_istore (lv' := [(5, .int r_6), (0, .ref (q 699)), (1, .int x1), (2, .int x2), (3, .int x3), (4, .int x4)]) hx hb dX9_goPast_23 hl (by decide) rfl (fun ls hl => ?_)
    refine lv_iconst (v := (0 : Int32)) hx hb dX9_goPast_25 (by decide) ?_
    refine lv_istore (lv' := [(6, .int (0 : Int32)), (5, .int r_6), (0, .ref (q 699)), (1, .int x1), (2, .int x2), (3, .int x3), (4, .int x4)]) hx hb dX9_goPast_26 hl (by decide) rfl (fun ls hl => ?_)
    obtain ⟨n, hf⟩ := hf
    exact X_US_goPast_28_lw C hk3 n x1 x2 x3 x4 r_6 (0 : Int32) v u_5 _ _ _ hf hw (lv_sub hl [2, 3, 4, 5, 6, 1, 0] rfl)
def X_US_goPast_3_lp (K : xs_St → Prop) : Nat → Int32 → Int32 → Int32 → Int32 → xs_St → Prop
  | 0, _, _, _, _, _ => False
  | n + 1, x1, x2, x3, x4, u => X_US_goPast_3 K (X_US_goPast_3_lp K n) x1 x2 x3 x4 u
set_option maxHeartbeats 4000000 in
set_option maxRecDepth 100000 in
theorem X_US_goPast_3_lw {K : xs_St → Prop} (C : th_Cx p s m args meth c cX9_goPast RX9 11 (none) (dC, dI) (th_ty cs) (xE ad) A) (n : Nat) : ∀ (x1 : Int32) (x2 : Int32) (x3 : Int32) (x4 : Int32) (v : Nat → Nat) (u : xs_St) (H : Heap) (locs : List Loc) (ls : Array Slot), X_US_goPast_3_lp K n x1 x2 x3 x4 u → th_wI (dC, dI) (wX cs ad q v v) A s.heap u H locs → lv_has ls 11 [(0, .ref (q 699)), (1, .int x1), (2, .int x2), (3, .int x3), (4, .int x4)] → W p l e (th_rm 1 0 0) s m args below meth c H locs 0 0 (MQ below (va_Qv (fun a9 => K a9.2) (th_Post (dC, dI) (wXs cs ad q) A) A) args s 0 0 A) (F0 m 3 ls []) := by
  induction n with
  | zero => intro x1 x2 x3 x4 v u H locs ls hf; exact hf.elim
  | succ n ih =>
    intro x1 x2 x3 x4 v u H locs ls hf hw hl
    exact X_US_goPast_3_w C ih x1 x2 x3 x4 v u H locs ls hf hw hl
def X_US_goPast (a1 : Int32) (a2 : Int32) (a3 : Int32) (u : xs_St) (K : xs_St → Prop) : Prop :=
  ∃ n, X_US_goPast_3_lp K n a1 a2 a3 (0 : Int32) u
set_option maxHeartbeats 4000000 in
set_option maxRecDepth 100000 in
theorem X_US_goPast_c {l : Launch} {dC : Nat → ClassId} {dI : Nat → Nat → Nat} {cs : Nat → ClassId} {ad : Nat → Nat} {q v : Nat → Nat} {a1 : Int32} {a2 : Int32} {a3 : Int32} {u : xs_St} {K : xs_St → Prop} (hf : X_US_goPast a1 a2 a3 u K) : th_Cv l yX9_goPast cX9_goPast 11 (none) 1 0 0 (dC, dI) (th_ty cs) (xE ad) (wXs cs ad q) [.ref (q 699), .int a1, .int a2, .int a3] (v, u) (fun a9 => K a9.2) := by
  refine th_ofv (by decide) (Nat.le_of_ble_eq_true rfl) (xE_ok ad) ?_
  intro p e s m below meth c A ls C hw hl
  have C : th_Cx p s m _ meth c cX9_goPast RX9 11 (none) (dC, dI) (th_ty cs) (xE ad) A := C
  have hl : lv_has ls 11 [(0, .ref (q 699)), (1, .int a1), (2, .int a2), (3, .int a3)] := hl
  generalize (List.toArray _ : Array Value) = args at C ⊢
  have hx := C.1
  have hb := C.2.1
  unfold X_US_goPast at hf
  refine lv_iconst (v := (0 : Int32)) hx hb dX9_goPast_0 (by decide) ?_
  refine lv_istore (lv' := [(4, .int (0 : Int32)), (0, .ref (q 699)), (1, .int a1), (2, .int a2), (3, .int a3)]) hx hb dX9_goPast_1 hl (by decide) rfl (fun ls hl => ?_)
  obtain ⟨n, hf⟩ := hf
  exact X_US_goPast_3_lw C n a1 a2 a3 (0 : Int32) v u _ _ _ hf hw (lv_sub hl [1, 2, 3, 4, 0] rfl)
/-! X_EX_leastTimes -/
theorem dX1_leastTimes_0 : decode cX1_leastTimes 0 = .ok (.iconst 1, 1) := by decide +kernel
theorem dX1_leastTimes_1 : decode cX1_leastTimes 1 = .ok (.istore 5, 2) := by decide +kernel
theorem dX1_leastTimes_3 : decode cX1_leastTimes 3 = .ok (.iload 5, 2) := by decide +kernel
theorem dX1_leastTimes_5 : decode cX1_leastTimes 5 = .ok (.iconst 5, 1) := by decide +kernel
theorem dX1_leastTimes_6 : decode cX1_leastTimes 6 = .ok (.if_icmp .gt 26, 3) := by decide +kernel
theorem dX1_leastTimes_9 : decode cX1_leastTimes 9 = .ok (.aload_n 0, 1) := by decide +kernel
theorem dX1_leastTimes_10 : decode cX1_leastTimes 10 = .ok (.iload_n 1, 1) := by decide +kernel
theorem dX1_leastTimes_11 : decode cX1_leastTimes 11 = .ok (.iload 5, 2) := by decide +kernel
theorem dX1_leastTimes_13 : decode cX1_leastTimes 13 = .ok (.iload_n 2, 1) := by decide +kernel
theorem dX1_leastTimes_14 : decode cX1_leastTimes 14 = .ok (.aload_n 3, 1) := by decide +kernel
theorem dX1_leastTimes_15 : decode cX1_leastTimes 15 = .ok (.iload 4, 2) := by decide +kernel
theorem dX1_leastTimes_17 : decode cX1_leastTimes 17 = .ok (.invokevirtual 68, 3) := by decide +kernel
theorem dX1_leastTimes_20 : decode cX1_leastTimes 20 = .ok (.ifCond .eq 6, 3) := by decide +kernel
theorem dX1_leastTimes_23 : decode cX1_leastTimes 23 = .ok (.iload 5, 2) := by decide +kernel
theorem dX1_leastTimes_25 : decode cX1_leastTimes 25 = .ok (.ireturn, 1) := by decide +kernel
theorem dX1_leastTimes_26 : decode cX1_leastTimes 26 = .ok (.iinc 5 1, 3) := by decide +kernel
theorem dX1_leastTimes_29 : decode cX1_leastTimes 29 = .ok (.goto (-26), 3) := by decide +kernel
theorem dX1_leastTimes_32 : decode cX1_leastTimes 32 = .ok (.iconst 0, 1) := by decide +kernel
theorem dX1_leastTimes_33 : decode cX1_leastTimes 33 = .ok (.ireturn, 1) := by decide +kernel
def X_EX_leastTimes_3 (K : Int32 → xs_St → Prop) (k3 : Int32 → Int32 → Int32 → Int32 → xs_St → Prop) (x1 : Int32) (x2 : Int32) (x4 : Int32) (x5 : Int32) (u : xs_St) : Prop :=
  (((5 : Int32) < x5 → K (0 : Int32) u) ∧ (¬ (5 : Int32) < x5 → X_EX_fits x1 x5 x2 x4 u (fun r_2 u_1 => ((r_2 = 0 → ∀ x5_3 : Int32, x5_3 = x5 + (1 : Int32) → k3 x1 x2 x4 x5_3 u_1) ∧ (¬ r_2 = 0 → K x5 u_1)))))
set_option maxHeartbeats 4000000 in
set_option maxRecDepth 100000 in
theorem X_EX_leastTimes_3_w {K : Int32 → xs_St → Prop} {k3 : Int32 → Int32 → Int32 → Int32 → xs_St → Prop} (C : th_Cx p s m args meth c cX1_leastTimes RX1 6 (some .int) (dC, dI) (th_ty cs) (xE ad) A) (hk3 : ∀ (x1 : Int32) (x2 : Int32) (x4 : Int32) (x5 : Int32) (u : xs_St) (H : Heap) (locs : List Loc) (ls : Array Slot), k3 x1 x2 x4 x5 u → th_wI (dC, dI) (wX cs ad q v v) A s.heap u H locs → lv_has ls 6 [(0, .ref (q 799)), (1, .int x1), (2, .int x2), (3, .ref (q 199)), (4, .int x4), (5, .int x5)] → W p l e (th_rm 2 0 0) s m args below meth c H locs 0 0 (MQ below (va_Qi K (th_Post (dC, dI) (wX cs ad q v v) A) A) args s 0 0 A) (F0 m 3 ls [])) (x1 : Int32) (x2 : Int32) (x4 : Int32) (x5 : Int32) (u : xs_St) (H : Heap) (locs : List Loc) (ls : Array Slot) (hf : X_EX_leastTimes_3 K k3 x1 x2 x4 x5 u) (hw : th_wI (dC, dI) (wX cs ad q v v) A s.heap u H locs) (hl : lv_has ls 6 [(0, .ref (q 799)), (1, .int x1), (2, .int x2), (3, .ref (q 199)), (4, .int x4), (5, .int x5)]) : W p l e (th_rm 2 0 0) s m args below meth c H locs 0 0 (MQ below (va_Qi K (th_Post (dC, dI) (wX cs ad q v v) A) A) args s 0 0 A) (F0 m 3 ls []) := by
  have hx := C.1
  have hb := C.2.1
  unfold X_EX_leastTimes_3 at hf
  refine lv_iload hx hb dX1_leastTimes_3 (lv_at hl 5 rfl) ?_
  refine lv_iconst (v := (5 : Int32)) hx hb dX1_leastTimes_5 (by decide) ?_
  refine lv_icmp_gt (tgt := 32) hx hb dX1_leastTimes_6 (by decide) (fun hc => ?_) (fun hc => ?_)
  · replace hf := hf.1 hc
    clear hc
    refine lv_iconst (v := (0 : Int32)) hx hb dX1_leastTimes_32 (by decide) ?_
    exact th_iret C hw hf dX1_leastTimes_33
  · replace hf := hf.2 hc
    clear hc
    refine lv_aload_n hx hb dX1_leastTimes_9 rfl (lv_at hl 0 rfl) ?_
    refine lv_iload_n hx hb dX1_leastTimes_10 rfl (lv_at hl 1 rfl) ?_
    refine lv_iload hx hb dX1_leastTimes_11 (lv_at hl 5 rfl) ?_
    refine lv_iload_n hx hb dX1_leastTimes_13 rfl (lv_at hl 2 rfl) ?_
    refine lv_aload_n hx hb dX1_leastTimes_14 rfl (lv_at hl 3 rfl) ?_
    refine lv_iload hx hb dX1_leastTimes_15 (lv_at hl 4 rfl) ?_
    refine th_callVi (As := [.int x1, .int x5, .int x2, .ref (q 199), .int x4]) (rest := []) C lkX1_68 (X_EX_fits_c hf) hw (xRc_EX C hw) rfl rfl ⟨Nat.le_of_ble_eq_true rfl, Nat.le_of_ble_eq_true rfl⟩ hl.1 (Nat.le_of_ble_eq_true rfl) ⟨Nat.le_of_ble_eq_true rfl, Nat.le_of_ble_eq_true rfl⟩ dX1_leastTimes_17 (fun r_2 u_1 H locs hf hw => ?_)
    refine lv_if_eq (tgt := 26) hx hb dX1_leastTimes_20 (by decide) (fun hc => ?_) (fun hc => ?_)
    · replace hf := hf.1 hc
      clear hc
      obtain ⟨x5_3, e9⟩ : ∃ y : Int32, y = x5 + (1 : Int32) := ⟨_, rfl⟩
      replace hf := hf x5_3 e9
      refine lv_iinc (v := x5_3) (lv' := [(5, .int x5_3), (0, .ref (q 799)), (1, .int x1), (2, .int x2), (3, .ref (q 199)), (4, .int x4)]) hx hb dX1_leastTimes_26 hl (k := 5) rfl (by rw [e9]; rfl) (by decide) rfl (fun ls hl => ?_)
      clear e9
      refine lv_goto (tgt := 3) hx hb dX1_leastTimes_29 (by decide) ?_
      exact hk3 x1 x2 x4 x5_3 u_1 _ _ _ hf hw (lv_sub hl [1, 2, 3, 4, 5, 0] rfl)
    · replace hf := hf.2 hc
      clear hc
      refine lv_iload hx hb dX1_leastTimes_23 (lv_at hl 5 rfl) ?_
      exact th_iret C hw hf dX1_leastTimes_25
def X_EX_leastTimes_3_lp (K : Int32 → xs_St → Prop) : Nat → Int32 → Int32 → Int32 → Int32 → xs_St → Prop
  | 0, _, _, _, _, _ => False
  | n + 1, x1, x2, x4, x5, u => X_EX_leastTimes_3 K (X_EX_leastTimes_3_lp K n) x1 x2 x4 x5 u
set_option maxHeartbeats 4000000 in
set_option maxRecDepth 100000 in
theorem X_EX_leastTimes_3_lw {K : Int32 → xs_St → Prop} (C : th_Cx p s m args meth c cX1_leastTimes RX1 6 (some .int) (dC, dI) (th_ty cs) (xE ad) A) (n : Nat) : ∀ (x1 : Int32) (x2 : Int32) (x4 : Int32) (x5 : Int32) (u : xs_St) (H : Heap) (locs : List Loc) (ls : Array Slot), X_EX_leastTimes_3_lp K n x1 x2 x4 x5 u → th_wI (dC, dI) (wX cs ad q v v) A s.heap u H locs → lv_has ls 6 [(0, .ref (q 799)), (1, .int x1), (2, .int x2), (3, .ref (q 199)), (4, .int x4), (5, .int x5)] → W p l e (th_rm 2 0 0) s m args below meth c H locs 0 0 (MQ below (va_Qi K (th_Post (dC, dI) (wX cs ad q v v) A) A) args s 0 0 A) (F0 m 3 ls []) := by
  induction n with
  | zero => intro x1 x2 x4 x5 u H locs ls hf; exact hf.elim
  | succ n ih =>
    intro x1 x2 x4 x5 u H locs ls hf hw hl
    exact X_EX_leastTimes_3_w C ih x1 x2 x4 x5 u H locs ls hf hw hl
def X_EX_leastTimes (a1 : Int32) (a2 : Int32) (a4 : Int32) (u : xs_St) (K : Int32 → xs_St → Prop) : Prop :=
  ∃ n, X_EX_leastTimes_3_lp K n a1 a2 a4 (1 : Int32) u
set_option maxHeartbeats 4000000 in
set_option maxRecDepth 100000 in
theorem X_EX_leastTimes_c {l : Launch} {dC : Nat → ClassId} {dI : Nat → Nat → Nat} {cs : Nat → ClassId} {ad : Nat → Nat} {q v : Nat → Nat} {a1 : Int32} {a2 : Int32} {a4 : Int32} {u : xs_St} {K : Int32 → xs_St → Prop} (hf : X_EX_leastTimes a1 a2 a4 u K) : th_Ci l yX1_leastTimes cX1_leastTimes 6 (some .int) 2 0 0 (dC, dI) (th_ty cs) (xE ad) (wX cs ad q v v) [.ref (q 799), .int a1, .int a2, .ref (q 199), .int a4] u K := by
  refine th_ofi (by decide) (Nat.le_of_ble_eq_true rfl) (xE_ok ad) ?_
  intro p e s m below meth c A ls C hw hl
  have C : th_Cx p s m _ meth c cX1_leastTimes RX1 6 (some .int) (dC, dI) (th_ty cs) (xE ad) A := C
  have hl : lv_has ls 6 [(0, .ref (q 799)), (1, .int a1), (2, .int a2), (3, .ref (q 199)), (4, .int a4)] := hl
  generalize (List.toArray _ : Array Value) = args at C ⊢
  have hx := C.1
  have hb := C.2.1
  unfold X_EX_leastTimes at hf
  refine lv_iconst (v := (1 : Int32)) hx hb dX1_leastTimes_0 (by decide) ?_
  refine lv_istore (lv' := [(5, .int (1 : Int32)), (0, .ref (q 799)), (1, .int a1), (2, .int a2), (3, .ref (q 199)), (4, .int a4)]) hx hb dX1_leastTimes_1 hl (by decide) rfl (fun ls hl => ?_)
  obtain ⟨n, hf⟩ := hf
  exact X_EX_leastTimes_3_lw C n a1 a2 a4 (1 : Int32) u _ _ _ hf hw (lv_sub hl [1, 2, 3, 4, 5, 0] rfl)
/-! X_EX_takesShape -/
theorem dX1_takesShape_0 : decode cX1_takesShape 0 = .ok (.iload_n 1, 1) := by decide +kernel
theorem dX1_takesShape_1 : decode cX1_takesShape 1 = .ok (.ifCond .lt 52, 3) := by decide +kernel
theorem dX1_takesShape_4 : decode cX1_takesShape 4 = .ok (.iload_n 1, 1) := by decide +kernel
theorem dX1_takesShape_5 : decode cX1_takesShape 5 = .ok (.bipush 6, 2) := by decide +kernel
theorem dX1_takesShape_7 : decode cX1_takesShape 7 = .ok (.if_icmp .ge 46, 3) := by decide +kernel
theorem dX1_takesShape_10 : decode cX1_takesShape 10 = .ok (.aload_n 2, 1) := by decide +kernel
theorem dX1_takesShape_11 : decode cX1_takesShape 11 = .ok (.getfield 40, 3) := by decide +kernel
theorem dX1_takesShape_14 : decode cX1_takesShape 14 = .ok (.iconst 1, 1) := by decide +kernel
theorem dX1_takesShape_15 : decode cX1_takesShape 15 = .ok (.if_icmp .lt 38, 3) := by decide +kernel
theorem dX1_takesShape_18 : decode cX1_takesShape 18 = .ok (.aload_n 2, 1) := by decide +kernel
theorem dX1_takesShape_19 : decode cX1_takesShape 19 = .ok (.getfield 40, 3) := by decide +kernel
theorem dX1_takesShape_22 : decode cX1_takesShape 22 = .ok (.bipush 9, 2) := by decide +kernel
theorem dX1_takesShape_24 : decode cX1_takesShape 24 = .ok (.if_icmp .gt 29, 3) := by decide +kernel
theorem dX1_takesShape_27 : decode cX1_takesShape 27 = .ok (.aload_n 2, 1) := by decide +kernel
theorem dX1_takesShape_28 : decode cX1_takesShape 28 = .ok (.iconst 0, 1) := by decide +kernel
theorem dX1_takesShape_29 : decode cX1_takesShape 29 = .ok (.invokevirtual 45, 3) := by decide +kernel
theorem dX1_takesShape_32 : decode cX1_takesShape 32 = .ok (.ifCond .eq 21, 3) := by decide +kernel
theorem dX1_takesShape_35 : decode cX1_takesShape 35 = .ok (.aload_n 2, 1) := by decide +kernel
theorem dX1_takesShape_36 : decode cX1_takesShape 36 = .ok (.iconst 0, 1) := by decide +kernel
theorem dX1_takesShape_37 : decode cX1_takesShape 37 = .ok (.aload_n 2, 1) := by decide +kernel
theorem dX1_takesShape_38 : decode cX1_takesShape 38 = .ok (.getfield 40, 3) := by decide +kernel
theorem dX1_takesShape_41 : decode cX1_takesShape 41 = .ok (.bipush 99, 2) := by decide +kernel
theorem dX1_takesShape_43 : decode cX1_takesShape 43 = .ok (.invokevirtual 49, 3) := by decide +kernel
theorem dX1_takesShape_46 : decode cX1_takesShape 46 = .ok (.ifCond .eq 7, 3) := by decide +kernel
theorem dX1_takesShape_49 : decode cX1_takesShape 49 = .ok (.iconst 1, 1) := by decide +kernel
theorem dX1_takesShape_50 : decode cX1_takesShape 50 = .ok (.goto 4, 3) := by decide +kernel
theorem dX1_takesShape_53 : decode cX1_takesShape 53 = .ok (.iconst 0, 1) := by decide +kernel
theorem dX1_takesShape_54 : decode cX1_takesShape 54 = .ok (.istore_n 3, 1) := by decide +kernel
theorem dX1_takesShape_55 : decode cX1_takesShape 55 = .ok (.iload_n 3, 1) := by decide +kernel
theorem dX1_takesShape_56 : decode cX1_takesShape 56 = .ok (.ifCond .eq 49, 3) := by decide +kernel
theorem dX1_takesShape_59 : decode cX1_takesShape 59 = .ok (.aload_n 0, 1) := by decide +kernel
theorem dX1_takesShape_60 : decode cX1_takesShape 60 = .ok (.getfield 11, 3) := by decide +kernel
theorem dX1_takesShape_63 : decode cX1_takesShape 63 = .ok (.iload_n 1, 1) := by decide +kernel
theorem dX1_takesShape_64 : decode cX1_takesShape 64 = .ok (.aload_n 2, 1) := by decide +kernel
theorem dX1_takesShape_65 : decode cX1_takesShape 65 = .ok (.getfield 40, 3) := by decide +kernel
theorem dX1_takesShape_68 : decode cX1_takesShape 68 = .ok (.iastore, 1) := by decide +kernel
theorem dX1_takesShape_69 : decode cX1_takesShape 69 = .ok (.iconst 0, 1) := by decide +kernel
theorem dX1_takesShape_70 : decode cX1_takesShape 70 = .ok (.istore 4, 2) := by decide +kernel
theorem dX1_takesShape_72 : decode cX1_takesShape 72 = .ok (.iload 4, 2) := by decide +kernel
theorem dX1_takesShape_74 : decode cX1_takesShape 74 = .ok (.aload_n 2, 1) := by decide +kernel
theorem dX1_takesShape_75 : decode cX1_takesShape 75 = .ok (.getfield 40, 3) := by decide +kernel
theorem dX1_takesShape_78 : decode cX1_takesShape 78 = .ok (.if_icmp .ge 27, 3) := by decide +kernel
theorem dX1_takesShape_81 : decode cX1_takesShape 81 = .ok (.aload_n 0, 1) := by decide +kernel
theorem dX1_takesShape_82 : decode cX1_takesShape 82 = .ok (.getfield 15, 3) := by decide +kernel
theorem dX1_takesShape_85 : decode cX1_takesShape 85 = .ok (.iload_n 1, 1) := by decide +kernel
theorem dX1_takesShape_86 : decode cX1_takesShape 86 = .ok (.bipush 9, 2) := by decide +kernel
theorem dX1_takesShape_88 : decode cX1_takesShape 88 = .ok (.imul, 1) := by decide +kernel
theorem dX1_takesShape_89 : decode cX1_takesShape 89 = .ok (.iload 4, 2) := by decide +kernel
theorem dX1_takesShape_91 : decode cX1_takesShape 91 = .ok (.iadd, 1) := by decide +kernel
theorem dX1_takesShape_92 : decode cX1_takesShape 92 = .ok (.aload_n 2, 1) := by decide +kernel
theorem dX1_takesShape_93 : decode cX1_takesShape 93 = .ok (.iload 4, 2) := by decide +kernel
theorem dX1_takesShape_95 : decode cX1_takesShape 95 = .ok (.invokevirtual 45, 3) := by decide +kernel
theorem dX1_takesShape_98 : decode cX1_takesShape 98 = .ok (.iastore, 1) := by decide +kernel
theorem dX1_takesShape_99 : decode cX1_takesShape 99 = .ok (.iinc 4 1, 3) := by decide +kernel
theorem dX1_takesShape_102 : decode cX1_takesShape 102 = .ok (.goto (-30), 3) := by decide +kernel
theorem dX1_takesShape_105 : decode cX1_takesShape 105 = .ok (.iload_n 3, 1) := by decide +kernel
theorem dX1_takesShape_106 : decode cX1_takesShape 106 = .ok (.ireturn, 1) := by decide +kernel
def X_EX_takesShape_105 (K : Int32 → xs_St → Prop) (x3 : Int32) (u : xs_St) : Prop :=
  ((x3 = 0 ∨ x3 = 1) ∧ K x3 u)
set_option maxHeartbeats 4000000 in
set_option maxRecDepth 100000 in
theorem X_EX_takesShape_105_w {K : Int32 → xs_St → Prop} (C : th_Cx p s m args meth c cX1_takesShape RX1 5 (some .boolean) (dC, dI) (th_ty cs) (xE ad) A) (x3 : Int32) (u : xs_St) (H : Heap) (locs : List Loc) (ls : Array Slot) (hf : X_EX_takesShape_105 K x3 u) (hw : th_wI (dC, dI) (wX cs ad q v v) A s.heap u H locs) (hl : lv_has ls 5 [(3, .int x3)]) : W p l e (th_rm 2 0 0) s m args below meth c H locs 0 0 (MQ below (va_Qi K (th_Post (dC, dI) (wX cs ad q v v) A) A) args s 0 0 A) (F0 m 105 ls []) := by
  have hx := C.1
  have hb := C.2.1
  unfold X_EX_takesShape_105 at hf
  refine lv_iload_n hx hb dX1_takesShape_105 rfl (lv_at hl 0 rfl) ?_
  exact th_zret C hw hf dX1_takesShape_106
def X_EX_takesShape_72 (K : Int32 → xs_St → Prop) (k72 : Int32 → Int32 → Int32 → xs_St → Prop) (x1 : Int32) (x3 : Int32) (x4 : Int32) (u : xs_St) : Prop :=
  (((xi u 101) ≤ x4 → X_EX_takesShape_105 K x3 u) ∧ (¬ (xi u 101) ≤ x4 → X_TP_signed x4 u (fun r_2 u_1 => (vp_in ((x1 * (9 : Int32)) + x4) 54 ∧ ∀ u_3 : xs_St, u_3 = xs_sa u_1 701 (upd (xa u_1 701) (((x1 * (9 : Int32)) + x4)).toNatClampNeg r_2) → ∀ x4_4 : Int32, x4_4 = x4 + (1 : Int32) → k72 x1 x3 x4_4 u_3))))
set_option maxHeartbeats 4000000 in
set_option maxRecDepth 100000 in
theorem X_EX_takesShape_72_w {K : Int32 → xs_St → Prop} {k72 : Int32 → Int32 → Int32 → xs_St → Prop} (C : th_Cx p s m args meth c cX1_takesShape RX1 5 (some .boolean) (dC, dI) (th_ty cs) (xE ad) A) (hk72 : ∀ (x1 : Int32) (x3 : Int32) (x4 : Int32) (u : xs_St) (H : Heap) (locs : List Loc) (ls : Array Slot), k72 x1 x3 x4 u → th_wI (dC, dI) (wX cs ad q v v) A s.heap u H locs → lv_has ls 5 [(0, .ref (q 799)), (1, .int x1), (2, .ref (q 199)), (3, .int x3), (4, .int x4)] → W p l e (th_rm 2 0 0) s m args below meth c H locs 0 0 (MQ below (va_Qi K (th_Post (dC, dI) (wX cs ad q v v) A) A) args s 0 0 A) (F0 m 72 ls [])) (x1 : Int32) (x3 : Int32) (x4 : Int32) (u : xs_St) (H : Heap) (locs : List Loc) (ls : Array Slot) (hf : X_EX_takesShape_72 K k72 x1 x3 x4 u) (hw : th_wI (dC, dI) (wX cs ad q v v) A s.heap u H locs) (hl : lv_has ls 5 [(0, .ref (q 799)), (1, .int x1), (2, .ref (q 199)), (3, .int x3), (4, .int x4)]) : W p l e (th_rm 2 0 0) s m args below meth c H locs 0 0 (MQ below (va_Qi K (th_Post (dC, dI) (wX cs ad q v v) A) A) args s 0 0 A) (F0 m 72 ls []) := by
  have hx := C.1
  have hb := C.2.1
  unfold X_EX_takesShape_72 at hf
  refine lv_iload hx hb dX1_takesShape_72 (lv_at hl 4 rfl) ?_
  refine lv_aload_n hx hb dX1_takesShape_74 rfl (lv_at hl 2 rfl) ?_
  refine xgn_101 C hw (va_Nw.use rfl (xN C hwG_X1_40)) dX1_takesShape_75 ?_
  refine lv_icmp_ge (tgt := 105) hx hb dX1_takesShape_78 (by decide) (fun hc => ?_) (fun hc => ?_)
  · replace hf := hf.1 hc
    clear hc
    exact X_EX_takesShape_105_w C x3 u _ _ _ hf hw (lv_sub hl [3] rfl)
  · replace hf := hf.2 hc
    clear hc
    refine lv_aload_n hx hb dX1_takesShape_81 rfl (lv_at hl 0 rfl) ?_
    refine xg_701 C hw (C.2.2.2.2.1 _ hwF_X1_15) dX1_takesShape_82 ?_
    refine lv_iload_n hx hb dX1_takesShape_85 rfl (lv_at hl 1 rfl) ?_
    refine lv_bipush (v := (9 : Int32)) hx hb dX1_takesShape_86 (by decide) ?_
    refine lv_imul hx hb dX1_takesShape_88 ?_
    refine lv_iload hx hb dX1_takesShape_89 (lv_at hl 4 rfl) ?_
    refine lv_iadd hx hb dX1_takesShape_91 ?_
    refine lv_aload_n hx hb dX1_takesShape_92 rfl (lv_at hl 2 rfl) ?_
    refine lv_iload hx hb dX1_takesShape_93 (lv_at hl 4 rfl) ?_
    refine th_callVi (As := [.int x4]) (rest := [.int ((x1 * (9 : Int32)) + x4), .ref (q 701)]) C lkX1_45 (X_TP_signed_c hf) hw (xRc_TP C hw) rfl rfl ⟨Nat.le_of_ble_eq_true rfl, Nat.le_of_ble_eq_true rfl⟩ hl.1 (Nat.le_of_ble_eq_true rfl) ⟨Nat.le_of_ble_eq_true rfl, Nat.le_of_ble_eq_true rfl⟩ dX1_takesShape_95 (fun r_2 u_1 H locs hf hw => ?_)
    refine ys_701 C hw hf.1 dX1_takesShape_98 (fun u_3 e9 H locs hw => ?_)
    replace hf := hf.2 u_3 e9
    clear e9
    obtain ⟨x4_4, e9⟩ : ∃ y : Int32, y = x4 + (1 : Int32) := ⟨_, rfl⟩
    replace hf := hf x4_4 e9
    refine lv_iinc (v := x4_4) (lv' := [(4, .int x4_4), (0, .ref (q 799)), (1, .int x1), (2, .ref (q 199)), (3, .int x3)]) hx hb dX1_takesShape_99 hl (k := 4) rfl (by rw [e9]; rfl) (by decide) rfl (fun ls hl => ?_)
    clear e9
    refine lv_goto (tgt := 72) hx hb dX1_takesShape_102 (by decide) ?_
    exact hk72 x1 x3 x4_4 u_3 _ _ _ hf hw (lv_sub hl [1, 2, 3, 4, 0] rfl)
def X_EX_takesShape_72_lp (K : Int32 → xs_St → Prop) : Nat → Int32 → Int32 → Int32 → xs_St → Prop
  | 0, _, _, _, _ => False
  | n + 1, x1, x3, x4, u => X_EX_takesShape_72 K (X_EX_takesShape_72_lp K n) x1 x3 x4 u
set_option maxHeartbeats 4000000 in
set_option maxRecDepth 100000 in
theorem X_EX_takesShape_72_lw {K : Int32 → xs_St → Prop} (C : th_Cx p s m args meth c cX1_takesShape RX1 5 (some .boolean) (dC, dI) (th_ty cs) (xE ad) A) (n : Nat) : ∀ (x1 : Int32) (x3 : Int32) (x4 : Int32) (u : xs_St) (H : Heap) (locs : List Loc) (ls : Array Slot), X_EX_takesShape_72_lp K n x1 x3 x4 u → th_wI (dC, dI) (wX cs ad q v v) A s.heap u H locs → lv_has ls 5 [(0, .ref (q 799)), (1, .int x1), (2, .ref (q 199)), (3, .int x3), (4, .int x4)] → W p l e (th_rm 2 0 0) s m args below meth c H locs 0 0 (MQ below (va_Qi K (th_Post (dC, dI) (wX cs ad q v v) A) A) args s 0 0 A) (F0 m 72 ls []) := by
  induction n with
  | zero => intro x1 x3 x4 u H locs ls hf; exact hf.elim
  | succ n ih =>
    intro x1 x3 x4 u H locs ls hf hw hl
    exact X_EX_takesShape_72_w C ih x1 x3 x4 u H locs ls hf hw hl
def X_EX_takesShape_54 (K : Int32 → xs_St → Prop) (x1 : Int32) (z0 : Int32) (u : xs_St) : Prop :=
  ((z0 = 0 → X_EX_takesShape_105 K z0 u) ∧ (¬ z0 = 0 → (vp_in x1 6 ∧ ∀ u_1 : xs_St, u_1 = xs_sa u 700 (upd (xa u 700) (x1).toNatClampNeg (xi u 101)) → ∃ n, X_EX_takesShape_72_lp K n x1 z0 (0 : Int32) u_1)))
set_option maxHeartbeats 4000000 in
set_option maxRecDepth 100000 in
theorem X_EX_takesShape_54_w {K : Int32 → xs_St → Prop} (C : th_Cx p s m args meth c cX1_takesShape RX1 5 (some .boolean) (dC, dI) (th_ty cs) (xE ad) A) (x1 : Int32) (z0 : Int32) (u : xs_St) (H : Heap) (locs : List Loc) (ls : Array Slot) (hf : X_EX_takesShape_54 K x1 z0 u) (hw : th_wI (dC, dI) (wX cs ad q v v) A s.heap u H locs) (hl : lv_has ls 5 [(0, .ref (q 799)), (1, .int x1), (2, .ref (q 199))]) : W p l e (th_rm 2 0 0) s m args below meth c H locs 0 0 (MQ below (va_Qi K (th_Post (dC, dI) (wX cs ad q v v) A) A) args s 0 0 A) (F0 m 54 ls [.int z0]) := by
  have hx := C.1
  have hb := C.2.1
  unfold X_EX_takesShape_54 at hf
  refine lv_istore_n (lv' := [(3, .int z0), (0, .ref (q 799)), (1, .int x1), (2, .ref (q 199))]) hx hb dX1_takesShape_54 rfl hl (by decide) rfl (fun ls hl => ?_)
  refine lv_iload_n hx hb dX1_takesShape_55 rfl (lv_at hl 0 rfl) ?_
  refine lv_if_eq (tgt := 105) hx hb dX1_takesShape_56 (by decide) (fun hc => ?_) (fun hc => ?_)
  · replace hf := hf.1 hc
    clear hc
    exact X_EX_takesShape_105_w C z0 u _ _ _ hf hw (lv_sub hl [0] rfl)
  · replace hf := hf.2 hc
    clear hc
    refine lv_aload_n hx hb dX1_takesShape_59 rfl (lv_at hl 1 rfl) ?_
    refine xg_700 C hw (C.2.2.2.2.1 _ hwF_X1_11) dX1_takesShape_60 ?_
    refine lv_iload_n hx hb dX1_takesShape_63 rfl (lv_at hl 2 rfl) ?_
    refine lv_aload_n hx hb dX1_takesShape_64 rfl (lv_at hl 3 rfl) ?_
    refine xgn_101 C hw (va_Nw.use rfl (xN C hwG_X1_40)) dX1_takesShape_65 ?_
    refine ys_700 C hw hf.1 dX1_takesShape_68 (fun u_1 e9 H locs hw => ?_)
    replace hf := hf.2 u_1 e9
    clear e9
    refine lv_iconst (v := (0 : Int32)) hx hb dX1_takesShape_69 (by decide) ?_
    refine lv_istore (lv' := [(4, .int (0 : Int32)), (3, .int z0), (0, .ref (q 799)), (1, .int x1), (2, .ref (q 199))]) hx hb dX1_takesShape_70 hl (by decide) rfl (fun ls hl => ?_)
    obtain ⟨n, hf⟩ := hf
    exact X_EX_takesShape_72_lw C n x1 z0 (0 : Int32) u_1 _ _ _ hf hw (lv_sub hl [2, 3, 4, 1, 0] rfl)
def X_EX_takesShape_53 (K : Int32 → xs_St → Prop) (x1 : Int32) (u : xs_St) : Prop :=
  X_EX_takesShape_54 K x1 (0 : Int32) u
set_option maxHeartbeats 4000000 in
set_option maxRecDepth 100000 in
theorem X_EX_takesShape_53_w {K : Int32 → xs_St → Prop} (C : th_Cx p s m args meth c cX1_takesShape RX1 5 (some .boolean) (dC, dI) (th_ty cs) (xE ad) A) (x1 : Int32) (u : xs_St) (H : Heap) (locs : List Loc) (ls : Array Slot) (hf : X_EX_takesShape_53 K x1 u) (hw : th_wI (dC, dI) (wX cs ad q v v) A s.heap u H locs) (hl : lv_has ls 5 [(0, .ref (q 799)), (1, .int x1), (2, .ref (q 199))]) : W p l e (th_rm 2 0 0) s m args below meth c H locs 0 0 (MQ below (va_Qi K (th_Post (dC, dI) (wX cs ad q v v) A) A) args s 0 0 A) (F0 m 53 ls []) := by
  have hx := C.1
  have hb := C.2.1
  unfold X_EX_takesShape_53 at hf
  refine lv_iconst (v := (0 : Int32)) hx hb dX1_takesShape_53 (by decide) ?_
  exact X_EX_takesShape_54_w C x1 (0 : Int32) u _ _ _ hf hw (lv_sub hl [0, 1, 2] rfl)
def X_EX_takesShape (a1 : Int32) (u : xs_St) (K : Int32 → xs_St → Prop) : Prop :=
  ((a1 < 0 → X_EX_takesShape_53 K a1 u) ∧ (¬ a1 < 0 → (((6 : Int32) ≤ a1 → X_EX_takesShape_53 K a1 u) ∧ (¬ (6 : Int32) ≤ a1 → (((xi u 101) < (1 : Int32) → X_EX_takesShape_53 K a1 u) ∧ (¬ (xi u 101) < (1 : Int32) → (((9 : Int32) < (xi u 101) → X_EX_takesShape_53 K a1 u) ∧ (¬ (9 : Int32) < (xi u 101) → X_TP_signed (0 : Int32) u (fun r_2 u_1 => ((r_2 = 0 → X_EX_takesShape_53 K a1 u_1) ∧ (¬ r_2 = 0 → X_TP_allWithin (0 : Int32) (xi u_1 101) (99 : Int32) u_1 (fun r_4 u_3 => ((r_4 = 0 → X_EX_takesShape_53 K a1 u_3) ∧ (¬ r_4 = 0 → X_EX_takesShape_54 K a1 (1 : Int32) u_3))))))))))))))
set_option maxHeartbeats 4000000 in
set_option maxRecDepth 100000 in
theorem X_EX_takesShape_c {l : Launch} {dC : Nat → ClassId} {dI : Nat → Nat → Nat} {cs : Nat → ClassId} {ad : Nat → Nat} {q v : Nat → Nat} {a1 : Int32} {u : xs_St} {K : Int32 → xs_St → Prop} (hf : X_EX_takesShape a1 u K) : th_Ci l yX1_takesShape cX1_takesShape 5 (some .boolean) 2 0 0 (dC, dI) (th_ty cs) (xE ad) (wX cs ad q v v) [.ref (q 799), .int a1, .ref (q 199)] u K := by
  refine th_ofi (by decide) (Nat.le_of_ble_eq_true rfl) (xE_ok ad) ?_
  intro p e s m below meth c A ls C hw hl
  have C : th_Cx p s m _ meth c cX1_takesShape RX1 5 (some .boolean) (dC, dI) (th_ty cs) (xE ad) A := C
  have hl : lv_has ls 5 [(0, .ref (q 799)), (1, .int a1), (2, .ref (q 199))] := hl
  generalize (List.toArray _ : Array Value) = args at C ⊢
  have hx := C.1
  have hb := C.2.1
  unfold X_EX_takesShape at hf
  refine lv_iload_n hx hb dX1_takesShape_0 rfl (lv_at hl 1 rfl) ?_
  refine lv_if_lt (tgt := 53) hx hb dX1_takesShape_1 (by decide) (fun hc => ?_) (fun hc => ?_)
  · replace hf := hf.1 hc
    clear hc
    exact X_EX_takesShape_53_w C a1 u _ _ _ hf hw (lv_sub hl [0, 1, 2] rfl)
  · replace hf := hf.2 hc
    clear hc
    refine lv_iload_n hx hb dX1_takesShape_4 rfl (lv_at hl 1 rfl) ?_
    refine lv_bipush (v := (6 : Int32)) hx hb dX1_takesShape_5 (by decide) ?_
    refine lv_icmp_ge (tgt := 53) hx hb dX1_takesShape_7 (by decide) (fun hc => ?_) (fun hc => ?_)
    · replace hf := hf.1 hc
      clear hc
      exact X_EX_takesShape_53_w C a1 u _ _ _ hf hw (lv_sub hl [0, 1, 2] rfl)
    · replace hf := hf.2 hc
      clear hc
      refine lv_aload_n hx hb dX1_takesShape_10 rfl (lv_at hl 2 rfl) ?_
      refine xgn_101 C hw (va_Nw.use rfl (xN C hwG_X1_40)) dX1_takesShape_11 ?_
      refine lv_iconst (v := (1 : Int32)) hx hb dX1_takesShape_14 (by decide) ?_
      refine lv_icmp_lt (tgt := 53) hx hb dX1_takesShape_15 (by decide) (fun hc => ?_) (fun hc => ?_)
      · replace hf := hf.1 hc
        clear hc
        exact X_EX_takesShape_53_w C a1 u _ _ _ hf hw (lv_sub hl [0, 1, 2] rfl)
      · replace hf := hf.2 hc
        clear hc
        refine lv_aload_n hx hb dX1_takesShape_18 rfl (lv_at hl 2 rfl) ?_
        refine xgn_101 C hw (va_Nw.use rfl (xN C hwG_X1_40)) dX1_takesShape_19 ?_
        refine lv_bipush (v := (9 : Int32)) hx hb dX1_takesShape_22 (by decide) ?_
        refine lv_icmp_gt (tgt := 53) hx hb dX1_takesShape_24 (by decide) (fun hc => ?_) (fun hc => ?_)
        · replace hf := hf.1 hc
          clear hc
          exact X_EX_takesShape_53_w C a1 u _ _ _ hf hw (lv_sub hl [0, 1, 2] rfl)
        · replace hf := hf.2 hc
          clear hc
          refine lv_aload_n hx hb dX1_takesShape_27 rfl (lv_at hl 2 rfl) ?_
          refine lv_iconst (v := (0 : Int32)) hx hb dX1_takesShape_28 (by decide) ?_
          refine th_callVi (As := [.int (0 : Int32)]) (rest := []) C lkX1_45 (X_TP_signed_c hf) hw (xRc_TP C hw) rfl rfl ⟨Nat.le_of_ble_eq_true rfl, Nat.le_of_ble_eq_true rfl⟩ hl.1 (Nat.le_of_ble_eq_true rfl) ⟨Nat.le_of_ble_eq_true rfl, Nat.le_of_ble_eq_true rfl⟩ dX1_takesShape_29 (fun r_2 u_1 H locs hf hw => ?_)
          refine lv_if_eq (tgt := 53) hx hb dX1_takesShape_32 (by decide) (fun hc => ?_) (fun hc => ?_)
          · replace hf := hf.1 hc
            clear hc
            exact X_EX_takesShape_53_w C a1 u_1 _ _ _ hf hw (lv_sub hl [0, 1, 2] rfl)
          · replace hf := hf.2 hc
            clear hc
            refine lv_aload_n hx hb dX1_takesShape_35 rfl (lv_at hl 2 rfl) ?_
            refine lv_iconst (v := (0 : Int32)) hx hb dX1_takesShape_36 (by decide) ?_
            refine lv_aload_n hx hb dX1_takesShape_37 rfl (lv_at hl 2 rfl) ?_
            refine xgn_101 C hw (va_Nw.use rfl (xN C hwG_X1_40)) dX1_takesShape_38 ?_
            refine lv_bipush (v := (99 : Int32)) hx hb dX1_takesShape_41 (by decide) ?_
            refine th_callVi (As := [.int (0 : Int32), .int (xi u_1 101), .int (99 : Int32)]) (rest := []) C lkX1_49 (X_TP_allWithin_c hf) hw (xRc_TP C hw) rfl rfl ⟨Nat.le_of_ble_eq_true rfl, Nat.le_of_ble_eq_true rfl⟩ hl.1 (Nat.le_of_ble_eq_true rfl) ⟨Nat.le_of_ble_eq_true rfl, Nat.le_of_ble_eq_true rfl⟩ dX1_takesShape_43 (fun r_4 u_3 H locs hf hw => ?_)
            refine lv_if_eq (tgt := 53) hx hb dX1_takesShape_46 (by decide) (fun hc => ?_) (fun hc => ?_)
            · replace hf := hf.1 hc
              clear hc
              exact X_EX_takesShape_53_w C a1 u_3 _ _ _ hf hw (lv_sub hl [0, 1, 2] rfl)
            · replace hf := hf.2 hc
              clear hc
              refine lv_iconst (v := (1 : Int32)) hx hb dX1_takesShape_49 (by decide) ?_
              refine lv_goto (tgt := 54) hx hb dX1_takesShape_50 (by decide) ?_
              exact X_EX_takesShape_54_w C a1 (1 : Int32) u_3 _ _ _ hf hw (lv_sub hl [0, 1, 2] rfl)
/-! X_LN_costPaired -/
theorem dX3_costPaired_0 : decode cX3_costPaired 0 = .ok (.aload_n 1, 1) := by decide +kernel
theorem dX3_costPaired_1 : decode cX3_costPaired 1 = .ok (.iload_n 3, 1) := by decide +kernel
theorem dX3_costPaired_2 : decode cX3_costPaired 2 = .ok (.invokevirtual 49, 3) := by decide +kernel
theorem dX3_costPaired_5 : decode cX3_costPaired 5 = .ok (.aload_n 1, 1) := by decide +kernel
theorem dX3_costPaired_6 : decode cX3_costPaired 6 = .ok (.iload_n 2, 1) := by decide +kernel
theorem dX3_costPaired_7 : decode cX3_costPaired 7 = .ok (.iload 4, 2) := by decide +kernel
theorem dX3_costPaired_9 : decode cX3_costPaired 9 = .ok (.iadd, 1) := by decide +kernel
theorem dX3_costPaired_10 : decode cX3_costPaired 10 = .ok (.invokevirtual 49, 3) := by decide +kernel
theorem dX3_costPaired_13 : decode cX3_costPaired 13 = .ok (.isub, 1) := by decide +kernel
theorem dX3_costPaired_14 : decode cX3_costPaired 14 = .ok (.istore 5, 2) := by decide +kernel
theorem dX3_costPaired_16 : decode cX3_costPaired 16 = .ok (.iload 5, 2) := by decide +kernel
theorem dX3_costPaired_18 : decode cX3_costPaired 18 = .ok (.invokestatic 53, 3) := by decide +kernel
theorem dX3_costPaired_21 : decode cX3_costPaired 21 = .ok (.aload_n 0, 1) := by decide +kernel
theorem dX3_costPaired_22 : decode cX3_costPaired 22 = .ok (.getfield 19, 3) := by decide +kernel
theorem dX3_costPaired_25 : decode cX3_costPaired 25 = .ok (.iload_n 3, 1) := by decide +kernel
theorem dX3_costPaired_26 : decode cX3_costPaired 26 = .ok (.iconst 1, 1) := by decide +kernel
theorem dX3_costPaired_27 : decode cX3_costPaired 27 = .ok (.iadd, 1) := by decide +kernel
theorem dX3_costPaired_28 : decode cX3_costPaired 28 = .ok (.bipush 49, 2) := by decide +kernel
theorem dX3_costPaired_30 : decode cX3_costPaired 30 = .ok (.imul, 1) := by decide +kernel
theorem dX3_costPaired_31 : decode cX3_costPaired 31 = .ok (.iload 4, 2) := by decide +kernel
theorem dX3_costPaired_33 : decode cX3_costPaired 33 = .ok (.iadd, 1) := by decide +kernel
theorem dX3_costPaired_34 : decode cX3_costPaired 34 = .ok (.iconst 1, 1) := by decide +kernel
theorem dX3_costPaired_35 : decode cX3_costPaired 35 = .ok (.iadd, 1) := by decide +kernel
theorem dX3_costPaired_36 : decode cX3_costPaired 36 = .ok (.iaload, 1) := by decide +kernel
theorem dX3_costPaired_37 : decode cX3_costPaired 37 = .ok (.iadd, 1) := by decide +kernel
theorem dX3_costPaired_38 : decode cX3_costPaired 38 = .ok (.ireturn, 1) := by decide +kernel
def X_LN_costPaired (a2 : Int32) (a3 : Int32) (a4 : Int32) (u : xs_St) (K : Int32 → xs_St → Prop) : Prop :=
  X_TP_unsigned a3 u (fun r_2 u_1 => X_TP_unsigned (a2 + a4) u_1 (fun r_4 u_3 => ∀ y_5 : Int32, y_5 = (r_2 - r_4) → (vp_in ((((a3 + (1 : Int32)) * (49 : Int32)) + a4) + (1 : Int32)) 2401 ∧ ∀ y_6 : Int32, y_6 = xa u_3 902 (((((a3 + (1 : Int32)) * (49 : Int32)) + a4) + (1 : Int32))).toNatClampNeg → K ((if 0 ≤ y_5 then y_5 else 0 - y_5) + y_6) u_3)))
set_option maxHeartbeats 4000000 in
set_option maxRecDepth 100000 in
theorem X_LN_costPaired_c {l : Launch} {dC : Nat → ClassId} {dI : Nat → Nat → Nat} {cs : Nat → ClassId} {ad : Nat → Nat} {q v : Nat → Nat} {a2 : Int32} {a3 : Int32} {a4 : Int32} {u : xs_St} {K : Int32 → xs_St → Prop} (hf : X_LN_costPaired a2 a3 a4 u K) : th_Ci l yX3_costPaired cX3_costPaired 6 (some .int) 2 0 0 (dC, dI) (th_ty cs) (xE ad) (wX cs ad q v v) [.ref (q 999), .ref (q 199), .int a2, .int a3, .int a4] u K := by
  refine th_ofi (by decide) (Nat.le_of_ble_eq_true rfl) (xE_ok ad) ?_
  intro p e s m below meth c A ls C hw hl
  have C : th_Cx p s m _ meth c cX3_costPaired RX3 6 (some .int) (dC, dI) (th_ty cs) (xE ad) A := C
  have hl : lv_has ls 6 [(0, .ref (q 999)), (1, .ref (q 199)), (2, .int a2), (3, .int a3), (4, .int a4)] := hl
  generalize (List.toArray _ : Array Value) = args at C ⊢
  have hx := C.1
  have hb := C.2.1
  unfold X_LN_costPaired at hf
  refine lv_aload_n hx hb dX3_costPaired_0 rfl (lv_at hl 1 rfl) ?_
  refine lv_iload_n hx hb dX3_costPaired_1 rfl (lv_at hl 3 rfl) ?_
  refine th_callVi (As := [.int a3]) (rest := []) C lkX3_49 (X_TP_unsigned_c hf) hw (xRc_TP C hw) rfl rfl ⟨Nat.le_of_ble_eq_true rfl, Nat.le_of_ble_eq_true rfl⟩ hl.1 (Nat.le_of_ble_eq_true rfl) ⟨Nat.le_of_ble_eq_true rfl, Nat.le_of_ble_eq_true rfl⟩ dX3_costPaired_2 (fun r_2 u_1 H locs hf hw => ?_)
  refine lv_aload_n hx hb dX3_costPaired_5 rfl (lv_at hl 1 rfl) ?_
  refine lv_iload_n hx hb dX3_costPaired_6 rfl (lv_at hl 2 rfl) ?_
  refine lv_iload hx hb dX3_costPaired_7 (lv_at hl 4 rfl) ?_
  refine lv_iadd hx hb dX3_costPaired_9 ?_
  refine th_callVi (As := [.int (a2 + a4)]) (rest := [.int r_2]) C lkX3_49 (X_TP_unsigned_c hf) hw (xRc_TP C hw) rfl rfl ⟨Nat.le_of_ble_eq_true rfl, Nat.le_of_ble_eq_true rfl⟩ hl.1 (Nat.le_of_ble_eq_true rfl) ⟨Nat.le_of_ble_eq_true rfl, Nat.le_of_ble_eq_true rfl⟩ dX3_costPaired_10 (fun r_4 u_3 H locs hf hw => ?_)
  refine lv_isub hx hb dX3_costPaired_13 ?_
  refine lv_topi (fun y_5 e9 => ?_)
  replace hf := hf y_5 e9
  clear e9
  refine lv_istore (lv' := [(5, .int y_5), (0, .ref (q 999)), (1, .ref (q 199)), (2, .int a2), (3, .int a3), (4, .int a4)]) hx hb dX3_costPaired_14 hl (by decide) rfl (fun ls hl => ?_)
  refine lv_iload hx hb dX3_costPaired_16 (lv_at hl 0 rfl) ?_
  refine va_mabs hx hb (C.2.2.1.trans hl.1.symm) C.2.2.2.1 (C.2.2.2.2.1 _ hwM_X3_53) (C.2.2.2.2.1 _ hwS_Math_abs) (C.2.2.2.2.1 _ hwI_Math) (C.2.2.2.2.1 _ hwC_Math_abs) (Nat.le_of_ble_eq_true rfl) (Nat.le_of_ble_eq_true rfl) (Nat.le_of_ble_eq_true rfl) (Nat.le_of_ble_eq_true rfl) dX3_costPaired_18 ?_
  refine lv_aload_n hx hb dX3_costPaired_21 rfl (lv_at hl 1 rfl) ?_
  refine xg_902 C hw (C.2.2.2.2.1 _ hwF_X3_19) dX3_costPaired_22 ?_
  refine lv_iload_n hx hb dX3_costPaired_25 rfl (lv_at hl 4 rfl) ?_
  refine lv_iconst (v := (1 : Int32)) hx hb dX3_costPaired_26 (by decide) ?_
  refine lv_iadd hx hb dX3_costPaired_27 ?_
  refine lv_bipush (v := (49 : Int32)) hx hb dX3_costPaired_28 (by decide) ?_
  refine lv_imul hx hb dX3_costPaired_30 ?_
  refine lv_iload hx hb dX3_costPaired_31 (lv_at hl 5 rfl) ?_
  refine lv_iadd hx hb dX3_costPaired_33 ?_
  refine lv_iconst (v := (1 : Int32)) hx hb dX3_costPaired_34 (by decide) ?_
  refine lv_iadd hx hb dX3_costPaired_35 ?_
  refine yl_902 C hw hf.1 dX3_costPaired_36 (fun y_6 e9 => ?_)
  replace hf := hf.2 y_6 e9
  clear e9
  refine lv_iadd hx hb dX3_costPaired_37 ?_
  exact th_iret C hw hf dX3_costPaired_38
/-! X_TH_areStretches -/
theorem dX11_areStretches_0 : decode cX11_areStretches 0 = .ok (.aload_n 0, 1) := by decide +kernel
theorem dX11_areStretches_1 : decode cX11_areStretches 1 = .ok (.getfield 10, 3) := by decide +kernel
theorem dX11_areStretches_4 : decode cX11_areStretches 4 = .ok (.getfield 91, 3) := by decide +kernel
theorem dX11_areStretches_7 : decode cX11_areStretches 7 = .ok (.iconst 2, 1) := by decide +kernel
theorem dX11_areStretches_8 : decode cX11_areStretches 8 = .ok (.idiv, 1) := by decide +kernel
theorem dX11_areStretches_9 : decode cX11_areStretches 9 = .ok (.istore_n 1, 1) := by decide +kernel
theorem dX11_areStretches_10 : decode cX11_areStretches 10 = .ok (.aload_n 0, 1) := by decide +kernel
theorem dX11_areStretches_11 : decode cX11_areStretches 11 = .ok (.getfield 10, 3) := by decide +kernel
theorem dX11_areStretches_14 : decode cX11_areStretches 14 = .ok (.getfield 91, 3) := by decide +kernel
theorem dX11_areStretches_17 : decode cX11_areStretches 17 = .ok (.iconst 2, 1) := by decide +kernel
theorem dX11_areStretches_18 : decode cX11_areStretches 18 = .ok (.irem, 1) := by decide +kernel
theorem dX11_areStretches_19 : decode cX11_areStretches 19 = .ok (.ifCond .ne 14, 3) := by decide +kernel
theorem dX11_areStretches_22 : decode cX11_areStretches 22 = .ok (.iload_n 1, 1) := by decide +kernel
theorem dX11_areStretches_23 : decode cX11_areStretches 23 = .ok (.iconst 1, 1) := by decide +kernel
theorem dX11_areStretches_24 : decode cX11_areStretches 24 = .ok (.if_icmp .lt 9, 3) := by decide +kernel
theorem dX11_areStretches_27 : decode cX11_areStretches 27 = .ok (.iload_n 1, 1) := by decide +kernel
theorem dX11_areStretches_28 : decode cX11_areStretches 28 = .ok (.bipush 40, 2) := by decide +kernel
theorem dX11_areStretches_30 : decode cX11_areStretches 30 = .ok (.if_icmp .le 5, 3) := by decide +kernel
theorem dX11_areStretches_33 : decode cX11_areStretches 33 = .ok (.iconst 0, 1) := by decide +kernel
theorem dX11_areStretches_34 : decode cX11_areStretches 34 = .ok (.ireturn, 1) := by decide +kernel
theorem dX11_areStretches_35 : decode cX11_areStretches 35 = .ok (.iconst 0, 1) := by decide +kernel
theorem dX11_areStretches_36 : decode cX11_areStretches 36 = .ok (.istore_n 2, 1) := by decide +kernel
theorem dX11_areStretches_37 : decode cX11_areStretches 37 = .ok (.iload_n 2, 1) := by decide +kernel
theorem dX11_areStretches_38 : decode cX11_areStretches 38 = .ok (.iload_n 1, 1) := by decide +kernel
theorem dX11_areStretches_39 : decode cX11_areStretches 39 = .ok (.if_icmp .ge 49, 3) := by decide +kernel
theorem dX11_areStretches_42 : decode cX11_areStretches 42 = .ok (.aload_n 0, 1) := by decide +kernel
theorem dX11_areStretches_43 : decode cX11_areStretches 43 = .ok (.getfield 10, 3) := by decide +kernel
theorem dX11_areStretches_46 : decode cX11_areStretches 46 = .ok (.iconst 2, 1) := by decide +kernel
theorem dX11_areStretches_47 : decode cX11_areStretches 47 = .ok (.iload_n 2, 1) := by decide +kernel
theorem dX11_areStretches_48 : decode cX11_areStretches 48 = .ok (.imul, 1) := by decide +kernel
theorem dX11_areStretches_49 : decode cX11_areStretches 49 = .ok (.iconst 1, 1) := by decide +kernel
theorem dX11_areStretches_50 : decode cX11_areStretches 50 = .ok (.iadd, 1) := by decide +kernel
theorem dX11_areStretches_51 : decode cX11_areStretches 51 = .ok (.invokevirtual 277, 3) := by decide +kernel
theorem dX11_areStretches_54 : decode cX11_areStretches 54 = .ok (.istore_n 3, 1) := by decide +kernel
theorem dX11_areStretches_55 : decode cX11_areStretches 55 = .ok (.aload_n 0, 1) := by decide +kernel
theorem dX11_areStretches_56 : decode cX11_areStretches 56 = .ok (.getfield 10, 3) := by decide +kernel
theorem dX11_areStretches_59 : decode cX11_areStretches 59 = .ok (.iconst 2, 1) := by decide +kernel
theorem dX11_areStretches_60 : decode cX11_areStretches 60 = .ok (.iload_n 2, 1) := by decide +kernel
theorem dX11_areStretches_61 : decode cX11_areStretches 61 = .ok (.imul, 1) := by decide +kernel
theorem dX11_areStretches_62 : decode cX11_areStretches 62 = .ok (.invokevirtual 277, 3) := by decide +kernel
theorem dX11_areStretches_65 : decode cX11_areStretches 65 = .ok (.iload_n 3, 1) := by decide +kernel
theorem dX11_areStretches_66 : decode cX11_areStretches 66 = .ok (.if_icmp .gt 14, 3) := by decide +kernel
theorem dX11_areStretches_69 : decode cX11_areStretches 69 = .ok (.iload_n 3, 1) := by decide +kernel
theorem dX11_areStretches_70 : decode cX11_areStretches 70 = .ok (.aload_n 0, 1) := by decide +kernel
theorem dX11_areStretches_71 : decode cX11_areStretches 71 = .ok (.getfield 69, 3) := by decide +kernel
theorem dX11_areStretches_74 : decode cX11_areStretches 74 = .ok (.getfield 126, 3) := by decide +kernel
theorem dX11_areStretches_77 : decode cX11_areStretches 77 = .ok (.if_icmp .lt 5, 3) := by decide +kernel
theorem dX11_areStretches_80 : decode cX11_areStretches 80 = .ok (.iconst 0, 1) := by decide +kernel
theorem dX11_areStretches_81 : decode cX11_areStretches 81 = .ok (.ireturn, 1) := by decide +kernel
theorem dX11_areStretches_82 : decode cX11_areStretches 82 = .ok (.iinc 2 1, 3) := by decide +kernel
theorem dX11_areStretches_85 : decode cX11_areStretches 85 = .ok (.goto (-48), 3) := by decide +kernel
theorem dX11_areStretches_88 : decode cX11_areStretches 88 = .ok (.iconst 1, 1) := by decide +kernel
theorem dX11_areStretches_89 : decode cX11_areStretches 89 = .ok (.ireturn, 1) := by decide +kernel
def X_TH_areStretches_33 (K : Int32 → xs_St → Prop) (u : xs_St) : Prop :=
  (((0 : Int32) = 0 ∨ (0 : Int32) = 1) ∧ K (0 : Int32) u)
set_option maxHeartbeats 4000000 in
set_option maxRecDepth 100000 in
theorem X_TH_areStretches_33_w {K : Int32 → xs_St → Prop} (C : th_Cx p s m args meth c cX11_areStretches RX11 4 (some .boolean) (dC, dI) (th_ty cs) (xE ad) A) (u : xs_St) (H : Heap) (locs : List Loc) (ls : Array Slot) (hf : X_TH_areStretches_33 K u) (hw : th_wI (dC, dI) (wX cs ad q v v) A s.heap u H locs) (hl : lv_has ls 4 []) : W p l e (th_rm 2 0 0) s m args below meth c H locs 0 0 (MQ below (va_Qi K (th_Post (dC, dI) (wX cs ad q v v) A) A) args s 0 0 A) (F0 m 33 ls []) := by
  have hx := C.1
  have hb := C.2.1
  unfold X_TH_areStretches_33 at hf
  refine lv_iconst (v := (0 : Int32)) hx hb dX11_areStretches_33 (by decide) ?_
  exact th_zret C hw hf dX11_areStretches_34
def X_TH_areStretches_80 (K : Int32 → xs_St → Prop) (u : xs_St) : Prop :=
  (((0 : Int32) = 0 ∨ (0 : Int32) = 1) ∧ K (0 : Int32) u)
set_option maxHeartbeats 4000000 in
set_option maxRecDepth 100000 in
theorem X_TH_areStretches_80_w {K : Int32 → xs_St → Prop} (C : th_Cx p s m args meth c cX11_areStretches RX11 4 (some .boolean) (dC, dI) (th_ty cs) (xE ad) A) (u : xs_St) (H : Heap) (locs : List Loc) (ls : Array Slot) (hf : X_TH_areStretches_80 K u) (hw : th_wI (dC, dI) (wX cs ad q v v) A s.heap u H locs) (hl : lv_has ls 4 []) : W p l e (th_rm 2 0 0) s m args below meth c H locs 0 0 (MQ below (va_Qi K (th_Post (dC, dI) (wX cs ad q v v) A) A) args s 0 0 A) (F0 m 80 ls []) := by
  have hx := C.1
  have hb := C.2.1
  unfold X_TH_areStretches_80 at hf
  refine lv_iconst (v := (0 : Int32)) hx hb dX11_areStretches_80 (by decide) ?_
  exact th_zret C hw hf dX11_areStretches_81
def X_TH_areStretches_37 (K : Int32 → xs_St → Prop) (k37 : Int32 → Int32 → xs_St → Prop) (x1 : Int32) (x2 : Int32) (u : xs_St) : Prop :=
  ((x1 ≤ x2 → (((1 : Int32) = 0 ∨ (1 : Int32) = 1) ∧ K (1 : Int32) u)) ∧ (¬ x1 ≤ x2 → X_TP_unsigned (((2 : Int32) * x2) + (1 : Int32)) u (fun r_2 u_1 => X_TP_unsigned ((2 : Int32) * x2) u_1 (fun r_4 u_3 => ((r_2 < r_4 → X_TH_areStretches_80 K u_3) ∧ (¬ r_2 < r_4 → ((r_2 < (xi u_3 300) → ∀ x2_5 : Int32, x2_5 = x2 + (1 : Int32) → k37 x1 x2_5 u_3) ∧ (¬ r_2 < (xi u_3 300) → X_TH_areStretches_80 K u_3))))))))
set_option maxHeartbeats 4000000 in
set_option maxRecDepth 100000 in
theorem X_TH_areStretches_37_w {K : Int32 → xs_St → Prop} {k37 : Int32 → Int32 → xs_St → Prop} (C : th_Cx p s m args meth c cX11_areStretches RX11 4 (some .boolean) (dC, dI) (th_ty cs) (xE ad) A) (hk37 : ∀ (x1 : Int32) (x2 : Int32) (u : xs_St) (H : Heap) (locs : List Loc) (ls : Array Slot), k37 x1 x2 u → th_wI (dC, dI) (wX cs ad q v v) A s.heap u H locs → lv_has ls 4 [(0, .ref (q 99)), (1, .int x1), (2, .int x2)] → W p l e (th_rm 2 0 0) s m args below meth c H locs 0 0 (MQ below (va_Qi K (th_Post (dC, dI) (wX cs ad q v v) A) A) args s 0 0 A) (F0 m 37 ls [])) (x1 : Int32) (x2 : Int32) (u : xs_St) (H : Heap) (locs : List Loc) (ls : Array Slot) (hf : X_TH_areStretches_37 K k37 x1 x2 u) (hw : th_wI (dC, dI) (wX cs ad q v v) A s.heap u H locs) (hl : lv_has ls 4 [(0, .ref (q 99)), (1, .int x1), (2, .int x2)]) : W p l e (th_rm 2 0 0) s m args below meth c H locs 0 0 (MQ below (va_Qi K (th_Post (dC, dI) (wX cs ad q v v) A) A) args s 0 0 A) (F0 m 37 ls []) := by
  have hx := C.1
  have hb := C.2.1
  unfold X_TH_areStretches_37 at hf
  refine lv_iload_n hx hb dX11_areStretches_37 rfl (lv_at hl 2 rfl) ?_
  refine lv_iload_n hx hb dX11_areStretches_38 rfl (lv_at hl 1 rfl) ?_
  refine lv_icmp_ge (tgt := 88) hx hb dX11_areStretches_39 (by decide) (fun hc => ?_) (fun hc => ?_)
  · replace hf := hf.1 hc
    clear hc
    refine lv_iconst (v := (1 : Int32)) hx hb dX11_areStretches_88 (by decide) ?_
    exact th_zret C hw hf dX11_areStretches_89
  · replace hf := hf.2 hc
    clear hc
    refine lv_aload_n hx hb dX11_areStretches_42 rfl (lv_at hl 0 rfl) ?_
    refine xg_0 C hw (C.2.2.2.2.1 _ hwF_X11_10) dX11_areStretches_43 ?_
    refine lv_iconst (v := (2 : Int32)) hx hb dX11_areStretches_46 (by decide) ?_
    refine lv_iload_n hx hb dX11_areStretches_47 rfl (lv_at hl 2 rfl) ?_
    refine lv_imul hx hb dX11_areStretches_48 ?_
    refine lv_iconst (v := (1 : Int32)) hx hb dX11_areStretches_49 (by decide) ?_
    refine lv_iadd hx hb dX11_areStretches_50 ?_
    refine th_callVi (As := [.int (((2 : Int32) * x2) + (1 : Int32))]) (rest := []) C lkX11_277 (X_TP_unsigned_c hf) hw (xRc_TP C hw) rfl rfl ⟨Nat.le_of_ble_eq_true rfl, Nat.le_of_ble_eq_true rfl⟩ hl.1 (Nat.le_of_ble_eq_true rfl) ⟨Nat.le_of_ble_eq_true rfl, Nat.le_of_ble_eq_true rfl⟩ dX11_areStretches_51 (fun r_2 u_1 H locs hf hw => ?_)
    refine lv_istore_n (lv' := [(3, .int r_2), (0, .ref (q 99)), (1, .int x1), (2, .int x2)]) hx hb dX11_areStretches_54 rfl hl (by decide) rfl (fun ls hl => ?_)
    refine lv_aload_n hx hb dX11_areStretches_55 rfl (lv_at hl 1 rfl) ?_
    refine xg_0 C hw (C.2.2.2.2.1 _ hwF_X11_10) dX11_areStretches_56 ?_
    refine lv_iconst (v := (2 : Int32)) hx hb dX11_areStretches_59 (by decide) ?_
    refine lv_iload_n hx hb dX11_areStretches_60 rfl (lv_at hl 3 rfl) ?_
    refine lv_imul hx hb dX11_areStretches_61 ?_
    refine th_callVi (As := [.int ((2 : Int32) * x2)]) (rest := []) C lkX11_277 (X_TP_unsigned_c hf) hw (xRc_TP C hw) rfl rfl ⟨Nat.le_of_ble_eq_true rfl, Nat.le_of_ble_eq_true rfl⟩ hl.1 (Nat.le_of_ble_eq_true rfl) ⟨Nat.le_of_ble_eq_true rfl, Nat.le_of_ble_eq_true rfl⟩ dX11_areStretches_62 (fun r_4 u_3 H locs hf hw => ?_)
    refine lv_iload_n hx hb dX11_areStretches_65 rfl (lv_at hl 0 rfl) ?_
    refine lv_icmp_gt (tgt := 80) hx hb dX11_areStretches_66 (by decide) (fun hc => ?_) (fun hc => ?_)
    · replace hf := hf.1 hc
      clear hc
      exact X_TH_areStretches_80_w C  u_3 _ _ _ hf hw (lv_sub hl [] rfl)
    · replace hf := hf.2 hc
      clear hc
      refine lv_iload_n hx hb dX11_areStretches_69 rfl (lv_at hl 0 rfl) ?_
      refine lv_aload_n hx hb dX11_areStretches_70 rfl (lv_at hl 1 rfl) ?_
      refine xg_9 C hw (C.2.2.2.2.1 _ hwF_X11_69) dX11_areStretches_71 ?_
      refine xgn_300 C hw (va_Nw.use rfl (xN C hwG_X11_126)) dX11_areStretches_74 ?_
      refine lv_icmp_lt (tgt := 82) hx hb dX11_areStretches_77 (by decide) (fun hc => ?_) (fun hc => ?_)
      · replace hf := hf.1 hc
        clear hc
        obtain ⟨x2_5, e9⟩ : ∃ y : Int32, y = x2 + (1 : Int32) := ⟨_, rfl⟩
        replace hf := hf x2_5 e9
        refine lv_iinc (v := x2_5) (lv' := [(2, .int x2_5), (3, .int r_2), (0, .ref (q 99)), (1, .int x1)]) hx hb dX11_areStretches_82 hl (k := 3) rfl (by rw [e9]; rfl) (by decide) rfl (fun ls hl => ?_)
        clear e9
        refine lv_goto (tgt := 37) hx hb dX11_areStretches_85 (by decide) ?_
        exact hk37 x1 x2_5 u_3 _ _ _ hf hw (lv_sub hl [2, 3, 0] rfl)
      · replace hf := hf.2 hc
        clear hc
        exact X_TH_areStretches_80_w C  u_3 _ _ _ hf hw (lv_sub hl [] rfl)
def X_TH_areStretches_37_lp (K : Int32 → xs_St → Prop) : Nat → Int32 → Int32 → xs_St → Prop
  | 0, _, _, _ => False
  | n + 1, x1, x2, u => X_TH_areStretches_37 K (X_TH_areStretches_37_lp K n) x1 x2 u
set_option maxHeartbeats 4000000 in
set_option maxRecDepth 100000 in
theorem X_TH_areStretches_37_lw {K : Int32 → xs_St → Prop} (C : th_Cx p s m args meth c cX11_areStretches RX11 4 (some .boolean) (dC, dI) (th_ty cs) (xE ad) A) (n : Nat) : ∀ (x1 : Int32) (x2 : Int32) (u : xs_St) (H : Heap) (locs : List Loc) (ls : Array Slot), X_TH_areStretches_37_lp K n x1 x2 u → th_wI (dC, dI) (wX cs ad q v v) A s.heap u H locs → lv_has ls 4 [(0, .ref (q 99)), (1, .int x1), (2, .int x2)] → W p l e (th_rm 2 0 0) s m args below meth c H locs 0 0 (MQ below (va_Qi K (th_Post (dC, dI) (wX cs ad q v v) A) A) args s 0 0 A) (F0 m 37 ls []) := by
  induction n with
  | zero => intro x1 x2 u H locs ls hf; exact hf.elim
  | succ n ih =>
    intro x1 x2 u H locs ls hf hw hl
    exact X_TH_areStretches_37_w C ih x1 x2 u H locs ls hf hw hl
def X_TH_areStretches (u : xs_St) (K : Int32 → xs_St → Prop) : Prop :=
  (¬ (2 : Int32) = 0 ∧ ∀ y_1 : Int32, y_1 = ((xi u 101) / (2 : Int32)) → (¬ (2 : Int32) = 0 ∧ ((¬ ((xi u 101) - (xi u 101) / (2 : Int32) * (2 : Int32)) = 0 → X_TH_areStretches_33 K u) ∧ (((xi u 101) - (xi u 101) / (2 : Int32) * (2 : Int32)) = 0 → ((y_1 < (1 : Int32) → X_TH_areStretches_33 K u) ∧ (¬ y_1 < (1 : Int32) → ((y_1 ≤ (40 : Int32) → ∃ n, X_TH_areStretches_37_lp K n y_1 (0 : Int32) u) ∧ (¬ y_1 ≤ (40 : Int32) → X_TH_areStretches_33 K u))))))))
set_option maxHeartbeats 4000000 in
set_option maxRecDepth 100000 in
theorem X_TH_areStretches_c {l : Launch} {dC : Nat → ClassId} {dI : Nat → Nat → Nat} {cs : Nat → ClassId} {ad : Nat → Nat} {q v : Nat → Nat} {u : xs_St} {K : Int32 → xs_St → Prop} (hf : X_TH_areStretches u K) : th_Ci l yX11_areStretches cX11_areStretches 4 (some .boolean) 2 0 0 (dC, dI) (th_ty cs) (xE ad) (wX cs ad q v v) [.ref (q 99)] u K := by
  refine th_ofi (by decide) (Nat.le_of_ble_eq_true rfl) (xE_ok ad) ?_
  intro p e s m below meth c A ls C hw hl
  have C : th_Cx p s m _ meth c cX11_areStretches RX11 4 (some .boolean) (dC, dI) (th_ty cs) (xE ad) A := C
  have hl : lv_has ls 4 [(0, .ref (q 99))] := hl
  generalize (List.toArray _ : Array Value) = args at C ⊢
  have hx := C.1
  have hb := C.2.1
  unfold X_TH_areStretches at hf
  refine lv_aload_n hx hb dX11_areStretches_0 rfl (lv_at hl 0 rfl) ?_
  refine xg_0 C hw (C.2.2.2.2.1 _ hwF_X11_10) dX11_areStretches_1 ?_
  refine xgn_101 C hw (va_Nw.use rfl (xN C hwG_X11_91)) dX11_areStretches_4 ?_
  refine lv_iconst (v := (2 : Int32)) hx hb dX11_areStretches_7 (by decide) ?_
  refine lv_idiv hx hb dX11_areStretches_8 hf.1 ?_
  replace hf := hf.2
  refine lv_topi (fun y_1 e9 => ?_)
  replace hf := hf y_1 e9
  clear e9
  refine lv_istore_n (lv' := [(1, .int y_1), (0, .ref (q 99))]) hx hb dX11_areStretches_9 rfl hl (by decide) rfl (fun ls hl => ?_)
  refine lv_aload_n hx hb dX11_areStretches_10 rfl (lv_at hl 1 rfl) ?_
  refine xg_0 C hw (C.2.2.2.2.1 _ hwF_X11_10) dX11_areStretches_11 ?_
  refine xgn_101 C hw (va_Nw.use rfl (xN C hwG_X11_91)) dX11_areStretches_14 ?_
  refine lv_iconst (v := (2 : Int32)) hx hb dX11_areStretches_17 (by decide) ?_
  refine lv_irem hx hb dX11_areStretches_18 hf.1 ?_
  replace hf := hf.2
  refine lv_if_ne (tgt := 33) hx hb dX11_areStretches_19 (by decide) (fun hc => ?_) (fun hc => ?_)
  · replace hf := hf.1 hc
    clear hc
    exact X_TH_areStretches_33_w C  u _ _ _ hf hw (lv_sub hl [] rfl)
  · replace hf := hf.2 hc
    clear hc
    refine lv_iload_n hx hb dX11_areStretches_22 rfl (lv_at hl 0 rfl) ?_
    refine lv_iconst (v := (1 : Int32)) hx hb dX11_areStretches_23 (by decide) ?_
    refine lv_icmp_lt (tgt := 33) hx hb dX11_areStretches_24 (by decide) (fun hc => ?_) (fun hc => ?_)
    · replace hf := hf.1 hc
      clear hc
      exact X_TH_areStretches_33_w C  u _ _ _ hf hw (lv_sub hl [] rfl)
    · replace hf := hf.2 hc
      clear hc
      refine lv_iload_n hx hb dX11_areStretches_27 rfl (lv_at hl 0 rfl) ?_
      refine lv_bipush (v := (40 : Int32)) hx hb dX11_areStretches_28 (by decide) ?_
      refine lv_icmp_le (tgt := 35) hx hb dX11_areStretches_30 (by decide) (fun hc => ?_) (fun hc => ?_)
      · replace hf := hf.1 hc
        clear hc
        refine lv_iconst (v := (0 : Int32)) hx hb dX11_areStretches_35 (by decide) ?_
        refine lv_istore_n (lv' := [(2, .int (0 : Int32)), (1, .int y_1), (0, .ref (q 99))]) hx hb dX11_areStretches_36 rfl hl (by decide) rfl (fun ls hl => ?_)
        obtain ⟨n, hf⟩ := hf
        exact X_TH_areStretches_37_lw C n y_1 (0 : Int32) u _ _ _ hf hw (lv_sub hl [2, 1, 0] rfl)
      · replace hf := hf.2 hc
        clear hc
        exact X_TH_areStretches_33_w C  u _ _ _ hf hw (lv_sub hl [] rfl)
/-! X_TH_endsUngauged -/
theorem dX11_endsUngauged_0 : decode cX11_endsUngauged 0 = .ok (.iconst 0, 1) := by decide +kernel
theorem dX11_endsUngauged_1 : decode cX11_endsUngauged 1 = .ok (.istore_n 3, 1) := by decide +kernel
theorem dX11_endsUngauged_2 : decode cX11_endsUngauged 2 = .ok (.iload_n 3, 1) := by decide +kernel
theorem dX11_endsUngauged_3 : decode cX11_endsUngauged 3 = .ok (.aload_n 0, 1) := by decide +kernel
theorem dX11_endsUngauged_4 : decode cX11_endsUngauged 4 = .ok (.getfield 10, 3) := by decide +kernel
theorem dX11_endsUngauged_7 : decode cX11_endsUngauged 7 = .ok (.getfield 91, 3) := by decide +kernel
theorem dX11_endsUngauged_10 : decode cX11_endsUngauged 10 = .ok (.iconst 2, 1) := by decide +kernel
theorem dX11_endsUngauged_11 : decode cX11_endsUngauged 11 = .ok (.idiv, 1) := by decide +kernel
theorem dX11_endsUngauged_12 : decode cX11_endsUngauged 12 = .ok (.if_icmp .ge 41, 3) := by decide +kernel
theorem dX11_endsUngauged_15 : decode cX11_endsUngauged 15 = .ok (.aload_n 0, 1) := by decide +kernel
theorem dX11_endsUngauged_16 : decode cX11_endsUngauged 16 = .ok (.getfield 10, 3) := by decide +kernel
theorem dX11_endsUngauged_19 : decode cX11_endsUngauged 19 = .ok (.iconst 2, 1) := by decide +kernel
theorem dX11_endsUngauged_20 : decode cX11_endsUngauged 20 = .ok (.iload_n 3, 1) := by decide +kernel
theorem dX11_endsUngauged_21 : decode cX11_endsUngauged 21 = .ok (.imul, 1) := by decide +kernel
theorem dX11_endsUngauged_22 : decode cX11_endsUngauged 22 = .ok (.iconst 1, 1) := by decide +kernel
theorem dX11_endsUngauged_23 : decode cX11_endsUngauged 23 = .ok (.iadd, 1) := by decide +kernel
theorem dX11_endsUngauged_24 : decode cX11_endsUngauged 24 = .ok (.invokevirtual 277, 3) := by decide +kernel
theorem dX11_endsUngauged_27 : decode cX11_endsUngauged 27 = .ok (.iload_n 1, 1) := by decide +kernel
theorem dX11_endsUngauged_28 : decode cX11_endsUngauged 28 = .ok (.if_icmp .ne 19, 3) := by decide +kernel
theorem dX11_endsUngauged_31 : decode cX11_endsUngauged 31 = .ok (.aload_n 0, 1) := by decide +kernel
theorem dX11_endsUngauged_32 : decode cX11_endsUngauged 32 = .ok (.getfield 10, 3) := by decide +kernel
theorem dX11_endsUngauged_35 : decode cX11_endsUngauged 35 = .ok (.iconst 2, 1) := by decide +kernel
theorem dX11_endsUngauged_36 : decode cX11_endsUngauged 36 = .ok (.iload_n 3, 1) := by decide +kernel
theorem dX11_endsUngauged_37 : decode cX11_endsUngauged 37 = .ok (.imul, 1) := by decide +kernel
theorem dX11_endsUngauged_38 : decode cX11_endsUngauged 38 = .ok (.invokevirtual 277, 3) := by decide +kernel
theorem dX11_endsUngauged_41 : decode cX11_endsUngauged 41 = .ok (.iload_n 2, 1) := by decide +kernel
theorem dX11_endsUngauged_42 : decode cX11_endsUngauged 42 = .ok (.if_icmp .le 5, 3) := by decide +kernel
theorem dX11_endsUngauged_45 : decode cX11_endsUngauged 45 = .ok (.iconst 1, 1) := by decide +kernel
theorem dX11_endsUngauged_46 : decode cX11_endsUngauged 46 = .ok (.ireturn, 1) := by decide +kernel
theorem dX11_endsUngauged_47 : decode cX11_endsUngauged 47 = .ok (.iinc 3 1, 3) := by decide +kernel
theorem dX11_endsUngauged_50 : decode cX11_endsUngauged 50 = .ok (.goto (-48), 3) := by decide +kernel
theorem dX11_endsUngauged_53 : decode cX11_endsUngauged 53 = .ok (.iconst 0, 1) := by decide +kernel
theorem dX11_endsUngauged_54 : decode cX11_endsUngauged 54 = .ok (.ireturn, 1) := by decide +kernel
def X_TH_endsUngauged_47 (K : Int32 → xs_St → Prop) (k2 : Int32 → Int32 → Int32 → xs_St → Prop) (x1 : Int32) (x2 : Int32) (x3 : Int32) (u : xs_St) : Prop :=
  ∀ x3_1 : Int32, x3_1 = x3 + (1 : Int32) → k2 x1 x2 x3_1 u
set_option maxHeartbeats 4000000 in
set_option maxRecDepth 100000 in
theorem X_TH_endsUngauged_47_w {K : Int32 → xs_St → Prop} {k2 : Int32 → Int32 → Int32 → xs_St → Prop} (C : th_Cx p s m args meth c cX11_endsUngauged RX11 4 (some .boolean) (dC, dI) (th_ty cs) (xE ad) A) (hk2 : ∀ (x1 : Int32) (x2 : Int32) (x3 : Int32) (u : xs_St) (H : Heap) (locs : List Loc) (ls : Array Slot), k2 x1 x2 x3 u → th_wI (dC, dI) (wX cs ad q v v) A s.heap u H locs → lv_has ls 4 [(0, .ref (q 99)), (1, .int x1), (2, .int x2), (3, .int x3)] → W p l e (th_rm 2 0 0) s m args below meth c H locs 0 0 (MQ below (va_Qi K (th_Post (dC, dI) (wX cs ad q v v) A) A) args s 0 0 A) (F0 m 2 ls [])) (x1 : Int32) (x2 : Int32) (x3 : Int32) (u : xs_St) (H : Heap) (locs : List Loc) (ls : Array Slot) (hf : X_TH_endsUngauged_47 K k2 x1 x2 x3 u) (hw : th_wI (dC, dI) (wX cs ad q v v) A s.heap u H locs) (hl : lv_has ls 4 [(0, .ref (q 99)), (1, .int x1), (2, .int x2), (3, .int x3)]) : W p l e (th_rm 2 0 0) s m args below meth c H locs 0 0 (MQ below (va_Qi K (th_Post (dC, dI) (wX cs ad q v v) A) A) args s 0 0 A) (F0 m 47 ls []) := by
  have hx := C.1
  have hb := C.2.1
  unfold X_TH_endsUngauged_47 at hf
  obtain ⟨x3_1, e9⟩ : ∃ y : Int32, y = x3 + (1 : Int32) := ⟨_, rfl⟩
  replace hf := hf x3_1 e9
  refine lv_iinc (v := x3_1) (lv' := [(3, .int x3_1), (0, .ref (q 99)), (1, .int x1), (2, .int x2)]) hx hb dX11_endsUngauged_47 hl (k := 3) rfl (by rw [e9]; rfl) (by decide) rfl (fun ls hl => ?_)
  clear e9
  refine lv_goto (tgt := 2) hx hb dX11_endsUngauged_50 (by decide) ?_
  exact hk2 x1 x2 x3_1 u _ _ _ hf hw (lv_sub hl [1, 2, 3, 0] rfl)
def X_TH_endsUngauged_2 (K : Int32 → xs_St → Prop) (k2 : Int32 → Int32 → Int32 → xs_St → Prop) (x1 : Int32) (x2 : Int32) (x3 : Int32) (u : xs_St) : Prop :=
  (¬ (2 : Int32) = 0 ∧ ((((xi u 101) / (2 : Int32)) ≤ x3 → (((0 : Int32) = 0 ∨ (0 : Int32) = 1) ∧ K (0 : Int32) u)) ∧ (¬ ((xi u 101) / (2 : Int32)) ≤ x3 → X_TP_unsigned (((2 : Int32) * x3) + (1 : Int32)) u (fun r_2 u_1 => ((¬ r_2 = x1 → X_TH_endsUngauged_47 K k2 x1 x2 x3 u_1) ∧ (r_2 = x1 → X_TP_unsigned ((2 : Int32) * x3) u_1 (fun r_4 u_3 => ((r_4 ≤ x2 → X_TH_endsUngauged_47 K k2 x1 x2 x3 u_3) ∧ (¬ r_4 ≤ x2 → (((1 : Int32) = 0 ∨ (1 : Int32) = 1) ∧ K (1 : Int32) u_3))))))))))
set_option maxHeartbeats 4000000 in
set_option maxRecDepth 100000 in
theorem X_TH_endsUngauged_2_w {K : Int32 → xs_St → Prop} {k2 : Int32 → Int32 → Int32 → xs_St → Prop} (C : th_Cx p s m args meth c cX11_endsUngauged RX11 4 (some .boolean) (dC, dI) (th_ty cs) (xE ad) A) (hk2 : ∀ (x1 : Int32) (x2 : Int32) (x3 : Int32) (u : xs_St) (H : Heap) (locs : List Loc) (ls : Array Slot), k2 x1 x2 x3 u → th_wI (dC, dI) (wX cs ad q v v) A s.heap u H locs → lv_has ls 4 [(0, .ref (q 99)), (1, .int x1), (2, .int x2), (3, .int x3)] → W p l e (th_rm 2 0 0) s m args below meth c H locs 0 0 (MQ below (va_Qi K (th_Post (dC, dI) (wX cs ad q v v) A) A) args s 0 0 A) (F0 m 2 ls [])) (x1 : Int32) (x2 : Int32) (x3 : Int32) (u : xs_St) (H : Heap) (locs : List Loc) (ls : Array Slot) (hf : X_TH_endsUngauged_2 K k2 x1 x2 x3 u) (hw : th_wI (dC, dI) (wX cs ad q v v) A s.heap u H locs) (hl : lv_has ls 4 [(0, .ref (q 99)), (1, .int x1), (2, .int x2), (3, .int x3)]) : W p l e (th_rm 2 0 0) s m args below meth c H locs 0 0 (MQ below (va_Qi K (th_Post (dC, dI) (wX cs ad q v v) A) A) args s 0 0 A) (F0 m 2 ls []) := by
  have hx := C.1
  have hb := C.2.1
  unfold X_TH_endsUngauged_2 at hf
  refine lv_iload_n hx hb dX11_endsUngauged_2 rfl (lv_at hl 3 rfl) ?_
  refine lv_aload_n hx hb dX11_endsUngauged_3 rfl (lv_at hl 0 rfl) ?_
  refine xg_0 C hw (C.2.2.2.2.1 _ hwF_X11_10) dX11_endsUngauged_4 ?_
  refine xgn_101 C hw (va_Nw.use rfl (xN C hwG_X11_91)) dX11_endsUngauged_7 ?_
  refine lv_iconst (v := (2 : Int32)) hx hb dX11_endsUngauged_10 (by decide) ?_
  refine lv_idiv hx hb dX11_endsUngauged_11 hf.1 ?_
  replace hf := hf.2
  refine lv_icmp_ge (tgt := 53) hx hb dX11_endsUngauged_12 (by decide) (fun hc => ?_) (fun hc => ?_)
  · replace hf := hf.1 hc
    clear hc
    refine lv_iconst (v := (0 : Int32)) hx hb dX11_endsUngauged_53 (by decide) ?_
    exact th_zret C hw hf dX11_endsUngauged_54
  · replace hf := hf.2 hc
    clear hc
    refine lv_aload_n hx hb dX11_endsUngauged_15 rfl (lv_at hl 0 rfl) ?_
    refine xg_0 C hw (C.2.2.2.2.1 _ hwF_X11_10) dX11_endsUngauged_16 ?_
    refine lv_iconst (v := (2 : Int32)) hx hb dX11_endsUngauged_19 (by decide) ?_
    refine lv_iload_n hx hb dX11_endsUngauged_20 rfl (lv_at hl 3 rfl) ?_
    refine lv_imul hx hb dX11_endsUngauged_21 ?_
    refine lv_iconst (v := (1 : Int32)) hx hb dX11_endsUngauged_22 (by decide) ?_
    refine lv_iadd hx hb dX11_endsUngauged_23 ?_
    refine th_callVi (As := [.int (((2 : Int32) * x3) + (1 : Int32))]) (rest := []) C lkX11_277 (X_TP_unsigned_c hf) hw (xRc_TP C hw) rfl rfl ⟨Nat.le_of_ble_eq_true rfl, Nat.le_of_ble_eq_true rfl⟩ hl.1 (Nat.le_of_ble_eq_true rfl) ⟨Nat.le_of_ble_eq_true rfl, Nat.le_of_ble_eq_true rfl⟩ dX11_endsUngauged_24 (fun r_2 u_1 H locs hf hw => ?_)
    refine lv_iload_n hx hb dX11_endsUngauged_27 rfl (lv_at hl 1 rfl) ?_
    refine lv_icmp_ne (tgt := 47) hx hb dX11_endsUngauged_28 (by decide) (fun hc => ?_) (fun hc => ?_)
    · replace hf := hf.1 hc
      clear hc
      exact X_TH_endsUngauged_47_w C hk2 x1 x2 x3 u_1 _ _ _ hf hw (lv_sub hl [0, 1, 2, 3] rfl)
    · replace hf := hf.2 hc
      clear hc
      refine lv_aload_n hx hb dX11_endsUngauged_31 rfl (lv_at hl 0 rfl) ?_
      refine xg_0 C hw (C.2.2.2.2.1 _ hwF_X11_10) dX11_endsUngauged_32 ?_
      refine lv_iconst (v := (2 : Int32)) hx hb dX11_endsUngauged_35 (by decide) ?_
      refine lv_iload_n hx hb dX11_endsUngauged_36 rfl (lv_at hl 3 rfl) ?_
      refine lv_imul hx hb dX11_endsUngauged_37 ?_
      refine th_callVi (As := [.int ((2 : Int32) * x3)]) (rest := []) C lkX11_277 (X_TP_unsigned_c hf) hw (xRc_TP C hw) rfl rfl ⟨Nat.le_of_ble_eq_true rfl, Nat.le_of_ble_eq_true rfl⟩ hl.1 (Nat.le_of_ble_eq_true rfl) ⟨Nat.le_of_ble_eq_true rfl, Nat.le_of_ble_eq_true rfl⟩ dX11_endsUngauged_38 (fun r_4 u_3 H locs hf hw => ?_)
      refine lv_iload_n hx hb dX11_endsUngauged_41 rfl (lv_at hl 2 rfl) ?_
      refine lv_icmp_le (tgt := 47) hx hb dX11_endsUngauged_42 (by decide) (fun hc => ?_) (fun hc => ?_)
      · replace hf := hf.1 hc
        clear hc
        exact X_TH_endsUngauged_47_w C hk2 x1 x2 x3 u_3 _ _ _ hf hw (lv_sub hl [0, 1, 2, 3] rfl)
      · replace hf := hf.2 hc
        clear hc
        refine lv_iconst (v := (1 : Int32)) hx hb dX11_endsUngauged_45 (by decide) ?_
        exact th_zret C hw hf dX11_endsUngauged_46
def X_TH_endsUngauged_2_lp (K : Int32 → xs_St → Prop) : Nat → Int32 → Int32 → Int32 → xs_St → Prop
  | 0, _, _, _, _ => False
  | n + 1, x1, x2, x3, u => X_TH_endsUngauged_2 K (X_TH_endsUngauged_2_lp K n) x1 x2 x3 u
set_option maxHeartbeats 4000000 in
set_option maxRecDepth 100000 in
theorem X_TH_endsUngauged_2_lw {K : Int32 → xs_St → Prop} (C : th_Cx p s m args meth c cX11_endsUngauged RX11 4 (some .boolean) (dC, dI) (th_ty cs) (xE ad) A) (n : Nat) : ∀ (x1 : Int32) (x2 : Int32) (x3 : Int32) (u : xs_St) (H : Heap) (locs : List Loc) (ls : Array Slot), X_TH_endsUngauged_2_lp K n x1 x2 x3 u → th_wI (dC, dI) (wX cs ad q v v) A s.heap u H locs → lv_has ls 4 [(0, .ref (q 99)), (1, .int x1), (2, .int x2), (3, .int x3)] → W p l e (th_rm 2 0 0) s m args below meth c H locs 0 0 (MQ below (va_Qi K (th_Post (dC, dI) (wX cs ad q v v) A) A) args s 0 0 A) (F0 m 2 ls []) := by
  induction n with
  | zero => intro x1 x2 x3 u H locs ls hf; exact hf.elim
  | succ n ih =>
    intro x1 x2 x3 u H locs ls hf hw hl
    exact X_TH_endsUngauged_2_w C ih x1 x2 x3 u H locs ls hf hw hl
def X_TH_endsUngauged (a1 : Int32) (a2 : Int32) (u : xs_St) (K : Int32 → xs_St → Prop) : Prop :=
  ∃ n, X_TH_endsUngauged_2_lp K n a1 a2 (0 : Int32) u
set_option maxHeartbeats 4000000 in
set_option maxRecDepth 100000 in
theorem X_TH_endsUngauged_c {l : Launch} {dC : Nat → ClassId} {dI : Nat → Nat → Nat} {cs : Nat → ClassId} {ad : Nat → Nat} {q v : Nat → Nat} {a1 : Int32} {a2 : Int32} {u : xs_St} {K : Int32 → xs_St → Prop} (hf : X_TH_endsUngauged a1 a2 u K) : th_Ci l yX11_endsUngauged cX11_endsUngauged 4 (some .boolean) 2 0 0 (dC, dI) (th_ty cs) (xE ad) (wX cs ad q v v) [.ref (q 99), .int a1, .int a2] u K := by
  refine th_ofi (by decide) (Nat.le_of_ble_eq_true rfl) (xE_ok ad) ?_
  intro p e s m below meth c A ls C hw hl
  have C : th_Cx p s m _ meth c cX11_endsUngauged RX11 4 (some .boolean) (dC, dI) (th_ty cs) (xE ad) A := C
  have hl : lv_has ls 4 [(0, .ref (q 99)), (1, .int a1), (2, .int a2)] := hl
  generalize (List.toArray _ : Array Value) = args at C ⊢
  have hx := C.1
  have hb := C.2.1
  unfold X_TH_endsUngauged at hf
  refine lv_iconst (v := (0 : Int32)) hx hb dX11_endsUngauged_0 (by decide) ?_
  refine lv_istore_n (lv' := [(3, .int (0 : Int32)), (0, .ref (q 99)), (1, .int a1), (2, .int a2)]) hx hb dX11_endsUngauged_1 rfl hl (by decide) rfl (fun ls hl => ?_)
  obtain ⟨n, hf⟩ := hf
  exact X_TH_endsUngauged_2_lw C n a1 a2 (0 : Int32) u _ _ _ hf hw (lv_sub hl [1, 2, 3, 0] rfl)
/-! X_TP_signedPair -/
theorem dX6_signedPair_0 : decode cX6_signedPair 0 = .ok (.aload_n 0, 1) := by decide +kernel
theorem dX6_signedPair_1 : decode cX6_signedPair 1 = .ok (.iconst 2, 1) := by decide +kernel
theorem dX6_signedPair_2 : decode cX6_signedPair 2 = .ok (.iload_n 1, 1) := by decide +kernel
theorem dX6_signedPair_3 : decode cX6_signedPair 3 = .ok (.imul, 1) := by decide +kernel
theorem dX6_signedPair_4 : decode cX6_signedPair 4 = .ok (.invokevirtual 17, 3) := by decide +kernel
theorem dX6_signedPair_7 : decode cX6_signedPair 7 = .ok (.bipush 8, 2) := by decide +kernel
theorem dX6_signedPair_9 : decode cX6_signedPair 9 = .ok (.ishl, 1) := by decide +kernel
theorem dX6_signedPair_10 : decode cX6_signedPair 10 = .ok (.aload_n 0, 1) := by decide +kernel
theorem dX6_signedPair_11 : decode cX6_signedPair 11 = .ok (.iconst 2, 1) := by decide +kernel
theorem dX6_signedPair_12 : decode cX6_signedPair 12 = .ok (.iload_n 1, 1) := by decide +kernel
theorem dX6_signedPair_13 : decode cX6_signedPair 13 = .ok (.imul, 1) := by decide +kernel
theorem dX6_signedPair_14 : decode cX6_signedPair 14 = .ok (.iconst 1, 1) := by decide +kernel
theorem dX6_signedPair_15 : decode cX6_signedPair 15 = .ok (.iadd, 1) := by decide +kernel
theorem dX6_signedPair_16 : decode cX6_signedPair 16 = .ok (.invokevirtual 21, 3) := by decide +kernel
theorem dX6_signedPair_19 : decode cX6_signedPair 19 = .ok (.ior, 1) := by decide +kernel
theorem dX6_signedPair_20 : decode cX6_signedPair 20 = .ok (.ireturn, 1) := by decide +kernel
def X_TP_signedPair (a1 : Int32) (u : xs_St) (K : Int32 → xs_St → Prop) : Prop :=
  X_TP_signed ((2 : Int32) * a1) u (fun r_2 u_1 => X_TP_unsigned (((2 : Int32) * a1) + (1 : Int32)) u_1 (fun r_4 u_3 => K ((r_2 <<< ((8 : Int32) &&& 31)) ||| r_4) u_3))
set_option maxHeartbeats 4000000 in
set_option maxRecDepth 100000 in
theorem X_TP_signedPair_c {l : Launch} {dC : Nat → ClassId} {dI : Nat → Nat → Nat} {cs : Nat → ClassId} {ad : Nat → Nat} {q v : Nat → Nat} {a1 : Int32} {u : xs_St} {K : Int32 → xs_St → Prop} (hf : X_TP_signedPair a1 u K) : th_Ci l yX6_signedPair cX6_signedPair 2 (some .int) 2 0 0 (dC, dI) (th_ty cs) (xE ad) (wX cs ad q v v) [.ref (q 199), .int a1] u K := by
  refine th_ofi (by decide) (Nat.le_of_ble_eq_true rfl) (xE_ok ad) ?_
  intro p e s m below meth c A ls C hw hl
  have C : th_Cx p s m _ meth c cX6_signedPair RX6 2 (some .int) (dC, dI) (th_ty cs) (xE ad) A := C
  have hl : lv_has ls 2 [(0, .ref (q 199)), (1, .int a1)] := hl
  generalize (List.toArray _ : Array Value) = args at C ⊢
  have hx := C.1
  have hb := C.2.1
  unfold X_TP_signedPair at hf
  refine lv_aload_n hx hb dX6_signedPair_0 rfl (lv_at hl 0 rfl) ?_
  refine lv_iconst (v := (2 : Int32)) hx hb dX6_signedPair_1 (by decide) ?_
  refine lv_iload_n hx hb dX6_signedPair_2 rfl (lv_at hl 1 rfl) ?_
  refine lv_imul hx hb dX6_signedPair_3 ?_
  refine th_callVi (As := [.int ((2 : Int32) * a1)]) (rest := []) C lkX6_17 (X_TP_signed_c hf) hw (xRc_TP C hw) rfl rfl ⟨Nat.le_of_ble_eq_true rfl, Nat.le_of_ble_eq_true rfl⟩ hl.1 (Nat.le_of_ble_eq_true rfl) ⟨Nat.le_of_ble_eq_true rfl, Nat.le_of_ble_eq_true rfl⟩ dX6_signedPair_4 (fun r_2 u_1 H locs hf hw => ?_)
  refine lv_bipush (v := (8 : Int32)) hx hb dX6_signedPair_7 (by decide) ?_
  refine lv_ishl hx hb dX6_signedPair_9 ?_
  refine lv_aload_n hx hb dX6_signedPair_10 rfl (lv_at hl 0 rfl) ?_
  refine lv_iconst (v := (2 : Int32)) hx hb dX6_signedPair_11 (by decide) ?_
  refine lv_iload_n hx hb dX6_signedPair_12 rfl (lv_at hl 1 rfl) ?_
  refine lv_imul hx hb dX6_signedPair_13 ?_
  refine lv_iconst (v := (1 : Int32)) hx hb dX6_signedPair_14 (by decide) ?_
  refine lv_iadd hx hb dX6_signedPair_15 ?_
  refine th_callVi (As := [.int (((2 : Int32) * a1) + (1 : Int32))]) (rest := [.int (r_2 <<< ((8 : Int32) &&& 31))]) C lkX6_21 (X_TP_unsigned_c hf) hw (xRc_TP C hw) rfl rfl ⟨Nat.le_of_ble_eq_true rfl, Nat.le_of_ble_eq_true rfl⟩ hl.1 (Nat.le_of_ble_eq_true rfl) ⟨Nat.le_of_ble_eq_true rfl, Nat.le_of_ble_eq_true rfl⟩ dX6_signedPair_16 (fun r_4 u_3 H locs hf hw => ?_)
  refine lv_ior hx hb dX6_signedPair_19 ?_
  exact th_iret C hw hf dX6_signedPair_20
/-! X_US_goOn -/
theorem dX9_goOn_0 : decode cX9_goOn 0 = .ok (.iconst 0, 1) := by decide +kernel
theorem dX9_goOn_1 : decode cX9_goOn 1 = .ok (.istore 4, 2) := by decide +kernel
theorem dX9_goOn_3 : decode cX9_goOn 3 = .ok (.iconst 0, 1) := by decide +kernel
theorem dX9_goOn_4 : decode cX9_goOn 4 = .ok (.istore 5, 2) := by decide +kernel
theorem dX9_goOn_6 : decode cX9_goOn 6 = .ok (.iload 5, 2) := by decide +kernel
theorem dX9_goOn_8 : decode cX9_goOn 8 = .ok (.bipush 31, 2) := by decide +kernel
theorem dX9_goOn_10 : decode cX9_goOn 10 = .ok (.if_icmp .ge 56, 3) := by decide +kernel
theorem dX9_goOn_13 : decode cX9_goOn 13 = .ok (.iload_n 2, 1) := by decide +kernel
theorem dX9_goOn_14 : decode cX9_goOn 14 = .ok (.iload_n 3, 1) := by decide +kernel
theorem dX9_goOn_15 : decode cX9_goOn 15 = .ok (.isub, 1) := by decide +kernel
theorem dX9_goOn_16 : decode cX9_goOn 16 = .ok (.iload 5, 2) := by decide +kernel
theorem dX9_goOn_18 : decode cX9_goOn 18 = .ok (.isub, 1) := by decide +kernel
theorem dX9_goOn_19 : decode cX9_goOn 19 = .ok (.iload_n 2, 1) := by decide +kernel
theorem dX9_goOn_20 : decode cX9_goOn 20 = .ok (.iload_n 3, 1) := by decide +kernel
theorem dX9_goOn_21 : decode cX9_goOn 21 = .ok (.iadd, 1) := by decide +kernel
theorem dX9_goOn_22 : decode cX9_goOn 22 = .ok (.iload 5, 2) := by decide +kernel
theorem dX9_goOn_24 : decode cX9_goOn 24 = .ok (.isub, 1) := by decide +kernel
theorem dX9_goOn_25 : decode cX9_goOn 25 = .ok (.invokestatic 91, 3) := by decide +kernel
theorem dX9_goOn_28 : decode cX9_goOn 28 = .ok (.aload_n 0, 1) := by decide +kernel
theorem dX9_goOn_29 : decode cX9_goOn 29 = .ok (.getfield 38, 3) := by decide +kernel
theorem dX9_goOn_32 : decode cX9_goOn 32 = .ok (.iload_n 1, 1) := by decide +kernel
theorem dX9_goOn_33 : decode cX9_goOn 33 = .ok (.iaload, 1) := by decide +kernel
theorem dX9_goOn_34 : decode cX9_goOn 34 = .ok (.iand, 1) := by decide +kernel
theorem dX9_goOn_35 : decode cX9_goOn 35 = .ok (.ifCond .eq 25, 3) := by decide +kernel
theorem dX9_goOn_38 : decode cX9_goOn 38 = .ok (.iload 4, 2) := by decide +kernel
theorem dX9_goOn_40 : decode cX9_goOn 40 = .ok (.iconst 1, 1) := by decide +kernel
theorem dX9_goOn_41 : decode cX9_goOn 41 = .ok (.iload 5, 2) := by decide +kernel
theorem dX9_goOn_43 : decode cX9_goOn 43 = .ok (.ishl, 1) := by decide +kernel
theorem dX9_goOn_44 : decode cX9_goOn 44 = .ok (.ior, 1) := by decide +kernel
theorem dX9_goOn_45 : decode cX9_goOn 45 = .ok (.istore 4, 2) := by decide +kernel
theorem dX9_goOn_47 : decode cX9_goOn 47 = .ok (.aload_n 0, 1) := by decide +kernel
theorem dX9_goOn_48 : decode cX9_goOn 48 = .ok (.getfield 35, 3) := by decide +kernel
theorem dX9_goOn_51 : decode cX9_goOn 51 = .ok (.iload 5, 2) := by decide +kernel
theorem dX9_goOn_53 : decode cX9_goOn 53 = .ok (.dup2, 1) := by decide +kernel
theorem dX9_goOn_54 : decode cX9_goOn 54 = .ok (.iaload, 1) := by decide +kernel
theorem dX9_goOn_55 : decode cX9_goOn 55 = .ok (.iconst 1, 1) := by decide +kernel
theorem dX9_goOn_56 : decode cX9_goOn 56 = .ok (.iload_n 1, 1) := by decide +kernel
theorem dX9_goOn_57 : decode cX9_goOn 57 = .ok (.ishl, 1) := by decide +kernel
theorem dX9_goOn_58 : decode cX9_goOn 58 = .ok (.ior, 1) := by decide +kernel
theorem dX9_goOn_59 : decode cX9_goOn 59 = .ok (.iastore, 1) := by decide +kernel
theorem dX9_goOn_60 : decode cX9_goOn 60 = .ok (.iinc 5 1, 3) := by decide +kernel
theorem dX9_goOn_63 : decode cX9_goOn 63 = .ok (.goto (-57), 3) := by decide +kernel
theorem dX9_goOn_66 : decode cX9_goOn 66 = .ok (.iload 4, 2) := by decide +kernel
theorem dX9_goOn_68 : decode cX9_goOn 68 = .ok (.ireturn, 1) := by decide +kernel
def X_US_goOn_60 (K : Int32 → xs_St → Prop) (k6 : Int32 → Int32 → Int32 → Int32 → Int32 → xs_St → Prop) (x1 : Int32) (x2 : Int32) (x3 : Int32) (x4 : Int32) (x5 : Int32) (u : xs_St) : Prop :=
  ∀ x5_1 : Int32, x5_1 = x5 + (1 : Int32) → k6 x1 x2 x3 x4 x5_1 u
set_option maxHeartbeats 4000000 in
set_option maxRecDepth 100000 in
theorem X_US_goOn_60_w {K : Int32 → xs_St → Prop} {k6 : Int32 → Int32 → Int32 → Int32 → Int32 → xs_St → Prop} (C : th_Cx p s m args meth c cX9_goOn RX9 6 (some .int) (dC, dI) (th_ty cs) (xE ad) A) (hk6 : ∀ (x1 : Int32) (x2 : Int32) (x3 : Int32) (x4 : Int32) (x5 : Int32) (u : xs_St) (H : Heap) (locs : List Loc) (ls : Array Slot), k6 x1 x2 x3 x4 x5 u → th_wI (dC, dI) (wX cs ad q v v) A s.heap u H locs → lv_has ls 6 [(0, .ref (q 699)), (1, .int x1), (2, .int x2), (3, .int x3), (4, .int x4), (5, .int x5)] → W p l e (th_rm 2 0 0) s m args below meth c H locs 0 0 (MQ below (va_Qi K (th_Post (dC, dI) (wX cs ad q v v) A) A) args s 0 0 A) (F0 m 6 ls [])) (x1 : Int32) (x2 : Int32) (x3 : Int32) (x4 : Int32) (x5 : Int32) (u : xs_St) (H : Heap) (locs : List Loc) (ls : Array Slot) (hf : X_US_goOn_60 K k6 x1 x2 x3 x4 x5 u) (hw : th_wI (dC, dI) (wX cs ad q v v) A s.heap u H locs) (hl : lv_has ls 6 [(0, .ref (q 699)), (1, .int x1), (2, .int x2), (3, .int x3), (4, .int x4), (5, .int x5)]) : W p l e (th_rm 2 0 0) s m args below meth c H locs 0 0 (MQ below (va_Qi K (th_Post (dC, dI) (wX cs ad q v v) A) A) args s 0 0 A) (F0 m 60 ls []) := by
  have hx := C.1
  have hb := C.2.1
  unfold X_US_goOn_60 at hf
  obtain ⟨x5_1, e9⟩ : ∃ y : Int32, y = x5 + (1 : Int32) := ⟨_, rfl⟩
  replace hf := hf x5_1 e9
  refine lv_iinc (v := x5_1) (lv' := [(5, .int x5_1), (0, .ref (q 699)), (1, .int x1), (2, .int x2), (3, .int x3), (4, .int x4)]) hx hb dX9_goOn_60 hl (k := 5) rfl (by rw [e9]; rfl) (by decide) rfl (fun ls hl => ?_)
  clear e9
  refine lv_goto (tgt := 6) hx hb dX9_goOn_63 (by decide) ?_
  exact hk6 x1 x2 x3 x4 x5_1 u _ _ _ hf hw (lv_sub hl [1, 2, 3, 4, 5, 0] rfl)
def X_US_goOn_6 (K : Int32 → xs_St → Prop) (k6 : Int32 → Int32 → Int32 → Int32 → Int32 → xs_St → Prop) (x1 : Int32) (x2 : Int32) (x3 : Int32) (x4 : Int32) (x5 : Int32) (u : xs_St) : Prop :=
  (((31 : Int32) ≤ x5 → K x4 u) ∧ (¬ (31 : Int32) ≤ x5 → X_US_bits ((x2 - x3) - x5) ((x2 + x3) - x5) u (fun r_2 u_1 => (vp_in x1 31 ∧ ∀ y_3 : Int32, y_3 = xa u_1 608 (x1).toNatClampNeg → (((r_2 &&& y_3) = 0 → X_US_goOn_60 K k6 x1 x2 x3 x4 x5 u_1) ∧ (¬ (r_2 &&& y_3) = 0 → ∀ y_4 : Int32, y_4 = (x4 ||| ((1 : Int32) <<< (x5 &&& 31))) → (vp_in x5 31 ∧ ∀ y_5 : Int32, y_5 = xa u_1 607 (x5).toNatClampNeg → (vp_in x5 31 ∧ ∀ u_6 : xs_St, u_6 = xs_sa u_1 607 (upd (xa u_1 607) (x5).toNatClampNeg (y_5 ||| ((1 : Int32) <<< (x1 &&& 31)))) → X_US_goOn_60 K k6 x1 x2 x3 y_4 x5 u_6))))))))
set_option maxHeartbeats 4000000 in
set_option maxRecDepth 100000 in
theorem X_US_goOn_6_w {K : Int32 → xs_St → Prop} {k6 : Int32 → Int32 → Int32 → Int32 → Int32 → xs_St → Prop} (C : th_Cx p s m args meth c cX9_goOn RX9 6 (some .int) (dC, dI) (th_ty cs) (xE ad) A) (hk6 : ∀ (x1 : Int32) (x2 : Int32) (x3 : Int32) (x4 : Int32) (x5 : Int32) (u : xs_St) (H : Heap) (locs : List Loc) (ls : Array Slot), k6 x1 x2 x3 x4 x5 u → th_wI (dC, dI) (wX cs ad q v v) A s.heap u H locs → lv_has ls 6 [(0, .ref (q 699)), (1, .int x1), (2, .int x2), (3, .int x3), (4, .int x4), (5, .int x5)] → W p l e (th_rm 2 0 0) s m args below meth c H locs 0 0 (MQ below (va_Qi K (th_Post (dC, dI) (wX cs ad q v v) A) A) args s 0 0 A) (F0 m 6 ls [])) (x1 : Int32) (x2 : Int32) (x3 : Int32) (x4 : Int32) (x5 : Int32) (u : xs_St) (H : Heap) (locs : List Loc) (ls : Array Slot) (hf : X_US_goOn_6 K k6 x1 x2 x3 x4 x5 u) (hw : th_wI (dC, dI) (wX cs ad q v v) A s.heap u H locs) (hl : lv_has ls 6 [(0, .ref (q 699)), (1, .int x1), (2, .int x2), (3, .int x3), (4, .int x4), (5, .int x5)]) : W p l e (th_rm 2 0 0) s m args below meth c H locs 0 0 (MQ below (va_Qi K (th_Post (dC, dI) (wX cs ad q v v) A) A) args s 0 0 A) (F0 m 6 ls []) := by
  have hx := C.1
  have hb := C.2.1
  unfold X_US_goOn_6 at hf
  refine lv_iload hx hb dX9_goOn_6 (lv_at hl 5 rfl) ?_
  refine lv_bipush (v := (31 : Int32)) hx hb dX9_goOn_8 (by decide) ?_
  refine lv_icmp_ge (tgt := 66) hx hb dX9_goOn_10 (by decide) (fun hc => ?_) (fun hc => ?_)
  · replace hf := hf.1 hc
    clear hc
    refine lv_iload hx hb dX9_goOn_66 (lv_at hl 4 rfl) ?_
    exact th_iret C hw hf dX9_goOn_68
  · replace hf := hf.2 hc
    clear hc
    refine lv_iload_n hx hb dX9_goOn_13 rfl (lv_at hl 2 rfl) ?_
    refine lv_iload_n hx hb dX9_goOn_14 rfl (lv_at hl 3 rfl) ?_
    refine lv_isub hx hb dX9_goOn_15 ?_
    refine lv_iload hx hb dX9_goOn_16 (lv_at hl 5 rfl) ?_
    refine lv_isub hx hb dX9_goOn_18 ?_
    refine lv_iload_n hx hb dX9_goOn_19 rfl (lv_at hl 2 rfl) ?_
    refine lv_iload_n hx hb dX9_goOn_20 rfl (lv_at hl 3 rfl) ?_
    refine lv_iadd hx hb dX9_goOn_21 ?_
    refine lv_iload hx hb dX9_goOn_22 (lv_at hl 5 rfl) ?_
    refine lv_isub hx hb dX9_goOn_24 ?_
    refine th_callSi (As := [.int ((x2 - x3) - x5), .int ((x2 + x3) - x5)]) (rest := []) C lkX9_91 (X_US_bits_c hf) hw rfl rfl ⟨Nat.le_of_ble_eq_true rfl, Nat.le_of_ble_eq_true rfl⟩ hl.1 (Nat.le_of_ble_eq_true rfl) ⟨Nat.le_of_ble_eq_true rfl, Nat.le_of_ble_eq_true rfl⟩ dX9_goOn_25 (fun r_2 u_1 H locs hf hw => ?_)
    refine lv_aload_n hx hb dX9_goOn_28 rfl (lv_at hl 0 rfl) ?_
    refine xg_608 C hw (C.2.2.2.2.1 _ hwF_X9_38) dX9_goOn_29 ?_
    refine lv_iload_n hx hb dX9_goOn_32 rfl (lv_at hl 1 rfl) ?_
    refine yl_608 C hw hf.1 dX9_goOn_33 (fun y_3 e9 => ?_)
    replace hf := hf.2 y_3 e9
    clear e9
    refine lv_iand hx hb dX9_goOn_34 ?_
    refine lv_if_eq (tgt := 60) hx hb dX9_goOn_35 (by decide) (fun hc => ?_) (fun hc => ?_)
    · replace hf := hf.1 hc
      clear hc
      exact X_US_goOn_60_w C hk6 x1 x2 x3 x4 x5 u_1 _ _ _ hf hw (lv_sub hl [0, 1, 2, 3, 4, 5] rfl)
    · replace hf := hf.2 hc
      clear hc
      refine lv_iload hx hb dX9_goOn_38 (lv_at hl 4 rfl) ?_
      refine lv_iconst (v := (1 : Int32)) hx hb dX9_goOn_40 (by decide) ?_
      refine lv_iload hx hb dX9_goOn_41 (lv_at hl 5 rfl) ?_
      refine lv_ishl hx hb dX9_goOn_43 ?_
      refine lv_ior hx hb dX9_goOn_44 ?_
      refine lv_topi (fun y_4 e9 => ?_)
      replace hf := hf y_4 e9
      clear e9
      refine lv_istore (lv' := [(4, .int y_4), (0, .ref (q 699)), (1, .int x1), (2, .int x2), (3, .int x3), (5, .int x5)]) hx hb dX9_goOn_45 hl (by decide) rfl (fun ls hl => ?_)
      refine lv_aload_n hx hb dX9_goOn_47 rfl (lv_at hl 1 rfl) ?_
      refine xg_607 C hw (C.2.2.2.2.1 _ hwF_X9_35) dX9_goOn_48 ?_
      refine lv_iload hx hb dX9_goOn_51 (lv_at hl 5 rfl) ?_
      refine lv_dup2_11 hx hb dX9_goOn_53 rfl rfl ?_
      refine yl_607 C hw hf.1 dX9_goOn_54 (fun y_5 e9 => ?_)
      replace hf := hf.2 y_5 e9
      clear e9
      refine lv_iconst (v := (1 : Int32)) hx hb dX9_goOn_55 (by decide) ?_
      refine lv_iload_n hx hb dX9_goOn_56 rfl (lv_at hl 2 rfl) ?_
      refine lv_ishl hx hb dX9_goOn_57 ?_
      refine lv_ior hx hb dX9_goOn_58 ?_
      refine ys_607 C hw hf.1 dX9_goOn_59 (fun u_6 e9 H locs hw => ?_)
      replace hf := hf.2 u_6 e9
      clear e9
      exact X_US_goOn_60_w C hk6 x1 x2 x3 y_4 x5 u_6 _ _ _ hf hw (lv_sub hl [1, 2, 3, 4, 0, 5] rfl)
def X_US_goOn_6_lp (K : Int32 → xs_St → Prop) : Nat → Int32 → Int32 → Int32 → Int32 → Int32 → xs_St → Prop
  | 0, _, _, _, _, _, _ => False
  | n + 1, x1, x2, x3, x4, x5, u => X_US_goOn_6 K (X_US_goOn_6_lp K n) x1 x2 x3 x4 x5 u
set_option maxHeartbeats 4000000 in
set_option maxRecDepth 100000 in
theorem X_US_goOn_6_lw {K : Int32 → xs_St → Prop} (C : th_Cx p s m args meth c cX9_goOn RX9 6 (some .int) (dC, dI) (th_ty cs) (xE ad) A) (n : Nat) : ∀ (x1 : Int32) (x2 : Int32) (x3 : Int32) (x4 : Int32) (x5 : Int32) (u : xs_St) (H : Heap) (locs : List Loc) (ls : Array Slot), X_US_goOn_6_lp K n x1 x2 x3 x4 x5 u → th_wI (dC, dI) (wX cs ad q v v) A s.heap u H locs → lv_has ls 6 [(0, .ref (q 699)), (1, .int x1), (2, .int x2), (3, .int x3), (4, .int x4), (5, .int x5)] → W p l e (th_rm 2 0 0) s m args below meth c H locs 0 0 (MQ below (va_Qi K (th_Post (dC, dI) (wX cs ad q v v) A) A) args s 0 0 A) (F0 m 6 ls []) := by
  induction n with
  | zero => intro x1 x2 x3 x4 x5 u H locs ls hf; exact hf.elim
  | succ n ih =>
    intro x1 x2 x3 x4 x5 u H locs ls hf hw hl
    exact X_US_goOn_6_w C ih x1 x2 x3 x4 x5 u H locs ls hf hw hl
def X_US_goOn (a1 : Int32) (a2 : Int32) (a3 : Int32) (u : xs_St) (K : Int32 → xs_St → Prop) : Prop :=
  ∃ n, X_US_goOn_6_lp K n a1 a2 a3 (0 : Int32) (0 : Int32) u
set_option maxHeartbeats 4000000 in
set_option maxRecDepth 100000 in
theorem X_US_goOn_c {l : Launch} {dC : Nat → ClassId} {dI : Nat → Nat → Nat} {cs : Nat → ClassId} {ad : Nat → Nat} {q v : Nat → Nat} {a1 : Int32} {a2 : Int32} {a3 : Int32} {u : xs_St} {K : Int32 → xs_St → Prop} (hf : X_US_goOn a1 a2 a3 u K) : th_Ci l yX9_goOn cX9_goOn 6 (some .int) 2 0 0 (dC, dI) (th_ty cs) (xE ad) (wX cs ad q v v) [.ref (q 699), .int a1, .int a2, .int a3] u K := by
  refine th_ofi (by decide) (Nat.le_of_ble_eq_true rfl) (xE_ok ad) ?_
  intro p e s m below meth c A ls C hw hl
  have C : th_Cx p s m _ meth c cX9_goOn RX9 6 (some .int) (dC, dI) (th_ty cs) (xE ad) A := C
  have hl : lv_has ls 6 [(0, .ref (q 699)), (1, .int a1), (2, .int a2), (3, .int a3)] := hl
  generalize (List.toArray _ : Array Value) = args at C ⊢
  have hx := C.1
  have hb := C.2.1
  unfold X_US_goOn at hf
  refine lv_iconst (v := (0 : Int32)) hx hb dX9_goOn_0 (by decide) ?_
  refine lv_istore (lv' := [(4, .int (0 : Int32)), (0, .ref (q 699)), (1, .int a1), (2, .int a2), (3, .int a3)]) hx hb dX9_goOn_1 hl (by decide) rfl (fun ls hl => ?_)
  refine lv_iconst (v := (0 : Int32)) hx hb dX9_goOn_3 (by decide) ?_
  refine lv_istore (lv' := [(5, .int (0 : Int32)), (4, .int (0 : Int32)), (0, .ref (q 699)), (1, .int a1), (2, .int a2), (3, .int a3)]) hx hb dX9_goOn_4 hl (by decide) rfl (fun ls hl => ?_)
  obtain ⟨n, hf⟩ := hf
  exact X_US_goOn_6_lw C n a1 a2 a3 (0 : Int32) (0 : Int32) u _ _ _ hf hw (lv_sub hl [2, 3, 4, 5, 1, 0] rfl)
end

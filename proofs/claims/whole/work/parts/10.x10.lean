section
variable {p : Program} {l : Launch} {e : Env} {s : State} {m : MethodId} {args : Array Value} {below : List Frame} {meth : Method} {c : Code} {dC : Nat → ClassId} {dI : Nat → Nat → Nat} {cs : Nat → ClassId} {ad ak : Nat → Nat} {q v : Nat → Nat} {A : Nat → Prop}
/-! X_TH_alarmed -/
theorem dX11_alarmed_0 : decode cX11_alarmed 0 = .ok (.iload_n 1, 1) := by decide +kernel
theorem dX11_alarmed_1 : decode cX11_alarmed 1 = .ok (.ifCond .lt 14, 3) := by decide +kernel
theorem dX11_alarmed_4 : decode cX11_alarmed 4 = .ok (.iload_n 1, 1) := by decide +kernel
theorem dX11_alarmed_5 : decode cX11_alarmed 5 = .ok (.aload_n 0, 1) := by decide +kernel
theorem dX11_alarmed_6 : decode cX11_alarmed 6 = .ok (.getfield 69, 3) := by decide +kernel
theorem dX11_alarmed_9 : decode cX11_alarmed 9 = .ok (.getfield 176, 3) := by decide +kernel
theorem dX11_alarmed_12 : decode cX11_alarmed 12 = .ok (.if_icmp .lt 5, 3) := by decide +kernel
theorem dX11_alarmed_15 : decode cX11_alarmed 15 = .ok (.iconst (-1), 1) := by decide +kernel
theorem dX11_alarmed_16 : decode cX11_alarmed 16 = .ok (.ireturn, 1) := by decide +kernel
theorem dX11_alarmed_17 : decode cX11_alarmed 17 = .ok (.aload_n 0, 1) := by decide +kernel
theorem dX11_alarmed_18 : decode cX11_alarmed 18 = .ok (.getfield 26, 3) := by decide +kernel
theorem dX11_alarmed_21 : decode cX11_alarmed 21 = .ok (.aload_n 0, 1) := by decide +kernel
theorem dX11_alarmed_22 : decode cX11_alarmed 22 = .ok (.getfield 69, 3) := by decide +kernel
theorem dX11_alarmed_25 : decode cX11_alarmed 25 = .ok (.iload_n 1, 1) := by decide +kernel
theorem dX11_alarmed_26 : decode cX11_alarmed 26 = .ok (.iload_n 2, 1) := by decide +kernel
theorem dX11_alarmed_27 : decode cX11_alarmed 27 = .ok (.invokevirtual 183, 3) := by decide +kernel
theorem dX11_alarmed_30 : decode cX11_alarmed 30 = .ok (.ireturn, 1) := by decide +kernel
def X_TH_alarmed_15 (K : Int32 → xs_St → Prop) (u : xs_St) : Prop :=
  K (-1 : Int32) u
set_option maxHeartbeats 4000000 in
set_option maxRecDepth 100000 in
theorem X_TH_alarmed_15_w {K : Int32 → xs_St → Prop} (C : th_Cx p s m args meth c cX11_alarmed RX11 3 (some .int) (dC, dI) (th_ty cs) (xE ad ak) A) (u : xs_St) (H : Heap) (locs : List Loc) (ls : Array Slot) (hf : X_TH_alarmed_15 K u) (hw : th_wI (dC, dI) (wX cs ad q v v) A s.heap u H locs) (hl : lv_has ls 3 []) (n9 m9 : Nat) (h9 : n9 + 0 ≤ 82) (g9 : m9 + 0 ≤ 2296) : W p l e (th_rm 7 82 2296) s m args below meth c H locs n9 m9 (MQ below (va_Qi K (th_Post (dC, dI) (wX cs ad q v v) A) A) args s 82 2296 A) (F0 m 15 ls []) := by
  have hx := C.1
  have hb := C.2.1
  unfold X_TH_alarmed_15 at hf
  refine lv_iconst (v := (-1 : Int32)) hx hb dX11_alarmed_15 (by decide) ?_
  refine W.widen (k := 82) (n := 2296) (by omega) (by omega) ?_
  exact th_iret C hw hf dX11_alarmed_16
def X_TH_alarmed (a1 : Int32) (a2 : Int32) (u : xs_St) (K : Int32 → xs_St → Prop) : Prop :=
  ((a1 < 0 → X_TH_alarmed_15 K u) ∧ (¬ a1 < 0 → ((a1 < (xi u 305) → X_BD_firstAlarmed a1 a2 u (fun r_2 u_1 => K r_2 u_1)) ∧ (¬ a1 < (xi u 305) → X_TH_alarmed_15 K u))))
set_option maxHeartbeats 4000000 in
set_option maxRecDepth 100000 in
theorem X_TH_alarmed_c {l : Launch} {dC : Nat → ClassId} {dI : Nat → Nat → Nat} {cs : Nat → ClassId} {ad ak : Nat → Nat} {q v : Nat → Nat} {a1 : Int32} {a2 : Int32} {u : xs_St} {K : Int32 → xs_St → Prop} (hf : X_TH_alarmed a1 a2 u K) : th_Ci l yX11_alarmed cX11_alarmed 3 (some .int) 7 82 2296 (dC, dI) (th_ty cs) (xE ad ak) (wX cs ad q v v) [.ref (q 99), .int a1, .int a2] u K := by
  refine th_ofi (by decide) (Nat.le_of_ble_eq_true rfl) (xE_ok ad ak) ?_
  intro p e s m below meth c A ls C hw hl
  have C : th_Cx p s m _ meth c cX11_alarmed RX11 3 (some .int) (dC, dI) (th_ty cs) (xE ad ak) A := C
  have hl : lv_has ls 3 [(0, .ref (q 99)), (1, .int a1), (2, .int a2)] := hl
  generalize (List.toArray _ : Array Value) = args at C ⊢
  have hx := C.1
  have hb := C.2.1
  unfold X_TH_alarmed at hf
  refine lv_iload_n hx hb dX11_alarmed_0 rfl (lv_at hl 1 rfl) ?_
  refine lv_if_lt (tgt := 15) hx hb dX11_alarmed_1 (by decide) (fun hc => ?_) (fun hc => ?_)
  · replace hf := hf.1 hc
    clear hc
    exact X_TH_alarmed_15_w C  u _ _ _ hf hw (lv_sub hl [] rfl) _ _ (by omega) (by omega)
  · replace hf := hf.2 hc
    clear hc
    refine lv_iload_n hx hb dX11_alarmed_4 rfl (lv_at hl 1 rfl) ?_
    refine lv_aload_n hx hb dX11_alarmed_5 rfl (lv_at hl 0 rfl) ?_
    refine xg_9 C hw (C.2.2.2.2.1 _ hwF_X11_69) dX11_alarmed_6 ?_
    refine xgn_305 C hw (va_Nw.use rfl (xN C hwG_X11_176)) dX11_alarmed_9 ?_
    refine lv_icmp_lt (tgt := 17) hx hb dX11_alarmed_12 (by decide) (fun hc => ?_) (fun hc => ?_)
    · replace hf := hf.1 hc
      clear hc
      refine lv_aload_n hx hb dX11_alarmed_17 rfl (lv_at hl 0 rfl) ?_
      refine xg_2 C hw (C.2.2.2.2.1 _ hwF_X11_26) dX11_alarmed_18 ?_
      refine lv_aload_n hx hb dX11_alarmed_21 rfl (lv_at hl 0 rfl) ?_
      refine xg_9 C hw (C.2.2.2.2.1 _ hwF_X11_69) dX11_alarmed_22 ?_
      refine lv_iload_n hx hb dX11_alarmed_25 rfl (lv_at hl 1 rfl) ?_
      refine lv_iload_n hx hb dX11_alarmed_26 rfl (lv_at hl 2 rfl) ?_
      refine th_callVi (As := [.ref (v 399), .int a1, .int a2]) (rest := []) C lkX11_183 (X_BD_firstAlarmed_c hf) hw (xRc_BD C hw) rfl rfl ⟨Nat.le_of_ble_eq_true rfl, Nat.le_of_ble_eq_true rfl⟩ hl.1 (Nat.le_of_ble_eq_true rfl) ⟨by simp only [th_rm]; omega, by simp only [th_rm]; omega⟩ dX11_alarmed_27 (fun r_2 u_1 H locs hf hw => ?_)
      refine W.widen (k := 82) (n := 2296) (by omega) (by omega) ?_
      exact th_iret C hw hf dX11_alarmed_30
    · replace hf := hf.2 hc
      clear hc
      exact X_TH_alarmed_15_w C  u _ _ _ hf hw (lv_sub hl [] rfl) _ _ (by omega) (by omega)
/-! X_RD_readCond -/
theorem dX4_readOne_0 : decode cX4_readOne 0 = .ok (.aload_n 0, 1) := by decide +kernel
theorem dX4_readOne_1 : decode cX4_readOne 1 = .ok (.getfield 42, 3) := by decide +kernel
theorem dX4_readOne_4 : decode cX4_readOne 4 = .ok (.astore_n 2, 1) := by decide +kernel
theorem dX4_readOne_5 : decode cX4_readOne 5 = .ok (.aload_n 2, 1) := by decide +kernel
theorem dX4_readOne_6 : decode cX4_readOne 6 = .ok (.getstatic 253, 3) := by decide +kernel
theorem dX4_readOne_9 : decode cX4_readOne 9 = .ok (.if_acmp .eq 23, 3) := by decide +kernel
theorem dX4_readOne_12 : decode cX4_readOne 12 = .ok (.aload_n 2, 1) := by decide +kernel
theorem dX4_readOne_13 : decode cX4_readOne 13 = .ok (.getstatic 256, 3) := by decide +kernel
theorem dX4_readOne_16 : decode cX4_readOne 16 = .ok (.if_acmp .eq 16, 3) := by decide +kernel
theorem dX4_readOne_19 : decode cX4_readOne 19 = .ok (.aload_n 2, 1) := by decide +kernel
theorem dX4_readOne_20 : decode cX4_readOne 20 = .ok (.invokestatic 259, 3) := by decide +kernel
theorem dX4_readOne_23 : decode cX4_readOne 23 = .ok (.ifCond .ne 9, 3) := by decide +kernel
theorem dX4_readOne_26 : decode cX4_readOne 26 = .ok (.aload_n 0, 1) := by decide +kernel
theorem dX4_readOne_27 : decode cX4_readOne 27 = .ok (.iconst 1, 1) := by decide +kernel
theorem dX4_readOne_28 : decode cX4_readOne 28 = .ok (.invokevirtual 99, 3) := by decide +kernel
theorem dX4_readOne_31 : decode cX4_readOne 31 = .ok (.ireturn, 1) := by decide +kernel
theorem dX4_readOne_32 : decode cX4_readOne 32 = .ok (.aload_n 0, 1) := by decide +kernel
theorem dX4_readOne_33 : decode cX4_readOne 33 = .ok (.getfield 48, 3) := by decide +kernel
theorem dX4_readOne_36 : decode cX4_readOne 36 = .ok (.bipush 40, 2) := by decide +kernel
theorem dX4_readOne_38 : decode cX4_readOne 38 = .ok (.if_icmp .ge 9, 3) := by decide +kernel
theorem dX4_readOne_41 : decode cX4_readOne 41 = .ok (.iload_n 1, 1) := by decide +kernel
theorem dX4_readOne_42 : decode cX4_readOne 42 = .ok (.bipush 10, 2) := by decide +kernel
theorem dX4_readOne_44 : decode cX4_readOne 44 = .ok (.if_icmp .le 9, 3) := by decide +kernel
theorem dX4_readOne_47 : decode cX4_readOne 47 = .ok (.aload_n 0, 1) := by decide +kernel
theorem dX4_readOne_48 : decode cX4_readOne 48 = .ok (.iconst 4, 1) := by decide +kernel
theorem dX4_readOne_49 : decode cX4_readOne 49 = .ok (.invokevirtual 99, 3) := by decide +kernel
theorem dX4_readOne_52 : decode cX4_readOne 52 = .ok (.ireturn, 1) := by decide +kernel
theorem dX4_readOne_53 : decode cX4_readOne 53 = .ok (.aload_n 0, 1) := by decide +kernel
theorem dX4_readOne_54 : decode cX4_readOne 54 = .ok (.dup, 1) := by decide +kernel
theorem dX4_readOne_55 : decode cX4_readOne 55 = .ok (.getfield 48, 3) := by decide +kernel
theorem dX4_readOne_58 : decode cX4_readOne 58 = .ok (.iconst 1, 1) := by decide +kernel
theorem dX4_readOne_59 : decode cX4_readOne 59 = .ok (.iadd, 1) := by decide +kernel
theorem dX4_readOne_60 : decode cX4_readOne 60 = .ok (.putfield 48, 3) := by decide +kernel
theorem dX4_readOne_63 : decode cX4_readOne 63 = .ok (.aload_n 0, 1) := by decide +kernel
theorem dX4_readOne_64 : decode cX4_readOne 64 = .ok (.invokevirtual 74, 3) := by decide +kernel
theorem dX4_readOne_67 : decode cX4_readOne 67 = .ok (.aload_n 2, 1) := by decide +kernel
theorem dX4_readOne_68 : decode cX4_readOne 68 = .ok (.getstatic 256, 3) := by decide +kernel
theorem dX4_readOne_71 : decode cX4_readOne 71 = .ok (.if_acmp .ne 29, 3) := by decide +kernel
theorem dX4_readOne_74 : decode cX4_readOne 74 = .ok (.aload_n 0, 1) := by decide +kernel
theorem dX4_readOne_75 : decode cX4_readOne 75 = .ok (.iload_n 1, 1) := by decide +kernel
theorem dX4_readOne_76 : decode cX4_readOne 76 = .ok (.iconst 1, 1) := by decide +kernel
theorem dX4_readOne_77 : decode cX4_readOne 77 = .ok (.iadd, 1) := by decide +kernel
theorem dX4_readOne_78 : decode cX4_readOne 78 = .ok (.invokevirtual 195, 3) := by decide +kernel
theorem dX4_readOne_81 : decode cX4_readOne 81 = .ok (.ifCond .eq 17, 3) := by decide +kernel
theorem dX4_readOne_84 : decode cX4_readOne 84 = .ok (.aload_n 0, 1) := by decide +kernel
theorem dX4_readOne_85 : decode cX4_readOne 85 = .ok (.getstatic 262, 3) := by decide +kernel
theorem dX4_readOne_88 : decode cX4_readOne 88 = .ok (.invokevirtual 90, 3) := by decide +kernel
theorem dX4_readOne_91 : decode cX4_readOne 91 = .ok (.ifCond .eq 7, 3) := by decide +kernel
theorem dX4_readOne_94 : decode cX4_readOne 94 = .ok (.iconst 1, 1) := by decide +kernel
theorem dX4_readOne_95 : decode cX4_readOne 95 = .ok (.goto 4, 3) := by decide +kernel
theorem dX4_readOne_98 : decode cX4_readOne 98 = .ok (.iconst 0, 1) := by decide +kernel
theorem dX4_readOne_99 : decode cX4_readOne 99 = .ok (.ireturn, 1) := by decide +kernel
theorem dX4_readOne_100 : decode cX4_readOne 100 = .ok (.aload_n 2, 1) := by decide +kernel
theorem dX4_readOne_101 : decode cX4_readOne 101 = .ok (.getstatic 253, 3) := by decide +kernel
theorem dX4_readOne_104 : decode cX4_readOne 104 = .ok (.if_acmp .eq 9, 3) := by decide +kernel
theorem dX4_readOne_107 : decode cX4_readOne 107 = .ok (.aload_n 0, 1) := by decide +kernel
theorem dX4_readOne_108 : decode cX4_readOne 108 = .ok (.aload_n 2, 1) := by decide +kernel
theorem dX4_readOne_109 : decode cX4_readOne 109 = .ok (.invokevirtual 265, 3) := by decide +kernel
theorem dX4_readOne_112 : decode cX4_readOne 112 = .ok (.ireturn, 1) := by decide +kernel
theorem dX4_readOne_113 : decode cX4_readOne 113 = .ok (.aload_n 0, 1) := by decide +kernel
theorem dX4_readOne_114 : decode cX4_readOne 114 = .ok (.iload_n 1, 1) := by decide +kernel
theorem dX4_readOne_115 : decode cX4_readOne 115 = .ok (.iconst 1, 1) := by decide +kernel
theorem dX4_readOne_116 : decode cX4_readOne 116 = .ok (.iadd, 1) := by decide +kernel
theorem dX4_readOne_117 : decode cX4_readOne 117 = .ok (.invokevirtual 240, 3) := by decide +kernel
theorem dX4_readOne_120 : decode cX4_readOne 120 = .ok (.ifCond .ne 5, 3) := by decide +kernel
theorem dX4_readOne_123 : decode cX4_readOne 123 = .ok (.iconst 0, 1) := by decide +kernel
theorem dX4_readOne_124 : decode cX4_readOne 124 = .ok (.ireturn, 1) := by decide +kernel
theorem dX4_readOne_125 : decode cX4_readOne 125 = .ok (.aload_n 0, 1) := by decide +kernel
theorem dX4_readOne_126 : decode cX4_readOne 126 = .ok (.getfield 31, 3) := by decide +kernel
theorem dX4_readOne_129 : decode cX4_readOne 129 = .ok (.getstatic 253, 3) := by decide +kernel
theorem dX4_readOne_132 : decode cX4_readOne 132 = .ok (.invokevirtual 246, 3) := by decide +kernel
theorem dX4_readOne_135 : decode cX4_readOne 135 = .ok (.iconst 1, 1) := by decide +kernel
theorem dX4_readOne_136 : decode cX4_readOne 136 = .ok (.ireturn, 1) := by decide +kernel
def X_RD_readOne_B_47 (RO RC : Int32 → xs_St → (Int32 → xs_St → Prop) → Prop) (K : Int32 → xs_St → Prop) (u : xs_St) : Prop :=
  X_RD_faulty (4 : Int32) u (fun r_2 u_1 => ((r_2 = 0 ∨ r_2 = 1) ∧ K r_2 u_1))
set_option maxHeartbeats 4000000 in
set_option maxRecDepth 100000 in
theorem X_RD_readOne_B_47_w {d9 : Nat} (hd9 : 12 ≤ d9) {RO RC : Int32 → xs_St → (Int32 → xs_St → Prop) → Prop} (hRO : ∀ {a1 : Int32} {u : xs_St} {K : Int32 → xs_St → Prop}, RO a1 u K → th_Ci l yX4_readOne cX4_readOne 3 (some .boolean) d9 0 0 (dC, dI) (th_ty cs) (xE ad ak) (wX cs ad q v v) [.ref (q 299), .int a1] u K) (hRC : ∀ {a1 : Int32} {u : xs_St} {K : Int32 → xs_St → Prop}, RC a1 u K → th_Ci l yX4_readCond cX4_readCond 4 (some .boolean) d9 0 0 (dC, dI) (th_ty cs) (xE ad ak) (wX cs ad q v v) [.ref (q 299), .int a1] u K) {K : Int32 → xs_St → Prop} (C : th_Cx p s m args meth c cX4_readOne RX4 3 (some .boolean) (dC, dI) (th_ty cs) (xE ad ak) A) (u : xs_St) (H : Heap) (locs : List Loc) (ls : Array Slot) (hf : X_RD_readOne_B_47 RO RC K u) (hw : th_wI (dC, dI) (wX cs ad q v v) A s.heap u H locs) (hl : lv_has ls 3 [(0, .ref (q 299))]) : W p l e (th_rm (d9 + 1) 0 0) s m args below meth c H locs 0 0 (MQ below (va_Qi K (th_Post (dC, dI) (wX cs ad q v v) A) A) args s 0 0 A) (F0 m 47 ls []) := by
  have hx := C.1
  have hb := C.2.1
  unfold X_RD_readOne_B_47 at hf
  refine lv_aload_n hx hb dX4_readOne_47 rfl (lv_at hl 0 rfl) ?_
  refine lv_iconst (v := (4 : Int32)) hx hb dX4_readOne_48 (by decide) ?_
  refine th_callVi (As := [.int (4 : Int32)]) (rest := []) C lkX4_99 (X_RD_faulty_c hf) hw (xRc_RD C hw) rfl rfl ⟨by simp only [th_rm]; omega, by simp only [th_rm]; omega⟩ hl.1 (Nat.le_of_ble_eq_true rfl) ⟨Nat.le_of_ble_eq_true rfl, Nat.le_of_ble_eq_true rfl⟩ dX4_readOne_49 (fun r_2 u_1 H locs hf hw => ?_)
  exact th_zret C hw hf dX4_readOne_52
def X_RD_readOne_B_99 (RO RC : Int32 → xs_St → (Int32 → xs_St → Prop) → Prop) (K : Int32 → xs_St → Prop) (z0 : Int32) (u : xs_St) : Prop :=
  ((z0 = 0 ∨ z0 = 1) ∧ K z0 u)
set_option maxHeartbeats 4000000 in
set_option maxRecDepth 100000 in
theorem X_RD_readOne_B_99_w {d9 : Nat} (hd9 : 12 ≤ d9) {RO RC : Int32 → xs_St → (Int32 → xs_St → Prop) → Prop} (hRO : ∀ {a1 : Int32} {u : xs_St} {K : Int32 → xs_St → Prop}, RO a1 u K → th_Ci l yX4_readOne cX4_readOne 3 (some .boolean) d9 0 0 (dC, dI) (th_ty cs) (xE ad ak) (wX cs ad q v v) [.ref (q 299), .int a1] u K) (hRC : ∀ {a1 : Int32} {u : xs_St} {K : Int32 → xs_St → Prop}, RC a1 u K → th_Ci l yX4_readCond cX4_readCond 4 (some .boolean) d9 0 0 (dC, dI) (th_ty cs) (xE ad ak) (wX cs ad q v v) [.ref (q 299), .int a1] u K) {K : Int32 → xs_St → Prop} (C : th_Cx p s m args meth c cX4_readOne RX4 3 (some .boolean) (dC, dI) (th_ty cs) (xE ad ak) A) (z0 : Int32) (u : xs_St) (H : Heap) (locs : List Loc) (ls : Array Slot) (hf : X_RD_readOne_B_99 RO RC K z0 u) (hw : th_wI (dC, dI) (wX cs ad q v v) A s.heap u H locs) (hl : lv_has ls 3 []) : W p l e (th_rm (d9 + 1) 0 0) s m args below meth c H locs 0 0 (MQ below (va_Qi K (th_Post (dC, dI) (wX cs ad q v v) A) A) args s 0 0 A) (F0 m 99 ls [.int z0]) := by
  have hx := C.1
  have hb := C.2.1
  unfold X_RD_readOne_B_99 at hf
  exact th_zret C hw hf dX4_readOne_99
def X_RD_readOne_B_98 (RO RC : Int32 → xs_St → (Int32 → xs_St → Prop) → Prop) (K : Int32 → xs_St → Prop) (u : xs_St) : Prop :=
  X_RD_readOne_B_99 RO RC K (0 : Int32) u
set_option maxHeartbeats 4000000 in
set_option maxRecDepth 100000 in
theorem X_RD_readOne_B_98_w {d9 : Nat} (hd9 : 12 ≤ d9) {RO RC : Int32 → xs_St → (Int32 → xs_St → Prop) → Prop} (hRO : ∀ {a1 : Int32} {u : xs_St} {K : Int32 → xs_St → Prop}, RO a1 u K → th_Ci l yX4_readOne cX4_readOne 3 (some .boolean) d9 0 0 (dC, dI) (th_ty cs) (xE ad ak) (wX cs ad q v v) [.ref (q 299), .int a1] u K) (hRC : ∀ {a1 : Int32} {u : xs_St} {K : Int32 → xs_St → Prop}, RC a1 u K → th_Ci l yX4_readCond cX4_readCond 4 (some .boolean) d9 0 0 (dC, dI) (th_ty cs) (xE ad ak) (wX cs ad q v v) [.ref (q 299), .int a1] u K) {K : Int32 → xs_St → Prop} (C : th_Cx p s m args meth c cX4_readOne RX4 3 (some .boolean) (dC, dI) (th_ty cs) (xE ad ak) A) (u : xs_St) (H : Heap) (locs : List Loc) (ls : Array Slot) (hf : X_RD_readOne_B_98 RO RC K u) (hw : th_wI (dC, dI) (wX cs ad q v v) A s.heap u H locs) (hl : lv_has ls 3 []) : W p l e (th_rm (d9 + 1) 0 0) s m args below meth c H locs 0 0 (MQ below (va_Qi K (th_Post (dC, dI) (wX cs ad q v v) A) A) args s 0 0 A) (F0 m 98 ls []) := by
  have hx := C.1
  have hb := C.2.1
  unfold X_RD_readOne_B_98 at hf
  refine lv_iconst (v := (0 : Int32)) hx hb dX4_readOne_98 (by decide) ?_
  exact X_RD_readOne_B_99_w hd9 hRO hRC C (0 : Int32) u _ _ _ hf hw (lv_sub hl [] rfl)
def X_RD_readOne_B_32 (RO RC : Int32 → xs_St → (Int32 → xs_St → Prop) → Prop) (K : Int32 → xs_St → Prop) (x1 : Int32) (x2 : Option Nat) (u : xs_St) : Prop :=
  (((40 : Int32) ≤ (xi u 208) → X_RD_readOne_B_47 RO RC K u) ∧ (¬ (40 : Int32) ≤ (xi u 208) → ((x1 ≤ (10 : Int32) → ∀ u_1 : xs_St, u_1 = xs_si u 208 ((xi u 208) + (1 : Int32)) → X_RD_advance u_1 (fun u_2 => ((¬ x2 = (some 4) → ((x2 = (some 21) → RO (x1 + (1 : Int32)) u_2 (fun r_5 u_4 => ((¬ r_5 = 0 → X_T_addStep_B (some 21) u_4 (fun u_6 => (((1 : Int32) = 0 ∨ (1 : Int32) = 1) ∧ K (1 : Int32) u_6))) ∧ (r_5 = 0 → (((0 : Int32) = 0 ∨ (0 : Int32) = 1) ∧ K (0 : Int32) u_4))))) ∧ (¬ x2 = (some 21) → X_RD_readMeasured x2 u_2 (fun r_9 u_8 => ((r_9 = 0 ∨ r_9 = 1) ∧ K r_9 u_8))))) ∧ (x2 = (some 4) → RC (x1 + (1 : Int32)) u_2 (fun r_11 u_10 => ((r_11 = 0 → X_RD_readOne_B_98 RO RC K u_10) ∧ (¬ r_11 = 0 → X_RD_take (some 5) u_10 (fun r_13 u_12 => ((r_13 = 0 → X_RD_readOne_B_98 RO RC K u_12) ∧ (¬ r_13 = 0 → X_RD_readOne_B_99 RO RC K (1 : Int32) u_12)))))))))) ∧ (¬ x1 ≤ (10 : Int32) → X_RD_readOne_B_47 RO RC K u))))
set_option maxHeartbeats 4000000 in
set_option maxRecDepth 100000 in
theorem X_RD_readOne_B_32_w {d9 : Nat} (hd9 : 12 ≤ d9) {RO RC : Int32 → xs_St → (Int32 → xs_St → Prop) → Prop} (hRO : ∀ {a1 : Int32} {u : xs_St} {K : Int32 → xs_St → Prop}, RO a1 u K → th_Ci l yX4_readOne cX4_readOne 3 (some .boolean) d9 0 0 (dC, dI) (th_ty cs) (xE ad ak) (wX cs ad q v v) [.ref (q 299), .int a1] u K) (hRC : ∀ {a1 : Int32} {u : xs_St} {K : Int32 → xs_St → Prop}, RC a1 u K → th_Ci l yX4_readCond cX4_readCond 4 (some .boolean) d9 0 0 (dC, dI) (th_ty cs) (xE ad ak) (wX cs ad q v v) [.ref (q 299), .int a1] u K) {K : Int32 → xs_St → Prop} (C : th_Cx p s m args meth c cX4_readOne RX4 3 (some .boolean) (dC, dI) (th_ty cs) (xE ad ak) A) (x1 : Int32) (x2 : Option Nat) (u : xs_St) (H : Heap) (locs : List Loc) (ls : Array Slot) (hf : X_RD_readOne_B_32 RO RC K x1 x2 u) (hw : th_wI (dC, dI) (wX cs ad q v v) A s.heap u H locs) (hl : lv_has ls 3 [(0, .ref (q 299)), (1, .int x1), (2, va_re ad x2)]) : W p l e (th_rm (d9 + 1) 0 0) s m args below meth c H locs 0 0 (MQ below (va_Qi K (th_Post (dC, dI) (wX cs ad q v v) A) A) args s 0 0 A) (F0 m 32 ls []) := by
  have hx := C.1
  have hb := C.2.1
  unfold X_RD_readOne_B_32 at hf
  refine lv_aload_n hx hb dX4_readOne_32 rfl (lv_at hl 0 rfl) ?_
  refine xg_208 C hw (C.2.2.2.2.1 _ hwF_X4_48) dX4_readOne_33 ?_
  refine lv_bipush (v := (40 : Int32)) hx hb dX4_readOne_36 (by decide) ?_
  refine lv_icmp_ge (tgt := 47) hx hb dX4_readOne_38 (by decide) (fun hc => ?_) (fun hc => ?_)
  · replace hf := hf.1 hc
    clear hc
    exact X_RD_readOne_B_47_w hd9 hRO hRC C  u _ _ _ hf hw (lv_sub hl [0] rfl)
  · replace hf := hf.2 hc
    clear hc
    refine lv_iload_n hx hb dX4_readOne_41 rfl (lv_at hl 1 rfl) ?_
    refine lv_bipush (v := (10 : Int32)) hx hb dX4_readOne_42 (by decide) ?_
    refine lv_icmp_le (tgt := 53) hx hb dX4_readOne_44 (by decide) (fun hc => ?_) (fun hc => ?_)
    · replace hf := hf.1 hc
      clear hc
      refine lv_aload_n hx hb dX4_readOne_53 rfl (lv_at hl 0 rfl) ?_
      refine lv_dup hx hb dX4_readOne_54 rfl ?_
      refine xg_208 C hw (C.2.2.2.2.1 _ hwF_X4_48) dX4_readOne_55 ?_
      refine lv_iconst (v := (1 : Int32)) hx hb dX4_readOne_58 (by decide) ?_
      refine lv_iadd hx hb dX4_readOne_59 ?_
      refine xp_208 C hw (C.2.2.2.2.1 _ hwF_X4_48) dX4_readOne_60 (fun u_1 e9 H locs hw => ?_)
      replace hf := hf u_1 e9
      clear e9
      refine lv_aload_n hx hb dX4_readOne_63 rfl (lv_at hl 0 rfl) ?_
      refine th_callVv (As := []) (rest := []) C lkX4_74 (X_RD_advance_c hf) hw (xRc_RD C hw) rfl rfl ⟨by simp only [th_rm]; omega, by simp only [th_rm]; omega⟩ hl.1 (Nat.le_of_ble_eq_true rfl) ⟨Nat.le_of_ble_eq_true rfl, Nat.le_of_ble_eq_true rfl⟩ dX4_readOne_64 (fun u_2 H locs hf hw => ?_)
      refine th_aload_n hx hb dX4_readOne_67 rfl (lv_at hl 2 rfl) ?_
      refine xst C hw 4 (by decide) (C.2.2.2.2.1 _ hwF_X4_256) dX4_readOne_68 ?_
      refine x_acmp_ne (tgt := 100) C dX4_readOne_71 (by decide) (fun hc => ?_) (fun hc => ?_)
      · replace hf := hf.1 hc
        clear hc
        refine th_aload_n hx hb dX4_readOne_100 rfl (lv_at hl 2 rfl) ?_
        refine xst C hw 21 (by decide) (C.2.2.2.2.1 _ hwF_X4_253) dX4_readOne_101 ?_
        refine x_acmp_eq (tgt := 113) C dX4_readOne_104 (by decide) (fun hc => ?_) (fun hc => ?_)
        · replace hf := hf.1 hc
          clear hc
          refine lv_aload_n hx hb dX4_readOne_113 rfl (lv_at hl 0 rfl) ?_
          refine lv_iload_n hx hb dX4_readOne_114 rfl (lv_at hl 1 rfl) ?_
          refine lv_iconst (v := (1 : Int32)) hx hb dX4_readOne_115 (by decide) ?_
          refine lv_iadd hx hb dX4_readOne_116 ?_
          refine th_callVi (As := [.int (x1 + (1 : Int32))]) (rest := []) C lkX4_240 (hRO hf) hw (xRc_RD C hw) rfl rfl ⟨by simp only [th_rm]; omega, by simp only [th_rm]; omega⟩ hl.1 (Nat.le_of_ble_eq_true rfl) ⟨Nat.le_of_ble_eq_true rfl, Nat.le_of_ble_eq_true rfl⟩ dX4_readOne_117 (fun r_5 u_4 H locs hf hw => ?_)
          refine lv_if_ne (tgt := 125) hx hb dX4_readOne_120 (by decide) (fun hc => ?_) (fun hc => ?_)
          · replace hf := hf.1 hc
            clear hc
            refine lv_aload_n hx hb dX4_readOne_125 rfl (lv_at hl 0 rfl) ?_
            refine xg_204 C hw (C.2.2.2.2.1 _ hwF_X4_31) dX4_readOne_126 ?_
            refine xst C hw 21 (by decide) (C.2.2.2.2.1 _ hwF_X4_253) dX4_readOne_129 ?_
            refine th_callVv (As := [va_re ad (some 21)]) (rest := []) C lkX4_246 (X_T_addStep_B_c hf) hw (xRc_TB C hw) rfl rfl ⟨by simp only [th_rm]; omega, by simp only [th_rm]; omega⟩ hl.1 (Nat.le_of_ble_eq_true rfl) ⟨Nat.le_of_ble_eq_true rfl, Nat.le_of_ble_eq_true rfl⟩ dX4_readOne_132 (fun u_6 H locs hf hw => ?_)
            refine lv_iconst (v := (1 : Int32)) hx hb dX4_readOne_135 (by decide) ?_
            exact th_zret C hw hf dX4_readOne_136
          · replace hf := hf.2 hc
            clear hc
            refine lv_iconst (v := (0 : Int32)) hx hb dX4_readOne_123 (by decide) ?_
            exact th_zret C hw hf dX4_readOne_124
        · replace hf := hf.2 hc
          clear hc
          refine lv_aload_n hx hb dX4_readOne_107 rfl (lv_at hl 0 rfl) ?_
          refine th_aload_n hx hb dX4_readOne_108 rfl (lv_at hl 2 rfl) ?_
          refine th_callVi (As := [va_re ad x2]) (rest := []) C lkX4_265 (X_RD_readMeasured_c hf) hw (xRc_RD C hw) rfl rfl ⟨by simp only [th_rm]; omega, by simp only [th_rm]; omega⟩ hl.1 (Nat.le_of_ble_eq_true rfl) ⟨Nat.le_of_ble_eq_true rfl, Nat.le_of_ble_eq_true rfl⟩ dX4_readOne_109 (fun r_9 u_8 H locs hf hw => ?_)
          exact th_zret C hw hf dX4_readOne_112
      · replace hf := hf.2 hc
        clear hc
        refine lv_aload_n hx hb dX4_readOne_74 rfl (lv_at hl 0 rfl) ?_
        refine lv_iload_n hx hb dX4_readOne_75 rfl (lv_at hl 1 rfl) ?_
        refine lv_iconst (v := (1 : Int32)) hx hb dX4_readOne_76 (by decide) ?_
        refine lv_iadd hx hb dX4_readOne_77 ?_
        refine th_callVi (As := [.int (x1 + (1 : Int32))]) (rest := []) C lkX4_195 (hRC hf) hw (xRc_RD C hw) rfl rfl ⟨by simp only [th_rm]; omega, by simp only [th_rm]; omega⟩ hl.1 (Nat.le_of_ble_eq_true rfl) ⟨Nat.le_of_ble_eq_true rfl, Nat.le_of_ble_eq_true rfl⟩ dX4_readOne_78 (fun r_11 u_10 H locs hf hw => ?_)
        refine lv_if_eq (tgt := 98) hx hb dX4_readOne_81 (by decide) (fun hc => ?_) (fun hc => ?_)
        · replace hf := hf.1 hc
          clear hc
          exact X_RD_readOne_B_98_w hd9 hRO hRC C  u_10 _ _ _ hf hw (lv_sub hl [] rfl)
        · replace hf := hf.2 hc
          clear hc
          refine lv_aload_n hx hb dX4_readOne_84 rfl (lv_at hl 0 rfl) ?_
          refine xst C hw 5 (by decide) (C.2.2.2.2.1 _ hwF_X4_262) dX4_readOne_85 ?_
          refine th_callVi (As := [va_re ad (some 5)]) (rest := []) C lkX4_90 (X_RD_take_c hf) hw (xRc_RD C hw) rfl rfl ⟨by simp only [th_rm]; omega, by simp only [th_rm]; omega⟩ hl.1 (Nat.le_of_ble_eq_true rfl) ⟨Nat.le_of_ble_eq_true rfl, Nat.le_of_ble_eq_true rfl⟩ dX4_readOne_88 (fun r_13 u_12 H locs hf hw => ?_)
          refine lv_if_eq (tgt := 98) hx hb dX4_readOne_91 (by decide) (fun hc => ?_) (fun hc => ?_)
          · replace hf := hf.1 hc
            clear hc
            exact X_RD_readOne_B_98_w hd9 hRO hRC C  u_12 _ _ _ hf hw (lv_sub hl [] rfl)
          · replace hf := hf.2 hc
            clear hc
            refine lv_iconst (v := (1 : Int32)) hx hb dX4_readOne_94 (by decide) ?_
            refine lv_goto (tgt := 99) hx hb dX4_readOne_95 (by decide) ?_
            exact X_RD_readOne_B_99_w hd9 hRO hRC C (1 : Int32) u_12 _ _ _ hf hw (lv_sub hl [] rfl)
    · replace hf := hf.2 hc
      clear hc
      exact X_RD_readOne_B_47_w hd9 hRO hRC C  u _ _ _ hf hw (lv_sub hl [0] rfl)
def X_RD_readOne_B (RO RC : Int32 → xs_St → (Int32 → xs_St → Prop) → Prop) (a1 : Int32) (u : xs_St) (K : Int32 → xs_St → Prop) : Prop :=
  (((xr u 206) = (some 21) → X_RD_readOne_B_32 RO RC K a1 (xr u 206) u) ∧ (¬ (xr u 206) = (some 21) → (((xr u 206) = (some 4) → X_RD_readOne_B_32 RO RC K a1 (xr u 206) u) ∧ (¬ (xr u 206) = (some 4) → X_RD_isMeasure (xr u 206) u (fun r_2 u_1 => ((¬ r_2 = 0 → X_RD_readOne_B_32 RO RC K a1 (xr u 206) u_1) ∧ (r_2 = 0 → X_RD_faulty (1 : Int32) u_1 (fun r_4 u_3 => ((r_4 = 0 ∨ r_4 = 1) ∧ K r_4 u_3)))))))))
set_option maxHeartbeats 4000000 in
set_option maxRecDepth 100000 in
theorem X_RD_readOne_B_c {l : Launch} {dC : Nat → ClassId} {dI : Nat → Nat → Nat} {cs : Nat → ClassId} {ad ak : Nat → Nat} {q v : Nat → Nat} {d9 : Nat} (hd9 : 12 ≤ d9) {RO RC : Int32 → xs_St → (Int32 → xs_St → Prop) → Prop} (hRO : ∀ {a1 : Int32} {u : xs_St} {K : Int32 → xs_St → Prop}, RO a1 u K → th_Ci l yX4_readOne cX4_readOne 3 (some .boolean) d9 0 0 (dC, dI) (th_ty cs) (xE ad ak) (wX cs ad q v v) [.ref (q 299), .int a1] u K) (hRC : ∀ {a1 : Int32} {u : xs_St} {K : Int32 → xs_St → Prop}, RC a1 u K → th_Ci l yX4_readCond cX4_readCond 4 (some .boolean) d9 0 0 (dC, dI) (th_ty cs) (xE ad ak) (wX cs ad q v v) [.ref (q 299), .int a1] u K) {a1 : Int32} {u : xs_St} {K : Int32 → xs_St → Prop} (hf : X_RD_readOne_B RO RC a1 u K) : th_Ci l yX4_readOne cX4_readOne 3 (some .boolean) (d9 + 1) 0 0 (dC, dI) (th_ty cs) (xE ad ak) (wX cs ad q v v) [.ref (q 299), .int a1] u K := by
  refine th_ofi (by decide) (Nat.le_of_ble_eq_true rfl) (xE_ok ad ak) ?_
  intro p e s m below meth c A ls C hw hl
  have C : th_Cx p s m _ meth c cX4_readOne RX4 3 (some .boolean) (dC, dI) (th_ty cs) (xE ad ak) A := C
  have hl : lv_has ls 3 [(0, .ref (q 299)), (1, .int a1)] := hl
  generalize (List.toArray _ : Array Value) = args at C ⊢
  have hx := C.1
  have hb := C.2.1
  unfold X_RD_readOne_B at hf
  refine lv_aload_n hx hb dX4_readOne_0 rfl (lv_at hl 0 rfl) ?_
  refine xg_206 C hw (C.2.2.2.2.1 _ hwF_X4_42) dX4_readOne_1 ?_
  refine th_astore_n (r := ((xr u 206)).map ad) (lv' := [(2, va_re ad (xr u 206)), (0, .ref (q 299)), (1, .int a1)]) hx hb dX4_readOne_4 rfl hl (by decide) rfl (fun ls hl => ?_)
  refine th_aload_n hx hb dX4_readOne_5 rfl (lv_at hl 0 rfl) ?_
  refine xst C hw 21 (by decide) (C.2.2.2.2.1 _ hwF_X4_253) dX4_readOne_6 ?_
  refine x_acmp_eq (tgt := 32) C dX4_readOne_9 (by decide) (fun hc => ?_) (fun hc => ?_)
  · replace hf := hf.1 hc
    clear hc
    exact X_RD_readOne_B_32_w hd9 hRO hRC C a1 (xr u 206) u _ _ _ hf hw (lv_sub hl [1, 2, 0] rfl)
  · replace hf := hf.2 hc
    clear hc
    refine th_aload_n hx hb dX4_readOne_12 rfl (lv_at hl 0 rfl) ?_
    refine xst C hw 4 (by decide) (C.2.2.2.2.1 _ hwF_X4_256) dX4_readOne_13 ?_
    refine x_acmp_eq (tgt := 32) C dX4_readOne_16 (by decide) (fun hc => ?_) (fun hc => ?_)
    · replace hf := hf.1 hc
      clear hc
      exact X_RD_readOne_B_32_w hd9 hRO hRC C a1 (xr u 206) u _ _ _ hf hw (lv_sub hl [1, 2, 0] rfl)
    · replace hf := hf.2 hc
      clear hc
      refine th_aload_n hx hb dX4_readOne_19 rfl (lv_at hl 0 rfl) ?_
      refine th_callSi (As := [va_re ad (xr u 206)]) (rest := []) C lkX4_259 (X_RD_isMeasure_c hf) hw rfl rfl ⟨by simp only [th_rm]; omega, by simp only [th_rm]; omega⟩ hl.1 (Nat.le_of_ble_eq_true rfl) ⟨Nat.le_of_ble_eq_true rfl, Nat.le_of_ble_eq_true rfl⟩ dX4_readOne_20 (fun r_2 u_1 H locs hf hw => ?_)
      refine lv_if_ne (tgt := 32) hx hb dX4_readOne_23 (by decide) (fun hc => ?_) (fun hc => ?_)
      · replace hf := hf.1 hc
        clear hc
        exact X_RD_readOne_B_32_w hd9 hRO hRC C a1 (xr u 206) u_1 _ _ _ hf hw (lv_sub hl [1, 2, 0] rfl)
      · replace hf := hf.2 hc
        clear hc
        refine lv_aload_n hx hb dX4_readOne_26 rfl (lv_at hl 1 rfl) ?_
        refine lv_iconst (v := (1 : Int32)) hx hb dX4_readOne_27 (by decide) ?_
        refine th_callVi (As := [.int (1 : Int32)]) (rest := []) C lkX4_99 (X_RD_faulty_c hf) hw (xRc_RD C hw) rfl rfl ⟨by simp only [th_rm]; omega, by simp only [th_rm]; omega⟩ hl.1 (Nat.le_of_ble_eq_true rfl) ⟨Nat.le_of_ble_eq_true rfl, Nat.le_of_ble_eq_true rfl⟩ dX4_readOne_28 (fun r_4 u_3 H locs hf hw => ?_)
        exact th_zret C hw hf dX4_readOne_31
theorem dX4_readCond_0 : decode cX4_readCond 0 = .ok (.iconst 0, 1) := by decide +kernel
theorem dX4_readCond_1 : decode cX4_readCond 1 = .ok (.istore_n 2, 1) := by decide +kernel
theorem dX4_readCond_2 : decode cX4_readCond 2 = .ok (.iload_n 2, 1) := by decide +kernel
theorem dX4_readCond_3 : decode cX4_readCond 3 = .ok (.bipush 40, 2) := by decide +kernel
theorem dX4_readCond_5 : decode cX4_readCond 5 = .ok (.if_icmp .gt 97, 3) := by decide +kernel
theorem dX4_readCond_8 : decode cX4_readCond 8 = .ok (.aload_n 0, 1) := by decide +kernel
theorem dX4_readCond_9 : decode cX4_readCond 9 = .ok (.iload_n 1, 1) := by decide +kernel
theorem dX4_readCond_10 : decode cX4_readCond 10 = .ok (.invokevirtual 240, 3) := by decide +kernel
theorem dX4_readCond_13 : decode cX4_readCond 13 = .ok (.ifCond .ne 5, 3) := by decide +kernel
theorem dX4_readCond_16 : decode cX4_readCond 16 = .ok (.iconst 0, 1) := by decide +kernel
theorem dX4_readCond_17 : decode cX4_readCond 17 = .ok (.ireturn, 1) := by decide +kernel
theorem dX4_readCond_18 : decode cX4_readCond 18 = .ok (.iconst 0, 1) := by decide +kernel
theorem dX4_readCond_19 : decode cX4_readCond 19 = .ok (.istore_n 3, 1) := by decide +kernel
theorem dX4_readCond_20 : decode cX4_readCond 20 = .ok (.iload_n 3, 1) := by decide +kernel
theorem dX4_readCond_21 : decode cX4_readCond 21 = .ok (.bipush 40, 2) := by decide +kernel
theorem dX4_readCond_23 : decode cX4_readCond 23 = .ok (.if_icmp .gt 43, 3) := by decide +kernel
theorem dX4_readCond_26 : decode cX4_readCond 26 = .ok (.aload_n 0, 1) := by decide +kernel
theorem dX4_readCond_27 : decode cX4_readCond 27 = .ok (.getfield 42, 3) := by decide +kernel
theorem dX4_readCond_30 : decode cX4_readCond 30 = .ok (.getstatic 243, 3) := by decide +kernel
theorem dX4_readCond_33 : decode cX4_readCond 33 = .ok (.if_acmp .ne 33, 3) := by decide +kernel
theorem dX4_readCond_36 : decode cX4_readCond 36 = .ok (.aload_n 0, 1) := by decide +kernel
theorem dX4_readCond_37 : decode cX4_readCond 37 = .ok (.invokevirtual 74, 3) := by decide +kernel
theorem dX4_readCond_40 : decode cX4_readCond 40 = .ok (.aload_n 0, 1) := by decide +kernel
theorem dX4_readCond_41 : decode cX4_readCond 41 = .ok (.iload_n 1, 1) := by decide +kernel
theorem dX4_readCond_42 : decode cX4_readCond 42 = .ok (.invokevirtual 240, 3) := by decide +kernel
theorem dX4_readCond_45 : decode cX4_readCond 45 = .ok (.ifCond .ne 5, 3) := by decide +kernel
theorem dX4_readCond_48 : decode cX4_readCond 48 = .ok (.iconst 0, 1) := by decide +kernel
theorem dX4_readCond_49 : decode cX4_readCond 49 = .ok (.ireturn, 1) := by decide +kernel
theorem dX4_readCond_50 : decode cX4_readCond 50 = .ok (.aload_n 0, 1) := by decide +kernel
theorem dX4_readCond_51 : decode cX4_readCond 51 = .ok (.getfield 31, 3) := by decide +kernel
theorem dX4_readCond_54 : decode cX4_readCond 54 = .ok (.getstatic 243, 3) := by decide +kernel
theorem dX4_readCond_57 : decode cX4_readCond 57 = .ok (.invokevirtual 246, 3) := by decide +kernel
theorem dX4_readCond_60 : decode cX4_readCond 60 = .ok (.iinc 3 1, 3) := by decide +kernel
theorem dX4_readCond_63 : decode cX4_readCond 63 = .ok (.goto (-43), 3) := by decide +kernel
theorem dX4_readCond_66 : decode cX4_readCond 66 = .ok (.iload_n 2, 1) := by decide +kernel
theorem dX4_readCond_67 : decode cX4_readCond 67 = .ok (.ifCond .le 13, 3) := by decide +kernel
theorem dX4_readCond_70 : decode cX4_readCond 70 = .ok (.aload_n 0, 1) := by decide +kernel
theorem dX4_readCond_71 : decode cX4_readCond 71 = .ok (.getfield 31, 3) := by decide +kernel
theorem dX4_readCond_74 : decode cX4_readCond 74 = .ok (.getstatic 250, 3) := by decide +kernel
theorem dX4_readCond_77 : decode cX4_readCond 77 = .ok (.invokevirtual 246, 3) := by decide +kernel
theorem dX4_readCond_80 : decode cX4_readCond 80 = .ok (.aload_n 0, 1) := by decide +kernel
theorem dX4_readCond_81 : decode cX4_readCond 81 = .ok (.getfield 42, 3) := by decide +kernel
theorem dX4_readCond_84 : decode cX4_readCond 84 = .ok (.getstatic 250, 3) := by decide +kernel
theorem dX4_readCond_87 : decode cX4_readCond 87 = .ok (.if_acmp .eq 5, 3) := by decide +kernel
theorem dX4_readCond_90 : decode cX4_readCond 90 = .ok (.iconst 1, 1) := by decide +kernel
theorem dX4_readCond_91 : decode cX4_readCond 91 = .ok (.ireturn, 1) := by decide +kernel
theorem dX4_readCond_92 : decode cX4_readCond 92 = .ok (.aload_n 0, 1) := by decide +kernel
theorem dX4_readCond_93 : decode cX4_readCond 93 = .ok (.invokevirtual 74, 3) := by decide +kernel
theorem dX4_readCond_96 : decode cX4_readCond 96 = .ok (.iinc 2 1, 3) := by decide +kernel
theorem dX4_readCond_99 : decode cX4_readCond 99 = .ok (.goto (-97), 3) := by decide +kernel
theorem dX4_readCond_102 : decode cX4_readCond 102 = .ok (.aload_n 0, 1) := by decide +kernel
theorem dX4_readCond_103 : decode cX4_readCond 103 = .ok (.iconst 4, 1) := by decide +kernel
theorem dX4_readCond_104 : decode cX4_readCond 104 = .ok (.invokevirtual 99, 3) := by decide +kernel
theorem dX4_readCond_107 : decode cX4_readCond 107 = .ok (.ireturn, 1) := by decide +kernel
def X_RD_readCond_B_80 (RO RC : Int32 → xs_St → (Int32 → xs_St → Prop) → Prop) (K : Int32 → xs_St → Prop) (k2 : Int32 → Int32 → xs_St → Prop) (x1 : Int32) (x2 : Int32) (u : xs_St) : Prop :=
  (((xr u 206) = (some 19) → X_RD_advance u (fun u_1 => ∀ x2_3 : Int32, x2_3 = x2 + (1 : Int32) → k2 x1 x2_3 u_1)) ∧ (¬ (xr u 206) = (some 19) → (((1 : Int32) = 0 ∨ (1 : Int32) = 1) ∧ K (1 : Int32) u)))
set_option maxHeartbeats 4000000 in
set_option maxRecDepth 100000 in
theorem X_RD_readCond_B_80_w {d9 : Nat} (hd9 : 12 ≤ d9) {RO RC : Int32 → xs_St → (Int32 → xs_St → Prop) → Prop} (hRO : ∀ {a1 : Int32} {u : xs_St} {K : Int32 → xs_St → Prop}, RO a1 u K → th_Ci l yX4_readOne cX4_readOne 3 (some .boolean) d9 0 0 (dC, dI) (th_ty cs) (xE ad ak) (wX cs ad q v v) [.ref (q 299), .int a1] u K) (hRC : ∀ {a1 : Int32} {u : xs_St} {K : Int32 → xs_St → Prop}, RC a1 u K → th_Ci l yX4_readCond cX4_readCond 4 (some .boolean) d9 0 0 (dC, dI) (th_ty cs) (xE ad ak) (wX cs ad q v v) [.ref (q 299), .int a1] u K) {K : Int32 → xs_St → Prop} {k2 : Int32 → Int32 → xs_St → Prop} (C : th_Cx p s m args meth c cX4_readCond RX4 4 (some .boolean) (dC, dI) (th_ty cs) (xE ad ak) A) (hk2 : ∀ (x1 : Int32) (x2 : Int32) (u : xs_St) (H : Heap) (locs : List Loc) (ls : Array Slot), k2 x1 x2 u → th_wI (dC, dI) (wX cs ad q v v) A s.heap u H locs → lv_has ls 4 [(0, .ref (q 299)), (1, .int x1), (2, .int x2)] → W p l e (th_rm (d9 + 1) 0 0) s m args below meth c H locs 0 0 (MQ below (va_Qi K (th_Post (dC, dI) (wX cs ad q v v) A) A) args s 0 0 A) (F0 m 2 ls [])) (x1 : Int32) (x2 : Int32) (u : xs_St) (H : Heap) (locs : List Loc) (ls : Array Slot) (hf : X_RD_readCond_B_80 RO RC K k2 x1 x2 u) (hw : th_wI (dC, dI) (wX cs ad q v v) A s.heap u H locs) (hl : lv_has ls 4 [(0, .ref (q 299)), (1, .int x1), (2, .int x2)]) : W p l e (th_rm (d9 + 1) 0 0) s m args below meth c H locs 0 0 (MQ below (va_Qi K (th_Post (dC, dI) (wX cs ad q v v) A) A) args s 0 0 A) (F0 m 80 ls []) := by
  have hx := C.1
  have hb := C.2.1
  unfold X_RD_readCond_B_80 at hf
  refine lv_aload_n hx hb dX4_readCond_80 rfl (lv_at hl 0 rfl) ?_
  refine xg_206 C hw (C.2.2.2.2.1 _ hwF_X4_42) dX4_readCond_81 ?_
  refine xst C hw 19 (by decide) (C.2.2.2.2.1 _ hwF_X4_250) dX4_readCond_84 ?_
  refine x_acmp_eq (tgt := 92) C dX4_readCond_87 (by decide) (fun hc => ?_) (fun hc => ?_)
  · replace hf := hf.1 hc
    clear hc
    refine lv_aload_n hx hb dX4_readCond_92 rfl (lv_at hl 0 rfl) ?_
    refine th_callVv (As := []) (rest := []) C lkX4_74 (X_RD_advance_c hf) hw (xRc_RD C hw) rfl rfl ⟨by simp only [th_rm]; omega, by simp only [th_rm]; omega⟩ hl.1 (Nat.le_of_ble_eq_true rfl) ⟨Nat.le_of_ble_eq_true rfl, Nat.le_of_ble_eq_true rfl⟩ dX4_readCond_93 (fun u_1 H locs hf hw => ?_)
    obtain ⟨x2_3, e9⟩ : ∃ y : Int32, y = x2 + (1 : Int32) := ⟨_, rfl⟩
    replace hf := hf x2_3 e9
    refine lv_iinc (v := x2_3) (lv' := [(2, .int x2_3), (0, .ref (q 299)), (1, .int x1)]) hx hb dX4_readCond_96 hl (k := 2) rfl (by rw [e9]; rfl) (by decide) rfl (fun ls hl => ?_)
    clear e9
    refine lv_goto (tgt := 2) hx hb dX4_readCond_99 (by decide) ?_
    exact hk2 x1 x2_3 u_1 _ _ _ hf hw (lv_sub hl [1, 2, 0] rfl)
  · replace hf := hf.2 hc
    clear hc
    refine lv_iconst (v := (1 : Int32)) hx hb dX4_readCond_90 (by decide) ?_
    exact th_zret C hw hf dX4_readCond_91
def X_RD_readCond_B_66 (RO RC : Int32 → xs_St → (Int32 → xs_St → Prop) → Prop) (K : Int32 → xs_St → Prop) (k2 : Int32 → Int32 → xs_St → Prop) (x1 : Int32) (x2 : Int32) (u : xs_St) : Prop :=
  ((x2 ≤ 0 → X_RD_readCond_B_80 RO RC K k2 x1 x2 u) ∧ (¬ x2 ≤ 0 → X_T_addStep_B (some 19) u (fun u_1 => X_RD_readCond_B_80 RO RC K k2 x1 x2 u_1)))
set_option maxHeartbeats 4000000 in
set_option maxRecDepth 100000 in
theorem X_RD_readCond_B_66_w {d9 : Nat} (hd9 : 12 ≤ d9) {RO RC : Int32 → xs_St → (Int32 → xs_St → Prop) → Prop} (hRO : ∀ {a1 : Int32} {u : xs_St} {K : Int32 → xs_St → Prop}, RO a1 u K → th_Ci l yX4_readOne cX4_readOne 3 (some .boolean) d9 0 0 (dC, dI) (th_ty cs) (xE ad ak) (wX cs ad q v v) [.ref (q 299), .int a1] u K) (hRC : ∀ {a1 : Int32} {u : xs_St} {K : Int32 → xs_St → Prop}, RC a1 u K → th_Ci l yX4_readCond cX4_readCond 4 (some .boolean) d9 0 0 (dC, dI) (th_ty cs) (xE ad ak) (wX cs ad q v v) [.ref (q 299), .int a1] u K) {K : Int32 → xs_St → Prop} {k2 : Int32 → Int32 → xs_St → Prop} (C : th_Cx p s m args meth c cX4_readCond RX4 4 (some .boolean) (dC, dI) (th_ty cs) (xE ad ak) A) (hk2 : ∀ (x1 : Int32) (x2 : Int32) (u : xs_St) (H : Heap) (locs : List Loc) (ls : Array Slot), k2 x1 x2 u → th_wI (dC, dI) (wX cs ad q v v) A s.heap u H locs → lv_has ls 4 [(0, .ref (q 299)), (1, .int x1), (2, .int x2)] → W p l e (th_rm (d9 + 1) 0 0) s m args below meth c H locs 0 0 (MQ below (va_Qi K (th_Post (dC, dI) (wX cs ad q v v) A) A) args s 0 0 A) (F0 m 2 ls [])) (x1 : Int32) (x2 : Int32) (u : xs_St) (H : Heap) (locs : List Loc) (ls : Array Slot) (hf : X_RD_readCond_B_66 RO RC K k2 x1 x2 u) (hw : th_wI (dC, dI) (wX cs ad q v v) A s.heap u H locs) (hl : lv_has ls 4 [(0, .ref (q 299)), (1, .int x1), (2, .int x2)]) : W p l e (th_rm (d9 + 1) 0 0) s m args below meth c H locs 0 0 (MQ below (va_Qi K (th_Post (dC, dI) (wX cs ad q v v) A) A) args s 0 0 A) (F0 m 66 ls []) := by
  have hx := C.1
  have hb := C.2.1
  unfold X_RD_readCond_B_66 at hf
  refine lv_iload_n hx hb dX4_readCond_66 rfl (lv_at hl 2 rfl) ?_
  refine lv_if_le (tgt := 80) hx hb dX4_readCond_67 (by decide) (fun hc => ?_) (fun hc => ?_)
  · replace hf := hf.1 hc
    clear hc
    exact X_RD_readCond_B_80_w hd9 hRO hRC C hk2 x1 x2 u _ _ _ hf hw (lv_sub hl [0, 1, 2] rfl)
  · replace hf := hf.2 hc
    clear hc
    refine lv_aload_n hx hb dX4_readCond_70 rfl (lv_at hl 0 rfl) ?_
    refine xg_204 C hw (C.2.2.2.2.1 _ hwF_X4_31) dX4_readCond_71 ?_
    refine xst C hw 19 (by decide) (C.2.2.2.2.1 _ hwF_X4_250) dX4_readCond_74 ?_
    refine th_callVv (As := [va_re ad (some 19)]) (rest := []) C lkX4_246 (X_T_addStep_B_c hf) hw (xRc_TB C hw) rfl rfl ⟨by simp only [th_rm]; omega, by simp only [th_rm]; omega⟩ hl.1 (Nat.le_of_ble_eq_true rfl) ⟨Nat.le_of_ble_eq_true rfl, Nat.le_of_ble_eq_true rfl⟩ dX4_readCond_77 (fun u_1 H locs hf hw => ?_)
    exact X_RD_readCond_B_80_w hd9 hRO hRC C hk2 x1 x2 u_1 _ _ _ hf hw (lv_sub hl [0, 1, 2] rfl)
def X_RD_readCond_B_20 (RO RC : Int32 → xs_St → (Int32 → xs_St → Prop) → Prop) (K : Int32 → xs_St → Prop) (k2 : Int32 → Int32 → xs_St → Prop) (k20 : Int32 → Int32 → Int32 → xs_St → Prop) (x1 : Int32) (x2 : Int32) (x3 : Int32) (u : xs_St) : Prop :=
  (((40 : Int32) < x3 → X_RD_readCond_B_66 RO RC K k2 x1 x2 u) ∧ (¬ (40 : Int32) < x3 → ((¬ (xr u 206) = (some 20) → X_RD_readCond_B_66 RO RC K k2 x1 x2 u) ∧ ((xr u 206) = (some 20) → X_RD_advance u (fun u_1 => RO x1 u_1 (fun r_4 u_3 => ((¬ r_4 = 0 → X_T_addStep_B (some 20) u_3 (fun u_5 => ∀ x3_7 : Int32, x3_7 = x3 + (1 : Int32) → k20 x1 x2 x3_7 u_5)) ∧ (r_4 = 0 → (((0 : Int32) = 0 ∨ (0 : Int32) = 1) ∧ K (0 : Int32) u_3)))))))))
set_option maxHeartbeats 4000000 in
set_option maxRecDepth 100000 in
theorem X_RD_readCond_B_20_w {d9 : Nat} (hd9 : 12 ≤ d9) {RO RC : Int32 → xs_St → (Int32 → xs_St → Prop) → Prop} (hRO : ∀ {a1 : Int32} {u : xs_St} {K : Int32 → xs_St → Prop}, RO a1 u K → th_Ci l yX4_readOne cX4_readOne 3 (some .boolean) d9 0 0 (dC, dI) (th_ty cs) (xE ad ak) (wX cs ad q v v) [.ref (q 299), .int a1] u K) (hRC : ∀ {a1 : Int32} {u : xs_St} {K : Int32 → xs_St → Prop}, RC a1 u K → th_Ci l yX4_readCond cX4_readCond 4 (some .boolean) d9 0 0 (dC, dI) (th_ty cs) (xE ad ak) (wX cs ad q v v) [.ref (q 299), .int a1] u K) {K : Int32 → xs_St → Prop} {k2 : Int32 → Int32 → xs_St → Prop} {k20 : Int32 → Int32 → Int32 → xs_St → Prop} (C : th_Cx p s m args meth c cX4_readCond RX4 4 (some .boolean) (dC, dI) (th_ty cs) (xE ad ak) A) (hk2 : ∀ (x1 : Int32) (x2 : Int32) (u : xs_St) (H : Heap) (locs : List Loc) (ls : Array Slot), k2 x1 x2 u → th_wI (dC, dI) (wX cs ad q v v) A s.heap u H locs → lv_has ls 4 [(0, .ref (q 299)), (1, .int x1), (2, .int x2)] → W p l e (th_rm (d9 + 1) 0 0) s m args below meth c H locs 0 0 (MQ below (va_Qi K (th_Post (dC, dI) (wX cs ad q v v) A) A) args s 0 0 A) (F0 m 2 ls [])) (hk20 : ∀ (x1 : Int32) (x2 : Int32) (x3 : Int32) (u : xs_St) (H : Heap) (locs : List Loc) (ls : Array Slot), k20 x1 x2 x3 u → th_wI (dC, dI) (wX cs ad q v v) A s.heap u H locs → lv_has ls 4 [(0, .ref (q 299)), (1, .int x1), (2, .int x2), (3, .int x3)] → W p l e (th_rm (d9 + 1) 0 0) s m args below meth c H locs 0 0 (MQ below (va_Qi K (th_Post (dC, dI) (wX cs ad q v v) A) A) args s 0 0 A) (F0 m 20 ls [])) (x1 : Int32) (x2 : Int32) (x3 : Int32) (u : xs_St) (H : Heap) (locs : List Loc) (ls : Array Slot) (hf : X_RD_readCond_B_20 RO RC K k2 k20 x1 x2 x3 u) (hw : th_wI (dC, dI) (wX cs ad q v v) A s.heap u H locs) (hl : lv_has ls 4 [(0, .ref (q 299)), (1, .int x1), (2, .int x2), (3, .int x3)]) : W p l e (th_rm (d9 + 1) 0 0) s m args below meth c H locs 0 0 (MQ below (va_Qi K (th_Post (dC, dI) (wX cs ad q v v) A) A) args s 0 0 A) (F0 m 20 ls []) := by
  have hx := C.1
  have hb := C.2.1
  unfold X_RD_readCond_B_20 at hf
  refine lv_iload_n hx hb dX4_readCond_20 rfl (lv_at hl 3 rfl) ?_
  refine lv_bipush (v := (40 : Int32)) hx hb dX4_readCond_21 (by decide) ?_
  refine lv_icmp_gt (tgt := 66) hx hb dX4_readCond_23 (by decide) (fun hc => ?_) (fun hc => ?_)
  · replace hf := hf.1 hc
    clear hc
    exact X_RD_readCond_B_66_w hd9 hRO hRC C hk2 x1 x2 u _ _ _ hf hw (lv_sub hl [0, 1, 2] rfl)
  · replace hf := hf.2 hc
    clear hc
    refine lv_aload_n hx hb dX4_readCond_26 rfl (lv_at hl 0 rfl) ?_
    refine xg_206 C hw (C.2.2.2.2.1 _ hwF_X4_42) dX4_readCond_27 ?_
    refine xst C hw 20 (by decide) (C.2.2.2.2.1 _ hwF_X4_243) dX4_readCond_30 ?_
    refine x_acmp_ne (tgt := 66) C dX4_readCond_33 (by decide) (fun hc => ?_) (fun hc => ?_)
    · replace hf := hf.1 hc
      clear hc
      exact X_RD_readCond_B_66_w hd9 hRO hRC C hk2 x1 x2 u _ _ _ hf hw (lv_sub hl [0, 1, 2] rfl)
    · replace hf := hf.2 hc
      clear hc
      refine lv_aload_n hx hb dX4_readCond_36 rfl (lv_at hl 0 rfl) ?_
      refine th_callVv (As := []) (rest := []) C lkX4_74 (X_RD_advance_c hf) hw (xRc_RD C hw) rfl rfl ⟨by simp only [th_rm]; omega, by simp only [th_rm]; omega⟩ hl.1 (Nat.le_of_ble_eq_true rfl) ⟨Nat.le_of_ble_eq_true rfl, Nat.le_of_ble_eq_true rfl⟩ dX4_readCond_37 (fun u_1 H locs hf hw => ?_)
      refine lv_aload_n hx hb dX4_readCond_40 rfl (lv_at hl 0 rfl) ?_
      refine lv_iload_n hx hb dX4_readCond_41 rfl (lv_at hl 1 rfl) ?_
      refine th_callVi (As := [.int x1]) (rest := []) C lkX4_240 (hRO hf) hw (xRc_RD C hw) rfl rfl ⟨by simp only [th_rm]; omega, by simp only [th_rm]; omega⟩ hl.1 (Nat.le_of_ble_eq_true rfl) ⟨Nat.le_of_ble_eq_true rfl, Nat.le_of_ble_eq_true rfl⟩ dX4_readCond_42 (fun r_4 u_3 H locs hf hw => ?_)
      refine lv_if_ne (tgt := 50) hx hb dX4_readCond_45 (by decide) (fun hc => ?_) (fun hc => ?_)
      · replace hf := hf.1 hc
        clear hc
        refine lv_aload_n hx hb dX4_readCond_50 rfl (lv_at hl 0 rfl) ?_
        refine xg_204 C hw (C.2.2.2.2.1 _ hwF_X4_31) dX4_readCond_51 ?_
        refine xst C hw 20 (by decide) (C.2.2.2.2.1 _ hwF_X4_243) dX4_readCond_54 ?_
        refine th_callVv (As := [va_re ad (some 20)]) (rest := []) C lkX4_246 (X_T_addStep_B_c hf) hw (xRc_TB C hw) rfl rfl ⟨by simp only [th_rm]; omega, by simp only [th_rm]; omega⟩ hl.1 (Nat.le_of_ble_eq_true rfl) ⟨Nat.le_of_ble_eq_true rfl, Nat.le_of_ble_eq_true rfl⟩ dX4_readCond_57 (fun u_5 H locs hf hw => ?_)
        obtain ⟨x3_7, e9⟩ : ∃ y : Int32, y = x3 + (1 : Int32) := ⟨_, rfl⟩
        replace hf := hf x3_7 e9
        refine lv_iinc (v := x3_7) (lv' := [(3, .int x3_7), (0, .ref (q 299)), (1, .int x1), (2, .int x2)]) hx hb dX4_readCond_60 hl (k := 3) rfl (by rw [e9]; rfl) (by decide) rfl (fun ls hl => ?_)
        clear e9
        refine lv_goto (tgt := 20) hx hb dX4_readCond_63 (by decide) ?_
        exact hk20 x1 x2 x3_7 u_5 _ _ _ hf hw (lv_sub hl [1, 2, 3, 0] rfl)
      · replace hf := hf.2 hc
        clear hc
        refine lv_iconst (v := (0 : Int32)) hx hb dX4_readCond_48 (by decide) ?_
        exact th_zret C hw hf dX4_readCond_49
def X_RD_readCond_B_20_lp (RO RC : Int32 → xs_St → (Int32 → xs_St → Prop) → Prop) (K : Int32 → xs_St → Prop) (k2 : Int32 → Int32 → xs_St → Prop) : Nat → Int32 → Int32 → Int32 → xs_St → Prop
  | 0, _, _, _, _ => False
  | n + 1, x1, x2, x3, u => X_RD_readCond_B_20 RO RC K k2 (X_RD_readCond_B_20_lp RO RC K k2 n) x1 x2 x3 u
set_option maxHeartbeats 4000000 in
set_option maxRecDepth 100000 in
theorem X_RD_readCond_B_20_lw {d9 : Nat} (hd9 : 12 ≤ d9) {RO RC : Int32 → xs_St → (Int32 → xs_St → Prop) → Prop} (hRO : ∀ {a1 : Int32} {u : xs_St} {K : Int32 → xs_St → Prop}, RO a1 u K → th_Ci l yX4_readOne cX4_readOne 3 (some .boolean) d9 0 0 (dC, dI) (th_ty cs) (xE ad ak) (wX cs ad q v v) [.ref (q 299), .int a1] u K) (hRC : ∀ {a1 : Int32} {u : xs_St} {K : Int32 → xs_St → Prop}, RC a1 u K → th_Ci l yX4_readCond cX4_readCond 4 (some .boolean) d9 0 0 (dC, dI) (th_ty cs) (xE ad ak) (wX cs ad q v v) [.ref (q 299), .int a1] u K) {K : Int32 → xs_St → Prop} {k2 : Int32 → Int32 → xs_St → Prop} (C : th_Cx p s m args meth c cX4_readCond RX4 4 (some .boolean) (dC, dI) (th_ty cs) (xE ad ak) A) (hk2 : ∀ (x1 : Int32) (x2 : Int32) (u : xs_St) (H : Heap) (locs : List Loc) (ls : Array Slot), k2 x1 x2 u → th_wI (dC, dI) (wX cs ad q v v) A s.heap u H locs → lv_has ls 4 [(0, .ref (q 299)), (1, .int x1), (2, .int x2)] → W p l e (th_rm (d9 + 1) 0 0) s m args below meth c H locs 0 0 (MQ below (va_Qi K (th_Post (dC, dI) (wX cs ad q v v) A) A) args s 0 0 A) (F0 m 2 ls [])) (n : Nat) : ∀ (x1 : Int32) (x2 : Int32) (x3 : Int32) (u : xs_St) (H : Heap) (locs : List Loc) (ls : Array Slot), X_RD_readCond_B_20_lp RO RC K k2 n x1 x2 x3 u → th_wI (dC, dI) (wX cs ad q v v) A s.heap u H locs → lv_has ls 4 [(0, .ref (q 299)), (1, .int x1), (2, .int x2), (3, .int x3)] → W p l e (th_rm (d9 + 1) 0 0) s m args below meth c H locs 0 0 (MQ below (va_Qi K (th_Post (dC, dI) (wX cs ad q v v) A) A) args s 0 0 A) (F0 m 20 ls []) := by
  induction n with
  | zero => intro x1 x2 x3 u H locs ls hf; exact hf.elim
  | succ n ih =>
    intro x1 x2 x3 u H locs ls hf hw hl
    exact X_RD_readCond_B_20_w hd9 hRO hRC C hk2 ih x1 x2 x3 u H locs ls hf hw hl
def X_RD_readCond_B_2 (RO RC : Int32 → xs_St → (Int32 → xs_St → Prop) → Prop) (K : Int32 → xs_St → Prop) (k2 : Int32 → Int32 → xs_St → Prop) (x1 : Int32) (x2 : Int32) (u : xs_St) : Prop :=
  (((40 : Int32) < x2 → X_RD_faulty (4 : Int32) u (fun r_2 u_1 => ((r_2 = 0 ∨ r_2 = 1) ∧ K r_2 u_1))) ∧ (¬ (40 : Int32) < x2 → RO x1 u (fun r_4 u_3 => ((¬ r_4 = 0 → ∃ n, X_RD_readCond_B_20_lp RO RC K k2 n x1 x2 (0 : Int32) u_3) ∧ (r_4 = 0 → (((0 : Int32) = 0 ∨ (0 : Int32) = 1) ∧ K (0 : Int32) u_3))))))
set_option maxHeartbeats 4000000 in
set_option maxRecDepth 100000 in
theorem X_RD_readCond_B_2_w {d9 : Nat} (hd9 : 12 ≤ d9) {RO RC : Int32 → xs_St → (Int32 → xs_St → Prop) → Prop} (hRO : ∀ {a1 : Int32} {u : xs_St} {K : Int32 → xs_St → Prop}, RO a1 u K → th_Ci l yX4_readOne cX4_readOne 3 (some .boolean) d9 0 0 (dC, dI) (th_ty cs) (xE ad ak) (wX cs ad q v v) [.ref (q 299), .int a1] u K) (hRC : ∀ {a1 : Int32} {u : xs_St} {K : Int32 → xs_St → Prop}, RC a1 u K → th_Ci l yX4_readCond cX4_readCond 4 (some .boolean) d9 0 0 (dC, dI) (th_ty cs) (xE ad ak) (wX cs ad q v v) [.ref (q 299), .int a1] u K) {K : Int32 → xs_St → Prop} {k2 : Int32 → Int32 → xs_St → Prop} (C : th_Cx p s m args meth c cX4_readCond RX4 4 (some .boolean) (dC, dI) (th_ty cs) (xE ad ak) A) (hk2 : ∀ (x1 : Int32) (x2 : Int32) (u : xs_St) (H : Heap) (locs : List Loc) (ls : Array Slot), k2 x1 x2 u → th_wI (dC, dI) (wX cs ad q v v) A s.heap u H locs → lv_has ls 4 [(0, .ref (q 299)), (1, .int x1), (2, .int x2)] → W p l e (th_rm (d9 + 1) 0 0) s m args below meth c H locs 0 0 (MQ below (va_Qi K (th_Post (dC, dI) (wX cs ad q v v) A) A) args s 0 0 A) (F0 m 2 ls [])) (x1 : Int32) (x2 : Int32) (u : xs_St) (H : Heap) (locs : List Loc) (ls : Array Slot) (hf : X_RD_readCond_B_2 RO RC K k2 x1 x2 u) (hw : th_wI (dC, dI) (wX cs ad q v v) A s.heap u H locs) (hl : lv_has ls 4 [(0, .ref (q 299)), (1, .int x1), (2, .int x2)]) : W p l e (th_rm (d9 + 1) 0 0) s m args below meth c H locs 0 0 (MQ below (va_Qi K (th_Post (dC, dI) (wX cs ad q v v) A) A) args s 0 0 A) (F0 m 2 ls []) := by
  have hx := C.1
  have hb := C.2.1
  unfold X_RD_readCond_B_2 at hf
  refine lv_iload_n hx hb dX4_readCond_2 rfl (lv_at hl 2 rfl) ?_
  refine lv_bipush (v := (40 : Int32)) hx hb dX4_readCond_3 (by decide) ?_
  refine lv_icmp_gt (tgt := 102) hx hb dX4_readCond_5 (by decide) (fun hc => ?_) (fun hc => ?_)
  · replace hf := hf.1 hc
    clear hc
    refine lv_aload_n hx hb dX4_readCond_102 rfl (lv_at hl 0 rfl) ?_
    refine lv_iconst (v := (4 : Int32)) hx hb dX4_readCond_103 (by decide) ?_
    refine th_callVi (As := [.int (4 : Int32)]) (rest := []) C lkX4_99 (X_RD_faulty_c hf) hw (xRc_RD C hw) rfl rfl ⟨by simp only [th_rm]; omega, by simp only [th_rm]; omega⟩ hl.1 (Nat.le_of_ble_eq_true rfl) ⟨Nat.le_of_ble_eq_true rfl, Nat.le_of_ble_eq_true rfl⟩ dX4_readCond_104 (fun r_2 u_1 H locs hf hw => ?_)
    exact th_zret C hw hf dX4_readCond_107
  · replace hf := hf.2 hc
    clear hc
    refine lv_aload_n hx hb dX4_readCond_8 rfl (lv_at hl 0 rfl) ?_
    refine lv_iload_n hx hb dX4_readCond_9 rfl (lv_at hl 1 rfl) ?_
    refine th_callVi (As := [.int x1]) (rest := []) C lkX4_240 (hRO hf) hw (xRc_RD C hw) rfl rfl ⟨by simp only [th_rm]; omega, by simp only [th_rm]; omega⟩ hl.1 (Nat.le_of_ble_eq_true rfl) ⟨Nat.le_of_ble_eq_true rfl, Nat.le_of_ble_eq_true rfl⟩ dX4_readCond_10 (fun r_4 u_3 H locs hf hw => ?_)
    refine lv_if_ne (tgt := 18) hx hb dX4_readCond_13 (by decide) (fun hc => ?_) (fun hc => ?_)
    · replace hf := hf.1 hc
      clear hc
      refine lv_iconst (v := (0 : Int32)) hx hb dX4_readCond_18 (by decide) ?_
      refine lv_istore_n (lv' := [(3, .int (0 : Int32)), (0, .ref (q 299)), (1, .int x1), (2, .int x2)]) hx hb dX4_readCond_19 rfl hl (by decide) rfl (fun ls hl => ?_)
      obtain ⟨n, hf⟩ := hf
      exact X_RD_readCond_B_20_lw hd9 hRO hRC C hk2 n x1 x2 (0 : Int32) u_3 _ _ _ hf hw (lv_sub hl [1, 2, 3, 0] rfl)
    · replace hf := hf.2 hc
      clear hc
      refine lv_iconst (v := (0 : Int32)) hx hb dX4_readCond_16 (by decide) ?_
      exact th_zret C hw hf dX4_readCond_17
def X_RD_readCond_B_2_lp (RO RC : Int32 → xs_St → (Int32 → xs_St → Prop) → Prop) (K : Int32 → xs_St → Prop) : Nat → Int32 → Int32 → xs_St → Prop
  | 0, _, _, _ => False
  | n + 1, x1, x2, u => X_RD_readCond_B_2 RO RC K (X_RD_readCond_B_2_lp RO RC K n) x1 x2 u
set_option maxHeartbeats 4000000 in
set_option maxRecDepth 100000 in
theorem X_RD_readCond_B_2_lw {d9 : Nat} (hd9 : 12 ≤ d9) {RO RC : Int32 → xs_St → (Int32 → xs_St → Prop) → Prop} (hRO : ∀ {a1 : Int32} {u : xs_St} {K : Int32 → xs_St → Prop}, RO a1 u K → th_Ci l yX4_readOne cX4_readOne 3 (some .boolean) d9 0 0 (dC, dI) (th_ty cs) (xE ad ak) (wX cs ad q v v) [.ref (q 299), .int a1] u K) (hRC : ∀ {a1 : Int32} {u : xs_St} {K : Int32 → xs_St → Prop}, RC a1 u K → th_Ci l yX4_readCond cX4_readCond 4 (some .boolean) d9 0 0 (dC, dI) (th_ty cs) (xE ad ak) (wX cs ad q v v) [.ref (q 299), .int a1] u K) {K : Int32 → xs_St → Prop} (C : th_Cx p s m args meth c cX4_readCond RX4 4 (some .boolean) (dC, dI) (th_ty cs) (xE ad ak) A) (n : Nat) : ∀ (x1 : Int32) (x2 : Int32) (u : xs_St) (H : Heap) (locs : List Loc) (ls : Array Slot), X_RD_readCond_B_2_lp RO RC K n x1 x2 u → th_wI (dC, dI) (wX cs ad q v v) A s.heap u H locs → lv_has ls 4 [(0, .ref (q 299)), (1, .int x1), (2, .int x2)] → W p l e (th_rm (d9 + 1) 0 0) s m args below meth c H locs 0 0 (MQ below (va_Qi K (th_Post (dC, dI) (wX cs ad q v v) A) A) args s 0 0 A) (F0 m 2 ls []) := by
  induction n with
  | zero => intro x1 x2 u H locs ls hf; exact hf.elim
  | succ n ih =>
    intro x1 x2 u H locs ls hf hw hl
    exact X_RD_readCond_B_2_w hd9 hRO hRC C ih x1 x2 u H locs ls hf hw hl
def X_RD_readCond_B (RO RC : Int32 → xs_St → (Int32 → xs_St → Prop) → Prop) (a1 : Int32) (u : xs_St) (K : Int32 → xs_St → Prop) : Prop :=
  ∃ n, X_RD_readCond_B_2_lp RO RC K n a1 (0 : Int32) u
set_option maxHeartbeats 4000000 in
set_option maxRecDepth 100000 in
theorem X_RD_readCond_B_c {l : Launch} {dC : Nat → ClassId} {dI : Nat → Nat → Nat} {cs : Nat → ClassId} {ad ak : Nat → Nat} {q v : Nat → Nat} {d9 : Nat} (hd9 : 12 ≤ d9) {RO RC : Int32 → xs_St → (Int32 → xs_St → Prop) → Prop} (hRO : ∀ {a1 : Int32} {u : xs_St} {K : Int32 → xs_St → Prop}, RO a1 u K → th_Ci l yX4_readOne cX4_readOne 3 (some .boolean) d9 0 0 (dC, dI) (th_ty cs) (xE ad ak) (wX cs ad q v v) [.ref (q 299), .int a1] u K) (hRC : ∀ {a1 : Int32} {u : xs_St} {K : Int32 → xs_St → Prop}, RC a1 u K → th_Ci l yX4_readCond cX4_readCond 4 (some .boolean) d9 0 0 (dC, dI) (th_ty cs) (xE ad ak) (wX cs ad q v v) [.ref (q 299), .int a1] u K) {a1 : Int32} {u : xs_St} {K : Int32 → xs_St → Prop} (hf : X_RD_readCond_B RO RC a1 u K) : th_Ci l yX4_readCond cX4_readCond 4 (some .boolean) (d9 + 1) 0 0 (dC, dI) (th_ty cs) (xE ad ak) (wX cs ad q v v) [.ref (q 299), .int a1] u K := by
  refine th_ofi (by decide) (Nat.le_of_ble_eq_true rfl) (xE_ok ad ak) ?_
  intro p e s m below meth c A ls C hw hl
  have C : th_Cx p s m _ meth c cX4_readCond RX4 4 (some .boolean) (dC, dI) (th_ty cs) (xE ad ak) A := C
  have hl : lv_has ls 4 [(0, .ref (q 299)), (1, .int a1)] := hl
  generalize (List.toArray _ : Array Value) = args at C ⊢
  have hx := C.1
  have hb := C.2.1
  unfold X_RD_readCond_B at hf
  refine lv_iconst (v := (0 : Int32)) hx hb dX4_readCond_0 (by decide) ?_
  refine lv_istore_n (lv' := [(2, .int (0 : Int32)), (0, .ref (q 299)), (1, .int a1)]) hx hb dX4_readCond_1 rfl hl (by decide) rfl (fun ls hl => ?_)
  obtain ⟨n, hf⟩ := hf
  exact X_RD_readCond_B_2_lw hd9 hRO hRC C n a1 (0 : Int32) u _ _ _ hf hw (lv_sub hl [1, 2, 0] rfl)
def X_RD_rec : Nat → (Int32 → xs_St → (Int32 → xs_St → Prop) → Prop) × (Int32 → xs_St → (Int32 → xs_St → Prop) → Prop)
  | 0 => (fun _ _ _ => False, fun _ _ _ => False)
  | n + 1 => (X_RD_readOne_B (X_RD_rec n).1 (X_RD_rec n).2, X_RD_readCond_B (X_RD_rec n).1 (X_RD_rec n).2)
theorem X_RD_rec_c {l : Launch} {dC : Nat → ClassId} {dI : Nat → Nat → Nat} {cs : Nat → ClassId} {ad ak : Nat → Nat} {q v : Nat → Nat} (n : Nat) : (∀ (a1 : Int32) (u : xs_St) (K : Int32 → xs_St → Prop), (X_RD_rec n).1 a1 u K → th_Ci l yX4_readOne cX4_readOne 3 (some .boolean) (12 + n) 0 0 (dC, dI) (th_ty cs) (xE ad ak) (wX cs ad q v v) [.ref (q 299), .int a1] u K) ∧ (∀ (a1 : Int32) (u : xs_St) (K : Int32 → xs_St → Prop), (X_RD_rec n).2 a1 u K → th_Ci l yX4_readCond cX4_readCond 4 (some .boolean) (12 + n) 0 0 (dC, dI) (th_ty cs) (xE ad ak) (wX cs ad q v v) [.ref (q 299), .int a1] u K) := by
  induction n with
  | zero => exact ⟨fun _ _ _ hf => hf.elim, fun _ _ _ hf => hf.elim⟩
  | succ n ih => exact ⟨fun a u K hf => X_RD_readOne_B_c (d9 := 12 + n) (by omega) (fun h => ih.1 _ _ _ h) (fun h => ih.2 _ _ _ h) hf, fun a u K hf => X_RD_readCond_B_c (d9 := 12 + n) (by omega) (fun h => ih.1 _ _ _ h) (fun h => ih.2 _ _ _ h) hf⟩
def X_RD_readCond (a1 : Int32) (u : xs_St) (K : Int32 → xs_St → Prop) : Prop := (X_RD_rec 26).2 a1 u K
theorem X_RD_readCond_c {l : Launch} {dC : Nat → ClassId} {dI : Nat → Nat → Nat} {cs : Nat → ClassId} {ad ak : Nat → Nat} {q v : Nat → Nat} {a1 : Int32} {u : xs_St} {K : Int32 → xs_St → Prop} (hf : X_RD_readCond a1 u K) : th_Ci l yX4_readCond cX4_readCond 4 (some .boolean) 38 0 0 (dC, dI) (th_ty cs) (xE ad ak) (wX cs ad q v v) [.ref (q 299), .int a1] u K := (X_RD_rec_c 26).2 a1 u K hf
/-! X_RD_readLine -/
theorem dX4_readLine_0 : decode cX4_readLine 0 = .ok (.aload_n 0, 1) := by decide +kernel
theorem dX4_readLine_1 : decode cX4_readLine 1 = .ok (.getfield 42, 3) := by decide +kernel
theorem dX4_readLine_4 : decode cX4_readLine 4 = .ok (.astore_n 1, 1) := by decide +kernel
theorem dX4_readLine_5 : decode cX4_readLine 5 = .ok (.aload_n 1, 1) := by decide +kernel
theorem dX4_readLine_6 : decode cX4_readLine 6 = .ok (.invokestatic 168, 3) := by decide +kernel
theorem dX4_readLine_9 : decode cX4_readLine 9 = .ok (.ifCond .ne 9, 3) := by decide +kernel
theorem dX4_readLine_12 : decode cX4_readLine 12 = .ok (.aload_n 0, 1) := by decide +kernel
theorem dX4_readLine_13 : decode cX4_readLine 13 = .ok (.iconst 1, 1) := by decide +kernel
theorem dX4_readLine_14 : decode cX4_readLine 14 = .ok (.invokevirtual 99, 3) := by decide +kernel
theorem dX4_readLine_17 : decode cX4_readLine 17 = .ok (.ireturn, 1) := by decide +kernel
theorem dX4_readLine_18 : decode cX4_readLine 18 = .ok (.aload_n 0, 1) := by decide +kernel
theorem dX4_readLine_19 : decode cX4_readLine 19 = .ok (.getfield 31, 3) := by decide +kernel
theorem dX4_readLine_22 : decode cX4_readLine 22 = .ok (.getfield 171, 3) := by decide +kernel
theorem dX4_readLine_25 : decode cX4_readLine 25 = .ok (.bipush 24, 2) := by decide +kernel
theorem dX4_readLine_27 : decode cX4_readLine 27 = .ok (.if_icmp .ge 11, 3) := by decide +kernel
theorem dX4_readLine_30 : decode cX4_readLine 30 = .ok (.aload_n 0, 1) := by decide +kernel
theorem dX4_readLine_31 : decode cX4_readLine 31 = .ok (.aload_n 1, 1) := by decide +kernel
theorem dX4_readLine_32 : decode cX4_readLine 32 = .ok (.invokevirtual 174, 3) := by decide +kernel
theorem dX4_readLine_35 : decode cX4_readLine 35 = .ok (.ifCond .eq 9, 3) := by decide +kernel
theorem dX4_readLine_38 : decode cX4_readLine 38 = .ok (.aload_n 0, 1) := by decide +kernel
theorem dX4_readLine_39 : decode cX4_readLine 39 = .ok (.iconst 3, 1) := by decide +kernel
theorem dX4_readLine_40 : decode cX4_readLine 40 = .ok (.invokevirtual 99, 3) := by decide +kernel
theorem dX4_readLine_43 : decode cX4_readLine 43 = .ok (.ireturn, 1) := by decide +kernel
theorem dX4_readLine_44 : decode cX4_readLine 44 = .ok (.aload_n 0, 1) := by decide +kernel
theorem dX4_readLine_45 : decode cX4_readLine 45 = .ok (.getfield 31, 3) := by decide +kernel
theorem dX4_readLine_48 : decode cX4_readLine 48 = .ok (.dup, 1) := by decide +kernel
theorem dX4_readLine_49 : decode cX4_readLine 49 = .ok (.getfield 171, 3) := by decide +kernel
theorem dX4_readLine_52 : decode cX4_readLine 52 = .ok (.iconst 1, 1) := by decide +kernel
theorem dX4_readLine_53 : decode cX4_readLine 53 = .ok (.iadd, 1) := by decide +kernel
theorem dX4_readLine_54 : decode cX4_readLine 54 = .ok (.putfield 171, 3) := by decide +kernel
theorem dX4_readLine_57 : decode cX4_readLine 57 = .ok (.aload_n 0, 1) := by decide +kernel
theorem dX4_readLine_58 : decode cX4_readLine 58 = .ok (.invokevirtual 74, 3) := by decide +kernel
theorem dX4_readLine_61 : decode cX4_readLine 61 = .ok (.aload_n 1, 1) := by decide +kernel
theorem dX4_readLine_62 : decode cX4_readLine 62 = .ok (.getstatic 177, 3) := by decide +kernel
theorem dX4_readLine_65 : decode cX4_readLine 65 = .ok (.if_acmp .ne 8, 3) := by decide +kernel
theorem dX4_readLine_68 : decode cX4_readLine 68 = .ok (.aload_n 0, 1) := by decide +kernel
theorem dX4_readLine_69 : decode cX4_readLine 69 = .ok (.invokevirtual 180, 3) := by decide +kernel
theorem dX4_readLine_72 : decode cX4_readLine 72 = .ok (.ireturn, 1) := by decide +kernel
theorem dX4_readLine_73 : decode cX4_readLine 73 = .ok (.aload_n 1, 1) := by decide +kernel
theorem dX4_readLine_74 : decode cX4_readLine 74 = .ok (.getstatic 183, 3) := by decide +kernel
theorem dX4_readLine_77 : decode cX4_readLine 77 = .ok (.if_acmp .ne 8, 3) := by decide +kernel
theorem dX4_readLine_80 : decode cX4_readLine 80 = .ok (.aload_n 0, 1) := by decide +kernel
theorem dX4_readLine_81 : decode cX4_readLine 81 = .ok (.invokevirtual 186, 3) := by decide +kernel
theorem dX4_readLine_84 : decode cX4_readLine 84 = .ok (.ireturn, 1) := by decide +kernel
theorem dX4_readLine_85 : decode cX4_readLine 85 = .ok (.aload_n 1, 1) := by decide +kernel
theorem dX4_readLine_86 : decode cX4_readLine 86 = .ok (.getstatic 189, 3) := by decide +kernel
theorem dX4_readLine_89 : decode cX4_readLine 89 = .ok (.if_acmp .eq 9, 3) := by decide +kernel
theorem dX4_readLine_92 : decode cX4_readLine 92 = .ok (.aload_n 0, 1) := by decide +kernel
theorem dX4_readLine_93 : decode cX4_readLine 93 = .ok (.aload_n 1, 1) := by decide +kernel
theorem dX4_readLine_94 : decode cX4_readLine 94 = .ok (.invokevirtual 192, 3) := by decide +kernel
theorem dX4_readLine_97 : decode cX4_readLine 97 = .ok (.ireturn, 1) := by decide +kernel
theorem dX4_readLine_98 : decode cX4_readLine 98 = .ok (.aload_n 0, 1) := by decide +kernel
theorem dX4_readLine_99 : decode cX4_readLine 99 = .ok (.iconst 1, 1) := by decide +kernel
theorem dX4_readLine_100 : decode cX4_readLine 100 = .ok (.invokevirtual 195, 3) := by decide +kernel
theorem dX4_readLine_103 : decode cX4_readLine 103 = .ok (.ifCond .eq 23, 3) := by decide +kernel
theorem dX4_readLine_106 : decode cX4_readLine 106 = .ok (.aload_n 0, 1) := by decide +kernel
theorem dX4_readLine_107 : decode cX4_readLine 107 = .ok (.getstatic 198, 3) := by decide +kernel
theorem dX4_readLine_110 : decode cX4_readLine 110 = .ok (.invokevirtual 90, 3) := by decide +kernel
theorem dX4_readLine_113 : decode cX4_readLine 113 = .ok (.ifCond .eq 13, 3) := by decide +kernel
theorem dX4_readLine_116 : decode cX4_readLine 116 = .ok (.aload_n 0, 1) := by decide +kernel
theorem dX4_readLine_117 : decode cX4_readLine 117 = .ok (.iconst 1, 1) := by decide +kernel
theorem dX4_readLine_118 : decode cX4_readLine 118 = .ok (.bipush 9, 2) := by decide +kernel
theorem dX4_readLine_120 : decode cX4_readLine 120 = .ok (.invokevirtual 161, 3) := by decide +kernel
theorem dX4_readLine_123 : decode cX4_readLine 123 = .ok (.ifCond .ne 5, 3) := by decide +kernel
theorem dX4_readLine_126 : decode cX4_readLine 126 = .ok (.iconst 0, 1) := by decide +kernel
theorem dX4_readLine_127 : decode cX4_readLine 127 = .ok (.ireturn, 1) := by decide +kernel
theorem dX4_readLine_128 : decode cX4_readLine 128 = .ok (.aload_n 0, 1) := by decide +kernel
theorem dX4_readLine_129 : decode cX4_readLine 129 = .ok (.getfield 31, 3) := by decide +kernel
theorem dX4_readLine_132 : decode cX4_readLine 132 = .ok (.aload_n 0, 1) := by decide +kernel
theorem dX4_readLine_133 : decode cX4_readLine 133 = .ok (.getfield 45, 3) := by decide +kernel
theorem dX4_readLine_136 : decode cX4_readLine 136 = .ok (.invokevirtual 201, 3) := by decide +kernel
theorem dX4_readLine_139 : decode cX4_readLine 139 = .ok (.iconst 1, 1) := by decide +kernel
theorem dX4_readLine_140 : decode cX4_readLine 140 = .ok (.ireturn, 1) := by decide +kernel
def X_RD_readLine_38 (K : Int32 → xs_St → Prop) (u : xs_St) : Prop :=
  X_RD_faulty (3 : Int32) u (fun r_2 u_1 => ((r_2 = 0 ∨ r_2 = 1) ∧ K r_2 u_1))
set_option maxHeartbeats 4000000 in
set_option maxRecDepth 100000 in
theorem X_RD_readLine_38_w {K : Int32 → xs_St → Prop} (C : th_Cx p s m args meth c cX4_readLine RX4 2 (some .boolean) (dC, dI) (th_ty cs) (xE ad ak) A) (u : xs_St) (H : Heap) (locs : List Loc) (ls : Array Slot) (hf : X_RD_readLine_38 K u) (hw : th_wI (dC, dI) (wX cs ad q v v) A s.heap u H locs) (hl : lv_has ls 2 [(0, .ref (q 299))]) : W p l e (th_rm 39 0 0) s m args below meth c H locs 0 0 (MQ below (va_Qi K (th_Post (dC, dI) (wX cs ad q v v) A) A) args s 0 0 A) (F0 m 38 ls []) := by
  have hx := C.1
  have hb := C.2.1
  unfold X_RD_readLine_38 at hf
  refine lv_aload_n hx hb dX4_readLine_38 rfl (lv_at hl 0 rfl) ?_
  refine lv_iconst (v := (3 : Int32)) hx hb dX4_readLine_39 (by decide) ?_
  refine th_callVi (As := [.int (3 : Int32)]) (rest := []) C lkX4_99 (X_RD_faulty_c hf) hw (xRc_RD C hw) rfl rfl ⟨Nat.le_of_ble_eq_true rfl, Nat.le_of_ble_eq_true rfl⟩ hl.1 (Nat.le_of_ble_eq_true rfl) ⟨Nat.le_of_ble_eq_true rfl, Nat.le_of_ble_eq_true rfl⟩ dX4_readLine_40 (fun r_2 u_1 H locs hf hw => ?_)
  exact th_zret C hw hf dX4_readLine_43
def X_RD_readLine_126 (K : Int32 → xs_St → Prop) (u : xs_St) : Prop :=
  (((0 : Int32) = 0 ∨ (0 : Int32) = 1) ∧ K (0 : Int32) u)
set_option maxHeartbeats 4000000 in
set_option maxRecDepth 100000 in
theorem X_RD_readLine_126_w {K : Int32 → xs_St → Prop} (C : th_Cx p s m args meth c cX4_readLine RX4 2 (some .boolean) (dC, dI) (th_ty cs) (xE ad ak) A) (u : xs_St) (H : Heap) (locs : List Loc) (ls : Array Slot) (hf : X_RD_readLine_126 K u) (hw : th_wI (dC, dI) (wX cs ad q v v) A s.heap u H locs) (hl : lv_has ls 2 []) : W p l e (th_rm 39 0 0) s m args below meth c H locs 0 0 (MQ below (va_Qi K (th_Post (dC, dI) (wX cs ad q v v) A) A) args s 0 0 A) (F0 m 126 ls []) := by
  have hx := C.1
  have hb := C.2.1
  unfold X_RD_readLine_126 at hf
  refine lv_iconst (v := (0 : Int32)) hx hb dX4_readLine_126 (by decide) ?_
  exact th_zret C hw hf dX4_readLine_127
def X_RD_readLine (u : xs_St) (K : Int32 → xs_St → Prop) : Prop :=
  X_RD_beginsLine (xr u 206) u (fun r_2 u_1 => ((¬ r_2 = 0 → (((24 : Int32) ≤ (xi u_1 404) → X_RD_readLine_38 K u_1) ∧ (¬ (24 : Int32) ≤ (xi u_1 404) → X_RD_isTooOften (xr u 206) u_1 (fun r_4 u_3 => ((r_4 = 0 → ∀ u_5 : xs_St, u_5 = xs_si u_3 404 ((xi u_3 404) + (1 : Int32)) → X_RD_advance u_5 (fun u_6 => ((¬ (xr u 206) = (some 10) → ((¬ (xr u 206) = (some 12) → (((xr u 206) = (some 17) → X_RD_readCond (1 : Int32) u_6 (fun r_9 u_8 => ((r_9 = 0 → X_RD_readLine_126 K u_8) ∧ (¬ r_9 = 0 → X_RD_take (some 18) u_8 (fun r_11 u_10 => ((r_11 = 0 → X_RD_readLine_126 K u_10) ∧ (¬ r_11 = 0 → X_RD_takeNumber (1 : Int32) (9 : Int32) u_10 (fun r_13 u_12 => ((¬ r_13 = 0 → X_T_addAlarm_B (xi u_12 207) u_12 (fun u_14 => (((1 : Int32) = 0 ∨ (1 : Int32) = 1) ∧ K (1 : Int32) u_14))) ∧ (r_13 = 0 → X_RD_readLine_126 K u_12)))))))))) ∧ (¬ (xr u 206) = (some 17) → X_RD_readSetting (xr u 206) u_6 (fun r_17 u_16 => ((r_17 = 0 ∨ r_17 = 1) ∧ K r_17 u_16))))) ∧ ((xr u 206) = (some 12) → X_RD_readHolds u_6 (fun r_19 u_18 => ((r_19 = 0 ∨ r_19 = 1) ∧ K r_19 u_18))))) ∧ ((xr u 206) = (some 10) → X_RD_readFixed u_6 (fun r_21 u_20 => ((r_21 = 0 ∨ r_21 = 1) ∧ K r_21 u_20)))))) ∧ (¬ r_4 = 0 → X_RD_readLine_38 K u_3)))))) ∧ (r_2 = 0 → X_RD_faulty (1 : Int32) u_1 (fun r_23 u_22 => ((r_23 = 0 ∨ r_23 = 1) ∧ K r_23 u_22)))))
set_option maxHeartbeats 4000000 in
set_option maxRecDepth 100000 in
theorem X_RD_readLine_c {l : Launch} {dC : Nat → ClassId} {dI : Nat → Nat → Nat} {cs : Nat → ClassId} {ad ak : Nat → Nat} {q v : Nat → Nat} {u : xs_St} {K : Int32 → xs_St → Prop} (hf : X_RD_readLine u K) : th_Ci l yX4_readLine cX4_readLine 2 (some .boolean) 39 0 0 (dC, dI) (th_ty cs) (xE ad ak) (wX cs ad q v v) [.ref (q 299)] u K := by
  refine th_ofi (by decide) (Nat.le_of_ble_eq_true rfl) (xE_ok ad ak) ?_
  intro p e s m below meth c A ls C hw hl
  have C : th_Cx p s m _ meth c cX4_readLine RX4 2 (some .boolean) (dC, dI) (th_ty cs) (xE ad ak) A := C
  have hl : lv_has ls 2 [(0, .ref (q 299))] := hl
  generalize (List.toArray _ : Array Value) = args at C ⊢
  have hx := C.1
  have hb := C.2.1
  unfold X_RD_readLine at hf
  refine lv_aload_n hx hb dX4_readLine_0 rfl (lv_at hl 0 rfl) ?_
  refine xg_206 C hw (C.2.2.2.2.1 _ hwF_X4_42) dX4_readLine_1 ?_
  refine th_astore_n (r := ((xr u 206)).map ad) (lv' := [(1, va_re ad (xr u 206)), (0, .ref (q 299))]) hx hb dX4_readLine_4 rfl hl (by decide) rfl (fun ls hl => ?_)
  refine th_aload_n hx hb dX4_readLine_5 rfl (lv_at hl 0 rfl) ?_
  refine th_callSi (As := [va_re ad (xr u 206)]) (rest := []) C lkX4_168 (X_RD_beginsLine_c hf) hw rfl rfl ⟨Nat.le_of_ble_eq_true rfl, Nat.le_of_ble_eq_true rfl⟩ hl.1 (Nat.le_of_ble_eq_true rfl) ⟨Nat.le_of_ble_eq_true rfl, Nat.le_of_ble_eq_true rfl⟩ dX4_readLine_6 (fun r_2 u_1 H locs hf hw => ?_)
  refine lv_if_ne (tgt := 18) hx hb dX4_readLine_9 (by decide) (fun hc => ?_) (fun hc => ?_)
  · replace hf := hf.1 hc
    clear hc
    refine lv_aload_n hx hb dX4_readLine_18 rfl (lv_at hl 1 rfl) ?_
    refine xg_204 C hw (C.2.2.2.2.1 _ hwF_X4_31) dX4_readLine_19 ?_
    refine xgn_404 C hw (va_Nw.use rfl (xN C hwG_X4_171)) dX4_readLine_22 ?_
    refine lv_bipush (v := (24 : Int32)) hx hb dX4_readLine_25 (by decide) ?_
    refine lv_icmp_ge (tgt := 38) hx hb dX4_readLine_27 (by decide) (fun hc => ?_) (fun hc => ?_)
    · replace hf := hf.1 hc
      clear hc
      exact X_RD_readLine_38_w C  u_1 _ _ _ hf hw (lv_sub hl [1] rfl)
    · replace hf := hf.2 hc
      clear hc
      refine lv_aload_n hx hb dX4_readLine_30 rfl (lv_at hl 1 rfl) ?_
      refine th_aload_n hx hb dX4_readLine_31 rfl (lv_at hl 0 rfl) ?_
      refine th_callVi (As := [va_re ad (xr u 206)]) (rest := []) C lkX4_174 (X_RD_isTooOften_c hf) hw (xRc_RD C hw) rfl rfl ⟨Nat.le_of_ble_eq_true rfl, Nat.le_of_ble_eq_true rfl⟩ hl.1 (Nat.le_of_ble_eq_true rfl) ⟨Nat.le_of_ble_eq_true rfl, Nat.le_of_ble_eq_true rfl⟩ dX4_readLine_32 (fun r_4 u_3 H locs hf hw => ?_)
      refine lv_if_eq (tgt := 44) hx hb dX4_readLine_35 (by decide) (fun hc => ?_) (fun hc => ?_)
      · replace hf := hf.1 hc
        clear hc
        refine lv_aload_n hx hb dX4_readLine_44 rfl (lv_at hl 1 rfl) ?_
        refine xg_204 C hw (C.2.2.2.2.1 _ hwF_X4_31) dX4_readLine_45 ?_
        refine lv_dup hx hb dX4_readLine_48 rfl ?_
        refine xgn_404 C hw (va_Nw.use rfl (xN C hwG_X4_171)) dX4_readLine_49 ?_
        refine lv_iconst (v := (1 : Int32)) hx hb dX4_readLine_52 (by decide) ?_
        refine lv_iadd hx hb dX4_readLine_53 ?_
        refine xpn_404 C hw (va_Nw.use rfl (xN C hwG_X4_171)) dX4_readLine_54 (fun u_5 e9 H locs hw => ?_)
        replace hf := hf u_5 e9
        clear e9
        refine lv_aload_n hx hb dX4_readLine_57 rfl (lv_at hl 1 rfl) ?_
        refine th_callVv (As := []) (rest := []) C lkX4_74 (X_RD_advance_c hf) hw (xRc_RD C hw) rfl rfl ⟨Nat.le_of_ble_eq_true rfl, Nat.le_of_ble_eq_true rfl⟩ hl.1 (Nat.le_of_ble_eq_true rfl) ⟨Nat.le_of_ble_eq_true rfl, Nat.le_of_ble_eq_true rfl⟩ dX4_readLine_58 (fun u_6 H locs hf hw => ?_)
        refine th_aload_n hx hb dX4_readLine_61 rfl (lv_at hl 0 rfl) ?_
        refine xst C hw 10 (by decide) (C.2.2.2.2.1 _ hwF_X4_177) dX4_readLine_62 ?_
        refine x_acmp_ne (tgt := 73) C dX4_readLine_65 (by decide) (fun hc => ?_) (fun hc => ?_)
        · replace hf := hf.1 hc
          clear hc
          refine th_aload_n hx hb dX4_readLine_73 rfl (lv_at hl 0 rfl) ?_
          refine xst C hw 12 (by decide) (C.2.2.2.2.1 _ hwF_X4_183) dX4_readLine_74 ?_
          refine x_acmp_ne (tgt := 85) C dX4_readLine_77 (by decide) (fun hc => ?_) (fun hc => ?_)
          · replace hf := hf.1 hc
            clear hc
            refine th_aload_n hx hb dX4_readLine_85 rfl (lv_at hl 0 rfl) ?_
            refine xst C hw 17 (by decide) (C.2.2.2.2.1 _ hwF_X4_189) dX4_readLine_86 ?_
            refine x_acmp_eq (tgt := 98) C dX4_readLine_89 (by decide) (fun hc => ?_) (fun hc => ?_)
            · replace hf := hf.1 hc
              clear hc
              refine lv_aload_n hx hb dX4_readLine_98 rfl (lv_at hl 1 rfl) ?_
              refine lv_iconst (v := (1 : Int32)) hx hb dX4_readLine_99 (by decide) ?_
              refine th_callVi (As := [.int (1 : Int32)]) (rest := []) C lkX4_195 (X_RD_readCond_c hf) hw (xRc_RD C hw) rfl rfl ⟨Nat.le_of_ble_eq_true rfl, Nat.le_of_ble_eq_true rfl⟩ hl.1 (Nat.le_of_ble_eq_true rfl) ⟨Nat.le_of_ble_eq_true rfl, Nat.le_of_ble_eq_true rfl⟩ dX4_readLine_100 (fun r_9 u_8 H locs hf hw => ?_)
              refine lv_if_eq (tgt := 126) hx hb dX4_readLine_103 (by decide) (fun hc => ?_) (fun hc => ?_)
              · replace hf := hf.1 hc
                clear hc
                exact X_RD_readLine_126_w C  u_8 _ _ _ hf hw (lv_sub hl [] rfl)
              · replace hf := hf.2 hc
                clear hc
                refine lv_aload_n hx hb dX4_readLine_106 rfl (lv_at hl 1 rfl) ?_
                refine xst C hw 18 (by decide) (C.2.2.2.2.1 _ hwF_X4_198) dX4_readLine_107 ?_
                refine th_callVi (As := [va_re ad (some 18)]) (rest := []) C lkX4_90 (X_RD_take_c hf) hw (xRc_RD C hw) rfl rfl ⟨Nat.le_of_ble_eq_true rfl, Nat.le_of_ble_eq_true rfl⟩ hl.1 (Nat.le_of_ble_eq_true rfl) ⟨Nat.le_of_ble_eq_true rfl, Nat.le_of_ble_eq_true rfl⟩ dX4_readLine_110 (fun r_11 u_10 H locs hf hw => ?_)
                refine lv_if_eq (tgt := 126) hx hb dX4_readLine_113 (by decide) (fun hc => ?_) (fun hc => ?_)
                · replace hf := hf.1 hc
                  clear hc
                  exact X_RD_readLine_126_w C  u_10 _ _ _ hf hw (lv_sub hl [] rfl)
                · replace hf := hf.2 hc
                  clear hc
                  refine lv_aload_n hx hb dX4_readLine_116 rfl (lv_at hl 1 rfl) ?_
                  refine lv_iconst (v := (1 : Int32)) hx hb dX4_readLine_117 (by decide) ?_
                  refine lv_bipush (v := (9 : Int32)) hx hb dX4_readLine_118 (by decide) ?_
                  refine th_callVi (As := [.int (1 : Int32), .int (9 : Int32)]) (rest := []) C lkX4_161 (X_RD_takeNumber_c hf) hw (xRc_RD C hw) rfl rfl ⟨Nat.le_of_ble_eq_true rfl, Nat.le_of_ble_eq_true rfl⟩ hl.1 (Nat.le_of_ble_eq_true rfl) ⟨Nat.le_of_ble_eq_true rfl, Nat.le_of_ble_eq_true rfl⟩ dX4_readLine_120 (fun r_13 u_12 H locs hf hw => ?_)
                  refine lv_if_ne (tgt := 128) hx hb dX4_readLine_123 (by decide) (fun hc => ?_) (fun hc => ?_)
                  · replace hf := hf.1 hc
                    clear hc
                    refine lv_aload_n hx hb dX4_readLine_128 rfl (lv_at hl 1 rfl) ?_
                    refine xg_204 C hw (C.2.2.2.2.1 _ hwF_X4_31) dX4_readLine_129 ?_
                    refine lv_aload_n hx hb dX4_readLine_132 rfl (lv_at hl 1 rfl) ?_
                    refine xg_207 C hw (C.2.2.2.2.1 _ hwF_X4_45) dX4_readLine_133 ?_
                    refine th_callVv (As := [.int (xi u_12 207)]) (rest := []) C lkX4_201 (X_T_addAlarm_B_c hf) hw (xRc_TB C hw) rfl rfl ⟨Nat.le_of_ble_eq_true rfl, Nat.le_of_ble_eq_true rfl⟩ hl.1 (Nat.le_of_ble_eq_true rfl) ⟨Nat.le_of_ble_eq_true rfl, Nat.le_of_ble_eq_true rfl⟩ dX4_readLine_136 (fun u_14 H locs hf hw => ?_)
                    refine lv_iconst (v := (1 : Int32)) hx hb dX4_readLine_139 (by decide) ?_
                    exact th_zret C hw hf dX4_readLine_140
                  · replace hf := hf.2 hc
                    clear hc
                    exact X_RD_readLine_126_w C  u_12 _ _ _ hf hw (lv_sub hl [] rfl)
            · replace hf := hf.2 hc
              clear hc
              refine lv_aload_n hx hb dX4_readLine_92 rfl (lv_at hl 1 rfl) ?_
              refine th_aload_n hx hb dX4_readLine_93 rfl (lv_at hl 0 rfl) ?_
              refine th_callVi (As := [va_re ad (xr u 206)]) (rest := []) C lkX4_192 (X_RD_readSetting_c hf) hw (xRc_RD C hw) rfl rfl ⟨Nat.le_of_ble_eq_true rfl, Nat.le_of_ble_eq_true rfl⟩ hl.1 (Nat.le_of_ble_eq_true rfl) ⟨Nat.le_of_ble_eq_true rfl, Nat.le_of_ble_eq_true rfl⟩ dX4_readLine_94 (fun r_17 u_16 H locs hf hw => ?_)
              exact th_zret C hw hf dX4_readLine_97
          · replace hf := hf.2 hc
            clear hc
            refine lv_aload_n hx hb dX4_readLine_80 rfl (lv_at hl 1 rfl) ?_
            refine th_callVi (As := []) (rest := []) C lkX4_186 (X_RD_readHolds_c hf) hw (xRc_RD C hw) rfl rfl ⟨Nat.le_of_ble_eq_true rfl, Nat.le_of_ble_eq_true rfl⟩ hl.1 (Nat.le_of_ble_eq_true rfl) ⟨Nat.le_of_ble_eq_true rfl, Nat.le_of_ble_eq_true rfl⟩ dX4_readLine_81 (fun r_19 u_18 H locs hf hw => ?_)
            exact th_zret C hw hf dX4_readLine_84
        · replace hf := hf.2 hc
          clear hc
          refine lv_aload_n hx hb dX4_readLine_68 rfl (lv_at hl 1 rfl) ?_
          refine th_callVi (As := []) (rest := []) C lkX4_180 (X_RD_readFixed_c hf) hw (xRc_RD C hw) rfl rfl ⟨Nat.le_of_ble_eq_true rfl, Nat.le_of_ble_eq_true rfl⟩ hl.1 (Nat.le_of_ble_eq_true rfl) ⟨Nat.le_of_ble_eq_true rfl, Nat.le_of_ble_eq_true rfl⟩ dX4_readLine_69 (fun r_21 u_20 H locs hf hw => ?_)
          exact th_zret C hw hf dX4_readLine_72
      · replace hf := hf.2 hc
        clear hc
        exact X_RD_readLine_38_w C  u_3 _ _ _ hf hw (lv_sub hl [1] rfl)
  · replace hf := hf.2 hc
    clear hc
    refine lv_aload_n hx hb dX4_readLine_12 rfl (lv_at hl 1 rfl) ?_
    refine lv_iconst (v := (1 : Int32)) hx hb dX4_readLine_13 (by decide) ?_
    refine th_callVi (As := [.int (1 : Int32)]) (rest := []) C lkX4_99 (X_RD_faulty_c hf) hw (xRc_RD C hw) rfl rfl ⟨Nat.le_of_ble_eq_true rfl, Nat.le_of_ble_eq_true rfl⟩ hl.1 (Nat.le_of_ble_eq_true rfl) ⟨Nat.le_of_ble_eq_true rfl, Nat.le_of_ble_eq_true rfl⟩ dX4_readLine_14 (fun r_23 u_22 H locs hf hw => ?_)
    exact th_zret C hw hf dX4_readLine_17
/-! X_RD_reads -/
theorem dX4_reads_0 : decode cX4_reads 0 = .ok (.aload_n 0, 1) := by decide +kernel
theorem dX4_reads_1 : decode cX4_reads 1 = .ok (.getfield 31, 3) := by decide +kernel
theorem dX4_reads_4 : decode cX4_reads 4 = .ok (.invokevirtual 67, 3) := by decide +kernel
theorem dX4_reads_7 : decode cX4_reads 7 = .ok (.aload_n 0, 1) := by decide +kernel
theorem dX4_reads_8 : decode cX4_reads 8 = .ok (.aload_n 1, 1) := by decide +kernel
theorem dX4_reads_9 : decode cX4_reads 9 = .ok (.invokevirtual 70, 3) := by decide +kernel
theorem dX4_reads_12 : decode cX4_reads 12 = .ok (.aload_n 0, 1) := by decide +kernel
theorem dX4_reads_13 : decode cX4_reads 13 = .ok (.iconst (-1), 1) := by decide +kernel
theorem dX4_reads_14 : decode cX4_reads 14 = .ok (.putfield 35, 3) := by decide +kernel
theorem dX4_reads_17 : decode cX4_reads 17 = .ok (.aload_n 0, 1) := by decide +kernel
theorem dX4_reads_18 : decode cX4_reads 18 = .ok (.invokevirtual 74, 3) := by decide +kernel
theorem dX4_reads_21 : decode cX4_reads 21 = .ok (.aload_n 0, 1) := by decide +kernel
theorem dX4_reads_22 : decode cX4_reads 22 = .ok (.iconst 0, 1) := by decide +kernel
theorem dX4_reads_23 : decode cX4_reads 23 = .ok (.putfield 48, 3) := by decide +kernel
theorem dX4_reads_26 : decode cX4_reads 26 = .ok (.aload_n 0, 1) := by decide +kernel
theorem dX4_reads_27 : decode cX4_reads 27 = .ok (.iconst 0, 1) := by decide +kernel
theorem dX4_reads_28 : decode cX4_reads 28 = .ok (.putfield 51, 3) := by decide +kernel
theorem dX4_reads_31 : decode cX4_reads 31 = .ok (.aload_n 0, 1) := by decide +kernel
theorem dX4_reads_32 : decode cX4_reads 32 = .ok (.iconst 0, 1) := by decide +kernel
theorem dX4_reads_33 : decode cX4_reads 33 = .ok (.putfield 55, 3) := by decide +kernel
theorem dX4_reads_36 : decode cX4_reads 36 = .ok (.aload_n 0, 1) := by decide +kernel
theorem dX4_reads_37 : decode cX4_reads 37 = .ok (.iconst 0, 1) := by decide +kernel
theorem dX4_reads_38 : decode cX4_reads 38 = .ok (.putfield 58, 3) := by decide +kernel
theorem dX4_reads_41 : decode cX4_reads 41 = .ok (.aload_n 0, 1) := by decide +kernel
theorem dX4_reads_42 : decode cX4_reads 42 = .ok (.iconst 0, 1) := by decide +kernel
theorem dX4_reads_43 : decode cX4_reads 43 = .ok (.putfield 61, 3) := by decide +kernel
theorem dX4_reads_46 : decode cX4_reads 46 = .ok (.aload_n 0, 1) := by decide +kernel
theorem dX4_reads_47 : decode cX4_reads 47 = .ok (.getfield 42, 3) := by decide +kernel
theorem dX4_reads_50 : decode cX4_reads 50 = .ok (.getstatic 77, 3) := by decide +kernel
theorem dX4_reads_53 : decode cX4_reads 53 = .ok (.if_acmp .ne 12, 3) := by decide +kernel
theorem dX4_reads_56 : decode cX4_reads 56 = .ok (.aload_n 0, 1) := by decide +kernel
theorem dX4_reads_57 : decode cX4_reads 57 = .ok (.invokevirtual 80, 3) := by decide +kernel
theorem dX4_reads_60 : decode cX4_reads 60 = .ok (.ifCond .ne 5, 3) := by decide +kernel
theorem dX4_reads_63 : decode cX4_reads 63 = .ok (.iconst 0, 1) := by decide +kernel
theorem dX4_reads_64 : decode cX4_reads 64 = .ok (.ireturn, 1) := by decide +kernel
theorem dX4_reads_65 : decode cX4_reads 65 = .ok (.iconst 0, 1) := by decide +kernel
theorem dX4_reads_66 : decode cX4_reads 66 = .ok (.istore_n 2, 1) := by decide +kernel
theorem dX4_reads_67 : decode cX4_reads 67 = .ok (.iload_n 2, 1) := by decide +kernel
theorem dX4_reads_68 : decode cX4_reads 68 = .ok (.bipush 24, 2) := by decide +kernel
theorem dX4_reads_70 : decode cX4_reads 70 = .ok (.if_icmp .gt 38, 3) := by decide +kernel
theorem dX4_reads_73 : decode cX4_reads 73 = .ok (.aload_n 0, 1) := by decide +kernel
theorem dX4_reads_74 : decode cX4_reads 74 = .ok (.getfield 42, 3) := by decide +kernel
theorem dX4_reads_77 : decode cX4_reads 77 = .ok (.getstatic 38, 3) := by decide +kernel
theorem dX4_reads_80 : decode cX4_reads 80 = .ok (.if_acmp .eq 28, 3) := by decide +kernel
theorem dX4_reads_83 : decode cX4_reads 83 = .ok (.aload_n 0, 1) := by decide +kernel
theorem dX4_reads_84 : decode cX4_reads 84 = .ok (.invokevirtual 84, 3) := by decide +kernel
theorem dX4_reads_87 : decode cX4_reads 87 = .ok (.ifCond .eq 13, 3) := by decide +kernel
theorem dX4_reads_90 : decode cX4_reads 90 = .ok (.aload_n 0, 1) := by decide +kernel
theorem dX4_reads_91 : decode cX4_reads 91 = .ok (.getstatic 87, 3) := by decide +kernel
theorem dX4_reads_94 : decode cX4_reads 94 = .ok (.invokevirtual 90, 3) := by decide +kernel
theorem dX4_reads_97 : decode cX4_reads 97 = .ok (.ifCond .ne 5, 3) := by decide +kernel
theorem dX4_reads_100 : decode cX4_reads 100 = .ok (.iconst 0, 1) := by decide +kernel
theorem dX4_reads_101 : decode cX4_reads 101 = .ok (.ireturn, 1) := by decide +kernel
theorem dX4_reads_102 : decode cX4_reads 102 = .ok (.iinc 2 1, 3) := by decide +kernel
theorem dX4_reads_105 : decode cX4_reads 105 = .ok (.goto (-38), 3) := by decide +kernel
theorem dX4_reads_108 : decode cX4_reads 108 = .ok (.aload_n 1, 1) := by decide +kernel
theorem dX4_reads_109 : decode cX4_reads 109 = .ok (.getfield 94, 3) := by decide +kernel
theorem dX4_reads_112 : decode cX4_reads 112 = .ok (.sipush 400, 3) := by decide +kernel
theorem dX4_reads_115 : decode cX4_reads 115 = .ok (.if_icmp .le 11, 3) := by decide +kernel
theorem dX4_reads_118 : decode cX4_reads 118 = .ok (.aload_n 0, 1) := by decide +kernel
theorem dX4_reads_119 : decode cX4_reads 119 = .ok (.iconst 1, 1) := by decide +kernel
theorem dX4_reads_120 : decode cX4_reads 120 = .ok (.invokevirtual 99, 3) := by decide +kernel
theorem dX4_reads_123 : decode cX4_reads 123 = .ok (.ifCond .eq 7, 3) := by decide +kernel
theorem dX4_reads_126 : decode cX4_reads 126 = .ok (.iconst 1, 1) := by decide +kernel
theorem dX4_reads_127 : decode cX4_reads 127 = .ok (.goto 4, 3) := by decide +kernel
theorem dX4_reads_130 : decode cX4_reads 130 = .ok (.iconst 0, 1) := by decide +kernel
theorem dX4_reads_131 : decode cX4_reads 131 = .ok (.ireturn, 1) := by decide +kernel
def X_RD_reads_100 (K : Int32 → xs_St → Prop) (u : xs_St) : Prop :=
  (((0 : Int32) = 0 ∨ (0 : Int32) = 1) ∧ K (0 : Int32) u)
set_option maxHeartbeats 4000000 in
set_option maxRecDepth 100000 in
theorem X_RD_reads_100_w {K : Int32 → xs_St → Prop} (C : th_Cx p s m args meth c cX4_reads RX4 3 (some .boolean) (dC, dI) (th_ty cs) (xE ad ak) A) (u : xs_St) (H : Heap) (locs : List Loc) (ls : Array Slot) (hf : X_RD_reads_100 K u) (hw : th_wI (dC, dI) (wX cs ad q v v) A s.heap u H locs) (hl : lv_has ls 3 []) : W p l e (th_rm 40 0 0) s m args below meth c H locs 0 0 (MQ below (va_Qi K (th_Post (dC, dI) (wX cs ad q v v) A) A) args s 0 0 A) (F0 m 100 ls []) := by
  have hx := C.1
  have hb := C.2.1
  unfold X_RD_reads_100 at hf
  refine lv_iconst (v := (0 : Int32)) hx hb dX4_reads_100 (by decide) ?_
  exact th_zret C hw hf dX4_reads_101
def X_RD_reads_131 (K : Int32 → xs_St → Prop) (z0 : Int32) (u : xs_St) : Prop :=
  ((z0 = 0 ∨ z0 = 1) ∧ K z0 u)
set_option maxHeartbeats 4000000 in
set_option maxRecDepth 100000 in
theorem X_RD_reads_131_w {K : Int32 → xs_St → Prop} (C : th_Cx p s m args meth c cX4_reads RX4 3 (some .boolean) (dC, dI) (th_ty cs) (xE ad ak) A) (z0 : Int32) (u : xs_St) (H : Heap) (locs : List Loc) (ls : Array Slot) (hf : X_RD_reads_131 K z0 u) (hw : th_wI (dC, dI) (wX cs ad q v v) A s.heap u H locs) (hl : lv_has ls 3 []) : W p l e (th_rm 40 0 0) s m args below meth c H locs 0 0 (MQ below (va_Qi K (th_Post (dC, dI) (wX cs ad q v v) A) A) args s 0 0 A) (F0 m 131 ls [.int z0]) := by
  have hx := C.1
  have hb := C.2.1
  unfold X_RD_reads_131 at hf
  exact th_zret C hw hf dX4_reads_131
def X_RD_reads_126 (K : Int32 → xs_St → Prop) (u : xs_St) : Prop :=
  X_RD_reads_131 K (1 : Int32) u
set_option maxHeartbeats 4000000 in
set_option maxRecDepth 100000 in
theorem X_RD_reads_126_w {K : Int32 → xs_St → Prop} (C : th_Cx p s m args meth c cX4_reads RX4 3 (some .boolean) (dC, dI) (th_ty cs) (xE ad ak) A) (u : xs_St) (H : Heap) (locs : List Loc) (ls : Array Slot) (hf : X_RD_reads_126 K u) (hw : th_wI (dC, dI) (wX cs ad q v v) A s.heap u H locs) (hl : lv_has ls 3 []) : W p l e (th_rm 40 0 0) s m args below meth c H locs 0 0 (MQ below (va_Qi K (th_Post (dC, dI) (wX cs ad q v v) A) A) args s 0 0 A) (F0 m 126 ls []) := by
  have hx := C.1
  have hb := C.2.1
  unfold X_RD_reads_126 at hf
  refine lv_iconst (v := (1 : Int32)) hx hb dX4_reads_126 (by decide) ?_
  refine lv_goto (tgt := 131) hx hb dX4_reads_127 (by decide) ?_
  exact X_RD_reads_131_w C (1 : Int32) u _ _ _ hf hw (lv_sub hl [] rfl)
def X_RD_reads_108 (K : Int32 → xs_St → Prop) (u : xs_St) : Prop :=
  (((xi u 101) ≤ (400 : Int32) → X_RD_reads_126 K u) ∧ (¬ (xi u 101) ≤ (400 : Int32) → X_RD_faulty (1 : Int32) u (fun r_2 u_1 => ((r_2 = 0 → X_RD_reads_131 K (0 : Int32) u_1) ∧ (¬ r_2 = 0 → X_RD_reads_126 K u_1)))))
set_option maxHeartbeats 4000000 in
set_option maxRecDepth 100000 in
theorem X_RD_reads_108_w {K : Int32 → xs_St → Prop} (C : th_Cx p s m args meth c cX4_reads RX4 3 (some .boolean) (dC, dI) (th_ty cs) (xE ad ak) A) (u : xs_St) (H : Heap) (locs : List Loc) (ls : Array Slot) (hf : X_RD_reads_108 K u) (hw : th_wI (dC, dI) (wX cs ad q v v) A s.heap u H locs) (hl : lv_has ls 3 [(0, .ref (q 299)), (1, .ref (q 199))]) : W p l e (th_rm 40 0 0) s m args below meth c H locs 0 0 (MQ below (va_Qi K (th_Post (dC, dI) (wX cs ad q v v) A) A) args s 0 0 A) (F0 m 108 ls []) := by
  have hx := C.1
  have hb := C.2.1
  unfold X_RD_reads_108 at hf
  refine lv_aload_n hx hb dX4_reads_108 rfl (lv_at hl 1 rfl) ?_
  refine xgn_101 C hw (va_Nw.use rfl (xN C hwG_X4_94)) dX4_reads_109 ?_
  refine lv_sipush (v := (400 : Int32)) hx hb dX4_reads_112 (by decide) ?_
  refine lv_icmp_le (tgt := 126) hx hb dX4_reads_115 (by decide) (fun hc => ?_) (fun hc => ?_)
  · replace hf := hf.1 hc
    clear hc
    exact X_RD_reads_126_w C  u _ _ _ hf hw (lv_sub hl [] rfl)
  · replace hf := hf.2 hc
    clear hc
    refine lv_aload_n hx hb dX4_reads_118 rfl (lv_at hl 0 rfl) ?_
    refine lv_iconst (v := (1 : Int32)) hx hb dX4_reads_119 (by decide) ?_
    refine th_callVi (As := [.int (1 : Int32)]) (rest := []) C lkX4_99 (X_RD_faulty_c hf) hw (xRc_RD C hw) rfl rfl ⟨Nat.le_of_ble_eq_true rfl, Nat.le_of_ble_eq_true rfl⟩ hl.1 (Nat.le_of_ble_eq_true rfl) ⟨Nat.le_of_ble_eq_true rfl, Nat.le_of_ble_eq_true rfl⟩ dX4_reads_120 (fun r_2 u_1 H locs hf hw => ?_)
    refine lv_if_eq (tgt := 130) hx hb dX4_reads_123 (by decide) (fun hc => ?_) (fun hc => ?_)
    · replace hf := hf.1 hc
      clear hc
      refine lv_iconst (v := (0 : Int32)) hx hb dX4_reads_130 (by decide) ?_
      exact X_RD_reads_131_w C (0 : Int32) u_1 _ _ _ hf hw (lv_sub hl [] rfl)
    · replace hf := hf.2 hc
      clear hc
      exact X_RD_reads_126_w C  u_1 _ _ _ hf hw (lv_sub hl [] rfl)
def X_RD_reads_67 (K : Int32 → xs_St → Prop) (k67 : Int32 → xs_St → Prop) (x2 : Int32) (u : xs_St) : Prop :=
  (((24 : Int32) < x2 → X_RD_reads_108 K u) ∧ (¬ (24 : Int32) < x2 → (((xr u 206) = (some 0) → X_RD_reads_108 K u) ∧ (¬ (xr u 206) = (some 0) → X_RD_readLine u (fun r_2 u_1 => ((r_2 = 0 → X_RD_reads_100 K u_1) ∧ (¬ r_2 = 0 → X_RD_take (some 3) u_1 (fun r_4 u_3 => ((¬ r_4 = 0 → ∀ x2_5 : Int32, x2_5 = x2 + (1 : Int32) → k67 x2_5 u_3) ∧ (r_4 = 0 → X_RD_reads_100 K u_3))))))))))
set_option maxHeartbeats 4000000 in
set_option maxRecDepth 100000 in
theorem X_RD_reads_67_w {K : Int32 → xs_St → Prop} {k67 : Int32 → xs_St → Prop} (C : th_Cx p s m args meth c cX4_reads RX4 3 (some .boolean) (dC, dI) (th_ty cs) (xE ad ak) A) (hk67 : ∀ (x2 : Int32) (u : xs_St) (H : Heap) (locs : List Loc) (ls : Array Slot), k67 x2 u → th_wI (dC, dI) (wX cs ad q v v) A s.heap u H locs → lv_has ls 3 [(0, .ref (q 299)), (1, .ref (q 199)), (2, .int x2)] → W p l e (th_rm 40 0 0) s m args below meth c H locs 0 0 (MQ below (va_Qi K (th_Post (dC, dI) (wX cs ad q v v) A) A) args s 0 0 A) (F0 m 67 ls [])) (x2 : Int32) (u : xs_St) (H : Heap) (locs : List Loc) (ls : Array Slot) (hf : X_RD_reads_67 K k67 x2 u) (hw : th_wI (dC, dI) (wX cs ad q v v) A s.heap u H locs) (hl : lv_has ls 3 [(0, .ref (q 299)), (1, .ref (q 199)), (2, .int x2)]) : W p l e (th_rm 40 0 0) s m args below meth c H locs 0 0 (MQ below (va_Qi K (th_Post (dC, dI) (wX cs ad q v v) A) A) args s 0 0 A) (F0 m 67 ls []) := by
  have hx := C.1
  have hb := C.2.1
  unfold X_RD_reads_67 at hf
  refine lv_iload_n hx hb dX4_reads_67 rfl (lv_at hl 2 rfl) ?_
  refine lv_bipush (v := (24 : Int32)) hx hb dX4_reads_68 (by decide) ?_
  refine lv_icmp_gt (tgt := 108) hx hb dX4_reads_70 (by decide) (fun hc => ?_) (fun hc => ?_)
  · replace hf := hf.1 hc
    clear hc
    exact X_RD_reads_108_w C  u _ _ _ hf hw (lv_sub hl [0, 1] rfl)
  · replace hf := hf.2 hc
    clear hc
    refine lv_aload_n hx hb dX4_reads_73 rfl (lv_at hl 0 rfl) ?_
    refine xg_206 C hw (C.2.2.2.2.1 _ hwF_X4_42) dX4_reads_74 ?_
    refine xst C hw 0 (by decide) (C.2.2.2.2.1 _ hwF_X4_38) dX4_reads_77 ?_
    refine x_acmp_eq (tgt := 108) C dX4_reads_80 (by decide) (fun hc => ?_) (fun hc => ?_)
    · replace hf := hf.1 hc
      clear hc
      exact X_RD_reads_108_w C  u _ _ _ hf hw (lv_sub hl [0, 1] rfl)
    · replace hf := hf.2 hc
      clear hc
      refine lv_aload_n hx hb dX4_reads_83 rfl (lv_at hl 0 rfl) ?_
      refine th_callVi (As := []) (rest := []) C lkX4_84 (X_RD_readLine_c hf) hw (xRc_RD C hw) rfl rfl ⟨Nat.le_of_ble_eq_true rfl, Nat.le_of_ble_eq_true rfl⟩ hl.1 (Nat.le_of_ble_eq_true rfl) ⟨Nat.le_of_ble_eq_true rfl, Nat.le_of_ble_eq_true rfl⟩ dX4_reads_84 (fun r_2 u_1 H locs hf hw => ?_)
      refine lv_if_eq (tgt := 100) hx hb dX4_reads_87 (by decide) (fun hc => ?_) (fun hc => ?_)
      · replace hf := hf.1 hc
        clear hc
        exact X_RD_reads_100_w C  u_1 _ _ _ hf hw (lv_sub hl [] rfl)
      · replace hf := hf.2 hc
        clear hc
        refine lv_aload_n hx hb dX4_reads_90 rfl (lv_at hl 0 rfl) ?_
        refine xst C hw 3 (by decide) (C.2.2.2.2.1 _ hwF_X4_87) dX4_reads_91 ?_
        refine th_callVi (As := [va_re ad (some 3)]) (rest := []) C lkX4_90 (X_RD_take_c hf) hw (xRc_RD C hw) rfl rfl ⟨Nat.le_of_ble_eq_true rfl, Nat.le_of_ble_eq_true rfl⟩ hl.1 (Nat.le_of_ble_eq_true rfl) ⟨Nat.le_of_ble_eq_true rfl, Nat.le_of_ble_eq_true rfl⟩ dX4_reads_94 (fun r_4 u_3 H locs hf hw => ?_)
        refine lv_if_ne (tgt := 102) hx hb dX4_reads_97 (by decide) (fun hc => ?_) (fun hc => ?_)
        · replace hf := hf.1 hc
          clear hc
          obtain ⟨x2_5, e9⟩ : ∃ y : Int32, y = x2 + (1 : Int32) := ⟨_, rfl⟩
          replace hf := hf x2_5 e9
          refine lv_iinc (v := x2_5) (lv' := [(2, .int x2_5), (0, .ref (q 299)), (1, .ref (q 199))]) hx hb dX4_reads_102 hl (k := 2) rfl (by rw [e9]; rfl) (by decide) rfl (fun ls hl => ?_)
          clear e9
          refine lv_goto (tgt := 67) hx hb dX4_reads_105 (by decide) ?_
          exact hk67 x2_5 u_3 _ _ _ hf hw (lv_sub hl [1, 2, 0] rfl)
        · replace hf := hf.2 hc
          clear hc
          exact X_RD_reads_100_w C  u_3 _ _ _ hf hw (lv_sub hl [] rfl)
def X_RD_reads_67_lp (K : Int32 → xs_St → Prop) : Nat → Int32 → xs_St → Prop
  | 0, _, _ => False
  | n + 1, x2, u => X_RD_reads_67 K (X_RD_reads_67_lp K n) x2 u
set_option maxHeartbeats 4000000 in
set_option maxRecDepth 100000 in
theorem X_RD_reads_67_lw {K : Int32 → xs_St → Prop} (C : th_Cx p s m args meth c cX4_reads RX4 3 (some .boolean) (dC, dI) (th_ty cs) (xE ad ak) A) (n : Nat) : ∀ (x2 : Int32) (u : xs_St) (H : Heap) (locs : List Loc) (ls : Array Slot), X_RD_reads_67_lp K n x2 u → th_wI (dC, dI) (wX cs ad q v v) A s.heap u H locs → lv_has ls 3 [(0, .ref (q 299)), (1, .ref (q 199)), (2, .int x2)] → W p l e (th_rm 40 0 0) s m args below meth c H locs 0 0 (MQ below (va_Qi K (th_Post (dC, dI) (wX cs ad q v v) A) A) args s 0 0 A) (F0 m 67 ls []) := by
  induction n with
  | zero => intro x2 u H locs ls hf; exact hf.elim
  | succ n ih =>
    intro x2 u H locs ls hf hw hl
    exact X_RD_reads_67_w C ih x2 u H locs ls hf hw hl
def X_RD_reads_65 (K : Int32 → xs_St → Prop) (u : xs_St) : Prop :=
  ∃ n, X_RD_reads_67_lp K n (0 : Int32) u
set_option maxHeartbeats 4000000 in
set_option maxRecDepth 100000 in
theorem X_RD_reads_65_w {K : Int32 → xs_St → Prop} (C : th_Cx p s m args meth c cX4_reads RX4 3 (some .boolean) (dC, dI) (th_ty cs) (xE ad ak) A) (u : xs_St) (H : Heap) (locs : List Loc) (ls : Array Slot) (hf : X_RD_reads_65 K u) (hw : th_wI (dC, dI) (wX cs ad q v v) A s.heap u H locs) (hl : lv_has ls 3 [(0, .ref (q 299)), (1, .ref (q 199))]) : W p l e (th_rm 40 0 0) s m args below meth c H locs 0 0 (MQ below (va_Qi K (th_Post (dC, dI) (wX cs ad q v v) A) A) args s 0 0 A) (F0 m 65 ls []) := by
  have hx := C.1
  have hb := C.2.1
  unfold X_RD_reads_65 at hf
  refine lv_iconst (v := (0 : Int32)) hx hb dX4_reads_65 (by decide) ?_
  refine lv_istore_n (lv' := [(2, .int (0 : Int32)), (0, .ref (q 299)), (1, .ref (q 199))]) hx hb dX4_reads_66 rfl hl (by decide) rfl (fun ls hl => ?_)
  obtain ⟨n, hf⟩ := hf
  exact X_RD_reads_67_lw C n (0 : Int32) u _ _ _ hf hw (lv_sub hl [1, 2, 0] rfl)
def X_RD_reads (u : xs_St) (K : Int32 → xs_St → Prop) : Prop :=
  X_T_empty_B u (fun u_1 => X_RD_scan u_1 (fun u_3 => ∀ u_5 : xs_St, u_5 = xs_si u_3 205 (-1 : Int32) → X_RD_advance u_5 (fun u_6 => ∀ u_8 : xs_St, u_8 = xs_si u_6 208 (0 : Int32) → (((0 : Int32) = 0 ∨ (0 : Int32) = 1) ∧ ∀ u_9 : xs_St, u_9 = xs_si u_8 209 (0 : Int32) → (((0 : Int32) = 0 ∨ (0 : Int32) = 1) ∧ ∀ u_10 : xs_St, u_10 = xs_si u_9 210 (0 : Int32) → (((0 : Int32) = 0 ∨ (0 : Int32) = 1) ∧ ∀ u_11 : xs_St, u_11 = xs_si u_10 211 (0 : Int32) → ∀ u_12 : xs_St, u_12 = xs_si u_11 212 (0 : Int32) → ((¬ (xr u_12 206) = (some 9) → X_RD_reads_65 K u_12) ∧ ((xr u_12 206) = (some 9) → X_RD_readFeet u_12 (fun r_14 u_13 => ((¬ r_14 = 0 → X_RD_reads_65 K u_13) ∧ (r_14 = 0 → (((0 : Int32) = 0 ∨ (0 : Int32) = 1) ∧ K (0 : Int32) u_13))))))))))))
set_option maxHeartbeats 4000000 in
set_option maxRecDepth 100000 in
theorem X_RD_reads_c {l : Launch} {dC : Nat → ClassId} {dI : Nat → Nat → Nat} {cs : Nat → ClassId} {ad ak : Nat → Nat} {q v : Nat → Nat} {u : xs_St} {K : Int32 → xs_St → Prop} (hf : X_RD_reads u K) : th_Ci l yX4_reads cX4_reads 3 (some .boolean) 40 0 0 (dC, dI) (th_ty cs) (xE ad ak) (wX cs ad q v v) [.ref (q 299), .ref (q 199)] u K := by
  refine th_ofi (by decide) (Nat.le_of_ble_eq_true rfl) (xE_ok ad ak) ?_
  intro p e s m below meth c A ls C hw hl
  have C : th_Cx p s m _ meth c cX4_reads RX4 3 (some .boolean) (dC, dI) (th_ty cs) (xE ad ak) A := C
  have hl : lv_has ls 3 [(0, .ref (q 299)), (1, .ref (q 199))] := hl
  generalize (List.toArray _ : Array Value) = args at C ⊢
  have hx := C.1
  have hb := C.2.1
  unfold X_RD_reads at hf
  refine lv_aload_n hx hb dX4_reads_0 rfl (lv_at hl 0 rfl) ?_
  refine xg_204 C hw (C.2.2.2.2.1 _ hwF_X4_31) dX4_reads_1 ?_
  refine th_callVNv (As := []) (rest := []) C lkNX4_67 (X_T_empty_B_c hf) hw (xRc_TB C hw) rfl rfl ⟨Nat.le_of_ble_eq_true rfl, Nat.le_of_ble_eq_true rfl⟩ hl.1 (Nat.le_of_ble_eq_true rfl) ⟨Nat.le_of_ble_eq_true rfl, Nat.le_of_ble_eq_true rfl⟩ dX4_reads_4 (fun u_1 H locs hf hw => ?_)
  refine lv_aload_n hx hb dX4_reads_7 rfl (lv_at hl 0 rfl) ?_
  refine lv_aload_n hx hb dX4_reads_8 rfl (lv_at hl 1 rfl) ?_
  refine th_callVv (As := [.ref (q 199)]) (rest := []) C lkX4_70 (X_RD_scan_c hf) hw (xRc_RD C hw) rfl rfl ⟨Nat.le_of_ble_eq_true rfl, Nat.le_of_ble_eq_true rfl⟩ hl.1 (Nat.le_of_ble_eq_true rfl) ⟨Nat.le_of_ble_eq_true rfl, Nat.le_of_ble_eq_true rfl⟩ dX4_reads_9 (fun u_3 H locs hf hw => ?_)
  refine lv_aload_n hx hb dX4_reads_12 rfl (lv_at hl 0 rfl) ?_
  refine lv_iconst (v := (-1 : Int32)) hx hb dX4_reads_13 (by decide) ?_
  refine xp_205 C hw (C.2.2.2.2.1 _ hwF_X4_35) dX4_reads_14 (fun u_5 e9 H locs hw => ?_)
  replace hf := hf u_5 e9
  clear e9
  refine lv_aload_n hx hb dX4_reads_17 rfl (lv_at hl 0 rfl) ?_
  refine th_callVv (As := []) (rest := []) C lkX4_74 (X_RD_advance_c hf) hw (xRc_RD C hw) rfl rfl ⟨Nat.le_of_ble_eq_true rfl, Nat.le_of_ble_eq_true rfl⟩ hl.1 (Nat.le_of_ble_eq_true rfl) ⟨Nat.le_of_ble_eq_true rfl, Nat.le_of_ble_eq_true rfl⟩ dX4_reads_18 (fun u_6 H locs hf hw => ?_)
  refine lv_aload_n hx hb dX4_reads_21 rfl (lv_at hl 0 rfl) ?_
  refine lv_iconst (v := (0 : Int32)) hx hb dX4_reads_22 (by decide) ?_
  refine xp_208 C hw (C.2.2.2.2.1 _ hwF_X4_48) dX4_reads_23 (fun u_8 e9 H locs hw => ?_)
  replace hf := hf u_8 e9
  clear e9
  refine lv_aload_n hx hb dX4_reads_26 rfl (lv_at hl 0 rfl) ?_
  refine lv_iconst (v := (0 : Int32)) hx hb dX4_reads_27 (by decide) ?_
  refine xp_209 C hw hf.1 (C.2.2.2.2.1 _ hwF_X4_51) dX4_reads_28 (fun u_9 e9 H locs hw => ?_)
  replace hf := hf.2 u_9 e9
  clear e9
  refine lv_aload_n hx hb dX4_reads_31 rfl (lv_at hl 0 rfl) ?_
  refine lv_iconst (v := (0 : Int32)) hx hb dX4_reads_32 (by decide) ?_
  refine xp_210 C hw hf.1 (C.2.2.2.2.1 _ hwF_X4_55) dX4_reads_33 (fun u_10 e9 H locs hw => ?_)
  replace hf := hf.2 u_10 e9
  clear e9
  refine lv_aload_n hx hb dX4_reads_36 rfl (lv_at hl 0 rfl) ?_
  refine lv_iconst (v := (0 : Int32)) hx hb dX4_reads_37 (by decide) ?_
  refine xp_211 C hw hf.1 (C.2.2.2.2.1 _ hwF_X4_58) dX4_reads_38 (fun u_11 e9 H locs hw => ?_)
  replace hf := hf.2 u_11 e9
  clear e9
  refine lv_aload_n hx hb dX4_reads_41 rfl (lv_at hl 0 rfl) ?_
  refine lv_iconst (v := (0 : Int32)) hx hb dX4_reads_42 (by decide) ?_
  refine xp_212 C hw (C.2.2.2.2.1 _ hwF_X4_61) dX4_reads_43 (fun u_12 e9 H locs hw => ?_)
  replace hf := hf u_12 e9
  clear e9
  refine lv_aload_n hx hb dX4_reads_46 rfl (lv_at hl 0 rfl) ?_
  refine xg_206 C hw (C.2.2.2.2.1 _ hwF_X4_42) dX4_reads_47 ?_
  refine xst C hw 9 (by decide) (C.2.2.2.2.1 _ hwF_X4_77) dX4_reads_50 ?_
  refine x_acmp_ne (tgt := 65) C dX4_reads_53 (by decide) (fun hc => ?_) (fun hc => ?_)
  · replace hf := hf.1 hc
    clear hc
    exact X_RD_reads_65_w C  u_12 _ _ _ hf hw (lv_sub hl [0, 1] rfl)
  · replace hf := hf.2 hc
    clear hc
    refine lv_aload_n hx hb dX4_reads_56 rfl (lv_at hl 0 rfl) ?_
    refine th_callVi (As := []) (rest := []) C lkX4_80 (X_RD_readFeet_c hf) hw (xRc_RD C hw) rfl rfl ⟨Nat.le_of_ble_eq_true rfl, Nat.le_of_ble_eq_true rfl⟩ hl.1 (Nat.le_of_ble_eq_true rfl) ⟨Nat.le_of_ble_eq_true rfl, Nat.le_of_ble_eq_true rfl⟩ dX4_reads_57 (fun r_14 u_13 H locs hf hw => ?_)
    refine lv_if_ne (tgt := 65) hx hb dX4_reads_60 (by decide) (fun hc => ?_) (fun hc => ?_)
    · replace hf := hf.1 hc
      clear hc
      exact X_RD_reads_65_w C  u_13 _ _ _ hf hw (lv_sub hl [0, 1] rfl)
    · replace hf := hf.2 hc
      clear hc
      refine lv_iconst (v := (0 : Int32)) hx hb dX4_reads_63 (by decide) ?_
      exact th_zret C hw hf dX4_reads_64
/-! X_TH_text -/
theorem dX11_text_0 : decode cX11_text 0 = .ok (.sipush (-1000), 3) := by decide +kernel
theorem dX11_text_3 : decode cX11_text 3 = .ok (.istore_n 1, 1) := by decide +kernel
theorem dX11_text_4 : decode cX11_text 4 = .ok (.aload_n 0, 1) := by decide +kernel
theorem dX11_text_5 : decode cX11_text 5 = .ok (.getfield 26, 3) := by decide +kernel
theorem dX11_text_8 : decode cX11_text 8 = .ok (.getfield 94, 3) := by decide +kernel
theorem dX11_text_11 : decode cX11_text 11 = .ok (.ifCond .ne 67, 3) := by decide +kernel
theorem dX11_text_14 : decode cX11_text 14 = .ok (.aload_n 0, 1) := by decide +kernel
theorem dX11_text_15 : decode cX11_text 15 = .ok (.getfield 19, 3) := by decide +kernel
theorem dX11_text_18 : decode cX11_text 18 = .ok (.aload_n 0, 1) := by decide +kernel
theorem dX11_text_19 : decode cX11_text 19 = .ok (.getfield 10, 3) := by decide +kernel
theorem dX11_text_22 : decode cX11_text 22 = .ok (.invokevirtual 97, 3) := by decide +kernel
theorem dX11_text_25 : decode cX11_text 25 = .ok (.istore_n 2, 1) := by decide +kernel
theorem dX11_text_26 : decode cX11_text 26 = .ok (.iload_n 2, 1) := by decide +kernel
theorem dX11_text_27 : decode cX11_text 27 = .ok (.ifCond .eq 27, 3) := by decide +kernel
theorem dX11_text_30 : decode cX11_text 30 = .ok (.aload_n 0, 1) := by decide +kernel
theorem dX11_text_31 : decode cX11_text 31 = .ok (.getfield 69, 3) := by decide +kernel
theorem dX11_text_34 : decode cX11_text 34 = .ok (.astore_n 3, 1) := by decide +kernel
theorem dX11_text_35 : decode cX11_text 35 = .ok (.aload_n 0, 1) := by decide +kernel
theorem dX11_text_36 : decode cX11_text 36 = .ok (.aload_n 0, 1) := by decide +kernel
theorem dX11_text_37 : decode cX11_text 37 = .ok (.getfield 19, 3) := by decide +kernel
theorem dX11_text_40 : decode cX11_text 40 = .ok (.getfield 101, 3) := by decide +kernel
theorem dX11_text_43 : decode cX11_text 43 = .ok (.putfield 69, 3) := by decide +kernel
theorem dX11_text_46 : decode cX11_text 46 = .ok (.aload_n 0, 1) := by decide +kernel
theorem dX11_text_47 : decode cX11_text 47 = .ok (.getfield 19, 3) := by decide +kernel
theorem dX11_text_50 : decode cX11_text 50 = .ok (.aload_n 3, 1) := by decide +kernel
theorem dX11_text_51 : decode cX11_text 51 = .ok (.putfield 101, 3) := by decide +kernel
theorem dX11_text_54 : decode cX11_text 54 = .ok (.iload_n 2, 1) := by decide +kernel
theorem dX11_text_55 : decode cX11_text 55 = .ok (.ifCond .eq 13, 3) := by decide +kernel
theorem dX11_text_58 : decode cX11_text 58 = .ok (.aload_n 0, 1) := by decide +kernel
theorem dX11_text_59 : decode cX11_text 59 = .ok (.getfield 69, 3) := by decide +kernel
theorem dX11_text_62 : decode cX11_text 62 = .ok (.getfield 104, 3) := by decide +kernel
theorem dX11_text_65 : decode cX11_text 65 = .ok (.goto 12, 3) := by decide +kernel
theorem dX11_text_68 : decode cX11_text 68 = .ok (.iconst (-1), 1) := by decide +kernel
theorem dX11_text_69 : decode cX11_text 69 = .ok (.aload_n 0, 1) := by decide +kernel
theorem dX11_text_70 : decode cX11_text 70 = .ok (.getfield 19, 3) := by decide +kernel
theorem dX11_text_73 : decode cX11_text 73 = .ok (.getfield 107, 3) := by decide +kernel
theorem dX11_text_76 : decode cX11_text 76 = .ok (.isub, 1) := by decide +kernel
theorem dX11_text_77 : decode cX11_text 77 = .ok (.istore_n 1, 1) := by decide +kernel
theorem dX11_text_78 : decode cX11_text 78 = .ok (.aload_n 0, 1) := by decide +kernel
theorem dX11_text_79 : decode cX11_text 79 = .ok (.getfield 10, 3) := by decide +kernel
theorem dX11_text_82 : decode cX11_text 82 = .ok (.invokevirtual 110, 3) := by decide +kernel
theorem dX11_text_85 : decode cX11_text 85 = .ok (.iload_n 1, 1) := by decide +kernel
theorem dX11_text_86 : decode cX11_text 86 = .ok (.ireturn, 1) := by decide +kernel
def X_TH_text_78 (K : Int32 → xs_St → Prop) (x1 : Int32) (u : xs_St) : Prop :=
  X_TP_clear u (fun u_1 => K x1 u_1)
set_option maxHeartbeats 4000000 in
set_option maxRecDepth 100000 in
theorem X_TH_text_78_w {K : Int32 → xs_St → Prop} (C : th_Cx p s m args meth c cX11_text RX11 4 (some .int) (dC, dI) (th_ty cs) (xE ad ak) A) (x1 : Int32) (v : Nat → Nat) (u : xs_St) (H : Heap) (locs : List Loc) (ls : Array Slot) (hf : X_TH_text_78 K x1 u) (hw : th_wI (dC, dI) (wX cs ad q v v) A s.heap u H locs) (hl : lv_has ls 4 [(0, .ref (q 99)), (1, .int x1)]) : W p l e (th_rm 41 0 0) s m args below meth c H locs 0 0 (MQ below (va_Qi (fun r9 a9 => K r9 a9.2) (th_Post (dC, dI) (wXs cs ad q) A) A) args s 0 0 A) (F0 m 78 ls []) := by
  have hx := C.1
  have hb := C.2.1
  unfold X_TH_text_78 at hf
  refine lv_aload_n hx hb dX11_text_78 rfl (lv_at hl 0 rfl) ?_
  refine xg_0 C hw (C.2.2.2.2.1 _ hwF_X11_10) dX11_text_79 ?_
  refine th_callVv (As := []) (rest := []) C lkX11_110 (X_TP_clear_c hf) hw (xRc_TP C hw) rfl rfl ⟨Nat.le_of_ble_eq_true rfl, Nat.le_of_ble_eq_true rfl⟩ hl.1 (Nat.le_of_ble_eq_true rfl) ⟨Nat.le_of_ble_eq_true rfl, Nat.le_of_ble_eq_true rfl⟩ dX11_text_82 (fun u_1 H locs hf hw => ?_)
  refine lv_iload_n hx hb dX11_text_85 rfl (lv_at hl 1 rfl) ?_
  exact th_iret (K := (fun r9 a9 => K r9 a9.2)) (w := wXs cs ad q) (u := (v, u_1)) C hw hf dX11_text_86
def X_TH_text_77 (K : Int32 → xs_St → Prop) (z0 : Int32) (u : xs_St) : Prop :=
  X_TH_text_78 K z0 u
set_option maxHeartbeats 4000000 in
set_option maxRecDepth 100000 in
theorem X_TH_text_77_w {K : Int32 → xs_St → Prop} (C : th_Cx p s m args meth c cX11_text RX11 4 (some .int) (dC, dI) (th_ty cs) (xE ad ak) A) (z0 : Int32) (v : Nat → Nat) (u : xs_St) (H : Heap) (locs : List Loc) (ls : Array Slot) (hf : X_TH_text_77 K z0 u) (hw : th_wI (dC, dI) (wX cs ad q v v) A s.heap u H locs) (hl : lv_has ls 4 [(0, .ref (q 99))]) : W p l e (th_rm 41 0 0) s m args below meth c H locs 0 0 (MQ below (va_Qi (fun r9 a9 => K r9 a9.2) (th_Post (dC, dI) (wXs cs ad q) A) A) args s 0 0 A) (F0 m 77 ls [.int z0]) := by
  have hx := C.1
  have hb := C.2.1
  unfold X_TH_text_77 at hf
  refine lv_istore_n (lv' := [(1, .int z0), (0, .ref (q 99))]) hx hb dX11_text_77 rfl hl (by decide) rfl (fun ls hl => ?_)
  exact X_TH_text_78_w C z0 v u _ _ _ hf hw (lv_sub hl [1, 0] rfl)
def X_TH_text_54 (K : Int32 → xs_St → Prop) (x2 : Int32) (u : xs_St) : Prop :=
  ((x2 = 0 → X_TH_text_77 K ((-1 : Int32) - (xi u 213)) u) ∧ (¬ x2 = 0 → X_TH_text_77 K (xi u 304) u))
set_option maxHeartbeats 4000000 in
set_option maxRecDepth 100000 in
theorem X_TH_text_54_w {K : Int32 → xs_St → Prop} (C : th_Cx p s m args meth c cX11_text RX11 4 (some .int) (dC, dI) (th_ty cs) (xE ad ak) A) (x2 : Int32) (v : Nat → Nat) (u : xs_St) (H : Heap) (locs : List Loc) (ls : Array Slot) (hf : X_TH_text_54 K x2 u) (hw : th_wI (dC, dI) (wX cs ad q v v) A s.heap u H locs) (hl : lv_has ls 4 [(0, .ref (q 99)), (2, .int x2)]) : W p l e (th_rm 41 0 0) s m args below meth c H locs 0 0 (MQ below (va_Qi (fun r9 a9 => K r9 a9.2) (th_Post (dC, dI) (wXs cs ad q) A) A) args s 0 0 A) (F0 m 54 ls []) := by
  have hx := C.1
  have hb := C.2.1
  unfold X_TH_text_54 at hf
  refine lv_iload_n hx hb dX11_text_54 rfl (lv_at hl 1 rfl) ?_
  refine lv_if_eq (tgt := 68) hx hb dX11_text_55 (by decide) (fun hc => ?_) (fun hc => ?_)
  · replace hf := hf.1 hc
    clear hc
    refine lv_iconst (v := (-1 : Int32)) hx hb dX11_text_68 (by decide) ?_
    refine lv_aload_n hx hb dX11_text_69 rfl (lv_at hl 0 rfl) ?_
    refine xg_1 C hw (C.2.2.2.2.1 _ hwF_X11_19) dX11_text_70 ?_
    refine xgn_213 C hw (va_Nw.use rfl (xN C hwG_X11_107)) dX11_text_73 ?_
    refine lv_isub hx hb dX11_text_76 ?_
    exact X_TH_text_77_w C ((-1 : Int32) - (xi u 213)) v u _ _ _ hf hw (lv_sub hl [0] rfl)
  · replace hf := hf.2 hc
    clear hc
    refine lv_aload_n hx hb dX11_text_58 rfl (lv_at hl 0 rfl) ?_
    refine xg_9 C hw (C.2.2.2.2.1 _ hwF_X11_69) dX11_text_59 ?_
    refine xgn_304 C hw (va_Nw.use rfl (xN C hwG_X11_104)) dX11_text_62 ?_
    refine lv_goto (tgt := 77) hx hb dX11_text_65 (by decide) ?_
    exact X_TH_text_77_w C (xi u 304) v u _ _ _ hf hw (lv_sub hl [0] rfl)
def X_TH_text (u : xs_St) (K : Int32 → xs_St → Prop) : Prop :=
  ((¬ (xi u 504) = 0 → X_TH_text_78 K (-1000 : Int32) u) ∧ ((xi u 504) = 0 → X_RD_reads u (fun r_2 u_1 => ((r_2 = 0 → X_TH_text_54 K r_2 u_1) ∧ (¬ r_2 = 0 → ∀ u_4 : xs_St, u_4 = xw_399_499 u_1 → X_TH_text_54 K r_2 u_4)))))
set_option maxHeartbeats 4000000 in
set_option maxRecDepth 100000 in
theorem X_TH_text_c {l : Launch} {dC : Nat → ClassId} {dI : Nat → Nat → Nat} {cs : Nat → ClassId} {ad ak : Nat → Nat} {q v : Nat → Nat} {u : xs_St} {K : Int32 → xs_St → Prop} (hf : X_TH_text u K) : th_Ci l yX11_text cX11_text 4 (some .int) 41 0 0 (dC, dI) (th_ty cs) (xE ad ak) (wXs cs ad q) [.ref (q 99)] (v, u) (fun r9 a9 => K r9 a9.2) := by
  refine th_ofi (by decide) (Nat.le_of_ble_eq_true rfl) (xE_ok ad ak) ?_
  intro p e s m below meth c A ls C hw hl
  have C : th_Cx p s m _ meth c cX11_text RX11 4 (some .int) (dC, dI) (th_ty cs) (xE ad ak) A := C
  have hl : lv_has ls 4 [(0, .ref (q 99))] := hl
  generalize (List.toArray _ : Array Value) = args at C ⊢
  have hx := C.1
  have hb := C.2.1
  unfold X_TH_text at hf
  refine lv_sipush (v := (-1000 : Int32)) hx hb dX11_text_0 (by decide) ?_
  refine lv_istore_n (lv' := [(1, .int (-1000 : Int32)), (0, .ref (q 99))]) hx hb dX11_text_3 rfl hl (by decide) rfl (fun ls hl => ?_)
  refine lv_aload_n hx hb dX11_text_4 rfl (lv_at hl 1 rfl) ?_
  refine xg_2 C hw (C.2.2.2.2.1 _ hwF_X11_26) dX11_text_5 ?_
  refine xgn_504 C hw (va_Nw.use rfl (xN C hwG_X11_94)) dX11_text_8 ?_
  refine lv_if_ne (tgt := 78) hx hb dX11_text_11 (by decide) (fun hc => ?_) (fun hc => ?_)
  · replace hf := hf.1 hc
    clear hc
    exact X_TH_text_78_w C (-1000 : Int32) v u _ _ _ hf hw (lv_sub hl [1, 0] rfl)
  · replace hf := hf.2 hc
    clear hc
    refine lv_aload_n hx hb dX11_text_14 rfl (lv_at hl 1 rfl) ?_
    refine xg_1 C hw (C.2.2.2.2.1 _ hwF_X11_19) dX11_text_15 ?_
    refine lv_aload_n hx hb dX11_text_18 rfl (lv_at hl 1 rfl) ?_
    refine xg_0 C hw (C.2.2.2.2.1 _ hwF_X11_10) dX11_text_19 ?_
    refine th_callVi (As := [.ref (q 199)]) (rest := []) C lkX11_97 (X_RD_reads_c hf) hw (xRc_RD C hw) rfl rfl ⟨Nat.le_of_ble_eq_true rfl, Nat.le_of_ble_eq_true rfl⟩ hl.1 (Nat.le_of_ble_eq_true rfl) ⟨Nat.le_of_ble_eq_true rfl, Nat.le_of_ble_eq_true rfl⟩ dX11_text_22 (fun r_2 u_1 H locs hf hw => ?_)
    refine lv_istore_n (lv' := [(2, .int r_2), (1, .int (-1000 : Int32)), (0, .ref (q 99))]) hx hb dX11_text_25 rfl hl (by decide) rfl (fun ls hl => ?_)
    refine lv_iload_n hx hb dX11_text_26 rfl (lv_at hl 0 rfl) ?_
    refine lv_if_eq (tgt := 54) hx hb dX11_text_27 (by decide) (fun hc => ?_) (fun hc => ?_)
    · replace hf := hf.1 hc
      clear hc
      exact X_TH_text_54_w C r_2 v u_1 _ _ _ hf hw (lv_sub hl [2, 0] rfl)
    · replace hf := hf.2 hc
      clear hc
      refine lv_aload_n hx hb dX11_text_30 rfl (lv_at hl 2 rfl) ?_
      refine xg_9 C hw (C.2.2.2.2.1 _ hwF_X11_69) dX11_text_31 ?_
      refine lv_astore_n (lv' := [(3, .ref (v 399)), (2, .int r_2), (1, .int (-1000 : Int32)), (0, .ref (q 99))]) hx hb dX11_text_34 rfl hl (by decide) rfl (fun ls hl => ?_)
      refine lv_aload_n hx hb dX11_text_35 rfl (lv_at hl 3 rfl) ?_
      refine lv_aload_n hx hb dX11_text_36 rfl (lv_at hl 3 rfl) ?_
      refine xg_1 C hw (C.2.2.2.2.1 _ hwF_X11_19) dX11_text_37 ?_
      refine xgn_204 C hw (va_Nw.use rfl (xN C hwG_X11_101)) dX11_text_40 ?_
      refine xq_9 (x := (v 499)) C hw (C.2.2.2.2.1 _ hwF_X11_69) dX11_text_43 (fun H locs hw => ?_)
      refine lv_aload_n hx hb dX11_text_46 rfl (lv_at hl 3 rfl) ?_
      refine xg_1 C hw (C.2.2.2.2.1 _ hwF_X11_19) dX11_text_47 ?_
      refine lv_aload_n hx hb dX11_text_50 rfl (lv_at hl 0 rfl) ?_
      refine xqn_204 (x := (v 399)) C hw (va_Nw.use rfl (xN C hwG_X11_101)) dX11_text_51 (fun H locs hw => ?_)
      obtain ⟨v_3, hw⟩ := xw_399_499_f hw
      obtain ⟨u_4, e9⟩ : ∃ z, z = xw_399_499 u_1 := ⟨_, rfl⟩
      rw [← e9] at hw
      replace hf := hf u_4 e9
      clear e9
      replace hl := lv_sub hl [1, 2, 3] rfl
      have hl : lv_has ls 4 [(2, .int r_2), (1, .int (-1000 : Int32)), (0, .ref (q 99))] := hl
      exact X_TH_text_54_w C r_2 v_3 u_4 _ _ _ hf hw (lv_sub hl [2, 0] rfl)
end

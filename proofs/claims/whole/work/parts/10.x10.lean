section
variable {p : Program} {l : Launch} {e : Env} {s : State} {m : MethodId} {args : Array Value} {below : List Frame} {meth : Method} {c : Code} {dC : Nat → ClassId} {dI : Nat → Nat → Nat} {cs : Nat → ClassId} {ad ak : Nat → Nat} {q v : Nat → Nat} {A : Nat → Prop}
/-! X_RD_reads -/
theorem dX4_reads_0 : decode cX4_reads 0 = .ok (.aload_n 0, 1) := by decide +kernel
theorem dX4_reads_1 : decode cX4_reads 1 = .ok (.getfield 31, 3) := by decide +kernel
theorem dX4_reads_4 : decode cX4_reads 4 = .ok (.invokevirtual 67, 3) := by decide +kernel
theorem dX4_reads_7 : decode cX4_reads 7 = .ok (.aload_n 0, 1) := by decide +kernel
theorem dX4_reads_8 : decode cX4_reads 8 = .ok (.aload_n 1, 1) := by decide +kernel
theorem dX4_reads_9 : decode cX4_reads 9 = .ok (.invokevirtual 70, 3) := by decide +kernel
theorem dX4_reads_12 : decode cX4_reads 12 = .ok (.aload_n 0, 1) := by decide +kernel
theorem dX4_reads_13 : decode cX4_reads 13 = .ok (.iconst (-1), 1) := by decide +kernel
theorem dX4_reads_14 : decode cX4_reads 14 = .ok (.putfield 35, 3) := by decide +kernel
theorem dX4_reads_17 : decode cX4_reads 17 = .ok (.aload_n 0, 1) := by decide +kernel
theorem dX4_reads_18 : decode cX4_reads 18 = .ok (.invokevirtual 74, 3) := by decide +kernel
theorem dX4_reads_21 : decode cX4_reads 21 = .ok (.aload_n 0, 1) := by decide +kernel
theorem dX4_reads_22 : decode cX4_reads 22 = .ok (.iconst 0, 1) := by decide +kernel
theorem dX4_reads_23 : decode cX4_reads 23 = .ok (.putfield 48, 3) := by decide +kernel
theorem dX4_reads_26 : decode cX4_reads 26 = .ok (.aload_n 0, 1) := by decide +kernel
theorem dX4_reads_27 : decode cX4_reads 27 = .ok (.iconst 0, 1) := by decide +kernel
theorem dX4_reads_28 : decode cX4_reads 28 = .ok (.putfield 51, 3) := by decide +kernel
theorem dX4_reads_31 : decode cX4_reads 31 = .ok (.aload_n 0, 1) := by decide +kernel
theorem dX4_reads_32 : decode cX4_reads 32 = .ok (.iconst 0, 1) := by decide +kernel
theorem dX4_reads_33 : decode cX4_reads 33 = .ok (.putfield 55, 3) := by decide +kernel
theorem dX4_reads_36 : decode cX4_reads 36 = .ok (.aload_n 0, 1) := by decide +kernel
theorem dX4_reads_37 : decode cX4_reads 37 = .ok (.iconst 0, 1) := by decide +kernel
theorem dX4_reads_38 : decode cX4_reads 38 = .ok (.putfield 58, 3) := by decide +kernel
theorem dX4_reads_41 : decode cX4_reads 41 = .ok (.aload_n 0, 1) := by decide +kernel
theorem dX4_reads_42 : decode cX4_reads 42 = .ok (.iconst 0, 1) := by decide +kernel
theorem dX4_reads_43 : decode cX4_reads 43 = .ok (.putfield 61, 3) := by decide +kernel
theorem dX4_reads_46 : decode cX4_reads 46 = .ok (.aload_n 0, 1) := by decide +kernel
theorem dX4_reads_47 : decode cX4_reads 47 = .ok (.getfield 42, 3) := by decide +kernel
theorem dX4_reads_50 : decode cX4_reads 50 = .ok (.getstatic 77, 3) := by decide +kernel
theorem dX4_reads_53 : decode cX4_reads 53 = .ok (.if_acmp .ne 12, 3) := by decide +kernel
theorem dX4_reads_56 : decode cX4_reads 56 = .ok (.aload_n 0, 1) := by decide +kernel
theorem dX4_reads_57 : decode cX4_reads 57 = .ok (.invokevirtual 80, 3) := by decide +kernel
theorem dX4_reads_60 : decode cX4_reads 60 = .ok (.ifCond .ne 5, 3) := by decide +kernel
theorem dX4_reads_63 : decode cX4_reads 63 = .ok (.iconst 0, 1) := by decide +kernel
theorem dX4_reads_64 : decode cX4_reads 64 = .ok (.ireturn, 1) := by decide +kernel
theorem dX4_reads_65 : decode cX4_reads 65 = .ok (.iconst 0, 1) := by decide +kernel
theorem dX4_reads_66 : decode cX4_reads 66 = .ok (.istore_n 2, 1) := by decide +kernel
theorem dX4_reads_67 : decode cX4_reads 67 = .ok (.iload_n 2, 1) := by decide +kernel
theorem dX4_reads_68 : decode cX4_reads 68 = .ok (.bipush 24, 2) := by decide +kernel
theorem dX4_reads_70 : decode cX4_reads 70 = .ok (.if_icmp .gt 38, 3) := by decide +kernel
theorem dX4_reads_73 : decode cX4_reads 73 = .ok (.aload_n 0, 1) := by decide +kernel
theorem dX4_reads_74 : decode cX4_reads 74 = .ok (.getfield 42, 3) := by decide +kernel
theorem dX4_reads_77 : decode cX4_reads 77 = .ok (.getstatic 38, 3) := by decide +kernel
theorem dX4_reads_80 : decode cX4_reads 80 = .ok (.if_acmp .eq 28, 3) := by decide +kernel
theorem dX4_reads_83 : decode cX4_reads 83 = .ok (.aload_n 0, 1) := by decide +kernel
theorem dX4_reads_84 : decode cX4_reads 84 = .ok (.invokevirtual 84, 3) := by decide +kernel
theorem dX4_reads_87 : decode cX4_reads 87 = .ok (.ifCond .eq 13, 3) := by decide +kernel
theorem dX4_reads_90 : decode cX4_reads 90 = .ok (.aload_n 0, 1) := by decide +kernel
theorem dX4_reads_91 : decode cX4_reads 91 = .ok (.getstatic 87, 3) := by decide +kernel
theorem dX4_reads_94 : decode cX4_reads 94 = .ok (.invokevirtual 90, 3) := by decide +kernel
theorem dX4_reads_97 : decode cX4_reads 97 = .ok (.ifCond .ne 5, 3) := by decide +kernel
theorem dX4_reads_100 : decode cX4_reads 100 = .ok (.iconst 0, 1) := by decide +kernel
theorem dX4_reads_101 : decode cX4_reads 101 = .ok (.ireturn, 1) := by decide +kernel
theorem dX4_reads_102 : decode cX4_reads 102 = .ok (.iinc 2 1, 3) := by decide +kernel
theorem dX4_reads_105 : decode cX4_reads 105 = .ok (.goto (-38), 3) := by decide +kernel
theorem dX4_reads_108 : decode cX4_reads 108 = .ok (.aload_n 1, 1) := by decide +kernel
theorem dX4_reads_109 : decode cX4_reads 109 = .ok (.getfield 94, 3) := by decide +kernel
theorem dX4_reads_112 : decode cX4_reads 112 = .ok (.sipush 400, 3) := by decide +kernel
theorem dX4_reads_115 : decode cX4_reads 115 = .ok (.if_icmp .le 11, 3) := by decide +kernel
theorem dX4_reads_118 : decode cX4_reads 118 = .ok (.aload_n 0, 1) := by decide +kernel
theorem dX4_reads_119 : decode cX4_reads 119 = .ok (.iconst 1, 1) := by decide +kernel
theorem dX4_reads_120 : decode cX4_reads 120 = .ok (.invokevirtual 99, 3) := by decide +kernel
theorem dX4_reads_123 : decode cX4_reads 123 = .ok (.ifCond .eq 7, 3) := by decide +kernel
theorem dX4_reads_126 : decode cX4_reads 126 = .ok (.iconst 1, 1) := by decide +kernel
theorem dX4_reads_127 : decode cX4_reads 127 = .ok (.goto 4, 3) := by decide +kernel
theorem dX4_reads_130 : decode cX4_reads 130 = .ok (.iconst 0, 1) := by decide +kernel
theorem dX4_reads_131 : decode cX4_reads 131 = .ok (.ireturn, 1) := by decide +kernel
def X_RD_reads_100 (K : Int32 → xs_St → Prop) (u : xs_St) : Prop :=
  (((0 : Int32) = 0 ∨ (0 : Int32) = 1) ∧ K (0 : Int32) u)
set_option maxHeartbeats 4000000 in
set_option maxRecDepth 100000 in
theorem X_RD_reads_100_w {K : Int32 → xs_St → Prop} (C : th_Cx p s m args meth c cX4_reads RX4 3 (some .boolean) (dC, dI) (th_ty cs) (xE ad ak) A) (u : xs_St) (H : Heap) (locs : List Loc) (ls : Array Slot) (hf : X_RD_reads_100 K u) (hw : th_wI (dC, dI) (wX cs ad q v v) A s.heap u H locs) (hl : lv_has ls 3 []) : W p l e (th_rm 40 0 0) s m args below meth c H locs 0 0 (MQ below (va_Qi K (th_Post (dC, dI) (wX cs ad q v v) A) A) args s 0 0 A) (F0 m 100 ls []) := by
  have hx := C.1
  have hb := C.2.1
  unfold X_RD_reads_100 at hf
  refine lv_iconst (v := (0 : Int32)) hx hb dX4_reads_100 (by decide) ?_
  exact th_zret C hw hf dX4_reads_101
def X_RD_reads_131 (K : Int32 → xs_St → Prop) (z0 : Int32) (u : xs_St) : Prop :=
  ((z0 = 0 ∨ z0 = 1) ∧ K z0 u)
set_option maxHeartbeats 4000000 in
set_option maxRecDepth 100000 in
theorem X_RD_reads_131_w {K : Int32 → xs_St → Prop} (C : th_Cx p s m args meth c cX4_reads RX4 3 (some .boolean) (dC, dI) (th_ty cs) (xE ad ak) A) (z0 : Int32) (u : xs_St) (H : Heap) (locs : List Loc) (ls : Array Slot) (hf : X_RD_reads_131 K z0 u) (hw : th_wI (dC, dI) (wX cs ad q v v) A s.heap u H locs) (hl : lv_has ls 3 []) : W p l e (th_rm 40 0 0) s m args below meth c H locs 0 0 (MQ below (va_Qi K (th_Post (dC, dI) (wX cs ad q v v) A) A) args s 0 0 A) (F0 m 131 ls [.int z0]) := by
  have hx := C.1
  have hb := C.2.1
  unfold X_RD_reads_131 at hf
  exact th_zret C hw hf dX4_reads_131
def X_RD_reads_126 (K : Int32 → xs_St → Prop) (u : xs_St) : Prop :=
  X_RD_reads_131 K (1 : Int32) u
set_option maxHeartbeats 4000000 in
set_option maxRecDepth 100000 in
theorem X_RD_reads_126_w {K : Int32 → xs_St → Prop} (C : th_Cx p s m args meth c cX4_reads RX4 3 (some .boolean) (dC, dI) (th_ty cs) (xE ad ak) A) (u : xs_St) (H : Heap) (locs : List Loc) (ls : Array Slot) (hf : X_RD_reads_126 K u) (hw : th_wI (dC, dI) (wX cs ad q v v) A s.heap u H locs) (hl : lv_has ls 3 []) : W p l e (th_rm 40 0 0) s m args below meth c H locs 0 0 (MQ below (va_Qi K (th_Post (dC, dI) (wX cs ad q v v) A) A) args s 0 0 A) (F0 m 126 ls []) := by
  have hx := C.1
  have hb := C.2.1
  unfold X_RD_reads_126 at hf
  refine lv_iconst (v := (1 : Int32)) hx hb dX4_reads_126 (by decide) ?_
  refine lv_goto (tgt := 131) hx hb dX4_reads_127 (by decide) ?_
  exact X_RD_reads_131_w C (1 : Int32) u _ _ _ hf hw (lv_sub hl [] rfl)
def X_RD_reads_108 (K : Int32 → xs_St → Prop) (u : xs_St) : Prop :=
  (((xi u 101) ≤ (400 : Int32) → X_RD_reads_126 K u) ∧ (¬ (xi u 101) ≤ (400 : Int32) → X_RD_faulty (1 : Int32) u (fun r_2 u_1 => ((r_2 = 0 → X_RD_reads_131 K (0 : Int32) u_1) ∧ (¬ r_2 = 0 → X_RD_reads_126 K u_1)))))
set_option maxHeartbeats 4000000 in
set_option maxRecDepth 100000 in
theorem X_RD_reads_108_w {K : Int32 → xs_St → Prop} (C : th_Cx p s m args meth c cX4_reads RX4 3 (some .boolean) (dC, dI) (th_ty cs) (xE ad ak) A) (u : xs_St) (H : Heap) (locs : List Loc) (ls : Array Slot) (hf : X_RD_reads_108 K u) (hw : th_wI (dC, dI) (wX cs ad q v v) A s.heap u H locs) (hl : lv_has ls 3 [(0, .ref (q 299)), (1, .ref (q 199))]) : W p l e (th_rm 40 0 0) s m args below meth c H locs 0 0 (MQ below (va_Qi K (th_Post (dC, dI) (wX cs ad q v v) A) A) args s 0 0 A) (F0 m 108 ls []) := by
  have hx := C.1
  have hb := C.2.1
  unfold X_RD_reads_108 at hf
  refine lv_aload_n hx hb dX4_reads_108 rfl (lv_at hl 1 rfl) ?_
  refine xgn_101 C hw (va_Nw.use rfl (xN C hwG_X4_94)) dX4_reads_109 ?_
  refine lv_sipush (v := (400 : Int32)) hx hb dX4_reads_112 (by decide) ?_
  refine lv_icmp_le (tgt := 126) hx hb dX4_reads_115 (by decide) (fun hc => ?_) (fun hc => ?_)
  · replace hf := hf.1 hc
    clear hc
    exact X_RD_reads_126_w C  u _ _ _ hf hw (lv_sub hl [] rfl)
  · replace hf := hf.2 hc
    clear hc
    refine lv_aload_n hx hb dX4_reads_118 rfl (lv_at hl 0 rfl) ?_
    refine lv_iconst (v := (1 : Int32)) hx hb dX4_reads_119 (by decide) ?_
    refine th_callVi (As := [.int (1 : Int32)]) (rest := []) C lkX4_99 (X_RD_faulty_c hf) hw (xRc_RD C hw) rfl rfl ⟨Nat.le_of_ble_eq_true rfl, Nat.le_of_ble_eq_true rfl⟩ hl.1 (Nat.le_of_ble_eq_true rfl) ⟨Nat.le_of_ble_eq_true rfl, Nat.le_of_ble_eq_true rfl⟩ dX4_reads_120 (fun r_2 u_1 H locs hf hw => ?_)
    refine lv_if_eq (tgt := 130) hx hb dX4_reads_123 (by decide) (fun hc => ?_) (fun hc => ?_)
    · replace hf := hf.1 hc
      clear hc
      refine lv_iconst (v := (0 : Int32)) hx hb dX4_reads_130 (by decide) ?_
      exact X_RD_reads_131_w C (0 : Int32) u_1 _ _ _ hf hw (lv_sub hl [] rfl)
    · replace hf := hf.2 hc
      clear hc
      exact X_RD_reads_126_w C  u_1 _ _ _ hf hw (lv_sub hl [] rfl)
def X_RD_reads_67 (K : Int32 → xs_St → Prop) (k67 : Int32 → xs_St → Prop) (x2 : Int32) (u : xs_St) : Prop :=
  (((24 : Int32) < x2 → X_RD_reads_108 K u) ∧ (¬ (24 : Int32) < x2 → (((xr u 206) = (some 0) → X_RD_reads_108 K u) ∧ (¬ (xr u 206) = (some 0) → X_RD_readLine u (fun r_2 u_1 => ((r_2 = 0 → X_RD_reads_100 K u_1) ∧ (¬ r_2 = 0 → X_RD_take (some 3) u_1 (fun r_4 u_3 => ((¬ r_4 = 0 → ∀ x2_5 : Int32, x2_5 = x2 + (1 : Int32) → k67 x2_5 u_3) ∧ (r_4 = 0 → X_RD_reads_100 K u_3))))))))))
set_option maxHeartbeats 4000000 in
set_option maxRecDepth 100000 in
theorem X_RD_reads_67_w {K : Int32 → xs_St → Prop} {k67 : Int32 → xs_St → Prop} (C : th_Cx p s m args meth c cX4_reads RX4 3 (some .boolean) (dC, dI) (th_ty cs) (xE ad ak) A) (hk67 : ∀ (x2 : Int32) (u : xs_St) (H : Heap) (locs : List Loc) (ls : Array Slot), k67 x2 u → th_wI (dC, dI) (wX cs ad q v v) A s.heap u H locs → lv_has ls 3 [(0, .ref (q 299)), (1, .ref (q 199)), (2, .int x2)] → W p l e (th_rm 40 0 0) s m args below meth c H locs 0 0 (MQ below (va_Qi K (th_Post (dC, dI) (wX cs ad q v v) A) A) args s 0 0 A) (F0 m 67 ls [])) (x2 : Int32) (u : xs_St) (H : Heap) (locs : List Loc) (ls : Array Slot) (hf : X_RD_reads_67 K k67 x2 u) (hw : th_wI (dC, dI) (wX cs ad q v v) A s.heap u H locs) (hl : lv_has ls 3 [(0, .ref (q 299)), (1, .ref (q 199)), (2, .int x2)]) : W p l e (th_rm 40 0 0) s m args below meth c H locs 0 0 (MQ below (va_Qi K (th_Post (dC, dI) (wX cs ad q v v) A) A) args s 0 0 A) (F0 m 67 ls []) := by
  have hx := C.1
  have hb := C.2.1
  unfold X_RD_reads_67 at hf
  refine lv_iload_n hx hb dX4_reads_67 rfl (lv_at hl 2 rfl) ?_
  refine lv_bipush (v := (24 : Int32)) hx hb dX4_reads_68 (by decide) ?_
  refine lv_icmp_gt (tgt := 108) hx hb dX4_reads_70 (by decide) (fun hc => ?_) (fun hc => ?_)
  · replace hf := hf.1 hc
    clear hc
    exact X_RD_reads_108_w C  u _ _ _ hf hw (lv_sub hl [0, 1] rfl)
  · replace hf := hf.2 hc
    clear hc
    refine lv_aload_n hx hb dX4_reads_73 rfl (lv_at hl 0 rfl) ?_
    refine xg_206 C hw (C.2.2.2.2.1 _ hwF_X4_42) dX4_reads_74 ?_
    refine xst C hw 0 (by decide) (C.2.2.2.2.1 _ hwF_X4_38) dX4_reads_77 ?_
    refine x_acmp_eq (tgt := 108) C dX4_reads_80 (by decide) (fun hc => ?_) (fun hc => ?_)
    · replace hf := hf.1 hc
      clear hc
      exact X_RD_reads_108_w C  u _ _ _ hf hw (lv_sub hl [0, 1] rfl)
    · replace hf := hf.2 hc
      clear hc
      refine lv_aload_n hx hb dX4_reads_83 rfl (lv_at hl 0 rfl) ?_
      refine th_callVi (As := []) (rest := []) C lkX4_84 (X_RD_readLine_c hf) hw (xRc_RD C hw) rfl rfl ⟨Nat.le_of_ble_eq_true rfl, Nat.le_of_ble_eq_true rfl⟩ hl.1 (Nat.le_of_ble_eq_true rfl) ⟨Nat.le_of_ble_eq_true rfl, Nat.le_of_ble_eq_true rfl⟩ dX4_reads_84 (fun r_2 u_1 H locs hf hw => ?_)
      refine lv_if_eq (tgt := 100) hx hb dX4_reads_87 (by decide) (fun hc => ?_) (fun hc => ?_)
      · replace hf := hf.1 hc
        clear hc
        exact X_RD_reads_100_w C  u_1 _ _ _ hf hw (lv_sub hl [] rfl)
      · replace hf := hf.2 hc
        clear hc
        refine lv_aload_n hx hb dX4_reads_90 rfl (lv_at hl 0 rfl) ?_
        refine xst C hw 3 (by decide) (C.2.2.2.2.1 _ hwF_X4_87) dX4_reads_91 ?_
        refine th_callVi (As := [va_re ad (some 3)]) (rest := []) C lkX4_90 (X_RD_take_c hf) hw (xRc_RD C hw) rfl rfl ⟨Nat.le_of_ble_eq_true rfl, Nat.le_of_ble_eq_true rfl⟩ hl.1 (Nat.le_of_ble_eq_true rfl) ⟨Nat.le_of_ble_eq_true rfl, Nat.le_of_ble_eq_true rfl⟩ dX4_reads_94 (fun r_4 u_3 H locs hf hw => ?_)
        refine lv_if_ne (tgt := 102) hx hb dX4_reads_97 (by decide) (fun hc => ?_) (fun hc => ?_)
        · replace hf := hf.1 hc
          clear hc
          obtain ⟨x2_5, e9⟩ : ∃ y : Int32, y = x2 + (1 : Int32) := ⟨_, rfl⟩
          replace hf := hf x2_5 e9
          refine lv_iinc (v := x2_5) (lv' := [(2, .int x2_5), (0, .ref (q 299)), (1, .ref (q 199))]) hx hb dX4_reads_102 hl (k := 2) rfl (by rw [e9]; rfl) (by decide) rfl (fun ls hl => ?_)
          clear e9
          refine lv_goto (tgt := 67) hx hb dX4_reads_105 (by decide) ?_
          exact hk67 x2_5 u_3 _ _ _ hf hw (lv_sub hl [1, 2, 0] rfl)
        · replace hf := hf.2 hc
          clear hc
          exact X_RD_reads_100_w C  u_3 _ _ _ hf hw (lv_sub hl [] rfl)
def X_RD_reads_67_lp (K : Int32 → xs_St → Prop) : Nat → Int32 → xs_St → Prop
  | 0, _, _ => False
  | n + 1, x2, u => X_RD_reads_67 K (X_RD_reads_67_lp K n) x2 u
set_option maxHeartbeats 4000000 in
set_option maxRecDepth 100000 in
theorem X_RD_reads_67_lw {K : Int32 → xs_St → Prop} (C : th_Cx p s m args meth c cX4_reads RX4 3 (some .boolean) (dC, dI) (th_ty cs) (xE ad ak) A) (n : Nat) : ∀ (x2 : Int32) (u : xs_St) (H : Heap) (locs : List Loc) (ls : Array Slot), X_RD_reads_67_lp K n x2 u → th_wI (dC, dI) (wX cs ad q v v) A s.heap u H locs → lv_has ls 3 [(0, .ref (q 299)), (1, .ref (q 199)), (2, .int x2)] → W p l e (th_rm 40 0 0) s m args below meth c H locs 0 0 (MQ below (va_Qi K (th_Post (dC, dI) (wX cs ad q v v) A) A) args s 0 0 A) (F0 m 67 ls []) := by
  induction n with
  | zero => intro x2 u H locs ls hf; exact hf.elim
  | succ n ih =>
    intro x2 u H locs ls hf hw hl
    exact X_RD_reads_67_w C ih x2 u H locs ls hf hw hl
def X_RD_reads_65 (K : Int32 → xs_St → Prop) (u : xs_St) : Prop :=
  ∃ n, X_RD_reads_67_lp K n (0 : Int32) u
set_option maxHeartbeats 4000000 in
set_option maxRecDepth 100000 in
theorem X_RD_reads_65_w {K : Int32 → xs_St → Prop} (C : th_Cx p s m args meth c cX4_reads RX4 3 (some .boolean) (dC, dI) (th_ty cs) (xE ad ak) A) (u : xs_St) (H : Heap) (locs : List Loc) (ls : Array Slot) (hf : X_RD_reads_65 K u) (hw : th_wI (dC, dI) (wX cs ad q v v) A s.heap u H locs) (hl : lv_has ls 3 [(0, .ref (q 299)), (1, .ref (q 199))]) : W p l e (th_rm 40 0 0) s m args below meth c H locs 0 0 (MQ below (va_Qi K (th_Post (dC, dI) (wX cs ad q v v) A) A) args s 0 0 A) (F0 m 65 ls []) := by
  have hx := C.1
  have hb := C.2.1
  unfold X_RD_reads_65 at hf
  refine lv_iconst (v := (0 : Int32)) hx hb dX4_reads_65 (by decide) ?_
  refine lv_istore_n (lv' := [(2, .int (0 : Int32)), (0, .ref (q 299)), (1, .ref (q 199))]) hx hb dX4_reads_66 rfl hl (by decide) rfl (fun ls hl => ?_)
  obtain ⟨n, hf⟩ := hf
  exact X_RD_reads_67_lw C n (0 : Int32) u _ _ _ hf hw (lv_sub hl [1, 2, 0] rfl)
def X_RD_reads (u : xs_St) (K : Int32 → xs_St → Prop) : Prop :=
  X_T_empty_B u (fun u_1 => X_RD_scan u_1 (fun u_3 => ∀ u_5 : xs_St, u_5 = xs_si u_3 205 (-1 : Int32) → X_RD_advance u_5 (fun u_6 => ∀ u_8 : xs_St, u_8 = xs_si u_6 208 (0 : Int32) → (((0 : Int32) = 0 ∨ (0 : Int32) = 1) ∧ ∀ u_9 : xs_St, u_9 = xs_si u_8 209 (0 : Int32) → (((0 : Int32) = 0 ∨ (0 : Int32) = 1) ∧ ∀ u_10 : xs_St, u_10 = xs_si u_9 210 (0 : Int32) → (((0 : Int32) = 0 ∨ (0 : Int32) = 1) ∧ ∀ u_11 : xs_St, u_11 = xs_si u_10 211 (0 : Int32) → ∀ u_12 : xs_St, u_12 = xs_si u_11 212 (0 : Int32) → ((¬ (xr u_12 206) = (some 9) → X_RD_reads_65 K u_12) ∧ ((xr u_12 206) = (some 9) → X_RD_readFeet u_12 (fun r_14 u_13 => ((¬ r_14 = 0 → X_RD_reads_65 K u_13) ∧ (r_14 = 0 → (((0 : Int32) = 0 ∨ (0 : Int32) = 1) ∧ K (0 : Int32) u_13))))))))))))
set_option maxHeartbeats 4000000 in
set_option maxRecDepth 100000 in
theorem X_RD_reads_c {l : Launch} {dC : Nat → ClassId} {dI : Nat → Nat → Nat} {cs : Nat → ClassId} {ad ak : Nat → Nat} {q v : Nat → Nat} {u : xs_St} {K : Int32 → xs_St → Prop} (hf : X_RD_reads u K) : th_Ci l yX4_reads cX4_reads 3 (some .boolean) 40 0 0 (dC, dI) (th_ty cs) (xE ad ak) (wX cs ad q v v) [.ref (q 299), .ref (q 199)] u K := by
  refine th_ofi (by decide) (Nat.le_of_ble_eq_true rfl) (xE_ok ad ak) ?_
  intro p e s m below meth c A ls C hw hl
  have C : th_Cx p s m _ meth c cX4_reads RX4 3 (some .boolean) (dC, dI) (th_ty cs) (xE ad ak) A := C
  have hl : lv_has ls 3 [(0, .ref (q 299)), (1, .ref (q 199))] := hl
  generalize (List.toArray _ : Array Value) = args at C ⊢
  have hx := C.1
  have hb := C.2.1
  unfold X_RD_reads at hf
  refine lv_aload_n hx hb dX4_reads_0 rfl (lv_at hl 0 rfl) ?_
  refine xg_204 C hw (C.2.2.2.2.1 _ hwF_X4_31) dX4_reads_1 ?_
  refine th_callVNv (As := []) (rest := []) C lkNX4_67 (X_T_empty_B_c hf) hw (xRc_TB C hw) rfl rfl ⟨Nat.le_of_ble_eq_true rfl, Nat.le_of_ble_eq_true rfl⟩ hl.1 (Nat.le_of_ble_eq_true rfl) ⟨Nat.le_of_ble_eq_true rfl, Nat.le_of_ble_eq_true rfl⟩ dX4_reads_4 (fun u_1 H locs hf hw => ?_)
  refine lv_aload_n hx hb dX4_reads_7 rfl (lv_at hl 0 rfl) ?_
  refine lv_aload_n hx hb dX4_reads_8 rfl (lv_at hl 1 rfl) ?_
  refine th_callVv (As := [.ref (q 199)]) (rest := []) C lkX4_70 (X_RD_scan_c hf) hw (xRc_RD C hw) rfl rfl ⟨Nat.le_of_ble_eq_true rfl, Nat.le_of_ble_eq_true rfl⟩ hl.1 (Nat.le_of_ble_eq_true rfl) ⟨Nat.le_of_ble_eq_true rfl, Nat.le_of_ble_eq_true rfl⟩ dX4_reads_9 (fun u_3 H locs hf hw => ?_)
  refine lv_aload_n hx hb dX4_reads_12 rfl (lv_at hl 0 rfl) ?_
  refine lv_iconst (v := (-1 : Int32)) hx hb dX4_reads_13 (by decide) ?_
  refine xp_205 C hw (C.2.2.2.2.1 _ hwF_X4_35) dX4_reads_14 (fun u_5 e9 H locs hw => ?_)
  replace hf := hf u_5 e9
  clear e9
  refine lv_aload_n hx hb dX4_reads_17 rfl (lv_at hl 0 rfl) ?_
  refine th_callVv (As := []) (rest := []) C lkX4_74 (X_RD_advance_c hf) hw (xRc_RD C hw) rfl rfl ⟨Nat.le_of_ble_eq_true rfl, Nat.le_of_ble_eq_true rfl⟩ hl.1 (Nat.le_of_ble_eq_true rfl) ⟨Nat.le_of_ble_eq_true rfl, Nat.le_of_ble_eq_true rfl⟩ dX4_reads_18 (fun u_6 H locs hf hw => ?_)
  refine lv_aload_n hx hb dX4_reads_21 rfl (lv_at hl 0 rfl) ?_
  refine lv_iconst (v := (0 : Int32)) hx hb dX4_reads_22 (by decide) ?_
  refine xp_208 C hw (C.2.2.2.2.1 _ hwF_X4_48) dX4_reads_23 (fun u_8 e9 H locs hw => ?_)
  replace hf := hf u_8 e9
  clear e9
  refine lv_aload_n hx hb dX4_reads_26 rfl (lv_at hl 0 rfl) ?_
  refine lv_iconst (v := (0 : Int32)) hx hb dX4_reads_27 (by decide) ?_
  refine xp_209 C hw hf.1 (C.2.2.2.2.1 _ hwF_X4_51) dX4_reads_28 (fun u_9 e9 H locs hw => ?_)
  replace hf := hf.2 u_9 e9
  clear e9
  refine lv_aload_n hx hb dX4_reads_31 rfl (lv_at hl 0 rfl) ?_
  refine lv_iconst (v := (0 : Int32)) hx hb dX4_reads_32 (by decide) ?_
  refine xp_210 C hw hf.1 (C.2.2.2.2.1 _ hwF_X4_55) dX4_reads_33 (fun u_10 e9 H locs hw => ?_)
  replace hf := hf.2 u_10 e9
  clear e9
  refine lv_aload_n hx hb dX4_reads_36 rfl (lv_at hl 0 rfl) ?_
  refine lv_iconst (v := (0 : Int32)) hx hb dX4_reads_37 (by decide) ?_
  refine xp_211 C hw hf.1 (C.2.2.2.2.1 _ hwF_X4_58) dX4_reads_38 (fun u_11 e9 H locs hw => ?_)
  replace hf := hf.2 u_11 e9
  clear e9
  refine lv_aload_n hx hb dX4_reads_41 rfl (lv_at hl 0 rfl) ?_
  refine lv_iconst (v := (0 : Int32)) hx hb dX4_reads_42 (by decide) ?_
  refine xp_212 C hw (C.2.2.2.2.1 _ hwF_X4_61) dX4_reads_43 (fun u_12 e9 H locs hw => ?_)
  replace hf := hf u_12 e9
  clear e9
  refine lv_aload_n hx hb dX4_reads_46 rfl (lv_at hl 0 rfl) ?_
  refine xg_206 C hw (C.2.2.2.2.1 _ hwF_X4_42) dX4_reads_47 ?_
  refine xst C hw 9 (by decide) (C.2.2.2.2.1 _ hwF_X4_77) dX4_reads_50 ?_
  refine x_acmp_ne (tgt := 65) C dX4_reads_53 (by decide) (fun hc => ?_) (fun hc => ?_)
  · replace hf := hf.1 hc
    clear hc
    exact X_RD_reads_65_w C  u_12 _ _ _ hf hw (lv_sub hl [0, 1] rfl)
  · replace hf := hf.2 hc
    clear hc
    refine lv_aload_n hx hb dX4_reads_56 rfl (lv_at hl 0 rfl) ?_
    refine th_callVi (As := []) (rest := []) C lkX4_80 (X_RD_readFeet_c hf) hw (xRc_RD C hw) rfl rfl ⟨Nat.le_of_ble_eq_true rfl, Nat.le_of_ble_eq_true rfl⟩ hl.1 (Nat.le_of_ble_eq_true rfl) ⟨Nat.le_of_ble_eq_true rfl, Nat.le_of_ble_eq_true rfl⟩ dX4_reads_57 (fun r_14 u_13 H locs hf hw => ?_)
    refine lv_if_ne (tgt := 65) hx hb dX4_reads_60 (by decide) (fun hc => ?_) (fun hc => ?_)
    · replace hf := hf.1 hc
      clear hc
      exact X_RD_reads_65_w C  u_13 _ _ _ hf hw (lv_sub hl [0, 1] rfl)
    · replace hf := hf.2 hc
      clear hc
      refine lv_iconst (v := (0 : Int32)) hx hb dX4_reads_63 (by decide) ?_
      exact th_zret C hw hf dX4_reads_64
/-! X_TH_text -/
theorem dX11_text_0 : decode cX11_text 0 = .ok (.sipush (-1000), 3) := by decide +kernel
theorem dX11_text_3 : decode cX11_text 3 = .ok (.istore_n 1, 1) := by decide +kernel
theorem dX11_text_4 : decode cX11_text 4 = .ok (.aload_n 0, 1) := by decide +kernel
theorem dX11_text_5 : decode cX11_text 5 = .ok (.getfield 26, 3) := by decide +kernel
theorem dX11_text_8 : decode cX11_text 8 = .ok (.getfield 94, 3) := by decide +kernel
theorem dX11_text_11 : decode cX11_text 11 = .ok (.ifCond .ne 67, 3) := by decide +kernel
theorem dX11_text_14 : decode cX11_text 14 = .ok (.aload_n 0, 1) := by decide +kernel
theorem dX11_text_15 : decode cX11_text 15 = .ok (.getfield 19, 3) := by decide +kernel
theorem dX11_text_18 : decode cX11_text 18 = .ok (.aload_n 0, 1) := by decide +kernel
theorem dX11_text_19 : decode cX11_text 19 = .ok (.getfield 10, 3) := by decide +kernel
theorem dX11_text_22 : decode cX11_text 22 = .ok (.invokevirtual 97, 3) := by decide +kernel
theorem dX11_text_25 : decode cX11_text 25 = .ok (.istore_n 2, 1) := by decide +kernel
theorem dX11_text_26 : decode cX11_text 26 = .ok (.iload_n 2, 1) := by decide +kernel
theorem dX11_text_27 : decode cX11_text 27 = .ok (.ifCond .eq 27, 3) := by decide +kernel
theorem dX11_text_30 : decode cX11_text 30 = .ok (.aload_n 0, 1) := by decide +kernel
theorem dX11_text_31 : decode cX11_text 31 = .ok (.getfield 69, 3) := by decide +kernel
theorem dX11_text_34 : decode cX11_text 34 = .ok (.astore_n 3, 1) := by decide +kernel
theorem dX11_text_35 : decode cX11_text 35 = .ok (.aload_n 0, 1) := by decide +kernel
theorem dX11_text_36 : decode cX11_text 36 = .ok (.aload_n 0, 1) := by decide +kernel
theorem dX11_text_37 : decode cX11_text 37 = .ok (.getfield 19, 3) := by decide +kernel
theorem dX11_text_40 : decode cX11_text 40 = .ok (.getfield 101, 3) := by decide +kernel
theorem dX11_text_43 : decode cX11_text 43 = .ok (.putfield 69, 3) := by decide +kernel
theorem dX11_text_46 : decode cX11_text 46 = .ok (.aload_n 0, 1) := by decide +kernel
theorem dX11_text_47 : decode cX11_text 47 = .ok (.getfield 19, 3) := by decide +kernel
theorem dX11_text_50 : decode cX11_text 50 = .ok (.aload_n 3, 1) := by decide +kernel
theorem dX11_text_51 : decode cX11_text 51 = .ok (.putfield 101, 3) := by decide +kernel
theorem dX11_text_54 : decode cX11_text 54 = .ok (.iload_n 2, 1) := by decide +kernel
theorem dX11_text_55 : decode cX11_text 55 = .ok (.ifCond .eq 13, 3) := by decide +kernel
theorem dX11_text_58 : decode cX11_text 58 = .ok (.aload_n 0, 1) := by decide +kernel
theorem dX11_text_59 : decode cX11_text 59 = .ok (.getfield 69, 3) := by decide +kernel
theorem dX11_text_62 : decode cX11_text 62 = .ok (.getfield 104, 3) := by decide +kernel
theorem dX11_text_65 : decode cX11_text 65 = .ok (.goto 12, 3) := by decide +kernel
theorem dX11_text_68 : decode cX11_text 68 = .ok (.iconst (-1), 1) := by decide +kernel
theorem dX11_text_69 : decode cX11_text 69 = .ok (.aload_n 0, 1) := by decide +kernel
theorem dX11_text_70 : decode cX11_text 70 = .ok (.getfield 19, 3) := by decide +kernel
theorem dX11_text_73 : decode cX11_text 73 = .ok (.getfield 107, 3) := by decide +kernel
theorem dX11_text_76 : decode cX11_text 76 = .ok (.isub, 1) := by decide +kernel
theorem dX11_text_77 : decode cX11_text 77 = .ok (.istore_n 1, 1) := by decide +kernel
theorem dX11_text_78 : decode cX11_text 78 = .ok (.aload_n 0, 1) := by decide +kernel
theorem dX11_text_79 : decode cX11_text 79 = .ok (.getfield 10, 3) := by decide +kernel
theorem dX11_text_82 : decode cX11_text 82 = .ok (.invokevirtual 110, 3) := by decide +kernel
theorem dX11_text_85 : decode cX11_text 85 = .ok (.iload_n 1, 1) := by decide +kernel
theorem dX11_text_86 : decode cX11_text 86 = .ok (.ireturn, 1) := by decide +kernel
def X_TH_text_78 (K : Int32 → xs_St → Prop) (x1 : Int32) (u : xs_St) : Prop :=
  X_TP_clear u (fun u_1 => K x1 u_1)
set_option maxHeartbeats 4000000 in
set_option maxRecDepth 100000 in
theorem X_TH_text_78_w {K : Int32 → xs_St → Prop} (C : th_Cx p s m args meth c cX11_text RX11 4 (some .int) (dC, dI) (th_ty cs) (xE ad ak) A) (x1 : Int32) (v : Nat → Nat) (u : xs_St) (H : Heap) (locs : List Loc) (ls : Array Slot) (hf : X_TH_text_78 K x1 u) (hw : th_wI (dC, dI) (wX cs ad q v v) A s.heap u H locs) (hl : lv_has ls 4 [(0, .ref (q 99)), (1, .int x1)]) : W p l e (th_rm 41 0 0) s m args below meth c H locs 0 0 (MQ below (va_Qi (fun r9 a9 => K r9 a9.2) (th_Post (dC, dI) (wXs cs ad q) A) A) args s 0 0 A) (F0 m 78 ls []) := by
  have hx := C.1
  have hb := C.2.1
  unfold X_TH_text_78 at hf
  refine lv_aload_n hx hb dX11_text_78 rfl (lv_at hl 0 rfl) ?_
  refine xg_0 C hw (C.2.2.2.2.1 _ hwF_X11_10) dX11_text_79 ?_
  refine th_callVv (As := []) (rest := []) C lkX11_110 (X_TP_clear_c hf) hw (xRc_TP C hw) rfl rfl ⟨Nat.le_of_ble_eq_true rfl, Nat.le_of_ble_eq_true rfl⟩ hl.1 (Nat.le_of_ble_eq_true rfl) ⟨Nat.le_of_ble_eq_true rfl, Nat.le_of_ble_eq_true rfl⟩ dX11_text_82 (fun u_1 H locs hf hw => ?_)
  refine lv_iload_n hx hb dX11_text_85 rfl (lv_at hl 1 rfl) ?_
  exact th_iret (K := (fun r9 a9 => K r9 a9.2)) (w := wXs cs ad q) (u := (v, u_1)) C hw hf dX11_text_86
def X_TH_text_77 (K : Int32 → xs_St → Prop) (z0 : Int32) (u : xs_St) : Prop :=
  X_TH_text_78 K z0 u
set_option maxHeartbeats 4000000 in
set_option maxRecDepth 100000 in
theorem X_TH_text_77_w {K : Int32 → xs_St → Prop} (C : th_Cx p s m args meth c cX11_text RX11 4 (some .int) (dC, dI) (th_ty cs) (xE ad ak) A) (z0 : Int32) (v : Nat → Nat) (u : xs_St) (H : Heap) (locs : List Loc) (ls : Array Slot) (hf : X_TH_text_77 K z0 u) (hw : th_wI (dC, dI) (wX cs ad q v v) A s.heap u H locs) (hl : lv_has ls 4 [(0, .ref (q 99))]) : W p l e (th_rm 41 0 0) s m args below meth c H locs 0 0 (MQ below (va_Qi (fun r9 a9 => K r9 a9.2) (th_Post (dC, dI) (wXs cs ad q) A) A) args s 0 0 A) (F0 m 77 ls [.int z0]) := by
  have hx := C.1
  have hb := C.2.1
  unfold X_TH_text_77 at hf
  refine lv_istore_n (lv' := [(1, .int z0), (0, .ref (q 99))]) hx hb dX11_text_77 rfl hl (by decide) rfl (fun ls hl => ?_)
  exact X_TH_text_78_w C z0 v u _ _ _ hf hw (lv_sub hl [1, 0] rfl)
def X_TH_text_54 (K : Int32 → xs_St → Prop) (x2 : Int32) (u : xs_St) : Prop :=
  ((x2 = 0 → X_TH_text_77 K ((-1 : Int32) - (xi u 213)) u) ∧ (¬ x2 = 0 → X_TH_text_77 K (xi u 304) u))
set_option maxHeartbeats 4000000 in
set_option maxRecDepth 100000 in
theorem X_TH_text_54_w {K : Int32 → xs_St → Prop} (C : th_Cx p s m args meth c cX11_text RX11 4 (some .int) (dC, dI) (th_ty cs) (xE ad ak) A) (x2 : Int32) (v : Nat → Nat) (u : xs_St) (H : Heap) (locs : List Loc) (ls : Array Slot) (hf : X_TH_text_54 K x2 u) (hw : th_wI (dC, dI) (wX cs ad q v v) A s.heap u H locs) (hl : lv_has ls 4 [(0, .ref (q 99)), (2, .int x2)]) : W p l e (th_rm 41 0 0) s m args below meth c H locs 0 0 (MQ below (va_Qi (fun r9 a9 => K r9 a9.2) (th_Post (dC, dI) (wXs cs ad q) A) A) args s 0 0 A) (F0 m 54 ls []) := by
  have hx := C.1
  have hb := C.2.1
  unfold X_TH_text_54 at hf
  refine lv_iload_n hx hb dX11_text_54 rfl (lv_at hl 1 rfl) ?_
  refine lv_if_eq (tgt := 68) hx hb dX11_text_55 (by decide) (fun hc => ?_) (fun hc => ?_)
  · replace hf := hf.1 hc
    clear hc
    refine lv_iconst (v := (-1 : Int32)) hx hb dX11_text_68 (by decide) ?_
    refine lv_aload_n hx hb dX11_text_69 rfl (lv_at hl 0 rfl) ?_
    refine xg_1 C hw (C.2.2.2.2.1 _ hwF_X11_19) dX11_text_70 ?_
    refine xgn_213 C hw (va_Nw.use rfl (xN C hwG_X11_107)) dX11_text_73 ?_
    refine lv_isub hx hb dX11_text_76 ?_
    exact X_TH_text_77_w C ((-1 : Int32) - (xi u 213)) v u _ _ _ hf hw (lv_sub hl [0] rfl)
  · replace hf := hf.2 hc
    clear hc
    refine lv_aload_n hx hb dX11_text_58 rfl (lv_at hl 0 rfl) ?_
    refine xg_9 C hw (C.2.2.2.2.1 _ hwF_X11_69) dX11_text_59 ?_
    refine xgn_304 C hw (va_Nw.use rfl (xN C hwG_X11_104)) dX11_text_62 ?_
    refine lv_goto (tgt := 77) hx hb dX11_text_65 (by decide) ?_
    exact X_TH_text_77_w C (xi u 304) v u _ _ _ hf hw (lv_sub hl [0] rfl)
def X_TH_text (u : xs_St) (K : Int32 → xs_St → Prop) : Prop :=
  ((¬ (xi u 504) = 0 → X_TH_text_78 K (-1000 : Int32) u) ∧ ((xi u 504) = 0 → X_RD_reads u (fun r_2 u_1 => ((r_2 = 0 → X_TH_text_54 K r_2 u_1) ∧ (¬ r_2 = 0 → ∀ u_4 : xs_St, u_4 = xw_399_499 u_1 → X_TH_text_54 K r_2 u_4)))))
set_option maxHeartbeats 4000000 in
set_option maxRecDepth 100000 in
theorem X_TH_text_c {l : Launch} {dC : Nat → ClassId} {dI : Nat → Nat → Nat} {cs : Nat → ClassId} {ad ak : Nat → Nat} {q v : Nat → Nat} {u : xs_St} {K : Int32 → xs_St → Prop} (hf : X_TH_text u K) : th_Ci l yX11_text cX11_text 4 (some .int) 41 0 0 (dC, dI) (th_ty cs) (xE ad ak) (wXs cs ad q) [.ref (q 99)] (v, u) (fun r9 a9 => K r9 a9.2) := by
  refine th_ofi (by decide) (Nat.le_of_ble_eq_true rfl) (xE_ok ad ak) ?_
  intro p e s m below meth c A ls C hw hl
  have C : th_Cx p s m _ meth c cX11_text RX11 4 (some .int) (dC, dI) (th_ty cs) (xE ad ak) A := C
  have hl : lv_has ls 4 [(0, .ref (q 99))] := hl
  generalize (List.toArray _ : Array Value) = args at C ⊢
  have hx := C.1
  have hb := C.2.1
  unfold X_TH_text at hf
  refine lv_sipush (v := (-1000 : Int32)) hx hb dX11_text_0 (by decide) ?_
  refine lv_istore_n (lv' := [(1, .int (-1000 : Int32)), (0, .ref (q 99))]) hx hb dX11_text_3 rfl hl (by decide) rfl (fun ls hl => ?_)
  refine lv_aload_n hx hb dX11_text_4 rfl (lv_at hl 1 rfl) ?_
  refine xg_2 C hw (C.2.2.2.2.1 _ hwF_X11_26) dX11_text_5 ?_
  refine xgn_504 C hw (va_Nw.use rfl (xN C hwG_X11_94)) dX11_text_8 ?_
  refine lv_if_ne (tgt := 78) hx hb dX11_text_11 (by decide) (fun hc => ?_) (fun hc => ?_)
  · replace hf := hf.1 hc
    clear hc
    exact X_TH_text_78_w C (-1000 : Int32) v u _ _ _ hf hw (lv_sub hl [1, 0] rfl)
  · replace hf := hf.2 hc
    clear hc
    refine lv_aload_n hx hb dX11_text_14 rfl (lv_at hl 1 rfl) ?_
    refine xg_1 C hw (C.2.2.2.2.1 _ hwF_X11_19) dX11_text_15 ?_
    refine lv_aload_n hx hb dX11_text_18 rfl (lv_at hl 1 rfl) ?_
    refine xg_0 C hw (C.2.2.2.2.1 _ hwF_X11_10) dX11_text_19 ?_
    refine th_callVi (As := [.ref (q 199)]) (rest := []) C lkX11_97 (X_RD_reads_c hf) hw (xRc_RD C hw) rfl rfl ⟨Nat.le_of_ble_eq_true rfl, Nat.le_of_ble_eq_true rfl⟩ hl.1 (Nat.le_of_ble_eq_true rfl) ⟨Nat.le_of_ble_eq_true rfl, Nat.le_of_ble_eq_true rfl⟩ dX11_text_22 (fun r_2 u_1 H locs hf hw => ?_)
    refine lv_istore_n (lv' := [(2, .int r_2), (1, .int (-1000 : Int32)), (0, .ref (q 99))]) hx hb dX11_text_25 rfl hl (by decide) rfl (fun ls hl => ?_)
    refine lv_iload_n hx hb dX11_text_26 rfl (lv_at hl 0 rfl) ?_
    refine lv_if_eq (tgt := 54) hx hb dX11_text_27 (by decide) (fun hc => ?_) (fun hc => ?_)
    · replace hf := hf.1 hc
      clear hc
      exact X_TH_text_54_w C r_2 v u_1 _ _ _ hf hw (lv_sub hl [2, 0] rfl)
    · replace hf := hf.2 hc
      clear hc
      refine lv_aload_n hx hb dX11_text_30 rfl (lv_at hl 2 rfl) ?_
      refine xg_9 C hw (C.2.2.2.2.1 _ hwF_X11_69) dX11_text_31 ?_
      refine lv_astore_n (lv' := [(3, .ref (v 399)), (2, .int r_2), (1, .int (-1000 : Int32)), (0, .ref (q 99))]) hx hb dX11_text_34 rfl hl (by decide) rfl (fun ls hl => ?_)
      refine lv_aload_n hx hb dX11_text_35 rfl (lv_at hl 3 rfl) ?_
      refine lv_aload_n hx hb dX11_text_36 rfl (lv_at hl 3 rfl) ?_
      refine xg_1 C hw (C.2.2.2.2.1 _ hwF_X11_19) dX11_text_37 ?_
      refine xgn_204 C hw (va_Nw.use rfl (xN C hwG_X11_101)) dX11_text_40 ?_
      refine xq_9 (x := (v 499)) C hw (C.2.2.2.2.1 _ hwF_X11_69) dX11_text_43 (fun H locs hw => ?_)
      refine lv_aload_n hx hb dX11_text_46 rfl (lv_at hl 3 rfl) ?_
      refine xg_1 C hw (C.2.2.2.2.1 _ hwF_X11_19) dX11_text_47 ?_
      refine lv_aload_n hx hb dX11_text_50 rfl (lv_at hl 0 rfl) ?_
      refine xqn_204 (x := (v 399)) C hw (va_Nw.use rfl (xN C hwG_X11_101)) dX11_text_51 (fun H locs hw => ?_)
      obtain ⟨v_3, hw⟩ := xw_399_499_f hw
      obtain ⟨u_4, e9⟩ : ∃ z, z = xw_399_499 u_1 := ⟨_, rfl⟩
      rw [← e9] at hw
      replace hf := hf u_4 e9
      clear e9
      replace hl := lv_sub hl [1, 2, 3] rfl
      have hl : lv_has ls 4 [(2, .int r_2), (1, .int (-1000 : Int32)), (0, .ref (q 99))] := hl
      exact X_TH_text_54_w C r_2 v_3 u_4 _ _ _ hf hw (lv_sub hl [2, 0] rfl)
end

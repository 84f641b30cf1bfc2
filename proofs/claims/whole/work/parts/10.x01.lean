section
variable {p : Program} {l : Launch} {e : Env} {s : State} {m : MethodId} {args : Array Value} {below : List Frame} {meth : Method} {c : Code} {dC : Nat → ClassId} {dI : Nat → Nat → Nat} {cs : Nat → ClassId} {ad ak : Nat → Nat} {q v : Nat → Nat} {A : Nat → Prop}
/-! X_RD_beginsLine -/
theorem dX4_beginsLine_0 : decode cX4_beginsLine 0 = .ok (.aload_n 0, 1) := by decide +kernel
theorem dX4_beginsLine_1 : decode cX4_beginsLine 1 = .ok (.getstatic 177, 3) := by decide +kernel
theorem dX4_beginsLine_4 : decode cX4_beginsLine 4 = .ok (.if_acmp .eq 38, 3) := by decide +kernel
theorem dX4_beginsLine_7 : decode cX4_beginsLine 7 = .ok (.aload_n 0, 1) := by decide +kernel
theorem dX4_beginsLine_8 : decode cX4_beginsLine 8 = .ok (.getstatic 183, 3) := by decide +kernel
theorem dX4_beginsLine_11 : decode cX4_beginsLine 11 = .ok (.if_acmp .eq 31, 3) := by decide +kernel
theorem dX4_beginsLine_14 : decode cX4_beginsLine 14 = .ok (.aload_n 0, 1) := by decide +kernel
theorem dX4_beginsLine_15 : decode cX4_beginsLine 15 = .ok (.getstatic 205, 3) := by decide +kernel
theorem dX4_beginsLine_18 : decode cX4_beginsLine 18 = .ok (.if_acmp .eq 24, 3) := by decide +kernel
theorem dX4_beginsLine_21 : decode cX4_beginsLine 21 = .ok (.aload_n 0, 1) := by decide +kernel
theorem dX4_beginsLine_22 : decode cX4_beginsLine 22 = .ok (.getstatic 208, 3) := by decide +kernel
theorem dX4_beginsLine_25 : decode cX4_beginsLine 25 = .ok (.if_acmp .eq 17, 3) := by decide +kernel
theorem dX4_beginsLine_28 : decode cX4_beginsLine 28 = .ok (.aload_n 0, 1) := by decide +kernel
theorem dX4_beginsLine_29 : decode cX4_beginsLine 29 = .ok (.getstatic 211, 3) := by decide +kernel
theorem dX4_beginsLine_32 : decode cX4_beginsLine 32 = .ok (.if_acmp .eq 10, 3) := by decide +kernel
theorem dX4_beginsLine_35 : decode cX4_beginsLine 35 = .ok (.aload_n 0, 1) := by decide +kernel
theorem dX4_beginsLine_36 : decode cX4_beginsLine 36 = .ok (.getstatic 189, 3) := by decide +kernel
theorem dX4_beginsLine_39 : decode cX4_beginsLine 39 = .ok (.if_acmp .ne 7, 3) := by decide +kernel
theorem dX4_beginsLine_42 : decode cX4_beginsLine 42 = .ok (.iconst 1, 1) := by decide +kernel
theorem dX4_beginsLine_43 : decode cX4_beginsLine 43 = .ok (.goto 4, 3) := by decide +kernel
theorem dX4_beginsLine_46 : decode cX4_beginsLine 46 = .ok (.iconst 0, 1) := by decide +kernel
theorem dX4_beginsLine_47 : decode cX4_beginsLine 47 = .ok (.ireturn, 1) := by decide +kernel
def X_RD_beginsLine_47 (K : Int32 → xs_St → Prop) (z0 : Int32) (u : xs_St) : Prop :=
  ((z0 = 0 ∨ z0 = 1) ∧ K z0 u)
set_option maxHeartbeats 4000000 in
set_option maxRecDepth 100000 in
theorem X_RD_beginsLine_47_w {K : Int32 → xs_St → Prop} (C : th_Cx p s m args meth c cX4_beginsLine RX4 1 (some .boolean) (dC, dI) (th_ty cs) (xE ad ak) A) (z0 : Int32) (u : xs_St) (H : Heap) (locs : List Loc) (ls : Array Slot) (hf : X_RD_beginsLine_47 K z0 u) (hw : th_wI (dC, dI) (wX cs ad q v v) A s.heap u H locs) (hl : lv_has ls 1 []) : W p l e (th_rm 0 0 0) s m args below meth c H locs 0 0 (MQ below (va_Qi K (th_Post (dC, dI) (wX cs ad q v v) A) A) args s 0 0 A) (F0 m 47 ls [.int z0]) := by
  have hx := C.1
  have hb := C.2.1
  unfold X_RD_beginsLine_47 at hf
  exact th_zret C hw hf dX4_beginsLine_47
def X_RD_beginsLine_42 (K : Int32 → xs_St → Prop) (u : xs_St) : Prop :=
  X_RD_beginsLine_47 K (1 : Int32) u
set_option maxHeartbeats 4000000 in
set_option maxRecDepth 100000 in
theorem X_RD_beginsLine_42_w {K : Int32 → xs_St → Prop} (C : th_Cx p s m args meth c cX4_beginsLine RX4 1 (some .boolean) (dC, dI) (th_ty cs) (xE ad ak) A) (u : xs_St) (H : Heap) (locs : List Loc) (ls : Array Slot) (hf : X_RD_beginsLine_42 K u) (hw : th_wI (dC, dI) (wX cs ad q v v) A s.heap u H locs) (hl : lv_has ls 1 []) : W p l e (th_rm 0 0 0) s m args below meth c H locs 0 0 (MQ below (va_Qi K (th_Post (dC, dI) (wX cs ad q v v) A) A) args s 0 0 A) (F0 m 42 ls []) := by
  have hx := C.1
  have hb := C.2.1
  unfold X_RD_beginsLine_42 at hf
  refine lv_iconst (v := (1 : Int32)) hx hb dX4_beginsLine_42 (by decide) ?_
  refine lv_goto (tgt := 47) hx hb dX4_beginsLine_43 (by decide) ?_
  exact X_RD_beginsLine_47_w C (1 : Int32) u _ _ _ hf hw (lv_sub hl [] rfl)
def X_RD_beginsLine (a1 : Option Nat) (u : xs_St) (K : Int32 → xs_St → Prop) : Prop :=
  ((a1 = (some 10) → X_RD_beginsLine_42 K u) ∧ (¬ a1 = (some 10) → ((a1 = (some 12) → X_RD_beginsLine_42 K u) ∧ (¬ a1 = (some 12) → ((a1 = (some 14) → X_RD_beginsLine_42 K u) ∧ (¬ a1 = (some 14) → ((a1 = (some 15) → X_RD_beginsLine_42 K u) ∧ (¬ a1 = (some 15) → ((a1 = (some 16) → X_RD_beginsLine_42 K u) ∧ (¬ a1 = (some 16) → ((¬ a1 = (some 17) → X_RD_beginsLine_47 K (0 : Int32) u) ∧ (a1 = (some 17) → X_RD_beginsLine_42 K u))))))))))))
set_option maxHeartbeats 4000000 in
set_option maxRecDepth 100000 in
theorem X_RD_beginsLine_c {l : Launch} {dC : Nat → ClassId} {dI : Nat → Nat → Nat} {cs : Nat → ClassId} {ad ak : Nat → Nat} {q v : Nat → Nat} {a1 : Option Nat} {u : xs_St} {K : Int32 → xs_St → Prop} (hf : X_RD_beginsLine a1 u K) : th_Ci l yX4_beginsLine cX4_beginsLine 1 (some .boolean) 0 0 0 (dC, dI) (th_ty cs) (xE ad ak) (wX cs ad q v v) [va_re ad a1] u K := by
  refine th_ofi (by decide) (by cases a1 <;> exact Nat.le_of_ble_eq_true rfl) (xE_ok ad ak) ?_
  intro p e s m below meth c A ls C hw hl
  have C : th_Cx p s m _ meth c cX4_beginsLine RX4 1 (some .boolean) (dC, dI) (th_ty cs) (xE ad ak) A := C
  have hl : lv_has ls 1 [(0, va_re ad a1)] := by cases a1 <;> exact hl
  generalize (List.toArray _ : Array Value) = args at C ⊢
  have hx := C.1
  have hb := C.2.1
  unfold X_RD_beginsLine at hf
  refine th_aload_n hx hb dX4_beginsLine_0 rfl (lv_at hl 0 rfl) ?_
  refine xst C hw 10 (by decide) (C.2.2.2.2.1 _ hwF_X4_177) dX4_beginsLine_1 ?_
  refine x_acmp_eq (tgt := 42) C dX4_beginsLine_4 (by decide) (fun hc => ?_) (fun hc => ?_)
  · replace hf := hf.1 hc
    clear hc
    exact X_RD_beginsLine_42_w C  u _ _ _ hf hw (lv_sub hl [] rfl)
  · replace hf := hf.2 hc
    clear hc
    refine th_aload_n hx hb dX4_beginsLine_7 rfl (lv_at hl 0 rfl) ?_
    refine xst C hw 12 (by decide) (C.2.2.2.2.1 _ hwF_X4_183) dX4_beginsLine_8 ?_
    refine x_acmp_eq (tgt := 42) C dX4_beginsLine_11 (by decide) (fun hc => ?_) (fun hc => ?_)
    · replace hf := hf.1 hc
      clear hc
      exact X_RD_beginsLine_42_w C  u _ _ _ hf hw (lv_sub hl [] rfl)
    · replace hf := hf.2 hc
      clear hc
      refine th_aload_n hx hb dX4_beginsLine_14 rfl (lv_at hl 0 rfl) ?_
      refine xst C hw 14 (by decide) (C.2.2.2.2.1 _ hwF_X4_205) dX4_beginsLine_15 ?_
      refine x_acmp_eq (tgt := 42) C dX4_beginsLine_18 (by decide) (fun hc => ?_) (fun hc => ?_)
      · replace hf := hf.1 hc
        clear hc
        exact X_RD_beginsLine_42_w C  u _ _ _ hf hw (lv_sub hl [] rfl)
      · replace hf := hf.2 hc
        clear hc
        refine th_aload_n hx hb dX4_beginsLine_21 rfl (lv_at hl 0 rfl) ?_
        refine xst C hw 15 (by decide) (C.2.2.2.2.1 _ hwF_X4_208) dX4_beginsLine_22 ?_
        refine x_acmp_eq (tgt := 42) C dX4_beginsLine_25 (by decide) (fun hc => ?_) (fun hc => ?_)
        · replace hf := hf.1 hc
          clear hc
          exact X_RD_beginsLine_42_w C  u _ _ _ hf hw (lv_sub hl [] rfl)
        · replace hf := hf.2 hc
          clear hc
          refine th_aload_n hx hb dX4_beginsLine_28 rfl (lv_at hl 0 rfl) ?_
          refine xst C hw 16 (by decide) (C.2.2.2.2.1 _ hwF_X4_211) dX4_beginsLine_29 ?_
          refine x_acmp_eq (tgt := 42) C dX4_beginsLine_32 (by decide) (fun hc => ?_) (fun hc => ?_)
          · replace hf := hf.1 hc
            clear hc
            exact X_RD_beginsLine_42_w C  u _ _ _ hf hw (lv_sub hl [] rfl)
          · replace hf := hf.2 hc
            clear hc
            refine th_aload_n hx hb dX4_beginsLine_35 rfl (lv_at hl 0 rfl) ?_
            refine xst C hw 17 (by decide) (C.2.2.2.2.1 _ hwF_X4_189) dX4_beginsLine_36 ?_
            refine x_acmp_ne (tgt := 46) C dX4_beginsLine_39 (by decide) (fun hc => ?_) (fun hc => ?_)
            · replace hf := hf.1 hc
              clear hc
              refine lv_iconst (v := (0 : Int32)) hx hb dX4_beginsLine_46 (by decide) ?_
              exact X_RD_beginsLine_47_w C (0 : Int32) u _ _ _ hf hw (lv_sub hl [] rfl)
            · replace hf := hf.2 hc
              clear hc
              exact X_RD_beginsLine_42_w C  u _ _ _ hf hw (lv_sub hl [] rfl)
/-! X_RD_faulty -/
theorem dX4_faulty_0 : decode cX4_faulty 0 = .ok (.aload_n 0, 1) := by decide +kernel
theorem dX4_faulty_1 : decode cX4_faulty 1 = .ok (.iload_n 1, 1) := by decide +kernel
theorem dX4_faulty_2 : decode cX4_faulty 2 = .ok (.putfield 61, 3) := by decide +kernel
theorem dX4_faulty_5 : decode cX4_faulty 5 = .ok (.aload_n 0, 1) := by decide +kernel
theorem dX4_faulty_6 : decode cX4_faulty 6 = .ok (.aload_n 0, 1) := by decide +kernel
theorem dX4_faulty_7 : decode cX4_faulty 7 = .ok (.getfield 35, 3) := by decide +kernel
theorem dX4_faulty_10 : decode cX4_faulty 10 = .ok (.ifCond .lt 26, 3) := by decide +kernel
theorem dX4_faulty_13 : decode cX4_faulty 13 = .ok (.aload_n 0, 1) := by decide +kernel
theorem dX4_faulty_14 : decode cX4_faulty 14 = .ok (.getfield 35, 3) := by decide +kernel
theorem dX4_faulty_17 : decode cX4_faulty 17 = .ok (.aload_n 0, 1) := by decide +kernel
theorem dX4_faulty_18 : decode cX4_faulty 18 = .ok (.getfield 24, 3) := by decide +kernel
theorem dX4_faulty_21 : decode cX4_faulty 21 = .ok (.if_icmp .ge 15, 3) := by decide +kernel
theorem dX4_faulty_24 : decode cX4_faulty 24 = .ok (.aload_n 0, 1) := by decide +kernel
theorem dX4_faulty_25 : decode cX4_faulty 25 = .ok (.getfield 17, 3) := by decide +kernel
theorem dX4_faulty_28 : decode cX4_faulty 28 = .ok (.aload_n 0, 1) := by decide +kernel
theorem dX4_faulty_29 : decode cX4_faulty 29 = .ok (.getfield 35, 3) := by decide +kernel
theorem dX4_faulty_32 : decode cX4_faulty 32 = .ok (.iaload, 1) := by decide +kernel
theorem dX4_faulty_33 : decode cX4_faulty 33 = .ok (.goto 4, 3) := by decide +kernel
theorem dX4_faulty_36 : decode cX4_faulty 36 = .ok (.iconst 0, 1) := by decide +kernel
theorem dX4_faulty_37 : decode cX4_faulty 37 = .ok (.putfield 64, 3) := by decide +kernel
theorem dX4_faulty_40 : decode cX4_faulty 40 = .ok (.iconst 0, 1) := by decide +kernel
theorem dX4_faulty_41 : decode cX4_faulty 41 = .ok (.ireturn, 1) := by decide +kernel
def X_RD_faulty_37 (K : Int32 → xs_St → Prop) (z0 : Int32) (u : xs_St) : Prop :=
  ∀ u_1 : xs_St, u_1 = xs_si u 213 z0 → (((0 : Int32) = 0 ∨ (0 : Int32) = 1) ∧ K (0 : Int32) u_1)
set_option maxHeartbeats 4000000 in
set_option maxRecDepth 100000 in
theorem X_RD_faulty_37_w {K : Int32 → xs_St → Prop} (C : th_Cx p s m args meth c cX4_faulty RX4 2 (some .boolean) (dC, dI) (th_ty cs) (xE ad ak) A) (z0 : Int32) (u : xs_St) (H : Heap) (locs : List Loc) (ls : Array Slot) (hf : X_RD_faulty_37 K z0 u) (hw : th_wI (dC, dI) (wX cs ad q v v) A s.heap u H locs) (hl : lv_has ls 2 []) : W p l e (th_rm 0 0 0) s m args below meth c H locs 0 0 (MQ below (va_Qi K (th_Post (dC, dI) (wX cs ad q v v) A) A) args s 0 0 A) (F0 m 37 ls [.int z0, .ref (q 299)]) := by
  have hx := C.1
  have hb := C.2.1
  unfold X_RD_faulty_37 at hf
  refine xp_213 C hw (C.2.2.2.2.1 _ hwF_X4_64) dX4_faulty_37 (fun u_1 e9 H locs hw => ?_)
  replace hf := hf u_1 e9
  clear e9
  refine lv_iconst (v := (0 : Int32)) hx hb dX4_faulty_40 (by decide) ?_
  exact th_zret C hw hf dX4_faulty_41
def X_RD_faulty_36 (K : Int32 → xs_St → Prop) (u : xs_St) : Prop :=
  X_RD_faulty_37 K (0 : Int32) u
set_option maxHeartbeats 4000000 in
set_option maxRecDepth 100000 in
theorem X_RD_faulty_36_w {K : Int32 → xs_St → Prop} (C : th_Cx p s m args meth c cX4_faulty RX4 2 (some .boolean) (dC, dI) (th_ty cs) (xE ad ak) A) (u : xs_St) (H : Heap) (locs : List Loc) (ls : Array Slot) (hf : X_RD_faulty_36 K u) (hw : th_wI (dC, dI) (wX cs ad q v v) A s.heap u H locs) (hl : lv_has ls 2 []) : W p l e (th_rm 0 0 0) s m args below meth c H locs 0 0 (MQ below (va_Qi K (th_Post (dC, dI) (wX cs ad q v v) A) A) args s 0 0 A) (F0 m 36 ls [.ref (q 299)]) := by
  have hx := C.1
  have hb := C.2.1
  unfold X_RD_faulty_36 at hf
  refine lv_iconst (v := (0 : Int32)) hx hb dX4_faulty_36 (by decide) ?_
  exact X_RD_faulty_37_w C (0 : Int32) u _ _ _ hf hw (lv_sub hl [] rfl)
def X_RD_faulty (a1 : Int32) (u : xs_St) (K : Int32 → xs_St → Prop) : Prop :=
  ∀ u_1 : xs_St, u_1 = xs_si u 212 a1 → (((xi u_1 205) < 0 → X_RD_faulty_36 K u_1) ∧ (¬ (xi u_1 205) < 0 → (((xi u_1 203) ≤ (xi u_1 205) → X_RD_faulty_36 K u_1) ∧ (¬ (xi u_1 203) ≤ (xi u_1 205) → (vp_in (xi u_1 205) 401 ∧ ∀ y_2 : Int32, y_2 = xa u_1 201 ((xi u_1 205)).toNatClampNeg → X_RD_faulty_37 K y_2 u_1)))))
set_option maxHeartbeats 4000000 in
set_option maxRecDepth 100000 in
theorem X_RD_faulty_c {l : Launch} {dC : Nat → ClassId} {dI : Nat → Nat → Nat} {cs : Nat → ClassId} {ad ak : Nat → Nat} {q v : Nat → Nat} {a1 : Int32} {u : xs_St} {K : Int32 → xs_St → Prop} (hf : X_RD_faulty a1 u K) : th_Ci l yX4_faulty cX4_faulty 2 (some .boolean) 0 0 0 (dC, dI) (th_ty cs) (xE ad ak) (wX cs ad q v v) [.ref (q 299), .int a1] u K := by
  refine th_ofi (by decide) (Nat.le_of_ble_eq_true rfl) (xE_ok ad ak) ?_
  intro p e s m below meth c A ls C hw hl
  have C : th_Cx p s m _ meth c cX4_faulty RX4 2 (some .boolean) (dC, dI) (th_ty cs) (xE ad ak) A := C
  have hl : lv_has ls 2 [(0, .ref (q 299)), (1, .int a1)] := hl
  generalize (List.toArray _ : Array Value) = args at C ⊢
  have hx := C.1
  have hb := C.2.1
  unfold X_RD_faulty at hf
  refine lv_aload_n hx hb dX4_faulty_0 rfl (lv_at hl 0 rfl) ?_
  refine lv_iload_n hx hb dX4_faulty_1 rfl (lv_at hl 1 rfl) ?_
  refine xp_212 C hw (C.2.2.2.2.1 _ hwF_X4_61) dX4_faulty_2 (fun u_1 e9 H locs hw => ?_)
  replace hf := hf u_1 e9
  clear e9
  refine lv_aload_n hx hb dX4_faulty_5 rfl (lv_at hl 0 rfl) ?_
  refine lv_aload_n hx hb dX4_faulty_6 rfl (lv_at hl 0 rfl) ?_
  refine xg_205 C hw (C.2.2.2.2.1 _ hwF_X4_35) dX4_faulty_7 ?_
  refine lv_if_lt (tgt := 36) hx hb dX4_faulty_10 (by decide) (fun hc => ?_) (fun hc => ?_)
  · replace hf := hf.1 hc
    clear hc
    exact X_RD_faulty_36_w C  u_1 _ _ _ hf hw (lv_sub hl [] rfl)
  · replace hf := hf.2 hc
    clear hc
    refine lv_aload_n hx hb dX4_faulty_13 rfl (lv_at hl 0 rfl) ?_
    refine xg_205 C hw (C.2.2.2.2.1 _ hwF_X4_35) dX4_faulty_14 ?_
    refine lv_aload_n hx hb dX4_faulty_17 rfl (lv_at hl 0 rfl) ?_
    refine xg_203 C hw (C.2.2.2.2.1 _ hwF_X4_24) dX4_faulty_18 ?_
    refine lv_icmp_ge (tgt := 36) hx hb dX4_faulty_21 (by decide) (fun hc => ?_) (fun hc => ?_)
    · replace hf := hf.1 hc
      clear hc
      exact X_RD_faulty_36_w C  u_1 _ _ _ hf hw (lv_sub hl [] rfl)
    · replace hf := hf.2 hc
      clear hc
      refine lv_aload_n hx hb dX4_faulty_24 rfl (lv_at hl 0 rfl) ?_
      refine xg_201 C hw (C.2.2.2.2.1 _ hwF_X4_17) dX4_faulty_25 ?_
      refine lv_aload_n hx hb dX4_faulty_28 rfl (lv_at hl 0 rfl) ?_
      refine xg_205 C hw (C.2.2.2.2.1 _ hwF_X4_35) dX4_faulty_29 ?_
      refine yl_201 C hw hf.1 dX4_faulty_32 (fun y_2 e9 => ?_)
      replace hf := hf.2 y_2 e9
      clear e9
      refine lv_goto (tgt := 37) hx hb dX4_faulty_33 (by decide) ?_
      exact X_RD_faulty_37_w C y_2 u_1 _ _ _ hf hw (lv_sub hl [] rfl)
/-! X_RD_isDigit -/
theorem dX4_isDigit_0 : decode cX4_isDigit 0 = .ok (.iload_n 0, 1) := by decide +kernel
theorem dX4_isDigit_1 : decode cX4_isDigit 1 = .ok (.bipush 48, 2) := by decide +kernel
theorem dX4_isDigit_3 : decode cX4_isDigit 3 = .ok (.if_icmp .lt 13, 3) := by decide +kernel
theorem dX4_isDigit_6 : decode cX4_isDigit 6 = .ok (.iload_n 0, 1) := by decide +kernel
theorem dX4_isDigit_7 : decode cX4_isDigit 7 = .ok (.bipush 57, 2) := by decide +kernel
theorem dX4_isDigit_9 : decode cX4_isDigit 9 = .ok (.if_icmp .gt 7, 3) := by decide +kernel
theorem dX4_isDigit_12 : decode cX4_isDigit 12 = .ok (.iconst 1, 1) := by decide +kernel
theorem dX4_isDigit_13 : decode cX4_isDigit 13 = .ok (.goto 4, 3) := by decide +kernel
theorem dX4_isDigit_16 : decode cX4_isDigit 16 = .ok (.iconst 0, 1) := by decide +kernel
theorem dX4_isDigit_17 : decode cX4_isDigit 17 = .ok (.ireturn, 1) := by decide +kernel
def X_RD_isDigit_17 (K : Int32 → xs_St → Prop) (z0 : Int32) (u : xs_St) : Prop :=
  ((z0 = 0 ∨ z0 = 1) ∧ K z0 u)
set_option maxHeartbeats 4000000 in
set_option maxRecDepth 100000 in
theorem X_RD_isDigit_17_w {K : Int32 → xs_St → Prop} (C : th_Cx p s m args meth c cX4_isDigit RX4 1 (some .boolean) (dC, dI) (th_ty cs) (xE ad ak) A) (z0 : Int32) (u : xs_St) (H : Heap) (locs : List Loc) (ls : Array Slot) (hf : X_RD_isDigit_17 K z0 u) (hw : th_wI (dC, dI) (wX cs ad q v v) A s.heap u H locs) (hl : lv_has ls 1 []) : W p l e (th_rm 0 0 0) s m args below meth c H locs 0 0 (MQ below (va_Qi K (th_Post (dC, dI) (wX cs ad q v v) A) A) args s 0 0 A) (F0 m 17 ls [.int z0]) := by
  have hx := C.1
  have hb := C.2.1
  unfold X_RD_isDigit_17 at hf
  exact th_zret C hw hf dX4_isDigit_17
def X_RD_isDigit_16 (K : Int32 → xs_St → Prop) (u : xs_St) : Prop :=
  X_RD_isDigit_17 K (0 : Int32) u
set_option maxHeartbeats 4000000 in
set_option maxRecDepth 100000 in
theorem X_RD_isDigit_16_w {K : Int32 → xs_St → Prop} (C : th_Cx p s m args meth c cX4_isDigit RX4 1 (some .boolean) (dC, dI) (th_ty cs) (xE ad ak) A) (u : xs_St) (H : Heap) (locs : List Loc) (ls : Array Slot) (hf : X_RD_isDigit_16 K u) (hw : th_wI (dC, dI) (wX cs ad q v v) A s.heap u H locs) (hl : lv_has ls 1 []) : W p l e (th_rm 0 0 0) s m args below meth c H locs 0 0 (MQ below (va_Qi K (th_Post (dC, dI) (wX cs ad q v v) A) A) args s 0 0 A) (F0 m 16 ls []) := by
  have hx := C.1
  have hb := C.2.1
  unfold X_RD_isDigit_16 at hf
  refine lv_iconst (v := (0 : Int32)) hx hb dX4_isDigit_16 (by decide) ?_
  exact X_RD_isDigit_17_w C (0 : Int32) u _ _ _ hf hw (lv_sub hl [] rfl)
def X_RD_isDigit (a1 : Int32) (u : xs_St) (K : Int32 → xs_St → Prop) : Prop :=
  ((a1 < (48 : Int32) → X_RD_isDigit_16 K u) ∧ (¬ a1 < (48 : Int32) → (((57 : Int32) < a1 → X_RD_isDigit_16 K u) ∧ (¬ (57 : Int32) < a1 → X_RD_isDigit_17 K (1 : Int32) u))))
set_option maxHeartbeats 4000000 in
set_option maxRecDepth 100000 in
theorem X_RD_isDigit_c {l : Launch} {dC : Nat → ClassId} {dI : Nat → Nat → Nat} {cs : Nat → ClassId} {ad ak : Nat → Nat} {q v : Nat → Nat} {a1 : Int32} {u : xs_St} {K : Int32 → xs_St → Prop} (hf : X_RD_isDigit a1 u K) : th_Ci l yX4_isDigit cX4_isDigit 1 (some .boolean) 0 0 0 (dC, dI) (th_ty cs) (xE ad ak) (wX cs ad q v v) [.int a1] u K := by
  refine th_ofi (by decide) (Nat.le_of_ble_eq_true rfl) (xE_ok ad ak) ?_
  intro p e s m below meth c A ls C hw hl
  have C : th_Cx p s m _ meth c cX4_isDigit RX4 1 (some .boolean) (dC, dI) (th_ty cs) (xE ad ak) A := C
  have hl : lv_has ls 1 [(0, .int a1)] := hl
  generalize (List.toArray _ : Array Value) = args at C ⊢
  have hx := C.1
  have hb := C.2.1
  unfold X_RD_isDigit at hf
  refine lv_iload_n hx hb dX4_isDigit_0 rfl (lv_at hl 0 rfl) ?_
  refine lv_bipush (v := (48 : Int32)) hx hb dX4_isDigit_1 (by decide) ?_
  refine lv_icmp_lt (tgt := 16) hx hb dX4_isDigit_3 (by decide) (fun hc => ?_) (fun hc => ?_)
  · replace hf := hf.1 hc
    clear hc
    exact X_RD_isDigit_16_w C  u _ _ _ hf hw (lv_sub hl [] rfl)
  · replace hf := hf.2 hc
    clear hc
    refine lv_iload_n hx hb dX4_isDigit_6 rfl (lv_at hl 0 rfl) ?_
    refine lv_bipush (v := (57 : Int32)) hx hb dX4_isDigit_7 (by decide) ?_
    refine lv_icmp_gt (tgt := 16) hx hb dX4_isDigit_9 (by decide) (fun hc => ?_) (fun hc => ?_)
    · replace hf := hf.1 hc
      clear hc
      exact X_RD_isDigit_16_w C  u _ _ _ hf hw (lv_sub hl [] rfl)
    · replace hf := hf.2 hc
      clear hc
      refine lv_iconst (v := (1 : Int32)) hx hb dX4_isDigit_12 (by decide) ?_
      refine lv_goto (tgt := 17) hx hb dX4_isDigit_13 (by decide) ?_
      exact X_RD_isDigit_17_w C (1 : Int32) u _ _ _ hf hw (lv_sub hl [] rfl)
/-! X_RD_isMeasure -/
theorem dX4_isMeasure_0 : decode cX4_isMeasure 0 = .ok (.aload_n 0, 1) := by decide +kernel
theorem dX4_isMeasure_1 : decode cX4_isMeasure 1 = .ok (.getstatic 268, 3) := by decide +kernel
theorem dX4_isMeasure_4 : decode cX4_isMeasure 4 = .ok (.if_acmp .eq 31, 3) := by decide +kernel
theorem dX4_isMeasure_7 : decode cX4_isMeasure 7 = .ok (.aload_n 0, 1) := by decide +kernel
theorem dX4_isMeasure_8 : decode cX4_isMeasure 8 = .ok (.getstatic 271, 3) := by decide +kernel
theorem dX4_isMeasure_11 : decode cX4_isMeasure 11 = .ok (.if_acmp .eq 24, 3) := by decide +kernel
theorem dX4_isMeasure_14 : decode cX4_isMeasure 14 = .ok (.aload_n 0, 1) := by decide +kernel
theorem dX4_isMeasure_15 : decode cX4_isMeasure 15 = .ok (.getstatic 274, 3) := by decide +kernel
theorem dX4_isMeasure_18 : decode cX4_isMeasure 18 = .ok (.if_acmp .eq 17, 3) := by decide +kernel
theorem dX4_isMeasure_21 : decode cX4_isMeasure 21 = .ok (.aload_n 0, 1) := by decide +kernel
theorem dX4_isMeasure_22 : decode cX4_isMeasure 22 = .ok (.getstatic 277, 3) := by decide +kernel
theorem dX4_isMeasure_25 : decode cX4_isMeasure 25 = .ok (.if_acmp .eq 10, 3) := by decide +kernel
theorem dX4_isMeasure_28 : decode cX4_isMeasure 28 = .ok (.aload_n 0, 1) := by decide +kernel
theorem dX4_isMeasure_29 : decode cX4_isMeasure 29 = .ok (.getstatic 280, 3) := by decide +kernel
theorem dX4_isMeasure_32 : decode cX4_isMeasure 32 = .ok (.if_acmp .ne 7, 3) := by decide +kernel
theorem dX4_isMeasure_35 : decode cX4_isMeasure 35 = .ok (.iconst 1, 1) := by decide +kernel
theorem dX4_isMeasure_36 : decode cX4_isMeasure 36 = .ok (.goto 4, 3) := by decide +kernel
theorem dX4_isMeasure_39 : decode cX4_isMeasure 39 = .ok (.iconst 0, 1) := by decide +kernel
theorem dX4_isMeasure_40 : decode cX4_isMeasure 40 = .ok (.ireturn, 1) := by decide +kernel
def X_RD_isMeasure_40 (K : Int32 → xs_St → Prop) (z0 : Int32) (u : xs_St) : Prop :=
  ((z0 = 0 ∨ z0 = 1) ∧ K z0 u)
set_option maxHeartbeats 4000000 in
set_option maxRecDepth 100000 in
theorem X_RD_isMeasure_40_w {K : Int32 → xs_St → Prop} (C : th_Cx p s m args meth c cX4_isMeasure RX4 1 (some .boolean) (dC, dI) (th_ty cs) (xE ad ak) A) (z0 : Int32) (u : xs_St) (H : Heap) (locs : List Loc) (ls : Array Slot) (hf : X_RD_isMeasure_40 K z0 u) (hw : th_wI (dC, dI) (wX cs ad q v v) A s.heap u H locs) (hl : lv_has ls 1 []) : W p l e (th_rm 0 0 0) s m args below meth c H locs 0 0 (MQ below (va_Qi K (th_Post (dC, dI) (wX cs ad q v v) A) A) args s 0 0 A) (F0 m 40 ls [.int z0]) := by
  have hx := C.1
  have hb := C.2.1
  unfold X_RD_isMeasure_40 at hf
  exact th_zret C hw hf dX4_isMeasure_40
def X_RD_isMeasure_35 (K : Int32 → xs_St → Prop) (u : xs_St) : Prop :=
  X_RD_isMeasure_40 K (1 : Int32) u
set_option maxHeartbeats 4000000 in
set_option maxRecDepth 100000 in
theorem X_RD_isMeasure_35_w {K : Int32 → xs_St → Prop} (C : th_Cx p s m args meth c cX4_isMeasure RX4 1 (some .boolean) (dC, dI) (th_ty cs) (xE ad ak) A) (u : xs_St) (H : Heap) (locs : List Loc) (ls : Array Slot) (hf : X_RD_isMeasure_35 K u) (hw : th_wI (dC, dI) (wX cs ad q v v) A s.heap u H locs) (hl : lv_has ls 1 []) : W p l e (th_rm 0 0 0) s m args below meth c H locs 0 0 (MQ below (va_Qi K (th_Post (dC, dI) (wX cs ad q v v) A) A) args s 0 0 A) (F0 m 35 ls []) := by
  have hx := C.1
  have hb := C.2.1
  unfold X_RD_isMeasure_35 at hf
  refine lv_iconst (v := (1 : Int32)) hx hb dX4_isMeasure_35 (by decide) ?_
  refine lv_goto (tgt := 40) hx hb dX4_isMeasure_36 (by decide) ?_
  exact X_RD_isMeasure_40_w C (1 : Int32) u _ _ _ hf hw (lv_sub hl [] rfl)
def X_RD_isMeasure (a1 : Option Nat) (u : xs_St) (K : Int32 → xs_St → Prop) : Prop :=
  ((a1 = (some 22) → X_RD_isMeasure_35 K u) ∧ (¬ a1 = (some 22) → ((a1 = (some 23) → X_RD_isMeasure_35 K u) ∧ (¬ a1 = (some 23) → ((a1 = (some 24) → X_RD_isMeasure_35 K u) ∧ (¬ a1 = (some 24) → ((a1 = (some 25) → X_RD_isMeasure_35 K u) ∧ (¬ a1 = (some 25) → ((¬ a1 = (some 26) → X_RD_isMeasure_40 K (0 : Int32) u) ∧ (a1 = (some 26) → X_RD_isMeasure_35 K u))))))))))
set_option maxHeartbeats 4000000 in
set_option maxRecDepth 100000 in
theorem X_RD_isMeasure_c {l : Launch} {dC : Nat → ClassId} {dI : Nat → Nat → Nat} {cs : Nat → ClassId} {ad ak : Nat → Nat} {q v : Nat → Nat} {a1 : Option Nat} {u : xs_St} {K : Int32 → xs_St → Prop} (hf : X_RD_isMeasure a1 u K) : th_Ci l yX4_isMeasure cX4_isMeasure 1 (some .boolean) 0 0 0 (dC, dI) (th_ty cs) (xE ad ak) (wX cs ad q v v) [va_re ad a1] u K := by
  refine th_ofi (by decide) (by cases a1 <;> exact Nat.le_of_ble_eq_true rfl) (xE_ok ad ak) ?_
  intro p e s m below meth c A ls C hw hl
  have C : th_Cx p s m _ meth c cX4_isMeasure RX4 1 (some .boolean) (dC, dI) (th_ty cs) (xE ad ak) A := C
  have hl : lv_has ls 1 [(0, va_re ad a1)] := by cases a1 <;> exact hl
  generalize (List.toArray _ : Array Value) = args at C ⊢
  have hx := C.1
  have hb := C.2.1
  unfold X_RD_isMeasure at hf
  refine th_aload_n hx hb dX4_isMeasure_0 rfl (lv_at hl 0 rfl) ?_
  refine xst C hw 22 (by decide) (C.2.2.2.2.1 _ hwF_X4_268) dX4_isMeasure_1 ?_
  refine x_acmp_eq (tgt := 35) C dX4_isMeasure_4 (by decide) (fun hc => ?_) (fun hc => ?_)
  · replace hf := hf.1 hc
    clear hc
    exact X_RD_isMeasure_35_w C  u _ _ _ hf hw (lv_sub hl [] rfl)
  · replace hf := hf.2 hc
    clear hc
    refine th_aload_n hx hb dX4_isMeasure_7 rfl (lv_at hl 0 rfl) ?_
    refine xst C hw 23 (by decide) (C.2.2.2.2.1 _ hwF_X4_271) dX4_isMeasure_8 ?_
    refine x_acmp_eq (tgt := 35) C dX4_isMeasure_11 (by decide) (fun hc => ?_) (fun hc => ?_)
    · replace hf := hf.1 hc
      clear hc
      exact X_RD_isMeasure_35_w C  u _ _ _ hf hw (lv_sub hl [] rfl)
    · replace hf := hf.2 hc
      clear hc
      refine th_aload_n hx hb dX4_isMeasure_14 rfl (lv_at hl 0 rfl) ?_
      refine xst C hw 24 (by decide) (C.2.2.2.2.1 _ hwF_X4_274) dX4_isMeasure_15 ?_
      refine x_acmp_eq (tgt := 35) C dX4_isMeasure_18 (by decide) (fun hc => ?_) (fun hc => ?_)
      · replace hf := hf.1 hc
        clear hc
        exact X_RD_isMeasure_35_w C  u _ _ _ hf hw (lv_sub hl [] rfl)
      · replace hf := hf.2 hc
        clear hc
        refine th_aload_n hx hb dX4_isMeasure_21 rfl (lv_at hl 0 rfl) ?_
        refine xst C hw 25 (by decide) (C.2.2.2.2.1 _ hwF_X4_277) dX4_isMeasure_22 ?_
        refine x_acmp_eq (tgt := 35) C dX4_isMeasure_25 (by decide) (fun hc => ?_) (fun hc => ?_)
        · replace hf := hf.1 hc
          clear hc
          exact X_RD_isMeasure_35_w C  u _ _ _ hf hw (lv_sub hl [] rfl)
        · replace hf := hf.2 hc
          clear hc
          refine th_aload_n hx hb dX4_isMeasure_28 rfl (lv_at hl 0 rfl) ?_
          refine xst C hw 26 (by decide) (C.2.2.2.2.1 _ hwF_X4_280) dX4_isMeasure_29 ?_
          refine x_acmp_ne (tgt := 39) C dX4_isMeasure_32 (by decide) (fun hc => ?_) (fun hc => ?_)
          · replace hf := hf.1 hc
            clear hc
            refine lv_iconst (v := (0 : Int32)) hx hb dX4_isMeasure_39 (by decide) ?_
            exact X_RD_isMeasure_40_w C (0 : Int32) u _ _ _ hf hw (lv_sub hl [] rfl)
          · replace hf := hf.2 hc
            clear hc
            exact X_RD_isMeasure_35_w C  u _ _ _ hf hw (lv_sub hl [] rfl)
/-! X_RD_isTooOften -/
theorem dX4_isTooOften_0 : decode cX4_isTooOften 0 = .ok (.aload_n 1, 1) := by decide +kernel
theorem dX4_isTooOften_1 : decode cX4_isTooOften 1 = .ok (.getstatic 205, 3) := by decide +kernel
theorem dX4_isTooOften_4 : decode cX4_isTooOften 4 = .ok (.if_acmp .ne 10, 3) := by decide +kernel
theorem dX4_isTooOften_7 : decode cX4_isTooOften 7 = .ok (.aload_n 0, 1) := by decide +kernel
theorem dX4_isTooOften_8 : decode cX4_isTooOften 8 = .ok (.getfield 51, 3) := by decide +kernel
theorem dX4_isTooOften_11 : decode cX4_isTooOften 11 = .ok (.ifCond .ne 50, 3) := by decide +kernel
theorem dX4_isTooOften_14 : decode cX4_isTooOften 14 = .ok (.aload_n 1, 1) := by decide +kernel
theorem dX4_isTooOften_15 : decode cX4_isTooOften 15 = .ok (.getstatic 208, 3) := by decide +kernel
theorem dX4_isTooOften_18 : decode cX4_isTooOften 18 = .ok (.if_acmp .ne 10, 3) := by decide +kernel
theorem dX4_isTooOften_21 : decode cX4_isTooOften 21 = .ok (.aload_n 0, 1) := by decide +kernel
theorem dX4_isTooOften_22 : decode cX4_isTooOften 22 = .ok (.getfield 55, 3) := by decide +kernel
theorem dX4_isTooOften_25 : decode cX4_isTooOften 25 = .ok (.ifCond .ne 36, 3) := by decide +kernel
theorem dX4_isTooOften_28 : decode cX4_isTooOften 28 = .ok (.aload_n 1, 1) := by decide +kernel
theorem dX4_isTooOften_29 : decode cX4_isTooOften 29 = .ok (.getstatic 211, 3) := by decide +kernel
theorem dX4_isTooOften_32 : decode cX4_isTooOften 32 = .ok (.if_acmp .ne 10, 3) := by decide +kernel
theorem dX4_isTooOften_35 : decode cX4_isTooOften 35 = .ok (.aload_n 0, 1) := by decide +kernel
theorem dX4_isTooOften_36 : decode cX4_isTooOften 36 = .ok (.getfield 58, 3) := by decide +kernel
theorem dX4_isTooOften_39 : decode cX4_isTooOften 39 = .ok (.ifCond .ne 22, 3) := by decide +kernel
theorem dX4_isTooOften_42 : decode cX4_isTooOften 42 = .ok (.aload_n 1, 1) := by decide +kernel
theorem dX4_isTooOften_43 : decode cX4_isTooOften 43 = .ok (.getstatic 189, 3) := by decide +kernel
theorem dX4_isTooOften_46 : decode cX4_isTooOften 46 = .ok (.if_acmp .ne 19, 3) := by decide +kernel
theorem dX4_isTooOften_49 : decode cX4_isTooOften 49 = .ok (.aload_n 0, 1) := by decide +kernel
theorem dX4_isTooOften_50 : decode cX4_isTooOften 50 = .ok (.getfield 31, 3) := by decide +kernel
theorem dX4_isTooOften_53 : decode cX4_isTooOften 53 = .ok (.getfield 214, 3) := by decide +kernel
theorem dX4_isTooOften_56 : decode cX4_isTooOften 56 = .ok (.bipush 6, 2) := by decide +kernel
theorem dX4_isTooOften_58 : decode cX4_isTooOften 58 = .ok (.if_icmp .lt 7, 3) := by decide +kernel
theorem dX4_isTooOften_61 : decode cX4_isTooOften 61 = .ok (.iconst 1, 1) := by decide +kernel
theorem dX4_isTooOften_62 : decode cX4_isTooOften 62 = .ok (.goto 4, 3) := by decide +kernel
theorem dX4_isTooOften_65 : decode cX4_isTooOften 65 = .ok (.iconst 0, 1) := by decide +kernel
theorem dX4_isTooOften_66 : decode cX4_isTooOften 66 = .ok (.ireturn, 1) := by decide +kernel
def X_RD_isTooOften_66 (K : Int32 → xs_St → Prop) (z0 : Int32) (u : xs_St) : Prop :=
  ((z0 = 0 ∨ z0 = 1) ∧ K z0 u)
set_option maxHeartbeats 4000000 in
set_option maxRecDepth 100000 in
theorem X_RD_isTooOften_66_w {K : Int32 → xs_St → Prop} (C : th_Cx p s m args meth c cX4_isTooOften RX4 2 (some .boolean) (dC, dI) (th_ty cs) (xE ad ak) A) (z0 : Int32) (u : xs_St) (H : Heap) (locs : List Loc) (ls : Array Slot) (hf : X_RD_isTooOften_66 K z0 u) (hw : th_wI (dC, dI) (wX cs ad q v v) A s.heap u H locs) (hl : lv_has ls 2 []) : W p l e (th_rm 0 0 0) s m args below meth c H locs 0 0 (MQ below (va_Qi K (th_Post (dC, dI) (wX cs ad q v v) A) A) args s 0 0 A) (F0 m 66 ls [.int z0]) := by
  have hx := C.1
  have hb := C.2.1
  unfold X_RD_isTooOften_66 at hf
  exact th_zret C hw hf dX4_isTooOften_66
def X_RD_isTooOften_61 (K : Int32 → xs_St → Prop) (u : xs_St) : Prop :=
  X_RD_isTooOften_66 K (1 : Int32) u
set_option maxHeartbeats 4000000 in
set_option maxRecDepth 100000 in
theorem X_RD_isTooOften_61_w {K : Int32 → xs_St → Prop} (C : th_Cx p s m args meth c cX4_isTooOften RX4 2 (some .boolean) (dC, dI) (th_ty cs) (xE ad ak) A) (u : xs_St) (H : Heap) (locs : List Loc) (ls : Array Slot) (hf : X_RD_isTooOften_61 K u) (hw : th_wI (dC, dI) (wX cs ad q v v) A s.heap u H locs) (hl : lv_has ls 2 []) : W p l e (th_rm 0 0 0) s m args below meth c H locs 0 0 (MQ below (va_Qi K (th_Post (dC, dI) (wX cs ad q v v) A) A) args s 0 0 A) (F0 m 61 ls []) := by
  have hx := C.1
  have hb := C.2.1
  unfold X_RD_isTooOften_61 at hf
  refine lv_iconst (v := (1 : Int32)) hx hb dX4_isTooOften_61 (by decide) ?_
  refine lv_goto (tgt := 66) hx hb dX4_isTooOften_62 (by decide) ?_
  exact X_RD_isTooOften_66_w C (1 : Int32) u _ _ _ hf hw (lv_sub hl [] rfl)
def X_RD_isTooOften_65 (K : Int32 → xs_St → Prop) (u : xs_St) : Prop :=
  X_RD_isTooOften_66 K (0 : Int32) u
set_option maxHeartbeats 4000000 in
set_option maxRecDepth 100000 in
theorem X_RD_isTooOften_65_w {K : Int32 → xs_St → Prop} (C : th_Cx p s m args meth c cX4_isTooOften RX4 2 (some .boolean) (dC, dI) (th_ty cs) (xE ad ak) A) (u : xs_St) (H : Heap) (locs : List Loc) (ls : Array Slot) (hf : X_RD_isTooOften_65 K u) (hw : th_wI (dC, dI) (wX cs ad q v v) A s.heap u H locs) (hl : lv_has ls 2 []) : W p l e (th_rm 0 0 0) s m args below meth c H locs 0 0 (MQ below (va_Qi K (th_Post (dC, dI) (wX cs ad q v v) A) A) args s 0 0 A) (F0 m 65 ls []) := by
  have hx := C.1
  have hb := C.2.1
  unfold X_RD_isTooOften_65 at hf
  refine lv_iconst (v := (0 : Int32)) hx hb dX4_isTooOften_65 (by decide) ?_
  exact X_RD_isTooOften_66_w C (0 : Int32) u _ _ _ hf hw (lv_sub hl [] rfl)
def X_RD_isTooOften_42 (K : Int32 → xs_St → Prop) (x1 : Option Nat) (u : xs_St) : Prop :=
  ((¬ x1 = (some 17) → X_RD_isTooOften_65 K u) ∧ (x1 = (some 17) → (((xi u 405) < (6 : Int32) → X_RD_isTooOften_65 K u) ∧ (¬ (xi u 405) < (6 : Int32) → X_RD_isTooOften_61 K u))))
set_option maxHeartbeats 4000000 in
set_option maxRecDepth 100000 in
theorem X_RD_isTooOften_42_w {K : Int32 → xs_St → Prop} (C : th_Cx p s m args meth c cX4_isTooOften RX4 2 (some .boolean) (dC, dI) (th_ty cs) (xE ad ak) A) (x1 : Option Nat) (u : xs_St) (H : Heap) (locs : List Loc) (ls : Array Slot) (hf : X_RD_isTooOften_42 K x1 u) (hw : th_wI (dC, dI) (wX cs ad q v v) A s.heap u H locs) (hl : lv_has ls 2 [(0, .ref (q 299)), (1, va_re ad x1)]) : W p l e (th_rm 0 0 0) s m args below meth c H locs 0 0 (MQ below (va_Qi K (th_Post (dC, dI) (wX cs ad q v v) A) A) args s 0 0 A) (F0 m 42 ls []) := by
  have hx := C.1
  have hb := C.2.1
  unfold X_RD_isTooOften_42 at hf
  refine th_aload_n hx hb dX4_isTooOften_42 rfl (lv_at hl 1 rfl) ?_
  refine xst C hw 17 (by decide) (C.2.2.2.2.1 _ hwF_X4_189) dX4_isTooOften_43 ?_
  refine x_acmp_ne (tgt := 65) C dX4_isTooOften_46 (by decide) (fun hc => ?_) (fun hc => ?_)
  · replace hf := hf.1 hc
    clear hc
    exact X_RD_isTooOften_65_w C  u _ _ _ hf hw (lv_sub hl [] rfl)
  · replace hf := hf.2 hc
    clear hc
    refine lv_aload_n hx hb dX4_isTooOften_49 rfl (lv_at hl 0 rfl) ?_
    refine xg_204 C hw (C.2.2.2.2.1 _ hwF_X4_31) dX4_isTooOften_50 ?_
    refine xgn_405 C hw (va_Nw.use rfl (xN C hwG_X4_214)) dX4_isTooOften_53 ?_
    refine lv_bipush (v := (6 : Int32)) hx hb dX4_isTooOften_56 (by decide) ?_
    refine lv_icmp_lt (tgt := 65) hx hb dX4_isTooOften_58 (by decide) (fun hc => ?_) (fun hc => ?_)
    · replace hf := hf.1 hc
      clear hc
      exact X_RD_isTooOften_65_w C  u _ _ _ hf hw (lv_sub hl [] rfl)
    · replace hf := hf.2 hc
      clear hc
      exact X_RD_isTooOften_61_w C  u _ _ _ hf hw (lv_sub hl [] rfl)
def X_RD_isTooOften_28 (K : Int32 → xs_St → Prop) (x1 : Option Nat) (u : xs_St) : Prop :=
  ((¬ x1 = (some 16) → X_RD_isTooOften_42 K x1 u) ∧ (x1 = (some 16) → ((¬ (xi u 211) = 0 → X_RD_isTooOften_61 K u) ∧ ((xi u 211) = 0 → X_RD_isTooOften_42 K x1 u))))
set_option maxHeartbeats 4000000 in
set_option maxRecDepth 100000 in
theorem X_RD_isTooOften_28_w {K : Int32 → xs_St → Prop} (C : th_Cx p s m args meth c cX4_isTooOften RX4 2 (some .boolean) (dC, dI) (th_ty cs) (xE ad ak) A) (x1 : Option Nat) (u : xs_St) (H : Heap) (locs : List Loc) (ls : Array Slot) (hf : X_RD_isTooOften_28 K x1 u) (hw : th_wI (dC, dI) (wX cs ad q v v) A s.heap u H locs) (hl : lv_has ls 2 [(0, .ref (q 299)), (1, va_re ad x1)]) : W p l e (th_rm 0 0 0) s m args below meth c H locs 0 0 (MQ below (va_Qi K (th_Post (dC, dI) (wX cs ad q v v) A) A) args s 0 0 A) (F0 m 28 ls []) := by
  have hx := C.1
  have hb := C.2.1
  unfold X_RD_isTooOften_28 at hf
  refine th_aload_n hx hb dX4_isTooOften_28 rfl (lv_at hl 1 rfl) ?_
  refine xst C hw 16 (by decide) (C.2.2.2.2.1 _ hwF_X4_211) dX4_isTooOften_29 ?_
  refine x_acmp_ne (tgt := 42) C dX4_isTooOften_32 (by decide) (fun hc => ?_) (fun hc => ?_)
  · replace hf := hf.1 hc
    clear hc
    exact X_RD_isTooOften_42_w C x1 u _ _ _ hf hw (lv_sub hl [0, 1] rfl)
  · replace hf := hf.2 hc
    clear hc
    refine lv_aload_n hx hb dX4_isTooOften_35 rfl (lv_at hl 0 rfl) ?_
    refine xg_211 C hw (C.2.2.2.2.1 _ hwF_X4_58) dX4_isTooOften_36 ?_
    refine lv_if_ne (tgt := 61) hx hb dX4_isTooOften_39 (by decide) (fun hc => ?_) (fun hc => ?_)
    · replace hf := hf.1 hc
      clear hc
      exact X_RD_isTooOften_61_w C  u _ _ _ hf hw (lv_sub hl [] rfl)
    · replace hf := hf.2 hc
      clear hc
      exact X_RD_isTooOften_42_w C x1 u _ _ _ hf hw (lv_sub hl [0, 1] rfl)
def X_RD_isTooOften_14 (K : Int32 → xs_St → Prop) (x1 : Option Nat) (u : xs_St) : Prop :=
  ((¬ x1 = (some 15) → X_RD_isTooOften_28 K x1 u) ∧ (x1 = (some 15) → ((¬ (xi u 210) = 0 → X_RD_isTooOften_61 K u) ∧ ((xi u 210) = 0 → X_RD_isTooOften_28 K x1 u))))
set_option maxHeartbeats 4000000 in
set_option maxRecDepth 100000 in
theorem X_RD_isTooOften_14_w {K : Int32 → xs_St → Prop} (C : th_Cx p s m args meth c cX4_isTooOften RX4 2 (some .boolean) (dC, dI) (th_ty cs) (xE ad ak) A) (x1 : Option Nat) (u : xs_St) (H : Heap) (locs : List Loc) (ls : Array Slot) (hf : X_RD_isTooOften_14 K x1 u) (hw : th_wI (dC, dI) (wX cs ad q v v) A s.heap u H locs) (hl : lv_has ls 2 [(0, .ref (q 299)), (1, va_re ad x1)]) : W p l e (th_rm 0 0 0) s m args below meth c H locs 0 0 (MQ below (va_Qi K (th_Post (dC, dI) (wX cs ad q v v) A) A) args s 0 0 A) (F0 m 14 ls []) := by
  have hx := C.1
  have hb := C.2.1
  unfold X_RD_isTooOften_14 at hf
  refine th_aload_n hx hb dX4_isTooOften_14 rfl (lv_at hl 1 rfl) ?_
  refine xst C hw 15 (by decide) (C.2.2.2.2.1 _ hwF_X4_208) dX4_isTooOften_15 ?_
  refine x_acmp_ne (tgt := 28) C dX4_isTooOften_18 (by decide) (fun hc => ?_) (fun hc => ?_)
  · replace hf := hf.1 hc
    clear hc
    exact X_RD_isTooOften_28_w C x1 u _ _ _ hf hw (lv_sub hl [0, 1] rfl)
  · replace hf := hf.2 hc
    clear hc
    refine lv_aload_n hx hb dX4_isTooOften_21 rfl (lv_at hl 0 rfl) ?_
    refine xg_210 C hw (C.2.2.2.2.1 _ hwF_X4_55) dX4_isTooOften_22 ?_
    refine lv_if_ne (tgt := 61) hx hb dX4_isTooOften_25 (by decide) (fun hc => ?_) (fun hc => ?_)
    · replace hf := hf.1 hc
      clear hc
      exact X_RD_isTooOften_61_w C  u _ _ _ hf hw (lv_sub hl [] rfl)
    · replace hf := hf.2 hc
      clear hc
      exact X_RD_isTooOften_28_w C x1 u _ _ _ hf hw (lv_sub hl [0, 1] rfl)
def X_RD_isTooOften (a1 : Option Nat) (u : xs_St) (K : Int32 → xs_St → Prop) : Prop :=
  ((¬ a1 = (some 14) → X_RD_isTooOften_14 K a1 u) ∧ (a1 = (some 14) → ((¬ (xi u 209) = 0 → X_RD_isTooOften_61 K u) ∧ ((xi u 209) = 0 → X_RD_isTooOften_14 K a1 u))))
set_option maxHeartbeats 4000000 in
set_option maxRecDepth 100000 in
theorem X_RD_isTooOften_c {l : Launch} {dC : Nat → ClassId} {dI : Nat → Nat → Nat} {cs : Nat → ClassId} {ad ak : Nat → Nat} {q v : Nat → Nat} {a1 : Option Nat} {u : xs_St} {K : Int32 → xs_St → Prop} (hf : X_RD_isTooOften a1 u K) : th_Ci l yX4_isTooOften cX4_isTooOften 2 (some .boolean) 0 0 0 (dC, dI) (th_ty cs) (xE ad ak) (wX cs ad q v v) [.ref (q 299), va_re ad a1] u K := by
  refine th_ofi (by decide) (by cases a1 <;> exact Nat.le_of_ble_eq_true rfl) (xE_ok ad ak) ?_
  intro p e s m below meth c A ls C hw hl
  have C : th_Cx p s m _ meth c cX4_isTooOften RX4 2 (some .boolean) (dC, dI) (th_ty cs) (xE ad ak) A := C
  have hl : lv_has ls 2 [(0, .ref (q 299)), (1, va_re ad a1)] := by cases a1 <;> exact hl
  generalize (List.toArray _ : Array Value) = args at C ⊢
  have hx := C.1
  have hb := C.2.1
  unfold X_RD_isTooOften at hf
  refine th_aload_n hx hb dX4_isTooOften_0 rfl (lv_at hl 1 rfl) ?_
  refine xst C hw 14 (by decide) (C.2.2.2.2.1 _ hwF_X4_205) dX4_isTooOften_1 ?_
  refine x_acmp_ne (tgt := 14) C dX4_isTooOften_4 (by decide) (fun hc => ?_) (fun hc => ?_)
  · replace hf := hf.1 hc
    clear hc
    exact X_RD_isTooOften_14_w C a1 u _ _ _ hf hw (lv_sub hl [0, 1] rfl)
  · replace hf := hf.2 hc
    clear hc
    refine lv_aload_n hx hb dX4_isTooOften_7 rfl (lv_at hl 0 rfl) ?_
    refine xg_209 C hw (C.2.2.2.2.1 _ hwF_X4_51) dX4_isTooOften_8 ?_
    refine lv_if_ne (tgt := 61) hx hb dX4_isTooOften_11 (by decide) (fun hc => ?_) (fun hc => ?_)
    · replace hf := hf.1 hc
      clear hc
      exact X_RD_isTooOften_61_w C  u _ _ _ hf hw (lv_sub hl [] rfl)
    · replace hf := hf.2 hc
      clear hc
      exact X_RD_isTooOften_14_w C a1 u _ _ _ hf hw (lv_sub hl [0, 1] rfl)
/-! X_Row_stretch_d -/
theorem dX5_stretch_0 : decode cX5_stretch 0 = .ok (.iload_n 1, 1) := by decide +kernel
theorem dX5_stretch_1 : decode cX5_stretch 1 = .ok (.ifCond .lt 23, 3) := by decide +kernel
theorem dX5_stretch_4 : decode cX5_stretch 4 = .ok (.iload_n 1, 1) := by decide +kernel
theorem dX5_stretch_5 : decode cX5_stretch 5 = .ok (.aload_n 0, 1) := by decide +kernel
theorem dX5_stretch_6 : decode cX5_stretch 6 = .ok (.getfield 7, 3) := by decide +kernel
theorem dX5_stretch_9 : decode cX5_stretch 9 = .ok (.arraylength, 1) := by decide +kernel
theorem dX5_stretch_10 : decode cX5_stretch 10 = .ok (.iconst 2, 1) := by decide +kernel
theorem dX5_stretch_11 : decode cX5_stretch 11 = .ok (.idiv, 1) := by decide +kernel
theorem dX5_stretch_12 : decode cX5_stretch 12 = .ok (.if_icmp .ge 12, 3) := by decide +kernel
theorem dX5_stretch_15 : decode cX5_stretch 15 = .ok (.aload_n 0, 1) := by decide +kernel
theorem dX5_stretch_16 : decode cX5_stretch 16 = .ok (.getfield 7, 3) := by decide +kernel
theorem dX5_stretch_19 : decode cX5_stretch 19 = .ok (.iload_n 1, 1) := by decide +kernel
theorem dX5_stretch_20 : decode cX5_stretch 20 = .ok (.baload, 1) := by decide +kernel
theorem dX5_stretch_21 : decode cX5_stretch 21 = .ok (.goto 4, 3) := by decide +kernel
theorem dX5_stretch_24 : decode cX5_stretch 24 = .ok (.iconst 0, 1) := by decide +kernel
theorem dX5_stretch_25 : decode cX5_stretch 25 = .ok (.ireturn, 1) := by decide +kernel
def X_Row_stretch_d_25 (K : Int32 → xs_St → Prop) (z0 : Int32) (u : xs_St) : Prop :=
  K z0 u
set_option maxHeartbeats 4000000 in
set_option maxRecDepth 100000 in
theorem X_Row_stretch_d_25_w {K : Int32 → xs_St → Prop} (C : th_Cx p s m args meth c cX5_stretch RX5 2 (some .int) (dC, dI) (th_ty cs) (xE ad ak) A) (z0 : Int32) (u : xs_St) (H : Heap) (locs : List Loc) (ls : Array Slot) (hf : X_Row_stretch_d_25 K z0 u) (hw : th_wI (dC, dI) (wX cs ad q v v) A s.heap u H locs) (hl : lv_has ls 2 []) : W p l e (th_rm 0 0 0) s m args below meth c H locs 0 0 (MQ below (va_Qi K (th_Post (dC, dI) (wX cs ad q v v) A) A) args s 0 0 A) (F0 m 25 ls [.int z0]) := by
  have hx := C.1
  have hb := C.2.1
  unfold X_Row_stretch_d_25 at hf
  exact th_iret C hw hf dX5_stretch_25
def X_Row_stretch_d_24 (K : Int32 → xs_St → Prop) (u : xs_St) : Prop :=
  X_Row_stretch_d_25 K (0 : Int32) u
set_option maxHeartbeats 4000000 in
set_option maxRecDepth 100000 in
theorem X_Row_stretch_d_24_w {K : Int32 → xs_St → Prop} (C : th_Cx p s m args meth c cX5_stretch RX5 2 (some .int) (dC, dI) (th_ty cs) (xE ad ak) A) (u : xs_St) (H : Heap) (locs : List Loc) (ls : Array Slot) (hf : X_Row_stretch_d_24 K u) (hw : th_wI (dC, dI) (wX cs ad q v v) A s.heap u H locs) (hl : lv_has ls 2 []) : W p l e (th_rm 0 0 0) s m args below meth c H locs 0 0 (MQ below (va_Qi K (th_Post (dC, dI) (wX cs ad q v v) A) A) args s 0 0 A) (F0 m 24 ls []) := by
  have hx := C.1
  have hb := C.2.1
  unfold X_Row_stretch_d_24 at hf
  refine lv_iconst (v := (0 : Int32)) hx hb dX5_stretch_24 (by decide) ?_
  exact X_Row_stretch_d_25_w C (0 : Int32) u _ _ _ hf hw (lv_sub hl [] rfl)
def X_Row_stretch_d (a0 : Nat) (a1 : Int32) (u : xs_St) (K : Int32 → xs_St → Prop) : Prop :=
  ((a1 < 0 → X_Row_stretch_d_24 K u) ∧ (¬ a1 < 0 → (xd_is u a0 1 ∧ (∃ b_1 : Nat, (xdR u 0 a0) = some b_1 ∧ xd_is u b_1 2 ∧ (¬ (2 : Int32) = 0 ∧ ((((nI (xdN u b_1)) / (2 : Int32)) ≤ a1 → X_Row_stretch_d_24 K u) ∧ (¬ ((nI (xdN u b_1)) / (2 : Int32)) ≤ a1 → (xd_is u a0 1 ∧ (∃ b_3 : Nat, (xdR u 0 a0) = some b_3 ∧ xd_is u b_3 2 ∧ (vp_in a1 (xdN u b_3) ∧ ∀ y_2 : Int32, y_2 = xdA u b_3 (a1).toNatClampNeg → X_Row_stretch_d_25 K y_2 u))))))))))
set_option maxHeartbeats 4000000 in
set_option maxRecDepth 100000 in
theorem X_Row_stretch_d_c {l : Launch} {dC : Nat → ClassId} {dI : Nat → Nat → Nat} {cs : Nat → ClassId} {ad ak : Nat → Nat} {q v : Nat → Nat} {a0 : Nat} {a1 : Int32} {u : xs_St} {K : Int32 → xs_St → Prop} (hf : X_Row_stretch_d a0 a1 u K) : th_Ci l yX5_stretch cX5_stretch 2 (some .int) 0 0 0 (dC, dI) (th_ty cs) (xE ad ak) (wX cs ad q v v) [.ref a0, .int a1] u K := by
  refine th_ofi (by decide) (Nat.le_of_ble_eq_true rfl) (xE_ok ad ak) ?_
  intro p e s m below meth c A ls C hw hl
  have C : th_Cx p s m _ meth c cX5_stretch RX5 2 (some .int) (dC, dI) (th_ty cs) (xE ad ak) A := C
  have hl : lv_has ls 2 [(0, .ref a0), (1, .int a1)] := hl
  generalize (List.toArray _ : Array Value) = args at C ⊢
  have hx := C.1
  have hb := C.2.1
  unfold X_Row_stretch_d at hf
  refine lv_iload_n hx hb dX5_stretch_0 rfl (lv_at hl 1 rfl) ?_
  refine lv_if_lt (tgt := 24) hx hb dX5_stretch_1 (by decide) (fun hc => ?_) (fun hc => ?_)
  · replace hf := hf.1 hc
    clear hc
    exact X_Row_stretch_d_24_w C  u _ _ _ hf hw (lv_sub hl [] rfl)
  · replace hf := hf.2 hc
    clear hc
    refine lv_iload_n hx hb dX5_stretch_4 rfl (lv_at hl 1 rfl) ?_
    refine lv_aload_n hx hb dX5_stretch_5 rfl (lv_at hl 0 rfl) ?_
    obtain ⟨hm, hf⟩ := hf
    refine xdg_Row_numbers C hw hm (C.2.2.2.2.1 _ hwF_X5_7) dX5_stretch_6 ?_
    obtain ⟨b_1, e9, hm, hf⟩ := hf
    refine W.eq (g2 := F0 m 9 ls [.ref b_1, .int a1]) (congrArg (fun z9 => F0 m 9 ls [va_rf z9, .int a1]) e9) ?_
    clear e9
    refine xdn_2 C hw hm dX5_stretch_9 ?_
    refine lv_iconst (v := (2 : Int32)) hx hb dX5_stretch_10 (by decide) ?_
    refine lv_idiv hx hb dX5_stretch_11 hf.1 ?_
    replace hf := hf.2
    refine lv_icmp_ge (tgt := 24) hx hb dX5_stretch_12 (by decide) (fun hc => ?_) (fun hc => ?_)
    · replace hf := hf.1 hc
      clear hc
      exact X_Row_stretch_d_24_w C  u _ _ _ hf hw (lv_sub hl [] rfl)
    · replace hf := hf.2 hc
      clear hc
      refine lv_aload_n hx hb dX5_stretch_15 rfl (lv_at hl 0 rfl) ?_
      obtain ⟨hm, hf⟩ := hf
      refine xdg_Row_numbers C hw hm (C.2.2.2.2.1 _ hwF_X5_7) dX5_stretch_16 ?_
      refine lv_iload_n hx hb dX5_stretch_19 rfl (lv_at hl 1 rfl) ?_
      obtain ⟨b_3, e9, hm, hf⟩ := hf
      refine W.eq (g2 := F0 m 20 ls [.int a1, .ref b_3]) (congrArg (fun z9 => F0 m 20 ls [.int a1, va_rf z9]) e9) ?_
      clear e9
      refine xdl_2 C hw hm hf.1 dX5_stretch_20 (fun y_2 e9 => ?_)
      replace hf := hf.2 y_2 e9
      clear e9
      refine lv_goto (tgt := 25) hx hb dX5_stretch_21 (by decide) ?_
      exact X_Row_stretch_d_25_w C y_2 u _ _ _ hf hw (lv_sub hl [] rfl)
/-! X_Row_warmth_d -/
theorem dX5_warmth_0 : decode cX5_warmth 0 = .ok (.aload_n 0, 1) := by decide +kernel
theorem dX5_warmth_1 : decode cX5_warmth 1 = .ok (.getfield 7, 3) := by decide +kernel
theorem dX5_warmth_4 : decode cX5_warmth 4 = .ok (.arraylength, 1) := by decide +kernel
theorem dX5_warmth_5 : decode cX5_warmth 5 = .ok (.iconst 2, 1) := by decide +kernel
theorem dX5_warmth_6 : decode cX5_warmth 6 = .ok (.idiv, 1) := by decide +kernel
theorem dX5_warmth_7 : decode cX5_warmth 7 = .ok (.istore_n 2, 1) := by decide +kernel
theorem dX5_warmth_8 : decode cX5_warmth 8 = .ok (.iload_n 1, 1) := by decide +kernel
theorem dX5_warmth_9 : decode cX5_warmth 9 = .ok (.ifCond .lt 30, 3) := by decide +kernel
theorem dX5_warmth_12 : decode cX5_warmth 12 = .ok (.iload_n 1, 1) := by decide +kernel
theorem dX5_warmth_13 : decode cX5_warmth 13 = .ok (.iload_n 2, 1) := by decide +kernel
theorem dX5_warmth_14 : decode cX5_warmth 14 = .ok (.if_icmp .ge 25, 3) := by decide +kernel
theorem dX5_warmth_17 : decode cX5_warmth 17 = .ok (.iload_n 2, 1) := by decide +kernel
theorem dX5_warmth_18 : decode cX5_warmth 18 = .ok (.iload_n 1, 1) := by decide +kernel
theorem dX5_warmth_19 : decode cX5_warmth 19 = .ok (.iadd, 1) := by decide +kernel
theorem dX5_warmth_20 : decode cX5_warmth 20 = .ok (.aload_n 0, 1) := by decide +kernel
theorem dX5_warmth_21 : decode cX5_warmth 21 = .ok (.getfield 7, 3) := by decide +kernel
theorem dX5_warmth_24 : decode cX5_warmth 24 = .ok (.arraylength, 1) := by decide +kernel
theorem dX5_warmth_25 : decode cX5_warmth 25 = .ok (.if_icmp .ge 14, 3) := by decide +kernel
theorem dX5_warmth_28 : decode cX5_warmth 28 = .ok (.aload_n 0, 1) := by decide +kernel
theorem dX5_warmth_29 : decode cX5_warmth 29 = .ok (.getfield 7, 3) := by decide +kernel
theorem dX5_warmth_32 : decode cX5_warmth 32 = .ok (.iload_n 2, 1) := by decide +kernel
theorem dX5_warmth_33 : decode cX5_warmth 33 = .ok (.iload_n 1, 1) := by decide +kernel
theorem dX5_warmth_34 : decode cX5_warmth 34 = .ok (.iadd, 1) := by decide +kernel
theorem dX5_warmth_35 : decode cX5_warmth 35 = .ok (.baload, 1) := by decide +kernel
theorem dX5_warmth_36 : decode cX5_warmth 36 = .ok (.goto 4, 3) := by decide +kernel
theorem dX5_warmth_39 : decode cX5_warmth 39 = .ok (.iconst 0, 1) := by decide +kernel
theorem dX5_warmth_40 : decode cX5_warmth 40 = .ok (.ireturn, 1) := by decide +kernel
def X_Row_warmth_d_40 (K : Int32 → xs_St → Prop) (z0 : Int32) (u : xs_St) : Prop :=
  K z0 u
set_option maxHeartbeats 4000000 in
set_option maxRecDepth 100000 in
theorem X_Row_warmth_d_40_w {K : Int32 → xs_St → Prop} (C : th_Cx p s m args meth c cX5_warmth RX5 3 (some .int) (dC, dI) (th_ty cs) (xE ad ak) A) (z0 : Int32) (u : xs_St) (H : Heap) (locs : List Loc) (ls : Array Slot) (hf : X_Row_warmth_d_40 K z0 u) (hw : th_wI (dC, dI) (wX cs ad q v v) A s.heap u H locs) (hl : lv_has ls 3 []) : W p l e (th_rm 0 0 0) s m args below meth c H locs 0 0 (MQ below (va_Qi K (th_Post (dC, dI) (wX cs ad q v v) A) A) args s 0 0 A) (F0 m 40 ls [.int z0]) := by
  have hx := C.1
  have hb := C.2.1
  unfold X_Row_warmth_d_40 at hf
  exact th_iret C hw hf dX5_warmth_40
def X_Row_warmth_d_39 (K : Int32 → xs_St → Prop) (u : xs_St) : Prop :=
  X_Row_warmth_d_40 K (0 : Int32) u
set_option maxHeartbeats 4000000 in
set_option maxRecDepth 100000 in
theorem X_Row_warmth_d_39_w {K : Int32 → xs_St → Prop} (C : th_Cx p s m args meth c cX5_warmth RX5 3 (some .int) (dC, dI) (th_ty cs) (xE ad ak) A) (u : xs_St) (H : Heap) (locs : List Loc) (ls : Array Slot) (hf : X_Row_warmth_d_39 K u) (hw : th_wI (dC, dI) (wX cs ad q v v) A s.heap u H locs) (hl : lv_has ls 3 []) : W p l e (th_rm 0 0 0) s m args below meth c H locs 0 0 (MQ below (va_Qi K (th_Post (dC, dI) (wX cs ad q v v) A) A) args s 0 0 A) (F0 m 39 ls []) := by
  have hx := C.1
  have hb := C.2.1
  unfold X_Row_warmth_d_39 at hf
  refine lv_iconst (v := (0 : Int32)) hx hb dX5_warmth_39 (by decide) ?_
  exact X_Row_warmth_d_40_w C (0 : Int32) u _ _ _ hf hw (lv_sub hl [] rfl)
def X_Row_warmth_d (a0 : Nat) (a1 : Int32) (u : xs_St) (K : Int32 → xs_St → Prop) : Prop :=
  (xd_is u a0 1 ∧ (∃ b_1 : Nat, (xdR u 0 a0) = some b_1 ∧ xd_is u b_1 2 ∧ (¬ (2 : Int32) = 0 ∧ ∀ y_2 : Int32, y_2 = ((nI (xdN u b_1)) / (2 : Int32)) → ((a1 < 0 → X_Row_warmth_d_39 K u) ∧ (¬ a1 < 0 → ((y_2 ≤ a1 → X_Row_warmth_d_39 K u) ∧ (¬ y_2 ≤ a1 → (xd_is u a0 1 ∧ (∃ b_3 : Nat, (xdR u 0 a0) = some b_3 ∧ xd_is u b_3 2 ∧ (((nI (xdN u b_3)) ≤ (y_2 + a1) → X_Row_warmth_d_39 K u) ∧ (¬ (nI (xdN u b_3)) ≤ (y_2 + a1) → (xd_is u a0 1 ∧ (∃ b_5 : Nat, (xdR u 0 a0) = some b_5 ∧ xd_is u b_5 2 ∧ (vp_in (y_2 + a1) (xdN u b_5) ∧ ∀ y_4 : Int32, y_4 = xdA u b_5 ((y_2 + a1)).toNatClampNeg → X_Row_warmth_d_40 K y_4 u))))))))))))))
set_option maxHeartbeats 4000000 in
set_option maxRecDepth 100000 in
theorem X_Row_warmth_d_c {l : Launch} {dC : Nat → ClassId} {dI : Nat → Nat → Nat} {cs : Nat → ClassId} {ad ak : Nat → Nat} {q v : Nat → Nat} {a0 : Nat} {a1 : Int32} {u : xs_St} {K : Int32 → xs_St → Prop} (hf : X_Row_warmth_d a0 a1 u K) : th_Ci l yX5_warmth cX5_warmth 3 (some .int) 0 0 0 (dC, dI) (th_ty cs) (xE ad ak) (wX cs ad q v v) [.ref a0, .int a1] u K := by
  refine th_ofi (by decide) (Nat.le_of_ble_eq_true rfl) (xE_ok ad ak) ?_
  intro p e s m below meth c A ls C hw hl
  have C : th_Cx p s m _ meth c cX5_warmth RX5 3 (some .int) (dC, dI) (th_ty cs) (xE ad ak) A := C
  have hl : lv_has ls 3 [(0, .ref a0), (1, .int a1)] := hl
  generalize (List.toArray _ : Array Value) = args at C ⊢
  have hx := C.1
  have hb := C.2.1
  unfold X_Row_warmth_d at hf
  refine lv_aload_n hx hb dX5_warmth_0 rfl (lv_at hl 0 rfl) ?_
  obtain ⟨hm, hf⟩ := hf
  refine xdg_Row_numbers C hw hm (C.2.2.2.2.1 _ hwF_X5_7) dX5_warmth_1 ?_
  obtain ⟨b_1, e9, hm, hf⟩ := hf
  refine W.eq (g2 := F0 m 4 ls [.ref b_1]) (congrArg (fun z9 => F0 m 4 ls [va_rf z9]) e9) ?_
  clear e9
  refine xdn_2 C hw hm dX5_warmth_4 ?_
  refine lv_iconst (v := (2 : Int32)) hx hb dX5_warmth_5 (by decide) ?_
  refine lv_idiv hx hb dX5_warmth_6 hf.1 ?_
  replace hf := hf.2
  refine lv_topi (fun y_2 e9 => ?_)
  replace hf := hf y_2 e9
  clear e9
  refine lv_istore_n (lv' := [(2, .int y_2), (0, .ref a0), (1, .int a1)]) hx hb dX5_warmth_7 rfl hl (by decide) rfl (fun ls hl => ?_)
  refine lv_iload_n hx hb dX5_warmth_8 rfl (lv_at hl 2 rfl) ?_
  refine lv_if_lt (tgt := 39) hx hb dX5_warmth_9 (by decide) (fun hc => ?_) (fun hc => ?_)
  · replace hf := hf.1 hc
    clear hc
    exact X_Row_warmth_d_39_w C  u _ _ _ hf hw (lv_sub hl [] rfl)
  · replace hf := hf.2 hc
    clear hc
    refine lv_iload_n hx hb dX5_warmth_12 rfl (lv_at hl 2 rfl) ?_
    refine lv_iload_n hx hb dX5_warmth_13 rfl (lv_at hl 0 rfl) ?_
    refine lv_icmp_ge (tgt := 39) hx hb dX5_warmth_14 (by decide) (fun hc => ?_) (fun hc => ?_)
    · replace hf := hf.1 hc
      clear hc
      exact X_Row_warmth_d_39_w C  u _ _ _ hf hw (lv_sub hl [] rfl)
    · replace hf := hf.2 hc
      clear hc
      refine lv_iload_n hx hb dX5_warmth_17 rfl (lv_at hl 0 rfl) ?_
      refine lv_iload_n hx hb dX5_warmth_18 rfl (lv_at hl 2 rfl) ?_
      refine lv_iadd hx hb dX5_warmth_19 ?_
      refine lv_aload_n hx hb dX5_warmth_20 rfl (lv_at hl 1 rfl) ?_
      obtain ⟨hm, hf⟩ := hf
      refine xdg_Row_numbers C hw hm (C.2.2.2.2.1 _ hwF_X5_7) dX5_warmth_21 ?_
      obtain ⟨b_3, e9, hm, hf⟩ := hf
      refine W.eq (g2 := F0 m 24 ls [.ref b_3, .int (y_2 + a1)]) (congrArg (fun z9 => F0 m 24 ls [va_rf z9, .int (y_2 + a1)]) e9) ?_
      clear e9
      refine xdn_2 C hw hm dX5_warmth_24 ?_
      refine lv_icmp_ge (tgt := 39) hx hb dX5_warmth_25 (by decide) (fun hc => ?_) (fun hc => ?_)
      · replace hf := hf.1 hc
        clear hc
        exact X_Row_warmth_d_39_w C  u _ _ _ hf hw (lv_sub hl [] rfl)
      · replace hf := hf.2 hc
        clear hc
        refine lv_aload_n hx hb dX5_warmth_28 rfl (lv_at hl 1 rfl) ?_
        obtain ⟨hm, hf⟩ := hf
        refine xdg_Row_numbers C hw hm (C.2.2.2.2.1 _ hwF_X5_7) dX5_warmth_29 ?_
        refine lv_iload_n hx hb dX5_warmth_32 rfl (lv_at hl 0 rfl) ?_
        refine lv_iload_n hx hb dX5_warmth_33 rfl (lv_at hl 2 rfl) ?_
        refine lv_iadd hx hb dX5_warmth_34 ?_
        obtain ⟨b_5, e9, hm, hf⟩ := hf
        refine W.eq (g2 := F0 m 35 ls [.int (y_2 + a1), .ref b_5]) (congrArg (fun z9 => F0 m 35 ls [.int (y_2 + a1), va_rf z9]) e9) ?_
        clear e9
        refine xdl_2 C hw hm hf.1 dX5_warmth_35 (fun y_4 e9 => ?_)
        replace hf := hf.2 y_4 e9
        clear e9
        refine lv_goto (tgt := 40) hx hb dX5_warmth_36 (by decide) ?_
        exact X_Row_warmth_d_40_w C y_4 u _ _ _ hf hw (lv_sub hl [] rfl)
/-! X_S0_coder_7d493_s -/
theorem dJ0_coder_7d493_0 : decode cJ0_coder_7d493 0 = .ok (.getstatic 38, 3) := by decide +kernel
theorem dJ0_coder_7d493_3 : decode cJ0_coder_7d493 3 = .ok (.ifCond .eq 10, 3) := by decide +kernel
theorem dJ0_coder_7d493_6 : decode cJ0_coder_7d493 6 = .ok (.aload_n 0, 1) := by decide +kernel
theorem dJ0_coder_7d493_7 : decode cJ0_coder_7d493 7 = .ok (.getfield 15, 3) := by decide +kernel
theorem dJ0_coder_7d493_10 : decode cJ0_coder_7d493 10 = .ok (.goto 4, 3) := by decide +kernel
theorem dJ0_coder_7d493_13 : decode cJ0_coder_7d493 13 = .ok (.iconst 1, 1) := by decide +kernel
theorem dJ0_coder_7d493_14 : decode cJ0_coder_7d493 14 = .ok (.ireturn, 1) := by decide +kernel
def X_S0_coder_7d493_s_14 (K : Int32 → xs_St → Prop) (z0 : Int32) (u : xs_St) : Prop :=
  (narrow .byte (.int z0) = .int z0 ∧ K z0 u)
set_option maxHeartbeats 4000000 in
set_option maxRecDepth 100000 in
theorem X_S0_coder_7d493_s_14_w {K : Int32 → xs_St → Prop} (C : th_Cx p s m args meth c cJ0_coder_7d493 RJ0 1 (some .byte) (dC, dI) (th_ty cs) (xE ad ak) A) (z0 : Int32) (u : xs_St) (H : Heap) (locs : List Loc) (ls : Array Slot) (hf : X_S0_coder_7d493_s_14 K z0 u) (hw : th_wI (dC, dI) (wX cs ad q v v) A s.heap u H locs) (hl : lv_has ls 1 []) : W p l e (th_rm 0 0 0) s m args below meth c H locs 0 0 (MQ below (va_Qi K (th_Post (dC, dI) (wX cs ad q v v) A) A) args s 0 0 A) (F0 m 14 ls [.int z0]) := by
  have hx := C.1
  have hb := C.2.1
  unfold X_S0_coder_7d493_s_14 at hf
  exact th_nret C hw hf.1 hf.2 dJ0_coder_7d493_14
def X_S0_coder_7d493_s (a0 : Nat) (u : xs_St) (K : Int32 → xs_St → Prop) : Prop :=
  (((1 : Int32) = 0 → X_S0_coder_7d493_s_14 K (1 : Int32) u) ∧ (¬ (1 : Int32) = 0 → (a0 < 27 ∧ X_S0_coder_7d493_s_14 K (0 : Int32) u)))
set_option maxHeartbeats 4000000 in
set_option maxRecDepth 100000 in
theorem X_S0_coder_7d493_s_c {l : Launch} {dC : Nat → ClassId} {dI : Nat → Nat → Nat} {cs : Nat → ClassId} {ad ak : Nat → Nat} {q v : Nat → Nat} {a0 : Nat} {u : xs_St} {K : Int32 → xs_St → Prop} (hf : X_S0_coder_7d493_s a0 u K) : th_Ci l yJ0_coder_7d493 cJ0_coder_7d493 1 (some .byte) 0 0 0 (dC, dI) (th_ty cs) (xE ad ak) (wX cs ad q v v) [.ref (ak (100 + a0))] u K := by
  refine th_ofi (by decide) (Nat.le_of_ble_eq_true rfl) (xE_ok ad ak) ?_
  intro p e s m below meth c A ls C hw hl
  have C : th_Cx p s m _ meth c cJ0_coder_7d493 RJ0 1 (some .byte) (dC, dI) (th_ty cs) (xE ad ak) A := C
  have hl : lv_has ls 1 [(0, .ref (ak (100 + a0)))] := hl
  generalize (List.toArray _ : Array Value) = args at C ⊢
  have hx := C.1
  have hb := C.2.1
  unfold X_S0_coder_7d493_s at hf
  refine x_cmp C hw (C.2.2.2.2.1 _ hwF_J0_38) dJ0_coder_7d493_0 ?_
  refine lv_if_eq (tgt := 13) hx hb dJ0_coder_7d493_3 (by decide) (fun hc => ?_) (fun hc => ?_)
  · replace hf := hf.1 hc
    clear hc
    refine lv_iconst (v := (1 : Int32)) hx hb dJ0_coder_7d493_13 (by decide) ?_
    exact X_S0_coder_7d493_s_14_w C (1 : Int32) u _ _ _ hf hw (lv_sub hl [] rfl)
  · replace hf := hf.2 hc
    clear hc
    refine lv_aload_n hx hb dJ0_coder_7d493_6 rfl (lv_at hl 0 rfl) ?_
    refine x_scod C hw hf.1 (C.2.2.2.2.1 _ hwF_J0_15) dJ0_coder_7d493_7 ?_
    replace hf := hf.2
    refine lv_goto (tgt := 14) hx hb dJ0_coder_7d493_10 (by decide) ?_
    exact X_S0_coder_7d493_s_14_w C (0 : Int32) u _ _ _ hf hw (lv_sub hl [] rfl)
/-! X_S0_isLatin1_aae02_s -/
theorem dJ0_isLatin1_aae02_0 : decode cJ0_isLatin1_aae02 0 = .ok (.getstatic 38, 3) := by decide +kernel
theorem dJ0_isLatin1_aae02_3 : decode cJ0_isLatin1_aae02 3 = .ok (.ifCond .eq 14, 3) := by decide +kernel
theorem dJ0_isLatin1_aae02_6 : decode cJ0_isLatin1_aae02 6 = .ok (.aload_n 0, 1) := by decide +kernel
theorem dJ0_isLatin1_aae02_7 : decode cJ0_isLatin1_aae02 7 = .ok (.getfield 15, 3) := by decide +kernel
theorem dJ0_isLatin1_aae02_10 : decode cJ0_isLatin1_aae02 10 = .ok (.ifCond .ne 7, 3) := by decide +kernel
theorem dJ0_isLatin1_aae02_13 : decode cJ0_isLatin1_aae02 13 = .ok (.iconst 1, 1) := by decide +kernel
theorem dJ0_isLatin1_aae02_14 : decode cJ0_isLatin1_aae02 14 = .ok (.goto 4, 3) := by decide +kernel
theorem dJ0_isLatin1_aae02_17 : decode cJ0_isLatin1_aae02 17 = .ok (.iconst 0, 1) := by decide +kernel
theorem dJ0_isLatin1_aae02_18 : decode cJ0_isLatin1_aae02 18 = .ok (.ireturn, 1) := by decide +kernel
def X_S0_isLatin1_aae02_s_18 (K : Int32 → xs_St → Prop) (z0 : Int32) (u : xs_St) : Prop :=
  ((z0 = 0 ∨ z0 = 1) ∧ K z0 u)
set_option maxHeartbeats 4000000 in
set_option maxRecDepth 100000 in
theorem X_S0_isLatin1_aae02_s_18_w {K : Int32 → xs_St → Prop} (C : th_Cx p s m args meth c cJ0_isLatin1_aae02 RJ0 1 (some .boolean) (dC, dI) (th_ty cs) (xE ad ak) A) (z0 : Int32) (u : xs_St) (H : Heap) (locs : List Loc) (ls : Array Slot) (hf : X_S0_isLatin1_aae02_s_18 K z0 u) (hw : th_wI (dC, dI) (wX cs ad q v v) A s.heap u H locs) (hl : lv_has ls 1 []) : W p l e (th_rm 0 0 0) s m args below meth c H locs 0 0 (MQ below (va_Qi K (th_Post (dC, dI) (wX cs ad q v v) A) A) args s 0 0 A) (F0 m 18 ls [.int z0]) := by
  have hx := C.1
  have hb := C.2.1
  unfold X_S0_isLatin1_aae02_s_18 at hf
  exact th_zret C hw hf dJ0_isLatin1_aae02_18
def X_S0_isLatin1_aae02_s_17 (K : Int32 → xs_St → Prop) (u : xs_St) : Prop :=
  X_S0_isLatin1_aae02_s_18 K (0 : Int32) u
set_option maxHeartbeats 4000000 in
set_option maxRecDepth 100000 in
theorem X_S0_isLatin1_aae02_s_17_w {K : Int32 → xs_St → Prop} (C : th_Cx p s m args meth c cJ0_isLatin1_aae02 RJ0 1 (some .boolean) (dC, dI) (th_ty cs) (xE ad ak) A) (u : xs_St) (H : Heap) (locs : List Loc) (ls : Array Slot) (hf : X_S0_isLatin1_aae02_s_17 K u) (hw : th_wI (dC, dI) (wX cs ad q v v) A s.heap u H locs) (hl : lv_has ls 1 []) : W p l e (th_rm 0 0 0) s m args below meth c H locs 0 0 (MQ below (va_Qi K (th_Post (dC, dI) (wX cs ad q v v) A) A) args s 0 0 A) (F0 m 17 ls []) := by
  have hx := C.1
  have hb := C.2.1
  unfold X_S0_isLatin1_aae02_s_17 at hf
  refine lv_iconst (v := (0 : Int32)) hx hb dJ0_isLatin1_aae02_17 (by decide) ?_
  exact X_S0_isLatin1_aae02_s_18_w C (0 : Int32) u _ _ _ hf hw (lv_sub hl [] rfl)
def X_S0_isLatin1_aae02_s (a0 : Nat) (u : xs_St) (K : Int32 → xs_St → Prop) : Prop :=
  (((1 : Int32) = 0 → X_S0_isLatin1_aae02_s_17 K u) ∧ (¬ (1 : Int32) = 0 → (a0 < 27 ∧ ((¬ (0 : Int32) = 0 → X_S0_isLatin1_aae02_s_17 K u) ∧ ((0 : Int32) = 0 → X_S0_isLatin1_aae02_s_18 K (1 : Int32) u)))))
set_option maxHeartbeats 4000000 in
set_option maxRecDepth 100000 in
theorem X_S0_isLatin1_aae02_s_c {l : Launch} {dC : Nat → ClassId} {dI : Nat → Nat → Nat} {cs : Nat → ClassId} {ad ak : Nat → Nat} {q v : Nat → Nat} {a0 : Nat} {u : xs_St} {K : Int32 → xs_St → Prop} (hf : X_S0_isLatin1_aae02_s a0 u K) : th_Ci l yJ0_isLatin1_aae02 cJ0_isLatin1_aae02 1 (some .boolean) 0 0 0 (dC, dI) (th_ty cs) (xE ad ak) (wX cs ad q v v) [.ref (ak (100 + a0))] u K := by
  refine th_ofi (by decide) (Nat.le_of_ble_eq_true rfl) (xE_ok ad ak) ?_
  intro p e s m below meth c A ls C hw hl
  have C : th_Cx p s m _ meth c cJ0_isLatin1_aae02 RJ0 1 (some .boolean) (dC, dI) (th_ty cs) (xE ad ak) A := C
  have hl : lv_has ls 1 [(0, .ref (ak (100 + a0)))] := hl
  generalize (List.toArray _ : Array Value) = args at C ⊢
  have hx := C.1
  have hb := C.2.1
  unfold X_S0_isLatin1_aae02_s at hf
  refine x_cmp C hw (C.2.2.2.2.1 _ hwF_J0_38) dJ0_isLatin1_aae02_0 ?_
  refine lv_if_eq (tgt := 17) hx hb dJ0_isLatin1_aae02_3 (by decide) (fun hc => ?_) (fun hc => ?_)
  · replace hf := hf.1 hc
    clear hc
    exact X_S0_isLatin1_aae02_s_17_w C  u _ _ _ hf hw (lv_sub hl [] rfl)
  · replace hf := hf.2 hc
    clear hc
    refine lv_aload_n hx hb dJ0_isLatin1_aae02_6 rfl (lv_at hl 0 rfl) ?_
    refine x_scod C hw hf.1 (C.2.2.2.2.1 _ hwF_J0_15) dJ0_isLatin1_aae02_7 ?_
    replace hf := hf.2
    refine lv_if_ne (tgt := 17) hx hb dJ0_isLatin1_aae02_10 (by decide) (fun hc => ?_) (fun hc => ?_)
    · replace hf := hf.1 hc
      clear hc
      exact X_S0_isLatin1_aae02_s_17_w C  u _ _ _ hf hw (lv_sub hl [] rfl)
    · replace hf := hf.2 hc
      clear hc
      refine lv_iconst (v := (1 : Int32)) hx hb dJ0_isLatin1_aae02_13 (by decide) ?_
      refine lv_goto (tgt := 18) hx hb dJ0_isLatin1_aae02_14 (by decide) ?_
      exact X_S0_isLatin1_aae02_s_18_w C (1 : Int32) u _ _ _ hf hw (lv_sub hl [] rfl)
/-! X_S3_checkIndex_8e157 -/
theorem dJ3_checkIndex_8e157_0 : decode cJ3_checkIndex_8e157 0 = .ok (.iload_n 0, 1) := by decide +kernel
theorem dJ3_checkIndex_8e157_1 : decode cJ3_checkIndex_8e157 1 = .ok (.ifCond .lt 8, 3) := by decide +kernel
theorem dJ3_checkIndex_8e157_4 : decode cJ3_checkIndex_8e157 4 = .ok (.iload_n 0, 1) := by decide +kernel
theorem dJ3_checkIndex_8e157_5 : decode cJ3_checkIndex_8e157 5 = .ok (.iload_n 1, 1) := by decide +kernel
theorem dJ3_checkIndex_8e157_6 : decode cJ3_checkIndex_8e157 6 = .ok (.if_icmp .lt 10, 3) := by decide +kernel
theorem dJ3_checkIndex_8e157_9 : decode cJ3_checkIndex_8e157 9 = .ok (.aload_n 2, 1) := by decide +kernel
theorem dJ3_checkIndex_8e157_10 : decode cJ3_checkIndex_8e157 10 = .ok (.iload_n 0, 1) := by decide +kernel
theorem dJ3_checkIndex_8e157_11 : decode cJ3_checkIndex_8e157 11 = .ok (.iload_n 1, 1) := by decide +kernel
theorem dJ3_checkIndex_8e157_12 : decode cJ3_checkIndex_8e157 12 = .ok (.invokestatic 95, 3) := by decide +kernel
theorem dJ3_checkIndex_8e157_16 : decode cJ3_checkIndex_8e157 16 = .ok (.iload_n 0, 1) := by decide +kernel
theorem dJ3_checkIndex_8e157_17 : decode cJ3_checkIndex_8e157 17 = .ok (.ireturn, 1) := by decide +kernel
def X_S3_checkIndex_8e157_9 (K : Int32 → xs_St → Prop) (x0 : Int32) (x1 : Int32) (x2 : Option Nat) (u : xs_St) : Prop :=
  False
set_option maxHeartbeats 4000000 in
set_option maxRecDepth 100000 in
theorem X_S3_checkIndex_8e157_9_w {K : Int32 → xs_St → Prop} (C : th_Cx p s m args meth c cJ3_checkIndex_8e157 RJ3 3 (some .int) (dC, dI) (th_ty cs) (xE ad ak) A) (x0 : Int32) (x1 : Int32) (x2 : Option Nat) (u : xs_St) (H : Heap) (locs : List Loc) (ls : Array Slot) (hf : X_S3_checkIndex_8e157_9 K x0 x1 x2 u) (hw : th_wI (dC, dI) (wX cs ad q v v) A s.heap u H locs) (hl : lv_has ls 3 [(0, .int x0), (1, .int x1), (2, va_rf x2)]) : W p l e (th_rm 0 0 0) s m args below meth c H locs 0 0 (MQ below (va_Qi K (th_Post (dC, dI) (wX cs ad q v v) A) A) args s 0 0 A) (F0 m 9 ls []) := by
  have hx := C.1
  have hb := C.2.1
  unfold X_S3_checkIndex_8e157_9 at hf
  refine th_aload_n hx hb dJ3_checkIndex_8e157_9 rfl (lv_at hl 2 rfl) ?_
  refine lv_iload_n hx hb dJ3_checkIndex_8e157_10 rfl (lv_at hl 0 rfl) ?_
  refine lv_iload_n hx hb dJ3_checkIndex_8e157_11 rfl (lv_at hl 1 rfl) ?_
  exact hf.elim
def X_S3_checkIndex_8e157 (a1 : Int32) (a2 : Int32) (a3 : Option Nat) (u : xs_St) (K : Int32 → xs_St → Prop) : Prop :=
  ((a1 < 0 → X_S3_checkIndex_8e157_9 K a1 a2 a3 u) ∧ (¬ a1 < 0 → ((a1 < a2 → K a1 u) ∧ (¬ a1 < a2 → X_S3_checkIndex_8e157_9 K a1 a2 a3 u))))
set_option maxHeartbeats 4000000 in
set_option maxRecDepth 100000 in
theorem X_S3_checkIndex_8e157_c {l : Launch} {dC : Nat → ClassId} {dI : Nat → Nat → Nat} {cs : Nat → ClassId} {ad ak : Nat → Nat} {q v : Nat → Nat} {a1 : Int32} {a2 : Int32} {a3 : Option Nat} {u : xs_St} {K : Int32 → xs_St → Prop} (hf : X_S3_checkIndex_8e157 a1 a2 a3 u K) : th_Ci l yJ3_checkIndex_8e157 cJ3_checkIndex_8e157 3 (some .int) 0 0 0 (dC, dI) (th_ty cs) (xE ad ak) (wX cs ad q v v) [.int a1, .int a2, va_rf a3] u K := by
  refine th_ofi (by decide) (by cases a3 <;> exact Nat.le_of_ble_eq_true rfl) (xE_ok ad ak) ?_
  intro p e s m below meth c A ls C hw hl
  have C : th_Cx p s m _ meth c cJ3_checkIndex_8e157 RJ3 3 (some .int) (dC, dI) (th_ty cs) (xE ad ak) A := C
  have hl : lv_has ls 3 [(0, .int a1), (1, .int a2), (2, va_rf a3)] := by cases a3 <;> exact hl
  generalize (List.toArray _ : Array Value) = args at C ⊢
  have hx := C.1
  have hb := C.2.1
  unfold X_S3_checkIndex_8e157 at hf
  refine lv_iload_n hx hb dJ3_checkIndex_8e157_0 rfl (lv_at hl 0 rfl) ?_
  refine lv_if_lt (tgt := 9) hx hb dJ3_checkIndex_8e157_1 (by decide) (fun hc => ?_) (fun hc => ?_)
  · replace hf := hf.1 hc
    clear hc
    exact X_S3_checkIndex_8e157_9_w C a1 a2 a3 u _ _ _ hf hw (lv_sub hl [0, 1, 2] rfl)
  · replace hf := hf.2 hc
    clear hc
    refine lv_iload_n hx hb dJ3_checkIndex_8e157_4 rfl (lv_at hl 0 rfl) ?_
    refine lv_iload_n hx hb dJ3_checkIndex_8e157_5 rfl (lv_at hl 1 rfl) ?_
    refine lv_icmp_lt (tgt := 16) hx hb dJ3_checkIndex_8e157_6 (by decide) (fun hc => ?_) (fun hc => ?_)
    · replace hf := hf.1 hc
      clear hc
      refine lv_iload_n hx hb dJ3_checkIndex_8e157_16 rfl (lv_at hl 0 rfl) ?_
      exact th_iret C hw hf dJ3_checkIndex_8e157_17
    · replace hf := hf.2 hc
      clear hc
      exact X_S3_checkIndex_8e157_9_w C a1 a2 a3 u _ _ _ hf hw (lv_sub hl [0, 1, 2] rfl)
/-! X_TH_addNoise -/
theorem dX11_addNoise_0 : decode cX11_addNoise 0 = .ok (.lconst 0, 1) := by decide +kernel
theorem dX11_addNoise_1 : decode cX11_addNoise 1 = .ok (.lstore_n 2, 1) := by decide +kernel
theorem dX11_addNoise_2 : decode cX11_addNoise 2 = .ok (.iconst 0, 1) := by decide +kernel
theorem dX11_addNoise_3 : decode cX11_addNoise 3 = .ok (.istore 4, 2) := by decide +kernel
theorem dX11_addNoise_5 : decode cX11_addNoise 5 = .ok (.iload 4, 2) := by decide +kernel
theorem dX11_addNoise_7 : decode cX11_addNoise 7 = .ok (.aload_n 0, 1) := by decide +kernel
theorem dX11_addNoise_8 : decode cX11_addNoise 8 = .ok (.getfield 73, 3) := by decide +kernel
theorem dX11_addNoise_11 : decode cX11_addNoise 11 = .ok (.arraylength, 1) := by decide +kernel
theorem dX11_addNoise_12 : decode cX11_addNoise 12 = .ok (.if_icmp .ge 45, 3) := by decide +kernel
theorem dX11_addNoise_15 : decode cX11_addNoise 15 = .ok (.lload_n 2, 1) := by decide +kernel
theorem dX11_addNoise_16 : decode cX11_addNoise 16 = .ok (.aload_n 0, 1) := by decide +kernel
theorem dX11_addNoise_17 : decode cX11_addNoise 17 = .ok (.getfield 73, 3) := by decide +kernel
theorem dX11_addNoise_20 : decode cX11_addNoise 20 = .ok (.iload 4, 2) := by decide +kernel
theorem dX11_addNoise_22 : decode cX11_addNoise 22 = .ok (.laload, 1) := by decide +kernel
theorem dX11_addNoise_23 : decode cX11_addNoise 23 = .ok (.ladd, 1) := by decide +kernel
theorem dX11_addNoise_24 : decode cX11_addNoise 24 = .ok (.lstore_n 2, 1) := by decide +kernel
theorem dX11_addNoise_25 : decode cX11_addNoise 25 = .ok (.iload 4, 2) := by decide +kernel
theorem dX11_addNoise_27 : decode cX11_addNoise 27 = .ok (.iload_n 1, 1) := by decide +kernel
theorem dX11_addNoise_28 : decode cX11_addNoise 28 = .ok (.if_icmp .lt 15, 3) := by decide +kernel
theorem dX11_addNoise_31 : decode cX11_addNoise 31 = .ok (.lload_n 2, 1) := by decide +kernel
theorem dX11_addNoise_32 : decode cX11_addNoise 32 = .ok (.aload_n 0, 1) := by decide +kernel
theorem dX11_addNoise_33 : decode cX11_addNoise 33 = .ok (.getfield 73, 3) := by decide +kernel
theorem dX11_addNoise_36 : decode cX11_addNoise 36 = .ok (.iload 4, 2) := by decide +kernel
theorem dX11_addNoise_38 : decode cX11_addNoise 38 = .ok (.iload_n 1, 1) := by decide +kernel
theorem dX11_addNoise_39 : decode cX11_addNoise 39 = .ok (.isub, 1) := by decide +kernel
theorem dX11_addNoise_40 : decode cX11_addNoise 40 = .ok (.laload, 1) := by decide +kernel
theorem dX11_addNoise_41 : decode cX11_addNoise 41 = .ok (.lsub, 1) := by decide +kernel
theorem dX11_addNoise_42 : decode cX11_addNoise 42 = .ok (.lstore_n 2, 1) := by decide +kernel
theorem dX11_addNoise_43 : decode cX11_addNoise 43 = .ok (.aload_n 0, 1) := by decide +kernel
theorem dX11_addNoise_44 : decode cX11_addNoise 44 = .ok (.getfield 77, 3) := by decide +kernel
theorem dX11_addNoise_47 : decode cX11_addNoise 47 = .ok (.iload 4, 2) := by decide +kernel
theorem dX11_addNoise_49 : decode cX11_addNoise 49 = .ok (.lload_n 2, 1) := by decide +kernel
theorem dX11_addNoise_50 : decode cX11_addNoise 50 = .ok (.lastore, 1) := by decide +kernel
theorem dX11_addNoise_51 : decode cX11_addNoise 51 = .ok (.iinc 4 1, 3) := by decide +kernel
theorem dX11_addNoise_54 : decode cX11_addNoise 54 = .ok (.goto (-49), 3) := by decide +kernel
theorem dX11_addNoise_57 : decode cX11_addNoise 57 = .ok (.aload_n 0, 1) := by decide +kernel
theorem dX11_addNoise_58 : decode cX11_addNoise 58 = .ok (.getfield 73, 3) := by decide +kernel
theorem dX11_addNoise_61 : decode cX11_addNoise 61 = .ok (.astore 4, 2) := by decide +kernel
theorem dX11_addNoise_63 : decode cX11_addNoise 63 = .ok (.aload_n 0, 1) := by decide +kernel
theorem dX11_addNoise_64 : decode cX11_addNoise 64 = .ok (.aload_n 0, 1) := by decide +kernel
theorem dX11_addNoise_65 : decode cX11_addNoise 65 = .ok (.getfield 77, 3) := by decide +kernel
theorem dX11_addNoise_68 : decode cX11_addNoise 68 = .ok (.putfield 73, 3) := by decide +kernel
theorem dX11_addNoise_71 : decode cX11_addNoise 71 = .ok (.aload_n 0, 1) := by decide +kernel
theorem dX11_addNoise_72 : decode cX11_addNoise 72 = .ok (.aload 4, 2) := by decide +kernel
theorem dX11_addNoise_74 : decode cX11_addNoise 74 = .ok (.putfield 77, 3) := by decide +kernel
theorem dX11_addNoise_77 : decode cX11_addNoise 77 = .ok (.return_, 1) := by decide +kernel
def X_TH_addNoise_43 (K : xs_St → Prop) (k5 : Int32 → Int64 → Int32 → xs_St → Prop) (x1 : Int32) (x2 : Int64) (x4 : Int32) (u : xs_St) : Prop :=
  (vp_in x4 217 ∧ ∀ u_1 : xs_St, u_1 = xs_sl u 11 (vp_updL (xl u 11) (x4).toNatClampNeg x2) → ∀ x4_2 : Int32, x4_2 = x4 + (1 : Int32) → k5 x1 x2 x4_2 u_1)
set_option maxHeartbeats 4000000 in
set_option maxRecDepth 100000 in
theorem X_TH_addNoise_43_w {K : xs_St → Prop} {k5 : Int32 → Int64 → Int32 → xs_St → Prop} (C : th_Cx p s m args meth c cX11_addNoise RX11 5 (none) (dC, dI) (th_ty cs) (xE ad ak) A) (hk5 : ∀ (x1 : Int32) (x2 : Int64) (x4 : Int32) (v : Nat → Nat) (u : xs_St) (H : Heap) (locs : List Loc) (ls : Array Slot), k5 x1 x2 x4 u → th_wI (dC, dI) (wX cs ad q v v) A s.heap u H locs → lv_has ls 5 [(0, .ref (q 99)), (1, .int x1), (2, .long x2), (4, .int x4)] → W p l e (th_rm 0 0 0) s m args below meth c H locs 0 0 (MQ below (va_Qv (fun a9 => K a9.2) (th_Post (dC, dI) (wXs cs ad q) A) A) args s 0 0 A) (F0 m 5 ls [])) (x1 : Int32) (x2 : Int64) (x4 : Int32) (v : Nat → Nat) (u : xs_St) (H : Heap) (locs : List Loc) (ls : Array Slot) (hf : X_TH_addNoise_43 K k5 x1 x2 x4 u) (hw : th_wI (dC, dI) (wX cs ad q v v) A s.heap u H locs) (hl : lv_has ls 5 [(0, .ref (q 99)), (1, .int x1), (2, .long x2), (4, .int x4)]) : W p l e (th_rm 0 0 0) s m args below meth c H locs 0 0 (MQ below (va_Qv (fun a9 => K a9.2) (th_Post (dC, dI) (wXs cs ad q) A) A) args s 0 0 A) (F0 m 43 ls []) := by
  have hx := C.1
  have hb := C.2.1
  unfold X_TH_addNoise_43 at hf
  refine lv_aload_n hx hb dX11_addNoise_43 rfl (lv_at hl 0 rfl) ?_
  refine xg_11 C hw (C.2.2.2.2.1 _ hwF_X11_77) dX11_addNoise_44 ?_
  refine lv_iload hx hb dX11_addNoise_47 (lv_at hl 3 rfl) ?_
  refine lv_lload_n hx hb dX11_addNoise_49 rfl (lv_at hl 2 rfl) ?_
  refine ys_11 C hw hf.1 dX11_addNoise_50 (fun u_1 e9 H locs hw => ?_)
  replace hf := hf.2 u_1 e9
  clear e9
  obtain ⟨x4_2, e9⟩ : ∃ y : Int32, y = x4 + (1 : Int32) := ⟨_, rfl⟩
  replace hf := hf x4_2 e9
  refine lv_iinc (v := x4_2) (lv' := [(4, .int x4_2), (0, .ref (q 99)), (1, .int x1), (2, .long x2)]) hx hb dX11_addNoise_51 hl (k := 3) rfl (by rw [e9]; rfl) (by decide) rfl (fun ls hl => ?_)
  clear e9
  refine lv_goto (tgt := 5) hx hb dX11_addNoise_54 (by decide) ?_
  exact hk5 x1 x2 x4_2 v u_1 _ _ _ hf hw (lv_sub hl [1, 2, 3, 0] rfl)
def X_TH_addNoise_5 (K : xs_St → Prop) (k5 : Int32 → Int64 → Int32 → xs_St → Prop) (x1 : Int32) (x2 : Int64) (x4 : Int32) (u : xs_St) : Prop :=
  (((217 : Int32) ≤ x4 → ∀ u_2 : xs_St, u_2 = xw_10_11 u → K u_2) ∧ (¬ (217 : Int32) ≤ x4 → (vp_in x4 217 ∧ ∀ y_3 : Int64, y_3 = xl u 10 (x4).toNatClampNeg → ∀ y_4 : Int64, y_4 = (x2 + y_3) → ((x4 < x1 → X_TH_addNoise_43 K k5 x1 y_4 x4 u) ∧ (¬ x4 < x1 → (vp_in (x4 - x1) 217 ∧ ∀ y_5 : Int64, y_5 = xl u 10 ((x4 - x1)).toNatClampNeg → ∀ y_6 : Int64, y_6 = (y_4 - y_5) → X_TH_addNoise_43 K k5 x1 y_6 x4 u))))))
set_option maxHeartbeats 4000000 in
set_option maxRecDepth 100000 in
theorem X_TH_addNoise_5_w {K : xs_St → Prop} {k5 : Int32 → Int64 → Int32 → xs_St → Prop} (C : th_Cx p s m args meth c cX11_addNoise RX11 5 (none) (dC, dI) (th_ty cs) (xE ad ak) A) (hk5 : ∀ (x1 : Int32) (x2 : Int64) (x4 : Int32) (v : Nat → Nat) (u : xs_St) (H : Heap) (locs : List Loc) (ls : Array Slot), k5 x1 x2 x4 u → th_wI (dC, dI) (wX cs ad q v v) A s.heap u H locs → lv_has ls 5 [(0, .ref (q 99)), (1, .int x1), (2, .long x2), (4, .int x4)] → W p l e (th_rm 0 0 0) s m args below meth c H locs 0 0 (MQ below (va_Qv (fun a9 => K a9.2) (th_Post (dC, dI) (wXs cs ad q) A) A) args s 0 0 A) (F0 m 5 ls [])) (x1 : Int32) (x2 : Int64) (x4 : Int32) (v : Nat → Nat) (u : xs_St) (H : Heap) (locs : List Loc) (ls : Array Slot) (hf : X_TH_addNoise_5 K k5 x1 x2 x4 u) (hw : th_wI (dC, dI) (wX cs ad q v v) A s.heap u H locs) (hl : lv_has ls 5 [(0, .ref (q 99)), (1, .int x1), (2, .long x2), (4, .int x4)]) : W p l e (th_rm 0 0 0) s m args below meth c H locs 0 0 (MQ below (va_Qv (fun a9 => K a9.2) (th_Post (dC, dI) (wXs cs ad q) A) A) args s 0 0 A) (F0 m 5 ls []) := by
  have hx := C.1
  have hb := C.2.1
  unfold X_TH_addNoise_5 at hf
  refine lv_iload hx hb dX11_addNoise_5 (lv_at hl 3 rfl) ?_
  refine lv_aload_n hx hb dX11_addNoise_7 rfl (lv_at hl 0 rfl) ?_
  refine xg_10 C hw (C.2.2.2.2.1 _ hwF_X11_73) dX11_addNoise_8 ?_
  refine yn_10 C hw dX11_addNoise_11 ?_
  refine lv_icmp_ge (tgt := 57) hx hb dX11_addNoise_12 (by decide) (fun hc => ?_) (fun hc => ?_)
  · replace hf := hf.1 hc
    clear hc
    refine lv_aload_n hx hb dX11_addNoise_57 rfl (lv_at hl 0 rfl) ?_
    refine xg_10 C hw (C.2.2.2.2.1 _ hwF_X11_73) dX11_addNoise_58 ?_
    refine lv_astore (lv' := [(4, .ref (v 10)), (0, .ref (q 99)), (1, .int x1), (2, .long x2)]) hx hb dX11_addNoise_61 hl (by decide) rfl (fun ls hl => ?_)
    refine lv_aload_n hx hb dX11_addNoise_63 rfl (lv_at hl 1 rfl) ?_
    refine lv_aload_n hx hb dX11_addNoise_64 rfl (lv_at hl 1 rfl) ?_
    refine xg_11 C hw (C.2.2.2.2.1 _ hwF_X11_77) dX11_addNoise_65 ?_
    refine xq_10 (x := (v 11)) C hw (C.2.2.2.2.1 _ hwF_X11_73) dX11_addNoise_68 (fun H locs hw => ?_)
    refine lv_aload_n hx hb dX11_addNoise_71 rfl (lv_at hl 1 rfl) ?_
    refine lv_aload hx hb dX11_addNoise_72 (lv_at hl 0 rfl) ?_
    refine xq_11 (x := (v 10)) C hw (C.2.2.2.2.1 _ hwF_X11_77) dX11_addNoise_74 (fun H locs hw => ?_)
    obtain ⟨v_1, hw⟩ := xw_10_11_f hw
    obtain ⟨u_2, e9⟩ : ∃ z, z = xw_10_11 u := ⟨_, rfl⟩
    rw [← e9] at hw
    replace hf := hf u_2 e9
    clear e9
    replace hl := lv_sub hl [1, 2, 3] rfl
    have hl : lv_has ls 5 [(0, .ref (q 99)), (1, .int x1), (2, .long x2)] := hl
    exact th_vret (K := (fun a9 => K a9.2)) (w := wXs cs ad q) (u := (v_1, u_2)) C hw hf dX11_addNoise_77
  · replace hf := hf.2 hc
    clear hc
    refine lv_lload_n hx hb dX11_addNoise_15 rfl (lv_at hl 2 rfl) ?_
    refine lv_aload_n hx hb dX11_addNoise_16 rfl (lv_at hl 0 rfl) ?_
    refine xg_10 C hw (C.2.2.2.2.1 _ hwF_X11_73) dX11_addNoise_17 ?_
    refine lv_iload hx hb dX11_addNoise_20 (lv_at hl 3 rfl) ?_
    refine yl_10 C hw hf.1 dX11_addNoise_22 (fun y_3 e9 => ?_)
    replace hf := hf.2 y_3 e9
    clear e9
    refine lv_ladd hx hb dX11_addNoise_23 ?_
    refine lv_topl (fun y_4 e9 => ?_)
    replace hf := hf y_4 e9
    clear e9
    refine lv_lstore_n (lv' := [(2, .long y_4), (0, .ref (q 99)), (1, .int x1), (4, .int x4)]) hx hb dX11_addNoise_24 rfl hl (by decide) rfl (fun ls hl => ?_)
    refine lv_iload hx hb dX11_addNoise_25 (lv_at hl 3 rfl) ?_
    refine lv_iload_n hx hb dX11_addNoise_27 rfl (lv_at hl 2 rfl) ?_
    refine lv_icmp_lt (tgt := 43) hx hb dX11_addNoise_28 (by decide) (fun hc => ?_) (fun hc => ?_)
    · replace hf := hf.1 hc
      clear hc
      exact X_TH_addNoise_43_w C hk5 x1 y_4 x4 v u _ _ _ hf hw (lv_sub hl [1, 2, 0, 3] rfl)
    · replace hf := hf.2 hc
      clear hc
      refine lv_lload_n hx hb dX11_addNoise_31 rfl (lv_at hl 0 rfl) ?_
      refine lv_aload_n hx hb dX11_addNoise_32 rfl (lv_at hl 1 rfl) ?_
      refine xg_10 C hw (C.2.2.2.2.1 _ hwF_X11_73) dX11_addNoise_33 ?_
      refine lv_iload hx hb dX11_addNoise_36 (lv_at hl 3 rfl) ?_
      refine lv_iload_n hx hb dX11_addNoise_38 rfl (lv_at hl 2 rfl) ?_
      refine lv_isub hx hb dX11_addNoise_39 ?_
      refine yl_10 C hw hf.1 dX11_addNoise_40 (fun y_5 e9 => ?_)
      replace hf := hf.2 y_5 e9
      clear e9
      refine lv_lsub hx hb dX11_addNoise_41 ?_
      refine lv_topl (fun y_6 e9 => ?_)
      replace hf := hf y_6 e9
      clear e9
      refine lv_lstore_n (lv' := [(2, .long y_6), (0, .ref (q 99)), (1, .int x1), (4, .int x4)]) hx hb dX11_addNoise_42 rfl hl (by decide) rfl (fun ls hl => ?_)
      exact X_TH_addNoise_43_w C hk5 x1 y_6 x4 v u _ _ _ hf hw (lv_sub hl [1, 2, 0, 3] rfl)
def X_TH_addNoise_5_lp (K : xs_St → Prop) : Nat → Int32 → Int64 → Int32 → xs_St → Prop
  | 0, _, _, _, _ => False
  | n + 1, x1, x2, x4, u => X_TH_addNoise_5 K (X_TH_addNoise_5_lp K n) x1 x2 x4 u
set_option maxHeartbeats 4000000 in
set_option maxRecDepth 100000 in
theorem X_TH_addNoise_5_lw {K : xs_St → Prop} (C : th_Cx p s m args meth c cX11_addNoise RX11 5 (none) (dC, dI) (th_ty cs) (xE ad ak) A) (n : Nat) : ∀ (x1 : Int32) (x2 : Int64) (x4 : Int32) (v : Nat → Nat) (u : xs_St) (H : Heap) (locs : List Loc) (ls : Array Slot), X_TH_addNoise_5_lp K n x1 x2 x4 u → th_wI (dC, dI) (wX cs ad q v v) A s.heap u H locs → lv_has ls 5 [(0, .ref (q 99)), (1, .int x1), (2, .long x2), (4, .int x4)] → W p l e (th_rm 0 0 0) s m args below meth c H locs 0 0 (MQ below (va_Qv (fun a9 => K a9.2) (th_Post (dC, dI) (wXs cs ad q) A) A) args s 0 0 A) (F0 m 5 ls []) := by
  induction n with
  | zero => intro x1 x2 x4 v u H locs ls hf; exact hf.elim
  | succ n ih =>
    intro x1 x2 x4 v u H locs ls hf hw hl
    exact X_TH_addNoise_5_w C ih x1 x2 x4 v u H locs ls hf hw hl
def X_TH_addNoise (a1 : Int32) (u : xs_St) (K : xs_St → Prop) : Prop :=
  ∃ n, X_TH_addNoise_5_lp K n a1 (0 : Int64) (0 : Int32) u
set_option maxHeartbeats 4000000 in
set_option maxRecDepth 100000 in
theorem X_TH_addNoise_c {l : Launch} {dC : Nat → ClassId} {dI : Nat → Nat → Nat} {cs : Nat → ClassId} {ad ak : Nat → Nat} {q v : Nat → Nat} {a1 : Int32} {u : xs_St} {K : xs_St → Prop} (hf : X_TH_addNoise a1 u K) : th_Cv l yX11_addNoise cX11_addNoise 5 (none) 0 0 0 (dC, dI) (th_ty cs) (xE ad ak) (wXs cs ad q) [.ref (q 99), .int a1] (v, u) (fun a9 => K a9.2) := by
  refine th_ofv (by decide) (Nat.le_of_ble_eq_true rfl) (xE_ok ad ak) ?_
  intro p e s m below meth c A ls C hw hl
  have C : th_Cx p s m _ meth c cX11_addNoise RX11 5 (none) (dC, dI) (th_ty cs) (xE ad ak) A := C
  have hl : lv_has ls 5 [(0, .ref (q 99)), (1, .int a1)] := hl
  generalize (List.toArray _ : Array Value) = args at C ⊢
  have hx := C.1
  have hb := C.2.1
  unfold X_TH_addNoise at hf
  refine lv_lconst (v := (0 : Int64)) hx hb dX11_addNoise_0 (by decide) ?_
  refine lv_lstore_n (lv' := [(2, .long (0 : Int64)), (0, .ref (q 99)), (1, .int a1)]) hx hb dX11_addNoise_1 rfl hl (by decide) rfl (fun ls hl => ?_)
  refine lv_iconst (v := (0 : Int32)) hx hb dX11_addNoise_2 (by decide) ?_
  refine lv_istore (lv' := [(4, .int (0 : Int32)), (2, .long (0 : Int64)), (0, .ref (q 99)), (1, .int a1)]) hx hb dX11_addNoise_3 hl (by decide) rfl (fun ls hl => ?_)
  obtain ⟨n, hf⟩ := hf
  exact X_TH_addNoise_5_lw C n a1 (0 : Int64) (0 : Int32) v u _ _ _ hf hw (lv_sub hl [2, 3, 1, 0] rfl)
/-! X_TH_commonDivisor -/
theorem dX11_commonDivisor_0 : decode cX11_commonDivisor 0 = .ok (.lload_n 0, 1) := by decide +kernel
theorem dX11_commonDivisor_1 : decode cX11_commonDivisor 1 = .ok (.lstore 4, 2) := by decide +kernel
theorem dX11_commonDivisor_3 : decode cX11_commonDivisor 3 = .ok (.lload_n 2, 1) := by decide +kernel
theorem dX11_commonDivisor_4 : decode cX11_commonDivisor 4 = .ok (.lstore 6, 2) := by decide +kernel
theorem dX11_commonDivisor_6 : decode cX11_commonDivisor 6 = .ok (.iconst 0, 1) := by decide +kernel
theorem dX11_commonDivisor_7 : decode cX11_commonDivisor 7 = .ok (.istore 8, 2) := by decide +kernel
theorem dX11_commonDivisor_9 : decode cX11_commonDivisor 9 = .ok (.iload 8, 2) := by decide +kernel
theorem dX11_commonDivisor_11 : decode cX11_commonDivisor 11 = .ok (.bipush 100, 2) := by decide +kernel
theorem dX11_commonDivisor_13 : decode cX11_commonDivisor 13 = .ok (.if_icmp .ge 31, 3) := by decide +kernel
theorem dX11_commonDivisor_16 : decode cX11_commonDivisor 16 = .ok (.lload 6, 2) := by decide +kernel
theorem dX11_commonDivisor_18 : decode cX11_commonDivisor 18 = .ok (.lconst 0, 1) := by decide +kernel
theorem dX11_commonDivisor_19 : decode cX11_commonDivisor 19 = .ok (.lcmp, 1) := by decide +kernel
theorem dX11_commonDivisor_20 : decode cX11_commonDivisor 20 = .ok (.ifCond .eq 24, 3) := by decide +kernel
theorem dX11_commonDivisor_23 : decode cX11_commonDivisor 23 = .ok (.lload 4, 2) := by decide +kernel
theorem dX11_commonDivisor_25 : decode cX11_commonDivisor 25 = .ok (.lload 6, 2) := by decide +kernel
theorem dX11_commonDivisor_27 : decode cX11_commonDivisor 27 = .ok (.lrem, 1) := by decide +kernel
theorem dX11_commonDivisor_28 : decode cX11_commonDivisor 28 = .ok (.lstore 9, 2) := by decide +kernel
theorem dX11_commonDivisor_30 : decode cX11_commonDivisor 30 = .ok (.lload 6, 2) := by decide +kernel
theorem dX11_commonDivisor_32 : decode cX11_commonDivisor 32 = .ok (.lstore 4, 2) := by decide +kernel
theorem dX11_commonDivisor_34 : decode cX11_commonDivisor 34 = .ok (.lload 9, 2) := by decide +kernel
theorem dX11_commonDivisor_36 : decode cX11_commonDivisor 36 = .ok (.lstore 6, 2) := by decide +kernel
theorem dX11_commonDivisor_38 : decode cX11_commonDivisor 38 = .ok (.iinc 8 1, 3) := by decide +kernel
theorem dX11_commonDivisor_41 : decode cX11_commonDivisor 41 = .ok (.goto (-32), 3) := by decide +kernel
theorem dX11_commonDivisor_44 : decode cX11_commonDivisor 44 = .ok (.lload 4, 2) := by decide +kernel
theorem dX11_commonDivisor_46 : decode cX11_commonDivisor 46 = .ok (.lreturn, 1) := by decide +kernel
def X_TH_commonDivisor_44 (K : Int64 → xs_St → Prop) (x4 : Int64) (u : xs_St) : Prop :=
  K x4 u
set_option maxHeartbeats 4000000 in
set_option maxRecDepth 100000 in
theorem X_TH_commonDivisor_44_w {K : Int64 → xs_St → Prop} (C : th_Cx p s m args meth c cX11_commonDivisor RX11 11 (some .long) (dC, dI) (th_ty cs) (xE ad ak) A) (x4 : Int64) (u : xs_St) (H : Heap) (locs : List Loc) (ls : Array Slot) (hf : X_TH_commonDivisor_44 K x4 u) (hw : th_wI (dC, dI) (wX cs ad q v v) A s.heap u H locs) (hl : lv_has ls 11 [(4, .long x4)]) : W p l e (th_rm 0 0 0) s m args below meth c H locs 0 0 (MQ below (va_Ql K (th_Post (dC, dI) (wX cs ad q v v) A) A) args s 0 0 A) (F0 m 44 ls []) := by
  have hx := C.1
  have hb := C.2.1
  unfold X_TH_commonDivisor_44 at hf
  refine lv_lload hx hb dX11_commonDivisor_44 (lv_at hl 0 rfl) ?_
  exact th_lret C hw hf dX11_commonDivisor_46
def X_TH_commonDivisor_9 (K : Int64 → xs_St → Prop) (k9 : Int64 → Int64 → Int32 → xs_St → Prop) (x4 : Int64) (x6 : Int64) (x8 : Int32) (u : xs_St) : Prop :=
  (((100 : Int32) ≤ x8 → X_TH_commonDivisor_44 K x4 u) ∧ (¬ (100 : Int32) ≤ x8 → (((lg_cmp x6 (0 : Int64)) = 0 → X_TH_commonDivisor_44 K x4 u) ∧ (¬ (lg_cmp x6 (0 : Int64)) = 0 → (¬ x6 = 0 ∧ ∀ y_1 : Int64, y_1 = (x4 - x4 / x6 * x6) → ∀ x8_2 : Int32, x8_2 = x8 + (1 : Int32) → k9 x6 y_1 x8_2 u)))))
set_option maxHeartbeats 4000000 in
set_option maxRecDepth 100000 in
theorem X_TH_commonDivisor_9_w {K : Int64 → xs_St → Prop} {k9 : Int64 → Int64 → Int32 → xs_St → Prop} (C : th_Cx p s m args meth c cX11_commonDivisor RX11 11 (some .long) (dC, dI) (th_ty cs) (xE ad ak) A) (hk9 : ∀ (x4 : Int64) (x6 : Int64) (x8 : Int32) (u : xs_St) (H : Heap) (locs : List Loc) (ls : Array Slot), k9 x4 x6 x8 u → th_wI (dC, dI) (wX cs ad q v v) A s.heap u H locs → lv_has ls 11 [(4, .long x4), (6, .long x6), (8, .int x8)] → W p l e (th_rm 0 0 0) s m args below meth c H locs 0 0 (MQ below (va_Ql K (th_Post (dC, dI) (wX cs ad q v v) A) A) args s 0 0 A) (F0 m 9 ls [])) (x4 : Int64) (x6 : Int64) (x8 : Int32) (u : xs_St) (H : Heap) (locs : List Loc) (ls : Array Slot) (hf : X_TH_commonDivisor_9 K k9 x4 x6 x8 u) (hw : th_wI (dC, dI) (wX cs ad q v v) A s.heap u H locs) (hl : lv_has ls 11 [(4, .long x4), (6, .long x6), (8, .int x8)]) : W p l e (th_rm 0 0 0) s m args below meth c H locs 0 0 (MQ below (va_Ql K (th_Post (dC, dI) (wX cs ad q v v) A) A) args s 0 0 A) (F0 m 9 ls []) := by
  have hx := C.1
  have hb := C.2.1
  unfold X_TH_commonDivisor_9 at hf
  refine lv_iload hx hb dX11_commonDivisor_9 (lv_at hl 2 rfl) ?_
  refine lv_bipush (v := (100 : Int32)) hx hb dX11_commonDivisor_11 (by decide) ?_
  refine lv_icmp_ge (tgt := 44) hx hb dX11_commonDivisor_13 (by decide) (fun hc => ?_) (fun hc => ?_)
  · replace hf := hf.1 hc
    clear hc
    exact X_TH_commonDivisor_44_w C x4 u _ _ _ hf hw (lv_sub hl [0] rfl)
  · replace hf := hf.2 hc
    clear hc
    refine lv_lload hx hb dX11_commonDivisor_16 (lv_at hl 1 rfl) ?_
    refine lv_lconst (v := (0 : Int64)) hx hb dX11_commonDivisor_18 (by decide) ?_
    refine W.lcmp hx hb dX11_commonDivisor_19 ?_
    refine lv_if_eq (tgt := 44) hx hb dX11_commonDivisor_20 (by decide) (fun hc => ?_) (fun hc => ?_)
    · replace hf := hf.1 hc
      clear hc
      exact X_TH_commonDivisor_44_w C x4 u _ _ _ hf hw (lv_sub hl [0] rfl)
    · replace hf := hf.2 hc
      clear hc
      refine lv_lload hx hb dX11_commonDivisor_23 (lv_at hl 0 rfl) ?_
      refine lv_lload hx hb dX11_commonDivisor_25 (lv_at hl 1 rfl) ?_
      refine lv_lrem hx hb dX11_commonDivisor_27 hf.1 ?_
      replace hf := hf.2
      refine lv_topl (fun y_1 e9 => ?_)
      replace hf := hf y_1 e9
      clear e9
      refine lv_lstore (lv' := [(9, .long y_1), (4, .long x4), (6, .long x6), (8, .int x8)]) hx hb dX11_commonDivisor_28 hl (by decide) rfl (fun ls hl => ?_)
      refine lv_lload hx hb dX11_commonDivisor_30 (lv_at hl 2 rfl) ?_
      refine lv_lstore (lv' := [(4, .long x6), (9, .long y_1), (6, .long x6), (8, .int x8)]) hx hb dX11_commonDivisor_32 hl (by decide) rfl (fun ls hl => ?_)
      refine lv_lload hx hb dX11_commonDivisor_34 (lv_at hl 1 rfl) ?_
      refine lv_lstore (lv' := [(6, .long y_1), (4, .long x6), (9, .long y_1), (8, .int x8)]) hx hb dX11_commonDivisor_36 hl (by decide) rfl (fun ls hl => ?_)
      obtain ⟨x8_2, e9⟩ : ∃ y : Int32, y = x8 + (1 : Int32) := ⟨_, rfl⟩
      replace hf := hf x8_2 e9
      refine lv_iinc (v := x8_2) (lv' := [(8, .int x8_2), (6, .long y_1), (4, .long x6), (9, .long y_1)]) hx hb dX11_commonDivisor_38 hl (k := 3) rfl (by rw [e9]; rfl) (by decide) rfl (fun ls hl => ?_)
      clear e9
      refine lv_goto (tgt := 9) hx hb dX11_commonDivisor_41 (by decide) ?_
      exact hk9 x6 y_1 x8_2 u _ _ _ hf hw (lv_sub hl [2, 1, 0] rfl)
def X_TH_commonDivisor_9_lp (K : Int64 → xs_St → Prop) : Nat → Int64 → Int64 → Int32 → xs_St → Prop
  | 0, _, _, _, _ => False
  | n + 1, x4, x6, x8, u => X_TH_commonDivisor_9 K (X_TH_commonDivisor_9_lp K n) x4 x6 x8 u
set_option maxHeartbeats 4000000 in
set_option maxRecDepth 100000 in
theorem X_TH_commonDivisor_9_lw {K : Int64 → xs_St → Prop} (C : th_Cx p s m args meth c cX11_commonDivisor RX11 11 (some .long) (dC, dI) (th_ty cs) (xE ad ak) A) (n : Nat) : ∀ (x4 : Int64) (x6 : Int64) (x8 : Int32) (u : xs_St) (H : Heap) (locs : List Loc) (ls : Array Slot), X_TH_commonDivisor_9_lp K n x4 x6 x8 u → th_wI (dC, dI) (wX cs ad q v v) A s.heap u H locs → lv_has ls 11 [(4, .long x4), (6, .long x6), (8, .int x8)] → W p l e (th_rm 0 0 0) s m args below meth c H locs 0 0 (MQ below (va_Ql K (th_Post (dC, dI) (wX cs ad q v v) A) A) args s 0 0 A) (F0 m 9 ls []) := by
  induction n with
  | zero => intro x4 x6 x8 u H locs ls hf; exact hf.elim
  | succ n ih =>
    intro x4 x6 x8 u H locs ls hf hw hl
    exact X_TH_commonDivisor_9_w C ih x4 x6 x8 u H locs ls hf hw hl
def X_TH_commonDivisor (a1 : Int64) (a2 : Int64) (u : xs_St) (K : Int64 → xs_St → Prop) : Prop :=
  ∃ n, X_TH_commonDivisor_9_lp K n a1 a2 (0 : Int32) u
set_option maxHeartbeats 4000000 in
set_option maxRecDepth 100000 in
theorem X_TH_commonDivisor_c {l : Launch} {dC : Nat → ClassId} {dI : Nat → Nat → Nat} {cs : Nat → ClassId} {ad ak : Nat → Nat} {q v : Nat → Nat} {a1 : Int64} {a2 : Int64} {u : xs_St} {K : Int64 → xs_St → Prop} (hf : X_TH_commonDivisor a1 a2 u K) : th_Cl l yX11_commonDivisor cX11_commonDivisor 11 (some .long) 0 0 0 (dC, dI) (th_ty cs) (xE ad ak) (wX cs ad q v v) [.long a1, .long a2] u K := by
  refine th_ofl (by decide) (Nat.le_of_ble_eq_true rfl) (xE_ok ad ak) ?_
  intro p e s m below meth c A ls C hw hl
  have C : th_Cx p s m _ meth c cX11_commonDivisor RX11 11 (some .long) (dC, dI) (th_ty cs) (xE ad ak) A := C
  have hl : lv_has ls 11 [(0, .long a1), (2, .long a2)] := hl
  generalize (List.toArray _ : Array Value) = args at C ⊢
  have hx := C.1
  have hb := C.2.1
  unfold X_TH_commonDivisor at hf
  refine lv_lload_n hx hb dX11_commonDivisor_0 rfl (lv_at hl 0 rfl) ?_
  refine lv_lstore (lv' := [(4, .long a1), (0, .long a1), (2, .long a2)]) hx hb dX11_commonDivisor_1 hl (by decide) rfl (fun ls hl => ?_)
  refine lv_lload_n hx hb dX11_commonDivisor_3 rfl (lv_at hl 2 rfl) ?_
  refine lv_lstore (lv' := [(6, .long a2), (4, .long a1), (0, .long a1), (2, .long a2)]) hx hb dX11_commonDivisor_4 hl (by decide) rfl (fun ls hl => ?_)
  refine lv_iconst (v := (0 : Int32)) hx hb dX11_commonDivisor_6 (by decide) ?_
  refine lv_istore (lv' := [(8, .int (0 : Int32)), (6, .long a2), (4, .long a1), (0, .long a1), (2, .long a2)]) hx hb dX11_commonDivisor_7 hl (by decide) rfl (fun ls hl => ?_)
  obtain ⟨n, hf⟩ := hf
  exact X_TH_commonDivisor_9_lw C n a1 a2 (0 : Int32) u _ _ _ hf hw (lv_sub hl [2, 1, 0] rfl)
/-! X_TH_count -/
theorem dX11_count_0 : decode cX11_count 0 = .ok (.iload_n 1, 1) := by decide +kernel
theorem dX11_count_1 : decode cX11_count 1 = .ok (.tableswitch 84 0 5 #[39, 44, 52, 60, 68, 76], 39) := by decide +kernel
theorem dX11_count_40 : decode cX11_count 40 = .ok (.aload_n 0, 1) := by decide +kernel
theorem dX11_count_41 : decode cX11_count 41 = .ok (.getfield 80, 3) := by decide +kernel
theorem dX11_count_44 : decode cX11_count 44 = .ok (.ireturn, 1) := by decide +kernel
theorem dX11_count_45 : decode cX11_count 45 = .ok (.aload_n 0, 1) := by decide +kernel
theorem dX11_count_46 : decode cX11_count 46 = .ok (.getfield 69, 3) := by decide +kernel
theorem dX11_count_49 : decode cX11_count 49 = .ok (.getfield 126, 3) := by decide +kernel
theorem dX11_count_52 : decode cX11_count 52 = .ok (.ireturn, 1) := by decide +kernel
theorem dX11_count_53 : decode cX11_count 53 = .ok (.aload_n 0, 1) := by decide +kernel
theorem dX11_count_54 : decode cX11_count 54 = .ok (.getfield 26, 3) := by decide +kernel
theorem dX11_count_57 : decode cX11_count 57 = .ok (.getfield 94, 3) := by decide +kernel
theorem dX11_count_60 : decode cX11_count 60 = .ok (.ireturn, 1) := by decide +kernel
theorem dX11_count_61 : decode cX11_count 61 = .ok (.aload_n 0, 1) := by decide +kernel
theorem dX11_count_62 : decode cX11_count 62 = .ok (.getfield 69, 3) := by decide +kernel
theorem dX11_count_65 : decode cX11_count 65 = .ok (.getfield 176, 3) := by decide +kernel
theorem dX11_count_68 : decode cX11_count 68 = .ok (.ireturn, 1) := by decide +kernel
theorem dX11_count_69 : decode cX11_count 69 = .ok (.aload_n 0, 1) := by decide +kernel
theorem dX11_count_70 : decode cX11_count 70 = .ok (.getfield 26, 3) := by decide +kernel
theorem dX11_count_73 : decode cX11_count 73 = .ok (.getfield 137, 3) := by decide +kernel
theorem dX11_count_76 : decode cX11_count 76 = .ok (.ireturn, 1) := by decide +kernel
theorem dX11_count_77 : decode cX11_count 77 = .ok (.aload_n 0, 1) := by decide +kernel
theorem dX11_count_78 : decode cX11_count 78 = .ok (.getfield 10, 3) := by decide +kernel
theorem dX11_count_81 : decode cX11_count 81 = .ok (.getfield 91, 3) := by decide +kernel
theorem dX11_count_84 : decode cX11_count 84 = .ok (.ireturn, 1) := by decide +kernel
theorem dX11_count_85 : decode cX11_count 85 = .ok (.iconst (-1), 1) := by decide +kernel
theorem dX11_count_86 : decode cX11_count 86 = .ok (.ireturn, 1) := by decide +kernel
def X_TH_count (a1 : Int32) (u : xs_St) (K : Int32 → xs_St → Prop) : Prop :=
  ((a1 = (0 : Int32) → K (xi u 12) u) ∧ (a1 = (1 : Int32) → K (xi u 300) u) ∧ (a1 = (2 : Int32) → K (xi u 504) u) ∧ (a1 = (3 : Int32) → K (xi u 305) u) ∧ (a1 = (4 : Int32) → K (xi u 505) u) ∧ (a1 = (5 : Int32) → K (xi u 101) u) ∧ (¬ (a1 = (0 : Int32) ∨ a1 = (1 : Int32) ∨ a1 = (2 : Int32) ∨ a1 = (3 : Int32) ∨ a1 = (4 : Int32) ∨ a1 = (5 : Int32)) → K (-1 : Int32) u))
set_option maxHeartbeats 4000000 in
set_option maxRecDepth 100000 in
theorem X_TH_count_c {l : Launch} {dC : Nat → ClassId} {dI : Nat → Nat → Nat} {cs : Nat → ClassId} {ad ak : Nat → Nat} {q v : Nat → Nat} {a1 : Int32} {u : xs_St} {K : Int32 → xs_St → Prop} (hf : X_TH_count a1 u K) : th_Ci l yX11_count cX11_count 2 (some .int) 0 0 0 (dC, dI) (th_ty cs) (xE ad ak) (wX cs ad q v v) [.ref (q 99), .int a1] u K := by
  refine th_ofi (by decide) (Nat.le_of_ble_eq_true rfl) (xE_ok ad ak) ?_
  intro p e s m below meth c A ls C hw hl
  have C : th_Cx p s m _ meth c cX11_count RX11 2 (some .int) (dC, dI) (th_ty cs) (xE ad ak) A := C
  have hl : lv_has ls 2 [(0, .ref (q 99)), (1, .int a1)] := hl
  generalize (List.toArray _ : Array Value) = args at C ⊢
  have hx := C.1
  have hb := C.2.1
  unfold X_TH_count at hf
  refine lv_iload_n hx hb dX11_count_0 rfl (lv_at hl 1 rfl) ?_
  by_cases hc : a1 = (0 : Int32) ∨ a1 = (1 : Int32) ∨ a1 = (2 : Int32) ∨ a1 = (3 : Int32) ∨ a1 = (4 : Int32) ∨ a1 = (5 : Int32)
  · rcases hc with hc | hc | hc | hc | hc | hc
    · replace hf := hf.1 hc
      refine lv_tableIn (tgt := 40) hx hb dX11_count_1 (by rw [hc]; decide) (by rw [hc]; decide) (by rw [hc]; rfl) (by decide) ?_
      refine lv_aload_n hx hb dX11_count_40 rfl (lv_at hl 0 rfl) ?_
      refine xg_12 C hw (C.2.2.2.2.1 _ hwF_X11_80) dX11_count_41 ?_
      exact th_iret C hw hf dX11_count_44
    · replace hf := hf.2.1 hc
      refine lv_tableIn (tgt := 45) hx hb dX11_count_1 (by rw [hc]; decide) (by rw [hc]; decide) (by rw [hc]; rfl) (by decide) ?_
      refine lv_aload_n hx hb dX11_count_45 rfl (lv_at hl 0 rfl) ?_
      refine xg_9 C hw (C.2.2.2.2.1 _ hwF_X11_69) dX11_count_46 ?_
      refine xgn_300 C hw (va_Nw.use rfl (xN C hwG_X11_126)) dX11_count_49 ?_
      exact th_iret C hw hf dX11_count_52
    · replace hf := hf.2.2.1 hc
      refine lv_tableIn (tgt := 53) hx hb dX11_count_1 (by rw [hc]; decide) (by rw [hc]; decide) (by rw [hc]; rfl) (by decide) ?_
      refine lv_aload_n hx hb dX11_count_53 rfl (lv_at hl 0 rfl) ?_
      refine xg_2 C hw (C.2.2.2.2.1 _ hwF_X11_26) dX11_count_54 ?_
      refine xgn_504 C hw (va_Nw.use rfl (xN C hwG_X11_94)) dX11_count_57 ?_
      exact th_iret C hw hf dX11_count_60
    · replace hf := hf.2.2.2.1 hc
      refine lv_tableIn (tgt := 61) hx hb dX11_count_1 (by rw [hc]; decide) (by rw [hc]; decide) (by rw [hc]; rfl) (by decide) ?_
      refine lv_aload_n hx hb dX11_count_61 rfl (lv_at hl 0 rfl) ?_
      refine xg_9 C hw (C.2.2.2.2.1 _ hwF_X11_69) dX11_count_62 ?_
      refine xgn_305 C hw (va_Nw.use rfl (xN C hwG_X11_176)) dX11_count_65 ?_
      exact th_iret C hw hf dX11_count_68
    · replace hf := hf.2.2.2.2.1 hc
      refine lv_tableIn (tgt := 69) hx hb dX11_count_1 (by rw [hc]; decide) (by rw [hc]; decide) (by rw [hc]; rfl) (by decide) ?_
      refine lv_aload_n hx hb dX11_count_69 rfl (lv_at hl 0 rfl) ?_
      refine xg_2 C hw (C.2.2.2.2.1 _ hwF_X11_26) dX11_count_70 ?_
      refine xgn_505 C hw (va_Nw.use rfl (xN C hwG_X11_137)) dX11_count_73 ?_
      exact th_iret C hw hf dX11_count_76
    · replace hf := hf.2.2.2.2.2.1 hc
      refine lv_tableIn (tgt := 77) hx hb dX11_count_1 (by rw [hc]; decide) (by rw [hc]; decide) (by rw [hc]; rfl) (by decide) ?_
      refine lv_aload_n hx hb dX11_count_77 rfl (lv_at hl 0 rfl) ?_
      refine xg_0 C hw (C.2.2.2.2.1 _ hwF_X11_10) dX11_count_78 ?_
      refine xgn_101 C hw (va_Nw.use rfl (xN C hwG_X11_91)) dX11_count_81 ?_
      exact th_iret C hw hf dX11_count_84
  · replace hf := hf.2.2.2.2.2.2 hc
    refine lv_tableOut (tgt := 85) hx hb dX11_count_1 (th_sw6 hc) (by decide) ?_
    refine lv_iconst (v := (-1 : Int32)) hx hb dX11_count_85 (by decide) ?_
    exact th_iret C hw hf dX11_count_86
/-! X_TH_end -/
theorem dX11_end_0 : decode cX11_end 0 = .ok (.iload_n 1, 1) := by decide +kernel
theorem dX11_end_1 : decode cX11_end 1 = .ok (.ifCond .lt 14, 3) := by decide +kernel
theorem dX11_end_4 : decode cX11_end 4 = .ok (.iload_n 1, 1) := by decide +kernel
theorem dX11_end_5 : decode cX11_end 5 = .ok (.aload_n 0, 1) := by decide +kernel
theorem dX11_end_6 : decode cX11_end 6 = .ok (.getfield 10, 3) := by decide +kernel
theorem dX11_end_9 : decode cX11_end 9 = .ok (.getfield 91, 3) := by decide +kernel
theorem dX11_end_12 : decode cX11_end 12 = .ok (.if_icmp .le 5, 3) := by decide +kernel
theorem dX11_end_15 : decode cX11_end 15 = .ok (.iconst 0, 1) := by decide +kernel
theorem dX11_end_16 : decode cX11_end 16 = .ok (.ireturn, 1) := by decide +kernel
theorem dX11_end_17 : decode cX11_end 17 = .ok (.aload_n 0, 1) := by decide +kernel
theorem dX11_end_18 : decode cX11_end 18 = .ok (.getfield 10, 3) := by decide +kernel
theorem dX11_end_21 : decode cX11_end 21 = .ok (.iload_n 1, 1) := by decide +kernel
theorem dX11_end_22 : decode cX11_end 22 = .ok (.putfield 91, 3) := by decide +kernel
theorem dX11_end_25 : decode cX11_end 25 = .ok (.iconst 1, 1) := by decide +kernel
theorem dX11_end_26 : decode cX11_end 26 = .ok (.ireturn, 1) := by decide +kernel
def X_TH_end_15 (K : Int32 → xs_St → Prop) (u : xs_St) : Prop :=
  (((0 : Int32) = 0 ∨ (0 : Int32) = 1) ∧ K (0 : Int32) u)
set_option maxHeartbeats 4000000 in
set_option maxRecDepth 100000 in
theorem X_TH_end_15_w {K : Int32 → xs_St → Prop} (C : th_Cx p s m args meth c cX11_end RX11 2 (some .boolean) (dC, dI) (th_ty cs) (xE ad ak) A) (u : xs_St) (H : Heap) (locs : List Loc) (ls : Array Slot) (hf : X_TH_end_15 K u) (hw : th_wI (dC, dI) (wX cs ad q v v) A s.heap u H locs) (hl : lv_has ls 2 []) : W p l e (th_rm 0 0 0) s m args below meth c H locs 0 0 (MQ below (va_Qi K (th_Post (dC, dI) (wX cs ad q v v) A) A) args s 0 0 A) (F0 m 15 ls []) := by
  have hx := C.1
  have hb := C.2.1
  unfold X_TH_end_15 at hf
  refine lv_iconst (v := (0 : Int32)) hx hb dX11_end_15 (by decide) ?_
  exact th_zret C hw hf dX11_end_16
def X_TH_end (a1 : Int32) (u : xs_St) (K : Int32 → xs_St → Prop) : Prop :=
  ((a1 < 0 → X_TH_end_15 K u) ∧ (¬ a1 < 0 → ((a1 ≤ (xi u 101) → ∀ u_1 : xs_St, u_1 = xs_si u 101 a1 → (((1 : Int32) = 0 ∨ (1 : Int32) = 1) ∧ K (1 : Int32) u_1)) ∧ (¬ a1 ≤ (xi u 101) → X_TH_end_15 K u))))
set_option maxHeartbeats 4000000 in
set_option maxRecDepth 100000 in
theorem X_TH_end_c {l : Launch} {dC : Nat → ClassId} {dI : Nat → Nat → Nat} {cs : Nat → ClassId} {ad ak : Nat → Nat} {q v : Nat → Nat} {a1 : Int32} {u : xs_St} {K : Int32 → xs_St → Prop} (hf : X_TH_end a1 u K) : th_Ci l yX11_end cX11_end 2 (some .boolean) 0 0 0 (dC, dI) (th_ty cs) (xE ad ak) (wX cs ad q v v) [.ref (q 99), .int a1] u K := by
  refine th_ofi (by decide) (Nat.le_of_ble_eq_true rfl) (xE_ok ad ak) ?_
  intro p e s m below meth c A ls C hw hl
  have C : th_Cx p s m _ meth c cX11_end RX11 2 (some .boolean) (dC, dI) (th_ty cs) (xE ad ak) A := C
  have hl : lv_has ls 2 [(0, .ref (q 99)), (1, .int a1)] := hl
  generalize (List.toArray _ : Array Value) = args at C ⊢
  have hx := C.1
  have hb := C.2.1
  unfold X_TH_end at hf
  refine lv_iload_n hx hb dX11_end_0 rfl (lv_at hl 1 rfl) ?_
  refine lv_if_lt (tgt := 15) hx hb dX11_end_1 (by decide) (fun hc => ?_) (fun hc => ?_)
  · replace hf := hf.1 hc
    clear hc
    exact X_TH_end_15_w C  u _ _ _ hf hw (lv_sub hl [] rfl)
  · replace hf := hf.2 hc
    clear hc
    refine lv_iload_n hx hb dX11_end_4 rfl (lv_at hl 1 rfl) ?_
    refine lv_aload_n hx hb dX11_end_5 rfl (lv_at hl 0 rfl) ?_
    refine xg_0 C hw (C.2.2.2.2.1 _ hwF_X11_10) dX11_end_6 ?_
    refine xgn_101 C hw (va_Nw.use rfl (xN C hwG_X11_91)) dX11_end_9 ?_
    refine lv_icmp_le (tgt := 17) hx hb dX11_end_12 (by decide) (fun hc => ?_) (fun hc => ?_)
    · replace hf := hf.1 hc
      clear hc
      refine lv_aload_n hx hb dX11_end_17 rfl (lv_at hl 0 rfl) ?_
      refine xg_0 C hw (C.2.2.2.2.1 _ hwF_X11_10) dX11_end_18 ?_
      refine lv_iload_n hx hb dX11_end_21 rfl (lv_at hl 1 rfl) ?_
      refine xpn_101 C hw (va_Nw.use rfl (xN C hwG_X11_91)) dX11_end_22 (fun u_1 e9 H locs hw => ?_)
      replace hf := hf u_1 e9
      clear e9
      refine lv_iconst (v := (1 : Int32)) hx hb dX11_end_25 (by decide) ?_
      exact th_zret C hw hf dX11_end_26
    · replace hf := hf.2 hc
      clear hc
      exact X_TH_end_15_w C  u _ _ _ hf hw (lv_sub hl [] rfl)
/-! X_TH_event -/
theorem dX11_event_0 : decode cX11_event 0 = .ok (.iload_n 1, 1) := by decide +kernel
theorem dX11_event_1 : decode cX11_event 1 = .ok (.ifCond .lt 14, 3) := by decide +kernel
theorem dX11_event_4 : decode cX11_event 4 = .ok (.iload_n 1, 1) := by decide +kernel
theorem dX11_event_5 : decode cX11_event 5 = .ok (.aload_n 0, 1) := by decide +kernel
theorem dX11_event_6 : decode cX11_event 6 = .ok (.getfield 40, 3) := by decide +kernel
theorem dX11_event_9 : decode cX11_event 9 = .ok (.getfield 213, 3) := by decide +kernel
theorem dX11_event_12 : decode cX11_event 12 = .ok (.if_icmp .lt 5, 3) := by decide +kernel
theorem dX11_event_15 : decode cX11_event 15 = .ok (.iconst (-1), 1) := by decide +kernel
theorem dX11_event_16 : decode cX11_event 16 = .ok (.ireturn, 1) := by decide +kernel
theorem dX11_event_17 : decode cX11_event 17 = .ok (.iload_n 2, 1) := by decide +kernel
theorem dX11_event_18 : decode cX11_event 18 = .ok (.tableswitch 56 0 2 #[26, 36, 46], 26) := by decide +kernel
theorem dX11_event_44 : decode cX11_event 44 = .ok (.aload_n 0, 1) := by decide +kernel
theorem dX11_event_45 : decode cX11_event 45 = .ok (.getfield 40, 3) := by decide +kernel
theorem dX11_event_48 : decode cX11_event 48 = .ok (.getfield 216, 3) := by decide +kernel
theorem dX11_event_51 : decode cX11_event 51 = .ok (.iload_n 1, 1) := by decide +kernel
theorem dX11_event_52 : decode cX11_event 52 = .ok (.iaload, 1) := by decide +kernel
theorem dX11_event_53 : decode cX11_event 53 = .ok (.ireturn, 1) := by decide +kernel
theorem dX11_event_54 : decode cX11_event 54 = .ok (.aload_n 0, 1) := by decide +kernel
theorem dX11_event_55 : decode cX11_event 55 = .ok (.getfield 40, 3) := by decide +kernel
theorem dX11_event_58 : decode cX11_event 58 = .ok (.getfield 219, 3) := by decide +kernel
theorem dX11_event_61 : decode cX11_event 61 = .ok (.iload_n 1, 1) := by decide +kernel
theorem dX11_event_62 : decode cX11_event 62 = .ok (.iaload, 1) := by decide +kernel
theorem dX11_event_63 : decode cX11_event 63 = .ok (.ireturn, 1) := by decide +kernel
theorem dX11_event_64 : decode cX11_event 64 = .ok (.aload_n 0, 1) := by decide +kernel
theorem dX11_event_65 : decode cX11_event 65 = .ok (.getfield 40, 3) := by decide +kernel
theorem dX11_event_68 : decode cX11_event 68 = .ok (.getfield 222, 3) := by decide +kernel
theorem dX11_event_71 : decode cX11_event 71 = .ok (.iload_n 1, 1) := by decide +kernel
theorem dX11_event_72 : decode cX11_event 72 = .ok (.iaload, 1) := by decide +kernel
theorem dX11_event_73 : decode cX11_event 73 = .ok (.ireturn, 1) := by decide +kernel
theorem dX11_event_74 : decode cX11_event 74 = .ok (.iconst (-1), 1) := by decide +kernel
theorem dX11_event_75 : decode cX11_event 75 = .ok (.ireturn, 1) := by decide +kernel
def X_TH_event_15 (K : Int32 → xs_St → Prop) (u : xs_St) : Prop :=
  K (-1 : Int32) u
set_option maxHeartbeats 4000000 in
set_option maxRecDepth 100000 in
theorem X_TH_event_15_w {K : Int32 → xs_St → Prop} (C : th_Cx p s m args meth c cX11_event RX11 3 (some .int) (dC, dI) (th_ty cs) (xE ad ak) A) (u : xs_St) (H : Heap) (locs : List Loc) (ls : Array Slot) (hf : X_TH_event_15 K u) (hw : th_wI (dC, dI) (wX cs ad q v v) A s.heap u H locs) (hl : lv_has ls 3 []) : W p l e (th_rm 0 0 0) s m args below meth c H locs 0 0 (MQ below (va_Qi K (th_Post (dC, dI) (wX cs ad q v v) A) A) args s 0 0 A) (F0 m 15 ls []) := by
  have hx := C.1
  have hb := C.2.1
  unfold X_TH_event_15 at hf
  refine lv_iconst (v := (-1 : Int32)) hx hb dX11_event_15 (by decide) ?_
  exact th_iret C hw hf dX11_event_16
def X_TH_event (a1 : Int32) (a2 : Int32) (u : xs_St) (K : Int32 → xs_St → Prop) : Prop :=
  ((a1 < 0 → X_TH_event_15 K u) ∧ (¬ a1 < 0 → ((a1 < (xi u 708) → ((a2 = (0 : Int32) → (vp_in a1 48 ∧ ∀ y_1 : Int32, y_1 = xa u 705 (a1).toNatClampNeg → K y_1 u)) ∧ (a2 = (1 : Int32) → (vp_in a1 48 ∧ ∀ y_2 : Int32, y_2 = xa u 706 (a1).toNatClampNeg → K y_2 u)) ∧ (a2 = (2 : Int32) → (vp_in a1 48 ∧ ∀ y_3 : Int32, y_3 = xa u 707 (a1).toNatClampNeg → K y_3 u)) ∧ (¬ (a2 = (0 : Int32) ∨ a2 = (1 : Int32) ∨ a2 = (2 : Int32)) → K (-1 : Int32) u))) ∧ (¬ a1 < (xi u 708) → X_TH_event_15 K u))))
set_option maxHeartbeats 4000000 in
set_option maxRecDepth 100000 in
theorem X_TH_event_c {l : Launch} {dC : Nat → ClassId} {dI : Nat → Nat → Nat} {cs : Nat → ClassId} {ad ak : Nat → Nat} {q v : Nat → Nat} {a1 : Int32} {a2 : Int32} {u : xs_St} {K : Int32 → xs_St → Prop} (hf : X_TH_event a1 a2 u K) : th_Ci l yX11_event cX11_event 3 (some .int) 0 0 0 (dC, dI) (th_ty cs) (xE ad ak) (wX cs ad q v v) [.ref (q 99), .int a1, .int a2] u K := by
  refine th_ofi (by decide) (Nat.le_of_ble_eq_true rfl) (xE_ok ad ak) ?_
  intro p e s m below meth c A ls C hw hl
  have C : th_Cx p s m _ meth c cX11_event RX11 3 (some .int) (dC, dI) (th_ty cs) (xE ad ak) A := C
  have hl : lv_has ls 3 [(0, .ref (q 99)), (1, .int a1), (2, .int a2)] := hl
  generalize (List.toArray _ : Array Value) = args at C ⊢
  have hx := C.1
  have hb := C.2.1
  unfold X_TH_event at hf
  refine lv_iload_n hx hb dX11_event_0 rfl (lv_at hl 1 rfl) ?_
  refine lv_if_lt (tgt := 15) hx hb dX11_event_1 (by decide) (fun hc => ?_) (fun hc => ?_)
  · replace hf := hf.1 hc
    clear hc
    exact X_TH_event_15_w C  u _ _ _ hf hw (lv_sub hl [] rfl)
  · replace hf := hf.2 hc
    clear hc
    refine lv_iload_n hx hb dX11_event_4 rfl (lv_at hl 1 rfl) ?_
    refine lv_aload_n hx hb dX11_event_5 rfl (lv_at hl 0 rfl) ?_
    refine xg_4 C hw (C.2.2.2.2.1 _ hwF_X11_40) dX11_event_6 ?_
    refine xgn_708 C hw (va_Nw.use rfl (xN C hwG_X11_213)) dX11_event_9 ?_
    refine lv_icmp_lt (tgt := 17) hx hb dX11_event_12 (by decide) (fun hc => ?_) (fun hc => ?_)
    · replace hf := hf.1 hc
      clear hc
      refine lv_iload_n hx hb dX11_event_17 rfl (lv_at hl 2 rfl) ?_
      by_cases hc : a2 = (0 : Int32) ∨ a2 = (1 : Int32) ∨ a2 = (2 : Int32)
      · rcases hc with hc | hc | hc
        · replace hf := hf.1 hc
          refine lv_tableIn (tgt := 44) hx hb dX11_event_18 (by rw [hc]; decide) (by rw [hc]; decide) (by rw [hc]; rfl) (by decide) ?_
          refine lv_aload_n hx hb dX11_event_44 rfl (lv_at hl 0 rfl) ?_
          refine xg_4 C hw (C.2.2.2.2.1 _ hwF_X11_40) dX11_event_45 ?_
          refine xgn_705 C hw (va_Nw.use rfl (xN C hwG_X11_216)) dX11_event_48 ?_
          refine lv_iload_n hx hb dX11_event_51 rfl (lv_at hl 1 rfl) ?_
          refine yl_705 C hw hf.1 dX11_event_52 (fun y_1 e9 => ?_)
          replace hf := hf.2 y_1 e9
          clear e9
          exact th_iret C hw hf dX11_event_53
        · replace hf := hf.2.1 hc
          refine lv_tableIn (tgt := 54) hx hb dX11_event_18 (by rw [hc]; decide) (by rw [hc]; decide) (by rw [hc]; rfl) (by decide) ?_
          refine lv_aload_n hx hb dX11_event_54 rfl (lv_at hl 0 rfl) ?_
          refine xg_4 C hw (C.2.2.2.2.1 _ hwF_X11_40) dX11_event_55 ?_
          refine xgn_706 C hw (va_Nw.use rfl (xN C hwG_X11_219)) dX11_event_58 ?_
          refine lv_iload_n hx hb dX11_event_61 rfl (lv_at hl 1 rfl) ?_
          refine yl_706 C hw hf.1 dX11_event_62 (fun y_2 e9 => ?_)
          replace hf := hf.2 y_2 e9
          clear e9
          exact th_iret C hw hf dX11_event_63
        · replace hf := hf.2.2.1 hc
          refine lv_tableIn (tgt := 64) hx hb dX11_event_18 (by rw [hc]; decide) (by rw [hc]; decide) (by rw [hc]; rfl) (by decide) ?_
          refine lv_aload_n hx hb dX11_event_64 rfl (lv_at hl 0 rfl) ?_
          refine xg_4 C hw (C.2.2.2.2.1 _ hwF_X11_40) dX11_event_65 ?_
          refine xgn_707 C hw (va_Nw.use rfl (xN C hwG_X11_222)) dX11_event_68 ?_
          refine lv_iload_n hx hb dX11_event_71 rfl (lv_at hl 1 rfl) ?_
          refine yl_707 C hw hf.1 dX11_event_72 (fun y_3 e9 => ?_)
          replace hf := hf.2 y_3 e9
          clear e9
          exact th_iret C hw hf dX11_event_73
      · replace hf := hf.2.2.2 hc
        refine lv_tableOut (tgt := 74) hx hb dX11_event_18 (th_sw3 hc) (by decide) ?_
        refine lv_iconst (v := (-1 : Int32)) hx hb dX11_event_74 (by decide) ?_
        exact th_iret C hw hf dX11_event_75
    · replace hf := hf.2 hc
      clear hc
      exact X_TH_event_15_w C  u _ _ _ hf hw (lv_sub hl [] rfl)
/-! X_TH_fault -/
theorem dX11_fault_0 : decode cX11_fault 0 = .ok (.aload_n 0, 1) := by decide +kernel
theorem dX11_fault_1 : decode cX11_fault 1 = .ok (.getfield 19, 3) := by decide +kernel
theorem dX11_fault_4 : decode cX11_fault 4 = .ok (.getfield 113, 3) := by decide +kernel
theorem dX11_fault_7 : decode cX11_fault 7 = .ok (.ireturn, 1) := by decide +kernel
def X_TH_fault (u : xs_St) (K : Int32 → xs_St → Prop) : Prop :=
  K (xi u 212) u
set_option maxHeartbeats 4000000 in
set_option maxRecDepth 100000 in
theorem X_TH_fault_c {l : Launch} {dC : Nat → ClassId} {dI : Nat → Nat → Nat} {cs : Nat → ClassId} {ad ak : Nat → Nat} {q v : Nat → Nat} {u : xs_St} {K : Int32 → xs_St → Prop} (hf : X_TH_fault u K) : th_Ci l yX11_fault cX11_fault 1 (some .int) 0 0 0 (dC, dI) (th_ty cs) (xE ad ak) (wX cs ad q v v) [.ref (q 99)] u K := by
  refine th_ofi (by decide) (Nat.le_of_ble_eq_true rfl) (xE_ok ad ak) ?_
  intro p e s m below meth c A ls C hw hl
  have C : th_Cx p s m _ meth c cX11_fault RX11 1 (some .int) (dC, dI) (th_ty cs) (xE ad ak) A := C
  have hl : lv_has ls 1 [(0, .ref (q 99))] := hl
  generalize (List.toArray _ : Array Value) = args at C ⊢
  have hx := C.1
  have hb := C.2.1
  unfold X_TH_fault at hf
  refine lv_aload_n hx hb dX11_fault_0 rfl (lv_at hl 0 rfl) ?_
  refine xg_1 C hw (C.2.2.2.2.1 _ hwF_X11_19) dX11_fault_1 ?_
  refine xgn_212 C hw (va_Nw.use rfl (xN C hwG_X11_113)) dX11_fault_4 ?_
  exact th_iret C hw hf dX11_fault_7
/-! X_TH_gauge -/
theorem dX11_gauge_0 : decode cX11_gauge 0 = .ok (.iload_n 1, 1) := by decide +kernel
theorem dX11_gauge_1 : decode cX11_gauge 1 = .ok (.ifCond .lt 20, 3) := by decide +kernel
theorem dX11_gauge_4 : decode cX11_gauge 4 = .ok (.iload_n 1, 1) := by decide +kernel
theorem dX11_gauge_5 : decode cX11_gauge 5 = .ok (.aload_n 0, 1) := by decide +kernel
theorem dX11_gauge_6 : decode cX11_gauge 6 = .ok (.getfield 62, 3) := by decide +kernel
theorem dX11_gauge_9 : decode cX11_gauge 9 = .ok (.if_icmp .ge 12, 3) := by decide +kernel
theorem dX11_gauge_12 : decode cX11_gauge 12 = .ok (.aload_n 0, 1) := by decide +kernel
theorem dX11_gauge_13 : decode cX11_gauge 13 = .ok (.getfield 58, 3) := by decide +kernel
theorem dX11_gauge_16 : decode cX11_gauge 16 = .ok (.iload_n 1, 1) := by decide +kernel
theorem dX11_gauge_17 : decode cX11_gauge 17 = .ok (.iaload, 1) := by decide +kernel
theorem dX11_gauge_18 : decode cX11_gauge 18 = .ok (.goto 4, 3) := by decide +kernel
theorem dX11_gauge_21 : decode cX11_gauge 21 = .ok (.iconst (-1), 1) := by decide +kernel
theorem dX11_gauge_22 : decode cX11_gauge 22 = .ok (.ireturn, 1) := by decide +kernel
def X_TH_gauge_22 (K : Int32 → xs_St → Prop) (z0 : Int32) (u : xs_St) : Prop :=
  K z0 u
set_option maxHeartbeats 4000000 in
set_option maxRecDepth 100000 in
theorem X_TH_gauge_22_w {K : Int32 → xs_St → Prop} (C : th_Cx p s m args meth c cX11_gauge RX11 2 (some .int) (dC, dI) (th_ty cs) (xE ad ak) A) (z0 : Int32) (u : xs_St) (H : Heap) (locs : List Loc) (ls : Array Slot) (hf : X_TH_gauge_22 K z0 u) (hw : th_wI (dC, dI) (wX cs ad q v v) A s.heap u H locs) (hl : lv_has ls 2 []) : W p l e (th_rm 0 0 0) s m args below meth c H locs 0 0 (MQ below (va_Qi K (th_Post (dC, dI) (wX cs ad q v v) A) A) args s 0 0 A) (F0 m 22 ls [.int z0]) := by
  have hx := C.1
  have hb := C.2.1
  unfold X_TH_gauge_22 at hf
  exact th_iret C hw hf dX11_gauge_22
def X_TH_gauge_21 (K : Int32 → xs_St → Prop) (u : xs_St) : Prop :=
  X_TH_gauge_22 K (-1 : Int32) u
set_option maxHeartbeats 4000000 in
set_option maxRecDepth 100000 in
theorem X_TH_gauge_21_w {K : Int32 → xs_St → Prop} (C : th_Cx p s m args meth c cX11_gauge RX11 2 (some .int) (dC, dI) (th_ty cs) (xE ad ak) A) (u : xs_St) (H : Heap) (locs : List Loc) (ls : Array Slot) (hf : X_TH_gauge_21 K u) (hw : th_wI (dC, dI) (wX cs ad q v v) A s.heap u H locs) (hl : lv_has ls 2 []) : W p l e (th_rm 0 0 0) s m args below meth c H locs 0 0 (MQ below (va_Qi K (th_Post (dC, dI) (wX cs ad q v v) A) A) args s 0 0 A) (F0 m 21 ls []) := by
  have hx := C.1
  have hb := C.2.1
  unfold X_TH_gauge_21 at hf
  refine lv_iconst (v := (-1 : Int32)) hx hb dX11_gauge_21 (by decide) ?_
  exact X_TH_gauge_22_w C (-1 : Int32) u _ _ _ hf hw (lv_sub hl [] rfl)
def X_TH_gauge (a1 : Int32) (u : xs_St) (K : Int32 → xs_St → Prop) : Prop :=
  ((a1 < 0 → X_TH_gauge_21 K u) ∧ (¬ a1 < 0 → (((xi u 8) ≤ a1 → X_TH_gauge_21 K u) ∧ (¬ (xi u 8) ≤ a1 → (vp_in a1 48 ∧ ∀ y_1 : Int32, y_1 = xa u 7 (a1).toNatClampNeg → X_TH_gauge_22 K y_1 u)))))
set_option maxHeartbeats 4000000 in
set_option maxRecDepth 100000 in
theorem X_TH_gauge_c {l : Launch} {dC : Nat → ClassId} {dI : Nat → Nat → Nat} {cs : Nat → ClassId} {ad ak : Nat → Nat} {q v : Nat → Nat} {a1 : Int32} {u : xs_St} {K : Int32 → xs_St → Prop} (hf : X_TH_gauge a1 u K) : th_Ci l yX11_gauge cX11_gauge 2 (some .int) 0 0 0 (dC, dI) (th_ty cs) (xE ad ak) (wX cs ad q v v) [.ref (q 99), .int a1] u K := by
  refine th_ofi (by decide) (Nat.le_of_ble_eq_true rfl) (xE_ok ad ak) ?_
  intro p e s m below meth c A ls C hw hl
  have C : th_Cx p s m _ meth c cX11_gauge RX11 2 (some .int) (dC, dI) (th_ty cs) (xE ad ak) A := C
  have hl : lv_has ls 2 [(0, .ref (q 99)), (1, .int a1)] := hl
  generalize (List.toArray _ : Array Value) = args at C ⊢
  have hx := C.1
  have hb := C.2.1
  unfold X_TH_gauge at hf
  refine lv_iload_n hx hb dX11_gauge_0 rfl (lv_at hl 1 rfl) ?_
  refine lv_if_lt (tgt := 21) hx hb dX11_gauge_1 (by decide) (fun hc => ?_) (fun hc => ?_)
  · replace hf := hf.1 hc
    clear hc
    exact X_TH_gauge_21_w C  u _ _ _ hf hw (lv_sub hl [] rfl)
  · replace hf := hf.2 hc
    clear hc
    refine lv_iload_n hx hb dX11_gauge_4 rfl (lv_at hl 1 rfl) ?_
    refine lv_aload_n hx hb dX11_gauge_5 rfl (lv_at hl 0 rfl) ?_
    refine xg_8 C hw (C.2.2.2.2.1 _ hwF_X11_62) dX11_gauge_6 ?_
    refine lv_icmp_ge (tgt := 21) hx hb dX11_gauge_9 (by decide) (fun hc => ?_) (fun hc => ?_)
    · replace hf := hf.1 hc
      clear hc
      exact X_TH_gauge_21_w C  u _ _ _ hf hw (lv_sub hl [] rfl)
    · replace hf := hf.2 hc
      clear hc
      refine lv_aload_n hx hb dX11_gauge_12 rfl (lv_at hl 0 rfl) ?_
      refine xg_7 C hw (C.2.2.2.2.1 _ hwF_X11_58) dX11_gauge_13 ?_
      refine lv_iload_n hx hb dX11_gauge_16 rfl (lv_at hl 1 rfl) ?_
      refine yl_7 C hw hf.1 dX11_gauge_17 (fun y_1 e9 => ?_)
      replace hf := hf.2 y_1 e9
      clear e9
      refine lv_goto (tgt := 22) hx hb dX11_gauge_18 (by decide) ?_
      exact X_TH_gauge_22_w C y_1 u _ _ _ hf hw (lv_sub hl [] rfl)
/-! X_TH_next -/
theorem dX11_next_0 : decode cX11_next 0 = .ok (.iload_n 1, 1) := by decide +kernel
theorem dX11_next_1 : decode cX11_next 1 = .ok (.ifCond .lt 15, 3) := by decide +kernel
theorem dX11_next_4 : decode cX11_next 4 = .ok (.iload_n 1, 1) := by decide +kernel
theorem dX11_next_5 : decode cX11_next 5 = .ok (.sipush 999, 3) := by decide +kernel
theorem dX11_next_8 : decode cX11_next 8 = .ok (.aload_n 0, 1) := by decide +kernel
theorem dX11_next_9 : decode cX11_next 9 = .ok (.getfield 80, 3) := by decide +kernel
theorem dX11_next_12 : decode cX11_next 12 = .ok (.isub, 1) := by decide +kernel
theorem dX11_next_13 : decode cX11_next 13 = .ok (.if_icmp .le 5, 3) := by decide +kernel
theorem dX11_next_16 : decode cX11_next 16 = .ok (.iconst (-1), 1) := by decide +kernel
theorem dX11_next_17 : decode cX11_next 17 = .ok (.ireturn, 1) := by decide +kernel
theorem dX11_next_18 : decode cX11_next 18 = .ok (.aload_n 0, 1) := by decide +kernel
theorem dX11_next_19 : decode cX11_next 19 = .ok (.dup, 1) := by decide +kernel
theorem dX11_next_20 : decode cX11_next 20 = .ok (.getfield 80, 3) := by decide +kernel
theorem dX11_next_23 : decode cX11_next 23 = .ok (.iload_n 1, 1) := by decide +kernel
theorem dX11_next_24 : decode cX11_next 24 = .ok (.iadd, 1) := by decide +kernel
theorem dX11_next_25 : decode cX11_next 25 = .ok (.putfield 80, 3) := by decide +kernel
theorem dX11_next_28 : decode cX11_next 28 = .ok (.aload_n 0, 1) := by decide +kernel
theorem dX11_next_29 : decode cX11_next 29 = .ok (.getfield 80, 3) := by decide +kernel
theorem dX11_next_32 : decode cX11_next 32 = .ok (.ireturn, 1) := by decide +kernel
def X_TH_next_16 (K : Int32 → xs_St → Prop) (u : xs_St) : Prop :=
  K (-1 : Int32) u
set_option maxHeartbeats 4000000 in
set_option maxRecDepth 100000 in
theorem X_TH_next_16_w {K : Int32 → xs_St → Prop} (C : th_Cx p s m args meth c cX11_next RX11 2 (some .int) (dC, dI) (th_ty cs) (xE ad ak) A) (u : xs_St) (H : Heap) (locs : List Loc) (ls : Array Slot) (hf : X_TH_next_16 K u) (hw : th_wI (dC, dI) (wX cs ad q v v) A s.heap u H locs) (hl : lv_has ls 2 []) : W p l e (th_rm 0 0 0) s m args below meth c H locs 0 0 (MQ below (va_Qi K (th_Post (dC, dI) (wX cs ad q v v) A) A) args s 0 0 A) (F0 m 16 ls []) := by
  have hx := C.1
  have hb := C.2.1
  unfold X_TH_next_16 at hf
  refine lv_iconst (v := (-1 : Int32)) hx hb dX11_next_16 (by decide) ?_
  exact th_iret C hw hf dX11_next_17
def X_TH_next (a1 : Int32) (u : xs_St) (K : Int32 → xs_St → Prop) : Prop :=
  ((a1 < 0 → X_TH_next_16 K u) ∧ (¬ a1 < 0 → ((a1 ≤ ((999 : Int32) - (xi u 12)) → ∀ u_1 : xs_St, u_1 = xs_si u 12 ((xi u 12) + a1) → K (xi u_1 12) u_1) ∧ (¬ a1 ≤ ((999 : Int32) - (xi u 12)) → X_TH_next_16 K u))))
set_option maxHeartbeats 4000000 in
set_option maxRecDepth 100000 in
theorem X_TH_next_c {l : Launch} {dC : Nat → ClassId} {dI : Nat → Nat → Nat} {cs : Nat → ClassId} {ad ak : Nat → Nat} {q v : Nat → Nat} {a1 : Int32} {u : xs_St} {K : Int32 → xs_St → Prop} (hf : X_TH_next a1 u K) : th_Ci l yX11_next cX11_next 2 (some .int) 0 0 0 (dC, dI) (th_ty cs) (xE ad ak) (wX cs ad q v v) [.ref (q 99), .int a1] u K := by
  refine th_ofi (by decide) (Nat.le_of_ble_eq_true rfl) (xE_ok ad ak) ?_
  intro p e s m below meth c A ls C hw hl
  have C : th_Cx p s m _ meth c cX11_next RX11 2 (some .int) (dC, dI) (th_ty cs) (xE ad ak) A := C
  have hl : lv_has ls 2 [(0, .ref (q 99)), (1, .int a1)] := hl
  generalize (List.toArray _ : Array Value) = args at C ⊢
  have hx := C.1
  have hb := C.2.1
  unfold X_TH_next at hf
  refine lv_iload_n hx hb dX11_next_0 rfl (lv_at hl 1 rfl) ?_
  refine lv_if_lt (tgt := 16) hx hb dX11_next_1 (by decide) (fun hc => ?_) (fun hc => ?_)
  · replace hf := hf.1 hc
    clear hc
    exact X_TH_next_16_w C  u _ _ _ hf hw (lv_sub hl [] rfl)
  · replace hf := hf.2 hc
    clear hc
    refine lv_iload_n hx hb dX11_next_4 rfl (lv_at hl 1 rfl) ?_
    refine lv_sipush (v := (999 : Int32)) hx hb dX11_next_5 (by decide) ?_
    refine lv_aload_n hx hb dX11_next_8 rfl (lv_at hl 0 rfl) ?_
    refine xg_12 C hw (C.2.2.2.2.1 _ hwF_X11_80) dX11_next_9 ?_
    refine lv_isub hx hb dX11_next_12 ?_
    refine lv_icmp_le (tgt := 18) hx hb dX11_next_13 (by decide) (fun hc => ?_) (fun hc => ?_)
    · replace hf := hf.1 hc
      clear hc
      refine lv_aload_n hx hb dX11_next_18 rfl (lv_at hl 0 rfl) ?_
      refine lv_dup hx hb dX11_next_19 rfl ?_
      refine xg_12 C hw (C.2.2.2.2.1 _ hwF_X11_80) dX11_next_20 ?_
      refine lv_iload_n hx hb dX11_next_23 rfl (lv_at hl 1 rfl) ?_
      refine lv_iadd hx hb dX11_next_24 ?_
      refine xp_12 C hw (C.2.2.2.2.1 _ hwF_X11_80) dX11_next_25 (fun u_1 e9 H locs hw => ?_)
      replace hf := hf u_1 e9
      clear e9
      refine lv_aload_n hx hb dX11_next_28 rfl (lv_at hl 0 rfl) ?_
      refine xg_12 C hw (C.2.2.2.2.1 _ hwF_X11_80) dX11_next_29 ?_
      exact th_iret C hw hf dX11_next_32
    · replace hf := hf.2 hc
      clear hc
      exact X_TH_next_16_w C  u _ _ _ hf hw (lv_sub hl [] rfl)
/-! X_TH_paired -/
theorem dX11_paired_0 : decode cX11_paired 0 = .ok (.iload_n 1, 1) := by decide +kernel
theorem dX11_paired_1 : decode cX11_paired 1 = .ok (.ifCond .lt 26, 3) := by decide +kernel
theorem dX11_paired_4 : decode cX11_paired 4 = .ok (.iload_n 1, 1) := by decide +kernel
theorem dX11_paired_5 : decode cX11_paired 5 = .ok (.aload_n 0, 1) := by decide +kernel
theorem dX11_paired_6 : decode cX11_paired 6 = .ok (.getfield 54, 3) := by decide +kernel
theorem dX11_paired_9 : decode cX11_paired 9 = .ok (.getfield 240, 3) := by decide +kernel
theorem dX11_paired_12 : decode cX11_paired 12 = .ok (.if_icmp .ge 15, 3) := by decide +kernel
theorem dX11_paired_15 : decode cX11_paired 15 = .ok (.aload_n 0, 1) := by decide +kernel
theorem dX11_paired_16 : decode cX11_paired 16 = .ok (.getfield 54, 3) := by decide +kernel
theorem dX11_paired_19 : decode cX11_paired 19 = .ok (.getfield 243, 3) := by decide +kernel
theorem dX11_paired_22 : decode cX11_paired 22 = .ok (.iload_n 1, 1) := by decide +kernel
theorem dX11_paired_23 : decode cX11_paired 23 = .ok (.iaload, 1) := by decide +kernel
theorem dX11_paired_24 : decode cX11_paired 24 = .ok (.goto 4, 3) := by decide +kernel
theorem dX11_paired_27 : decode cX11_paired 27 = .ok (.iconst (-1), 1) := by decide +kernel
theorem dX11_paired_28 : decode cX11_paired 28 = .ok (.ireturn, 1) := by decide +kernel
def X_TH_paired_28 (K : Int32 → xs_St → Prop) (z0 : Int32) (u : xs_St) : Prop :=
  K z0 u
set_option maxHeartbeats 4000000 in
set_option maxRecDepth 100000 in
theorem X_TH_paired_28_w {K : Int32 → xs_St → Prop} (C : th_Cx p s m args meth c cX11_paired RX11 2 (some .int) (dC, dI) (th_ty cs) (xE ad ak) A) (z0 : Int32) (u : xs_St) (H : Heap) (locs : List Loc) (ls : Array Slot) (hf : X_TH_paired_28 K z0 u) (hw : th_wI (dC, dI) (wX cs ad q v v) A s.heap u H locs) (hl : lv_has ls 2 []) : W p l e (th_rm 0 0 0) s m args below meth c H locs 0 0 (MQ below (va_Qi K (th_Post (dC, dI) (wX cs ad q v v) A) A) args s 0 0 A) (F0 m 28 ls [.int z0]) := by
  have hx := C.1
  have hb := C.2.1
  unfold X_TH_paired_28 at hf
  exact th_iret C hw hf dX11_paired_28
def X_TH_paired_27 (K : Int32 → xs_St → Prop) (u : xs_St) : Prop :=
  X_TH_paired_28 K (-1 : Int32) u
set_option maxHeartbeats 4000000 in
set_option maxRecDepth 100000 in
theorem X_TH_paired_27_w {K : Int32 → xs_St → Prop} (C : th_Cx p s m args meth c cX11_paired RX11 2 (some .int) (dC, dI) (th_ty cs) (xE ad ak) A) (u : xs_St) (H : Heap) (locs : List Loc) (ls : Array Slot) (hf : X_TH_paired_27 K u) (hw : th_wI (dC, dI) (wX cs ad q v v) A s.heap u H locs) (hl : lv_has ls 2 []) : W p l e (th_rm 0 0 0) s m args below meth c H locs 0 0 (MQ below (va_Qi K (th_Post (dC, dI) (wX cs ad q v v) A) A) args s 0 0 A) (F0 m 27 ls []) := by
  have hx := C.1
  have hb := C.2.1
  unfold X_TH_paired_27 at hf
  refine lv_iconst (v := (-1 : Int32)) hx hb dX11_paired_27 (by decide) ?_
  exact X_TH_paired_28_w C (-1 : Int32) u _ _ _ hf hw (lv_sub hl [] rfl)
def X_TH_paired (a1 : Int32) (u : xs_St) (K : Int32 → xs_St → Prop) : Prop :=
  ((a1 < 0 → X_TH_paired_27 K u) ∧ (¬ a1 < 0 → (((xi u 901) ≤ a1 → X_TH_paired_27 K u) ∧ (¬ (xi u 901) ≤ a1 → (vp_in a1 48 ∧ ∀ y_1 : Int32, y_1 = xa u 900 (a1).toNatClampNeg → X_TH_paired_28 K y_1 u)))))
set_option maxHeartbeats 4000000 in
set_option maxRecDepth 100000 in
theorem X_TH_paired_c {l : Launch} {dC : Nat → ClassId} {dI : Nat → Nat → Nat} {cs : Nat → ClassId} {ad ak : Nat → Nat} {q v : Nat → Nat} {a1 : Int32} {u : xs_St} {K : Int32 → xs_St → Prop} (hf : X_TH_paired a1 u K) : th_Ci l yX11_paired cX11_paired 2 (some .int) 0 0 0 (dC, dI) (th_ty cs) (xE ad ak) (wX cs ad q v v) [.ref (q 99), .int a1] u K := by
  refine th_ofi (by decide) (Nat.le_of_ble_eq_true rfl) (xE_ok ad ak) ?_
  intro p e s m below meth c A ls C hw hl
  have C : th_Cx p s m _ meth c cX11_paired RX11 2 (some .int) (dC, dI) (th_ty cs) (xE ad ak) A := C
  have hl : lv_has ls 2 [(0, .ref (q 99)), (1, .int a1)] := hl
  generalize (List.toArray _ : Array Value) = args at C ⊢
  have hx := C.1
  have hb := C.2.1
  unfold X_TH_paired at hf
  refine lv_iload_n hx hb dX11_paired_0 rfl (lv_at hl 1 rfl) ?_
  refine lv_if_lt (tgt := 27) hx hb dX11_paired_1 (by decide) (fun hc => ?_) (fun hc => ?_)
  · replace hf := hf.1 hc
    clear hc
    exact X_TH_paired_27_w C  u _ _ _ hf hw (lv_sub hl [] rfl)
  · replace hf := hf.2 hc
    clear hc
    refine lv_iload_n hx hb dX11_paired_4 rfl (lv_at hl 1 rfl) ?_
    refine lv_aload_n hx hb dX11_paired_5 rfl (lv_at hl 0 rfl) ?_
    refine xg_6 C hw (C.2.2.2.2.1 _ hwF_X11_54) dX11_paired_6 ?_
    refine xgn_901 C hw (va_Nw.use rfl (xN C hwG_X11_240)) dX11_paired_9 ?_
    refine lv_icmp_ge (tgt := 27) hx hb dX11_paired_12 (by decide) (fun hc => ?_) (fun hc => ?_)
    · replace hf := hf.1 hc
      clear hc
      exact X_TH_paired_27_w C  u _ _ _ hf hw (lv_sub hl [] rfl)
    · replace hf := hf.2 hc
      clear hc
      refine lv_aload_n hx hb dX11_paired_15 rfl (lv_at hl 0 rfl) ?_
      refine xg_6 C hw (C.2.2.2.2.1 _ hwF_X11_54) dX11_paired_16 ?_
      refine xgn_900 C hw (va_Nw.use rfl (xN C hwG_X11_243)) dX11_paired_19 ?_
      refine lv_iload_n hx hb dX11_paired_22 rfl (lv_at hl 1 rfl) ?_
      refine yl_900 C hw hf.1 dX11_paired_23 (fun y_1 e9 => ?_)
      replace hf := hf.2 y_1 e9
      clear e9
      refine lv_goto (tgt := 28) hx hb dX11_paired_24 (by decide) ?_
      exact X_TH_paired_28_w C y_1 u _ _ _ hf hw (lv_sub hl [] rfl)
/-! X_TH_walked -/
theorem dX11_walked_0 : decode cX11_walked 0 = .ok (.iload_n 1, 1) := by decide +kernel
theorem dX11_walked_1 : decode cX11_walked 1 = .ok (.ifCond .lt 26, 3) := by decide +kernel
theorem dX11_walked_4 : decode cX11_walked 4 = .ok (.iload_n 1, 1) := by decide +kernel
theorem dX11_walked_5 : decode cX11_walked 5 = .ok (.aload_n 0, 1) := by decide +kernel
theorem dX11_walked_6 : decode cX11_walked 6 = .ok (.getfield 47, 3) := by decide +kernel
theorem dX11_walked_9 : decode cX11_walked 9 = .ok (.getfield 229, 3) := by decide +kernel
theorem dX11_walked_12 : decode cX11_walked 12 = .ok (.if_icmp .ge 15, 3) := by decide +kernel
theorem dX11_walked_15 : decode cX11_walked 15 = .ok (.aload_n 0, 1) := by decide +kernel
theorem dX11_walked_16 : decode cX11_walked 16 = .ok (.getfield 47, 3) := by decide +kernel
theorem dX11_walked_19 : decode cX11_walked 19 = .ok (.getfield 230, 3) := by decide +kernel
theorem dX11_walked_22 : decode cX11_walked 22 = .ok (.iload_n 1, 1) := by decide +kernel
theorem dX11_walked_23 : decode cX11_walked 23 = .ok (.iaload, 1) := by decide +kernel
theorem dX11_walked_24 : decode cX11_walked 24 = .ok (.goto 4, 3) := by decide +kernel
theorem dX11_walked_27 : decode cX11_walked 27 = .ok (.iconst (-1), 1) := by decide +kernel
theorem dX11_walked_28 : decode cX11_walked 28 = .ok (.ireturn, 1) := by decide +kernel
def X_TH_walked_28 (K : Int32 → xs_St → Prop) (z0 : Int32) (u : xs_St) : Prop :=
  K z0 u
set_option maxHeartbeats 4000000 in
set_option maxRecDepth 100000 in
theorem X_TH_walked_28_w {K : Int32 → xs_St → Prop} (C : th_Cx p s m args meth c cX11_walked RX11 2 (some .int) (dC, dI) (th_ty cs) (xE ad ak) A) (z0 : Int32) (u : xs_St) (H : Heap) (locs : List Loc) (ls : Array Slot) (hf : X_TH_walked_28 K z0 u) (hw : th_wI (dC, dI) (wX cs ad q v v) A s.heap u H locs) (hl : lv_has ls 2 []) : W p l e (th_rm 0 0 0) s m args below meth c H locs 0 0 (MQ below (va_Qi K (th_Post (dC, dI) (wX cs ad q v v) A) A) args s 0 0 A) (F0 m 28 ls [.int z0]) := by
  have hx := C.1
  have hb := C.2.1
  unfold X_TH_walked_28 at hf
  exact th_iret C hw hf dX11_walked_28
def X_TH_walked_27 (K : Int32 → xs_St → Prop) (u : xs_St) : Prop :=
  X_TH_walked_28 K (-1 : Int32) u
set_option maxHeartbeats 4000000 in
set_option maxRecDepth 100000 in
theorem X_TH_walked_27_w {K : Int32 → xs_St → Prop} (C : th_Cx p s m args meth c cX11_walked RX11 2 (some .int) (dC, dI) (th_ty cs) (xE ad ak) A) (u : xs_St) (H : Heap) (locs : List Loc) (ls : Array Slot) (hf : X_TH_walked_27 K u) (hw : th_wI (dC, dI) (wX cs ad q v v) A s.heap u H locs) (hl : lv_has ls 2 []) : W p l e (th_rm 0 0 0) s m args below meth c H locs 0 0 (MQ below (va_Qi K (th_Post (dC, dI) (wX cs ad q v v) A) A) args s 0 0 A) (F0 m 27 ls []) := by
  have hx := C.1
  have hb := C.2.1
  unfold X_TH_walked_27 at hf
  refine lv_iconst (v := (-1 : Int32)) hx hb dX11_walked_27 (by decide) ?_
  exact X_TH_walked_28_w C (-1 : Int32) u _ _ _ hf hw (lv_sub hl [] rfl)
def X_TH_walked (a1 : Int32) (u : xs_St) (K : Int32 → xs_St → Prop) : Prop :=
  ((a1 < 0 → X_TH_walked_27 K u) ∧ (¬ a1 < 0 → (((xi u 801) ≤ a1 → X_TH_walked_27 K u) ∧ (¬ (xi u 801) ≤ a1 → (vp_in a1 40 ∧ ∀ y_1 : Int32, y_1 = xa u 800 (a1).toNatClampNeg → X_TH_walked_28 K y_1 u)))))
set_option maxHeartbeats 4000000 in
set_option maxRecDepth 100000 in
theorem X_TH_walked_c {l : Launch} {dC : Nat → ClassId} {dI : Nat → Nat → Nat} {cs : Nat → ClassId} {ad ak : Nat → Nat} {q v : Nat → Nat} {a1 : Int32} {u : xs_St} {K : Int32 → xs_St → Prop} (hf : X_TH_walked a1 u K) : th_Ci l yX11_walked cX11_walked 2 (some .int) 0 0 0 (dC, dI) (th_ty cs) (xE ad ak) (wX cs ad q v v) [.ref (q 99), .int a1] u K := by
  refine th_ofi (by decide) (Nat.le_of_ble_eq_true rfl) (xE_ok ad ak) ?_
  intro p e s m below meth c A ls C hw hl
  have C : th_Cx p s m _ meth c cX11_walked RX11 2 (some .int) (dC, dI) (th_ty cs) (xE ad ak) A := C
  have hl : lv_has ls 2 [(0, .ref (q 99)), (1, .int a1)] := hl
  generalize (List.toArray _ : Array Value) = args at C ⊢
  have hx := C.1
  have hb := C.2.1
  unfold X_TH_walked at hf
  refine lv_iload_n hx hb dX11_walked_0 rfl (lv_at hl 1 rfl) ?_
  refine lv_if_lt (tgt := 27) hx hb dX11_walked_1 (by decide) (fun hc => ?_) (fun hc => ?_)
  · replace hf := hf.1 hc
    clear hc
    exact X_TH_walked_27_w C  u _ _ _ hf hw (lv_sub hl [] rfl)
  · replace hf := hf.2 hc
    clear hc
    refine lv_iload_n hx hb dX11_walked_4 rfl (lv_at hl 1 rfl) ?_
    refine lv_aload_n hx hb dX11_walked_5 rfl (lv_at hl 0 rfl) ?_
    refine xg_5 C hw (C.2.2.2.2.1 _ hwF_X11_47) dX11_walked_6 ?_
    refine xgn_801 C hw (va_Nw.use rfl (xN C hwG_X11_229)) dX11_walked_9 ?_
    refine lv_icmp_ge (tgt := 27) hx hb dX11_walked_12 (by decide) (fun hc => ?_) (fun hc => ?_)
    · replace hf := hf.1 hc
      clear hc
      exact X_TH_walked_27_w C  u _ _ _ hf hw (lv_sub hl [] rfl)
    · replace hf := hf.2 hc
      clear hc
      refine lv_aload_n hx hb dX11_walked_15 rfl (lv_at hl 0 rfl) ?_
      refine xg_5 C hw (C.2.2.2.2.1 _ hwF_X11_47) dX11_walked_16 ?_
      refine xgn_800 C hw (va_Nw.use rfl (xN C hwG_X11_230)) dX11_walked_19 ?_
      refine lv_iload_n hx hb dX11_walked_22 rfl (lv_at hl 1 rfl) ?_
      refine yl_800 C hw hf.1 dX11_walked_23 (fun y_1 e9 => ?_)
      replace hf := hf.2 y_1 e9
      clear e9
      refine lv_goto (tgt := 28) hx hb dX11_walked_24 (by decide) ?_
      exact X_TH_walked_28_w C y_1 u _ _ _ hf hw (lv_sub hl [] rfl)
end

section
variable {p : Program} {l : Launch} {e : Env} {s : State} {m : MethodId} {args : Array Value} {below : List Frame} {meth : Method} {c : Code} {dC : Nat → ClassId} {dI : Nat → Nat → Nat} {cs : Nat → ClassId} {ad ak : Nat → Nat} {q v : Nat → Nat} {A : Nat → Prop}
/-! X_Feel_slipAll_d -/
theorem dX2_slipAll_0 : decode cX2_slipAll 0 = .ok (.iconst 0, 1) := by decide +kernel
theorem dX2_slipAll_1 : decode cX2_slipAll 1 = .ok (.istore_n 2, 1) := by decide +kernel
theorem dX2_slipAll_2 : decode cX2_slipAll 2 = .ok (.iconst 0, 1) := by decide +kernel
theorem dX2_slipAll_3 : decode cX2_slipAll 3 = .ok (.istore_n 3, 1) := by decide +kernel
theorem dX2_slipAll_4 : decode cX2_slipAll 4 = .ok (.iload_n 3, 1) := by decide +kernel
theorem dX2_slipAll_5 : decode cX2_slipAll 5 = .ok (.ldc 58, 2) := by decide +kernel
theorem dX2_slipAll_7 : decode cX2_slipAll 7 = .ok (.if_icmp .ge 65, 3) := by decide +kernel
theorem dX2_slipAll_10 : decode cX2_slipAll 10 = .ok (.iload_n 2, 1) := by decide +kernel
theorem dX2_slipAll_11 : decode cX2_slipAll 11 = .ok (.iconst 1, 1) := by decide +kernel
theorem dX2_slipAll_12 : decode cX2_slipAll 12 = .ok (.iadd, 1) := by decide +kernel
theorem dX2_slipAll_13 : decode cX2_slipAll 13 = .ok (.aload_n 0, 1) := by decide +kernel
theorem dX2_slipAll_14 : decode cX2_slipAll 14 = .ok (.getfield 35, 3) := by decide +kernel
theorem dX2_slipAll_17 : decode cX2_slipAll 17 = .ok (.arraylength, 1) := by decide +kernel
theorem dX2_slipAll_18 : decode cX2_slipAll 18 = .ok (.if_icmp .ge 54, 3) := by decide +kernel
theorem dX2_slipAll_21 : decode cX2_slipAll 21 = .ok (.aload_n 1, 1) := by decide +kernel
theorem dX2_slipAll_22 : decode cX2_slipAll 22 = .ok (.iload_n 2, 1) := by decide +kernel
theorem dX2_slipAll_23 : decode cX2_slipAll 23 = .ok (.aload_n 0, 1) := by decide +kernel
theorem dX2_slipAll_24 : decode cX2_slipAll 24 = .ok (.getfield 35, 3) := by decide +kernel
theorem dX2_slipAll_27 : decode cX2_slipAll 27 = .ok (.invokevirtual 59, 3) := by decide +kernel
theorem dX2_slipAll_30 : decode cX2_slipAll 30 = .ok (.ifCond .ne 9, 3) := by decide +kernel
theorem dX2_slipAll_33 : decode cX2_slipAll 33 = .ok (.iinc 2 1, 3) := by decide +kernel
theorem dX2_slipAll_36 : decode cX2_slipAll 36 = .ok (.goto 30, 3) := by decide +kernel
theorem dX2_slipAll_39 : decode cX2_slipAll 39 = .ok (.aload_n 0, 1) := by decide +kernel
theorem dX2_slipAll_40 : decode cX2_slipAll 40 = .ok (.getfield 11, 3) := by decide +kernel
theorem dX2_slipAll_43 : decode cX2_slipAll 43 = .ok (.ldc 65, 2) := by decide +kernel
theorem dX2_slipAll_45 : decode cX2_slipAll 45 = .ok (.if_icmp .lt 4, 3) := by decide +kernel
theorem dX2_slipAll_48 : decode cX2_slipAll 48 = .ok (.return_, 1) := by decide +kernel
theorem dX2_slipAll_49 : decode cX2_slipAll 49 = .ok (.aload_n 0, 1) := by decide +kernel
theorem dX2_slipAll_50 : decode cX2_slipAll 50 = .ok (.iload_n 2, 1) := by decide +kernel
theorem dX2_slipAll_51 : decode cX2_slipAll 51 = .ok (.invokevirtual 66, 3) := by decide +kernel
theorem dX2_slipAll_54 : decode cX2_slipAll 54 = .ok (.iload_n 2, 1) := by decide +kernel
theorem dX2_slipAll_55 : decode cX2_slipAll 55 = .ok (.ifCond .le 9, 3) := by decide +kernel
theorem dX2_slipAll_58 : decode cX2_slipAll 58 = .ok (.iload_n 2, 1) := by decide +kernel
theorem dX2_slipAll_59 : decode cX2_slipAll 59 = .ok (.iconst 1, 1) := by decide +kernel
theorem dX2_slipAll_60 : decode cX2_slipAll 60 = .ok (.isub, 1) := by decide +kernel
theorem dX2_slipAll_61 : decode cX2_slipAll 61 = .ok (.goto 4, 3) := by decide +kernel
theorem dX2_slipAll_64 : decode cX2_slipAll 64 = .ok (.iconst 0, 1) := by decide +kernel
theorem dX2_slipAll_65 : decode cX2_slipAll 65 = .ok (.istore_n 2, 1) := by decide +kernel
theorem dX2_slipAll_66 : decode cX2_slipAll 66 = .ok (.iinc 3 1, 3) := by decide +kernel
theorem dX2_slipAll_69 : decode cX2_slipAll 69 = .ok (.goto (-65), 3) := by decide +kernel
theorem dX2_slipAll_72 : decode cX2_slipAll 72 = .ok (.return_, 1) := by decide +kernel
def X_Feel_slipAll_d_66 (K : xs_St → Prop) (k4 : Nat → Int32 → Int32 → xs_St → Prop) (x0 : Nat) (x2 : Int32) (x3 : Int32) (u : xs_St) : Prop :=
  ∀ x3_1 : Int32, x3_1 = x3 + (1 : Int32) → k4 x0 x2 x3_1 u
set_option maxHeartbeats 4000000 in
set_option maxRecDepth 100000 in
theorem X_Feel_slipAll_d_66_w {K : xs_St → Prop} {k4 : Nat → Int32 → Int32 → xs_St → Prop} (C : th_Cx p s m args meth c cX2_slipAll RX2 4 (none) (dC, dI) (th_ty cs) (xE ad ak) A) (hk4 : ∀ (x0 : Nat) (x2 : Int32) (x3 : Int32) (u : xs_St) (H : Heap) (locs : List Loc) (ls : Array Slot), k4 x0 x2 x3 u → th_wI (dC, dI) (wX cs ad q v v) A s.heap u H locs → lv_has ls 4 [(0, .ref x0), (1, .ref (v 399)), (2, .int x2), (3, .int x3)] → W p l e (th_rm 1 0 0) s m args below meth c H locs 0 0 (MQ below (va_Qv K (th_Post (dC, dI) (wX cs ad q v v) A) A) args s 0 0 A) (F0 m 4 ls [])) (x0 : Nat) (x2 : Int32) (x3 : Int32) (u : xs_St) (H : Heap) (locs : List Loc) (ls : Array Slot) (hf : X_Feel_slipAll_d_66 K k4 x0 x2 x3 u) (hw : th_wI (dC, dI) (wX cs ad q v v) A s.heap u H locs) (hl : lv_has ls 4 [(0, .ref x0), (1, .ref (v 399)), (2, .int x2), (3, .int x3)]) : W p l e (th_rm 1 0 0) s m args below meth c H locs 0 0 (MQ below (va_Qv K (th_Post (dC, dI) (wX cs ad q v v) A) A) args s 0 0 A) (F0 m 66 ls []) := by
  have hx := C.1
  have hb := C.2.1
  unfold X_Feel_slipAll_d_66 at hf
  obtain ⟨x3_1, e9⟩ : ∃ y : Int32, y = x3 + (1 : Int32) := ⟨_, rfl⟩
  replace hf := hf x3_1 e9
  refine lv_iinc (v := x3_1) (lv' := [(3, .int x3_1), (0, .ref x0), (1, .ref (v 399)), (2, .int x2)]) hx hb dX2_slipAll_66 hl (k := 3) rfl (by rw [e9]; rfl) (by decide) rfl (fun ls hl => ?_)
  clear e9
  refine lv_goto (tgt := 4) hx hb dX2_slipAll_69 (by decide) ?_
  exact hk4 x0 x2 x3_1 u _ _ _ hf hw (lv_sub hl [1, 2, 3, 0] rfl)
def X_Feel_slipAll_d_65 (K : xs_St → Prop) (k4 : Nat → Int32 → Int32 → xs_St → Prop) (x0 : Nat) (x3 : Int32) (z0 : Int32) (u : xs_St) : Prop :=
  X_Feel_slipAll_d_66 K k4 x0 z0 x3 u
set_option maxHeartbeats 4000000 in
set_option maxRecDepth 100000 in
theorem X_Feel_slipAll_d_65_w {K : xs_St → Prop} {k4 : Nat → Int32 → Int32 → xs_St → Prop} (C : th_Cx p s m args meth c cX2_slipAll RX2 4 (none) (dC, dI) (th_ty cs) (xE ad ak) A) (hk4 : ∀ (x0 : Nat) (x2 : Int32) (x3 : Int32) (u : xs_St) (H : Heap) (locs : List Loc) (ls : Array Slot), k4 x0 x2 x3 u → th_wI (dC, dI) (wX cs ad q v v) A s.heap u H locs → lv_has ls 4 [(0, .ref x0), (1, .ref (v 399)), (2, .int x2), (3, .int x3)] → W p l e (th_rm 1 0 0) s m args below meth c H locs 0 0 (MQ below (va_Qv K (th_Post (dC, dI) (wX cs ad q v v) A) A) args s 0 0 A) (F0 m 4 ls [])) (x0 : Nat) (x3 : Int32) (z0 : Int32) (u : xs_St) (H : Heap) (locs : List Loc) (ls : Array Slot) (hf : X_Feel_slipAll_d_65 K k4 x0 x3 z0 u) (hw : th_wI (dC, dI) (wX cs ad q v v) A s.heap u H locs) (hl : lv_has ls 4 [(0, .ref x0), (1, .ref (v 399)), (3, .int x3)]) : W p l e (th_rm 1 0 0) s m args below meth c H locs 0 0 (MQ below (va_Qv K (th_Post (dC, dI) (wX cs ad q v v) A) A) args s 0 0 A) (F0 m 65 ls [.int z0]) := by
  have hx := C.1
  have hb := C.2.1
  unfold X_Feel_slipAll_d_65 at hf
  refine lv_istore_n (lv' := [(2, .int z0), (0, .ref x0), (1, .ref (v 399)), (3, .int x3)]) hx hb dX2_slipAll_65 rfl hl (by decide) rfl (fun ls hl => ?_)
  exact X_Feel_slipAll_d_66_w C hk4 x0 z0 x3 u _ _ _ hf hw (lv_sub hl [1, 2, 0, 3] rfl)
def X_Feel_slipAll_d_72 (K : xs_St → Prop) (u : xs_St) : Prop :=
  K u
set_option maxHeartbeats 4000000 in
set_option maxRecDepth 100000 in
theorem X_Feel_slipAll_d_72_w {K : xs_St → Prop} (C : th_Cx p s m args meth c cX2_slipAll RX2 4 (none) (dC, dI) (th_ty cs) (xE ad ak) A) (u : xs_St) (H : Heap) (locs : List Loc) (ls : Array Slot) (hf : X_Feel_slipAll_d_72 K u) (hw : th_wI (dC, dI) (wX cs ad q v v) A s.heap u H locs) (hl : lv_has ls 4 []) : W p l e (th_rm 1 0 0) s m args below meth c H locs 0 0 (MQ below (va_Qv K (th_Post (dC, dI) (wX cs ad q v v) A) A) args s 0 0 A) (F0 m 72 ls []) := by
  have hx := C.1
  have hb := C.2.1
  unfold X_Feel_slipAll_d_72 at hf
  exact th_vret C hw hf dX2_slipAll_72
def X_Feel_slipAll_d_4 (K : xs_St → Prop) (k4 : Nat → Int32 → Int32 → xs_St → Prop) (x0 : Nat) (x2 : Int32) (x3 : Int32) (u : xs_St) : Prop :=
  (((200096 : Int32) ≤ x3 → X_Feel_slipAll_d_72 K u) ∧ (¬ (200096 : Int32) ≤ x3 → (xd_is u x0 3 ∧ (∃ b_1 : Nat, (xdR u 3 x0) = some b_1 ∧ xd_is u b_1 4 ∧ (((nI (xdN u b_1)) ≤ (x2 + (1 : Int32)) → X_Feel_slipAll_d_72 K u) ∧ (¬ (nI (xdN u b_1)) ≤ (x2 + (1 : Int32)) → (xd_is u x0 3 ∧ X_T_slipsAt_A x2 (xdR u 3 x0) u (fun r_3 u_2 => ((¬ r_3 = 0 → (xd_is u_2 x0 3 ∧ (((xdI u_2 2 x0) < (100000 : Int32) → (xd_is u_2 x0 3 ∧ X_Feel_slipOne_d x0 x2 u_2 (fun u_4 => ((x2 ≤ 0 → X_Feel_slipAll_d_65 K k4 x0 x3 (0 : Int32) u_4) ∧ (¬ x2 ≤ 0 → X_Feel_slipAll_d_65 K k4 x0 x3 (x2 - (1 : Int32)) u_4))))) ∧ (¬ (xdI u_2 2 x0) < (100000 : Int32) → K u_2)))) ∧ (r_3 = 0 → ∀ x2_6 : Int32, x2_6 = x2 + (1 : Int32) → X_Feel_slipAll_d_66 K k4 x0 x2_6 x3 u_2))))))))))
set_option maxHeartbeats 4000000 in
set_option maxRecDepth 100000 in
theorem X_Feel_slipAll_d_4_w {K : xs_St → Prop} {k4 : Nat → Int32 → Int32 → xs_St → Prop} (C : th_Cx p s m args meth c cX2_slipAll RX2 4 (none) (dC, dI) (th_ty cs) (xE ad ak) A) (hk4 : ∀ (x0 : Nat) (x2 : Int32) (x3 : Int32) (u : xs_St) (H : Heap) (locs : List Loc) (ls : Array Slot), k4 x0 x2 x3 u → th_wI (dC, dI) (wX cs ad q v v) A s.heap u H locs → lv_has ls 4 [(0, .ref x0), (1, .ref (v 399)), (2, .int x2), (3, .int x3)] → W p l e (th_rm 1 0 0) s m args below meth c H locs 0 0 (MQ below (va_Qv K (th_Post (dC, dI) (wX cs ad q v v) A) A) args s 0 0 A) (F0 m 4 ls [])) (x0 : Nat) (x2 : Int32) (x3 : Int32) (u : xs_St) (H : Heap) (locs : List Loc) (ls : Array Slot) (hf : X_Feel_slipAll_d_4 K k4 x0 x2 x3 u) (hw : th_wI (dC, dI) (wX cs ad q v v) A s.heap u H locs) (hl : lv_has ls 4 [(0, .ref x0), (1, .ref (v 399)), (2, .int x2), (3, .int x3)]) : W p l e (th_rm 1 0 0) s m args below meth c H locs 0 0 (MQ below (va_Qv K (th_Post (dC, dI) (wX cs ad q v v) A) A) args s 0 0 A) (F0 m 4 ls []) := by
  have hx := C.1
  have hb := C.2.1
  unfold X_Feel_slipAll_d_4 at hf
  refine lv_iload_n hx hb dX2_slipAll_4 rfl (lv_at hl 3 rfl) ?_
  refine lv_ldc hx hb C.2.2.2.1 (C.2.2.2.2.1 _ hwK_X2_58) dX2_slipAll_5 ?_
  refine lv_icmp_ge (tgt := 72) hx hb dX2_slipAll_7 (by decide) (fun hc => ?_) (fun hc => ?_)
  · replace hf := hf.1 hc
    clear hc
    exact X_Feel_slipAll_d_72_w C  u _ _ _ hf hw (lv_sub hl [] rfl)
  · replace hf := hf.2 hc
    clear hc
    refine lv_iload_n hx hb dX2_slipAll_10 rfl (lv_at hl 2 rfl) ?_
    refine lv_iconst (v := (1 : Int32)) hx hb dX2_slipAll_11 (by decide) ?_
    refine lv_iadd hx hb dX2_slipAll_12 ?_
    refine lv_aload_n hx hb dX2_slipAll_13 rfl (lv_at hl 0 rfl) ?_
    obtain ⟨hm, hf⟩ := hf
    refine xdg_Feel_feels C hw hm (C.2.2.2.2.1 _ hwF_X2_35) dX2_slipAll_14 ?_
    obtain ⟨b_1, e9, hm, hf⟩ := hf
    refine W.eq (g2 := F0 m 17 ls [.ref b_1, .int (x2 + (1 : Int32))]) (congrArg (fun z9 => F0 m 17 ls [va_rf z9, .int (x2 + (1 : Int32))]) e9) ?_
    clear e9
    refine xdn_4 C hw hm dX2_slipAll_17 ?_
    refine lv_icmp_ge (tgt := 72) hx hb dX2_slipAll_18 (by decide) (fun hc => ?_) (fun hc => ?_)
    · replace hf := hf.1 hc
      clear hc
      exact X_Feel_slipAll_d_72_w C  u _ _ _ hf hw (lv_sub hl [] rfl)
    · replace hf := hf.2 hc
      clear hc
      refine lv_aload_n hx hb dX2_slipAll_21 rfl (lv_at hl 1 rfl) ?_
      refine lv_iload_n hx hb dX2_slipAll_22 rfl (lv_at hl 2 rfl) ?_
      refine lv_aload_n hx hb dX2_slipAll_23 rfl (lv_at hl 0 rfl) ?_
      obtain ⟨hm, hf⟩ := hf
      refine xdg_Feel_feels C hw hm (C.2.2.2.2.1 _ hwF_X2_35) dX2_slipAll_24 ?_
      refine th_callVi (As := [.int x2, va_rf (xdR u 3 x0)]) (rest := []) C lkX2_59 (X_T_slipsAt_A_c hf) hw (xRc_TA C hw) rfl rfl ⟨Nat.le_of_ble_eq_true rfl, Nat.le_of_ble_eq_true rfl⟩ hl.1 (Nat.le_of_ble_eq_true rfl) ⟨Nat.le_of_ble_eq_true rfl, Nat.le_of_ble_eq_true rfl⟩ dX2_slipAll_27 (fun r_3 u_2 H locs hf hw => ?_)
      refine lv_if_ne (tgt := 39) hx hb dX2_slipAll_30 (by decide) (fun hc => ?_) (fun hc => ?_)
      · replace hf := hf.1 hc
        clear hc
        refine lv_aload_n hx hb dX2_slipAll_39 rfl (lv_at hl 0 rfl) ?_
        obtain ⟨hm, hf⟩ := hf
        refine xdg_Feel_slips C hw hm (C.2.2.2.2.1 _ hwF_X2_11) dX2_slipAll_40 ?_
        refine lv_ldc hx hb C.2.2.2.1 (C.2.2.2.2.1 _ hwK_X2_65) dX2_slipAll_43 ?_
        refine lv_icmp_lt (tgt := 49) hx hb dX2_slipAll_45 (by decide) (fun hc => ?_) (fun hc => ?_)
        · replace hf := hf.1 hc
          clear hc
          refine lv_aload_n hx hb dX2_slipAll_49 rfl (lv_at hl 0 rfl) ?_
          refine lv_iload_n hx hb dX2_slipAll_50 rfl (lv_at hl 2 rfl) ?_
          obtain ⟨hm, hf⟩ := hf
          refine th_callVv (As := [.int x2]) (rest := []) C lkX2_66 (X_Feel_slipOne_d_c hf) hw (xdRc_Feel C hw hm) rfl rfl ⟨Nat.le_of_ble_eq_true rfl, Nat.le_of_ble_eq_true rfl⟩ hl.1 (Nat.le_of_ble_eq_true rfl) ⟨Nat.le_of_ble_eq_true rfl, Nat.le_of_ble_eq_true rfl⟩ dX2_slipAll_51 (fun u_4 H locs hf hw => ?_)
          refine lv_iload_n hx hb dX2_slipAll_54 rfl (lv_at hl 2 rfl) ?_
          refine lv_if_le (tgt := 64) hx hb dX2_slipAll_55 (by decide) (fun hc => ?_) (fun hc => ?_)
          · replace hf := hf.1 hc
            clear hc
            refine lv_iconst (v := (0 : Int32)) hx hb dX2_slipAll_64 (by decide) ?_
            exact X_Feel_slipAll_d_65_w C hk4 x0 x3 (0 : Int32) u_4 _ _ _ hf hw (lv_sub hl [0, 1, 3] rfl)
          · replace hf := hf.2 hc
            clear hc
            refine lv_iload_n hx hb dX2_slipAll_58 rfl (lv_at hl 2 rfl) ?_
            refine lv_iconst (v := (1 : Int32)) hx hb dX2_slipAll_59 (by decide) ?_
            refine lv_isub hx hb dX2_slipAll_60 ?_
            refine lv_goto (tgt := 65) hx hb dX2_slipAll_61 (by decide) ?_
            exact X_Feel_slipAll_d_65_w C hk4 x0 x3 (x2 - (1 : Int32)) u_4 _ _ _ hf hw (lv_sub hl [0, 1, 3] rfl)
        · replace hf := hf.2 hc
          clear hc
          exact th_vret C hw hf dX2_slipAll_48
      · replace hf := hf.2 hc
        clear hc
        obtain ⟨x2_6, e9⟩ : ∃ y : Int32, y = x2 + (1 : Int32) := ⟨_, rfl⟩
        replace hf := hf x2_6 e9
        refine lv_iinc (v := x2_6) (lv' := [(2, .int x2_6), (0, .ref x0), (1, .ref (v 399)), (3, .int x3)]) hx hb dX2_slipAll_33 hl (k := 2) rfl (by rw [e9]; rfl) (by decide) rfl (fun ls hl => ?_)
        clear e9
        refine lv_goto (tgt := 66) hx hb dX2_slipAll_36 (by decide) ?_
        exact X_Feel_slipAll_d_66_w C hk4 x0 x2_6 x3 u_2 _ _ _ hf hw (lv_sub hl [1, 2, 0, 3] rfl)
def X_Feel_slipAll_d_4_lp (K : xs_St → Prop) : Nat → Nat → Int32 → Int32 → xs_St → Prop
  | 0, _, _, _, _ => False
  | n + 1, x0, x2, x3, u => X_Feel_slipAll_d_4 K (X_Feel_slipAll_d_4_lp K n) x0 x2 x3 u
set_option maxHeartbeats 4000000 in
set_option maxRecDepth 100000 in
theorem X_Feel_slipAll_d_4_lw {K : xs_St → Prop} (C : th_Cx p s m args meth c cX2_slipAll RX2 4 (none) (dC, dI) (th_ty cs) (xE ad ak) A) (n : Nat) : ∀ (x0 : Nat) (x2 : Int32) (x3 : Int32) (u : xs_St) (H : Heap) (locs : List Loc) (ls : Array Slot), X_Feel_slipAll_d_4_lp K n x0 x2 x3 u → th_wI (dC, dI) (wX cs ad q v v) A s.heap u H locs → lv_has ls 4 [(0, .ref x0), (1, .ref (v 399)), (2, .int x2), (3, .int x3)] → W p l e (th_rm 1 0 0) s m args below meth c H locs 0 0 (MQ below (va_Qv K (th_Post (dC, dI) (wX cs ad q v v) A) A) args s 0 0 A) (F0 m 4 ls []) := by
  induction n with
  | zero => intro x0 x2 x3 u H locs ls hf; exact hf.elim
  | succ n ih =>
    intro x0 x2 x3 u H locs ls hf hw hl
    exact X_Feel_slipAll_d_4_w C ih x0 x2 x3 u H locs ls hf hw hl
def X_Feel_slipAll_d (a0 : Nat) (u : xs_St) (K : xs_St → Prop) : Prop :=
  ∃ n, X_Feel_slipAll_d_4_lp K n a0 (0 : Int32) (0 : Int32) u
set_option maxHeartbeats 4000000 in
set_option maxRecDepth 100000 in
theorem X_Feel_slipAll_d_c {l : Launch} {dC : Nat → ClassId} {dI : Nat → Nat → Nat} {cs : Nat → ClassId} {ad ak : Nat → Nat} {q v : Nat → Nat} {a0 : Nat} {u : xs_St} {K : xs_St → Prop} (hf : X_Feel_slipAll_d a0 u K) : th_Cv l yX2_slipAll cX2_slipAll 4 (none) 1 0 0 (dC, dI) (th_ty cs) (xE ad ak) (wX cs ad q v v) [.ref a0, .ref (v 399)] u K := by
  refine th_ofv (by decide) (Nat.le_of_ble_eq_true rfl) (xE_ok ad ak) ?_
  intro p e s m below meth c A ls C hw hl
  have C : th_Cx p s m _ meth c cX2_slipAll RX2 4 (none) (dC, dI) (th_ty cs) (xE ad ak) A := C
  have hl : lv_has ls 4 [(0, .ref a0), (1, .ref (v 399))] := hl
  generalize (List.toArray _ : Array Value) = args at C ⊢
  have hx := C.1
  have hb := C.2.1
  unfold X_Feel_slipAll_d at hf
  refine lv_iconst (v := (0 : Int32)) hx hb dX2_slipAll_0 (by decide) ?_
  refine lv_istore_n (lv' := [(2, .int (0 : Int32)), (0, .ref a0), (1, .ref (v 399))]) hx hb dX2_slipAll_1 rfl hl (by decide) rfl (fun ls hl => ?_)
  refine lv_iconst (v := (0 : Int32)) hx hb dX2_slipAll_2 (by decide) ?_
  refine lv_istore_n (lv' := [(3, .int (0 : Int32)), (2, .int (0 : Int32)), (0, .ref a0), (1, .ref (v 399))]) hx hb dX2_slipAll_3 rfl hl (by decide) rfl (fun ls hl => ?_)
  obtain ⟨n, hf⟩ := hf
  exact X_Feel_slipAll_d_4_lw C n a0 (0 : Int32) (0 : Int32) u _ _ _ hf hw (lv_sub hl [2, 3, 1, 0] rfl)
/-! X_J_copyOf_9075b_100 -/
theorem dJ7_copyOf_9075b_0 : decode cJ7_copyOf_9075b 0 = .ok (.iload_n 1, 1) := by decide +kernel
theorem dJ7_copyOf_9075b_1 : decode cJ7_copyOf_9075b 1 = .ok (.aload_n 0, 1) := by decide +kernel
theorem dJ7_copyOf_9075b_2 : decode cJ7_copyOf_9075b 2 = .ok (.arraylength, 1) := by decide +kernel
theorem dJ7_copyOf_9075b_3 : decode cJ7_copyOf_9075b 3 = .ok (.if_icmp .ne 11, 3) := by decide +kernel
theorem dJ7_copyOf_9075b_6 : decode cJ7_copyOf_9075b 6 = .ok (.aload_n 0, 1) := by decide +kernel
theorem dJ7_copyOf_9075b_7 : decode cJ7_copyOf_9075b 7 = .ok (.invokevirtual 310, 3) := by decide +kernel
theorem dJ7_copyOf_9075b_14 : decode cJ7_copyOf_9075b 14 = .ok (.iload_n 1, 1) := by decide +kernel
theorem dJ7_copyOf_9075b_15 : decode cJ7_copyOf_9075b 15 = .ok (.newarray .byte, 2) := by decide +kernel
theorem dJ7_copyOf_9075b_17 : decode cJ7_copyOf_9075b 17 = .ok (.astore_n 2, 1) := by decide +kernel
theorem dJ7_copyOf_9075b_18 : decode cJ7_copyOf_9075b 18 = .ok (.aload_n 0, 1) := by decide +kernel
theorem dJ7_copyOf_9075b_19 : decode cJ7_copyOf_9075b 19 = .ok (.iconst 0, 1) := by decide +kernel
theorem dJ7_copyOf_9075b_20 : decode cJ7_copyOf_9075b 20 = .ok (.aload_n 2, 1) := by decide +kernel
theorem dJ7_copyOf_9075b_21 : decode cJ7_copyOf_9075b 21 = .ok (.iconst 0, 1) := by decide +kernel
theorem dJ7_copyOf_9075b_22 : decode cJ7_copyOf_9075b 22 = .ok (.aload_n 0, 1) := by decide +kernel
theorem dJ7_copyOf_9075b_23 : decode cJ7_copyOf_9075b 23 = .ok (.arraylength, 1) := by decide +kernel
theorem dJ7_copyOf_9075b_24 : decode cJ7_copyOf_9075b 24 = .ok (.iload_n 1, 1) := by decide +kernel
theorem dJ7_copyOf_9075b_25 : decode cJ7_copyOf_9075b 25 = .ok (.invokestatic 304, 3) := by decide +kernel
theorem dJ7_copyOf_9075b_28 : decode cJ7_copyOf_9075b 28 = .ok (.invokestatic 150, 3) := by decide +kernel
theorem dJ7_copyOf_9075b_31 : decode cJ7_copyOf_9075b 31 = .ok (.aload_n 2, 1) := by decide +kernel
theorem dJ7_copyOf_9075b_32 : decode cJ7_copyOf_9075b 32 = .ok (.areturn, 1) := by decide +kernel
def X_J_copyOf_9075b_100 (a2 : Int32) (u : xs_St) (K : Option Nat → xs_St → Prop) : Prop :=
  ((¬ a2 = (440 : Int32) → (¬ a2 < 0 ∧ (a2).toNatClampNeg ≤ 440 ∧ ∀ b_1 : Nat, b_1 ∉ xdL u → ∀ u_2 : xs_St, u_2 = xs_newA u b_1 2 (a2).toNatClampNeg → (xd_is u_2 b_1 2 ∧ (¬ (0 : Int32) < 0 ∧ ¬ (0 : Int32) < 0 ∧ ¬ (if a2 < (440 : Int32) then a2 else (440 : Int32)) < 0 ∧ ((0 : Int32)).toNatClampNeg + ((if a2 < (440 : Int32) then a2 else (440 : Int32))).toNatClampNeg ≤ 440 ∧ ((0 : Int32)).toNatClampNeg + ((if a2 < (440 : Int32) then a2 else (440 : Int32))).toNatClampNeg ≤ xdN u_2 b_1 ∧ (∀ i9, i9 < ((if a2 < (440 : Int32) then a2 else (440 : Int32))).toNatClampNeg → fits .byte (.int (xa u_2 100 (((0 : Int32)).toNatClampNeg + i9))) = true) ∧ ∀ u_3 : xs_St, u_3 = xs_da u_2 b_1 (va_cpy (xa u_2 100) (xdA u_2 b_1) ((0 : Int32)).toNatClampNeg ((0 : Int32)).toNatClampNeg ((if a2 < (440 : Int32) then a2 else (440 : Int32))).toNatClampNeg) → K (some b_1) u_3)))) ∧ (a2 = (440 : Int32) → False))
set_option maxHeartbeats 4000000 in
set_option maxRecDepth 100000 in
theorem X_J_copyOf_9075b_100_c {l : Launch} {dC : Nat → ClassId} {dI : Nat → Nat → Nat} {cs : Nat → ClassId} {ad ak : Nat → Nat} {q v : Nat → Nat} {a2 : Int32} {u : xs_St} {K : Option Nat → xs_St → Prop} (hf : X_J_copyOf_9075b_100 a2 u K) : th_Cq l yJ7_copyOf_9075b cJ7_copyOf_9075b 3 (some (.array .byte)) 1 1 440 (dC, dI) (th_ty cs) (xE ad ak) (wX cs ad q v v) [.ref (q 100), .int a2] u K := by
  refine th_ofq (by decide) (Nat.le_of_ble_eq_true rfl) (xE_ok ad ak) ?_
  intro p e s m below meth c A ls C hw hl
  have C : th_Cx p s m _ meth c cJ7_copyOf_9075b RJ7 3 (some (.array .byte)) (dC, dI) (th_ty cs) (xE ad ak) A := C
  have hl : lv_has ls 3 [(0, .ref (q 100)), (1, .int a2)] := hl
  generalize (List.toArray _ : Array Value) = args at C ⊢
  have hx := C.1
  have hb := C.2.1
  unfold X_J_copyOf_9075b_100 at hf
  refine lv_iload_n hx hb dJ7_copyOf_9075b_0 rfl (lv_at hl 1 rfl) ?_
  refine lv_aload_n hx hb dJ7_copyOf_9075b_1 rfl (lv_at hl 0 rfl) ?_
  refine yn_100 C hw dJ7_copyOf_9075b_2 ?_
  refine lv_icmp_ne (tgt := 14) hx hb dJ7_copyOf_9075b_3 (by decide) (fun hc => ?_) (fun hc => ?_)
  · replace hf := hf.1 hc
    clear hc
    refine lv_iload_n hx hb dJ7_copyOf_9075b_14 rfl (lv_at hl 1 rfl) ?_
    refine xn_B C hw hf.1 hf.2.1 (by simp only [th_rm]; omega) (by simp only [th_rm]; omega) dJ7_copyOf_9075b_15 (fun b_1 hb9 u_2 e9 H hw => ?_)
    replace hf := hf.2.2 b_1 hb9 u_2 e9
    clear e9 hb9
    refine lv_astore_n (lv' := [(2, .ref b_1), (0, .ref (q 100)), (1, .int a2)]) hx hb dJ7_copyOf_9075b_17 rfl hl (by decide) rfl (fun ls hl => ?_)
    refine lv_aload_n hx hb dJ7_copyOf_9075b_18 rfl (lv_at hl 1 rfl) ?_
    refine lv_iconst (v := (0 : Int32)) hx hb dJ7_copyOf_9075b_19 (by decide) ?_
    refine lv_aload_n hx hb dJ7_copyOf_9075b_20 rfl (lv_at hl 0 rfl) ?_
    refine lv_iconst (v := (0 : Int32)) hx hb dJ7_copyOf_9075b_21 (by decide) ?_
    refine lv_aload_n hx hb dJ7_copyOf_9075b_22 rfl (lv_at hl 1 rfl) ?_
    refine yn_100 C hw dJ7_copyOf_9075b_23 ?_
    refine lv_iload_n hx hb dJ7_copyOf_9075b_24 rfl (lv_at hl 2 rfl) ?_
    refine va_mmin hx hb (C.2.2.1.trans hl.1.symm) C.2.2.2.1 (C.2.2.2.2.1 _ hwM_J7_304) (C.2.2.2.2.1 _ hwS_Math_min) (C.2.2.2.2.1 _ hwI_Math) (C.2.2.2.2.1 _ hwC_Math_min) (Nat.le_of_ble_eq_true rfl) (Nat.le_of_ble_eq_true rfl) (by simp only [th_rm]; omega) (by simp only [th_rm]; omega) dJ7_copyOf_9075b_25 ?_
    obtain ⟨hm, hf⟩ := hf
    obtain ⟨q1, q2, q3, q4, q5, q6, hf⟩ := hf
    refine x_cpy C hw hm q1 q2 q3 q4 q5 q6 hl.1 (Nat.le_of_ble_eq_true rfl) (by decide) (C.2.2.2.2.1 _ hwM_J7_150) dJ7_copyOf_9075b_28 (fun u_3 e9 H locs hw => ?_)
    replace hf := hf u_3 e9
    clear e9
    refine lv_aload_n hx hb dJ7_copyOf_9075b_31 rfl (lv_at hl 0 rfl) ?_
    refine W.widen (k := 1) (n := 440) (by omega) (by omega) ?_
    exact th_qret (r := (some b_1)) (Or.inr ⟨_, rfl⟩) C hw hf dJ7_copyOf_9075b_32
  · replace hf := hf.2 hc
    clear hc
    refine lv_aload_n hx hb dJ7_copyOf_9075b_6 rfl (lv_at hl 0 rfl) ?_
    exact hf.elim
/-! X_RD_take -/
theorem dX4_take_0 : decode cX4_take 0 = .ok (.aload_n 0, 1) := by decide +kernel
theorem dX4_take_1 : decode cX4_take 1 = .ok (.getfield 42, 3) := by decide +kernel
theorem dX4_take_4 : decode cX4_take 4 = .ok (.aload_n 1, 1) := by decide +kernel
theorem dX4_take_5 : decode cX4_take 5 = .ok (.if_acmp .eq 9, 3) := by decide +kernel
theorem dX4_take_8 : decode cX4_take 8 = .ok (.aload_n 0, 1) := by decide +kernel
theorem dX4_take_9 : decode cX4_take 9 = .ok (.iconst 1, 1) := by decide +kernel
theorem dX4_take_10 : decode cX4_take 10 = .ok (.invokevirtual 99, 3) := by decide +kernel
theorem dX4_take_13 : decode cX4_take 13 = .ok (.ireturn, 1) := by decide +kernel
theorem dX4_take_14 : decode cX4_take 14 = .ok (.aload_n 0, 1) := by decide +kernel
theorem dX4_take_15 : decode cX4_take 15 = .ok (.invokevirtual 74, 3) := by decide +kernel
theorem dX4_take_18 : decode cX4_take 18 = .ok (.iconst 1, 1) := by decide +kernel
theorem dX4_take_19 : decode cX4_take 19 = .ok (.ireturn, 1) := by decide +kernel
def X_RD_take (a1 : Option Nat) (u : xs_St) (K : Int32 → xs_St → Prop) : Prop :=
  (((xr u 206) = a1 → X_RD_advance u (fun u_1 => (((1 : Int32) = 0 ∨ (1 : Int32) = 1) ∧ K (1 : Int32) u_1))) ∧ (¬ (xr u 206) = a1 → X_RD_faulty (1 : Int32) u (fun r_4 u_3 => ((r_4 = 0 ∨ r_4 = 1) ∧ K r_4 u_3))))
set_option maxHeartbeats 4000000 in
set_option maxRecDepth 100000 in
theorem X_RD_take_c {l : Launch} {dC : Nat → ClassId} {dI : Nat → Nat → Nat} {cs : Nat → ClassId} {ad ak : Nat → Nat} {q v : Nat → Nat} {a1 : Option Nat} {u : xs_St} {K : Int32 → xs_St → Prop} (hf : X_RD_take a1 u K) : th_Ci l yX4_take cX4_take 2 (some .boolean) 1 0 0 (dC, dI) (th_ty cs) (xE ad ak) (wX cs ad q v v) [.ref (q 299), va_re ad a1] u K := by
  refine th_ofi (by decide) (by cases a1 <;> exact Nat.le_of_ble_eq_true rfl) (xE_ok ad ak) ?_
  intro p e s m below meth c A ls C hw hl
  have C : th_Cx p s m _ meth c cX4_take RX4 2 (some .boolean) (dC, dI) (th_ty cs) (xE ad ak) A := C
  have hl : lv_has ls 2 [(0, .ref (q 299)), (1, va_re ad a1)] := by cases a1 <;> exact hl
  generalize (List.toArray _ : Array Value) = args at C ⊢
  have hx := C.1
  have hb := C.2.1
  unfold X_RD_take at hf
  refine lv_aload_n hx hb dX4_take_0 rfl (lv_at hl 0 rfl) ?_
  refine xg_206 C hw (C.2.2.2.2.1 _ hwF_X4_42) dX4_take_1 ?_
  refine th_aload_n hx hb dX4_take_4 rfl (lv_at hl 1 rfl) ?_
  refine x_acmp_eq (tgt := 14) C dX4_take_5 (by decide) (fun hc => ?_) (fun hc => ?_)
  · replace hf := hf.1 hc
    clear hc
    refine lv_aload_n hx hb dX4_take_14 rfl (lv_at hl 0 rfl) ?_
    refine th_callVv (As := []) (rest := []) C lkX4_74 (X_RD_advance_c hf) hw (xRc_RD C hw) rfl rfl ⟨Nat.le_of_ble_eq_true rfl, Nat.le_of_ble_eq_true rfl⟩ hl.1 (Nat.le_of_ble_eq_true rfl) ⟨Nat.le_of_ble_eq_true rfl, Nat.le_of_ble_eq_true rfl⟩ dX4_take_15 (fun u_1 H locs hf hw => ?_)
    refine lv_iconst (v := (1 : Int32)) hx hb dX4_take_18 (by decide) ?_
    exact th_zret C hw hf dX4_take_19
  · replace hf := hf.2 hc
    clear hc
    refine lv_aload_n hx hb dX4_take_8 rfl (lv_at hl 0 rfl) ?_
    refine lv_iconst (v := (1 : Int32)) hx hb dX4_take_9 (by decide) ?_
    refine th_callVi (As := [.int (1 : Int32)]) (rest := []) C lkX4_99 (X_RD_faulty_c hf) hw (xRc_RD C hw) rfl rfl ⟨Nat.le_of_ble_eq_true rfl, Nat.le_of_ble_eq_true rfl⟩ hl.1 (Nat.le_of_ble_eq_true rfl) ⟨Nat.le_of_ble_eq_true rfl, Nat.le_of_ble_eq_true rfl⟩ dX4_take_10 (fun r_4 u_3 H locs hf hw => ?_)
    exact th_zret C hw hf dX4_take_13
/-! X_RD_takeNumber -/
theorem dX4_takeNumber_0 : decode cX4_takeNumber 0 = .ok (.aload_n 0, 1) := by decide +kernel
theorem dX4_takeNumber_1 : decode cX4_takeNumber 1 = .ok (.getfield 42, 3) := by decide +kernel
theorem dX4_takeNumber_4 : decode cX4_takeNumber 4 = .ok (.getstatic 149, 3) := by decide +kernel
theorem dX4_takeNumber_7 : decode cX4_takeNumber 7 = .ok (.if_acmp .ne 21, 3) := by decide +kernel
theorem dX4_takeNumber_10 : decode cX4_takeNumber 10 = .ok (.aload_n 0, 1) := by decide +kernel
theorem dX4_takeNumber_11 : decode cX4_takeNumber 11 = .ok (.getfield 35, 3) := by decide +kernel
theorem dX4_takeNumber_14 : decode cX4_takeNumber 14 = .ok (.ifCond .lt 14, 3) := by decide +kernel
theorem dX4_takeNumber_17 : decode cX4_takeNumber 17 = .ok (.aload_n 0, 1) := by decide +kernel
theorem dX4_takeNumber_18 : decode cX4_takeNumber 18 = .ok (.getfield 35, 3) := by decide +kernel
theorem dX4_takeNumber_21 : decode cX4_takeNumber 21 = .ok (.aload_n 0, 1) := by decide +kernel
theorem dX4_takeNumber_22 : decode cX4_takeNumber 22 = .ok (.getfield 24, 3) := by decide +kernel
theorem dX4_takeNumber_25 : decode cX4_takeNumber 25 = .ok (.if_icmp .lt 9, 3) := by decide +kernel
theorem dX4_takeNumber_28 : decode cX4_takeNumber 28 = .ok (.aload_n 0, 1) := by decide +kernel
theorem dX4_takeNumber_29 : decode cX4_takeNumber 29 = .ok (.iconst 1, 1) := by decide +kernel
theorem dX4_takeNumber_30 : decode cX4_takeNumber 30 = .ok (.invokevirtual 99, 3) := by decide +kernel
theorem dX4_takeNumber_33 : decode cX4_takeNumber 33 = .ok (.ireturn, 1) := by decide +kernel
theorem dX4_takeNumber_34 : decode cX4_takeNumber 34 = .ok (.aload_n 0, 1) := by decide +kernel
theorem dX4_takeNumber_35 : decode cX4_takeNumber 35 = .ok (.getfield 21, 3) := by decide +kernel
theorem dX4_takeNumber_38 : decode cX4_takeNumber 38 = .ok (.aload_n 0, 1) := by decide +kernel
theorem dX4_takeNumber_39 : decode cX4_takeNumber 39 = .ok (.getfield 35, 3) := by decide +kernel
theorem dX4_takeNumber_42 : decode cX4_takeNumber 42 = .ok (.iaload, 1) := by decide +kernel
theorem dX4_takeNumber_43 : decode cX4_takeNumber 43 = .ok (.iload_n 1, 1) := by decide +kernel
theorem dX4_takeNumber_44 : decode cX4_takeNumber 44 = .ok (.if_icmp .lt 16, 3) := by decide +kernel
theorem dX4_takeNumber_47 : decode cX4_takeNumber 47 = .ok (.aload_n 0, 1) := by decide +kernel
theorem dX4_takeNumber_48 : decode cX4_takeNumber 48 = .ok (.getfield 21, 3) := by decide +kernel
theorem dX4_takeNumber_51 : decode cX4_takeNumber 51 = .ok (.aload_n 0, 1) := by decide +kernel
theorem dX4_takeNumber_52 : decode cX4_takeNumber 52 = .ok (.getfield 35, 3) := by decide +kernel
theorem dX4_takeNumber_55 : decode cX4_takeNumber 55 = .ok (.iaload, 1) := by decide +kernel
theorem dX4_takeNumber_56 : decode cX4_takeNumber 56 = .ok (.iload_n 2, 1) := by decide +kernel
theorem dX4_takeNumber_57 : decode cX4_takeNumber 57 = .ok (.if_icmp .le 9, 3) := by decide +kernel
theorem dX4_takeNumber_60 : decode cX4_takeNumber 60 = .ok (.aload_n 0, 1) := by decide +kernel
theorem dX4_takeNumber_61 : decode cX4_takeNumber 61 = .ok (.iconst 2, 1) := by decide +kernel
theorem dX4_takeNumber_62 : decode cX4_takeNumber 62 = .ok (.invokevirtual 99, 3) := by decide +kernel
theorem dX4_takeNumber_65 : decode cX4_takeNumber 65 = .ok (.ireturn, 1) := by decide +kernel
theorem dX4_takeNumber_66 : decode cX4_takeNumber 66 = .ok (.aload_n 0, 1) := by decide +kernel
theorem dX4_takeNumber_67 : decode cX4_takeNumber 67 = .ok (.aload_n 0, 1) := by decide +kernel
theorem dX4_takeNumber_68 : decode cX4_takeNumber 68 = .ok (.getfield 21, 3) := by decide +kernel
theorem dX4_takeNumber_71 : decode cX4_takeNumber 71 = .ok (.aload_n 0, 1) := by decide +kernel
theorem dX4_takeNumber_72 : decode cX4_takeNumber 72 = .ok (.getfield 35, 3) := by decide +kernel
theorem dX4_takeNumber_75 : decode cX4_takeNumber 75 = .ok (.iaload, 1) := by decide +kernel
theorem dX4_takeNumber_76 : decode cX4_takeNumber 76 = .ok (.putfield 45, 3) := by decide +kernel
theorem dX4_takeNumber_79 : decode cX4_takeNumber 79 = .ok (.aload_n 0, 1) := by decide +kernel
theorem dX4_takeNumber_80 : decode cX4_takeNumber 80 = .ok (.invokevirtual 74, 3) := by decide +kernel
theorem dX4_takeNumber_83 : decode cX4_takeNumber 83 = .ok (.iconst 1, 1) := by decide +kernel
theorem dX4_takeNumber_84 : decode cX4_takeNumber 84 = .ok (.ireturn, 1) := by decide +kernel
def X_RD_takeNumber_28 (K : Int32 → xs_St → Prop) (u : xs_St) : Prop :=
  X_RD_faulty (1 : Int32) u (fun r_2 u_1 => ((r_2 = 0 ∨ r_2 = 1) ∧ K r_2 u_1))
set_option maxHeartbeats 4000000 in
set_option maxRecDepth 100000 in
theorem X_RD_takeNumber_28_w {K : Int32 → xs_St → Prop} (C : th_Cx p s m args meth c cX4_takeNumber RX4 3 (some .boolean) (dC, dI) (th_ty cs) (xE ad ak) A) (u : xs_St) (H : Heap) (locs : List Loc) (ls : Array Slot) (hf : X_RD_takeNumber_28 K u) (hw : th_wI (dC, dI) (wX cs ad q v v) A s.heap u H locs) (hl : lv_has ls 3 [(0, .ref (q 299))]) : W p l e (th_rm 1 0 0) s m args below meth c H locs 0 0 (MQ below (va_Qi K (th_Post (dC, dI) (wX cs ad q v v) A) A) args s 0 0 A) (F0 m 28 ls []) := by
  have hx := C.1
  have hb := C.2.1
  unfold X_RD_takeNumber_28 at hf
  refine lv_aload_n hx hb dX4_takeNumber_28 rfl (lv_at hl 0 rfl) ?_
  refine lv_iconst (v := (1 : Int32)) hx hb dX4_takeNumber_29 (by decide) ?_
  refine th_callVi (As := [.int (1 : Int32)]) (rest := []) C lkX4_99 (X_RD_faulty_c hf) hw (xRc_RD C hw) rfl rfl ⟨Nat.le_of_ble_eq_true rfl, Nat.le_of_ble_eq_true rfl⟩ hl.1 (Nat.le_of_ble_eq_true rfl) ⟨Nat.le_of_ble_eq_true rfl, Nat.le_of_ble_eq_true rfl⟩ dX4_takeNumber_30 (fun r_2 u_1 H locs hf hw => ?_)
  exact th_zret C hw hf dX4_takeNumber_33
def X_RD_takeNumber_60 (K : Int32 → xs_St → Prop) (u : xs_St) : Prop :=
  X_RD_faulty (2 : Int32) u (fun r_2 u_1 => ((r_2 = 0 ∨ r_2 = 1) ∧ K r_2 u_1))
set_option maxHeartbeats 4000000 in
set_option maxRecDepth 100000 in
theorem X_RD_takeNumber_60_w {K : Int32 → xs_St → Prop} (C : th_Cx p s m args meth c cX4_takeNumber RX4 3 (some .boolean) (dC, dI) (th_ty cs) (xE ad ak) A) (u : xs_St) (H : Heap) (locs : List Loc) (ls : Array Slot) (hf : X_RD_takeNumber_60 K u) (hw : th_wI (dC, dI) (wX cs ad q v v) A s.heap u H locs) (hl : lv_has ls 3 [(0, .ref (q 299))]) : W p l e (th_rm 1 0 0) s m args below meth c H locs 0 0 (MQ below (va_Qi K (th_Post (dC, dI) (wX cs ad q v v) A) A) args s 0 0 A) (F0 m 60 ls []) := by
  have hx := C.1
  have hb := C.2.1
  unfold X_RD_takeNumber_60 at hf
  refine lv_aload_n hx hb dX4_takeNumber_60 rfl (lv_at hl 0 rfl) ?_
  refine lv_iconst (v := (2 : Int32)) hx hb dX4_takeNumber_61 (by decide) ?_
  refine th_callVi (As := [.int (2 : Int32)]) (rest := []) C lkX4_99 (X_RD_faulty_c hf) hw (xRc_RD C hw) rfl rfl ⟨Nat.le_of_ble_eq_true rfl, Nat.le_of_ble_eq_true rfl⟩ hl.1 (Nat.le_of_ble_eq_true rfl) ⟨Nat.le_of_ble_eq_true rfl, Nat.le_of_ble_eq_true rfl⟩ dX4_takeNumber_62 (fun r_2 u_1 H locs hf hw => ?_)
  exact th_zret C hw hf dX4_takeNumber_65
def X_RD_takeNumber (a1 : Int32) (a2 : Int32) (u : xs_St) (K : Int32 → xs_St → Prop) : Prop :=
  ((¬ (xr u 206) = (some 2) → X_RD_takeNumber_28 K u) ∧ ((xr u 206) = (some 2) → (((xi u 205) < 0 → X_RD_takeNumber_28 K u) ∧ (¬ (xi u 205) < 0 → (((xi u 205) < (xi u 203) → (vp_in (xi u 205) 401 ∧ ∀ y_1 : Int32, y_1 = xa u 202 ((xi u 205)).toNatClampNeg → ((y_1 < a1 → X_RD_takeNumber_60 K u) ∧ (¬ y_1 < a1 → (vp_in (xi u 205) 401 ∧ ∀ y_2 : Int32, y_2 = xa u 202 ((xi u 205)).toNatClampNeg → ((y_2 ≤ a2 → (vp_in (xi u 205) 401 ∧ ∀ y_3 : Int32, y_3 = xa u 202 ((xi u 205)).toNatClampNeg → ∀ u_4 : xs_St, u_4 = xs_si u 207 y_3 → X_RD_advance u_4 (fun u_5 => (((1 : Int32) = 0 ∨ (1 : Int32) = 1) ∧ K (1 : Int32) u_5)))) ∧ (¬ y_2 ≤ a2 → X_RD_takeNumber_60 K u))))))) ∧ (¬ (xi u 205) < (xi u 203) → X_RD_takeNumber_28 K u))))))
set_option maxHeartbeats 4000000 in
set_option maxRecDepth 100000 in
theorem X_RD_takeNumber_c {l : Launch} {dC : Nat → ClassId} {dI : Nat → Nat → Nat} {cs : Nat → ClassId} {ad ak : Nat → Nat} {q v : Nat → Nat} {a1 : Int32} {a2 : Int32} {u : xs_St} {K : Int32 → xs_St → Prop} (hf : X_RD_takeNumber a1 a2 u K) : th_Ci l yX4_takeNumber cX4_takeNumber 3 (some .boolean) 1 0 0 (dC, dI) (th_ty cs) (xE ad ak) (wX cs ad q v v) [.ref (q 299), .int a1, .int a2] u K := by
  refine th_ofi (by decide) (Nat.le_of_ble_eq_true rfl) (xE_ok ad ak) ?_
  intro p e s m below meth c A ls C hw hl
  have C : th_Cx p s m _ meth c cX4_takeNumber RX4 3 (some .boolean) (dC, dI) (th_ty cs) (xE ad ak) A := C
  have hl : lv_has ls 3 [(0, .ref (q 299)), (1, .int a1), (2, .int a2)] := hl
  generalize (List.toArray _ : Array Value) = args at C ⊢
  have hx := C.1
  have hb := C.2.1
  unfold X_RD_takeNumber at hf
  refine lv_aload_n hx hb dX4_takeNumber_0 rfl (lv_at hl 0 rfl) ?_
  refine xg_206 C hw (C.2.2.2.2.1 _ hwF_X4_42) dX4_takeNumber_1 ?_
  refine xst C hw 2 (by decide) (C.2.2.2.2.1 _ hwF_X4_149) dX4_takeNumber_4 ?_
  refine x_acmp_ne (tgt := 28) C dX4_takeNumber_7 (by decide) (fun hc => ?_) (fun hc => ?_)
  · replace hf := hf.1 hc
    clear hc
    exact X_RD_takeNumber_28_w C  u _ _ _ hf hw (lv_sub hl [0] rfl)
  · replace hf := hf.2 hc
    clear hc
    refine lv_aload_n hx hb dX4_takeNumber_10 rfl (lv_at hl 0 rfl) ?_
    refine xg_205 C hw (C.2.2.2.2.1 _ hwF_X4_35) dX4_takeNumber_11 ?_
    refine lv_if_lt (tgt := 28) hx hb dX4_takeNumber_14 (by decide) (fun hc => ?_) (fun hc => ?_)
    · replace hf := hf.1 hc
      clear hc
      exact X_RD_takeNumber_28_w C  u _ _ _ hf hw (lv_sub hl [0] rfl)
    · replace hf := hf.2 hc
      clear hc
      refine lv_aload_n hx hb dX4_takeNumber_17 rfl (lv_at hl 0 rfl) ?_
      refine xg_205 C hw (C.2.2.2.2.1 _ hwF_X4_35) dX4_takeNumber_18 ?_
      refine lv_aload_n hx hb dX4_takeNumber_21 rfl (lv_at hl 0 rfl) ?_
      refine xg_203 C hw (C.2.2.2.2.1 _ hwF_X4_24) dX4_takeNumber_22 ?_
      refine lv_icmp_lt (tgt := 34) hx hb dX4_takeNumber_25 (by decide) (fun hc => ?_) (fun hc => ?_)
      · replace hf := hf.1 hc
        clear hc
        refine lv_aload_n hx hb dX4_takeNumber_34 rfl (lv_at hl 0 rfl) ?_
        refine xg_202 C hw (C.2.2.2.2.1 _ hwF_X4_21) dX4_takeNumber_35 ?_
        refine lv_aload_n hx hb dX4_takeNumber_38 rfl (lv_at hl 0 rfl) ?_
        refine xg_205 C hw (C.2.2.2.2.1 _ hwF_X4_35) dX4_takeNumber_39 ?_
        refine yl_202 C hw hf.1 dX4_takeNumber_42 (fun y_1 e9 => ?_)
        replace hf := hf.2 y_1 e9
        clear e9
        refine lv_iload_n hx hb dX4_takeNumber_43 rfl (lv_at hl 1 rfl) ?_
        refine lv_icmp_lt (tgt := 60) hx hb dX4_takeNumber_44 (by decide) (fun hc => ?_) (fun hc => ?_)
        · replace hf := hf.1 hc
          clear hc
          exact X_RD_takeNumber_60_w C  u _ _ _ hf hw (lv_sub hl [0] rfl)
        · replace hf := hf.2 hc
          clear hc
          refine lv_aload_n hx hb dX4_takeNumber_47 rfl (lv_at hl 0 rfl) ?_
          refine xg_202 C hw (C.2.2.2.2.1 _ hwF_X4_21) dX4_takeNumber_48 ?_
          refine lv_aload_n hx hb dX4_takeNumber_51 rfl (lv_at hl 0 rfl) ?_
          refine xg_205 C hw (C.2.2.2.2.1 _ hwF_X4_35) dX4_takeNumber_52 ?_
          refine yl_202 C hw hf.1 dX4_takeNumber_55 (fun y_2 e9 => ?_)
          replace hf := hf.2 y_2 e9
          clear e9
          refine lv_iload_n hx hb dX4_takeNumber_56 rfl (lv_at hl 2 rfl) ?_
          refine lv_icmp_le (tgt := 66) hx hb dX4_takeNumber_57 (by decide) (fun hc => ?_) (fun hc => ?_)
          · replace hf := hf.1 hc
            clear hc
            refine lv_aload_n hx hb dX4_takeNumber_66 rfl (lv_at hl 0 rfl) ?_
            refine lv_aload_n hx hb dX4_takeNumber_67 rfl (lv_at hl 0 rfl) ?_
            refine xg_202 C hw (C.2.2.2.2.1 _ hwF_X4_21) dX4_takeNumber_68 ?_
            refine lv_aload_n hx hb dX4_takeNumber_71 rfl (lv_at hl 0 rfl) ?_
            refine xg_205 C hw (C.2.2.2.2.1 _ hwF_X4_35) dX4_takeNumber_72 ?_
            refine yl_202 C hw hf.1 dX4_takeNumber_75 (fun y_3 e9 => ?_)
            replace hf := hf.2 y_3 e9
            clear e9
            refine xp_207 C hw (C.2.2.2.2.1 _ hwF_X4_45) dX4_takeNumber_76 (fun u_4 e9 H locs hw => ?_)
            replace hf := hf u_4 e9
            clear e9
            refine lv_aload_n hx hb dX4_takeNumber_79 rfl (lv_at hl 0 rfl) ?_
            refine th_callVv (As := []) (rest := []) C lkX4_74 (X_RD_advance_c hf) hw (xRc_RD C hw) rfl rfl ⟨Nat.le_of_ble_eq_true rfl, Nat.le_of_ble_eq_true rfl⟩ hl.1 (Nat.le_of_ble_eq_true rfl) ⟨Nat.le_of_ble_eq_true rfl, Nat.le_of_ble_eq_true rfl⟩ dX4_takeNumber_80 (fun u_5 H locs hf hw => ?_)
            refine lv_iconst (v := (1 : Int32)) hx hb dX4_takeNumber_83 (by decide) ?_
            exact th_zret C hw hf dX4_takeNumber_84
          · replace hf := hf.2 hc
            clear hc
            exact X_RD_takeNumber_60_w C  u _ _ _ hf hw (lv_sub hl [0] rfl)
      · replace hf := hf.2 hc
        clear hc
        exact X_RD_takeNumber_28_w C  u _ _ _ hf hw (lv_sub hl [0] rfl)
/-! X_Row_init_d -/
theorem dX5_init_0 : decode cX5_init 0 = .ok (.aload_n 0, 1) := by decide +kernel
theorem dX5_init_1 : decode cX5_init 1 = .ok (.invokespecial 1, 3) := by decide +kernel
theorem dX5_init_4 : decode cX5_init 4 = .ok (.aload_n 0, 1) := by decide +kernel
theorem dX5_init_5 : decode cX5_init 5 = .ok (.aload_n 1, 1) := by decide +kernel
theorem dX5_init_6 : decode cX5_init 6 = .ok (.putfield 7, 3) := by decide +kernel
theorem dX5_init_9 : decode cX5_init 9 = .ok (.aload_n 0, 1) := by decide +kernel
theorem dX5_init_10 : decode cX5_init 10 = .ok (.iload_n 2, 1) := by decide +kernel
theorem dX5_init_11 : decode cX5_init 11 = .ok (.putfield 13, 3) := by decide +kernel
theorem dX5_init_14 : decode cX5_init 14 = .ok (.aload_n 0, 1) := by decide +kernel
theorem dX5_init_15 : decode cX5_init 15 = .ok (.iload_n 3, 1) := by decide +kernel
theorem dX5_init_16 : decode cX5_init 16 = .ok (.putfield 17, 3) := by decide +kernel
theorem dX5_init_19 : decode cX5_init 19 = .ok (.return_, 1) := by decide +kernel
def X_Row_init_d (a0 : Nat) (a1 : Option Nat) (a2 : Int32) (a3 : Int32) (u : xs_St) (K : xs_St → Prop) : Prop :=
  (xd_is u a0 1 ∧ ∀ u_1 : xs_St, u_1 = xs_dr u 0 a0 a1 → (xd_is u_1 a0 1 ∧ ∀ u_2 : xs_St, u_2 = xs_di u_1 0 a0 a2 → (xd_is u_2 a0 1 ∧ ∀ u_3 : xs_St, u_3 = xs_di u_2 1 a0 a3 → K u_3)))
set_option maxHeartbeats 4000000 in
set_option maxRecDepth 100000 in
theorem X_Row_init_d_c {l : Launch} {dC : Nat → ClassId} {dI : Nat → Nat → Nat} {cs : Nat → ClassId} {ad ak : Nat → Nat} {q v : Nat → Nat} {a0 : Nat} {a1 : Option Nat} {a2 : Int32} {a3 : Int32} {u : xs_St} {K : xs_St → Prop} (hf : X_Row_init_d a0 a1 a2 a3 u K) : th_Cv l yX5_init cX5_init 4 (none) 1 0 0 (dC, dI) (th_ty cs) (xE ad ak) (wX cs ad q v v) [.ref a0, va_rf a1, .int a2, .int a3] u K := by
  refine th_ofvI (by decide) (by cases a1 <;> exact Nat.le_of_ble_eq_true rfl) (xE_ok ad ak) rfl ?_
  intro p e s m below meth c A ls C hin hw hl
  have C : th_Cx p s m _ meth c cX5_init RX5 4 (none) (dC, dI) (th_ty cs) (xE ad ak) A := C
  have hl : lv_has ls 4 [(0, .ref a0), (1, va_rf a1), (2, .int a2), (3, .int a3)] := by cases a1 <;> exact hl
  generalize (List.toArray _ : Array Value) = args at C ⊢
  have hx := C.1
  have hb := C.2.1
  unfold X_Row_init_d at hf
  refine lv_aload_n hx hb dX5_init_0 rfl (lv_at hl 0 rfl) ?_
  refine W.objInit hx hb C.2.2.2.1 (C.2.2.2.2.1 _ hwM_X5_1) (C.2.2.2.2.1 _ hwN_Object) (C.2.2.2.2.1 _ hwC_Object) rfl (by rw [C.2.2.1]; exact hl.1) rfl dX5_init_1 (Nat.le_of_ble_eq_true rfl) (Nat.le_of_ble_eq_true rfl) ?_
  refine W.eq (g2 := F0 m 4 ls []) rfl ?_
  refine lv_aload_n hx hb dX5_init_4 rfl (lv_at hl 0 rfl) ?_
  refine th_aload_n hx hb dX5_init_5 rfl (lv_at hl 1 rfl) ?_
  obtain ⟨hm, hf⟩ := hf
  refine xdp_Row_numbers (x := a1) C hw hm hin rfl (C.2.2.2.2.1 _ hwF_X5_7) dX5_init_6 (fun u_1 e9 H locs hw => ?_)
  replace hf := hf u_1 e9
  clear e9
  refine lv_aload_n hx hb dX5_init_9 rfl (lv_at hl 0 rfl) ?_
  refine lv_iload_n hx hb dX5_init_10 rfl (lv_at hl 2 rfl) ?_
  obtain ⟨hm, hf⟩ := hf
  refine xdp_Row_hour (x := a2) C hw hm hin rfl (C.2.2.2.2.1 _ hwF_X5_13) dX5_init_11 (fun u_2 e9 H locs hw => ?_)
  replace hf := hf u_2 e9
  clear e9
  refine lv_aload_n hx hb dX5_init_14 rfl (lv_at hl 0 rfl) ?_
  refine lv_iload_n hx hb dX5_init_15 rfl (lv_at hl 3 rfl) ?_
  obtain ⟨hm, hf⟩ := hf
  refine xdp_Row_day (x := a3) C hw hm hin rfl (C.2.2.2.2.1 _ hwF_X5_17) dX5_init_16 (fun u_3 e9 H locs hw => ?_)
  replace hf := hf u_3 e9
  clear e9
  exact th_vret C hw hf dX5_init_19
/-! X_S0_checkIndex_df160 -/
theorem dJ0_checkIndex_df160_0 : decode cJ0_checkIndex_df160 0 = .ok (.iload_n 0, 1) := by decide +kernel
theorem dJ0_checkIndex_df160_1 : decode cJ0_checkIndex_df160 1 = .ok (.iload_n 1, 1) := by decide +kernel
theorem dJ0_checkIndex_df160_2 : decode cJ0_checkIndex_df160 2 = .ok (.getstatic 1053, 3) := by decide +kernel
theorem dJ0_checkIndex_df160_5 : decode cJ0_checkIndex_df160 5 = .ok (.invokestatic 1059, 3) := by decide +kernel
theorem dJ0_checkIndex_df160_8 : decode cJ0_checkIndex_df160 8 = .ok (.pop, 1) := by decide +kernel
theorem dJ0_checkIndex_df160_9 : decode cJ0_checkIndex_df160 9 = .ok (.return_, 1) := by decide +kernel
def X_S0_checkIndex_df160 (a1 : Int32) (a2 : Int32) (u : xs_St) (K : xs_St → Prop) : Prop :=
  ∀ r_1 : Option Nat, X_S3_checkIndex_8e157 a1 a2 r_1 u (fun r_3 u_2 => K u_2)
set_option maxHeartbeats 4000000 in
set_option maxRecDepth 100000 in
theorem X_S0_checkIndex_df160_c {l : Launch} {dC : Nat → ClassId} {dI : Nat → Nat → Nat} {cs : Nat → ClassId} {ad ak : Nat → Nat} {q v : Nat → Nat} {a1 : Int32} {a2 : Int32} {u : xs_St} {K : xs_St → Prop} (hf : X_S0_checkIndex_df160 a1 a2 u K) : th_Cv l yJ0_checkIndex_df160 cJ0_checkIndex_df160 2 (none) 1 0 0 (dC, dI) (th_ty cs) (xE ad ak) (wX cs ad q v v) [.int a1, .int a2] u K := by
  refine th_ofv (by decide) (Nat.le_of_ble_eq_true rfl) (xE_ok ad ak) ?_
  intro p e s m below meth c A ls C hw hl
  have C : th_Cx p s m _ meth c cJ0_checkIndex_df160 RJ0 2 (none) (dC, dI) (th_ty cs) (xE ad ak) A := C
  have hl : lv_has ls 2 [(0, .int a1), (1, .int a2)] := hl
  generalize (List.toArray _ : Array Value) = args at C ⊢
  have hx := C.1
  have hb := C.2.1
  unfold X_S0_checkIndex_df160 at hf
  refine lv_iload_n hx hb dJ0_checkIndex_df160_0 rfl (lv_at hl 0 rfl) ?_
  refine lv_iload_n hx hb dJ0_checkIndex_df160_1 rfl (lv_at hl 1 rfl) ?_
  refine x_fmt C hw (C.2.2.2.2.1 _ hwF_J0_1053) dJ0_checkIndex_df160_2 (fun r_1 => ?_)
  replace hf := hf r_1
  refine th_callSji (As := [.int a1, .int a2, va_rf r_1]) (rest := []) C lkJJ0_1059 (X_S3_checkIndex_8e157_c hf) hw rfl rfl ⟨Nat.le_of_ble_eq_true rfl, Nat.le_of_ble_eq_true rfl⟩ hl.1 (Nat.le_of_ble_eq_true rfl) ⟨Nat.le_of_ble_eq_true rfl, Nat.le_of_ble_eq_true rfl⟩ dJ0_checkIndex_df160_5 (fun r_3 u_2 H locs hf hw => ?_)
  refine lv_pop hx hb dJ0_checkIndex_df160_8 rfl ?_
  exact th_vret C hw hf dJ0_checkIndex_df160_9
/-! X_S0_length_8abf5_s -/
theorem dJ0_length_8abf5_0 : decode cJ0_length_8abf5 0 = .ok (.aload_n 0, 1) := by decide +kernel
theorem dJ0_length_8abf5_1 : decode cJ0_length_8abf5 1 = .ok (.getfield 9, 3) := by decide +kernel
theorem dJ0_length_8abf5_4 : decode cJ0_length_8abf5 4 = .ok (.arraylength, 1) := by decide +kernel
theorem dJ0_length_8abf5_5 : decode cJ0_length_8abf5 5 = .ok (.aload_n 0, 1) := by decide +kernel
theorem dJ0_length_8abf5_6 : decode cJ0_length_8abf5 6 = .ok (.invokevirtual 335, 3) := by decide +kernel
theorem dJ0_length_8abf5_9 : decode cJ0_length_8abf5 9 = .ok (.ishr, 1) := by decide +kernel
theorem dJ0_length_8abf5_10 : decode cJ0_length_8abf5 10 = .ok (.ireturn, 1) := by decide +kernel
def X_S0_length_8abf5_s (a0 : Nat) (u : xs_St) (K : Int32 → xs_St → Prop) : Prop :=
  (a0 < 27 ∧ (a0 < 27 ∧ (a0 < 27 ∧ X_S0_coder_7d493_s a0 u (fun r_2 u_1 => K ((nI (xs_len a0)) >>> (r_2 &&& 31)) u_1))))
set_option maxHeartbeats 4000000 in
set_option maxRecDepth 100000 in
theorem X_S0_length_8abf5_s_c {l : Launch} {dC : Nat → ClassId} {dI : Nat → Nat → Nat} {cs : Nat → ClassId} {ad ak : Nat → Nat} {q v : Nat → Nat} {a0 : Nat} {u : xs_St} {K : Int32 → xs_St → Prop} (hf : X_S0_length_8abf5_s a0 u K) : th_Ci l yJ0_length_8abf5 cJ0_length_8abf5 1 (some .int) 1 0 0 (dC, dI) (th_ty cs) (xE ad ak) (wX cs ad q v v) [.ref (ak (100 + a0))] u K := by
  refine th_ofi (by decide) (Nat.le_of_ble_eq_true rfl) (xE_ok ad ak) ?_
  intro p e s m below meth c A ls C hw hl
  have C : th_Cx p s m _ meth c cJ0_length_8abf5 RJ0 1 (some .int) (dC, dI) (th_ty cs) (xE ad ak) A := C
  have hl : lv_has ls 1 [(0, .ref (ak (100 + a0)))] := hl
  generalize (List.toArray _ : Array Value) = args at C ⊢
  have hx := C.1
  have hb := C.2.1
  unfold X_S0_length_8abf5_s at hf
  refine lv_aload_n hx hb dJ0_length_8abf5_0 rfl (lv_at hl 0 rfl) ?_
  refine x_sval C hw hf.1 (C.2.2.2.2.1 _ hwF_J0_9) dJ0_length_8abf5_1 ?_
  replace hf := hf.2
  refine x_sln C hw hf.1 dJ0_length_8abf5_4 ?_
  replace hf := hf.2
  refine lv_aload_n hx hb dJ0_length_8abf5_5 rfl (lv_at hl 0 rfl) ?_
  obtain ⟨hf9, hf⟩ := hf
  refine th_callVi (As := []) (rest := [.int (nI (xs_len a0))]) C lkJ0_335 (X_S0_coder_7d493_s_c hf) hw (x_src C hw hf9) rfl rfl ⟨Nat.le_of_ble_eq_true rfl, Nat.le_of_ble_eq_true rfl⟩ hl.1 (Nat.le_of_ble_eq_true rfl) ⟨Nat.le_of_ble_eq_true rfl, Nat.le_of_ble_eq_true rfl⟩ dJ0_length_8abf5_6 (fun r_2 u_1 H locs hf hw => ?_)
  refine lv_ishr hx hb dJ0_length_8abf5_9 ?_
  exact th_iret C hw hf dJ0_length_8abf5_10
/-! X_TH_countWays -/
theorem dX11_countWays_0 : decode cX11_countWays 0 = .ok (.iconst 2, 1) := by decide +kernel
theorem dX11_countWays_1 : decode cX11_countWays 1 = .ok (.aload_n 0, 1) := by decide +kernel
theorem dX11_countWays_2 : decode cX11_countWays 2 = .ok (.getfield 69, 3) := by decide +kernel
theorem dX11_countWays_5 : decode cX11_countWays 5 = .ok (.getfield 189, 3) := by decide +kernel
theorem dX11_countWays_8 : decode cX11_countWays 8 = .ok (.imul, 1) := by decide +kernel
theorem dX11_countWays_9 : decode cX11_countWays 9 = .ok (.iconst 1, 1) := by decide +kernel
theorem dX11_countWays_10 : decode cX11_countWays 10 = .ok (.iadd, 1) := by decide +kernel
theorem dX11_countWays_11 : decode cX11_countWays 11 = .ok (.istore_n 2, 1) := by decide +kernel
theorem dX11_countWays_12 : decode cX11_countWays 12 = .ok (.lconst 1, 1) := by decide +kernel
theorem dX11_countWays_13 : decode cX11_countWays 13 = .ok (.lstore_n 3, 1) := by decide +kernel
theorem dX11_countWays_14 : decode cX11_countWays 14 = .ok (.aload_n 0, 1) := by decide +kernel
theorem dX11_countWays_15 : decode cX11_countWays 15 = .ok (.getfield 73, 3) := by decide +kernel
theorem dX11_countWays_18 : decode cX11_countWays 18 = .ok (.lconst 0, 1) := by decide +kernel
theorem dX11_countWays_19 : decode cX11_countWays 19 = .ok (.invokestatic 260, 3) := by decide +kernel
theorem dX11_countWays_22 : decode cX11_countWays 22 = .ok (.aload_n 0, 1) := by decide +kernel
theorem dX11_countWays_23 : decode cX11_countWays 23 = .ok (.getfield 73, 3) := by decide +kernel
theorem dX11_countWays_26 : decode cX11_countWays 26 = .ok (.iconst 0, 1) := by decide +kernel
theorem dX11_countWays_27 : decode cX11_countWays 27 = .ok (.lconst 1, 1) := by decide +kernel
theorem dX11_countWays_28 : decode cX11_countWays 28 = .ok (.lastore, 1) := by decide +kernel
theorem dX11_countWays_29 : decode cX11_countWays 29 = .ok (.iconst 0, 1) := by decide +kernel
theorem dX11_countWays_30 : decode cX11_countWays 30 = .ok (.istore 5, 2) := by decide +kernel
theorem dX11_countWays_32 : decode cX11_countWays 32 = .ok (.iload 5, 2) := by decide +kernel
theorem dX11_countWays_34 : decode cX11_countWays 34 = .ok (.iload_n 1, 1) := by decide +kernel
theorem dX11_countWays_35 : decode cX11_countWays 35 = .ok (.if_icmp .ge 19, 3) := by decide +kernel
theorem dX11_countWays_38 : decode cX11_countWays 38 = .ok (.aload_n 0, 1) := by decide +kernel
theorem dX11_countWays_39 : decode cX11_countWays 39 = .ok (.iload_n 2, 1) := by decide +kernel
theorem dX11_countWays_40 : decode cX11_countWays 40 = .ok (.invokevirtual 266, 3) := by decide +kernel
theorem dX11_countWays_43 : decode cX11_countWays 43 = .ok (.lload_n 3, 1) := by decide +kernel
theorem dX11_countWays_44 : decode cX11_countWays 44 = .ok (.iload_n 2, 1) := by decide +kernel
theorem dX11_countWays_45 : decode cX11_countWays 45 = .ok (.i2l, 1) := by decide +kernel
theorem dX11_countWays_46 : decode cX11_countWays 46 = .ok (.lmul, 1) := by decide +kernel
theorem dX11_countWays_47 : decode cX11_countWays 47 = .ok (.lstore_n 3, 1) := by decide +kernel
theorem dX11_countWays_48 : decode cX11_countWays 48 = .ok (.iinc 5 1, 3) := by decide +kernel
theorem dX11_countWays_51 : decode cX11_countWays 51 = .ok (.goto (-19), 3) := by decide +kernel
theorem dX11_countWays_54 : decode cX11_countWays 54 = .ok (.lload_n 3, 1) := by decide +kernel
theorem dX11_countWays_55 : decode cX11_countWays 55 = .ok (.lreturn, 1) := by decide +kernel
def X_TH_countWays_32 (K : Int64 → xs_St → Prop) (k32 : Int32 → Int32 → Int64 → Int32 → xs_St → Prop) (x1 : Int32) (x2 : Int32) (x3 : Int64) (x5 : Int32) (u : xs_St) : Prop :=
  ((x1 ≤ x5 → K x3 u) ∧ (¬ x1 ≤ x5 → X_TH_addNoise x2 u (fun u_1 => ∀ y_4 : Int64, y_4 = (x3 * (x2).toInt64) → ∀ x5_5 : Int32, x5_5 = x5 + (1 : Int32) → k32 x1 x2 y_4 x5_5 u_1)))
set_option maxHeartbeats 4000000 in
set_option maxRecDepth 100000 in
theorem X_TH_countWays_32_w {K : Int64 → xs_St → Prop} {k32 : Int32 → Int32 → Int64 → Int32 → xs_St → Prop} (C : th_Cx p s m args meth c cX11_countWays RX11 6 (some .long) (dC, dI) (th_ty cs) (xE ad ak) A) (hk32 : ∀ (x1 : Int32) (x2 : Int32) (x3 : Int64) (x5 : Int32) (v : Nat → Nat) (u : xs_St) (H : Heap) (locs : List Loc) (ls : Array Slot), k32 x1 x2 x3 x5 u → th_wI (dC, dI) (wX cs ad q v v) A s.heap u H locs → lv_has ls 6 [(0, .ref (q 99)), (1, .int x1), (2, .int x2), (3, .long x3), (5, .int x5)] → W p l e (th_rm 1 0 0) s m args below meth c H locs 0 0 (MQ below (va_Ql (fun r9 a9 => K r9 a9.2) (th_Post (dC, dI) (wXs cs ad q) A) A) args s 0 0 A) (F0 m 32 ls [])) (x1 : Int32) (x2 : Int32) (x3 : Int64) (x5 : Int32) (v : Nat → Nat) (u : xs_St) (H : Heap) (locs : List Loc) (ls : Array Slot) (hf : X_TH_countWays_32 K k32 x1 x2 x3 x5 u) (hw : th_wI (dC, dI) (wX cs ad q v v) A s.heap u H locs) (hl : lv_has ls 6 [(0, .ref (q 99)), (1, .int x1), (2, .int x2), (3, .long x3), (5, .int x5)]) : W p l e (th_rm 1 0 0) s m args below meth c H locs 0 0 (MQ below (va_Ql (fun r9 a9 => K r9 a9.2) (th_Post (dC, dI) (wXs cs ad q) A) A) args s 0 0 A) (F0 m 32 ls []) := by
  have hx := C.1
  have hb := C.2.1
  unfold X_TH_countWays_32 at hf
  refine lv_iload hx hb dX11_countWays_32 (lv_at hl 4 rfl) ?_
  refine lv_iload_n hx hb dX11_countWays_34 rfl (lv_at hl 1 rfl) ?_
  refine lv_icmp_ge (tgt := 54) hx hb dX11_countWays_35 (by decide) (fun hc => ?_) (fun hc => ?_)
  · replace hf := hf.1 hc
    clear hc
    refine lv_lload_n hx hb dX11_countWays_54 rfl (lv_at hl 3 rfl) ?_
    exact th_lret (K := (fun r9 a9 => K r9 a9.2)) (w := wXs cs ad q) (u := (v, u)) C hw hf dX11_countWays_55
  · replace hf := hf.2 hc
    clear hc
    refine lv_aload_n hx hb dX11_countWays_38 rfl (lv_at hl 0 rfl) ?_
    refine lv_iload_n hx hb dX11_countWays_39 rfl (lv_at hl 2 rfl) ?_
    refine th_callVv (As := [.int x2]) (rest := []) (w := wXs cs ad q) (u := (v, u)) C lkX11_266 (X_TH_addNoise_c hf) (show th_wI (dC, dI) (wXs cs ad q) A s.heap (v, u) _ _ from hw) (xRc_TH C hw) rfl rfl ⟨Nat.le_of_ble_eq_true rfl, Nat.le_of_ble_eq_true rfl⟩ hl.1 (Nat.le_of_ble_eq_true rfl) ⟨Nat.le_of_ble_eq_true rfl, Nat.le_of_ble_eq_true rfl⟩ dX11_countWays_40 (fun a9 H locs hf hw => ?_)
    obtain ⟨v_3, u_1⟩ := a9
    have hw : th_wI (dC, dI) (wX cs ad q v_3 v_3) A s.heap u_1 _ _ := hw
    refine lv_lload_n hx hb dX11_countWays_43 rfl (lv_at hl 3 rfl) ?_
    refine lv_iload_n hx hb dX11_countWays_44 rfl (lv_at hl 2 rfl) ?_
    refine lv_i2l hx hb dX11_countWays_45 rfl ?_
    refine lv_lmul hx hb dX11_countWays_46 ?_
    refine lv_topl (fun y_4 e9 => ?_)
    replace hf := hf y_4 e9
    clear e9
    refine lv_lstore_n (lv' := [(3, .long y_4), (0, .ref (q 99)), (1, .int x1), (2, .int x2), (5, .int x5)]) hx hb dX11_countWays_47 rfl hl (by decide) rfl (fun ls hl => ?_)
    obtain ⟨x5_5, e9⟩ : ∃ y : Int32, y = x5 + (1 : Int32) := ⟨_, rfl⟩
    replace hf := hf x5_5 e9
    refine lv_iinc (v := x5_5) (lv' := [(5, .int x5_5), (3, .long y_4), (0, .ref (q 99)), (1, .int x1), (2, .int x2)]) hx hb dX11_countWays_48 hl (k := 4) rfl (by rw [e9]; rfl) (by decide) rfl (fun ls hl => ?_)
    clear e9
    refine lv_goto (tgt := 32) hx hb dX11_countWays_51 (by decide) ?_
    exact hk32 x1 x2 y_4 x5_5 v_3 u_1 _ _ _ hf hw (lv_sub hl [2, 3, 4, 1, 0] rfl)
def X_TH_countWays_32_lp (K : Int64 → xs_St → Prop) : Nat → Int32 → Int32 → Int64 → Int32 → xs_St → Prop
  | 0, _, _, _, _, _ => False
  | n + 1, x1, x2, x3, x5, u => X_TH_countWays_32 K (X_TH_countWays_32_lp K n) x1 x2 x3 x5 u
set_option maxHeartbeats 4000000 in
set_option maxRecDepth 100000 in
theorem X_TH_countWays_32_lw {K : Int64 → xs_St → Prop} (C : th_Cx p s m args meth c cX11_countWays RX11 6 (some .long) (dC, dI) (th_ty cs) (xE ad ak) A) (n : Nat) : ∀ (x1 : Int32) (x2 : Int32) (x3 : Int64) (x5 : Int32) (v : Nat → Nat) (u : xs_St) (H : Heap) (locs : List Loc) (ls : Array Slot), X_TH_countWays_32_lp K n x1 x2 x3 x5 u → th_wI (dC, dI) (wX cs ad q v v) A s.heap u H locs → lv_has ls 6 [(0, .ref (q 99)), (1, .int x1), (2, .int x2), (3, .long x3), (5, .int x5)] → W p l e (th_rm 1 0 0) s m args below meth c H locs 0 0 (MQ below (va_Ql (fun r9 a9 => K r9 a9.2) (th_Post (dC, dI) (wXs cs ad q) A) A) args s 0 0 A) (F0 m 32 ls []) := by
  induction n with
  | zero => intro x1 x2 x3 x5 v u H locs ls hf; exact hf.elim
  | succ n ih =>
    intro x1 x2 x3 x5 v u H locs ls hf hw hl
    exact X_TH_countWays_32_w C ih x1 x2 x3 x5 v u H locs ls hf hw hl
def X_TH_countWays (a1 : Int32) (u : xs_St) (K : Int64 → xs_St → Prop) : Prop :=
  ∀ y_1 : Int32, y_1 = (((2 : Int32) * (xi u 303)) + (1 : Int32)) → X_J_fill_d0a16_10 (0 : Int64) u (fun u_2 => (vp_in (0 : Int32) 217 ∧ ∀ u_4 : xs_St, u_4 = xs_sl u_2 10 (vp_updL (xl u_2 10) ((0 : Int32)).toNatClampNeg (1 : Int64)) → ∃ n, X_TH_countWays_32_lp K n a1 y_1 (1 : Int64) (0 : Int32) u_4))
set_option maxHeartbeats 4000000 in
set_option maxRecDepth 100000 in
theorem X_TH_countWays_c {l : Launch} {dC : Nat → ClassId} {dI : Nat → Nat → Nat} {cs : Nat → ClassId} {ad ak : Nat → Nat} {q v : Nat → Nat} {a1 : Int32} {u : xs_St} {K : Int64 → xs_St → Prop} (hf : X_TH_countWays a1 u K) : th_Cl l yX11_countWays cX11_countWays 6 (some .long) 1 0 0 (dC, dI) (th_ty cs) (xE ad ak) (wXs cs ad q) [.ref (q 99), .int a1] (v, u) (fun r9 a9 => K r9 a9.2) := by
  refine th_ofl (by decide) (Nat.le_of_ble_eq_true rfl) (xE_ok ad ak) ?_
  intro p e s m below meth c A ls C hw hl
  have C : th_Cx p s m _ meth c cX11_countWays RX11 6 (some .long) (dC, dI) (th_ty cs) (xE ad ak) A := C
  have hl : lv_has ls 6 [(0, .ref (q 99)), (1, .int a1)] := hl
  generalize (List.toArray _ : Array Value) = args at C ⊢
  have hx := C.1
  have hb := C.2.1
  unfold X_TH_countWays at hf
  refine lv_iconst (v := (2 : Int32)) hx hb dX11_countWays_0 (by decide) ?_
  refine lv_aload_n hx hb dX11_countWays_1 rfl (lv_at hl 0 rfl) ?_
  refine xg_9 C hw (C.2.2.2.2.1 _ hwF_X11_69) dX11_countWays_2 ?_
  refine xgn_303 C hw (va_Nw.use rfl (xN C hwG_X11_189)) dX11_countWays_5 ?_
  refine lv_imul hx hb dX11_countWays_8 ?_
  refine lv_iconst (v := (1 : Int32)) hx hb dX11_countWays_9 (by decide) ?_
  refine lv_iadd hx hb dX11_countWays_10 ?_
  refine lv_topi (fun y_1 e9 => ?_)
  replace hf := hf y_1 e9
  clear e9
  refine lv_istore_n (lv' := [(2, .int y_1), (0, .ref (q 99)), (1, .int a1)]) hx hb dX11_countWays_11 rfl hl (by decide) rfl (fun ls hl => ?_)
  refine lv_lconst (v := (1 : Int64)) hx hb dX11_countWays_12 (by decide) ?_
  refine lv_lstore_n (lv' := [(3, .long (1 : Int64)), (2, .int y_1), (0, .ref (q 99)), (1, .int a1)]) hx hb dX11_countWays_13 rfl hl (by decide) rfl (fun ls hl => ?_)
  refine lv_aload_n hx hb dX11_countWays_14 rfl (lv_at hl 2 rfl) ?_
  refine xg_10 C hw (C.2.2.2.2.1 _ hwF_X11_73) dX11_countWays_15 ?_
  refine lv_lconst (v := (0 : Int64)) hx hb dX11_countWays_18 (by decide) ?_
  refine th_callSv (As := [.ref (v 10), .long (0 : Int64)]) (rest := []) C lkJX11_260 (X_J_fill_d0a16_10_c hf) hw rfl rfl ⟨Nat.le_of_ble_eq_true rfl, Nat.le_of_ble_eq_true rfl⟩ hl.1 (Nat.le_of_ble_eq_true rfl) ⟨Nat.le_of_ble_eq_true rfl, Nat.le_of_ble_eq_true rfl⟩ dX11_countWays_19 (fun u_2 H locs hf hw => ?_)
  refine lv_aload_n hx hb dX11_countWays_22 rfl (lv_at hl 2 rfl) ?_
  refine xg_10 C hw (C.2.2.2.2.1 _ hwF_X11_73) dX11_countWays_23 ?_
  refine lv_iconst (v := (0 : Int32)) hx hb dX11_countWays_26 (by decide) ?_
  refine lv_lconst (v := (1 : Int64)) hx hb dX11_countWays_27 (by decide) ?_
  refine ys_10 C hw hf.1 dX11_countWays_28 (fun u_4 e9 H locs hw => ?_)
  replace hf := hf.2 u_4 e9
  clear e9
  refine lv_iconst (v := (0 : Int32)) hx hb dX11_countWays_29 (by decide) ?_
  refine lv_istore (lv' := [(5, .int (0 : Int32)), (3, .long (1 : Int64)), (2, .int y_1), (0, .ref (q 99)), (1, .int a1)]) hx hb dX11_countWays_30 hl (by decide) rfl (fun ls hl => ?_)
  obtain ⟨n, hf⟩ := hf
  exact X_TH_countWays_32_lw C n a1 y_1 (1 : Int64) (0 : Int32) v u_4 _ _ _ hf hw (lv_sub hl [3, 4, 2, 1, 0] rfl)
/-! X_TH_feed -/
theorem dX11_feed_0 : decode cX11_feed 0 = .ok (.aload_n 0, 1) := by decide +kernel
theorem dX11_feed_1 : decode cX11_feed 1 = .ok (.getfield 10, 3) := by decide +kernel
theorem dX11_feed_4 : decode cX11_feed 4 = .ok (.bipush 20, 2) := by decide +kernel
theorem dX11_feed_6 : decode cX11_feed 6 = .ok (.invokevirtual 83, 3) := by decide +kernel
theorem dX11_feed_9 : decode cX11_feed 9 = .ok (.ifCond .ne 5, 3) := by decide +kernel
theorem dX11_feed_12 : decode cX11_feed 12 = .ok (.iconst (-1), 1) := by decide +kernel
theorem dX11_feed_13 : decode cX11_feed 13 = .ok (.ireturn, 1) := by decide +kernel
theorem dX11_feed_14 : decode cX11_feed 14 = .ok (.aload_n 0, 1) := by decide +kernel
theorem dX11_feed_15 : decode cX11_feed 15 = .ok (.getfield 10, 3) := by decide +kernel
theorem dX11_feed_18 : decode cX11_feed 18 = .ok (.iload_n 1, 1) := by decide +kernel
theorem dX11_feed_19 : decode cX11_feed 19 = .ok (.invokevirtual 87, 3) := by decide +kernel
theorem dX11_feed_22 : decode cX11_feed 22 = .ok (.aload_n 0, 1) := by decide +kernel
theorem dX11_feed_23 : decode cX11_feed 23 = .ok (.getfield 10, 3) := by decide +kernel
theorem dX11_feed_26 : decode cX11_feed 26 = .ok (.iload_n 2, 1) := by decide +kernel
theorem dX11_feed_27 : decode cX11_feed 27 = .ok (.invokevirtual 87, 3) := by decide +kernel
theorem dX11_feed_30 : decode cX11_feed 30 = .ok (.aload_n 0, 1) := by decide +kernel
theorem dX11_feed_31 : decode cX11_feed 31 = .ok (.getfield 10, 3) := by decide +kernel
theorem dX11_feed_34 : decode cX11_feed 34 = .ok (.iload_n 3, 1) := by decide +kernel
theorem dX11_feed_35 : decode cX11_feed 35 = .ok (.invokevirtual 87, 3) := by decide +kernel
theorem dX11_feed_38 : decode cX11_feed 38 = .ok (.aload_n 0, 1) := by decide +kernel
theorem dX11_feed_39 : decode cX11_feed 39 = .ok (.getfield 10, 3) := by decide +kernel
theorem dX11_feed_42 : decode cX11_feed 42 = .ok (.iload 4, 2) := by decide +kernel
theorem dX11_feed_44 : decode cX11_feed 44 = .ok (.invokevirtual 87, 3) := by decide +kernel
theorem dX11_feed_47 : decode cX11_feed 47 = .ok (.aload_n 0, 1) := by decide +kernel
theorem dX11_feed_48 : decode cX11_feed 48 = .ok (.getfield 10, 3) := by decide +kernel
theorem dX11_feed_51 : decode cX11_feed 51 = .ok (.iload 5, 2) := by decide +kernel
theorem dX11_feed_53 : decode cX11_feed 53 = .ok (.invokevirtual 87, 3) := by decide +kernel
theorem dX11_feed_56 : decode cX11_feed 56 = .ok (.aload_n 0, 1) := by decide +kernel
theorem dX11_feed_57 : decode cX11_feed 57 = .ok (.getfield 10, 3) := by decide +kernel
theorem dX11_feed_60 : decode cX11_feed 60 = .ok (.getfield 91, 3) := by decide +kernel
theorem dX11_feed_63 : decode cX11_feed 63 = .ok (.ireturn, 1) := by decide +kernel
def X_TH_feed (a1 : Int32) (a2 : Int32) (a3 : Int32) (a4 : Int32) (a5 : Int32) (u : xs_St) (K : Int32 → xs_St → Prop) : Prop :=
  X_TP_hasRoom (20 : Int32) u (fun r_2 u_1 => ((¬ r_2 = 0 → X_TP_put a1 u_1 (fun u_3 => X_TP_put a2 u_3 (fun u_5 => X_TP_put a3 u_5 (fun u_7 => X_TP_put a4 u_7 (fun u_9 => X_TP_put a5 u_9 (fun u_11 => K (xi u_11 101) u_11)))))) ∧ (r_2 = 0 → K (-1 : Int32) u_1)))
set_option maxHeartbeats 4000000 in
set_option maxRecDepth 100000 in
theorem X_TH_feed_c {l : Launch} {dC : Nat → ClassId} {dI : Nat → Nat → Nat} {cs : Nat → ClassId} {ad ak : Nat → Nat} {q v : Nat → Nat} {a1 : Int32} {a2 : Int32} {a3 : Int32} {a4 : Int32} {a5 : Int32} {u : xs_St} {K : Int32 → xs_St → Prop} (hf : X_TH_feed a1 a2 a3 a4 a5 u K) : th_Ci l yX11_feed cX11_feed 6 (some .int) 1 0 0 (dC, dI) (th_ty cs) (xE ad ak) (wX cs ad q v v) [.ref (q 99), .int a1, .int a2, .int a3, .int a4, .int a5] u K := by
  refine th_ofi (by decide) (Nat.le_of_ble_eq_true rfl) (xE_ok ad ak) ?_
  intro p e s m below meth c A ls C hw hl
  have C : th_Cx p s m _ meth c cX11_feed RX11 6 (some .int) (dC, dI) (th_ty cs) (xE ad ak) A := C
  have hl : lv_has ls 6 [(0, .ref (q 99)), (1, .int a1), (2, .int a2), (3, .int a3), (4, .int a4), (5, .int a5)] := hl
  generalize (List.toArray _ : Array Value) = args at C ⊢
  have hx := C.1
  have hb := C.2.1
  unfold X_TH_feed at hf
  refine lv_aload_n hx hb dX11_feed_0 rfl (lv_at hl 0 rfl) ?_
  refine xg_0 C hw (C.2.2.2.2.1 _ hwF_X11_10) dX11_feed_1 ?_
  refine lv_bipush (v := (20 : Int32)) hx hb dX11_feed_4 (by decide) ?_
  refine th_callVi (As := [.int (20 : Int32)]) (rest := []) C lkX11_83 (X_TP_hasRoom_c hf) hw (xRc_TP C hw) rfl rfl ⟨Nat.le_of_ble_eq_true rfl, Nat.le_of_ble_eq_true rfl⟩ hl.1 (Nat.le_of_ble_eq_true rfl) ⟨Nat.le_of_ble_eq_true rfl, Nat.le_of_ble_eq_true rfl⟩ dX11_feed_6 (fun r_2 u_1 H locs hf hw => ?_)
  refine lv_if_ne (tgt := 14) hx hb dX11_feed_9 (by decide) (fun hc => ?_) (fun hc => ?_)
  · replace hf := hf.1 hc
    clear hc
    refine lv_aload_n hx hb dX11_feed_14 rfl (lv_at hl 0 rfl) ?_
    refine xg_0 C hw (C.2.2.2.2.1 _ hwF_X11_10) dX11_feed_15 ?_
    refine lv_iload_n hx hb dX11_feed_18 rfl (lv_at hl 1 rfl) ?_
    refine th_callVv (As := [.int a1]) (rest := []) C lkX11_87 (X_TP_put_c hf) hw (xRc_TP C hw) rfl rfl ⟨Nat.le_of_ble_eq_true rfl, Nat.le_of_ble_eq_true rfl⟩ hl.1 (Nat.le_of_ble_eq_true rfl) ⟨Nat.le_of_ble_eq_true rfl, Nat.le_of_ble_eq_true rfl⟩ dX11_feed_19 (fun u_3 H locs hf hw => ?_)
    refine lv_aload_n hx hb dX11_feed_22 rfl (lv_at hl 0 rfl) ?_
    refine xg_0 C hw (C.2.2.2.2.1 _ hwF_X11_10) dX11_feed_23 ?_
    refine lv_iload_n hx hb dX11_feed_26 rfl (lv_at hl 2 rfl) ?_
    refine th_callVv (As := [.int a2]) (rest := []) C lkX11_87 (X_TP_put_c hf) hw (xRc_TP C hw) rfl rfl ⟨Nat.le_of_ble_eq_true rfl, Nat.le_of_ble_eq_true rfl⟩ hl.1 (Nat.le_of_ble_eq_true rfl) ⟨Nat.le_of_ble_eq_true rfl, Nat.le_of_ble_eq_true rfl⟩ dX11_feed_27 (fun u_5 H locs hf hw => ?_)
    refine lv_aload_n hx hb dX11_feed_30 rfl (lv_at hl 0 rfl) ?_
    refine xg_0 C hw (C.2.2.2.2.1 _ hwF_X11_10) dX11_feed_31 ?_
    refine lv_iload_n hx hb dX11_feed_34 rfl (lv_at hl 3 rfl) ?_
    refine th_callVv (As := [.int a3]) (rest := []) C lkX11_87 (X_TP_put_c hf) hw (xRc_TP C hw) rfl rfl ⟨Nat.le_of_ble_eq_true rfl, Nat.le_of_ble_eq_true rfl⟩ hl.1 (Nat.le_of_ble_eq_true rfl) ⟨Nat.le_of_ble_eq_true rfl, Nat.le_of_ble_eq_true rfl⟩ dX11_feed_35 (fun u_7 H locs hf hw => ?_)
    refine lv_aload_n hx hb dX11_feed_38 rfl (lv_at hl 0 rfl) ?_
    refine xg_0 C hw (C.2.2.2.2.1 _ hwF_X11_10) dX11_feed_39 ?_
    refine lv_iload hx hb dX11_feed_42 (lv_at hl 4 rfl) ?_
    refine th_callVv (As := [.int a4]) (rest := []) C lkX11_87 (X_TP_put_c hf) hw (xRc_TP C hw) rfl rfl ⟨Nat.le_of_ble_eq_true rfl, Nat.le_of_ble_eq_true rfl⟩ hl.1 (Nat.le_of_ble_eq_true rfl) ⟨Nat.le_of_ble_eq_true rfl, Nat.le_of_ble_eq_true rfl⟩ dX11_feed_44 (fun u_9 H locs hf hw => ?_)
    refine lv_aload_n hx hb dX11_feed_47 rfl (lv_at hl 0 rfl) ?_
    refine xg_0 C hw (C.2.2.2.2.1 _ hwF_X11_10) dX11_feed_48 ?_
    refine lv_iload hx hb dX11_feed_51 (lv_at hl 5 rfl) ?_
    refine th_callVv (As := [.int a5]) (rest := []) C lkX11_87 (X_TP_put_c hf) hw (xRc_TP C hw) rfl rfl ⟨Nat.le_of_ble_eq_true rfl, Nat.le_of_ble_eq_true rfl⟩ hl.1 (Nat.le_of_ble_eq_true rfl) ⟨Nat.le_of_ble_eq_true rfl, Nat.le_of_ble_eq_true rfl⟩ dX11_feed_53 (fun u_11 H locs hf hw => ?_)
    refine lv_aload_n hx hb dX11_feed_56 rfl (lv_at hl 0 rfl) ?_
    refine xg_0 C hw (C.2.2.2.2.1 _ hwF_X11_10) dX11_feed_57 ?_
    refine xgn_101 C hw (va_Nw.use rfl (xN C hwG_X11_91)) dX11_feed_60 ?_
    exact th_iret C hw hf dX11_feed_63
  · replace hf := hf.2 hc
    clear hc
    refine lv_iconst (v := (-1 : Int32)) hx hb dX11_feed_12 (by decide) ?_
    exact th_iret C hw hf dX11_feed_13
/-! X_TH_foot -/
theorem dX11_foot_0 : decode cX11_foot 0 = .ok (.aload_n 0, 1) := by decide +kernel
theorem dX11_foot_1 : decode cX11_foot 1 = .ok (.getfield 69, 3) := by decide +kernel
theorem dX11_foot_4 : decode cX11_foot 4 = .ok (.iload_n 1, 1) := by decide +kernel
theorem dX11_foot_5 : decode cX11_foot 5 = .ok (.invokevirtual 116, 3) := by decide +kernel
theorem dX11_foot_8 : decode cX11_foot 8 = .ok (.ifCond .ne 5, 3) := by decide +kernel
theorem dX11_foot_11 : decode cX11_foot 11 = .ok (.iconst (-1), 1) := by decide +kernel
theorem dX11_foot_12 : decode cX11_foot 12 = .ok (.ireturn, 1) := by decide +kernel
theorem dX11_foot_13 : decode cX11_foot 13 = .ok (.iload_n 2, 1) := by decide +kernel
theorem dX11_foot_14 : decode cX11_foot 14 = .ok (.ifCond .ne 21, 3) := by decide +kernel
theorem dX11_foot_17 : decode cX11_foot 17 = .ok (.aload_n 0, 1) := by decide +kernel
theorem dX11_foot_18 : decode cX11_foot 18 = .ok (.getfield 69, 3) := by decide +kernel
theorem dX11_foot_21 : decode cX11_foot 21 = .ok (.getfield 119, 3) := by decide +kernel
theorem dX11_foot_24 : decode cX11_foot 24 = .ok (.iload_n 1, 1) := by decide +kernel
theorem dX11_foot_25 : decode cX11_foot 25 = .ok (.baload, 1) := by decide +kernel
theorem dX11_foot_26 : decode cX11_foot 26 = .ok (.ifCond .eq 7, 3) := by decide +kernel
theorem dX11_foot_29 : decode cX11_foot 29 = .ok (.iconst 1, 1) := by decide +kernel
theorem dX11_foot_30 : decode cX11_foot 30 = .ok (.goto 4, 3) := by decide +kernel
theorem dX11_foot_33 : decode cX11_foot 33 = .ok (.iconst 0, 1) := by decide +kernel
theorem dX11_foot_34 : decode cX11_foot 34 = .ok (.ireturn, 1) := by decide +kernel
theorem dX11_foot_35 : decode cX11_foot 35 = .ok (.iload_n 2, 1) := by decide +kernel
theorem dX11_foot_36 : decode cX11_foot 36 = .ok (.iconst 1, 1) := by decide +kernel
theorem dX11_foot_37 : decode cX11_foot 37 = .ok (.if_icmp .ne 15, 3) := by decide +kernel
theorem dX11_foot_40 : decode cX11_foot 40 = .ok (.aload_n 0, 1) := by decide +kernel
theorem dX11_foot_41 : decode cX11_foot 41 = .ok (.getfield 69, 3) := by decide +kernel
theorem dX11_foot_44 : decode cX11_foot 44 = .ok (.getfield 123, 3) := by decide +kernel
theorem dX11_foot_47 : decode cX11_foot 47 = .ok (.iload_n 1, 1) := by decide +kernel
theorem dX11_foot_48 : decode cX11_foot 48 = .ok (.iaload, 1) := by decide +kernel
theorem dX11_foot_49 : decode cX11_foot 49 = .ok (.goto 4, 3) := by decide +kernel
theorem dX11_foot_52 : decode cX11_foot 52 = .ok (.iconst (-1), 1) := by decide +kernel
theorem dX11_foot_53 : decode cX11_foot 53 = .ok (.ireturn, 1) := by decide +kernel
def X_TH_foot_34 (K : Int32 → xs_St → Prop) (z0 : Int32) (u : xs_St) : Prop :=
  K z0 u
set_option maxHeartbeats 4000000 in
set_option maxRecDepth 100000 in
theorem X_TH_foot_34_w {K : Int32 → xs_St → Prop} (C : th_Cx p s m args meth c cX11_foot RX11 3 (some .int) (dC, dI) (th_ty cs) (xE ad ak) A) (z0 : Int32) (u : xs_St) (H : Heap) (locs : List Loc) (ls : Array Slot) (hf : X_TH_foot_34 K z0 u) (hw : th_wI (dC, dI) (wX cs ad q v v) A s.heap u H locs) (hl : lv_has ls 3 []) : W p l e (th_rm 1 0 0) s m args below meth c H locs 0 0 (MQ below (va_Qi K (th_Post (dC, dI) (wX cs ad q v v) A) A) args s 0 0 A) (F0 m 34 ls [.int z0]) := by
  have hx := C.1
  have hb := C.2.1
  unfold X_TH_foot_34 at hf
  exact th_iret C hw hf dX11_foot_34
def X_TH_foot_53 (K : Int32 → xs_St → Prop) (z0 : Int32) (u : xs_St) : Prop :=
  K z0 u
set_option maxHeartbeats 4000000 in
set_option maxRecDepth 100000 in
theorem X_TH_foot_53_w {K : Int32 → xs_St → Prop} (C : th_Cx p s m args meth c cX11_foot RX11 3 (some .int) (dC, dI) (th_ty cs) (xE ad ak) A) (z0 : Int32) (u : xs_St) (H : Heap) (locs : List Loc) (ls : Array Slot) (hf : X_TH_foot_53 K z0 u) (hw : th_wI (dC, dI) (wX cs ad q v v) A s.heap u H locs) (hl : lv_has ls 3 []) : W p l e (th_rm 1 0 0) s m args below meth c H locs 0 0 (MQ below (va_Qi K (th_Post (dC, dI) (wX cs ad q v v) A) A) args s 0 0 A) (F0 m 53 ls [.int z0]) := by
  have hx := C.1
  have hb := C.2.1
  unfold X_TH_foot_53 at hf
  exact th_iret C hw hf dX11_foot_53
def X_TH_foot (a1 : Int32) (a2 : Int32) (u : xs_St) (K : Int32 → xs_St → Prop) : Prop :=
  X_T_hasFoot_A a1 u (fun r_2 u_1 => ((¬ r_2 = 0 → ((¬ a2 = 0 → ((¬ a2 = (1 : Int32) → X_TH_foot_53 K (-1 : Int32) u_1) ∧ (a2 = (1 : Int32) → (vp_in a1 48 ∧ ∀ y_3 : Int32, y_3 = xa u_1 308 (a1).toNatClampNeg → X_TH_foot_53 K y_3 u_1)))) ∧ (a2 = 0 → (vp_in a1 48 ∧ ∀ y_4 : Int32, y_4 = xa u_1 307 (a1).toNatClampNeg → ((y_4 = 0 → X_TH_foot_34 K (0 : Int32) u_1) ∧ (¬ y_4 = 0 → X_TH_foot_34 K (1 : Int32) u_1)))))) ∧ (r_2 = 0 → K (-1 : Int32) u_1)))
set_option maxHeartbeats 4000000 in
set_option maxRecDepth 100000 in
theorem X_TH_foot_c {l : Launch} {dC : Nat → ClassId} {dI : Nat → Nat → Nat} {cs : Nat → ClassId} {ad ak : Nat → Nat} {q v : Nat → Nat} {a1 : Int32} {a2 : Int32} {u : xs_St} {K : Int32 → xs_St → Prop} (hf : X_TH_foot a1 a2 u K) : th_Ci l yX11_foot cX11_foot 3 (some .int) 1 0 0 (dC, dI) (th_ty cs) (xE ad ak) (wX cs ad q v v) [.ref (q 99), .int a1, .int a2] u K := by
  refine th_ofi (by decide) (Nat.le_of_ble_eq_true rfl) (xE_ok ad ak) ?_
  intro p e s m below meth c A ls C hw hl
  have C : th_Cx p s m _ meth c cX11_foot RX11 3 (some .int) (dC, dI) (th_ty cs) (xE ad ak) A := C
  have hl : lv_has ls 3 [(0, .ref (q 99)), (1, .int a1), (2, .int a2)] := hl
  generalize (List.toArray _ : Array Value) = args at C ⊢
  have hx := C.1
  have hb := C.2.1
  unfold X_TH_foot at hf
  refine lv_aload_n hx hb dX11_foot_0 rfl (lv_at hl 0 rfl) ?_
  refine xg_9 C hw (C.2.2.2.2.1 _ hwF_X11_69) dX11_foot_1 ?_
  refine lv_iload_n hx hb dX11_foot_4 rfl (lv_at hl 1 rfl) ?_
  refine th_callVi (As := [.int a1]) (rest := []) C lkX11_116 (X_T_hasFoot_A_c hf) hw (xRc_TA C hw) rfl rfl ⟨Nat.le_of_ble_eq_true rfl, Nat.le_of_ble_eq_true rfl⟩ hl.1 (Nat.le_of_ble_eq_true rfl) ⟨Nat.le_of_ble_eq_true rfl, Nat.le_of_ble_eq_true rfl⟩ dX11_foot_5 (fun r_2 u_1 H locs hf hw => ?_)
  refine lv_if_ne (tgt := 13) hx hb dX11_foot_8 (by decide) (fun hc => ?_) (fun hc => ?_)
  · replace hf := hf.1 hc
    clear hc
    refine lv_iload_n hx hb dX11_foot_13 rfl (lv_at hl 2 rfl) ?_
    refine lv_if_ne (tgt := 35) hx hb dX11_foot_14 (by decide) (fun hc => ?_) (fun hc => ?_)
    · replace hf := hf.1 hc
      clear hc
      refine lv_iload_n hx hb dX11_foot_35 rfl (lv_at hl 2 rfl) ?_
      refine lv_iconst (v := (1 : Int32)) hx hb dX11_foot_36 (by decide) ?_
      refine lv_icmp_ne (tgt := 52) hx hb dX11_foot_37 (by decide) (fun hc => ?_) (fun hc => ?_)
      · replace hf := hf.1 hc
        clear hc
        refine lv_iconst (v := (-1 : Int32)) hx hb dX11_foot_52 (by decide) ?_
        exact X_TH_foot_53_w C (-1 : Int32) u_1 _ _ _ hf hw (lv_sub hl [] rfl)
      · replace hf := hf.2 hc
        clear hc
        refine lv_aload_n hx hb dX11_foot_40 rfl (lv_at hl 0 rfl) ?_
        refine xg_9 C hw (C.2.2.2.2.1 _ hwF_X11_69) dX11_foot_41 ?_
        refine xgn_308 C hw (va_Nw.use rfl (xN C hwG_X11_123)) dX11_foot_44 ?_
        refine lv_iload_n hx hb dX11_foot_47 rfl (lv_at hl 1 rfl) ?_
        refine yl_308 C hw hf.1 dX11_foot_48 (fun y_3 e9 => ?_)
        replace hf := hf.2 y_3 e9
        clear e9
        refine lv_goto (tgt := 53) hx hb dX11_foot_49 (by decide) ?_
        exact X_TH_foot_53_w C y_3 u_1 _ _ _ hf hw (lv_sub hl [] rfl)
    · replace hf := hf.2 hc
      clear hc
      refine lv_aload_n hx hb dX11_foot_17 rfl (lv_at hl 0 rfl) ?_
      refine xg_9 C hw (C.2.2.2.2.1 _ hwF_X11_69) dX11_foot_18 ?_
      refine xgn_307 C hw (va_Nw.use rfl (xN C hwG_X11_119)) dX11_foot_21 ?_
      refine lv_iload_n hx hb dX11_foot_24 rfl (lv_at hl 1 rfl) ?_
      refine yl_307 C hw hf.1 dX11_foot_25 (fun y_4 e9 => ?_)
      replace hf := hf.2 y_4 e9
      clear e9
      refine lv_if_eq (tgt := 33) hx hb dX11_foot_26 (by decide) (fun hc => ?_) (fun hc => ?_)
      · replace hf := hf.1 hc
        clear hc
        refine lv_iconst (v := (0 : Int32)) hx hb dX11_foot_33 (by decide) ?_
        exact X_TH_foot_34_w C (0 : Int32) u_1 _ _ _ hf hw (lv_sub hl [] rfl)
      · replace hf := hf.2 hc
        clear hc
        refine lv_iconst (v := (1 : Int32)) hx hb dX11_foot_29 (by decide) ?_
        refine lv_goto (tgt := 34) hx hb dX11_foot_30 (by decide) ?_
        exact X_TH_foot_34_w C (1 : Int32) u_1 _ _ _ hf hw (lv_sub hl [] rfl)
  · replace hf := hf.2 hc
    clear hc
    refine lv_iconst (v := (-1 : Int32)) hx hb dX11_foot_11 (by decide) ?_
    exact th_iret C hw hf dX11_foot_12
/-! X_TP_allWithin -/
theorem dX6_allWithin_0 : decode cX6_allWithin 0 = .ok (.iload_n 1, 1) := by decide +kernel
theorem dX6_allWithin_1 : decode cX6_allWithin 1 = .ok (.istore 4, 2) := by decide +kernel
theorem dX6_allWithin_3 : decode cX6_allWithin 3 = .ok (.iload 4, 2) := by decide +kernel
theorem dX6_allWithin_5 : decode cX6_allWithin 5 = .ok (.iload_n 2, 1) := by decide +kernel
theorem dX6_allWithin_6 : decode cX6_allWithin 6 = .ok (.if_icmp .ge 32, 3) := by decide +kernel
theorem dX6_allWithin_9 : decode cX6_allWithin 9 = .ok (.aload_n 0, 1) := by decide +kernel
theorem dX6_allWithin_10 : decode cX6_allWithin 10 = .ok (.iload 4, 2) := by decide +kernel
theorem dX6_allWithin_12 : decode cX6_allWithin 12 = .ok (.invokevirtual 17, 3) := by decide +kernel
theorem dX6_allWithin_15 : decode cX6_allWithin 15 = .ok (.iload_n 3, 1) := by decide +kernel
theorem dX6_allWithin_16 : decode cX6_allWithin 16 = .ok (.ineg, 1) := by decide +kernel
theorem dX6_allWithin_17 : decode cX6_allWithin 17 = .ok (.if_icmp .lt 13, 3) := by decide +kernel
theorem dX6_allWithin_20 : decode cX6_allWithin 20 = .ok (.aload_n 0, 1) := by decide +kernel
theorem dX6_allWithin_21 : decode cX6_allWithin 21 = .ok (.iload 4, 2) := by decide +kernel
theorem dX6_allWithin_23 : decode cX6_allWithin 23 = .ok (.invokevirtual 17, 3) := by decide +kernel
theorem dX6_allWithin_26 : decode cX6_allWithin 26 = .ok (.iload_n 3, 1) := by decide +kernel
theorem dX6_allWithin_27 : decode cX6_allWithin 27 = .ok (.if_icmp .le 5, 3) := by decide +kernel
theorem dX6_allWithin_30 : decode cX6_allWithin 30 = .ok (.iconst 0, 1) := by decide +kernel
theorem dX6_allWithin_31 : decode cX6_allWithin 31 = .ok (.ireturn, 1) := by decide +kernel
theorem dX6_allWithin_32 : decode cX6_allWithin 32 = .ok (.iinc 4 1, 3) := by decide +kernel
theorem dX6_allWithin_35 : decode cX6_allWithin 35 = .ok (.goto (-32), 3) := by decide +kernel
theorem dX6_allWithin_38 : decode cX6_allWithin 38 = .ok (.iconst 1, 1) := by decide +kernel
theorem dX6_allWithin_39 : decode cX6_allWithin 39 = .ok (.ireturn, 1) := by decide +kernel
def X_TP_allWithin_30 (K : Int32 → xs_St → Prop) (u : xs_St) : Prop :=
  (((0 : Int32) = 0 ∨ (0 : Int32) = 1) ∧ K (0 : Int32) u)
set_option maxHeartbeats 4000000 in
set_option maxRecDepth 100000 in
theorem X_TP_allWithin_30_w {K : Int32 → xs_St → Prop} (C : th_Cx p s m args meth c cX6_allWithin RX6 5 (some .boolean) (dC, dI) (th_ty cs) (xE ad ak) A) (u : xs_St) (H : Heap) (locs : List Loc) (ls : Array Slot) (hf : X_TP_allWithin_30 K u) (hw : th_wI (dC, dI) (wX cs ad q v v) A s.heap u H locs) (hl : lv_has ls 5 []) : W p l e (th_rm 1 0 0) s m args below meth c H locs 0 0 (MQ below (va_Qi K (th_Post (dC, dI) (wX cs ad q v v) A) A) args s 0 0 A) (F0 m 30 ls []) := by
  have hx := C.1
  have hb := C.2.1
  unfold X_TP_allWithin_30 at hf
  refine lv_iconst (v := (0 : Int32)) hx hb dX6_allWithin_30 (by decide) ?_
  exact th_zret C hw hf dX6_allWithin_31
def X_TP_allWithin_3 (K : Int32 → xs_St → Prop) (k3 : Int32 → Int32 → Int32 → xs_St → Prop) (x2 : Int32) (x3 : Int32) (x4 : Int32) (u : xs_St) : Prop :=
  ((x2 ≤ x4 → (((1 : Int32) = 0 ∨ (1 : Int32) = 1) ∧ K (1 : Int32) u)) ∧ (¬ x2 ≤ x4 → X_TP_signed x4 u (fun r_2 u_1 => ((r_2 < (-x3) → X_TP_allWithin_30 K u_1) ∧ (¬ r_2 < (-x3) → X_TP_signed x4 u_1 (fun r_4 u_3 => ((r_4 ≤ x3 → ∀ x4_5 : Int32, x4_5 = x4 + (1 : Int32) → k3 x2 x3 x4_5 u_3) ∧ (¬ r_4 ≤ x3 → X_TP_allWithin_30 K u_3))))))))
set_option maxHeartbeats 4000000 in
set_option maxRecDepth 100000 in
theorem X_TP_allWithin_3_w {K : Int32 → xs_St → Prop} {k3 : Int32 → Int32 → Int32 → xs_St → Prop} (C : th_Cx p s m args meth c cX6_allWithin RX6 5 (some .boolean) (dC, dI) (th_ty cs) (xE ad ak) A) (hk3 : ∀ (x2 : Int32) (x3 : Int32) (x4 : Int32) (u : xs_St) (H : Heap) (locs : List Loc) (ls : Array Slot), k3 x2 x3 x4 u → th_wI (dC, dI) (wX cs ad q v v) A s.heap u H locs → lv_has ls 5 [(0, .ref (q 199)), (2, .int x2), (3, .int x3), (4, .int x4)] → W p l e (th_rm 1 0 0) s m args below meth c H locs 0 0 (MQ below (va_Qi K (th_Post (dC, dI) (wX cs ad q v v) A) A) args s 0 0 A) (F0 m 3 ls [])) (x2 : Int32) (x3 : Int32) (x4 : Int32) (u : xs_St) (H : Heap) (locs : List Loc) (ls : Array Slot) (hf : X_TP_allWithin_3 K k3 x2 x3 x4 u) (hw : th_wI (dC, dI) (wX cs ad q v v) A s.heap u H locs) (hl : lv_has ls 5 [(0, .ref (q 199)), (2, .int x2), (3, .int x3), (4, .int x4)]) : W p l e (th_rm 1 0 0) s m args below meth c H locs 0 0 (MQ below (va_Qi K (th_Post (dC, dI) (wX cs ad q v v) A) A) args s 0 0 A) (F0 m 3 ls []) := by
  have hx := C.1
  have hb := C.2.1
  unfold X_TP_allWithin_3 at hf
  refine lv_iload hx hb dX6_allWithin_3 (lv_at hl 3 rfl) ?_
  refine lv_iload_n hx hb dX6_allWithin_5 rfl (lv_at hl 1 rfl) ?_
  refine lv_icmp_ge (tgt := 38) hx hb dX6_allWithin_6 (by decide) (fun hc => ?_) (fun hc => ?_)
  · replace hf := hf.1 hc
    clear hc
    refine lv_iconst (v := (1 : Int32)) hx hb dX6_allWithin_38 (by decide) ?_
    exact th_zret C hw hf dX6_allWithin_39
  · replace hf := hf.2 hc
    clear hc
    refine lv_aload_n hx hb dX6_allWithin_9 rfl (lv_at hl 0 rfl) ?_
    refine lv_iload hx hb dX6_allWithin_10 (lv_at hl 3 rfl) ?_
    refine th_callVi (As := [.int x4]) (rest := []) C lkX6_17 (X_TP_signed_c hf) hw (xRc_TP C hw) rfl rfl ⟨Nat.le_of_ble_eq_true rfl, Nat.le_of_ble_eq_true rfl⟩ hl.1 (Nat.le_of_ble_eq_true rfl) ⟨Nat.le_of_ble_eq_true rfl, Nat.le_of_ble_eq_true rfl⟩ dX6_allWithin_12 (fun r_2 u_1 H locs hf hw => ?_)
    refine lv_iload_n hx hb dX6_allWithin_15 rfl (lv_at hl 2 rfl) ?_
    refine lv_ineg hx hb dX6_allWithin_16 ?_
    refine lv_icmp_lt (tgt := 30) hx hb dX6_allWithin_17 (by decide) (fun hc => ?_) (fun hc => ?_)
    · replace hf := hf.1 hc
      clear hc
      exact X_TP_allWithin_30_w C  u_1 _ _ _ hf hw (lv_sub hl [] rfl)
    · replace hf := hf.2 hc
      clear hc
      refine lv_aload_n hx hb dX6_allWithin_20 rfl (lv_at hl 0 rfl) ?_
      refine lv_iload hx hb dX6_allWithin_21 (lv_at hl 3 rfl) ?_
      refine th_callVi (As := [.int x4]) (rest := []) C lkX6_17 (X_TP_signed_c hf) hw (xRc_TP C hw) rfl rfl ⟨Nat.le_of_ble_eq_true rfl, Nat.le_of_ble_eq_true rfl⟩ hl.1 (Nat.le_of_ble_eq_true rfl) ⟨Nat.le_of_ble_eq_true rfl, Nat.le_of_ble_eq_true rfl⟩ dX6_allWithin_23 (fun r_4 u_3 H locs hf hw => ?_)
      refine lv_iload_n hx hb dX6_allWithin_26 rfl (lv_at hl 2 rfl) ?_
      refine lv_icmp_le (tgt := 32) hx hb dX6_allWithin_27 (by decide) (fun hc => ?_) (fun hc => ?_)
      · replace hf := hf.1 hc
        clear hc
        obtain ⟨x4_5, e9⟩ : ∃ y : Int32, y = x4 + (1 : Int32) := ⟨_, rfl⟩
        replace hf := hf x4_5 e9
        refine lv_iinc (v := x4_5) (lv' := [(4, .int x4_5), (0, .ref (q 199)), (2, .int x2), (3, .int x3)]) hx hb dX6_allWithin_32 hl (k := 3) rfl (by rw [e9]; rfl) (by decide) rfl (fun ls hl => ?_)
        clear e9
        refine lv_goto (tgt := 3) hx hb dX6_allWithin_35 (by decide) ?_
        exact hk3 x2 x3 x4_5 u_3 _ _ _ hf hw (lv_sub hl [1, 2, 3, 0] rfl)
      · replace hf := hf.2 hc
        clear hc
        exact X_TP_allWithin_30_w C  u_3 _ _ _ hf hw (lv_sub hl [] rfl)
def X_TP_allWithin_3_lp (K : Int32 → xs_St → Prop) : Nat → Int32 → Int32 → Int32 → xs_St → Prop
  | 0, _, _, _, _ => False
  | n + 1, x2, x3, x4, u => X_TP_allWithin_3 K (X_TP_allWithin_3_lp K n) x2 x3 x4 u
set_option maxHeartbeats 4000000 in
set_option maxRecDepth 100000 in
theorem X_TP_allWithin_3_lw {K : Int32 → xs_St → Prop} (C : th_Cx p s m args meth c cX6_allWithin RX6 5 (some .boolean) (dC, dI) (th_ty cs) (xE ad ak) A) (n : Nat) : ∀ (x2 : Int32) (x3 : Int32) (x4 : Int32) (u : xs_St) (H : Heap) (locs : List Loc) (ls : Array Slot), X_TP_allWithin_3_lp K n x2 x3 x4 u → th_wI (dC, dI) (wX cs ad q v v) A s.heap u H locs → lv_has ls 5 [(0, .ref (q 199)), (2, .int x2), (3, .int x3), (4, .int x4)] → W p l e (th_rm 1 0 0) s m args below meth c H locs 0 0 (MQ below (va_Qi K (th_Post (dC, dI) (wX cs ad q v v) A) A) args s 0 0 A) (F0 m 3 ls []) := by
  induction n with
  | zero => intro x2 x3 x4 u H locs ls hf; exact hf.elim
  | succ n ih =>
    intro x2 x3 x4 u H locs ls hf hw hl
    exact X_TP_allWithin_3_w C ih x2 x3 x4 u H locs ls hf hw hl
def X_TP_allWithin (a1 : Int32) (a2 : Int32) (a3 : Int32) (u : xs_St) (K : Int32 → xs_St → Prop) : Prop :=
  ∃ n, X_TP_allWithin_3_lp K n a2 a3 a1 u
set_option maxHeartbeats 4000000 in
set_option maxRecDepth 100000 in
theorem X_TP_allWithin_c {l : Launch} {dC : Nat → ClassId} {dI : Nat → Nat → Nat} {cs : Nat → ClassId} {ad ak : Nat → Nat} {q v : Nat → Nat} {a1 : Int32} {a2 : Int32} {a3 : Int32} {u : xs_St} {K : Int32 → xs_St → Prop} (hf : X_TP_allWithin a1 a2 a3 u K) : th_Ci l yX6_allWithin cX6_allWithin 5 (some .boolean) 1 0 0 (dC, dI) (th_ty cs) (xE ad ak) (wX cs ad q v v) [.ref (q 199), .int a1, .int a2, .int a3] u K := by
  refine th_ofi (by decide) (Nat.le_of_ble_eq_true rfl) (xE_ok ad ak) ?_
  intro p e s m below meth c A ls C hw hl
  have C : th_Cx p s m _ meth c cX6_allWithin RX6 5 (some .boolean) (dC, dI) (th_ty cs) (xE ad ak) A := C
  have hl : lv_has ls 5 [(0, .ref (q 199)), (1, .int a1), (2, .int a2), (3, .int a3)] := hl
  generalize (List.toArray _ : Array Value) = args at C ⊢
  have hx := C.1
  have hb := C.2.1
  unfold X_TP_allWithin at hf
  refine lv_iload_n hx hb dX6_allWithin_0 rfl (lv_at hl 1 rfl) ?_
  refine lv_istore (lv' := [(4, .int a1), (0, .ref (q 199)), (1, .int a1), (2, .int a2), (3, .int a3)]) hx hb dX6_allWithin_1 hl (by decide) rfl (fun ls hl => ?_)
  obtain ⟨n, hf⟩ := hf
  exact X_TP_allWithin_3_lw C n a2 a3 a1 u _ _ _ hf hw (lv_sub hl [1, 3, 4, 0] rfl)
/-! X_TP_unsigned -/
theorem dX6_unsigned_0 : decode cX6_unsigned 0 = .ok (.aload_n 0, 1) := by decide +kernel
theorem dX6_unsigned_1 : decode cX6_unsigned 1 = .ok (.iload_n 1, 1) := by decide +kernel
theorem dX6_unsigned_2 : decode cX6_unsigned 2 = .ok (.invokevirtual 17, 3) := by decide +kernel
theorem dX6_unsigned_5 : decode cX6_unsigned 5 = .ok (.sipush 255, 3) := by decide +kernel
theorem dX6_unsigned_8 : decode cX6_unsigned 8 = .ok (.iand, 1) := by decide +kernel
theorem dX6_unsigned_9 : decode cX6_unsigned 9 = .ok (.ireturn, 1) := by decide +kernel
def X_TP_unsigned (a1 : Int32) (u : xs_St) (K : Int32 → xs_St → Prop) : Prop :=
  X_TP_signed a1 u (fun r_2 u_1 => K (r_2 &&& (255 : Int32)) u_1)
set_option maxHeartbeats 4000000 in
set_option maxRecDepth 100000 in
theorem X_TP_unsigned_c {l : Launch} {dC : Nat → ClassId} {dI : Nat → Nat → Nat} {cs : Nat → ClassId} {ad ak : Nat → Nat} {q v : Nat → Nat} {a1 : Int32} {u : xs_St} {K : Int32 → xs_St → Prop} (hf : X_TP_unsigned a1 u K) : th_Ci l yX6_unsigned cX6_unsigned 2 (some .int) 1 0 0 (dC, dI) (th_ty cs) (xE ad ak) (wX cs ad q v v) [.ref (q 199), .int a1] u K := by
  refine th_ofi (by decide) (Nat.le_of_ble_eq_true rfl) (xE_ok ad ak) ?_
  intro p e s m below meth c A ls C hw hl
  have C : th_Cx p s m _ meth c cX6_unsigned RX6 2 (some .int) (dC, dI) (th_ty cs) (xE ad ak) A := C
  have hl : lv_has ls 2 [(0, .ref (q 199)), (1, .int a1)] := hl
  generalize (List.toArray _ : Array Value) = args at C ⊢
  have hx := C.1
  have hb := C.2.1
  unfold X_TP_unsigned at hf
  refine lv_aload_n hx hb dX6_unsigned_0 rfl (lv_at hl 0 rfl) ?_
  refine lv_iload_n hx hb dX6_unsigned_1 rfl (lv_at hl 1 rfl) ?_
  refine th_callVi (As := [.int a1]) (rest := []) C lkX6_17 (X_TP_signed_c hf) hw (xRc_TP C hw) rfl rfl ⟨Nat.le_of_ble_eq_true rfl, Nat.le_of_ble_eq_true rfl⟩ hl.1 (Nat.le_of_ble_eq_true rfl) ⟨Nat.le_of_ble_eq_true rfl, Nat.le_of_ble_eq_true rfl⟩ dX6_unsigned_2 (fun r_2 u_1 H locs hf hw => ?_)
  refine lv_sipush (v := (255 : Int32)) hx hb dX6_unsigned_5 (by decide) ?_
  refine lv_iand hx hb dX6_unsigned_8 ?_
  exact th_iret C hw hf dX6_unsigned_9
/-! X_T_addMeasured_B -/
theorem dX7_addMeasured_0 : decode cX7_addMeasured 0 = .ok (.aload_n 0, 1) := by decide +kernel
theorem dX7_addMeasured_1 : decode cX7_addMeasured 1 = .ok (.getfield 62, 3) := by decide +kernel
theorem dX7_addMeasured_4 : decode cX7_addMeasured 4 = .ok (.bipush 80, 2) := by decide +kernel
theorem dX7_addMeasured_6 : decode cX7_addMeasured 6 = .ok (.if_icmp .ge 39, 3) := by decide +kernel
theorem dX7_addMeasured_9 : decode cX7_addMeasured 9 = .ok (.aload_n 0, 1) := by decide +kernel
theorem dX7_addMeasured_10 : decode cX7_addMeasured 10 = .ok (.getfield 34, 3) := by decide +kernel
theorem dX7_addMeasured_13 : decode cX7_addMeasured 13 = .ok (.aload_n 0, 1) := by decide +kernel
theorem dX7_addMeasured_14 : decode cX7_addMeasured 14 = .ok (.getfield 62, 3) := by decide +kernel
theorem dX7_addMeasured_17 : decode cX7_addMeasured 17 = .ok (.iload_n 2, 1) := by decide +kernel
theorem dX7_addMeasured_18 : decode cX7_addMeasured 18 = .ok (.iastore, 1) := by decide +kernel
theorem dX7_addMeasured_19 : decode cX7_addMeasured 19 = .ok (.aload_n 0, 1) := by decide +kernel
theorem dX7_addMeasured_20 : decode cX7_addMeasured 20 = .ok (.getfield 31, 3) := by decide +kernel
theorem dX7_addMeasured_23 : decode cX7_addMeasured 23 = .ok (.aload_n 0, 1) := by decide +kernel
theorem dX7_addMeasured_24 : decode cX7_addMeasured 24 = .ok (.getfield 62, 3) := by decide +kernel
theorem dX7_addMeasured_27 : decode cX7_addMeasured 27 = .ok (.aload_n 3, 1) := by decide +kernel
theorem dX7_addMeasured_28 : decode cX7_addMeasured 28 = .ok (.aastore, 1) := by decide +kernel
theorem dX7_addMeasured_29 : decode cX7_addMeasured 29 = .ok (.aload_n 0, 1) := by decide +kernel
theorem dX7_addMeasured_30 : decode cX7_addMeasured 30 = .ok (.getfield 37, 3) := by decide +kernel
theorem dX7_addMeasured_33 : decode cX7_addMeasured 33 = .ok (.aload_n 0, 1) := by decide +kernel
theorem dX7_addMeasured_34 : decode cX7_addMeasured 34 = .ok (.getfield 62, 3) := by decide +kernel
theorem dX7_addMeasured_37 : decode cX7_addMeasured 37 = .ok (.iload 4, 2) := by decide +kernel
theorem dX7_addMeasured_39 : decode cX7_addMeasured 39 = .ok (.iastore, 1) := by decide +kernel
theorem dX7_addMeasured_40 : decode cX7_addMeasured 40 = .ok (.aload_n 0, 1) := by decide +kernel
theorem dX7_addMeasured_41 : decode cX7_addMeasured 41 = .ok (.aload_n 1, 1) := by decide +kernel
theorem dX7_addMeasured_42 : decode cX7_addMeasured 42 = .ok (.invokevirtual 75, 3) := by decide +kernel
theorem dX7_addMeasured_45 : decode cX7_addMeasured 45 = .ok (.return_, 1) := by decide +kernel
def X_T_addMeasured_B_45 (K : xs_St → Prop) (u : xs_St) : Prop :=
  K u
set_option maxHeartbeats 4000000 in
set_option maxRecDepth 100000 in
theorem X_T_addMeasured_B_45_w {K : xs_St → Prop} (C : th_Cx p s m args meth c cX7_addMeasured RX7 5 (none) (dC, dI) (th_ty cs) (xE ad ak) A) (u : xs_St) (H : Heap) (locs : List Loc) (ls : Array Slot) (hf : X_T_addMeasured_B_45 K u) (hw : th_wI (dC, dI) (wX cs ad q v v) A s.heap u H locs) (hl : lv_has ls 5 []) : W p l e (th_rm 1 0 0) s m args below meth c H locs 0 0 (MQ below (va_Qv K (th_Post (dC, dI) (wX cs ad q v v) A) A) args s 0 0 A) (F0 m 45 ls []) := by
  have hx := C.1
  have hb := C.2.1
  unfold X_T_addMeasured_B_45 at hf
  exact th_vret C hw hf dX7_addMeasured_45
def X_T_addMeasured_B (a1 : Option Nat) (a2 : Int32) (a3 : Option Nat) (a4 : Int32) (u : xs_St) (K : xs_St → Prop) : Prop :=
  (((80 : Int32) ≤ (xi u 406) → X_T_addMeasured_B_45 K u) ∧ (¬ (80 : Int32) ≤ (xi u 406) → (vp_in (xi u 406) 80 ∧ ∀ u_1 : xs_St, u_1 = xs_sa u 413 (upd (xa u 413) ((xi u 406)).toNatClampNeg a2) → (vp_in (xi u_1 406) 80 ∧ (∀ k9, a3 = some k9 → k9 < 27) ∧ ∀ u_2 : xs_St, u_2 = xs_so u_1 412 (va_up (xo u_1 412) ((xi u_1 406)).toNatClampNeg a3) → (vp_in (xi u_2 406) 80 ∧ ∀ u_3 : xs_St, u_3 = xs_sa u_2 414 (upd (xa u_2 414) ((xi u_2 406)).toNatClampNeg a4) → X_T_addStep_B a1 u_3 (fun u_4 => X_T_addMeasured_B_45 K u_4))))))
set_option maxHeartbeats 4000000 in
set_option maxRecDepth 100000 in
theorem X_T_addMeasured_B_c {l : Launch} {dC : Nat → ClassId} {dI : Nat → Nat → Nat} {cs : Nat → ClassId} {ad ak : Nat → Nat} {q v : Nat → Nat} {a1 : Option Nat} {a2 : Int32} {a3 : Option Nat} {a4 : Int32} {u : xs_St} {K : xs_St → Prop} (hf : X_T_addMeasured_B a1 a2 a3 a4 u K) : th_Cv l yX7_addMeasured cX7_addMeasured 5 (none) 1 0 0 (dC, dI) (th_ty cs) (xE ad ak) (wX cs ad q v v) [.ref (v 499), va_re ad a1, .int a2, va_re ad a3, .int a4] u K := by
  refine th_ofv (by decide) (by cases a1 <;> cases a3 <;> exact Nat.le_of_ble_eq_true rfl) (xE_ok ad ak) ?_
  intro p e s m below meth c A ls C hw hl
  have C : th_Cx p s m _ meth c cX7_addMeasured RX7 5 (none) (dC, dI) (th_ty cs) (xE ad ak) A := C
  have hl : lv_has ls 5 [(0, .ref (v 499)), (1, va_re ad a1), (2, .int a2), (3, va_re ad a3), (4, .int a4)] := by cases a1 <;> cases a3 <;> exact hl
  generalize (List.toArray _ : Array Value) = args at C ⊢
  have hx := C.1
  have hb := C.2.1
  unfold X_T_addMeasured_B at hf
  refine lv_aload_n hx hb dX7_addMeasured_0 rfl (lv_at hl 0 rfl) ?_
  refine xg_406 C hw (C.2.2.2.2.1 _ hwF_X7_62) dX7_addMeasured_1 ?_
  refine lv_bipush (v := (80 : Int32)) hx hb dX7_addMeasured_4 (by decide) ?_
  refine lv_icmp_ge (tgt := 45) hx hb dX7_addMeasured_6 (by decide) (fun hc => ?_) (fun hc => ?_)
  · replace hf := hf.1 hc
    clear hc
    exact X_T_addMeasured_B_45_w C  u _ _ _ hf hw (lv_sub hl [] rfl)
  · replace hf := hf.2 hc
    clear hc
    refine lv_aload_n hx hb dX7_addMeasured_9 rfl (lv_at hl 0 rfl) ?_
    refine xg_413 C hw (C.2.2.2.2.1 _ hwF_X7_34) dX7_addMeasured_10 ?_
    refine lv_aload_n hx hb dX7_addMeasured_13 rfl (lv_at hl 0 rfl) ?_
    refine xg_406 C hw (C.2.2.2.2.1 _ hwF_X7_62) dX7_addMeasured_14 ?_
    refine lv_iload_n hx hb dX7_addMeasured_17 rfl (lv_at hl 2 rfl) ?_
    refine ys_413 C hw hf.1 dX7_addMeasured_18 (fun u_1 e9 H locs hw => ?_)
    replace hf := hf.2 u_1 e9
    clear e9
    refine lv_aload_n hx hb dX7_addMeasured_19 rfl (lv_at hl 0 rfl) ?_
    refine xg_412 C hw (C.2.2.2.2.1 _ hwF_X7_31) dX7_addMeasured_20 ?_
    refine lv_aload_n hx hb dX7_addMeasured_23 rfl (lv_at hl 0 rfl) ?_
    refine xg_406 C hw (C.2.2.2.2.1 _ hwF_X7_62) dX7_addMeasured_24 ?_
    refine th_aload_n hx hb dX7_addMeasured_27 rfl (lv_at hl 3 rfl) ?_
    refine ys_412 C hw hf.1 hf.2.1 dX7_addMeasured_28 (fun u_2 e9 H locs hw => ?_)
    replace hf := hf.2.2 u_2 e9
    clear e9
    refine lv_aload_n hx hb dX7_addMeasured_29 rfl (lv_at hl 0 rfl) ?_
    refine xg_414 C hw (C.2.2.2.2.1 _ hwF_X7_37) dX7_addMeasured_30 ?_
    refine lv_aload_n hx hb dX7_addMeasured_33 rfl (lv_at hl 0 rfl) ?_
    refine xg_406 C hw (C.2.2.2.2.1 _ hwF_X7_62) dX7_addMeasured_34 ?_
    refine lv_iload hx hb dX7_addMeasured_37 (lv_at hl 4 rfl) ?_
    refine ys_414 C hw hf.1 dX7_addMeasured_39 (fun u_3 e9 H locs hw => ?_)
    replace hf := hf.2 u_3 e9
    clear e9
    refine lv_aload_n hx hb dX7_addMeasured_40 rfl (lv_at hl 0 rfl) ?_
    refine th_aload_n hx hb dX7_addMeasured_41 rfl (lv_at hl 1 rfl) ?_
    refine th_callVv (As := [va_re ad a1]) (rest := []) C lkX7_75 (X_T_addStep_B_c hf) hw (xRc_TB C hw) rfl rfl ⟨Nat.le_of_ble_eq_true rfl, Nat.le_of_ble_eq_true rfl⟩ hl.1 (Nat.le_of_ble_eq_true rfl) ⟨Nat.le_of_ble_eq_true rfl, Nat.le_of_ble_eq_true rfl⟩ dX7_addMeasured_42 (fun u_4 H locs hf hw => ?_)
    exact X_T_addMeasured_B_45_w C  u_4 _ _ _ hf hw (lv_sub hl [] rfl)
/-! X_T_empty_B -/
theorem dX7_empty_0 : decode cX7_empty 0 = .ok (.aload_n 0, 1) := by decide +kernel
theorem dX7_empty_1 : decode cX7_empty 1 = .ok (.bipush 24, 2) := by decide +kernel
theorem dX7_empty_3 : decode cX7_empty 3 = .ok (.putfield 43, 3) := by decide +kernel
theorem dX7_empty_6 : decode cX7_empty 6 = .ok (.aload_n 0, 1) := by decide +kernel
theorem dX7_empty_7 : decode cX7_empty 7 = .ok (.iconst 1, 1) := by decide +kernel
theorem dX7_empty_8 : decode cX7_empty 8 = .ok (.putfield 47, 3) := by decide +kernel
theorem dX7_empty_11 : decode cX7_empty 11 = .ok (.aload_n 0, 1) := by decide +kernel
theorem dX7_empty_12 : decode cX7_empty 12 = .ok (.iconst 1, 1) := by decide +kernel
theorem dX7_empty_13 : decode cX7_empty 13 = .ok (.putfield 50, 3) := by decide +kernel
theorem dX7_empty_16 : decode cX7_empty 16 = .ok (.aload_n 0, 1) := by decide +kernel
theorem dX7_empty_17 : decode cX7_empty 17 = .ok (.iconst 0, 1) := by decide +kernel
theorem dX7_empty_18 : decode cX7_empty 18 = .ok (.putfield 53, 3) := by decide +kernel
theorem dX7_empty_21 : decode cX7_empty 21 = .ok (.aload_n 0, 1) := by decide +kernel
theorem dX7_empty_22 : decode cX7_empty 22 = .ok (.iconst 0, 1) := by decide +kernel
theorem dX7_empty_23 : decode cX7_empty 23 = .ok (.putfield 56, 3) := by decide +kernel
theorem dX7_empty_26 : decode cX7_empty 26 = .ok (.aload_n 0, 1) := by decide +kernel
theorem dX7_empty_27 : decode cX7_empty 27 = .ok (.iconst 0, 1) := by decide +kernel
theorem dX7_empty_28 : decode cX7_empty 28 = .ok (.putfield 59, 3) := by decide +kernel
theorem dX7_empty_31 : decode cX7_empty 31 = .ok (.aload_n 0, 1) := by decide +kernel
theorem dX7_empty_32 : decode cX7_empty 32 = .ok (.iconst 0, 1) := by decide +kernel
theorem dX7_empty_33 : decode cX7_empty 33 = .ok (.putfield 62, 3) := by decide +kernel
theorem dX7_empty_36 : decode cX7_empty 36 = .ok (.aload_n 0, 1) := by decide +kernel
theorem dX7_empty_37 : decode cX7_empty 37 = .ok (.getfield 15, 3) := by decide +kernel
theorem dX7_empty_40 : decode cX7_empty 40 = .ok (.bipush 10, 2) := by decide +kernel
theorem dX7_empty_42 : decode cX7_empty 42 = .ok (.invokestatic 65, 3) := by decide +kernel
theorem dX7_empty_45 : decode cX7_empty 45 = .ok (.iconst 0, 1) := by decide +kernel
theorem dX7_empty_46 : decode cX7_empty 46 = .ok (.istore_n 1, 1) := by decide +kernel
theorem dX7_empty_47 : decode cX7_empty 47 = .ok (.iload_n 1, 1) := by decide +kernel
theorem dX7_empty_48 : decode cX7_empty 48 = .ok (.bipush 48, 2) := by decide +kernel
theorem dX7_empty_50 : decode cX7_empty 50 = .ok (.if_icmp .ge 16, 3) := by decide +kernel
theorem dX7_empty_53 : decode cX7_empty 53 = .ok (.aload_n 0, 1) := by decide +kernel
theorem dX7_empty_54 : decode cX7_empty 54 = .ok (.getfield 9, 3) := by decide +kernel
theorem dX7_empty_57 : decode cX7_empty 57 = .ok (.iload_n 1, 1) := by decide +kernel
theorem dX7_empty_58 : decode cX7_empty 58 = .ok (.iconst 0, 1) := by decide +kernel
theorem dX7_empty_59 : decode cX7_empty 59 = .ok (.bastore, 1) := by decide +kernel
theorem dX7_empty_60 : decode cX7_empty 60 = .ok (.iinc 1 1, 3) := by decide +kernel
theorem dX7_empty_63 : decode cX7_empty 63 = .ok (.goto (-16), 3) := by decide +kernel
theorem dX7_empty_66 : decode cX7_empty 66 = .ok (.return_, 1) := by decide +kernel
def X_T_empty_B_47 (K : xs_St → Prop) (k47 : Int32 → xs_St → Prop) (x1 : Int32) (u : xs_St) : Prop :=
  (((48 : Int32) ≤ x1 → K u) ∧ (¬ (48 : Int32) ≤ x1 → (vp_in x1 48 ∧ ∀ u_1 : xs_St, u_1 = xs_sa u 407 (upd (xa u 407) (x1).toNatClampNeg (vp_nar .boolean (0 : Int32))) → ∀ x1_2 : Int32, x1_2 = x1 + (1 : Int32) → k47 x1_2 u_1)))
set_option maxHeartbeats 4000000 in
set_option maxRecDepth 100000 in
theorem X_T_empty_B_47_w {K : xs_St → Prop} {k47 : Int32 → xs_St → Prop} (C : th_Cx p s m args meth c cX7_empty RX7 2 (none) (dC, dI) (th_ty cs) (xE ad ak) A) (hk47 : ∀ (x1 : Int32) (u : xs_St) (H : Heap) (locs : List Loc) (ls : Array Slot), k47 x1 u → th_wI (dC, dI) (wX cs ad q v v) A s.heap u H locs → lv_has ls 2 [(0, .ref (v 499)), (1, .int x1)] → W p l e (th_rm 1 0 0) s m args below meth c H locs 0 0 (MQ below (va_Qv K (th_Post (dC, dI) (wX cs ad q v v) A) A) args s 0 0 A) (F0 m 47 ls [])) (x1 : Int32) (u : xs_St) (H : Heap) (locs : List Loc) (ls : Array Slot) (hf : X_T_empty_B_47 K k47 x1 u) (hw : th_wI (dC, dI) (wX cs ad q v v) A s.heap u H locs) (hl : lv_has ls 2 [(0, .ref (v 499)), (1, .int x1)]) : W p l e (th_rm 1 0 0) s m args below meth c H locs 0 0 (MQ below (va_Qv K (th_Post (dC, dI) (wX cs ad q v v) A) A) args s 0 0 A) (F0 m 47 ls []) := by
  have hx := C.1
  have hb := C.2.1
  unfold X_T_empty_B_47 at hf
  refine lv_iload_n hx hb dX7_empty_47 rfl (lv_at hl 1 rfl) ?_
  refine lv_bipush (v := (48 : Int32)) hx hb dX7_empty_48 (by decide) ?_
  refine lv_icmp_ge (tgt := 66) hx hb dX7_empty_50 (by decide) (fun hc => ?_) (fun hc => ?_)
  · replace hf := hf.1 hc
    clear hc
    exact th_vret C hw hf dX7_empty_66
  · replace hf := hf.2 hc
    clear hc
    refine lv_aload_n hx hb dX7_empty_53 rfl (lv_at hl 0 rfl) ?_
    refine xg_407 C hw (C.2.2.2.2.1 _ hwF_X7_9) dX7_empty_54 ?_
    refine lv_iload_n hx hb dX7_empty_57 rfl (lv_at hl 1 rfl) ?_
    refine lv_iconst (v := (0 : Int32)) hx hb dX7_empty_58 (by decide) ?_
    refine ys_407 C hw hf.1 dX7_empty_59 (fun u_1 e9 H locs hw => ?_)
    replace hf := hf.2 u_1 e9
    clear e9
    obtain ⟨x1_2, e9⟩ : ∃ y : Int32, y = x1 + (1 : Int32) := ⟨_, rfl⟩
    replace hf := hf x1_2 e9
    refine lv_iinc (v := x1_2) (lv' := [(1, .int x1_2), (0, .ref (v 499))]) hx hb dX7_empty_60 hl (k := 1) rfl (by rw [e9]; rfl) (by decide) rfl (fun ls hl => ?_)
    clear e9
    refine lv_goto (tgt := 47) hx hb dX7_empty_63 (by decide) ?_
    exact hk47 x1_2 u_1 _ _ _ hf hw (lv_sub hl [1, 0] rfl)
def X_T_empty_B_47_lp (K : xs_St → Prop) : Nat → Int32 → xs_St → Prop
  | 0, _, _ => False
  | n + 1, x1, u => X_T_empty_B_47 K (X_T_empty_B_47_lp K n) x1 u
set_option maxHeartbeats 4000000 in
set_option maxRecDepth 100000 in
theorem X_T_empty_B_47_lw {K : xs_St → Prop} (C : th_Cx p s m args meth c cX7_empty RX7 2 (none) (dC, dI) (th_ty cs) (xE ad ak) A) (n : Nat) : ∀ (x1 : Int32) (u : xs_St) (H : Heap) (locs : List Loc) (ls : Array Slot), X_T_empty_B_47_lp K n x1 u → th_wI (dC, dI) (wX cs ad q v v) A s.heap u H locs → lv_has ls 2 [(0, .ref (v 499)), (1, .int x1)] → W p l e (th_rm 1 0 0) s m args below meth c H locs 0 0 (MQ below (va_Qv K (th_Post (dC, dI) (wX cs ad q v v) A) A) args s 0 0 A) (F0 m 47 ls []) := by
  induction n with
  | zero => intro x1 u H locs ls hf; exact hf.elim
  | succ n ih =>
    intro x1 u H locs ls hf hw hl
    exact X_T_empty_B_47_w C ih x1 u H locs ls hf hw hl
def X_T_empty_B (u : xs_St) (K : xs_St → Prop) : Prop :=
  ∀ u_1 : xs_St, u_1 = xs_si u 400 (24 : Int32) → ∀ u_2 : xs_St, u_2 = xs_si u_1 401 (1 : Int32) → ∀ u_3 : xs_St, u_3 = xs_si u_2 402 (1 : Int32) → ∀ u_4 : xs_St, u_4 = xs_si u_3 403 (0 : Int32) → ∀ u_5 : xs_St, u_5 = xs_si u_4 404 (0 : Int32) → ∀ u_6 : xs_St, u_6 = xs_si u_5 405 (0 : Int32) → ∀ u_7 : xs_St, u_7 = xs_si u_6 406 (0 : Int32) → X_J_fill_53178_408 (10 : Int32) u_7 (fun u_8 => ∃ n, X_T_empty_B_47_lp K n (0 : Int32) u_8)
set_option maxHeartbeats 4000000 in
set_option maxRecDepth 100000 in
theorem X_T_empty_B_c {l : Launch} {dC : Nat → ClassId} {dI : Nat → Nat → Nat} {cs : Nat → ClassId} {ad ak : Nat → Nat} {q v : Nat → Nat} {u : xs_St} {K : xs_St → Prop} (hf : X_T_empty_B u K) : th_Cv l yX7_empty cX7_empty 2 (none) 1 0 0 (dC, dI) (th_ty cs) (xE ad ak) (wX cs ad q v v) [.ref (v 499)] u K := by
  refine th_ofv (by decide) (Nat.le_of_ble_eq_true rfl) (xE_ok ad ak) ?_
  intro p e s m below meth c A ls C hw hl
  have C : th_Cx p s m _ meth c cX7_empty RX7 2 (none) (dC, dI) (th_ty cs) (xE ad ak) A := C
  have hl : lv_has ls 2 [(0, .ref (v 499))] := hl
  generalize (List.toArray _ : Array Value) = args at C ⊢
  have hx := C.1
  have hb := C.2.1
  unfold X_T_empty_B at hf
  refine lv_aload_n hx hb dX7_empty_0 rfl (lv_at hl 0 rfl) ?_
  refine lv_bipush (v := (24 : Int32)) hx hb dX7_empty_1 (by decide) ?_
  refine xp_400 C hw (C.2.2.2.2.1 _ hwF_X7_43) dX7_empty_3 (fun u_1 e9 H locs hw => ?_)
  replace hf := hf u_1 e9
  clear e9
  refine lv_aload_n hx hb dX7_empty_6 rfl (lv_at hl 0 rfl) ?_
  refine lv_iconst (v := (1 : Int32)) hx hb dX7_empty_7 (by decide) ?_
  refine xp_401 C hw (C.2.2.2.2.1 _ hwF_X7_47) dX7_empty_8 (fun u_2 e9 H locs hw => ?_)
  replace hf := hf u_2 e9
  clear e9
  refine lv_aload_n hx hb dX7_empty_11 rfl (lv_at hl 0 rfl) ?_
  refine lv_iconst (v := (1 : Int32)) hx hb dX7_empty_12 (by decide) ?_
  refine xp_402 C hw (C.2.2.2.2.1 _ hwF_X7_50) dX7_empty_13 (fun u_3 e9 H locs hw => ?_)
  replace hf := hf u_3 e9
  clear e9
  refine lv_aload_n hx hb dX7_empty_16 rfl (lv_at hl 0 rfl) ?_
  refine lv_iconst (v := (0 : Int32)) hx hb dX7_empty_17 (by decide) ?_
  refine xp_403 C hw (C.2.2.2.2.1 _ hwF_X7_53) dX7_empty_18 (fun u_4 e9 H locs hw => ?_)
  replace hf := hf u_4 e9
  clear e9
  refine lv_aload_n hx hb dX7_empty_21 rfl (lv_at hl 0 rfl) ?_
  refine lv_iconst (v := (0 : Int32)) hx hb dX7_empty_22 (by decide) ?_
  refine xp_404 C hw (C.2.2.2.2.1 _ hwF_X7_56) dX7_empty_23 (fun u_5 e9 H locs hw => ?_)
  replace hf := hf u_5 e9
  clear e9
  refine lv_aload_n hx hb dX7_empty_26 rfl (lv_at hl 0 rfl) ?_
  refine lv_iconst (v := (0 : Int32)) hx hb dX7_empty_27 (by decide) ?_
  refine xp_405 C hw (C.2.2.2.2.1 _ hwF_X7_59) dX7_empty_28 (fun u_6 e9 H locs hw => ?_)
  replace hf := hf u_6 e9
  clear e9
  refine lv_aload_n hx hb dX7_empty_31 rfl (lv_at hl 0 rfl) ?_
  refine lv_iconst (v := (0 : Int32)) hx hb dX7_empty_32 (by decide) ?_
  refine xp_406 C hw (C.2.2.2.2.1 _ hwF_X7_62) dX7_empty_33 (fun u_7 e9 H locs hw => ?_)
  replace hf := hf u_7 e9
  clear e9
  refine lv_aload_n hx hb dX7_empty_36 rfl (lv_at hl 0 rfl) ?_
  refine xg_408 C hw (C.2.2.2.2.1 _ hwF_X7_15) dX7_empty_37 ?_
  refine lv_bipush (v := (10 : Int32)) hx hb dX7_empty_40 (by decide) ?_
  refine th_callSv (As := [.ref (v 408), .int (10 : Int32)]) (rest := []) C lkJX7_65 (X_J_fill_53178_408_c hf) hw rfl rfl ⟨Nat.le_of_ble_eq_true rfl, Nat.le_of_ble_eq_true rfl⟩ hl.1 (Nat.le_of_ble_eq_true rfl) ⟨Nat.le_of_ble_eq_true rfl, Nat.le_of_ble_eq_true rfl⟩ dX7_empty_42 (fun u_8 H locs hf hw => ?_)
  refine lv_iconst (v := (0 : Int32)) hx hb dX7_empty_45 (by decide) ?_
  refine lv_istore_n (lv' := [(1, .int (0 : Int32)), (0, .ref (v 499))]) hx hb dX7_empty_46 rfl hl (by decide) rfl (fun ls hl => ?_)
  obtain ⟨n, hf⟩ := hf
  exact X_T_empty_B_47_lw C n (0 : Int32) u_8 _ _ _ hf hw (lv_sub hl [1, 0] rfl)
/-! X_T_fix_B -/
theorem dX7_fix_0 : decode cX7_fix 0 = .ok (.iload_n 1, 1) := by decide +kernel
theorem dX7_fix_1 : decode cX7_fix 1 = .ok (.istore_n 3, 1) := by decide +kernel
theorem dX7_fix_2 : decode cX7_fix 2 = .ok (.iload_n 3, 1) := by decide +kernel
theorem dX7_fix_3 : decode cX7_fix 3 = .ok (.iload_n 2, 1) := by decide +kernel
theorem dX7_fix_4 : decode cX7_fix 4 = .ok (.if_icmp .gt 24, 3) := by decide +kernel
theorem dX7_fix_7 : decode cX7_fix 7 = .ok (.aload_n 0, 1) := by decide +kernel
theorem dX7_fix_8 : decode cX7_fix 8 = .ok (.iload_n 3, 1) := by decide +kernel
theorem dX7_fix_9 : decode cX7_fix 9 = .ok (.invokevirtual 71, 3) := by decide +kernel
theorem dX7_fix_12 : decode cX7_fix 12 = .ok (.ifCond .eq 16, 3) := by decide +kernel
theorem dX7_fix_15 : decode cX7_fix 15 = .ok (.aload_n 0, 1) := by decide +kernel
theorem dX7_fix_16 : decode cX7_fix 16 = .ok (.getfield 9, 3) := by decide +kernel
theorem dX7_fix_19 : decode cX7_fix 19 = .ok (.iload_n 3, 1) := by decide +kernel
theorem dX7_fix_20 : decode cX7_fix 20 = .ok (.iconst 1, 1) := by decide +kernel
theorem dX7_fix_21 : decode cX7_fix 21 = .ok (.bastore, 1) := by decide +kernel
theorem dX7_fix_22 : decode cX7_fix 22 = .ok (.iinc 3 1, 3) := by decide +kernel
theorem dX7_fix_25 : decode cX7_fix 25 = .ok (.goto (-23), 3) := by decide +kernel
theorem dX7_fix_28 : decode cX7_fix 28 = .ok (.return_, 1) := by decide +kernel
def X_T_fix_B_28 (K : xs_St → Prop) (u : xs_St) : Prop :=
  K u
set_option maxHeartbeats 4000000 in
set_option maxRecDepth 100000 in
theorem X_T_fix_B_28_w {K : xs_St → Prop} (C : th_Cx p s m args meth c cX7_fix RX7 4 (none) (dC, dI) (th_ty cs) (xE ad ak) A) (u : xs_St) (H : Heap) (locs : List Loc) (ls : Array Slot) (hf : X_T_fix_B_28 K u) (hw : th_wI (dC, dI) (wX cs ad q v v) A s.heap u H locs) (hl : lv_has ls 4 []) : W p l e (th_rm 1 0 0) s m args below meth c H locs 0 0 (MQ below (va_Qv K (th_Post (dC, dI) (wX cs ad q v v) A) A) args s 0 0 A) (F0 m 28 ls []) := by
  have hx := C.1
  have hb := C.2.1
  unfold X_T_fix_B_28 at hf
  exact th_vret C hw hf dX7_fix_28
def X_T_fix_B_2 (K : xs_St → Prop) (k2 : Int32 → Int32 → xs_St → Prop) (x2 : Int32) (x3 : Int32) (u : xs_St) : Prop :=
  ((x2 < x3 → X_T_fix_B_28 K u) ∧ (¬ x2 < x3 → X_T_hasFoot_B x3 u (fun r_2 u_1 => ((r_2 = 0 → X_T_fix_B_28 K u_1) ∧ (¬ r_2 = 0 → (vp_in x3 48 ∧ ∀ u_3 : xs_St, u_3 = xs_sa u_1 407 (upd (xa u_1 407) (x3).toNatClampNeg (vp_nar .boolean (1 : Int32))) → ∀ x3_4 : Int32, x3_4 = x3 + (1 : Int32) → k2 x2 x3_4 u_3))))))
set_option maxHeartbeats 4000000 in
set_option maxRecDepth 100000 in
theorem X_T_fix_B_2_w {K : xs_St → Prop} {k2 : Int32 → Int32 → xs_St → Prop} (C : th_Cx p s m args meth c cX7_fix RX7 4 (none) (dC, dI) (th_ty cs) (xE ad ak) A) (hk2 : ∀ (x2 : Int32) (x3 : Int32) (u : xs_St) (H : Heap) (locs : List Loc) (ls : Array Slot), k2 x2 x3 u → th_wI (dC, dI) (wX cs ad q v v) A s.heap u H locs → lv_has ls 4 [(0, .ref (v 499)), (2, .int x2), (3, .int x3)] → W p l e (th_rm 1 0 0) s m args below meth c H locs 0 0 (MQ below (va_Qv K (th_Post (dC, dI) (wX cs ad q v v) A) A) args s 0 0 A) (F0 m 2 ls [])) (x2 : Int32) (x3 : Int32) (u : xs_St) (H : Heap) (locs : List Loc) (ls : Array Slot) (hf : X_T_fix_B_2 K k2 x2 x3 u) (hw : th_wI (dC, dI) (wX cs ad q v v) A s.heap u H locs) (hl : lv_has ls 4 [(0, .ref (v 499)), (2, .int x2), (3, .int x3)]) : W p l e (th_rm 1 0 0) s m args below meth c H locs 0 0 (MQ below (va_Qv K (th_Post (dC, dI) (wX cs ad q v v) A) A) args s 0 0 A) (F0 m 2 ls []) := by
  have hx := C.1
  have hb := C.2.1
  unfold X_T_fix_B_2 at hf
  refine lv_iload_n hx hb dX7_fix_2 rfl (lv_at hl 2 rfl) ?_
  refine lv_iload_n hx hb dX7_fix_3 rfl (lv_at hl 1 rfl) ?_
  refine lv_icmp_gt (tgt := 28) hx hb dX7_fix_4 (by decide) (fun hc => ?_) (fun hc => ?_)
  · replace hf := hf.1 hc
    clear hc
    exact X_T_fix_B_28_w C  u _ _ _ hf hw (lv_sub hl [] rfl)
  · replace hf := hf.2 hc
    clear hc
    refine lv_aload_n hx hb dX7_fix_7 rfl (lv_at hl 0 rfl) ?_
    refine lv_iload_n hx hb dX7_fix_8 rfl (lv_at hl 2 rfl) ?_
    refine th_callVi (As := [.int x3]) (rest := []) C lkX7_71 (X_T_hasFoot_B_c hf) hw (xRc_TB C hw) rfl rfl ⟨Nat.le_of_ble_eq_true rfl, Nat.le_of_ble_eq_true rfl⟩ hl.1 (Nat.le_of_ble_eq_true rfl) ⟨Nat.le_of_ble_eq_true rfl, Nat.le_of_ble_eq_true rfl⟩ dX7_fix_9 (fun r_2 u_1 H locs hf hw => ?_)
    refine lv_if_eq (tgt := 28) hx hb dX7_fix_12 (by decide) (fun hc => ?_) (fun hc => ?_)
    · replace hf := hf.1 hc
      clear hc
      exact X_T_fix_B_28_w C  u_1 _ _ _ hf hw (lv_sub hl [] rfl)
    · replace hf := hf.2 hc
      clear hc
      refine lv_aload_n hx hb dX7_fix_15 rfl (lv_at hl 0 rfl) ?_
      refine xg_407 C hw (C.2.2.2.2.1 _ hwF_X7_9) dX7_fix_16 ?_
      refine lv_iload_n hx hb dX7_fix_19 rfl (lv_at hl 2 rfl) ?_
      refine lv_iconst (v := (1 : Int32)) hx hb dX7_fix_20 (by decide) ?_
      refine ys_407 C hw hf.1 dX7_fix_21 (fun u_3 e9 H locs hw => ?_)
      replace hf := hf.2 u_3 e9
      clear e9
      obtain ⟨x3_4, e9⟩ : ∃ y : Int32, y = x3 + (1 : Int32) := ⟨_, rfl⟩
      replace hf := hf x3_4 e9
      refine lv_iinc (v := x3_4) (lv' := [(3, .int x3_4), (0, .ref (v 499)), (2, .int x2)]) hx hb dX7_fix_22 hl (k := 2) rfl (by rw [e9]; rfl) (by decide) rfl (fun ls hl => ?_)
      clear e9
      refine lv_goto (tgt := 2) hx hb dX7_fix_25 (by decide) ?_
      exact hk2 x2 x3_4 u_3 _ _ _ hf hw (lv_sub hl [1, 2, 0] rfl)
def X_T_fix_B_2_lp (K : xs_St → Prop) : Nat → Int32 → Int32 → xs_St → Prop
  | 0, _, _, _ => False
  | n + 1, x2, x3, u => X_T_fix_B_2 K (X_T_fix_B_2_lp K n) x2 x3 u
set_option maxHeartbeats 4000000 in
set_option maxRecDepth 100000 in
theorem X_T_fix_B_2_lw {K : xs_St → Prop} (C : th_Cx p s m args meth c cX7_fix RX7 4 (none) (dC, dI) (th_ty cs) (xE ad ak) A) (n : Nat) : ∀ (x2 : Int32) (x3 : Int32) (u : xs_St) (H : Heap) (locs : List Loc) (ls : Array Slot), X_T_fix_B_2_lp K n x2 x3 u → th_wI (dC, dI) (wX cs ad q v v) A s.heap u H locs → lv_has ls 4 [(0, .ref (v 499)), (2, .int x2), (3, .int x3)] → W p l e (th_rm 1 0 0) s m args below meth c H locs 0 0 (MQ below (va_Qv K (th_Post (dC, dI) (wX cs ad q v v) A) A) args s 0 0 A) (F0 m 2 ls []) := by
  induction n with
  | zero => intro x2 x3 u H locs ls hf; exact hf.elim
  | succ n ih =>
    intro x2 x3 u H locs ls hf hw hl
    exact X_T_fix_B_2_w C ih x2 x3 u H locs ls hf hw hl
def X_T_fix_B (a1 : Int32) (a2 : Int32) (u : xs_St) (K : xs_St → Prop) : Prop :=
  ∃ n, X_T_fix_B_2_lp K n a2 a1 u
set_option maxHeartbeats 4000000 in
set_option maxRecDepth 100000 in
theorem X_T_fix_B_c {l : Launch} {dC : Nat → ClassId} {dI : Nat → Nat → Nat} {cs : Nat → ClassId} {ad ak : Nat → Nat} {q v : Nat → Nat} {a1 : Int32} {a2 : Int32} {u : xs_St} {K : xs_St → Prop} (hf : X_T_fix_B a1 a2 u K) : th_Cv l yX7_fix cX7_fix 4 (none) 1 0 0 (dC, dI) (th_ty cs) (xE ad ak) (wX cs ad q v v) [.ref (v 499), .int a1, .int a2] u K := by
  refine th_ofv (by decide) (Nat.le_of_ble_eq_true rfl) (xE_ok ad ak) ?_
  intro p e s m below meth c A ls C hw hl
  have C : th_Cx p s m _ meth c cX7_fix RX7 4 (none) (dC, dI) (th_ty cs) (xE ad ak) A := C
  have hl : lv_has ls 4 [(0, .ref (v 499)), (1, .int a1), (2, .int a2)] := hl
  generalize (List.toArray _ : Array Value) = args at C ⊢
  have hx := C.1
  have hb := C.2.1
  unfold X_T_fix_B at hf
  refine lv_iload_n hx hb dX7_fix_0 rfl (lv_at hl 1 rfl) ?_
  refine lv_istore_n (lv' := [(3, .int a1), (0, .ref (v 499)), (1, .int a1), (2, .int a2)]) hx hb dX7_fix_1 rfl hl (by decide) rfl (fun ls hl => ?_)
  obtain ⟨n, hf⟩ := hf
  exact X_T_fix_B_2_lw C n a2 a1 u _ _ _ hf hw (lv_sub hl [1, 3, 0] rfl)
/-! X_T_holdBy_B -/
theorem dX7_holdBy_0 : decode cX7_holdBy 0 = .ok (.iload_n 2, 1) := by decide +kernel
theorem dX7_holdBy_1 : decode cX7_holdBy 1 = .ok (.istore 4, 2) := by decide +kernel
theorem dX7_holdBy_3 : decode cX7_holdBy 3 = .ok (.iload 4, 2) := by decide +kernel
theorem dX7_holdBy_5 : decode cX7_holdBy 5 = .ok (.iload_n 3, 1) := by decide +kernel
theorem dX7_holdBy_6 : decode cX7_holdBy 6 = .ok (.if_icmp .gt 26, 3) := by decide +kernel
theorem dX7_holdBy_9 : decode cX7_holdBy 9 = .ok (.aload_n 0, 1) := by decide +kernel
theorem dX7_holdBy_10 : decode cX7_holdBy 10 = .ok (.iload 4, 2) := by decide +kernel
theorem dX7_holdBy_12 : decode cX7_holdBy 12 = .ok (.invokevirtual 71, 3) := by decide +kernel
theorem dX7_holdBy_15 : decode cX7_holdBy 15 = .ok (.ifCond .eq 17, 3) := by decide +kernel
theorem dX7_holdBy_18 : decode cX7_holdBy 18 = .ok (.aload_n 0, 1) := by decide +kernel
theorem dX7_holdBy_19 : decode cX7_holdBy 19 = .ok (.getfield 15, 3) := by decide +kernel
theorem dX7_holdBy_22 : decode cX7_holdBy 22 = .ok (.iload 4, 2) := by decide +kernel
theorem dX7_holdBy_24 : decode cX7_holdBy 24 = .ok (.iload_n 1, 1) := by decide +kernel
theorem dX7_holdBy_25 : decode cX7_holdBy 25 = .ok (.iastore, 1) := by decide +kernel
theorem dX7_holdBy_26 : decode cX7_holdBy 26 = .ok (.iinc 4 1, 3) := by decide +kernel
theorem dX7_holdBy_29 : decode cX7_holdBy 29 = .ok (.goto (-26), 3) := by decide +kernel
theorem dX7_holdBy_32 : decode cX7_holdBy 32 = .ok (.return_, 1) := by decide +kernel
def X_T_holdBy_B_32 (K : xs_St → Prop) (u : xs_St) : Prop :=
  K u
set_option maxHeartbeats 4000000 in
set_option maxRecDepth 100000 in
theorem X_T_holdBy_B_32_w {K : xs_St → Prop} (C : th_Cx p s m args meth c cX7_holdBy RX7 5 (none) (dC, dI) (th_ty cs) (xE ad ak) A) (u : xs_St) (H : Heap) (locs : List Loc) (ls : Array Slot) (hf : X_T_holdBy_B_32 K u) (hw : th_wI (dC, dI) (wX cs ad q v v) A s.heap u H locs) (hl : lv_has ls 5 []) : W p l e (th_rm 1 0 0) s m args below meth c H locs 0 0 (MQ below (va_Qv K (th_Post (dC, dI) (wX cs ad q v v) A) A) args s 0 0 A) (F0 m 32 ls []) := by
  have hx := C.1
  have hb := C.2.1
  unfold X_T_holdBy_B_32 at hf
  exact th_vret C hw hf dX7_holdBy_32
def X_T_holdBy_B_3 (K : xs_St → Prop) (k3 : Int32 → Int32 → Int32 → xs_St → Prop) (x1 : Int32) (x3 : Int32) (x4 : Int32) (u : xs_St) : Prop :=
  ((x3 < x4 → X_T_holdBy_B_32 K u) ∧ (¬ x3 < x4 → X_T_hasFoot_B x4 u (fun r_2 u_1 => ((r_2 = 0 → X_T_holdBy_B_32 K u_1) ∧ (¬ r_2 = 0 → (vp_in x4 48 ∧ ∀ u_3 : xs_St, u_3 = xs_sa u_1 408 (upd (xa u_1 408) (x4).toNatClampNeg x1) → ∀ x4_4 : Int32, x4_4 = x4 + (1 : Int32) → k3 x1 x3 x4_4 u_3))))))
set_option maxHeartbeats 4000000 in
set_option maxRecDepth 100000 in
theorem X_T_holdBy_B_3_w {K : xs_St → Prop} {k3 : Int32 → Int32 → Int32 → xs_St → Prop} (C : th_Cx p s m args meth c cX7_holdBy RX7 5 (none) (dC, dI) (th_ty cs) (xE ad ak) A) (hk3 : ∀ (x1 : Int32) (x3 : Int32) (x4 : Int32) (u : xs_St) (H : Heap) (locs : List Loc) (ls : Array Slot), k3 x1 x3 x4 u → th_wI (dC, dI) (wX cs ad q v v) A s.heap u H locs → lv_has ls 5 [(0, .ref (v 499)), (1, .int x1), (3, .int x3), (4, .int x4)] → W p l e (th_rm 1 0 0) s m args below meth c H locs 0 0 (MQ below (va_Qv K (th_Post (dC, dI) (wX cs ad q v v) A) A) args s 0 0 A) (F0 m 3 ls [])) (x1 : Int32) (x3 : Int32) (x4 : Int32) (u : xs_St) (H : Heap) (locs : List Loc) (ls : Array Slot) (hf : X_T_holdBy_B_3 K k3 x1 x3 x4 u) (hw : th_wI (dC, dI) (wX cs ad q v v) A s.heap u H locs) (hl : lv_has ls 5 [(0, .ref (v 499)), (1, .int x1), (3, .int x3), (4, .int x4)]) : W p l e (th_rm 1 0 0) s m args below meth c H locs 0 0 (MQ below (va_Qv K (th_Post (dC, dI) (wX cs ad q v v) A) A) args s 0 0 A) (F0 m 3 ls []) := by
  have hx := C.1
  have hb := C.2.1
  unfold X_T_holdBy_B_3 at hf
  refine lv_iload hx hb dX7_holdBy_3 (lv_at hl 3 rfl) ?_
  refine lv_iload_n hx hb dX7_holdBy_5 rfl (lv_at hl 2 rfl) ?_
  refine lv_icmp_gt (tgt := 32) hx hb dX7_holdBy_6 (by decide) (fun hc => ?_) (fun hc => ?_)
  · replace hf := hf.1 hc
    clear hc
    exact X_T_holdBy_B_32_w C  u _ _ _ hf hw (lv_sub hl [] rfl)
  · replace hf := hf.2 hc
    clear hc
    refine lv_aload_n hx hb dX7_holdBy_9 rfl (lv_at hl 0 rfl) ?_
    refine lv_iload hx hb dX7_holdBy_10 (lv_at hl 3 rfl) ?_
    refine th_callVi (As := [.int x4]) (rest := []) C lkX7_71 (X_T_hasFoot_B_c hf) hw (xRc_TB C hw) rfl rfl ⟨Nat.le_of_ble_eq_true rfl, Nat.le_of_ble_eq_true rfl⟩ hl.1 (Nat.le_of_ble_eq_true rfl) ⟨Nat.le_of_ble_eq_true rfl, Nat.le_of_ble_eq_true rfl⟩ dX7_holdBy_12 (fun r_2 u_1 H locs hf hw => ?_)
    refine lv_if_eq (tgt := 32) hx hb dX7_holdBy_15 (by decide) (fun hc => ?_) (fun hc => ?_)
    · replace hf := hf.1 hc
      clear hc
      exact X_T_holdBy_B_32_w C  u_1 _ _ _ hf hw (lv_sub hl [] rfl)
    · replace hf := hf.2 hc
      clear hc
      refine lv_aload_n hx hb dX7_holdBy_18 rfl (lv_at hl 0 rfl) ?_
      refine xg_408 C hw (C.2.2.2.2.1 _ hwF_X7_15) dX7_holdBy_19 ?_
      refine lv_iload hx hb dX7_holdBy_22 (lv_at hl 3 rfl) ?_
      refine lv_iload_n hx hb dX7_holdBy_24 rfl (lv_at hl 1 rfl) ?_
      refine ys_408 C hw hf.1 dX7_holdBy_25 (fun u_3 e9 H locs hw => ?_)
      replace hf := hf.2 u_3 e9
      clear e9
      obtain ⟨x4_4, e9⟩ : ∃ y : Int32, y = x4 + (1 : Int32) := ⟨_, rfl⟩
      replace hf := hf x4_4 e9
      refine lv_iinc (v := x4_4) (lv' := [(4, .int x4_4), (0, .ref (v 499)), (1, .int x1), (3, .int x3)]) hx hb dX7_holdBy_26 hl (k := 3) rfl (by rw [e9]; rfl) (by decide) rfl (fun ls hl => ?_)
      clear e9
      refine lv_goto (tgt := 3) hx hb dX7_holdBy_29 (by decide) ?_
      exact hk3 x1 x3 x4_4 u_3 _ _ _ hf hw (lv_sub hl [1, 2, 3, 0] rfl)
def X_T_holdBy_B_3_lp (K : xs_St → Prop) : Nat → Int32 → Int32 → Int32 → xs_St → Prop
  | 0, _, _, _, _ => False
  | n + 1, x1, x3, x4, u => X_T_holdBy_B_3 K (X_T_holdBy_B_3_lp K n) x1 x3 x4 u
set_option maxHeartbeats 4000000 in
set_option maxRecDepth 100000 in
theorem X_T_holdBy_B_3_lw {K : xs_St → Prop} (C : th_Cx p s m args meth c cX7_holdBy RX7 5 (none) (dC, dI) (th_ty cs) (xE ad ak) A) (n : Nat) : ∀ (x1 : Int32) (x3 : Int32) (x4 : Int32) (u : xs_St) (H : Heap) (locs : List Loc) (ls : Array Slot), X_T_holdBy_B_3_lp K n x1 x3 x4 u → th_wI (dC, dI) (wX cs ad q v v) A s.heap u H locs → lv_has ls 5 [(0, .ref (v 499)), (1, .int x1), (3, .int x3), (4, .int x4)] → W p l e (th_rm 1 0 0) s m args below meth c H locs 0 0 (MQ below (va_Qv K (th_Post (dC, dI) (wX cs ad q v v) A) A) args s 0 0 A) (F0 m 3 ls []) := by
  induction n with
  | zero => intro x1 x3 x4 u H locs ls hf; exact hf.elim
  | succ n ih =>
    intro x1 x3 x4 u H locs ls hf hw hl
    exact X_T_holdBy_B_3_w C ih x1 x3 x4 u H locs ls hf hw hl
def X_T_holdBy_B (a1 : Int32) (a2 : Int32) (a3 : Int32) (u : xs_St) (K : xs_St → Prop) : Prop :=
  ∃ n, X_T_holdBy_B_3_lp K n a1 a3 a2 u
set_option maxHeartbeats 4000000 in
set_option maxRecDepth 100000 in
theorem X_T_holdBy_B_c {l : Launch} {dC : Nat → ClassId} {dI : Nat → Nat → Nat} {cs : Nat → ClassId} {ad ak : Nat → Nat} {q v : Nat → Nat} {a1 : Int32} {a2 : Int32} {a3 : Int32} {u : xs_St} {K : xs_St → Prop} (hf : X_T_holdBy_B a1 a2 a3 u K) : th_Cv l yX7_holdBy cX7_holdBy 5 (none) 1 0 0 (dC, dI) (th_ty cs) (xE ad ak) (wX cs ad q v v) [.ref (v 499), .int a1, .int a2, .int a3] u K := by
  refine th_ofv (by decide) (Nat.le_of_ble_eq_true rfl) (xE_ok ad ak) ?_
  intro p e s m below meth c A ls C hw hl
  have C : th_Cx p s m _ meth c cX7_holdBy RX7 5 (none) (dC, dI) (th_ty cs) (xE ad ak) A := C
  have hl : lv_has ls 5 [(0, .ref (v 499)), (1, .int a1), (2, .int a2), (3, .int a3)] := hl
  generalize (List.toArray _ : Array Value) = args at C ⊢
  have hx := C.1
  have hb := C.2.1
  unfold X_T_holdBy_B at hf
  refine lv_iload_n hx hb dX7_holdBy_0 rfl (lv_at hl 2 rfl) ?_
  refine lv_istore (lv' := [(4, .int a2), (0, .ref (v 499)), (1, .int a1), (2, .int a2), (3, .int a3)]) hx hb dX7_holdBy_1 hl (by decide) rfl (fun ls hl => ?_)
  obtain ⟨n, hf⟩ := hf
  exact X_T_holdBy_B_3_lw C n a1 a3 a2 u _ _ _ hf hw (lv_sub hl [1, 2, 4, 0] rfl)
/-! X_US_bits -/
theorem dX9_bits_0 : decode cX9_bits 0 = .ok (.iconst 0, 1) := by decide +kernel
theorem dX9_bits_1 : decode cX9_bits 1 = .ok (.iload_n 0, 1) := by decide +kernel
theorem dX9_bits_2 : decode cX9_bits 2 = .ok (.invokestatic 75, 3) := by decide +kernel
theorem dX9_bits_5 : decode cX9_bits 5 = .ok (.istore_n 2, 1) := by decide +kernel
theorem dX9_bits_6 : decode cX9_bits 6 = .ok (.bipush 30, 2) := by decide +kernel
theorem dX9_bits_8 : decode cX9_bits 8 = .ok (.iload_n 1, 1) := by decide +kernel
theorem dX9_bits_9 : decode cX9_bits 9 = .ok (.invokestatic 80, 3) := by decide +kernel
theorem dX9_bits_12 : decode cX9_bits 12 = .ok (.istore_n 3, 1) := by decide +kernel
theorem dX9_bits_13 : decode cX9_bits 13 = .ok (.iload_n 2, 1) := by decide +kernel
theorem dX9_bits_14 : decode cX9_bits 14 = .ok (.iload_n 3, 1) := by decide +kernel
theorem dX9_bits_15 : decode cX9_bits 15 = .ok (.if_icmp .le 7, 3) := by decide +kernel
theorem dX9_bits_18 : decode cX9_bits 18 = .ok (.iconst 0, 1) := by decide +kernel
theorem dX9_bits_19 : decode cX9_bits 19 = .ok (.goto 18, 3) := by decide +kernel
theorem dX9_bits_22 : decode cX9_bits 22 = .ok (.iconst 1, 1) := by decide +kernel
theorem dX9_bits_23 : decode cX9_bits 23 = .ok (.iload_n 3, 1) := by decide +kernel
theorem dX9_bits_24 : decode cX9_bits 24 = .ok (.iconst 1, 1) := by decide +kernel
theorem dX9_bits_25 : decode cX9_bits 25 = .ok (.iadd, 1) := by decide +kernel
theorem dX9_bits_26 : decode cX9_bits 26 = .ok (.ishl, 1) := by decide +kernel
theorem dX9_bits_27 : decode cX9_bits 27 = .ok (.iconst 1, 1) := by decide +kernel
theorem dX9_bits_28 : decode cX9_bits 28 = .ok (.isub, 1) := by decide +kernel
theorem dX9_bits_29 : decode cX9_bits 29 = .ok (.iconst 1, 1) := by decide +kernel
theorem dX9_bits_30 : decode cX9_bits 30 = .ok (.iload_n 2, 1) := by decide +kernel
theorem dX9_bits_31 : decode cX9_bits 31 = .ok (.ishl, 1) := by decide +kernel
theorem dX9_bits_32 : decode cX9_bits 32 = .ok (.iconst 1, 1) := by decide +kernel
theorem dX9_bits_33 : decode cX9_bits 33 = .ok (.isub, 1) := by decide +kernel
theorem dX9_bits_34 : decode cX9_bits 34 = .ok (.iconst (-1), 1) := by decide +kernel
theorem dX9_bits_35 : decode cX9_bits 35 = .ok (.ixor, 1) := by decide +kernel
theorem dX9_bits_36 : decode cX9_bits 36 = .ok (.iand, 1) := by decide +kernel
theorem dX9_bits_37 : decode cX9_bits 37 = .ok (.ireturn, 1) := by decide +kernel
def X_US_bits_37 (K : Int32 → xs_St → Prop) (z0 : Int32) (u : xs_St) : Prop :=
  K z0 u
set_option maxHeartbeats 4000000 in
set_option maxRecDepth 100000 in
theorem X_US_bits_37_w {K : Int32 → xs_St → Prop} (C : th_Cx p s m args meth c cX9_bits RX9 4 (some .int) (dC, dI) (th_ty cs) (xE ad ak) A) (z0 : Int32) (u : xs_St) (H : Heap) (locs : List Loc) (ls : Array Slot) (hf : X_US_bits_37 K z0 u) (hw : th_wI (dC, dI) (wX cs ad q v v) A s.heap u H locs) (hl : lv_has ls 4 []) : W p l e (th_rm 1 0 0) s m args below meth c H locs 0 0 (MQ below (va_Qi K (th_Post (dC, dI) (wX cs ad q v v) A) A) args s 0 0 A) (F0 m 37 ls [.int z0]) := by
  have hx := C.1
  have hb := C.2.1
  unfold X_US_bits_37 at hf
  exact th_iret C hw hf dX9_bits_37
def X_US_bits (a1 : Int32) (a2 : Int32) (u : xs_St) (K : Int32 → xs_St → Prop) : Prop :=
  ∀ y_1 : Int32, y_1 = (if (0 : Int32) < a1 then a1 else (0 : Int32)) → ∀ y_2 : Int32, y_2 = (if a2 < (30 : Int32) then a2 else (30 : Int32)) → ((y_1 ≤ y_2 → X_US_bits_37 K ((((1 : Int32) <<< ((y_2 + (1 : Int32)) &&& 31)) - (1 : Int32)) &&& ((((1 : Int32) <<< (y_1 &&& 31)) - (1 : Int32)) ^^^ (-1 : Int32))) u) ∧ (¬ y_1 ≤ y_2 → X_US_bits_37 K (0 : Int32) u))
set_option maxHeartbeats 4000000 in
set_option maxRecDepth 100000 in
theorem X_US_bits_c {l : Launch} {dC : Nat → ClassId} {dI : Nat → Nat → Nat} {cs : Nat → ClassId} {ad ak : Nat → Nat} {q v : Nat → Nat} {a1 : Int32} {a2 : Int32} {u : xs_St} {K : Int32 → xs_St → Prop} (hf : X_US_bits a1 a2 u K) : th_Ci l yX9_bits cX9_bits 4 (some .int) 1 0 0 (dC, dI) (th_ty cs) (xE ad ak) (wX cs ad q v v) [.int a1, .int a2] u K := by
  refine th_ofi (by decide) (Nat.le_of_ble_eq_true rfl) (xE_ok ad ak) ?_
  intro p e s m below meth c A ls C hw hl
  have C : th_Cx p s m _ meth c cX9_bits RX9 4 (some .int) (dC, dI) (th_ty cs) (xE ad ak) A := C
  have hl : lv_has ls 4 [(0, .int a1), (1, .int a2)] := hl
  generalize (List.toArray _ : Array Value) = args at C ⊢
  have hx := C.1
  have hb := C.2.1
  unfold X_US_bits at hf
  refine lv_iconst (v := (0 : Int32)) hx hb dX9_bits_0 (by decide) ?_
  refine lv_iload_n hx hb dX9_bits_1 rfl (lv_at hl 0 rfl) ?_
  refine va_mmax hx hb (C.2.2.1.trans hl.1.symm) C.2.2.2.1 (C.2.2.2.2.1 _ hwM_X9_75) (C.2.2.2.2.1 _ hwS_Math_max) (C.2.2.2.2.1 _ hwI_Math) (C.2.2.2.2.1 _ hwC_Math_max) (Nat.le_of_ble_eq_true rfl) (Nat.le_of_ble_eq_true rfl) (Nat.le_of_ble_eq_true rfl) (Nat.le_of_ble_eq_true rfl) dX9_bits_2 ?_
  refine lv_topi (fun y_1 e9 => ?_)
  replace hf := hf y_1 e9
  clear e9
  refine lv_istore_n (lv' := [(2, .int y_1), (0, .int a1), (1, .int a2)]) hx hb dX9_bits_5 rfl hl (by decide) rfl (fun ls hl => ?_)
  refine lv_bipush (v := (30 : Int32)) hx hb dX9_bits_6 (by decide) ?_
  refine lv_iload_n hx hb dX9_bits_8 rfl (lv_at hl 2 rfl) ?_
  refine va_mmin hx hb (C.2.2.1.trans hl.1.symm) C.2.2.2.1 (C.2.2.2.2.1 _ hwM_X9_80) (C.2.2.2.2.1 _ hwS_Math_min) (C.2.2.2.2.1 _ hwI_Math) (C.2.2.2.2.1 _ hwC_Math_min) (Nat.le_of_ble_eq_true rfl) (Nat.le_of_ble_eq_true rfl) (Nat.le_of_ble_eq_true rfl) (Nat.le_of_ble_eq_true rfl) dX9_bits_9 ?_
  refine lv_topi (fun y_2 e9 => ?_)
  replace hf := hf y_2 e9
  clear e9
  refine lv_istore_n (lv' := [(3, .int y_2), (2, .int y_1), (0, .int a1), (1, .int a2)]) hx hb dX9_bits_12 rfl hl (by decide) rfl (fun ls hl => ?_)
  refine lv_iload_n hx hb dX9_bits_13 rfl (lv_at hl 1 rfl) ?_
  refine lv_iload_n hx hb dX9_bits_14 rfl (lv_at hl 0 rfl) ?_
  refine lv_icmp_le (tgt := 22) hx hb dX9_bits_15 (by decide) (fun hc => ?_) (fun hc => ?_)
  · replace hf := hf.1 hc
    clear hc
    refine lv_iconst (v := (1 : Int32)) hx hb dX9_bits_22 (by decide) ?_
    refine lv_iload_n hx hb dX9_bits_23 rfl (lv_at hl 0 rfl) ?_
    refine lv_iconst (v := (1 : Int32)) hx hb dX9_bits_24 (by decide) ?_
    refine lv_iadd hx hb dX9_bits_25 ?_
    refine lv_ishl hx hb dX9_bits_26 ?_
    refine lv_iconst (v := (1 : Int32)) hx hb dX9_bits_27 (by decide) ?_
    refine lv_isub hx hb dX9_bits_28 ?_
    refine lv_iconst (v := (1 : Int32)) hx hb dX9_bits_29 (by decide) ?_
    refine lv_iload_n hx hb dX9_bits_30 rfl (lv_at hl 1 rfl) ?_
    refine lv_ishl hx hb dX9_bits_31 ?_
    refine lv_iconst (v := (1 : Int32)) hx hb dX9_bits_32 (by decide) ?_
    refine lv_isub hx hb dX9_bits_33 ?_
    refine lv_iconst (v := (-1 : Int32)) hx hb dX9_bits_34 (by decide) ?_
    refine lv_ixor hx hb dX9_bits_35 ?_
    refine lv_iand hx hb dX9_bits_36 ?_
    exact X_US_bits_37_w C ((((1 : Int32) <<< ((y_2 + (1 : Int32)) &&& 31)) - (1 : Int32)) &&& ((((1 : Int32) <<< (y_1 &&& 31)) - (1 : Int32)) ^^^ (-1 : Int32))) u _ _ _ hf hw (lv_sub hl [] rfl)
  · replace hf := hf.2 hc
    clear hc
    refine lv_iconst (v := (0 : Int32)) hx hb dX9_bits_18 (by decide) ?_
    refine lv_goto (tgt := 37) hx hb dX9_bits_19 (by decide) ?_
    exact X_US_bits_37_w C (0 : Int32) u _ _ _ hf hw (lv_sub hl [] rfl)
end

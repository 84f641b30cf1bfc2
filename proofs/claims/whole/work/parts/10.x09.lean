section
variable {p : Program} {l : Launch} {e : Env} {s : State} {m : MethodId} {args : Array Value} {below : List Frame} {meth : Method} {c : Code} {dC : Nat → ClassId} {dI : Nat → Nat → Nat} {cs : Nat → ClassId} {ad : Nat → Nat} {q v : Nat → Nat} {A : Nat → Prop}
/-! X_T_alarmIsAt_A -/
theorem dX7_alarmIsAt_0 : decode cX7_alarmIsAt 0 = .ok (.iload_n 1, 1) := by decide +kernel
theorem dX7_alarmIsAt_1 : decode cX7_alarmIsAt 1 = .ok (.ifCond .lt 11, 3) := by decide +kernel
theorem dX7_alarmIsAt_4 : decode cX7_alarmIsAt 4 = .ok (.iload_n 1, 1) := by decide +kernel
theorem dX7_alarmIsAt_5 : decode cX7_alarmIsAt 5 = .ok (.aload_n 0, 1) := by decide +kernel
theorem dX7_alarmIsAt_6 : decode cX7_alarmIsAt 6 = .ok (.getfield 59, 3) := by decide +kernel
theorem dX7_alarmIsAt_9 : decode cX7_alarmIsAt 9 = .ok (.if_icmp .lt 5, 3) := by decide +kernel
theorem dX7_alarmIsAt_12 : decode cX7_alarmIsAt 12 = .ok (.iconst 0, 1) := by decide +kernel
theorem dX7_alarmIsAt_13 : decode cX7_alarmIsAt 13 = .ok (.ireturn, 1) := by decide +kernel
theorem dX7_alarmIsAt_14 : decode cX7_alarmIsAt 14 = .ok (.aload_n 2, 1) := by decide +kernel
theorem dX7_alarmIsAt_15 : decode cX7_alarmIsAt 15 = .ok (.astore_n 3, 1) := by decide +kernel
theorem dX7_alarmIsAt_16 : decode cX7_alarmIsAt 16 = .ok (.iconst 0, 1) := by decide +kernel
theorem dX7_alarmIsAt_17 : decode cX7_alarmIsAt 17 = .ok (.istore 4, 2) := by decide +kernel
theorem dX7_alarmIsAt_19 : decode cX7_alarmIsAt 19 = .ok (.iload 4, 2) := by decide +kernel
theorem dX7_alarmIsAt_21 : decode cX7_alarmIsAt 21 = .ok (.aload_n 0, 1) := by decide +kernel
theorem dX7_alarmIsAt_22 : decode cX7_alarmIsAt 22 = .ok (.getfield 19, 3) := by decide +kernel
theorem dX7_alarmIsAt_25 : decode cX7_alarmIsAt 25 = .ok (.iload_n 1, 1) := by decide +kernel
theorem dX7_alarmIsAt_26 : decode cX7_alarmIsAt 26 = .ok (.iaload, 1) := by decide +kernel
theorem dX7_alarmIsAt_27 : decode cX7_alarmIsAt 27 = .ok (.if_icmp .ge 36, 3) := by decide +kernel
theorem dX7_alarmIsAt_30 : decode cX7_alarmIsAt 30 = .ok (.aload_n 3, 1) := by decide +kernel
theorem dX7_alarmIsAt_31 : decode cX7_alarmIsAt 31 = .ok (.ifnull 19, 3) := by decide +kernel
theorem dX7_alarmIsAt_34 : decode cX7_alarmIsAt 34 = .ok (.aload_n 3, 1) := by decide +kernel
theorem dX7_alarmIsAt_35 : decode cX7_alarmIsAt 35 = .ok (.getfield 79, 3) := by decide +kernel
theorem dX7_alarmIsAt_38 : decode cX7_alarmIsAt 38 = .ok (.ifnull 12, 3) := by decide +kernel
theorem dX7_alarmIsAt_41 : decode cX7_alarmIsAt 41 = .ok (.aload_n 0, 1) := by decide +kernel
theorem dX7_alarmIsAt_42 : decode cX7_alarmIsAt 42 = .ok (.iload_n 1, 1) := by decide +kernel
theorem dX7_alarmIsAt_43 : decode cX7_alarmIsAt 43 = .ok (.aload_n 3, 1) := by decide +kernel
theorem dX7_alarmIsAt_44 : decode cX7_alarmIsAt 44 = .ok (.invokevirtual 85, 3) := by decide +kernel
theorem dX7_alarmIsAt_47 : decode cX7_alarmIsAt 47 = .ok (.ifCond .ne 5, 3) := by decide +kernel
theorem dX7_alarmIsAt_50 : decode cX7_alarmIsAt 50 = .ok (.iconst 0, 1) := by decide +kernel
theorem dX7_alarmIsAt_51 : decode cX7_alarmIsAt 51 = .ok (.ireturn, 1) := by decide +kernel
theorem dX7_alarmIsAt_52 : decode cX7_alarmIsAt 52 = .ok (.aload_n 3, 1) := by decide +kernel
theorem dX7_alarmIsAt_53 : decode cX7_alarmIsAt 53 = .ok (.getfield 79, 3) := by decide +kernel
theorem dX7_alarmIsAt_56 : decode cX7_alarmIsAt 56 = .ok (.astore_n 3, 1) := by decide +kernel
theorem dX7_alarmIsAt_57 : decode cX7_alarmIsAt 57 = .ok (.iinc 4 1, 3) := by decide +kernel
theorem dX7_alarmIsAt_60 : decode cX7_alarmIsAt 60 = .ok (.goto (-41), 3) := by decide +kernel
theorem dX7_alarmIsAt_63 : decode cX7_alarmIsAt 63 = .ok (.iconst 1, 1) := by decide +kernel
theorem dX7_alarmIsAt_64 : decode cX7_alarmIsAt 64 = .ok (.ireturn, 1) := by decide +kernel
def X_T_alarmIsAt_A_12 (K : Int32 → xs_St → Prop) (u : xs_St) : Prop :=
  (((0 : Int32) = 0 ∨ (0 : Int32) = 1) ∧ K (0 : Int32) u)
set_option maxHeartbeats 4000000 in
set_option maxRecDepth 100000 in
theorem X_T_alarmIsAt_A_12_w {K : Int32 → xs_St → Prop} (C : th_Cx p s m args meth c cX7_alarmIsAt RX7 5 (some .boolean) (dC, dI) (th_ty cs) (xE ad) A) (u : xs_St) (H : Heap) (locs : List Loc) (ls : Array Slot) (hf : X_T_alarmIsAt_A_12 K u) (hw : th_wI (dC, dI) (wX cs ad q v v) A s.heap u H locs) (hl : lv_has ls 5 []) : W p l e (th_rm 5 0 0) s m args below meth c H locs 0 0 (MQ below (va_Qi K (th_Post (dC, dI) (wX cs ad q v v) A) A) args s 0 0 A) (F0 m 12 ls []) := by
  have hx := C.1
  have hb := C.2.1
  unfold X_T_alarmIsAt_A_12 at hf
  refine lv_iconst (v := (0 : Int32)) hx hb dX7_alarmIsAt_12 (by decide) ?_
  exact th_zret C hw hf dX7_alarmIsAt_13
def X_T_alarmIsAt_A_50 (K : Int32 → xs_St → Prop) (u : xs_St) : Prop :=
  (((0 : Int32) = 0 ∨ (0 : Int32) = 1) ∧ K (0 : Int32) u)
set_option maxHeartbeats 4000000 in
set_option maxRecDepth 100000 in
theorem X_T_alarmIsAt_A_50_w {K : Int32 → xs_St → Prop} (C : th_Cx p s m args meth c cX7_alarmIsAt RX7 5 (some .boolean) (dC, dI) (th_ty cs) (xE ad) A) (u : xs_St) (H : Heap) (locs : List Loc) (ls : Array Slot) (hf : X_T_alarmIsAt_A_50 K u) (hw : th_wI (dC, dI) (wX cs ad q v v) A s.heap u H locs) (hl : lv_has ls 5 []) : W p l e (th_rm 5 0 0) s m args below meth c H locs 0 0 (MQ below (va_Qi K (th_Post (dC, dI) (wX cs ad q v v) A) A) args s 0 0 A) (F0 m 50 ls []) := by
  have hx := C.1
  have hb := C.2.1
  unfold X_T_alarmIsAt_A_50 at hf
  refine lv_iconst (v := (0 : Int32)) hx hb dX7_alarmIsAt_50 (by decide) ?_
  exact th_zret C hw hf dX7_alarmIsAt_51
def X_T_alarmIsAt_A_19 (K : Int32 → xs_St → Prop) (k19 : Int32 → Option Nat → Int32 → xs_St → Prop) (x1 : Int32) (x3 : Option Nat) (x4 : Int32) (u : xs_St) : Prop :=
  (vp_in x1 6 ∧ ∀ y_1 : Int32, y_1 = xa u 309 (x1).toNatClampNeg → ((y_1 ≤ x4 → (((1 : Int32) = 0 ∨ (1 : Int32) = 1) ∧ K (1 : Int32) u)) ∧ (¬ y_1 ≤ x4 → ((x3 = none → X_T_alarmIsAt_A_50 K u) ∧ (¬ x3 = none → (∃ b_2 : Nat, x3 = some b_2 ∧ xd_is u b_2 3 ∧ (((xdR u 2 b_2) = none → X_T_alarmIsAt_A_50 K u) ∧ (¬ (xdR u 2 b_2) = none → X_T_holds_A x1 x3 u (fun r_4 u_3 => ((¬ r_4 = 0 → (∃ b_5 : Nat, x3 = some b_5 ∧ xd_is u_3 b_5 3 ∧ ∀ x4_6 : Int32, x4_6 = x4 + (1 : Int32) → k19 x1 (xdR u_3 2 b_5) x4_6 u_3)) ∧ (r_4 = 0 → X_T_alarmIsAt_A_50 K u_3)))))))))))
set_option maxHeartbeats 4000000 in
set_option maxRecDepth 100000 in
theorem X_T_alarmIsAt_A_19_w {K : Int32 → xs_St → Prop} {k19 : Int32 → Option Nat → Int32 → xs_St → Prop} (C : th_Cx p s m args meth c cX7_alarmIsAt RX7 5 (some .boolean) (dC, dI) (th_ty cs) (xE ad) A) (hk19 : ∀ (x1 : Int32) (x3 : Option Nat) (x4 : Int32) (u : xs_St) (H : Heap) (locs : List Loc) (ls : Array Slot), k19 x1 x3 x4 u → th_wI (dC, dI) (wX cs ad q v v) A s.heap u H locs → lv_has ls 5 [(0, .ref (v 399)), (1, .int x1), (3, va_rf x3), (4, .int x4)] → W p l e (th_rm 5 0 0) s m args below meth c H locs 0 0 (MQ below (va_Qi K (th_Post (dC, dI) (wX cs ad q v v) A) A) args s 0 0 A) (F0 m 19 ls [])) (x1 : Int32) (x3 : Option Nat) (x4 : Int32) (u : xs_St) (H : Heap) (locs : List Loc) (ls : Array Slot) (hf : X_T_alarmIsAt_A_19 K k19 x1 x3 x4 u) (hw : th_wI (dC, dI) (wX cs ad q v v) A s.heap u H locs) (hl : lv_has ls 5 [(0, .ref (v 399)), (1, .int x1), (3, va_rf x3), (4, .int x4)]) : W p l e (th_rm 5 0 0) s m args below meth c H locs 0 0 (MQ below (va_Qi K (th_Post (dC, dI) (wX cs ad q v v) A) A) args s 0 0 A) (F0 m 19 ls []) := by
  have hx := C.1
  have hb := C.2.1
  unfold X_T_alarmIsAt_A_19 at hf
  refine lv_iload hx hb dX7_alarmIsAt_19 (lv_at hl 3 rfl) ?_
  refine lv_aload_n hx hb dX7_alarmIsAt_21 rfl (lv_at hl 0 rfl) ?_
  refine xg_309 C hw (C.2.2.2.2.1 _ hwF_X7_19) dX7_alarmIsAt_22 ?_
  refine lv_iload_n hx hb dX7_alarmIsAt_25 rfl (lv_at hl 1 rfl) ?_
  refine yl_309 C hw hf.1 dX7_alarmIsAt_26 (fun y_1 e9 => ?_)
  replace hf := hf.2 y_1 e9
  clear e9
  refine lv_icmp_ge (tgt := 63) hx hb dX7_alarmIsAt_27 (by decide) (fun hc => ?_) (fun hc => ?_)
  · replace hf := hf.1 hc
    clear hc
    refine lv_iconst (v := (1 : Int32)) hx hb dX7_alarmIsAt_63 (by decide) ?_
    exact th_zret C hw hf dX7_alarmIsAt_64
  · replace hf := hf.2 hc
    clear hc
    refine th_aload_n hx hb dX7_alarmIsAt_30 rfl (lv_at hl 2 rfl) ?_
    refine th_ifnull (tgt := 50) hx hb dX7_alarmIsAt_31 (by decide) (fun hc => ?_) (fun hc => ?_)
    · replace hf := hf.1 hc
      clear hc
      exact X_T_alarmIsAt_A_50_w C  u _ _ _ hf hw (lv_sub hl [] rfl)
    · replace hf := hf.2 hc
      clear hc
      refine th_aload_n hx hb dX7_alarmIsAt_34 rfl (lv_at hl 2 rfl) ?_
      obtain ⟨b_2, e9, hm, hf⟩ := hf
      refine W.eq (g2 := F0 m 35 ls [.ref b_2]) (congrArg (fun z9 => F0 m 35 ls [va_rf z9]) e9) ?_
      clear e9
      refine xdgn_Feel_ahead C hw hm (va_Nw.use rfl (xN C hwG_X7_79)) dX7_alarmIsAt_35 ?_
      refine th_ifnull (tgt := 50) hx hb dX7_alarmIsAt_38 (by decide) (fun hc => ?_) (fun hc => ?_)
      · replace hf := hf.1 hc
        clear hc
        exact X_T_alarmIsAt_A_50_w C  u _ _ _ hf hw (lv_sub hl [] rfl)
      · replace hf := hf.2 hc
        clear hc
        refine lv_aload_n hx hb dX7_alarmIsAt_41 rfl (lv_at hl 0 rfl) ?_
        refine lv_iload_n hx hb dX7_alarmIsAt_42 rfl (lv_at hl 1 rfl) ?_
        refine th_aload_n hx hb dX7_alarmIsAt_43 rfl (lv_at hl 2 rfl) ?_
        refine th_callVi (As := [.int x1, va_rf x3]) (rest := []) C lkX7_85 (X_T_holds_A_c hf) hw (xRc_TA C hw) rfl rfl ⟨Nat.le_of_ble_eq_true rfl, Nat.le_of_ble_eq_true rfl⟩ hl.1 (Nat.le_of_ble_eq_true rfl) ⟨Nat.le_of_ble_eq_true rfl, Nat.le_of_ble_eq_true rfl⟩ dX7_alarmIsAt_44 (fun r_4 u_3 H locs hf hw => ?_)
        refine lv_if_ne (tgt := 52) hx hb dX7_alarmIsAt_47 (by decide) (fun hc => ?_) (fun hc => ?_)
        · replace hf := hf.1 hc
          clear hc
          refine th_aload_n hx hb dX7_alarmIsAt_52 rfl (lv_at hl 2 rfl) ?_
          obtain ⟨b_5, e9, hm, hf⟩ := hf
          refine W.eq (g2 := F0 m 53 ls [.ref b_5]) (congrArg (fun z9 => F0 m 53 ls [va_rf z9]) e9) ?_
          clear e9
          refine xdgn_Feel_ahead C hw hm (va_Nw.use rfl (xN C hwG_X7_79)) dX7_alarmIsAt_53 ?_
          refine th_astore_n (r := (xdR u_3 2 b_5)) (lv' := [(3, va_rf (xdR u_3 2 b_5)), (0, .ref (v 399)), (1, .int x1), (4, .int x4)]) hx hb dX7_alarmIsAt_56 rfl hl (by decide) rfl (fun ls hl => ?_)
          obtain ⟨x4_6, e9⟩ : ∃ y : Int32, y = x4 + (1 : Int32) := ⟨_, rfl⟩
          replace hf := hf x4_6 e9
          refine lv_iinc (v := x4_6) (lv' := [(4, .int x4_6), (3, va_rf (xdR u_3 2 b_5)), (0, .ref (v 399)), (1, .int x1)]) hx hb dX7_alarmIsAt_57 hl (k := 3) rfl (by rw [e9]; rfl) (by decide) (by simp [List.filter, th_cat, th_cate]) (fun ls hl => ?_)
          clear e9
          refine lv_goto (tgt := 19) hx hb dX7_alarmIsAt_60 (by decide) ?_
          exact hk19 x1 (xdR u_3 2 b_5) x4_6 u_3 _ _ _ hf hw (lv_sub hl [2, 3, 1, 0] rfl)
        · replace hf := hf.2 hc
          clear hc
          exact X_T_alarmIsAt_A_50_w C  u_3 _ _ _ hf hw (lv_sub hl [] rfl)
def X_T_alarmIsAt_A_19_lp (K : Int32 → xs_St → Prop) : Nat → Int32 → Option Nat → Int32 → xs_St → Prop
  | 0, _, _, _, _ => False
  | n + 1, x1, x3, x4, u => X_T_alarmIsAt_A_19 K (X_T_alarmIsAt_A_19_lp K n) x1 x3 x4 u
set_option maxHeartbeats 4000000 in
set_option maxRecDepth 100000 in
theorem X_T_alarmIsAt_A_19_lw {K : Int32 → xs_St → Prop} (C : th_Cx p s m args meth c cX7_alarmIsAt RX7 5 (some .boolean) (dC, dI) (th_ty cs) (xE ad) A) (n : Nat) : ∀ (x1 : Int32) (x3 : Option Nat) (x4 : Int32) (u : xs_St) (H : Heap) (locs : List Loc) (ls : Array Slot), X_T_alarmIsAt_A_19_lp K n x1 x3 x4 u → th_wI (dC, dI) (wX cs ad q v v) A s.heap u H locs → lv_has ls 5 [(0, .ref (v 399)), (1, .int x1), (3, va_rf x3), (4, .int x4)] → W p l e (th_rm 5 0 0) s m args below meth c H locs 0 0 (MQ below (va_Qi K (th_Post (dC, dI) (wX cs ad q v v) A) A) args s 0 0 A) (F0 m 19 ls []) := by
  induction n with
  | zero => intro x1 x3 x4 u H locs ls hf; exact hf.elim
  | succ n ih =>
    intro x1 x3 x4 u H locs ls hf hw hl
    exact X_T_alarmIsAt_A_19_w C ih x1 x3 x4 u H locs ls hf hw hl
def X_T_alarmIsAt_A (a1 : Int32) (a2 : Option Nat) (u : xs_St) (K : Int32 → xs_St → Prop) : Prop :=
  ((a1 < 0 → X_T_alarmIsAt_A_12 K u) ∧ (¬ a1 < 0 → ((a1 < (xi u 305) → ∃ n, X_T_alarmIsAt_A_19_lp K n a1 a2 (0 : Int32) u) ∧ (¬ a1 < (xi u 305) → X_T_alarmIsAt_A_12 K u))))
set_option maxHeartbeats 4000000 in
set_option maxRecDepth 100000 in
theorem X_T_alarmIsAt_A_c {l : Launch} {dC : Nat → ClassId} {dI : Nat → Nat → Nat} {cs : Nat → ClassId} {ad : Nat → Nat} {q v : Nat → Nat} {a1 : Int32} {a2 : Option Nat} {u : xs_St} {K : Int32 → xs_St → Prop} (hf : X_T_alarmIsAt_A a1 a2 u K) : th_Ci l yX7_alarmIsAt cX7_alarmIsAt 5 (some .boolean) 5 0 0 (dC, dI) (th_ty cs) (xE ad) (wX cs ad q v v) [.ref (v 399), .int a1, va_rf a2] u K := by
  refine th_ofi (by decide) (by cases a2 <;> exact Nat.le_of_ble_eq_true rfl) (xE_ok ad) ?_
  intro p e s m below meth c A ls C hw hl
  have C : th_Cx p s m _ meth c cX7_alarmIsAt RX7 5 (some .boolean) (dC, dI) (th_ty cs) (xE ad) A := C
  have hl : lv_has ls 5 [(0, .ref (v 399)), (1, .int a1), (2, va_rf a2)] := by cases a2 <;> exact hl
  generalize (List.toArray _ : Array Value) = args at C ⊢
  have hx := C.1
  have hb := C.2.1
  unfold X_T_alarmIsAt_A at hf
  refine lv_iload_n hx hb dX7_alarmIsAt_0 rfl (lv_at hl 1 rfl) ?_
  refine lv_if_lt (tgt := 12) hx hb dX7_alarmIsAt_1 (by decide) (fun hc => ?_) (fun hc => ?_)
  · replace hf := hf.1 hc
    clear hc
    exact X_T_alarmIsAt_A_12_w C  u _ _ _ hf hw (lv_sub hl [] rfl)
  · replace hf := hf.2 hc
    clear hc
    refine lv_iload_n hx hb dX7_alarmIsAt_4 rfl (lv_at hl 1 rfl) ?_
    refine lv_aload_n hx hb dX7_alarmIsAt_5 rfl (lv_at hl 0 rfl) ?_
    refine xg_305 C hw (C.2.2.2.2.1 _ hwF_X7_59) dX7_alarmIsAt_6 ?_
    refine lv_icmp_lt (tgt := 14) hx hb dX7_alarmIsAt_9 (by decide) (fun hc => ?_) (fun hc => ?_)
    · replace hf := hf.1 hc
      clear hc
      refine th_aload_n hx hb dX7_alarmIsAt_14 rfl (lv_at hl 2 rfl) ?_
      refine th_astore_n (r := a2) (i := 3) (lv' := [(3, va_rf a2), (0, .ref (v 399)), (1, .int a1), (2, va_rf a2)]) hx hb dX7_alarmIsAt_15 rfl hl (by decide) (by simp [List.filter, th_cat, th_cate]) (fun ls hl => ?_)
      refine lv_iconst (v := (0 : Int32)) hx hb dX7_alarmIsAt_16 (by decide) ?_
      refine lv_istore (i := 4) (lv' := [(4, .int (0 : Int32)), (3, va_rf a2), (0, .ref (v 399)), (1, .int a1), (2, va_rf a2)]) hx hb dX7_alarmIsAt_17 hl (by decide) (by simp [List.filter, th_cat, th_cate]) (fun ls hl => ?_)
      obtain ⟨n, hf⟩ := hf
      exact X_T_alarmIsAt_A_19_lw C n a1 a2 (0 : Int32) u _ _ _ hf hw (lv_sub hl [2, 3, 1, 0] rfl)
    · replace hf := hf.2 hc
      clear hc
      exact X_T_alarmIsAt_A_12_w C  u _ _ _ hf hw (lv_sub hl [] rfl)
/-! X_BD_firstAlarmed -/
theorem dX0_firstAlarmed_0 : decode cX0_firstAlarmed 0 = .ok (.aload_n 0, 1) := by decide +kernel
theorem dX0_firstAlarmed_1 : decode cX0_firstAlarmed 1 = .ok (.iload_n 3, 1) := by decide +kernel
theorem dX0_firstAlarmed_2 : decode cX0_firstAlarmed 2 = .ok (.invokevirtual 65, 3) := by decide +kernel
theorem dX0_firstAlarmed_5 : decode cX0_firstAlarmed 5 = .ok (.istore 4, 2) := by decide +kernel
theorem dX0_firstAlarmed_7 : decode cX0_firstAlarmed 7 = .ok (.aload_n 0, 1) := by decide +kernel
theorem dX0_firstAlarmed_8 : decode cX0_firstAlarmed 8 = .ok (.getfield 28, 3) := by decide +kernel
theorem dX0_firstAlarmed_11 : decode cX0_firstAlarmed 11 = .ok (.astore 5, 2) := by decide +kernel
theorem dX0_firstAlarmed_13 : decode cX0_firstAlarmed 13 = .ok (.iconst 0, 1) := by decide +kernel
theorem dX0_firstAlarmed_14 : decode cX0_firstAlarmed 14 = .ok (.istore 6, 2) := by decide +kernel
theorem dX0_firstAlarmed_16 : decode cX0_firstAlarmed 16 = .ok (.iload 6, 2) := by decide +kernel
theorem dX0_firstAlarmed_18 : decode cX0_firstAlarmed 18 = .ok (.iload 4, 2) := by decide +kernel
theorem dX0_firstAlarmed_20 : decode cX0_firstAlarmed 20 = .ok (.if_icmp .ge 45, 3) := by decide +kernel
theorem dX0_firstAlarmed_23 : decode cX0_firstAlarmed 23 = .ok (.iload 6, 2) := by decide +kernel
theorem dX0_firstAlarmed_25 : decode cX0_firstAlarmed 25 = .ok (.bipush 40, 2) := by decide +kernel
theorem dX0_firstAlarmed_27 : decode cX0_firstAlarmed 27 = .ok (.if_icmp .ge 38, 3) := by decide +kernel
theorem dX0_firstAlarmed_30 : decode cX0_firstAlarmed 30 = .ok (.aload_n 0, 1) := by decide +kernel
theorem dX0_firstAlarmed_31 : decode cX0_firstAlarmed 31 = .ok (.aload_n 1, 1) := by decide +kernel
theorem dX0_firstAlarmed_32 : decode cX0_firstAlarmed 32 = .ok (.aload 5, 2) := by decide +kernel
theorem dX0_firstAlarmed_34 : decode cX0_firstAlarmed 34 = .ok (.aload_n 0, 1) := by decide +kernel
theorem dX0_firstAlarmed_35 : decode cX0_firstAlarmed 35 = .ok (.getfield 17, 3) := by decide +kernel
theorem dX0_firstAlarmed_38 : decode cX0_firstAlarmed 38 = .ok (.iload 6, 2) := by decide +kernel
theorem dX0_firstAlarmed_40 : decode cX0_firstAlarmed 40 = .ok (.aaload, 1) := by decide +kernel
theorem dX0_firstAlarmed_41 : decode cX0_firstAlarmed 41 = .ok (.invokevirtual 69, 3) := by decide +kernel
theorem dX0_firstAlarmed_44 : decode cX0_firstAlarmed 44 = .ok (.astore 5, 2) := by decide +kernel
theorem dX0_firstAlarmed_46 : decode cX0_firstAlarmed 46 = .ok (.aload_n 1, 1) := by decide +kernel
theorem dX0_firstAlarmed_47 : decode cX0_firstAlarmed 47 = .ok (.iload_n 2, 1) := by decide +kernel
theorem dX0_firstAlarmed_48 : decode cX0_firstAlarmed 48 = .ok (.aload 5, 2) := by decide +kernel
theorem dX0_firstAlarmed_50 : decode cX0_firstAlarmed 50 = .ok (.invokevirtual 90, 3) := by decide +kernel
theorem dX0_firstAlarmed_53 : decode cX0_firstAlarmed 53 = .ok (.ifCond .eq 6, 3) := by decide +kernel
theorem dX0_firstAlarmed_56 : decode cX0_firstAlarmed 56 = .ok (.iload 6, 2) := by decide +kernel
theorem dX0_firstAlarmed_58 : decode cX0_firstAlarmed 58 = .ok (.ireturn, 1) := by decide +kernel
theorem dX0_firstAlarmed_59 : decode cX0_firstAlarmed 59 = .ok (.iinc 6 1, 3) := by decide +kernel
theorem dX0_firstAlarmed_62 : decode cX0_firstAlarmed 62 = .ok (.goto (-46), 3) := by decide +kernel
theorem dX0_firstAlarmed_65 : decode cX0_firstAlarmed 65 = .ok (.iconst (-1), 1) := by decide +kernel
theorem dX0_firstAlarmed_66 : decode cX0_firstAlarmed 66 = .ok (.ireturn, 1) := by decide +kernel
def X_BD_firstAlarmed_65 (K : Int32 → xs_St → Prop) (u : xs_St) : Prop :=
  K (-1 : Int32) u
set_option maxHeartbeats 4000000 in
set_option maxRecDepth 100000 in
theorem X_BD_firstAlarmed_65_w {K : Int32 → xs_St → Prop} (C : th_Cx p s m args meth c cX0_firstAlarmed RX0 7 (some .int) (dC, dI) (th_ty cs) (xE ad) A) (u : xs_St) (H : Heap) (locs : List Loc) (ls : Array Slot) (hf : X_BD_firstAlarmed_65 K u) (hw : th_wI (dC, dI) (wX cs ad q v v) A s.heap u H locs) (hl : lv_has ls 7 []) (n9 m9 : Nat) (h9 : n9 + 0 ≤ 82) (g9 : m9 + 0 ≤ 2296) : W p l e (th_rm 6 82 2296) s m args below meth c H locs n9 m9 (MQ below (va_Qi K (th_Post (dC, dI) (wX cs ad q v v) A) A) args s 82 2296 A) (F0 m 65 ls []) := by
  have hx := C.1
  have hb := C.2.1
  unfold X_BD_firstAlarmed_65 at hf
  refine lv_iconst (v := (-1 : Int32)) hx hb dX0_firstAlarmed_65 (by decide) ?_
  refine W.widen (k := 82) (n := 2296) (by omega) (by omega) ?_
  exact th_iret C hw hf dX0_firstAlarmed_66
def X_BD_firstAlarmed_16 (K : Int32 → xs_St → Prop) (k16 : Int32 → Int32 → Option Nat → Int32 → xs_St → Prop) (x2 : Int32) (x4 : Int32) (x5 : Option Nat) (x6 : Int32) (u : xs_St) : Prop :=
  ((x4 ≤ x6 → X_BD_firstAlarmed_65 K u) ∧ (¬ x4 ≤ x6 → (((40 : Int32) ≤ x6 → X_BD_firstAlarmed_65 K u) ∧ (¬ (40 : Int32) ≤ x6 → (vp_in x6 40 ∧ ∀ y_1 : Option Nat, y_1 = xo u 501 (x6).toNatClampNeg → X_BD_feelBehind x5 y_1 u (fun r_3 u_2 => X_T_alarmIsAt_A x2 r_3 u_2 (fun r_5 u_4 => ((r_5 = 0 → ∀ x6_6 : Int32, x6_6 = x6 + (1 : Int32) → k16 x2 x4 r_3 x6_6 u_4) ∧ (¬ r_5 = 0 → K x6 u_4)))))))))
set_option maxHeartbeats 4000000 in
set_option maxRecDepth 100000 in
theorem X_BD_firstAlarmed_16_w {n : Nat} {K : Int32 → xs_St → Prop} {k16 : Int32 → Int32 → Option Nat → Int32 → xs_St → Prop} (C : th_Cx p s m args meth c cX0_firstAlarmed RX0 7 (some .int) (dC, dI) (th_ty cs) (xE ad) A) (hk16 : ∀ (x2 : Int32) (x4 : Int32) (x5 : Option Nat) (x6 : Int32) (u : xs_St) (H : Heap) (locs : List Loc) (ls : Array Slot), k16 x2 x4 x5 x6 u → th_wI (dC, dI) (wX cs ad q v v) A s.heap u H locs → lv_has ls 7 [(0, .ref (q 599)), (1, .ref (v 399)), (2, .int x2), (4, .int x4), (5, va_rf x5), (6, .int x6)] → ∀ (n9 m9 : Nat), n9 + (2 * n + 0) ≤ 82 → m9 + (56 * n + 0) ≤ 2296 → W p l e (th_rm 6 82 2296) s m args below meth c H locs n9 m9 (MQ below (va_Qi K (th_Post (dC, dI) (wX cs ad q v v) A) A) args s 82 2296 A) (F0 m 16 ls [])) (x2 : Int32) (x4 : Int32) (x5 : Option Nat) (x6 : Int32) (u : xs_St) (H : Heap) (locs : List Loc) (ls : Array Slot) (hf : X_BD_firstAlarmed_16 K k16 x2 x4 x5 x6 u) (hw : th_wI (dC, dI) (wX cs ad q v v) A s.heap u H locs) (hl : lv_has ls 7 [(0, .ref (q 599)), (1, .ref (v 399)), (2, .int x2), (4, .int x4), (5, va_rf x5), (6, .int x6)]) (n9 m9 : Nat) (h9 : n9 + (2 * (n + 1) + 0) ≤ 82) (g9 : m9 + (56 * (n + 1) + 0) ≤ 2296) : W p l e (th_rm 6 82 2296) s m args below meth c H locs n9 m9 (MQ below (va_Qi K (th_Post (dC, dI) (wX cs ad q v v) A) A) args s 82 2296 A) (F0 m 16 ls []) := by
  have hx := C.1
  have hb := C.2.1
  unfold X_BD_firstAlarmed_16 at hf
  refine lv_iload hx hb dX0_firstAlarmed_16 (lv_at hl 5 rfl) ?_
  refine lv_iload hx hb dX0_firstAlarmed_18 (lv_at hl 3 rfl) ?_
  refine lv_icmp_ge (tgt := 65) hx hb dX0_firstAlarmed_20 (by decide) (fun hc => ?_) (fun hc => ?_)
  · replace hf := hf.1 hc
    clear hc
    exact X_BD_firstAlarmed_65_w C  u _ _ _ hf hw (lv_sub hl [] rfl) _ _ (by omega) (by omega)
  · replace hf := hf.2 hc
    clear hc
    refine lv_iload hx hb dX0_firstAlarmed_23 (lv_at hl 5 rfl) ?_
    refine lv_bipush (v := (40 : Int32)) hx hb dX0_firstAlarmed_25 (by decide) ?_
    refine lv_icmp_ge (tgt := 65) hx hb dX0_firstAlarmed_27 (by decide) (fun hc => ?_) (fun hc => ?_)
    · replace hf := hf.1 hc
      clear hc
      exact X_BD_firstAlarmed_65_w C  u _ _ _ hf hw (lv_sub hl [] rfl) _ _ (by omega) (by omega)
    · replace hf := hf.2 hc
      clear hc
      refine lv_aload_n hx hb dX0_firstAlarmed_30 rfl (lv_at hl 0 rfl) ?_
      refine lv_aload_n hx hb dX0_firstAlarmed_31 rfl (lv_at hl 1 rfl) ?_
      refine th_aload hx hb dX0_firstAlarmed_32 (lv_at hl 4 rfl) ?_
      refine lv_aload_n hx hb dX0_firstAlarmed_34 rfl (lv_at hl 0 rfl) ?_
      refine xg_501 C hw (C.2.2.2.2.1 _ hwF_X0_17) dX0_firstAlarmed_35 ?_
      refine lv_iload hx hb dX0_firstAlarmed_38 (lv_at hl 5 rfl) ?_
      refine yl_501 C hw hf.1 dX0_firstAlarmed_40 (fun y_1 e9 => ?_)
      replace hf := hf.2 y_1 e9
      clear e9
      refine th_callVq (As := [.ref (v 399), va_rf x5, va_rf y_1]) (rest := []) C lkX0_69 (X_BD_feelBehind_c hf) hw (xRc_BD C hw) rfl rfl ⟨Nat.le_of_ble_eq_true rfl, Nat.le_of_ble_eq_true rfl⟩ hl.1 (Nat.le_of_ble_eq_true rfl) ⟨by simp only [th_rm]; omega, by simp only [th_rm]; omega⟩ dX0_firstAlarmed_41 (fun r_3 u_2 H locs hf hw => ?_)
      refine th_astore (r := r_3) (lv' := [(5, va_rf r_3), (0, .ref (q 599)), (1, .ref (v 399)), (2, .int x2), (4, .int x4), (6, .int x6)]) hx hb dX0_firstAlarmed_44 hl (by decide) rfl (fun ls hl => ?_)
      refine lv_aload_n hx hb dX0_firstAlarmed_46 rfl (lv_at hl 2 rfl) ?_
      refine lv_iload_n hx hb dX0_firstAlarmed_47 rfl (lv_at hl 3 rfl) ?_
      refine th_aload hx hb dX0_firstAlarmed_48 (lv_at hl 0 rfl) ?_
      refine th_callVi (As := [.int x2, va_rf r_3]) (rest := []) C lkX0_90 (X_T_alarmIsAt_A_c hf) hw (xRc_TA C hw) rfl rfl ⟨Nat.le_of_ble_eq_true rfl, Nat.le_of_ble_eq_true rfl⟩ hl.1 (Nat.le_of_ble_eq_true rfl) ⟨by simp only [th_rm]; omega, by simp only [th_rm]; omega⟩ dX0_firstAlarmed_50 (fun r_5 u_4 H locs hf hw => ?_)
      refine lv_if_eq (tgt := 59) hx hb dX0_firstAlarmed_53 (by decide) (fun hc => ?_) (fun hc => ?_)
      · replace hf := hf.1 hc
        clear hc
        obtain ⟨x6_6, e9⟩ : ∃ y : Int32, y = x6 + (1 : Int32) := ⟨_, rfl⟩
        replace hf := hf x6_6 e9
        refine lv_iinc (v := x6_6) (lv' := [(6, .int x6_6), (5, va_rf r_3), (0, .ref (q 599)), (1, .ref (v 399)), (2, .int x2), (4, .int x4)]) hx hb dX0_firstAlarmed_59 hl (k := 5) rfl (by rw [e9]; rfl) (by decide) (by simp [List.filter, th_cat, th_cate]) (fun ls hl => ?_)
        clear e9
        refine lv_goto (tgt := 16) hx hb dX0_firstAlarmed_62 (by decide) ?_
        exact hk16 x2 x4 r_3 x6_6 u_4 _ _ _ hf hw (lv_sub hl [2, 3, 4, 5, 1, 0] rfl) _ _ (by omega) (by omega)
      · replace hf := hf.2 hc
        clear hc
        refine lv_iload hx hb dX0_firstAlarmed_56 (lv_at hl 5 rfl) ?_
        refine W.widen (k := 82) (n := 2296) (by omega) (by omega) ?_
        exact th_iret C hw hf dX0_firstAlarmed_58
def X_BD_firstAlarmed_16_lp (K : Int32 → xs_St → Prop) : Nat → Int32 → Int32 → Option Nat → Int32 → xs_St → Prop
  | 0, _, _, _, _, _ => False
  | n + 1, x2, x4, x5, x6, u => X_BD_firstAlarmed_16 K (X_BD_firstAlarmed_16_lp K n) x2 x4 x5 x6 u
set_option maxHeartbeats 4000000 in
set_option maxRecDepth 100000 in
theorem X_BD_firstAlarmed_16_lw {K : Int32 → xs_St → Prop} (C : th_Cx p s m args meth c cX0_firstAlarmed RX0 7 (some .int) (dC, dI) (th_ty cs) (xE ad) A) (n : Nat) : ∀ (x2 : Int32) (x4 : Int32) (x5 : Option Nat) (x6 : Int32) (u : xs_St) (H : Heap) (locs : List Loc) (ls : Array Slot), X_BD_firstAlarmed_16_lp K n x2 x4 x5 x6 u → th_wI (dC, dI) (wX cs ad q v v) A s.heap u H locs → lv_has ls 7 [(0, .ref (q 599)), (1, .ref (v 399)), (2, .int x2), (4, .int x4), (5, va_rf x5), (6, .int x6)] → ∀ (n9 m9 : Nat), n9 + (2 * n + 0) ≤ 82 → m9 + (56 * n + 0) ≤ 2296 → W p l e (th_rm 6 82 2296) s m args below meth c H locs n9 m9 (MQ below (va_Qi K (th_Post (dC, dI) (wX cs ad q v v) A) A) args s 82 2296 A) (F0 m 16 ls []) := by
  induction n with
  | zero => intro x2 x4 x5 x6 u H locs ls hf; exact hf.elim
  | succ n ih =>
    intro x2 x4 x5 x6 u H locs ls hf hw hl n9 m9 h9 g9
    exact X_BD_firstAlarmed_16_w C ih x2 x4 x5 x6 u H locs ls hf hw hl n9 m9 h9 g9
def X_BD_firstAlarmed (a2 : Int32) (a3 : Int32) (u : xs_St) (K : Int32 → xs_St → Prop) : Prop :=
  X_BD_lookBack a3 u (fun r_2 u_1 => ∃ n, n ≤ 41 ∧ X_BD_firstAlarmed_16_lp K n a2 r_2 (xr u_1 502) (0 : Int32) u_1)
set_option maxHeartbeats 4000000 in
set_option maxRecDepth 100000 in
theorem X_BD_firstAlarmed_c {l : Launch} {dC : Nat → ClassId} {dI : Nat → Nat → Nat} {cs : Nat → ClassId} {ad : Nat → Nat} {q v : Nat → Nat} {a2 : Int32} {a3 : Int32} {u : xs_St} {K : Int32 → xs_St → Prop} (hf : X_BD_firstAlarmed a2 a3 u K) : th_Ci l yX0_firstAlarmed cX0_firstAlarmed 7 (some .int) 6 82 2296 (dC, dI) (th_ty cs) (xE ad) (wX cs ad q v v) [.ref (q 599), .ref (v 399), .int a2, .int a3] u K := by
  refine th_ofi (by decide) (Nat.le_of_ble_eq_true rfl) (xE_ok ad) ?_
  intro p e s m below meth c A ls C hw hl
  have C : th_Cx p s m _ meth c cX0_firstAlarmed RX0 7 (some .int) (dC, dI) (th_ty cs) (xE ad) A := C
  have hl : lv_has ls 7 [(0, .ref (q 599)), (1, .ref (v 399)), (2, .int a2), (3, .int a3)] := hl
  generalize (List.toArray _ : Array Value) = args at C ⊢
  have hx := C.1
  have hb := C.2.1
  unfold X_BD_firstAlarmed at hf
  refine lv_aload_n hx hb dX0_firstAlarmed_0 rfl (lv_at hl 0 rfl) ?_
  refine lv_iload_n hx hb dX0_firstAlarmed_1 rfl (lv_at hl 3 rfl) ?_
  refine th_callVi (As := [.int a3]) (rest := []) C lkX0_65 (X_BD_lookBack_c hf) hw (xRc_BD C hw) rfl rfl ⟨Nat.le_of_ble_eq_true rfl, Nat.le_of_ble_eq_true rfl⟩ hl.1 (Nat.le_of_ble_eq_true rfl) ⟨by simp only [th_rm]; omega, by simp only [th_rm]; omega⟩ dX0_firstAlarmed_2 (fun r_2 u_1 H locs hf hw => ?_)
  refine lv_istore (lv' := [(4, .int r_2), (0, .ref (q 599)), (1, .ref (v 399)), (2, .int a2), (3, .int a3)]) hx hb dX0_firstAlarmed_5 hl (by decide) rfl (fun ls hl => ?_)
  refine lv_aload_n hx hb dX0_firstAlarmed_7 rfl (lv_at hl 1 rfl) ?_
  refine xg_502 C hw (C.2.2.2.2.1 _ hwF_X0_28) dX0_firstAlarmed_8 ?_
  refine th_astore (r := (xr u_1 502)) (lv' := [(5, va_rf (xr u_1 502)), (4, .int r_2), (0, .ref (q 599)), (1, .ref (v 399)), (2, .int a2), (3, .int a3)]) hx hb dX0_firstAlarmed_11 hl (by decide) rfl (fun ls hl => ?_)
  refine lv_iconst (v := (0 : Int32)) hx hb dX0_firstAlarmed_13 (by decide) ?_
  refine lv_istore (i := 6) (lv' := [(6, .int (0 : Int32)), (5, va_rf (xr u_1 502)), (4, .int r_2), (0, .ref (q 599)), (1, .ref (v 399)), (2, .int a2), (3, .int a3)]) hx hb dX0_firstAlarmed_14 hl (by decide) (by simp [List.filter, th_cat, th_cate]) (fun ls hl => ?_)
  obtain ⟨n, hn41, hf⟩ := hf
  exact X_BD_firstAlarmed_16_lw C n a2 r_2 (xr u_1 502) (0 : Int32) u_1 _ _ _ hf hw (lv_sub hl [3, 4, 5, 2, 1, 0] rfl) _ _ (by omega) (by omega)
/-! X_TH_alarm -/
theorem dX11_alarm_0 : decode cX11_alarm 0 = .ok (.aload_n 0, 1) := by decide +kernel
theorem dX11_alarm_1 : decode cX11_alarm 1 = .ok (.getfield 26, 3) := by decide +kernel
theorem dX11_alarm_4 : decode cX11_alarm 4 = .ok (.aload_n 0, 1) := by decide +kernel
theorem dX11_alarm_5 : decode cX11_alarm 5 = .ok (.getfield 69, 3) := by decide +kernel
theorem dX11_alarm_8 : decode cX11_alarm 8 = .ok (.iload_n 2, 1) := by decide +kernel
theorem dX11_alarm_9 : decode cX11_alarm 9 = .ok (.iload_n 3, 1) := by decide +kernel
theorem dX11_alarm_10 : decode cX11_alarm 10 = .ok (.invokevirtual 144, 3) := by decide +kernel
theorem dX11_alarm_13 : decode cX11_alarm 13 = .ok (.astore 4, 2) := by decide +kernel
theorem dX11_alarm_15 : decode cX11_alarm 15 = .ok (.aload 4, 2) := by decide +kernel
theorem dX11_alarm_17 : decode cX11_alarm 17 = .ok (.ifnull 18, 3) := by decide +kernel
theorem dX11_alarm_20 : decode cX11_alarm 20 = .ok (.iload_n 1, 1) := by decide +kernel
theorem dX11_alarm_21 : decode cX11_alarm 21 = .ok (.ifCond .lt 14, 3) := by decide +kernel
theorem dX11_alarm_24 : decode cX11_alarm 24 = .ok (.iload_n 1, 1) := by decide +kernel
theorem dX11_alarm_25 : decode cX11_alarm 25 = .ok (.aload_n 0, 1) := by decide +kernel
theorem dX11_alarm_26 : decode cX11_alarm 26 = .ok (.getfield 69, 3) := by decide +kernel
theorem dX11_alarm_29 : decode cX11_alarm 29 = .ok (.getfield 176, 3) := by decide +kernel
theorem dX11_alarm_32 : decode cX11_alarm 32 = .ok (.if_icmp .lt 5, 3) := by decide +kernel
theorem dX11_alarm_35 : decode cX11_alarm 35 = .ok (.iconst (-1), 1) := by decide +kernel
theorem dX11_alarm_36 : decode cX11_alarm 36 = .ok (.ireturn, 1) := by decide +kernel
theorem dX11_alarm_37 : decode cX11_alarm 37 = .ok (.aload_n 0, 1) := by decide +kernel
theorem dX11_alarm_38 : decode cX11_alarm 38 = .ok (.getfield 69, 3) := by decide +kernel
theorem dX11_alarm_41 : decode cX11_alarm 41 = .ok (.iload_n 1, 1) := by decide +kernel
theorem dX11_alarm_42 : decode cX11_alarm 42 = .ok (.aload 4, 2) := by decide +kernel
theorem dX11_alarm_44 : decode cX11_alarm 44 = .ok (.invokevirtual 179, 3) := by decide +kernel
theorem dX11_alarm_47 : decode cX11_alarm 47 = .ok (.ifCond .eq 7, 3) := by decide +kernel
theorem dX11_alarm_50 : decode cX11_alarm 50 = .ok (.iconst 1, 1) := by decide +kernel
theorem dX11_alarm_51 : decode cX11_alarm 51 = .ok (.goto 4, 3) := by decide +kernel
theorem dX11_alarm_54 : decode cX11_alarm 54 = .ok (.iconst 0, 1) := by decide +kernel
theorem dX11_alarm_55 : decode cX11_alarm 55 = .ok (.ireturn, 1) := by decide +kernel
def X_TH_alarm_35 (K : Int32 → xs_St → Prop) (u : xs_St) : Prop :=
  K (-1 : Int32) u
set_option maxHeartbeats 4000000 in
set_option maxRecDepth 100000 in
theorem X_TH_alarm_35_w {K : Int32 → xs_St → Prop} (C : th_Cx p s m args meth c cX11_alarm RX11 5 (some .int) (dC, dI) (th_ty cs) (xE ad) A) (u : xs_St) (H : Heap) (locs : List Loc) (ls : Array Slot) (hf : X_TH_alarm_35 K u) (hw : th_wI (dC, dI) (wX cs ad q v v) A s.heap u H locs) (hl : lv_has ls 5 []) (n9 m9 : Nat) (h9 : n9 + 0 ≤ 82) (g9 : m9 + 0 ≤ 2296) : W p l e (th_rm 6 82 2296) s m args below meth c H locs n9 m9 (MQ below (va_Qi K (th_Post (dC, dI) (wX cs ad q v v) A) A) args s 82 2296 A) (F0 m 35 ls []) := by
  have hx := C.1
  have hb := C.2.1
  unfold X_TH_alarm_35 at hf
  refine lv_iconst (v := (-1 : Int32)) hx hb dX11_alarm_35 (by decide) ?_
  refine W.widen (k := 82) (n := 2296) (by omega) (by omega) ?_
  exact th_iret C hw hf dX11_alarm_36
def X_TH_alarm_55 (K : Int32 → xs_St → Prop) (z0 : Int32) (u : xs_St) : Prop :=
  K z0 u
set_option maxHeartbeats 4000000 in
set_option maxRecDepth 100000 in
theorem X_TH_alarm_55_w {K : Int32 → xs_St → Prop} (C : th_Cx p s m args meth c cX11_alarm RX11 5 (some .int) (dC, dI) (th_ty cs) (xE ad) A) (z0 : Int32) (u : xs_St) (H : Heap) (locs : List Loc) (ls : Array Slot) (hf : X_TH_alarm_55 K z0 u) (hw : th_wI (dC, dI) (wX cs ad q v v) A s.heap u H locs) (hl : lv_has ls 5 []) (n9 m9 : Nat) (h9 : n9 + 0 ≤ 82) (g9 : m9 + 0 ≤ 2296) : W p l e (th_rm 6 82 2296) s m args below meth c H locs n9 m9 (MQ below (va_Qi K (th_Post (dC, dI) (wX cs ad q v v) A) A) args s 82 2296 A) (F0 m 55 ls [.int z0]) := by
  have hx := C.1
  have hb := C.2.1
  unfold X_TH_alarm_55 at hf
  refine W.widen (k := 82) (n := 2296) (by omega) (by omega) ?_
  exact th_iret C hw hf dX11_alarm_55
def X_TH_alarm (a1 : Int32) (a2 : Int32) (a3 : Int32) (u : xs_St) (K : Int32 → xs_St → Prop) : Prop :=
  X_BD_feelOf a2 a3 u (fun r_2 u_1 => ((r_2 = none → X_TH_alarm_35 K u_1) ∧ (¬ r_2 = none → ((a1 < 0 → X_TH_alarm_35 K u_1) ∧ (¬ a1 < 0 → ((a1 < (xi u_1 305) → X_T_alarmIsAt_A a1 r_2 u_1 (fun r_4 u_3 => ((r_4 = 0 → X_TH_alarm_55 K (0 : Int32) u_3) ∧ (¬ r_4 = 0 → X_TH_alarm_55 K (1 : Int32) u_3)))) ∧ (¬ a1 < (xi u_1 305) → X_TH_alarm_35 K u_1)))))))
set_option maxHeartbeats 4000000 in
set_option maxRecDepth 100000 in
theorem X_TH_alarm_c {l : Launch} {dC : Nat → ClassId} {dI : Nat → Nat → Nat} {cs : Nat → ClassId} {ad : Nat → Nat} {q v : Nat → Nat} {a1 : Int32} {a2 : Int32} {a3 : Int32} {u : xs_St} {K : Int32 → xs_St → Prop} (hf : X_TH_alarm a1 a2 a3 u K) : th_Ci l yX11_alarm cX11_alarm 5 (some .int) 6 82 2296 (dC, dI) (th_ty cs) (xE ad) (wX cs ad q v v) [.ref (q 99), .int a1, .int a2, .int a3] u K := by
  refine th_ofi (by decide) (Nat.le_of_ble_eq_true rfl) (xE_ok ad) ?_
  intro p e s m below meth c A ls C hw hl
  have C : th_Cx p s m _ meth c cX11_alarm RX11 5 (some .int) (dC, dI) (th_ty cs) (xE ad) A := C
  have hl : lv_has ls 5 [(0, .ref (q 99)), (1, .int a1), (2, .int a2), (3, .int a3)] := hl
  generalize (List.toArray _ : Array Value) = args at C ⊢
  have hx := C.1
  have hb := C.2.1
  unfold X_TH_alarm at hf
  refine lv_aload_n hx hb dX11_alarm_0 rfl (lv_at hl 0 rfl) ?_
  refine xg_2 C hw (C.2.2.2.2.1 _ hwF_X11_26) dX11_alarm_1 ?_
  refine lv_aload_n hx hb dX11_alarm_4 rfl (lv_at hl 0 rfl) ?_
  refine xg_9 C hw (C.2.2.2.2.1 _ hwF_X11_69) dX11_alarm_5 ?_
  refine lv_iload_n hx hb dX11_alarm_8 rfl (lv_at hl 2 rfl) ?_
  refine lv_iload_n hx hb dX11_alarm_9 rfl (lv_at hl 3 rfl) ?_
  refine th_callVq (As := [.ref (v 399), .int a2, .int a3]) (rest := []) C lkX11_144 (X_BD_feelOf_c hf) hw (xRc_BD C hw) rfl rfl ⟨Nat.le_of_ble_eq_true rfl, Nat.le_of_ble_eq_true rfl⟩ hl.1 (Nat.le_of_ble_eq_true rfl) ⟨by simp only [th_rm]; omega, by simp only [th_rm]; omega⟩ dX11_alarm_10 (fun r_2 u_1 H locs hf hw => ?_)
  refine th_astore (r := r_2) (lv' := [(4, va_rf r_2), (0, .ref (q 99)), (1, .int a1), (2, .int a2), (3, .int a3)]) hx hb dX11_alarm_13 hl (by decide) rfl (fun ls hl => ?_)
  refine th_aload hx hb dX11_alarm_15 (lv_at hl 0 rfl) ?_
  refine th_ifnull (tgt := 35) hx hb dX11_alarm_17 (by decide) (fun hc => ?_) (fun hc => ?_)
  · replace hf := hf.1 hc
    clear hc
    exact X_TH_alarm_35_w C  u_1 _ _ _ hf hw (lv_sub hl [] rfl) _ _ (by omega) (by omega)
  · replace hf := hf.2 hc
    clear hc
    refine lv_iload_n hx hb dX11_alarm_20 rfl (lv_at hl 2 rfl) ?_
    refine lv_if_lt (tgt := 35) hx hb dX11_alarm_21 (by decide) (fun hc => ?_) (fun hc => ?_)
    · replace hf := hf.1 hc
      clear hc
      exact X_TH_alarm_35_w C  u_1 _ _ _ hf hw (lv_sub hl [] rfl) _ _ (by omega) (by omega)
    · replace hf := hf.2 hc
      clear hc
      refine lv_iload_n hx hb dX11_alarm_24 rfl (lv_at hl 2 rfl) ?_
      refine lv_aload_n hx hb dX11_alarm_25 rfl (lv_at hl 1 rfl) ?_
      refine xg_9 C hw (C.2.2.2.2.1 _ hwF_X11_69) dX11_alarm_26 ?_
      refine xgn_305 C hw (va_Nw.use rfl (xN C hwG_X11_176)) dX11_alarm_29 ?_
      refine lv_icmp_lt (tgt := 37) hx hb dX11_alarm_32 (by decide) (fun hc => ?_) (fun hc => ?_)
      · replace hf := hf.1 hc
        clear hc
        refine lv_aload_n hx hb dX11_alarm_37 rfl (lv_at hl 1 rfl) ?_
        refine xg_9 C hw (C.2.2.2.2.1 _ hwF_X11_69) dX11_alarm_38 ?_
        refine lv_iload_n hx hb dX11_alarm_41 rfl (lv_at hl 2 rfl) ?_
        refine th_aload hx hb dX11_alarm_42 (lv_at hl 0 rfl) ?_
        refine th_callVi (As := [.int a1, va_rf r_2]) (rest := []) C lkX11_179 (X_T_alarmIsAt_A_c hf) hw (xRc_TA C hw) rfl rfl ⟨Nat.le_of_ble_eq_true rfl, Nat.le_of_ble_eq_true rfl⟩ hl.1 (Nat.le_of_ble_eq_true rfl) ⟨by simp only [th_rm]; omega, by simp only [th_rm]; omega⟩ dX11_alarm_44 (fun r_4 u_3 H locs hf hw => ?_)
        refine lv_if_eq (tgt := 54) hx hb dX11_alarm_47 (by decide) (fun hc => ?_) (fun hc => ?_)
        · replace hf := hf.1 hc
          clear hc
          refine lv_iconst (v := (0 : Int32)) hx hb dX11_alarm_54 (by decide) ?_
          exact X_TH_alarm_55_w C (0 : Int32) u_3 _ _ _ hf hw (lv_sub hl [] rfl) _ _ (by omega) (by omega)
        · replace hf := hf.2 hc
          clear hc
          refine lv_iconst (v := (1 : Int32)) hx hb dX11_alarm_50 (by decide) ?_
          refine lv_goto (tgt := 55) hx hb dX11_alarm_51 (by decide) ?_
          exact X_TH_alarm_55_w C (1 : Int32) u_3 _ _ _ hf hw (lv_sub hl [] rfl) _ _ (by omega) (by omega)
      · replace hf := hf.2 hc
        clear hc
        exact X_TH_alarm_35_w C  u_1 _ _ _ hf hw (lv_sub hl [] rfl) _ _ (by omega) (by omega)
/-! X_TH_alarmed -/
theorem dX11_alarmed_0 : decode cX11_alarmed 0 = .ok (.iload_n 1, 1) := by decide +kernel
theorem dX11_alarmed_1 : decode cX11_alarmed 1 = .ok (.ifCond .lt 14, 3) := by decide +kernel
theorem dX11_alarmed_4 : decode cX11_alarmed 4 = .ok (.iload_n 1, 1) := by decide +kernel
theorem dX11_alarmed_5 : decode cX11_alarmed 5 = .ok (.aload_n 0, 1) := by decide +kernel
theorem dX11_alarmed_6 : decode cX11_alarmed 6 = .ok (.getfield 69, 3) := by decide +kernel
theorem dX11_alarmed_9 : decode cX11_alarmed 9 = .ok (.getfield 176, 3) := by decide +kernel
theorem dX11_alarmed_12 : decode cX11_alarmed 12 = .ok (.if_icmp .lt 5, 3) := by decide +kernel
theorem dX11_alarmed_15 : decode cX11_alarmed 15 = .ok (.iconst (-1), 1) := by decide +kernel
theorem dX11_alarmed_16 : decode cX11_alarmed 16 = .ok (.ireturn, 1) := by decide +kernel
theorem dX11_alarmed_17 : decode cX11_alarmed 17 = .ok (.aload_n 0, 1) := by decide +kernel
theorem dX11_alarmed_18 : decode cX11_alarmed 18 = .ok (.getfield 26, 3) := by decide +kernel
theorem dX11_alarmed_21 : decode cX11_alarmed 21 = .ok (.aload_n 0, 1) := by decide +kernel
theorem dX11_alarmed_22 : decode cX11_alarmed 22 = .ok (.getfield 69, 3) := by decide +kernel
theorem dX11_alarmed_25 : decode cX11_alarmed 25 = .ok (.iload_n 1, 1) := by decide +kernel
theorem dX11_alarmed_26 : decode cX11_alarmed 26 = .ok (.iload_n 2, 1) := by decide +kernel
theorem dX11_alarmed_27 : decode cX11_alarmed 27 = .ok (.invokevirtual 183, 3) := by decide +kernel
theorem dX11_alarmed_30 : decode cX11_alarmed 30 = .ok (.ireturn, 1) := by decide +kernel
def X_TH_alarmed_15 (K : Int32 → xs_St → Prop) (u : xs_St) : Prop :=
  K (-1 : Int32) u
set_option maxHeartbeats 4000000 in
set_option maxRecDepth 100000 in
theorem X_TH_alarmed_15_w {K : Int32 → xs_St → Prop} (C : th_Cx p s m args meth c cX11_alarmed RX11 3 (some .int) (dC, dI) (th_ty cs) (xE ad) A) (u : xs_St) (H : Heap) (locs : List Loc) (ls : Array Slot) (hf : X_TH_alarmed_15 K u) (hw : th_wI (dC, dI) (wX cs ad q v v) A s.heap u H locs) (hl : lv_has ls 3 []) (n9 m9 : Nat) (h9 : n9 + 0 ≤ 82) (g9 : m9 + 0 ≤ 2296) : W p l e (th_rm 7 82 2296) s m args below meth c H locs n9 m9 (MQ below (va_Qi K (th_Post (dC, dI) (wX cs ad q v v) A) A) args s 82 2296 A) (F0 m 15 ls []) := by
  have hx := C.1
  have hb := C.2.1
  unfold X_TH_alarmed_15 at hf
  refine lv_iconst (v := (-1 : Int32)) hx hb dX11_alarmed_15 (by decide) ?_
  refine W.widen (k := 82) (n := 2296) (by omega) (by omega) ?_
  exact th_iret C hw hf dX11_alarmed_16
def X_TH_alarmed (a1 : Int32) (a2 : Int32) (u : xs_St) (K : Int32 → xs_St → Prop) : Prop :=
  ((a1 < 0 → X_TH_alarmed_15 K u) ∧ (¬ a1 < 0 → ((a1 < (xi u 305) → X_BD_firstAlarmed a1 a2 u (fun r_2 u_1 => K r_2 u_1)) ∧ (¬ a1 < (xi u 305) → X_TH_alarmed_15 K u))))
set_option maxHeartbeats 4000000 in
set_option maxRecDepth 100000 in
theorem X_TH_alarmed_c {l : Launch} {dC : Nat → ClassId} {dI : Nat → Nat → Nat} {cs : Nat → ClassId} {ad : Nat → Nat} {q v : Nat → Nat} {a1 : Int32} {a2 : Int32} {u : xs_St} {K : Int32 → xs_St → Prop} (hf : X_TH_alarmed a1 a2 u K) : th_Ci l yX11_alarmed cX11_alarmed 3 (some .int) 7 82 2296 (dC, dI) (th_ty cs) (xE ad) (wX cs ad q v v) [.ref (q 99), .int a1, .int a2] u K := by
  refine th_ofi (by decide) (Nat.le_of_ble_eq_true rfl) (xE_ok ad) ?_
  intro p e s m below meth c A ls C hw hl
  have C : th_Cx p s m _ meth c cX11_alarmed RX11 3 (some .int) (dC, dI) (th_ty cs) (xE ad) A := C
  have hl : lv_has ls 3 [(0, .ref (q 99)), (1, .int a1), (2, .int a2)] := hl
  generalize (List.toArray _ : Array Value) = args at C ⊢
  have hx := C.1
  have hb := C.2.1
  unfold X_TH_alarmed at hf
  refine lv_iload_n hx hb dX11_alarmed_0 rfl (lv_at hl 1 rfl) ?_
  refine lv_if_lt (tgt := 15) hx hb dX11_alarmed_1 (by decide) (fun hc => ?_) (fun hc => ?_)
  · replace hf := hf.1 hc
    clear hc
    exact X_TH_alarmed_15_w C  u _ _ _ hf hw (lv_sub hl [] rfl) _ _ (by omega) (by omega)
  · replace hf := hf.2 hc
    clear hc
    refine lv_iload_n hx hb dX11_alarmed_4 rfl (lv_at hl 1 rfl) ?_
    refine lv_aload_n hx hb dX11_alarmed_5 rfl (lv_at hl 0 rfl) ?_
    refine xg_9 C hw (C.2.2.2.2.1 _ hwF_X11_69) dX11_alarmed_6 ?_
    refine xgn_305 C hw (va_Nw.use rfl (xN C hwG_X11_176)) dX11_alarmed_9 ?_
    refine lv_icmp_lt (tgt := 17) hx hb dX11_alarmed_12 (by decide) (fun hc => ?_) (fun hc => ?_)
    · replace hf := hf.1 hc
      clear hc
      refine lv_aload_n hx hb dX11_alarmed_17 rfl (lv_at hl 0 rfl) ?_
      refine xg_2 C hw (C.2.2.2.2.1 _ hwF_X11_26) dX11_alarmed_18 ?_
      refine lv_aload_n hx hb dX11_alarmed_21 rfl (lv_at hl 0 rfl) ?_
      refine xg_9 C hw (C.2.2.2.2.1 _ hwF_X11_69) dX11_alarmed_22 ?_
      refine lv_iload_n hx hb dX11_alarmed_25 rfl (lv_at hl 1 rfl) ?_
      refine lv_iload_n hx hb dX11_alarmed_26 rfl (lv_at hl 2 rfl) ?_
      refine th_callVi (As := [.ref (v 399), .int a1, .int a2]) (rest := []) C lkX11_183 (X_BD_firstAlarmed_c hf) hw (xRc_BD C hw) rfl rfl ⟨Nat.le_of_ble_eq_true rfl, Nat.le_of_ble_eq_true rfl⟩ hl.1 (Nat.le_of_ble_eq_true rfl) ⟨by simp only [th_rm]; omega, by simp only [th_rm]; omega⟩ dX11_alarmed_27 (fun r_2 u_1 H locs hf hw => ?_)
      refine W.widen (k := 82) (n := 2296) (by omega) (by omega) ?_
      exact th_iret C hw hf dX11_alarmed_30
    · replace hf := hf.2 hc
      clear hc
      exact X_TH_alarmed_15_w C  u _ _ _ hf hw (lv_sub hl [] rfl) _ _ (by omega) (by omega)
end

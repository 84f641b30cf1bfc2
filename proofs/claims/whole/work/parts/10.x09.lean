section
variable {p : Program} {l : Launch} {e : Env} {s : State} {m : MethodId} {args : Array Value} {below : List Frame} {meth : Method} {c : Code} {dC : Nat → ClassId} {dI : Nat → Nat → Nat} {cs : Nat → ClassId} {ad ak : Nat → Nat} {q v : Nat → Nat} {A : Nat → Prop}
/-! X_TH_walk -/
theorem dX11_walk_0 : decode cX11_walk 0 = .ok (.iload_n 1, 1) := by decide +kernel
theorem dX11_walk_1 : decode cX11_walk 1 = .ok (.ifCond .lt 18, 3) := by decide +kernel
theorem dX11_walk_4 : decode cX11_walk 4 = .ok (.iload_n 1, 1) := by decide +kernel
theorem dX11_walk_5 : decode cX11_walk 5 = .ok (.iload_n 2, 1) := by decide +kernel
theorem dX11_walk_6 : decode cX11_walk 6 = .ok (.if_icmp .gt 13, 3) := by decide +kernel
theorem dX11_walk_9 : decode cX11_walk 9 = .ok (.iload_n 3, 1) := by decide +kernel
theorem dX11_walk_10 : decode cX11_walk 10 = .ok (.ifCond .lt 9, 3) := by decide +kernel
theorem dX11_walk_13 : decode cX11_walk 13 = .ok (.iload_n 3, 1) := by decide +kernel
theorem dX11_walk_14 : decode cX11_walk 14 = .ok (.bipush 48, 2) := by decide +kernel
theorem dX11_walk_16 : decode cX11_walk 16 = .ok (.if_icmp .lt 5, 3) := by decide +kernel
theorem dX11_walk_19 : decode cX11_walk 19 = .ok (.iconst (-1), 1) := by decide +kernel
theorem dX11_walk_20 : decode cX11_walk 20 = .ok (.ireturn, 1) := by decide +kernel
theorem dX11_walk_21 : decode cX11_walk 21 = .ok (.aload_n 0, 1) := by decide +kernel
theorem dX11_walk_22 : decode cX11_walk 22 = .ok (.getfield 26, 3) := by decide +kernel
theorem dX11_walk_25 : decode cX11_walk 25 = .ok (.aload_n 0, 1) := by decide +kernel
theorem dX11_walk_26 : decode cX11_walk 26 = .ok (.getfield 69, 3) := by decide +kernel
theorem dX11_walk_29 : decode cX11_walk 29 = .ok (.iload_n 2, 1) := by decide +kernel
theorem dX11_walk_30 : decode cX11_walk 30 = .ok (.iload 4, 2) := by decide +kernel
theorem dX11_walk_32 : decode cX11_walk 32 = .ok (.invokevirtual 144, 3) := by decide +kernel
theorem dX11_walk_35 : decode cX11_walk 35 = .ok (.astore 5, 2) := by decide +kernel
theorem dX11_walk_37 : decode cX11_walk 37 = .ok (.aload 5, 2) := by decide +kernel
theorem dX11_walk_39 : decode cX11_walk 39 = .ok (.ifnonnull 7, 3) := by decide +kernel
theorem dX11_walk_42 : decode cX11_walk 42 = .ok (.iconst (-1), 1) := by decide +kernel
theorem dX11_walk_43 : decode cX11_walk 43 = .ok (.goto 25, 3) := by decide +kernel
theorem dX11_walk_46 : decode cX11_walk 46 = .ok (.aload_n 0, 1) := by decide +kernel
theorem dX11_walk_47 : decode cX11_walk 47 = .ok (.getfield 47, 3) := by decide +kernel
theorem dX11_walk_50 : decode cX11_walk 50 = .ok (.aload 5, 2) := by decide +kernel
theorem dX11_walk_52 : decode cX11_walk 52 = .ok (.iload_n 2, 1) := by decide +kernel
theorem dX11_walk_53 : decode cX11_walk 53 = .ok (.iload_n 1, 1) := by decide +kernel
theorem dX11_walk_54 : decode cX11_walk 54 = .ok (.isub, 1) := by decide +kernel
theorem dX11_walk_55 : decode cX11_walk 55 = .ok (.iconst 1, 1) := by decide +kernel
theorem dX11_walk_56 : decode cX11_walk 56 = .ok (.iadd, 1) := by decide +kernel
theorem dX11_walk_57 : decode cX11_walk 57 = .ok (.iload_n 3, 1) := by decide +kernel
theorem dX11_walk_58 : decode cX11_walk 58 = .ok (.aload_n 0, 1) := by decide +kernel
theorem dX11_walk_59 : decode cX11_walk 59 = .ok (.getfield 69, 3) := by decide +kernel
theorem dX11_walk_62 : decode cX11_walk 62 = .ok (.getfield 126, 3) := by decide +kernel
theorem dX11_walk_65 : decode cX11_walk 65 = .ok (.invokevirtual 225, 3) := by decide +kernel
theorem dX11_walk_68 : decode cX11_walk 68 = .ok (.ireturn, 1) := by decide +kernel
def X_TH_walk_19 (K : Int32 → xs_St → Prop) (u : xs_St) : Prop :=
  K (-1 : Int32) u
set_option maxHeartbeats 4000000 in
set_option maxRecDepth 100000 in
theorem X_TH_walk_19_w {K : Int32 → xs_St → Prop} (C : th_Cx p s m args meth c cX11_walk RX11 6 (some .int) (dC, dI) (th_ty cs) (xE ad ak) A) (v : Nat → Nat) (u : xs_St) (H : Heap) (locs : List Loc) (ls : Array Slot) (hf : X_TH_walk_19 K u) (hw : th_wI (dC, dI) (wX cs ad q v v) A s.heap u H locs) (hl : lv_has ls 6 []) (n9 m9 : Nat) (h9 : n9 + 0 ≤ 82) (g9 : m9 + 0 ≤ 2296) : W p l e (th_rm 5 82 2296) s m args below meth c H locs n9 m9 (MQ below (va_Qi (fun r9 a9 => K r9 a9.2) (th_Post (dC, dI) (wXs cs ad q) A) A) args s 82 2296 A) (F0 m 19 ls []) := by
  have hx := C.1
  have hb := C.2.1
  unfold X_TH_walk_19 at hf
  refine lv_iconst (v := (-1 : Int32)) hx hb dX11_walk_19 (by decide) ?_
  refine W.widen (k := 82) (n := 2296) (by omega) (by omega) ?_
  exact th_iret (K := (fun r9 a9 => K r9 a9.2)) (w := wXs cs ad q) (u := (v, u)) C hw hf dX11_walk_20
def X_TH_walk_68 (K : Int32 → xs_St → Prop) (z0 : Int32) (u : xs_St) : Prop :=
  K z0 u
set_option maxHeartbeats 4000000 in
set_option maxRecDepth 100000 in
theorem X_TH_walk_68_w {K : Int32 → xs_St → Prop} (C : th_Cx p s m args meth c cX11_walk RX11 6 (some .int) (dC, dI) (th_ty cs) (xE ad ak) A) (z0 : Int32) (v : Nat → Nat) (u : xs_St) (H : Heap) (locs : List Loc) (ls : Array Slot) (hf : X_TH_walk_68 K z0 u) (hw : th_wI (dC, dI) (wX cs ad q v v) A s.heap u H locs) (hl : lv_has ls 6 []) (n9 m9 : Nat) (h9 : n9 + 0 ≤ 82) (g9 : m9 + 0 ≤ 2296) : W p l e (th_rm 5 82 2296) s m args below meth c H locs n9 m9 (MQ below (va_Qi (fun r9 a9 => K r9 a9.2) (th_Post (dC, dI) (wXs cs ad q) A) A) args s 82 2296 A) (F0 m 68 ls [.int z0]) := by
  have hx := C.1
  have hb := C.2.1
  unfold X_TH_walk_68 at hf
  refine W.widen (k := 82) (n := 2296) (by omega) (by omega) ?_
  exact th_iret (K := (fun r9 a9 => K r9 a9.2)) (w := wXs cs ad q) (u := (v, u)) C hw hf dX11_walk_68
def X_TH_walk (a1 : Int32) (a2 : Int32) (a3 : Int32) (a4 : Int32) (u : xs_St) (K : Int32 → xs_St → Prop) : Prop :=
  ((a1 < 0 → X_TH_walk_19 K u) ∧ (¬ a1 < 0 → ((a2 < a1 → X_TH_walk_19 K u) ∧ (¬ a2 < a1 → ((a3 < 0 → X_TH_walk_19 K u) ∧ (¬ a3 < 0 → ((a3 < (48 : Int32) → X_BD_feelOf a2 a4 u (fun r_2 u_1 => ((¬ r_2 = none → X_WK_loudest r_2 ((a2 - a1) + (1 : Int32)) a3 (xi u_1 300) u_1 (fun r_4 u_3 => X_TH_walk_68 K r_4 u_3)) ∧ (r_2 = none → X_TH_walk_68 K (-1 : Int32) u_1)))) ∧ (¬ a3 < (48 : Int32) → X_TH_walk_19 K u))))))))
set_option maxHeartbeats 4000000 in
set_option maxRecDepth 100000 in
theorem X_TH_walk_c {l : Launch} {dC : Nat → ClassId} {dI : Nat → Nat → Nat} {cs : Nat → ClassId} {ad ak : Nat → Nat} {q v : Nat → Nat} {a1 : Int32} {a2 : Int32} {a3 : Int32} {a4 : Int32} {u : xs_St} {K : Int32 → xs_St → Prop} (hf : X_TH_walk a1 a2 a3 a4 u K) : th_Ci l yX11_walk cX11_walk 6 (some .int) 5 82 2296 (dC, dI) (th_ty cs) (xE ad ak) (wXs cs ad q) [.ref (q 99), .int a1, .int a2, .int a3, .int a4] (v, u) (fun r9 a9 => K r9 a9.2) := by
  refine th_ofi (by decide) (Nat.le_of_ble_eq_true rfl) (xE_ok ad ak) ?_
  intro p e s m below meth c A ls C hw hl
  have C : th_Cx p s m _ meth c cX11_walk RX11 6 (some .int) (dC, dI) (th_ty cs) (xE ad ak) A := C
  have hl : lv_has ls 6 [(0, .ref (q 99)), (1, .int a1), (2, .int a2), (3, .int a3), (4, .int a4)] := hl
  generalize (List.toArray _ : Array Value) = args at C ⊢
  have hx := C.1
  have hb := C.2.1
  unfold X_TH_walk at hf
  refine lv_iload_n hx hb dX11_walk_0 rfl (lv_at hl 1 rfl) ?_
  refine lv_if_lt (tgt := 19) hx hb dX11_walk_1 (by decide) (fun hc => ?_) (fun hc => ?_)
  · replace hf := hf.1 hc
    clear hc
    exact X_TH_walk_19_w C  v u _ _ _ hf hw (lv_sub hl [] rfl) _ _ (by omega) (by omega)
  · replace hf := hf.2 hc
    clear hc
    refine lv_iload_n hx hb dX11_walk_4 rfl (lv_at hl 1 rfl) ?_
    refine lv_iload_n hx hb dX11_walk_5 rfl (lv_at hl 2 rfl) ?_
    refine lv_icmp_gt (tgt := 19) hx hb dX11_walk_6 (by decide) (fun hc => ?_) (fun hc => ?_)
    · replace hf := hf.1 hc
      clear hc
      exact X_TH_walk_19_w C  v u _ _ _ hf hw (lv_sub hl [] rfl) _ _ (by omega) (by omega)
    · replace hf := hf.2 hc
      clear hc
      refine lv_iload_n hx hb dX11_walk_9 rfl (lv_at hl 3 rfl) ?_
      refine lv_if_lt (tgt := 19) hx hb dX11_walk_10 (by decide) (fun hc => ?_) (fun hc => ?_)
      · replace hf := hf.1 hc
        clear hc
        exact X_TH_walk_19_w C  v u _ _ _ hf hw (lv_sub hl [] rfl) _ _ (by omega) (by omega)
      · replace hf := hf.2 hc
        clear hc
        refine lv_iload_n hx hb dX11_walk_13 rfl (lv_at hl 3 rfl) ?_
        refine lv_bipush (v := (48 : Int32)) hx hb dX11_walk_14 (by decide) ?_
        refine lv_icmp_lt (tgt := 21) hx hb dX11_walk_16 (by decide) (fun hc => ?_) (fun hc => ?_)
        · replace hf := hf.1 hc
          clear hc
          refine lv_aload_n hx hb dX11_walk_21 rfl (lv_at hl 0 rfl) ?_
          refine xg_2 C hw (C.2.2.2.2.1 _ hwF_X11_26) dX11_walk_22 ?_
          refine lv_aload_n hx hb dX11_walk_25 rfl (lv_at hl 0 rfl) ?_
          refine xg_9 C hw (C.2.2.2.2.1 _ hwF_X11_69) dX11_walk_26 ?_
          refine lv_iload_n hx hb dX11_walk_29 rfl (lv_at hl 2 rfl) ?_
          refine lv_iload hx hb dX11_walk_30 (lv_at hl 4 rfl) ?_
          refine th_callVq (As := [.ref (v 399), .int a2, .int a4]) (rest := []) C lkX11_144 (X_BD_feelOf_c hf) hw (xRc_BD C hw) rfl rfl ⟨Nat.le_of_ble_eq_true rfl, Nat.le_of_ble_eq_true rfl⟩ hl.1 (Nat.le_of_ble_eq_true rfl) ⟨by simp only [th_rm]; omega, by simp only [th_rm]; omega⟩ dX11_walk_32 (fun r_2 u_1 H locs hf hw => ?_)
          refine th_astore (r := r_2) (lv' := [(5, va_rf r_2), (0, .ref (q 99)), (1, .int a1), (2, .int a2), (3, .int a3), (4, .int a4)]) hx hb dX11_walk_35 hl (by decide) rfl (fun ls hl => ?_)
          refine th_aload hx hb dX11_walk_37 (lv_at hl 0 rfl) ?_
          refine th_ifnonnull (tgt := 46) hx hb dX11_walk_39 (by decide) (fun hc => ?_) (fun hc => ?_)
          · replace hf := hf.1 hc
            clear hc
            refine lv_aload_n hx hb dX11_walk_46 rfl (lv_at hl 1 rfl) ?_
            refine xg_5 C hw (C.2.2.2.2.1 _ hwF_X11_47) dX11_walk_47 ?_
            refine th_aload hx hb dX11_walk_50 (lv_at hl 0 rfl) ?_
            refine lv_iload_n hx hb dX11_walk_52 rfl (lv_at hl 3 rfl) ?_
            refine lv_iload_n hx hb dX11_walk_53 rfl (lv_at hl 2 rfl) ?_
            refine lv_isub hx hb dX11_walk_54 ?_
            refine lv_iconst (v := (1 : Int32)) hx hb dX11_walk_55 (by decide) ?_
            refine lv_iadd hx hb dX11_walk_56 ?_
            refine lv_iload_n hx hb dX11_walk_57 rfl (lv_at hl 4 rfl) ?_
            refine lv_aload_n hx hb dX11_walk_58 rfl (lv_at hl 1 rfl) ?_
            refine xg_9 C hw (C.2.2.2.2.1 _ hwF_X11_69) dX11_walk_59 ?_
            refine xgn_300 C hw (va_Nw.use rfl (xN C hwG_X11_126)) dX11_walk_62 ?_
            refine th_callVi (As := [va_rf r_2, .int ((a2 - a1) + (1 : Int32)), .int a3, .int (xi u_1 300)]) (rest := []) (w := wXs cs ad q) (u := (v, u_1)) C lkX11_225 (X_WK_loudest_c hf) (show th_wI (dC, dI) (wXs cs ad q) A s.heap (v, u_1) _ _ from hw) (xRc_WK C hw) rfl rfl ⟨Nat.le_of_ble_eq_true rfl, Nat.le_of_ble_eq_true rfl⟩ hl.1 (Nat.le_of_ble_eq_true rfl) ⟨by simp only [th_rm]; omega, by simp only [th_rm]; omega⟩ dX11_walk_65 (fun r_4 a9 H locs hf hw => ?_)
            obtain ⟨v_5, u_3⟩ := a9
            have hw : th_wI (dC, dI) (wX cs ad q v_5 v_5) A s.heap u_3 _ _ := hw
            exact X_TH_walk_68_w C r_4 v_5 u_3 _ _ _ hf hw (lv_sub hl [] rfl) _ _ (by omega) (by omega)
          · replace hf := hf.2 hc
            clear hc
            refine lv_iconst (v := (-1 : Int32)) hx hb dX11_walk_42 (by decide) ?_
            refine lv_goto (tgt := 68) hx hb dX11_walk_43 (by decide) ?_
            exact X_TH_walk_68_w C (-1 : Int32) v u_1 _ _ _ hf hw (lv_sub hl [] rfl) _ _ (by omega) (by omega)
        · replace hf := hf.2 hc
          clear hc
          exact X_TH_walk_19_w C  v u _ _ _ hf hw (lv_sub hl [] rfl) _ _ (by omega) (by omega)
/-! X_T_alarmIsAt_A -/
theorem dX7_alarmIsAt_0 : decode cX7_alarmIsAt 0 = .ok (.iload_n 1, 1) := by decide +kernel
theorem dX7_alarmIsAt_1 : decode cX7_alarmIsAt 1 = .ok (.ifCond .lt 11, 3) := by decide +kernel
theorem dX7_alarmIsAt_4 : decode cX7_alarmIsAt 4 = .ok (.iload_n 1, 1) := by decide +kernel
theorem dX7_alarmIsAt_5 : decode cX7_alarmIsAt 5 = .ok (.aload_n 0, 1) := by decide +kernel
theorem dX7_alarmIsAt_6 : decode cX7_alarmIsAt 6 = .ok (.getfield 59, 3) := by decide +kernel
theorem dX7_alarmIsAt_9 : decode cX7_alarmIsAt 9 = .ok (.if_icmp .lt 5, 3) := by decide +kernel
theorem dX7_alarmIsAt_12 : decode cX7_alarmIsAt 12 = .ok (.iconst 0, 1) := by decide +kernel
theorem dX7_alarmIsAt_13 : decode cX7_alarmIsAt 13 = .ok (.ireturn, 1) := by decide +kernel
theorem dX7_alarmIsAt_14 : decode cX7_alarmIsAt 14 = .ok (.aload_n 2, 1) := by decide +kernel
theorem dX7_alarmIsAt_15 : decode cX7_alarmIsAt 15 = .ok (.astore_n 3, 1) := by decide +kernel
theorem dX7_alarmIsAt_16 : decode cX7_alarmIsAt 16 = .ok (.iconst 0, 1) := by decide +kernel
theorem dX7_alarmIsAt_17 : decode cX7_alarmIsAt 17 = .ok (.istore 4, 2) := by decide +kernel
theorem dX7_alarmIsAt_19 : decode cX7_alarmIsAt 19 = .ok (.iload 4, 2) := by decide +kernel
theorem dX7_alarmIsAt_21 : decode cX7_alarmIsAt 21 = .ok (.aload_n 0, 1) := by decide +kernel
theorem dX7_alarmIsAt_22 : decode cX7_alarmIsAt 22 = .ok (.getfield 19, 3) := by decide +kernel
theorem dX7_alarmIsAt_25 : decode cX7_alarmIsAt 25 = .ok (.iload_n 1, 1) := by decide +kernel
theorem dX7_alarmIsAt_26 : decode cX7_alarmIsAt 26 = .ok (.iaload, 1) := by decide +kernel
theorem dX7_alarmIsAt_27 : decode cX7_alarmIsAt 27 = .ok (.if_icmp .ge 36, 3) := by decide +kernel
theorem dX7_alarmIsAt_30 : decode cX7_alarmIsAt 30 = .ok (.aload_n 3, 1) := by decide +kernel
theorem dX7_alarmIsAt_31 : decode cX7_alarmIsAt 31 = .ok (.ifnull 19, 3) := by decide +kernel
theorem dX7_alarmIsAt_34 : decode cX7_alarmIsAt 34 = .ok (.aload_n 3, 1) := by decide +kernel
theorem dX7_alarmIsAt_35 : decode cX7_alarmIsAt 35 = .ok (.getfield 79, 3) := by decide +kernel
theorem dX7_alarmIsAt_38 : decode cX7_alarmIsAt 38 = .ok (.ifnull 12, 3) := by decide +kernel
theorem dX7_alarmIsAt_41 : decode cX7_alarmIsAt 41 = .ok (.aload_n 0, 1) := by decide +kernel
theorem dX7_alarmIsAt_42 : decode cX7_alarmIsAt 42 = .ok (.iload_n 1, 1) := by decide +kernel
theorem dX7_alarmIsAt_43 : decode cX7_alarmIsAt 43 = .ok (.aload_n 3, 1) := by decide +kernel
theorem dX7_alarmIsAt_44 : decode cX7_alarmIsAt 44 = .ok (.invokevirtual 85, 3) := by decide +kernel
theorem dX7_alarmIsAt_47 : decode cX7_alarmIsAt 47 = .ok (.ifCond .ne 5, 3) := by decide +kernel
theorem dX7_alarmIsAt_50 : decode cX7_alarmIsAt 50 = .ok (.iconst 0, 1) := by decide +kernel
theorem dX7_alarmIsAt_51 : decode cX7_alarmIsAt 51 = .ok (.ireturn, 1) := by decide +kernel
theorem dX7_alarmIsAt_52 : decode cX7_alarmIsAt 52 = .ok (.aload_n 3, 1) := by decide +kernel
theorem dX7_alarmIsAt_53 : decode cX7_alarmIsAt 53 = .ok (.getfield 79, 3) := by decide +kernel
theorem dX7_alarmIsAt_56 : decode cX7_alarmIsAt 56 = .ok (.astore_n 3, 1) := by decide +kernel
theorem dX7_alarmIsAt_57 : decode cX7_alarmIsAt 57 = .ok (.iinc 4 1, 3) := by decide +kernel
theorem dX7_alarmIsAt_60 : decode cX7_alarmIsAt 60 = .ok (.goto (-41), 3) := by decide +kernel
theorem dX7_alarmIsAt_63 : decode cX7_alarmIsAt 63 = .ok (.iconst 1, 1) := by decide +kernel
theorem dX7_alarmIsAt_64 : decode cX7_alarmIsAt 64 = .ok (.ireturn, 1) := by decide +kernel
def X_T_alarmIsAt_A_12 (K : Int32 → xs_St → Prop) (u : xs_St) : Prop :=
  (((0 : Int32) = 0 ∨ (0 : Int32) = 1) ∧ K (0 : Int32) u)
set_option maxHeartbeats 4000000 in
set_option maxRecDepth 100000 in
theorem X_T_alarmIsAt_A_12_w {K : Int32 → xs_St → Prop} (C : th_Cx p s m args meth c cX7_alarmIsAt RX7 5 (some .boolean) (dC, dI) (th_ty cs) (xE ad ak) A) (u : xs_St) (H : Heap) (locs : List Loc) (ls : Array Slot) (hf : X_T_alarmIsAt_A_12 K u) (hw : th_wI (dC, dI) (wX cs ad q v v) A s.heap u H locs) (hl : lv_has ls 5 []) : W p l e (th_rm 5 0 0) s m args below meth c H locs 0 0 (MQ below (va_Qi K (th_Post (dC, dI) (wX cs ad q v v) A) A) args s 0 0 A) (F0 m 12 ls []) := by
  have hx := C.1
  have hb := C.2.1
  unfold X_T_alarmIsAt_A_12 at hf
  refine lv_iconst (v := (0 : Int32)) hx hb dX7_alarmIsAt_12 (by decide) ?_
  exact th_zret C hw hf dX7_alarmIsAt_13
def X_T_alarmIsAt_A_50 (K : Int32 → xs_St → Prop) (u : xs_St) : Prop :=
  (((0 : Int32) = 0 ∨ (0 : Int32) = 1) ∧ K (0 : Int32) u)
set_option maxHeartbeats 4000000 in
set_option maxRecDepth 100000 in
theorem X_T_alarmIsAt_A_50_w {K : Int32 → xs_St → Prop} (C : th_Cx p s m args meth c cX7_alarmIsAt RX7 5 (some .boolean) (dC, dI) (th_ty cs) (xE ad ak) A) (u : xs_St) (H : Heap) (locs : List Loc) (ls : Array Slot) (hf : X_T_alarmIsAt_A_50 K u) (hw : th_wI (dC, dI) (wX cs ad q v v) A s.heap u H locs) (hl : lv_has ls 5 []) : W p l e (th_rm 5 0 0) s m args below meth c H locs 0 0 (MQ below (va_Qi K (th_Post (dC, dI) (wX cs ad q v v) A) A) args s 0 0 A) (F0 m 50 ls []) := by
  have hx := C.1
  have hb := C.2.1
  unfold X_T_alarmIsAt_A_50 at hf
  refine lv_iconst (v := (0 : Int32)) hx hb dX7_alarmIsAt_50 (by decide) ?_
  exact th_zret C hw hf dX7_alarmIsAt_51
def X_T_alarmIsAt_A_19 (K : Int32 → xs_St → Prop) (k19 : Int32 → Option Nat → Int32 → xs_St → Prop) (x1 : Int32) (x3 : Option Nat) (x4 : Int32) (u : xs_St) : Prop :=
  (vp_in x1 6 ∧ ∀ y_1 : Int32, y_1 = xa u 309 (x1).toNatClampNeg → ((y_1 ≤ x4 → (((1 : Int32) = 0 ∨ (1 : Int32) = 1) ∧ K (1 : Int32) u)) ∧ (¬ y_1 ≤ x4 → ((x3 = none → X_T_alarmIsAt_A_50 K u) ∧ (¬ x3 = none → (∃ b_2 : Nat, x3 = some b_2 ∧ xd_is u b_2 3 ∧ (((xdR u 2 b_2) = none → X_T_alarmIsAt_A_50 K u) ∧ (¬ (xdR u 2 b_2) = none → X_T_holds_A x1 x3 u (fun r_4 u_3 => ((¬ r_4 = 0 → (∃ b_5 : Nat, x3 = some b_5 ∧ xd_is u_3 b_5 3 ∧ ∀ x4_6 : Int32, x4_6 = x4 + (1 : Int32) → k19 x1 (xdR u_3 2 b_5) x4_6 u_3)) ∧ (r_4 = 0 → X_T_alarmIsAt_A_50 K u_3)))))))))))
set_option maxHeartbeats 4000000 in
set_option maxRecDepth 100000 in
theorem X_T_alarmIsAt_A_19_w {K : Int32 → xs_St → Prop} {k19 : Int32 → Option Nat → Int32 → xs_St → Prop} (C : th_Cx p s m args meth c cX7_alarmIsAt RX7 5 (some .boolean) (dC, dI) (th_ty cs) (xE ad ak) A) (hk19 : ∀ (x1 : Int32) (x3 : Option Nat) (x4 : Int32) (u : xs_St) (H : Heap) (locs : List Loc) (ls : Array Slot), k19 x1 x3 x4 u → th_wI (dC, dI) (wX cs ad q v v) A s.heap u H locs → lv_has ls 5 [(0, .ref (v 399)), (1, .int x1), (3, va_rf x3), (4, .int x4)] → W p l e (th_rm 5 0 0) s m args below meth c H locs 0 0 (MQ below (va_Qi K (th_Post (dC, dI) (wX cs ad q v v) A) A) args s 0 0 A) (F0 m 19 ls [])) (x1 : Int32) (x3 : Option Nat) (x4 : Int32) (u : xs_St) (H : Heap) (locs : List Loc) (ls : Array Slot) (hf : X_T_alarmIsAt_A_19 K k19 x1 x3 x4 u) (hw : th_wI (dC, dI) (wX cs ad q v v) A s.heap u H locs) (hl : lv_has ls 5 [(0, .ref (v 399)), (1, .int x1), (3, va_rf x3), (4, .int x4)]) : W p l e (th_rm 5 0 0) s m args below meth c H locs 0 0 (MQ below (va_Qi K (th_Post (dC, dI) (wX cs ad q v v) A) A) args s 0 0 A) (F0 m 19 ls []) := by
  have hx := C.1
  have hb := C.2.1
  unfold X_T_alarmIsAt_A_19 at hf
  refine lv_iload hx hb dX7_alarmIsAt_19 (lv_at hl 3 rfl) ?_
  refine lv_aload_n hx hb dX7_alarmIsAt_21 rfl (lv_at hl 0 rfl) ?_
  refine xg_309 C hw (C.2.2.2.2.1 _ hwF_X7_19) dX7_alarmIsAt_22 ?_
  refine lv_iload_n hx hb dX7_alarmIsAt_25 rfl (lv_at hl 1 rfl) ?_
  refine yl_309 C hw hf.1 dX7_alarmIsAt_26 (fun y_1 e9 => ?_)
  replace hf := hf.2 y_1 e9
  clear e9
  refine lv_icmp_ge (tgt := 63) hx hb dX7_alarmIsAt_27 (by decide) (fun hc => ?_) (fun hc => ?_)
  · replace hf := hf.1 hc
    clear hc
    refine lv_iconst (v := (1 : Int32)) hx hb dX7_alarmIsAt_63 (by decide) ?_
    exact th_zret C hw hf dX7_alarmIsAt_64
  · replace hf := hf.2 hc
    clear hc
    refine th_aload_n hx hb dX7_alarmIsAt_30 rfl (lv_at hl 2 rfl) ?_
    refine th_ifnull (tgt := 50) hx hb dX7_alarmIsAt_31 (by decide) (fun hc => ?_) (fun hc => ?_)
    · replace hf := hf.1 hc
      clear hc
      exact X_T_alarmIsAt_A_50_w C  u _ _ _ hf hw (lv_sub hl [] rfl)
    · replace hf := hf.2 hc
      clear hc
      refine th_aload_n hx hb dX7_alarmIsAt_34 rfl (lv_at hl 2 rfl) ?_
      obtain ⟨b_2, e9, hm, hf⟩ := hf
      refine W.eq (g2 := F0 m 35 ls [.ref b_2]) (congrArg (fun z9 => F0 m 35 ls [va_rf z9]) e9) ?_
      clear e9
      refine xdgn_Feel_ahead C hw hm (va_Nw.use rfl (xN C hwG_X7_79)) dX7_alarmIsAt_35 ?_
      refine th_ifnull (tgt := 50) hx hb dX7_alarmIsAt_38 (by decide) (fun hc => ?_) (fun hc => ?_)
      · replace hf := hf.1 hc
        clear hc
        exact X_T_alarmIsAt_A_50_w C  u _ _ _ hf hw (lv_sub hl [] rfl)
      · replace hf := hf.2 hc
        clear hc
        refine lv_aload_n hx hb dX7_alarmIsAt_41 rfl (lv_at hl 0 rfl) ?_
        refine lv_iload_n hx hb dX7_alarmIsAt_42 rfl (lv_at hl 1 rfl) ?_
        refine th_aload_n hx hb dX7_alarmIsAt_43 rfl (lv_at hl 2 rfl) ?_
        refine th_callVi (As := [.int x1, va_rf x3]) (rest := []) C lkX7_85 (X_T_holds_A_c hf) hw (xRc_TA C hw) rfl rfl ⟨Nat.le_of_ble_eq_true rfl, Nat.le_of_ble_eq_true rfl⟩ hl.1 (Nat.le_of_ble_eq_true rfl) ⟨Nat.le_of_ble_eq_true rfl, Nat.le_of_ble_eq_true rfl⟩ dX7_alarmIsAt_44 (fun r_4 u_3 H locs hf hw => ?_)
        refine lv_if_ne (tgt := 52) hx hb dX7_alarmIsAt_47 (by decide) (fun hc => ?_) (fun hc => ?_)
        · replace hf := hf.1 hc
          clear hc
          refine th_aload_n hx hb dX7_alarmIsAt_52 rfl (lv_at hl 2 rfl) ?_
          obtain ⟨b_5, e9, hm, hf⟩ := hf
          refine W.eq (g2 := F0 m 53 ls [.ref b_5]) (congrArg (fun z9 => F0 m 53 ls [va_rf z9]) e9) ?_
          clear e9
          refine xdgn_Feel_ahead C hw hm (va_Nw.use rfl (xN C hwG_X7_79)) dX7_alarmIsAt_53 ?_
          refine th_astore_n (r := (xdR u_3 2 b_5)) (lv' := [(3, va_rf (xdR u_3 2 b_5)), (0, .ref (v 399)), (1, .int x1), (4, .int x4)]) hx hb dX7_alarmIsAt_56 rfl hl (by decide) rfl (fun ls hl => ?_)
          obtain ⟨x4_6, e9⟩ : ∃ y : Int32, y = x4 + (1 : Int32) := ⟨_, rfl⟩
          replace hf := hf x4_6 e9
          refine lv_iinc (v := x4_6) (lv' := [(4, .int x4_6), (3, va_rf (xdR u_3 2 b_5)), (0, .ref (v 399)), (1, .int x1)]) hx hb dX7_alarmIsAt_57 hl (k := 3) rfl (by rw [e9]; rfl) (by decide) (by simp [List.filter, th_cat, th_cate]) (fun ls hl => ?_)
          clear e9
          refine lv_goto (tgt := 19) hx hb dX7_alarmIsAt_60 (by decide) ?_
          exact hk19 x1 (xdR u_3 2 b_5) x4_6 u_3 _ _ _ hf hw (lv_sub hl [2, 3, 1, 0] rfl)
        · replace hf := hf.2 hc
          clear hc
          exact X_T_alarmIsAt_A_50_w C  u_3 _ _ _ hf hw (lv_sub hl [] rfl)
def X_T_alarmIsAt_A_19_lp (K : Int32 → xs_St → Prop) : Nat → Int32 → Option Nat → Int32 → xs_St → Prop
  | 0, _, _, _, _ => False
  | n + 1, x1, x3, x4, u => X_T_alarmIsAt_A_19 K (X_T_alarmIsAt_A_19_lp K n) x1 x3 x4 u
set_option maxHeartbeats 4000000 in
set_option maxRecDepth 100000 in
theorem X_T_alarmIsAt_A_19_lw {K : Int32 → xs_St → Prop} (C : th_Cx p s m args meth c cX7_alarmIsAt RX7 5 (some .boolean) (dC, dI) (th_ty cs) (xE ad ak) A) (n : Nat) : ∀ (x1 : Int32) (x3 : Option Nat) (x4 : Int32) (u : xs_St) (H : Heap) (locs : List Loc) (ls : Array Slot), X_T_alarmIsAt_A_19_lp K n x1 x3 x4 u → th_wI (dC, dI) (wX cs ad q v v) A s.heap u H locs → lv_has ls 5 [(0, .ref (v 399)), (1, .int x1), (3, va_rf x3), (4, .int x4)] → W p l e (th_rm 5 0 0) s m args below meth c H locs 0 0 (MQ below (va_Qi K (th_Post (dC, dI) (wX cs ad q v v) A) A) args s 0 0 A) (F0 m 19 ls []) := by
  induction n with
  | zero => intro x1 x3 x4 u H locs ls hf; exact hf.elim
  | succ n ih =>
    intro x1 x3 x4 u H locs ls hf hw hl
    exact X_T_alarmIsAt_A_19_w C ih x1 x3 x4 u H locs ls hf hw hl
def X_T_alarmIsAt_A (a1 : Int32) (a2 : Option Nat) (u : xs_St) (K : Int32 → xs_St → Prop) : Prop :=
  ((a1 < 0 → X_T_alarmIsAt_A_12 K u) ∧ (¬ a1 < 0 → ((a1 < (xi u 305) → ∃ n, X_T_alarmIsAt_A_19_lp K n a1 a2 (0 : Int32) u) ∧ (¬ a1 < (xi u 305) → X_T_alarmIsAt_A_12 K u))))
set_option maxHeartbeats 4000000 in
set_option maxRecDepth 100000 in
theorem X_T_alarmIsAt_A_c {l : Launch} {dC : Nat → ClassId} {dI : Nat → Nat → Nat} {cs : Nat → ClassId} {ad ak : Nat → Nat} {q v : Nat → Nat} {a1 : Int32} {a2 : Option Nat} {u : xs_St} {K : Int32 → xs_St → Prop} (hf : X_T_alarmIsAt_A a1 a2 u K) : th_Ci l yX7_alarmIsAt cX7_alarmIsAt 5 (some .boolean) 5 0 0 (dC, dI) (th_ty cs) (xE ad ak) (wX cs ad q v v) [.ref (v 399), .int a1, va_rf a2] u K := by
  refine th_ofi (by decide) (by cases a2 <;> exact Nat.le_of_ble_eq_true rfl) (xE_ok ad ak) ?_
  intro p e s m below meth c A ls C hw hl
  have C : th_Cx p s m _ meth c cX7_alarmIsAt RX7 5 (some .boolean) (dC, dI) (th_ty cs) (xE ad ak) A := C
  have hl : lv_has ls 5 [(0, .ref (v 399)), (1, .int a1), (2, va_rf a2)] := by cases a2 <;> exact hl
  generalize (List.toArray _ : Array Value) = args at C ⊢
  have hx := C.1
  have hb := C.2.1
  unfold X_T_alarmIsAt_A at hf
  refine lv_iload_n hx hb dX7_alarmIsAt_0 rfl (lv_at hl 1 rfl) ?_
  refine lv_if_lt (tgt := 12) hx hb dX7_alarmIsAt_1 (by decide) (fun hc => ?_) (fun hc => ?_)
  · replace hf := hf.1 hc
    clear hc
    exact X_T_alarmIsAt_A_12_w C  u _ _ _ hf hw (lv_sub hl [] rfl)
  · replace hf := hf.2 hc
    clear hc
    refine lv_iload_n hx hb dX7_alarmIsAt_4 rfl (lv_at hl 1 rfl) ?_
    refine lv_aload_n hx hb dX7_alarmIsAt_5 rfl (lv_at hl 0 rfl) ?_
    refine xg_305 C hw (C.2.2.2.2.1 _ hwF_X7_59) dX7_alarmIsAt_6 ?_
    refine lv_icmp_lt (tgt := 14) hx hb dX7_alarmIsAt_9 (by decide) (fun hc => ?_) (fun hc => ?_)
    · replace hf := hf.1 hc
      clear hc
      refine th_aload_n hx hb dX7_alarmIsAt_14 rfl (lv_at hl 2 rfl) ?_
      refine th_astore_n (r := a2) (i := 3) (lv' := [(3, va_rf a2), (0, .ref (v 399)), (1, .int a1), (2, va_rf a2)]) hx hb dX7_alarmIsAt_15 rfl hl (by decide) (by simp [List.filter, th_cat, th_cate]) (fun ls hl => ?_)
      refine lv_iconst (v := (0 : Int32)) hx hb dX7_alarmIsAt_16 (by decide) ?_
      refine lv_istore (i := 4) (lv' := [(4, .int (0 : Int32)), (3, va_rf a2), (0, .ref (v 399)), (1, .int a1), (2, va_rf a2)]) hx hb dX7_alarmIsAt_17 hl (by decide) (by simp [List.filter, th_cat, th_cate]) (fun ls hl => ?_)
      obtain ⟨n, hf⟩ := hf
      exact X_T_alarmIsAt_A_19_lw C n a1 a2 (0 : Int32) u _ _ _ hf hw (lv_sub hl [2, 3, 1, 0] rfl)
    · replace hf := hf.2 hc
      clear hc
      exact X_T_alarmIsAt_A_12_w C  u _ _ _ hf hw (lv_sub hl [] rfl)
/-! X_BD_firstAlarmed -/
theorem dX0_firstAlarmed_0 : decode cX0_firstAlarmed 0 = .ok (.aload_n 0, 1) := by decide +kernel
theorem dX0_firstAlarmed_1 : decode cX0_firstAlarmed 1 = .ok (.iload_n 3, 1) := by decide +kernel
theorem dX0_firstAlarmed_2 : decode cX0_firstAlarmed 2 = .ok (.invokevirtual 65, 3) := by decide +kernel
theorem dX0_firstAlarmed_5 : decode cX0_firstAlarmed 5 = .ok (.istore 4, 2) := by decide +kernel
theorem dX0_firstAlarmed_7 : decode cX0_firstAlarmed 7 = .ok (.aload_n 0, 1) := by decide +kernel
theorem dX0_firstAlarmed_8 : decode cX0_firstAlarmed 8 = .ok (.getfield 28, 3) := by decide +kernel
theorem dX0_firstAlarmed_11 : decode cX0_firstAlarmed 11 = .ok (.astore 5, 2) := by decide +kernel
theorem dX0_firstAlarmed_13 : decode cX0_firstAlarmed 13 = .ok (.iconst 0, 1) := by decide +kernel
theorem dX0_firstAlarmed_14 : decode cX0_firstAlarmed 14 = .ok (.istore 6, 2) := by decide +kernel
theorem dX0_firstAlarmed_16 : decode cX0_firstAlarmed 16 = .ok (.iload 6, 2) := by decide +kernel
theorem dX0_firstAlarmed_18 : decode cX0_firstAlarmed 18 = .ok (.iload 4, 2) := by decide +kernel
theorem dX0_firstAlarmed_20 : decode cX0_firstAlarmed 20 = .ok (.if_icmp .ge 45, 3) := by decide +kernel
theorem dX0_firstAlarmed_23 : decode cX0_firstAlarmed 23 = .ok (.iload 6, 2) := by decide +kernel
theorem dX0_firstAlarmed_25 : decode cX0_firstAlarmed 25 = .ok (.bipush 40, 2) := by decide +kernel
theorem dX0_firstAlarmed_27 : decode cX0_firstAlarmed 27 = .ok (.if_icmp .ge 38, 3) := by decide +kernel
theorem dX0_firstAlarmed_30 : decode cX0_firstAlarmed 30 = .ok (.aload_n 0, 1) := by decide +kernel
theorem dX0_firstAlarmed_31 : decode cX0_firstAlarmed 31 = .ok (.aload_n 1, 1) := by decide +kernel
theorem dX0_firstAlarmed_32 : decode cX0_firstAlarmed 32 = .ok (.aload 5, 2) := by decide +kernel
theorem dX0_firstAlarmed_34 : decode cX0_firstAlarmed 34 = .ok (.aload_n 0, 1) := by decide +kernel
theorem dX0_firstAlarmed_35 : decode cX0_firstAlarmed 35 = .ok (.getfield 17, 3) := by decide +kernel
theorem dX0_firstAlarmed_38 : decode cX0_firstAlarmed 38 = .ok (.iload 6, 2) := by decide +kernel
theorem dX0_firstAlarmed_40 : decode cX0_firstAlarmed 40 = .ok (.aaload, 1) := by decide +kernel
theorem dX0_firstAlarmed_41 : decode cX0_firstAlarmed 41 = .ok (.invokevirtual 69, 3) := by decide +kernel
theorem dX0_firstAlarmed_44 : decode cX0_firstAlarmed 44 = .ok (.astore 5, 2) := by decide +kernel
theorem dX0_firstAlarmed_46 : decode cX0_firstAlarmed 46 = .ok (.aload_n 1, 1) := by decide +kernel
theorem dX0_firstAlarmed_47 : decode cX0_firstAlarmed 47 = .ok (.iload_n 2, 1) := by decide +kernel
theorem dX0_firstAlarmed_48 : decode cX0_firstAlarmed 48 = .ok (.aload 5, 2) := by decide +kernel
theorem dX0_firstAlarmed_50 : decode cX0_firstAlarmed 50 = .ok (.invokevirtual 90, 3) := by decide +kernel
theorem dX0_firstAlarmed_53 : decode cX0_firstAlarmed 53 = .ok (.ifCond .eq 6, 3) := by decide +kernel
theorem dX0_firstAlarmed_56 : decode cX0_firstAlarmed 56 = .ok (.iload 6, 2) := by decide +kernel
theorem dX0_firstAlarmed_58 : decode cX0_firstAlarmed 58 = .ok (.ireturn, 1) := by decide +kernel
theorem dX0_firstAlarmed_59 : decode cX0_firstAlarmed 59 = .ok (.iinc 6 1, 3) := by decide +kernel
theorem dX0_firstAlarmed_62 : decode cX0_firstAlarmed 62 = .ok (.goto (-46), 3) := by decide +kernel
theorem dX0_firstAlarmed_65 : decode cX0_firstAlarmed 65 = .ok (.iconst (-1), 1) := by decide +kernel
theorem dX0_firstAlarmed_66 : decode cX0_firstAlarmed 66 = .ok (.ireturn, 1) := by decide +kernel
def X_BD_firstAlarmed_65 (K : Int32 → xs_St → Prop) (u : xs_St) : Prop :=
  K (-1 : Int32) u
set_option maxHeartbeats 4000000 in
set_option maxRecDepth 100000 in
theorem X_BD_firstAlarmed_65_w {K : Int32 → xs_St → Prop} (C : th_Cx p s m args meth c cX0_firstAlarmed RX0 7 (some .int) (dC, dI) (th_ty cs) (xE ad ak) A) (u : xs_St) (H : Heap) (locs : List Loc) (ls : Array Slot) (hf : X_BD_firstAlarmed_65 K u) (hw : th_wI (dC, dI) (wX cs ad q v v) A s.heap u H locs) (hl : lv_has ls 7 []) (n9 m9 : Nat) (h9 : n9 + 0 ≤ 82) (g9 : m9 + 0 ≤ 2296) : W p l e (th_rm 6 82 2296) s m args below meth c H locs n9 m9 (MQ below (va_Qi K (th_Post (dC, dI) (wX cs ad q v v) A) A) args s 82 2296 A) (F0 m 65 ls []) := by
  have hx := C.1
  have hb := C.2.1
  unfold X_BD_firstAlarmed_65 at hf
  refine lv_iconst (v := (-1 : Int32)) hx hb dX0_firstAlarmed_65 (by decide) ?_
  refine W.widen (k := 82) (n := 2296) (by omega) (by omega) ?_
  exact th_iret C hw hf dX0_firstAlarmed_66
def X_BD_firstAlarmed_16 (K : Int32 → xs_St → Prop) (k16 : Int32 → Int32 → Option Nat → Int32 → xs_St → Prop) (x2 : Int32) (x4 : Int32) (x5 : Option Nat) (x6 : Int32) (u : xs_St) : Prop :=
  ((x4 ≤ x6 → X_BD_firstAlarmed_65 K u) ∧ (¬ x4 ≤ x6 → (((40 : Int32) ≤ x6 → X_BD_firstAlarmed_65 K u) ∧ (¬ (40 : Int32) ≤ x6 → (vp_in x6 40 ∧ ∀ y_1 : Option Nat, y_1 = xo u 501 (x6).toNatClampNeg → X_BD_feelBehind x5 y_1 u (fun r_3 u_2 => X_T_alarmIsAt_A x2 r_3 u_2 (fun r_5 u_4 => ((r_5 = 0 → ∀ x6_6 : Int32, x6_6 = x6 + (1 : Int32) → k16 x2 x4 r_3 x6_6 u_4) ∧ (¬ r_5 = 0 → K x6 u_4)))))))))
set_option maxHeartbeats 4000000 in
set_option maxRecDepth 100000 in
theorem X_BD_firstAlarmed_16_w {n : Nat} {K : Int32 → xs_St → Prop} {k16 : Int32 → Int32 → Option Nat → Int32 → xs_St → Prop} (C : th_Cx p s m args meth c cX0_firstAlarmed RX0 7 (some .int) (dC, dI) (th_ty cs) (xE ad ak) A) (hk16 : ∀ (x2 : Int32) (x4 : Int32) (x5 : Option Nat) (x6 : Int32) (u : xs_St) (H : Heap) (locs : List Loc) (ls : Array Slot), k16 x2 x4 x5 x6 u → th_wI (dC, dI) (wX cs ad q v v) A s.heap u H locs → lv_has ls 7 [(0, .ref (q 599)), (1, .ref (v 399)), (2, .int x2), (4, .int x4), (5, va_rf x5), (6, .int x6)] → ∀ (n9 m9 : Nat), n9 + (2 * n + 0) ≤ 82 → m9 + (56 * n + 0) ≤ 2296 → W p l e (th_rm 6 82 2296) s m args below meth c H locs n9 m9 (MQ below (va_Qi K (th_Post (dC, dI) (wX cs ad q v v) A) A) args s 82 2296 A) (F0 m 16 ls [])) (x2 : Int32) (x4 : Int32) (x5 : Option Nat) (x6 : Int32) (u : xs_St) (H : Heap) (locs : List Loc) (ls : Array Slot) (hf : X_BD_firstAlarmed_16 K k16 x2 x4 x5 x6 u) (hw : th_wI (dC, dI) (wX cs ad q v v) A s.heap u H locs) (hl : lv_has ls 7 [(0, .ref (q 599)), (1, .ref (v 399)), (2, .int x2), (4, .int x4), (5, va_rf x5), (6, .int x6)]) (n9 m9 : Nat) (h9 : n9 + (2 * (n + 1) + 0) ≤ 82) (g9 : m9 + (56 * (n + 1) + 0) ≤ 2296) : W p l e (th_rm 6 82 2296) s m args below meth c H locs n9 m9 (MQ below (va_Qi K (th_Post (dC, dI) (wX cs ad q v v) A) A) args s 82 2296 A) (F0 m 16 ls []) := by
  have hx := C.1
  have hb := C.2.1
  unfold X_BD_firstAlarmed_16 at hf
  refine lv_iload hx hb dX0_firstAlarmed_16 (lv_at hl 5 rfl) ?_
  refine lv_iload hx hb dX0_firstAlarmed_18 (lv_at hl 3 rfl) ?_
  refine lv_icmp_ge (tgt := 65) hx hb dX0_firstAlarmed_20 (by decide) (fun hc => ?_) (fun hc => ?_)
  · replace hf := hf.1 hc
    clear hc
    exact X_BD_firstAlarmed_65_w C  u _ _ _ hf hw (lv_sub hl [] rfl) _ _ (by omega) (by omega)
  · replace hf := hf.2 hc
    clear hc
    refine lv_iload hx hb dX0_firstAlarmed_23 (lv_at hl 5 rfl) ?_
    refine lv_bipush (v := (40 : Int32)) hx hb dX0_firstAlarmed_25 (by decide) ?_
    refine lv_icmp_ge (tgt := 65) hx hb dX0_firstAlarmed_27 (by decide) (fun hc => ?_) (fun hc => ?_)
    · replace hf := hf.1 hc
      clear hc
      exact X_BD_firstAlarmed_65_w C  u _ _ _ hf hw (lv_sub hl [] rfl) _ _ (by omega) (by omega)
    · replace hf := hf.2 hc
      clear hc
      refine lv_aload_n hx hb dX0_firstAlarmed_30 rfl (lv_at hl 0 rfl) ?_
      refine lv_aload_n hx hb dX0_firstAlarmed_31 rfl (lv_at hl 1 rfl) ?_
      refine th_aload hx hb dX0_firstAlarmed_32 (lv_at hl 4 rfl) ?_
      refine lv_aload_n hx hb dX0_firstAlarmed_34 rfl (lv_at hl 0 rfl) ?_
      refine xg_501 C hw (C.2.2.2.2.1 _ hwF_X0_17) dX0_firstAlarmed_35 ?_
      refine lv_iload hx hb dX0_firstAlarmed_38 (lv_at hl 5 rfl) ?_
      refine yl_501 C hw hf.1 dX0_firstAlarmed_40 (fun y_1 e9 => ?_)
      replace hf := hf.2 y_1 e9
      clear e9
      refine th_callVq (As := [.ref (v 399), va_rf x5, va_rf y_1]) (rest := []) C lkX0_69 (X_BD_feelBehind_c hf) hw (xRc_BD C hw) rfl rfl ⟨Nat.le_of_ble_eq_true rfl, Nat.le_of_ble_eq_true rfl⟩ hl.1 (Nat.le_of_ble_eq_true rfl) ⟨by simp only [th_rm]; omega, by simp only [th_rm]; omega⟩ dX0_firstAlarmed_41 (fun r_3 u_2 H locs hf hw => ?_)
      refine th_astore (r := r_3) (lv' := [(5, va_rf r_3), (0, .ref (q 599)), (1, .ref (v 399)), (2, .int x2), (4, .int x4), (6, .int x6)]) hx hb dX0_firstAlarmed_44 hl (by decide) rfl (fun ls hl => ?_)
      refine lv_aload_n hx hb dX0_firstAlarmed_46 rfl (lv_at hl 2 rfl) ?_
      refine lv_iload_n hx hb dX0_firstAlarmed_47 rfl (lv_at hl 3 rfl) ?_
      refine th_aload hx hb dX0_firstAlarmed_48 (lv_at hl 0 rfl) ?_
      refine th_callVi (As := [.int x2, va_rf r_3]) (rest := []) C lkX0_90 (X_T_alarmIsAt_A_c hf) hw (xRc_TA C hw) rfl rfl ⟨Nat.le_of_ble_eq_true rfl, Nat.le_of_ble_eq_true rfl⟩ hl.1 (Nat.le_of_ble_eq_true rfl) ⟨by simp only [th_rm]; omega, by simp only [th_rm]; omega⟩ dX0_firstAlarmed_50 (fun r_5 u_4 H locs hf hw => ?_)
      refine lv_if_eq (tgt := 59) hx hb dX0_firstAlarmed_53 (by decide) (fun hc => ?_) (fun hc => ?_)
      · replace hf := hf.1 hc
        clear hc
        obtain ⟨x6_6, e9⟩ : ∃ y : Int32, y = x6 + (1 : Int32) := ⟨_, rfl⟩
        replace hf := hf x6_6 e9
        refine lv_iinc (v := x6_6) (lv' := [(6, .int x6_6), (5, va_rf r_3), (0, .ref (q 599)), (1, .ref (v 399)), (2, .int x2), (4, .int x4)]) hx hb dX0_firstAlarmed_59 hl (k := 5) rfl (by rw [e9]; rfl) (by decide) (by simp [List.filter, th_cat, th_cate]) (fun ls hl => ?_)
        clear e9
        refine lv_goto (tgt := 16) hx hb dX0_firstAlarmed_62 (by decide) ?_
        exact hk16 x2 x4 r_3 x6_6 u_4 _ _ _ hf hw (lv_sub hl [2, 3, 4, 5, 1, 0] rfl) _ _ (by omega) (by omega)
      · replace hf := hf.2 hc
        clear hc
        refine lv_iload hx hb dX0_firstAlarmed_56 (lv_at hl 5 rfl) ?_
        refine W.widen (k := 82) (n := 2296) (by omega) (by omega) ?_
        exact th_iret C hw hf dX0_firstAlarmed_58
def X_BD_firstAlarmed_16_lp (K : Int32 → xs_St → Prop) : Nat → Int32 → Int32 → Option Nat → Int32 → xs_St → Prop
  | 0, _, _, _, _, _ => False
  | n + 1, x2, x4, x5, x6, u => X_BD_firstAlarmed_16 K (X_BD_firstAlarmed_16_lp K n) x2 x4 x5 x6 u
set_option maxHeartbeats 4000000 in
set_option maxRecDepth 100000 in
theorem X_BD_firstAlarmed_16_lw {K : Int32 → xs_St → Prop} (C : th_Cx p s m args meth c cX0_firstAlarmed RX0 7 (some .int) (dC, dI) (th_ty cs) (xE ad ak) A) (n : Nat) : ∀ (x2 : Int32) (x4 : Int32) (x5 : Option Nat) (x6 : Int32) (u : xs_St) (H : Heap) (locs : List Loc) (ls : Array Slot), X_BD_firstAlarmed_16_lp K n x2 x4 x5 x6 u → th_wI (dC, dI) (wX cs ad q v v) A s.heap u H locs → lv_has ls 7 [(0, .ref (q 599)), (1, .ref (v 399)), (2, .int x2), (4, .int x4), (5, va_rf x5), (6, .int x6)] → ∀ (n9 m9 : Nat), n9 + (2 * n + 0) ≤ 82 → m9 + (56 * n + 0) ≤ 2296 → W p l e (th_rm 6 82 2296) s m args below meth c H locs n9 m9 (MQ below (va_Qi K (th_Post (dC, dI) (wX cs ad q v v) A) A) args s 82 2296 A) (F0 m 16 ls []) := by
  induction n with
  | zero => intro x2 x4 x5 x6 u H locs ls hf; exact hf.elim
  | succ n ih =>
    intro x2 x4 x5 x6 u H locs ls hf hw hl n9 m9 h9 g9
    exact X_BD_firstAlarmed_16_w C ih x2 x4 x5 x6 u H locs ls hf hw hl n9 m9 h9 g9
def X_BD_firstAlarmed (a2 : Int32) (a3 : Int32) (u : xs_St) (K : Int32 → xs_St → Prop) : Prop :=
  X_BD_lookBack a3 u (fun r_2 u_1 => ∃ n, n ≤ 41 ∧ X_BD_firstAlarmed_16_lp K n a2 r_2 (xr u_1 502) (0 : Int32) u_1)
set_option maxHeartbeats 4000000 in
set_option maxRecDepth 100000 in
theorem X_BD_firstAlarmed_c {l : Launch} {dC : Nat → ClassId} {dI : Nat → Nat → Nat} {cs : Nat → ClassId} {ad ak : Nat → Nat} {q v : Nat → Nat} {a2 : Int32} {a3 : Int32} {u : xs_St} {K : Int32 → xs_St → Prop} (hf : X_BD_firstAlarmed a2 a3 u K) : th_Ci l yX0_firstAlarmed cX0_firstAlarmed 7 (some .int) 6 82 2296 (dC, dI) (th_ty cs) (xE ad ak) (wX cs ad q v v) [.ref (q 599), .ref (v 399), .int a2, .int a3] u K := by
  refine th_ofi (by decide) (Nat.le_of_ble_eq_true rfl) (xE_ok ad ak) ?_
  intro p e s m below meth c A ls C hw hl
  have C : th_Cx p s m _ meth c cX0_firstAlarmed RX0 7 (some .int) (dC, dI) (th_ty cs) (xE ad ak) A := C
  have hl : lv_has ls 7 [(0, .ref (q 599)), (1, .ref (v 399)), (2, .int a2), (3, .int a3)] := hl
  generalize (List.toArray _ : Array Value) = args at C ⊢
  have hx := C.1
  have hb := C.2.1
  unfold X_BD_firstAlarmed at hf
  refine lv_aload_n hx hb dX0_firstAlarmed_0 rfl (lv_at hl 0 rfl) ?_
  refine lv_iload_n hx hb dX0_firstAlarmed_1 rfl (lv_at hl 3 rfl) ?_
  refine th_callVi (As := [.int a3]) (rest := []) C lkX0_65 (X_BD_lookBack_c hf) hw (xRc_BD C hw) rfl rfl ⟨Nat.le_of_ble_eq_true rfl, Nat.le_of_ble_eq_true rfl⟩ hl.1 (Nat.le_of_ble_eq_true rfl) ⟨by simp only [th_rm]; omega, by simp only [th_rm]; omega⟩ dX0_firstAlarmed_2 (fun r_2 u_1 H locs hf hw => ?_)
  refine lv_istore (lv' := [(4, .int r_2), (0, .ref (q 599)), (1, .ref (v 399)), (2, .int a2), (3, .int a3)]) hx hb dX0_firstAlarmed_5 hl (by decide) rfl (fun ls hl => ?_)
  refine lv_aload_n hx hb dX0_firstAlarmed_7 rfl (lv_at hl 1 rfl) ?_
  refine xg_502 C hw (C.2.2.2.2.1 _ hwF_X0_28) dX0_firstAlarmed_8 ?_
  refine th_astore (r := (xr u_1 502)) (lv' := [(5, va_rf (xr u_1 502)), (4, .int r_2), (0, .ref (q 599)), (1, .ref (v 399)), (2, .int a2), (3, .int a3)]) hx hb dX0_firstAlarmed_11 hl (by decide) rfl (fun ls hl => ?_)
  refine lv_iconst (v := (0 : Int32)) hx hb dX0_firstAlarmed_13 (by decide) ?_
  refine lv_istore (i := 6) (lv' := [(6, .int (0 : Int32)), (5, va_rf (xr u_1 502)), (4, .int r_2), (0, .ref (q 599)), (1, .ref (v 399)), (2, .int a2), (3, .int a3)]) hx hb dX0_firstAlarmed_14 hl (by decide) (by simp [List.filter, th_cat, th_cate]) (fun ls hl => ?_)
  obtain ⟨n, hn41, hf⟩ := hf
  exact X_BD_firstAlarmed_16_lw C n a2 r_2 (xr u_1 502) (0 : Int32) u_1 _ _ _ hf hw (lv_sub hl [3, 4, 5, 2, 1, 0] rfl) _ _ (by omega) (by omega)
/-! X_RD_tokenOf -/
theorem dX4_tokenOf_0 : decode cX4_tokenOf 0 = .ok (.iconst 0, 1) := by decide +kernel
theorem dX4_tokenOf_1 : decode cX4_tokenOf 1 = .ok (.istore_n 3, 1) := by decide +kernel
theorem dX4_tokenOf_2 : decode cX4_tokenOf 2 = .ok (.iload_n 3, 1) := by decide +kernel
theorem dX4_tokenOf_3 : decode cX4_tokenOf 3 = .ok (.getstatic 135, 3) := by decide +kernel
theorem dX4_tokenOf_6 : decode cX4_tokenOf 6 = .ok (.arraylength, 1) := by decide +kernel
theorem dX4_tokenOf_7 : decode cX4_tokenOf 7 = .ok (.if_icmp .ge 32, 3) := by decide +kernel
theorem dX4_tokenOf_10 : decode cX4_tokenOf 10 = .ok (.getstatic 135, 3) := by decide +kernel
theorem dX4_tokenOf_13 : decode cX4_tokenOf 13 = .ok (.iload_n 3, 1) := by decide +kernel
theorem dX4_tokenOf_14 : decode cX4_tokenOf 14 = .ok (.aaload, 1) := by decide +kernel
theorem dX4_tokenOf_15 : decode cX4_tokenOf 15 = .ok (.getfield 138, 3) := by decide +kernel
theorem dX4_tokenOf_18 : decode cX4_tokenOf 18 = .ok (.aload_n 0, 1) := by decide +kernel
theorem dX4_tokenOf_19 : decode cX4_tokenOf 19 = .ok (.iload_n 1, 1) := by decide +kernel
theorem dX4_tokenOf_20 : decode cX4_tokenOf 20 = .ok (.iload_n 2, 1) := by decide +kernel
theorem dX4_tokenOf_21 : decode cX4_tokenOf 21 = .ok (.invokestatic 142, 3) := by decide +kernel
theorem dX4_tokenOf_24 : decode cX4_tokenOf 24 = .ok (.ifCond .eq 9, 3) := by decide +kernel
theorem dX4_tokenOf_27 : decode cX4_tokenOf 27 = .ok (.getstatic 135, 3) := by decide +kernel
theorem dX4_tokenOf_30 : decode cX4_tokenOf 30 = .ok (.iload_n 3, 1) := by decide +kernel
theorem dX4_tokenOf_31 : decode cX4_tokenOf 31 = .ok (.aaload, 1) := by decide +kernel
theorem dX4_tokenOf_32 : decode cX4_tokenOf 32 = .ok (.areturn, 1) := by decide +kernel
theorem dX4_tokenOf_33 : decode cX4_tokenOf 33 = .ok (.iinc 3 1, 3) := by decide +kernel
theorem dX4_tokenOf_36 : decode cX4_tokenOf 36 = .ok (.goto (-34), 3) := by decide +kernel
theorem dX4_tokenOf_39 : decode cX4_tokenOf 39 = .ok (.iload_n 1, 1) := by decide +kernel
theorem dX4_tokenOf_40 : decode cX4_tokenOf 40 = .ok (.istore_n 3, 1) := by decide +kernel
theorem dX4_tokenOf_41 : decode cX4_tokenOf 41 = .ok (.iload_n 3, 1) := by decide +kernel
theorem dX4_tokenOf_42 : decode cX4_tokenOf 42 = .ok (.iload_n 2, 1) := by decide +kernel
theorem dX4_tokenOf_43 : decode cX4_tokenOf 43 = .ok (.if_icmp .ge 24, 3) := by decide +kernel
theorem dX4_tokenOf_46 : decode cX4_tokenOf 46 = .ok (.aload_n 0, 1) := by decide +kernel
theorem dX4_tokenOf_47 : decode cX4_tokenOf 47 = .ok (.iload_n 3, 1) := by decide +kernel
theorem dX4_tokenOf_48 : decode cX4_tokenOf 48 = .ok (.invokevirtual 113, 3) := by decide +kernel
theorem dX4_tokenOf_51 : decode cX4_tokenOf 51 = .ok (.invokestatic 129, 3) := by decide +kernel
theorem dX4_tokenOf_54 : decode cX4_tokenOf 54 = .ok (.ifCond .ne 7, 3) := by decide +kernel
theorem dX4_tokenOf_57 : decode cX4_tokenOf 57 = .ok (.getstatic 146, 3) := by decide +kernel
theorem dX4_tokenOf_60 : decode cX4_tokenOf 60 = .ok (.areturn, 1) := by decide +kernel
theorem dX4_tokenOf_61 : decode cX4_tokenOf 61 = .ok (.iinc 3 1, 3) := by decide +kernel
theorem dX4_tokenOf_64 : decode cX4_tokenOf 64 = .ok (.goto (-23), 3) := by decide +kernel
theorem dX4_tokenOf_67 : decode cX4_tokenOf 67 = .ok (.iload_n 2, 1) := by decide +kernel
theorem dX4_tokenOf_68 : decode cX4_tokenOf 68 = .ok (.iload_n 1, 1) := by decide +kernel
theorem dX4_tokenOf_69 : decode cX4_tokenOf 69 = .ok (.isub, 1) := by decide +kernel
theorem dX4_tokenOf_70 : decode cX4_tokenOf 70 = .ok (.iconst 4, 1) := by decide +kernel
theorem dX4_tokenOf_71 : decode cX4_tokenOf 71 = .ok (.if_icmp .gt 9, 3) := by decide +kernel
theorem dX4_tokenOf_74 : decode cX4_tokenOf 74 = .ok (.getstatic 149, 3) := by decide +kernel
theorem dX4_tokenOf_77 : decode cX4_tokenOf 77 = .ok (.goto 6, 3) := by decide +kernel
theorem dX4_tokenOf_80 : decode cX4_tokenOf 80 = .ok (.getstatic 146, 3) := by decide +kernel
theorem dX4_tokenOf_83 : decode cX4_tokenOf 83 = .ok (.areturn, 1) := by decide +kernel
def X_RD_tokenOf_83 (K : Option Nat → xs_St → Prop) (z0 : Option Nat) (u : xs_St) : Prop :=
  K z0 u
set_option maxHeartbeats 4000000 in
set_option maxRecDepth 100000 in
theorem X_RD_tokenOf_83_w {K : Option Nat → xs_St → Prop} (C : th_Cx p s m args meth c cX4_tokenOf RX4 4 (some (.object "ThreadHouse$Token")) (dC, dI) (th_ty cs) (xE ad ak) A) (z0 : Option Nat) (u : xs_St) (H : Heap) (locs : List Loc) (ls : Array Slot) (hf : X_RD_tokenOf_83 K z0 u) (hw : th_wI (dC, dI) (wX cs ad q v v) A s.heap u H locs) (hl : lv_has ls 4 []) : W p l e (th_rm 6 0 0) s m args below meth c H locs 0 0 (MQ below (va_Qe ad K (th_Post (dC, dI) (wX cs ad q v v) A) A) args s 0 0 A) (F0 m 83 ls [va_re ad z0]) := by
  have hx := C.1
  have hb := C.2.1
  unfold X_RD_tokenOf_83 at hf
  exact th_eret (r := z0) (Or.inl ⟨_, rfl⟩) C hw hf dX4_tokenOf_83
def X_RD_tokenOf_41 (K : Option Nat → xs_St → Prop) (k41 : Int32 → Int32 → Int32 → xs_St → Prop) (x1 : Int32) (x2 : Int32) (x3 : Int32) (u : xs_St) : Prop :=
  ((x2 ≤ x3 → (((4 : Int32) < (x2 - x1) → X_RD_tokenOf_83 K (some 1) u) ∧ (¬ (4 : Int32) < (x2 - x1) → X_RD_tokenOf_83 K (some 2) u))) ∧ (¬ x2 ≤ x3 → X_TP_unsigned x3 u (fun r_2 u_1 => X_RD_isDigit r_2 u_1 (fun r_4 u_3 => ((¬ r_4 = 0 → ∀ x3_5 : Int32, x3_5 = x3 + (1 : Int32) → k41 x1 x2 x3_5 u_3) ∧ (r_4 = 0 → K (some 1) u_3))))))
set_option maxHeartbeats 4000000 in
set_option maxRecDepth 100000 in
theorem X_RD_tokenOf_41_w {K : Option Nat → xs_St → Prop} {k41 : Int32 → Int32 → Int32 → xs_St → Prop} (C : th_Cx p s m args meth c cX4_tokenOf RX4 4 (some (.object "ThreadHouse$Token")) (dC, dI) (th_ty cs) (xE ad ak) A) (hk41 : ∀ (x1 : Int32) (x2 : Int32) (x3 : Int32) (u : xs_St) (H : Heap) (locs : List Loc) (ls : Array Slot), k41 x1 x2 x3 u → th_wI (dC, dI) (wX cs ad q v v) A s.heap u H locs → lv_has ls 4 [(0, .ref (q 199)), (1, .int x1), (2, .int x2), (3, .int x3)] → W p l e (th_rm 6 0 0) s m args below meth c H locs 0 0 (MQ below (va_Qe ad K (th_Post (dC, dI) (wX cs ad q v v) A) A) args s 0 0 A) (F0 m 41 ls [])) (x1 : Int32) (x2 : Int32) (x3 : Int32) (u : xs_St) (H : Heap) (locs : List Loc) (ls : Array Slot) (hf : X_RD_tokenOf_41 K k41 x1 x2 x3 u) (hw : th_wI (dC, dI) (wX cs ad q v v) A s.heap u H locs) (hl : lv_has ls 4 [(0, .ref (q 199)), (1, .int x1), (2, .int x2), (3, .int x3)]) : W p l e (th_rm 6 0 0) s m args below meth c H locs 0 0 (MQ below (va_Qe ad K (th_Post (dC, dI) (wX cs ad q v v) A) A) args s 0 0 A) (F0 m 41 ls []) := by
  have hx := C.1
  have hb := C.2.1
  unfold X_RD_tokenOf_41 at hf
  refine lv_iload_n hx hb dX4_tokenOf_41 rfl (lv_at hl 3 rfl) ?_
  refine lv_iload_n hx hb dX4_tokenOf_42 rfl (lv_at hl 2 rfl) ?_
  refine lv_icmp_ge (tgt := 67) hx hb dX4_tokenOf_43 (by decide) (fun hc => ?_) (fun hc => ?_)
  · replace hf := hf.1 hc
    clear hc
    refine lv_iload_n hx hb dX4_tokenOf_67 rfl (lv_at hl 2 rfl) ?_
    refine lv_iload_n hx hb dX4_tokenOf_68 rfl (lv_at hl 1 rfl) ?_
    refine lv_isub hx hb dX4_tokenOf_69 ?_
    refine lv_iconst (v := (4 : Int32)) hx hb dX4_tokenOf_70 (by decide) ?_
    refine lv_icmp_gt (tgt := 80) hx hb dX4_tokenOf_71 (by decide) (fun hc => ?_) (fun hc => ?_)
    · replace hf := hf.1 hc
      clear hc
      refine xst C hw 1 (by decide) (C.2.2.2.2.1 _ hwF_X4_146) dX4_tokenOf_80 ?_
      exact X_RD_tokenOf_83_w C (some 1) u _ _ _ hf hw (lv_sub hl [] rfl)
    · replace hf := hf.2 hc
      clear hc
      refine xst C hw 2 (by decide) (C.2.2.2.2.1 _ hwF_X4_149) dX4_tokenOf_74 ?_
      refine lv_goto (tgt := 83) hx hb dX4_tokenOf_77 (by decide) ?_
      exact X_RD_tokenOf_83_w C (some 2) u _ _ _ hf hw (lv_sub hl [] rfl)
  · replace hf := hf.2 hc
    clear hc
    refine lv_aload_n hx hb dX4_tokenOf_46 rfl (lv_at hl 0 rfl) ?_
    refine lv_iload_n hx hb dX4_tokenOf_47 rfl (lv_at hl 3 rfl) ?_
    refine th_callVi (As := [.int x3]) (rest := []) C lkX4_113 (X_TP_unsigned_c hf) hw (xRc_TP C hw) rfl rfl ⟨Nat.le_of_ble_eq_true rfl, Nat.le_of_ble_eq_true rfl⟩ hl.1 (Nat.le_of_ble_eq_true rfl) ⟨Nat.le_of_ble_eq_true rfl, Nat.le_of_ble_eq_true rfl⟩ dX4_tokenOf_48 (fun r_2 u_1 H locs hf hw => ?_)
    refine th_callSi (As := [.int r_2]) (rest := []) C lkX4_129 (X_RD_isDigit_c hf) hw rfl rfl ⟨Nat.le_of_ble_eq_true rfl, Nat.le_of_ble_eq_true rfl⟩ hl.1 (Nat.le_of_ble_eq_true rfl) ⟨Nat.le_of_ble_eq_true rfl, Nat.le_of_ble_eq_true rfl⟩ dX4_tokenOf_51 (fun r_4 u_3 H locs hf hw => ?_)
    refine lv_if_ne (tgt := 61) hx hb dX4_tokenOf_54 (by decide) (fun hc => ?_) (fun hc => ?_)
    · replace hf := hf.1 hc
      clear hc
      obtain ⟨x3_5, e9⟩ : ∃ y : Int32, y = x3 + (1 : Int32) := ⟨_, rfl⟩
      replace hf := hf x3_5 e9
      refine lv_iinc (v := x3_5) (lv' := [(3, .int x3_5), (0, .ref (q 199)), (1, .int x1), (2, .int x2)]) hx hb dX4_tokenOf_61 hl (k := 3) rfl (by rw [e9]; rfl) (by decide) rfl (fun ls hl => ?_)
      clear e9
      refine lv_goto (tgt := 41) hx hb dX4_tokenOf_64 (by decide) ?_
      exact hk41 x1 x2 x3_5 u_3 _ _ _ hf hw (lv_sub hl [1, 2, 3, 0] rfl)
    · replace hf := hf.2 hc
      clear hc
      refine xst C hw 1 (by decide) (C.2.2.2.2.1 _ hwF_X4_146) dX4_tokenOf_57 ?_
      exact th_eret (r := (some 1)) (Or.inl ⟨_, rfl⟩) C hw hf dX4_tokenOf_60
def X_RD_tokenOf_41_lp (K : Option Nat → xs_St → Prop) : Nat → Int32 → Int32 → Int32 → xs_St → Prop
  | 0, _, _, _, _ => False
  | n + 1, x1, x2, x3, u => X_RD_tokenOf_41 K (X_RD_tokenOf_41_lp K n) x1 x2 x3 u
set_option maxHeartbeats 4000000 in
set_option maxRecDepth 100000 in
theorem X_RD_tokenOf_41_lw {K : Option Nat → xs_St → Prop} (C : th_Cx p s m args meth c cX4_tokenOf RX4 4 (some (.object "ThreadHouse$Token")) (dC, dI) (th_ty cs) (xE ad ak) A) (n : Nat) : ∀ (x1 : Int32) (x2 : Int32) (x3 : Int32) (u : xs_St) (H : Heap) (locs : List Loc) (ls : Array Slot), X_RD_tokenOf_41_lp K n x1 x2 x3 u → th_wI (dC, dI) (wX cs ad q v v) A s.heap u H locs → lv_has ls 4 [(0, .ref (q 199)), (1, .int x1), (2, .int x2), (3, .int x3)] → W p l e (th_rm 6 0 0) s m args below meth c H locs 0 0 (MQ below (va_Qe ad K (th_Post (dC, dI) (wX cs ad q v v) A) A) args s 0 0 A) (F0 m 41 ls []) := by
  induction n with
  | zero => intro x1 x2 x3 u H locs ls hf; exact hf.elim
  | succ n ih =>
    intro x1 x2 x3 u H locs ls hf hw hl
    exact X_RD_tokenOf_41_w C ih x1 x2 x3 u H locs ls hf hw hl
def X_RD_tokenOf_2 (K : Option Nat → xs_St → Prop) (k2 : Int32 → Int32 → Int32 → xs_St → Prop) (x1 : Int32) (x2 : Int32) (x3 : Int32) (u : xs_St) : Prop :=
  (((27 : Int32) ≤ x3 → ∃ n, X_RD_tokenOf_41_lp K n x1 x2 x1 u) ∧ (¬ (27 : Int32) ≤ x3 → (vp_in x3 27 ∧ ((x3).toNatClampNeg < 27 ∧ X_RD_isWritten (x3).toNatClampNeg x1 x2 u (fun r_3 u_2 => ((r_3 = 0 → ∀ x3_4 : Int32, x3_4 = x3 + (1 : Int32) → k2 x1 x2 x3_4 u_2) ∧ (¬ r_3 = 0 → (vp_in x3 27 ∧ K (some (x3).toNatClampNeg) u_2))))))))
set_option maxHeartbeats 4000000 in
set_option maxRecDepth 100000 in
theorem X_RD_tokenOf_2_w {K : Option Nat → xs_St → Prop} {k2 : Int32 → Int32 → Int32 → xs_St → Prop} (C : th_Cx p s m args meth c cX4_tokenOf RX4 4 (some (.object "ThreadHouse$Token")) (dC, dI) (th_ty cs) (xE ad ak) A) (hk2 : ∀ (x1 : Int32) (x2 : Int32) (x3 : Int32) (u : xs_St) (H : Heap) (locs : List Loc) (ls : Array Slot), k2 x1 x2 x3 u → th_wI (dC, dI) (wX cs ad q v v) A s.heap u H locs → lv_has ls 4 [(0, .ref (q 199)), (1, .int x1), (2, .int x2), (3, .int x3)] → W p l e (th_rm 6 0 0) s m args below meth c H locs 0 0 (MQ below (va_Qe ad K (th_Post (dC, dI) (wX cs ad q v v) A) A) args s 0 0 A) (F0 m 2 ls [])) (x1 : Int32) (x2 : Int32) (x3 : Int32) (u : xs_St) (H : Heap) (locs : List Loc) (ls : Array Slot) (hf : X_RD_tokenOf_2 K k2 x1 x2 x3 u) (hw : th_wI (dC, dI) (wX cs ad q v v) A s.heap u H locs) (hl : lv_has ls 4 [(0, .ref (q 199)), (1, .int x1), (2, .int x2), (3, .int x3)]) : W p l e (th_rm 6 0 0) s m args below meth c H locs 0 0 (MQ below (va_Qe ad K (th_Post (dC, dI) (wX cs ad q v v) A) A) args s 0 0 A) (F0 m 2 ls []) := by
  have hx := C.1
  have hb := C.2.1
  unfold X_RD_tokenOf_2 at hf
  refine lv_iload_n hx hb dX4_tokenOf_2 rfl (lv_at hl 3 rfl) ?_
  refine x_tok C hw (C.2.2.2.2.1 _ hwF_X4_135) dX4_tokenOf_3 ?_
  refine x_tln C hw dX4_tokenOf_6 ?_
  refine lv_icmp_ge (tgt := 39) hx hb dX4_tokenOf_7 (by decide) (fun hc => ?_) (fun hc => ?_)
  · replace hf := hf.1 hc
    clear hc
    refine lv_iload_n hx hb dX4_tokenOf_39 rfl (lv_at hl 1 rfl) ?_
    refine lv_istore_n (lv' := [(3, .int x1), (0, .ref (q 199)), (1, .int x1), (2, .int x2)]) hx hb dX4_tokenOf_40 rfl hl (by decide) rfl (fun ls hl => ?_)
    obtain ⟨n, hf⟩ := hf
    exact X_RD_tokenOf_41_lw C n x1 x2 x1 u _ _ _ hf hw (lv_sub hl [1, 2, 3, 0] rfl)
  · replace hf := hf.2 hc
    clear hc
    refine x_tok C hw (C.2.2.2.2.1 _ hwF_X4_135) dX4_tokenOf_10 ?_
    refine lv_iload_n hx hb dX4_tokenOf_13 rfl (lv_at hl 3 rfl) ?_
    refine x_tld C hw hf.1 dX4_tokenOf_14 ?_
    replace hf := hf.2
    refine x_wrn C hw hf.1 (va_Nw.use rfl (xN C hwG_X4_138)) dX4_tokenOf_15 ?_
    replace hf := hf.2
    refine lv_aload_n hx hb dX4_tokenOf_18 rfl (lv_at hl 0 rfl) ?_
    refine lv_iload_n hx hb dX4_tokenOf_19 rfl (lv_at hl 1 rfl) ?_
    refine lv_iload_n hx hb dX4_tokenOf_20 rfl (lv_at hl 2 rfl) ?_
    refine th_callSi (As := [.ref (ak (100 + (x3).toNatClampNeg)), .ref (q 199), .int x1, .int x2]) (rest := []) C lkX4_142 (X_RD_isWritten_c hf) hw rfl rfl ⟨Nat.le_of_ble_eq_true rfl, Nat.le_of_ble_eq_true rfl⟩ hl.1 (Nat.le_of_ble_eq_true rfl) ⟨Nat.le_of_ble_eq_true rfl, Nat.le_of_ble_eq_true rfl⟩ dX4_tokenOf_21 (fun r_3 u_2 H locs hf hw => ?_)
    refine lv_if_eq (tgt := 33) hx hb dX4_tokenOf_24 (by decide) (fun hc => ?_) (fun hc => ?_)
    · replace hf := hf.1 hc
      clear hc
      obtain ⟨x3_4, e9⟩ : ∃ y : Int32, y = x3 + (1 : Int32) := ⟨_, rfl⟩
      replace hf := hf x3_4 e9
      refine lv_iinc (v := x3_4) (lv' := [(3, .int x3_4), (0, .ref (q 199)), (1, .int x1), (2, .int x2)]) hx hb dX4_tokenOf_33 hl (k := 3) rfl (by rw [e9]; rfl) (by decide) rfl (fun ls hl => ?_)
      clear e9
      refine lv_goto (tgt := 2) hx hb dX4_tokenOf_36 (by decide) ?_
      exact hk2 x1 x2 x3_4 u_2 _ _ _ hf hw (lv_sub hl [1, 2, 3, 0] rfl)
    · replace hf := hf.2 hc
      clear hc
      refine x_tok C hw (C.2.2.2.2.1 _ hwF_X4_135) dX4_tokenOf_27 ?_
      refine lv_iload_n hx hb dX4_tokenOf_30 rfl (lv_at hl 3 rfl) ?_
      refine x_tld C hw hf.1 dX4_tokenOf_31 ?_
      replace hf := hf.2
      exact th_eret (r := (some (x3).toNatClampNeg)) (Or.inl ⟨_, rfl⟩) C hw hf dX4_tokenOf_32
def X_RD_tokenOf_2_lp (K : Option Nat → xs_St → Prop) : Nat → Int32 → Int32 → Int32 → xs_St → Prop
  | 0, _, _, _, _ => False
  | n + 1, x1, x2, x3, u => X_RD_tokenOf_2 K (X_RD_tokenOf_2_lp K n) x1 x2 x3 u
set_option maxHeartbeats 4000000 in
set_option maxRecDepth 100000 in
theorem X_RD_tokenOf_2_lw {K : Option Nat → xs_St → Prop} (C : th_Cx p s m args meth c cX4_tokenOf RX4 4 (some (.object "ThreadHouse$Token")) (dC, dI) (th_ty cs) (xE ad ak) A) (n : Nat) : ∀ (x1 : Int32) (x2 : Int32) (x3 : Int32) (u : xs_St) (H : Heap) (locs : List Loc) (ls : Array Slot), X_RD_tokenOf_2_lp K n x1 x2 x3 u → th_wI (dC, dI) (wX cs ad q v v) A s.heap u H locs → lv_has ls 4 [(0, .ref (q 199)), (1, .int x1), (2, .int x2), (3, .int x3)] → W p l e (th_rm 6 0 0) s m args below meth c H locs 0 0 (MQ below (va_Qe ad K (th_Post (dC, dI) (wX cs ad q v v) A) A) args s 0 0 A) (F0 m 2 ls []) := by
  induction n with
  | zero => intro x1 x2 x3 u H locs ls hf; exact hf.elim
  | succ n ih =>
    intro x1 x2 x3 u H locs ls hf hw hl
    exact X_RD_tokenOf_2_w C ih x1 x2 x3 u H locs ls hf hw hl
def X_RD_tokenOf (a2 : Int32) (a3 : Int32) (u : xs_St) (K : Option Nat → xs_St → Prop) : Prop :=
  ∃ n, X_RD_tokenOf_2_lp K n a2 a3 (0 : Int32) u
set_option maxHeartbeats 4000000 in
set_option maxRecDepth 100000 in
theorem X_RD_tokenOf_c {l : Launch} {dC : Nat → ClassId} {dI : Nat → Nat → Nat} {cs : Nat → ClassId} {ad ak : Nat → Nat} {q v : Nat → Nat} {a2 : Int32} {a3 : Int32} {u : xs_St} {K : Option Nat → xs_St → Prop} (hf : X_RD_tokenOf a2 a3 u K) : th_Ce ad l yX4_tokenOf cX4_tokenOf 4 (some (.object "ThreadHouse$Token")) 6 0 0 (dC, dI) (th_ty cs) (xE ad ak) (wX cs ad q v v) [.ref (q 199), .int a2, .int a3] u K := by
  refine th_ofe (by decide) (Nat.le_of_ble_eq_true rfl) (xE_ok ad ak) ?_
  intro p e s m below meth c A ls C hw hl
  have C : th_Cx p s m _ meth c cX4_tokenOf RX4 4 (some (.object "ThreadHouse$Token")) (dC, dI) (th_ty cs) (xE ad ak) A := C
  have hl : lv_has ls 4 [(0, .ref (q 199)), (1, .int a2), (2, .int a3)] := hl
  generalize (List.toArray _ : Array Value) = args at C ⊢
  have hx := C.1
  have hb := C.2.1
  unfold X_RD_tokenOf at hf
  refine lv_iconst (v := (0 : Int32)) hx hb dX4_tokenOf_0 (by decide) ?_
  refine lv_istore_n (lv' := [(3, .int (0 : Int32)), (0, .ref (q 199)), (1, .int a2), (2, .int a3)]) hx hb dX4_tokenOf_1 rfl hl (by decide) rfl (fun ls hl => ?_)
  obtain ⟨n, hf⟩ := hf
  exact X_RD_tokenOf_2_lw C n a2 a3 (0 : Int32) u _ _ _ hf hw (lv_sub hl [1, 2, 3, 0] rfl)
/-! X_TH_alarm -/
theorem dX11_alarm_0 : decode cX11_alarm 0 = .ok (.aload_n 0, 1) := by decide +kernel
theorem dX11_alarm_1 : decode cX11_alarm 1 = .ok (.getfield 26, 3) := by decide +kernel
theorem dX11_alarm_4 : decode cX11_alarm 4 = .ok (.aload_n 0, 1) := by decide +kernel
theorem dX11_alarm_5 : decode cX11_alarm 5 = .ok (.getfield 69, 3) := by decide +kernel
theorem dX11_alarm_8 : decode cX11_alarm 8 = .ok (.iload_n 2, 1) := by decide +kernel
theorem dX11_alarm_9 : decode cX11_alarm 9 = .ok (.iload_n 3, 1) := by decide +kernel
theorem dX11_alarm_10 : decode cX11_alarm 10 = .ok (.invokevirtual 144, 3) := by decide +kernel
theorem dX11_alarm_13 : decode cX11_alarm 13 = .ok (.astore 4, 2) := by decide +kernel
theorem dX11_alarm_15 : decode cX11_alarm 15 = .ok (.aload 4, 2) := by decide +kernel
theorem dX11_alarm_17 : decode cX11_alarm 17 = .ok (.ifnull 18, 3) := by decide +kernel
theorem dX11_alarm_20 : decode cX11_alarm 20 = .ok (.iload_n 1, 1) := by decide +kernel
theorem dX11_alarm_21 : decode cX11_alarm 21 = .ok (.ifCond .lt 14, 3) := by decide +kernel
theorem dX11_alarm_24 : decode cX11_alarm 24 = .ok (.iload_n 1, 1) := by decide +kernel
theorem dX11_alarm_25 : decode cX11_alarm 25 = .ok (.aload_n 0, 1) := by decide +kernel
theorem dX11_alarm_26 : decode cX11_alarm 26 = .ok (.getfield 69, 3) := by decide +kernel
theorem dX11_alarm_29 : decode cX11_alarm 29 = .ok (.getfield 176, 3) := by decide +kernel
theorem dX11_alarm_32 : decode cX11_alarm 32 = .ok (.if_icmp .lt 5, 3) := by decide +kernel
theorem dX11_alarm_35 : decode cX11_alarm 35 = .ok (.iconst (-1), 1) := by decide +kernel
theorem dX11_alarm_36 : decode cX11_alarm 36 = .ok (.ireturn, 1) := by decide +kernel
theorem dX11_alarm_37 : decode cX11_alarm 37 = .ok (.aload_n 0, 1) := by decide +kernel
theorem dX11_alarm_38 : decode cX11_alarm 38 = .ok (.getfield 69, 3) := by decide +kernel
theorem dX11_alarm_41 : decode cX11_alarm 41 = .ok (.iload_n 1, 1) := by decide +kernel
theorem dX11_alarm_42 : decode cX11_alarm 42 = .ok (.aload 4, 2) := by decide +kernel
theorem dX11_alarm_44 : decode cX11_alarm 44 = .ok (.invokevirtual 179, 3) := by decide +kernel
theorem dX11_alarm_47 : decode cX11_alarm 47 = .ok (.ifCond .eq 7, 3) := by decide +kernel
theorem dX11_alarm_50 : decode cX11_alarm 50 = .ok (.iconst 1, 1) := by decide +kernel
theorem dX11_alarm_51 : decode cX11_alarm 51 = .ok (.goto 4, 3) := by decide +kernel
theorem dX11_alarm_54 : decode cX11_alarm 54 = .ok (.iconst 0, 1) := by decide +kernel
theorem dX11_alarm_55 : decode cX11_alarm 55 = .ok (.ireturn, 1) := by decide +kernel
def X_TH_alarm_35 (K : Int32 → xs_St → Prop) (u : xs_St) : Prop :=
  K (-1 : Int32) u
set_option maxHeartbeats 4000000 in
set_option maxRecDepth 100000 in
theorem X_TH_alarm_35_w {K : Int32 → xs_St → Prop} (C : th_Cx p s m args meth c cX11_alarm RX11 5 (some .int) (dC, dI) (th_ty cs) (xE ad ak) A) (u : xs_St) (H : Heap) (locs : List Loc) (ls : Array Slot) (hf : X_TH_alarm_35 K u) (hw : th_wI (dC, dI) (wX cs ad q v v) A s.heap u H locs) (hl : lv_has ls 5 []) (n9 m9 : Nat) (h9 : n9 + 0 ≤ 82) (g9 : m9 + 0 ≤ 2296) : W p l e (th_rm 6 82 2296) s m args below meth c H locs n9 m9 (MQ below (va_Qi K (th_Post (dC, dI) (wX cs ad q v v) A) A) args s 82 2296 A) (F0 m 35 ls []) := by
  have hx := C.1
  have hb := C.2.1
  unfold X_TH_alarm_35 at hf
  refine lv_iconst (v := (-1 : Int32)) hx hb dX11_alarm_35 (by decide) ?_
  refine W.widen (k := 82) (n := 2296) (by omega) (by omega) ?_
  exact th_iret C hw hf dX11_alarm_36
def X_TH_alarm_55 (K : Int32 → xs_St → Prop) (z0 : Int32) (u : xs_St) : Prop :=
  K z0 u
set_option maxHeartbeats 4000000 in
set_option maxRecDepth 100000 in
theorem X_TH_alarm_55_w {K : Int32 → xs_St → Prop} (C : th_Cx p s m args meth c cX11_alarm RX11 5 (some .int) (dC, dI) (th_ty cs) (xE ad ak) A) (z0 : Int32) (u : xs_St) (H : Heap) (locs : List Loc) (ls : Array Slot) (hf : X_TH_alarm_55 K z0 u) (hw : th_wI (dC, dI) (wX cs ad q v v) A s.heap u H locs) (hl : lv_has ls 5 []) (n9 m9 : Nat) (h9 : n9 + 0 ≤ 82) (g9 : m9 + 0 ≤ 2296) : W p l e (th_rm 6 82 2296) s m args below meth c H locs n9 m9 (MQ below (va_Qi K (th_Post (dC, dI) (wX cs ad q v v) A) A) args s 82 2296 A) (F0 m 55 ls [.int z0]) := by
  have hx := C.1
  have hb := C.2.1
  unfold X_TH_alarm_55 at hf
  refine W.widen (k := 82) (n := 2296) (by omega) (by omega) ?_
  exact th_iret C hw hf dX11_alarm_55
def X_TH_alarm (a1 : Int32) (a2 : Int32) (a3 : Int32) (u : xs_St) (K : Int32 → xs_St → Prop) : Prop :=
  X_BD_feelOf a2 a3 u (fun r_2 u_1 => ((r_2 = none → X_TH_alarm_35 K u_1) ∧ (¬ r_2 = none → ((a1 < 0 → X_TH_alarm_35 K u_1) ∧ (¬ a1 < 0 → ((a1 < (xi u_1 305) → X_T_alarmIsAt_A a1 r_2 u_1 (fun r_4 u_3 => ((r_4 = 0 → X_TH_alarm_55 K (0 : Int32) u_3) ∧ (¬ r_4 = 0 → X_TH_alarm_55 K (1 : Int32) u_3)))) ∧ (¬ a1 < (xi u_1 305) → X_TH_alarm_35 K u_1)))))))
set_option maxHeartbeats 4000000 in
set_option maxRecDepth 100000 in
theorem X_TH_alarm_c {l : Launch} {dC : Nat → ClassId} {dI : Nat → Nat → Nat} {cs : Nat → ClassId} {ad ak : Nat → Nat} {q v : Nat → Nat} {a1 : Int32} {a2 : Int32} {a3 : Int32} {u : xs_St} {K : Int32 → xs_St → Prop} (hf : X_TH_alarm a1 a2 a3 u K) : th_Ci l yX11_alarm cX11_alarm 5 (some .int) 6 82 2296 (dC, dI) (th_ty cs) (xE ad ak) (wX cs ad q v v) [.ref (q 99), .int a1, .int a2, .int a3] u K := by
  refine th_ofi (by decide) (Nat.le_of_ble_eq_true rfl) (xE_ok ad ak) ?_
  intro p e s m below meth c A ls C hw hl
  have C : th_Cx p s m _ meth c cX11_alarm RX11 5 (some .int) (dC, dI) (th_ty cs) (xE ad ak) A := C
  have hl : lv_has ls 5 [(0, .ref (q 99)), (1, .int a1), (2, .int a2), (3, .int a3)] := hl
  generalize (List.toArray _ : Array Value) = args at C ⊢
  have hx := C.1
  have hb := C.2.1
  unfold X_TH_alarm at hf
  refine lv_aload_n hx hb dX11_alarm_0 rfl (lv_at hl 0 rfl) ?_
  refine xg_2 C hw (C.2.2.2.2.1 _ hwF_X11_26) dX11_alarm_1 ?_
  refine lv_aload_n hx hb dX11_alarm_4 rfl (lv_at hl 0 rfl) ?_
  refine xg_9 C hw (C.2.2.2.2.1 _ hwF_X11_69) dX11_alarm_5 ?_
  refine lv_iload_n hx hb dX11_alarm_8 rfl (lv_at hl 2 rfl) ?_
  refine lv_iload_n hx hb dX11_alarm_9 rfl (lv_at hl 3 rfl) ?_
  refine th_callVq (As := [.ref (v 399), .int a2, .int a3]) (rest := []) C lkX11_144 (X_BD_feelOf_c hf) hw (xRc_BD C hw) rfl rfl ⟨Nat.le_of_ble_eq_true rfl, Nat.le_of_ble_eq_true rfl⟩ hl.1 (Nat.le_of_ble_eq_true rfl) ⟨by simp only [th_rm]; omega, by simp only [th_rm]; omega⟩ dX11_alarm_10 (fun r_2 u_1 H locs hf hw => ?_)
  refine th_astore (r := r_2) (lv' := [(4, va_rf r_2), (0, .ref (q 99)), (1, .int a1), (2, .int a2), (3, .int a3)]) hx hb dX11_alarm_13 hl (by decide) rfl (fun ls hl => ?_)
  refine th_aload hx hb dX11_alarm_15 (lv_at hl 0 rfl) ?_
  refine th_ifnull (tgt := 35) hx hb dX11_alarm_17 (by decide) (fun hc => ?_) (fun hc => ?_)
  · replace hf := hf.1 hc
    clear hc
    exact X_TH_alarm_35_w C  u_1 _ _ _ hf hw (lv_sub hl [] rfl) _ _ (by omega) (by omega)
  · replace hf := hf.2 hc
    clear hc
    refine lv_iload_n hx hb dX11_alarm_20 rfl (lv_at hl 2 rfl) ?_
    refine lv_if_lt (tgt := 35) hx hb dX11_alarm_21 (by decide) (fun hc => ?_) (fun hc => ?_)
    · replace hf := hf.1 hc
      clear hc
      exact X_TH_alarm_35_w C  u_1 _ _ _ hf hw (lv_sub hl [] rfl) _ _ (by omega) (by omega)
    · replace hf := hf.2 hc
      clear hc
      refine lv_iload_n hx hb dX11_alarm_24 rfl (lv_at hl 2 rfl) ?_
      refine lv_aload_n hx hb dX11_alarm_25 rfl (lv_at hl 1 rfl) ?_
      refine xg_9 C hw (C.2.2.2.2.1 _ hwF_X11_69) dX11_alarm_26 ?_
      refine xgn_305 C hw (va_Nw.use rfl (xN C hwG_X11_176)) dX11_alarm_29 ?_
      refine lv_icmp_lt (tgt := 37) hx hb dX11_alarm_32 (by decide) (fun hc => ?_) (fun hc => ?_)
      · replace hf := hf.1 hc
        clear hc
        refine lv_aload_n hx hb dX11_alarm_37 rfl (lv_at hl 1 rfl) ?_
        refine xg_9 C hw (C.2.2.2.2.1 _ hwF_X11_69) dX11_alarm_38 ?_
        refine lv_iload_n hx hb dX11_alarm_41 rfl (lv_at hl 2 rfl) ?_
        refine th_aload hx hb dX11_alarm_42 (lv_at hl 0 rfl) ?_
        refine th_callVi (As := [.int a1, va_rf r_2]) (rest := []) C lkX11_179 (X_T_alarmIsAt_A_c hf) hw (xRc_TA C hw) rfl rfl ⟨Nat.le_of_ble_eq_true rfl, Nat.le_of_ble_eq_true rfl⟩ hl.1 (Nat.le_of_ble_eq_true rfl) ⟨by simp only [th_rm]; omega, by simp only [th_rm]; omega⟩ dX11_alarm_44 (fun r_4 u_3 H locs hf hw => ?_)
        refine lv_if_eq (tgt := 54) hx hb dX11_alarm_47 (by decide) (fun hc => ?_) (fun hc => ?_)
        · replace hf := hf.1 hc
          clear hc
          refine lv_iconst (v := (0 : Int32)) hx hb dX11_alarm_54 (by decide) ?_
          exact X_TH_alarm_55_w C (0 : Int32) u_3 _ _ _ hf hw (lv_sub hl [] rfl) _ _ (by omega) (by omega)
        · replace hf := hf.2 hc
          clear hc
          refine lv_iconst (v := (1 : Int32)) hx hb dX11_alarm_50 (by decide) ?_
          refine lv_goto (tgt := 55) hx hb dX11_alarm_51 (by decide) ?_
          exact X_TH_alarm_55_w C (1 : Int32) u_3 _ _ _ hf hw (lv_sub hl [] rfl) _ _ (by omega) (by omega)
      · replace hf := hf.2 hc
        clear hc
        exact X_TH_alarm_35_w C  u_1 _ _ _ hf hw (lv_sub hl [] rfl) _ _ (by omega) (by omega)
/-! X_TH_falseShare -/
theorem dX11_falseShare_0 : decode cX11_falseShare 0 = .ok (.iload_n 1, 1) := by decide +kernel
theorem dX11_falseShare_1 : decode cX11_falseShare 1 = .ok (.iconst 1, 1) := by decide +kernel
theorem dX11_falseShare_2 : decode cX11_falseShare 2 = .ok (.if_icmp .lt 18, 3) := by decide +kernel
theorem dX11_falseShare_5 : decode cX11_falseShare 5 = .ok (.iload_n 1, 1) := by decide +kernel
theorem dX11_falseShare_6 : decode cX11_falseShare 6 = .ok (.bipush 12, 2) := by decide +kernel
theorem dX11_falseShare_8 : decode cX11_falseShare 8 = .ok (.if_icmp .gt 12, 3) := by decide +kernel
theorem dX11_falseShare_11 : decode cX11_falseShare 11 = .ok (.iload_n 3, 1) := by decide +kernel
theorem dX11_falseShare_12 : decode cX11_falseShare 12 = .ok (.ifCond .lt 8, 3) := by decide +kernel
theorem dX11_falseShare_15 : decode cX11_falseShare 15 = .ok (.iload_n 3, 1) := by decide +kernel
theorem dX11_falseShare_16 : decode cX11_falseShare 16 = .ok (.iconst 1, 1) := by decide +kernel
theorem dX11_falseShare_17 : decode cX11_falseShare 17 = .ok (.if_icmp .le 13, 3) := by decide +kernel
theorem dX11_falseShare_20 : decode cX11_falseShare 20 = .ok (.new 148, 3) := by decide +kernel
theorem dX11_falseShare_23 : decode cX11_falseShare 23 = .ok (.dup, 1) := by decide +kernel
theorem dX11_falseShare_24 : decode cX11_falseShare 24 = .ok (.ldc 246, 2) := by decide +kernel
theorem dX11_falseShare_26 : decode cX11_falseShare 26 = .ok (.invokespecial 152, 3) := by decide +kernel
theorem dX11_falseShare_29 : decode cX11_falseShare 29 = .ok (.athrow, 1) := by decide +kernel
theorem dX11_falseShare_30 : decode cX11_falseShare 30 = .ok (.aload_n 0, 1) := by decide +kernel
theorem dX11_falseShare_31 : decode cX11_falseShare 31 = .ok (.iload_n 1, 1) := by decide +kernel
theorem dX11_falseShare_32 : decode cX11_falseShare 32 = .ok (.invokevirtual 248, 3) := by decide +kernel
theorem dX11_falseShare_35 : decode cX11_falseShare 35 = .ok (.lstore 4, 2) := by decide +kernel
theorem dX11_falseShare_37 : decode cX11_falseShare 37 = .ok (.aload_n 0, 1) := by decide +kernel
theorem dX11_falseShare_38 : decode cX11_falseShare 38 = .ok (.iload_n 1, 1) := by decide +kernel
theorem dX11_falseShare_39 : decode cX11_falseShare 39 = .ok (.aload_n 0, 1) := by decide +kernel
theorem dX11_falseShare_40 : decode cX11_falseShare 40 = .ok (.getfield 69, 3) := by decide +kernel
theorem dX11_falseShare_43 : decode cX11_falseShare 43 = .ok (.getfield 189, 3) := by decide +kernel
theorem dX11_falseShare_46 : decode cX11_falseShare 46 = .ok (.imul, 1) := by decide +kernel
theorem dX11_falseShare_47 : decode cX11_falseShare 47 = .ok (.iload_n 2, 1) := by decide +kernel
theorem dX11_falseShare_48 : decode cX11_falseShare 48 = .ok (.invokevirtual 252, 3) := by decide +kernel
theorem dX11_falseShare_51 : decode cX11_falseShare 51 = .ok (.lstore 6, 2) := by decide +kernel
theorem dX11_falseShare_53 : decode cX11_falseShare 53 = .ok (.lload 4, 2) := by decide +kernel
theorem dX11_falseShare_55 : decode cX11_falseShare 55 = .ok (.lload 6, 2) := by decide +kernel
theorem dX11_falseShare_57 : decode cX11_falseShare 57 = .ok (.invokestatic 256, 3) := by decide +kernel
theorem dX11_falseShare_60 : decode cX11_falseShare 60 = .ok (.lstore 8, 2) := by decide +kernel
theorem dX11_falseShare_62 : decode cX11_falseShare 62 = .ok (.iload_n 3, 1) := by decide +kernel
theorem dX11_falseShare_63 : decode cX11_falseShare 63 = .ok (.ifCond .ne 8, 3) := by decide +kernel
theorem dX11_falseShare_66 : decode cX11_falseShare 66 = .ok (.lload 6, 2) := by decide +kernel
theorem dX11_falseShare_68 : decode cX11_falseShare 68 = .ok (.goto 5, 3) := by decide +kernel
theorem dX11_falseShare_71 : decode cX11_falseShare 71 = .ok (.lload 4, 2) := by decide +kernel
theorem dX11_falseShare_73 : decode cX11_falseShare 73 = .ok (.lload 8, 2) := by decide +kernel
theorem dX11_falseShare_75 : decode cX11_falseShare 75 = .ok (.lconst 1, 1) := by decide +kernel
theorem dX11_falseShare_76 : decode cX11_falseShare 76 = .ok (.lcmp, 1) := by decide +kernel
theorem dX11_falseShare_77 : decode cX11_falseShare 77 = .ok (.ifCond .ge 7, 3) := by decide +kernel
theorem dX11_falseShare_80 : decode cX11_falseShare 80 = .ok (.lconst 1, 1) := by decide +kernel
theorem dX11_falseShare_81 : decode cX11_falseShare 81 = .ok (.goto 5, 3) := by decide +kernel
theorem dX11_falseShare_84 : decode cX11_falseShare 84 = .ok (.lload 8, 2) := by decide +kernel
theorem dX11_falseShare_86 : decode cX11_falseShare 86 = .ok (.ldiv, 1) := by decide +kernel
theorem dX11_falseShare_87 : decode cX11_falseShare 87 = .ok (.lreturn, 1) := by decide +kernel
def X_TH_falseShare_20 (KT : xs_St → Prop) (K : Int64 → xs_St → Prop) (u : xs_St) : Prop :=
  KT u
set_option maxHeartbeats 4000000 in
set_option maxRecDepth 100000 in
theorem X_TH_falseShare_20_w {KT : xs_St → Prop} (hlt : l.stackTraces = false) (hne : ∀ x ∈ c.exceptionTable.toList, False) {K : Int64 → xs_St → Prop} (C : th_Cx p s m args meth c cX11_falseShare RX11 10 (some .long) (dC, dI) (th_ty cs) (xE ad ak) A) (v : Nat → Nat) (u : xs_St) (H : Heap) (locs : List Loc) (ls : Array Slot) (hf : X_TH_falseShare_20 KT K u) (hw : th_wI (dC, dI) (wX cs ad q v v) A s.heap u H locs) (hl : lv_has ls 10 []) (n9 m9 : Nat) (h9 : n9 + 1 ≤ 1) (g9 : m9 + 6 ≤ 6) : W p l e (th_rm 6 1 6) s m args below meth c H locs n9 m9 (vx_MQ below (va_Ql (fun r9 a9 => K r9 a9.2) (th_Post (dC, dI) (wXs cs ad q) A) A) (th_XT (dC, dI) (wXs cs ad q) A (fun a9 => KT a9.2)) args s 1 6 A) (F0 m 20 ls []) := by
  have hx := C.1
  have hb := C.2.1
  unfold X_TH_falseShare_20 at hf
  exact x_thr (T := fun a9 => KT a9.2) (w := wXs cs ad q) (u := (v, u)) C hlt hne hw hf (C.2.2.2.2.1 _ hwO_X11_148) (x_e3 C).2.2.2.2.2 hl.1 dX11_falseShare_20 dX11_falseShare_23 dX11_falseShare_24 dX11_falseShare_26 dX11_falseShare_29 (Nat.le_of_ble_eq_true rfl) (Nat.le_of_ble_eq_true rfl) (by simp only [th_rm]; omega) (by simp only [th_rm]; omega) (by omega) (by omega)
def X_TH_falseShare_86 (KT : xs_St → Prop) (K : Int64 → xs_St → Prop) (z0 : Int64) (z1 : Int64) (u : xs_St) : Prop :=
  (¬ z0 = 0 ∧ K (z1 / z0) u)
set_option maxHeartbeats 4000000 in
set_option maxRecDepth 100000 in
theorem X_TH_falseShare_86_w {KT : xs_St → Prop} (hlt : l.stackTraces = false) (hne : ∀ x ∈ c.exceptionTable.toList, False) {K : Int64 → xs_St → Prop} (C : th_Cx p s m args meth c cX11_falseShare RX11 10 (some .long) (dC, dI) (th_ty cs) (xE ad ak) A) (z0 : Int64) (z1 : Int64) (v : Nat → Nat) (u : xs_St) (H : Heap) (locs : List Loc) (ls : Array Slot) (hf : X_TH_falseShare_86 KT K z0 z1 u) (hw : th_wI (dC, dI) (wX cs ad q v v) A s.heap u H locs) (hl : lv_has ls 10 []) (n9 m9 : Nat) (h9 : n9 + 0 ≤ 1) (g9 : m9 + 0 ≤ 6) : W p l e (th_rm 6 1 6) s m args below meth c H locs n9 m9 (vx_MQ below (va_Ql (fun r9 a9 => K r9 a9.2) (th_Post (dC, dI) (wXs cs ad q) A) A) (th_XT (dC, dI) (wXs cs ad q) A (fun a9 => KT a9.2)) args s 1 6 A) (F0 m 86 ls [.long z0, .long z1]) := by
  have hx := C.1
  have hb := C.2.1
  unfold X_TH_falseShare_86 at hf
  refine lv_ldiv hx hb dX11_falseShare_86 hf.1 ?_
  replace hf := hf.2
  refine vx_ret ?_
  refine W.widen (k := 1) (n := 6) (by omega) (by omega) ?_
  exact th_lret (K := (fun r9 a9 => K r9 a9.2)) (w := wXs cs ad q) (u := (v, u)) C hw hf dX11_falseShare_87
def X_TH_falseShare_73 (KT : xs_St → Prop) (K : Int64 → xs_St → Prop) (x8 : Int64) (z0 : Int64) (u : xs_St) : Prop :=
  ((0 ≤ (lg_cmp x8 (1 : Int64)) → X_TH_falseShare_86 KT K x8 z0 u) ∧ (¬ 0 ≤ (lg_cmp x8 (1 : Int64)) → X_TH_falseShare_86 KT K (1 : Int64) z0 u))
set_option maxHeartbeats 4000000 in
set_option maxRecDepth 100000 in
theorem X_TH_falseShare_73_w {KT : xs_St → Prop} (hlt : l.stackTraces = false) (hne : ∀ x ∈ c.exceptionTable.toList, False) {K : Int64 → xs_St → Prop} (C : th_Cx p s m args meth c cX11_falseShare RX11 10 (some .long) (dC, dI) (th_ty cs) (xE ad ak) A) (x8 : Int64) (z0 : Int64) (v : Nat → Nat) (u : xs_St) (H : Heap) (locs : List Loc) (ls : Array Slot) (hf : X_TH_falseShare_73 KT K x8 z0 u) (hw : th_wI (dC, dI) (wX cs ad q v v) A s.heap u H locs) (hl : lv_has ls 10 [(8, .long x8)]) (n9 m9 : Nat) (h9 : n9 + 0 ≤ 1) (g9 : m9 + 0 ≤ 6) : W p l e (th_rm 6 1 6) s m args below meth c H locs n9 m9 (vx_MQ below (va_Ql (fun r9 a9 => K r9 a9.2) (th_Post (dC, dI) (wXs cs ad q) A) A) (th_XT (dC, dI) (wXs cs ad q) A (fun a9 => KT a9.2)) args s 1 6 A) (F0 m 73 ls [.long z0]) := by
  have hx := C.1
  have hb := C.2.1
  unfold X_TH_falseShare_73 at hf
  refine lv_lload hx hb dX11_falseShare_73 (lv_at hl 0 rfl) ?_
  refine lv_lconst (v := (1 : Int64)) hx hb dX11_falseShare_75 (by decide) ?_
  refine W.lcmp hx hb dX11_falseShare_76 ?_
  refine lv_if_ge (tgt := 84) hx hb dX11_falseShare_77 (by decide) (fun hc => ?_) (fun hc => ?_)
  · replace hf := hf.1 hc
    clear hc
    refine lv_lload hx hb dX11_falseShare_84 (lv_at hl 0 rfl) ?_
    exact X_TH_falseShare_86_w hlt hne C x8 z0 v u _ _ _ hf hw (lv_sub hl [] rfl) _ _ (by omega) (by omega)
  · replace hf := hf.2 hc
    clear hc
    refine lv_lconst (v := (1 : Int64)) hx hb dX11_falseShare_80 (by decide) ?_
    refine lv_goto (tgt := 86) hx hb dX11_falseShare_81 (by decide) ?_
    exact X_TH_falseShare_86_w hlt hne C (1 : Int64) z0 v u _ _ _ hf hw (lv_sub hl [] rfl) _ _ (by omega) (by omega)
def X_TH_falseShare (KT : xs_St → Prop) (a1 : Int32) (a2 : Int32) (a3 : Int32) (u : xs_St) (K : Int64 → xs_St → Prop) : Prop :=
  ((a1 < (1 : Int32) → X_TH_falseShare_20 KT K u) ∧ (¬ a1 < (1 : Int32) → (((12 : Int32) < a1 → X_TH_falseShare_20 KT K u) ∧ (¬ (12 : Int32) < a1 → ((a3 < 0 → X_TH_falseShare_20 KT K u) ∧ (¬ a3 < 0 → ((a3 ≤ (1 : Int32) → X_TH_countWays a1 u (fun r_2 u_1 => X_TH_waysAbove (a1 * (xi u_1 303)) a2 u_1 (fun r_5 u_4 => X_TH_commonDivisor r_2 r_5 u_4 (fun r_7 u_6 => ((¬ a3 = 0 → X_TH_falseShare_73 KT K r_7 r_2 u_6) ∧ (a3 = 0 → X_TH_falseShare_73 KT K r_7 r_5 u_6)))))) ∧ (¬ a3 ≤ (1 : Int32) → X_TH_falseShare_20 KT K u))))))))
set_option maxHeartbeats 4000000 in
set_option maxRecDepth 100000 in
theorem X_TH_falseShare_c {l : Launch} {dC : Nat → ClassId} {dI : Nat → Nat → Nat} {cs : Nat → ClassId} {ad ak : Nat → Nat} {q v : Nat → Nat} {KT : xs_St → Prop} (hlt : l.stackTraces = false) {a1 : Int32} {a2 : Int32} {a3 : Int32} {u : xs_St} {K : Int64 → xs_St → Prop} (hf : X_TH_falseShare KT a1 a2 a3 u K) : th_Xl l yX11_falseShare cX11_falseShare 10 (some .long) 6 1 6 (dC, dI) (th_ty cs) (xE ad ak) (wXs cs ad q) [.ref (q 99), .int a1, .int a2, .int a3] (v, u) (fun r9 a9 => K r9 a9.2) (fun a9 => KT a9.2) := by
  refine th_ofXl (by decide) (Nat.le_of_ble_eq_true rfl) (xE_ok ad ak) ?_
  intro p e s m below meth c A ls C hne hw hl
  have C : th_Cx p s m _ meth c cX11_falseShare RX11 10 (some .long) (dC, dI) (th_ty cs) (xE ad ak) A := C
  have hl : lv_has ls 10 [(0, .ref (q 99)), (1, .int a1), (2, .int a2), (3, .int a3)] := hl
  generalize (List.toArray _ : Array Value) = args at C ⊢
  have hx := C.1
  have hb := C.2.1
  unfold X_TH_falseShare at hf
  refine lv_iload_n hx hb dX11_falseShare_0 rfl (lv_at hl 1 rfl) ?_
  refine lv_iconst (v := (1 : Int32)) hx hb dX11_falseShare_1 (by decide) ?_
  refine lv_icmp_lt (tgt := 20) hx hb dX11_falseShare_2 (by decide) (fun hc => ?_) (fun hc => ?_)
  · replace hf := hf.1 hc
    clear hc
    exact X_TH_falseShare_20_w hlt hne C  v u _ _ _ hf hw (lv_sub hl [] rfl) _ _ (by omega) (by omega)
  · replace hf := hf.2 hc
    clear hc
    refine lv_iload_n hx hb dX11_falseShare_5 rfl (lv_at hl 1 rfl) ?_
    refine lv_bipush (v := (12 : Int32)) hx hb dX11_falseShare_6 (by decide) ?_
    refine lv_icmp_gt (tgt := 20) hx hb dX11_falseShare_8 (by decide) (fun hc => ?_) (fun hc => ?_)
    · replace hf := hf.1 hc
      clear hc
      exact X_TH_falseShare_20_w hlt hne C  v u _ _ _ hf hw (lv_sub hl [] rfl) _ _ (by omega) (by omega)
    · replace hf := hf.2 hc
      clear hc
      refine lv_iload_n hx hb dX11_falseShare_11 rfl (lv_at hl 3 rfl) ?_
      refine lv_if_lt (tgt := 20) hx hb dX11_falseShare_12 (by decide) (fun hc => ?_) (fun hc => ?_)
      · replace hf := hf.1 hc
        clear hc
        exact X_TH_falseShare_20_w hlt hne C  v u _ _ _ hf hw (lv_sub hl [] rfl) _ _ (by omega) (by omega)
      · replace hf := hf.2 hc
        clear hc
        refine lv_iload_n hx hb dX11_falseShare_15 rfl (lv_at hl 3 rfl) ?_
        refine lv_iconst (v := (1 : Int32)) hx hb dX11_falseShare_16 (by decide) ?_
        refine lv_icmp_le (tgt := 30) hx hb dX11_falseShare_17 (by decide) (fun hc => ?_) (fun hc => ?_)
        · replace hf := hf.1 hc
          clear hc
          refine lv_aload_n hx hb dX11_falseShare_30 rfl (lv_at hl 0 rfl) ?_
          refine lv_iload_n hx hb dX11_falseShare_31 rfl (lv_at hl 1 rfl) ?_
          refine th_callVl (As := [.int a1]) (rest := []) (w := wXs cs ad q) (u := (v, u)) C lkX11_248 (X_TH_countWays_c hf) (show th_wI (dC, dI) (wXs cs ad q) A s.heap (v, u) _ _ from hw) (xRc_TH C hw) rfl rfl ⟨Nat.le_of_ble_eq_true rfl, Nat.le_of_ble_eq_true rfl⟩ hl.1 (Nat.le_of_ble_eq_true rfl) ⟨by simp only [th_rm]; omega, by simp only [th_rm]; omega⟩ dX11_falseShare_32 (fun r_2 a9 H locs hf hw => ?_)
          obtain ⟨v_3, u_1⟩ := a9
          have hw : th_wI (dC, dI) (wX cs ad q v_3 v_3) A s.heap u_1 _ _ := hw
          refine lv_lstore (lv' := [(4, .long r_2), (0, .ref (q 99)), (1, .int a1), (2, .int a2), (3, .int a3)]) hx hb dX11_falseShare_35 hl (by decide) rfl (fun ls hl => ?_)
          refine lv_aload_n hx hb dX11_falseShare_37 rfl (lv_at hl 1 rfl) ?_
          refine lv_iload_n hx hb dX11_falseShare_38 rfl (lv_at hl 2 rfl) ?_
          refine lv_aload_n hx hb dX11_falseShare_39 rfl (lv_at hl 1 rfl) ?_
          refine xg_9 C hw (C.2.2.2.2.1 _ hwF_X11_69) dX11_falseShare_40 ?_
          refine xgn_303 C hw (va_Nw.use rfl (xN C hwG_X11_189)) dX11_falseShare_43 ?_
          refine lv_imul hx hb dX11_falseShare_46 ?_
          refine lv_iload_n hx hb dX11_falseShare_47 rfl (lv_at hl 3 rfl) ?_
          refine th_callVl (As := [.int (a1 * (xi u_1 303)), .int a2]) (rest := []) C lkX11_252 (X_TH_waysAbove_c hf) hw (xRc_TH C hw) rfl rfl ⟨Nat.le_of_ble_eq_true rfl, Nat.le_of_ble_eq_true rfl⟩ hl.1 (Nat.le_of_ble_eq_true rfl) ⟨by simp only [th_rm]; omega, by simp only [th_rm]; omega⟩ dX11_falseShare_48 (fun r_5 u_4 H locs hf hw => ?_)
          refine lv_lstore (lv' := [(6, .long r_5), (4, .long r_2), (0, .ref (q 99)), (1, .int a1), (2, .int a2), (3, .int a3)]) hx hb dX11_falseShare_51 hl (by decide) rfl (fun ls hl => ?_)
          refine lv_lload hx hb dX11_falseShare_53 (lv_at hl 1 rfl) ?_
          refine lv_lload hx hb dX11_falseShare_55 (lv_at hl 0 rfl) ?_
          refine th_callSl (As := [.long r_2, .long r_5]) (rest := []) C lkX11_256 (X_TH_commonDivisor_c hf) hw rfl rfl ⟨Nat.le_of_ble_eq_true rfl, Nat.le_of_ble_eq_true rfl⟩ hl.1 (Nat.le_of_ble_eq_true rfl) ⟨by simp only [th_rm]; omega, by simp only [th_rm]; omega⟩ dX11_falseShare_57 (fun r_7 u_6 H locs hf hw => ?_)
          refine lv_lstore (lv' := [(8, .long r_7), (6, .long r_5), (4, .long r_2), (0, .ref (q 99)), (1, .int a1), (2, .int a2), (3, .int a3)]) hx hb dX11_falseShare_60 hl (by decide) rfl (fun ls hl => ?_)
          refine lv_iload_n hx hb dX11_falseShare_62 rfl (lv_at hl 6 rfl) ?_
          refine lv_if_ne (tgt := 71) hx hb dX11_falseShare_63 (by decide) (fun hc => ?_) (fun hc => ?_)
          · replace hf := hf.1 hc
            clear hc
            refine lv_lload hx hb dX11_falseShare_71 (lv_at hl 2 rfl) ?_
            exact X_TH_falseShare_73_w hlt hne C r_7 r_2 v_3 u_6 _ _ _ hf hw (lv_sub hl [0] rfl) _ _ (by omega) (by omega)
          · replace hf := hf.2 hc
            clear hc
            refine lv_lload hx hb dX11_falseShare_66 (lv_at hl 1 rfl) ?_
            refine lv_goto (tgt := 73) hx hb dX11_falseShare_68 (by decide) ?_
            exact X_TH_falseShare_73_w hlt hne C r_7 r_5 v_3 u_6 _ _ _ hf hw (lv_sub hl [0] rfl) _ _ (by omega) (by omega)
        · replace hf := hf.2 hc
          clear hc
          exact X_TH_falseShare_20_w hlt hne C  v u _ _ _ hf hw (lv_sub hl [] rfl) _ _ (by omega) (by omega)
/-! X_TH_felt -/
theorem dX11_felt_0 : decode cX11_felt 0 = .ok (.aload_n 0, 1) := by decide +kernel
theorem dX11_felt_1 : decode cX11_felt 1 = .ok (.getfield 26, 3) := by decide +kernel
theorem dX11_felt_4 : decode cX11_felt 4 = .ok (.aload_n 0, 1) := by decide +kernel
theorem dX11_felt_5 : decode cX11_felt 5 = .ok (.getfield 69, 3) := by decide +kernel
theorem dX11_felt_8 : decode cX11_felt 8 = .ok (.iload_n 2, 1) := by decide +kernel
theorem dX11_felt_9 : decode cX11_felt 9 = .ok (.iload_n 3, 1) := by decide +kernel
theorem dX11_felt_10 : decode cX11_felt 10 = .ok (.invokevirtual 144, 3) := by decide +kernel
theorem dX11_felt_13 : decode cX11_felt 13 = .ok (.astore 4, 2) := by decide +kernel
theorem dX11_felt_15 : decode cX11_felt 15 = .ok (.aload 4, 2) := by decide +kernel
theorem dX11_felt_17 : decode cX11_felt 17 = .ok (.ifnull 14, 3) := by decide +kernel
theorem dX11_felt_20 : decode cX11_felt 20 = .ok (.aload_n 0, 1) := by decide +kernel
theorem dX11_felt_21 : decode cX11_felt 21 = .ok (.getfield 69, 3) := by decide +kernel
theorem dX11_felt_24 : decode cX11_felt 24 = .ok (.iload_n 1, 1) := by decide +kernel
theorem dX11_felt_25 : decode cX11_felt 25 = .ok (.invokevirtual 116, 3) := by decide +kernel
theorem dX11_felt_28 : decode cX11_felt 28 = .ok (.ifCond .ne 13, 3) := by decide +kernel
theorem dX11_felt_31 : decode cX11_felt 31 = .ok (.new 148, 3) := by decide +kernel
theorem dX11_felt_34 : decode cX11_felt 34 = .ok (.dup, 1) := by decide +kernel
theorem dX11_felt_35 : decode cX11_felt 35 = .ok (.ldc 150, 2) := by decide +kernel
theorem dX11_felt_37 : decode cX11_felt 37 = .ok (.invokespecial 152, 3) := by decide +kernel
theorem dX11_felt_40 : decode cX11_felt 40 = .ok (.athrow, 1) := by decide +kernel
theorem dX11_felt_41 : decode cX11_felt 41 = .ok (.aload 4, 2) := by decide +kernel
theorem dX11_felt_43 : decode cX11_felt 43 = .ok (.iload_n 1, 1) := by decide +kernel
theorem dX11_felt_44 : decode cX11_felt 44 = .ok (.invokevirtual 155, 3) := by decide +kernel
theorem dX11_felt_47 : decode cX11_felt 47 = .ok (.ireturn, 1) := by decide +kernel
def X_TH_felt_31 (KT : xs_St → Prop) (K : Int32 → xs_St → Prop) (u : xs_St) : Prop :=
  KT u
set_option maxHeartbeats 4000000 in
set_option maxRecDepth 100000 in
theorem X_TH_felt_31_w {KT : xs_St → Prop} (hlt : l.stackTraces = false) (hne : ∀ x ∈ c.exceptionTable.toList, False) {K : Int32 → xs_St → Prop} (C : th_Cx p s m args meth c cX11_felt RX11 5 (some .int) (dC, dI) (th_ty cs) (xE ad ak) A) (u : xs_St) (H : Heap) (locs : List Loc) (ls : Array Slot) (hf : X_TH_felt_31 KT K u) (hw : th_wI (dC, dI) (wX cs ad q v v) A s.heap u H locs) (hl : lv_has ls 5 []) (n9 m9 : Nat) (h9 : n9 + 1 ≤ 83) (g9 : m9 + 6 ≤ 2302) : W p l e (th_rm 6 83 2302) s m args below meth c H locs n9 m9 (vx_MQ below (va_Qi K (th_Post (dC, dI) (wX cs ad q v v) A) A) (th_XT (dC, dI) (wX cs ad q v v) A KT) args s 83 2302 A) (F0 m 31 ls []) := by
  have hx := C.1
  have hb := C.2.1
  unfold X_TH_felt_31 at hf
  exact x_thr C hlt hne hw hf (C.2.2.2.2.1 _ hwO_X11_148) (x_e3 C).2.2.1 hl.1 dX11_felt_31 dX11_felt_34 dX11_felt_35 dX11_felt_37 dX11_felt_40 (Nat.le_of_ble_eq_true rfl) (Nat.le_of_ble_eq_true rfl) (by simp only [th_rm]; omega) (by simp only [th_rm]; omega) (by omega) (by omega)
def X_TH_felt (KT : xs_St → Prop) (a1 : Int32) (a2 : Int32) (a3 : Int32) (u : xs_St) (K : Int32 → xs_St → Prop) : Prop :=
  X_BD_feelOf a2 a3 u (fun r_2 u_1 => ((r_2 = none → X_TH_felt_31 KT K u_1) ∧ (¬ r_2 = none → X_T_hasFoot_A a1 u_1 (fun r_4 u_3 => ((¬ r_4 = 0 → (∃ b_5 : Nat, r_2 = some b_5 ∧ xd_is u_3 b_5 3 ∧ X_Feel_of_d b_5 a1 u_3 (fun r_7 u_6 => K r_7 u_6))) ∧ (r_4 = 0 → X_TH_felt_31 KT K u_3))))))
set_option maxHeartbeats 4000000 in
set_option maxRecDepth 100000 in
theorem X_TH_felt_c {l : Launch} {dC : Nat → ClassId} {dI : Nat → Nat → Nat} {cs : Nat → ClassId} {ad ak : Nat → Nat} {q v : Nat → Nat} {KT : xs_St → Prop} (hlt : l.stackTraces = false) {a1 : Int32} {a2 : Int32} {a3 : Int32} {u : xs_St} {K : Int32 → xs_St → Prop} (hf : X_TH_felt KT a1 a2 a3 u K) : th_Xi l yX11_felt cX11_felt 5 (some .int) 6 83 2302 (dC, dI) (th_ty cs) (xE ad ak) (wX cs ad q v v) [.ref (q 99), .int a1, .int a2, .int a3] u K KT := by
  refine th_ofXi (by decide) (Nat.le_of_ble_eq_true rfl) (xE_ok ad ak) ?_
  intro p e s m below meth c A ls C hne hw hl
  have C : th_Cx p s m _ meth c cX11_felt RX11 5 (some .int) (dC, dI) (th_ty cs) (xE ad ak) A := C
  have hl : lv_has ls 5 [(0, .ref (q 99)), (1, .int a1), (2, .int a2), (3, .int a3)] := hl
  generalize (List.toArray _ : Array Value) = args at C ⊢
  have hx := C.1
  have hb := C.2.1
  unfold X_TH_felt at hf
  refine lv_aload_n hx hb dX11_felt_0 rfl (lv_at hl 0 rfl) ?_
  refine xg_2 C hw (C.2.2.2.2.1 _ hwF_X11_26) dX11_felt_1 ?_
  refine lv_aload_n hx hb dX11_felt_4 rfl (lv_at hl 0 rfl) ?_
  refine xg_9 C hw (C.2.2.2.2.1 _ hwF_X11_69) dX11_felt_5 ?_
  refine lv_iload_n hx hb dX11_felt_8 rfl (lv_at hl 2 rfl) ?_
  refine lv_iload_n hx hb dX11_felt_9 rfl (lv_at hl 3 rfl) ?_
  refine th_callVq (As := [.ref (v 399), .int a2, .int a3]) (rest := []) C lkX11_144 (X_BD_feelOf_c hf) hw (xRc_BD C hw) rfl rfl ⟨Nat.le_of_ble_eq_true rfl, Nat.le_of_ble_eq_true rfl⟩ hl.1 (Nat.le_of_ble_eq_true rfl) ⟨by simp only [th_rm]; omega, by simp only [th_rm]; omega⟩ dX11_felt_10 (fun r_2 u_1 H locs hf hw => ?_)
  refine th_astore (r := r_2) (lv' := [(4, va_rf r_2), (0, .ref (q 99)), (1, .int a1), (2, .int a2), (3, .int a3)]) hx hb dX11_felt_13 hl (by decide) rfl (fun ls hl => ?_)
  refine th_aload hx hb dX11_felt_15 (lv_at hl 0 rfl) ?_
  refine th_ifnull (tgt := 31) hx hb dX11_felt_17 (by decide) (fun hc => ?_) (fun hc => ?_)
  · replace hf := hf.1 hc
    clear hc
    exact X_TH_felt_31_w hlt hne C  u_1 _ _ _ hf hw (lv_sub hl [] rfl) _ _ (by omega) (by omega)
  · replace hf := hf.2 hc
    clear hc
    refine lv_aload_n hx hb dX11_felt_20 rfl (lv_at hl 1 rfl) ?_
    refine xg_9 C hw (C.2.2.2.2.1 _ hwF_X11_69) dX11_felt_21 ?_
    refine lv_iload_n hx hb dX11_felt_24 rfl (lv_at hl 2 rfl) ?_
    refine th_callVi (As := [.int a1]) (rest := []) C lkX11_116 (X_T_hasFoot_A_c hf) hw (xRc_TA C hw) rfl rfl ⟨Nat.le_of_ble_eq_true rfl, Nat.le_of_ble_eq_true rfl⟩ hl.1 (Nat.le_of_ble_eq_true rfl) ⟨by simp only [th_rm]; omega, by simp only [th_rm]; omega⟩ dX11_felt_25 (fun r_4 u_3 H locs hf hw => ?_)
    refine lv_if_ne (tgt := 41) hx hb dX11_felt_28 (by decide) (fun hc => ?_) (fun hc => ?_)
    · replace hf := hf.1 hc
      clear hc
      refine th_aload hx hb dX11_felt_41 (lv_at hl 0 rfl) ?_
      refine lv_iload_n hx hb dX11_felt_43 rfl (lv_at hl 2 rfl) ?_
      obtain ⟨b_5, e9, hm, hf⟩ := hf
      refine W.eq (g2 := F0 m 44 ls [.int a1, .ref b_5]) (congrArg (fun z9 => F0 m 44 ls [.int a1, va_rf z9]) e9) ?_
      clear e9
      refine th_callVi (As := [.int a1]) (rest := []) C lkX11_155 (X_Feel_of_d_c hf) hw (xdRc_Feel C hw hm) rfl rfl ⟨Nat.le_of_ble_eq_true rfl, Nat.le_of_ble_eq_true rfl⟩ hl.1 (Nat.le_of_ble_eq_true rfl) ⟨by simp only [th_rm]; omega, by simp only [th_rm]; omega⟩ dX11_felt_44 (fun r_7 u_6 H locs hf hw => ?_)
      refine vx_ret ?_
      refine W.widen (k := 83) (n := 2302) (by omega) (by omega) ?_
      exact th_iret C hw hf dX11_felt_47
    · replace hf := hf.2 hc
      clear hc
      exact X_TH_felt_31_w hlt hne C  u_3 _ _ _ hf hw (lv_sub hl [] rfl) _ _ (by omega) (by omega)
/-! X_TH_mayFeel -/
theorem dX11_mayFeel_0 : decode cX11_mayFeel 0 = .ok (.iload_n 1, 1) := by decide +kernel
theorem dX11_mayFeel_1 : decode cX11_mayFeel 1 = .ok (.ifCond .lt 23, 3) := by decide +kernel
theorem dX11_mayFeel_4 : decode cX11_mayFeel 4 = .ok (.iload_n 1, 1) := by decide +kernel
theorem dX11_mayFeel_5 : decode cX11_mayFeel 5 = .ok (.aload_n 0, 1) := by decide +kernel
theorem dX11_mayFeel_6 : decode cX11_mayFeel 6 = .ok (.getfield 33, 3) := by decide +kernel
theorem dX11_mayFeel_9 : decode cX11_mayFeel 9 = .ok (.getfield 196, 3) := by decide +kernel
theorem dX11_mayFeel_12 : decode cX11_mayFeel 12 = .ok (.if_icmp .ge 12, 3) := by decide +kernel
theorem dX11_mayFeel_15 : decode cX11_mayFeel 15 = .ok (.iload_n 2, 1) := by decide +kernel
theorem dX11_mayFeel_16 : decode cX11_mayFeel 16 = .ok (.ifCond .lt 8, 3) := by decide +kernel
theorem dX11_mayFeel_19 : decode cX11_mayFeel 19 = .ok (.iload_n 2, 1) := by decide +kernel
theorem dX11_mayFeel_20 : decode cX11_mayFeel 20 = .ok (.iconst 1, 1) := by decide +kernel
theorem dX11_mayFeel_21 : decode cX11_mayFeel 21 = .ok (.if_icmp .le 13, 3) := by decide +kernel
theorem dX11_mayFeel_24 : decode cX11_mayFeel 24 = .ok (.new 148, 3) := by decide +kernel
theorem dX11_mayFeel_27 : decode cX11_mayFeel 27 = .ok (.dup, 1) := by decide +kernel
theorem dX11_mayFeel_28 : decode cX11_mayFeel 28 = .ok (.ldc 197, 2) := by decide +kernel
theorem dX11_mayFeel_30 : decode cX11_mayFeel 30 = .ok (.invokespecial 152, 3) := by decide +kernel
theorem dX11_mayFeel_33 : decode cX11_mayFeel 33 = .ok (.athrow, 1) := by decide +kernel
theorem dX11_mayFeel_34 : decode cX11_mayFeel 34 = .ok (.iload_n 2, 1) := by decide +kernel
theorem dX11_mayFeel_35 : decode cX11_mayFeel 35 = .ok (.ifCond .ne 15, 3) := by decide +kernel
theorem dX11_mayFeel_38 : decode cX11_mayFeel 38 = .ok (.aload_n 0, 1) := by decide +kernel
theorem dX11_mayFeel_39 : decode cX11_mayFeel 39 = .ok (.getfield 33, 3) := by decide +kernel
theorem dX11_mayFeel_42 : decode cX11_mayFeel 42 = .ok (.getfield 199, 3) := by decide +kernel
theorem dX11_mayFeel_45 : decode cX11_mayFeel 45 = .ok (.iload_n 1, 1) := by decide +kernel
theorem dX11_mayFeel_46 : decode cX11_mayFeel 46 = .ok (.iaload, 1) := by decide +kernel
theorem dX11_mayFeel_47 : decode cX11_mayFeel 47 = .ok (.goto 12, 3) := by decide +kernel
theorem dX11_mayFeel_50 : decode cX11_mayFeel 50 = .ok (.aload_n 0, 1) := by decide +kernel
theorem dX11_mayFeel_51 : decode cX11_mayFeel 51 = .ok (.getfield 33, 3) := by decide +kernel
theorem dX11_mayFeel_54 : decode cX11_mayFeel 54 = .ok (.getfield 202, 3) := by decide +kernel
theorem dX11_mayFeel_57 : decode cX11_mayFeel 57 = .ok (.iload_n 1, 1) := by decide +kernel
theorem dX11_mayFeel_58 : decode cX11_mayFeel 58 = .ok (.iaload, 1) := by decide +kernel
theorem dX11_mayFeel_59 : decode cX11_mayFeel 59 = .ok (.ireturn, 1) := by decide +kernel
def X_TH_mayFeel_24 (KT : xs_St → Prop) (K : Int32 → xs_St → Prop) (u : xs_St) : Prop :=
  KT u
set_option maxHeartbeats 4000000 in
set_option maxRecDepth 100000 in
theorem X_TH_mayFeel_24_w {KT : xs_St → Prop} (hlt : l.stackTraces = false) (hne : ∀ x ∈ c.exceptionTable.toList, False) {K : Int32 → xs_St → Prop} (C : th_Cx p s m args meth c cX11_mayFeel RX11 3 (some .int) (dC, dI) (th_ty cs) (xE ad ak) A) (u : xs_St) (H : Heap) (locs : List Loc) (ls : Array Slot) (hf : X_TH_mayFeel_24 KT K u) (hw : th_wI (dC, dI) (wX cs ad q v v) A s.heap u H locs) (hl : lv_has ls 3 []) (n9 m9 : Nat) (h9 : n9 + 1 ≤ 1) (g9 : m9 + 6 ≤ 6) : W p l e (th_rm 6 1 6) s m args below meth c H locs n9 m9 (vx_MQ below (va_Qi K (th_Post (dC, dI) (wX cs ad q v v) A) A) (th_XT (dC, dI) (wX cs ad q v v) A KT) args s 1 6 A) (F0 m 24 ls []) := by
  have hx := C.1
  have hb := C.2.1
  unfold X_TH_mayFeel_24 at hf
  exact x_thr C hlt hne hw hf (C.2.2.2.2.1 _ hwO_X11_148) (x_e3 C).2.2.2.2.1 hl.1 dX11_mayFeel_24 dX11_mayFeel_27 dX11_mayFeel_28 dX11_mayFeel_30 dX11_mayFeel_33 (Nat.le_of_ble_eq_true rfl) (Nat.le_of_ble_eq_true rfl) (by simp only [th_rm]; omega) (by simp only [th_rm]; omega) (by omega) (by omega)
def X_TH_mayFeel_59 (KT : xs_St → Prop) (K : Int32 → xs_St → Prop) (z0 : Int32) (u : xs_St) : Prop :=
  K z0 u
set_option maxHeartbeats 4000000 in
set_option maxRecDepth 100000 in
theorem X_TH_mayFeel_59_w {KT : xs_St → Prop} (hlt : l.stackTraces = false) (hne : ∀ x ∈ c.exceptionTable.toList, False) {K : Int32 → xs_St → Prop} (C : th_Cx p s m args meth c cX11_mayFeel RX11 3 (some .int) (dC, dI) (th_ty cs) (xE ad ak) A) (z0 : Int32) (u : xs_St) (H : Heap) (locs : List Loc) (ls : Array Slot) (hf : X_TH_mayFeel_59 KT K z0 u) (hw : th_wI (dC, dI) (wX cs ad q v v) A s.heap u H locs) (hl : lv_has ls 3 []) (n9 m9 : Nat) (h9 : n9 + 0 ≤ 1) (g9 : m9 + 0 ≤ 6) : W p l e (th_rm 6 1 6) s m args below meth c H locs n9 m9 (vx_MQ below (va_Qi K (th_Post (dC, dI) (wX cs ad q v v) A) A) (th_XT (dC, dI) (wX cs ad q v v) A KT) args s 1 6 A) (F0 m 59 ls [.int z0]) := by
  have hx := C.1
  have hb := C.2.1
  unfold X_TH_mayFeel_59 at hf
  refine vx_ret ?_
  refine W.widen (k := 1) (n := 6) (by omega) (by omega) ?_
  exact th_iret C hw hf dX11_mayFeel_59
def X_TH_mayFeel (KT : xs_St → Prop) (a1 : Int32) (a2 : Int32) (u : xs_St) (K : Int32 → xs_St → Prop) : Prop :=
  ((a1 < 0 → X_TH_mayFeel_24 KT K u) ∧ (¬ a1 < 0 → (((xi u 602) ≤ a1 → X_TH_mayFeel_24 KT K u) ∧ (¬ (xi u 602) ≤ a1 → ((a2 < 0 → X_TH_mayFeel_24 KT K u) ∧ (¬ a2 < 0 → ((a2 ≤ (1 : Int32) → ((¬ a2 = 0 → (vp_in a1 48 ∧ ∀ y_1 : Int32, y_1 = xa u 601 (a1).toNatClampNeg → X_TH_mayFeel_59 KT K y_1 u)) ∧ (a2 = 0 → (vp_in a1 48 ∧ ∀ y_2 : Int32, y_2 = xa u 600 (a1).toNatClampNeg → X_TH_mayFeel_59 KT K y_2 u)))) ∧ (¬ a2 ≤ (1 : Int32) → X_TH_mayFeel_24 KT K u))))))))
set_option maxHeartbeats 4000000 in
set_option maxRecDepth 100000 in
theorem X_TH_mayFeel_c {l : Launch} {dC : Nat → ClassId} {dI : Nat → Nat → Nat} {cs : Nat → ClassId} {ad ak : Nat → Nat} {q v : Nat → Nat} {KT : xs_St → Prop} (hlt : l.stackTraces = false) {a1 : Int32} {a2 : Int32} {u : xs_St} {K : Int32 → xs_St → Prop} (hf : X_TH_mayFeel KT a1 a2 u K) : th_Xi l yX11_mayFeel cX11_mayFeel 3 (some .int) 6 1 6 (dC, dI) (th_ty cs) (xE ad ak) (wX cs ad q v v) [.ref (q 99), .int a1, .int a2] u K KT := by
  refine th_ofXi (by decide) (Nat.le_of_ble_eq_true rfl) (xE_ok ad ak) ?_
  intro p e s m below meth c A ls C hne hw hl
  have C : th_Cx p s m _ meth c cX11_mayFeel RX11 3 (some .int) (dC, dI) (th_ty cs) (xE ad ak) A := C
  have hl : lv_has ls 3 [(0, .ref (q 99)), (1, .int a1), (2, .int a2)] := hl
  generalize (List.toArray _ : Array Value) = args at C ⊢
  have hx := C.1
  have hb := C.2.1
  unfold X_TH_mayFeel at hf
  refine lv_iload_n hx hb dX11_mayFeel_0 rfl (lv_at hl 1 rfl) ?_
  refine lv_if_lt (tgt := 24) hx hb dX11_mayFeel_1 (by decide) (fun hc => ?_) (fun hc => ?_)
  · replace hf := hf.1 hc
    clear hc
    exact X_TH_mayFeel_24_w hlt hne C  u _ _ _ hf hw (lv_sub hl [] rfl) _ _ (by omega) (by omega)
  · replace hf := hf.2 hc
    clear hc
    refine lv_iload_n hx hb dX11_mayFeel_4 rfl (lv_at hl 1 rfl) ?_
    refine lv_aload_n hx hb dX11_mayFeel_5 rfl (lv_at hl 0 rfl) ?_
    refine xg_3 C hw (C.2.2.2.2.1 _ hwF_X11_33) dX11_mayFeel_6 ?_
    refine xgn_602 C hw (va_Nw.use rfl (xN C hwG_X11_196)) dX11_mayFeel_9 ?_
    refine lv_icmp_ge (tgt := 24) hx hb dX11_mayFeel_12 (by decide) (fun hc => ?_) (fun hc => ?_)
    · replace hf := hf.1 hc
      clear hc
      exact X_TH_mayFeel_24_w hlt hne C  u _ _ _ hf hw (lv_sub hl [] rfl) _ _ (by omega) (by omega)
    · replace hf := hf.2 hc
      clear hc
      refine lv_iload_n hx hb dX11_mayFeel_15 rfl (lv_at hl 2 rfl) ?_
      refine lv_if_lt (tgt := 24) hx hb dX11_mayFeel_16 (by decide) (fun hc => ?_) (fun hc => ?_)
      · replace hf := hf.1 hc
        clear hc
        exact X_TH_mayFeel_24_w hlt hne C  u _ _ _ hf hw (lv_sub hl [] rfl) _ _ (by omega) (by omega)
      · replace hf := hf.2 hc
        clear hc
        refine lv_iload_n hx hb dX11_mayFeel_19 rfl (lv_at hl 2 rfl) ?_
        refine lv_iconst (v := (1 : Int32)) hx hb dX11_mayFeel_20 (by decide) ?_
        refine lv_icmp_le (tgt := 34) hx hb dX11_mayFeel_21 (by decide) (fun hc => ?_) (fun hc => ?_)
        · replace hf := hf.1 hc
          clear hc
          refine lv_iload_n hx hb dX11_mayFeel_34 rfl (lv_at hl 2 rfl) ?_
          refine lv_if_ne (tgt := 50) hx hb dX11_mayFeel_35 (by decide) (fun hc => ?_) (fun hc => ?_)
          · replace hf := hf.1 hc
            clear hc
            refine lv_aload_n hx hb dX11_mayFeel_50 rfl (lv_at hl 0 rfl) ?_
            refine xg_3 C hw (C.2.2.2.2.1 _ hwF_X11_33) dX11_mayFeel_51 ?_
            refine xgn_601 C hw (va_Nw.use rfl (xN C hwG_X11_202)) dX11_mayFeel_54 ?_
            refine lv_iload_n hx hb dX11_mayFeel_57 rfl (lv_at hl 1 rfl) ?_
            refine yl_601 C hw hf.1 dX11_mayFeel_58 (fun y_1 e9 => ?_)
            replace hf := hf.2 y_1 e9
            clear e9
            exact X_TH_mayFeel_59_w hlt hne C y_1 u _ _ _ hf hw (lv_sub hl [] rfl) _ _ (by omega) (by omega)
          · replace hf := hf.2 hc
            clear hc
            refine lv_aload_n hx hb dX11_mayFeel_38 rfl (lv_at hl 0 rfl) ?_
            refine xg_3 C hw (C.2.2.2.2.1 _ hwF_X11_33) dX11_mayFeel_39 ?_
            refine xgn_600 C hw (va_Nw.use rfl (xN C hwG_X11_199)) dX11_mayFeel_42 ?_
            refine lv_iload_n hx hb dX11_mayFeel_45 rfl (lv_at hl 1 rfl) ?_
            refine yl_600 C hw hf.1 dX11_mayFeel_46 (fun y_2 e9 => ?_)
            replace hf := hf.2 y_2 e9
            clear e9
            refine lv_goto (tgt := 59) hx hb dX11_mayFeel_47 (by decide) ?_
            exact X_TH_mayFeel_59_w hlt hne C y_2 u _ _ _ hf hw (lv_sub hl [] rfl) _ _ (by omega) (by omega)
        · replace hf := hf.2 hc
          clear hc
          exact X_TH_mayFeel_24_w hlt hne C  u _ _ _ hf hw (lv_sub hl [] rfl) _ _ (by omega) (by omega)
/-! X_TH_read -/
theorem dX11_read_0 : decode cX11_read 0 = .ok (.aload_n 0, 1) := by decide +kernel
theorem dX11_read_1 : decode cX11_read 1 = .ok (.getfield 26, 3) := by decide +kernel
theorem dX11_read_4 : decode cX11_read 4 = .ok (.aload_n 0, 1) := by decide +kernel
theorem dX11_read_5 : decode cX11_read 5 = .ok (.getfield 69, 3) := by decide +kernel
theorem dX11_read_8 : decode cX11_read 8 = .ok (.iload_n 2, 1) := by decide +kernel
theorem dX11_read_9 : decode cX11_read 9 = .ok (.iload_n 3, 1) := by decide +kernel
theorem dX11_read_10 : decode cX11_read 10 = .ok (.invokevirtual 144, 3) := by decide +kernel
theorem dX11_read_13 : decode cX11_read 13 = .ok (.astore 5, 2) := by decide +kernel
theorem dX11_read_15 : decode cX11_read 15 = .ok (.aload 5, 2) := by decide +kernel
theorem dX11_read_17 : decode cX11_read 17 = .ok (.ifnull 25, 3) := by decide +kernel
theorem dX11_read_20 : decode cX11_read 20 = .ok (.aload_n 0, 1) := by decide +kernel
theorem dX11_read_21 : decode cX11_read 21 = .ok (.getfield 69, 3) := by decide +kernel
theorem dX11_read_24 : decode cX11_read 24 = .ok (.iload_n 1, 1) := by decide +kernel
theorem dX11_read_25 : decode cX11_read 25 = .ok (.invokevirtual 116, 3) := by decide +kernel
theorem dX11_read_28 : decode cX11_read 28 = .ok (.ifCond .eq 14, 3) := by decide +kernel
theorem dX11_read_31 : decode cX11_read 31 = .ok (.iload 4, 2) := by decide +kernel
theorem dX11_read_33 : decode cX11_read 33 = .ok (.ifCond .lt 9, 3) := by decide +kernel
theorem dX11_read_36 : decode cX11_read 36 = .ok (.iload 4, 2) := by decide +kernel
theorem dX11_read_38 : decode cX11_read 38 = .ok (.iconst 1, 1) := by decide +kernel
theorem dX11_read_39 : decode cX11_read 39 = .ok (.if_icmp .le 13, 3) := by decide +kernel
theorem dX11_read_42 : decode cX11_read 42 = .ok (.new 148, 3) := by decide +kernel
theorem dX11_read_45 : decode cX11_read 45 = .ok (.dup, 1) := by decide +kernel
theorem dX11_read_46 : decode cX11_read 46 = .ok (.ldc 164, 2) := by decide +kernel
theorem dX11_read_48 : decode cX11_read 48 = .ok (.invokespecial 152, 3) := by decide +kernel
theorem dX11_read_51 : decode cX11_read 51 = .ok (.athrow, 1) := by decide +kernel
theorem dX11_read_52 : decode cX11_read 52 = .ok (.iload 4, 2) := by decide +kernel
theorem dX11_read_54 : decode cX11_read 54 = .ok (.ifCond .ne 13, 3) := by decide +kernel
theorem dX11_read_57 : decode cX11_read 57 = .ok (.aload_n 0, 1) := by decide +kernel
theorem dX11_read_58 : decode cX11_read 58 = .ok (.getfield 69, 3) := by decide +kernel
theorem dX11_read_61 : decode cX11_read 61 = .ok (.getfield 166, 3) := by decide +kernel
theorem dX11_read_64 : decode cX11_read 64 = .ok (.goto 4, 3) := by decide +kernel
theorem dX11_read_67 : decode cX11_read 67 = .ok (.iconst 0, 1) := by decide +kernel
theorem dX11_read_68 : decode cX11_read 68 = .ok (.istore 6, 2) := by decide +kernel
theorem dX11_read_70 : decode cX11_read 70 = .ok (.iconst 2, 1) := by decide +kernel
theorem dX11_read_71 : decode cX11_read 71 = .ok (.aload 5, 2) := by decide +kernel
theorem dX11_read_73 : decode cX11_read 73 = .ok (.iload_n 1, 1) := by decide +kernel
theorem dX11_read_74 : decode cX11_read 74 = .ok (.iload 6, 2) := by decide +kernel
theorem dX11_read_76 : decode cX11_read 76 = .ok (.aload_n 0, 1) := by decide +kernel
theorem dX11_read_77 : decode cX11_read 77 = .ok (.getfield 69, 3) := by decide +kernel
theorem dX11_read_80 : decode cX11_read 80 = .ok (.getfield 169, 3) := by decide +kernel
theorem dX11_read_83 : decode cX11_read 83 = .ok (.invokevirtual 172, 3) := by decide +kernel
theorem dX11_read_86 : decode cX11_read 86 = .ok (.imul, 1) := by decide +kernel
theorem dX11_read_87 : decode cX11_read 87 = .ok (.aload 5, 2) := by decide +kernel
theorem dX11_read_89 : decode cX11_read 89 = .ok (.iload_n 1, 1) := by decide +kernel
theorem dX11_read_90 : decode cX11_read 90 = .ok (.iconst 1, 1) := by decide +kernel
theorem dX11_read_91 : decode cX11_read 91 = .ok (.isub, 1) := by decide +kernel
theorem dX11_read_92 : decode cX11_read 92 = .ok (.iload 6, 2) := by decide +kernel
theorem dX11_read_94 : decode cX11_read 94 = .ok (.aload_n 0, 1) := by decide +kernel
theorem dX11_read_95 : decode cX11_read 95 = .ok (.getfield 69, 3) := by decide +kernel
theorem dX11_read_98 : decode cX11_read 98 = .ok (.getfield 169, 3) := by decide +kernel
theorem dX11_read_101 : decode cX11_read 101 = .ok (.invokevirtual 172, 3) := by decide +kernel
theorem dX11_read_104 : decode cX11_read 104 = .ok (.iadd, 1) := by decide +kernel
theorem dX11_read_105 : decode cX11_read 105 = .ok (.aload 5, 2) := by decide +kernel
theorem dX11_read_107 : decode cX11_read 107 = .ok (.iload_n 1, 1) := by decide +kernel
theorem dX11_read_108 : decode cX11_read 108 = .ok (.iconst 1, 1) := by decide +kernel
theorem dX11_read_109 : decode cX11_read 109 = .ok (.iadd, 1) := by decide +kernel
theorem dX11_read_110 : decode cX11_read 110 = .ok (.iload 6, 2) := by decide +kernel
theorem dX11_read_112 : decode cX11_read 112 = .ok (.aload_n 0, 1) := by decide +kernel
theorem dX11_read_113 : decode cX11_read 113 = .ok (.getfield 69, 3) := by decide +kernel
theorem dX11_read_116 : decode cX11_read 116 = .ok (.getfield 169, 3) := by decide +kernel
theorem dX11_read_119 : decode cX11_read 119 = .ok (.invokevirtual 172, 3) := by decide +kernel
theorem dX11_read_122 : decode cX11_read 122 = .ok (.iadd, 1) := by decide +kernel
theorem dX11_read_123 : decode cX11_read 123 = .ok (.ireturn, 1) := by decide +kernel
def X_TH_read_42 (KT : xs_St → Prop) (K : Int32 → xs_St → Prop) (u : xs_St) : Prop :=
  KT u
set_option maxHeartbeats 4000000 in
set_option maxRecDepth 100000 in
theorem X_TH_read_42_w {KT : xs_St → Prop} (hlt : l.stackTraces = false) (hne : ∀ x ∈ c.exceptionTable.toList, False) {K : Int32 → xs_St → Prop} (C : th_Cx p s m args meth c cX11_read RX11 7 (some .int) (dC, dI) (th_ty cs) (xE ad ak) A) (u : xs_St) (H : Heap) (locs : List Loc) (ls : Array Slot) (hf : X_TH_read_42 KT K u) (hw : th_wI (dC, dI) (wX cs ad q v v) A s.heap u H locs) (hl : lv_has ls 7 []) (n9 m9 : Nat) (h9 : n9 + 1 ≤ 83) (g9 : m9 + 6 ≤ 2302) : W p l e (th_rm 6 83 2302) s m args below meth c H locs n9 m9 (vx_MQ below (va_Qi K (th_Post (dC, dI) (wX cs ad q v v) A) A) (th_XT (dC, dI) (wX cs ad q v v) A KT) args s 83 2302 A) (F0 m 42 ls []) := by
  have hx := C.1
  have hb := C.2.1
  unfold X_TH_read_42 at hf
  exact x_thr C hlt hne hw hf (C.2.2.2.2.1 _ hwO_X11_148) (x_e3 C).2.2.2.1 hl.1 dX11_read_42 dX11_read_45 dX11_read_46 dX11_read_48 dX11_read_51 (Nat.le_of_ble_eq_true rfl) (Nat.le_of_ble_eq_true rfl) (by simp only [th_rm]; omega) (by simp only [th_rm]; omega) (by omega) (by omega)
def X_TH_read_68 (KT : xs_St → Prop) (K : Int32 → xs_St → Prop) (x1 : Int32) (x5 : Option Nat) (z0 : Int32) (u : xs_St) : Prop :=
  (∃ b_1 : Nat, x5 = some b_1 ∧ xd_is u b_1 3 ∧ X_Feel_sensed_d b_1 x1 z0 (xi u 302) u (fun r_3 u_2 => (∃ b_4 : Nat, x5 = some b_4 ∧ xd_is u_2 b_4 3 ∧ X_Feel_sensed_d b_4 (x1 - (1 : Int32)) z0 (xi u_2 302) u_2 (fun r_6 u_5 => (∃ b_7 : Nat, x5 = some b_7 ∧ xd_is u_5 b_7 3 ∧ X_Feel_sensed_d b_7 (x1 + (1 : Int32)) z0 (xi u_5 302) u_5 (fun r_9 u_8 => K ((((2 : Int32) * r_3) + r_6) + r_9) u_8))))))
set_option maxHeartbeats 4000000 in
set_option maxRecDepth 100000 in
theorem X_TH_read_68_w {KT : xs_St → Prop} (hlt : l.stackTraces = false) (hne : ∀ x ∈ c.exceptionTable.toList, False) {K : Int32 → xs_St → Prop} (C : th_Cx p s m args meth c cX11_read RX11 7 (some .int) (dC, dI) (th_ty cs) (xE ad ak) A) (x1 : Int32) (x5 : Option Nat) (z0 : Int32) (u : xs_St) (H : Heap) (locs : List Loc) (ls : Array Slot) (hf : X_TH_read_68 KT K x1 x5 z0 u) (hw : th_wI (dC, dI) (wX cs ad q v v) A s.heap u H locs) (hl : lv_has ls 7 [(0, .ref (q 99)), (1, .int x1), (5, va_rf x5)]) (n9 m9 : Nat) (h9 : n9 + 0 ≤ 83) (g9 : m9 + 0 ≤ 2302) : W p l e (th_rm 6 83 2302) s m args below meth c H locs n9 m9 (vx_MQ below (va_Qi K (th_Post (dC, dI) (wX cs ad q v v) A) A) (th_XT (dC, dI) (wX cs ad q v v) A KT) args s 83 2302 A) (F0 m 68 ls [.int z0]) := by
  have hx := C.1
  have hb := C.2.1
  unfold X_TH_read_68 at hf
  refine lv_istore (i := 6) (lv' := [(6, .int z0), (0, .ref (q 99)), (1, .int x1), (5, va_rf x5)]) hx hb dX11_read_68 hl (by decide) (by simp [List.filter, th_cat, th_cate]) (fun ls hl => ?_)
  refine lv_iconst (v := (2 : Int32)) hx hb dX11_read_70 (by decide) ?_
  refine th_aload hx hb dX11_read_71 (lv_at hl 3 rfl) ?_
  refine lv_iload_n hx hb dX11_read_73 rfl (lv_at hl 2 rfl) ?_
  refine lv_iload hx hb dX11_read_74 (lv_at hl 0 rfl) ?_
  refine lv_aload_n hx hb dX11_read_76 rfl (lv_at hl 1 rfl) ?_
  refine xg_9 C hw (C.2.2.2.2.1 _ hwF_X11_69) dX11_read_77 ?_
  refine xgn_302 C hw (va_Nw.use rfl (xN C hwG_X11_169)) dX11_read_80 ?_
  obtain ⟨b_1, e9, hm, hf⟩ := hf
  refine W.eq (g2 := F0 m 83 ls [.int (xi u 302), .int z0, .int x1, .ref b_1, .int (2 : Int32)]) (congrArg (fun z9 => F0 m 83 ls [.int (xi u 302), .int z0, .int x1, va_rf z9, .int (2 : Int32)]) e9) ?_
  clear e9
  refine th_callVi (As := [.int x1, .int z0, .int (xi u 302)]) (rest := [.int (2 : Int32)]) C lkX11_172 (X_Feel_sensed_d_c hf) hw (xdRc_Feel C hw hm) rfl rfl ⟨Nat.le_of_ble_eq_true rfl, Nat.le_of_ble_eq_true rfl⟩ hl.1 (Nat.le_of_ble_eq_true rfl) ⟨by simp only [th_rm]; omega, by simp only [th_rm]; omega⟩ dX11_read_83 (fun r_3 u_2 H locs hf hw => ?_)
  refine lv_imul hx hb dX11_read_86 ?_
  refine th_aload hx hb dX11_read_87 (lv_at hl 3 rfl) ?_
  refine lv_iload_n hx hb dX11_read_89 rfl (lv_at hl 2 rfl) ?_
  refine lv_iconst (v := (1 : Int32)) hx hb dX11_read_90 (by decide) ?_
  refine lv_isub hx hb dX11_read_91 ?_
  refine lv_iload hx hb dX11_read_92 (lv_at hl 0 rfl) ?_
  refine lv_aload_n hx hb dX11_read_94 rfl (lv_at hl 1 rfl) ?_
  refine xg_9 C hw (C.2.2.2.2.1 _ hwF_X11_69) dX11_read_95 ?_
  refine xgn_302 C hw (va_Nw.use rfl (xN C hwG_X11_169)) dX11_read_98 ?_
  obtain ⟨b_4, e9, hm, hf⟩ := hf
  refine W.eq (g2 := F0 m 101 ls [.int (xi u_2 302), .int z0, .int (x1 - (1 : Int32)), .ref b_4, .int ((2 : Int32) * r_3)]) (congrArg (fun z9 => F0 m 101 ls [.int (xi u_2 302), .int z0, .int (x1 - (1 : Int32)), va_rf z9, .int ((2 : Int32) * r_3)]) e9) ?_
  clear e9
  refine th_callVi (As := [.int (x1 - (1 : Int32)), .int z0, .int (xi u_2 302)]) (rest := [.int ((2 : Int32) * r_3)]) C lkX11_172 (X_Feel_sensed_d_c hf) hw (xdRc_Feel C hw hm) rfl rfl ⟨Nat.le_of_ble_eq_true rfl, Nat.le_of_ble_eq_true rfl⟩ hl.1 (Nat.le_of_ble_eq_true rfl) ⟨by simp only [th_rm]; omega, by simp only [th_rm]; omega⟩ dX11_read_101 (fun r_6 u_5 H locs hf hw => ?_)
  refine lv_iadd hx hb dX11_read_104 ?_
  refine th_aload hx hb dX11_read_105 (lv_at hl 3 rfl) ?_
  refine lv_iload_n hx hb dX11_read_107 rfl (lv_at hl 2 rfl) ?_
  refine lv_iconst (v := (1 : Int32)) hx hb dX11_read_108 (by decide) ?_
  refine lv_iadd hx hb dX11_read_109 ?_
  refine lv_iload hx hb dX11_read_110 (lv_at hl 0 rfl) ?_
  refine lv_aload_n hx hb dX11_read_112 rfl (lv_at hl 1 rfl) ?_
  refine xg_9 C hw (C.2.2.2.2.1 _ hwF_X11_69) dX11_read_113 ?_
  refine xgn_302 C hw (va_Nw.use rfl (xN C hwG_X11_169)) dX11_read_116 ?_
  obtain ⟨b_7, e9, hm, hf⟩ := hf
  refine W.eq (g2 := F0 m 119 ls [.int (xi u_5 302), .int z0, .int (x1 + (1 : Int32)), .ref b_7, .int (((2 : Int32) * r_3) + r_6)]) (congrArg (fun z9 => F0 m 119 ls [.int (xi u_5 302), .int z0, .int (x1 + (1 : Int32)), va_rf z9, .int (((2 : Int32) * r_3) + r_6)]) e9) ?_
  clear e9
  refine th_callVi (As := [.int (x1 + (1 : Int32)), .int z0, .int (xi u_5 302)]) (rest := [.int (((2 : Int32) * r_3) + r_6)]) C lkX11_172 (X_Feel_sensed_d_c hf) hw (xdRc_Feel C hw hm) rfl rfl ⟨Nat.le_of_ble_eq_true rfl, Nat.le_of_ble_eq_true rfl⟩ hl.1 (Nat.le_of_ble_eq_true rfl) ⟨by simp only [th_rm]; omega, by simp only [th_rm]; omega⟩ dX11_read_119 (fun r_9 u_8 H locs hf hw => ?_)
  refine lv_iadd hx hb dX11_read_122 ?_
  refine vx_ret ?_
  refine W.widen (k := 83) (n := 2302) (by omega) (by omega) ?_
  exact th_iret C hw hf dX11_read_123
def X_TH_read (KT : xs_St → Prop) (a1 : Int32) (a2 : Int32) (a3 : Int32) (a4 : Int32) (u : xs_St) (K : Int32 → xs_St → Prop) : Prop :=
  X_BD_feelOf a2 a3 u (fun r_2 u_1 => ((r_2 = none → X_TH_read_42 KT K u_1) ∧ (¬ r_2 = none → X_T_hasFoot_A a1 u_1 (fun r_4 u_3 => ((r_4 = 0 → X_TH_read_42 KT K u_3) ∧ (¬ r_4 = 0 → ((a4 < 0 → X_TH_read_42 KT K u_3) ∧ (¬ a4 < 0 → ((a4 ≤ (1 : Int32) → ((¬ a4 = 0 → X_TH_read_68 KT K a1 r_2 (0 : Int32) u_3) ∧ (a4 = 0 → X_TH_read_68 KT K a1 r_2 (xi u_3 301) u_3))) ∧ (¬ a4 ≤ (1 : Int32) → X_TH_read_42 KT K u_3))))))))))
set_option maxHeartbeats 4000000 in
set_option maxRecDepth 100000 in
theorem X_TH_read_c {l : Launch} {dC : Nat → ClassId} {dI : Nat → Nat → Nat} {cs : Nat → ClassId} {ad ak : Nat → Nat} {q v : Nat → Nat} {KT : xs_St → Prop} (hlt : l.stackTraces = false) {a1 : Int32} {a2 : Int32} {a3 : Int32} {a4 : Int32} {u : xs_St} {K : Int32 → xs_St → Prop} (hf : X_TH_read KT a1 a2 a3 a4 u K) : th_Xi l yX11_read cX11_read 7 (some .int) 6 83 2302 (dC, dI) (th_ty cs) (xE ad ak) (wX cs ad q v v) [.ref (q 99), .int a1, .int a2, .int a3, .int a4] u K KT := by
  refine th_ofXi (by decide) (Nat.le_of_ble_eq_true rfl) (xE_ok ad ak) ?_
  intro p e s m below meth c A ls C hne hw hl
  have C : th_Cx p s m _ meth c cX11_read RX11 7 (some .int) (dC, dI) (th_ty cs) (xE ad ak) A := C
  have hl : lv_has ls 7 [(0, .ref (q 99)), (1, .int a1), (2, .int a2), (3, .int a3), (4, .int a4)] := hl
  generalize (List.toArray _ : Array Value) = args at C ⊢
  have hx := C.1
  have hb := C.2.1
  unfold X_TH_read at hf
  refine lv_aload_n hx hb dX11_read_0 rfl (lv_at hl 0 rfl) ?_
  refine xg_2 C hw (C.2.2.2.2.1 _ hwF_X11_26) dX11_read_1 ?_
  refine lv_aload_n hx hb dX11_read_4 rfl (lv_at hl 0 rfl) ?_
  refine xg_9 C hw (C.2.2.2.2.1 _ hwF_X11_69) dX11_read_5 ?_
  refine lv_iload_n hx hb dX11_read_8 rfl (lv_at hl 2 rfl) ?_
  refine lv_iload_n hx hb dX11_read_9 rfl (lv_at hl 3 rfl) ?_
  refine th_callVq (As := [.ref (v 399), .int a2, .int a3]) (rest := []) C lkX11_144 (X_BD_feelOf_c hf) hw (xRc_BD C hw) rfl rfl ⟨Nat.le_of_ble_eq_true rfl, Nat.le_of_ble_eq_true rfl⟩ hl.1 (Nat.le_of_ble_eq_true rfl) ⟨by simp only [th_rm]; omega, by simp only [th_rm]; omega⟩ dX11_read_10 (fun r_2 u_1 H locs hf hw => ?_)
  refine th_astore (r := r_2) (lv' := [(5, va_rf r_2), (0, .ref (q 99)), (1, .int a1), (2, .int a2), (3, .int a3), (4, .int a4)]) hx hb dX11_read_13 hl (by decide) rfl (fun ls hl => ?_)
  refine th_aload hx hb dX11_read_15 (lv_at hl 0 rfl) ?_
  refine th_ifnull (tgt := 42) hx hb dX11_read_17 (by decide) (fun hc => ?_) (fun hc => ?_)
  · replace hf := hf.1 hc
    clear hc
    exact X_TH_read_42_w hlt hne C  u_1 _ _ _ hf hw (lv_sub hl [] rfl) _ _ (by omega) (by omega)
  · replace hf := hf.2 hc
    clear hc
    refine lv_aload_n hx hb dX11_read_20 rfl (lv_at hl 1 rfl) ?_
    refine xg_9 C hw (C.2.2.2.2.1 _ hwF_X11_69) dX11_read_21 ?_
    refine lv_iload_n hx hb dX11_read_24 rfl (lv_at hl 2 rfl) ?_
    refine th_callVi (As := [.int a1]) (rest := []) C lkX11_116 (X_T_hasFoot_A_c hf) hw (xRc_TA C hw) rfl rfl ⟨Nat.le_of_ble_eq_true rfl, Nat.le_of_ble_eq_true rfl⟩ hl.1 (Nat.le_of_ble_eq_true rfl) ⟨by simp only [th_rm]; omega, by simp only [th_rm]; omega⟩ dX11_read_25 (fun r_4 u_3 H locs hf hw => ?_)
    refine lv_if_eq (tgt := 42) hx hb dX11_read_28 (by decide) (fun hc => ?_) (fun hc => ?_)
    · replace hf := hf.1 hc
      clear hc
      exact X_TH_read_42_w hlt hne C  u_3 _ _ _ hf hw (lv_sub hl [] rfl) _ _ (by omega) (by omega)
    · replace hf := hf.2 hc
      clear hc
      refine lv_iload hx hb dX11_read_31 (lv_at hl 5 rfl) ?_
      refine lv_if_lt (tgt := 42) hx hb dX11_read_33 (by decide) (fun hc => ?_) (fun hc => ?_)
      · replace hf := hf.1 hc
        clear hc
        exact X_TH_read_42_w hlt hne C  u_3 _ _ _ hf hw (lv_sub hl [] rfl) _ _ (by omega) (by omega)
      · replace hf := hf.2 hc
        clear hc
        refine lv_iload hx hb dX11_read_36 (lv_at hl 5 rfl) ?_
        refine lv_iconst (v := (1 : Int32)) hx hb dX11_read_38 (by decide) ?_
        refine lv_icmp_le (tgt := 52) hx hb dX11_read_39 (by decide) (fun hc => ?_) (fun hc => ?_)
        · replace hf := hf.1 hc
          clear hc
          refine lv_iload hx hb dX11_read_52 (lv_at hl 5 rfl) ?_
          refine lv_if_ne (tgt := 67) hx hb dX11_read_54 (by decide) (fun hc => ?_) (fun hc => ?_)
          · replace hf := hf.1 hc
            clear hc
            refine lv_iconst (v := (0 : Int32)) hx hb dX11_read_67 (by decide) ?_
            exact X_TH_read_68_w hlt hne C a1 r_2 (0 : Int32) u_3 _ _ _ hf hw (lv_sub hl [1, 2, 0] rfl) _ _ (by omega) (by omega)
          · replace hf := hf.2 hc
            clear hc
            refine lv_aload_n hx hb dX11_read_57 rfl (lv_at hl 1 rfl) ?_
            refine xg_9 C hw (C.2.2.2.2.1 _ hwF_X11_69) dX11_read_58 ?_
            refine xgn_301 C hw (va_Nw.use rfl (xN C hwG_X11_166)) dX11_read_61 ?_
            refine lv_goto (tgt := 68) hx hb dX11_read_64 (by decide) ?_
            exact X_TH_read_68_w hlt hne C a1 r_2 (xi u_3 301) u_3 _ _ _ hf hw (lv_sub hl [1, 2, 0] rfl) _ _ (by omega) (by omega)
        · replace hf := hf.2 hc
          clear hc
          exact X_TH_read_42_w hlt hne C  u_3 _ _ _ hf hw (lv_sub hl [] rfl) _ _ (by omega) (by omega)
/-! X_RD_scan -/
theorem dX4_scan_0 : decode cX4_scan 0 = .ok (.aload_n 1, 1) := by decide +kernel
theorem dX4_scan_1 : decode cX4_scan 1 = .ok (.getfield 94, 3) := by decide +kernel
theorem dX4_scan_4 : decode cX4_scan 4 = .ok (.sipush 400, 3) := by decide +kernel
theorem dX4_scan_7 : decode cX4_scan 7 = .ok (.invokestatic 103, 3) := by decide +kernel
theorem dX4_scan_10 : decode cX4_scan 10 = .ok (.istore_n 2, 1) := by decide +kernel
theorem dX4_scan_11 : decode cX4_scan 11 = .ok (.aload_n 0, 1) := by decide +kernel
theorem dX4_scan_12 : decode cX4_scan 12 = .ok (.iconst 0, 1) := by decide +kernel
theorem dX4_scan_13 : decode cX4_scan 13 = .ok (.putfield 24, 3) := by decide +kernel
theorem dX4_scan_16 : decode cX4_scan 16 = .ok (.iconst 0, 1) := by decide +kernel
theorem dX4_scan_17 : decode cX4_scan 17 = .ok (.istore_n 3, 1) := by decide +kernel
theorem dX4_scan_18 : decode cX4_scan 18 = .ok (.iload_n 3, 1) := by decide +kernel
theorem dX4_scan_19 : decode cX4_scan 19 = .ok (.iload_n 2, 1) := by decide +kernel
theorem dX4_scan_20 : decode cX4_scan 20 = .ok (.if_icmp .ge 56, 3) := by decide +kernel
theorem dX4_scan_23 : decode cX4_scan 23 = .ok (.aload_n 1, 1) := by decide +kernel
theorem dX4_scan_24 : decode cX4_scan 24 = .ok (.iload_n 3, 1) := by decide +kernel
theorem dX4_scan_25 : decode cX4_scan 25 = .ok (.invokestatic 109, 3) := by decide +kernel
theorem dX4_scan_28 : decode cX4_scan 28 = .ok (.istore 4, 2) := by decide +kernel
theorem dX4_scan_30 : decode cX4_scan 30 = .ok (.aload_n 1, 1) := by decide +kernel
theorem dX4_scan_31 : decode cX4_scan 31 = .ok (.iload_n 3, 1) := by decide +kernel
theorem dX4_scan_32 : decode cX4_scan 32 = .ok (.invokevirtual 113, 3) := by decide +kernel
theorem dX4_scan_35 : decode cX4_scan 35 = .ok (.istore 5, 2) := by decide +kernel
theorem dX4_scan_37 : decode cX4_scan 37 = .ok (.iload 5, 2) := by decide +kernel
theorem dX4_scan_39 : decode cX4_scan 39 = .ok (.bipush 32, 2) := by decide +kernel
theorem dX4_scan_41 : decode cX4_scan 41 = .ok (.if_icmp .eq 29, 3) := by decide +kernel
theorem dX4_scan_44 : decode cX4_scan 44 = .ok (.iload 5, 2) := by decide +kernel
theorem dX4_scan_46 : decode cX4_scan 46 = .ok (.bipush 10, 2) := by decide +kernel
theorem dX4_scan_48 : decode cX4_scan 48 = .ok (.if_icmp .eq 22, 3) := by decide +kernel
theorem dX4_scan_51 : decode cX4_scan 51 = .ok (.aload_n 0, 1) := by decide +kernel
theorem dX4_scan_52 : decode cX4_scan 52 = .ok (.aload_n 1, 1) := by decide +kernel
theorem dX4_scan_53 : decode cX4_scan 53 = .ok (.iload_n 3, 1) := by decide +kernel
theorem dX4_scan_54 : decode cX4_scan 54 = .ok (.iload 4, 2) := by decide +kernel
theorem dX4_scan_56 : decode cX4_scan 56 = .ok (.invokestatic 117, 3) := by decide +kernel
theorem dX4_scan_59 : decode cX4_scan 59 = .ok (.iload_n 3, 1) := by decide +kernel
theorem dX4_scan_60 : decode cX4_scan 60 = .ok (.aload_n 1, 1) := by decide +kernel
theorem dX4_scan_61 : decode cX4_scan 61 = .ok (.iload_n 3, 1) := by decide +kernel
theorem dX4_scan_62 : decode cX4_scan 62 = .ok (.iload 4, 2) := by decide +kernel
theorem dX4_scan_64 : decode cX4_scan 64 = .ok (.invokestatic 121, 3) := by decide +kernel
theorem dX4_scan_67 : decode cX4_scan 67 = .ok (.invokevirtual 125, 3) := by decide +kernel
theorem dX4_scan_70 : decode cX4_scan 70 = .ok (.iload 4, 2) := by decide +kernel
theorem dX4_scan_72 : decode cX4_scan 72 = .ok (.istore_n 3, 1) := by decide +kernel
theorem dX4_scan_73 : decode cX4_scan 73 = .ok (.goto (-55), 3) := by decide +kernel
theorem dX4_scan_76 : decode cX4_scan 76 = .ok (.aload_n 0, 1) := by decide +kernel
theorem dX4_scan_77 : decode cX4_scan 77 = .ok (.getstatic 38, 3) := by decide +kernel
theorem dX4_scan_80 : decode cX4_scan 80 = .ok (.iload_n 2, 1) := by decide +kernel
theorem dX4_scan_81 : decode cX4_scan 81 = .ok (.iconst 0, 1) := by decide +kernel
theorem dX4_scan_82 : decode cX4_scan 82 = .ok (.invokevirtual 125, 3) := by decide +kernel
theorem dX4_scan_85 : decode cX4_scan 85 = .ok (.return_, 1) := by decide +kernel
def X_RD_scan_70 (K : xs_St → Prop) (k18 : Int32 → Int32 → xs_St → Prop) (x2 : Int32) (x4 : Int32) (u : xs_St) : Prop :=
  k18 x2 x4 u
set_option maxHeartbeats 4000000 in
set_option maxRecDepth 100000 in
theorem X_RD_scan_70_w {K : xs_St → Prop} {k18 : Int32 → Int32 → xs_St → Prop} (C : th_Cx p s m args meth c cX4_scan RX4 6 (none) (dC, dI) (th_ty cs) (xE ad ak) A) (hk18 : ∀ (x2 : Int32) (x3 : Int32) (u : xs_St) (H : Heap) (locs : List Loc) (ls : Array Slot), k18 x2 x3 u → th_wI (dC, dI) (wX cs ad q v v) A s.heap u H locs → lv_has ls 6 [(0, .ref (q 299)), (1, .ref (q 199)), (2, .int x2), (3, .int x3)] → W p l e (th_rm 7 0 0) s m args below meth c H locs 0 0 (MQ below (va_Qv K (th_Post (dC, dI) (wX cs ad q v v) A) A) args s 0 0 A) (F0 m 18 ls [])) (x2 : Int32) (x4 : Int32) (u : xs_St) (H : Heap) (locs : List Loc) (ls : Array Slot) (hf : X_RD_scan_70 K k18 x2 x4 u) (hw : th_wI (dC, dI) (wX cs ad q v v) A s.heap u H locs) (hl : lv_has ls 6 [(0, .ref (q 299)), (1, .ref (q 199)), (2, .int x2), (4, .int x4)]) : W p l e (th_rm 7 0 0) s m args below meth c H locs 0 0 (MQ below (va_Qv K (th_Post (dC, dI) (wX cs ad q v v) A) A) args s 0 0 A) (F0 m 70 ls []) := by
  have hx := C.1
  have hb := C.2.1
  unfold X_RD_scan_70 at hf
  refine lv_iload hx hb dX4_scan_70 (lv_at hl 3 rfl) ?_
  refine lv_istore_n (lv' := [(3, .int x4), (0, .ref (q 299)), (1, .ref (q 199)), (2, .int x2), (4, .int x4)]) hx hb dX4_scan_72 rfl hl (by decide) rfl (fun ls hl => ?_)
  refine lv_goto (tgt := 18) hx hb dX4_scan_73 (by decide) ?_
  exact hk18 x2 x4 u _ _ _ hf hw (lv_sub hl [1, 2, 3, 0] rfl)
def X_RD_scan_18 (K : xs_St → Prop) (k18 : Int32 → Int32 → xs_St → Prop) (x2 : Int32) (x3 : Int32) (u : xs_St) : Prop :=
  ((x2 ≤ x3 → X_RD_addToken (some 0) x2 (0 : Int32) u (fun u_1 => K u_1)) ∧ (¬ x2 ≤ x3 → X_RD_behindRun x3 u (fun r_4 u_3 => X_TP_unsigned x3 u_3 (fun r_6 u_5 => ((r_6 = (32 : Int32) → X_RD_scan_70 K k18 x2 r_4 u_5) ∧ (¬ r_6 = (32 : Int32) → ((r_6 = (10 : Int32) → X_RD_scan_70 K k18 x2 r_4 u_5) ∧ (¬ r_6 = (10 : Int32) → X_RD_tokenOf x3 r_4 u_5 (fun r_8 u_7 => X_RD_numberOf x3 r_4 u_7 (fun r_10 u_9 => X_RD_addToken r_8 x3 r_10 u_9 (fun u_11 => X_RD_scan_70 K k18 x2 r_4 u_11)))))))))))
set_option maxHeartbeats 4000000 in
set_option maxRecDepth 100000 in
theorem X_RD_scan_18_w {K : xs_St → Prop} {k18 : Int32 → Int32 → xs_St → Prop} (C : th_Cx p s m args meth c cX4_scan RX4 6 (none) (dC, dI) (th_ty cs) (xE ad ak) A) (hk18 : ∀ (x2 : Int32) (x3 : Int32) (u : xs_St) (H : Heap) (locs : List Loc) (ls : Array Slot), k18 x2 x3 u → th_wI (dC, dI) (wX cs ad q v v) A s.heap u H locs → lv_has ls 6 [(0, .ref (q 299)), (1, .ref (q 199)), (2, .int x2), (3, .int x3)] → W p l e (th_rm 7 0 0) s m args below meth c H locs 0 0 (MQ below (va_Qv K (th_Post (dC, dI) (wX cs ad q v v) A) A) args s 0 0 A) (F0 m 18 ls [])) (x2 : Int32) (x3 : Int32) (u : xs_St) (H : Heap) (locs : List Loc) (ls : Array Slot) (hf : X_RD_scan_18 K k18 x2 x3 u) (hw : th_wI (dC, dI) (wX cs ad q v v) A s.heap u H locs) (hl : lv_has ls 6 [(0, .ref (q 299)), (1, .ref (q 199)), (2, .int x2), (3, .int x3)]) : W p l e (th_rm 7 0 0) s m args below meth c H locs 0 0 (MQ below (va_Qv K (th_Post (dC, dI) (wX cs ad q v v) A) A) args s 0 0 A) (F0 m 18 ls []) := by
  have hx := C.1
  have hb := C.2.1
  unfold X_RD_scan_18 at hf
  refine lv_iload_n hx hb dX4_scan_18 rfl (lv_at hl 3 rfl) ?_
  refine lv_iload_n hx hb dX4_scan_19 rfl (lv_at hl 2 rfl) ?_
  refine lv_icmp_ge (tgt := 76) hx hb dX4_scan_20 (by decide) (fun hc => ?_) (fun hc => ?_)
  · replace hf := hf.1 hc
    clear hc
    refine lv_aload_n hx hb dX4_scan_76 rfl (lv_at hl 0 rfl) ?_
    refine xst C hw 0 (by decide) (C.2.2.2.2.1 _ hwF_X4_38) dX4_scan_77 ?_
    refine lv_iload_n hx hb dX4_scan_80 rfl (lv_at hl 2 rfl) ?_
    refine lv_iconst (v := (0 : Int32)) hx hb dX4_scan_81 (by decide) ?_
    refine th_callVv (As := [va_re ad (some 0), .int x2, .int (0 : Int32)]) (rest := []) C lkX4_125 (X_RD_addToken_c hf) hw (xRc_RD C hw) rfl rfl ⟨Nat.le_of_ble_eq_true rfl, Nat.le_of_ble_eq_true rfl⟩ hl.1 (Nat.le_of_ble_eq_true rfl) ⟨Nat.le_of_ble_eq_true rfl, Nat.le_of_ble_eq_true rfl⟩ dX4_scan_82 (fun u_1 H locs hf hw => ?_)
    exact th_vret C hw hf dX4_scan_85
  · replace hf := hf.2 hc
    clear hc
    refine lv_aload_n hx hb dX4_scan_23 rfl (lv_at hl 1 rfl) ?_
    refine lv_iload_n hx hb dX4_scan_24 rfl (lv_at hl 3 rfl) ?_
    refine th_callSi (As := [.ref (q 199), .int x3]) (rest := []) C lkX4_109 (X_RD_behindRun_c hf) hw rfl rfl ⟨Nat.le_of_ble_eq_true rfl, Nat.le_of_ble_eq_true rfl⟩ hl.1 (Nat.le_of_ble_eq_true rfl) ⟨Nat.le_of_ble_eq_true rfl, Nat.le_of_ble_eq_true rfl⟩ dX4_scan_25 (fun r_4 u_3 H locs hf hw => ?_)
    refine lv_istore (lv' := [(4, .int r_4), (0, .ref (q 299)), (1, .ref (q 199)), (2, .int x2), (3, .int x3)]) hx hb dX4_scan_28 hl (by decide) rfl (fun ls hl => ?_)
    refine lv_aload_n hx hb dX4_scan_30 rfl (lv_at hl 2 rfl) ?_
    refine lv_iload_n hx hb dX4_scan_31 rfl (lv_at hl 4 rfl) ?_
    refine th_callVi (As := [.int x3]) (rest := []) C lkX4_113 (X_TP_unsigned_c hf) hw (xRc_TP C hw) rfl rfl ⟨Nat.le_of_ble_eq_true rfl, Nat.le_of_ble_eq_true rfl⟩ hl.1 (Nat.le_of_ble_eq_true rfl) ⟨Nat.le_of_ble_eq_true rfl, Nat.le_of_ble_eq_true rfl⟩ dX4_scan_32 (fun r_6 u_5 H locs hf hw => ?_)
    refine lv_istore (lv' := [(5, .int r_6), (4, .int r_4), (0, .ref (q 299)), (1, .ref (q 199)), (2, .int x2), (3, .int x3)]) hx hb dX4_scan_35 hl (by decide) rfl (fun ls hl => ?_)
    refine lv_iload hx hb dX4_scan_37 (lv_at hl 0 rfl) ?_
    refine lv_bipush (v := (32 : Int32)) hx hb dX4_scan_39 (by decide) ?_
    refine lv_icmp_eq (tgt := 70) hx hb dX4_scan_41 (by decide) (fun hc => ?_) (fun hc => ?_)
    · replace hf := hf.1 hc
      clear hc
      exact X_RD_scan_70_w C hk18 x2 r_4 u_5 _ _ _ hf hw (lv_sub hl [2, 3, 4, 1] rfl)
    · replace hf := hf.2 hc
      clear hc
      refine lv_iload hx hb dX4_scan_44 (lv_at hl 0 rfl) ?_
      refine lv_bipush (v := (10 : Int32)) hx hb dX4_scan_46 (by decide) ?_
      refine lv_icmp_eq (tgt := 70) hx hb dX4_scan_48 (by decide) (fun hc => ?_) (fun hc => ?_)
      · replace hf := hf.1 hc
        clear hc
        exact X_RD_scan_70_w C hk18 x2 r_4 u_5 _ _ _ hf hw (lv_sub hl [2, 3, 4, 1] rfl)
      · replace hf := hf.2 hc
        clear hc
        refine lv_aload_n hx hb dX4_scan_51 rfl (lv_at hl 2 rfl) ?_
        refine lv_aload_n hx hb dX4_scan_52 rfl (lv_at hl 3 rfl) ?_
        refine lv_iload_n hx hb dX4_scan_53 rfl (lv_at hl 5 rfl) ?_
        refine lv_iload hx hb dX4_scan_54 (lv_at hl 1 rfl) ?_
        refine th_callSe (As := [.ref (q 199), .int x3, .int r_4]) (rest := [.ref (q 299)]) C lkX4_117 (X_RD_tokenOf_c hf) hw rfl rfl ⟨Nat.le_of_ble_eq_true rfl, Nat.le_of_ble_eq_true rfl⟩ hl.1 (Nat.le_of_ble_eq_true rfl) ⟨Nat.le_of_ble_eq_true rfl, Nat.le_of_ble_eq_true rfl⟩ dX4_scan_56 (fun r_8 u_7 H locs hf hw => ?_)
        refine lv_iload_n hx hb dX4_scan_59 rfl (lv_at hl 5 rfl) ?_
        refine lv_aload_n hx hb dX4_scan_60 rfl (lv_at hl 3 rfl) ?_
        refine lv_iload_n hx hb dX4_scan_61 rfl (lv_at hl 5 rfl) ?_
        refine lv_iload hx hb dX4_scan_62 (lv_at hl 1 rfl) ?_
        refine th_callSi (As := [.ref (q 199), .int x3, .int r_4]) (rest := [.int x3, va_re ad r_8, .ref (q 299)]) C lkX4_121 (X_RD_numberOf_c hf) hw rfl rfl ⟨Nat.le_of_ble_eq_true rfl, Nat.le_of_ble_eq_true rfl⟩ hl.1 (by simp only [List.map, th_cat, th_cate]; exact Nat.le_of_ble_eq_true rfl) ⟨Nat.le_of_ble_eq_true rfl, Nat.le_of_ble_eq_true rfl⟩ dX4_scan_64 (fun r_10 u_9 H locs hf hw => ?_)
        refine th_callVv (As := [va_re ad r_8, .int x3, .int r_10]) (rest := []) C lkX4_125 (X_RD_addToken_c hf) hw (xRc_RD C hw) rfl rfl ⟨Nat.le_of_ble_eq_true rfl, Nat.le_of_ble_eq_true rfl⟩ hl.1 (Nat.le_of_ble_eq_true rfl) ⟨Nat.le_of_ble_eq_true rfl, Nat.le_of_ble_eq_true rfl⟩ dX4_scan_67 (fun u_11 H locs hf hw => ?_)
        exact X_RD_scan_70_w C hk18 x2 r_4 u_11 _ _ _ hf hw (lv_sub hl [2, 3, 4, 1] rfl)
def X_RD_scan_18_lp (K : xs_St → Prop) : Nat → Int32 → Int32 → xs_St → Prop
  | 0, _, _, _ => False
  | n + 1, x2, x3, u => X_RD_scan_18 K (X_RD_scan_18_lp K n) x2 x3 u
set_option maxHeartbeats 4000000 in
set_option maxRecDepth 100000 in
theorem X_RD_scan_18_lw {K : xs_St → Prop} (C : th_Cx p s m args meth c cX4_scan RX4 6 (none) (dC, dI) (th_ty cs) (xE ad ak) A) (n : Nat) : ∀ (x2 : Int32) (x3 : Int32) (u : xs_St) (H : Heap) (locs : List Loc) (ls : Array Slot), X_RD_scan_18_lp K n x2 x3 u → th_wI (dC, dI) (wX cs ad q v v) A s.heap u H locs → lv_has ls 6 [(0, .ref (q 299)), (1, .ref (q 199)), (2, .int x2), (3, .int x3)] → W p l e (th_rm 7 0 0) s m args below meth c H locs 0 0 (MQ below (va_Qv K (th_Post (dC, dI) (wX cs ad q v v) A) A) args s 0 0 A) (F0 m 18 ls []) := by
  induction n with
  | zero => intro x2 x3 u H locs ls hf; exact hf.elim
  | succ n ih =>
    intro x2 x3 u H locs ls hf hw hl
    exact X_RD_scan_18_w C ih x2 x3 u H locs ls hf hw hl
def X_RD_scan (u : xs_St) (K : xs_St → Prop) : Prop :=
  ∀ y_1 : Int32, y_1 = (if (400 : Int32) < (xi u 101) then (400 : Int32) else (xi u 101)) → ∀ u_2 : xs_St, u_2 = xs_si u 203 (0 : Int32) → ∃ n, X_RD_scan_18_lp K n y_1 (0 : Int32) u_2
set_option maxHeartbeats 4000000 in
set_option maxRecDepth 100000 in
theorem X_RD_scan_c {l : Launch} {dC : Nat → ClassId} {dI : Nat → Nat → Nat} {cs : Nat → ClassId} {ad ak : Nat → Nat} {q v : Nat → Nat} {u : xs_St} {K : xs_St → Prop} (hf : X_RD_scan u K) : th_Cv l yX4_scan cX4_scan 6 (none) 7 0 0 (dC, dI) (th_ty cs) (xE ad ak) (wX cs ad q v v) [.ref (q 299), .ref (q 199)] u K := by
  refine th_ofv (by decide) (Nat.le_of_ble_eq_true rfl) (xE_ok ad ak) ?_
  intro p e s m below meth c A ls C hw hl
  have C : th_Cx p s m _ meth c cX4_scan RX4 6 (none) (dC, dI) (th_ty cs) (xE ad ak) A := C
  have hl : lv_has ls 6 [(0, .ref (q 299)), (1, .ref (q 199))] := hl
  generalize (List.toArray _ : Array Value) = args at C ⊢
  have hx := C.1
  have hb := C.2.1
  unfold X_RD_scan at hf
  refine lv_aload_n hx hb dX4_scan_0 rfl (lv_at hl 1 rfl) ?_
  refine xgn_101 C hw (va_Nw.use rfl (xN C hwG_X4_94)) dX4_scan_1 ?_
  refine lv_sipush (v := (400 : Int32)) hx hb dX4_scan_4 (by decide) ?_
  refine va_mmin hx hb (C.2.2.1.trans hl.1.symm) C.2.2.2.1 (C.2.2.2.2.1 _ hwM_X4_103) (C.2.2.2.2.1 _ hwS_Math_min) (C.2.2.2.2.1 _ hwI_Math) (C.2.2.2.2.1 _ hwC_Math_min) (Nat.le_of_ble_eq_true rfl) (Nat.le_of_ble_eq_true rfl) (Nat.le_of_ble_eq_true rfl) (Nat.le_of_ble_eq_true rfl) dX4_scan_7 ?_
  refine lv_topi (fun y_1 e9 => ?_)
  replace hf := hf y_1 e9
  clear e9
  refine lv_istore_n (lv' := [(2, .int y_1), (0, .ref (q 299)), (1, .ref (q 199))]) hx hb dX4_scan_10 rfl hl (by decide) rfl (fun ls hl => ?_)
  refine lv_aload_n hx hb dX4_scan_11 rfl (lv_at hl 1 rfl) ?_
  refine lv_iconst (v := (0 : Int32)) hx hb dX4_scan_12 (by decide) ?_
  refine xp_203 C hw (C.2.2.2.2.1 _ hwF_X4_24) dX4_scan_13 (fun u_2 e9 H locs hw => ?_)
  replace hf := hf u_2 e9
  clear e9
  refine lv_iconst (v := (0 : Int32)) hx hb dX4_scan_16 (by decide) ?_
  refine lv_istore_n (lv' := [(3, .int (0 : Int32)), (2, .int y_1), (0, .ref (q 299)), (1, .ref (q 199))]) hx hb dX4_scan_17 rfl hl (by decide) rfl (fun ls hl => ?_)
  obtain ⟨n, hf⟩ := hf
  exact X_RD_scan_18_lw C n y_1 (0 : Int32) u_2 _ _ _ hf hw (lv_sub hl [2, 3, 1, 0] rfl)
end

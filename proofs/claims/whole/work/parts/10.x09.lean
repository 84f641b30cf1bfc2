section
variable {p : Program} {l : Launch} {e : Env} {s : State} {m : MethodId} {args : Array Value} {below : List Frame} {meth : Method} {c : Code} {dC : Nat → ClassId} {dI : Nat → Nat → Nat} {cs : Nat → ClassId} {ad ak : Nat → Nat} {q v : Nat → Nat} {A : Nat → Prop}
/-! X_TH_walk -/
theorem dX11_walk_0 : decode cX11_walk 0 = .ok (.iload_n 1, 1) := by decide +kernel
theorem dX11_walk_1 : decode cX11_walk 1 = .ok (.ifCond .lt 18, 3) := by decide +kernel
theorem dX11_walk_4 : decode cX11_walk 4 = .ok (.iload_n 1, 1) := by decide +kernel
theorem dX11_walk_5 : decode cX11_walk 5 = .ok (.iload_n 2, 1) := by decide +kernel
theorem dX11_walk_6 : decode cX11_walk 6 = .ok (.if_icmp .gt 13, 3) := by decide +kernel
theorem dX11_walk_9 : decode cX11_walk 9 = .ok (.iload_n 3, 1) := by decide +kernel
theorem dX11_walk_10 : decode cX11_walk 10 = .ok (.ifCond .lt 9, 3) := by decide +kernel
theorem dX11_walk_13 : decode cX11_walk 13 = .ok (.iload_n 3, 1) := by decide +kernel
theorem dX11_walk_14 : decode cX11_walk 14 = .ok (.bipush 48, 2) := by decide +kernel
theorem dX11_walk_16 : decode cX11_walk 16 = .ok (.if_icmp .lt 5, 3) := by decide +kernel
theorem dX11_walk_19 : decode cX11_walk 19 = .ok (.iconst (-1), 1) := by decide +kernel
theorem dX11_walk_20 : decode cX11_walk 20 = .ok (.ireturn, 1) := by decide +kernel
theorem dX11_walk_21 : decode cX11_walk 21 = .ok (.aload_n 0, 1) := by decide +kernel
theorem dX11_walk_22 : decode cX11_walk 22 = .ok (.getfield 26, 3) := by decide +kernel
theorem dX11_walk_25 : decode cX11_walk 25 = .ok (.aload_n 0, 1) := by decide +kernel
theorem dX11_walk_26 : decode cX11_walk 26 = .ok (.getfield 69, 3) := by decide +kernel
theorem dX11_walk_29 : decode cX11_walk 29 = .ok (.iload_n 2, 1) := by decide +kernel
theorem dX11_walk_30 : decode cX11_walk 30 = .ok (.iload 4, 2) := by decide +kernel
theorem dX11_walk_32 : decode cX11_walk 32 = .ok (.invokevirtual 144, 3) := by decide +kernel
theorem dX11_walk_35 : decode cX11_walk 35 = .ok (.astore 5, 2) := by decide +kernel
theorem dX11_walk_37 : decode cX11_walk 37 = .ok (.aload 5, 2) := by decide +kernel
theorem dX11_walk_39 : decode cX11_walk 39 = .ok (.ifnonnull 7, 3) := by decide +kernel
theorem dX11_walk_42 : decode cX11_walk 42 = .ok (.iconst (-1), 1) := by decide +kernel
theorem dX11_walk_43 : decode cX11_walk 43 = .ok (.goto 25, 3) := by decide +kernel
theorem dX11_walk_46 : decode cX11_walk 46 = .ok (.aload_n 0, 1) := by decide +kernel
theorem dX11_walk_47 : decode cX11_walk 47 = .ok (.getfield 47, 3) := by decide +kernel
theorem dX11_walk_50 : decode cX11_walk 50 = .ok (.aload 5, 2) := by decide +kernel
theorem dX11_walk_52 : decode cX11_walk 52 = .ok (.iload_n 2, 1) := by decide +kernel
theorem dX11_walk_53 : decode cX11_walk 53 = .ok (.iload_n 1, 1) := by decide +kernel
theorem dX11_walk_54 : decode cX11_walk 54 = .ok (.isub, 1) := by decide +kernel
theorem dX11_walk_55 : decode cX11_walk 55 = .ok (.iconst 1, 1) := by decide +kernel
theorem dX11_walk_56 : decode cX11_walk 56 = .ok (.iadd, 1) := by decide +kernel
theorem dX11_walk_57 : decode cX11_walk 57 = .ok (.iload_n 3, 1) := by decide +kernel
theorem dX11_walk_58 : decode cX11_walk 58 = .ok (.aload_n 0, 1) := by decide +kernel
theorem dX11_walk_59 : decode cX11_walk 59 = .ok (.getfield 69, 3) := by decide +kernel
theorem dX11_walk_62 : decode cX11_walk 62 = .ok (.getfield 126, 3) := by decide +kernel
theorem dX11_walk_65 : decode cX11_walk 65 = .ok (.invokevirtual 225, 3) := by decide +kernel
theorem dX11_walk_68 : decode cX11_walk 68 = .ok (.ireturn, 1) := by decide +kernel
def X_TH_walk_19 (K : Int32 → xs_St → Prop) (u : xs_St) : Prop :=
  K (-1 : Int32) u
set_option maxHeartbeats 4000000 in
set_option maxRecDepth 100000 in
theorem X_TH_walk_19_w {K : Int32 → xs_St → Prop} (C : th_Cx p s m args meth c cX11_walk RX11 6 (some .int) (dC, dI) (th_ty cs) (xE ad ak) A) (v : Nat → Nat) (u : xs_St) (H : Heap) (locs : List Loc) (ls : Array Slot) (hf : X_TH_walk_19 K u) (hw : th_wI (dC, dI) (wX cs ad q v v) A s.heap u H locs) (hl : lv_has ls 6 []) (n9 m9 : Nat) (h9 : n9 + 0 ≤ 82) (g9 : m9 + 0 ≤ 2296) : W p l e (th_rm 5 82 2296) s m args below meth c H locs n9 m9 (MQ below (va_Qi (fun r9 a9 => K r9 a9.2) (th_Post (dC, dI) (wXs cs ad q) A) A) args s 82 2296 A) (F0 m 19 ls []) := by
  have hx := C.1
  have hb := C.2.1
  unfold X_TH_walk_19 at hf
  refine lv_iconst (v := (-1 : Int32)) hx hb dX11_walk_19 (by decide) ?_
  refine W.widen (k := 82) (n := 2296) (by omega) (by omega) ?_
  exact th_iret (K := (fun r9 a9 => K r9 a9.2)) (w := wXs cs ad q) (u := (v, u)) C hw hf dX11_walk_20
def X_TH_walk_68 (K : Int32 → xs_St → Prop) (z0 : Int32) (u : xs_St) : Prop :=
  K z0 u
set_option maxHeartbeats 4000000 in
set_option maxRecDepth 100000 in
theorem X_TH_walk_68_w {K : Int32 → xs_St → Prop} (C : th_Cx p s m args meth c cX11_walk RX11 6 (some .int) (dC, dI) (th_ty cs) (xE ad ak) A) (z0 : Int32) (v : Nat → Nat) (u : xs_St) (H : Heap) (locs : List Loc) (ls : Array Slot) (hf : X_TH_walk_68 K z0 u) (hw : th_wI (dC, dI) (wX cs ad q v v) A s.heap u H locs) (hl : lv_has ls 6 []) (n9 m9 : Nat) (h9 : n9 + 0 ≤ 82) (g9 : m9 + 0 ≤ 2296) : W p l e (th_rm 5 82 2296) s m args below meth c H locs n9 m9 (MQ below (va_Qi (fun r9 a9 => K r9 a9.2) (th_Post (dC, dI) (wXs cs ad q) A) A) args s 82 2296 A) (F0 m 68 ls [.int z0]) := by
  have hx := C.1
  have hb := C.2.1
  unfold X_TH_walk_68 at hf
  refine W.widen (k := 82) (n := 2296) (by omega) (by omega) ?_
  exact th_iret (K := (fun r9 a9 => K r9 a9.2)) (w := wXs cs ad q) (u := (v, u)) C hw hf dX11_walk_68
def X_TH_walk (a1 : Int32) (a2 : Int32) (a3 : Int32) (a4 : Int32) (u : xs_St) (K : Int32 → xs_St → Prop) : Prop :=
  ((a1 < 0 → X_TH_walk_19 K u) ∧ (¬ a1 < 0 → ((a2 < a1 → X_TH_walk_19 K u) ∧ (¬ a2 < a1 → ((a3 < 0 → X_TH_walk_19 K u) ∧ (¬ a3 < 0 → ((a3 < (48 : Int32) → X_BD_feelOf a2 a4 u (fun r_2 u_1 => ((¬ r_2 = none → X_WK_loudest r_2 ((a2 - a1) + (1 : Int32)) a3 (xi u_1 300) u_1 (fun r_4 u_3 => X_TH_walk_68 K r_4 u_3)) ∧ (r_2 = none → X_TH_walk_68 K (-1 : Int32) u_1)))) ∧ (¬ a3 < (48 : Int32) → X_TH_walk_19 K u))))))))
set_option maxHeartbeats 4000000 in
set_option maxRecDepth 100000 in
theorem X_TH_walk_c {l : Launch} {dC : Nat → ClassId} {dI : Nat → Nat → Nat} {cs : Nat → ClassId} {ad ak : Nat → Nat} {q v : Nat → Nat} {a1 : Int32} {a2 : Int32} {a3 : Int32} {a4 : Int32} {u : xs_St} {K : Int32 → xs_St → Prop} (hf : X_TH_walk a1 a2 a3 a4 u K) : th_Ci l yX11_walk cX11_walk 6 (some .int) 5 82 2296 (dC, dI) (th_ty cs) (xE ad ak) (wXs cs ad q) [.ref (q 99), .int a1, .int a2, .int a3, .int a4] (v, u) (fun r9 a9 => K r9 a9.2) := by
  refine th_ofi (by decide) (Nat.le_of_ble_eq_true rfl) (xE_ok ad ak) ?_
  intro p e s m below meth c A ls C hw hl
  have C : th_Cx p s m _ meth c cX11_walk RX11 6 (some .int) (dC, dI) (th_ty cs) (xE ad ak) A := C
  have hl : lv_has ls 6 [(0, .ref (q 99)), (1, .int a1), (2, .int a2), (3, .int a3), (4, .int a4)] := hl
  generalize (List.toArray _ : Array Value) = args at C ⊢
  have hx := C.1
  have hb := C.2.1
  unfold X_TH_walk at hf
  refine lv_iload_n hx hb dX11_walk_0 rfl (lv_at hl 1 rfl) ?_
  refine lv_if_lt (tgt := 19) hx hb dX11_walk_1 (by decide) (fun hc => ?_) (fun hc => ?_)
  · replace hf := hf.1 hc
    clear hc
    exact X_TH_walk_19_w C  v u _ _ _ hf hw (lv_sub hl [] rfl) _ _ (by omega) (by omega)
  · replace hf := hf.2 hc
    clear hc
    refine lv_iload_n hx hb dX11_walk_4 rfl (lv_at hl 1 rfl) ?_
    refine lv_iload_n hx hb dX11_walk_5 rfl (lv_at hl 2 rfl) ?_
    refine lv_icmp_gt (tgt := 19) hx hb dX11_walk_6 (by decide) (fun hc => ?_) (fun hc => ?_)
    · replace hf := hf.1 hc
      clear hc
      exact X_TH_walk_19_w C  v u _ _ _ hf hw (lv_sub hl [] rfl) _ _ (by omega) (by omega)
    · replace hf := hf.2 hc
      clear hc
      refine lv_iload_n hx hb dX11_walk_9 rfl (lv_at hl 3 rfl) ?_
      refine lv_if_lt (tgt := 19) hx hb dX11_walk_10 (by decide) (fun hc => ?_) (fun hc => ?_)
      · replace hf := hf.1 hc
        clear hc
        exact X_TH_walk_19_w C  v u _ _ _ hf hw (lv_sub hl [] rfl) _ _ (by omega) (by omega)
      · replace hf := hf.2 hc
        clear hc
        refine lv_iload_n hx hb dX11_walk_13 rfl (lv_at hl 3 rfl) ?_
        refine lv_bipush (v := (48 : Int32)) hx hb dX11_walk_14 (by decide) ?_
        refine lv_icmp_lt (tgt := 21) hx hb dX11_walk_16 (by decide) (fun hc => ?_) (fun hc => ?_)
        · replace hf := hf.1 hc
          clear hc
          refine lv_aload_n hx hb dX11_walk_21 rfl (lv_at hl 0 rfl) ?_
          refine xg_2 C hw (C.2.2.2.2.1 _ hwF_X11_26) dX11_walk_22 ?_
          refine lv_aload_n hx hb dX11_walk_25 rfl (lv_at hl 0 rfl) ?_
          refine xg_9 C hw (C.2.2.2.2.1 _ hwF_X11_69) dX11_walk_26 ?_
          refine lv_iload_n hx hb dX11_walk_29 rfl (lv_at hl 2 rfl) ?_
          refine lv_iload hx hb dX11_walk_30 (lv_at hl 4 rfl) ?_
          refine th_callVq (As := [.ref (v 399), .int a2, .int a4]) (rest := []) C lkX11_144 (X_BD_feelOf_c hf) hw (xRc_BD C hw) rfl rfl ⟨Nat.le_of_ble_eq_true rfl, Nat.le_of_ble_eq_true rfl⟩ hl.1 (Nat.le_of_ble_eq_true rfl) ⟨by simp only [th_rm]; omega, by simp only [th_rm]; omega⟩ dX11_walk_32 (fun r_2 u_1 H locs hf hw => ?_)
          refine th_astore (r := r_2) (lv' := [(5, va_rf r_2), (0, .ref (q 99)), (1, .int a1), (2, .int a2), (3, .int a3), (4, .int a4)]) hx hb dX11_walk_35 hl (by decide) rfl (fun ls hl => ?_)
          refine th_aload hx hb dX11_walk_37 (lv_at hl 0 rfl) ?_
          refine th_ifnonnull (tgt := 46) hx hb dX11_walk_39 (by decide) (fun hc => ?_) (fun hc => ?_)
          · replace hf := hf.1 hc
            clear hc
            refine lv_aload_n hx hb dX11_walk_46 rfl (lv_at hl 1 rfl) ?_
            refine xg_5 C hw (C.2.2.2.2.1 _ hwF_X11_47) dX11_walk_47 ?_
            refine th_aload hx hb dX11_walk_50 (lv_at hl 0 rfl) ?_
            refine lv_iload_n hx hb dX11_walk_52 rfl (lv_at hl 3 rfl) ?_
            refine lv_iload_n hx hb dX11_walk_53 rfl (lv_at hl 2 rfl) ?_
            refine lv_isub hx hb dX11_walk_54 ?_
            refine lv_iconst (v := (1 : Int32)) hx hb dX11_walk_55 (by decide) ?_
            refine lv_iadd hx hb dX11_walk_56 ?_
            refine lv_iload_n hx hb dX11_walk_57 rfl (lv_at hl 4 rfl) ?_
            refine lv_aload_n hx hb dX11_walk_58 rfl (lv_at hl 1 rfl) ?_
            refine xg_9 C hw (C.2.2.2.2.1 _ hwF_X11_69) dX11_walk_59 ?_
            refine xgn_300 C hw (va_Nw.use rfl (xN C hwG_X11_126)) dX11_walk_62 ?_
            refine th_callVi (As := [va_rf r_2, .int ((a2 - a1) + (1 : Int32)), .int a3, .int (xi u_1 300)]) (rest := []) (w := wXs cs ad q) (u := (v, u_1)) C lkX11_225 (X_WK_loudest_c hf) (show th_wI (dC, dI) (wXs cs ad q) A s.heap (v, u_1) _ _ from hw) (xRc_WK C hw) rfl rfl ⟨Nat.le_of_ble_eq_true rfl, Nat.le_of_ble_eq_true rfl⟩ hl.1 (Nat.le_of_ble_eq_true rfl) ⟨by simp only [th_rm]; omega, by simp only [th_rm]; omega⟩ dX11_walk_65 (fun r_4 a9 H locs hf hw => ?_)
            obtain ⟨v_5, u_3⟩ := a9
            have hw : th_wI (dC, dI) (wX cs ad q v_5 v_5) A s.heap u_3 _ _ := hw
            exact X_TH_walk_68_w C r_4 v_5 u_3 _ _ _ hf hw (lv_sub hl [] rfl) _ _ (by omega) (by omega)
          · replace hf := hf.2 hc
            clear hc
            refine lv_iconst (v := (-1 : Int32)) hx hb dX11_walk_42 (by decide) ?_
            refine lv_goto (tgt := 68) hx hb dX11_walk_43 (by decide) ?_
            exact X_TH_walk_68_w C (-1 : Int32) v u_1 _ _ _ hf hw (lv_sub hl [] rfl) _ _ (by omega) (by omega)
        · replace hf := hf.2 hc
          clear hc
          exact X_TH_walk_19_w C  v u _ _ _ hf hw (lv_sub hl [] rfl) _ _ (by omega) (by omega)
/-! X_T_alarmIsAt_A -/
theorem dX7_alarmIsAt_0 : decode cX7_alarmIsAt 0 = .ok (.iload_n 1, 1) := by decide +kernel
theorem dX7_alarmIsAt_1 : decode cX7_alarmIsAt 1 = .ok (.ifCond .lt 11, 3) := by decide +kernel
theorem dX7_alarmIsAt_4 : decode cX7_alarmIsAt 4 = .ok (.iload_n 1, 1) := by decide +kernel
theorem dX7_alarmIsAt_5 : decode cX7_alarmIsAt 5 = .ok (.aload_n 0, 1) := by decide +kernel
theorem dX7_alarmIsAt_6 : decode cX7_alarmIsAt 6 = .ok (.getfield 59, 3) := by decide +kernel
theorem dX7_alarmIsAt_9 : decode cX7_alarmIsAt 9 = .ok (.if_icmp .lt 5, 3) := by decide +kernel
theorem dX7_alarmIsAt_12 : decode cX7_alarmIsAt 12 = .ok (.iconst 0, 1) := by decide +kernel
theorem dX7_alarmIsAt_13 : decode cX7_alarmIsAt 13 = .ok (.ireturn, 1) := by decide +kernel
theorem dX7_alarmIsAt_14 : decode cX7_alarmIsAt 14 = .ok (.aload_n 2, 1) := by decide +kernel
theorem dX7_alarmIsAt_15 : decode cX7_alarmIsAt 15 = .ok (.astore_n 3, 1) := by decide +kernel
theorem dX7_alarmIsAt_16 : decode cX7_alarmIsAt 16 = .ok (.iconst 0, 1) := by decide +kernel
theorem dX7_alarmIsAt_17 : decode cX7_alarmIsAt 17 = .ok (.istore 4, 2) := by decide +kernel
theorem dX7_alarmIsAt_19 : decode cX7_alarmIsAt 19 = .ok (.iload 4, 2) := by decide +kernel
theorem dX7_alarmIsAt_21 : decode cX7_alarmIsAt 21 = .ok (.aload_n 0, 1) := by decide +kernel
theorem dX7_alarmIsAt_22 : decode cX7_alarmIsAt 22 = .ok (.getfield 19, 3) := by decide +kernel
theorem dX7_alarmIsAt_25 : decode cX7_alarmIsAt 25 = .ok (.iload_n 1, 1) := by decide +kernel
theorem dX7_alarmIsAt_26 : decode cX7_alarmIsAt 26 = .ok (.iaload, 1) := by decide +kernel
theorem dX7_alarmIsAt_27 : decode cX7_alarmIsAt 27 = .ok (.if_icmp .ge 36, 3) := by decide +kernel
theorem dX7_alarmIsAt_30 : decode cX7_alarmIsAt 30 = .ok (.aload_n 3, 1) := by decide +kernel
theorem dX7_alarmIsAt_31 : decode cX7_alarmIsAt 31 = .ok (.ifnull 19, 3) := by decide +kernel
theorem dX7_alarmIsAt_34 : decode cX7_alarmIsAt 34 = .ok (.aload_n 3, 1) := by decide +kernel
theorem dX7_alarmIsAt_35 : decode cX7_alarmIsAt 35 = .ok (.getfield 79, 3) := by decide +kernel
theorem dX7_alarmIsAt_38 : decode cX7_alarmIsAt 38 = .ok (.ifnull 12, 3) := by decide +kernel
theorem dX7_alarmIsAt_41 : decode cX7_alarmIsAt 41 = .ok (.aload_n 0, 1) := by decide +kernel
theorem dX7_alarmIsAt_42 : decode cX7_alarmIsAt 42 = .ok (.iload_n 1, 1) := by decide +kernel
theorem dX7_alarmIsAt_43 : decode cX7_alarmIsAt 43 = .ok (.aload_n 3, 1) := by decide +kernel
theorem dX7_alarmIsAt_44 : decode cX7_alarmIsAt 44 = .ok (.invokevirtual 85, 3) := by decide +kernel
theorem dX7_alarmIsAt_47 : decode cX7_alarmIsAt 47 = .ok (.ifCond .ne 5, 3) := by decide +kernel
theorem dX7_alarmIsAt_50 : decode cX7_alarmIsAt 50 = .ok (.iconst 0, 1) := by decide +kernel
theorem dX7_alarmIsAt_51 : decode cX7_alarmIsAt 51 = .ok (.ireturn, 1) := by decide +kernel
theorem dX7_alarmIsAt_52 : decode cX7_alarmIsAt 52 = .ok (.aload_n 3, 1) := by decide +kernel
theorem dX7_alarmIsAt_53 : decode cX7_alarmIsAt 53 = .ok (.getfield 79, 3) := by decide +kernel
theorem dX7_alarmIsAt_56 : decode cX7_alarmIsAt 56 = .ok (.astore_n 3, 1) := by decide +kernel
theorem dX7_alarmIsAt_57 : decode cX7_alarmIsAt 57 = .ok (.iinc 4 1, 3) := by decide +kernel
theorem dX7_alarmIsAt_60 : decode cX7_alarmIsAt 60 = .ok (.goto (-41), 3) := by decide +kernel
theorem dX7_alarmIsAt_63 : decode cX7_alarmIsAt 63 = .ok (.iconst 1, 1) := by decide +kernel
theorem dX7_alarmIsAt_64 : decode cX7_alarmIsAt 64 = .ok (.ireturn, 1) := by decide +kernel
def X_T_alarmIsAt_A_12 (K : Int32 → xs_St → Prop) (u : xs_St) : Prop :=
  (((0 : Int32) = 0 ∨ (0 : Int32) = 1) ∧ K (0 : Int32) u)
set_option maxHeartbeats 4000000 in
set_option maxRecDepth 100000 in
theorem X_T_alarmIsAt_A_12_w {K : Int32 → xs_St → Prop} (C : th_Cx p s m args meth c cX7_alarmIsAt RX7 5 (some .boolean) (dC, dI) (th_ty cs) (xE ad ak) A) (u : xs_St) (H : Heap) (locs : List Loc) (ls : Array Slot) (hf : X_T_alarmIsAt_A_12 K u) (hw : th_wI (dC, dI) (wX cs ad q v v) A s.heap u H locs) (hl : lv_has ls 5 []) : W p l e (th_rm 5 0 0) s m args below meth c H locs 0 0 (MQ below (va_Qi K (th_Post (dC, dI) (wX cs ad q v v) A) A) args s 0 0 A) (F0 m 12 ls []) := by
  have hx := C.1
  have hb := C.2.1
  unfold X_T_alarmIsAt_A_12 at hf
  refine lv_iconst (v := (0 : Int32)) hx hb dX7_alarmIsAt_12 (by decide) ?_
  exact th_zret C hw hf dX7_alarmIsAt_13
def X_T_alarmIsAt_A_50 (K : Int32 → xs_St → Prop) (u : xs_St) : Prop :=
  (((0 : Int32) = 0 ∨ (0 : Int32) = 1) ∧ K (0 : Int32) u)
set_option maxHeartbeats 4000000 in
set_option maxRecDepth 100000 in
theorem X_T_alarmIsAt_A_50_w {K : Int32 → xs_St → Prop} (C : th_Cx p s m args meth c cX7_alarmIsAt RX7 5 (some .boolean) (dC, dI) (th_ty cs) (xE ad ak) A) (u : xs_St) (H : Heap) (locs : List Loc) (ls : Array Slot) (hf : X_T_alarmIsAt_A_50 K u) (hw : th_wI (dC, dI) (wX cs ad q v v) A s.heap u H locs) (hl : lv_has ls 5 []) : W p l e (th_rm 5 0 0) s m args below meth c H locs 0 0 (MQ below (va_Qi K (th_Post (dC, dI) (wX cs ad q v v) A) A) args s 0 0 A) (F0 m 50 ls []) := by
  have hx := C.1
  have hb := C.2.1
  unfold X_T_alarmIsAt_A_50 at hf
  refine lv_iconst (v := (0 : Int32)) hx hb dX7_alarmIsAt_50 (by decide) ?_
  exact th_zret C hw hf dX7_alarmIsAt_51
def X_T_alarmIsAt_A_19 (K : Int32 → xs_St → Prop) (k19 : Int32 → Option Nat → Int32 → xs_St → Prop) (x1 : Int32) (x3 : Option Nat) (x4 : Int32) (u : xs_St) : Prop :=
  (vp_in x1 6 ∧ ∀ y_1 : Int32, y_1 = xa u 309 (x1).toNatClampNeg → ((y_1 ≤ x4 → (((1 : Int32) = 0 ∨ (1 : Int32) = 1) ∧ K (1 : Int32) u)) ∧ (¬ y_1 ≤ x4 → ((x3 = none → X_T_alarmIsAt_A_50 K u) ∧ (¬ x3 = none → (∃ b_2 : Nat, x3 = some b_2 ∧ xd_is u b_2 3 ∧ (((xdR u 2 b_2) = none → X_T_alarmIsAt_A_50 K u) ∧ (¬ (xdR u 2 b_2) = none → X_T_holds_A x1 x3 u (fun r_4 u_3 => ((¬ r_4 = 0 → (∃ b_5 : Nat, x3 = some b_5 ∧ xd_is u_3 b_5 3 ∧ ∀ x4_6 : Int32, x4_6 = x4 + (1 : Int32) → k19 x1 (xdR u_3 2 b_5) x4_6 u_3)) ∧ (r_4 = 0 → X_T_alarmIsAt_A_50 K u_3)))))))))))
set_option maxHeartbeats 4000000 in
set_option maxRecDepth 100000 in
theorem X_T_alarmIsAt_A_19_w {K : Int32 → xs_St → Prop} {k19 : Int32 → Option Nat → Int32 → xs_St → Prop} (C : th_Cx p s m args meth c cX7_alarmIsAt RX7 5 (some .boolean) (dC, dI) (th_ty cs) (xE ad ak) A) (hk19 : ∀ (x1 : Int32) (x3 : Option Nat) (x4 : Int32) (u : xs_St) (H : Heap) (locs : List Loc) (ls : Array Slot), k19 x1 x3 x4 u → th_wI (dC, dI) (wX cs ad q v v) A s.heap u H locs → lv_has ls 5 [(0, .ref (v 399)), (1, .int x1), (3, va_rf x3), (4, .int x4)] → W p l e (th_rm 5 0 0) s m args below meth c H locs 0 0 (MQ below (va_Qi K (th_Post (dC, dI) (wX cs ad q v v) A) A) args s 0 0 A) (F0 m 19 ls [])) (x1 : Int32) (x3 : Option Nat) (x4 : Int32) (u : xs_St) (H : Heap) (locs : List Loc) (ls : Array Slot) (hf : X_T_alarmIsAt_A_19 K k19 x1 x3 x4 u) (hw : th_wI (dC, dI) (wX cs ad q v v) A s.heap u H locs) (hl : lv_has ls 5 [(0, .ref (v 399)), (1, .int x1), (3, va_rf x3), (4, .int x4)]) : W p l e (th_rm 5 0 0) s m args below meth c H locs 0 0 (MQ below (va_Qi K (th_Post (dC, dI) (wX cs ad q v v) A) A) args s 0 0 A) (F0 m 19 ls []) := by
  have hx := C.1
  have hb := C.2.1
  unfold X_T_alarmIsAt_A_19 at hf
  refine lv_iload hx hb dX7_alarmIsAt_19 (lv_at hl 3 rfl) ?_
  refine lv_aload_n hx hb dX7_alarmIsAt_21 rfl (lv_at hl 0 rfl) ?_
  refine xg_309 C hw (C.2.2.2.2.1 _ hwF_X7_19) dX7_alarmIsAt_22 ?_
  refine lv_iload_n hx hb dX7_alarmIsAt_25 rfl (lv_at hl 1 rfl) ?_
  refine yl_309 C hw hf.1 dX7_alarmIsAt_26 (fun y_1 e9 => ?_)
  replace hf := hf.2 y_1 e9
  clear e9
  refine lv_icmp_ge (tgt := 63) hx hb dX7_alarmIsAt_27 (by decide) (fun hc => ?_) (fun hc => ?_)
  · replace hf := hf.1 hc
    clear hc
    refine lv_iconst (v := (1 : Int32)) hx hb dX7_alarmIsAt_63 (by decide) ?_
    exact th_zret C hw hf dX7_alarmIsAt_64
  · replace hf := hf.2 hc
    clear hc
    refine th_aload_n hx hb dX7_alarmIsAt_30 rfl (lv_at hl 2 rfl) ?_
    refine th_ifnull (tgt := 50) hx hb dX7_alarmIsAt_31 (by decide) (fun hc => ?_) (fun hc => ?_)
    · replace hf := hf.1 hc
      clear hc
      exact X_T_alarmIsAt_A_50_w C  u _ _ _ hf hw (lv_sub hl [] rfl)
    · replace hf := hf.2 hc
      clear hc
      refine th_aload_n hx hb dX7_alarmIsAt_34 rfl (lv_at hl 2 rfl) ?_
      obtain ⟨b_2, e9, hm, hf⟩ := hf
      refine W.eq (g2 := F0 m 35 ls [.ref b_2]) (congrArg (fun z9 => F0 m 35 ls [va_rf z9]) e9) ?_
      clear e9
      refine xdgn_Feel_ahead C hw hm (va_Nw.use rfl (xN C hwG_X7_79)) dX7_alarmIsAt_35 ?_
      refine th_ifnull (tgt := 50) hx hb dX7_alarmIsAt_38 (by decide) (fun hc => ?_) (fun hc => ?_)
      · replace hf := hf.1 hc
        clear hc
        exact X_T_alarmIsAt_A_50_w C  u _ _ _ hf hw (lv_sub hl [] rfl)
      · replace hf := hf.2 hc
        clear hc
        refine lv_aload_n hx hb dX7_alarmIsAt_41 rfl (lv_at hl 0 rfl) ?_
        refine lv_iload_n hx hb dX7_alarmIsAt_42 rfl (lv_at hl 1 rfl) ?_
        refine th_aload_n hx hb dX7_alarmIsAt_43 rfl (lv_at hl 2 rfl) ?_
        refine th_callVi (As := [.int x1, va_rf x3]) (rest := []) C lkX7_85 (X_T_holds_A_c hf) hw (xRc_TA C hw) rfl rfl ⟨Nat.le_of_ble_eq_true rfl, Nat.le_of_ble_eq_true rfl⟩ hl.1 (Nat.le_of_ble_eq_true rfl) ⟨Nat.le_of_ble_eq_true rfl, Nat.le_of_ble_eq_true rfl⟩ dX7_alarmIsAt_44 (fun r_4 u_3 H locs hf hw => ?_)
        refine lv_if_ne (tgt := 52) hx hb dX7_alarmIsAt_47 (by decide) (fun hc => ?_) (fun hc => ?_)
        · replace hf := hf.1 hc
          clear hc
          refine th_aload_n hx hb dX7_alarmIsAt_52 rfl (lv_at hl 2 rfl) ?_
          obtain ⟨b_5, e9, hm, hf⟩ := hf
          refine W.eq (g2 := F0 m 53 ls [.ref b_5]) (congrArg (fun z9 => F0 m 53 ls [va_rf z9]) e9) ?_
          clear e9
          refine xdgn_Feel_ahead C hw hm (va_Nw.use rfl (xN C hwG_X7_79)) dX7_alarmIsAt_53 ?_
          refine th_astore_n (r := (xdR u_3 2 b_5)) (lv' := [(3, va_rf (xdR u_3 2 b_5)), (0, .ref (v 399)), (1, .int x1), (4, .int x4)]) hx hb dX7_alarmIsAt_56 rfl hl (by decide) rfl (fun ls hl => ?_)
          obtain ⟨x4_6, e9⟩ : ∃ y : Int32, y = x4 + (1 : Int32) := ⟨_, rfl⟩
          replace hf := hf x4_6 e9
          refine lv_iinc (v := x4_6) (lv' := [(4, .int x4_6), (3, va_rf (xdR u_3 2 b_5)), (0, .ref (v 399)), (1, .int x1)]) hx hb dX7_alarmIsAt_57 hl (k := 3) rfl (by rw [e9]; rfl) (by decide) (by simp [List.filter, th_cat, th_cate]) (fun ls hl => ?_)
          clear e9
          refine lv_goto (tgt := 19) hx hb dX7_alarmIsAt_60 (by decide) ?_
          exact hk19 x1 (xdR u_3 2 b_5) x4_6 u_3 _ _ _ hf hw (lv_sub hl [2, 3, 1, 0] rfl)
        · replace hf := hf.2 hc
          clear hc
          exact X_T_alarmIsAt_A_50_w C  u_3 _ _ _ hf hw (lv_sub hl [] rfl)
def X_T_alarmIsAt_A_19_lp (K : Int32 → xs_St → Prop) : Nat → Int32 → Option Nat → Int32 → xs_St → Prop
  | 0, _, _, _, _ => False
  | n + 1, x1, x3, x4, u => X_T_alarmIsAt_A_19 K (X_T_alarmIsAt_A_19_lp K n) x1 x3 x4 u
set_option maxHeartbeats 4000000 in
set_option maxRecDepth 100000 in
theorem X_T_alarmIsAt_A_19_lw {K : Int32 → xs_St → Prop} (C : th_Cx p s m args meth c cX7_alarmIsAt RX7 5 (some .boolean) (dC, dI) (th_ty cs) (xE ad ak) A) (n : Nat) : ∀ (x1 : Int32) (x3 : Option Nat) (x4 : Int32) (u : xs_St) (H : Heap) (locs : List Loc) (ls : Array Slot), X_T_alarmIsAt_A_19_lp K n x1 x3 x4 u → th_wI (dC, dI) (wX cs ad q v v) A s.heap u H locs → lv_has ls 5 [(0, .ref (v 399)), (1, .int x1), (3, va_rf x3), (4, .int x4)] → W p l e (th_rm 5 0 0) s m args below meth c H locs 0 0 (MQ below (va_Qi K (th_Post (dC, dI) (wX cs ad q v v) A) A) args s 0 0 A) (F0 m 19 ls []) := by
  induction n with
  | zero => intro x1 x3 x4 u H locs ls hf; exact hf.elim
  | succ n ih =>
    intro x1 x3 x4 u H locs ls hf hw hl
    exact X_T_alarmIsAt_A_19_w C ih x1 x3 x4 u H locs ls hf hw hl
def X_T_alarmIsAt_A (a1 : Int32) (a2 : Option Nat) (u : xs_St) (K : Int32 → xs_St → Prop) : Prop :=
  ((a1 < 0 → X_T_alarmIsAt_A_12 K u) ∧ (¬ a1 < 0 → ((a1 < (xi u 305) → ∃ n, X_T_alarmIsAt_A_19_lp K n a1 a2 (0 : Int32) u) ∧ (¬ a1 < (xi u 305) → X_T_alarmIsAt_A_12 K u))))
set_option maxHeartbeats 4000000 in
set_option maxRecDepth 100000 in
theorem X_T_alarmIsAt_A_c {l : Launch} {dC : Nat → ClassId} {dI : Nat → Nat → Nat} {cs : Nat → ClassId} {ad ak : Nat → Nat} {q v : Nat → Nat} {a1 : Int32} {a2 : Option Nat} {u : xs_St} {K : Int32 → xs_St → Prop} (hf : X_T_alarmIsAt_A a1 a2 u K) : th_Ci l yX7_alarmIsAt cX7_alarmIsAt 5 (some .boolean) 5 0 0 (dC, dI) (th_ty cs) (xE ad ak) (wX cs ad q v v) [.ref (v 399), .int a1, va_rf a2] u K := by
  refine th_ofi (by decide) (by cases a2 <;> exact Nat.le_of_ble_eq_true rfl) (xE_ok ad ak) ?_
  intro p e s m below meth c A ls C hw hl
  have C : th_Cx p s m _ meth c cX7_alarmIsAt RX7 5 (some .boolean) (dC, dI) (th_ty cs) (xE ad ak) A := C
  have hl : lv_has ls 5 [(0, .ref (v 399)), (1, .int a1), (2, va_rf a2)] := by cases a2 <;> exact hl
  generalize (List.toArray _ : Array Value) = args at C ⊢
  have hx := C.1
  have hb := C.2.1
  unfold X_T_alarmIsAt_A at hf
  refine lv_iload_n hx hb dX7_alarmIsAt_0 rfl (lv_at hl 1 rfl) ?_
  refine lv_if_lt (tgt := 12) hx hb dX7_alarmIsAt_1 (by decide) (fun hc => ?_) (fun hc => ?_)
  · replace hf := hf.1 hc
    clear hc
    exact X_T_alarmIsAt_A_12_w C  u _ _ _ hf hw (lv_sub hl [] rfl)
  · replace hf := hf.2 hc
    clear hc
    refine lv_iload_n hx hb dX7_alarmIsAt_4 rfl (lv_at hl 1 rfl) ?_
    refine lv_aload_n hx hb dX7_alarmIsAt_5 rfl (lv_at hl 0 rfl) ?_
    refine xg_305 C hw (C.2.2.2.2.1 _ hwF_X7_59) dX7_alarmIsAt_6 ?_
    refine lv_icmp_lt (tgt := 14) hx hb dX7_alarmIsAt_9 (by decide) (fun hc => ?_) (fun hc => ?_)
    · replace hf := hf.1 hc
      clear hc
      refine th_aload_n hx hb dX7_alarmIsAt_14 rfl (lv_at hl 2 rfl) ?_
      refine th_astore_n (r := a2) (i := 3) (lv' := [(3, va_rf a2), (0, .ref (v 399)), (1, .int a1), (2, va_rf a2)]) hx hb dX7_alarmIsAt_15 rfl hl (by decide) (by simp [List.filter, th_cat, th_cate]) (fun ls hl => ?_)
      refine lv_iconst (v := (0 : Int32)) hx hb dX7_alarmIsAt_16 (by decide) ?_
      refine lv_istore (i := 4) (lv' := [(4, .int (0 : Int32)), (3, va_rf a2), (0, .ref (v 399)), (1, .int a1), (2, va_rf a2)]) hx hb dX7_alarmIsAt_17 hl (by decide) (by simp [List.filter, th_cat, th_cate]) (fun ls hl => ?_)
      obtain ⟨n, hf⟩ := hf
      exact X_T_alarmIsAt_A_19_lw C n a1 a2 (0 : Int32) u _ _ _ hf hw (lv_sub hl [2, 3, 1, 0] rfl)
    · replace hf := hf.2 hc
      clear hc
      exact X_T_alarmIsAt_A_12_w C  u _ _ _ hf hw (lv_sub hl [] rfl)
/-! X_BD_firstAlarmed -/
theorem dX0_firstAlarmed_0 : decode cX0_firstAlarmed 0 = .ok (.aload_n 0, 1) := by decide +kernel
theorem dX0_firstAlarmed_1 : decode cX0_firstAlarmed 1 = .ok (.iload_n 3, 1) := by decide +kernel
theorem dX0_firstAlarmed_2 : decode cX0_firstAlarmed 2 = .ok (.invokevirtual 65, 3) := by decide +kernel
theorem dX0_firstAlarmed_5 : decode cX0_firstAlarmed 5 = .ok (.istore 4, 2) := by decide +kernel
theorem dX0_firstAlarmed_7 : decode cX0_firstAlarmed 7 = .ok (.aload_n 0, 1) := by decide +kernel
theorem dX0_firstAlarmed_8 : decode cX0_firstAlarmed 8 = .ok (.getfield 28, 3) := by decide +kernel
theorem dX0_firstAlarmed_11 : decode cX0_firstAlarmed 11 = .ok (.astore 5, 2) := by decide +kernel
theorem dX0_firstAlarmed_13 : decode cX0_firstAlarmed 13 = .ok (.iconst 0, 1) := by decide +kernel
theorem dX0_firstAlarmed_14 : decode cX0_firstAlarmed 14 = .ok (.istore 6, 2) := by decide +kernel
theorem dX0_firstAlarmed_16 : decode cX0_firstAlarmed 16 = .ok (.iload 6, 2) := by decide +kernel
theorem dX0_firstAlarmed_18 : decode cX0_firstAlarmed 18 = .ok (.iload 4, 2) := by decide +kernel
theorem dX0_firstAlarmed_20 : decode cX0_firstAlarmed 20 = .ok (.if_icmp .ge 45, 3) := by decide +kernel
theorem dX0_firstAlarmed_23 : decode cX0_firstAlarmed 23 = .ok (.iload 6, 2) := by decide +kernel
theorem dX0_firstAlarmed_25 : decode cX0_firstAlarmed 25 = .ok (.bipush 40, 2) := by decide +kernel
theorem dX0_firstAlarmed_27 : decode cX0_firstAlarmed 27 = .ok (.if_icmp .ge 38, 3) := by decide +kernel
theorem dX0_firstAlarmed_30 : decode cX0_firstAlarmed 30 = .ok (.aload_n 0, 1) := by decide +kernel
theorem dX0_firstAlarmed_31 : decode cX0_firstAlarmed 31 = .ok (.aload_n 1, 1) := by decide +kernel
theorem dX0_firstAlarmed_32 : decode cX0_firstAlarmed 32 = .ok (.aload 5, 2) := by decide +kernel
theorem dX0_firstAlarmed_34 : decode cX0_firstAlarmed 34 = .ok (.aload_n 0, 1) := by decide +kernel
theorem dX0_firstAlarmed_35 : decode cX0_firstAlarmed 35 = .ok (.getfield 17, 3) := by decide +kernel
theorem dX0_firstAlarmed_38 : decode cX0_firstAlarmed 38 = .ok (.iload 6, 2) := by decide +kernel
theorem dX0_firstAlarmed_40 : decode cX0_firstAlarmed 40 = .ok (.aaload, 1) := by decide +kernel
theorem dX0_firstAlarmed_41 : decode cX0_firstAlarmed 41 = .ok (.invokevirtual 69, 3) := by decide +kernel
theorem dX0_firstAlarmed_44 : decode cX0_firstAlarmed 44 = .ok (.astore 5, 2) := by decide +kernel
theorem dX0_firstAlarmed_46 : decode cX0_firstAlarmed 46 = .ok (.aload_n 1, 1) := by decide +kernel
theorem dX0_firstAlarmed_47 : decode cX0_firstAlarmed 47 = .ok (.iload_n 2, 1) := by decide +kernel
theorem dX0_firstAlarmed_48 : decode cX0_firstAlarmed 48 = .ok (.aload 5, 2) := by decide +kernel
theorem dX0_firstAlarmed_50 : decode cX0_firstAlarmed 50 = .ok (.invokevirtual 90, 3) := by decide +kernel
theorem dX0_firstAlarmed_53 : decode cX0_firstAlarmed 53 = .ok (.ifCond .eq 6, 3) := by decide +kernel
theorem dX0_firstAlarmed_56 : decode cX0_firstAlarmed 56 = .ok (.iload 6, 2) := by decide +kernel
theorem dX0_firstAlarmed_58 : decode cX0_firstAlarmed 58 = .ok (.ireturn, 1) := by decide +kernel
theorem dX0_firstAlarmed_59 : decode cX0_firstAlarmed 59 = .ok (.iinc 6 1, 3) := by decide +kernel
theorem dX0_firstAlarmed_62 : decode cX0_firstAlarmed 62 = .ok (.goto (-46), 3) := by decide +kernel
theorem dX0_firstAlarmed_65 : decode cX0_firstAlarmed 65 = .ok (.iconst (-1), 1) := by decide +kernel
theorem dX0_firstAlarmed_66 : decode cX0_firstAlarmed 66 = .ok (.ireturn, 1) := by decide +kernel
def X_BD_firstAlarmed_65 (K : Int32 → xs_St → Prop) (u : xs_St) : Prop :=
  K (-1 : Int32) u
set_option maxHeartbeats 4000000 in
set_option maxRecDepth 100000 in
theorem X_BD_firstAlarmed_65_w {K : Int32 → xs_St → Prop} (C : th_Cx p s m args meth c cX0_firstAlarmed RX0 7 (some .int) (dC, dI) (th_ty cs) (xE ad ak) A) (u : xs_St) (H : Heap) (locs : List Loc) (ls : Array Slot) (hf : X_BD_firstAlarmed_65 K u) (hw : th_wI (dC, dI) (wX cs ad q v v) A s.heap u H locs) (hl : lv_has ls 7 []) (n9 m9 : Nat) (h9 : n9 + 0 ≤ 82) (g9 : m9 + 0 ≤ 2296) : W p l e (th_rm 6 82 2296) s m args below meth c H locs n9 m9 (MQ below (va_Qi K (th_Post (dC, dI) (wX cs ad q v v) A) A) args s 82 2296 A) (F0 m 65 ls []) := by
  have hx := C.1
  have hb := C.2.1
  unfold X_BD_firstAlarmed_65 at hf
  refine lv_iconst (v := (-1 : Int32)) hx hb dX0_firstAlarmed_65 (by decide) ?_
  refine W.widen (k := 82) (n := 2296) (by omega) (by omega) ?_
  exact th_iret C hw hf dX0_firstAlarmed_66
def X_BD_firstAlarmed_16 (K : Int32 → xs_St → Prop) (k16 : Int32 → Int32 → Option Nat → Int32 → xs_St → Prop) (x2 : Int32) (x4 : Int32) (x5 : Option Nat) (x6 : Int32) (u : xs_St) : Prop :=
  ((x4 ≤ x6 → X_BD_firstAlarmed_65 K u) ∧ (¬ x4 ≤ x6 → (((40 : Int32) ≤ x6 → X_BD_firstAlarmed_65 K u) ∧ (¬ (40 : Int32) ≤ x6 → (vp_in x6 40 ∧ ∀ y_1 : Option Nat, y_1 = xo u 501 (x6).toNatClampNeg → X_BD_feelBehind x5 y_1 u (fun r_3 u_2 => X_T_alarmIsAt_A x2 r_3 u_2 (fun r_5 u_4 => ((r_5 = 0 → ∀ x6_6 : Int32, x6_6 = x6 + (1 : Int32) → k16 x2 x4 r_3 x6_6 u_4) ∧ (¬ r_5 = 0 → K x6 u_4)))))))))
set_option maxHeartbeats 4000000 in
set_option maxRecDepth 100000 in
theorem X_BD_firstAlarmed_16_w {n : Nat} {K : Int32 → xs_St → Prop} {k16 : Int32 → Int32 → Option Nat → Int32 → xs_St → Prop} (C : th_Cx p s m args meth c cX0_firstAlarmed RX0 7 (some .int) (dC, dI) (th_ty cs) (xE ad ak) A) (hk16 : ∀ (x2 : Int32) (x4 : Int32) (x5 : Option Nat) (x6 : Int32) (u : xs_St) (H : Heap) (locs : List Loc) (ls : Array Slot), k16 x2 x4 x5 x6 u → th_wI (dC, dI) (wX cs ad q v v) A s.heap u H locs → lv_has ls 7 [(0, .ref (q 599)), (1, .ref (v 399)), (2, .int x2), (4, .int x4), (5, va_rf x5), (6, .int x6)] → ∀ (n9 m9 : Nat), n9 + (2 * n + 0) ≤ 82 → m9 + (56 * n + 0) ≤ 2296 → W p l e (th_rm 6 82 2296) s m args below meth c H locs n9 m9 (MQ below (va_Qi K (th_Post (dC, dI) (wX cs ad q v v) A) A) args s 82 2296 A) (F0 m 16 ls [])) (x2 : Int32) (x4 : Int32) (x5 : Option Nat) (x6 : Int32) (u : xs_St) (H : Heap) (locs : List Loc) (ls : Array Slot) (hf : X_BD_firstAlarmed_16 K k16 x2 x4 x5 x6 u) (hw : th_wI (dC, dI) (wX cs ad q v v) A s.heap u H locs) (hl : lv_has ls 7 [(0, .ref (q 599)), (1, .ref (v 399)), (2, .int x2), (4, .int x4), (5, va_rf x5), (6, .int x6)]) (n9 m9 : Nat) (h9 : n9 + (2 * (n + 1) + 0) ≤ 82) (g9 : m9 + (56 * (n + 1) + 0) ≤ 2296) : W p l e (th_rm 6 82 2296) s m args below meth c H locs n9 m9 (MQ below (va_Qi K (th_Post (dC, dI) (wX cs ad q v v) A) A) args s 82 2296 A) (F0 m 16 ls []) := by
  have hx := C.1
  have hb := C.2.1
  unfold X_BD_firstAlarmed_16 at hf
  refine lv_iload hx hb dX0_firstAlarmed_16 (lv_at hl 5 rfl) ?_
  refine lv_iload hx hb dX0_firstAlarmed_18 (lv_at hl 3 rfl) ?_
  refine lv_icmp_ge (tgt := 65) hx hb dX0_firstAlarmed_20 (by decide) (fun hc => ?_) (fun hc => ?_)
  · replace hf := hf.1 hc
    clear hc
    exact X_BD_firstAlarmed_65_w C  u _ _ _ hf hw (lv_sub hl [] rfl) _ _ (by omega) (by omega)
  · replace hf := hf.2 hc
    clear hc
    refine lv_iload hx hb dX0_firstAlarmed_23 (lv_at hl 5 rfl) ?_
    refine lv_bipush (v := (40 : Int32)) hx hb dX0_firstAlarmed_25 (by decide) ?_
    refine lv_icmp_ge (tgt := 65) hx hb dX0_firstAlarmed_27 (by decide) (fun hc => ?_) (fun hc => ?_)
    · replace hf := hf.1 hc
      clear hc
      exact X_BD_firstAlarmed_65_w C  u _ _ _ hf hw (lv_sub hl [] rfl) _ _ (by omega) (by omega)
    · replace hf := hf.2 hc
      clear hc
      refine lv_aload_n hx hb dX0_firstAlarmed_30 rfl (lv_at hl 0 rfl) ?_
      refine lv_aload_n hx hb dX0_firstAlarmed_31 rfl (lv_at hl 1 rfl) ?_
      refine th_aload hx hb dX0_firstAlarmed_32 (lv_at hl 4 rfl) ?_
      refine lv_aload_n hx hb dX0_firstAlarmed_34 rfl (lv_at hl 0 rfl) ?_
      refine xg_501 C hw (C.2.2.2.2.1 _ hwF_X0_17) dX0_firstAlarmed_35 ?_
      refine lv_iload hx hb dX0_firstAlarmed_38 (lv_at hl 5 rfl) ?_
      refine yl_501 C hw hf.1 dX0_firstAlarmed_40 (fun y_1 e9 => ?_)
      replace hf := hf.2 y_1 e9
      clear e9
      refine th_callVq (As := [.ref (v 399), va_rf x5, va_rf y_1]) (rest := []) C lkX0_69 (X_BD_feelBehind_c hf) hw (xRc_BD C hw) rfl rfl ⟨Nat.le_of_ble_eq_true rfl, Nat.le_of_ble_eq_true rfl⟩ hl.1 (Nat.le_of_ble_eq_true rfl) ⟨by simp only [th_rm]; omega, by simp only [th_rm]; omega⟩ dX0_firstAlarmed_41 (fun r_3 u_2 H locs hf hw => ?_)
      refine th_astore (r := r_3) (lv' := [(5, va_rf r_3), (0, .ref (q 599)), (1, .ref (v 399)), (2, .int x2), (4, .int x4), (6, .int x6)]) hx hb dX0_firstAlarmed_44 hl (by decide) rfl (fun ls hl => ?_)
      refine lv_aload_n hx hb dX0_firstAlarmed_46 rfl (lv_at hl 2 rfl) ?_
      refine lv_iload_n hx hb dX0_firstAlarmed_47 rfl (lv_at hl 3 rfl) ?_
      refine th_aload hx hb dX0_firstAlarmed_48 (lv_at hl 0 rfl) ?_
      refine th_callVi (As := [.int x2, va_rf r_3]) (rest := []) C lkX0_90 (X_T_alarmIsAt_A_c hf) hw (xRc_TA C hw) rfl rfl ⟨Nat.le_of_ble_eq_true rfl, Nat.le_of_ble_eq_true rfl⟩ hl.1 (Nat.le_of_ble_eq_true rfl) ⟨by simp only [th_rm]; omega, by simp only [th_rm]; omega⟩ dX0_firstAlarmed_50 (fun r_5 u_4 H locs hf hw => ?_)
      refine lv_if_eq (tgt := 59) hx hb dX0_firstAlarmed_53 (by decide) (fun hc => ?_) (fun hc => ?_)
      · replace hf := hf.1 hc
        clear hc
        obtain ⟨x6_6, e9⟩ : ∃ y : Int32, y = x6 + (1 : Int32) := ⟨_, rfl⟩
        replace hf := hf x6_6 e9
        refine lv_iinc (v := x6_6) (lv' := [(6, .int x6_6), (5, va_rf r_3), (0, .ref (q 599)), (1, .ref (v 399)), (2, .int x2), (4, .int x4)]) hx hb dX0_firstAlarmed_59 hl (k := 5) rfl (by rw [e9]; rfl) (by decide) (by simp [List.filter, th_cat, th_cate]) (fun ls hl => ?_)
        clear e9
        refine lv_goto (tgt := 16) hx hb dX0_firstAlarmed_62 (by decide) ?_
        exact hk16 x2 x4 r_3 x6_6 u_4 _ _ _ hf hw (lv_sub hl [2, 3, 4, 5, 1, 0] rfl) _ _ (by omega) (by omega)
      · replace hf := hf.2 hc
        clear hc
        refine lv_iload hx hb dX0_firstAlarmed_56 (lv_at hl 5 rfl) ?_
        refine W.widen (k := 82) (n := 2296) (by omega) (by omega) ?_
        exact th_iret C hw hf dX0_firstAlarmed_58
def X_BD_firstAlarmed_16_lp (K : Int32 → xs_St → Prop) : Nat → Int32 → Int32 → Option Nat → Int32 → xs_St → Prop
  | 0, _, _, _, _, _ => False
  | n + 1, x2, x4, x5, x6, u => X_BD_firstAlarmed_16 K (X_BD_firstAlarmed_16_lp K n) x2 x4 x5 x6 u
set_option maxHeartbeats 4000000 in
set_option maxRecDepth 100000 in
theorem X_BD_firstAlarmed_16_lw {K : Int32 → xs_St → Prop} (C : th_Cx p s m args meth c cX0_firstAlarmed RX0 7 (some .int) (dC, dI) (th_ty cs) (xE ad ak) A) (n : Nat) : ∀ (x2 : Int32) (x4 : Int32) (x5 : Option Nat) (x6 : Int32) (u : xs_St) (H : Heap) (locs : List Loc) (ls : Array Slot), X_BD_firstAlarmed_16_lp K n x2 x4 x5 x6 u → th_wI (dC, dI) (wX cs ad q v v) A s.heap u H locs → lv_has ls 7 [(0, .ref (q 599)), (1, .ref (v 399)), (2, .int x2), (4, .int x4), (5, va_rf x5), (6, .int x6)] → ∀ (n9 m9 : Nat), n9 + (2 * n + 0) ≤ 82 → m9 + (56 * n + 0) ≤ 2296 → W p l e (th_rm 6 82 2296) s m args below meth c H locs n9 m9 (MQ below (va_Qi K (th_Post (dC, dI) (wX cs ad q v v) A) A) args s 82 2296 A) (F0 m 16 ls []) := by
  induction n with
  | zero => intro x2 x4 x5 x6 u H locs ls hf; exact hf.elim
  | succ n ih =>
    intro x2 x4 x5 x6 u H locs ls hf hw hl n9 m9 h9 g9
    exact X_BD_firstAlarmed_16_w C ih x2 x4 x5 x6 u H locs ls hf hw hl n9 m9 h9 g9
def X_BD_firstAlarmed (a2 : Int32) (a3 : Int32) (u : xs_St) (K : Int32 → xs_St → Prop) : Prop :=
  X_BD_lookBack a3 u (fun r_2 u_1 => ∃ n, n ≤ 41 ∧ X_BD_firstAlarmed_16_lp K n a2 r_2 (xr u_1 502) (0 : Int32) u_1)
set_option maxHeartbeats 4000000 in
set_option maxRecDepth 100000 in
theorem X_BD_firstAlarmed_c {l : Launch} {dC : Nat → ClassId} {dI : Nat → Nat → Nat} {cs : Nat → ClassId} {ad ak : Nat → Nat} {q v : Nat → Nat} {a2 : Int32} {a3 : Int32} {u : xs_St} {K : Int32 → xs_St → Prop} (hf : X_BD_firstAlarmed a2 a3 u K) : th_Ci l yX0_firstAlarmed cX0_firstAlarmed 7 (some .int) 6 82 2296 (dC, dI) (th_ty cs) (xE ad ak) (wX cs ad q v v) [.ref (q 599), .ref (v 399), .int a2, .int a3] u K := by
  refine th_ofi (by decide) (Nat.le_of_ble_eq_true rfl) (xE_ok ad ak) ?_
  intro p e s m below meth c A ls C hw hl
  have C : th_Cx p s m _ meth c cX0_firstAlarmed RX0 7 (some .int) (dC, dI) (th_ty cs) (xE ad ak) A := C
  have hl : lv_has ls 7 [(0, .ref (q 599)), (1, .ref (v 399)), (2, .int a2), (3, .int a3)] := hl
  generalize (List.toArray _ : Array Value) = args at C ⊢
  have hx := C.1
  have hb := C.2.1
  unfold X_BD_firstAlarmed at hf
  refine lv_aload_n hx hb dX0_firstAlarmed_0 rfl (lv_at hl 0 rfl) ?_
  refine lv_iload_n hx hb dX0_firstAlarmed_1 rfl (lv_at hl 3 rfl) ?_
  refine th_callVi (As := [.int a3]) (rest := []) C lkX0_65 (X_BD_lookBack_c hf) hw (xRc_BD C hw) rfl rfl ⟨Nat.le_of_ble_eq_true rfl, Nat.le_of_ble_eq_true rfl⟩ hl.1 (Nat.le_of_ble_eq_true rfl) ⟨by simp only [th_rm]; omega, by simp only [th_rm]; omega⟩ dX0_firstAlarmed_2 (fun r_2 u_1 H locs hf hw => ?_)
  refine lv_istore (lv' := [(4, .int r_2), (0, .ref (q 599)), (1, .ref (v 399)), (2, .int a2), (3, .int a3)]) hx hb dX0_firstAlarmed_5 hl (by decide) rfl (fun ls hl => ?_)
  refine lv_aload_n hx hb dX0_firstAlarmed_7 rfl (lv_at hl 1 rfl) ?_
  refine xg_502 C hw (C.2.2.2.2.1 _ hwF_X0_28) dX0_firstAlarmed_8 ?_
  refine th_astore (r := (xr u_1 502)) (lv' := [(5, va_rf (xr u_1 502)), (4, .int r_2), (0, .ref (q 599)), (1, .ref (v 399)), (2, .int a2), (3, .int a3)]) hx hb dX0_firstAlarmed_11 hl (by decide) rfl (fun ls hl => ?_)
  refine lv_iconst (v := (0 : Int32)) hx hb dX0_firstAlarmed_13 (by decide) ?_
  refine lv_istore (i := 6) (lv' := [(6, .int (0 : Int32)), (5, va_rf (xr u_1 502)), (4, .int r_2), (0, .ref (q 599)), (1, .ref (v 399)), (2, .int a2), (3, .int a3)]) hx hb dX0_firstAlarmed_14 hl (by decide) (by simp [List.filter, th_cat, th_cate]) (fun ls hl => ?_)
  obtain ⟨n, hn41, hf⟩ := hf
  exact X_BD_firstAlarmed_16_lw C n a2 r_2 (xr u_1 502) (0 : Int32) u_1 _ _ _ hf hw (lv_sub hl [3, 4, 5, 2, 1, 0] rfl) _ _ (by omega) (by omega)
/-! X_RD_tokenOf -/
theorem dX4_tokenOf_0 : decode cX4_tokenOf 0 = .ok (.iconst 0, 1) := by decide +kernel
theorem dX4_tokenOf_1 : decode cX4_tokenOf 1 = .ok (.istore_n 3, 1) := by decide +kernel
theorem dX4_tokenOf_2 : decode cX4_tokenOf 2 = .ok (.iload_n 3, 1) := by decide +kernel
theorem dX4_tokenOf_3 : decode cX4_tokenOf 3 = .ok (.getstatic 135, 3) := by decide +kernel
theorem dX4_tokenOf_6 : decode cX4_tokenOf 6 = .ok (.arraylength, 1) := by decide +kernel
theorem dX4_tokenOf_7 : decode cX4_tokenOf 7 = .ok (.if_icmp .ge 32, 3) := by decide +kernel
theorem dX4_tokenOf_10 : decode cX4_tokenOf 10 = .ok (.getstatic 135, 3) := by decide +kernel
theorem dX4_tokenOf_13 : decode cX4_tokenOf 13 = .ok (.iload_n 3, 1) := by decide +kernel
theorem dX4_tokenOf_14 : decode cX4_tokenOf 14 = .ok (.aaload, 1) := by decide +kernel
theorem dX4_tokenOf_15 : decode cX4_tokenOf 15 = .ok (.getfield 138, 3) := by decide +kernel
theorem dX4_tokenOf_18 : decode cX4_tokenOf 18 = .ok (.aload_n 0, 1) := by decide +kernel
theorem dX4_tokenOf_19 : decode cX4_tokenOf 19 = .ok (.iload_n 1, 1) := by decide +kernel
theorem dX4_tokenOf_20 : decode cX4_tokenOf 20 = .ok (.iload_n 2, 1) := by decide +kernel
theorem dX4_tokenOf_21 : decode cX4_tokenOf 21 = .ok (.invokestatic 142, 3) := by decide +kernel
theorem dX4_tokenOf_24 : decode cX4_tokenOf 24 = .ok (.ifCond .eq 9, 3) := by decide +kernel
theorem dX4_tokenOf_27 : decode cX4_tokenOf 27 = .ok (.getstatic 135, 3) := by decide +kernel
theorem dX4_tokenOf_30 : decode cX4_tokenOf 30 = .ok (.iload_n 3, 1) := by decide +kernel
theorem dX4_tokenOf_31 : decode cX4_tokenOf 31 = .ok (.aaload, 1) := by decide +kernel
theorem dX4_tokenOf_32 : decode cX4_tokenOf 32 = .ok (.areturn, 1) := by decide +kernel
theorem dX4_tokenOf_33 : decode cX4_tokenOf 33 = .ok (.iinc 3 1, 3) := by decide +kernel
theorem dX4_tokenOf_36 : decode cX4_tokenOf 36 = .ok (.goto (-34), 3) := by decide +kernel
theorem dX4_tokenOf_39 : decode cX4_tokenOf 39 = .ok (.iload_n 1, 1) := by decide +kernel
theorem dX4_tokenOf_40 : decode cX4_tokenOf 40 = .ok (.istore_n 3, 1) := by decide +kernel
theorem dX4_tokenOf_41 : decode cX4_tokenOf 41 = .ok (.iload_n 3, 1) := by decide +kernel
theorem dX4_tokenOf_42 : decode cX4_tokenOf 42 = .ok (.iload_n 2, 1) := by decide +kernel
theorem dX4_tokenOf_43 : decode cX4_tokenOf 43 = .ok (.if_icmp .ge 24, 3) := by decide +kernel
theorem dX4_tokenOf_46 : decode cX4_tokenOf 46 = .ok (.aload_n 0, 1) := by decide +kernel
theorem dX4_tokenOf_47 : decode cX4_tokenOf 47 = .ok (.iload_n 3, 1) := by decide +kernel
theorem dX4_tokenOf_48 : decode cX4_tokenOf 48 = .ok (.invokevirtual 113, 3) := by decide +kernel
theorem dX4_tokenOf_51 : decode cX4_tokenOf 51 = .ok (.invokestatic 129, 3) := by decide +kernel
theorem dX4_tokenOf_54 : decode cX4_tokenOf 54 = .ok (.ifCond .ne 7, 3) := by decide +kernel
theorem dX4_tokenOf_57 : decode cX4_tokenOf 57 = .ok (.getstatic 146, 3) := by decide +kernel
theorem dX4_tokenOf_60 : decode cX4_tokenOf 60 = .ok (.areturn, 1) := by decide +kernel
theorem dX4_tokenOf_61 : decode cX4_tokenOf 61 = .ok (.iinc 3 1, 3) := by decide +kernel
theorem dX4_tokenOf_64 : decode cX4_tokenOf 64 = .ok (.goto (-23), 3) := by decide +kernel
theorem dX4_tokenOf_67 : decode cX4_tokenOf 67 = .ok (.iload_n 2, 1) := by decide +kernel
theorem dX4_tokenOf_68 : decode cX4_tokenOf 68 = .ok (.iload_n 1, 1) := by decide +kernel
theorem dX4_tokenOf_69 : decode cX4_tokenOf 69 = .ok (.isub, 1) := by decide +kernel
theorem dX4_tokenOf_70 : decode cX4_tokenOf 70 = .ok (.iconst 4, 1) := by decide +kernel
theorem dX4_tokenOf_71 : decode cX4_tokenOf 71 = .ok (.if_icmp .gt 9, 3) := by decide +kernel
theorem dX4_tokenOf_74 : decode cX4_tokenOf 74 = .ok (.getstatic 149, 3) := by decide +kernel
theorem dX4_tokenOf_77 : decode cX4_tokenOf 77 = .ok (.goto 6, 3) := by decide +kernel
theorem dX4_tokenOf_80 : decode cX4_tokenOf 80 = .ok (.getstatic 146, 3) := by decide +kernel
theorem dX4_tokenOf_83 : decode cX4_tokenOf 83 = .ok (.areturn, 1) := by decide +kernel
def X_RD_tokenOf_83 (K : Option Nat → xs_St → Prop) (z0 : Option Nat) (u : xs_St) : Prop :=
  K z0 u
set_option maxHeartbeats 4000000 in
set_option maxRecDepth 100000 in
theorem X_RD_tokenOf_83_w {K : Option Nat → xs_St → Prop} (C : th_Cx p s m args meth c cX4_tokenOf RX4 4 (some (.object "ThreadHouse$Token")) (dC, dI) (th_ty cs) (xE ad ak) A) (z0 : Option Nat) (u : xs_St) (H : Heap) (locs : List Loc) (ls : Array Slot) (hf : X_RD_tokenOf_83 K z0 u) (hw : th_wI (dC, dI) (wX cs ad q v v) A s.heap u H locs) (hl : lv_has ls 4 []) : W p l e (th_rm 6 0 0) s m args below meth c H locs 0 0 (MQ below (va_Qe ad K (th_Post (dC, dI) (wX cs ad q v v) A) A) args s 0 0 A) (F0 m 83 ls [va_re ad z0]) := by
  have hx := C.1
  have hb := C.2.1
  unfold X_RD_tokenOf_83 at hf
  exact th_eret (r := z0) (Or.inl ⟨_, rfl⟩) C hw hf dX4_tokenOf_83
def X_RD_tokenOf_41 (K : Option Nat → xs_St → Prop) (k41 : Int32 → Int32 → Int32 → xs_St → Prop) (x1 : Int32) (x2 : Int32) (x3 : Int32) (u : xs_St) : Prop :=
  ((x2 ≤ x3 → (((4 : Int32) < (x2 - x1) → X_RD_tokenOf_83 K (some 1) u) ∧ (¬ (4 : Int32) < (x2 - x1) → X_RD_tokenOf_83 K (some 2) u))) ∧ (¬ x2 ≤ x3 → X_TP_unsigned x3 u (fun r_2 u_1 => X_RD_isDigit r_2 u_1 (fun r_4 u_3 => ((¬ r_4 = 0 → ∀ x3_5 : Int32, x3_5 = x3 + (1 : Int32) → k41 x1 x2 x3_5 u_3) ∧ (r_4 = 0 → K (some 1) u_3))))))
set_option maxHeartbeats 4000000 in
set_option maxRecDepth 100000 in
theorem X_RD_tokenOf_41_w {K : Option Nat → xs_St → Prop} {k41 : Int32 → Int32 → Int32 → xs_St → Prop} (C : th_Cx p s m args meth c cX4_tokenOf RX4 4 (some (.object "ThreadHouse$Token")) (dC, dI) (th_ty cs) (xE ad ak) A) (hk41 : ∀ (x1 : Int32) (x2 : Int32) (x3 : Int32) (u : xs_St) (H : Heap) (locs : List Loc) (ls : Array Slot), k41 x1 x2 x3 u → th_wI (dC, dI) (wX cs ad q v v) A s.heap u H locs → lv_has ls 4 [(0, .ref (q 199)), (1, .int x1), (2, .int x2), (3, .int x3)] → W p l e (th_rm 6 0 0) s m args below meth c H locs 0 0 (MQ below (va_Qe ad K (th_Post (dC, dI) (wX cs ad q v v) A) A) args s 0 0 A) (F0 m 41 ls [])) (x1 : Int32) (x2 : Int32) (x3 : Int32) (u : xs_St) (H : Heap) (locs : List Loc) (ls : Array Slot) (hf : X_RD_tokenOf_41 K k41 x1 x2 x3 u) (hw : th_wI (dC, dI) (wX cs ad q v v) A s.heap u H locs) (hl : lv_has ls 4 [(0, .ref (q 199)), (1, .int x1), (2, .int x2), (3, .int x3)]) : W p l e (th_rm 6 0 0) s m args below meth c H locs 0 0 (MQ below (va_Qe ad K (th_Post (dC, dI) (wX cs ad q v v) A) A) args s 0 0 A) (F0 m 41 ls []) := by
  have hx := C.1
  have hb := C.2.1
  unfold X_RD_tokenOf_41 at hf
  refine lv_iload_n hx hb dX4_tokenOf_41 rfl (lv_at hl 3 rfl) ?_
  refine lv_iload_n hx hb dX4_tokenOf_42 rfl (lv_at hl 2 rfl) ?_
  refine lv_icmp_ge (tgt := 67) hx hb dX4_tokenOf_43 (by decide) (fun hc => ?_) (fun hc => ?_)
  · replace hf := hf.1 hc
    clear hc
    refine lv_iload_n hx hb dX4_tokenOf_67 rfl (lv_at hl 2 rfl) ?_
    refine lv_iload_n hx hb dX4_tokenOf_68 rfl (lv_at hl 1 rfl) ?_
    refine lv_isub hx hb dX4_tokenOf_69 ?_
    refine lv_iconst (v := (4 : Int32)) hx hb dX4_tokenOf_70 (by decide) ?_
    refine lv_icmp_gt (tgt := 80) hx hb dX4_tokenOf_71 (by decide) (fun hc => ?_) (fun hc => ?_)
    · replace hf := hf.1 hc
      clear hc
      refine xst C hw 1 (by decide) (C.2.2.2.2.1 _ hwF_X4_146) dX4_tokenOf_80 ?_
      exact X_RD_tokenOf_83_w C (some 1) u _ _ _ hf hw (lv_sub hl [] rfl)
    · replace hf := hf.2 hc
      clear hc
      refine xst C hw 2 (by decide) (C.2.2.2.2.1 _ hwF_X4_149) dX4_tokenOf_74 ?_
      refine lv_goto (tgt := 83) hx hb dX4_tokenOf_77 (by decide) ?_
      exact X_RD_tokenOf_83_w C (some 2) u _ _ _ hf hw (lv_sub hl [] rfl)
  · replace hf := hf.2 hc
    clear hc
    refine lv_aload_n hx hb dX4_tokenOf_46 rfl (lv_at hl 0 rfl) ?_
    refine lv_iload_n hx hb dX4_tokenOf_47 rfl (lv_at hl 3 rfl) ?_
    refine th_callVi (As := [.int x3]) (rest := []) C lkX4_113 (X_TP_unsigned_c hf) hw (xRc_TP C hw) rfl rfl ⟨Nat.le_of_ble_eq_true rfl, Nat.le_of_ble_eq_true rfl⟩ hl.1 (Nat.le_of_ble_eq_true rfl) ⟨Nat.le_of_ble_eq_true rfl, Nat.le_of_ble_eq_true rfl⟩ dX4_tokenOf_48 (fun r_2 u_1 H locs hf hw => ?_)
    refine th_callSi (As := [.int r_2]) (rest := []) C lkX4_129 (X_RD_isDigit_c hf) hw rfl rfl ⟨Nat.le_of_ble_eq_true rfl, Nat.le_of_ble_eq_true rfl⟩ hl.1 (Nat.le_of_ble_eq_true rfl) ⟨Nat.le_of_ble_eq_true rfl, Nat.le_of_ble_eq_true rfl⟩ dX4_tokenOf_51 (fun r_4 u_3 H locs hf hw => ?_)
    refine lv_if_ne (tgt := 61) hx hb dX4_tokenOf_54 (by decide) (fun hc => ?_) (fun hc => ?_)
    · replace hf := hf.1 hc
      clear hc
      obtain ⟨x3_5, e9⟩ : ∃ y : Int32, y = x3 + (1 : Int32) := ⟨_, rfl⟩
      replace hf := hf x3_5 e9
      refine lv_iinc (v := x3_5) (lv' := [(3, .int x3_5), (0, .ref (q 199)), (1, .int x1), (2, .int x2)]) hx hb dX4_tokenOf_61 hl (k := 3) rfl (by rw [e9]; rfl) (by decide) rfl (fun ls hl => ?_)
      clear e9
      refine lv_goto (tgt := 41) hx hb dX4_tokenOf_64 (by decide) ?_
      exact hk41 x1 x2 x3_5 u_3 _ _ _ hf hw (lv_sub hl [1, 2, 3, 0] rfl)
    · replace hf := hf.2 hc
      clear hc
      refine xst C hw 1 (by decide) (C.2.2.2.2.1 _ hwF_X4_146) dX4_tokenOf_57 ?_
      exact th_eret (r := (some 1)) (Or.inl ⟨_, rfl⟩) C hw hf dX4_tokenOf_60
def X_RD_tokenOf_41_lp (K : Option Nat → xs_St → Prop) : Nat → Int32 → Int32 → Int32 → xs_St → Prop
  | 0, _, _, _, _ => False
  | n + 1, x1, x2, x3, u => X_RD_tokenOf_41 K (X_RD_tokenOf_41_lp K n) x1 x2 x3 u
set_option maxHeartbeats 4000000 in
set_option maxRecDepth 100000 in
theorem X_RD_tokenOf_41_lw {K : Option Nat → xs_St → Prop} (C : th_Cx p s m args meth c cX4_tokenOf RX4 4 (some (.object "ThreadHouse$Token")) (dC, dI) (th_ty cs) (xE ad ak) A) (n : Nat) : ∀ (x1 : Int32) (x2 : Int32) (x3 : Int32) (u : xs_St) (H : Heap) (locs : List Loc) (ls : Array Slot), X_RD_tokenOf_41_lp K n x1 x2 x3 u → th_wI (dC, dI) (wX cs ad q v v) A s.heap u H locs → lv_has ls 4 [(0, .ref (q 199)), (1, .int x1), (2, .int x2), (3, .int x3)] → W p l e (th_rm 6 0 0) s m args below meth c H locs 0 0 (MQ below (va_Qe ad K (th_Post (dC, dI) (wX cs ad q v v) A) A) args s 0 0 A) (F0 m 41 ls []) := by
  induction n with
  | zero => intro x1 x2 x3 u H locs ls hf; exact hf.elim
  | succ n ih =>
    intro x1 x2 x3 u H locs ls hf hw hl
    exact X_RD_tokenOf_41_w C ih x1 x2 x3 u H locs ls hf hw hl
def X_RD_tokenOf_2 (K : Option Nat → xs_St → Prop) (k2 : Int32 → Int32 → Int32 → xs_St → Prop) (x1 : Int32) (x2 : Int32) (x3 : Int32) (u : xs_St) : Prop :=
  (((27 : Int32) ≤ x3 → ∃ n, X_RD_tokenOf_41_lp K n x1 x2 x1 u) ∧ (¬ (27 : Int32) ≤ x3 → (vp_in x3 27 ∧ ((x3).toNatClampNeg < 27 ∧ X_RD_isWritten (x3).toNatClampNeg x1 x2 u (fun r_3 u_2 => ((r_3 = 0 → ∀ x3_4 : Int32, x3_4 = x3 + (1 : Int32) → k2 x1 x2 x3_4 u_2) ∧ (¬ r_3 = 0 → (vp_in x3 27 ∧ K (some (x3).toNatClampNeg) u_2))))))))
set_option maxHeartbeats 4000000 in
set_option maxRecDepth 100000 in
theorem X_RD_tokenOf_2_w {K : Option Nat → xs_St → Prop} {k2 : Int32 → Int32 → Int32 → xs_St → Prop} (C : th_Cx p s m args meth c cX4_tokenOf RX4 4 (some (.object "ThreadHouse$Token")) (dC, dI) (th_ty cs) (xE ad ak) A) (hk2 : ∀ (x1 : Int32) (x2 : Int32) (x3 : Int32) (u : xs_St) (H : Heap) (locs : List Loc) (ls : Array Slot), k2 x1 x2 x3 u → th_wI (dC, dI) (wX cs ad q v v) A s.heap u H locs → lv_has ls 4 [(0, .ref (q 199)), (1, .int x1), (2, .int x2), (3, .int x3)] → W p l e (th_rm 6 0 0) s m args below meth c H locs 0 0 (MQ below (va_Qe ad K (th_Post (dC, dI) (wX cs ad q v v) A) A) args s 0 0 A) (F0 m 2 ls [])) (x1 : Int32) (x2 : Int32) (x3 : Int32) (u : xs_St) (H : Heap) (locs : List Loc) (ls : Array Slot) (hf : X_RD_tokenOf_2 K k2 x1 x2 x3 u) (hw : th_wI (dC, dI) (wX cs ad q v v) A s.heap u H locs) (hl : lv_has ls 4 [(0, .ref (q 199)), (1, .int x1), (2, .int x2), (3, .int x3)]) : W p l e (th_rm 6 0 0) s m args below meth c H locs 0 0 (MQ below (va_Qe ad K (th_Post (dC, dI) (wX cs ad q v v) A) A) args s 0 0 A) (F0 m 2 ls []) := by
  have hx := C.1
  have hb := C.2.1
  unfold X_RD_tokenOf_2 at hf
  refine lv_iload_n hx hb dX4_tokenOf_2 rfl (lv_at hl 3 rfl) ?_
  refine x_tok C hw (C.2.2.2.2.1 _ hwF_X4_135) dX4_tokenOf_3 ?_
  refine x_tln C hw dX4_tokenOf_6 ?_
  refine lv_icmp_ge (tgt := 39) hx hb dX4_tokenOf_7 (by decide) (fun hc => ?_) (fun hc => ?_)
  · replace hf := hf.1 hc
    clear hc
    refine lv_iload_n hx hb dX4_tokenOf_39 rfl (lv_at hl 1 rfl) ?_
    refine lv_istore_n (lv' := [(3, .int x1), (0, .ref (q 199)), (1, .int x1), (2, .int x2)]) hx hb dX4_tokenOf_40 rfl hl (by decide) rfl (fun ls hl => ?_)
    obtain ⟨n, hf⟩ := hf
    exact X_RD_tokenOf_41_lw C n x1 x2 x1 u _ _ _ hf hw (lv_sub hl [1, 2, 3, 0] rfl)
  · replace hf := hf.2 hc
    clear hc
    refine x_tok C hw (C.2.2.2.2.1 _ hwF_X4_135) dX4_tokenOf_10 ?_
    refine lv_iload_n hx hb dX4_tokenOf_13 rfl (lv_at hl 3 rfl) ?_
    refine x_tld C hw hf.1 dX4_tokenOf_14 ?_
    replace hf := hf.2
    refine x_wrn C hw hf.1 (va_Nw.use rfl (xN C hwG_X4_138)) dX4_tokenOf_15 ?_
    replace hf := hf.2
    refine lv_aload_n hx hb dX4_tokenOf_18 rfl (lv_at hl 0 rfl) ?_
    refine lv_iload_n hx hb dX4_tokenOf_19 rfl (lv_at hl 1 rfl) ?_
    refine lv_iload_n hx hb dX4_tokenOf_20 rfl (lv_at hl 2 rfl) ?_
    refine th_callSi (As := [.ref (ak (100 + (x3).toNatClampNeg)), .ref (q 199), .int x1, .int x2]) (rest := []) C lkX4_142 (X_RD_isWritten_c hf) hw rfl rfl ⟨Nat.le_of_ble_eq_true rfl, Nat.le_of_ble_eq_true rfl⟩ hl.1 (Nat.le_of_ble_eq_true rfl) ⟨Nat.le_of_ble_eq_true rfl, Nat.le_of_ble_eq_true rfl⟩ dX4_tokenOf_21 (fun r_3 u_2 H locs hf hw => ?_)
    refine lv_if_eq (tgt := 33) hx hb dX4_tokenOf_24 (by decide) (fun hc => ?_) (fun hc => ?_)
    · replace hf := hf.1 hc
      clear hc
      obtain ⟨x3_4, e9⟩ : ∃ y : Int32, y = x3 + (1 : Int32) := ⟨_, rfl⟩
      replace hf := hf x3_4 e9
      refine lv_iinc (v := x3_4) (lv' := [(3, .int x3_4), (0, .ref (q 199)), (1, .int x1), (2, .int x2)]) hx hb dX4_tokenOf_33 hl (k := 3) rfl (by rw [e9]; rfl) (by decide) rfl (fun ls hl => ?_)
      clear e9
      refine lv_goto (tgt := 2) hx hb dX4_tokenOf_36 (by decide) ?_
      exact hk2 x1 x2 x3_4 u_2 _ _ _ hf hw (lv_sub hl [1, 2, 3, 0] rfl)
    · replace hf := hf.2 hc
      clear hc
      refine x_tok C hw (C.2.2.2.2.1 _ hwF_X4_135) dX4_tokenOf_27 ?_
      refine lv_iload_n hx hb dX4_tokenOf_30 rfl (lv_at hl 3 rfl) ?_
      refine x_tld C hw hf.1 dX4_tokenOf_31 ?_
      replace hf := hf.2
      exact th_eret (r := (some (x3).toNatClampNeg)) (Or.inl ⟨_, rfl⟩) C hw hf dX4_tokenOf_32
def X_RD_tokenOf_2_lp (K : Option Nat → xs_St → Prop) : Nat → Int32 → Int32 → Int32 → xs_St → Prop
  | 0, _, _, _, _ => False
  | n + 1, x1, x2, x3, u => X_RD_tokenOf_2 K (X_RD_tokenOf_2_lp K n) x1 x2 x3 u
set_option maxHeartbeats 4000000 in
set_option maxRecDepth 100000 in
theorem X_RD_tokenOf_2_lw {K : Option Nat → xs_St → Prop} (C : th_Cx p s m args meth c cX4_tokenOf RX4 4 (some (.object "ThreadHouse$Token")) (dC, dI) (th_ty cs) (xE ad ak) A) (n : Nat) : ∀ (x1 : Int32) (x2 : Int32) (x3 : Int32) (u : xs_St) (H : Heap) (locs : List Loc) (ls : Array Slot), X_RD_tokenOf_2_lp K n x1 x2 x3 u → th_wI (dC, dI) (wX cs ad q v v) A s.heap u H locs → lv_has ls 4 [(0, .ref (q 199)), (1, .int x1), (2, .int x2), (3, .int x3)] → W p l e (th_rm 6 0 0) s m args below meth c H locs 0 0 (MQ below (va_Qe ad K (th_Post (dC, dI) (wX cs ad q v v) A) A) args s 0 0 A) (F0 m 2 ls []) := by
  induction n with
  | zero => intro x1 x2 x3 u H locs ls hf; exact hf.elim
  | succ n ih =>
    intro x1 x2 x3 u H locs ls hf hw hl
    exact X_RD_tokenOf_2_w C ih x1 x2 x3 u H locs ls hf hw hl
def X_RD_tokenOf (a2 : Int32) (a3 : Int32) (u : xs_St) (K : Option Nat → xs_St → Prop) : Prop :=
  ∃ n, X_RD_tokenOf_2_lp K n a2 a3 (0 : Int32) u
set_option maxHeartbeats 4000000 in
set_option maxRecDepth 100000 in
theorem X_RD_tokenOf_c {l : Launch} {dC : Nat → ClassId} {dI : Nat → Nat → Nat} {cs : Nat → ClassId} {ad ak : Nat → Nat} {q v : Nat → Nat} {a2 : Int32} {a3 : Int32} {u : xs_St} {K : Option Nat → xs_St → Prop} (hf : X_RD_tokenOf a2 a3 u K) : th_Ce ad l yX4_tokenOf cX4_tokenOf 4 (some (.object "ThreadHouse$Token")) 6 0 0 (dC, dI) (th_ty cs) (xE ad ak) (wX cs ad q v v) [.ref (q 199), .int a2, .int a3] u K := by
  refine th_ofe (by decide) (Nat.le_of_ble_eq_true rfl) (xE_ok ad ak) ?_
  intro p e s m below meth c A ls C hw hl
  have C : th_Cx p s m _ meth c cX4_tokenOf RX4 4 (some (.object "ThreadHouse$Token")) (dC, dI) (th_ty cs) (xE ad ak) A := C
  have hl : lv_has ls 4 [(0, .ref (q 199)), (1, .int a2), (2, .int a3)] := hl
  generalize (List.toArray _ : Array Value) = args at C ⊢
  have hx := C.1
  have hb := C.2.1
  unfold X_RD_tokenOf at hf
  refine lv_iconst (v := (0 : Int32)) hx hb dX4_tokenOf_0 (by decide) ?_
  refine lv_istore_n (lv' := [(3, .int (0 : Int32)), (0, .ref (q 199)), (1, .int a2), (2, .int a3)]) hx hb dX4_tokenOf_1 rfl hl (by decide) rfl (fun ls hl => ?_)
  obtain ⟨n, hf⟩ := hf
  exact X_RD_tokenOf_2_lw C n a2 a3 (0 : Int32) u _ _ _ hf hw (lv_sub hl [1, 2, 3, 0] rfl)
/-! X_TH_alarm -/
theorem dX11_alarm_0 : decode cX11_alarm 0 = .ok (.aload_n 0, 1) := by decide +kernel
theorem dX11_alarm_1 : decode cX11_alarm 1 = .ok (.getfield 26, 3) := by decide +kernel
theorem dX11_alarm_4 : decode cX11_alarm 4 = .ok (.aload_n 0, 1) := by decide +kernel
theorem dX11_alarm_5 : decode cX11_alarm 5 = .ok (.getfield 69, 3) := by decide +kernel
theorem dX11_alarm_8 : decode cX11_alarm 8 = .ok (.iload_n 2, 1) := by decide +kernel
theorem dX11_alarm_9 : decode cX11_alarm 9 = .ok (.iload_n 3, 1) := by decide +kernel
theorem dX11_alarm_10 : decode cX11_alarm 10 = .ok (.invokevirtual 144, 3) := by decide +kernel
theorem dX11_alarm_13 : decode cX11_alarm 13 = .ok (.astore 4, 2) := by decide +kernel
theorem dX11_alarm_15 : decode cX11_alarm 15 = .ok (.aload 4, 2) := by decide +kernel
theorem dX11_alarm_17 : decode cX11_alarm 17 = .ok (.ifnull 18, 3) := by decide +kernel
theorem dX11_alarm_20 : decode cX11_alarm 20 = .ok (.iload_n 1, 1) := by decide +kernel
theorem dX11_alarm_21 : decode cX11_alarm 21 = .ok (.ifCond .lt 14, 3) := by decide +kernel
theorem dX11_alarm_24 : decode cX11_alarm 24 = .ok (.iload_n 1, 1) := by decide +kernel
theorem dX11_alarm_25 : decode cX11_alarm 25 = .ok (.aload_n 0, 1) := by decide +kernel
theorem dX11_alarm_26 : decode cX11_alarm 26 = .ok (.getfield 69, 3) := by decide +kernel
theorem dX11_alarm_29 : decode cX11_alarm 29 = .ok (.getfield 176, 3) := by decide +kernel
theorem dX11_alarm_32 : decode cX11_alarm 32 = .ok (.if_icmp .lt 5, 3) := by decide +kernel
theorem dX11_alarm_35 : decode cX11_alarm 35 = .ok (.iconst (-1), 1) := by decide +kernel
theorem dX11_alarm_36 : decode cX11_alarm 36 = .ok (.ireturn, 1) := by decide +kernel
theorem dX11_alarm_37 : decode cX11_alarm 37 = .ok (.aload_n 0, 1) := by decide +kernel
theorem dX11_alarm_38 : decode cX11_alarm 38 = .ok (.getfield 69, 3) := by decide +kernel
theorem dX11_alarm_41 : decode cX11_alarm 41 = .ok (.iload_n 1, 1) := by decide +kernel
theorem dX11_alarm_42 : decode cX11_alarm 42 = .ok (.aload 4, 2) := by decide +kernel
theorem dX11_alarm_44 : decode cX11_alarm 44 = .ok (.invokevirtual 179, 3) := by decide +kernel
theorem dX11_alarm_47 : decode cX11_alarm 47 = .ok (.ifCond .eq 7, 3) := by decide +kernel
theorem dX11_alarm_50 : decode cX11_alarm 50 = .ok (.iconst 1, 1) := by decide +kernel
theorem dX11_alarm_51 : decode cX11_alarm 51 = .ok (.goto 4, 3) := by decide +kernel
theorem dX11_alarm_54 : decode cX11_alarm 54 = .ok (.iconst 0, 1) := by decide +kernel
theorem dX11_alarm_55 : decode cX11_alarm 55 = .ok (.ireturn, 1) := by decide +kernel
def X_TH_alarm_35 (K : Int32 → xs_St → Prop) (u : xs_St) : Prop :=
  K (-1 : Int32) u
set_option maxHeartbeats 4000000 in
set_option maxRecDepth 100000 in
theorem X_TH_alarm_35_w {K : Int32 → xs_St → Prop} (C : th_Cx p s m args meth c cX11_alarm RX11 5 (some .int) (dC, dI) (th_ty cs) (xE ad ak) A) (u : xs_St) (H : Heap) (locs : List Loc) (ls : Array Slot) (hf : X_TH_alarm_35 K u) (hw : th_wI (dC, dI) (wX cs ad q v v) A s.heap u H locs) (hl : lv_has ls 5 []) (n9 m9 : Nat) (h9 : n9 + 0 ≤ 82) (g9 : m9 + 0 ≤ 2296) : W p l e (th_rm 6 82 2296) s m args below meth c H locs n9 m9 (MQ below (va_Qi K (th_Post (dC, dI) (wX cs ad q v v) A) A) args s 82 2296 A) (F0 m 35 ls []) := by
  have hx := C.1
  have hb := C.2.1
  unfold X_TH_alarm_35 at hf
  refine lv_iconst (v := (-1 : Int32)) hx hb dX11_alarm_35 (by decide) ?_
  refine W.widen (k := 82) (n := 2296) (by omega) (by omega) ?_
  exact th_iret C hw hf dX11_alarm_36
def X_TH_alarm_55 (K : Int32 → xs_St → Prop) (z0 : Int32) (u : xs_St) : Prop :=
  K z0 u
set_option maxHeartbeats 4000000 in
set_option maxRecDepth 100000 in
theorem X_TH_alarm_55_w {K : Int32 → xs_St → Prop} (C : th_Cx p s m args meth c cX11_alarm RX11 5 (some .int) (dC, dI) (th_ty cs) (xE ad ak) A) (z0 : Int32) (u : xs_St) (H : Heap) (locs : List Loc) (ls : Array Slot) (hf : X_TH_alarm_55 K z0 u) (hw : th_wI (dC, dI) (wX cs ad q v v) A s.heap u H locs) (hl : lv_has ls 5 []) (n9 m9 : Nat) (h9 : n9 + 0 ≤ 82) (g9 : m9 + 0 ≤ 2296) : W p l e (th_rm 6 82 2296) s m args below meth c H locs n9 m9 (MQ below (va_Qi K (th_Post (dC, dI) (wX cs ad q v v) A) A) args s 82 2296 A) (F0 m 55 ls [.int z0]) := by
  have hx := C.1
  have hb := C.2.1
  unfold X_TH_alarm_55 at hf
  refine W.widen (k := 82) (n := 2296) (by omega) (by omega) ?_
  exact th_iret C hw hf dX11_alarm_55
def X_TH_alarm (a1 : Int32) (a2 : Int32) (a3 : Int32) (u : xs_St) (K : Int32 → xs_St → Prop) : Prop :=
  X_BD_feelOf a2 a3 u (fun r_2 u_1 => ((r_2 = none → X_TH_alarm_35 K u_1) ∧ (¬ r_2 = none → ((a1 < 0 → X_TH_alarm_35 K u_1) ∧ (¬ a1 < 0 → ((a1 < (xi u_1 305) → X_T_alarmIsAt_A a1 r_2 u_1 (fun r_4 u_3 => ((r_4 = 0 → X_TH_alarm_55 K (0 : Int32) u_3) ∧ (¬ r_4 = 0 → X_TH_alarm_55 K (1 : Int32) u_3)))) ∧ (¬ a1 < (xi u_1 305) → X_TH_alarm_35 K u_1)))))))
set_option maxHeartbeats 4000000 in
set_option maxRecDepth 100000 in
theorem X_TH_alarm_c {l : Launch} {dC : Nat → ClassId} {dI : Nat → Nat → Nat} {cs : Nat → ClassId} {ad ak : Nat → Nat} {q v : Nat → Nat} {a1 : Int32} {a2 : Int32} {a3 : Int32} {u : xs_St} {K : Int32 → xs_St → Prop} (hf : X_TH_alarm a1 a2 a3 u K) : th_Ci l yX11_alarm cX11_alarm 5 (some .int) 6 82 2296 (dC, dI) (th_ty cs) (xE ad ak) (wX cs ad q v v) [.ref (q 99), .int a1, .int a2, .int a3] u K := by
  refine th_ofi (by decide) (Nat.le_of_ble_eq_true rfl) (xE_ok ad ak) ?_
  intro p e s m below meth c A ls C hw hl
  have C : th_Cx p s m _ meth c cX11_alarm RX11 5 (some .int) (dC, dI) (th_ty cs) (xE ad ak) A := C
  have hl : lv_has ls 5 [(0, .ref (q 99)), (1, .int a1), (2, .int a2), (3, .int a3)] := hl
  generalize (List.toArray _ : Array Value) = args at C ⊢
  have hx := C.1
  have hb := C.2.1
  unfold X_TH_alarm at hf
  refine lv_aload_n hx hb dX11_alarm_0 rfl (lv_at hl 0 rfl) ?_
  refine xg_2 C hw (C.2.2.2.2.1 _ hwF_X11_26) dX11_alarm_1 ?_
  refine lv_aload_n hx hb dX11_alarm_4 rfl (lv_at hl 0 rfl) ?_
  refine xg_9 C hw (C.2.2.2.2.1 _ hwF_X11_69) dX11_alarm_5 ?_
  refine lv_iload_n hx hb dX11_alarm_8 rfl (lv_at hl 2 rfl) ?_
  refine lv_iload_n hx hb dX11_alarm_9 rfl (lv_at hl 3 rfl) ?_
  refine th_callVq (As := [.ref (v 399), .int a2, .int a3]) (rest := []) C lkX11_144 (X_BD_feelOf_c hf) hw (xRc_BD C hw) rfl rfl ⟨Nat.le_of_ble_eq_true rfl, Nat.le_of_ble_eq_true rfl⟩ hl.1 (Nat.le_of_ble_eq_true rfl) ⟨by simp only [th_rm]; omega, by simp only [th_rm]; omega⟩ dX11_alarm_10 (fun r_2 u_1 H locs hf hw => ?_)
  refine th_astore (r := r_2) (lv' := [(4, va_rf r_2), (0, .ref (q 99)), (1, .int a1), (2, .int a2), (3, .int a3)]) hx hb dX11_alarm_13 hl (by decide) rfl (fun ls hl => ?_)
  refine th_aload hx hb dX11_alarm_15 (lv_at hl 0 rfl) ?_
  refine th_ifnull (tgt := 35) hx hb dX11_alarm_17 (by decide) (fun hc => ?_) (fun hc => ?_)
  · replace hf := hf.1 hc
    clear hc
    exact X_TH_alarm_35_w C  u_1 _ _ _ hf hw (lv_sub hl [] rfl) _ _ (by omega) (by omega)
  · replace hf := hf.2 hc
    clear hc
    refine lv_iload_n hx hb dX11_alarm_20 rfl (lv_at hl 2 rfl) ?_
    refine lv_if_lt (tgt := 35) hx hb dX11_alarm_21 (by decide) (fun hc => ?_) (fun hc => ?_)
    · replace hf := hf.1 hc
      clear hc
      exact X_TH_alarm_35_w C  u_1 _ _ _ hf hw (lv_sub hl [] rfl) _ _ (by omega) (by omega)
    · replace hf := hf.2 hc
      clear hc
      refine lv_iload_n hx hb dX11_alarm_24 rfl (lv_at hl 2 rfl) ?_
      refine lv_aload_n hx hb dX11_alarm_25 rfl (lv_at hl 1 rfl) ?_
      refine xg_9 C hw (C.2.2.2.2.1 _ hwF_X11_69) dX11_alarm_26 ?_
      refine xgn_305 C hw (va_Nw.use rfl (xN C hwG_X11_176)) dX11_alarm_29 ?_
      refine lv_icmp_lt (tgt := 37) hx hb dX11_alarm_32 (by decide) (fun hc => ?_) (fun hc => ?_)
      · replace hf := hf.1 hc
        clear hc
        refine lv_aload_n hx hb dX11_alarm_37 rfl (lv_at hl 1 rfl) ?_
        refine xg_9 C hw (C.2.2.2.2.1 _ hwF_X11_69) dX11_alarm_38 ?_
        refine lv_iload_n hx hb dX11_alarm_41 rfl (lv_at hl 2 rfl) ?_
        refine th_aload hx hb dX11_alarm_42 (lv_at hl 0 rfl) ?_
        refine th_callVi (As := [.int a1, va_rf r_2]) (rest := []) C lkX11_179 (X_T_alarmIsAt_A_c hf) hw (xRc_TA C hw) rfl rfl ⟨Nat.le_of_ble_eq_true rfl, Nat.le_of_ble_eq_true rfl⟩ hl.1 (Nat.le_of_ble_eq_true rfl) ⟨by simp only [th_rm]; omega, by simp only [th_rm]; omega⟩ dX11_alarm_44 (fun r_4 u_3 H locs hf hw => ?_)
        refine lv_if_eq (tgt := 54) hx hb dX11_alarm_47 (by decide) (fun hc => ?_) (fun hc => ?_)
        · replace hf := hf.1 hc
          clear hc
          refine lv_iconst (v := (0 : Int32)) hx hb dX11_alarm_54 (by decide) ?_
          exact X_TH_alarm_55_w C (0 : Int32) u_3 _ _ _ hf hw (lv_sub hl [] rfl) _ _ (by omega) (by omega)
        · replace hf := hf.2 hc
          clear hc
          refine lv_iconst (v := (1 : Int32)) hx hb dX11_alarm_50 (by decide) ?_
          refine lv_goto (tgt := 55) hx hb dX11_alarm_51 (by decide) ?_
          exact X_TH_alarm_55_w C (1 : Int32) u_3 _ _ _ hf hw (lv_sub hl [] rfl) _ _ (by omega) (by omega)
      · replace hf := hf.2 hc
        clear hc
        exact X_TH_alarm_35_w C  u_1 _ _ _ hf hw (lv_sub hl [] rfl) _ _ (by omega) (by omega)
/-! X_RD_scan -/
theorem dX4_scan_0 : decode cX4_scan 0 = .ok (.aload_n 1, 1) := by decide +kernel
theorem dX4_scan_1 : decode cX4_scan 1 = .ok (.getfield 94, 3) := by decide +kernel
theorem dX4_scan_4 : decode cX4_scan 4 = .ok (.sipush 400, 3) := by decide +kernel
theorem dX4_scan_7 : decode cX4_scan 7 = .ok (.invokestatic 103, 3) := by decide +kernel
theorem dX4_scan_10 : decode cX4_scan 10 = .ok (.istore_n 2, 1) := by decide +kernel
theorem dX4_scan_11 : decode cX4_scan 11 = .ok (.aload_n 0, 1) := by decide +kernel
theorem dX4_scan_12 : decode cX4_scan 12 = .ok (.iconst 0, 1) := by decide +kernel
theorem dX4_scan_13 : decode cX4_scan 13 = .ok (.putfield 24, 3) := by decide +kernel
theorem dX4_scan_16 : decode cX4_scan 16 = .ok (.iconst 0, 1) := by decide +kernel
theorem dX4_scan_17 : decode cX4_scan 17 = .ok (.istore_n 3, 1) := by decide +kernel
theorem dX4_scan_18 : decode cX4_scan 18 = .ok (.iconst 0, 1) := by decide +kernel
theorem dX4_scan_19 : decode cX4_scan 19 = .ok (.istore 4, 2) := by decide +kernel
theorem dX4_scan_21 : decode cX4_scan 21 = .ok (.iload 4, 2) := by decide +kernel
theorem dX4_scan_23 : decode cX4_scan 23 = .ok (.sipush 400, 3) := by decide +kernel
theorem dX4_scan_26 : decode cX4_scan 26 = .ok (.if_icmp .ge 64, 3) := by decide +kernel
theorem dX4_scan_29 : decode cX4_scan 29 = .ok (.iload_n 3, 1) := by decide +kernel
theorem dX4_scan_30 : decode cX4_scan 30 = .ok (.iload_n 2, 1) := by decide +kernel
theorem dX4_scan_31 : decode cX4_scan 31 = .ok (.if_icmp .ge 59, 3) := by decide +kernel
theorem dX4_scan_34 : decode cX4_scan 34 = .ok (.aload_n 1, 1) := by decide +kernel
theorem dX4_scan_35 : decode cX4_scan 35 = .ok (.iload_n 3, 1) := by decide +kernel
theorem dX4_scan_36 : decode cX4_scan 36 = .ok (.invokestatic 109, 3) := by decide +kernel
theorem dX4_scan_39 : decode cX4_scan 39 = .ok (.istore 5, 2) := by decide +kernel
theorem dX4_scan_41 : decode cX4_scan 41 = .ok (.aload_n 1, 1) := by decide +kernel
theorem dX4_scan_42 : decode cX4_scan 42 = .ok (.iload_n 3, 1) := by decide +kernel
theorem dX4_scan_43 : decode cX4_scan 43 = .ok (.invokevirtual 113, 3) := by decide +kernel
theorem dX4_scan_46 : decode cX4_scan 46 = .ok (.istore 6, 2) := by decide +kernel
theorem dX4_scan_48 : decode cX4_scan 48 = .ok (.iload 6, 2) := by decide +kernel
theorem dX4_scan_50 : decode cX4_scan 50 = .ok (.bipush 32, 2) := by decide +kernel
theorem dX4_scan_52 : decode cX4_scan 52 = .ok (.if_icmp .eq 29, 3) := by decide +kernel
theorem dX4_scan_55 : decode cX4_scan 55 = .ok (.iload 6, 2) := by decide +kernel
theorem dX4_scan_57 : decode cX4_scan 57 = .ok (.bipush 10, 2) := by decide +kernel
theorem dX4_scan_59 : decode cX4_scan 59 = .ok (.if_icmp .eq 22, 3) := by decide +kernel
theorem dX4_scan_62 : decode cX4_scan 62 = .ok (.aload_n 0, 1) := by decide +kernel
theorem dX4_scan_63 : decode cX4_scan 63 = .ok (.aload_n 1, 1) := by decide +kernel
theorem dX4_scan_64 : decode cX4_scan 64 = .ok (.iload_n 3, 1) := by decide +kernel
theorem dX4_scan_65 : decode cX4_scan 65 = .ok (.iload 5, 2) := by decide +kernel
theorem dX4_scan_67 : decode cX4_scan 67 = .ok (.invokestatic 117, 3) := by decide +kernel
theorem dX4_scan_70 : decode cX4_scan 70 = .ok (.iload_n 3, 1) := by decide +kernel
theorem dX4_scan_71 : decode cX4_scan 71 = .ok (.aload_n 1, 1) := by decide +kernel
theorem dX4_scan_72 : decode cX4_scan 72 = .ok (.iload_n 3, 1) := by decide +kernel
theorem dX4_scan_73 : decode cX4_scan 73 = .ok (.iload 5, 2) := by decide +kernel
theorem dX4_scan_75 : decode cX4_scan 75 = .ok (.invokestatic 121, 3) := by decide +kernel
theorem dX4_scan_78 : decode cX4_scan 78 = .ok (.invokevirtual 125, 3) := by decide +kernel
theorem dX4_scan_81 : decode cX4_scan 81 = .ok (.iload 5, 2) := by decide +kernel
theorem dX4_scan_83 : decode cX4_scan 83 = .ok (.istore_n 3, 1) := by decide +kernel
theorem dX4_scan_84 : decode cX4_scan 84 = .ok (.iinc 4 1, 3) := by decide +kernel
theorem dX4_scan_87 : decode cX4_scan 87 = .ok (.goto (-66), 3) := by decide +kernel
theorem dX4_scan_90 : decode cX4_scan 90 = .ok (.aload_n 0, 1) := by decide +kernel
theorem dX4_scan_91 : decode cX4_scan 91 = .ok (.getstatic 38, 3) := by decide +kernel
theorem dX4_scan_94 : decode cX4_scan 94 = .ok (.iload_n 2, 1) := by decide +kernel
theorem dX4_scan_95 : decode cX4_scan 95 = .ok (.iconst 0, 1) := by decide +kernel
theorem dX4_scan_96 : decode cX4_scan 96 = .ok (.invokevirtual 125, 3) := by decide +kernel
theorem dX4_scan_99 : decode cX4_scan 99 = .ok (.return_, 1) := by decide +kernel
def X_RD_scan_81 (K : xs_St → Prop) (k21 : Int32 → Int32 → Int32 → xs_St → Prop) (x2 : Int32) (x4 : Int32) (x5 : Int32) (u : xs_St) : Prop :=
  ∀ x4_1 : Int32, x4_1 = x4 + (1 : Int32) → k21 x2 x5 x4_1 u
set_option maxHeartbeats 4000000 in
set_option maxRecDepth 100000 in
theorem X_RD_scan_81_w {K : xs_St → Prop} {k21 : Int32 → Int32 → Int32 → xs_St → Prop} (C : th_Cx p s m args meth c cX4_scan RX4 7 (none) (dC, dI) (th_ty cs) (xE ad ak) A) (hk21 : ∀ (x2 : Int32) (x3 : Int32) (x4 : Int32) (u : xs_St) (H : Heap) (locs : List Loc) (ls : Array Slot), k21 x2 x3 x4 u → th_wI (dC, dI) (wX cs ad q v v) A s.heap u H locs → lv_has ls 7 [(0, .ref (q 299)), (1, .ref (q 199)), (2, .int x2), (3, .int x3), (4, .int x4)] → W p l e (th_rm 7 0 0) s m args below meth c H locs 0 0 (MQ below (va_Qv K (th_Post (dC, dI) (wX cs ad q v v) A) A) args s 0 0 A) (F0 m 21 ls [])) (x2 : Int32) (x4 : Int32) (x5 : Int32) (u : xs_St) (H : Heap) (locs : List Loc) (ls : Array Slot) (hf : X_RD_scan_81 K k21 x2 x4 x5 u) (hw : th_wI (dC, dI) (wX cs ad q v v) A s.heap u H locs) (hl : lv_has ls 7 [(0, .ref (q 299)), (1, .ref (q 199)), (2, .int x2), (4, .int x4), (5, .int x5)]) : W p l e (th_rm 7 0 0) s m args below meth c H locs 0 0 (MQ below (va_Qv K (th_Post (dC, dI) (wX cs ad q v v) A) A) args s 0 0 A) (F0 m 81 ls []) := by
  have hx := C.1
  have hb := C.2.1
  unfold X_RD_scan_81 at hf
  refine lv_iload hx hb dX4_scan_81 (lv_at hl 4 rfl) ?_
  refine lv_istore_n (lv' := [(3, .int x5), (0, .ref (q 299)), (1, .ref (q 199)), (2, .int x2), (4, .int x4), (5, .int x5)]) hx hb dX4_scan_83 rfl hl (by decide) rfl (fun ls hl => ?_)
  obtain ⟨x4_1, e9⟩ : ∃ y : Int32, y = x4 + (1 : Int32) := ⟨_, rfl⟩
  replace hf := hf x4_1 e9
  refine lv_iinc (v := x4_1) (lv' := [(4, .int x4_1), (3, .int x5), (0, .ref (q 299)), (1, .ref (q 199)), (2, .int x2), (5, .int x5)]) hx hb dX4_scan_84 hl (k := 4) rfl (by rw [e9]; rfl) (by decide) rfl (fun ls hl => ?_)
  clear e9
  refine lv_goto (tgt := 21) hx hb dX4_scan_87 (by decide) ?_
  exact hk21 x2 x5 x4_1 u _ _ _ hf hw (lv_sub hl [2, 3, 4, 1, 0] rfl)
def X_RD_scan_90 (K : xs_St → Prop) (x2 : Int32) (u : xs_St) : Prop :=
  X_RD_addToken (some 0) x2 (0 : Int32) u (fun u_1 => K u_1)
set_option maxHeartbeats 4000000 in
set_option maxRecDepth 100000 in
theorem X_RD_scan_90_w {K : xs_St → Prop} (C : th_Cx p s m args meth c cX4_scan RX4 7 (none) (dC, dI) (th_ty cs) (xE ad ak) A) (x2 : Int32) (u : xs_St) (H : Heap) (locs : List Loc) (ls : Array Slot) (hf : X_RD_scan_90 K x2 u) (hw : th_wI (dC, dI) (wX cs ad q v v) A s.heap u H locs) (hl : lv_has ls 7 [(0, .ref (q 299)), (2, .int x2)]) : W p l e (th_rm 7 0 0) s m args below meth c H locs 0 0 (MQ below (va_Qv K (th_Post (dC, dI) (wX cs ad q v v) A) A) args s 0 0 A) (F0 m 90 ls []) := by
  have hx := C.1
  have hb := C.2.1
  unfold X_RD_scan_90 at hf
  refine lv_aload_n hx hb dX4_scan_90 rfl (lv_at hl 0 rfl) ?_
  refine xst C hw 0 (by decide) (C.2.2.2.2.1 _ hwF_X4_38) dX4_scan_91 ?_
  refine lv_iload_n hx hb dX4_scan_94 rfl (lv_at hl 1 rfl) ?_
  refine lv_iconst (v := (0 : Int32)) hx hb dX4_scan_95 (by decide) ?_
  refine th_callVv (As := [va_re ad (some 0), .int x2, .int (0 : Int32)]) (rest := []) C lkX4_125 (X_RD_addToken_c hf) hw (xRc_RD C hw) rfl rfl ⟨Nat.le_of_ble_eq_true rfl, Nat.le_of_ble_eq_true rfl⟩ hl.1 (Nat.le_of_ble_eq_true rfl) ⟨Nat.le_of_ble_eq_true rfl, Nat.le_of_ble_eq_true rfl⟩ dX4_scan_96 (fun u_1 H locs hf hw => ?_)
  exact th_vret C hw hf dX4_scan_99
def X_RD_scan_21 (K : xs_St → Prop) (k21 : Int32 → Int32 → Int32 → xs_St → Prop) (x2 : Int32) (x3 : Int32) (x4 : Int32) (u : xs_St) : Prop :=
  (((400 : Int32) ≤ x4 → X_RD_scan_90 K x2 u) ∧ (¬ (400 : Int32) ≤ x4 → ((x2 ≤ x3 → X_RD_scan_90 K x2 u) ∧ (¬ x2 ≤ x3 → X_RD_behindRun x3 u (fun r_2 u_1 => X_TP_unsigned x3 u_1 (fun r_4 u_3 => ((r_4 = (32 : Int32) → X_RD_scan_81 K k21 x2 x4 r_2 u_3) ∧ (¬ r_4 = (32 : Int32) → ((r_4 = (10 : Int32) → X_RD_scan_81 K k21 x2 x4 r_2 u_3) ∧ (¬ r_4 = (10 : Int32) → X_RD_tokenOf x3 r_2 u_3 (fun r_6 u_5 => X_RD_numberOf x3 r_2 u_5 (fun r_8 u_7 => X_RD_addToken r_6 x3 r_8 u_7 (fun u_9 => X_RD_scan_81 K k21 x2 x4 r_2 u_9)))))))))))))
set_option maxHeartbeats 4000000 in
set_option maxRecDepth 100000 in
theorem X_RD_scan_21_w {K : xs_St → Prop} {k21 : Int32 → Int32 → Int32 → xs_St → Prop} (C : th_Cx p s m args meth c cX4_scan RX4 7 (none) (dC, dI) (th_ty cs) (xE ad ak) A) (hk21 : ∀ (x2 : Int32) (x3 : Int32) (x4 : Int32) (u : xs_St) (H : Heap) (locs : List Loc) (ls : Array Slot), k21 x2 x3 x4 u → th_wI (dC, dI) (wX cs ad q v v) A s.heap u H locs → lv_has ls 7 [(0, .ref (q 299)), (1, .ref (q 199)), (2, .int x2), (3, .int x3), (4, .int x4)] → W p l e (th_rm 7 0 0) s m args below meth c H locs 0 0 (MQ below (va_Qv K (th_Post (dC, dI) (wX cs ad q v v) A) A) args s 0 0 A) (F0 m 21 ls [])) (x2 : Int32) (x3 : Int32) (x4 : Int32) (u : xs_St) (H : Heap) (locs : List Loc) (ls : Array Slot) (hf : X_RD_scan_21 K k21 x2 x3 x4 u) (hw : th_wI (dC, dI) (wX cs ad q v v) A s.heap u H locs) (hl : lv_has ls 7 [(0, .ref (q 299)), (1, .ref (q 199)), (2, .int x2), (3, .int x3), (4, .int x4)]) : W p l e (th_rm 7 0 0) s m args below meth c H locs 0 0 (MQ below (va_Qv K (th_Post (dC, dI) (wX cs ad q v v) A) A) args s 0 0 A) (F0 m 21 ls []) := by
  have hx := C.1
  have hb := C.2.1
  unfold X_RD_scan_21 at hf
  refine lv_iload hx hb dX4_scan_21 (lv_at hl 4 rfl) ?_
  refine lv_sipush (v := (400 : Int32)) hx hb dX4_scan_23 (by decide) ?_
  refine lv_icmp_ge (tgt := 90) hx hb dX4_scan_26 (by decide) (fun hc => ?_) (fun hc => ?_)
  · replace hf := hf.1 hc
    clear hc
    exact X_RD_scan_90_w C x2 u _ _ _ hf hw (lv_sub hl [0, 2] rfl)
  · replace hf := hf.2 hc
    clear hc
    refine lv_iload_n hx hb dX4_scan_29 rfl (lv_at hl 3 rfl) ?_
    refine lv_iload_n hx hb dX4_scan_30 rfl (lv_at hl 2 rfl) ?_
    refine lv_icmp_ge (tgt := 90) hx hb dX4_scan_31 (by decide) (fun hc => ?_) (fun hc => ?_)
    · replace hf := hf.1 hc
      clear hc
      exact X_RD_scan_90_w C x2 u _ _ _ hf hw (lv_sub hl [0, 2] rfl)
    · replace hf := hf.2 hc
      clear hc
      refine lv_aload_n hx hb dX4_scan_34 rfl (lv_at hl 1 rfl) ?_
      refine lv_iload_n hx hb dX4_scan_35 rfl (lv_at hl 3 rfl) ?_
      refine th_callSi (As := [.ref (q 199), .int x3]) (rest := []) C lkX4_109 (X_RD_behindRun_c hf) hw rfl rfl ⟨Nat.le_of_ble_eq_true rfl, Nat.le_of_ble_eq_true rfl⟩ hl.1 (Nat.le_of_ble_eq_true rfl) ⟨Nat.le_of_ble_eq_true rfl, Nat.le_of_ble_eq_true rfl⟩ dX4_scan_36 (fun r_2 u_1 H locs hf hw => ?_)
      refine lv_istore (lv' := [(5, .int r_2), (0, .ref (q 299)), (1, .ref (q 199)), (2, .int x2), (3, .int x3), (4, .int x4)]) hx hb dX4_scan_39 hl (by decide) rfl (fun ls hl => ?_)
      refine lv_aload_n hx hb dX4_scan_41 rfl (lv_at hl 2 rfl) ?_
      refine lv_iload_n hx hb dX4_scan_42 rfl (lv_at hl 4 rfl) ?_
      refine th_callVi (As := [.int x3]) (rest := []) C lkX4_113 (X_TP_unsigned_c hf) hw (xRc_TP C hw) rfl rfl ⟨Nat.le_of_ble_eq_true rfl, Nat.le_of_ble_eq_true rfl⟩ hl.1 (Nat.le_of_ble_eq_true rfl) ⟨Nat.le_of_ble_eq_true rfl, Nat.le_of_ble_eq_true rfl⟩ dX4_scan_43 (fun r_4 u_3 H locs hf hw => ?_)
      refine lv_istore (lv' := [(6, .int r_4), (5, .int r_2), (0, .ref (q 299)), (1, .ref (q 199)), (2, .int x2), (3, .int x3), (4, .int x4)]) hx hb dX4_scan_46 hl (by decide) rfl (fun ls hl => ?_)
      refine lv_iload hx hb dX4_scan_48 (lv_at hl 0 rfl) ?_
      refine lv_bipush (v := (32 : Int32)) hx hb dX4_scan_50 (by decide) ?_
      refine lv_icmp_eq (tgt := 81) hx hb dX4_scan_52 (by decide) (fun hc => ?_) (fun hc => ?_)
      · replace hf := hf.1 hc
        clear hc
        exact X_RD_scan_81_w C hk21 x2 x4 r_2 u_3 _ _ _ hf hw (lv_sub hl [2, 3, 4, 6, 1] rfl)
      · replace hf := hf.2 hc
        clear hc
        refine lv_iload hx hb dX4_scan_55 (lv_at hl 0 rfl) ?_
        refine lv_bipush (v := (10 : Int32)) hx hb dX4_scan_57 (by decide) ?_
        refine lv_icmp_eq (tgt := 81) hx hb dX4_scan_59 (by decide) (fun hc => ?_) (fun hc => ?_)
        · replace hf := hf.1 hc
          clear hc
          exact X_RD_scan_81_w C hk21 x2 x4 r_2 u_3 _ _ _ hf hw (lv_sub hl [2, 3, 4, 6, 1] rfl)
        · replace hf := hf.2 hc
          clear hc
          refine lv_aload_n hx hb dX4_scan_62 rfl (lv_at hl 2 rfl) ?_
          refine lv_aload_n hx hb dX4_scan_63 rfl (lv_at hl 3 rfl) ?_
          refine lv_iload_n hx hb dX4_scan_64 rfl (lv_at hl 5 rfl) ?_
          refine lv_iload hx hb dX4_scan_65 (lv_at hl 1 rfl) ?_
          refine th_callSe (As := [.ref (q 199), .int x3, .int r_2]) (rest := [.ref (q 299)]) C lkX4_117 (X_RD_tokenOf_c hf) hw rfl rfl ⟨Nat.le_of_ble_eq_true rfl, Nat.le_of_ble_eq_true rfl⟩ hl.1 (Nat.le_of_ble_eq_true rfl) ⟨Nat.le_of_ble_eq_true rfl, Nat.le_of_ble_eq_true rfl⟩ dX4_scan_67 (fun r_6 u_5 H locs hf hw => ?_)
          refine lv_iload_n hx hb dX4_scan_70 rfl (lv_at hl 5 rfl) ?_
          refine lv_aload_n hx hb dX4_scan_71 rfl (lv_at hl 3 rfl) ?_
          refine lv_iload_n hx hb dX4_scan_72 rfl (lv_at hl 5 rfl) ?_
          refine lv_iload hx hb dX4_scan_73 (lv_at hl 1 rfl) ?_
          refine th_callSi (As := [.ref (q 199), .int x3, .int r_2]) (rest := [.int x3, va_re ad r_6, .ref (q 299)]) C lkX4_121 (X_RD_numberOf_c hf) hw rfl rfl ⟨Nat.le_of_ble_eq_true rfl, Nat.le_of_ble_eq_true rfl⟩ hl.1 (by simp only [List.map, th_cat, th_cate]; exact Nat.le_of_ble_eq_true rfl) ⟨Nat.le_of_ble_eq_true rfl, Nat.le_of_ble_eq_true rfl⟩ dX4_scan_75 (fun r_8 u_7 H locs hf hw => ?_)
          refine th_callVv (As := [va_re ad r_6, .int x3, .int r_8]) (rest := []) C lkX4_125 (X_RD_addToken_c hf) hw (xRc_RD C hw) rfl rfl ⟨Nat.le_of_ble_eq_true rfl, Nat.le_of_ble_eq_true rfl⟩ hl.1 (Nat.le_of_ble_eq_true rfl) ⟨Nat.le_of_ble_eq_true rfl, Nat.le_of_ble_eq_true rfl⟩ dX4_scan_78 (fun u_9 H locs hf hw => ?_)
          exact X_RD_scan_81_w C hk21 x2 x4 r_2 u_9 _ _ _ hf hw (lv_sub hl [2, 3, 4, 6, 1] rfl)
def X_RD_scan_21_lp (K : xs_St → Prop) : Nat → Int32 → Int32 → Int32 → xs_St → Prop
  | 0, _, _, _, _ => False
  | n + 1, x2, x3, x4, u => X_RD_scan_21 K (X_RD_scan_21_lp K n) x2 x3 x4 u
set_option maxHeartbeats 4000000 in
set_option maxRecDepth 100000 in
theorem X_RD_scan_21_lw {K : xs_St → Prop} (C : th_Cx p s m args meth c cX4_scan RX4 7 (none) (dC, dI) (th_ty cs) (xE ad ak) A) (n : Nat) : ∀ (x2 : Int32) (x3 : Int32) (x4 : Int32) (u : xs_St) (H : Heap) (locs : List Loc) (ls : Array Slot), X_RD_scan_21_lp K n x2 x3 x4 u → th_wI (dC, dI) (wX cs ad q v v) A s.heap u H locs → lv_has ls 7 [(0, .ref (q 299)), (1, .ref (q 199)), (2, .int x2), (3, .int x3), (4, .int x4)] → W p l e (th_rm 7 0 0) s m args below meth c H locs 0 0 (MQ below (va_Qv K (th_Post (dC, dI) (wX cs ad q v v) A) A) args s 0 0 A) (F0 m 21 ls []) := by
  induction n with
  | zero => intro x2 x3 x4 u H locs ls hf; exact hf.elim
  | succ n ih =>
    intro x2 x3 x4 u H locs ls hf hw hl
    exact X_RD_scan_21_w C ih x2 x3 x4 u H locs ls hf hw hl
def X_RD_scan (u : xs_St) (K : xs_St → Prop) : Prop :=
  ∀ y_1 : Int32, y_1 = (if (400 : Int32) < (xi u 101) then (400 : Int32) else (xi u 101)) → ∀ u_2 : xs_St, u_2 = xs_si u 203 (0 : Int32) → ∃ n, X_RD_scan_21_lp K n y_1 (0 : Int32) (0 : Int32) u_2
set_option maxHeartbeats 4000000 in
set_option maxRecDepth 100000 in
theorem X_RD_scan_c {l : Launch} {dC : Nat → ClassId} {dI : Nat → Nat → Nat} {cs : Nat → ClassId} {ad ak : Nat → Nat} {q v : Nat → Nat} {u : xs_St} {K : xs_St → Prop} (hf : X_RD_scan u K) : th_Cv l yX4_scan cX4_scan 7 (none) 7 0 0 (dC, dI) (th_ty cs) (xE ad ak) (wX cs ad q v v) [.ref (q 299), .ref (q 199)] u K := by
  refine th_ofv (by decide) (Nat.le_of_ble_eq_true rfl) (xE_ok ad ak) ?_
  intro p e s m below meth c A ls C hw hl
  have C : th_Cx p s m _ meth c cX4_scan RX4 7 (none) (dC, dI) (th_ty cs) (xE ad ak) A := C
  have hl : lv_has ls 7 [(0, .ref (q 299)), (1, .ref (q 199))] := hl
  generalize (List.toArray _ : Array Value) = args at C ⊢
  have hx := C.1
  have hb := C.2.1
  unfold X_RD_scan at hf
  refine lv_aload_n hx hb dX4_scan_0 rfl (lv_at hl 1 rfl) ?_
  refine xgn_101 C hw (va_Nw.use rfl (xN C hwG_X4_94)) dX4_scan_1 ?_
  refine lv_sipush (v := (400 : Int32)) hx hb dX4_scan_4 (by decide) ?_
  refine va_mmin hx hb (C.2.2.1.trans hl.1.symm) C.2.2.2.1 (C.2.2.2.2.1 _ hwM_X4_103) (C.2.2.2.2.1 _ hwS_Math_min) (C.2.2.2.2.1 _ hwI_Math) (C.2.2.2.2.1 _ hwC_Math_min) (Nat.le_of_ble_eq_true rfl) (Nat.le_of_ble_eq_true rfl) (Nat.le_of_ble_eq_true rfl) (Nat.le_of_ble_eq_true rfl) dX4_scan_7 ?_
  refine lv_topi (fun y_1 e9 => ?_)
  replace hf := hf y_1 e9
  clear e9
  refine lv_istore_n (lv' := [(2, .int y_1), (0, .ref (q 299)), (1, .ref (q 199))]) hx hb dX4_scan_10 rfl hl (by decide) rfl (fun ls hl => ?_)
  refine lv_aload_n hx hb dX4_scan_11 rfl (lv_at hl 1 rfl) ?_
  refine lv_iconst (v := (0 : Int32)) hx hb dX4_scan_12 (by decide) ?_
  refine xp_203 C hw (C.2.2.2.2.1 _ hwF_X4_24) dX4_scan_13 (fun u_2 e9 H locs hw => ?_)
  replace hf := hf u_2 e9
  clear e9
  refine lv_iconst (v := (0 : Int32)) hx hb dX4_scan_16 (by decide) ?_
  refine lv_istore_n (lv' := [(3, .int (0 : Int32)), (2, .int y_1), (0, .ref (q 299)), (1, .ref (q 199))]) hx hb dX4_scan_17 rfl hl (by decide) rfl (fun ls hl => ?_)
  refine lv_iconst (v := (0 : Int32)) hx hb dX4_scan_18 (by decide) ?_
  refine lv_istore (lv' := [(4, .int (0 : Int32)), (3, .int (0 : Int32)), (2, .int y_1), (0, .ref (q 299)), (1, .ref (q 199))]) hx hb dX4_scan_19 hl (by decide) rfl (fun ls hl => ?_)
  obtain ⟨n, hf⟩ := hf
  exact X_RD_scan_21_lw C n y_1 (0 : Int32) (0 : Int32) u_2 _ _ _ hf hw (lv_sub hl [3, 4, 2, 1, 0] rfl)
/-! X_TH_alarmed -/
theorem dX11_alarmed_0 : decode cX11_alarmed 0 = .ok (.iload_n 1, 1) := by decide +kernel
theorem dX11_alarmed_1 : decode cX11_alarmed 1 = .ok (.ifCond .lt 14, 3) := by decide +kernel
theorem dX11_alarmed_4 : decode cX11_alarmed 4 = .ok (.iload_n 1, 1) := by decide +kernel
theorem dX11_alarmed_5 : decode cX11_alarmed 5 = .ok (.aload_n 0, 1) := by decide +kernel
theorem dX11_alarmed_6 : decode cX11_alarmed 6 = .ok (.getfield 69, 3) := by decide +kernel
theorem dX11_alarmed_9 : decode cX11_alarmed 9 = .ok (.getfield 176, 3) := by decide +kernel
theorem dX11_alarmed_12 : decode cX11_alarmed 12 = .ok (.if_icmp .lt 5, 3) := by decide +kernel
theorem dX11_alarmed_15 : decode cX11_alarmed 15 = .ok (.iconst (-1), 1) := by decide +kernel
theorem dX11_alarmed_16 : decode cX11_alarmed 16 = .ok (.ireturn, 1) := by decide +kernel
theorem dX11_alarmed_17 : decode cX11_alarmed 17 = .ok (.aload_n 0, 1) := by decide +kernel
theorem dX11_alarmed_18 : decode cX11_alarmed 18 = .ok (.getfield 26, 3) := by decide +kernel
theorem dX11_alarmed_21 : decode cX11_alarmed 21 = .ok (.aload_n 0, 1) := by decide +kernel
theorem dX11_alarmed_22 : decode cX11_alarmed 22 = .ok (.getfield 69, 3) := by decide +kernel
theorem dX11_alarmed_25 : decode cX11_alarmed 25 = .ok (.iload_n 1, 1) := by decide +kernel
theorem dX11_alarmed_26 : decode cX11_alarmed 26 = .ok (.iload_n 2, 1) := by decide +kernel
theorem dX11_alarmed_27 : decode cX11_alarmed 27 = .ok (.invokevirtual 183, 3) := by decide +kernel
theorem dX11_alarmed_30 : decode cX11_alarmed 30 = .ok (.ireturn, 1) := by decide +kernel
def X_TH_alarmed_15 (K : Int32 → xs_St → Prop) (u : xs_St) : Prop :=
  K (-1 : Int32) u
set_option maxHeartbeats 4000000 in
set_option maxRecDepth 100000 in
theorem X_TH_alarmed_15_w {K : Int32 → xs_St → Prop} (C : th_Cx p s m args meth c cX11_alarmed RX11 3 (some .int) (dC, dI) (th_ty cs) (xE ad ak) A) (u : xs_St) (H : Heap) (locs : List Loc) (ls : Array Slot) (hf : X_TH_alarmed_15 K u) (hw : th_wI (dC, dI) (wX cs ad q v v) A s.heap u H locs) (hl : lv_has ls 3 []) (n9 m9 : Nat) (h9 : n9 + 0 ≤ 82) (g9 : m9 + 0 ≤ 2296) : W p l e (th_rm 7 82 2296) s m args below meth c H locs n9 m9 (MQ below (va_Qi K (th_Post (dC, dI) (wX cs ad q v v) A) A) args s 82 2296 A) (F0 m 15 ls []) := by
  have hx := C.1
  have hb := C.2.1
  unfold X_TH_alarmed_15 at hf
  refine lv_iconst (v := (-1 : Int32)) hx hb dX11_alarmed_15 (by decide) ?_
  refine W.widen (k := 82) (n := 2296) (by omega) (by omega) ?_
  exact th_iret C hw hf dX11_alarmed_16
def X_TH_alarmed (a1 : Int32) (a2 : Int32) (u : xs_St) (K : Int32 → xs_St → Prop) : Prop :=
  ((a1 < 0 → X_TH_alarmed_15 K u) ∧ (¬ a1 < 0 → ((a1 < (xi u 305) → X_BD_firstAlarmed a1 a2 u (fun r_2 u_1 => K r_2 u_1)) ∧ (¬ a1 < (xi u 305) → X_TH_alarmed_15 K u))))
set_option maxHeartbeats 4000000 in
set_option maxRecDepth 100000 in
theorem X_TH_alarmed_c {l : Launch} {dC : Nat → ClassId} {dI : Nat → Nat → Nat} {cs : Nat → ClassId} {ad ak : Nat → Nat} {q v : Nat → Nat} {a1 : Int32} {a2 : Int32} {u : xs_St} {K : Int32 → xs_St → Prop} (hf : X_TH_alarmed a1 a2 u K) : th_Ci l yX11_alarmed cX11_alarmed 3 (some .int) 7 82 2296 (dC, dI) (th_ty cs) (xE ad ak) (wX cs ad q v v) [.ref (q 99), .int a1, .int a2] u K := by
  refine th_ofi (by decide) (Nat.le_of_ble_eq_true rfl) (xE_ok ad ak) ?_
  intro p e s m below meth c A ls C hw hl
  have C : th_Cx p s m _ meth c cX11_alarmed RX11 3 (some .int) (dC, dI) (th_ty cs) (xE ad ak) A := C
  have hl : lv_has ls 3 [(0, .ref (q 99)), (1, .int a1), (2, .int a2)] := hl
  generalize (List.toArray _ : Array Value) = args at C ⊢
  have hx := C.1
  have hb := C.2.1
  unfold X_TH_alarmed at hf
  refine lv_iload_n hx hb dX11_alarmed_0 rfl (lv_at hl 1 rfl) ?_
  refine lv_if_lt (tgt := 15) hx hb dX11_alarmed_1 (by decide) (fun hc => ?_) (fun hc => ?_)
  · replace hf := hf.1 hc
    clear hc
    exact X_TH_alarmed_15_w C  u _ _ _ hf hw (lv_sub hl [] rfl) _ _ (by omega) (by omega)
  · replace hf := hf.2 hc
    clear hc
    refine lv_iload_n hx hb dX11_alarmed_4 rfl (lv_at hl 1 rfl) ?_
    refine lv_aload_n hx hb dX11_alarmed_5 rfl (lv_at hl 0 rfl) ?_
    refine xg_9 C hw (C.2.2.2.2.1 _ hwF_X11_69) dX11_alarmed_6 ?_
    refine xgn_305 C hw (va_Nw.use rfl (xN C hwG_X11_176)) dX11_alarmed_9 ?_
    refine lv_icmp_lt (tgt := 17) hx hb dX11_alarmed_12 (by decide) (fun hc => ?_) (fun hc => ?_)
    · replace hf := hf.1 hc
      clear hc
      refine lv_aload_n hx hb dX11_alarmed_17 rfl (lv_at hl 0 rfl) ?_
      refine xg_2 C hw (C.2.2.2.2.1 _ hwF_X11_26) dX11_alarmed_18 ?_
      refine lv_aload_n hx hb dX11_alarmed_21 rfl (lv_at hl 0 rfl) ?_
      refine xg_9 C hw (C.2.2.2.2.1 _ hwF_X11_69) dX11_alarmed_22 ?_
      refine lv_iload_n hx hb dX11_alarmed_25 rfl (lv_at hl 1 rfl) ?_
      refine lv_iload_n hx hb dX11_alarmed_26 rfl (lv_at hl 2 rfl) ?_
      refine th_callVi (As := [.ref (v 399), .int a1, .int a2]) (rest := []) C lkX11_183 (X_BD_firstAlarmed_c hf) hw (xRc_BD C hw) rfl rfl ⟨Nat.le_of_ble_eq_true rfl, Nat.le_of_ble_eq_true rfl⟩ hl.1 (Nat.le_of_ble_eq_true rfl) ⟨by simp only [th_rm]; omega, by simp only [th_rm]; omega⟩ dX11_alarmed_27 (fun r_2 u_1 H locs hf hw => ?_)
      refine W.widen (k := 82) (n := 2296) (by omega) (by omega) ?_
      exact th_iret C hw hf dX11_alarmed_30
    · replace hf := hf.2 hc
      clear hc
      exact X_TH_alarmed_15_w C  u _ _ _ hf hw (lv_sub hl [] rfl) _ _ (by omega) (by omega)
/-! X_RD_readCond -/
theorem dX4_readOne_0 : decode cX4_readOne 0 = .ok (.aload_n 0, 1) := by decide +kernel
theorem dX4_readOne_1 : decode cX4_readOne 1 = .ok (.getfield 42, 3) := by decide +kernel
theorem dX4_readOne_4 : decode cX4_readOne 4 = .ok (.astore_n 2, 1) := by decide +kernel
theorem dX4_readOne_5 : decode cX4_readOne 5 = .ok (.aload_n 2, 1) := by decide +kernel
theorem dX4_readOne_6 : decode cX4_readOne 6 = .ok (.getstatic 253, 3) := by decide +kernel
theorem dX4_readOne_9 : decode cX4_readOne 9 = .ok (.if_acmp .eq 23, 3) := by decide +kernel
theorem dX4_readOne_12 : decode cX4_readOne 12 = .ok (.aload_n 2, 1) := by decide +kernel
theorem dX4_readOne_13 : decode cX4_readOne 13 = .ok (.getstatic 256, 3) := by decide +kernel
theorem dX4_readOne_16 : decode cX4_readOne 16 = .ok (.if_acmp .eq 16, 3) := by decide +kernel
theorem dX4_readOne_19 : decode cX4_readOne 19 = .ok (.aload_n 2, 1) := by decide +kernel
theorem dX4_readOne_20 : decode cX4_readOne 20 = .ok (.invokestatic 259, 3) := by decide +kernel
theorem dX4_readOne_23 : decode cX4_readOne 23 = .ok (.ifCond .ne 9, 3) := by decide +kernel
theorem dX4_readOne_26 : decode cX4_readOne 26 = .ok (.aload_n 0, 1) := by decide +kernel
theorem dX4_readOne_27 : decode cX4_readOne 27 = .ok (.iconst 1, 1) := by decide +kernel
theorem dX4_readOne_28 : decode cX4_readOne 28 = .ok (.invokevirtual 99, 3) := by decide +kernel
theorem dX4_readOne_31 : decode cX4_readOne 31 = .ok (.ireturn, 1) := by decide +kernel
theorem dX4_readOne_32 : decode cX4_readOne 32 = .ok (.aload_n 0, 1) := by decide +kernel
theorem dX4_readOne_33 : decode cX4_readOne 33 = .ok (.getfield 48, 3) := by decide +kernel
theorem dX4_readOne_36 : decode cX4_readOne 36 = .ok (.bipush 40, 2) := by decide +kernel
theorem dX4_readOne_38 : decode cX4_readOne 38 = .ok (.if_icmp .ge 9, 3) := by decide +kernel
theorem dX4_readOne_41 : decode cX4_readOne 41 = .ok (.iload_n 1, 1) := by decide +kernel
theorem dX4_readOne_42 : decode cX4_readOne 42 = .ok (.bipush 10, 2) := by decide +kernel
theorem dX4_readOne_44 : decode cX4_readOne 44 = .ok (.if_icmp .le 9, 3) := by decide +kernel
theorem dX4_readOne_47 : decode cX4_readOne 47 = .ok (.aload_n 0, 1) := by decide +kernel
theorem dX4_readOne_48 : decode cX4_readOne 48 = .ok (.iconst 4, 1) := by decide +kernel
theorem dX4_readOne_49 : decode cX4_readOne 49 = .ok (.invokevirtual 99, 3) := by decide +kernel
theorem dX4_readOne_52 : decode cX4_readOne 52 = .ok (.ireturn, 1) := by decide +kernel
theorem dX4_readOne_53 : decode cX4_readOne 53 = .ok (.aload_n 0, 1) := by decide +kernel
theorem dX4_readOne_54 : decode cX4_readOne 54 = .ok (.dup, 1) := by decide +kernel
theorem dX4_readOne_55 : decode cX4_readOne 55 = .ok (.getfield 48, 3) := by decide +kernel
theorem dX4_readOne_58 : decode cX4_readOne 58 = .ok (.iconst 1, 1) := by decide +kernel
theorem dX4_readOne_59 : decode cX4_readOne 59 = .ok (.iadd, 1) := by decide +kernel
theorem dX4_readOne_60 : decode cX4_readOne 60 = .ok (.putfield 48, 3) := by decide +kernel
theorem dX4_readOne_63 : decode cX4_readOne 63 = .ok (.aload_n 0, 1) := by decide +kernel
theorem dX4_readOne_64 : decode cX4_readOne 64 = .ok (.invokevirtual 74, 3) := by decide +kernel
theorem dX4_readOne_67 : decode cX4_readOne 67 = .ok (.aload_n 2, 1) := by decide +kernel
theorem dX4_readOne_68 : decode cX4_readOne 68 = .ok (.getstatic 256, 3) := by decide +kernel
theorem dX4_readOne_71 : decode cX4_readOne 71 = .ok (.if_acmp .ne 29, 3) := by decide +kernel
theorem dX4_readOne_74 : decode cX4_readOne 74 = .ok (.aload_n 0, 1) := by decide +kernel
theorem dX4_readOne_75 : decode cX4_readOne 75 = .ok (.iload_n 1, 1) := by decide +kernel
theorem dX4_readOne_76 : decode cX4_readOne 76 = .ok (.iconst 1, 1) := by decide +kernel
theorem dX4_readOne_77 : decode cX4_readOne 77 = .ok (.iadd, 1) := by decide +kernel
theorem dX4_readOne_78 : decode cX4_readOne 78 = .ok (.invokevirtual 195, 3) := by decide +kernel
theorem dX4_readOne_81 : decode cX4_readOne 81 = .ok (.ifCond .eq 17, 3) := by decide +kernel
theorem dX4_readOne_84 : decode cX4_readOne 84 = .ok (.aload_n 0, 1) := by decide +kernel
theorem dX4_readOne_85 : decode cX4_readOne 85 = .ok (.getstatic 262, 3) := by decide +kernel
theorem dX4_readOne_88 : decode cX4_readOne 88 = .ok (.invokevirtual 90, 3) := by decide +kernel
theorem dX4_readOne_91 : decode cX4_readOne 91 = .ok (.ifCond .eq 7, 3) := by decide +kernel
theorem dX4_readOne_94 : decode cX4_readOne 94 = .ok (.iconst 1, 1) := by decide +kernel
theorem dX4_readOne_95 : decode cX4_readOne 95 = .ok (.goto 4, 3) := by decide +kernel
theorem dX4_readOne_98 : decode cX4_readOne 98 = .ok (.iconst 0, 1) := by decide +kernel
theorem dX4_readOne_99 : decode cX4_readOne 99 = .ok (.ireturn, 1) := by decide +kernel
theorem dX4_readOne_100 : decode cX4_readOne 100 = .ok (.aload_n 2, 1) := by decide +kernel
theorem dX4_readOne_101 : decode cX4_readOne 101 = .ok (.getstatic 253, 3) := by decide +kernel
theorem dX4_readOne_104 : decode cX4_readOne 104 = .ok (.if_acmp .eq 9, 3) := by decide +kernel
theorem dX4_readOne_107 : decode cX4_readOne 107 = .ok (.aload_n 0, 1) := by decide +kernel
theorem dX4_readOne_108 : decode cX4_readOne 108 = .ok (.aload_n 2, 1) := by decide +kernel
theorem dX4_readOne_109 : decode cX4_readOne 109 = .ok (.invokevirtual 265, 3) := by decide +kernel
theorem dX4_readOne_112 : decode cX4_readOne 112 = .ok (.ireturn, 1) := by decide +kernel
theorem dX4_readOne_113 : decode cX4_readOne 113 = .ok (.aload_n 0, 1) := by decide +kernel
theorem dX4_readOne_114 : decode cX4_readOne 114 = .ok (.iload_n 1, 1) := by decide +kernel
theorem dX4_readOne_115 : decode cX4_readOne 115 = .ok (.iconst 1, 1) := by decide +kernel
theorem dX4_readOne_116 : decode cX4_readOne 116 = .ok (.iadd, 1) := by decide +kernel
theorem dX4_readOne_117 : decode cX4_readOne 117 = .ok (.invokevirtual 240, 3) := by decide +kernel
theorem dX4_readOne_120 : decode cX4_readOne 120 = .ok (.ifCond .ne 5, 3) := by decide +kernel
theorem dX4_readOne_123 : decode cX4_readOne 123 = .ok (.iconst 0, 1) := by decide +kernel
theorem dX4_readOne_124 : decode cX4_readOne 124 = .ok (.ireturn, 1) := by decide +kernel
theorem dX4_readOne_125 : decode cX4_readOne 125 = .ok (.aload_n 0, 1) := by decide +kernel
theorem dX4_readOne_126 : decode cX4_readOne 126 = .ok (.getfield 31, 3) := by decide +kernel
theorem dX4_readOne_129 : decode cX4_readOne 129 = .ok (.getstatic 253, 3) := by decide +kernel
theorem dX4_readOne_132 : decode cX4_readOne 132 = .ok (.invokevirtual 246, 3) := by decide +kernel
theorem dX4_readOne_135 : decode cX4_readOne 135 = .ok (.iconst 1, 1) := by decide +kernel
theorem dX4_readOne_136 : decode cX4_readOne 136 = .ok (.ireturn, 1) := by decide +kernel
def X_RD_readOne_B_47 (RO RC : Int32 → xs_St → (Int32 → xs_St → Prop) → Prop) (K : Int32 → xs_St → Prop) (u : xs_St) : Prop :=
  X_RD_faulty (4 : Int32) u (fun r_2 u_1 => ((r_2 = 0 ∨ r_2 = 1) ∧ K r_2 u_1))
set_option maxHeartbeats 4000000 in
set_option maxRecDepth 100000 in
theorem X_RD_readOne_B_47_w {d9 : Nat} (hd9 : 12 ≤ d9) {RO RC : Int32 → xs_St → (Int32 → xs_St → Prop) → Prop} (hRO : ∀ {a1 : Int32} {u : xs_St} {K : Int32 → xs_St → Prop}, RO a1 u K → th_Ci l yX4_readOne cX4_readOne 3 (some .boolean) d9 0 0 (dC, dI) (th_ty cs) (xE ad ak) (wX cs ad q v v) [.ref (q 299), .int a1] u K) (hRC : ∀ {a1 : Int32} {u : xs_St} {K : Int32 → xs_St → Prop}, RC a1 u K → th_Ci l yX4_readCond cX4_readCond 4 (some .boolean) d9 0 0 (dC, dI) (th_ty cs) (xE ad ak) (wX cs ad q v v) [.ref (q 299), .int a1] u K) {K : Int32 → xs_St → Prop} (C : th_Cx p s m args meth c cX4_readOne RX4 3 (some .boolean) (dC, dI) (th_ty cs) (xE ad ak) A) (u : xs_St) (H : Heap) (locs : List Loc) (ls : Array Slot) (hf : X_RD_readOne_B_47 RO RC K u) (hw : th_wI (dC, dI) (wX cs ad q v v) A s.heap u H locs) (hl : lv_has ls 3 [(0, .ref (q 299))]) : W p l e (th_rm (d9 + 1) 0 0) s m args below meth c H locs 0 0 (MQ below (va_Qi K (th_Post (dC, dI) (wX cs ad q v v) A) A) args s 0 0 A) (F0 m 47 ls []) := by
  have hx := C.1
  have hb := C.2.1
  unfold X_RD_readOne_B_47 at hf
  refine lv_aload_n hx hb dX4_readOne_47 rfl (lv_at hl 0 rfl) ?_
  refine lv_iconst (v := (4 : Int32)) hx hb dX4_readOne_48 (by decide) ?_
  refine th_callVi (As := [.int (4 : Int32)]) (rest := []) C lkX4_99 (X_RD_faulty_c hf) hw (xRc_RD C hw) rfl rfl ⟨by simp only [th_rm]; omega, by simp only [th_rm]; omega⟩ hl.1 (Nat.le_of_ble_eq_true rfl) ⟨Nat.le_of_ble_eq_true rfl, Nat.le_of_ble_eq_true rfl⟩ dX4_readOne_49 (fun r_2 u_1 H locs hf hw => ?_)
  exact th_zret C hw hf dX4_readOne_52
def X_RD_readOne_B_99 (RO RC : Int32 → xs_St → (Int32 → xs_St → Prop) → Prop) (K : Int32 → xs_St → Prop) (z0 : Int32) (u : xs_St) : Prop :=
  ((z0 = 0 ∨ z0 = 1) ∧ K z0 u)
set_option maxHeartbeats 4000000 in
set_option maxRecDepth 100000 in
theorem X_RD_readOne_B_99_w {d9 : Nat} (hd9 : 12 ≤ d9) {RO RC : Int32 → xs_St → (Int32 → xs_St → Prop) → Prop} (hRO : ∀ {a1 : Int32} {u : xs_St} {K : Int32 → xs_St → Prop}, RO a1 u K → th_Ci l yX4_readOne cX4_readOne 3 (some .boolean) d9 0 0 (dC, dI) (th_ty cs) (xE ad ak) (wX cs ad q v v) [.ref (q 299), .int a1] u K) (hRC : ∀ {a1 : Int32} {u : xs_St} {K : Int32 → xs_St → Prop}, RC a1 u K → th_Ci l yX4_readCond cX4_readCond 4 (some .boolean) d9 0 0 (dC, dI) (th_ty cs) (xE ad ak) (wX cs ad q v v) [.ref (q 299), .int a1] u K) {K : Int32 → xs_St → Prop} (C : th_Cx p s m args meth c cX4_readOne RX4 3 (some .boolean) (dC, dI) (th_ty cs) (xE ad ak) A) (z0 : Int32) (u : xs_St) (H : Heap) (locs : List Loc) (ls : Array Slot) (hf : X_RD_readOne_B_99 RO RC K z0 u) (hw : th_wI (dC, dI) (wX cs ad q v v) A s.heap u H locs) (hl : lv_has ls 3 []) : W p l e (th_rm (d9 + 1) 0 0) s m args below meth c H locs 0 0 (MQ below (va_Qi K (th_Post (dC, dI) (wX cs ad q v v) A) A) args s 0 0 A) (F0 m 99 ls [.int z0]) := by
  have hx := C.1
  have hb := C.2.1
  unfold X_RD_readOne_B_99 at hf
  exact th_zret C hw hf dX4_readOne_99
def X_RD_readOne_B_98 (RO RC : Int32 → xs_St → (Int32 → xs_St → Prop) → Prop) (K : Int32 → xs_St → Prop) (u : xs_St) : Prop :=
  X_RD_readOne_B_99 RO RC K (0 : Int32) u
set_option maxHeartbeats 4000000 in
set_option maxRecDepth 100000 in
theorem X_RD_readOne_B_98_w {d9 : Nat} (hd9 : 12 ≤ d9) {RO RC : Int32 → xs_St → (Int32 → xs_St → Prop) → Prop} (hRO : ∀ {a1 : Int32} {u : xs_St} {K : Int32 → xs_St → Prop}, RO a1 u K → th_Ci l yX4_readOne cX4_readOne 3 (some .boolean) d9 0 0 (dC, dI) (th_ty cs) (xE ad ak) (wX cs ad q v v) [.ref (q 299), .int a1] u K) (hRC : ∀ {a1 : Int32} {u : xs_St} {K : Int32 → xs_St → Prop}, RC a1 u K → th_Ci l yX4_readCond cX4_readCond 4 (some .boolean) d9 0 0 (dC, dI) (th_ty cs) (xE ad ak) (wX cs ad q v v) [.ref (q 299), .int a1] u K) {K : Int32 → xs_St → Prop} (C : th_Cx p s m args meth c cX4_readOne RX4 3 (some .boolean) (dC, dI) (th_ty cs) (xE ad ak) A) (u : xs_St) (H : Heap) (locs : List Loc) (ls : Array Slot) (hf : X_RD_readOne_B_98 RO RC K u) (hw : th_wI (dC, dI) (wX cs ad q v v) A s.heap u H locs) (hl : lv_has ls 3 []) : W p l e (th_rm (d9 + 1) 0 0) s m args below meth c H locs 0 0 (MQ below (va_Qi K (th_Post (dC, dI) (wX cs ad q v v) A) A) args s 0 0 A) (F0 m 98 ls []) := by
  have hx := C.1
  have hb := C.2.1
  unfold X_RD_readOne_B_98 at hf
  refine lv_iconst (v := (0 : Int32)) hx hb dX4_readOne_98 (by decide) ?_
  exact X_RD_readOne_B_99_w hd9 hRO hRC C (0 : Int32) u _ _ _ hf hw (lv_sub hl [] rfl)
def X_RD_readOne_B_32 (RO RC : Int32 → xs_St → (Int32 → xs_St → Prop) → Prop) (K : Int32 → xs_St → Prop) (x1 : Int32) (x2 : Option Nat) (u : xs_St) : Prop :=
  (((40 : Int32) ≤ (xi u 208) → X_RD_readOne_B_47 RO RC K u) ∧ (¬ (40 : Int32) ≤ (xi u 208) → ((x1 ≤ (10 : Int32) → ∀ u_1 : xs_St, u_1 = xs_si u 208 ((xi u 208) + (1 : Int32)) → X_RD_advance u_1 (fun u_2 => ((¬ x2 = (some 4) → ((x2 = (some 21) → RO (x1 + (1 : Int32)) u_2 (fun r_5 u_4 => ((¬ r_5 = 0 → X_T_addStep_B (some 21) u_4 (fun u_6 => (((1 : Int32) = 0 ∨ (1 : Int32) = 1) ∧ K (1 : Int32) u_6))) ∧ (r_5 = 0 → (((0 : Int32) = 0 ∨ (0 : Int32) = 1) ∧ K (0 : Int32) u_4))))) ∧ (¬ x2 = (some 21) → X_RD_readMeasured x2 u_2 (fun r_9 u_8 => ((r_9 = 0 ∨ r_9 = 1) ∧ K r_9 u_8))))) ∧ (x2 = (some 4) → RC (x1 + (1 : Int32)) u_2 (fun r_11 u_10 => ((r_11 = 0 → X_RD_readOne_B_98 RO RC K u_10) ∧ (¬ r_11 = 0 → X_RD_take (some 5) u_10 (fun r_13 u_12 => ((r_13 = 0 → X_RD_readOne_B_98 RO RC K u_12) ∧ (¬ r_13 = 0 → X_RD_readOne_B_99 RO RC K (1 : Int32) u_12)))))))))) ∧ (¬ x1 ≤ (10 : Int32) → X_RD_readOne_B_47 RO RC K u))))
set_option maxHeartbeats 4000000 in
set_option maxRecDepth 100000 in
theorem X_RD_readOne_B_32_w {d9 : Nat} (hd9 : 12 ≤ d9) {RO RC : Int32 → xs_St → (Int32 → xs_St → Prop) → Prop} (hRO : ∀ {a1 : Int32} {u : xs_St} {K : Int32 → xs_St → Prop}, RO a1 u K → th_Ci l yX4_readOne cX4_readOne 3 (some .boolean) d9 0 0 (dC, dI) (th_ty cs) (xE ad ak) (wX cs ad q v v) [.ref (q 299), .int a1] u K) (hRC : ∀ {a1 : Int32} {u : xs_St} {K : Int32 → xs_St → Prop}, RC a1 u K → th_Ci l yX4_readCond cX4_readCond 4 (some .boolean) d9 0 0 (dC, dI) (th_ty cs) (xE ad ak) (wX cs ad q v v) [.ref (q 299), .int a1] u K) {K : Int32 → xs_St → Prop} (C : th_Cx p s m args meth c cX4_readOne RX4 3 (some .boolean) (dC, dI) (th_ty cs) (xE ad ak) A) (x1 : Int32) (x2 : Option Nat) (u : xs_St) (H : Heap) (locs : List Loc) (ls : Array Slot) (hf : X_RD_readOne_B_32 RO RC K x1 x2 u) (hw : th_wI (dC, dI) (wX cs ad q v v) A s.heap u H locs) (hl : lv_has ls 3 [(0, .ref (q 299)), (1, .int x1), (2, va_re ad x2)]) : W p l e (th_rm (d9 + 1) 0 0) s m args below meth c H locs 0 0 (MQ below (va_Qi K (th_Post (dC, dI) (wX cs ad q v v) A) A) args s 0 0 A) (F0 m 32 ls []) := by
  have hx := C.1
  have hb := C.2.1
  unfold X_RD_readOne_B_32 at hf
  refine lv_aload_n hx hb dX4_readOne_32 rfl (lv_at hl 0 rfl) ?_
  refine xg_208 C hw (C.2.2.2.2.1 _ hwF_X4_48) dX4_readOne_33 ?_
  refine lv_bipush (v := (40 : Int32)) hx hb dX4_readOne_36 (by decide) ?_
  refine lv_icmp_ge (tgt := 47) hx hb dX4_readOne_38 (by decide) (fun hc => ?_) (fun hc => ?_)
  · replace hf := hf.1 hc
    clear hc
    exact X_RD_readOne_B_47_w hd9 hRO hRC C  u _ _ _ hf hw (lv_sub hl [0] rfl)
  · replace hf := hf.2 hc
    clear hc
    refine lv_iload_n hx hb dX4_readOne_41 rfl (lv_at hl 1 rfl) ?_
    refine lv_bipush (v := (10 : Int32)) hx hb dX4_readOne_42 (by decide) ?_
    refine lv_icmp_le (tgt := 53) hx hb dX4_readOne_44 (by decide) (fun hc => ?_) (fun hc => ?_)
    · replace hf := hf.1 hc
      clear hc
      refine lv_aload_n hx hb dX4_readOne_53 rfl (lv_at hl 0 rfl) ?_
      refine lv_dup hx hb dX4_readOne_54 rfl ?_
      refine xg_208 C hw (C.2.2.2.2.1 _ hwF_X4_48) dX4_readOne_55 ?_
      refine lv_iconst (v := (1 : Int32)) hx hb dX4_readOne_58 (by decide) ?_
      refine lv_iadd hx hb dX4_readOne_59 ?_
      refine xp_208 C hw (C.2.2.2.2.1 _ hwF_X4_48) dX4_readOne_60 (fun u_1 e9 H locs hw => ?_)
      replace hf := hf u_1 e9
      clear e9
      refine lv_aload_n hx hb dX4_readOne_63 rfl (lv_at hl 0 rfl) ?_
      refine th_callVv (As := []) (rest := []) C lkX4_74 (X_RD_advance_c hf) hw (xRc_RD C hw) rfl rfl ⟨by simp only [th_rm]; omega, by simp only [th_rm]; omega⟩ hl.1 (Nat.le_of_ble_eq_true rfl) ⟨Nat.le_of_ble_eq_true rfl, Nat.le_of_ble_eq_true rfl⟩ dX4_readOne_64 (fun u_2 H locs hf hw => ?_)
      refine th_aload_n hx hb dX4_readOne_67 rfl (lv_at hl 2 rfl) ?_
      refine xst C hw 4 (by decide) (C.2.2.2.2.1 _ hwF_X4_256) dX4_readOne_68 ?_
      refine x_acmp_ne (tgt := 100) C dX4_readOne_71 (by decide) (fun hc => ?_) (fun hc => ?_)
      · replace hf := hf.1 hc
        clear hc
        refine th_aload_n hx hb dX4_readOne_100 rfl (lv_at hl 2 rfl) ?_
        refine xst C hw 21 (by decide) (C.2.2.2.2.1 _ hwF_X4_253) dX4_readOne_101 ?_
        refine x_acmp_eq (tgt := 113) C dX4_readOne_104 (by decide) (fun hc => ?_) (fun hc => ?_)
        · replace hf := hf.1 hc
          clear hc
          refine lv_aload_n hx hb dX4_readOne_113 rfl (lv_at hl 0 rfl) ?_
          refine lv_iload_n hx hb dX4_readOne_114 rfl (lv_at hl 1 rfl) ?_
          refine lv_iconst (v := (1 : Int32)) hx hb dX4_readOne_115 (by decide) ?_
          refine lv_iadd hx hb dX4_readOne_116 ?_
          refine th_callVi (As := [.int (x1 + (1 : Int32))]) (rest := []) C lkX4_240 (hRO hf) hw (xRc_RD C hw) rfl rfl ⟨by simp only [th_rm]; omega, by simp only [th_rm]; omega⟩ hl.1 (Nat.le_of_ble_eq_true rfl) ⟨Nat.le_of_ble_eq_true rfl, Nat.le_of_ble_eq_true rfl⟩ dX4_readOne_117 (fun r_5 u_4 H locs hf hw => ?_)
          refine lv_if_ne (tgt := 125) hx hb dX4_readOne_120 (by decide) (fun hc => ?_) (fun hc => ?_)
          · replace hf := hf.1 hc
            clear hc
            refine lv_aload_n hx hb dX4_readOne_125 rfl (lv_at hl 0 rfl) ?_
            refine xg_204 C hw (C.2.2.2.2.1 _ hwF_X4_31) dX4_readOne_126 ?_
            refine xst C hw 21 (by decide) (C.2.2.2.2.1 _ hwF_X4_253) dX4_readOne_129 ?_
            refine th_callVv (As := [va_re ad (some 21)]) (rest := []) C lkX4_246 (X_T_addStep_B_c hf) hw (xRc_TB C hw) rfl rfl ⟨by simp only [th_rm]; omega, by simp only [th_rm]; omega⟩ hl.1 (Nat.le_of_ble_eq_true rfl) ⟨Nat.le_of_ble_eq_true rfl, Nat.le_of_ble_eq_true rfl⟩ dX4_readOne_132 (fun u_6 H locs hf hw => ?_)
            refine lv_iconst (v := (1 : Int32)) hx hb dX4_readOne_135 (by decide) ?_
            exact th_zret C hw hf dX4_readOne_136
          · replace hf := hf.2 hc
            clear hc
            refine lv_iconst (v := (0 : Int32)) hx hb dX4_readOne_123 (by decide) ?_
            exact th_zret C hw hf dX4_readOne_124
        · replace hf := hf.2 hc
          clear hc
          refine lv_aload_n hx hb dX4_readOne_107 rfl (lv_at hl 0 rfl) ?_
          refine th_aload_n hx hb dX4_readOne_108 rfl (lv_at hl 2 rfl) ?_
          refine th_callVi (As := [va_re ad x2]) (rest := []) C lkX4_265 (X_RD_readMeasured_c hf) hw (xRc_RD C hw) rfl rfl ⟨by simp only [th_rm]; omega, by simp only [th_rm]; omega⟩ hl.1 (Nat.le_of_ble_eq_true rfl) ⟨Nat.le_of_ble_eq_true rfl, Nat.le_of_ble_eq_true rfl⟩ dX4_readOne_109 (fun r_9 u_8 H locs hf hw => ?_)
          exact th_zret C hw hf dX4_readOne_112
      · replace hf := hf.2 hc
        clear hc
        refine lv_aload_n hx hb dX4_readOne_74 rfl (lv_at hl 0 rfl) ?_
        refine lv_iload_n hx hb dX4_readOne_75 rfl (lv_at hl 1 rfl) ?_
        refine lv_iconst (v := (1 : Int32)) hx hb dX4_readOne_76 (by decide) ?_
        refine lv_iadd hx hb dX4_readOne_77 ?_
        refine th_callVi (As := [.int (x1 + (1 : Int32))]) (rest := []) C lkX4_195 (hRC hf) hw (xRc_RD C hw) rfl rfl ⟨by simp only [th_rm]; omega, by simp only [th_rm]; omega⟩ hl.1 (Nat.le_of_ble_eq_true rfl) ⟨Nat.le_of_ble_eq_true rfl, Nat.le_of_ble_eq_true rfl⟩ dX4_readOne_78 (fun r_11 u_10 H locs hf hw => ?_)
        refine lv_if_eq (tgt := 98) hx hb dX4_readOne_81 (by decide) (fun hc => ?_) (fun hc => ?_)
        · replace hf := hf.1 hc
          clear hc
          exact X_RD_readOne_B_98_w hd9 hRO hRC C  u_10 _ _ _ hf hw (lv_sub hl [] rfl)
        · replace hf := hf.2 hc
          clear hc
          refine lv_aload_n hx hb dX4_readOne_84 rfl (lv_at hl 0 rfl) ?_
          refine xst C hw 5 (by decide) (C.2.2.2.2.1 _ hwF_X4_262) dX4_readOne_85 ?_
          refine th_callVi (As := [va_re ad (some 5)]) (rest := []) C lkX4_90 (X_RD_take_c hf) hw (xRc_RD C hw) rfl rfl ⟨by simp only [th_rm]; omega, by simp only [th_rm]; omega⟩ hl.1 (Nat.le_of_ble_eq_true rfl) ⟨Nat.le_of_ble_eq_true rfl, Nat.le_of_ble_eq_true rfl⟩ dX4_readOne_88 (fun r_13 u_12 H locs hf hw => ?_)
          refine lv_if_eq (tgt := 98) hx hb dX4_readOne_91 (by decide) (fun hc => ?_) (fun hc => ?_)
          · replace hf := hf.1 hc
            clear hc
            exact X_RD_readOne_B_98_w hd9 hRO hRC C  u_12 _ _ _ hf hw (lv_sub hl [] rfl)
          · replace hf := hf.2 hc
            clear hc
            refine lv_iconst (v := (1 : Int32)) hx hb dX4_readOne_94 (by decide) ?_
            refine lv_goto (tgt := 99) hx hb dX4_readOne_95 (by decide) ?_
            exact X_RD_readOne_B_99_w hd9 hRO hRC C (1 : Int32) u_12 _ _ _ hf hw (lv_sub hl [] rfl)
    · replace hf := hf.2 hc
      clear hc
      exact X_RD_readOne_B_47_w hd9 hRO hRC C  u _ _ _ hf hw (lv_sub hl [0] rfl)
def X_RD_readOne_B (RO RC : Int32 → xs_St → (Int32 → xs_St → Prop) → Prop) (a1 : Int32) (u : xs_St) (K : Int32 → xs_St → Prop) : Prop :=
  (((xr u 206) = (some 21) → X_RD_readOne_B_32 RO RC K a1 (xr u 206) u) ∧ (¬ (xr u 206) = (some 21) → (((xr u 206) = (some 4) → X_RD_readOne_B_32 RO RC K a1 (xr u 206) u) ∧ (¬ (xr u 206) = (some 4) → X_RD_isMeasure (xr u 206) u (fun r_2 u_1 => ((¬ r_2 = 0 → X_RD_readOne_B_32 RO RC K a1 (xr u 206) u_1) ∧ (r_2 = 0 → X_RD_faulty (1 : Int32) u_1 (fun r_4 u_3 => ((r_4 = 0 ∨ r_4 = 1) ∧ K r_4 u_3)))))))))
set_option maxHeartbeats 4000000 in
set_option maxRecDepth 100000 in
theorem X_RD_readOne_B_c {l : Launch} {dC : Nat → ClassId} {dI : Nat → Nat → Nat} {cs : Nat → ClassId} {ad ak : Nat → Nat} {q v : Nat → Nat} {d9 : Nat} (hd9 : 12 ≤ d9) {RO RC : Int32 → xs_St → (Int32 → xs_St → Prop) → Prop} (hRO : ∀ {a1 : Int32} {u : xs_St} {K : Int32 → xs_St → Prop}, RO a1 u K → th_Ci l yX4_readOne cX4_readOne 3 (some .boolean) d9 0 0 (dC, dI) (th_ty cs) (xE ad ak) (wX cs ad q v v) [.ref (q 299), .int a1] u K) (hRC : ∀ {a1 : Int32} {u : xs_St} {K : Int32 → xs_St → Prop}, RC a1 u K → th_Ci l yX4_readCond cX4_readCond 4 (some .boolean) d9 0 0 (dC, dI) (th_ty cs) (xE ad ak) (wX cs ad q v v) [.ref (q 299), .int a1] u K) {a1 : Int32} {u : xs_St} {K : Int32 → xs_St → Prop} (hf : X_RD_readOne_B RO RC a1 u K) : th_Ci l yX4_readOne cX4_readOne 3 (some .boolean) (d9 + 1) 0 0 (dC, dI) (th_ty cs) (xE ad ak) (wX cs ad q v v) [.ref (q 299), .int a1] u K := by
  refine th_ofi (by decide) (Nat.le_of_ble_eq_true rfl) (xE_ok ad ak) ?_
  intro p e s m below meth c A ls C hw hl
  have C : th_Cx p s m _ meth c cX4_readOne RX4 3 (some .boolean) (dC, dI) (th_ty cs) (xE ad ak) A := C
  have hl : lv_has ls 3 [(0, .ref (q 299)), (1, .int a1)] := hl
  generalize (List.toArray _ : Array Value) = args at C ⊢
  have hx := C.1
  have hb := C.2.1
  unfold X_RD_readOne_B at hf
  refine lv_aload_n hx hb dX4_readOne_0 rfl (lv_at hl 0 rfl) ?_
  refine xg_206 C hw (C.2.2.2.2.1 _ hwF_X4_42) dX4_readOne_1 ?_
  refine th_astore_n (r := ((xr u 206)).map ad) (lv' := [(2, va_re ad (xr u 206)), (0, .ref (q 299)), (1, .int a1)]) hx hb dX4_readOne_4 rfl hl (by decide) rfl (fun ls hl => ?_)
  refine th_aload_n hx hb dX4_readOne_5 rfl (lv_at hl 0 rfl) ?_
  refine xst C hw 21 (by decide) (C.2.2.2.2.1 _ hwF_X4_253) dX4_readOne_6 ?_
  refine x_acmp_eq (tgt := 32) C dX4_readOne_9 (by decide) (fun hc => ?_) (fun hc => ?_)
  · replace hf := hf.1 hc
    clear hc
    exact X_RD_readOne_B_32_w hd9 hRO hRC C a1 (xr u 206) u _ _ _ hf hw (lv_sub hl [1, 2, 0] rfl)
  · replace hf := hf.2 hc
    clear hc
    refine th_aload_n hx hb dX4_readOne_12 rfl (lv_at hl 0 rfl) ?_
    refine xst C hw 4 (by decide) (C.2.2.2.2.1 _ hwF_X4_256) dX4_readOne_13 ?_
    refine x_acmp_eq (tgt := 32) C dX4_readOne_16 (by decide) (fun hc => ?_) (fun hc => ?_)
    · replace hf := hf.1 hc
      clear hc
      exact X_RD_readOne_B_32_w hd9 hRO hRC C a1 (xr u 206) u _ _ _ hf hw (lv_sub hl [1, 2, 0] rfl)
    · replace hf := hf.2 hc
      clear hc
      refine th_aload_n hx hb dX4_readOne_19 rfl (lv_at hl 0 rfl) ?_
      refine th_callSi (As := [va_re ad (xr u 206)]) (rest := []) C lkX4_259 (X_RD_isMeasure_c hf) hw rfl rfl ⟨by simp only [th_rm]; omega, by simp only [th_rm]; omega⟩ hl.1 (Nat.le_of_ble_eq_true rfl) ⟨Nat.le_of_ble_eq_true rfl, Nat.le_of_ble_eq_true rfl⟩ dX4_readOne_20 (fun r_2 u_1 H locs hf hw => ?_)
      refine lv_if_ne (tgt := 32) hx hb dX4_readOne_23 (by decide) (fun hc => ?_) (fun hc => ?_)
      · replace hf := hf.1 hc
        clear hc
        exact X_RD_readOne_B_32_w hd9 hRO hRC C a1 (xr u 206) u_1 _ _ _ hf hw (lv_sub hl [1, 2, 0] rfl)
      · replace hf := hf.2 hc
        clear hc
        refine lv_aload_n hx hb dX4_readOne_26 rfl (lv_at hl 1 rfl) ?_
        refine lv_iconst (v := (1 : Int32)) hx hb dX4_readOne_27 (by decide) ?_
        refine th_callVi (As := [.int (1 : Int32)]) (rest := []) C lkX4_99 (X_RD_faulty_c hf) hw (xRc_RD C hw) rfl rfl ⟨by simp only [th_rm]; omega, by simp only [th_rm]; omega⟩ hl.1 (Nat.le_of_ble_eq_true rfl) ⟨Nat.le_of_ble_eq_true rfl, Nat.le_of_ble_eq_true rfl⟩ dX4_readOne_28 (fun r_4 u_3 H locs hf hw => ?_)
        exact th_zret C hw hf dX4_readOne_31
theorem dX4_readCond_0 : decode cX4_readCond 0 = .ok (.iconst 0, 1) := by decide +kernel
theorem dX4_readCond_1 : decode cX4_readCond 1 = .ok (.istore_n 2, 1) := by decide +kernel
theorem dX4_readCond_2 : decode cX4_readCond 2 = .ok (.iload_n 2, 1) := by decide +kernel
theorem dX4_readCond_3 : decode cX4_readCond 3 = .ok (.bipush 40, 2) := by decide +kernel
theorem dX4_readCond_5 : decode cX4_readCond 5 = .ok (.if_icmp .gt 97, 3) := by decide +kernel
theorem dX4_readCond_8 : decode cX4_readCond 8 = .ok (.aload_n 0, 1) := by decide +kernel
theorem dX4_readCond_9 : decode cX4_readCond 9 = .ok (.iload_n 1, 1) := by decide +kernel
theorem dX4_readCond_10 : decode cX4_readCond 10 = .ok (.invokevirtual 240, 3) := by decide +kernel
theorem dX4_readCond_13 : decode cX4_readCond 13 = .ok (.ifCond .ne 5, 3) := by decide +kernel
theorem dX4_readCond_16 : decode cX4_readCond 16 = .ok (.iconst 0, 1) := by decide +kernel
theorem dX4_readCond_17 : decode cX4_readCond 17 = .ok (.ireturn, 1) := by decide +kernel
theorem dX4_readCond_18 : decode cX4_readCond 18 = .ok (.iconst 0, 1) := by decide +kernel
theorem dX4_readCond_19 : decode cX4_readCond 19 = .ok (.istore_n 3, 1) := by decide +kernel
theorem dX4_readCond_20 : decode cX4_readCond 20 = .ok (.iload_n 3, 1) := by decide +kernel
theorem dX4_readCond_21 : decode cX4_readCond 21 = .ok (.bipush 40, 2) := by decide +kernel
theorem dX4_readCond_23 : decode cX4_readCond 23 = .ok (.if_icmp .gt 43, 3) := by decide +kernel
theorem dX4_readCond_26 : decode cX4_readCond 26 = .ok (.aload_n 0, 1) := by decide +kernel
theorem dX4_readCond_27 : decode cX4_readCond 27 = .ok (.getfield 42, 3) := by decide +kernel
theorem dX4_readCond_30 : decode cX4_readCond 30 = .ok (.getstatic 243, 3) := by decide +kernel
theorem dX4_readCond_33 : decode cX4_readCond 33 = .ok (.if_acmp .ne 33, 3) := by decide +kernel
theorem dX4_readCond_36 : decode cX4_readCond 36 = .ok (.aload_n 0, 1) := by decide +kernel
theorem dX4_readCond_37 : decode cX4_readCond 37 = .ok (.invokevirtual 74, 3) := by decide +kernel
theorem dX4_readCond_40 : decode cX4_readCond 40 = .ok (.aload_n 0, 1) := by decide +kernel
theorem dX4_readCond_41 : decode cX4_readCond 41 = .ok (.iload_n 1, 1) := by decide +kernel
theorem dX4_readCond_42 : decode cX4_readCond 42 = .ok (.invokevirtual 240, 3) := by decide +kernel
theorem dX4_readCond_45 : decode cX4_readCond 45 = .ok (.ifCond .ne 5, 3) := by decide +kernel
theorem dX4_readCond_48 : decode cX4_readCond 48 = .ok (.iconst 0, 1) := by decide +kernel
theorem dX4_readCond_49 : decode cX4_readCond 49 = .ok (.ireturn, 1) := by decide +kernel
theorem dX4_readCond_50 : decode cX4_readCond 50 = .ok (.aload_n 0, 1) := by decide +kernel
theorem dX4_readCond_51 : decode cX4_readCond 51 = .ok (.getfield 31, 3) := by decide +kernel
theorem dX4_readCond_54 : decode cX4_readCond 54 = .ok (.getstatic 243, 3) := by decide +kernel
theorem dX4_readCond_57 : decode cX4_readCond 57 = .ok (.invokevirtual 246, 3) := by decide +kernel
theorem dX4_readCond_60 : decode cX4_readCond 60 = .ok (.iinc 3 1, 3) := by decide +kernel
theorem dX4_readCond_63 : decode cX4_readCond 63 = .ok (.goto (-43), 3) := by decide +kernel
theorem dX4_readCond_66 : decode cX4_readCond 66 = .ok (.iload_n 2, 1) := by decide +kernel
theorem dX4_readCond_67 : decode cX4_readCond 67 = .ok (.ifCond .le 13, 3) := by decide +kernel
theorem dX4_readCond_70 : decode cX4_readCond 70 = .ok (.aload_n 0, 1) := by decide +kernel
theorem dX4_readCond_71 : decode cX4_readCond 71 = .ok (.getfield 31, 3) := by decide +kernel
theorem dX4_readCond_74 : decode cX4_readCond 74 = .ok (.getstatic 250, 3) := by decide +kernel
theorem dX4_readCond_77 : decode cX4_readCond 77 = .ok (.invokevirtual 246, 3) := by decide +kernel
theorem dX4_readCond_80 : decode cX4_readCond 80 = .ok (.aload_n 0, 1) := by decide +kernel
theorem dX4_readCond_81 : decode cX4_readCond 81 = .ok (.getfield 42, 3) := by decide +kernel
theorem dX4_readCond_84 : decode cX4_readCond 84 = .ok (.getstatic 250, 3) := by decide +kernel
theorem dX4_readCond_87 : decode cX4_readCond 87 = .ok (.if_acmp .eq 5, 3) := by decide +kernel
theorem dX4_readCond_90 : decode cX4_readCond 90 = .ok (.iconst 1, 1) := by decide +kernel
theorem dX4_readCond_91 : decode cX4_readCond 91 = .ok (.ireturn, 1) := by decide +kernel
theorem dX4_readCond_92 : decode cX4_readCond 92 = .ok (.aload_n 0, 1) := by decide +kernel
theorem dX4_readCond_93 : decode cX4_readCond 93 = .ok (.invokevirtual 74, 3) := by decide +kernel
theorem dX4_readCond_96 : decode cX4_readCond 96 = .ok (.iinc 2 1, 3) := by decide +kernel
theorem dX4_readCond_99 : decode cX4_readCond 99 = .ok (.goto (-97), 3) := by decide +kernel
theorem dX4_readCond_102 : decode cX4_readCond 102 = .ok (.aload_n 0, 1) := by decide +kernel
theorem dX4_readCond_103 : decode cX4_readCond 103 = .ok (.iconst 4, 1) := by decide +kernel
theorem dX4_readCond_104 : decode cX4_readCond 104 = .ok (.invokevirtual 99, 3) := by decide +kernel
theorem dX4_readCond_107 : decode cX4_readCond 107 = .ok (.ireturn, 1) := by decide +kernel
def X_RD_readCond_B_80 (RO RC : Int32 → xs_St → (Int32 → xs_St → Prop) → Prop) (K : Int32 → xs_St → Prop) (k2 : Int32 → Int32 → xs_St → Prop) (x1 : Int32) (x2 : Int32) (u : xs_St) : Prop :=
  (((xr u 206) = (some 19) → X_RD_advance u (fun u_1 => ∀ x2_3 : Int32, x2_3 = x2 + (1 : Int32) → k2 x1 x2_3 u_1)) ∧ (¬ (xr u 206) = (some 19) → (((1 : Int32) = 0 ∨ (1 : Int32) = 1) ∧ K (1 : Int32) u)))
set_option maxHeartbeats 4000000 in
set_option maxRecDepth 100000 in
theorem X_RD_readCond_B_80_w {d9 : Nat} (hd9 : 12 ≤ d9) {RO RC : Int32 → xs_St → (Int32 → xs_St → Prop) → Prop} (hRO : ∀ {a1 : Int32} {u : xs_St} {K : Int32 → xs_St → Prop}, RO a1 u K → th_Ci l yX4_readOne cX4_readOne 3 (some .boolean) d9 0 0 (dC, dI) (th_ty cs) (xE ad ak) (wX cs ad q v v) [.ref (q 299), .int a1] u K) (hRC : ∀ {a1 : Int32} {u : xs_St} {K : Int32 → xs_St → Prop}, RC a1 u K → th_Ci l yX4_readCond cX4_readCond 4 (some .boolean) d9 0 0 (dC, dI) (th_ty cs) (xE ad ak) (wX cs ad q v v) [.ref (q 299), .int a1] u K) {K : Int32 → xs_St → Prop} {k2 : Int32 → Int32 → xs_St → Prop} (C : th_Cx p s m args meth c cX4_readCond RX4 4 (some .boolean) (dC, dI) (th_ty cs) (xE ad ak) A) (hk2 : ∀ (x1 : Int32) (x2 : Int32) (u : xs_St) (H : Heap) (locs : List Loc) (ls : Array Slot), k2 x1 x2 u → th_wI (dC, dI) (wX cs ad q v v) A s.heap u H locs → lv_has ls 4 [(0, .ref (q 299)), (1, .int x1), (2, .int x2)] → W p l e (th_rm (d9 + 1) 0 0) s m args below meth c H locs 0 0 (MQ below (va_Qi K (th_Post (dC, dI) (wX cs ad q v v) A) A) args s 0 0 A) (F0 m 2 ls [])) (x1 : Int32) (x2 : Int32) (u : xs_St) (H : Heap) (locs : List Loc) (ls : Array Slot) (hf : X_RD_readCond_B_80 RO RC K k2 x1 x2 u) (hw : th_wI (dC, dI) (wX cs ad q v v) A s.heap u H locs) (hl : lv_has ls 4 [(0, .ref (q 299)), (1, .int x1), (2, .int x2)]) : W p l e (th_rm (d9 + 1) 0 0) s m args below meth c H locs 0 0 (MQ below (va_Qi K (th_Post (dC, dI) (wX cs ad q v v) A) A) args s 0 0 A) (F0 m 80 ls []) := by
  have hx := C.1
  have hb := C.2.1
  unfold X_RD_readCond_B_80 at hf
  refine lv_aload_n hx hb dX4_readCond_80 rfl (lv_at hl 0 rfl) ?_
  refine xg_206 C hw (C.2.2.2.2.1 _ hwF_X4_42) dX4_readCond_81 ?_
  refine xst C hw 19 (by decide) (C.2.2.2.2.1 _ hwF_X4_250) dX4_readCond_84 ?_
  refine x_acmp_eq (tgt := 92) C dX4_readCond_87 (by decide) (fun hc => ?_) (fun hc => ?_)
  · replace hf := hf.1 hc
    clear hc
    refine lv_aload_n hx hb dX4_readCond_92 rfl (lv_at hl 0 rfl) ?_
    refine th_callVv (As := []) (rest := []) C lkX4_74 (X_RD_advance_c hf) hw (xRc_RD C hw) rfl rfl ⟨by simp only [th_rm]; omega, by simp only [th_rm]; omega⟩ hl.1 (Nat.le_of_ble_eq_true rfl) ⟨Nat.le_of_ble_eq_true rfl, Nat.le_of_ble_eq_true rfl⟩ dX4_readCond_93 (fun u_1 H locs hf hw => ?_)
    obtain ⟨x2_3, e9⟩ : ∃ y : Int32, y = x2 + (1 : Int32) := ⟨_, rfl⟩
    replace hf := hf x2_3 e9
    refine lv_iinc (v := x2_3) (lv' := [(2, .int x2_3), (0, .ref (q 299)), (1, .int x1)]) hx hb dX4_readCond_96 hl (k := 2) rfl (by rw [e9]; rfl) (by decide) rfl (fun ls hl => ?_)
    clear e9
    refine lv_goto (tgt := 2) hx hb dX4_readCond_99 (by decide) ?_
    exact hk2 x1 x2_3 u_1 _ _ _ hf hw (lv_sub hl [1, 2, 0] rfl)
  · replace hf := hf.2 hc
    clear hc
    refine lv_iconst (v := (1 : Int32)) hx hb dX4_readCond_90 (by decide) ?_
    exact th_zret C hw hf dX4_readCond_91
def X_RD_readCond_B_66 (RO RC : Int32 → xs_St → (Int32 → xs_St → Prop) → Prop) (K : Int32 → xs_St → Prop) (k2 : Int32 → Int32 → xs_St → Prop) (x1 : Int32) (x2 : Int32) (u : xs_St) : Prop :=
  ((x2 ≤ 0 → X_RD_readCond_B_80 RO RC K k2 x1 x2 u) ∧ (¬ x2 ≤ 0 → X_T_addStep_B (some 19) u (fun u_1 => X_RD_readCond_B_80 RO RC K k2 x1 x2 u_1)))
set_option maxHeartbeats 4000000 in
set_option maxRecDepth 100000 in
theorem X_RD_readCond_B_66_w {d9 : Nat} (hd9 : 12 ≤ d9) {RO RC : Int32 → xs_St → (Int32 → xs_St → Prop) → Prop} (hRO : ∀ {a1 : Int32} {u : xs_St} {K : Int32 → xs_St → Prop}, RO a1 u K → th_Ci l yX4_readOne cX4_readOne 3 (some .boolean) d9 0 0 (dC, dI) (th_ty cs) (xE ad ak) (wX cs ad q v v) [.ref (q 299), .int a1] u K) (hRC : ∀ {a1 : Int32} {u : xs_St} {K : Int32 → xs_St → Prop}, RC a1 u K → th_Ci l yX4_readCond cX4_readCond 4 (some .boolean) d9 0 0 (dC, dI) (th_ty cs) (xE ad ak) (wX cs ad q v v) [.ref (q 299), .int a1] u K) {K : Int32 → xs_St → Prop} {k2 : Int32 → Int32 → xs_St → Prop} (C : th_Cx p s m args meth c cX4_readCond RX4 4 (some .boolean) (dC, dI) (th_ty cs) (xE ad ak) A) (hk2 : ∀ (x1 : Int32) (x2 : Int32) (u : xs_St) (H : Heap) (locs : List Loc) (ls : Array Slot), k2 x1 x2 u → th_wI (dC, dI) (wX cs ad q v v) A s.heap u H locs → lv_has ls 4 [(0, .ref (q 299)), (1, .int x1), (2, .int x2)] → W p l e (th_rm (d9 + 1) 0 0) s m args below meth c H locs 0 0 (MQ below (va_Qi K (th_Post (dC, dI) (wX cs ad q v v) A) A) args s 0 0 A) (F0 m 2 ls [])) (x1 : Int32) (x2 : Int32) (u : xs_St) (H : Heap) (locs : List Loc) (ls : Array Slot) (hf : X_RD_readCond_B_66 RO RC K k2 x1 x2 u) (hw : th_wI (dC, dI) (wX cs ad q v v) A s.heap u H locs) (hl : lv_has ls 4 [(0, .ref (q 299)), (1, .int x1), (2, .int x2)]) : W p l e (th_rm (d9 + 1) 0 0) s m args below meth c H locs 0 0 (MQ below (va_Qi K (th_Post (dC, dI) (wX cs ad q v v) A) A) args s 0 0 A) (F0 m 66 ls []) := by
  have hx := C.1
  have hb := C.2.1
  unfold X_RD_readCond_B_66 at hf
  refine lv_iload_n hx hb dX4_readCond_66 rfl (lv_at hl 2 rfl) ?_
  refine lv_if_le (tgt := 80) hx hb dX4_readCond_67 (by decide) (fun hc => ?_) (fun hc => ?_)
  · replace hf := hf.1 hc
    clear hc
    exact X_RD_readCond_B_80_w hd9 hRO hRC C hk2 x1 x2 u _ _ _ hf hw (lv_sub hl [0, 1, 2] rfl)
  · replace hf := hf.2 hc
    clear hc
    refine lv_aload_n hx hb dX4_readCond_70 rfl (lv_at hl 0 rfl) ?_
    refine xg_204 C hw (C.2.2.2.2.1 _ hwF_X4_31) dX4_readCond_71 ?_
    refine xst C hw 19 (by decide) (C.2.2.2.2.1 _ hwF_X4_250) dX4_readCond_74 ?_
    refine th_callVv (As := [va_re ad (some 19)]) (rest := []) C lkX4_246 (X_T_addStep_B_c hf) hw (xRc_TB C hw) rfl rfl ⟨by simp only [th_rm]; omega, by simp only [th_rm]; omega⟩ hl.1 (Nat.le_of_ble_eq_true rfl) ⟨Nat.le_of_ble_eq_true rfl, Nat.le_of_ble_eq_true rfl⟩ dX4_readCond_77 (fun u_1 H locs hf hw => ?_)
    exact X_RD_readCond_B_80_w hd9 hRO hRC C hk2 x1 x2 u_1 _ _ _ hf hw (lv_sub hl [0, 1, 2] rfl)
def X_RD_readCond_B_20 (RO RC : Int32 → xs_St → (Int32 → xs_St → Prop) → Prop) (K : Int32 → xs_St → Prop) (k2 : Int32 → Int32 → xs_St → Prop) (k20 : Int32 → Int32 → Int32 → xs_St → Prop) (x1 : Int32) (x2 : Int32) (x3 : Int32) (u : xs_St) : Prop :=
  (((40 : Int32) < x3 → X_RD_readCond_B_66 RO RC K k2 x1 x2 u) ∧ (¬ (40 : Int32) < x3 → ((¬ (xr u 206) = (some 20) → X_RD_readCond_B_66 RO RC K k2 x1 x2 u) ∧ ((xr u 206) = (some 20) → X_RD_advance u (fun u_1 => RO x1 u_1 (fun r_4 u_3 => ((¬ r_4 = 0 → X_T_addStep_B (some 20) u_3 (fun u_5 => ∀ x3_7 : Int32, x3_7 = x3 + (1 : Int32) → k20 x1 x2 x3_7 u_5)) ∧ (r_4 = 0 → (((0 : Int32) = 0 ∨ (0 : Int32) = 1) ∧ K (0 : Int32) u_3)))))))))
set_option maxHeartbeats 4000000 in
set_option maxRecDepth 100000 in
theorem X_RD_readCond_B_20_w {d9 : Nat} (hd9 : 12 ≤ d9) {RO RC : Int32 → xs_St → (Int32 → xs_St → Prop) → Prop} (hRO : ∀ {a1 : Int32} {u : xs_St} {K : Int32 → xs_St → Prop}, RO a1 u K → th_Ci l yX4_readOne cX4_readOne 3 (some .boolean) d9 0 0 (dC, dI) (th_ty cs) (xE ad ak) (wX cs ad q v v) [.ref (q 299), .int a1] u K) (hRC : ∀ {a1 : Int32} {u : xs_St} {K : Int32 → xs_St → Prop}, RC a1 u K → th_Ci l yX4_readCond cX4_readCond 4 (some .boolean) d9 0 0 (dC, dI) (th_ty cs) (xE ad ak) (wX cs ad q v v) [.ref (q 299), .int a1] u K) {K : Int32 → xs_St → Prop} {k2 : Int32 → Int32 → xs_St → Prop} {k20 : Int32 → Int32 → Int32 → xs_St → Prop} (C : th_Cx p s m args meth c cX4_readCond RX4 4 (some .boolean) (dC, dI) (th_ty cs) (xE ad ak) A) (hk2 : ∀ (x1 : Int32) (x2 : Int32) (u : xs_St) (H : Heap) (locs : List Loc) (ls : Array Slot), k2 x1 x2 u → th_wI (dC, dI) (wX cs ad q v v) A s.heap u H locs → lv_has ls 4 [(0, .ref (q 299)), (1, .int x1), (2, .int x2)] → W p l e (th_rm (d9 + 1) 0 0) s m args below meth c H locs 0 0 (MQ below (va_Qi K (th_Post (dC, dI) (wX cs ad q v v) A) A) args s 0 0 A) (F0 m 2 ls [])) (hk20 : ∀ (x1 : Int32) (x2 : Int32) (x3 : Int32) (u : xs_St) (H : Heap) (locs : List Loc) (ls : Array Slot), k20 x1 x2 x3 u → th_wI (dC, dI) (wX cs ad q v v) A s.heap u H locs → lv_has ls 4 [(0, .ref (q 299)), (1, .int x1), (2, .int x2), (3, .int x3)] → W p l e (th_rm (d9 + 1) 0 0) s m args below meth c H locs 0 0 (MQ below (va_Qi K (th_Post (dC, dI) (wX cs ad q v v) A) A) args s 0 0 A) (F0 m 20 ls [])) (x1 : Int32) (x2 : Int32) (x3 : Int32) (u : xs_St) (H : Heap) (locs : List Loc) (ls : Array Slot) (hf : X_RD_readCond_B_20 RO RC K k2 k20 x1 x2 x3 u) (hw : th_wI (dC, dI) (wX cs ad q v v) A s.heap u H locs) (hl : lv_has ls 4 [(0, .ref (q 299)), (1, .int x1), (2, .int x2), (3, .int x3)]) : W p l e (th_rm (d9 + 1) 0 0) s m args below meth c H locs 0 0 (MQ below (va_Qi K (th_Post (dC, dI) (wX cs ad q v v) A) A) args s 0 0 A) (F0 m 20 ls []) := by
  have hx := C.1
  have hb := C.2.1
  unfold X_RD_readCond_B_20 at hf
  refine lv_iload_n hx hb dX4_readCond_20 rfl (lv_at hl 3 rfl) ?_
  refine lv_bipush (v := (40 : Int32)) hx hb dX4_readCond_21 (by decide) ?_
  refine lv_icmp_gt (tgt := 66) hx hb dX4_readCond_23 (by decide) (fun hc => ?_) (fun hc => ?_)
  · replace hf := hf.1 hc
    clear hc
    exact X_RD_readCond_B_66_w hd9 hRO hRC C hk2 x1 x2 u _ _ _ hf hw (lv_sub hl [0, 1, 2] rfl)
  · replace hf := hf.2 hc
    clear hc
    refine lv_aload_n hx hb dX4_readCond_26 rfl (lv_at hl 0 rfl) ?_
    refine xg_206 C hw (C.2.2.2.2.1 _ hwF_X4_42) dX4_readCond_27 ?_
    refine xst C hw 20 (by decide) (C.2.2.2.2.1 _ hwF_X4_243) dX4_readCond_30 ?_
    refine x_acmp_ne (tgt := 66) C dX4_readCond_33 (by decide) (fun hc => ?_) (fun hc => ?_)
    · replace hf := hf.1 hc
      clear hc
      exact X_RD_readCond_B_66_w hd9 hRO hRC C hk2 x1 x2 u _ _ _ hf hw (lv_sub hl [0, 1, 2] rfl)
    · replace hf := hf.2 hc
      clear hc
      refine lv_aload_n hx hb dX4_readCond_36 rfl (lv_at hl 0 rfl) ?_
      refine th_callVv (As := []) (rest := []) C lkX4_74 (X_RD_advance_c hf) hw (xRc_RD C hw) rfl rfl ⟨by simp only [th_rm]; omega, by simp only [th_rm]; omega⟩ hl.1 (Nat.le_of_ble_eq_true rfl) ⟨Nat.le_of_ble_eq_true rfl, Nat.le_of_ble_eq_true rfl⟩ dX4_readCond_37 (fun u_1 H locs hf hw => ?_)
      refine lv_aload_n hx hb dX4_readCond_40 rfl (lv_at hl 0 rfl) ?_
      refine lv_iload_n hx hb dX4_readCond_41 rfl (lv_at hl 1 rfl) ?_
      refine th_callVi (As := [.int x1]) (rest := []) C lkX4_240 (hRO hf) hw (xRc_RD C hw) rfl rfl ⟨by simp only [th_rm]; omega, by simp only [th_rm]; omega⟩ hl.1 (Nat.le_of_ble_eq_true rfl) ⟨Nat.le_of_ble_eq_true rfl, Nat.le_of_ble_eq_true rfl⟩ dX4_readCond_42 (fun r_4 u_3 H locs hf hw => ?_)
      refine lv_if_ne (tgt := 50) hx hb dX4_readCond_45 (by decide) (fun hc => ?_) (fun hc => ?_)
      · replace hf := hf.1 hc
        clear hc
        refine lv_aload_n hx hb dX4_readCond_50 rfl (lv_at hl 0 rfl) ?_
        refine xg_204 C hw (C.2.2.2.2.1 _ hwF_X4_31) dX4_readCond_51 ?_
        refine xst C hw 20 (by decide) (C.2.2.2.2.1 _ hwF_X4_243) dX4_readCond_54 ?_
        refine th_callVv (As := [va_re ad (some 20)]) (rest := []) C lkX4_246 (X_T_addStep_B_c hf) hw (xRc_TB C hw) rfl rfl ⟨by simp only [th_rm]; omega, by simp only [th_rm]; omega⟩ hl.1 (Nat.le_of_ble_eq_true rfl) ⟨Nat.le_of_ble_eq_true rfl, Nat.le_of_ble_eq_true rfl⟩ dX4_readCond_57 (fun u_5 H locs hf hw => ?_)
        obtain ⟨x3_7, e9⟩ : ∃ y : Int32, y = x3 + (1 : Int32) := ⟨_, rfl⟩
        replace hf := hf x3_7 e9
        refine lv_iinc (v := x3_7) (lv' := [(3, .int x3_7), (0, .ref (q 299)), (1, .int x1), (2, .int x2)]) hx hb dX4_readCond_60 hl (k := 3) rfl (by rw [e9]; rfl) (by decide) rfl (fun ls hl => ?_)
        clear e9
        refine lv_goto (tgt := 20) hx hb dX4_readCond_63 (by decide) ?_
        exact hk20 x1 x2 x3_7 u_5 _ _ _ hf hw (lv_sub hl [1, 2, 3, 0] rfl)
      · replace hf := hf.2 hc
        clear hc
        refine lv_iconst (v := (0 : Int32)) hx hb dX4_readCond_48 (by decide) ?_
        exact th_zret C hw hf dX4_readCond_49
def X_RD_readCond_B_20_lp (RO RC : Int32 → xs_St → (Int32 → xs_St → Prop) → Prop) (K : Int32 → xs_St → Prop) (k2 : Int32 → Int32 → xs_St → Prop) : Nat → Int32 → Int32 → Int32 → xs_St → Prop
  | 0, _, _, _, _ => False
  | n + 1, x1, x2, x3, u => X_RD_readCond_B_20 RO RC K k2 (X_RD_readCond_B_20_lp RO RC K k2 n) x1 x2 x3 u
set_option maxHeartbeats 4000000 in
set_option maxRecDepth 100000 in
theorem X_RD_readCond_B_20_lw {d9 : Nat} (hd9 : 12 ≤ d9) {RO RC : Int32 → xs_St → (Int32 → xs_St → Prop) → Prop} (hRO : ∀ {a1 : Int32} {u : xs_St} {K : Int32 → xs_St → Prop}, RO a1 u K → th_Ci l yX4_readOne cX4_readOne 3 (some .boolean) d9 0 0 (dC, dI) (th_ty cs) (xE ad ak) (wX cs ad q v v) [.ref (q 299), .int a1] u K) (hRC : ∀ {a1 : Int32} {u : xs_St} {K : Int32 → xs_St → Prop}, RC a1 u K → th_Ci l yX4_readCond cX4_readCond 4 (some .boolean) d9 0 0 (dC, dI) (th_ty cs) (xE ad ak) (wX cs ad q v v) [.ref (q 299), .int a1] u K) {K : Int32 → xs_St → Prop} {k2 : Int32 → Int32 → xs_St → Prop} (C : th_Cx p s m args meth c cX4_readCond RX4 4 (some .boolean) (dC, dI) (th_ty cs) (xE ad ak) A) (hk2 : ∀ (x1 : Int32) (x2 : Int32) (u : xs_St) (H : Heap) (locs : List Loc) (ls : Array Slot), k2 x1 x2 u → th_wI (dC, dI) (wX cs ad q v v) A s.heap u H locs → lv_has ls 4 [(0, .ref (q 299)), (1, .int x1), (2, .int x2)] → W p l e (th_rm (d9 + 1) 0 0) s m args below meth c H locs 0 0 (MQ below (va_Qi K (th_Post (dC, dI) (wX cs ad q v v) A) A) args s 0 0 A) (F0 m 2 ls [])) (n : Nat) : ∀ (x1 : Int32) (x2 : Int32) (x3 : Int32) (u : xs_St) (H : Heap) (locs : List Loc) (ls : Array Slot), X_RD_readCond_B_20_lp RO RC K k2 n x1 x2 x3 u → th_wI (dC, dI) (wX cs ad q v v) A s.heap u H locs → lv_has ls 4 [(0, .ref (q 299)), (1, .int x1), (2, .int x2), (3, .int x3)] → W p l e (th_rm (d9 + 1) 0 0) s m args below meth c H locs 0 0 (MQ below (va_Qi K (th_Post (dC, dI) (wX cs ad q v v) A) A) args s 0 0 A) (F0 m 20 ls []) := by
  induction n with
  | zero => intro x1 x2 x3 u H locs ls hf; exact hf.elim
  | succ n ih =>
    intro x1 x2 x3 u H locs ls hf hw hl
    exact X_RD_readCond_B_20_w hd9 hRO hRC C hk2 ih x1 x2 x3 u H locs ls hf hw hl
def X_RD_readCond_B_2 (RO RC : Int32 → xs_St → (Int32 → xs_St → Prop) → Prop) (K : Int32 → xs_St → Prop) (k2 : Int32 → Int32 → xs_St → Prop) (x1 : Int32) (x2 : Int32) (u : xs_St) : Prop :=
  (((40 : Int32) < x2 → X_RD_faulty (4 : Int32) u (fun r_2 u_1 => ((r_2 = 0 ∨ r_2 = 1) ∧ K r_2 u_1))) ∧ (¬ (40 : Int32) < x2 → RO x1 u (fun r_4 u_3 => ((¬ r_4 = 0 → ∃ n, X_RD_readCond_B_20_lp RO RC K k2 n x1 x2 (0 : Int32) u_3) ∧ (r_4 = 0 → (((0 : Int32) = 0 ∨ (0 : Int32) = 1) ∧ K (0 : Int32) u_3))))))
set_option maxHeartbeats 4000000 in
set_option maxRecDepth 100000 in
theorem X_RD_readCond_B_2_w {d9 : Nat} (hd9 : 12 ≤ d9) {RO RC : Int32 → xs_St → (Int32 → xs_St → Prop) → Prop} (hRO : ∀ {a1 : Int32} {u : xs_St} {K : Int32 → xs_St → Prop}, RO a1 u K → th_Ci l yX4_readOne cX4_readOne 3 (some .boolean) d9 0 0 (dC, dI) (th_ty cs) (xE ad ak) (wX cs ad q v v) [.ref (q 299), .int a1] u K) (hRC : ∀ {a1 : Int32} {u : xs_St} {K : Int32 → xs_St → Prop}, RC a1 u K → th_Ci l yX4_readCond cX4_readCond 4 (some .boolean) d9 0 0 (dC, dI) (th_ty cs) (xE ad ak) (wX cs ad q v v) [.ref (q 299), .int a1] u K) {K : Int32 → xs_St → Prop} {k2 : Int32 → Int32 → xs_St → Prop} (C : th_Cx p s m args meth c cX4_readCond RX4 4 (some .boolean) (dC, dI) (th_ty cs) (xE ad ak) A) (hk2 : ∀ (x1 : Int32) (x2 : Int32) (u : xs_St) (H : Heap) (locs : List Loc) (ls : Array Slot), k2 x1 x2 u → th_wI (dC, dI) (wX cs ad q v v) A s.heap u H locs → lv_has ls 4 [(0, .ref (q 299)), (1, .int x1), (2, .int x2)] → W p l e (th_rm (d9 + 1) 0 0) s m args below meth c H locs 0 0 (MQ below (va_Qi K (th_Post (dC, dI) (wX cs ad q v v) A) A) args s 0 0 A) (F0 m 2 ls [])) (x1 : Int32) (x2 : Int32) (u : xs_St) (H : Heap) (locs : List Loc) (ls : Array Slot) (hf : X_RD_readCond_B_2 RO RC K k2 x1 x2 u) (hw : th_wI (dC, dI) (wX cs ad q v v) A s.heap u H locs) (hl : lv_has ls 4 [(0, .ref (q 299)), (1, .int x1), (2, .int x2)]) : W p l e (th_rm (d9 + 1) 0 0) s m args below meth c H locs 0 0 (MQ below (va_Qi K (th_Post (dC, dI) (wX cs ad q v v) A) A) args s 0 0 A) (F0 m 2 ls []) := by
  have hx := C.1
  have hb := C.2.1
  unfold X_RD_readCond_B_2 at hf
  refine lv_iload_n hx hb dX4_readCond_2 rfl (lv_at hl 2 rfl) ?_
  refine lv_bipush (v := (40 : Int32)) hx hb dX4_readCond_3 (by decide) ?_
  refine lv_icmp_gt (tgt := 102) hx hb dX4_readCond_5 (by decide) (fun hc => ?_) (fun hc => ?_)
  · replace hf := hf.1 hc
    clear hc
    refine lv_aload_n hx hb dX4_readCond_102 rfl (lv_at hl 0 rfl) ?_
    refine lv_iconst (v := (4 : Int32)) hx hb dX4_readCond_103 (by decide) ?_
    refine th_callVi (As := [.int (4 : Int32)]) (rest := []) C lkX4_99 (X_RD_faulty_c hf) hw (xRc_RD C hw) rfl rfl ⟨by simp only [th_rm]; omega, by simp only [th_rm]; omega⟩ hl.1 (Nat.le_of_ble_eq_true rfl) ⟨Nat.le_of_ble_eq_true rfl, Nat.le_of_ble_eq_true rfl⟩ dX4_readCond_104 (fun r_2 u_1 H locs hf hw => ?_)
    exact th_zret C hw hf dX4_readCond_107
  · replace hf := hf.2 hc
    clear hc
    refine lv_aload_n hx hb dX4_readCond_8 rfl (lv_at hl 0 rfl) ?_
    refine lv_iload_n hx hb dX4_readCond_9 rfl (lv_at hl 1 rfl) ?_
    refine th_callVi (As := [.int x1]) (rest := []) C lkX4_240 (hRO hf) hw (xRc_RD C hw) rfl rfl ⟨by simp only [th_rm]; omega, by simp only [th_rm]; omega⟩ hl.1 (Nat.le_of_ble_eq_true rfl) ⟨Nat.le_of_ble_eq_true rfl, Nat.le_of_ble_eq_true rfl⟩ dX4_readCond_10 (fun r_4 u_3 H locs hf hw => ?_)
    refine lv_if_ne (tgt := 18) hx hb dX4_readCond_13 (by decide) (fun hc => ?_) (fun hc => ?_)
    · replace hf := hf.1 hc
      clear hc
      refine lv_iconst (v := (0 : Int32)) hx hb dX4_readCond_18 (by decide) ?_
      refine lv_istore_n (lv' := [(3, .int (0 : Int32)), (0, .ref (q 299)), (1, .int x1), (2, .int x2)]) hx hb dX4_readCond_19 rfl hl (by decide) rfl (fun ls hl => ?_)
      obtain ⟨n, hf⟩ := hf
      exact X_RD_readCond_B_20_lw hd9 hRO hRC C hk2 n x1 x2 (0 : Int32) u_3 _ _ _ hf hw (lv_sub hl [1, 2, 3, 0] rfl)
    · replace hf := hf.2 hc
      clear hc
      refine lv_iconst (v := (0 : Int32)) hx hb dX4_readCond_16 (by decide) ?_
      exact th_zret C hw hf dX4_readCond_17
def X_RD_readCond_B_2_lp (RO RC : Int32 → xs_St → (Int32 → xs_St → Prop) → Prop) (K : Int32 → xs_St → Prop) : Nat → Int32 → Int32 → xs_St → Prop
  | 0, _, _, _ => False
  | n + 1, x1, x2, u => X_RD_readCond_B_2 RO RC K (X_RD_readCond_B_2_lp RO RC K n) x1 x2 u
set_option maxHeartbeats 4000000 in
set_option maxRecDepth 100000 in
theorem X_RD_readCond_B_2_lw {d9 : Nat} (hd9 : 12 ≤ d9) {RO RC : Int32 → xs_St → (Int32 → xs_St → Prop) → Prop} (hRO : ∀ {a1 : Int32} {u : xs_St} {K : Int32 → xs_St → Prop}, RO a1 u K → th_Ci l yX4_readOne cX4_readOne 3 (some .boolean) d9 0 0 (dC, dI) (th_ty cs) (xE ad ak) (wX cs ad q v v) [.ref (q 299), .int a1] u K) (hRC : ∀ {a1 : Int32} {u : xs_St} {K : Int32 → xs_St → Prop}, RC a1 u K → th_Ci l yX4_readCond cX4_readCond 4 (some .boolean) d9 0 0 (dC, dI) (th_ty cs) (xE ad ak) (wX cs ad q v v) [.ref (q 299), .int a1] u K) {K : Int32 → xs_St → Prop} (C : th_Cx p s m args meth c cX4_readCond RX4 4 (some .boolean) (dC, dI) (th_ty cs) (xE ad ak) A) (n : Nat) : ∀ (x1 : Int32) (x2 : Int32) (u : xs_St) (H : Heap) (locs : List Loc) (ls : Array Slot), X_RD_readCond_B_2_lp RO RC K n x1 x2 u → th_wI (dC, dI) (wX cs ad q v v) A s.heap u H locs → lv_has ls 4 [(0, .ref (q 299)), (1, .int x1), (2, .int x2)] → W p l e (th_rm (d9 + 1) 0 0) s m args below meth c H locs 0 0 (MQ below (va_Qi K (th_Post (dC, dI) (wX cs ad q v v) A) A) args s 0 0 A) (F0 m 2 ls []) := by
  induction n with
  | zero => intro x1 x2 u H locs ls hf; exact hf.elim
  | succ n ih =>
    intro x1 x2 u H locs ls hf hw hl
    exact X_RD_readCond_B_2_w hd9 hRO hRC C ih x1 x2 u H locs ls hf hw hl
def X_RD_readCond_B (RO RC : Int32 → xs_St → (Int32 → xs_St → Prop) → Prop) (a1 : Int32) (u : xs_St) (K : Int32 → xs_St → Prop) : Prop :=
  ∃ n, X_RD_readCond_B_2_lp RO RC K n a1 (0 : Int32) u
set_option maxHeartbeats 4000000 in
set_option maxRecDepth 100000 in
theorem X_RD_readCond_B_c {l : Launch} {dC : Nat → ClassId} {dI : Nat → Nat → Nat} {cs : Nat → ClassId} {ad ak : Nat → Nat} {q v : Nat → Nat} {d9 : Nat} (hd9 : 12 ≤ d9) {RO RC : Int32 → xs_St → (Int32 → xs_St → Prop) → Prop} (hRO : ∀ {a1 : Int32} {u : xs_St} {K : Int32 → xs_St → Prop}, RO a1 u K → th_Ci l yX4_readOne cX4_readOne 3 (some .boolean) d9 0 0 (dC, dI) (th_ty cs) (xE ad ak) (wX cs ad q v v) [.ref (q 299), .int a1] u K) (hRC : ∀ {a1 : Int32} {u : xs_St} {K : Int32 → xs_St → Prop}, RC a1 u K → th_Ci l yX4_readCond cX4_readCond 4 (some .boolean) d9 0 0 (dC, dI) (th_ty cs) (xE ad ak) (wX cs ad q v v) [.ref (q 299), .int a1] u K) {a1 : Int32} {u : xs_St} {K : Int32 → xs_St → Prop} (hf : X_RD_readCond_B RO RC a1 u K) : th_Ci l yX4_readCond cX4_readCond 4 (some .boolean) (d9 + 1) 0 0 (dC, dI) (th_ty cs) (xE ad ak) (wX cs ad q v v) [.ref (q 299), .int a1] u K := by
  refine th_ofi (by decide) (Nat.le_of_ble_eq_true rfl) (xE_ok ad ak) ?_
  intro p e s m below meth c A ls C hw hl
  have C : th_Cx p s m _ meth c cX4_readCond RX4 4 (some .boolean) (dC, dI) (th_ty cs) (xE ad ak) A := C
  have hl : lv_has ls 4 [(0, .ref (q 299)), (1, .int a1)] := hl
  generalize (List.toArray _ : Array Value) = args at C ⊢
  have hx := C.1
  have hb := C.2.1
  unfold X_RD_readCond_B at hf
  refine lv_iconst (v := (0 : Int32)) hx hb dX4_readCond_0 (by decide) ?_
  refine lv_istore_n (lv' := [(2, .int (0 : Int32)), (0, .ref (q 299)), (1, .int a1)]) hx hb dX4_readCond_1 rfl hl (by decide) rfl (fun ls hl => ?_)
  obtain ⟨n, hf⟩ := hf
  exact X_RD_readCond_B_2_lw hd9 hRO hRC C n a1 (0 : Int32) u _ _ _ hf hw (lv_sub hl [1, 2, 0] rfl)
def X_RD_rec : Nat → (Int32 → xs_St → (Int32 → xs_St → Prop) → Prop) × (Int32 → xs_St → (Int32 → xs_St → Prop) → Prop)
  | 0 => (fun _ _ _ => False, fun _ _ _ => False)
  | n + 1 => (X_RD_readOne_B (X_RD_rec n).1 (X_RD_rec n).2, X_RD_readCond_B (X_RD_rec n).1 (X_RD_rec n).2)
theorem X_RD_rec_c {l : Launch} {dC : Nat → ClassId} {dI : Nat → Nat → Nat} {cs : Nat → ClassId} {ad ak : Nat → Nat} {q v : Nat → Nat} (n : Nat) : (∀ (a1 : Int32) (u : xs_St) (K : Int32 → xs_St → Prop), (X_RD_rec n).1 a1 u K → th_Ci l yX4_readOne cX4_readOne 3 (some .boolean) (12 + n) 0 0 (dC, dI) (th_ty cs) (xE ad ak) (wX cs ad q v v) [.ref (q 299), .int a1] u K) ∧ (∀ (a1 : Int32) (u : xs_St) (K : Int32 → xs_St → Prop), (X_RD_rec n).2 a1 u K → th_Ci l yX4_readCond cX4_readCond 4 (some .boolean) (12 + n) 0 0 (dC, dI) (th_ty cs) (xE ad ak) (wX cs ad q v v) [.ref (q 299), .int a1] u K) := by
  induction n with
  | zero => exact ⟨fun _ _ _ hf => hf.elim, fun _ _ _ hf => hf.elim⟩
  | succ n ih => exact ⟨fun a u K hf => X_RD_readOne_B_c (d9 := 12 + n) (by omega) (fun h => ih.1 _ _ _ h) (fun h => ih.2 _ _ _ h) hf, fun a u K hf => X_RD_readCond_B_c (d9 := 12 + n) (by omega) (fun h => ih.1 _ _ _ h) (fun h => ih.2 _ _ _ h) hf⟩
def X_RD_readCond (a1 : Int32) (u : xs_St) (K : Int32 → xs_St → Prop) : Prop := (X_RD_rec 26).2 a1 u K
theorem X_RD_readCond_c {l : Launch} {dC : Nat → ClassId} {dI : Nat → Nat → Nat} {cs : Nat → ClassId} {ad ak : Nat → Nat} {q v : Nat → Nat} {a1 : Int32} {u : xs_St} {K : Int32 → xs_St → Prop} (hf : X_RD_readCond a1 u K) : th_Ci l yX4_readCond cX4_readCond 4 (some .boolean) 38 0 0 (dC, dI) (th_ty cs) (xE ad ak) (wX cs ad q v v) [.ref (q 299), .int a1] u K := (X_RD_rec_c 26).2 a1 u K hf
/-! X_RD_readLine -/
theorem dX4_readLine_0 : decode cX4_readLine 0 = .ok (.aload_n 0, 1) := by decide +kernel
theorem dX4_readLine_1 : decode cX4_readLine 1 = .ok (.getfield 42, 3) := by decide +kernel
theorem dX4_readLine_4 : decode cX4_readLine 4 = .ok (.astore_n 1, 1) := by decide +kernel
theorem dX4_readLine_5 : decode cX4_readLine 5 = .ok (.aload_n 1, 1) := by decide +kernel
theorem dX4_readLine_6 : decode cX4_readLine 6 = .ok (.invokestatic 168, 3) := by decide +kernel
theorem dX4_readLine_9 : decode cX4_readLine 9 = .ok (.ifCond .ne 9, 3) := by decide +kernel
theorem dX4_readLine_12 : decode cX4_readLine 12 = .ok (.aload_n 0, 1) := by decide +kernel
theorem dX4_readLine_13 : decode cX4_readLine 13 = .ok (.iconst 1, 1) := by decide +kernel
theorem dX4_readLine_14 : decode cX4_readLine 14 = .ok (.invokevirtual 99, 3) := by decide +kernel
theorem dX4_readLine_17 : decode cX4_readLine 17 = .ok (.ireturn, 1) := by decide +kernel
theorem dX4_readLine_18 : decode cX4_readLine 18 = .ok (.aload_n 0, 1) := by decide +kernel
theorem dX4_readLine_19 : decode cX4_readLine 19 = .ok (.getfield 31, 3) := by decide +kernel
theorem dX4_readLine_22 : decode cX4_readLine 22 = .ok (.getfield 171, 3) := by decide +kernel
theorem dX4_readLine_25 : decode cX4_readLine 25 = .ok (.bipush 24, 2) := by decide +kernel
theorem dX4_readLine_27 : decode cX4_readLine 27 = .ok (.if_icmp .ge 11, 3) := by decide +kernel
theorem dX4_readLine_30 : decode cX4_readLine 30 = .ok (.aload_n 0, 1) := by decide +kernel
theorem dX4_readLine_31 : decode cX4_readLine 31 = .ok (.aload_n 1, 1) := by decide +kernel
theorem dX4_readLine_32 : decode cX4_readLine 32 = .ok (.invokevirtual 174, 3) := by decide +kernel
theorem dX4_readLine_35 : decode cX4_readLine 35 = .ok (.ifCond .eq 9, 3) := by decide +kernel
theorem dX4_readLine_38 : decode cX4_readLine 38 = .ok (.aload_n 0, 1) := by decide +kernel
theorem dX4_readLine_39 : decode cX4_readLine 39 = .ok (.iconst 3, 1) := by decide +kernel
theorem dX4_readLine_40 : decode cX4_readLine 40 = .ok (.invokevirtual 99, 3) := by decide +kernel
theorem dX4_readLine_43 : decode cX4_readLine 43 = .ok (.ireturn, 1) := by decide +kernel
theorem dX4_readLine_44 : decode cX4_readLine 44 = .ok (.aload_n 0, 1) := by decide +kernel
theorem dX4_readLine_45 : decode cX4_readLine 45 = .ok (.getfield 31, 3) := by decide +kernel
theorem dX4_readLine_48 : decode cX4_readLine 48 = .ok (.dup, 1) := by decide +kernel
theorem dX4_readLine_49 : decode cX4_readLine 49 = .ok (.getfield 171, 3) := by decide +kernel
theorem dX4_readLine_52 : decode cX4_readLine 52 = .ok (.iconst 1, 1) := by decide +kernel
theorem dX4_readLine_53 : decode cX4_readLine 53 = .ok (.iadd, 1) := by decide +kernel
theorem dX4_readLine_54 : decode cX4_readLine 54 = .ok (.putfield 171, 3) := by decide +kernel
theorem dX4_readLine_57 : decode cX4_readLine 57 = .ok (.aload_n 0, 1) := by decide +kernel
theorem dX4_readLine_58 : decode cX4_readLine 58 = .ok (.invokevirtual 74, 3) := by decide +kernel
theorem dX4_readLine_61 : decode cX4_readLine 61 = .ok (.aload_n 1, 1) := by decide +kernel
theorem dX4_readLine_62 : decode cX4_readLine 62 = .ok (.getstatic 177, 3) := by decide +kernel
theorem dX4_readLine_65 : decode cX4_readLine 65 = .ok (.if_acmp .ne 8, 3) := by decide +kernel
theorem dX4_readLine_68 : decode cX4_readLine 68 = .ok (.aload_n 0, 1) := by decide +kernel
theorem dX4_readLine_69 : decode cX4_readLine 69 = .ok (.invokevirtual 180, 3) := by decide +kernel
theorem dX4_readLine_72 : decode cX4_readLine 72 = .ok (.ireturn, 1) := by decide +kernel
theorem dX4_readLine_73 : decode cX4_readLine 73 = .ok (.aload_n 1, 1) := by decide +kernel
theorem dX4_readLine_74 : decode cX4_readLine 74 = .ok (.getstatic 183, 3) := by decide +kernel
theorem dX4_readLine_77 : decode cX4_readLine 77 = .ok (.if_acmp .ne 8, 3) := by decide +kernel
theorem dX4_readLine_80 : decode cX4_readLine 80 = .ok (.aload_n 0, 1) := by decide +kernel
theorem dX4_readLine_81 : decode cX4_readLine 81 = .ok (.invokevirtual 186, 3) := by decide +kernel
theorem dX4_readLine_84 : decode cX4_readLine 84 = .ok (.ireturn, 1) := by decide +kernel
theorem dX4_readLine_85 : decode cX4_readLine 85 = .ok (.aload_n 1, 1) := by decide +kernel
theorem dX4_readLine_86 : decode cX4_readLine 86 = .ok (.getstatic 189, 3) := by decide +kernel
theorem dX4_readLine_89 : decode cX4_readLine 89 = .ok (.if_acmp .eq 9, 3) := by decide +kernel
theorem dX4_readLine_92 : decode cX4_readLine 92 = .ok (.aload_n 0, 1) := by decide +kernel
theorem dX4_readLine_93 : decode cX4_readLine 93 = .ok (.aload_n 1, 1) := by decide +kernel
theorem dX4_readLine_94 : decode cX4_readLine 94 = .ok (.invokevirtual 192, 3) := by decide +kernel
theorem dX4_readLine_97 : decode cX4_readLine 97 = .ok (.ireturn, 1) := by decide +kernel
theorem dX4_readLine_98 : decode cX4_readLine 98 = .ok (.aload_n 0, 1) := by decide +kernel
theorem dX4_readLine_99 : decode cX4_readLine 99 = .ok (.iconst 1, 1) := by decide +kernel
theorem dX4_readLine_100 : decode cX4_readLine 100 = .ok (.invokevirtual 195, 3) := by decide +kernel
theorem dX4_readLine_103 : decode cX4_readLine 103 = .ok (.ifCond .eq 23, 3) := by decide +kernel
theorem dX4_readLine_106 : decode cX4_readLine 106 = .ok (.aload_n 0, 1) := by decide +kernel
theorem dX4_readLine_107 : decode cX4_readLine 107 = .ok (.getstatic 198, 3) := by decide +kernel
theorem dX4_readLine_110 : decode cX4_readLine 110 = .ok (.invokevirtual 90, 3) := by decide +kernel
theorem dX4_readLine_113 : decode cX4_readLine 113 = .ok (.ifCond .eq 13, 3) := by decide +kernel
theorem dX4_readLine_116 : decode cX4_readLine 116 = .ok (.aload_n 0, 1) := by decide +kernel
theorem dX4_readLine_117 : decode cX4_readLine 117 = .ok (.iconst 1, 1) := by decide +kernel
theorem dX4_readLine_118 : decode cX4_readLine 118 = .ok (.bipush 9, 2) := by decide +kernel
theorem dX4_readLine_120 : decode cX4_readLine 120 = .ok (.invokevirtual 161, 3) := by decide +kernel
theorem dX4_readLine_123 : decode cX4_readLine 123 = .ok (.ifCond .ne 5, 3) := by decide +kernel
theorem dX4_readLine_126 : decode cX4_readLine 126 = .ok (.iconst 0, 1) := by decide +kernel
theorem dX4_readLine_127 : decode cX4_readLine 127 = .ok (.ireturn, 1) := by decide +kernel
theorem dX4_readLine_128 : decode cX4_readLine 128 = .ok (.aload_n 0, 1) := by decide +kernel
theorem dX4_readLine_129 : decode cX4_readLine 129 = .ok (.getfield 31, 3) := by decide +kernel
theorem dX4_readLine_132 : decode cX4_readLine 132 = .ok (.aload_n 0, 1) := by decide +kernel
theorem dX4_readLine_133 : decode cX4_readLine 133 = .ok (.getfield 45, 3) := by decide +kernel
theorem dX4_readLine_136 : decode cX4_readLine 136 = .ok (.invokevirtual 201, 3) := by decide +kernel
theorem dX4_readLine_139 : decode cX4_readLine 139 = .ok (.iconst 1, 1) := by decide +kernel
theorem dX4_readLine_140 : decode cX4_readLine 140 = .ok (.ireturn, 1) := by decide +kernel
def X_RD_readLine_38 (K : Int32 → xs_St → Prop) (u : xs_St) : Prop :=
  X_RD_faulty (3 : Int32) u (fun r_2 u_1 => ((r_2 = 0 ∨ r_2 = 1) ∧ K r_2 u_1))
set_option maxHeartbeats 4000000 in
set_option maxRecDepth 100000 in
theorem X_RD_readLine_38_w {K : Int32 → xs_St → Prop} (C : th_Cx p s m args meth c cX4_readLine RX4 2 (some .boolean) (dC, dI) (th_ty cs) (xE ad ak) A) (u : xs_St) (H : Heap) (locs : List Loc) (ls : Array Slot) (hf : X_RD_readLine_38 K u) (hw : th_wI (dC, dI) (wX cs ad q v v) A s.heap u H locs) (hl : lv_has ls 2 [(0, .ref (q 299))]) : W p l e (th_rm 39 0 0) s m args below meth c H locs 0 0 (MQ below (va_Qi K (th_Post (dC, dI) (wX cs ad q v v) A) A) args s 0 0 A) (F0 m 38 ls []) := by
  have hx := C.1
  have hb := C.2.1
  unfold X_RD_readLine_38 at hf
  refine lv_aload_n hx hb dX4_readLine_38 rfl (lv_at hl 0 rfl) ?_
  refine lv_iconst (v := (3 : Int32)) hx hb dX4_readLine_39 (by decide) ?_
  refine th_callVi (As := [.int (3 : Int32)]) (rest := []) C lkX4_99 (X_RD_faulty_c hf) hw (xRc_RD C hw) rfl rfl ⟨Nat.le_of_ble_eq_true rfl, Nat.le_of_ble_eq_true rfl⟩ hl.1 (Nat.le_of_ble_eq_true rfl) ⟨Nat.le_of_ble_eq_true rfl, Nat.le_of_ble_eq_true rfl⟩ dX4_readLine_40 (fun r_2 u_1 H locs hf hw => ?_)
  exact th_zret C hw hf dX4_readLine_43
def X_RD_readLine_126 (K : Int32 → xs_St → Prop) (u : xs_St) : Prop :=
  (((0 : Int32) = 0 ∨ (0 : Int32) = 1) ∧ K (0 : Int32) u)
set_option maxHeartbeats 4000000 in
set_option maxRecDepth 100000 in
theorem X_RD_readLine_126_w {K : Int32 → xs_St → Prop} (C : th_Cx p s m args meth c cX4_readLine RX4 2 (some .boolean) (dC, dI) (th_ty cs) (xE ad ak) A) (u : xs_St) (H : Heap) (locs : List Loc) (ls : Array Slot) (hf : X_RD_readLine_126 K u) (hw : th_wI (dC, dI) (wX cs ad q v v) A s.heap u H locs) (hl : lv_has ls 2 []) : W p l e (th_rm 39 0 0) s m args below meth c H locs 0 0 (MQ below (va_Qi K (th_Post (dC, dI) (wX cs ad q v v) A) A) args s 0 0 A) (F0 m 126 ls []) := by
  have hx := C.1
  have hb := C.2.1
  unfold X_RD_readLine_126 at hf
  refine lv_iconst (v := (0 : Int32)) hx hb dX4_readLine_126 (by decide) ?_
  exact th_zret C hw hf dX4_readLine_127
def X_RD_readLine (u : xs_St) (K : Int32 → xs_St → Prop) : Prop :=
  X_RD_beginsLine (xr u 206) u (fun r_2 u_1 => ((¬ r_2 = 0 → (((24 : Int32) ≤ (xi u_1 404) → X_RD_readLine_38 K u_1) ∧ (¬ (24 : Int32) ≤ (xi u_1 404) → X_RD_isTooOften (xr u 206) u_1 (fun r_4 u_3 => ((r_4 = 0 → ∀ u_5 : xs_St, u_5 = xs_si u_3 404 ((xi u_3 404) + (1 : Int32)) → X_RD_advance u_5 (fun u_6 => ((¬ (xr u 206) = (some 10) → ((¬ (xr u 206) = (some 12) → (((xr u 206) = (some 17) → X_RD_readCond (1 : Int32) u_6 (fun r_9 u_8 => ((r_9 = 0 → X_RD_readLine_126 K u_8) ∧ (¬ r_9 = 0 → X_RD_take (some 18) u_8 (fun r_11 u_10 => ((r_11 = 0 → X_RD_readLine_126 K u_10) ∧ (¬ r_11 = 0 → X_RD_takeNumber (1 : Int32) (9 : Int32) u_10 (fun r_13 u_12 => ((¬ r_13 = 0 → X_T_addAlarm_B (xi u_12 207) u_12 (fun u_14 => (((1 : Int32) = 0 ∨ (1 : Int32) = 1) ∧ K (1 : Int32) u_14))) ∧ (r_13 = 0 → X_RD_readLine_126 K u_12)))))))))) ∧ (¬ (xr u 206) = (some 17) → X_RD_readSetting (xr u 206) u_6 (fun r_17 u_16 => ((r_17 = 0 ∨ r_17 = 1) ∧ K r_17 u_16))))) ∧ ((xr u 206) = (some 12) → X_RD_readHolds u_6 (fun r_19 u_18 => ((r_19 = 0 ∨ r_19 = 1) ∧ K r_19 u_18))))) ∧ ((xr u 206) = (some 10) → X_RD_readFixed u_6 (fun r_21 u_20 => ((r_21 = 0 ∨ r_21 = 1) ∧ K r_21 u_20)))))) ∧ (¬ r_4 = 0 → X_RD_readLine_38 K u_3)))))) ∧ (r_2 = 0 → X_RD_faulty (1 : Int32) u_1 (fun r_23 u_22 => ((r_23 = 0 ∨ r_23 = 1) ∧ K r_23 u_22)))))
set_option maxHeartbeats 4000000 in
set_option maxRecDepth 100000 in
theorem X_RD_readLine_c {l : Launch} {dC : Nat → ClassId} {dI : Nat → Nat → Nat} {cs : Nat → ClassId} {ad ak : Nat → Nat} {q v : Nat → Nat} {u : xs_St} {K : Int32 → xs_St → Prop} (hf : X_RD_readLine u K) : th_Ci l yX4_readLine cX4_readLine 2 (some .boolean) 39 0 0 (dC, dI) (th_ty cs) (xE ad ak) (wX cs ad q v v) [.ref (q 299)] u K := by
  refine th_ofi (by decide) (Nat.le_of_ble_eq_true rfl) (xE_ok ad ak) ?_
  intro p e s m below meth c A ls C hw hl
  have C : th_Cx p s m _ meth c cX4_readLine RX4 2 (some .boolean) (dC, dI) (th_ty cs) (xE ad ak) A := C
  have hl : lv_has ls 2 [(0, .ref (q 299))] := hl
  generalize (List.toArray _ : Array Value) = args at C ⊢
  have hx := C.1
  have hb := C.2.1
  unfold X_RD_readLine at hf
  refine lv_aload_n hx hb dX4_readLine_0 rfl (lv_at hl 0 rfl) ?_
  refine xg_206 C hw (C.2.2.2.2.1 _ hwF_X4_42) dX4_readLine_1 ?_
  refine th_astore_n (r := ((xr u 206)).map ad) (lv' := [(1, va_re ad (xr u 206)), (0, .ref (q 299))]) hx hb dX4_readLine_4 rfl hl (by decide) rfl (fun ls hl => ?_)
  refine th_aload_n hx hb dX4_readLine_5 rfl (lv_at hl 0 rfl) ?_
  refine th_callSi (As := [va_re ad (xr u 206)]) (rest := []) C lkX4_168 (X_RD_beginsLine_c hf) hw rfl rfl ⟨Nat.le_of_ble_eq_true rfl, Nat.le_of_ble_eq_true rfl⟩ hl.1 (Nat.le_of_ble_eq_true rfl) ⟨Nat.le_of_ble_eq_true rfl, Nat.le_of_ble_eq_true rfl⟩ dX4_readLine_6 (fun r_2 u_1 H locs hf hw => ?_)
  refine lv_if_ne (tgt := 18) hx hb dX4_readLine_9 (by decide) (fun hc => ?_) (fun hc => ?_)
  · replace hf := hf.1 hc
    clear hc
    refine lv_aload_n hx hb dX4_readLine_18 rfl (lv_at hl 1 rfl) ?_
    refine xg_204 C hw (C.2.2.2.2.1 _ hwF_X4_31) dX4_readLine_19 ?_
    refine xgn_404 C hw (va_Nw.use rfl (xN C hwG_X4_171)) dX4_readLine_22 ?_
    refine lv_bipush (v := (24 : Int32)) hx hb dX4_readLine_25 (by decide) ?_
    refine lv_icmp_ge (tgt := 38) hx hb dX4_readLine_27 (by decide) (fun hc => ?_) (fun hc => ?_)
    · replace hf := hf.1 hc
      clear hc
      exact X_RD_readLine_38_w C  u_1 _ _ _ hf hw (lv_sub hl [1] rfl)
    · replace hf := hf.2 hc
      clear hc
      refine lv_aload_n hx hb dX4_readLine_30 rfl (lv_at hl 1 rfl) ?_
      refine th_aload_n hx hb dX4_readLine_31 rfl (lv_at hl 0 rfl) ?_
      refine th_callVi (As := [va_re ad (xr u 206)]) (rest := []) C lkX4_174 (X_RD_isTooOften_c hf) hw (xRc_RD C hw) rfl rfl ⟨Nat.le_of_ble_eq_true rfl, Nat.le_of_ble_eq_true rfl⟩ hl.1 (Nat.le_of_ble_eq_true rfl) ⟨Nat.le_of_ble_eq_true rfl, Nat.le_of_ble_eq_true rfl⟩ dX4_readLine_32 (fun r_4 u_3 H locs hf hw => ?_)
      refine lv_if_eq (tgt := 44) hx hb dX4_readLine_35 (by decide) (fun hc => ?_) (fun hc => ?_)
      · replace hf := hf.1 hc
        clear hc
        refine lv_aload_n hx hb dX4_readLine_44 rfl (lv_at hl 1 rfl) ?_
        refine xg_204 C hw (C.2.2.2.2.1 _ hwF_X4_31) dX4_readLine_45 ?_
        refine lv_dup hx hb dX4_readLine_48 rfl ?_
        refine xgn_404 C hw (va_Nw.use rfl (xN C hwG_X4_171)) dX4_readLine_49 ?_
        refine lv_iconst (v := (1 : Int32)) hx hb dX4_readLine_52 (by decide) ?_
        refine lv_iadd hx hb dX4_readLine_53 ?_
        refine xpn_404 C hw (va_Nw.use rfl (xN C hwG_X4_171)) dX4_readLine_54 (fun u_5 e9 H locs hw => ?_)
        replace hf := hf u_5 e9
        clear e9
        refine lv_aload_n hx hb dX4_readLine_57 rfl (lv_at hl 1 rfl) ?_
        refine th_callVv (As := []) (rest := []) C lkX4_74 (X_RD_advance_c hf) hw (xRc_RD C hw) rfl rfl ⟨Nat.le_of_ble_eq_true rfl, Nat.le_of_ble_eq_true rfl⟩ hl.1 (Nat.le_of_ble_eq_true rfl) ⟨Nat.le_of_ble_eq_true rfl, Nat.le_of_ble_eq_true rfl⟩ dX4_readLine_58 (fun u_6 H locs hf hw => ?_)
        refine th_aload_n hx hb dX4_readLine_61 rfl (lv_at hl 0 rfl) ?_
        refine xst C hw 10 (by decide) (C.2.2.2.2.1 _ hwF_X4_177) dX4_readLine_62 ?_
        refine x_acmp_ne (tgt := 73) C dX4_readLine_65 (by decide) (fun hc => ?_) (fun hc => ?_)
        · replace hf := hf.1 hc
          clear hc
          refine th_aload_n hx hb dX4_readLine_73 rfl (lv_at hl 0 rfl) ?_
          refine xst C hw 12 (by decide) (C.2.2.2.2.1 _ hwF_X4_183) dX4_readLine_74 ?_
          refine x_acmp_ne (tgt := 85) C dX4_readLine_77 (by decide) (fun hc => ?_) (fun hc => ?_)
          · replace hf := hf.1 hc
            clear hc
            refine th_aload_n hx hb dX4_readLine_85 rfl (lv_at hl 0 rfl) ?_
            refine xst C hw 17 (by decide) (C.2.2.2.2.1 _ hwF_X4_189) dX4_readLine_86 ?_
            refine x_acmp_eq (tgt := 98) C dX4_readLine_89 (by decide) (fun hc => ?_) (fun hc => ?_)
            · replace hf := hf.1 hc
              clear hc
              refine lv_aload_n hx hb dX4_readLine_98 rfl (lv_at hl 1 rfl) ?_
              refine lv_iconst (v := (1 : Int32)) hx hb dX4_readLine_99 (by decide) ?_
              refine th_callVi (As := [.int (1 : Int32)]) (rest := []) C lkX4_195 (X_RD_readCond_c hf) hw (xRc_RD C hw) rfl rfl ⟨Nat.le_of_ble_eq_true rfl, Nat.le_of_ble_eq_true rfl⟩ hl.1 (Nat.le_of_ble_eq_true rfl) ⟨Nat.le_of_ble_eq_true rfl, Nat.le_of_ble_eq_true rfl⟩ dX4_readLine_100 (fun r_9 u_8 H locs hf hw => ?_)
              refine lv_if_eq (tgt := 126) hx hb dX4_readLine_103 (by decide) (fun hc => ?_) (fun hc => ?_)
              · replace hf := hf.1 hc
                clear hc
                exact X_RD_readLine_126_w C  u_8 _ _ _ hf hw (lv_sub hl [] rfl)
              · replace hf := hf.2 hc
                clear hc
                refine lv_aload_n hx hb dX4_readLine_106 rfl (lv_at hl 1 rfl) ?_
                refine xst C hw 18 (by decide) (C.2.2.2.2.1 _ hwF_X4_198) dX4_readLine_107 ?_
                refine th_callVi (As := [va_re ad (some 18)]) (rest := []) C lkX4_90 (X_RD_take_c hf) hw (xRc_RD C hw) rfl rfl ⟨Nat.le_of_ble_eq_true rfl, Nat.le_of_ble_eq_true rfl⟩ hl.1 (Nat.le_of_ble_eq_true rfl) ⟨Nat.le_of_ble_eq_true rfl, Nat.le_of_ble_eq_true rfl⟩ dX4_readLine_110 (fun r_11 u_10 H locs hf hw => ?_)
                refine lv_if_eq (tgt := 126) hx hb dX4_readLine_113 (by decide) (fun hc => ?_) (fun hc => ?_)
                · replace hf := hf.1 hc
                  clear hc
                  exact X_RD_readLine_126_w C  u_10 _ _ _ hf hw (lv_sub hl [] rfl)
                · replace hf := hf.2 hc
                  clear hc
                  refine lv_aload_n hx hb dX4_readLine_116 rfl (lv_at hl 1 rfl) ?_
                  refine lv_iconst (v := (1 : Int32)) hx hb dX4_readLine_117 (by decide) ?_
                  refine lv_bipush (v := (9 : Int32)) hx hb dX4_readLine_118 (by decide) ?_
                  refine th_callVi (As := [.int (1 : Int32), .int (9 : Int32)]) (rest := []) C lkX4_161 (X_RD_takeNumber_c hf) hw (xRc_RD C hw) rfl rfl ⟨Nat.le_of_ble_eq_true rfl, Nat.le_of_ble_eq_true rfl⟩ hl.1 (Nat.le_of_ble_eq_true rfl) ⟨Nat.le_of_ble_eq_true rfl, Nat.le_of_ble_eq_true rfl⟩ dX4_readLine_120 (fun r_13 u_12 H locs hf hw => ?_)
                  refine lv_if_ne (tgt := 128) hx hb dX4_readLine_123 (by decide) (fun hc => ?_) (fun hc => ?_)
                  · replace hf := hf.1 hc
                    clear hc
                    refine lv_aload_n hx hb dX4_readLine_128 rfl (lv_at hl 1 rfl) ?_
                    refine xg_204 C hw (C.2.2.2.2.1 _ hwF_X4_31) dX4_readLine_129 ?_
                    refine lv_aload_n hx hb dX4_readLine_132 rfl (lv_at hl 1 rfl) ?_
                    refine xg_207 C hw (C.2.2.2.2.1 _ hwF_X4_45) dX4_readLine_133 ?_
                    refine th_callVv (As := [.int (xi u_12 207)]) (rest := []) C lkX4_201 (X_T_addAlarm_B_c hf) hw (xRc_TB C hw) rfl rfl ⟨Nat.le_of_ble_eq_true rfl, Nat.le_of_ble_eq_true rfl⟩ hl.1 (Nat.le_of_ble_eq_true rfl) ⟨Nat.le_of_ble_eq_true rfl, Nat.le_of_ble_eq_true rfl⟩ dX4_readLine_136 (fun u_14 H locs hf hw => ?_)
                    refine lv_iconst (v := (1 : Int32)) hx hb dX4_readLine_139 (by decide) ?_
                    exact th_zret C hw hf dX4_readLine_140
                  · replace hf := hf.2 hc
                    clear hc
                    exact X_RD_readLine_126_w C  u_12 _ _ _ hf hw (lv_sub hl [] rfl)
            · replace hf := hf.2 hc
              clear hc
              refine lv_aload_n hx hb dX4_readLine_92 rfl (lv_at hl 1 rfl) ?_
              refine th_aload_n hx hb dX4_readLine_93 rfl (lv_at hl 0 rfl) ?_
              refine th_callVi (As := [va_re ad (xr u 206)]) (rest := []) C lkX4_192 (X_RD_readSetting_c hf) hw (xRc_RD C hw) rfl rfl ⟨Nat.le_of_ble_eq_true rfl, Nat.le_of_ble_eq_true rfl⟩ hl.1 (Nat.le_of_ble_eq_true rfl) ⟨Nat.le_of_ble_eq_true rfl, Nat.le_of_ble_eq_true rfl⟩ dX4_readLine_94 (fun r_17 u_16 H locs hf hw => ?_)
              exact th_zret C hw hf dX4_readLine_97
          · replace hf := hf.2 hc
            clear hc
            refine lv_aload_n hx hb dX4_readLine_80 rfl (lv_at hl 1 rfl) ?_
            refine th_callVi (As := []) (rest := []) C lkX4_186 (X_RD_readHolds_c hf) hw (xRc_RD C hw) rfl rfl ⟨Nat.le_of_ble_eq_true rfl, Nat.le_of_ble_eq_true rfl⟩ hl.1 (Nat.le_of_ble_eq_true rfl) ⟨Nat.le_of_ble_eq_true rfl, Nat.le_of_ble_eq_true rfl⟩ dX4_readLine_81 (fun r_19 u_18 H locs hf hw => ?_)
            exact th_zret C hw hf dX4_readLine_84
        · replace hf := hf.2 hc
          clear hc
          refine lv_aload_n hx hb dX4_readLine_68 rfl (lv_at hl 1 rfl) ?_
          refine th_callVi (As := []) (rest := []) C lkX4_180 (X_RD_readFixed_c hf) hw (xRc_RD C hw) rfl rfl ⟨Nat.le_of_ble_eq_true rfl, Nat.le_of_ble_eq_true rfl⟩ hl.1 (Nat.le_of_ble_eq_true rfl) ⟨Nat.le_of_ble_eq_true rfl, Nat.le_of_ble_eq_true rfl⟩ dX4_readLine_69 (fun r_21 u_20 H locs hf hw => ?_)
          exact th_zret C hw hf dX4_readLine_72
      · replace hf := hf.2 hc
        clear hc
        exact X_RD_readLine_38_w C  u_3 _ _ _ hf hw (lv_sub hl [1] rfl)
  · replace hf := hf.2 hc
    clear hc
    refine lv_aload_n hx hb dX4_readLine_12 rfl (lv_at hl 1 rfl) ?_
    refine lv_iconst (v := (1 : Int32)) hx hb dX4_readLine_13 (by decide) ?_
    refine th_callVi (As := [.int (1 : Int32)]) (rest := []) C lkX4_99 (X_RD_faulty_c hf) hw (xRc_RD C hw) rfl rfl ⟨Nat.le_of_ble_eq_true rfl, Nat.le_of_ble_eq_true rfl⟩ hl.1 (Nat.le_of_ble_eq_true rfl) ⟨Nat.le_of_ble_eq_true rfl, Nat.le_of_ble_eq_true rfl⟩ dX4_readLine_14 (fun r_23 u_22 H locs hf hw => ?_)
    exact th_zret C hw hf dX4_readLine_17
end

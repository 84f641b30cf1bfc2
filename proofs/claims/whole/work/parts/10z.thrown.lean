section
variable {p : Program} {l : Launch} {e : Env} {s : State} {m : MethodId} {args : Array Value} {below : List Frame} {meth : Method} {c : Code} {dC : Nat → ClassId} {dI : Nat → Nat → Nat} {cs : Nat → ClassId} {ad ak : Nat → Nat} {q v : Nat → Nat} {A : Nat → Prop}
/-! X_TH_falseShare -/
theorem dX11_falseShare_0 : decode cX11_falseShare 0 = .ok (.iload_n 1, 1) := by decide +kernel
theorem dX11_falseShare_1 : decode cX11_falseShare 1 = .ok (.iconst 1, 1) := by decide +kernel
theorem dX11_falseShare_2 : decode cX11_falseShare 2 = .ok (.if_icmp .lt 18, 3) := by decide +kernel
theorem dX11_falseShare_5 : decode cX11_falseShare 5 = .ok (.iload_n 1, 1) := by decide +kernel
theorem dX11_falseShare_6 : decode cX11_falseShare 6 = .ok (.bipush 12, 2) := by decide +kernel
theorem dX11_falseShare_8 : decode cX11_falseShare 8 = .ok (.if_icmp .gt 12, 3) := by decide +kernel
theorem dX11_falseShare_11 : decode cX11_falseShare 11 = .ok (.iload_n 3, 1) := by decide +kernel
theorem dX11_falseShare_12 : decode cX11_falseShare 12 = .ok (.ifCond .lt 8, 3) := by decide +kernel
theorem dX11_falseShare_15 : decode cX11_falseShare 15 = .ok (.iload_n 3, 1) := by decide +kernel
theorem dX11_falseShare_16 : decode cX11_falseShare 16 = .ok (.iconst 1, 1) := by decide +kernel
theorem dX11_falseShare_17 : decode cX11_falseShare 17 = .ok (.if_icmp .le 13, 3) := by decide +kernel
theorem dX11_falseShare_20 : decode cX11_falseShare 20 = .ok (.new 148, 3) := by decide +kernel
theorem dX11_falseShare_23 : decode cX11_falseShare 23 = .ok (.dup, 1) := by decide +kernel
theorem dX11_falseShare_24 : decode cX11_falseShare 24 = .ok (.ldc 246, 2) := by decide +kernel
theorem dX11_falseShare_26 : decode cX11_falseShare 26 = .ok (.invokespecial 152, 3) := by decide +kernel
theorem dX11_falseShare_29 : decode cX11_falseShare 29 = .ok (.athrow, 1) := by decide +kernel
theorem dX11_falseShare_30 : decode cX11_falseShare 30 = .ok (.aload_n 0, 1) := by decide +kernel
theorem dX11_falseShare_31 : decode cX11_falseShare 31 = .ok (.iload_n 1, 1) := by decide +kernel
theorem dX11_falseShare_32 : decode cX11_falseShare 32 = .ok (.invokevirtual 248, 3) := by decide +kernel
theorem dX11_falseShare_35 : decode cX11_falseShare 35 = .ok (.lstore 4, 2) := by decide +kernel
theorem dX11_falseShare_37 : decode cX11_falseShare 37 = .ok (.aload_n 0, 1) := by decide +kernel
theorem dX11_falseShare_38 : decode cX11_falseShare 38 = .ok (.iload_n 1, 1) := by decide +kernel
theorem dX11_falseShare_39 : decode cX11_falseShare 39 = .ok (.aload_n 0, 1) := by decide +kernel
theorem dX11_falseShare_40 : decode cX11_falseShare 40 = .ok (.getfield 69, 3) := by decide +kernel
theorem dX11_falseShare_43 : decode cX11_falseShare 43 = .ok (.getfield 189, 3) := by decide +kernel
theorem dX11_falseShare_46 : decode cX11_falseShare 46 = .ok (.imul, 1) := by decide +kernel
theorem dX11_falseShare_47 : decode cX11_falseShare 47 = .ok (.iload_n 2, 1) := by decide +kernel
theorem dX11_falseShare_48 : decode cX11_falseShare 48 = .ok (.invokevirtual 252, 3) := by decide +kernel
theorem dX11_falseShare_51 : decode cX11_falseShare 51 = .ok (.lstore 6, 2) := by decide +kernel
theorem dX11_falseShare_53 : decode cX11_falseShare 53 = .ok (.lload 4, 2) := by decide +kernel
theorem dX11_falseShare_55 : decode cX11_falseShare 55 = .ok (.lload 6, 2) := by decide +kernel
theorem dX11_falseShare_57 : decode cX11_falseShare 57 = .ok (.invokestatic 256, 3) := by decide +kernel
theorem dX11_falseShare_60 : decode cX11_falseShare 60 = .ok (.lstore 8, 2) := by decide +kernel
theorem dX11_falseShare_62 : decode cX11_falseShare 62 = .ok (.iload_n 3, 1) := by decide +kernel
theorem dX11_falseShare_63 : decode cX11_falseShare 63 = .ok (.ifCond .ne 8, 3) := by decide +kernel
theorem dX11_falseShare_66 : decode cX11_falseShare 66 = .ok (.lload 6, 2) := by decide +kernel
theorem dX11_falseShare_68 : decode cX11_falseShare 68 = .ok (.goto 5, 3) := by decide +kernel
theorem dX11_falseShare_71 : decode cX11_falseShare 71 = .ok (.lload 4, 2) := by decide +kernel
theorem dX11_falseShare_73 : decode cX11_falseShare 73 = .ok (.lload 8, 2) := by decide +kernel
theorem dX11_falseShare_75 : decode cX11_falseShare 75 = .ok (.lconst 1, 1) := by decide +kernel
theorem dX11_falseShare_76 : decode cX11_falseShare 76 = .ok (.lcmp, 1) := by decide +kernel
theorem dX11_falseShare_77 : decode cX11_falseShare 77 = .ok (.ifCond .ge 7, 3) := by decide +kernel
theorem dX11_falseShare_80 : decode cX11_falseShare 80 = .ok (.lconst 1, 1) := by decide +kernel
theorem dX11_falseShare_81 : decode cX11_falseShare 81 = .ok (.goto 5, 3) := by decide +kernel
theorem dX11_falseShare_84 : decode cX11_falseShare 84 = .ok (.lload 8, 2) := by decide +kernel
theorem dX11_falseShare_86 : decode cX11_falseShare 86 = .ok (.ldiv, 1) := by decide +kernel
theorem dX11_falseShare_87 : decode cX11_falseShare 87 = .ok (.lreturn, 1) := by decide +kernel
def X_TH_falseShare_20 (KT : xs_St → Prop) (K : Int64 → xs_St → Prop) (u : xs_St) : Prop :=
  KT u
set_option maxHeartbeats 4000000 in
set_option maxRecDepth 100000 in
theorem X_TH_falseShare_20_w {KT : xs_St → Prop} (hlt : l.stackTraces = false) (hne : ∀ x ∈ c.exceptionTable.toList, False) {K : Int64 → xs_St → Prop} (C : th_Cx p s m args meth c cX11_falseShare RX11 10 (some .long) (dC, dI) (th_ty cs) (xE ad ak) A) (v : Nat → Nat) (u : xs_St) (H : Heap) (locs : List Loc) (ls : Array Slot) (hf : X_TH_falseShare_20 KT K u) (hw : th_wI (dC, dI) (wX cs ad q v v) A s.heap u H locs) (hl : lv_has ls 10 []) (n9 m9 : Nat) (h9 : n9 + 1 ≤ 1) (g9 : m9 + 6 ≤ 6) : W p l e (th_rm 6 1 6) s m args below meth c H locs n9 m9 (vx_MQ below (va_Ql (fun r9 a9 => K r9 a9.2) (th_Post (dC, dI) (wXs cs ad q) A) A) (th_XT (dC, dI) (wXs cs ad q) A (fun a9 => KT a9.2)) args s 1 6 A) (F0 m 20 ls []) := by
  have hx := C.1
  have hb := C.2.1
  unfold X_TH_falseShare_20 at hf
  exact x_thr (T0 := fun a9 => KT a9.2) (w := wXs cs ad q) (u := (v, u)) C hlt hne hw hf (C.2.2.2.2.1 _ hwO_X11_148) (x_e3 C).2.2.2.2.2 hl.1 dX11_falseShare_20 dX11_falseShare_23 dX11_falseShare_24 dX11_falseShare_26 dX11_falseShare_29 (Nat.le_of_ble_eq_true rfl) (Nat.le_of_ble_eq_true rfl) (by simp only [th_rm]; omega) (by simp only [th_rm]; omega) (by omega) (by omega)
def X_TH_falseShare_86 (KT : xs_St → Prop) (K : Int64 → xs_St → Prop) (z0 : Int64) (z1 : Int64) (u : xs_St) : Prop :=
  (¬ z0 = 0 ∧ K (z1 / z0) u)
set_option maxHeartbeats 4000000 in
set_option maxRecDepth 100000 in
theorem X_TH_falseShare_86_w {KT : xs_St → Prop} (hlt : l.stackTraces = false) (hne : ∀ x ∈ c.exceptionTable.toList, False) {K : Int64 → xs_St → Prop} (C : th_Cx p s m args meth c cX11_falseShare RX11 10 (some .long) (dC, dI) (th_ty cs) (xE ad ak) A) (z0 : Int64) (z1 : Int64) (v : Nat → Nat) (u : xs_St) (H : Heap) (locs : List Loc) (ls : Array Slot) (hf : X_TH_falseShare_86 KT K z0 z1 u) (hw : th_wI (dC, dI) (wX cs ad q v v) A s.heap u H locs) (hl : lv_has ls 10 []) (n9 m9 : Nat) (h9 : n9 + 0 ≤ 1) (g9 : m9 + 0 ≤ 6) : W p l e (th_rm 6 1 6) s m args below meth c H locs n9 m9 (vx_MQ below (va_Ql (fun r9 a9 => K r9 a9.2) (th_Post (dC, dI) (wXs cs ad q) A) A) (th_XT (dC, dI) (wXs cs ad q) A (fun a9 => KT a9.2)) args s 1 6 A) (F0 m 86 ls [.long z0, .long z1]) := by
  have hx := C.1
  have hb := C.2.1
  unfold X_TH_falseShare_86 at hf
  refine lv_ldiv hx hb dX11_falseShare_86 hf.1 ?_
  replace hf := hf.2
  refine vx_ret ?_
  refine W.widen (k := 1) (n := 6) (by omega) (by omega) ?_
  exact th_lret (K := (fun r9 a9 => K r9 a9.2)) (w := wXs cs ad q) (u := (v, u)) C hw hf dX11_falseShare_87
def X_TH_falseShare_73 (KT : xs_St → Prop) (K : Int64 → xs_St → Prop) (x8 : Int64) (z0 : Int64) (u : xs_St) : Prop :=
  ((0 ≤ (lg_cmp x8 (1 : Int64)) → X_TH_falseShare_86 KT K x8 z0 u) ∧ (¬ 0 ≤ (lg_cmp x8 (1 : Int64)) → X_TH_falseShare_86 KT K (1 : Int64) z0 u))
set_option maxHeartbeats 4000000 in
set_option maxRecDepth 100000 in
theorem X_TH_falseShare_73_w {KT : xs_St → Prop} (hlt : l.stackTraces = false) (hne : ∀ x ∈ c.exceptionTable.toList, False) {K : Int64 → xs_St → Prop} (C : th_Cx p s m args meth c cX11_falseShare RX11 10 (some .long) (dC, dI) (th_ty cs) (xE ad ak) A) (x8 : Int64) (z0 : Int64) (v : Nat → Nat) (u : xs_St) (H : Heap) (locs : List Loc) (ls : Array Slot) (hf : X_TH_falseShare_73 KT K x8 z0 u) (hw : th_wI (dC, dI) (wX cs ad q v v) A s.heap u H locs) (hl : lv_has ls 10 [(8, .long x8)]) (n9 m9 : Nat) (h9 : n9 + 0 ≤ 1) (g9 : m9 + 0 ≤ 6) : W p l e (th_rm 6 1 6) s m args below meth c H locs n9 m9 (vx_MQ below (va_Ql (fun r9 a9 => K r9 a9.2) (th_Post (dC, dI) (wXs cs ad q) A) A) (th_XT (dC, dI) (wXs cs ad q) A (fun a9 => KT a9.2)) args s 1 6 A) (F0 m 73 ls [.long z0]) := by
  have hx := C.1
  have hb := C.2.1
  unfold X_TH_falseShare_73 at hf
  refine lv_lload hx hb dX11_falseShare_73 (lv_at hl 0 rfl) ?_
  refine lv_lconst (v := (1 : Int64)) hx hb dX11_falseShare_75 (by decide) ?_
  refine W.lcmp hx hb dX11_falseShare_76 ?_
  refine lv_if_ge (tgt := 84) hx hb dX11_falseShare_77 (by decide) (fun hc => ?_) (fun hc => ?_)
  · replace hf := hf.1 hc
    clear hc
    refine lv_lload hx hb dX11_falseShare_84 (lv_at hl 0 rfl) ?_
    exact X_TH_falseShare_86_w hlt hne C x8 z0 v u _ _ _ hf hw (lv_sub hl [] rfl) _ _ (by omega) (by omega)
  · replace hf := hf.2 hc
    clear hc
    refine lv_lconst (v := (1 : Int64)) hx hb dX11_falseShare_80 (by decide) ?_
    refine lv_goto (tgt := 86) hx hb dX11_falseShare_81 (by decide) ?_
    exact X_TH_falseShare_86_w hlt hne C (1 : Int64) z0 v u _ _ _ hf hw (lv_sub hl [] rfl) _ _ (by omega) (by omega)
def X_TH_falseShare (KT : xs_St → Prop) (a1 : Int32) (a2 : Int32) (a3 : Int32) (u : xs_St) (K : Int64 → xs_St → Prop) : Prop :=
  ((a1 < (1 : Int32) → X_TH_falseShare_20 KT K u) ∧ (¬ a1 < (1 : Int32) → (((12 : Int32) < a1 → X_TH_falseShare_20 KT K u) ∧ (¬ (12 : Int32) < a1 → ((a3 < 0 → X_TH_falseShare_20 KT K u) ∧ (¬ a3 < 0 → ((a3 ≤ (1 : Int32) → X_TH_countWays a1 u (fun r_2 u_1 => X_TH_waysAbove (a1 * (xi u_1 303)) a2 u_1 (fun r_5 u_4 => X_TH_commonDivisor r_2 r_5 u_4 (fun r_7 u_6 => ((¬ a3 = 0 → X_TH_falseShare_73 KT K r_7 r_2 u_6) ∧ (a3 = 0 → X_TH_falseShare_73 KT K r_7 r_5 u_6)))))) ∧ (¬ a3 ≤ (1 : Int32) → X_TH_falseShare_20 KT K u))))))))
set_option maxHeartbeats 4000000 in
set_option maxRecDepth 100000 in
theorem X_TH_falseShare_c {l : Launch} {dC : Nat → ClassId} {dI : Nat → Nat → Nat} {cs : Nat → ClassId} {ad ak : Nat → Nat} {q v : Nat → Nat} {KT : xs_St → Prop} (hlt : l.stackTraces = false) {a1 : Int32} {a2 : Int32} {a3 : Int32} {u : xs_St} {K : Int64 → xs_St → Prop} (hf : X_TH_falseShare KT a1 a2 a3 u K) : th_Xl l yX11_falseShare cX11_falseShare 10 (some .long) 6 1 6 (dC, dI) (th_ty cs) (xE ad ak) (wXs cs ad q) [.ref (q 99), .int a1, .int a2, .int a3] (v, u) (fun r9 a9 => K r9 a9.2) (fun a9 => KT a9.2) := by
  refine th_ofXl (by decide) (Nat.le_of_ble_eq_true rfl) (xE_ok ad ak) ?_
  intro p e s m below meth c A ls C hne hw hl
  have C : th_Cx p s m _ meth c cX11_falseShare RX11 10 (some .long) (dC, dI) (th_ty cs) (xE ad ak) A := C
  have hl : lv_has ls 10 [(0, .ref (q 99)), (1, .int a1), (2, .int a2), (3, .int a3)] := hl
  generalize (List.toArray _ : Array Value) = args at C ⊢
  have hx := C.1
  have hb := C.2.1
  unfold X_TH_falseShare at hf
  refine lv_iload_n hx hb dX11_falseShare_0 rfl (lv_at hl 1 rfl) ?_
  refine lv_iconst (v := (1 : Int32)) hx hb dX11_falseShare_1 (by decide) ?_
  refine lv_icmp_lt (tgt := 20) hx hb dX11_falseShare_2 (by decide) (fun hc => ?_) (fun hc => ?_)
  · replace hf := hf.1 hc
    clear hc
    exact X_TH_falseShare_20_w hlt hne C  v u _ _ _ hf hw (lv_sub hl [] rfl) _ _ (by omega) (by omega)
  · replace hf := hf.2 hc
    clear hc
    refine lv_iload_n hx hb dX11_falseShare_5 rfl (lv_at hl 1 rfl) ?_
    refine lv_bipush (v := (12 : Int32)) hx hb dX11_falseShare_6 (by decide) ?_
    refine lv_icmp_gt (tgt := 20) hx hb dX11_falseShare_8 (by decide) (fun hc => ?_) (fun hc => ?_)
    · replace hf := hf.1 hc
      clear hc
      exact X_TH_falseShare_20_w hlt hne C  v u _ _ _ hf hw (lv_sub hl [] rfl) _ _ (by omega) (by omega)
    · replace hf := hf.2 hc
      clear hc
      refine lv_iload_n hx hb dX11_falseShare_11 rfl (lv_at hl 3 rfl) ?_
      refine lv_if_lt (tgt := 20) hx hb dX11_falseShare_12 (by decide) (fun hc => ?_) (fun hc => ?_)
      · replace hf := hf.1 hc
        clear hc
        exact X_TH_falseShare_20_w hlt hne C  v u _ _ _ hf hw (lv_sub hl [] rfl) _ _ (by omega) (by omega)
      · replace hf := hf.2 hc
        clear hc
        refine lv_iload_n hx hb dX11_falseShare_15 rfl (lv_at hl 3 rfl) ?_
        refine lv_iconst (v := (1 : Int32)) hx hb dX11_falseShare_16 (by decide) ?_
        refine lv_icmp_le (tgt := 30) hx hb dX11_falseShare_17 (by decide) (fun hc => ?_) (fun hc => ?_)
        · replace hf := hf.1 hc
          clear hc
          refine lv_aload_n hx hb dX11_falseShare_30 rfl (lv_at hl 0 rfl) ?_
          refine lv_iload_n hx hb dX11_falseShare_31 rfl (lv_at hl 1 rfl) ?_
          refine th_callVl (As := [.int a1]) (rest := []) (w := wXs cs ad q) (u := (v, u)) C lkX11_248 (X_TH_countWays_c hf) (show th_wI (dC, dI) (wXs cs ad q) A s.heap (v, u) _ _ from hw) (xRc_TH C hw) rfl rfl ⟨Nat.le_of_ble_eq_true rfl, Nat.le_of_ble_eq_true rfl⟩ hl.1 (Nat.le_of_ble_eq_true rfl) ⟨by simp only [th_rm]; omega, by simp only [th_rm]; omega⟩ dX11_falseShare_32 (fun r_2 a9 H locs hf hw => ?_)
          obtain ⟨v_3, u_1⟩ := a9
          have hw : th_wI (dC, dI) (wX cs ad q v_3 v_3) A s.heap u_1 _ _ := hw
          refine lv_lstore (lv' := [(4, .long r_2), (0, .ref (q 99)), (1, .int a1), (2, .int a2), (3, .int a3)]) hx hb dX11_falseShare_35 hl (by decide) rfl (fun ls hl => ?_)
          refine lv_aload_n hx hb dX11_falseShare_37 rfl (lv_at hl 1 rfl) ?_
          refine lv_iload_n hx hb dX11_falseShare_38 rfl (lv_at hl 2 rfl) ?_
          refine lv_aload_n hx hb dX11_falseShare_39 rfl (lv_at hl 1 rfl) ?_
          refine xg_9 C hw (C.2.2.2.2.1 _ hwF_X11_69) dX11_falseShare_40 ?_
          refine xgn_303 C hw (va_Nw.use rfl (xN C hwG_X11_189)) dX11_falseShare_43 ?_
          refine lv_imul hx hb dX11_falseShare_46 ?_
          refine lv_iload_n hx hb dX11_falseShare_47 rfl (lv_at hl 3 rfl) ?_
          refine th_callVl (As := [.int (a1 * (xi u_1 303)), .int a2]) (rest := []) C lkX11_252 (X_TH_waysAbove_c hf) hw (xRc_TH C hw) rfl rfl ⟨Nat.le_of_ble_eq_true rfl, Nat.le_of_ble_eq_true rfl⟩ hl.1 (Nat.le_of_ble_eq_true rfl) ⟨by simp only [th_rm]; omega, by simp only [th_rm]; omega⟩ dX11_falseShare_48 (fun r_5 u_4 H locs hf hw => ?_)
          refine lv_lstore (lv' := [(6, .long r_5), (4, .long r_2), (0, .ref (q 99)), (1, .int a1), (2, .int a2), (3, .int a3)]) hx hb dX11_falseShare_51 hl (by decide) rfl (fun ls hl => ?_)
          refine lv_lload hx hb dX11_falseShare_53 (lv_at hl 1 rfl) ?_
          refine lv_lload hx hb dX11_falseShare_55 (lv_at hl 0 rfl) ?_
          refine th_callSl (As := [.long r_2, .long r_5]) (rest := []) C lkX11_256 (X_TH_commonDivisor_c hf) hw rfl rfl ⟨Nat.le_of_ble_eq_true rfl, Nat.le_of_ble_eq_true rfl⟩ hl.1 (Nat.le_of_ble_eq_true rfl) ⟨by simp only [th_rm]; omega, by simp only [th_rm]; omega⟩ dX11_falseShare_57 (fun r_7 u_6 H locs hf hw => ?_)
          refine lv_lstore (lv' := [(8, .long r_7), (6, .long r_5), (4, .long r_2), (0, .ref (q 99)), (1, .int a1), (2, .int a2), (3, .int a3)]) hx hb dX11_falseShare_60 hl (by decide) rfl (fun ls hl => ?_)
          refine lv_iload_n hx hb dX11_falseShare_62 rfl (lv_at hl 6 rfl) ?_
          refine lv_if_ne (tgt := 71) hx hb dX11_falseShare_63 (by decide) (fun hc => ?_) (fun hc => ?_)
          · replace hf := hf.1 hc
            clear hc
            refine lv_lload hx hb dX11_falseShare_71 (lv_at hl 2 rfl) ?_
            exact X_TH_falseShare_73_w hlt hne C r_7 r_2 v_3 u_6 _ _ _ hf hw (lv_sub hl [0] rfl) _ _ (by omega) (by omega)
          · replace hf := hf.2 hc
            clear hc
            refine lv_lload hx hb dX11_falseShare_66 (lv_at hl 1 rfl) ?_
            refine lv_goto (tgt := 73) hx hb dX11_falseShare_68 (by decide) ?_
            exact X_TH_falseShare_73_w hlt hne C r_7 r_5 v_3 u_6 _ _ _ hf hw (lv_sub hl [0] rfl) _ _ (by omega) (by omega)
        · replace hf := hf.2 hc
          clear hc
          exact X_TH_falseShare_20_w hlt hne C  v u _ _ _ hf hw (lv_sub hl [] rfl) _ _ (by omega) (by omega)
/-! X_TH_felt -/
theorem dX11_felt_0 : decode cX11_felt 0 = .ok (.aload_n 0, 1) := by decide +kernel
theorem dX11_felt_1 : decode cX11_felt 1 = .ok (.getfield 26, 3) := by decide +kernel
theorem dX11_felt_4 : decode cX11_felt 4 = .ok (.aload_n 0, 1) := by decide +kernel
theorem dX11_felt_5 : decode cX11_felt 5 = .ok (.getfield 69, 3) := by decide +kernel
theorem dX11_felt_8 : decode cX11_felt 8 = .ok (.iload_n 2, 1) := by decide +kernel
theorem dX11_felt_9 : decode cX11_felt 9 = .ok (.iload_n 3, 1) := by decide +kernel
theorem dX11_felt_10 : decode cX11_felt 10 = .ok (.invokevirtual 144, 3) := by decide +kernel
theorem dX11_felt_13 : decode cX11_felt 13 = .ok (.astore 4, 2) := by decide +kernel
theorem dX11_felt_15 : decode cX11_felt 15 = .ok (.aload 4, 2) := by decide +kernel
theorem dX11_felt_17 : decode cX11_felt 17 = .ok (.ifnull 14, 3) := by decide +kernel
theorem dX11_felt_20 : decode cX11_felt 20 = .ok (.aload_n 0, 1) := by decide +kernel
theorem dX11_felt_21 : decode cX11_felt 21 = .ok (.getfield 69, 3) := by decide +kernel
theorem dX11_felt_24 : decode cX11_felt 24 = .ok (.iload_n 1, 1) := by decide +kernel
theorem dX11_felt_25 : decode cX11_felt 25 = .ok (.invokevirtual 116, 3) := by decide +kernel
theorem dX11_felt_28 : decode cX11_felt 28 = .ok (.ifCond .ne 13, 3) := by decide +kernel
theorem dX11_felt_31 : decode cX11_felt 31 = .ok (.new 148, 3) := by decide +kernel
theorem dX11_felt_34 : decode cX11_felt 34 = .ok (.dup, 1) := by decide +kernel
theorem dX11_felt_35 : decode cX11_felt 35 = .ok (.ldc 150, 2) := by decide +kernel
theorem dX11_felt_37 : decode cX11_felt 37 = .ok (.invokespecial 152, 3) := by decide +kernel
theorem dX11_felt_40 : decode cX11_felt 40 = .ok (.athrow, 1) := by decide +kernel
theorem dX11_felt_41 : decode cX11_felt 41 = .ok (.aload 4, 2) := by decide +kernel
theorem dX11_felt_43 : decode cX11_felt 43 = .ok (.iload_n 1, 1) := by decide +kernel
theorem dX11_felt_44 : decode cX11_felt 44 = .ok (.invokevirtual 155, 3) := by decide +kernel
theorem dX11_felt_47 : decode cX11_felt 47 = .ok (.ireturn, 1) := by decide +kernel
def X_TH_felt_31 (KT : xs_St → Prop) (K : Int32 → xs_St → Prop) (u : xs_St) : Prop :=
  KT u
set_option maxHeartbeats 4000000 in
set_option maxRecDepth 100000 in
theorem X_TH_felt_31_w {KT : xs_St → Prop} (hlt : l.stackTraces = false) (hne : ∀ x ∈ c.exceptionTable.toList, False) {K : Int32 → xs_St → Prop} (C : th_Cx p s m args meth c cX11_felt RX11 5 (some .int) (dC, dI) (th_ty cs) (xE ad ak) A) (u : xs_St) (H : Heap) (locs : List Loc) (ls : Array Slot) (hf : X_TH_felt_31 KT K u) (hw : th_wI (dC, dI) (wX cs ad q v v) A s.heap u H locs) (hl : lv_has ls 5 []) (n9 m9 : Nat) (h9 : n9 + 1 ≤ 83) (g9 : m9 + 6 ≤ 2302) : W p l e (th_rm 6 83 2302) s m args below meth c H locs n9 m9 (vx_MQ below (va_Qi K (th_Post (dC, dI) (wX cs ad q v v) A) A) (th_XT (dC, dI) (wX cs ad q v v) A KT) args s 83 2302 A) (F0 m 31 ls []) := by
  have hx := C.1
  have hb := C.2.1
  unfold X_TH_felt_31 at hf
  exact x_thr C hlt hne hw hf (C.2.2.2.2.1 _ hwO_X11_148) (x_e3 C).2.2.1 hl.1 dX11_felt_31 dX11_felt_34 dX11_felt_35 dX11_felt_37 dX11_felt_40 (Nat.le_of_ble_eq_true rfl) (Nat.le_of_ble_eq_true rfl) (by simp only [th_rm]; omega) (by simp only [th_rm]; omega) (by omega) (by omega)
def X_TH_felt (KT : xs_St → Prop) (a1 : Int32) (a2 : Int32) (a3 : Int32) (u : xs_St) (K : Int32 → xs_St → Prop) : Prop :=
  X_BD_feelOf a2 a3 u (fun r_2 u_1 => ((r_2 = none → X_TH_felt_31 KT K u_1) ∧ (¬ r_2 = none → X_T_hasFoot_A a1 u_1 (fun r_4 u_3 => ((¬ r_4 = 0 → (∃ b_5 : Nat, r_2 = some b_5 ∧ xd_is u_3 b_5 3 ∧ X_Feel_of_d b_5 a1 u_3 (fun r_7 u_6 => K r_7 u_6))) ∧ (r_4 = 0 → X_TH_felt_31 KT K u_3))))))
set_option maxHeartbeats 4000000 in
set_option maxRecDepth 100000 in
theorem X_TH_felt_c {l : Launch} {dC : Nat → ClassId} {dI : Nat → Nat → Nat} {cs : Nat → ClassId} {ad ak : Nat → Nat} {q v : Nat → Nat} {KT : xs_St → Prop} (hlt : l.stackTraces = false) {a1 : Int32} {a2 : Int32} {a3 : Int32} {u : xs_St} {K : Int32 → xs_St → Prop} (hf : X_TH_felt KT a1 a2 a3 u K) : th_Xi l yX11_felt cX11_felt 5 (some .int) 6 83 2302 (dC, dI) (th_ty cs) (xE ad ak) (wX cs ad q v v) [.ref (q 99), .int a1, .int a2, .int a3] u K KT := by
  refine th_ofXi (by decide) (Nat.le_of_ble_eq_true rfl) (xE_ok ad ak) ?_
  intro p e s m below meth c A ls C hne hw hl
  have C : th_Cx p s m _ meth c cX11_felt RX11 5 (some .int) (dC, dI) (th_ty cs) (xE ad ak) A := C
  have hl : lv_has ls 5 [(0, .ref (q 99)), (1, .int a1), (2, .int a2), (3, .int a3)] := hl
  generalize (List.toArray _ : Array Value) = args at C ⊢
  have hx := C.1
  have hb := C.2.1
  unfold X_TH_felt at hf
  refine lv_aload_n hx hb dX11_felt_0 rfl (lv_at hl 0 rfl) ?_
  refine xg_2 C hw (C.2.2.2.2.1 _ hwF_X11_26) dX11_felt_1 ?_
  refine lv_aload_n hx hb dX11_felt_4 rfl (lv_at hl 0 rfl) ?_
  refine xg_9 C hw (C.2.2.2.2.1 _ hwF_X11_69) dX11_felt_5 ?_
  refine lv_iload_n hx hb dX11_felt_8 rfl (lv_at hl 2 rfl) ?_
  refine lv_iload_n hx hb dX11_felt_9 rfl (lv_at hl 3 rfl) ?_
  refine th_callVq (As := [.ref (v 399), .int a2, .int a3]) (rest := []) C lkX11_144 (X_BD_feelOf_c hf) hw (xRc_BD C hw) rfl rfl ⟨Nat.le_of_ble_eq_true rfl, Nat.le_of_ble_eq_true rfl⟩ hl.1 (Nat.le_of_ble_eq_true rfl) ⟨by simp only [th_rm]; omega, by simp only [th_rm]; omega⟩ dX11_felt_10 (fun r_2 u_1 H locs hf hw => ?_)
  refine th_astore (r := r_2) (lv' := [(4, va_rf r_2), (0, .ref (q 99)), (1, .int a1), (2, .int a2), (3, .int a3)]) hx hb dX11_felt_13 hl (by decide) rfl (fun ls hl => ?_)
  refine th_aload hx hb dX11_felt_15 (lv_at hl 0 rfl) ?_
  refine th_ifnull (tgt := 31) hx hb dX11_felt_17 (by decide) (fun hc => ?_) (fun hc => ?_)
  · replace hf := hf.1 hc
    clear hc
    exact X_TH_felt_31_w hlt hne C  u_1 _ _ _ hf hw (lv_sub hl [] rfl) _ _ (by omega) (by omega)
  · replace hf := hf.2 hc
    clear hc
    refine lv_aload_n hx hb dX11_felt_20 rfl (lv_at hl 1 rfl) ?_
    refine xg_9 C hw (C.2.2.2.2.1 _ hwF_X11_69) dX11_felt_21 ?_
    refine lv_iload_n hx hb dX11_felt_24 rfl (lv_at hl 2 rfl) ?_
    refine th_callVi (As := [.int a1]) (rest := []) C lkX11_116 (X_T_hasFoot_A_c hf) hw (xRc_TA C hw) rfl rfl ⟨Nat.le_of_ble_eq_true rfl, Nat.le_of_ble_eq_true rfl⟩ hl.1 (Nat.le_of_ble_eq_true rfl) ⟨by simp only [th_rm]; omega, by simp only [th_rm]; omega⟩ dX11_felt_25 (fun r_4 u_3 H locs hf hw => ?_)
    refine lv_if_ne (tgt := 41) hx hb dX11_felt_28 (by decide) (fun hc => ?_) (fun hc => ?_)
    · replace hf := hf.1 hc
      clear hc
      refine th_aload hx hb dX11_felt_41 (lv_at hl 0 rfl) ?_
      refine lv_iload_n hx hb dX11_felt_43 rfl (lv_at hl 2 rfl) ?_
      obtain ⟨b_5, e9, hm, hf⟩ := hf
      refine W.eq (g2 := F0 m 44 ls [.int a1, .ref b_5]) (congrArg (fun z9 => F0 m 44 ls [.int a1, va_rf z9]) e9) ?_
      clear e9
      refine th_callVi (As := [.int a1]) (rest := []) C lkX11_155 (X_Feel_of_d_c hf) hw (xdRc_Feel C hw hm) rfl rfl ⟨Nat.le_of_ble_eq_true rfl, Nat.le_of_ble_eq_true rfl⟩ hl.1 (Nat.le_of_ble_eq_true rfl) ⟨by simp only [th_rm]; omega, by simp only [th_rm]; omega⟩ dX11_felt_44 (fun r_7 u_6 H locs hf hw => ?_)
      refine vx_ret ?_
      refine W.widen (k := 83) (n := 2302) (by omega) (by omega) ?_
      exact th_iret C hw hf dX11_felt_47
    · replace hf := hf.2 hc
      clear hc
      exact X_TH_felt_31_w hlt hne C  u_3 _ _ _ hf hw (lv_sub hl [] rfl) _ _ (by omega) (by omega)
/-! X_TH_mayFeel -/
theorem dX11_mayFeel_0 : decode cX11_mayFeel 0 = .ok (.iload_n 1, 1) := by decide +kernel
theorem dX11_mayFeel_1 : decode cX11_mayFeel 1 = .ok (.ifCond .lt 23, 3) := by decide +kernel
theorem dX11_mayFeel_4 : decode cX11_mayFeel 4 = .ok (.iload_n 1, 1) := by decide +kernel
theorem dX11_mayFeel_5 : decode cX11_mayFeel 5 = .ok (.aload_n 0, 1) := by decide +kernel
theorem dX11_mayFeel_6 : decode cX11_mayFeel 6 = .ok (.getfield 33, 3) := by decide +kernel
theorem dX11_mayFeel_9 : decode cX11_mayFeel 9 = .ok (.getfield 196, 3) := by decide +kernel
theorem dX11_mayFeel_12 : decode cX11_mayFeel 12 = .ok (.if_icmp .ge 12, 3) := by decide +kernel
theorem dX11_mayFeel_15 : decode cX11_mayFeel 15 = .ok (.iload_n 2, 1) := by decide +kernel
theorem dX11_mayFeel_16 : decode cX11_mayFeel 16 = .ok (.ifCond .lt 8, 3) := by decide +kernel
theorem dX11_mayFeel_19 : decode cX11_mayFeel 19 = .ok (.iload_n 2, 1) := by decide +kernel
theorem dX11_mayFeel_20 : decode cX11_mayFeel 20 = .ok (.iconst 1, 1) := by decide +kernel
theorem dX11_mayFeel_21 : decode cX11_mayFeel 21 = .ok (.if_icmp .le 13, 3) := by decide +kernel
theorem dX11_mayFeel_24 : decode cX11_mayFeel 24 = .ok (.new 148, 3) := by decide +kernel
theorem dX11_mayFeel_27 : decode cX11_mayFeel 27 = .ok (.dup, 1) := by decide +kernel
theorem dX11_mayFeel_28 : decode cX11_mayFeel 28 = .ok (.ldc 197, 2) := by decide +kernel
theorem dX11_mayFeel_30 : decode cX11_mayFeel 30 = .ok (.invokespecial 152, 3) := by decide +kernel
theorem dX11_mayFeel_33 : decode cX11_mayFeel 33 = .ok (.athrow, 1) := by decide +kernel
theorem dX11_mayFeel_34 : decode cX11_mayFeel 34 = .ok (.iload_n 2, 1) := by decide +kernel
theorem dX11_mayFeel_35 : decode cX11_mayFeel 35 = .ok (.ifCond .ne 15, 3) := by decide +kernel
theorem dX11_mayFeel_38 : decode cX11_mayFeel 38 = .ok (.aload_n 0, 1) := by decide +kernel
theorem dX11_mayFeel_39 : decode cX11_mayFeel 39 = .ok (.getfield 33, 3) := by decide +kernel
theorem dX11_mayFeel_42 : decode cX11_mayFeel 42 = .ok (.getfield 199, 3) := by decide +kernel
theorem dX11_mayFeel_45 : decode cX11_mayFeel 45 = .ok (.iload_n 1, 1) := by decide +kernel
theorem dX11_mayFeel_46 : decode cX11_mayFeel 46 = .ok (.iaload, 1) := by decide +kernel
theorem dX11_mayFeel_47 : decode cX11_mayFeel 47 = .ok (.goto 12, 3) := by decide +kernel
theorem dX11_mayFeel_50 : decode cX11_mayFeel 50 = .ok (.aload_n 0, 1) := by decide +kernel
theorem dX11_mayFeel_51 : decode cX11_mayFeel 51 = .ok (.getfield 33, 3) := by decide +kernel
theorem dX11_mayFeel_54 : decode cX11_mayFeel 54 = .ok (.getfield 202, 3) := by decide +kernel
theorem dX11_mayFeel_57 : decode cX11_mayFeel 57 = .ok (.iload_n 1, 1) := by decide +kernel
theorem dX11_mayFeel_58 : decode cX11_mayFeel 58 = .ok (.iaload, 1) := by decide +kernel
theorem dX11_mayFeel_59 : decode cX11_mayFeel 59 = .ok (.ireturn, 1) := by decide +kernel
def X_TH_mayFeel_24 (KT : xs_St → Prop) (K : Int32 → xs_St → Prop) (u : xs_St) : Prop :=
  KT u
set_option maxHeartbeats 4000000 in
set_option maxRecDepth 100000 in
theorem X_TH_mayFeel_24_w {KT : xs_St → Prop} (hlt : l.stackTraces = false) (hne : ∀ x ∈ c.exceptionTable.toList, False) {K : Int32 → xs_St → Prop} (C : th_Cx p s m args meth c cX11_mayFeel RX11 3 (some .int) (dC, dI) (th_ty cs) (xE ad ak) A) (u : xs_St) (H : Heap) (locs : List Loc) (ls : Array Slot) (hf : X_TH_mayFeel_24 KT K u) (hw : th_wI (dC, dI) (wX cs ad q v v) A s.heap u H locs) (hl : lv_has ls 3 []) (n9 m9 : Nat) (h9 : n9 + 1 ≤ 1) (g9 : m9 + 6 ≤ 6) : W p l e (th_rm 6 1 6) s m args below meth c H locs n9 m9 (vx_MQ below (va_Qi K (th_Post (dC, dI) (wX cs ad q v v) A) A) (th_XT (dC, dI) (wX cs ad q v v) A KT) args s 1 6 A) (F0 m 24 ls []) := by
  have hx := C.1
  have hb := C.2.1
  unfold X_TH_mayFeel_24 at hf
  exact x_thr C hlt hne hw hf (C.2.2.2.2.1 _ hwO_X11_148) (x_e3 C).2.2.2.2.1 hl.1 dX11_mayFeel_24 dX11_mayFeel_27 dX11_mayFeel_28 dX11_mayFeel_30 dX11_mayFeel_33 (Nat.le_of_ble_eq_true rfl) (Nat.le_of_ble_eq_true rfl) (by simp only [th_rm]; omega) (by simp only [th_rm]; omega) (by omega) (by omega)
def X_TH_mayFeel_59 (KT : xs_St → Prop) (K : Int32 → xs_St → Prop) (z0 : Int32) (u : xs_St) : Prop :=
  K z0 u
set_option maxHeartbeats 4000000 in
set_option maxRecDepth 100000 in
theorem X_TH_mayFeel_59_w {KT : xs_St → Prop} (hlt : l.stackTraces = false) (hne : ∀ x ∈ c.exceptionTable.toList, False) {K : Int32 → xs_St → Prop} (C : th_Cx p s m args meth c cX11_mayFeel RX11 3 (some .int) (dC, dI) (th_ty cs) (xE ad ak) A) (z0 : Int32) (u : xs_St) (H : Heap) (locs : List Loc) (ls : Array Slot) (hf : X_TH_mayFeel_59 KT K z0 u) (hw : th_wI (dC, dI) (wX cs ad q v v) A s.heap u H locs) (hl : lv_has ls 3 []) (n9 m9 : Nat) (h9 : n9 + 0 ≤ 1) (g9 : m9 + 0 ≤ 6) : W p l e (th_rm 6 1 6) s m args below meth c H locs n9 m9 (vx_MQ below (va_Qi K (th_Post (dC, dI) (wX cs ad q v v) A) A) (th_XT (dC, dI) (wX cs ad q v v) A KT) args s 1 6 A) (F0 m 59 ls [.int z0]) := by
  have hx := C.1
  have hb := C.2.1
  unfold X_TH_mayFeel_59 at hf
  refine vx_ret ?_
  refine W.widen (k := 1) (n := 6) (by omega) (by omega) ?_
  exact th_iret C hw hf dX11_mayFeel_59
def X_TH_mayFeel (KT : xs_St → Prop) (a1 : Int32) (a2 : Int32) (u : xs_St) (K : Int32 → xs_St → Prop) : Prop :=
  ((a1 < 0 → X_TH_mayFeel_24 KT K u) ∧ (¬ a1 < 0 → (((xi u 602) ≤ a1 → X_TH_mayFeel_24 KT K u) ∧ (¬ (xi u 602) ≤ a1 → ((a2 < 0 → X_TH_mayFeel_24 KT K u) ∧ (¬ a2 < 0 → ((a2 ≤ (1 : Int32) → ((¬ a2 = 0 → (vp_in a1 48 ∧ ∀ y_1 : Int32, y_1 = xa u 601 (a1).toNatClampNeg → X_TH_mayFeel_59 KT K y_1 u)) ∧ (a2 = 0 → (vp_in a1 48 ∧ ∀ y_2 : Int32, y_2 = xa u 600 (a1).toNatClampNeg → X_TH_mayFeel_59 KT K y_2 u)))) ∧ (¬ a2 ≤ (1 : Int32) → X_TH_mayFeel_24 KT K u))))))))
set_option maxHeartbeats 4000000 in
set_option maxRecDepth 100000 in
theorem X_TH_mayFeel_c {l : Launch} {dC : Nat → ClassId} {dI : Nat → Nat → Nat} {cs : Nat → ClassId} {ad ak : Nat → Nat} {q v : Nat → Nat} {KT : xs_St → Prop} (hlt : l.stackTraces = false) {a1 : Int32} {a2 : Int32} {u : xs_St} {K : Int32 → xs_St → Prop} (hf : X_TH_mayFeel KT a1 a2 u K) : th_Xi l yX11_mayFeel cX11_mayFeel 3 (some .int) 6 1 6 (dC, dI) (th_ty cs) (xE ad ak) (wX cs ad q v v) [.ref (q 99), .int a1, .int a2] u K KT := by
  refine th_ofXi (by decide) (Nat.le_of_ble_eq_true rfl) (xE_ok ad ak) ?_
  intro p e s m below meth c A ls C hne hw hl
  have C : th_Cx p s m _ meth c cX11_mayFeel RX11 3 (some .int) (dC, dI) (th_ty cs) (xE ad ak) A := C
  have hl : lv_has ls 3 [(0, .ref (q 99)), (1, .int a1), (2, .int a2)] := hl
  generalize (List.toArray _ : Array Value) = args at C ⊢
  have hx := C.1
  have hb := C.2.1
  unfold X_TH_mayFeel at hf
  refine lv_iload_n hx hb dX11_mayFeel_0 rfl (lv_at hl 1 rfl) ?_
  refine lv_if_lt (tgt := 24) hx hb dX11_mayFeel_1 (by decide) (fun hc => ?_) (fun hc => ?_)
  · replace hf := hf.1 hc
    clear hc
    exact X_TH_mayFeel_24_w hlt hne C  u _ _ _ hf hw (lv_sub hl [] rfl) _ _ (by omega) (by omega)
  · replace hf := hf.2 hc
    clear hc
    refine lv_iload_n hx hb dX11_mayFeel_4 rfl (lv_at hl 1 rfl) ?_
    refine lv_aload_n hx hb dX11_mayFeel_5 rfl (lv_at hl 0 rfl) ?_
    refine xg_3 C hw (C.2.2.2.2.1 _ hwF_X11_33) dX11_mayFeel_6 ?_
    refine xgn_602 C hw (va_Nw.use rfl (xN C hwG_X11_196)) dX11_mayFeel_9 ?_
    refine lv_icmp_ge (tgt := 24) hx hb dX11_mayFeel_12 (by decide) (fun hc => ?_) (fun hc => ?_)
    · replace hf := hf.1 hc
      clear hc
      exact X_TH_mayFeel_24_w hlt hne C  u _ _ _ hf hw (lv_sub hl [] rfl) _ _ (by omega) (by omega)
    · replace hf := hf.2 hc
      clear hc
      refine lv_iload_n hx hb dX11_mayFeel_15 rfl (lv_at hl 2 rfl) ?_
      refine lv_if_lt (tgt := 24) hx hb dX11_mayFeel_16 (by decide) (fun hc => ?_) (fun hc => ?_)
      · replace hf := hf.1 hc
        clear hc
        exact X_TH_mayFeel_24_w hlt hne C  u _ _ _ hf hw (lv_sub hl [] rfl) _ _ (by omega) (by omega)
      · replace hf := hf.2 hc
        clear hc
        refine lv_iload_n hx hb dX11_mayFeel_19 rfl (lv_at hl 2 rfl) ?_
        refine lv_iconst (v := (1 : Int32)) hx hb dX11_mayFeel_20 (by decide) ?_
        refine lv_icmp_le (tgt := 34) hx hb dX11_mayFeel_21 (by decide) (fun hc => ?_) (fun hc => ?_)
        · replace hf := hf.1 hc
          clear hc
          refine lv_iload_n hx hb dX11_mayFeel_34 rfl (lv_at hl 2 rfl) ?_
          refine lv_if_ne (tgt := 50) hx hb dX11_mayFeel_35 (by decide) (fun hc => ?_) (fun hc => ?_)
          · replace hf := hf.1 hc
            clear hc
            refine lv_aload_n hx hb dX11_mayFeel_50 rfl (lv_at hl 0 rfl) ?_
            refine xg_3 C hw (C.2.2.2.2.1 _ hwF_X11_33) dX11_mayFeel_51 ?_
            refine xgn_601 C hw (va_Nw.use rfl (xN C hwG_X11_202)) dX11_mayFeel_54 ?_
            refine lv_iload_n hx hb dX11_mayFeel_57 rfl (lv_at hl 1 rfl) ?_
            refine yl_601 C hw hf.1 dX11_mayFeel_58 (fun y_1 e9 => ?_)
            replace hf := hf.2 y_1 e9
            clear e9
            exact X_TH_mayFeel_59_w hlt hne C y_1 u _ _ _ hf hw (lv_sub hl [] rfl) _ _ (by omega) (by omega)
          · replace hf := hf.2 hc
            clear hc
            refine lv_aload_n hx hb dX11_mayFeel_38 rfl (lv_at hl 0 rfl) ?_
            refine xg_3 C hw (C.2.2.2.2.1 _ hwF_X11_33) dX11_mayFeel_39 ?_
            refine xgn_600 C hw (va_Nw.use rfl (xN C hwG_X11_199)) dX11_mayFeel_42 ?_
            refine lv_iload_n hx hb dX11_mayFeel_45 rfl (lv_at hl 1 rfl) ?_
            refine yl_600 C hw hf.1 dX11_mayFeel_46 (fun y_2 e9 => ?_)
            replace hf := hf.2 y_2 e9
            clear e9
            refine lv_goto (tgt := 59) hx hb dX11_mayFeel_47 (by decide) ?_
            exact X_TH_mayFeel_59_w hlt hne C y_2 u _ _ _ hf hw (lv_sub hl [] rfl) _ _ (by omega) (by omega)
        · replace hf := hf.2 hc
          clear hc
          exact X_TH_mayFeel_24_w hlt hne C  u _ _ _ hf hw (lv_sub hl [] rfl) _ _ (by omega) (by omega)
/-! X_TH_read -/
theorem dX11_read_0 : decode cX11_read 0 = .ok (.aload_n 0, 1) := by decide +kernel
theorem dX11_read_1 : decode cX11_read 1 = .ok (.getfield 26, 3) := by decide +kernel
theorem dX11_read_4 : decode cX11_read 4 = .ok (.aload_n 0, 1) := by decide +kernel
theorem dX11_read_5 : decode cX11_read 5 = .ok (.getfield 69, 3) := by decide +kernel
theorem dX11_read_8 : decode cX11_read 8 = .ok (.iload_n 2, 1) := by decide +kernel
theorem dX11_read_9 : decode cX11_read 9 = .ok (.iload_n 3, 1) := by decide +kernel
theorem dX11_read_10 : decode cX11_read 10 = .ok (.invokevirtual 144, 3) := by decide +kernel
theorem dX11_read_13 : decode cX11_read 13 = .ok (.astore 5, 2) := by decide +kernel
theorem dX11_read_15 : decode cX11_read 15 = .ok (.aload 5, 2) := by decide +kernel
theorem dX11_read_17 : decode cX11_read 17 = .ok (.ifnull 25, 3) := by decide +kernel
theorem dX11_read_20 : decode cX11_read 20 = .ok (.aload_n 0, 1) := by decide +kernel
theorem dX11_read_21 : decode cX11_read 21 = .ok (.getfield 69, 3) := by decide +kernel
theorem dX11_read_24 : decode cX11_read 24 = .ok (.iload_n 1, 1) := by decide +kernel
theorem dX11_read_25 : decode cX11_read 25 = .ok (.invokevirtual 116, 3) := by decide +kernel
theorem dX11_read_28 : decode cX11_read 28 = .ok (.ifCond .eq 14, 3) := by decide +kernel
theorem dX11_read_31 : decode cX11_read 31 = .ok (.iload 4, 2) := by decide +kernel
theorem dX11_read_33 : decode cX11_read 33 = .ok (.ifCond .lt 9, 3) := by decide +kernel
theorem dX11_read_36 : decode cX11_read 36 = .ok (.iload 4, 2) := by decide +kernel
theorem dX11_read_38 : decode cX11_read 38 = .ok (.iconst 1, 1) := by decide +kernel
theorem dX11_read_39 : decode cX11_read 39 = .ok (.if_icmp .le 13, 3) := by decide +kernel
theorem dX11_read_42 : decode cX11_read 42 = .ok (.new 148, 3) := by decide +kernel
theorem dX11_read_45 : decode cX11_read 45 = .ok (.dup, 1) := by decide +kernel
theorem dX11_read_46 : decode cX11_read 46 = .ok (.ldc 164, 2) := by decide +kernel
theorem dX11_read_48 : decode cX11_read 48 = .ok (.invokespecial 152, 3) := by decide +kernel
theorem dX11_read_51 : decode cX11_read 51 = .ok (.athrow, 1) := by decide +kernel
theorem dX11_read_52 : decode cX11_read 52 = .ok (.iload 4, 2) := by decide +kernel
theorem dX11_read_54 : decode cX11_read 54 = .ok (.ifCond .ne 13, 3) := by decide +kernel
theorem dX11_read_57 : decode cX11_read 57 = .ok (.aload_n 0, 1) := by decide +kernel
theorem dX11_read_58 : decode cX11_read 58 = .ok (.getfield 69, 3) := by decide +kernel
theorem dX11_read_61 : decode cX11_read 61 = .ok (.getfield 166, 3) := by decide +kernel
theorem dX11_read_64 : decode cX11_read 64 = .ok (.goto 4, 3) := by decide +kernel
theorem dX11_read_67 : decode cX11_read 67 = .ok (.iconst 0, 1) := by decide +kernel
theorem dX11_read_68 : decode cX11_read 68 = .ok (.istore 6, 2) := by decide +kernel
theorem dX11_read_70 : decode cX11_read 70 = .ok (.iconst 2, 1) := by decide +kernel
theorem dX11_read_71 : decode cX11_read 71 = .ok (.aload 5, 2) := by decide +kernel
theorem dX11_read_73 : decode cX11_read 73 = .ok (.iload_n 1, 1) := by decide +kernel
theorem dX11_read_74 : decode cX11_read 74 = .ok (.iload 6, 2) := by decide +kernel
theorem dX11_read_76 : decode cX11_read 76 = .ok (.aload_n 0, 1) := by decide +kernel
theorem dX11_read_77 : decode cX11_read 77 = .ok (.getfield 69, 3) := by decide +kernel
theorem dX11_read_80 : decode cX11_read 80 = .ok (.getfield 169, 3) := by decide +kernel
theorem dX11_read_83 : decode cX11_read 83 = .ok (.invokevirtual 172, 3) := by decide +kernel
theorem dX11_read_86 : decode cX11_read 86 = .ok (.imul, 1) := by decide +kernel
theorem dX11_read_87 : decode cX11_read 87 = .ok (.aload 5, 2) := by decide +kernel
theorem dX11_read_89 : decode cX11_read 89 = .ok (.iload_n 1, 1) := by decide +kernel
theorem dX11_read_90 : decode cX11_read 90 = .ok (.iconst 1, 1) := by decide +kernel
theorem dX11_read_91 : decode cX11_read 91 = .ok (.isub, 1) := by decide +kernel
theorem dX11_read_92 : decode cX11_read 92 = .ok (.iload 6, 2) := by decide +kernel
theorem dX11_read_94 : decode cX11_read 94 = .ok (.aload_n 0, 1) := by decide +kernel
theorem dX11_read_95 : decode cX11_read 95 = .ok (.getfield 69, 3) := by decide +kernel
theorem dX11_read_98 : decode cX11_read 98 = .ok (.getfield 169, 3) := by decide +kernel
theorem dX11_read_101 : decode cX11_read 101 = .ok (.invokevirtual 172, 3) := by decide +kernel
theorem dX11_read_104 : decode cX11_read 104 = .ok (.iadd, 1) := by decide +kernel
theorem dX11_read_105 : decode cX11_read 105 = .ok (.aload 5, 2) := by decide +kernel
theorem dX11_read_107 : decode cX11_read 107 = .ok (.iload_n 1, 1) := by decide +kernel
theorem dX11_read_108 : decode cX11_read 108 = .ok (.iconst 1, 1) := by decide +kernel
theorem dX11_read_109 : decode cX11_read 109 = .ok (.iadd, 1) := by decide +kernel
theorem dX11_read_110 : decode cX11_read 110 = .ok (.iload 6, 2) := by decide +kernel
theorem dX11_read_112 : decode cX11_read 112 = .ok (.aload_n 0, 1) := by decide +kernel
theorem dX11_read_113 : decode cX11_read 113 = .ok (.getfield 69, 3) := by decide +kernel
theorem dX11_read_116 : decode cX11_read 116 = .ok (.getfield 169, 3) := by decide +kernel
theorem dX11_read_119 : decode cX11_read 119 = .ok (.invokevirtual 172, 3) := by decide +kernel
theorem dX11_read_122 : decode cX11_read 122 = .ok (.iadd, 1) := by decide +kernel
theorem dX11_read_123 : decode cX11_read 123 = .ok (.ireturn, 1) := by decide +kernel
def X_TH_read_42 (KT : xs_St → Prop) (K : Int32 → xs_St → Prop) (u : xs_St) : Prop :=
  KT u
set_option maxHeartbeats 4000000 in
set_option maxRecDepth 100000 in
theorem X_TH_read_42_w {KT : xs_St → Prop} (hlt : l.stackTraces = false) (hne : ∀ x ∈ c.exceptionTable.toList, False) {K : Int32 → xs_St → Prop} (C : th_Cx p s m args meth c cX11_read RX11 7 (some .int) (dC, dI) (th_ty cs) (xE ad ak) A) (u : xs_St) (H : Heap) (locs : List Loc) (ls : Array Slot) (hf : X_TH_read_42 KT K u) (hw : th_wI (dC, dI) (wX cs ad q v v) A s.heap u H locs) (hl : lv_has ls 7 []) (n9 m9 : Nat) (h9 : n9 + 1 ≤ 83) (g9 : m9 + 6 ≤ 2302) : W p l e (th_rm 6 83 2302) s m args below meth c H locs n9 m9 (vx_MQ below (va_Qi K (th_Post (dC, dI) (wX cs ad q v v) A) A) (th_XT (dC, dI) (wX cs ad q v v) A KT) args s 83 2302 A) (F0 m 42 ls []) := by
  have hx := C.1
  have hb := C.2.1
  unfold X_TH_read_42 at hf
  exact x_thr C hlt hne hw hf (C.2.2.2.2.1 _ hwO_X11_148) (x_e3 C).2.2.2.1 hl.1 dX11_read_42 dX11_read_45 dX11_read_46 dX11_read_48 dX11_read_51 (Nat.le_of_ble_eq_true rfl) (Nat.le_of_ble_eq_true rfl) (by simp only [th_rm]; omega) (by simp only [th_rm]; omega) (by omega) (by omega)
def X_TH_read_68 (KT : xs_St → Prop) (K : Int32 → xs_St → Prop) (x1 : Int32) (x5 : Option Nat) (z0 : Int32) (u : xs_St) : Prop :=
  (∃ b_1 : Nat, x5 = some b_1 ∧ xd_is u b_1 3 ∧ X_Feel_sensed_d b_1 x1 z0 (xi u 302) u (fun r_3 u_2 => (∃ b_4 : Nat, x5 = some b_4 ∧ xd_is u_2 b_4 3 ∧ X_Feel_sensed_d b_4 (x1 - (1 : Int32)) z0 (xi u_2 302) u_2 (fun r_6 u_5 => (∃ b_7 : Nat, x5 = some b_7 ∧ xd_is u_5 b_7 3 ∧ X_Feel_sensed_d b_7 (x1 + (1 : Int32)) z0 (xi u_5 302) u_5 (fun r_9 u_8 => K ((((2 : Int32) * r_3) + r_6) + r_9) u_8))))))
set_option maxHeartbeats 4000000 in
set_option maxRecDepth 100000 in
theorem X_TH_read_68_w {KT : xs_St → Prop} (hlt : l.stackTraces = false) (hne : ∀ x ∈ c.exceptionTable.toList, False) {K : Int32 → xs_St → Prop} (C : th_Cx p s m args meth c cX11_read RX11 7 (some .int) (dC, dI) (th_ty cs) (xE ad ak) A) (x1 : Int32) (x5 : Option Nat) (z0 : Int32) (u : xs_St) (H : Heap) (locs : List Loc) (ls : Array Slot) (hf : X_TH_read_68 KT K x1 x5 z0 u) (hw : th_wI (dC, dI) (wX cs ad q v v) A s.heap u H locs) (hl : lv_has ls 7 [(0, .ref (q 99)), (1, .int x1), (5, va_rf x5)]) (n9 m9 : Nat) (h9 : n9 + 0 ≤ 83) (g9 : m9 + 0 ≤ 2302) : W p l e (th_rm 6 83 2302) s m args below meth c H locs n9 m9 (vx_MQ below (va_Qi K (th_Post (dC, dI) (wX cs ad q v v) A) A) (th_XT (dC, dI) (wX cs ad q v v) A KT) args s 83 2302 A) (F0 m 68 ls [.int z0]) := by
  have hx := C.1
  have hb := C.2.1
  unfold X_TH_read_68 at hf
  refine lv_istore (i := 6) (lv' := [(6, .int z0), (0, .ref (q 99)), (1, .int x1), (5, va_rf x5)]) hx hb dX11_read_68 hl (by decide) (by simp [List.filter, th_cat, th_cate]) (fun ls hl => ?_)
  refine lv_iconst (v := (2 : Int32)) hx hb dX11_read_70 (by decide) ?_
  refine th_aload hx hb dX11_read_71 (lv_at hl 3 rfl) ?_
  refine lv_iload_n hx hb dX11_read_73 rfl (lv_at hl 2 rfl) ?_
  refine lv_iload hx hb dX11_read_74 (lv_at hl 0 rfl) ?_
  refine lv_aload_n hx hb dX11_read_76 rfl (lv_at hl 1 rfl) ?_
  refine xg_9 C hw (C.2.2.2.2.1 _ hwF_X11_69) dX11_read_77 ?_
  refine xgn_302 C hw (va_Nw.use rfl (xN C hwG_X11_169)) dX11_read_80 ?_
  obtain ⟨b_1, e9, hm, hf⟩ := hf
  refine W.eq (g2 := F0 m 83 ls [.int (xi u 302), .int z0, .int x1, .ref b_1, .int (2 : Int32)]) (congrArg (fun z9 => F0 m 83 ls [.int (xi u 302), .int z0, .int x1, va_rf z9, .int (2 : Int32)]) e9) ?_
  clear e9
  refine th_callVi (As := [.int x1, .int z0, .int (xi u 302)]) (rest := [.int (2 : Int32)]) C lkX11_172 (X_Feel_sensed_d_c hf) hw (xdRc_Feel C hw hm) rfl rfl ⟨Nat.le_of_ble_eq_true rfl, Nat.le_of_ble_eq_true rfl⟩ hl.1 (Nat.le_of_ble_eq_true rfl) ⟨by simp only [th_rm]; omega, by simp only [th_rm]; omega⟩ dX11_read_83 (fun r_3 u_2 H locs hf hw => ?_)
  refine lv_imul hx hb dX11_read_86 ?_
  refine th_aload hx hb dX11_read_87 (lv_at hl 3 rfl) ?_
  refine lv_iload_n hx hb dX11_read_89 rfl (lv_at hl 2 rfl) ?_
  refine lv_iconst (v := (1 : Int32)) hx hb dX11_read_90 (by decide) ?_
  refine lv_isub hx hb dX11_read_91 ?_
  refine lv_iload hx hb dX11_read_92 (lv_at hl 0 rfl) ?_
  refine lv_aload_n hx hb dX11_read_94 rfl (lv_at hl 1 rfl) ?_
  refine xg_9 C hw (C.2.2.2.2.1 _ hwF_X11_69) dX11_read_95 ?_
  refine xgn_302 C hw (va_Nw.use rfl (xN C hwG_X11_169)) dX11_read_98 ?_
  obtain ⟨b_4, e9, hm, hf⟩ := hf
  refine W.eq (g2 := F0 m 101 ls [.int (xi u_2 302), .int z0, .int (x1 - (1 : Int32)), .ref b_4, .int ((2 : Int32) * r_3)]) (congrArg (fun z9 => F0 m 101 ls [.int (xi u_2 302), .int z0, .int (x1 - (1 : Int32)), va_rf z9, .int ((2 : Int32) * r_3)]) e9) ?_
  clear e9
  refine th_callVi (As := [.int (x1 - (1 : Int32)), .int z0, .int (xi u_2 302)]) (rest := [.int ((2 : Int32) * r_3)]) C lkX11_172 (X_Feel_sensed_d_c hf) hw (xdRc_Feel C hw hm) rfl rfl ⟨Nat.le_of_ble_eq_true rfl, Nat.le_of_ble_eq_true rfl⟩ hl.1 (Nat.le_of_ble_eq_true rfl) ⟨by simp only [th_rm]; omega, by simp only [th_rm]; omega⟩ dX11_read_101 (fun r_6 u_5 H locs hf hw => ?_)
  refine lv_iadd hx hb dX11_read_104 ?_
  refine th_aload hx hb dX11_read_105 (lv_at hl 3 rfl) ?_
  refine lv_iload_n hx hb dX11_read_107 rfl (lv_at hl 2 rfl) ?_
  refine lv_iconst (v := (1 : Int32)) hx hb dX11_read_108 (by decide) ?_
  refine lv_iadd hx hb dX11_read_109 ?_
  refine lv_iload hx hb dX11_read_110 (lv_at hl 0 rfl) ?_
  refine lv_aload_n hx hb dX11_read_112 rfl (lv_at hl 1 rfl) ?_
  refine xg_9 C hw (C.2.2.2.2.1 _ hwF_X11_69) dX11_read_113 ?_
  refine xgn_302 C hw (va_Nw.use rfl (xN C hwG_X11_169)) dX11_read_116 ?_
  obtain ⟨b_7, e9, hm, hf⟩ := hf
  refine W.eq (g2 := F0 m 119 ls [.int (xi u_5 302), .int z0, .int (x1 + (1 : Int32)), .ref b_7, .int (((2 : Int32) * r_3) + r_6)]) (congrArg (fun z9 => F0 m 119 ls [.int (xi u_5 302), .int z0, .int (x1 + (1 : Int32)), va_rf z9, .int (((2 : Int32) * r_3) + r_6)]) e9) ?_
  clear e9
  refine th_callVi (As := [.int (x1 + (1 : Int32)), .int z0, .int (xi u_5 302)]) (rest := [.int (((2 : Int32) * r_3) + r_6)]) C lkX11_172 (X_Feel_sensed_d_c hf) hw (xdRc_Feel C hw hm) rfl rfl ⟨Nat.le_of_ble_eq_true rfl, Nat.le_of_ble_eq_true rfl⟩ hl.1 (Nat.le_of_ble_eq_true rfl) ⟨by simp only [th_rm]; omega, by simp only [th_rm]; omega⟩ dX11_read_119 (fun r_9 u_8 H locs hf hw => ?_)
  refine lv_iadd hx hb dX11_read_122 ?_
  refine vx_ret ?_
  refine W.widen (k := 83) (n := 2302) (by omega) (by omega) ?_
  exact th_iret C hw hf dX11_read_123
def X_TH_read (KT : xs_St → Prop) (a1 : Int32) (a2 : Int32) (a3 : Int32) (a4 : Int32) (u : xs_St) (K : Int32 → xs_St → Prop) : Prop :=
  X_BD_feelOf a2 a3 u (fun r_2 u_1 => ((r_2 = none → X_TH_read_42 KT K u_1) ∧ (¬ r_2 = none → X_T_hasFoot_A a1 u_1 (fun r_4 u_3 => ((r_4 = 0 → X_TH_read_42 KT K u_3) ∧ (¬ r_4 = 0 → ((a4 < 0 → X_TH_read_42 KT K u_3) ∧ (¬ a4 < 0 → ((a4 ≤ (1 : Int32) → ((¬ a4 = 0 → X_TH_read_68 KT K a1 r_2 (0 : Int32) u_3) ∧ (a4 = 0 → X_TH_read_68 KT K a1 r_2 (xi u_3 301) u_3))) ∧ (¬ a4 ≤ (1 : Int32) → X_TH_read_42 KT K u_3))))))))))
set_option maxHeartbeats 4000000 in
set_option maxRecDepth 100000 in
theorem X_TH_read_c {l : Launch} {dC : Nat → ClassId} {dI : Nat → Nat → Nat} {cs : Nat → ClassId} {ad ak : Nat → Nat} {q v : Nat → Nat} {KT : xs_St → Prop} (hlt : l.stackTraces = false) {a1 : Int32} {a2 : Int32} {a3 : Int32} {a4 : Int32} {u : xs_St} {K : Int32 → xs_St → Prop} (hf : X_TH_read KT a1 a2 a3 a4 u K) : th_Xi l yX11_read cX11_read 7 (some .int) 6 83 2302 (dC, dI) (th_ty cs) (xE ad ak) (wX cs ad q v v) [.ref (q 99), .int a1, .int a2, .int a3, .int a4] u K KT := by
  refine th_ofXi (by decide) (Nat.le_of_ble_eq_true rfl) (xE_ok ad ak) ?_
  intro p e s m below meth c A ls C hne hw hl
  have C : th_Cx p s m _ meth c cX11_read RX11 7 (some .int) (dC, dI) (th_ty cs) (xE ad ak) A := C
  have hl : lv_has ls 7 [(0, .ref (q 99)), (1, .int a1), (2, .int a2), (3, .int a3), (4, .int a4)] := hl
  generalize (List.toArray _ : Array Value) = args at C ⊢
  have hx := C.1
  have hb := C.2.1
  unfold X_TH_read at hf
  refine lv_aload_n hx hb dX11_read_0 rfl (lv_at hl 0 rfl) ?_
  refine xg_2 C hw (C.2.2.2.2.1 _ hwF_X11_26) dX11_read_1 ?_
  refine lv_aload_n hx hb dX11_read_4 rfl (lv_at hl 0 rfl) ?_
  refine xg_9 C hw (C.2.2.2.2.1 _ hwF_X11_69) dX11_read_5 ?_
  refine lv_iload_n hx hb dX11_read_8 rfl (lv_at hl 2 rfl) ?_
  refine lv_iload_n hx hb dX11_read_9 rfl (lv_at hl 3 rfl) ?_
  refine th_callVq (As := [.ref (v 399), .int a2, .int a3]) (rest := []) C lkX11_144 (X_BD_feelOf_c hf) hw (xRc_BD C hw) rfl rfl ⟨Nat.le_of_ble_eq_true rfl, Nat.le_of_ble_eq_true rfl⟩ hl.1 (Nat.le_of_ble_eq_true rfl) ⟨by simp only [th_rm]; omega, by simp only [th_rm]; omega⟩ dX11_read_10 (fun r_2 u_1 H locs hf hw => ?_)
  refine th_astore (r := r_2) (lv' := [(5, va_rf r_2), (0, .ref (q 99)), (1, .int a1), (2, .int a2), (3, .int a3), (4, .int a4)]) hx hb dX11_read_13 hl (by decide) rfl (fun ls hl => ?_)
  refine th_aload hx hb dX11_read_15 (lv_at hl 0 rfl) ?_
  refine th_ifnull (tgt := 42) hx hb dX11_read_17 (by decide) (fun hc => ?_) (fun hc => ?_)
  · replace hf := hf.1 hc
    clear hc
    exact X_TH_read_42_w hlt hne C  u_1 _ _ _ hf hw (lv_sub hl [] rfl) _ _ (by omega) (by omega)
  · replace hf := hf.2 hc
    clear hc
    refine lv_aload_n hx hb dX11_read_20 rfl (lv_at hl 1 rfl) ?_
    refine xg_9 C hw (C.2.2.2.2.1 _ hwF_X11_69) dX11_read_21 ?_
    refine lv_iload_n hx hb dX11_read_24 rfl (lv_at hl 2 rfl) ?_
    refine th_callVi (As := [.int a1]) (rest := []) C lkX11_116 (X_T_hasFoot_A_c hf) hw (xRc_TA C hw) rfl rfl ⟨Nat.le_of_ble_eq_true rfl, Nat.le_of_ble_eq_true rfl⟩ hl.1 (Nat.le_of_ble_eq_true rfl) ⟨by simp only [th_rm]; omega, by simp only [th_rm]; omega⟩ dX11_read_25 (fun r_4 u_3 H locs hf hw => ?_)
    refine lv_if_eq (tgt := 42) hx hb dX11_read_28 (by decide) (fun hc => ?_) (fun hc => ?_)
    · replace hf := hf.1 hc
      clear hc
      exact X_TH_read_42_w hlt hne C  u_3 _ _ _ hf hw (lv_sub hl [] rfl) _ _ (by omega) (by omega)
    · replace hf := hf.2 hc
      clear hc
      refine lv_iload hx hb dX11_read_31 (lv_at hl 5 rfl) ?_
      refine lv_if_lt (tgt := 42) hx hb dX11_read_33 (by decide) (fun hc => ?_) (fun hc => ?_)
      · replace hf := hf.1 hc
        clear hc
        exact X_TH_read_42_w hlt hne C  u_3 _ _ _ hf hw (lv_sub hl [] rfl) _ _ (by omega) (by omega)
      · replace hf := hf.2 hc
        clear hc
        refine lv_iload hx hb dX11_read_36 (lv_at hl 5 rfl) ?_
        refine lv_iconst (v := (1 : Int32)) hx hb dX11_read_38 (by decide) ?_
        refine lv_icmp_le (tgt := 52) hx hb dX11_read_39 (by decide) (fun hc => ?_) (fun hc => ?_)
        · replace hf := hf.1 hc
          clear hc
          refine lv_iload hx hb dX11_read_52 (lv_at hl 5 rfl) ?_
          refine lv_if_ne (tgt := 67) hx hb dX11_read_54 (by decide) (fun hc => ?_) (fun hc => ?_)
          · replace hf := hf.1 hc
            clear hc
            refine lv_iconst (v := (0 : Int32)) hx hb dX11_read_67 (by decide) ?_
            exact X_TH_read_68_w hlt hne C a1 r_2 (0 : Int32) u_3 _ _ _ hf hw (lv_sub hl [1, 2, 0] rfl) _ _ (by omega) (by omega)
          · replace hf := hf.2 hc
            clear hc
            refine lv_aload_n hx hb dX11_read_57 rfl (lv_at hl 1 rfl) ?_
            refine xg_9 C hw (C.2.2.2.2.1 _ hwF_X11_69) dX11_read_58 ?_
            refine xgn_301 C hw (va_Nw.use rfl (xN C hwG_X11_166)) dX11_read_61 ?_
            refine lv_goto (tgt := 68) hx hb dX11_read_64 (by decide) ?_
            exact X_TH_read_68_w hlt hne C a1 r_2 (xi u_3 301) u_3 _ _ _ hf hw (lv_sub hl [1, 2, 0] rfl) _ _ (by omega) (by omega)
        · replace hf := hf.2 hc
          clear hc
          exact X_TH_read_42_w hlt hne C  u_3 _ _ _ hf hw (lv_sub hl [] rfl) _ _ (by omega) (by omega)
end

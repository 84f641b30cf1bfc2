section
variable {p : Program} {l : Launch} {e : Env} {s : State} {m : MethodId} {args : Array Value} {below : List Frame} {meth : Method} {c : Code} {dC : Nat → ClassId} {dI : Nat → Nat → Nat} {cs : Nat → ClassId} {ad ak : Nat → Nat} {q v : Nat → Nat} {A : Nat → Prop}
/-! X_TH_placeGauges -/
theorem dX11_placeGauges_0 : decode cX11_placeGauges 0 = .ok (.aload_n 0, 1) := by decide +kernel
theorem dX11_placeGauges_1 : decode cX11_placeGauges 1 = .ok (.iconst 0, 1) := by decide +kernel
theorem dX11_placeGauges_2 : decode cX11_placeGauges 2 = .ok (.putfield 62, 3) := by decide +kernel
theorem dX11_placeGauges_5 : decode cX11_placeGauges 5 = .ok (.iconst (-1), 1) := by decide +kernel
theorem dX11_placeGauges_6 : decode cX11_placeGauges 6 = .ok (.istore_n 1, 1) := by decide +kernel
theorem dX11_placeGauges_7 : decode cX11_placeGauges 7 = .ok (.iconst 0, 1) := by decide +kernel
theorem dX11_placeGauges_8 : decode cX11_placeGauges 8 = .ok (.istore_n 2, 1) := by decide +kernel
theorem dX11_placeGauges_9 : decode cX11_placeGauges 9 = .ok (.iload_n 2, 1) := by decide +kernel
theorem dX11_placeGauges_10 : decode cX11_placeGauges 10 = .ok (.aload_n 0, 1) := by decide +kernel
theorem dX11_placeGauges_11 : decode cX11_placeGauges 11 = .ok (.getfield 69, 3) := by decide +kernel
theorem dX11_placeGauges_14 : decode cX11_placeGauges 14 = .ok (.getfield 126, 3) := by decide +kernel
theorem dX11_placeGauges_17 : decode cX11_placeGauges 17 = .ok (.if_icmp .ge 46, 3) := by decide +kernel
theorem dX11_placeGauges_20 : decode cX11_placeGauges 20 = .ok (.iload_n 2, 1) := by decide +kernel
theorem dX11_placeGauges_21 : decode cX11_placeGauges 21 = .ok (.bipush 48, 2) := by decide +kernel
theorem dX11_placeGauges_23 : decode cX11_placeGauges 23 = .ok (.if_icmp .ge 40, 3) := by decide +kernel
theorem dX11_placeGauges_26 : decode cX11_placeGauges 26 = .ok (.aload_n 0, 1) := by decide +kernel
theorem dX11_placeGauges_27 : decode cX11_placeGauges 27 = .ok (.iload_n 2, 1) := by decide +kernel
theorem dX11_placeGauges_28 : decode cX11_placeGauges 28 = .ok (.iload_n 1, 1) := by decide +kernel
theorem dX11_placeGauges_29 : decode cX11_placeGauges 29 = .ok (.invokevirtual 280, 3) := by decide +kernel
theorem dX11_placeGauges_32 : decode cX11_placeGauges 32 = .ok (.ifCond .eq 25, 3) := by decide +kernel
theorem dX11_placeGauges_35 : decode cX11_placeGauges 35 = .ok (.aload_n 0, 1) := by decide +kernel
theorem dX11_placeGauges_36 : decode cX11_placeGauges 36 = .ok (.getfield 58, 3) := by decide +kernel
theorem dX11_placeGauges_39 : decode cX11_placeGauges 39 = .ok (.aload_n 0, 1) := by decide +kernel
theorem dX11_placeGauges_40 : decode cX11_placeGauges 40 = .ok (.getfield 62, 3) := by decide +kernel
theorem dX11_placeGauges_43 : decode cX11_placeGauges 43 = .ok (.iload_n 2, 1) := by decide +kernel
theorem dX11_placeGauges_44 : decode cX11_placeGauges 44 = .ok (.iastore, 1) := by decide +kernel
theorem dX11_placeGauges_45 : decode cX11_placeGauges 45 = .ok (.aload_n 0, 1) := by decide +kernel
theorem dX11_placeGauges_46 : decode cX11_placeGauges 46 = .ok (.dup, 1) := by decide +kernel
theorem dX11_placeGauges_47 : decode cX11_placeGauges 47 = .ok (.getfield 62, 3) := by decide +kernel
theorem dX11_placeGauges_50 : decode cX11_placeGauges 50 = .ok (.iconst 1, 1) := by decide +kernel
theorem dX11_placeGauges_51 : decode cX11_placeGauges 51 = .ok (.iadd, 1) := by decide +kernel
theorem dX11_placeGauges_52 : decode cX11_placeGauges 52 = .ok (.putfield 62, 3) := by decide +kernel
theorem dX11_placeGauges_55 : decode cX11_placeGauges 55 = .ok (.iload_n 2, 1) := by decide +kernel
theorem dX11_placeGauges_56 : decode cX11_placeGauges 56 = .ok (.istore_n 1, 1) := by decide +kernel
theorem dX11_placeGauges_57 : decode cX11_placeGauges 57 = .ok (.iinc 2 1, 3) := by decide +kernel
theorem dX11_placeGauges_60 : decode cX11_placeGauges 60 = .ok (.goto (-51), 3) := by decide +kernel
theorem dX11_placeGauges_63 : decode cX11_placeGauges 63 = .ok (.aload_n 0, 1) := by decide +kernel
theorem dX11_placeGauges_64 : decode cX11_placeGauges 64 = .ok (.getfield 62, 3) := by decide +kernel
theorem dX11_placeGauges_67 : decode cX11_placeGauges 67 = .ok (.ireturn, 1) := by decide +kernel
def X_TH_placeGauges_57 (K : Int32 → xs_St → Prop) (k9 : Int32 → Int32 → xs_St → Prop) (x1 : Int32) (x2 : Int32) (u : xs_St) : Prop :=
  ∀ x2_1 : Int32, x2_1 = x2 + (1 : Int32) → k9 x1 x2_1 u
set_option maxHeartbeats 4000000 in
set_option maxRecDepth 100000 in
theorem X_TH_placeGauges_57_w {K : Int32 → xs_St → Prop} {k9 : Int32 → Int32 → xs_St → Prop} (C : th_Cx p s m args meth c cX11_placeGauges RX11 3 (some .int) (dC, dI) (th_ty cs) (xE ad ak) A) (hk9 : ∀ (x1 : Int32) (x2 : Int32) (u : xs_St) (H : Heap) (locs : List Loc) (ls : Array Slot), k9 x1 x2 u → th_wI (dC, dI) (wX cs ad q v v) A s.heap u H locs → lv_has ls 3 [(0, .ref (q 99)), (1, .int x1), (2, .int x2)] → W p l e (th_rm 3 0 0) s m args below meth c H locs 0 0 (MQ below (va_Qi K (th_Post (dC, dI) (wX cs ad q v v) A) A) args s 0 0 A) (F0 m 9 ls [])) (x1 : Int32) (x2 : Int32) (u : xs_St) (H : Heap) (locs : List Loc) (ls : Array Slot) (hf : X_TH_placeGauges_57 K k9 x1 x2 u) (hw : th_wI (dC, dI) (wX cs ad q v v) A s.heap u H locs) (hl : lv_has ls 3 [(0, .ref (q 99)), (1, .int x1), (2, .int x2)]) : W p l e (th_rm 3 0 0) s m args below meth c H locs 0 0 (MQ below (va_Qi K (th_Post (dC, dI) (wX cs ad q v v) A) A) args s 0 0 A) (F0 m 57 ls []) := by
  have hx := C.1
  have hb := C.2.1
  unfold X_TH_placeGauges_57 at hf
  obtain ⟨x2_1, e9⟩ : ∃ y : Int32, y = x2 + (1 : Int32) := ⟨_, rfl⟩
  replace hf := hf x2_1 e9
  refine lv_iinc (v := x2_1) (lv' := [(2, .int x2_1), (0, .ref (q 99)), (1, .int x1)]) hx hb dX11_placeGauges_57 hl (k := 2) rfl (by rw [e9]; rfl) (by decide) rfl (fun ls hl => ?_)
  clear e9
  refine lv_goto (tgt := 9) hx hb dX11_placeGauges_60 (by decide) ?_
  exact hk9 x1 x2_1 u _ _ _ hf hw (lv_sub hl [1, 2, 0] rfl)
def X_TH_placeGauges_63 (K : Int32 → xs_St → Prop) (u : xs_St) : Prop :=
  K (xi u 8) u
set_option maxHeartbeats 4000000 in
set_option maxRecDepth 100000 in
theorem X_TH_placeGauges_63_w {K : Int32 → xs_St → Prop} (C : th_Cx p s m args meth c cX11_placeGauges RX11 3 (some .int) (dC, dI) (th_ty cs) (xE ad ak) A) (u : xs_St) (H : Heap) (locs : List Loc) (ls : Array Slot) (hf : X_TH_placeGauges_63 K u) (hw : th_wI (dC, dI) (wX cs ad q v v) A s.heap u H locs) (hl : lv_has ls 3 [(0, .ref (q 99))]) : W p l e (th_rm 3 0 0) s m args below meth c H locs 0 0 (MQ below (va_Qi K (th_Post (dC, dI) (wX cs ad q v v) A) A) args s 0 0 A) (F0 m 63 ls []) := by
  have hx := C.1
  have hb := C.2.1
  unfold X_TH_placeGauges_63 at hf
  refine lv_aload_n hx hb dX11_placeGauges_63 rfl (lv_at hl 0 rfl) ?_
  refine xg_8 C hw (C.2.2.2.2.1 _ hwF_X11_62) dX11_placeGauges_64 ?_
  exact th_iret C hw hf dX11_placeGauges_67
def X_TH_placeGauges_9 (K : Int32 → xs_St → Prop) (k9 : Int32 → Int32 → xs_St → Prop) (x1 : Int32) (x2 : Int32) (u : xs_St) : Prop :=
  (((xi u 300) ≤ x2 → X_TH_placeGauges_63 K u) ∧ (¬ (xi u 300) ≤ x2 → (((48 : Int32) ≤ x2 → X_TH_placeGauges_63 K u) ∧ (¬ (48 : Int32) ≤ x2 → X_TH_endsUngauged x2 x1 u (fun r_2 u_1 => ((r_2 = 0 → X_TH_placeGauges_57 K k9 x1 x2 u_1) ∧ (¬ r_2 = 0 → (vp_in (xi u_1 8) 48 ∧ ∀ u_3 : xs_St, u_3 = xs_sa u_1 7 (upd (xa u_1 7) ((xi u_1 8)).toNatClampNeg x2) → ∀ u_4 : xs_St, u_4 = xs_si u_3 8 ((xi u_3 8) + (1 : Int32)) → X_TH_placeGauges_57 K k9 x2 x2 u_4))))))))
set_option maxHeartbeats 4000000 in
set_option maxRecDepth 100000 in
theorem X_TH_placeGauges_9_w {K : Int32 → xs_St → Prop} {k9 : Int32 → Int32 → xs_St → Prop} (C : th_Cx p s m args meth c cX11_placeGauges RX11 3 (some .int) (dC, dI) (th_ty cs) (xE ad ak) A) (hk9 : ∀ (x1 : Int32) (x2 : Int32) (u : xs_St) (H : Heap) (locs : List Loc) (ls : Array Slot), k9 x1 x2 u → th_wI (dC, dI) (wX cs ad q v v) A s.heap u H locs → lv_has ls 3 [(0, .ref (q 99)), (1, .int x1), (2, .int x2)] → W p l e (th_rm 3 0 0) s m args below meth c H locs 0 0 (MQ below (va_Qi K (th_Post (dC, dI) (wX cs ad q v v) A) A) args s 0 0 A) (F0 m 9 ls [])) (x1 : Int32) (x2 : Int32) (u : xs_St) (H : Heap) (locs : List Loc) (ls : Array Slot) (hf : X_TH_placeGauges_9 K k9 x1 x2 u) (hw : th_wI (dC, dI) (wX cs ad q v v) A s.heap u H locs) (hl : lv_has ls 3 [(0, .ref (q 99)), (1, .int x1), (2, .int x2)]) : W p l e (th_rm 3 0 0) s m args below meth c H locs 0 0 (MQ below (va_Qi K (th_Post (dC, dI) (wX cs ad q v v) A) A) args s 0 0 A) (F0 m 9 ls []) := by
  have hx := C.1
  have hb := C.2.1
  unfold X_TH_placeGauges_9 at hf
  refine lv_iload_n hx hb dX11_placeGauges_9 rfl (lv_at hl 2 rfl) ?_
  refine lv_aload_n hx hb dX11_placeGauges_10 rfl (lv_at hl 0 rfl) ?_
  refine xg_9 C hw (C.2.2.2.2.1 _ hwF_X11_69) dX11_placeGauges_11 ?_
  refine xgn_300 C hw (va_Nw.use rfl (xN C hwG_X11_126)) dX11_placeGauges_14 ?_
  refine lv_icmp_ge (tgt := 63) hx hb dX11_placeGauges_17 (by decide) (fun hc => ?_) (fun hc => ?_)
  · replace hf := hf.1 hc
    clear hc
    exact X_TH_placeGauges_63_w C  u _ _ _ hf hw (lv_sub hl [0] rfl)
  · replace hf := hf.2 hc
    clear hc
    refine lv_iload_n hx hb dX11_placeGauges_20 rfl (lv_at hl 2 rfl) ?_
    refine lv_bipush (v := (48 : Int32)) hx hb dX11_placeGauges_21 (by decide) ?_
    refine lv_icmp_ge (tgt := 63) hx hb dX11_placeGauges_23 (by decide) (fun hc => ?_) (fun hc => ?_)
    · replace hf := hf.1 hc
      clear hc
      exact X_TH_placeGauges_63_w C  u _ _ _ hf hw (lv_sub hl [0] rfl)
    · replace hf := hf.2 hc
      clear hc
      refine lv_aload_n hx hb dX11_placeGauges_26 rfl (lv_at hl 0 rfl) ?_
      refine lv_iload_n hx hb dX11_placeGauges_27 rfl (lv_at hl 2 rfl) ?_
      refine lv_iload_n hx hb dX11_placeGauges_28 rfl (lv_at hl 1 rfl) ?_
      refine th_callVi (As := [.int x2, .int x1]) (rest := []) C lkX11_280 (X_TH_endsUngauged_c hf) hw (xRc_TH C hw) rfl rfl ⟨Nat.le_of_ble_eq_true rfl, Nat.le_of_ble_eq_true rfl⟩ hl.1 (Nat.le_of_ble_eq_true rfl) ⟨Nat.le_of_ble_eq_true rfl, Nat.le_of_ble_eq_true rfl⟩ dX11_placeGauges_29 (fun r_2 u_1 H locs hf hw => ?_)
      refine lv_if_eq (tgt := 57) hx hb dX11_placeGauges_32 (by decide) (fun hc => ?_) (fun hc => ?_)
      · replace hf := hf.1 hc
        clear hc
        exact X_TH_placeGauges_57_w C hk9 x1 x2 u_1 _ _ _ hf hw (lv_sub hl [0, 1, 2] rfl)
      · replace hf := hf.2 hc
        clear hc
        refine lv_aload_n hx hb dX11_placeGauges_35 rfl (lv_at hl 0 rfl) ?_
        refine xg_7 C hw (C.2.2.2.2.1 _ hwF_X11_58) dX11_placeGauges_36 ?_
        refine lv_aload_n hx hb dX11_placeGauges_39 rfl (lv_at hl 0 rfl) ?_
        refine xg_8 C hw (C.2.2.2.2.1 _ hwF_X11_62) dX11_placeGauges_40 ?_
        refine lv_iload_n hx hb dX11_placeGauges_43 rfl (lv_at hl 2 rfl) ?_
        refine ys_7 C hw hf.1 dX11_placeGauges_44 (fun u_3 e9 H locs hw => ?_)
        replace hf := hf.2 u_3 e9
        clear e9
        refine lv_aload_n hx hb dX11_placeGauges_45 rfl (lv_at hl 0 rfl) ?_
        refine lv_dup hx hb dX11_placeGauges_46 rfl ?_
        refine xg_8 C hw (C.2.2.2.2.1 _ hwF_X11_62) dX11_placeGauges_47 ?_
        refine lv_iconst (v := (1 : Int32)) hx hb dX11_placeGauges_50 (by decide) ?_
        refine lv_iadd hx hb dX11_placeGauges_51 ?_
        refine xp_8 C hw (C.2.2.2.2.1 _ hwF_X11_62) dX11_placeGauges_52 (fun u_4 e9 H locs hw => ?_)
        replace hf := hf u_4 e9
        clear e9
        refine lv_iload_n hx hb dX11_placeGauges_55 rfl (lv_at hl 2 rfl) ?_
        refine lv_istore_n (lv' := [(1, .int x2), (0, .ref (q 99)), (2, .int x2)]) hx hb dX11_placeGauges_56 rfl hl (by decide) rfl (fun ls hl => ?_)
        exact X_TH_placeGauges_57_w C hk9 x2 x2 u_4 _ _ _ hf hw (lv_sub hl [1, 0, 2] rfl)
def X_TH_placeGauges_9_lp (K : Int32 → xs_St → Prop) : Nat → Int32 → Int32 → xs_St → Prop
  | 0, _, _, _ => False
  | n + 1, x1, x2, u => X_TH_placeGauges_9 K (X_TH_placeGauges_9_lp K n) x1 x2 u
set_option maxHeartbeats 4000000 in
set_option maxRecDepth 100000 in
theorem X_TH_placeGauges_9_lw {K : Int32 → xs_St → Prop} (C : th_Cx p s m args meth c cX11_placeGauges RX11 3 (some .int) (dC, dI) (th_ty cs) (xE ad ak) A) (n : Nat) : ∀ (x1 : Int32) (x2 : Int32) (u : xs_St) (H : Heap) (locs : List Loc) (ls : Array Slot), X_TH_placeGauges_9_lp K n x1 x2 u → th_wI (dC, dI) (wX cs ad q v v) A s.heap u H locs → lv_has ls 3 [(0, .ref (q 99)), (1, .int x1), (2, .int x2)] → W p l e (th_rm 3 0 0) s m args below meth c H locs 0 0 (MQ below (va_Qi K (th_Post (dC, dI) (wX cs ad q v v) A) A) args s 0 0 A) (F0 m 9 ls []) := by
  induction n with
  | zero => intro x1 x2 u H locs ls hf; exact hf.elim
  | succ n ih =>
    intro x1 x2 u H locs ls hf hw hl
    exact X_TH_placeGauges_9_w C ih x1 x2 u H locs ls hf hw hl
def X_TH_placeGauges (u : xs_St) (K : Int32 → xs_St → Prop) : Prop :=
  ∀ u_1 : xs_St, u_1 = xs_si u 8 (0 : Int32) → ∃ n, X_TH_placeGauges_9_lp K n (-1 : Int32) (0 : Int32) u_1
set_option maxHeartbeats 4000000 in
set_option maxRecDepth 100000 in
theorem X_TH_placeGauges_c {l : Launch} {dC : Nat → ClassId} {dI : Nat → Nat → Nat} {cs : Nat → ClassId} {ad ak : Nat → Nat} {q v : Nat → Nat} {u : xs_St} {K : Int32 → xs_St → Prop} (hf : X_TH_placeGauges u K) : th_Ci l yX11_placeGauges cX11_placeGauges 3 (some .int) 3 0 0 (dC, dI) (th_ty cs) (xE ad ak) (wX cs ad q v v) [.ref (q 99)] u K := by
  refine th_ofi (by decide) (Nat.le_of_ble_eq_true rfl) (xE_ok ad ak) ?_
  intro p e s m below meth c A ls C hw hl
  have C : th_Cx p s m _ meth c cX11_placeGauges RX11 3 (some .int) (dC, dI) (th_ty cs) (xE ad ak) A := C
  have hl : lv_has ls 3 [(0, .ref (q 99))] := hl
  generalize (List.toArray _ : Array Value) = args at C ⊢
  have hx := C.1
  have hb := C.2.1
  unfold X_TH_placeGauges at hf
  refine lv_aload_n hx hb dX11_placeGauges_0 rfl (lv_at hl 0 rfl) ?_
  refine lv_iconst (v := (0 : Int32)) hx hb dX11_placeGauges_1 (by decide) ?_
  refine xp_8 C hw (C.2.2.2.2.1 _ hwF_X11_62) dX11_placeGauges_2 (fun u_1 e9 H locs hw => ?_)
  replace hf := hf u_1 e9
  clear e9
  refine lv_iconst (v := (-1 : Int32)) hx hb dX11_placeGauges_5 (by decide) ?_
  refine lv_istore_n (lv' := [(1, .int (-1 : Int32)), (0, .ref (q 99))]) hx hb dX11_placeGauges_6 rfl hl (by decide) rfl (fun ls hl => ?_)
  refine lv_iconst (v := (0 : Int32)) hx hb dX11_placeGauges_7 (by decide) ?_
  refine lv_istore_n (lv' := [(2, .int (0 : Int32)), (1, .int (-1 : Int32)), (0, .ref (q 99))]) hx hb dX11_placeGauges_8 rfl hl (by decide) rfl (fun ls hl => ?_)
  obtain ⟨n, hf⟩ := hf
  exact X_TH_placeGauges_9_lw C n (-1 : Int32) (0 : Int32) u_1 _ _ _ hf hw (lv_sub hl [2, 1, 0] rfl)
/-! X_TH_shape -/
theorem dX11_shape_0 : decode cX11_shape 0 = .ok (.aload_n 0, 1) := by decide +kernel
theorem dX11_shape_1 : decode cX11_shape 1 = .ok (.getfield 40, 3) := by decide +kernel
theorem dX11_shape_4 : decode cX11_shape 4 = .ok (.iload_n 1, 1) := by decide +kernel
theorem dX11_shape_5 : decode cX11_shape 5 = .ok (.aload_n 0, 1) := by decide +kernel
theorem dX11_shape_6 : decode cX11_shape 6 = .ok (.getfield 10, 3) := by decide +kernel
theorem dX11_shape_9 : decode cX11_shape 9 = .ok (.invokevirtual 205, 3) := by decide +kernel
theorem dX11_shape_12 : decode cX11_shape 12 = .ok (.istore_n 2, 1) := by decide +kernel
theorem dX11_shape_13 : decode cX11_shape 13 = .ok (.aload_n 0, 1) := by decide +kernel
theorem dX11_shape_14 : decode cX11_shape 14 = .ok (.getfield 10, 3) := by decide +kernel
theorem dX11_shape_17 : decode cX11_shape 17 = .ok (.invokevirtual 110, 3) := by decide +kernel
theorem dX11_shape_20 : decode cX11_shape 20 = .ok (.iload_n 2, 1) := by decide +kernel
theorem dX11_shape_21 : decode cX11_shape 21 = .ok (.ireturn, 1) := by decide +kernel
def X_TH_shape (a1 : Int32) (u : xs_St) (K : Int32 → xs_St → Prop) : Prop :=
  X_EX_takesShape a1 u (fun r_2 u_1 => X_TP_clear u_1 (fun u_3 => ((r_2 = 0 ∨ r_2 = 1) ∧ K r_2 u_3)))
set_option maxHeartbeats 4000000 in
set_option maxRecDepth 100000 in
theorem X_TH_shape_c {l : Launch} {dC : Nat → ClassId} {dI : Nat → Nat → Nat} {cs : Nat → ClassId} {ad ak : Nat → Nat} {q v : Nat → Nat} {a1 : Int32} {u : xs_St} {K : Int32 → xs_St → Prop} (hf : X_TH_shape a1 u K) : th_Ci l yX11_shape cX11_shape 3 (some .boolean) 3 0 0 (dC, dI) (th_ty cs) (xE ad ak) (wX cs ad q v v) [.ref (q 99), .int a1] u K := by
  refine th_ofi (by decide) (Nat.le_of_ble_eq_true rfl) (xE_ok ad ak) ?_
  intro p e s m below meth c A ls C hw hl
  have C : th_Cx p s m _ meth c cX11_shape RX11 3 (some .boolean) (dC, dI) (th_ty cs) (xE ad ak) A := C
  have hl : lv_has ls 3 [(0, .ref (q 99)), (1, .int a1)] := hl
  generalize (List.toArray _ : Array Value) = args at C ⊢
  have hx := C.1
  have hb := C.2.1
  unfold X_TH_shape at hf
  refine lv_aload_n hx hb dX11_shape_0 rfl (lv_at hl 0 rfl) ?_
  refine xg_4 C hw (C.2.2.2.2.1 _ hwF_X11_40) dX11_shape_1 ?_
  refine lv_iload_n hx hb dX11_shape_4 rfl (lv_at hl 1 rfl) ?_
  refine lv_aload_n hx hb dX11_shape_5 rfl (lv_at hl 0 rfl) ?_
  refine xg_0 C hw (C.2.2.2.2.1 _ hwF_X11_10) dX11_shape_6 ?_
  refine th_callVi (As := [.int a1, .ref (q 199)]) (rest := []) C lkX11_205 (X_EX_takesShape_c hf) hw (xRc_EX C hw) rfl rfl ⟨Nat.le_of_ble_eq_true rfl, Nat.le_of_ble_eq_true rfl⟩ hl.1 (Nat.le_of_ble_eq_true rfl) ⟨Nat.le_of_ble_eq_true rfl, Nat.le_of_ble_eq_true rfl⟩ dX11_shape_9 (fun r_2 u_1 H locs hf hw => ?_)
  refine lv_istore_n (lv' := [(2, .int r_2), (0, .ref (q 99)), (1, .int a1)]) hx hb dX11_shape_12 rfl hl (by decide) rfl (fun ls hl => ?_)
  refine lv_aload_n hx hb dX11_shape_13 rfl (lv_at hl 1 rfl) ?_
  refine xg_0 C hw (C.2.2.2.2.1 _ hwF_X11_10) dX11_shape_14 ?_
  refine th_callVv (As := []) (rest := []) C lkX11_110 (X_TP_clear_c hf) hw (xRc_TP C hw) rfl rfl ⟨Nat.le_of_ble_eq_true rfl, Nat.le_of_ble_eq_true rfl⟩ hl.1 (Nat.le_of_ble_eq_true rfl) ⟨Nat.le_of_ble_eq_true rfl, Nat.le_of_ble_eq_true rfl⟩ dX11_shape_17 (fun u_3 H locs hf hw => ?_)
  refine lv_iload_n hx hb dX11_shape_20 rfl (lv_at hl 0 rfl) ?_
  exact th_zret C hw hf dX11_shape_21
/-! X_T_isSo_A -/
theorem dX7_isSo_0 : decode cX7_isSo 0 = .ok (.aload_n 0, 1) := by decide +kernel
theorem dX7_isSo_1 : decode cX7_isSo 1 = .ok (.iload_n 1, 1) := by decide +kernel
theorem dX7_isSo_2 : decode cX7_isSo 2 = .ok (.aload_n 2, 1) := by decide +kernel
theorem dX7_isSo_3 : decode cX7_isSo 3 = .ok (.invokevirtual 104, 3) := by decide +kernel
theorem dX7_isSo_6 : decode cX7_isSo 6 = .ok (.istore_n 3, 1) := by decide +kernel
theorem dX7_isSo_7 : decode cX7_isSo 7 = .ok (.aload_n 0, 1) := by decide +kernel
theorem dX7_isSo_8 : decode cX7_isSo 8 = .ok (.getfield 31, 3) := by decide +kernel
theorem dX7_isSo_11 : decode cX7_isSo 11 = .ok (.iload_n 1, 1) := by decide +kernel
theorem dX7_isSo_12 : decode cX7_isSo 12 = .ok (.aaload, 1) := by decide +kernel
theorem dX7_isSo_13 : decode cX7_isSo 13 = .ok (.getstatic 108, 3) := by decide +kernel
theorem dX7_isSo_16 : decode cX7_isSo 16 = .ok (.if_acmp .ne 19, 3) := by decide +kernel
theorem dX7_isSo_19 : decode cX7_isSo 19 = .ok (.iload_n 3, 1) := by decide +kernel
theorem dX7_isSo_20 : decode cX7_isSo 20 = .ok (.aload_n 0, 1) := by decide +kernel
theorem dX7_isSo_21 : decode cX7_isSo 21 = .ok (.getfield 37, 3) := by decide +kernel
theorem dX7_isSo_24 : decode cX7_isSo 24 = .ok (.iload_n 1, 1) := by decide +kernel
theorem dX7_isSo_25 : decode cX7_isSo 25 = .ok (.iaload, 1) := by decide +kernel
theorem dX7_isSo_26 : decode cX7_isSo 26 = .ok (.if_icmp .ge 7, 3) := by decide +kernel
theorem dX7_isSo_29 : decode cX7_isSo 29 = .ok (.iconst 1, 1) := by decide +kernel
theorem dX7_isSo_30 : decode cX7_isSo 30 = .ok (.goto 4, 3) := by decide +kernel
theorem dX7_isSo_33 : decode cX7_isSo 33 = .ok (.iconst 0, 1) := by decide +kernel
theorem dX7_isSo_34 : decode cX7_isSo 34 = .ok (.ireturn, 1) := by decide +kernel
theorem dX7_isSo_35 : decode cX7_isSo 35 = .ok (.aload_n 0, 1) := by decide +kernel
theorem dX7_isSo_36 : decode cX7_isSo 36 = .ok (.getfield 31, 3) := by decide +kernel
theorem dX7_isSo_39 : decode cX7_isSo 39 = .ok (.iload_n 1, 1) := by decide +kernel
theorem dX7_isSo_40 : decode cX7_isSo 40 = .ok (.aaload, 1) := by decide +kernel
theorem dX7_isSo_41 : decode cX7_isSo 41 = .ok (.getstatic 111, 3) := by decide +kernel
theorem dX7_isSo_44 : decode cX7_isSo 44 = .ok (.if_acmp .ne 21, 3) := by decide +kernel
theorem dX7_isSo_47 : decode cX7_isSo 47 = .ok (.iload_n 3, 1) := by decide +kernel
theorem dX7_isSo_48 : decode cX7_isSo 48 = .ok (.aload_n 0, 1) := by decide +kernel
theorem dX7_isSo_49 : decode cX7_isSo 49 = .ok (.getfield 37, 3) := by decide +kernel
theorem dX7_isSo_52 : decode cX7_isSo 52 = .ok (.iload_n 1, 1) := by decide +kernel
theorem dX7_isSo_53 : decode cX7_isSo 53 = .ok (.iaload, 1) := by decide +kernel
theorem dX7_isSo_54 : decode cX7_isSo 54 = .ok (.if_icmp .ne 7, 3) := by decide +kernel
theorem dX7_isSo_57 : decode cX7_isSo 57 = .ok (.iconst 1, 1) := by decide +kernel
theorem dX7_isSo_58 : decode cX7_isSo 58 = .ok (.goto 22, 3) := by decide +kernel
theorem dX7_isSo_61 : decode cX7_isSo 61 = .ok (.iconst 0, 1) := by decide +kernel
theorem dX7_isSo_62 : decode cX7_isSo 62 = .ok (.goto 18, 3) := by decide +kernel
theorem dX7_isSo_65 : decode cX7_isSo 65 = .ok (.iload_n 3, 1) := by decide +kernel
theorem dX7_isSo_66 : decode cX7_isSo 66 = .ok (.aload_n 0, 1) := by decide +kernel
theorem dX7_isSo_67 : decode cX7_isSo 67 = .ok (.getfield 37, 3) := by decide +kernel
theorem dX7_isSo_70 : decode cX7_isSo 70 = .ok (.iload_n 1, 1) := by decide +kernel
theorem dX7_isSo_71 : decode cX7_isSo 71 = .ok (.iaload, 1) := by decide +kernel
theorem dX7_isSo_72 : decode cX7_isSo 72 = .ok (.if_icmp .le 7, 3) := by decide +kernel
theorem dX7_isSo_75 : decode cX7_isSo 75 = .ok (.iconst 1, 1) := by decide +kernel
theorem dX7_isSo_76 : decode cX7_isSo 76 = .ok (.goto 4, 3) := by decide +kernel
theorem dX7_isSo_79 : decode cX7_isSo 79 = .ok (.iconst 0, 1) := by decide +kernel
theorem dX7_isSo_80 : decode cX7_isSo 80 = .ok (.ireturn, 1) := by decide +kernel
def X_T_isSo_A_34 (K : Int32 → xs_St → Prop) (z0 : Int32) (u : xs_St) : Prop :=
  ((z0 = 0 ∨ z0 = 1) ∧ K z0 u)
set_option maxHeartbeats 4000000 in
set_option maxRecDepth 100000 in
theorem X_T_isSo_A_34_w {K : Int32 → xs_St → Prop} (C : th_Cx p s m args meth c cX7_isSo RX7 4 (some .boolean) (dC, dI) (th_ty cs) (xE ad ak) A) (z0 : Int32) (u : xs_St) (H : Heap) (locs : List Loc) (ls : Array Slot) (hf : X_T_isSo_A_34 K z0 u) (hw : th_wI (dC, dI) (wX cs ad q v v) A s.heap u H locs) (hl : lv_has ls 4 []) : W p l e (th_rm 3 0 0) s m args below meth c H locs 0 0 (MQ below (va_Qi K (th_Post (dC, dI) (wX cs ad q v v) A) A) args s 0 0 A) (F0 m 34 ls [.int z0]) := by
  have hx := C.1
  have hb := C.2.1
  unfold X_T_isSo_A_34 at hf
  exact th_zret C hw hf dX7_isSo_34
def X_T_isSo_A_80 (K : Int32 → xs_St → Prop) (z0 : Int32) (u : xs_St) : Prop :=
  ((z0 = 0 ∨ z0 = 1) ∧ K z0 u)
set_option maxHeartbeats 4000000 in
set_option maxRecDepth 100000 in
theorem X_T_isSo_A_80_w {K : Int32 → xs_St → Prop} (C : th_Cx p s m args meth c cX7_isSo RX7 4 (some .boolean) (dC, dI) (th_ty cs) (xE ad ak) A) (z0 : Int32) (u : xs_St) (H : Heap) (locs : List Loc) (ls : Array Slot) (hf : X_T_isSo_A_80 K z0 u) (hw : th_wI (dC, dI) (wX cs ad q v v) A s.heap u H locs) (hl : lv_has ls 4 []) : W p l e (th_rm 3 0 0) s m args below meth c H locs 0 0 (MQ below (va_Qi K (th_Post (dC, dI) (wX cs ad q v v) A) A) args s 0 0 A) (F0 m 80 ls [.int z0]) := by
  have hx := C.1
  have hb := C.2.1
  unfold X_T_isSo_A_80 at hf
  exact th_zret C hw hf dX7_isSo_80
def X_T_isSo_A (a1 : Int32) (a2 : Option Nat) (u : xs_St) (K : Int32 → xs_St → Prop) : Prop :=
  X_T_measure_A a1 a2 u (fun r_2 u_1 => (vp_in a1 80 ∧ ∀ y_3 : Option Nat, y_3 = xo u_1 312 (a1).toNatClampNeg → ((¬ y_3 = (some 6) → (vp_in a1 80 ∧ ∀ y_4 : Option Nat, y_4 = xo u_1 312 (a1).toNatClampNeg → ((¬ y_4 = (some 7) → (vp_in a1 80 ∧ ∀ y_5 : Int32, y_5 = xa u_1 314 (a1).toNatClampNeg → ((r_2 ≤ y_5 → X_T_isSo_A_80 K (0 : Int32) u_1) ∧ (¬ r_2 ≤ y_5 → X_T_isSo_A_80 K (1 : Int32) u_1)))) ∧ (y_4 = (some 7) → (vp_in a1 80 ∧ ∀ y_6 : Int32, y_6 = xa u_1 314 (a1).toNatClampNeg → ((¬ r_2 = y_6 → X_T_isSo_A_80 K (0 : Int32) u_1) ∧ (r_2 = y_6 → X_T_isSo_A_80 K (1 : Int32) u_1))))))) ∧ (y_3 = (some 6) → (vp_in a1 80 ∧ ∀ y_7 : Int32, y_7 = xa u_1 314 (a1).toNatClampNeg → ((y_7 ≤ r_2 → X_T_isSo_A_34 K (0 : Int32) u_1) ∧ (¬ y_7 ≤ r_2 → X_T_isSo_A_34 K (1 : Int32) u_1)))))))
set_option maxHeartbeats 4000000 in
set_option maxRecDepth 100000 in
theorem X_T_isSo_A_c {l : Launch} {dC : Nat → ClassId} {dI : Nat → Nat → Nat} {cs : Nat → ClassId} {ad ak : Nat → Nat} {q v : Nat → Nat} {a1 : Int32} {a2 : Option Nat} {u : xs_St} {K : Int32 → xs_St → Prop} (hf : X_T_isSo_A a1 a2 u K) : th_Ci l yX7_isSo cX7_isSo 4 (some .boolean) 3 0 0 (dC, dI) (th_ty cs) (xE ad ak) (wX cs ad q v v) [.ref (v 399), .int a1, va_rf a2] u K := by
  refine th_ofi (by decide) (by cases a2 <;> exact Nat.le_of_ble_eq_true rfl) (xE_ok ad ak) ?_
  intro p e s m below meth c A ls C hw hl
  have C : th_Cx p s m _ meth c cX7_isSo RX7 4 (some .boolean) (dC, dI) (th_ty cs) (xE ad ak) A := C
  have hl : lv_has ls 4 [(0, .ref (v 399)), (1, .int a1), (2, va_rf a2)] := by cases a2 <;> exact hl
  generalize (List.toArray _ : Array Value) = args at C ⊢
  have hx := C.1
  have hb := C.2.1
  unfold X_T_isSo_A at hf
  refine lv_aload_n hx hb dX7_isSo_0 rfl (lv_at hl 0 rfl) ?_
  refine lv_iload_n hx hb dX7_isSo_1 rfl (lv_at hl 1 rfl) ?_
  refine th_aload_n hx hb dX7_isSo_2 rfl (lv_at hl 2 rfl) ?_
  refine th_callVi (As := [.int a1, va_rf a2]) (rest := []) C lkX7_104 (X_T_measure_A_c hf) hw (xRc_TA C hw) rfl rfl ⟨Nat.le_of_ble_eq_true rfl, Nat.le_of_ble_eq_true rfl⟩ hl.1 (Nat.le_of_ble_eq_true rfl) ⟨Nat.le_of_ble_eq_true rfl, Nat.le_of_ble_eq_true rfl⟩ dX7_isSo_3 (fun r_2 u_1 H locs hf hw => ?_)
  refine lv_istore_n (i := 3) (lv' := [(3, .int r_2), (0, .ref (v 399)), (1, .int a1), (2, va_rf a2)]) hx hb dX7_isSo_6 rfl hl (by decide) (by simp [List.filter, th_cat, th_cate]) (fun ls hl => ?_)
  refine lv_aload_n hx hb dX7_isSo_7 rfl (lv_at hl 1 rfl) ?_
  refine xg_312 C hw (C.2.2.2.2.1 _ hwF_X7_31) dX7_isSo_8 ?_
  refine lv_iload_n hx hb dX7_isSo_11 rfl (lv_at hl 2 rfl) ?_
  refine yl_312 C hw hf.1 dX7_isSo_12 (fun y_3 e9 => ?_)
  replace hf := hf.2 y_3 e9
  clear e9
  refine xst C hw 6 (by decide) (C.2.2.2.2.1 _ hwF_X7_108) dX7_isSo_13 ?_
  refine x_acmp_ne (tgt := 35) C dX7_isSo_16 (by decide) (fun hc => ?_) (fun hc => ?_)
  · replace hf := hf.1 hc
    clear hc
    refine lv_aload_n hx hb dX7_isSo_35 rfl (lv_at hl 1 rfl) ?_
    refine xg_312 C hw (C.2.2.2.2.1 _ hwF_X7_31) dX7_isSo_36 ?_
    refine lv_iload_n hx hb dX7_isSo_39 rfl (lv_at hl 2 rfl) ?_
    refine yl_312 C hw hf.1 dX7_isSo_40 (fun y_4 e9 => ?_)
    replace hf := hf.2 y_4 e9
    clear e9
    refine xst C hw 7 (by decide) (C.2.2.2.2.1 _ hwF_X7_111) dX7_isSo_41 ?_
    refine x_acmp_ne (tgt := 65) C dX7_isSo_44 (by decide) (fun hc => ?_) (fun hc => ?_)
    · replace hf := hf.1 hc
      clear hc
      refine lv_iload_n hx hb dX7_isSo_65 rfl (lv_at hl 0 rfl) ?_
      refine lv_aload_n hx hb dX7_isSo_66 rfl (lv_at hl 1 rfl) ?_
      refine xg_314 C hw (C.2.2.2.2.1 _ hwF_X7_37) dX7_isSo_67 ?_
      refine lv_iload_n hx hb dX7_isSo_70 rfl (lv_at hl 2 rfl) ?_
      refine yl_314 C hw hf.1 dX7_isSo_71 (fun y_5 e9 => ?_)
      replace hf := hf.2 y_5 e9
      clear e9
      refine lv_icmp_le (tgt := 79) hx hb dX7_isSo_72 (by decide) (fun hc => ?_) (fun hc => ?_)
      · replace hf := hf.1 hc
        clear hc
        refine lv_iconst (v := (0 : Int32)) hx hb dX7_isSo_79 (by decide) ?_
        exact X_T_isSo_A_80_w C (0 : Int32) u_1 _ _ _ hf hw (lv_sub hl [] rfl)
      · replace hf := hf.2 hc
        clear hc
        refine lv_iconst (v := (1 : Int32)) hx hb dX7_isSo_75 (by decide) ?_
        refine lv_goto (tgt := 80) hx hb dX7_isSo_76 (by decide) ?_
        exact X_T_isSo_A_80_w C (1 : Int32) u_1 _ _ _ hf hw (lv_sub hl [] rfl)
    · replace hf := hf.2 hc
      clear hc
      refine lv_iload_n hx hb dX7_isSo_47 rfl (lv_at hl 0 rfl) ?_
      refine lv_aload_n hx hb dX7_isSo_48 rfl (lv_at hl 1 rfl) ?_
      refine xg_314 C hw (C.2.2.2.2.1 _ hwF_X7_37) dX7_isSo_49 ?_
      refine lv_iload_n hx hb dX7_isSo_52 rfl (lv_at hl 2 rfl) ?_
      refine yl_314 C hw hf.1 dX7_isSo_53 (fun y_6 e9 => ?_)
      replace hf := hf.2 y_6 e9
      clear e9
      refine lv_icmp_ne (tgt := 61) hx hb dX7_isSo_54 (by decide) (fun hc => ?_) (fun hc => ?_)
      · replace hf := hf.1 hc
        clear hc
        refine lv_iconst (v := (0 : Int32)) hx hb dX7_isSo_61 (by decide) ?_
        refine lv_goto (tgt := 80) hx hb dX7_isSo_62 (by decide) ?_
        exact X_T_isSo_A_80_w C (0 : Int32) u_1 _ _ _ hf hw (lv_sub hl [] rfl)
      · replace hf := hf.2 hc
        clear hc
        refine lv_iconst (v := (1 : Int32)) hx hb dX7_isSo_57 (by decide) ?_
        refine lv_goto (tgt := 80) hx hb dX7_isSo_58 (by decide) ?_
        exact X_T_isSo_A_80_w C (1 : Int32) u_1 _ _ _ hf hw (lv_sub hl [] rfl)
  · replace hf := hf.2 hc
    clear hc
    refine lv_iload_n hx hb dX7_isSo_19 rfl (lv_at hl 0 rfl) ?_
    refine lv_aload_n hx hb dX7_isSo_20 rfl (lv_at hl 1 rfl) ?_
    refine xg_314 C hw (C.2.2.2.2.1 _ hwF_X7_37) dX7_isSo_21 ?_
    refine lv_iload_n hx hb dX7_isSo_24 rfl (lv_at hl 2 rfl) ?_
    refine yl_314 C hw hf.1 dX7_isSo_25 (fun y_7 e9 => ?_)
    replace hf := hf.2 y_7 e9
    clear e9
    refine lv_icmp_ge (tgt := 33) hx hb dX7_isSo_26 (by decide) (fun hc => ?_) (fun hc => ?_)
    · replace hf := hf.1 hc
      clear hc
      refine lv_iconst (v := (0 : Int32)) hx hb dX7_isSo_33 (by decide) ?_
      exact X_T_isSo_A_34_w C (0 : Int32) u_1 _ _ _ hf hw (lv_sub hl [] rfl)
    · replace hf := hf.2 hc
      clear hc
      refine lv_iconst (v := (1 : Int32)) hx hb dX7_isSo_29 (by decide) ?_
      refine lv_goto (tgt := 34) hx hb dX7_isSo_30 (by decide) ?_
      exact X_T_isSo_A_34_w C (1 : Int32) u_1 _ _ _ hf hw (lv_sub hl [] rfl)
/-! X_US_noteBounds -/
theorem dX9_noteBounds_0 : decode cX9_noteBounds 0 = .ok (.aload_n 0, 1) := by decide +kernel
theorem dX9_noteBounds_1 : decode cX9_noteBounds 1 = .ok (.iload_n 2, 1) := by decide +kernel
theorem dX9_noteBounds_2 : decode cX9_noteBounds 2 = .ok (.putfield 18, 3) := by decide +kernel
theorem dX9_noteBounds_5 : decode cX9_noteBounds 5 = .ok (.aload_n 0, 1) := by decide +kernel
theorem dX9_noteBounds_6 : decode cX9_noteBounds 6 = .ok (.getfield 38, 3) := by decide +kernel
theorem dX9_noteBounds_9 : decode cX9_noteBounds 9 = .ok (.ldc 83, 2) := by decide +kernel
theorem dX9_noteBounds_11 : decode cX9_noteBounds 11 = .ok (.invokestatic 84, 3) := by decide +kernel
theorem dX9_noteBounds_14 : decode cX9_noteBounds 14 = .ok (.iload_n 2, 1) := by decide +kernel
theorem dX9_noteBounds_15 : decode cX9_noteBounds 15 = .ok (.iconst 1, 1) := by decide +kernel
theorem dX9_noteBounds_16 : decode cX9_noteBounds 16 = .ok (.isub, 1) := by decide +kernel
theorem dX9_noteBounds_17 : decode cX9_noteBounds 17 = .ok (.istore 4, 2) := by decide +kernel
theorem dX9_noteBounds_19 : decode cX9_noteBounds 19 = .ok (.iload 4, 2) := by decide +kernel
theorem dX9_noteBounds_21 : decode cX9_noteBounds 21 = .ok (.ifCond .lt 157, 3) := by decide +kernel
theorem dX9_noteBounds_24 : decode cX9_noteBounds 24 = .ok (.iload 4, 2) := by decide +kernel
theorem dX9_noteBounds_26 : decode cX9_noteBounds 26 = .ok (.bipush 48, 2) := by decide +kernel
theorem dX9_noteBounds_28 : decode cX9_noteBounds 28 = .ok (.if_icmp .ge 150, 3) := by decide +kernel
theorem dX9_noteBounds_31 : decode cX9_noteBounds 31 = .ok (.aload_n 0, 1) := by decide +kernel
theorem dX9_noteBounds_32 : decode cX9_noteBounds 32 = .ok (.getfield 11, 3) := by decide +kernel
theorem dX9_noteBounds_35 : decode cX9_noteBounds 35 = .ok (.iload 4, 2) := by decide +kernel
theorem dX9_noteBounds_37 : decode cX9_noteBounds 37 = .ok (.bipush 15, 2) := by decide +kernel
theorem dX9_noteBounds_39 : decode cX9_noteBounds 39 = .ok (.iastore, 1) := by decide +kernel
theorem dX9_noteBounds_40 : decode cX9_noteBounds 40 = .ok (.aload_n 0, 1) := by decide +kernel
theorem dX9_noteBounds_41 : decode cX9_noteBounds 41 = .ok (.getfield 15, 3) := by decide +kernel
theorem dX9_noteBounds_44 : decode cX9_noteBounds 44 = .ok (.iload 4, 2) := by decide +kernel
theorem dX9_noteBounds_46 : decode cX9_noteBounds 46 = .ok (.bipush (-15), 2) := by decide +kernel
theorem dX9_noteBounds_48 : decode cX9_noteBounds 48 = .ok (.iastore, 1) := by decide +kernel
theorem dX9_noteBounds_49 : decode cX9_noteBounds 49 = .ok (.aload_n 0, 1) := by decide +kernel
theorem dX9_noteBounds_50 : decode cX9_noteBounds 50 = .ok (.getfield 35, 3) := by decide +kernel
theorem dX9_noteBounds_53 : decode cX9_noteBounds 53 = .ok (.iconst 0, 1) := by decide +kernel
theorem dX9_noteBounds_54 : decode cX9_noteBounds 54 = .ok (.invokestatic 84, 3) := by decide +kernel
theorem dX9_noteBounds_57 : decode cX9_noteBounds 57 = .ok (.iconst 0, 1) := by decide +kernel
theorem dX9_noteBounds_58 : decode cX9_noteBounds 58 = .ok (.istore 5, 2) := by decide +kernel
theorem dX9_noteBounds_60 : decode cX9_noteBounds 60 = .ok (.iload 5, 2) := by decide +kernel
theorem dX9_noteBounds_62 : decode cX9_noteBounds 62 = .ok (.bipush 31, 2) := by decide +kernel
theorem dX9_noteBounds_64 : decode cX9_noteBounds 64 = .ok (.if_icmp .ge 88, 3) := by decide +kernel
theorem dX9_noteBounds_67 : decode cX9_noteBounds 67 = .ok (.aload_n 0, 1) := by decide +kernel
theorem dX9_noteBounds_68 : decode cX9_noteBounds 68 = .ok (.iload 5, 2) := by decide +kernel
theorem dX9_noteBounds_70 : decode cX9_noteBounds 70 = .ok (.aload_n 1, 1) := by decide +kernel
theorem dX9_noteBounds_71 : decode cX9_noteBounds 71 = .ok (.iload 4, 2) := by decide +kernel
theorem dX9_noteBounds_73 : decode cX9_noteBounds 73 = .ok (.invokevirtual 47, 3) := by decide +kernel
theorem dX9_noteBounds_76 : decode cX9_noteBounds 76 = .ok (.iload 5, 2) := by decide +kernel
theorem dX9_noteBounds_78 : decode cX9_noteBounds 78 = .ok (.invokestatic 71, 3) := by decide +kernel
theorem dX9_noteBounds_81 : decode cX9_noteBounds 81 = .ok (.iload_n 3, 1) := by decide +kernel
theorem dX9_noteBounds_82 : decode cX9_noteBounds 82 = .ok (.invokevirtual 87, 3) := by decide +kernel
theorem dX9_noteBounds_85 : decode cX9_noteBounds 85 = .ok (.aload_n 0, 1) := by decide +kernel
theorem dX9_noteBounds_86 : decode cX9_noteBounds 86 = .ok (.getfield 32, 3) := by decide +kernel
theorem dX9_noteBounds_89 : decode cX9_noteBounds 89 = .ok (.iload 4, 2) := by decide +kernel
theorem dX9_noteBounds_91 : decode cX9_noteBounds 91 = .ok (.bipush 31, 2) := by decide +kernel
theorem dX9_noteBounds_93 : decode cX9_noteBounds 93 = .ok (.imul, 1) := by decide +kernel
theorem dX9_noteBounds_94 : decode cX9_noteBounds 94 = .ok (.iload 5, 2) := by decide +kernel
theorem dX9_noteBounds_96 : decode cX9_noteBounds 96 = .ok (.iadd, 1) := by decide +kernel
theorem dX9_noteBounds_97 : decode cX9_noteBounds 97 = .ok (.iaload, 1) := by decide +kernel
theorem dX9_noteBounds_98 : decode cX9_noteBounds 98 = .ok (.iand, 1) := by decide +kernel
theorem dX9_noteBounds_99 : decode cX9_noteBounds 99 = .ok (.ifCond .eq 47, 3) := by decide +kernel
theorem dX9_noteBounds_102 : decode cX9_noteBounds 102 = .ok (.aload_n 0, 1) := by decide +kernel
theorem dX9_noteBounds_103 : decode cX9_noteBounds 103 = .ok (.getfield 11, 3) := by decide +kernel
theorem dX9_noteBounds_106 : decode cX9_noteBounds 106 = .ok (.iload 4, 2) := by decide +kernel
theorem dX9_noteBounds_108 : decode cX9_noteBounds 108 = .ok (.aload_n 0, 1) := by decide +kernel
theorem dX9_noteBounds_109 : decode cX9_noteBounds 109 = .ok (.getfield 11, 3) := by decide +kernel
theorem dX9_noteBounds_112 : decode cX9_noteBounds 112 = .ok (.iload 4, 2) := by decide +kernel
theorem dX9_noteBounds_114 : decode cX9_noteBounds 114 = .ok (.iaload, 1) := by decide +kernel
theorem dX9_noteBounds_115 : decode cX9_noteBounds 115 = .ok (.iload 5, 2) := by decide +kernel
theorem dX9_noteBounds_117 : decode cX9_noteBounds 117 = .ok (.bipush 15, 2) := by decide +kernel
theorem dX9_noteBounds_119 : decode cX9_noteBounds 119 = .ok (.isub, 1) := by decide +kernel
theorem dX9_noteBounds_120 : decode cX9_noteBounds 120 = .ok (.invokestatic 80, 3) := by decide +kernel
theorem dX9_noteBounds_123 : decode cX9_noteBounds 123 = .ok (.iastore, 1) := by decide +kernel
theorem dX9_noteBounds_124 : decode cX9_noteBounds 124 = .ok (.aload_n 0, 1) := by decide +kernel
theorem dX9_noteBounds_125 : decode cX9_noteBounds 125 = .ok (.getfield 15, 3) := by decide +kernel
theorem dX9_noteBounds_128 : decode cX9_noteBounds 128 = .ok (.iload 4, 2) := by decide +kernel
theorem dX9_noteBounds_130 : decode cX9_noteBounds 130 = .ok (.aload_n 0, 1) := by decide +kernel
theorem dX9_noteBounds_131 : decode cX9_noteBounds 131 = .ok (.getfield 15, 3) := by decide +kernel
theorem dX9_noteBounds_134 : decode cX9_noteBounds 134 = .ok (.iload 4, 2) := by decide +kernel
theorem dX9_noteBounds_136 : decode cX9_noteBounds 136 = .ok (.iaload, 1) := by decide +kernel
theorem dX9_noteBounds_137 : decode cX9_noteBounds 137 = .ok (.iload 5, 2) := by decide +kernel
theorem dX9_noteBounds_139 : decode cX9_noteBounds 139 = .ok (.bipush 15, 2) := by decide +kernel
theorem dX9_noteBounds_141 : decode cX9_noteBounds 141 = .ok (.isub, 1) := by decide +kernel
theorem dX9_noteBounds_142 : decode cX9_noteBounds 142 = .ok (.invokestatic 75, 3) := by decide +kernel
theorem dX9_noteBounds_145 : decode cX9_noteBounds 145 = .ok (.iastore, 1) := by decide +kernel
theorem dX9_noteBounds_146 : decode cX9_noteBounds 146 = .ok (.iinc 5 1, 3) := by decide +kernel
theorem dX9_noteBounds_149 : decode cX9_noteBounds 149 = .ok (.goto (-89), 3) := by decide +kernel
theorem dX9_noteBounds_152 : decode cX9_noteBounds 152 = .ok (.aload_n 0, 1) := by decide +kernel
theorem dX9_noteBounds_153 : decode cX9_noteBounds 153 = .ok (.getfield 38, 3) := by decide +kernel
theorem dX9_noteBounds_156 : decode cX9_noteBounds 156 = .ok (.astore 5, 2) := by decide +kernel
theorem dX9_noteBounds_158 : decode cX9_noteBounds 158 = .ok (.aload_n 0, 1) := by decide +kernel
theorem dX9_noteBounds_159 : decode cX9_noteBounds 159 = .ok (.aload_n 0, 1) := by decide +kernel
theorem dX9_noteBounds_160 : decode cX9_noteBounds 160 = .ok (.getfield 35, 3) := by decide +kernel
theorem dX9_noteBounds_163 : decode cX9_noteBounds 163 = .ok (.putfield 38, 3) := by decide +kernel
theorem dX9_noteBounds_166 : decode cX9_noteBounds 166 = .ok (.aload_n 0, 1) := by decide +kernel
theorem dX9_noteBounds_167 : decode cX9_noteBounds 167 = .ok (.aload 5, 2) := by decide +kernel
theorem dX9_noteBounds_169 : decode cX9_noteBounds 169 = .ok (.putfield 35, 3) := by decide +kernel
theorem dX9_noteBounds_172 : decode cX9_noteBounds 172 = .ok (.iinc 4 (-1), 3) := by decide +kernel
theorem dX9_noteBounds_175 : decode cX9_noteBounds 175 = .ok (.goto (-156), 3) := by decide +kernel
theorem dX9_noteBounds_178 : decode cX9_noteBounds 178 = .ok (.return_, 1) := by decide +kernel
def X_US_noteBounds_146 (K : xs_St → Prop) (k19 : Int32 → Int32 → xs_St → Prop) (k60 : Int32 → Int32 → Int32 → xs_St → Prop) (x3 : Int32) (x4 : Int32) (x5 : Int32) (u : xs_St) : Prop :=
  ∀ x5_1 : Int32, x5_1 = x5 + (1 : Int32) → k60 x3 x4 x5_1 u
set_option maxHeartbeats 4000000 in
set_option maxRecDepth 100000 in
theorem X_US_noteBounds_146_w {K : xs_St → Prop} {k19 : Int32 → Int32 → xs_St → Prop} {k60 : Int32 → Int32 → Int32 → xs_St → Prop} (C : th_Cx p s m args meth c cX9_noteBounds RX9 6 (none) (dC, dI) (th_ty cs) (xE ad ak) A) (hk19 : ∀ (x3 : Int32) (x4 : Int32) (v : Nat → Nat) (u : xs_St) (H : Heap) (locs : List Loc) (ls : Array Slot), k19 x3 x4 u → th_wI (dC, dI) (wX cs ad q v v) A s.heap u H locs → lv_has ls 6 [(0, .ref (q 699)), (1, .ref (q 199)), (3, .int x3), (4, .int x4)] → W p l e (th_rm 3 0 0) s m args below meth c H locs 0 0 (MQ below (va_Qv (fun a9 => K a9.2) (th_Post (dC, dI) (wXs cs ad q) A) A) args s 0 0 A) (F0 m 19 ls [])) (hk60 : ∀ (x3 : Int32) (x4 : Int32) (x5 : Int32) (v : Nat → Nat) (u : xs_St) (H : Heap) (locs : List Loc) (ls : Array Slot), k60 x3 x4 x5 u → th_wI (dC, dI) (wX cs ad q v v) A s.heap u H locs → lv_has ls 6 [(0, .ref (q 699)), (1, .ref (q 199)), (3, .int x3), (4, .int x4), (5, .int x5)] → W p l e (th_rm 3 0 0) s m args below meth c H locs 0 0 (MQ below (va_Qv (fun a9 => K a9.2) (th_Post (dC, dI) (wXs cs ad q) A) A) args s 0 0 A) (F0 m 60 ls [])) (x3 : Int32) (x4 : Int32) (x5 : Int32) (v : Nat → Nat) (u : xs_St) (H : Heap) (locs : List Loc) (ls : Array Slot) (hf : X_US_noteBounds_146 K k19 k60 x3 x4 x5 u) (hw : th_wI (dC, dI) (wX cs ad q v v) A s.heap u H locs) (hl : lv_has ls 6 [(0, .ref (q 699)), (1, .ref (q 199)), (3, .int x3), (4, .int x4), (5, .int x5)]) : W p l e (th_rm 3 0 0) s m args below meth c H locs 0 0 (MQ below (va_Qv (fun a9 => K a9.2) (th_Post (dC, dI) (wXs cs ad q) A) A) args s 0 0 A) (F0 m 146 ls []) := by
  have hx := C.1
  have hb := C.2.1
  unfold X_US_noteBounds_146 at hf
  obtain ⟨x5_1, e9⟩ : ∃ y : Int32, y = x5 + (1 : Int32) := ⟨_, rfl⟩
  replace hf := hf x5_1 e9
  refine lv_iinc (v := x5_1) (lv' := [(5, .int x5_1), (0, .ref (q 699)), (1, .ref (q 199)), (3, .int x3), (4, .int x4)]) hx hb dX9_noteBounds_146 hl (k := 4) rfl (by rw [e9]; rfl) (by decide) rfl (fun ls hl => ?_)
  clear e9
  refine lv_goto (tgt := 60) hx hb dX9_noteBounds_149 (by decide) ?_
  exact hk60 x3 x4 x5_1 v u _ _ _ hf hw (lv_sub hl [1, 2, 3, 4, 0] rfl)
def X_US_noteBounds_60 (K : xs_St → Prop) (k19 : Int32 → Int32 → xs_St → Prop) (k60 : Int32 → Int32 → Int32 → xs_St → Prop) (x3 : Int32) (x4 : Int32) (x5 : Int32) (u : xs_St) : Prop :=
  (((31 : Int32) ≤ x5 → ∀ u_2 : xs_St, u_2 = xw_608_607 u → ∀ x4_3 : Int32, x4_3 = x4 + (-1 : Int32) → k19 x3 x4_3 u_2) ∧ (¬ (31 : Int32) ≤ x5 → X_TP_signedPair x4 u (fun r_5 u_4 => X_US_outerSum r_5 x5 u_4 (fun r_7 u_6 => X_US_goOn x5 r_7 x3 u_6 (fun r_9 u_8 => (vp_in ((x4 * (31 : Int32)) + x5) 1488 ∧ ∀ y_10 : Int32, y_10 = xa u_8 606 (((x4 * (31 : Int32)) + x5)).toNatClampNeg → (((r_9 &&& y_10) = 0 → X_US_noteBounds_146 K k19 k60 x3 x4 x5 u_8) ∧ (¬ (r_9 &&& y_10) = 0 → (vp_in x4 48 ∧ ∀ y_11 : Int32, y_11 = xa u_8 600 (x4).toNatClampNeg → (vp_in x4 48 ∧ ∀ u_12 : xs_St, u_12 = xs_sa u_8 600 (upd (xa u_8 600) (x4).toNatClampNeg (if (x5 - (15 : Int32)) < y_11 then (x5 - (15 : Int32)) else y_11)) → (vp_in x4 48 ∧ ∀ y_13 : Int32, y_13 = xa u_12 601 (x4).toNatClampNeg → (vp_in x4 48 ∧ ∀ u_14 : xs_St, u_14 = xs_sa u_12 601 (upd (xa u_12 601) (x4).toNatClampNeg (if y_13 < (x5 - (15 : Int32)) then (x5 - (15 : Int32)) else y_13)) → X_US_noteBounds_146 K k19 k60 x3 x4 x5 u_14))))))))))))
set_option maxHeartbeats 4000000 in
set_option maxRecDepth 100000 in
theorem X_US_noteBounds_60_w {K : xs_St → Prop} {k19 : Int32 → Int32 → xs_St → Prop} {k60 : Int32 → Int32 → Int32 → xs_St → Prop} (C : th_Cx p s m args meth c cX9_noteBounds RX9 6 (none) (dC, dI) (th_ty cs) (xE ad ak) A) (hk19 : ∀ (x3 : Int32) (x4 : Int32) (v : Nat → Nat) (u : xs_St) (H : Heap) (locs : List Loc) (ls : Array Slot), k19 x3 x4 u → th_wI (dC, dI) (wX cs ad q v v) A s.heap u H locs → lv_has ls 6 [(0, .ref (q 699)), (1, .ref (q 199)), (3, .int x3), (4, .int x4)] → W p l e (th_rm 3 0 0) s m args below meth c H locs 0 0 (MQ below (va_Qv (fun a9 => K a9.2) (th_Post (dC, dI) (wXs cs ad q) A) A) args s 0 0 A) (F0 m 19 ls [])) (hk60 : ∀ (x3 : Int32) (x4 : Int32) (x5 : Int32) (v : Nat → Nat) (u : xs_St) (H : Heap) (locs : List Loc) (ls : Array Slot), k60 x3 x4 x5 u → th_wI (dC, dI) (wX cs ad q v v) A s.heap u H locs → lv_has ls 6 [(0, .ref (q 699)), (1, .ref (q 199)), (3, .int x3), (4, .int x4), (5, .int x5)] → W p l e (th_rm 3 0 0) s m args below meth c H locs 0 0 (MQ below (va_Qv (fun a9 => K a9.2) (th_Post (dC, dI) (wXs cs ad q) A) A) args s 0 0 A) (F0 m 60 ls [])) (x3 : Int32) (x4 : Int32) (x5 : Int32) (v : Nat → Nat) (u : xs_St) (H : Heap) (locs : List Loc) (ls : Array Slot) (hf : X_US_noteBounds_60 K k19 k60 x3 x4 x5 u) (hw : th_wI (dC, dI) (wX cs ad q v v) A s.heap u H locs) (hl : lv_has ls 6 [(0, .ref (q 699)), (1, .ref (q 199)), (3, .int x3), (4, .int x4), (5, .int x5)]) : W p l e (th_rm 3 0 0) s m args below meth c H locs 0 0 (MQ below (va_Qv (fun a9 => K a9.2) (th_Post (dC, dI) (wXs cs ad q) A) A) args s 0 0 A) (F0 m 60 ls []) := by
  have hx := C.1
  have hb := C.2.1
  unfold X_US_noteBounds_60 at hf
  refine lv_iload hx hb dX9_noteBounds_60 (lv_at hl 4 rfl) ?_
  refine lv_bipush (v := (31 : Int32)) hx hb dX9_noteBounds_62 (by decide) ?_
  refine lv_icmp_ge (tgt := 152) hx hb dX9_noteBounds_64 (by decide) (fun hc => ?_) (fun hc => ?_)
  · replace hf := hf.1 hc
    clear hc
    refine lv_aload_n hx hb dX9_noteBounds_152 rfl (lv_at hl 0 rfl) ?_
    refine xg_608 C hw (C.2.2.2.2.1 _ hwF_X9_38) dX9_noteBounds_153 ?_
    refine lv_astore (lv' := [(5, .ref (v 608)), (0, .ref (q 699)), (1, .ref (q 199)), (3, .int x3), (4, .int x4)]) hx hb dX9_noteBounds_156 hl (by decide) rfl (fun ls hl => ?_)
    refine lv_aload_n hx hb dX9_noteBounds_158 rfl (lv_at hl 1 rfl) ?_
    refine lv_aload_n hx hb dX9_noteBounds_159 rfl (lv_at hl 1 rfl) ?_
    refine xg_607 C hw (C.2.2.2.2.1 _ hwF_X9_35) dX9_noteBounds_160 ?_
    refine xq_608 (x := (v 607)) C hw (C.2.2.2.2.1 _ hwF_X9_38) dX9_noteBounds_163 (fun H locs hw => ?_)
    refine lv_aload_n hx hb dX9_noteBounds_166 rfl (lv_at hl 1 rfl) ?_
    refine lv_aload hx hb dX9_noteBounds_167 (lv_at hl 0 rfl) ?_
    refine xq_607 (x := (v 608)) C hw (C.2.2.2.2.1 _ hwF_X9_35) dX9_noteBounds_169 (fun H locs hw => ?_)
    obtain ⟨v_1, hw⟩ := xw_608_607_f hw
    obtain ⟨u_2, e9⟩ : ∃ z, z = xw_608_607 u := ⟨_, rfl⟩
    rw [← e9] at hw
    replace hf := hf u_2 e9
    clear e9
    replace hl := lv_sub hl [1, 2, 3, 4] rfl
    have hl : lv_has ls 6 [(0, .ref (q 699)), (1, .ref (q 199)), (3, .int x3), (4, .int x4)] := hl
    obtain ⟨x4_3, e9⟩ : ∃ y : Int32, y = x4 + (-1 : Int32) := ⟨_, rfl⟩
    replace hf := hf x4_3 e9
    refine lv_iinc (v := x4_3) (lv' := [(4, .int x4_3), (0, .ref (q 699)), (1, .ref (q 199)), (3, .int x3)]) hx hb dX9_noteBounds_172 hl (k := 3) rfl (by rw [e9]; rfl) (by decide) rfl (fun ls hl => ?_)
    clear e9
    refine lv_goto (tgt := 19) hx hb dX9_noteBounds_175 (by decide) ?_
    exact hk19 x3 x4_3 v_1 u_2 _ _ _ hf hw (lv_sub hl [1, 2, 3, 0] rfl)
  · replace hf := hf.2 hc
    clear hc
    refine lv_aload_n hx hb dX9_noteBounds_67 rfl (lv_at hl 0 rfl) ?_
    refine lv_iload hx hb dX9_noteBounds_68 (lv_at hl 4 rfl) ?_
    refine lv_aload_n hx hb dX9_noteBounds_70 rfl (lv_at hl 1 rfl) ?_
    refine lv_iload hx hb dX9_noteBounds_71 (lv_at hl 3 rfl) ?_
    refine th_callVi (As := [.int x4]) (rest := [.int x5, .ref (q 699)]) C lkX9_47 (X_TP_signedPair_c hf) hw (xRc_TP C hw) rfl rfl ⟨Nat.le_of_ble_eq_true rfl, Nat.le_of_ble_eq_true rfl⟩ hl.1 (Nat.le_of_ble_eq_true rfl) ⟨Nat.le_of_ble_eq_true rfl, Nat.le_of_ble_eq_true rfl⟩ dX9_noteBounds_73 (fun r_5 u_4 H locs hf hw => ?_)
    refine lv_iload hx hb dX9_noteBounds_76 (lv_at hl 4 rfl) ?_
    refine th_callSi (As := [.int r_5, .int x5]) (rest := [.int x5, .ref (q 699)]) C lkX9_71 (X_US_outerSum_c hf) hw rfl rfl ⟨Nat.le_of_ble_eq_true rfl, Nat.le_of_ble_eq_true rfl⟩ hl.1 (Nat.le_of_ble_eq_true rfl) ⟨Nat.le_of_ble_eq_true rfl, Nat.le_of_ble_eq_true rfl⟩ dX9_noteBounds_78 (fun r_7 u_6 H locs hf hw => ?_)
    refine lv_iload_n hx hb dX9_noteBounds_81 rfl (lv_at hl 2 rfl) ?_
    refine th_callVi (As := [.int x5, .int r_7, .int x3]) (rest := []) C lkX9_87 (X_US_goOn_c hf) hw (xRc_US C hw) rfl rfl ⟨Nat.le_of_ble_eq_true rfl, Nat.le_of_ble_eq_true rfl⟩ hl.1 (Nat.le_of_ble_eq_true rfl) ⟨Nat.le_of_ble_eq_true rfl, Nat.le_of_ble_eq_true rfl⟩ dX9_noteBounds_82 (fun r_9 u_8 H locs hf hw => ?_)
    refine lv_aload_n hx hb dX9_noteBounds_85 rfl (lv_at hl 0 rfl) ?_
    refine xg_606 C hw (C.2.2.2.2.1 _ hwF_X9_32) dX9_noteBounds_86 ?_
    refine lv_iload hx hb dX9_noteBounds_89 (lv_at hl 3 rfl) ?_
    refine lv_bipush (v := (31 : Int32)) hx hb dX9_noteBounds_91 (by decide) ?_
    refine lv_imul hx hb dX9_noteBounds_93 ?_
    refine lv_iload hx hb dX9_noteBounds_94 (lv_at hl 4 rfl) ?_
    refine lv_iadd hx hb dX9_noteBounds_96 ?_
    refine yl_606 C hw hf.1 dX9_noteBounds_97 (fun y_10 e9 => ?_)
    replace hf := hf.2 y_10 e9
    clear e9
    refine lv_iand hx hb dX9_noteBounds_98 ?_
    refine lv_if_eq (tgt := 146) hx hb dX9_noteBounds_99 (by decide) (fun hc => ?_) (fun hc => ?_)
    · replace hf := hf.1 hc
      clear hc
      exact X_US_noteBounds_146_w C hk19 hk60 x3 x4 x5 v u_8 _ _ _ hf hw (lv_sub hl [0, 1, 2, 3, 4] rfl)
    · replace hf := hf.2 hc
      clear hc
      refine lv_aload_n hx hb dX9_noteBounds_102 rfl (lv_at hl 0 rfl) ?_
      refine xg_600 C hw (C.2.2.2.2.1 _ hwF_X9_11) dX9_noteBounds_103 ?_
      refine lv_iload hx hb dX9_noteBounds_106 (lv_at hl 3 rfl) ?_
      refine lv_aload_n hx hb dX9_noteBounds_108 rfl (lv_at hl 0 rfl) ?_
      refine xg_600 C hw (C.2.2.2.2.1 _ hwF_X9_11) dX9_noteBounds_109 ?_
      refine lv_iload hx hb dX9_noteBounds_112 (lv_at hl 3 rfl) ?_
      refine yl_600 C hw hf.1 dX9_noteBounds_114 (fun y_11 e9 => ?_)
      replace hf := hf.2 y_11 e9
      clear e9
      refine lv_iload hx hb dX9_noteBounds_115 (lv_at hl 4 rfl) ?_
      refine lv_bipush (v := (15 : Int32)) hx hb dX9_noteBounds_117 (by decide) ?_
      refine lv_isub hx hb dX9_noteBounds_119 ?_
      refine va_mmin hx hb (C.2.2.1.trans hl.1.symm) C.2.2.2.1 (C.2.2.2.2.1 _ hwM_X9_80) (C.2.2.2.2.1 _ hwS_Math_min) (C.2.2.2.2.1 _ hwI_Math) (C.2.2.2.2.1 _ hwC_Math_min) (Nat.le_of_ble_eq_true rfl) (Nat.le_of_ble_eq_true rfl) (Nat.le_of_ble_eq_true rfl) (Nat.le_of_ble_eq_true rfl) dX9_noteBounds_120 ?_
      refine ys_600 C hw hf.1 dX9_noteBounds_123 (fun u_12 e9 H locs hw => ?_)
      replace hf := hf.2 u_12 e9
      clear e9
      refine lv_aload_n hx hb dX9_noteBounds_124 rfl (lv_at hl 0 rfl) ?_
      refine xg_601 C hw (C.2.2.2.2.1 _ hwF_X9_15) dX9_noteBounds_125 ?_
      refine lv_iload hx hb dX9_noteBounds_128 (lv_at hl 3 rfl) ?_
      refine lv_aload_n hx hb dX9_noteBounds_130 rfl (lv_at hl 0 rfl) ?_
      refine xg_601 C hw (C.2.2.2.2.1 _ hwF_X9_15) dX9_noteBounds_131 ?_
      refine lv_iload hx hb dX9_noteBounds_134 (lv_at hl 3 rfl) ?_
      refine yl_601 C hw hf.1 dX9_noteBounds_136 (fun y_13 e9 => ?_)
      replace hf := hf.2 y_13 e9
      clear e9
      refine lv_iload hx hb dX9_noteBounds_137 (lv_at hl 4 rfl) ?_
      refine lv_bipush (v := (15 : Int32)) hx hb dX9_noteBounds_139 (by decide) ?_
      refine lv_isub hx hb dX9_noteBounds_141 ?_
      refine va_mmax hx hb (C.2.2.1.trans hl.1.symm) C.2.2.2.1 (C.2.2.2.2.1 _ hwM_X9_75) (C.2.2.2.2.1 _ hwS_Math_max) (C.2.2.2.2.1 _ hwI_Math) (C.2.2.2.2.1 _ hwC_Math_max) (Nat.le_of_ble_eq_true rfl) (Nat.le_of_ble_eq_true rfl) (Nat.le_of_ble_eq_true rfl) (Nat.le_of_ble_eq_true rfl) dX9_noteBounds_142 ?_
      refine ys_601 C hw hf.1 dX9_noteBounds_145 (fun u_14 e9 H locs hw => ?_)
      replace hf := hf.2 u_14 e9
      clear e9
      exact X_US_noteBounds_146_w C hk19 hk60 x3 x4 x5 v u_14 _ _ _ hf hw (lv_sub hl [0, 1, 2, 3, 4] rfl)
def X_US_noteBounds_60_lp (K : xs_St → Prop) (k19 : Int32 → Int32 → xs_St → Prop) : Nat → Int32 → Int32 → Int32 → xs_St → Prop
  | 0, _, _, _, _ => False
  | n + 1, x3, x4, x5, u => X_US_noteBounds_60 K k19 (X_US_noteBounds_60_lp K k19 n) x3 x4 x5 u
set_option maxHeartbeats 4000000 in
set_option maxRecDepth 100000 in
theorem X_US_noteBounds_60_lw {K : xs_St → Prop} {k19 : Int32 → Int32 → xs_St → Prop} (C : th_Cx p s m args meth c cX9_noteBounds RX9 6 (none) (dC, dI) (th_ty cs) (xE ad ak) A) (hk19 : ∀ (x3 : Int32) (x4 : Int32) (v : Nat → Nat) (u : xs_St) (H : Heap) (locs : List Loc) (ls : Array Slot), k19 x3 x4 u → th_wI (dC, dI) (wX cs ad q v v) A s.heap u H locs → lv_has ls 6 [(0, .ref (q 699)), (1, .ref (q 199)), (3, .int x3), (4, .int x4)] → W p l e (th_rm 3 0 0) s m args below meth c H locs 0 0 (MQ below (va_Qv (fun a9 => K a9.2) (th_Post (dC, dI) (wXs cs ad q) A) A) args s 0 0 A) (F0 m 19 ls [])) (n : Nat) : ∀ (x3 : Int32) (x4 : Int32) (x5 : Int32) (v : Nat → Nat) (u : xs_St) (H : Heap) (locs : List Loc) (ls : Array Slot), X_US_noteBounds_60_lp K k19 n x3 x4 x5 u → th_wI (dC, dI) (wX cs ad q v v) A s.heap u H locs → lv_has ls 6 [(0, .ref (q 699)), (1, .ref (q 199)), (3, .int x3), (4, .int x4), (5, .int x5)] → W p l e (th_rm 3 0 0) s m args below meth c H locs 0 0 (MQ below (va_Qv (fun a9 => K a9.2) (th_Post (dC, dI) (wXs cs ad q) A) A) args s 0 0 A) (F0 m 60 ls []) := by
  induction n with
  | zero => intro x3 x4 x5 v u H locs ls hf; exact hf.elim
  | succ n ih =>
    intro x3 x4 x5 v u H locs ls hf hw hl
    exact X_US_noteBounds_60_w C hk19 ih x3 x4 x5 v u H locs ls hf hw hl
def X_US_noteBounds_178 (K : xs_St → Prop) (u : xs_St) : Prop :=
  K u
set_option maxHeartbeats 4000000 in
set_option maxRecDepth 100000 in
theorem X_US_noteBounds_178_w {K : xs_St → Prop} (C : th_Cx p s m args meth c cX9_noteBounds RX9 6 (none) (dC, dI) (th_ty cs) (xE ad ak) A) (v : Nat → Nat) (u : xs_St) (H : Heap) (locs : List Loc) (ls : Array Slot) (hf : X_US_noteBounds_178 K u) (hw : th_wI (dC, dI) (wX cs ad q v v) A s.heap u H locs) (hl : lv_has ls 6 []) : W p l e (th_rm 3 0 0) s m args below meth c H locs 0 0 (MQ below (va_Qv (fun a9 => K a9.2) (th_Post (dC, dI) (wXs cs ad q) A) A) args s 0 0 A) (F0 m 178 ls []) := by
  have hx := C.1
  have hb := C.2.1
  unfold X_US_noteBounds_178 at hf
  exact th_vret (K := (fun a9 => K a9.2)) (w := wXs cs ad q) (u := (v, u)) C hw hf dX9_noteBounds_178
def X_US_noteBounds_19 (K : xs_St → Prop) (k19 : Int32 → Int32 → xs_St → Prop) (x3 : Int32) (x4 : Int32) (u : xs_St) : Prop :=
  ((x4 < 0 → X_US_noteBounds_178 K u) ∧ (¬ x4 < 0 → (((48 : Int32) ≤ x4 → X_US_noteBounds_178 K u) ∧ (¬ (48 : Int32) ≤ x4 → (vp_in x4 48 ∧ ∀ u_1 : xs_St, u_1 = xs_sa u 600 (upd (xa u 600) (x4).toNatClampNeg (15 : Int32)) → (vp_in x4 48 ∧ ∀ u_2 : xs_St, u_2 = xs_sa u_1 601 (upd (xa u_1 601) (x4).toNatClampNeg (-15 : Int32)) → X_J_fill_53178_607 (0 : Int32) u_2 (fun u_3 => ∃ n, X_US_noteBounds_60_lp K k19 n x3 x4 (0 : Int32) u_3)))))))
set_option maxHeartbeats 4000000 in
set_option maxRecDepth 100000 in
theorem X_US_noteBounds_19_w {K : xs_St → Prop} {k19 : Int32 → Int32 → xs_St → Prop} (C : th_Cx p s m args meth c cX9_noteBounds RX9 6 (none) (dC, dI) (th_ty cs) (xE ad ak) A) (hk19 : ∀ (x3 : Int32) (x4 : Int32) (v : Nat → Nat) (u : xs_St) (H : Heap) (locs : List Loc) (ls : Array Slot), k19 x3 x4 u → th_wI (dC, dI) (wX cs ad q v v) A s.heap u H locs → lv_has ls 6 [(0, .ref (q 699)), (1, .ref (q 199)), (3, .int x3), (4, .int x4)] → W p l e (th_rm 3 0 0) s m args below meth c H locs 0 0 (MQ below (va_Qv (fun a9 => K a9.2) (th_Post (dC, dI) (wXs cs ad q) A) A) args s 0 0 A) (F0 m 19 ls [])) (x3 : Int32) (x4 : Int32) (v : Nat → Nat) (u : xs_St) (H : Heap) (locs : List Loc) (ls : Array Slot) (hf : X_US_noteBounds_19 K k19 x3 x4 u) (hw : th_wI (dC, dI) (wX cs ad q v v) A s.heap u H locs) (hl : lv_has ls 6 [(0, .ref (q 699)), (1, .ref (q 199)), (3, .int x3), (4, .int x4)]) : W p l e (th_rm 3 0 0) s m args below meth c H locs 0 0 (MQ below (va_Qv (fun a9 => K a9.2) (th_Post (dC, dI) (wXs cs ad q) A) A) args s 0 0 A) (F0 m 19 ls []) := by
  have hx := C.1
  have hb := C.2.1
  unfold X_US_noteBounds_19 at hf
  refine lv_iload hx hb dX9_noteBounds_19 (lv_at hl 3 rfl) ?_
  refine lv_if_lt (tgt := 178) hx hb dX9_noteBounds_21 (by decide) (fun hc => ?_) (fun hc => ?_)
  · replace hf := hf.1 hc
    clear hc
    exact X_US_noteBounds_178_w C  v u _ _ _ hf hw (lv_sub hl [] rfl)
  · replace hf := hf.2 hc
    clear hc
    refine lv_iload hx hb dX9_noteBounds_24 (lv_at hl 3 rfl) ?_
    refine lv_bipush (v := (48 : Int32)) hx hb dX9_noteBounds_26 (by decide) ?_
    refine lv_icmp_ge (tgt := 178) hx hb dX9_noteBounds_28 (by decide) (fun hc => ?_) (fun hc => ?_)
    · replace hf := hf.1 hc
      clear hc
      exact X_US_noteBounds_178_w C  v u _ _ _ hf hw (lv_sub hl [] rfl)
    · replace hf := hf.2 hc
      clear hc
      refine lv_aload_n hx hb dX9_noteBounds_31 rfl (lv_at hl 0 rfl) ?_
      refine xg_600 C hw (C.2.2.2.2.1 _ hwF_X9_11) dX9_noteBounds_32 ?_
      refine lv_iload hx hb dX9_noteBounds_35 (lv_at hl 3 rfl) ?_
      refine lv_bipush (v := (15 : Int32)) hx hb dX9_noteBounds_37 (by decide) ?_
      refine ys_600 C hw hf.1 dX9_noteBounds_39 (fun u_1 e9 H locs hw => ?_)
      replace hf := hf.2 u_1 e9
      clear e9
      refine lv_aload_n hx hb dX9_noteBounds_40 rfl (lv_at hl 0 rfl) ?_
      refine xg_601 C hw (C.2.2.2.2.1 _ hwF_X9_15) dX9_noteBounds_41 ?_
      refine lv_iload hx hb dX9_noteBounds_44 (lv_at hl 3 rfl) ?_
      refine lv_bipush (v := (-15 : Int32)) hx hb dX9_noteBounds_46 (by decide) ?_
      refine ys_601 C hw hf.1 dX9_noteBounds_48 (fun u_2 e9 H locs hw => ?_)
      replace hf := hf.2 u_2 e9
      clear e9
      refine lv_aload_n hx hb dX9_noteBounds_49 rfl (lv_at hl 0 rfl) ?_
      refine xg_607 C hw (C.2.2.2.2.1 _ hwF_X9_35) dX9_noteBounds_50 ?_
      refine lv_iconst (v := (0 : Int32)) hx hb dX9_noteBounds_53 (by decide) ?_
      refine th_callSv (As := [.ref (v 607), .int (0 : Int32)]) (rest := []) C lkJX9_84 (X_J_fill_53178_607_c hf) hw rfl rfl ⟨Nat.le_of_ble_eq_true rfl, Nat.le_of_ble_eq_true rfl⟩ hl.1 (Nat.le_of_ble_eq_true rfl) ⟨Nat.le_of_ble_eq_true rfl, Nat.le_of_ble_eq_true rfl⟩ dX9_noteBounds_54 (fun u_3 H locs hf hw => ?_)
      refine lv_iconst (v := (0 : Int32)) hx hb dX9_noteBounds_57 (by decide) ?_
      refine lv_istore (lv' := [(5, .int (0 : Int32)), (0, .ref (q 699)), (1, .ref (q 199)), (3, .int x3), (4, .int x4)]) hx hb dX9_noteBounds_58 hl (by decide) rfl (fun ls hl => ?_)
      obtain ⟨n, hf⟩ := hf
      exact X_US_noteBounds_60_lw C hk19 n x3 x4 (0 : Int32) v u_3 _ _ _ hf hw (lv_sub hl [1, 2, 3, 4, 0] rfl)
def X_US_noteBounds_19_lp (K : xs_St → Prop) : Nat → Int32 → Int32 → xs_St → Prop
  | 0, _, _, _ => False
  | n + 1, x3, x4, u => X_US_noteBounds_19 K (X_US_noteBounds_19_lp K n) x3 x4 u
set_option maxHeartbeats 4000000 in
set_option maxRecDepth 100000 in
theorem X_US_noteBounds_19_lw {K : xs_St → Prop} (C : th_Cx p s m args meth c cX9_noteBounds RX9 6 (none) (dC, dI) (th_ty cs) (xE ad ak) A) (n : Nat) : ∀ (x3 : Int32) (x4 : Int32) (v : Nat → Nat) (u : xs_St) (H : Heap) (locs : List Loc) (ls : Array Slot), X_US_noteBounds_19_lp K n x3 x4 u → th_wI (dC, dI) (wX cs ad q v v) A s.heap u H locs → lv_has ls 6 [(0, .ref (q 699)), (1, .ref (q 199)), (3, .int x3), (4, .int x4)] → W p l e (th_rm 3 0 0) s m args below meth c H locs 0 0 (MQ below (va_Qv (fun a9 => K a9.2) (th_Post (dC, dI) (wXs cs ad q) A) A) args s 0 0 A) (F0 m 19 ls []) := by
  induction n with
  | zero => intro x3 x4 v u H locs ls hf; exact hf.elim
  | succ n ih =>
    intro x3 x4 v u H locs ls hf hw hl
    exact X_US_noteBounds_19_w C ih x3 x4 v u H locs ls hf hw hl
def X_US_noteBounds (a2 : Int32) (a3 : Int32) (u : xs_St) (K : xs_St → Prop) : Prop :=
  ∀ u_1 : xs_St, u_1 = xs_si u 602 a2 → X_J_fill_53178_608 (32768 : Int32) u_1 (fun u_2 => ∀ y_4 : Int32, y_4 = (a2 - (1 : Int32)) → ∃ n, X_US_noteBounds_19_lp K n a3 y_4 u_2)
set_option maxHeartbeats 4000000 in
set_option maxRecDepth 100000 in
theorem X_US_noteBounds_c {l : Launch} {dC : Nat → ClassId} {dI : Nat → Nat → Nat} {cs : Nat → ClassId} {ad ak : Nat → Nat} {q v : Nat → Nat} {a2 : Int32} {a3 : Int32} {u : xs_St} {K : xs_St → Prop} (hf : X_US_noteBounds a2 a3 u K) : th_Cv l yX9_noteBounds cX9_noteBounds 6 (none) 3 0 0 (dC, dI) (th_ty cs) (xE ad ak) (wXs cs ad q) [.ref (q 699), .ref (q 199), .int a2, .int a3] (v, u) (fun a9 => K a9.2) := by
  refine th_ofv (by decide) (Nat.le_of_ble_eq_true rfl) (xE_ok ad ak) ?_
  intro p e s m below meth c A ls C hw hl
  have C : th_Cx p s m _ meth c cX9_noteBounds RX9 6 (none) (dC, dI) (th_ty cs) (xE ad ak) A := C
  have hl : lv_has ls 6 [(0, .ref (q 699)), (1, .ref (q 199)), (2, .int a2), (3, .int a3)] := hl
  generalize (List.toArray _ : Array Value) = args at C ⊢
  have hx := C.1
  have hb := C.2.1
  unfold X_US_noteBounds at hf
  refine lv_aload_n hx hb dX9_noteBounds_0 rfl (lv_at hl 0 rfl) ?_
  refine lv_iload_n hx hb dX9_noteBounds_1 rfl (lv_at hl 2 rfl) ?_
  refine xp_602 C hw (C.2.2.2.2.1 _ hwF_X9_18) dX9_noteBounds_2 (fun u_1 e9 H locs hw => ?_)
  replace hf := hf u_1 e9
  clear e9
  refine lv_aload_n hx hb dX9_noteBounds_5 rfl (lv_at hl 0 rfl) ?_
  refine xg_608 C hw (C.2.2.2.2.1 _ hwF_X9_38) dX9_noteBounds_6 ?_
  refine lv_ldc hx hb C.2.2.2.1 (C.2.2.2.2.1 _ hwK_X9_83) dX9_noteBounds_9 ?_
  refine th_callSv (As := [.ref (v 608), .int (32768 : Int32)]) (rest := []) C lkJX9_84 (X_J_fill_53178_608_c hf) hw rfl rfl ⟨Nat.le_of_ble_eq_true rfl, Nat.le_of_ble_eq_true rfl⟩ hl.1 (Nat.le_of_ble_eq_true rfl) ⟨Nat.le_of_ble_eq_true rfl, Nat.le_of_ble_eq_true rfl⟩ dX9_noteBounds_11 (fun u_2 H locs hf hw => ?_)
  refine lv_iload_n hx hb dX9_noteBounds_14 rfl (lv_at hl 2 rfl) ?_
  refine lv_iconst (v := (1 : Int32)) hx hb dX9_noteBounds_15 (by decide) ?_
  refine lv_isub hx hb dX9_noteBounds_16 ?_
  refine lv_topi (fun y_4 e9 => ?_)
  replace hf := hf y_4 e9
  clear e9
  refine lv_istore (lv' := [(4, .int y_4), (0, .ref (q 699)), (1, .ref (q 199)), (2, .int a2), (3, .int a3)]) hx hb dX9_noteBounds_17 hl (by decide) rfl (fun ls hl => ?_)
  obtain ⟨n, hf⟩ := hf
  exact X_US_noteBounds_19_lw C n a3 y_4 v u_2 _ _ _ hf hw (lv_sub hl [1, 2, 4, 0] rfl)
/-! X_WK_loudest -/
theorem dX10_loudest_0 : decode cX10_loudest 0 = .ok (.iload_n 2, 1) := by decide +kernel
theorem dX10_loudest_1 : decode cX10_loudest 1 = .ok (.iconst 1, 1) := by decide +kernel
theorem dX10_loudest_2 : decode cX10_loudest 2 = .ok (.if_icmp .lt 22, 3) := by decide +kernel
theorem dX10_loudest_5 : decode cX10_loudest 5 = .ok (.iload_n 2, 1) := by decide +kernel
theorem dX10_loudest_6 : decode cX10_loudest 6 = .ok (.bipush 40, 2) := by decide +kernel
theorem dX10_loudest_8 : decode cX10_loudest 8 = .ok (.if_icmp .gt 16, 3) := by decide +kernel
theorem dX10_loudest_11 : decode cX10_loudest 11 = .ok (.iload 4, 2) := by decide +kernel
theorem dX10_loudest_13 : decode cX10_loudest 13 = .ok (.iconst 1, 1) := by decide +kernel
theorem dX10_loudest_14 : decode cX10_loudest 14 = .ok (.if_icmp .lt 10, 3) := by decide +kernel
theorem dX10_loudest_17 : decode cX10_loudest 17 = .ok (.iload 4, 2) := by decide +kernel
theorem dX10_loudest_19 : decode cX10_loudest 19 = .ok (.bipush 48, 2) := by decide +kernel
theorem dX10_loudest_21 : decode cX10_loudest 21 = .ok (.if_icmp .le 5, 3) := by decide +kernel
theorem dX10_loudest_24 : decode cX10_loudest 24 = .ok (.iconst (-1), 1) := by decide +kernel
theorem dX10_loudest_25 : decode cX10_loudest 25 = .ok (.ireturn, 1) := by decide +kernel
theorem dX10_loudest_26 : decode cX10_loudest 26 = .ok (.aload_n 0, 1) := by decide +kernel
theorem dX10_loudest_27 : decode cX10_loudest 27 = .ok (.getfield 26, 3) := by decide +kernel
theorem dX10_loudest_30 : decode cX10_loudest 30 = .ok (.iconst 0, 1) := by decide +kernel
theorem dX10_loudest_31 : decode cX10_loudest 31 = .ok (.invokestatic 29, 3) := by decide +kernel
theorem dX10_loudest_34 : decode cX10_loudest 34 = .ok (.aload_n 1, 1) := by decide +kernel
theorem dX10_loudest_35 : decode cX10_loudest 35 = .ok (.astore 5, 2) := by decide +kernel
theorem dX10_loudest_37 : decode cX10_loudest 37 = .ok (.iload_n 2, 1) := by decide +kernel
theorem dX10_loudest_38 : decode cX10_loudest 38 = .ok (.iconst 1, 1) := by decide +kernel
theorem dX10_loudest_39 : decode cX10_loudest 39 = .ok (.isub, 1) := by decide +kernel
theorem dX10_loudest_40 : decode cX10_loudest 40 = .ok (.istore 6, 2) := by decide +kernel
theorem dX10_loudest_42 : decode cX10_loudest 42 = .ok (.iload 6, 2) := by decide +kernel
theorem dX10_loudest_44 : decode cX10_loudest 44 = .ok (.ifCond .lt 32, 3) := by decide +kernel
theorem dX10_loudest_47 : decode cX10_loudest 47 = .ok (.aload 5, 2) := by decide +kernel
theorem dX10_loudest_49 : decode cX10_loudest 49 = .ok (.ifnull 27, 3) := by decide +kernel
theorem dX10_loudest_52 : decode cX10_loudest 52 = .ok (.aload_n 0, 1) := by decide +kernel
theorem dX10_loudest_53 : decode cX10_loudest 53 = .ok (.aload 5, 2) := by decide +kernel
theorem dX10_loudest_55 : decode cX10_loudest 55 = .ok (.iload 6, 2) := by decide +kernel
theorem dX10_loudest_57 : decode cX10_loudest 57 = .ok (.iload_n 3, 1) := by decide +kernel
theorem dX10_loudest_58 : decode cX10_loudest 58 = .ok (.iload 4, 2) := by decide +kernel
theorem dX10_loudest_60 : decode cX10_loudest 60 = .ok (.invokevirtual 35, 3) := by decide +kernel
theorem dX10_loudest_63 : decode cX10_loudest 63 = .ok (.aload 5, 2) := by decide +kernel
theorem dX10_loudest_65 : decode cX10_loudest 65 = .ok (.getfield 39, 3) := by decide +kernel
theorem dX10_loudest_68 : decode cX10_loudest 68 = .ok (.astore 5, 2) := by decide +kernel
theorem dX10_loudest_70 : decode cX10_loudest 70 = .ok (.iinc 6 (-1), 3) := by decide +kernel
theorem dX10_loudest_73 : decode cX10_loudest 73 = .ok (.goto (-31), 3) := by decide +kernel
theorem dX10_loudest_76 : decode cX10_loudest 76 = .ok (.aload_n 0, 1) := by decide +kernel
theorem dX10_loudest_77 : decode cX10_loudest 77 = .ok (.iload_n 2, 1) := by decide +kernel
theorem dX10_loudest_78 : decode cX10_loudest 78 = .ok (.putfield 15, 3) := by decide +kernel
theorem dX10_loudest_81 : decode cX10_loudest 81 = .ok (.aload_n 0, 1) := by decide +kernel
theorem dX10_loudest_82 : decode cX10_loudest 82 = .ok (.getfield 9, 3) := by decide +kernel
theorem dX10_loudest_85 : decode cX10_loudest 85 = .ok (.iconst 0, 1) := by decide +kernel
theorem dX10_loudest_86 : decode cX10_loudest 86 = .ok (.aload_n 0, 1) := by decide +kernel
theorem dX10_loudest_87 : decode cX10_loudest 87 = .ok (.iconst 0, 1) := by decide +kernel
theorem dX10_loudest_88 : decode cX10_loudest 88 = .ok (.iload 4, 2) := by decide +kernel
theorem dX10_loudest_90 : decode cX10_loudest 90 = .ok (.iconst 1, 1) := by decide +kernel
theorem dX10_loudest_91 : decode cX10_loudest 91 = .ok (.isub, 1) := by decide +kernel
theorem dX10_loudest_92 : decode cX10_loudest 92 = .ok (.invokevirtual 45, 3) := by decide +kernel
theorem dX10_loudest_95 : decode cX10_loudest 95 = .ok (.iastore, 1) := by decide +kernel
theorem dX10_loudest_96 : decode cX10_loudest 96 = .ok (.iconst 1, 1) := by decide +kernel
theorem dX10_loudest_97 : decode cX10_loudest 97 = .ok (.istore 6, 2) := by decide +kernel
theorem dX10_loudest_99 : decode cX10_loudest 99 = .ok (.iload 6, 2) := by decide +kernel
theorem dX10_loudest_101 : decode cX10_loudest 101 = .ok (.iload_n 2, 1) := by decide +kernel
theorem dX10_loudest_102 : decode cX10_loudest 102 = .ok (.if_icmp .ge 38, 3) := by decide +kernel
theorem dX10_loudest_105 : decode cX10_loudest 105 = .ok (.aload_n 0, 1) := by decide +kernel
theorem dX10_loudest_106 : decode cX10_loudest 106 = .ok (.getfield 9, 3) := by decide +kernel
theorem dX10_loudest_109 : decode cX10_loudest 109 = .ok (.iload 6, 2) := by decide +kernel
theorem dX10_loudest_111 : decode cX10_loudest 111 = .ok (.aload_n 0, 1) := by decide +kernel
theorem dX10_loudest_112 : decode cX10_loudest 112 = .ok (.getfield 19, 3) := by decide +kernel
theorem dX10_loudest_115 : decode cX10_loudest 115 = .ok (.iload 6, 2) := by decide +kernel
theorem dX10_loudest_117 : decode cX10_loudest 117 = .ok (.iconst 1, 1) := by decide +kernel
theorem dX10_loudest_118 : decode cX10_loudest 118 = .ok (.isub, 1) := by decide +kernel
theorem dX10_loudest_119 : decode cX10_loudest 119 = .ok (.bipush 48, 2) := by decide +kernel
theorem dX10_loudest_121 : decode cX10_loudest 121 = .ok (.imul, 1) := by decide +kernel
theorem dX10_loudest_122 : decode cX10_loudest 122 = .ok (.aload_n 0, 1) := by decide +kernel
theorem dX10_loudest_123 : decode cX10_loudest 123 = .ok (.getfield 9, 3) := by decide +kernel
theorem dX10_loudest_126 : decode cX10_loudest 126 = .ok (.iload 6, 2) := by decide +kernel
theorem dX10_loudest_128 : decode cX10_loudest 128 = .ok (.iconst 1, 1) := by decide +kernel
theorem dX10_loudest_129 : decode cX10_loudest 129 = .ok (.isub, 1) := by decide +kernel
theorem dX10_loudest_130 : decode cX10_loudest 130 = .ok (.iaload, 1) := by decide +kernel
theorem dX10_loudest_131 : decode cX10_loudest 131 = .ok (.iadd, 1) := by decide +kernel
theorem dX10_loudest_132 : decode cX10_loudest 132 = .ok (.baload, 1) := by decide +kernel
theorem dX10_loudest_133 : decode cX10_loudest 133 = .ok (.iastore, 1) := by decide +kernel
theorem dX10_loudest_134 : decode cX10_loudest 134 = .ok (.iinc 6 1, 3) := by decide +kernel
theorem dX10_loudest_137 : decode cX10_loudest 137 = .ok (.goto (-38), 3) := by decide +kernel
theorem dX10_loudest_140 : decode cX10_loudest 140 = .ok (.aload_n 0, 1) := by decide +kernel
theorem dX10_loudest_141 : decode cX10_loudest 141 = .ok (.getfield 26, 3) := by decide +kernel
theorem dX10_loudest_144 : decode cX10_loudest 144 = .ok (.aload_n 0, 1) := by decide +kernel
theorem dX10_loudest_145 : decode cX10_loudest 145 = .ok (.getfield 9, 3) := by decide +kernel
theorem dX10_loudest_148 : decode cX10_loudest 148 = .ok (.iconst 0, 1) := by decide +kernel
theorem dX10_loudest_149 : decode cX10_loudest 149 = .ok (.iaload, 1) := by decide +kernel
theorem dX10_loudest_150 : decode cX10_loudest 150 = .ok (.iaload, 1) := by decide +kernel
theorem dX10_loudest_151 : decode cX10_loudest 151 = .ok (.ireturn, 1) := by decide +kernel
def X_WK_loudest_24 (K : Int32 → xs_St → Prop) (u : xs_St) : Prop :=
  K (-1 : Int32) u
set_option maxHeartbeats 4000000 in
set_option maxRecDepth 100000 in
theorem X_WK_loudest_24_w {K : Int32 → xs_St → Prop} (C : th_Cx p s m args meth c cX10_loudest RX10 7 (some .int) (dC, dI) (th_ty cs) (xE ad ak) A) (v : Nat → Nat) (u : xs_St) (H : Heap) (locs : List Loc) (ls : Array Slot) (hf : X_WK_loudest_24 K u) (hw : th_wI (dC, dI) (wX cs ad q v v) A s.heap u H locs) (hl : lv_has ls 7 []) : W p l e (th_rm 3 0 0) s m args below meth c H locs 0 0 (MQ below (va_Qi (fun r9 a9 => K r9 a9.2) (th_Post (dC, dI) (wXs cs ad q) A) A) args s 0 0 A) (F0 m 24 ls []) := by
  have hx := C.1
  have hb := C.2.1
  unfold X_WK_loudest_24 at hf
  refine lv_iconst (v := (-1 : Int32)) hx hb dX10_loudest_24 (by decide) ?_
  exact th_iret (K := (fun r9 a9 => K r9 a9.2)) (w := wXs cs ad q) (u := (v, u)) C hw hf dX10_loudest_25
def X_WK_loudest_99 (K : Int32 → xs_St → Prop) (k99 : Int32 → Int32 → xs_St → Prop) (x2 : Int32) (x6 : Int32) (u : xs_St) : Prop :=
  ((x2 ≤ x6 → (vp_in (0 : Int32) 40 ∧ ∀ y_1 : Int32, y_1 = xa u 800 ((0 : Int32)).toNatClampNeg → (vp_in y_1 48 ∧ ∀ y_2 : Int32, y_2 = xa u 804 (y_1).toNatClampNeg → K y_2 u))) ∧ (¬ x2 ≤ x6 → (vp_in (x6 - (1 : Int32)) 40 ∧ ∀ y_3 : Int32, y_3 = xa u 800 ((x6 - (1 : Int32))).toNatClampNeg → (vp_in (((x6 - (1 : Int32)) * (48 : Int32)) + y_3) 1920 ∧ ∀ y_4 : Int32, y_4 = xa u 802 ((((x6 - (1 : Int32)) * (48 : Int32)) + y_3)).toNatClampNeg → (vp_in x6 40 ∧ ∀ u_5 : xs_St, u_5 = xs_sa u 800 (upd (xa u 800) (x6).toNatClampNeg y_4) → ∀ x6_6 : Int32, x6_6 = x6 + (1 : Int32) → k99 x2 x6_6 u_5)))))
set_option maxHeartbeats 4000000 in
set_option maxRecDepth 100000 in
theorem X_WK_loudest_99_w {K : Int32 → xs_St → Prop} {k99 : Int32 → Int32 → xs_St → Prop} (C : th_Cx p s m args meth c cX10_loudest RX10 7 (some .int) (dC, dI) (th_ty cs) (xE ad ak) A) (hk99 : ∀ (x2 : Int32) (x6 : Int32) (v : Nat → Nat) (u : xs_St) (H : Heap) (locs : List Loc) (ls : Array Slot), k99 x2 x6 u → th_wI (dC, dI) (wX cs ad q v v) A s.heap u H locs → lv_has ls 7 [(0, .ref (q 899)), (2, .int x2), (6, .int x6)] → W p l e (th_rm 3 0 0) s m args below meth c H locs 0 0 (MQ below (va_Qi (fun r9 a9 => K r9 a9.2) (th_Post (dC, dI) (wXs cs ad q) A) A) args s 0 0 A) (F0 m 99 ls [])) (x2 : Int32) (x6 : Int32) (v : Nat → Nat) (u : xs_St) (H : Heap) (locs : List Loc) (ls : Array Slot) (hf : X_WK_loudest_99 K k99 x2 x6 u) (hw : th_wI (dC, dI) (wX cs ad q v v) A s.heap u H locs) (hl : lv_has ls 7 [(0, .ref (q 899)), (2, .int x2), (6, .int x6)]) : W p l e (th_rm 3 0 0) s m args below meth c H locs 0 0 (MQ below (va_Qi (fun r9 a9 => K r9 a9.2) (th_Post (dC, dI) (wXs cs ad q) A) A) args s 0 0 A) (F0 m 99 ls []) := by
  have hx := C.1
  have hb := C.2.1
  unfold X_WK_loudest_99 at hf
  refine lv_iload hx hb dX10_loudest_99 (lv_at hl 2 rfl) ?_
  refine lv_iload_n hx hb dX10_loudest_101 rfl (lv_at hl 1 rfl) ?_
  refine lv_icmp_ge (tgt := 140) hx hb dX10_loudest_102 (by decide) (fun hc => ?_) (fun hc => ?_)
  · replace hf := hf.1 hc
    clear hc
    refine lv_aload_n hx hb dX10_loudest_140 rfl (lv_at hl 0 rfl) ?_
    refine xg_804 C hw (C.2.2.2.2.1 _ hwF_X10_26) dX10_loudest_141 ?_
    refine lv_aload_n hx hb dX10_loudest_144 rfl (lv_at hl 0 rfl) ?_
    refine xg_800 C hw (C.2.2.2.2.1 _ hwF_X10_9) dX10_loudest_145 ?_
    refine lv_iconst (v := (0 : Int32)) hx hb dX10_loudest_148 (by decide) ?_
    refine yl_800 C hw hf.1 dX10_loudest_149 (fun y_1 e9 => ?_)
    replace hf := hf.2 y_1 e9
    clear e9
    refine yl_804 C hw hf.1 dX10_loudest_150 (fun y_2 e9 => ?_)
    replace hf := hf.2 y_2 e9
    clear e9
    exact th_iret (K := (fun r9 a9 => K r9 a9.2)) (w := wXs cs ad q) (u := (v, u)) C hw hf dX10_loudest_151
  · replace hf := hf.2 hc
    clear hc
    refine lv_aload_n hx hb dX10_loudest_105 rfl (lv_at hl 0 rfl) ?_
    refine xg_800 C hw (C.2.2.2.2.1 _ hwF_X10_9) dX10_loudest_106 ?_
    refine lv_iload hx hb dX10_loudest_109 (lv_at hl 2 rfl) ?_
    refine lv_aload_n hx hb dX10_loudest_111 rfl (lv_at hl 0 rfl) ?_
    refine xg_802 C hw (C.2.2.2.2.1 _ hwF_X10_19) dX10_loudest_112 ?_
    refine lv_iload hx hb dX10_loudest_115 (lv_at hl 2 rfl) ?_
    refine lv_iconst (v := (1 : Int32)) hx hb dX10_loudest_117 (by decide) ?_
    refine lv_isub hx hb dX10_loudest_118 ?_
    refine lv_bipush (v := (48 : Int32)) hx hb dX10_loudest_119 (by decide) ?_
    refine lv_imul hx hb dX10_loudest_121 ?_
    refine lv_aload_n hx hb dX10_loudest_122 rfl (lv_at hl 0 rfl) ?_
    refine xg_800 C hw (C.2.2.2.2.1 _ hwF_X10_9) dX10_loudest_123 ?_
    refine lv_iload hx hb dX10_loudest_126 (lv_at hl 2 rfl) ?_
    refine lv_iconst (v := (1 : Int32)) hx hb dX10_loudest_128 (by decide) ?_
    refine lv_isub hx hb dX10_loudest_129 ?_
    refine yl_800 C hw hf.1 dX10_loudest_130 (fun y_3 e9 => ?_)
    replace hf := hf.2 y_3 e9
    clear e9
    refine lv_iadd hx hb dX10_loudest_131 ?_
    refine yl_802 C hw hf.1 dX10_loudest_132 (fun y_4 e9 => ?_)
    replace hf := hf.2 y_4 e9
    clear e9
    refine ys_800 C hw hf.1 dX10_loudest_133 (fun u_5 e9 H locs hw => ?_)
    replace hf := hf.2 u_5 e9
    clear e9
    obtain ⟨x6_6, e9⟩ : ∃ y : Int32, y = x6 + (1 : Int32) := ⟨_, rfl⟩
    replace hf := hf x6_6 e9
    refine lv_iinc (v := x6_6) (lv' := [(6, .int x6_6), (0, .ref (q 899)), (2, .int x2)]) hx hb dX10_loudest_134 hl (k := 2) rfl (by rw [e9]; rfl) (by decide) rfl (fun ls hl => ?_)
    clear e9
    refine lv_goto (tgt := 99) hx hb dX10_loudest_137 (by decide) ?_
    exact hk99 x2 x6_6 v u_5 _ _ _ hf hw (lv_sub hl [1, 2, 0] rfl)
def X_WK_loudest_99_lp (K : Int32 → xs_St → Prop) : Nat → Int32 → Int32 → xs_St → Prop
  | 0, _, _, _ => False
  | n + 1, x2, x6, u => X_WK_loudest_99 K (X_WK_loudest_99_lp K n) x2 x6 u
set_option maxHeartbeats 4000000 in
set_option maxRecDepth 100000 in
theorem X_WK_loudest_99_lw {K : Int32 → xs_St → Prop} (C : th_Cx p s m args meth c cX10_loudest RX10 7 (some .int) (dC, dI) (th_ty cs) (xE ad ak) A) (n : Nat) : ∀ (x2 : Int32) (x6 : Int32) (v : Nat → Nat) (u : xs_St) (H : Heap) (locs : List Loc) (ls : Array Slot), X_WK_loudest_99_lp K n x2 x6 u → th_wI (dC, dI) (wX cs ad q v v) A s.heap u H locs → lv_has ls 7 [(0, .ref (q 899)), (2, .int x2), (6, .int x6)] → W p l e (th_rm 3 0 0) s m args below meth c H locs 0 0 (MQ below (va_Qi (fun r9 a9 => K r9 a9.2) (th_Post (dC, dI) (wXs cs ad q) A) A) args s 0 0 A) (F0 m 99 ls []) := by
  induction n with
  | zero => intro x2 x6 v u H locs ls hf; exact hf.elim
  | succ n ih =>
    intro x2 x6 v u H locs ls hf hw hl
    exact X_WK_loudest_99_w C ih x2 x6 v u H locs ls hf hw hl
def X_WK_loudest_76 (K : Int32 → xs_St → Prop) (x2 : Int32) (x4 : Int32) (u : xs_St) : Prop :=
  ∀ u_1 : xs_St, u_1 = xs_si u 801 x2 → X_WK_firstLoudest (0 : Int32) (x4 - (1 : Int32)) u_1 (fun r_3 u_2 => (vp_in (0 : Int32) 40 ∧ ∀ u_4 : xs_St, u_4 = xs_sa u_2 800 (upd (xa u_2 800) ((0 : Int32)).toNatClampNeg r_3) → ∃ n, X_WK_loudest_99_lp K n x2 (1 : Int32) u_4))
set_option maxHeartbeats 4000000 in
set_option maxRecDepth 100000 in
theorem X_WK_loudest_76_w {K : Int32 → xs_St → Prop} (C : th_Cx p s m args meth c cX10_loudest RX10 7 (some .int) (dC, dI) (th_ty cs) (xE ad ak) A) (x2 : Int32) (x4 : Int32) (v : Nat → Nat) (u : xs_St) (H : Heap) (locs : List Loc) (ls : Array Slot) (hf : X_WK_loudest_76 K x2 x4 u) (hw : th_wI (dC, dI) (wX cs ad q v v) A s.heap u H locs) (hl : lv_has ls 7 [(0, .ref (q 899)), (2, .int x2), (4, .int x4)]) : W p l e (th_rm 3 0 0) s m args below meth c H locs 0 0 (MQ below (va_Qi (fun r9 a9 => K r9 a9.2) (th_Post (dC, dI) (wXs cs ad q) A) A) args s 0 0 A) (F0 m 76 ls []) := by
  have hx := C.1
  have hb := C.2.1
  unfold X_WK_loudest_76 at hf
  refine lv_aload_n hx hb dX10_loudest_76 rfl (lv_at hl 0 rfl) ?_
  refine lv_iload_n hx hb dX10_loudest_77 rfl (lv_at hl 1 rfl) ?_
  refine xp_801 C hw (C.2.2.2.2.1 _ hwF_X10_15) dX10_loudest_78 (fun u_1 e9 H locs hw => ?_)
  replace hf := hf u_1 e9
  clear e9
  refine lv_aload_n hx hb dX10_loudest_81 rfl (lv_at hl 0 rfl) ?_
  refine xg_800 C hw (C.2.2.2.2.1 _ hwF_X10_9) dX10_loudest_82 ?_
  refine lv_iconst (v := (0 : Int32)) hx hb dX10_loudest_85 (by decide) ?_
  refine lv_aload_n hx hb dX10_loudest_86 rfl (lv_at hl 0 rfl) ?_
  refine lv_iconst (v := (0 : Int32)) hx hb dX10_loudest_87 (by decide) ?_
  refine lv_iload hx hb dX10_loudest_88 (lv_at hl 2 rfl) ?_
  refine lv_iconst (v := (1 : Int32)) hx hb dX10_loudest_90 (by decide) ?_
  refine lv_isub hx hb dX10_loudest_91 ?_
  refine th_callVi (As := [.int (0 : Int32), .int (x4 - (1 : Int32))]) (rest := [.int (0 : Int32), .ref (q 800)]) C lkX10_45 (X_WK_firstLoudest_c hf) hw (xRc_WK C hw) rfl rfl ⟨Nat.le_of_ble_eq_true rfl, Nat.le_of_ble_eq_true rfl⟩ hl.1 (Nat.le_of_ble_eq_true rfl) ⟨Nat.le_of_ble_eq_true rfl, Nat.le_of_ble_eq_true rfl⟩ dX10_loudest_92 (fun r_3 u_2 H locs hf hw => ?_)
  refine ys_800 C hw hf.1 dX10_loudest_95 (fun u_4 e9 H locs hw => ?_)
  replace hf := hf.2 u_4 e9
  clear e9
  refine lv_iconst (v := (1 : Int32)) hx hb dX10_loudest_96 (by decide) ?_
  refine lv_istore (lv' := [(6, .int (1 : Int32)), (0, .ref (q 899)), (2, .int x2), (4, .int x4)]) hx hb dX10_loudest_97 hl (by decide) rfl (fun ls hl => ?_)
  obtain ⟨n, hf⟩ := hf
  exact X_WK_loudest_99_lw C n x2 (1 : Int32) v u_4 _ _ _ hf hw (lv_sub hl [1, 2, 0] rfl)
def X_WK_loudest_42 (K : Int32 → xs_St → Prop) (k42 : Int32 → Int32 → Int32 → Option Nat → Int32 → xs_St → Prop) (x2 : Int32) (x3 : Int32) (x4 : Int32) (x5 : Option Nat) (x6 : Int32) (u : xs_St) : Prop :=
  ((x6 < 0 → X_WK_loudest_76 K x2 x4 u) ∧ (¬ x6 < 0 → ((x5 = none → X_WK_loudest_76 K x2 x4 u) ∧ (¬ x5 = none → X_WK_goBack x5 x6 x3 x4 u (fun u_1 => (∃ b_4 : Nat, x5 = some b_4 ∧ xd_is u_1 b_4 3 ∧ ∀ x6_5 : Int32, x6_5 = x6 + (-1 : Int32) → k42 x2 x3 x4 (xdR u_1 2 b_4) x6_5 u_1))))))
set_option maxHeartbeats 4000000 in
set_option maxRecDepth 100000 in
theorem X_WK_loudest_42_w {K : Int32 → xs_St → Prop} {k42 : Int32 → Int32 → Int32 → Option Nat → Int32 → xs_St → Prop} (C : th_Cx p s m args meth c cX10_loudest RX10 7 (some .int) (dC, dI) (th_ty cs) (xE ad ak) A) (hk42 : ∀ (x2 : Int32) (x3 : Int32) (x4 : Int32) (x5 : Option Nat) (x6 : Int32) (v : Nat → Nat) (u : xs_St) (H : Heap) (locs : List Loc) (ls : Array Slot), k42 x2 x3 x4 x5 x6 u → th_wI (dC, dI) (wX cs ad q v v) A s.heap u H locs → lv_has ls 7 [(0, .ref (q 899)), (2, .int x2), (3, .int x3), (4, .int x4), (5, va_rf x5), (6, .int x6)] → W p l e (th_rm 3 0 0) s m args below meth c H locs 0 0 (MQ below (va_Qi (fun r9 a9 => K r9 a9.2) (th_Post (dC, dI) (wXs cs ad q) A) A) args s 0 0 A) (F0 m 42 ls [])) (x2 : Int32) (x3 : Int32) (x4 : Int32) (x5 : Option Nat) (x6 : Int32) (v : Nat → Nat) (u : xs_St) (H : Heap) (locs : List Loc) (ls : Array Slot) (hf : X_WK_loudest_42 K k42 x2 x3 x4 x5 x6 u) (hw : th_wI (dC, dI) (wX cs ad q v v) A s.heap u H locs) (hl : lv_has ls 7 [(0, .ref (q 899)), (2, .int x2), (3, .int x3), (4, .int x4), (5, va_rf x5), (6, .int x6)]) : W p l e (th_rm 3 0 0) s m args below meth c H locs 0 0 (MQ below (va_Qi (fun r9 a9 => K r9 a9.2) (th_Post (dC, dI) (wXs cs ad q) A) A) args s 0 0 A) (F0 m 42 ls []) := by
  have hx := C.1
  have hb := C.2.1
  unfold X_WK_loudest_42 at hf
  refine lv_iload hx hb dX10_loudest_42 (lv_at hl 5 rfl) ?_
  refine lv_if_lt (tgt := 76) hx hb dX10_loudest_44 (by decide) (fun hc => ?_) (fun hc => ?_)
  · replace hf := hf.1 hc
    clear hc
    exact X_WK_loudest_76_w C x2 x4 v u _ _ _ hf hw (lv_sub hl [0, 1, 3] rfl)
  · replace hf := hf.2 hc
    clear hc
    refine th_aload hx hb dX10_loudest_47 (lv_at hl 4 rfl) ?_
    refine th_ifnull (tgt := 76) hx hb dX10_loudest_49 (by decide) (fun hc => ?_) (fun hc => ?_)
    · replace hf := hf.1 hc
      clear hc
      exact X_WK_loudest_76_w C x2 x4 v u _ _ _ hf hw (lv_sub hl [0, 1, 3] rfl)
    · replace hf := hf.2 hc
      clear hc
      refine lv_aload_n hx hb dX10_loudest_52 rfl (lv_at hl 0 rfl) ?_
      refine th_aload hx hb dX10_loudest_53 (lv_at hl 4 rfl) ?_
      refine lv_iload hx hb dX10_loudest_55 (lv_at hl 5 rfl) ?_
      refine lv_iload_n hx hb dX10_loudest_57 rfl (lv_at hl 2 rfl) ?_
      refine lv_iload hx hb dX10_loudest_58 (lv_at hl 3 rfl) ?_
      refine th_callVv (As := [va_rf x5, .int x6, .int x3, .int x4]) (rest := []) (w := wXs cs ad q) (u := (v, u)) C lkX10_35 (X_WK_goBack_c hf) (show th_wI (dC, dI) (wXs cs ad q) A s.heap (v, u) _ _ from hw) (xRc_WK C hw) rfl rfl ⟨Nat.le_of_ble_eq_true rfl, Nat.le_of_ble_eq_true rfl⟩ hl.1 (Nat.le_of_ble_eq_true rfl) ⟨Nat.le_of_ble_eq_true rfl, Nat.le_of_ble_eq_true rfl⟩ dX10_loudest_60 (fun a9 H locs hf hw => ?_)
      obtain ⟨v_3, u_1⟩ := a9
      have hw : th_wI (dC, dI) (wX cs ad q v_3 v_3) A s.heap u_1 _ _ := hw
      refine th_aload hx hb dX10_loudest_63 (lv_at hl 4 rfl) ?_
      obtain ⟨b_4, e9, hm, hf⟩ := hf
      refine W.eq (g2 := F0 m 65 ls [.ref b_4]) (congrArg (fun z9 => F0 m 65 ls [va_rf z9]) e9) ?_
      clear e9
      refine xdgn_Feel_ahead C hw hm (va_Nw.use rfl (xN C hwG_X10_39)) dX10_loudest_65 ?_
      refine th_astore (r := (xdR u_1 2 b_4)) (lv' := [(5, va_rf (xdR u_1 2 b_4)), (0, .ref (q 899)), (2, .int x2), (3, .int x3), (4, .int x4), (6, .int x6)]) hx hb dX10_loudest_68 hl (by decide) rfl (fun ls hl => ?_)
      obtain ⟨x6_5, e9⟩ : ∃ y : Int32, y = x6 + (-1 : Int32) := ⟨_, rfl⟩
      replace hf := hf x6_5 e9
      refine lv_iinc (v := x6_5) (lv' := [(6, .int x6_5), (5, va_rf (xdR u_1 2 b_4)), (0, .ref (q 899)), (2, .int x2), (3, .int x3), (4, .int x4)]) hx hb dX10_loudest_70 hl (k := 5) rfl (by rw [e9]; rfl) (by decide) (by simp [List.filter, th_cat, th_cate]) (fun ls hl => ?_)
      clear e9
      refine lv_goto (tgt := 42) hx hb dX10_loudest_73 (by decide) ?_
      exact hk42 x2 x3 x4 (xdR u_1 2 b_4) x6_5 v_3 u_1 _ _ _ hf hw (lv_sub hl [2, 3, 4, 5, 1, 0] rfl)
def X_WK_loudest_42_lp (K : Int32 → xs_St → Prop) : Nat → Int32 → Int32 → Int32 → Option Nat → Int32 → xs_St → Prop
  | 0, _, _, _, _, _, _ => False
  | n + 1, x2, x3, x4, x5, x6, u => X_WK_loudest_42 K (X_WK_loudest_42_lp K n) x2 x3 x4 x5 x6 u
set_option maxHeartbeats 4000000 in
set_option maxRecDepth 100000 in
theorem X_WK_loudest_42_lw {K : Int32 → xs_St → Prop} (C : th_Cx p s m args meth c cX10_loudest RX10 7 (some .int) (dC, dI) (th_ty cs) (xE ad ak) A) (n : Nat) : ∀ (x2 : Int32) (x3 : Int32) (x4 : Int32) (x5 : Option Nat) (x6 : Int32) (v : Nat → Nat) (u : xs_St) (H : Heap) (locs : List Loc) (ls : Array Slot), X_WK_loudest_42_lp K n x2 x3 x4 x5 x6 u → th_wI (dC, dI) (wX cs ad q v v) A s.heap u H locs → lv_has ls 7 [(0, .ref (q 899)), (2, .int x2), (3, .int x3), (4, .int x4), (5, va_rf x5), (6, .int x6)] → W p l e (th_rm 3 0 0) s m args below meth c H locs 0 0 (MQ below (va_Qi (fun r9 a9 => K r9 a9.2) (th_Post (dC, dI) (wXs cs ad q) A) A) args s 0 0 A) (F0 m 42 ls []) := by
  induction n with
  | zero => intro x2 x3 x4 x5 x6 v u H locs ls hf; exact hf.elim
  | succ n ih =>
    intro x2 x3 x4 x5 x6 v u H locs ls hf hw hl
    exact X_WK_loudest_42_w C ih x2 x3 x4 x5 x6 v u H locs ls hf hw hl
def X_WK_loudest (a1 : Option Nat) (a2 : Int32) (a3 : Int32) (a4 : Int32) (u : xs_St) (K : Int32 → xs_St → Prop) : Prop :=
  ((a2 < (1 : Int32) → X_WK_loudest_24 K u) ∧ (¬ a2 < (1 : Int32) → (((40 : Int32) < a2 → X_WK_loudest_24 K u) ∧ (¬ (40 : Int32) < a2 → ((a4 < (1 : Int32) → X_WK_loudest_24 K u) ∧ (¬ a4 < (1 : Int32) → ((a4 ≤ (48 : Int32) → X_J_fill_53178_804 (0 : Int32) u (fun u_1 => ∀ y_3 : Int32, y_3 = (a2 - (1 : Int32)) → ∃ n, X_WK_loudest_42_lp K n a2 a3 a4 a1 y_3 u_1)) ∧ (¬ a4 ≤ (48 : Int32) → X_WK_loudest_24 K u))))))))
set_option maxHeartbeats 4000000 in
set_option maxRecDepth 100000 in
theorem X_WK_loudest_c {l : Launch} {dC : Nat → ClassId} {dI : Nat → Nat → Nat} {cs : Nat → ClassId} {ad ak : Nat → Nat} {q v : Nat → Nat} {a1 : Option Nat} {a2 : Int32} {a3 : Int32} {a4 : Int32} {u : xs_St} {K : Int32 → xs_St → Prop} (hf : X_WK_loudest a1 a2 a3 a4 u K) : th_Ci l yX10_loudest cX10_loudest 7 (some .int) 3 0 0 (dC, dI) (th_ty cs) (xE ad ak) (wXs cs ad q) [.ref (q 899), va_rf a1, .int a2, .int a3, .int a4] (v, u) (fun r9 a9 => K r9 a9.2) := by
  refine th_ofi (by decide) (by cases a1 <;> exact Nat.le_of_ble_eq_true rfl) (xE_ok ad ak) ?_
  intro p e s m below meth c A ls C hw hl
  have C : th_Cx p s m _ meth c cX10_loudest RX10 7 (some .int) (dC, dI) (th_ty cs) (xE ad ak) A := C
  have hl : lv_has ls 7 [(0, .ref (q 899)), (1, va_rf a1), (2, .int a2), (3, .int a3), (4, .int a4)] := by cases a1 <;> exact hl
  generalize (List.toArray _ : Array Value) = args at C ⊢
  have hx := C.1
  have hb := C.2.1
  unfold X_WK_loudest at hf
  refine lv_iload_n hx hb dX10_loudest_0 rfl (lv_at hl 2 rfl) ?_
  refine lv_iconst (v := (1 : Int32)) hx hb dX10_loudest_1 (by decide) ?_
  refine lv_icmp_lt (tgt := 24) hx hb dX10_loudest_2 (by decide) (fun hc => ?_) (fun hc => ?_)
  · replace hf := hf.1 hc
    clear hc
    exact X_WK_loudest_24_w C  v u _ _ _ hf hw (lv_sub hl [] rfl)
  · replace hf := hf.2 hc
    clear hc
    refine lv_iload_n hx hb dX10_loudest_5 rfl (lv_at hl 2 rfl) ?_
    refine lv_bipush (v := (40 : Int32)) hx hb dX10_loudest_6 (by decide) ?_
    refine lv_icmp_gt (tgt := 24) hx hb dX10_loudest_8 (by decide) (fun hc => ?_) (fun hc => ?_)
    · replace hf := hf.1 hc
      clear hc
      exact X_WK_loudest_24_w C  v u _ _ _ hf hw (lv_sub hl [] rfl)
    · replace hf := hf.2 hc
      clear hc
      refine lv_iload hx hb dX10_loudest_11 (lv_at hl 4 rfl) ?_
      refine lv_iconst (v := (1 : Int32)) hx hb dX10_loudest_13 (by decide) ?_
      refine lv_icmp_lt (tgt := 24) hx hb dX10_loudest_14 (by decide) (fun hc => ?_) (fun hc => ?_)
      · replace hf := hf.1 hc
        clear hc
        exact X_WK_loudest_24_w C  v u _ _ _ hf hw (lv_sub hl [] rfl)
      · replace hf := hf.2 hc
        clear hc
        refine lv_iload hx hb dX10_loudest_17 (lv_at hl 4 rfl) ?_
        refine lv_bipush (v := (48 : Int32)) hx hb dX10_loudest_19 (by decide) ?_
        refine lv_icmp_le (tgt := 26) hx hb dX10_loudest_21 (by decide) (fun hc => ?_) (fun hc => ?_)
        · replace hf := hf.1 hc
          clear hc
          refine lv_aload_n hx hb dX10_loudest_26 rfl (lv_at hl 0 rfl) ?_
          refine xg_804 C hw (C.2.2.2.2.1 _ hwF_X10_26) dX10_loudest_27 ?_
          refine lv_iconst (v := (0 : Int32)) hx hb dX10_loudest_30 (by decide) ?_
          refine th_callSv (As := [.ref (v 804), .int (0 : Int32)]) (rest := []) C lkJX10_29 (X_J_fill_53178_804_c hf) hw rfl rfl ⟨Nat.le_of_ble_eq_true rfl, Nat.le_of_ble_eq_true rfl⟩ hl.1 (Nat.le_of_ble_eq_true rfl) ⟨Nat.le_of_ble_eq_true rfl, Nat.le_of_ble_eq_true rfl⟩ dX10_loudest_31 (fun u_1 H locs hf hw => ?_)
          refine th_aload_n hx hb dX10_loudest_34 rfl (lv_at hl 1 rfl) ?_
          refine th_astore (r := a1) (lv' := [(5, va_rf a1), (0, .ref (q 899)), (1, va_rf a1), (2, .int a2), (3, .int a3), (4, .int a4)]) hx hb dX10_loudest_35 hl (by decide) rfl (fun ls hl => ?_)
          refine lv_iload_n hx hb dX10_loudest_37 rfl (lv_at hl 3 rfl) ?_
          refine lv_iconst (v := (1 : Int32)) hx hb dX10_loudest_38 (by decide) ?_
          refine lv_isub hx hb dX10_loudest_39 ?_
          refine lv_topi (fun y_3 e9 => ?_)
          replace hf := hf y_3 e9
          clear e9
          refine lv_istore (i := 6) (lv' := [(6, .int y_3), (5, va_rf a1), (0, .ref (q 899)), (1, va_rf a1), (2, .int a2), (3, .int a3), (4, .int a4)]) hx hb dX10_loudest_40 hl (by decide) (by simp [List.filter, th_cat, th_cate]) (fun ls hl => ?_)
          obtain ⟨n, hf⟩ := hf
          exact X_WK_loudest_42_lw C n a2 a3 a4 a1 y_3 v u_1 _ _ _ hf hw (lv_sub hl [2, 4, 5, 6, 1, 0] rfl)
        · replace hf := hf.2 hc
          clear hc
          exact X_WK_loudest_24_w C  v u _ _ _ hf hw (lv_sub hl [] rfl)
/-! X_BD_feelOf -/
theorem dX0_feelOf_0 : decode cX0_feelOf 0 = .ok (.iload_n 2, 1) := by decide +kernel
theorem dX0_feelOf_1 : decode cX0_feelOf 1 = .ok (.ifCond .lt 12, 3) := by decide +kernel
theorem dX0_feelOf_4 : decode cX0_feelOf 4 = .ok (.iload_n 2, 1) := by decide +kernel
theorem dX0_feelOf_5 : decode cX0_feelOf 5 = .ok (.aload_n 0, 1) := by decide +kernel
theorem dX0_feelOf_6 : decode cX0_feelOf 6 = .ok (.iload_n 3, 1) := by decide +kernel
theorem dX0_feelOf_7 : decode cX0_feelOf 7 = .ok (.invokevirtual 65, 3) := by decide +kernel
theorem dX0_feelOf_10 : decode cX0_feelOf 10 = .ok (.if_icmp .lt 5, 3) := by decide +kernel
theorem dX0_feelOf_13 : decode cX0_feelOf 13 = .ok (.aconst_null, 1) := by decide +kernel
theorem dX0_feelOf_14 : decode cX0_feelOf 14 = .ok (.areturn, 1) := by decide +kernel
theorem dX0_feelOf_15 : decode cX0_feelOf 15 = .ok (.aload_n 0, 1) := by decide +kernel
theorem dX0_feelOf_16 : decode cX0_feelOf 16 = .ok (.getfield 28, 3) := by decide +kernel
theorem dX0_feelOf_19 : decode cX0_feelOf 19 = .ok (.astore 4, 2) := by decide +kernel
theorem dX0_feelOf_21 : decode cX0_feelOf 21 = .ok (.iconst 0, 1) := by decide +kernel
theorem dX0_feelOf_22 : decode cX0_feelOf 22 = .ok (.istore 5, 2) := by decide +kernel
theorem dX0_feelOf_24 : decode cX0_feelOf 24 = .ok (.iload 5, 2) := by decide +kernel
theorem dX0_feelOf_26 : decode cX0_feelOf 26 = .ok (.iload_n 2, 1) := by decide +kernel
theorem dX0_feelOf_27 : decode cX0_feelOf 27 = .ok (.if_icmp .gt 32, 3) := by decide +kernel
theorem dX0_feelOf_30 : decode cX0_feelOf 30 = .ok (.iload 5, 2) := by decide +kernel
theorem dX0_feelOf_32 : decode cX0_feelOf 32 = .ok (.bipush 40, 2) := by decide +kernel
theorem dX0_feelOf_34 : decode cX0_feelOf 34 = .ok (.if_icmp .ge 25, 3) := by decide +kernel
theorem dX0_feelOf_37 : decode cX0_feelOf 37 = .ok (.aload_n 0, 1) := by decide +kernel
theorem dX0_feelOf_38 : decode cX0_feelOf 38 = .ok (.aload_n 1, 1) := by decide +kernel
theorem dX0_feelOf_39 : decode cX0_feelOf 39 = .ok (.aload 4, 2) := by decide +kernel
theorem dX0_feelOf_41 : decode cX0_feelOf 41 = .ok (.aload_n 0, 1) := by decide +kernel
theorem dX0_feelOf_42 : decode cX0_feelOf 42 = .ok (.getfield 17, 3) := by decide +kernel
theorem dX0_feelOf_45 : decode cX0_feelOf 45 = .ok (.iload 5, 2) := by decide +kernel
theorem dX0_feelOf_47 : decode cX0_feelOf 47 = .ok (.aaload, 1) := by decide +kernel
theorem dX0_feelOf_48 : decode cX0_feelOf 48 = .ok (.invokevirtual 69, 3) := by decide +kernel
theorem dX0_feelOf_51 : decode cX0_feelOf 51 = .ok (.astore 4, 2) := by decide +kernel
theorem dX0_feelOf_53 : decode cX0_feelOf 53 = .ok (.iinc 5 1, 3) := by decide +kernel
theorem dX0_feelOf_56 : decode cX0_feelOf 56 = .ok (.goto (-32), 3) := by decide +kernel
theorem dX0_feelOf_59 : decode cX0_feelOf 59 = .ok (.aload 4, 2) := by decide +kernel
theorem dX0_feelOf_61 : decode cX0_feelOf 61 = .ok (.areturn, 1) := by decide +kernel
def X_BD_feelOf_13 (K : Option Nat → xs_St → Prop) (u : xs_St) : Prop :=
  K none u
set_option maxHeartbeats 4000000 in
set_option maxRecDepth 100000 in
theorem X_BD_feelOf_13_w {K : Option Nat → xs_St → Prop} (C : th_Cx p s m args meth c cX0_feelOf RX0 6 (some (.object "ThreadHouse$Feel")) (dC, dI) (th_ty cs) (xE ad ak) A) (u : xs_St) (H : Heap) (locs : List Loc) (ls : Array Slot) (hf : X_BD_feelOf_13 K u) (hw : th_wI (dC, dI) (wX cs ad q v v) A s.heap u H locs) (hl : lv_has ls 6 []) (n9 m9 : Nat) (h9 : n9 + 0 ≤ 82) (g9 : m9 + 0 ≤ 2296) : W p l e (th_rm 4 82 2296) s m args below meth c H locs n9 m9 (MQ below (va_Qq K (th_Post (dC, dI) (wX cs ad q v v) A) A) args s 82 2296 A) (F0 m 13 ls []) := by
  have hx := C.1
  have hb := C.2.1
  unfold X_BD_feelOf_13 at hf
  refine lv_null hx hb dX0_feelOf_13 ?_
  refine W.widen (k := 82) (n := 2296) (by omega) (by omega) ?_
  exact th_qret (r := none) (Or.inl ⟨_, rfl⟩) C hw hf dX0_feelOf_14
def X_BD_feelOf_59 (K : Option Nat → xs_St → Prop) (x4 : Option Nat) (u : xs_St) : Prop :=
  K x4 u
set_option maxHeartbeats 4000000 in
set_option maxRecDepth 100000 in
theorem X_BD_feelOf_59_w {K : Option Nat → xs_St → Prop} (C : th_Cx p s m args meth c cX0_feelOf RX0 6 (some (.object "ThreadHouse$Feel")) (dC, dI) (th_ty cs) (xE ad ak) A) (x4 : Option Nat) (u : xs_St) (H : Heap) (locs : List Loc) (ls : Array Slot) (hf : X_BD_feelOf_59 K x4 u) (hw : th_wI (dC, dI) (wX cs ad q v v) A s.heap u H locs) (hl : lv_has ls 6 [(4, va_rf x4)]) (n9 m9 : Nat) (h9 : n9 + 0 ≤ 82) (g9 : m9 + 0 ≤ 2296) : W p l e (th_rm 4 82 2296) s m args below meth c H locs n9 m9 (MQ below (va_Qq K (th_Post (dC, dI) (wX cs ad q v v) A) A) args s 82 2296 A) (F0 m 59 ls []) := by
  have hx := C.1
  have hb := C.2.1
  unfold X_BD_feelOf_59 at hf
  refine th_aload hx hb dX0_feelOf_59 (lv_at hl 0 rfl) ?_
  refine W.widen (k := 82) (n := 2296) (by omega) (by omega) ?_
  exact th_qret (r := x4) (Or.inl ⟨_, rfl⟩) C hw hf dX0_feelOf_61
def X_BD_feelOf_24 (K : Option Nat → xs_St → Prop) (k24 : Int32 → Option Nat → Int32 → xs_St → Prop) (x2 : Int32) (x4 : Option Nat) (x5 : Int32) (u : xs_St) : Prop :=
  ((x2 < x5 → X_BD_feelOf_59 K x4 u) ∧ (¬ x2 < x5 → (((40 : Int32) ≤ x5 → X_BD_feelOf_59 K x4 u) ∧ (¬ (40 : Int32) ≤ x5 → (vp_in x5 40 ∧ ∀ y_1 : Option Nat, y_1 = xo u 501 (x5).toNatClampNeg → X_BD_feelBehind x4 y_1 u (fun r_3 u_2 => ∀ x5_4 : Int32, x5_4 = x5 + (1 : Int32) → k24 x2 r_3 x5_4 u_2))))))
set_option maxHeartbeats 4000000 in
set_option maxRecDepth 100000 in
theorem X_BD_feelOf_24_w {n : Nat} {K : Option Nat → xs_St → Prop} {k24 : Int32 → Option Nat → Int32 → xs_St → Prop} (C : th_Cx p s m args meth c cX0_feelOf RX0 6 (some (.object "ThreadHouse$Feel")) (dC, dI) (th_ty cs) (xE ad ak) A) (hk24 : ∀ (x2 : Int32) (x4 : Option Nat) (x5 : Int32) (u : xs_St) (H : Heap) (locs : List Loc) (ls : Array Slot), k24 x2 x4 x5 u → th_wI (dC, dI) (wX cs ad q v v) A s.heap u H locs → lv_has ls 6 [(0, .ref (q 599)), (1, .ref (v 399)), (2, .int x2), (4, va_rf x4), (5, .int x5)] → ∀ (n9 m9 : Nat), n9 + (2 * n + 0) ≤ 82 → m9 + (56 * n + 0) ≤ 2296 → W p l e (th_rm 4 82 2296) s m args below meth c H locs n9 m9 (MQ below (va_Qq K (th_Post (dC, dI) (wX cs ad q v v) A) A) args s 82 2296 A) (F0 m 24 ls [])) (x2 : Int32) (x4 : Option Nat) (x5 : Int32) (u : xs_St) (H : Heap) (locs : List Loc) (ls : Array Slot) (hf : X_BD_feelOf_24 K k24 x2 x4 x5 u) (hw : th_wI (dC, dI) (wX cs ad q v v) A s.heap u H locs) (hl : lv_has ls 6 [(0, .ref (q 599)), (1, .ref (v 399)), (2, .int x2), (4, va_rf x4), (5, .int x5)]) (n9 m9 : Nat) (h9 : n9 + (2 * (n + 1) + 0) ≤ 82) (g9 : m9 + (56 * (n + 1) + 0) ≤ 2296) : W p l e (th_rm 4 82 2296) s m args below meth c H locs n9 m9 (MQ below (va_Qq K (th_Post (dC, dI) (wX cs ad q v v) A) A) args s 82 2296 A) (F0 m 24 ls []) := by
  have hx := C.1
  have hb := C.2.1
  unfold X_BD_feelOf_24 at hf
  refine lv_iload hx hb dX0_feelOf_24 (lv_at hl 4 rfl) ?_
  refine lv_iload_n hx hb dX0_feelOf_26 rfl (lv_at hl 2 rfl) ?_
  refine lv_icmp_gt (tgt := 59) hx hb dX0_feelOf_27 (by decide) (fun hc => ?_) (fun hc => ?_)
  · replace hf := hf.1 hc
    clear hc
    exact X_BD_feelOf_59_w C x4 u _ _ _ hf hw (lv_sub hl [3] rfl) _ _ (by omega) (by omega)
  · replace hf := hf.2 hc
    clear hc
    refine lv_iload hx hb dX0_feelOf_30 (lv_at hl 4 rfl) ?_
    refine lv_bipush (v := (40 : Int32)) hx hb dX0_feelOf_32 (by decide) ?_
    refine lv_icmp_ge (tgt := 59) hx hb dX0_feelOf_34 (by decide) (fun hc => ?_) (fun hc => ?_)
    · replace hf := hf.1 hc
      clear hc
      exact X_BD_feelOf_59_w C x4 u _ _ _ hf hw (lv_sub hl [3] rfl) _ _ (by omega) (by omega)
    · replace hf := hf.2 hc
      clear hc
      refine lv_aload_n hx hb dX0_feelOf_37 rfl (lv_at hl 0 rfl) ?_
      refine lv_aload_n hx hb dX0_feelOf_38 rfl (lv_at hl 1 rfl) ?_
      refine th_aload hx hb dX0_feelOf_39 (lv_at hl 3 rfl) ?_
      refine lv_aload_n hx hb dX0_feelOf_41 rfl (lv_at hl 0 rfl) ?_
      refine xg_501 C hw (C.2.2.2.2.1 _ hwF_X0_17) dX0_feelOf_42 ?_
      refine lv_iload hx hb dX0_feelOf_45 (lv_at hl 4 rfl) ?_
      refine yl_501 C hw hf.1 dX0_feelOf_47 (fun y_1 e9 => ?_)
      replace hf := hf.2 y_1 e9
      clear e9
      refine th_callVq (As := [.ref (v 399), va_rf x4, va_rf y_1]) (rest := []) C lkX0_69 (X_BD_feelBehind_c hf) hw (xRc_BD C hw) rfl rfl ⟨Nat.le_of_ble_eq_true rfl, Nat.le_of_ble_eq_true rfl⟩ hl.1 (Nat.le_of_ble_eq_true rfl) ⟨by simp only [th_rm]; omega, by simp only [th_rm]; omega⟩ dX0_feelOf_48 (fun r_3 u_2 H locs hf hw => ?_)
      refine th_astore (r := r_3) (lv' := [(4, va_rf r_3), (0, .ref (q 599)), (1, .ref (v 399)), (2, .int x2), (5, .int x5)]) hx hb dX0_feelOf_51 hl (by decide) rfl (fun ls hl => ?_)
      obtain ⟨x5_4, e9⟩ : ∃ y : Int32, y = x5 + (1 : Int32) := ⟨_, rfl⟩
      replace hf := hf x5_4 e9
      refine lv_iinc (v := x5_4) (lv' := [(5, .int x5_4), (4, va_rf r_3), (0, .ref (q 599)), (1, .ref (v 399)), (2, .int x2)]) hx hb dX0_feelOf_53 hl (k := 4) rfl (by rw [e9]; rfl) (by decide) (by simp [List.filter, th_cat, th_cate]) (fun ls hl => ?_)
      clear e9
      refine lv_goto (tgt := 24) hx hb dX0_feelOf_56 (by decide) ?_
      exact hk24 x2 r_3 x5_4 u_2 _ _ _ hf hw (lv_sub hl [2, 3, 4, 1, 0] rfl) _ _ (by omega) (by omega)
def X_BD_feelOf_24_lp (K : Option Nat → xs_St → Prop) : Nat → Int32 → Option Nat → Int32 → xs_St → Prop
  | 0, _, _, _, _ => False
  | n + 1, x2, x4, x5, u => X_BD_feelOf_24 K (X_BD_feelOf_24_lp K n) x2 x4 x5 u
set_option maxHeartbeats 4000000 in
set_option maxRecDepth 100000 in
theorem X_BD_feelOf_24_lw {K : Option Nat → xs_St → Prop} (C : th_Cx p s m args meth c cX0_feelOf RX0 6 (some (.object "ThreadHouse$Feel")) (dC, dI) (th_ty cs) (xE ad ak) A) (n : Nat) : ∀ (x2 : Int32) (x4 : Option Nat) (x5 : Int32) (u : xs_St) (H : Heap) (locs : List Loc) (ls : Array Slot), X_BD_feelOf_24_lp K n x2 x4 x5 u → th_wI (dC, dI) (wX cs ad q v v) A s.heap u H locs → lv_has ls 6 [(0, .ref (q 599)), (1, .ref (v 399)), (2, .int x2), (4, va_rf x4), (5, .int x5)] → ∀ (n9 m9 : Nat), n9 + (2 * n + 0) ≤ 82 → m9 + (56 * n + 0) ≤ 2296 → W p l e (th_rm 4 82 2296) s m args below meth c H locs n9 m9 (MQ below (va_Qq K (th_Post (dC, dI) (wX cs ad q v v) A) A) args s 82 2296 A) (F0 m 24 ls []) := by
  induction n with
  | zero => intro x2 x4 x5 u H locs ls hf; exact hf.elim
  | succ n ih =>
    intro x2 x4 x5 u H locs ls hf hw hl n9 m9 h9 g9
    exact X_BD_feelOf_24_w C ih x2 x4 x5 u H locs ls hf hw hl n9 m9 h9 g9
def X_BD_feelOf (a2 : Int32) (a3 : Int32) (u : xs_St) (K : Option Nat → xs_St → Prop) : Prop :=
  ((a2 < 0 → X_BD_feelOf_13 K u) ∧ (¬ a2 < 0 → X_BD_lookBack a3 u (fun r_2 u_1 => ((a2 < r_2 → ∃ n, n ≤ 41 ∧ X_BD_feelOf_24_lp K n a2 (xr u_1 502) (0 : Int32) u_1) ∧ (¬ a2 < r_2 → X_BD_feelOf_13 K u_1)))))
set_option maxHeartbeats 4000000 in
set_option maxRecDepth 100000 in
theorem X_BD_feelOf_c {l : Launch} {dC : Nat → ClassId} {dI : Nat → Nat → Nat} {cs : Nat → ClassId} {ad ak : Nat → Nat} {q v : Nat → Nat} {a2 : Int32} {a3 : Int32} {u : xs_St} {K : Option Nat → xs_St → Prop} (hf : X_BD_feelOf a2 a3 u K) : th_Cq l yX0_feelOf cX0_feelOf 6 (some (.object "ThreadHouse$Feel")) 4 82 2296 (dC, dI) (th_ty cs) (xE ad ak) (wX cs ad q v v) [.ref (q 599), .ref (v 399), .int a2, .int a3] u K := by
  refine th_ofq (by decide) (Nat.le_of_ble_eq_true rfl) (xE_ok ad ak) ?_
  intro p e s m below meth c A ls C hw hl
  have C : th_Cx p s m _ meth c cX0_feelOf RX0 6 (some (.object "ThreadHouse$Feel")) (dC, dI) (th_ty cs) (xE ad ak) A := C
  have hl : lv_has ls 6 [(0, .ref (q 599)), (1, .ref (v 399)), (2, .int a2), (3, .int a3)] := hl
  generalize (List.toArray _ : Array Value) = args at C ⊢
  have hx := C.1
  have hb := C.2.1
  unfold X_BD_feelOf at hf
  refine lv_iload_n hx hb dX0_feelOf_0 rfl (lv_at hl 2 rfl) ?_
  refine lv_if_lt (tgt := 13) hx hb dX0_feelOf_1 (by decide) (fun hc => ?_) (fun hc => ?_)
  · replace hf := hf.1 hc
    clear hc
    exact X_BD_feelOf_13_w C  u _ _ _ hf hw (lv_sub hl [] rfl) _ _ (by omega) (by omega)
  · replace hf := hf.2 hc
    clear hc
    refine lv_iload_n hx hb dX0_feelOf_4 rfl (lv_at hl 2 rfl) ?_
    refine lv_aload_n hx hb dX0_feelOf_5 rfl (lv_at hl 0 rfl) ?_
    refine lv_iload_n hx hb dX0_feelOf_6 rfl (lv_at hl 3 rfl) ?_
    refine th_callVi (As := [.int a3]) (rest := [.int a2]) C lkX0_65 (X_BD_lookBack_c hf) hw (xRc_BD C hw) rfl rfl ⟨Nat.le_of_ble_eq_true rfl, Nat.le_of_ble_eq_true rfl⟩ hl.1 (Nat.le_of_ble_eq_true rfl) ⟨by simp only [th_rm]; omega, by simp only [th_rm]; omega⟩ dX0_feelOf_7 (fun r_2 u_1 H locs hf hw => ?_)
    refine lv_icmp_lt (tgt := 15) hx hb dX0_feelOf_10 (by decide) (fun hc => ?_) (fun hc => ?_)
    · replace hf := hf.1 hc
      clear hc
      refine lv_aload_n hx hb dX0_feelOf_15 rfl (lv_at hl 0 rfl) ?_
      refine xg_502 C hw (C.2.2.2.2.1 _ hwF_X0_28) dX0_feelOf_16 ?_
      refine th_astore (r := (xr u_1 502)) (lv' := [(4, va_rf (xr u_1 502)), (0, .ref (q 599)), (1, .ref (v 399)), (2, .int a2), (3, .int a3)]) hx hb dX0_feelOf_19 hl (by decide) rfl (fun ls hl => ?_)
      refine lv_iconst (v := (0 : Int32)) hx hb dX0_feelOf_21 (by decide) ?_
      refine lv_istore (i := 5) (lv' := [(5, .int (0 : Int32)), (4, va_rf (xr u_1 502)), (0, .ref (q 599)), (1, .ref (v 399)), (2, .int a2), (3, .int a3)]) hx hb dX0_feelOf_22 hl (by decide) (by simp [List.filter, th_cat, th_cate]) (fun ls hl => ?_)
      obtain ⟨n, hn41, hf⟩ := hf
      exact X_BD_feelOf_24_lw C n a2 (xr u_1 502) (0 : Int32) u_1 _ _ _ hf hw (lv_sub hl [2, 3, 4, 1, 0] rfl) _ _ (by omega) (by omega)
    · replace hf := hf.2 hc
      clear hc
      exact X_BD_feelOf_13_w C  u_1 _ _ _ hf hw (lv_sub hl [] rfl) _ _ (by omega) (by omega)
/-! X_EX_fewestEvents -/
theorem dX1_fewestEvents_0 : decode cX1_fewestEvents 0 = .ok (.iload_n 2, 1) := by decide +kernel
theorem dX1_fewestEvents_1 : decode cX1_fewestEvents 1 = .ok (.ifCond .lt 9, 3) := by decide +kernel
theorem dX1_fewestEvents_4 : decode cX1_fewestEvents 4 = .ok (.iload_n 2, 1) := by decide +kernel
theorem dX1_fewestEvents_5 : decode cX1_fewestEvents 5 = .ok (.bipush 48, 2) := by decide +kernel
theorem dX1_fewestEvents_7 : decode cX1_fewestEvents 7 = .ok (.if_icmp .le 6, 3) := by decide +kernel
theorem dX1_fewestEvents_10 : decode cX1_fewestEvents 10 = .ok (.bipush (-2), 2) := by decide +kernel
theorem dX1_fewestEvents_12 : decode cX1_fewestEvents 12 = .ok (.ireturn, 1) := by decide +kernel
theorem dX1_fewestEvents_13 : decode cX1_fewestEvents 13 = .ok (.aload_n 0, 1) := by decide +kernel
theorem dX1_fewestEvents_14 : decode cX1_fewestEvents 14 = .ok (.getfield 18, 3) := by decide +kernel
theorem dX1_fewestEvents_17 : decode cX1_fewestEvents 17 = .ok (.iload_n 2, 1) := by decide +kernel
theorem dX1_fewestEvents_18 : decode cX1_fewestEvents 18 = .ok (.iconst 0, 1) := by decide +kernel
theorem dX1_fewestEvents_19 : decode cX1_fewestEvents 19 = .ok (.iastore, 1) := by decide +kernel
theorem dX1_fewestEvents_20 : decode cX1_fewestEvents 20 = .ok (.iload_n 2, 1) := by decide +kernel
theorem dX1_fewestEvents_21 : decode cX1_fewestEvents 21 = .ok (.iconst 1, 1) := by decide +kernel
theorem dX1_fewestEvents_22 : decode cX1_fewestEvents 22 = .ok (.isub, 1) := by decide +kernel
theorem dX1_fewestEvents_23 : decode cX1_fewestEvents 23 = .ok (.istore 4, 2) := by decide +kernel
theorem dX1_fewestEvents_25 : decode cX1_fewestEvents 25 = .ok (.iload 4, 2) := by decide +kernel
theorem dX1_fewestEvents_27 : decode cX1_fewestEvents 27 = .ok (.ifCond .lt 18, 3) := by decide +kernel
theorem dX1_fewestEvents_30 : decode cX1_fewestEvents 30 = .ok (.aload_n 0, 1) := by decide +kernel
theorem dX1_fewestEvents_31 : decode cX1_fewestEvents 31 = .ok (.iload 4, 2) := by decide +kernel
theorem dX1_fewestEvents_33 : decode cX1_fewestEvents 33 = .ok (.aload_n 1, 1) := by decide +kernel
theorem dX1_fewestEvents_34 : decode cX1_fewestEvents 34 = .ok (.iload_n 2, 1) := by decide +kernel
theorem dX1_fewestEvents_35 : decode cX1_fewestEvents 35 = .ok (.iload_n 3, 1) := by decide +kernel
theorem dX1_fewestEvents_36 : decode cX1_fewestEvents 36 = .ok (.invokevirtual 53, 3) := by decide +kernel
theorem dX1_fewestEvents_39 : decode cX1_fewestEvents 39 = .ok (.iinc 4 (-1), 3) := by decide +kernel
theorem dX1_fewestEvents_42 : decode cX1_fewestEvents 42 = .ok (.goto (-17), 3) := by decide +kernel
theorem dX1_fewestEvents_45 : decode cX1_fewestEvents 45 = .ok (.aload_n 0, 1) := by decide +kernel
theorem dX1_fewestEvents_46 : decode cX1_fewestEvents 46 = .ok (.getfield 18, 3) := by decide +kernel
theorem dX1_fewestEvents_49 : decode cX1_fewestEvents 49 = .ok (.iconst 0, 1) := by decide +kernel
theorem dX1_fewestEvents_50 : decode cX1_fewestEvents 50 = .ok (.iaload, 1) := by decide +kernel
theorem dX1_fewestEvents_51 : decode cX1_fewestEvents 51 = .ok (.sipush 1000, 3) := by decide +kernel
theorem dX1_fewestEvents_54 : decode cX1_fewestEvents 54 = .ok (.if_icmp .lt 6, 3) := by decide +kernel
theorem dX1_fewestEvents_57 : decode cX1_fewestEvents 57 = .ok (.bipush (-2), 2) := by decide +kernel
theorem dX1_fewestEvents_59 : decode cX1_fewestEvents 59 = .ok (.ireturn, 1) := by decide +kernel
theorem dX1_fewestEvents_60 : decode cX1_fewestEvents 60 = .ok (.aload_n 0, 1) := by decide +kernel
theorem dX1_fewestEvents_61 : decode cX1_fewestEvents 61 = .ok (.iload_n 2, 1) := by decide +kernel
theorem dX1_fewestEvents_62 : decode cX1_fewestEvents 62 = .ok (.invokevirtual 57, 3) := by decide +kernel
theorem dX1_fewestEvents_65 : decode cX1_fewestEvents 65 = .ok (.aload_n 0, 1) := by decide +kernel
theorem dX1_fewestEvents_66 : decode cX1_fewestEvents 66 = .ok (.getfield 36, 3) := by decide +kernel
theorem dX1_fewestEvents_69 : decode cX1_fewestEvents 69 = .ok (.ireturn, 1) := by decide +kernel
def X_EX_fewestEvents_10 (K : Int32 → xs_St → Prop) (u : xs_St) : Prop :=
  K (-2 : Int32) u
set_option maxHeartbeats 4000000 in
set_option maxRecDepth 100000 in
theorem X_EX_fewestEvents_10_w {K : Int32 → xs_St → Prop} (C : th_Cx p s m args meth c cX1_fewestEvents RX1 5 (some .int) (dC, dI) (th_ty cs) (xE ad ak) A) (u : xs_St) (H : Heap) (locs : List Loc) (ls : Array Slot) (hf : X_EX_fewestEvents_10 K u) (hw : th_wI (dC, dI) (wX cs ad q v v) A s.heap u H locs) (hl : lv_has ls 5 []) : W p l e (th_rm 4 0 0) s m args below meth c H locs 0 0 (MQ below (va_Qi K (th_Post (dC, dI) (wX cs ad q v v) A) A) args s 0 0 A) (F0 m 10 ls []) := by
  have hx := C.1
  have hb := C.2.1
  unfold X_EX_fewestEvents_10 at hf
  refine lv_bipush (v := (-2 : Int32)) hx hb dX1_fewestEvents_10 (by decide) ?_
  exact th_iret C hw hf dX1_fewestEvents_12
def X_EX_fewestEvents_25 (K : Int32 → xs_St → Prop) (k25 : Int32 → Int32 → Int32 → xs_St → Prop) (x2 : Int32) (x3 : Int32) (x4 : Int32) (u : xs_St) : Prop :=
  ((x4 < 0 → (vp_in (0 : Int32) 49 ∧ ∀ y_1 : Int32, y_1 = xa u 702 ((0 : Int32)).toNatClampNeg → ((y_1 < (1000 : Int32) → X_EX_noteEvents x2 u (fun u_2 => K (xi u_2 708) u_2)) ∧ (¬ y_1 < (1000 : Int32) → K (-2 : Int32) u)))) ∧ (¬ x4 < 0 → X_EX_chooseAt x4 x2 x3 u (fun u_4 => ∀ x4_6 : Int32, x4_6 = x4 + (-1 : Int32) → k25 x2 x3 x4_6 u_4)))
set_option maxHeartbeats 4000000 in
set_option maxRecDepth 100000 in
theorem X_EX_fewestEvents_25_w {K : Int32 → xs_St → Prop} {k25 : Int32 → Int32 → Int32 → xs_St → Prop} (C : th_Cx p s m args meth c cX1_fewestEvents RX1 5 (some .int) (dC, dI) (th_ty cs) (xE ad ak) A) (hk25 : ∀ (x2 : Int32) (x3 : Int32) (x4 : Int32) (u : xs_St) (H : Heap) (locs : List Loc) (ls : Array Slot), k25 x2 x3 x4 u → th_wI (dC, dI) (wX cs ad q v v) A s.heap u H locs → lv_has ls 5 [(0, .ref (q 799)), (1, .ref (q 199)), (2, .int x2), (3, .int x3), (4, .int x4)] → W p l e (th_rm 4 0 0) s m args below meth c H locs 0 0 (MQ below (va_Qi K (th_Post (dC, dI) (wX cs ad q v v) A) A) args s 0 0 A) (F0 m 25 ls [])) (x2 : Int32) (x3 : Int32) (x4 : Int32) (u : xs_St) (H : Heap) (locs : List Loc) (ls : Array Slot) (hf : X_EX_fewestEvents_25 K k25 x2 x3 x4 u) (hw : th_wI (dC, dI) (wX cs ad q v v) A s.heap u H locs) (hl : lv_has ls 5 [(0, .ref (q 799)), (1, .ref (q 199)), (2, .int x2), (3, .int x3), (4, .int x4)]) : W p l e (th_rm 4 0 0) s m args below meth c H locs 0 0 (MQ below (va_Qi K (th_Post (dC, dI) (wX cs ad q v v) A) A) args s 0 0 A) (F0 m 25 ls []) := by
  have hx := C.1
  have hb := C.2.1
  unfold X_EX_fewestEvents_25 at hf
  refine lv_iload hx hb dX1_fewestEvents_25 (lv_at hl 4 rfl) ?_
  refine lv_if_lt (tgt := 45) hx hb dX1_fewestEvents_27 (by decide) (fun hc => ?_) (fun hc => ?_)
  · replace hf := hf.1 hc
    clear hc
    refine lv_aload_n hx hb dX1_fewestEvents_45 rfl (lv_at hl 0 rfl) ?_
    refine xg_702 C hw (C.2.2.2.2.1 _ hwF_X1_18) dX1_fewestEvents_46 ?_
    refine lv_iconst (v := (0 : Int32)) hx hb dX1_fewestEvents_49 (by decide) ?_
    refine yl_702 C hw hf.1 dX1_fewestEvents_50 (fun y_1 e9 => ?_)
    replace hf := hf.2 y_1 e9
    clear e9
    refine lv_sipush (v := (1000 : Int32)) hx hb dX1_fewestEvents_51 (by decide) ?_
    refine lv_icmp_lt (tgt := 60) hx hb dX1_fewestEvents_54 (by decide) (fun hc => ?_) (fun hc => ?_)
    · replace hf := hf.1 hc
      clear hc
      refine lv_aload_n hx hb dX1_fewestEvents_60 rfl (lv_at hl 0 rfl) ?_
      refine lv_iload_n hx hb dX1_fewestEvents_61 rfl (lv_at hl 2 rfl) ?_
      refine th_callVv (As := [.int x2]) (rest := []) C lkX1_57 (X_EX_noteEvents_c hf) hw (xRc_EX C hw) rfl rfl ⟨Nat.le_of_ble_eq_true rfl, Nat.le_of_ble_eq_true rfl⟩ hl.1 (Nat.le_of_ble_eq_true rfl) ⟨Nat.le_of_ble_eq_true rfl, Nat.le_of_ble_eq_true rfl⟩ dX1_fewestEvents_62 (fun u_2 H locs hf hw => ?_)
      refine lv_aload_n hx hb dX1_fewestEvents_65 rfl (lv_at hl 0 rfl) ?_
      refine xg_708 C hw (C.2.2.2.2.1 _ hwF_X1_36) dX1_fewestEvents_66 ?_
      exact th_iret C hw hf dX1_fewestEvents_69
    · replace hf := hf.2 hc
      clear hc
      refine lv_bipush (v := (-2 : Int32)) hx hb dX1_fewestEvents_57 (by decide) ?_
      exact th_iret C hw hf dX1_fewestEvents_59
  · replace hf := hf.2 hc
    clear hc
    refine lv_aload_n hx hb dX1_fewestEvents_30 rfl (lv_at hl 0 rfl) ?_
    refine lv_iload hx hb dX1_fewestEvents_31 (lv_at hl 4 rfl) ?_
    refine lv_aload_n hx hb dX1_fewestEvents_33 rfl (lv_at hl 1 rfl) ?_
    refine lv_iload_n hx hb dX1_fewestEvents_34 rfl (lv_at hl 2 rfl) ?_
    refine lv_iload_n hx hb dX1_fewestEvents_35 rfl (lv_at hl 3 rfl) ?_
    refine th_callVv (As := [.int x4, .ref (q 199), .int x2, .int x3]) (rest := []) C lkX1_53 (X_EX_chooseAt_c hf) hw (xRc_EX C hw) rfl rfl ⟨Nat.le_of_ble_eq_true rfl, Nat.le_of_ble_eq_true rfl⟩ hl.1 (Nat.le_of_ble_eq_true rfl) ⟨Nat.le_of_ble_eq_true rfl, Nat.le_of_ble_eq_true rfl⟩ dX1_fewestEvents_36 (fun u_4 H locs hf hw => ?_)
    obtain ⟨x4_6, e9⟩ : ∃ y : Int32, y = x4 + (-1 : Int32) := ⟨_, rfl⟩
    replace hf := hf x4_6 e9
    refine lv_iinc (v := x4_6) (lv' := [(4, .int x4_6), (0, .ref (q 799)), (1, .ref (q 199)), (2, .int x2), (3, .int x3)]) hx hb dX1_fewestEvents_39 hl (k := 4) rfl (by rw [e9]; rfl) (by decide) rfl (fun ls hl => ?_)
    clear e9
    refine lv_goto (tgt := 25) hx hb dX1_fewestEvents_42 (by decide) ?_
    exact hk25 x2 x3 x4_6 u_4 _ _ _ hf hw (lv_sub hl [1, 2, 3, 4, 0] rfl)
def X_EX_fewestEvents_25_lp (K : Int32 → xs_St → Prop) : Nat → Int32 → Int32 → Int32 → xs_St → Prop
  | 0, _, _, _, _ => False
  | n + 1, x2, x3, x4, u => X_EX_fewestEvents_25 K (X_EX_fewestEvents_25_lp K n) x2 x3 x4 u
set_option maxHeartbeats 4000000 in
set_option maxRecDepth 100000 in
theorem X_EX_fewestEvents_25_lw {K : Int32 → xs_St → Prop} (C : th_Cx p s m args meth c cX1_fewestEvents RX1 5 (some .int) (dC, dI) (th_ty cs) (xE ad ak) A) (n : Nat) : ∀ (x2 : Int32) (x3 : Int32) (x4 : Int32) (u : xs_St) (H : Heap) (locs : List Loc) (ls : Array Slot), X_EX_fewestEvents_25_lp K n x2 x3 x4 u → th_wI (dC, dI) (wX cs ad q v v) A s.heap u H locs → lv_has ls 5 [(0, .ref (q 799)), (1, .ref (q 199)), (2, .int x2), (3, .int x3), (4, .int x4)] → W p l e (th_rm 4 0 0) s m args below meth c H locs 0 0 (MQ below (va_Qi K (th_Post (dC, dI) (wX cs ad q v v) A) A) args s 0 0 A) (F0 m 25 ls []) := by
  induction n with
  | zero => intro x2 x3 x4 u H locs ls hf; exact hf.elim
  | succ n ih =>
    intro x2 x3 x4 u H locs ls hf hw hl
    exact X_EX_fewestEvents_25_w C ih x2 x3 x4 u H locs ls hf hw hl
def X_EX_fewestEvents (a2 : Int32) (a3 : Int32) (u : xs_St) (K : Int32 → xs_St → Prop) : Prop :=
  ((a2 < 0 → X_EX_fewestEvents_10 K u) ∧ (¬ a2 < 0 → ((a2 ≤ (48 : Int32) → (vp_in a2 49 ∧ ∀ u_1 : xs_St, u_1 = xs_sa u 702 (upd (xa u 702) (a2).toNatClampNeg (0 : Int32)) → ∀ y_2 : Int32, y_2 = (a2 - (1 : Int32)) → ∃ n, X_EX_fewestEvents_25_lp K n a2 a3 y_2 u_1)) ∧ (¬ a2 ≤ (48 : Int32) → X_EX_fewestEvents_10 K u))))
set_option maxHeartbeats 4000000 in
set_option maxRecDepth 100000 in
theorem X_EX_fewestEvents_c {l : Launch} {dC : Nat → ClassId} {dI : Nat → Nat → Nat} {cs : Nat → ClassId} {ad ak : Nat → Nat} {q v : Nat → Nat} {a2 : Int32} {a3 : Int32} {u : xs_St} {K : Int32 → xs_St → Prop} (hf : X_EX_fewestEvents a2 a3 u K) : th_Ci l yX1_fewestEvents cX1_fewestEvents 5 (some .int) 4 0 0 (dC, dI) (th_ty cs) (xE ad ak) (wX cs ad q v v) [.ref (q 799), .ref (q 199), .int a2, .int a3] u K := by
  refine th_ofi (by decide) (Nat.le_of_ble_eq_true rfl) (xE_ok ad ak) ?_
  intro p e s m below meth c A ls C hw hl
  have C : th_Cx p s m _ meth c cX1_fewestEvents RX1 5 (some .int) (dC, dI) (th_ty cs) (xE ad ak) A := C
  have hl : lv_has ls 5 [(0, .ref (q 799)), (1, .ref (q 199)), (2, .int a2), (3, .int a3)] := hl
  generalize (List.toArray _ : Array Value) = args at C ⊢
  have hx := C.1
  have hb := C.2.1
  unfold X_EX_fewestEvents at hf
  refine lv_iload_n hx hb dX1_fewestEvents_0 rfl (lv_at hl 2 rfl) ?_
  refine lv_if_lt (tgt := 10) hx hb dX1_fewestEvents_1 (by decide) (fun hc => ?_) (fun hc => ?_)
  · replace hf := hf.1 hc
    clear hc
    exact X_EX_fewestEvents_10_w C  u _ _ _ hf hw (lv_sub hl [] rfl)
  · replace hf := hf.2 hc
    clear hc
    refine lv_iload_n hx hb dX1_fewestEvents_4 rfl (lv_at hl 2 rfl) ?_
    refine lv_bipush (v := (48 : Int32)) hx hb dX1_fewestEvents_5 (by decide) ?_
    refine lv_icmp_le (tgt := 13) hx hb dX1_fewestEvents_7 (by decide) (fun hc => ?_) (fun hc => ?_)
    · replace hf := hf.1 hc
      clear hc
      refine lv_aload_n hx hb dX1_fewestEvents_13 rfl (lv_at hl 0 rfl) ?_
      refine xg_702 C hw (C.2.2.2.2.1 _ hwF_X1_18) dX1_fewestEvents_14 ?_
      refine lv_iload_n hx hb dX1_fewestEvents_17 rfl (lv_at hl 2 rfl) ?_
      refine lv_iconst (v := (0 : Int32)) hx hb dX1_fewestEvents_18 (by decide) ?_
      refine ys_702 C hw hf.1 dX1_fewestEvents_19 (fun u_1 e9 H locs hw => ?_)
      replace hf := hf.2 u_1 e9
      clear e9
      refine lv_iload_n hx hb dX1_fewestEvents_20 rfl (lv_at hl 2 rfl) ?_
      refine lv_iconst (v := (1 : Int32)) hx hb dX1_fewestEvents_21 (by decide) ?_
      refine lv_isub hx hb dX1_fewestEvents_22 ?_
      refine lv_topi (fun y_2 e9 => ?_)
      replace hf := hf y_2 e9
      clear e9
      refine lv_istore (lv' := [(4, .int y_2), (0, .ref (q 799)), (1, .ref (q 199)), (2, .int a2), (3, .int a3)]) hx hb dX1_fewestEvents_23 hl (by decide) rfl (fun ls hl => ?_)
      obtain ⟨n, hf⟩ := hf
      exact X_EX_fewestEvents_25_lw C n a2 a3 y_2 u_1 _ _ _ hf hw (lv_sub hl [1, 2, 3, 4, 0] rfl)
    · replace hf := hf.2 hc
      clear hc
      exact X_EX_fewestEvents_10_w C  u _ _ _ hf hw (lv_sub hl [] rfl)
/-! X_LN_leastCost -/
theorem dX3_leastCost_0 : decode cX3_leastCost 0 = .ok (.aload_n 1, 1) := by decide +kernel
theorem dX3_leastCost_1 : decode cX3_leastCost 1 = .ok (.getfield 22, 3) := by decide +kernel
theorem dX3_leastCost_4 : decode cX3_leastCost 4 = .ok (.iload_n 2, 1) := by decide +kernel
theorem dX3_leastCost_5 : decode cX3_leastCost 5 = .ok (.isub, 1) := by decide +kernel
theorem dX3_leastCost_6 : decode cX3_leastCost 6 = .ok (.istore 4, 2) := by decide +kernel
theorem dX3_leastCost_8 : decode cX3_leastCost 8 = .ok (.aload_n 0, 1) := by decide +kernel
theorem dX3_leastCost_9 : decode cX3_leastCost 9 = .ok (.aload_n 1, 1) := by decide +kernel
theorem dX3_leastCost_10 : decode cX3_leastCost 10 = .ok (.getfield 22, 3) := by decide +kernel
theorem dX3_leastCost_13 : decode cX3_leastCost 13 = .ok (.iload_n 2, 1) := by decide +kernel
theorem dX3_leastCost_14 : decode cX3_leastCost 14 = .ok (.invokevirtual 27, 3) := by decide +kernel
theorem dX3_leastCost_17 : decode cX3_leastCost 17 = .ok (.ifCond .ne 5, 3) := by decide +kernel
theorem dX3_leastCost_20 : decode cX3_leastCost 20 = .ok (.iconst (-1), 1) := by decide +kernel
theorem dX3_leastCost_21 : decode cX3_leastCost 21 = .ok (.ireturn, 1) := by decide +kernel
theorem dX3_leastCost_22 : decode cX3_leastCost 22 = .ok (.iload_n 2, 1) := by decide +kernel
theorem dX3_leastCost_23 : decode cX3_leastCost 23 = .ok (.istore 5, 2) := by decide +kernel
theorem dX3_leastCost_25 : decode cX3_leastCost 25 = .ok (.iload 5, 2) := by decide +kernel
theorem dX3_leastCost_27 : decode cX3_leastCost 27 = .ok (.ifCond .lt 48, 3) := by decide +kernel
theorem dX3_leastCost_30 : decode cX3_leastCost 30 = .ok (.iload 4, 2) := by decide +kernel
theorem dX3_leastCost_32 : decode cX3_leastCost 32 = .ok (.istore 6, 2) := by decide +kernel
theorem dX3_leastCost_34 : decode cX3_leastCost 34 = .ok (.iload 6, 2) := by decide +kernel
theorem dX3_leastCost_36 : decode cX3_leastCost 36 = .ok (.ifCond .lt 33, 3) := by decide +kernel
theorem dX3_leastCost_39 : decode cX3_leastCost 39 = .ok (.aload_n 0, 1) := by decide +kernel
theorem dX3_leastCost_40 : decode cX3_leastCost 40 = .ok (.getfield 19, 3) := by decide +kernel
theorem dX3_leastCost_43 : decode cX3_leastCost 43 = .ok (.iload 5, 2) := by decide +kernel
theorem dX3_leastCost_45 : decode cX3_leastCost 45 = .ok (.bipush 49, 2) := by decide +kernel
theorem dX3_leastCost_47 : decode cX3_leastCost 47 = .ok (.imul, 1) := by decide +kernel
theorem dX3_leastCost_48 : decode cX3_leastCost 48 = .ok (.iload 6, 2) := by decide +kernel
theorem dX3_leastCost_50 : decode cX3_leastCost 50 = .ok (.iadd, 1) := by decide +kernel
theorem dX3_leastCost_51 : decode cX3_leastCost 51 = .ok (.aload_n 0, 1) := by decide +kernel
theorem dX3_leastCost_52 : decode cX3_leastCost 52 = .ok (.aload_n 1, 1) := by decide +kernel
theorem dX3_leastCost_53 : decode cX3_leastCost 53 = .ok (.iload_n 2, 1) := by decide +kernel
theorem dX3_leastCost_54 : decode cX3_leastCost 54 = .ok (.iload_n 3, 1) := by decide +kernel
theorem dX3_leastCost_55 : decode cX3_leastCost 55 = .ok (.iload 5, 2) := by decide +kernel
theorem dX3_leastCost_57 : decode cX3_leastCost 57 = .ok (.iload 6, 2) := by decide +kernel
theorem dX3_leastCost_59 : decode cX3_leastCost 59 = .ok (.invokevirtual 31, 3) := by decide +kernel
theorem dX3_leastCost_62 : decode cX3_leastCost 62 = .ok (.iastore, 1) := by decide +kernel
theorem dX3_leastCost_63 : decode cX3_leastCost 63 = .ok (.iinc 6 (-1), 3) := by decide +kernel
theorem dX3_leastCost_66 : decode cX3_leastCost 66 = .ok (.goto (-32), 3) := by decide +kernel
theorem dX3_leastCost_69 : decode cX3_leastCost 69 = .ok (.iinc 5 (-1), 3) := by decide +kernel
theorem dX3_leastCost_72 : decode cX3_leastCost 72 = .ok (.goto (-47), 3) := by decide +kernel
theorem dX3_leastCost_75 : decode cX3_leastCost 75 = .ok (.aload_n 0, 1) := by decide +kernel
theorem dX3_leastCost_76 : decode cX3_leastCost 76 = .ok (.aload_n 1, 1) := by decide +kernel
theorem dX3_leastCost_77 : decode cX3_leastCost 77 = .ok (.iload_n 2, 1) := by decide +kernel
theorem dX3_leastCost_78 : decode cX3_leastCost 78 = .ok (.iload_n 3, 1) := by decide +kernel
theorem dX3_leastCost_79 : decode cX3_leastCost 79 = .ok (.invokevirtual 35, 3) := by decide +kernel
theorem dX3_leastCost_82 : decode cX3_leastCost 82 = .ok (.aload_n 0, 1) := by decide +kernel
theorem dX3_leastCost_83 : decode cX3_leastCost 83 = .ok (.getfield 19, 3) := by decide +kernel
theorem dX3_leastCost_86 : decode cX3_leastCost 86 = .ok (.iconst 0, 1) := by decide +kernel
theorem dX3_leastCost_87 : decode cX3_leastCost 87 = .ok (.iaload, 1) := by decide +kernel
theorem dX3_leastCost_88 : decode cX3_leastCost 88 = .ok (.ireturn, 1) := by decide +kernel
def X_LN_leastCost_34 (K : Int32 → xs_St → Prop) (k25 : Int32 → Int32 → Int32 → Int32 → xs_St → Prop) (k34 : Int32 → Int32 → Int32 → Int32 → Int32 → xs_St → Prop) (x2 : Int32) (x3 : Int32) (x4 : Int32) (x5 : Int32) (x6 : Int32) (u : xs_St) : Prop :=
  ((x6 < 0 → ∀ x5_1 : Int32, x5_1 = x5 + (-1 : Int32) → k25 x2 x3 x4 x5_1 u) ∧ (¬ x6 < 0 → X_LN_costFrom x2 x3 x5 x6 u (fun r_3 u_2 => (vp_in ((x5 * (49 : Int32)) + x6) 2401 ∧ ∀ u_4 : xs_St, u_4 = xs_sa u_2 902 (upd (xa u_2 902) (((x5 * (49 : Int32)) + x6)).toNatClampNeg r_3) → ∀ x6_5 : Int32, x6_5 = x6 + (-1 : Int32) → k34 x2 x3 x4 x5 x6_5 u_4))))
set_option maxHeartbeats 4000000 in
set_option maxRecDepth 100000 in
theorem X_LN_leastCost_34_w {K : Int32 → xs_St → Prop} {k25 : Int32 → Int32 → Int32 → Int32 → xs_St → Prop} {k34 : Int32 → Int32 → Int32 → Int32 → Int32 → xs_St → Prop} (C : th_Cx p s m args meth c cX3_leastCost RX3 7 (some .int) (dC, dI) (th_ty cs) (xE ad ak) A) (hk25 : ∀ (x2 : Int32) (x3 : Int32) (x4 : Int32) (x5 : Int32) (u : xs_St) (H : Heap) (locs : List Loc) (ls : Array Slot), k25 x2 x3 x4 x5 u → th_wI (dC, dI) (wX cs ad q v v) A s.heap u H locs → lv_has ls 7 [(0, .ref (q 999)), (1, .ref (q 199)), (2, .int x2), (3, .int x3), (4, .int x4), (5, .int x5)] → W p l e (th_rm 4 0 0) s m args below meth c H locs 0 0 (MQ below (va_Qi K (th_Post (dC, dI) (wX cs ad q v v) A) A) args s 0 0 A) (F0 m 25 ls [])) (hk34 : ∀ (x2 : Int32) (x3 : Int32) (x4 : Int32) (x5 : Int32) (x6 : Int32) (u : xs_St) (H : Heap) (locs : List Loc) (ls : Array Slot), k34 x2 x3 x4 x5 x6 u → th_wI (dC, dI) (wX cs ad q v v) A s.heap u H locs → lv_has ls 7 [(0, .ref (q 999)), (1, .ref (q 199)), (2, .int x2), (3, .int x3), (4, .int x4), (5, .int x5), (6, .int x6)] → W p l e (th_rm 4 0 0) s m args below meth c H locs 0 0 (MQ below (va_Qi K (th_Post (dC, dI) (wX cs ad q v v) A) A) args s 0 0 A) (F0 m 34 ls [])) (x2 : Int32) (x3 : Int32) (x4 : Int32) (x5 : Int32) (x6 : Int32) (u : xs_St) (H : Heap) (locs : List Loc) (ls : Array Slot) (hf : X_LN_leastCost_34 K k25 k34 x2 x3 x4 x5 x6 u) (hw : th_wI (dC, dI) (wX cs ad q v v) A s.heap u H locs) (hl : lv_has ls 7 [(0, .ref (q 999)), (1, .ref (q 199)), (2, .int x2), (3, .int x3), (4, .int x4), (5, .int x5), (6, .int x6)]) : W p l e (th_rm 4 0 0) s m args below meth c H locs 0 0 (MQ below (va_Qi K (th_Post (dC, dI) (wX cs ad q v v) A) A) args s 0 0 A) (F0 m 34 ls []) := by
  have hx := C.1
  have hb := C.2.1
  unfold X_LN_leastCost_34 at hf
  refine lv_iload hx hb dX3_leastCost_34 (lv_at hl 6 rfl) ?_
  refine lv_if_lt (tgt := 69) hx hb dX3_leastCost_36 (by decide) (fun hc => ?_) (fun hc => ?_)
  · replace hf := hf.1 hc
    clear hc
    obtain ⟨x5_1, e9⟩ : ∃ y : Int32, y = x5 + (-1 : Int32) := ⟨_, rfl⟩
    replace hf := hf x5_1 e9
    refine lv_iinc (v := x5_1) (lv' := [(5, .int x5_1), (0, .ref (q 999)), (1, .ref (q 199)), (2, .int x2), (3, .int x3), (4, .int x4), (6, .int x6)]) hx hb dX3_leastCost_69 hl (k := 5) rfl (by rw [e9]; rfl) (by decide) rfl (fun ls hl => ?_)
    clear e9
    refine lv_goto (tgt := 25) hx hb dX3_leastCost_72 (by decide) ?_
    exact hk25 x2 x3 x4 x5_1 u _ _ _ hf hw (lv_sub hl [1, 2, 3, 4, 5, 0] rfl)
  · replace hf := hf.2 hc
    clear hc
    refine lv_aload_n hx hb dX3_leastCost_39 rfl (lv_at hl 0 rfl) ?_
    refine xg_902 C hw (C.2.2.2.2.1 _ hwF_X3_19) dX3_leastCost_40 ?_
    refine lv_iload hx hb dX3_leastCost_43 (lv_at hl 5 rfl) ?_
    refine lv_bipush (v := (49 : Int32)) hx hb dX3_leastCost_45 (by decide) ?_
    refine lv_imul hx hb dX3_leastCost_47 ?_
    refine lv_iload hx hb dX3_leastCost_48 (lv_at hl 6 rfl) ?_
    refine lv_iadd hx hb dX3_leastCost_50 ?_
    refine lv_aload_n hx hb dX3_leastCost_51 rfl (lv_at hl 0 rfl) ?_
    refine lv_aload_n hx hb dX3_leastCost_52 rfl (lv_at hl 1 rfl) ?_
    refine lv_iload_n hx hb dX3_leastCost_53 rfl (lv_at hl 2 rfl) ?_
    refine lv_iload_n hx hb dX3_leastCost_54 rfl (lv_at hl 3 rfl) ?_
    refine lv_iload hx hb dX3_leastCost_55 (lv_at hl 5 rfl) ?_
    refine lv_iload hx hb dX3_leastCost_57 (lv_at hl 6 rfl) ?_
    refine th_callVi (As := [.ref (q 199), .int x2, .int x3, .int x5, .int x6]) (rest := [.int ((x5 * (49 : Int32)) + x6), .ref (q 902)]) C lkX3_31 (X_LN_costFrom_c hf) hw (xRc_LN C hw) rfl rfl ⟨Nat.le_of_ble_eq_true rfl, Nat.le_of_ble_eq_true rfl⟩ hl.1 (Nat.le_of_ble_eq_true rfl) ⟨Nat.le_of_ble_eq_true rfl, Nat.le_of_ble_eq_true rfl⟩ dX3_leastCost_59 (fun r_3 u_2 H locs hf hw => ?_)
    refine ys_902 C hw hf.1 dX3_leastCost_62 (fun u_4 e9 H locs hw => ?_)
    replace hf := hf.2 u_4 e9
    clear e9
    obtain ⟨x6_5, e9⟩ : ∃ y : Int32, y = x6 + (-1 : Int32) := ⟨_, rfl⟩
    replace hf := hf x6_5 e9
    refine lv_iinc (v := x6_5) (lv' := [(6, .int x6_5), (0, .ref (q 999)), (1, .ref (q 199)), (2, .int x2), (3, .int x3), (4, .int x4), (5, .int x5)]) hx hb dX3_leastCost_63 hl (k := 6) rfl (by rw [e9]; rfl) (by decide) rfl (fun ls hl => ?_)
    clear e9
    refine lv_goto (tgt := 34) hx hb dX3_leastCost_66 (by decide) ?_
    exact hk34 x2 x3 x4 x5 x6_5 u_4 _ _ _ hf hw (lv_sub hl [1, 2, 3, 4, 5, 6, 0] rfl)
def X_LN_leastCost_34_lp (K : Int32 → xs_St → Prop) (k25 : Int32 → Int32 → Int32 → Int32 → xs_St → Prop) : Nat → Int32 → Int32 → Int32 → Int32 → Int32 → xs_St → Prop
  | 0, _, _, _, _, _, _ => False
  | n + 1, x2, x3, x4, x5, x6, u => X_LN_leastCost_34 K k25 (X_LN_leastCost_34_lp K k25 n) x2 x3 x4 x5 x6 u
set_option maxHeartbeats 4000000 in
set_option maxRecDepth 100000 in
theorem X_LN_leastCost_34_lw {K : Int32 → xs_St → Prop} {k25 : Int32 → Int32 → Int32 → Int32 → xs_St → Prop} (C : th_Cx p s m args meth c cX3_leastCost RX3 7 (some .int) (dC, dI) (th_ty cs) (xE ad ak) A) (hk25 : ∀ (x2 : Int32) (x3 : Int32) (x4 : Int32) (x5 : Int32) (u : xs_St) (H : Heap) (locs : List Loc) (ls : Array Slot), k25 x2 x3 x4 x5 u → th_wI (dC, dI) (wX cs ad q v v) A s.heap u H locs → lv_has ls 7 [(0, .ref (q 999)), (1, .ref (q 199)), (2, .int x2), (3, .int x3), (4, .int x4), (5, .int x5)] → W p l e (th_rm 4 0 0) s m args below meth c H locs 0 0 (MQ below (va_Qi K (th_Post (dC, dI) (wX cs ad q v v) A) A) args s 0 0 A) (F0 m 25 ls [])) (n : Nat) : ∀ (x2 : Int32) (x3 : Int32) (x4 : Int32) (x5 : Int32) (x6 : Int32) (u : xs_St) (H : Heap) (locs : List Loc) (ls : Array Slot), X_LN_leastCost_34_lp K k25 n x2 x3 x4 x5 x6 u → th_wI (dC, dI) (wX cs ad q v v) A s.heap u H locs → lv_has ls 7 [(0, .ref (q 999)), (1, .ref (q 199)), (2, .int x2), (3, .int x3), (4, .int x4), (5, .int x5), (6, .int x6)] → W p l e (th_rm 4 0 0) s m args below meth c H locs 0 0 (MQ below (va_Qi K (th_Post (dC, dI) (wX cs ad q v v) A) A) args s 0 0 A) (F0 m 34 ls []) := by
  induction n with
  | zero => intro x2 x3 x4 x5 x6 u H locs ls hf; exact hf.elim
  | succ n ih =>
    intro x2 x3 x4 x5 x6 u H locs ls hf hw hl
    exact X_LN_leastCost_34_w C hk25 ih x2 x3 x4 x5 x6 u H locs ls hf hw hl
def X_LN_leastCost_25 (K : Int32 → xs_St → Prop) (k25 : Int32 → Int32 → Int32 → Int32 → xs_St → Prop) (x2 : Int32) (x3 : Int32) (x4 : Int32) (x5 : Int32) (u : xs_St) : Prop :=
  ((x5 < 0 → X_LN_notePairs x2 x3 u (fun u_1 => (vp_in (0 : Int32) 2401 ∧ ∀ y_3 : Int32, y_3 = xa u_1 902 ((0 : Int32)).toNatClampNeg → K y_3 u_1))) ∧ (¬ x5 < 0 → ∃ n, X_LN_leastCost_34_lp K k25 n x2 x3 x4 x5 x4 u))
set_option maxHeartbeats 4000000 in
set_option maxRecDepth 100000 in
theorem X_LN_leastCost_25_w {K : Int32 → xs_St → Prop} {k25 : Int32 → Int32 → Int32 → Int32 → xs_St → Prop} (C : th_Cx p s m args meth c cX3_leastCost RX3 7 (some .int) (dC, dI) (th_ty cs) (xE ad ak) A) (hk25 : ∀ (x2 : Int32) (x3 : Int32) (x4 : Int32) (x5 : Int32) (u : xs_St) (H : Heap) (locs : List Loc) (ls : Array Slot), k25 x2 x3 x4 x5 u → th_wI (dC, dI) (wX cs ad q v v) A s.heap u H locs → lv_has ls 7 [(0, .ref (q 999)), (1, .ref (q 199)), (2, .int x2), (3, .int x3), (4, .int x4), (5, .int x5)] → W p l e (th_rm 4 0 0) s m args below meth c H locs 0 0 (MQ below (va_Qi K (th_Post (dC, dI) (wX cs ad q v v) A) A) args s 0 0 A) (F0 m 25 ls [])) (x2 : Int32) (x3 : Int32) (x4 : Int32) (x5 : Int32) (u : xs_St) (H : Heap) (locs : List Loc) (ls : Array Slot) (hf : X_LN_leastCost_25 K k25 x2 x3 x4 x5 u) (hw : th_wI (dC, dI) (wX cs ad q v v) A s.heap u H locs) (hl : lv_has ls 7 [(0, .ref (q 999)), (1, .ref (q 199)), (2, .int x2), (3, .int x3), (4, .int x4), (5, .int x5)]) : W p l e (th_rm 4 0 0) s m args below meth c H locs 0 0 (MQ below (va_Qi K (th_Post (dC, dI) (wX cs ad q v v) A) A) args s 0 0 A) (F0 m 25 ls []) := by
  have hx := C.1
  have hb := C.2.1
  unfold X_LN_leastCost_25 at hf
  refine lv_iload hx hb dX3_leastCost_25 (lv_at hl 5 rfl) ?_
  refine lv_if_lt (tgt := 75) hx hb dX3_leastCost_27 (by decide) (fun hc => ?_) (fun hc => ?_)
  · replace hf := hf.1 hc
    clear hc
    refine lv_aload_n hx hb dX3_leastCost_75 rfl (lv_at hl 0 rfl) ?_
    refine lv_aload_n hx hb dX3_leastCost_76 rfl (lv_at hl 1 rfl) ?_
    refine lv_iload_n hx hb dX3_leastCost_77 rfl (lv_at hl 2 rfl) ?_
    refine lv_iload_n hx hb dX3_leastCost_78 rfl (lv_at hl 3 rfl) ?_
    refine th_callVv (As := [.ref (q 199), .int x2, .int x3]) (rest := []) C lkX3_35 (X_LN_notePairs_c hf) hw (xRc_LN C hw) rfl rfl ⟨Nat.le_of_ble_eq_true rfl, Nat.le_of_ble_eq_true rfl⟩ hl.1 (Nat.le_of_ble_eq_true rfl) ⟨Nat.le_of_ble_eq_true rfl, Nat.le_of_ble_eq_true rfl⟩ dX3_leastCost_79 (fun u_1 H locs hf hw => ?_)
    refine lv_aload_n hx hb dX3_leastCost_82 rfl (lv_at hl 0 rfl) ?_
    refine xg_902 C hw (C.2.2.2.2.1 _ hwF_X3_19) dX3_leastCost_83 ?_
    refine lv_iconst (v := (0 : Int32)) hx hb dX3_leastCost_86 (by decide) ?_
    refine yl_902 C hw hf.1 dX3_leastCost_87 (fun y_3 e9 => ?_)
    replace hf := hf.2 y_3 e9
    clear e9
    exact th_iret C hw hf dX3_leastCost_88
  · replace hf := hf.2 hc
    clear hc
    refine lv_iload hx hb dX3_leastCost_30 (lv_at hl 4 rfl) ?_
    refine lv_istore (lv' := [(6, .int x4), (0, .ref (q 999)), (1, .ref (q 199)), (2, .int x2), (3, .int x3), (4, .int x4), (5, .int x5)]) hx hb dX3_leastCost_32 hl (by decide) rfl (fun ls hl => ?_)
    obtain ⟨n, hf⟩ := hf
    exact X_LN_leastCost_34_lw C hk25 n x2 x3 x4 x5 x4 u _ _ _ hf hw (lv_sub hl [1, 2, 3, 4, 5, 6, 0] rfl)
def X_LN_leastCost_25_lp (K : Int32 → xs_St → Prop) : Nat → Int32 → Int32 → Int32 → Int32 → xs_St → Prop
  | 0, _, _, _, _, _ => False
  | n + 1, x2, x3, x4, x5, u => X_LN_leastCost_25 K (X_LN_leastCost_25_lp K n) x2 x3 x4 x5 u
set_option maxHeartbeats 4000000 in
set_option maxRecDepth 100000 in
theorem X_LN_leastCost_25_lw {K : Int32 → xs_St → Prop} (C : th_Cx p s m args meth c cX3_leastCost RX3 7 (some .int) (dC, dI) (th_ty cs) (xE ad ak) A) (n : Nat) : ∀ (x2 : Int32) (x3 : Int32) (x4 : Int32) (x5 : Int32) (u : xs_St) (H : Heap) (locs : List Loc) (ls : Array Slot), X_LN_leastCost_25_lp K n x2 x3 x4 x5 u → th_wI (dC, dI) (wX cs ad q v v) A s.heap u H locs → lv_has ls 7 [(0, .ref (q 999)), (1, .ref (q 199)), (2, .int x2), (3, .int x3), (4, .int x4), (5, .int x5)] → W p l e (th_rm 4 0 0) s m args below meth c H locs 0 0 (MQ below (va_Qi K (th_Post (dC, dI) (wX cs ad q v v) A) A) args s 0 0 A) (F0 m 25 ls []) := by
  induction n with
  | zero => intro x2 x3 x4 x5 u H locs ls hf; exact hf.elim
  | succ n ih =>
    intro x2 x3 x4 x5 u H locs ls hf hw hl
    exact X_LN_leastCost_25_w C ih x2 x3 x4 x5 u H locs ls hf hw hl
def X_LN_leastCost (a2 : Int32) (a3 : Int32) (u : xs_St) (K : Int32 → xs_St → Prop) : Prop :=
  ∀ y_1 : Int32, y_1 = ((xi u 101) - a2) → X_LN_areRows (xi u 101) a2 u (fun r_3 u_2 => ((¬ r_3 = 0 → ∃ n, X_LN_leastCost_25_lp K n a2 a3 y_1 a2 u_2) ∧ (r_3 = 0 → K (-1 : Int32) u_2)))
set_option maxHeartbeats 4000000 in
set_option maxRecDepth 100000 in
theorem X_LN_leastCost_c {l : Launch} {dC : Nat → ClassId} {dI : Nat → Nat → Nat} {cs : Nat → ClassId} {ad ak : Nat → Nat} {q v : Nat → Nat} {a2 : Int32} {a3 : Int32} {u : xs_St} {K : Int32 → xs_St → Prop} (hf : X_LN_leastCost a2 a3 u K) : th_Ci l yX3_leastCost cX3_leastCost 7 (some .int) 4 0 0 (dC, dI) (th_ty cs) (xE ad ak) (wX cs ad q v v) [.ref (q 999), .ref (q 199), .int a2, .int a3] u K := by
  refine th_ofi (by decide) (Nat.le_of_ble_eq_true rfl) (xE_ok ad ak) ?_
  intro p e s m below meth c A ls C hw hl
  have C : th_Cx p s m _ meth c cX3_leastCost RX3 7 (some .int) (dC, dI) (th_ty cs) (xE ad ak) A := C
  have hl : lv_has ls 7 [(0, .ref (q 999)), (1, .ref (q 199)), (2, .int a2), (3, .int a3)] := hl
  generalize (List.toArray _ : Array Value) = args at C ⊢
  have hx := C.1
  have hb := C.2.1
  unfold X_LN_leastCost at hf
  refine lv_aload_n hx hb dX3_leastCost_0 rfl (lv_at hl 1 rfl) ?_
  refine xgn_101 C hw (va_Nw.use rfl (xN C hwG_X3_22)) dX3_leastCost_1 ?_
  refine lv_iload_n hx hb dX3_leastCost_4 rfl (lv_at hl 2 rfl) ?_
  refine lv_isub hx hb dX3_leastCost_5 ?_
  refine lv_topi (fun y_1 e9 => ?_)
  replace hf := hf y_1 e9
  clear e9
  refine lv_istore (lv' := [(4, .int y_1), (0, .ref (q 999)), (1, .ref (q 199)), (2, .int a2), (3, .int a3)]) hx hb dX3_leastCost_6 hl (by decide) rfl (fun ls hl => ?_)
  refine lv_aload_n hx hb dX3_leastCost_8 rfl (lv_at hl 1 rfl) ?_
  refine lv_aload_n hx hb dX3_leastCost_9 rfl (lv_at hl 2 rfl) ?_
  refine xgn_101 C hw (va_Nw.use rfl (xN C hwG_X3_22)) dX3_leastCost_10 ?_
  refine lv_iload_n hx hb dX3_leastCost_13 rfl (lv_at hl 3 rfl) ?_
  refine th_callVi (As := [.int (xi u 101), .int a2]) (rest := []) C lkX3_27 (X_LN_areRows_c hf) hw (xRc_LN C hw) rfl rfl ⟨Nat.le_of_ble_eq_true rfl, Nat.le_of_ble_eq_true rfl⟩ hl.1 (Nat.le_of_ble_eq_true rfl) ⟨Nat.le_of_ble_eq_true rfl, Nat.le_of_ble_eq_true rfl⟩ dX3_leastCost_14 (fun r_3 u_2 H locs hf hw => ?_)
  refine lv_if_ne (tgt := 22) hx hb dX3_leastCost_17 (by decide) (fun hc => ?_) (fun hc => ?_)
  · replace hf := hf.1 hc
    clear hc
    refine lv_iload_n hx hb dX3_leastCost_22 rfl (lv_at hl 3 rfl) ?_
    refine lv_istore (lv' := [(5, .int a2), (4, .int y_1), (0, .ref (q 999)), (1, .ref (q 199)), (2, .int a2), (3, .int a3)]) hx hb dX3_leastCost_23 hl (by decide) rfl (fun ls hl => ?_)
    obtain ⟨n, hf⟩ := hf
    exact X_LN_leastCost_25_lw C n a2 a3 y_1 a2 u_2 _ _ _ hf hw (lv_sub hl [2, 3, 4, 5, 1, 0] rfl)
  · replace hf := hf.2 hc
    clear hc
    refine lv_iconst (v := (-1 : Int32)) hx hb dX3_leastCost_20 (by decide) ?_
    exact th_iret C hw hf dX3_leastCost_21
end

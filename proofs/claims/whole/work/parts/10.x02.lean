section
variable {p : Program} {l : Launch} {e : Env} {s : State} {m : MethodId} {args : Array Value} {below : List Frame} {meth : Method} {c : Code} {dC : Nat → ClassId} {dI : Nat → Nat → Nat} {cs : Nat → ClassId} {ad ak : Nat → Nat} {q v : Nat → Nat} {A : Nat → Prop}
/-! X_TH_waysAbove -/
theorem dX11_waysAbove_0 : decode cX11_waysAbove 0 = .ok (.lconst 0, 1) := by decide +kernel
theorem dX11_waysAbove_1 : decode cX11_waysAbove 1 = .ok (.lstore_n 3, 1) := by decide +kernel
theorem dX11_waysAbove_2 : decode cX11_waysAbove 2 = .ok (.iload_n 1, 1) := by decide +kernel
theorem dX11_waysAbove_3 : decode cX11_waysAbove 3 = .ok (.ineg, 1) := by decide +kernel
theorem dX11_waysAbove_4 : decode cX11_waysAbove 4 = .ok (.istore 5, 2) := by decide +kernel
theorem dX11_waysAbove_6 : decode cX11_waysAbove 6 = .ok (.iload 5, 2) := by decide +kernel
theorem dX11_waysAbove_8 : decode cX11_waysAbove 8 = .ok (.iload_n 1, 1) := by decide +kernel
theorem dX11_waysAbove_9 : decode cX11_waysAbove 9 = .ok (.if_icmp .gt 39, 3) := by decide +kernel
theorem dX11_waysAbove_12 : decode cX11_waysAbove 12 = .ok (.iload 5, 2) := by decide +kernel
theorem dX11_waysAbove_14 : decode cX11_waysAbove 14 = .ok (.iload_n 1, 1) := by decide +kernel
theorem dX11_waysAbove_15 : decode cX11_waysAbove 15 = .ok (.iadd, 1) := by decide +kernel
theorem dX11_waysAbove_16 : decode cX11_waysAbove 16 = .ok (.aload_n 0, 1) := by decide +kernel
theorem dX11_waysAbove_17 : decode cX11_waysAbove 17 = .ok (.getfield 73, 3) := by decide +kernel
theorem dX11_waysAbove_20 : decode cX11_waysAbove 20 = .ok (.arraylength, 1) := by decide +kernel
theorem dX11_waysAbove_21 : decode cX11_waysAbove 21 = .ok (.if_icmp .ge 27, 3) := by decide +kernel
theorem dX11_waysAbove_24 : decode cX11_waysAbove 24 = .ok (.iload 5, 2) := by decide +kernel
theorem dX11_waysAbove_26 : decode cX11_waysAbove 26 = .ok (.iload_n 2, 1) := by decide +kernel
theorem dX11_waysAbove_27 : decode cX11_waysAbove 27 = .ok (.if_icmp .le 15, 3) := by decide +kernel
theorem dX11_waysAbove_30 : decode cX11_waysAbove 30 = .ok (.lload_n 3, 1) := by decide +kernel
theorem dX11_waysAbove_31 : decode cX11_waysAbove 31 = .ok (.aload_n 0, 1) := by decide +kernel
theorem dX11_waysAbove_32 : decode cX11_waysAbove 32 = .ok (.getfield 73, 3) := by decide +kernel
theorem dX11_waysAbove_35 : decode cX11_waysAbove 35 = .ok (.iload 5, 2) := by decide +kernel
theorem dX11_waysAbove_37 : decode cX11_waysAbove 37 = .ok (.iload_n 1, 1) := by decide +kernel
theorem dX11_waysAbove_38 : decode cX11_waysAbove 38 = .ok (.iadd, 1) := by decide +kernel
theorem dX11_waysAbove_39 : decode cX11_waysAbove 39 = .ok (.laload, 1) := by decide +kernel
theorem dX11_waysAbove_40 : decode cX11_waysAbove 40 = .ok (.ladd, 1) := by decide +kernel
theorem dX11_waysAbove_41 : decode cX11_waysAbove 41 = .ok (.lstore_n 3, 1) := by decide +kernel
theorem dX11_waysAbove_42 : decode cX11_waysAbove 42 = .ok (.iinc 5 1, 3) := by decide +kernel
theorem dX11_waysAbove_45 : decode cX11_waysAbove 45 = .ok (.goto (-39), 3) := by decide +kernel
theorem dX11_waysAbove_48 : decode cX11_waysAbove 48 = .ok (.lload_n 3, 1) := by decide +kernel
theorem dX11_waysAbove_49 : decode cX11_waysAbove 49 = .ok (.lreturn, 1) := by decide +kernel
def X_TH_waysAbove_42 (K : Int64 → xs_St → Prop) (k6 : Int32 → Int32 → Int64 → Int32 → xs_St → Prop) (x1 : Int32) (x2 : Int32) (x3 : Int64) (x5 : Int32) (u : xs_St) : Prop :=
  ∀ x5_1 : Int32, x5_1 = x5 + (1 : Int32) → k6 x1 x2 x3 x5_1 u
set_option maxHeartbeats 4000000 in
set_option maxRecDepth 100000 in
theorem X_TH_waysAbove_42_w {K : Int64 → xs_St → Prop} {k6 : Int32 → Int32 → Int64 → Int32 → xs_St → Prop} (C : th_Cx p s m args meth c cX11_waysAbove RX11 6 (some .long) (dC, dI) (th_ty cs) (xE ad ak) A) (hk6 : ∀ (x1 : Int32) (x2 : Int32) (x3 : Int64) (x5 : Int32) (u : xs_St) (H : Heap) (locs : List Loc) (ls : Array Slot), k6 x1 x2 x3 x5 u → th_wI (dC, dI) (wX cs ad q v v) A s.heap u H locs → lv_has ls 6 [(0, .ref (q 99)), (1, .int x1), (2, .int x2), (3, .long x3), (5, .int x5)] → W p l e (th_rm 0 0 0) s m args below meth c H locs 0 0 (MQ below (va_Ql K (th_Post (dC, dI) (wX cs ad q v v) A) A) args s 0 0 A) (F0 m 6 ls [])) (x1 : Int32) (x2 : Int32) (x3 : Int64) (x5 : Int32) (u : xs_St) (H : Heap) (locs : List Loc) (ls : Array Slot) (hf : X_TH_waysAbove_42 K k6 x1 x2 x3 x5 u) (hw : th_wI (dC, dI) (wX cs ad q v v) A s.heap u H locs) (hl : lv_has ls 6 [(0, .ref (q 99)), (1, .int x1), (2, .int x2), (3, .long x3), (5, .int x5)]) : W p l e (th_rm 0 0 0) s m args below meth c H locs 0 0 (MQ below (va_Ql K (th_Post (dC, dI) (wX cs ad q v v) A) A) args s 0 0 A) (F0 m 42 ls []) := by
  have hx := C.1
  have hb := C.2.1
  unfold X_TH_waysAbove_42 at hf
  obtain ⟨x5_1, e9⟩ : ∃ y : Int32, y = x5 + (1 : Int32) := ⟨_, rfl⟩
  replace hf := hf x5_1 e9
  refine lv_iinc (v := x5_1) (lv' := [(5, .int x5_1), (0, .ref (q 99)), (1, .int x1), (2, .int x2), (3, .long x3)]) hx hb dX11_waysAbove_42 hl (k := 4) rfl (by rw [e9]; rfl) (by decide) rfl (fun ls hl => ?_)
  clear e9
  refine lv_goto (tgt := 6) hx hb dX11_waysAbove_45 (by decide) ?_
  exact hk6 x1 x2 x3 x5_1 u _ _ _ hf hw (lv_sub hl [1, 2, 3, 4, 0] rfl)
def X_TH_waysAbove_48 (K : Int64 → xs_St → Prop) (x3 : Int64) (u : xs_St) : Prop :=
  K x3 u
set_option maxHeartbeats 4000000 in
set_option maxRecDepth 100000 in
theorem X_TH_waysAbove_48_w {K : Int64 → xs_St → Prop} (C : th_Cx p s m args meth c cX11_waysAbove RX11 6 (some .long) (dC, dI) (th_ty cs) (xE ad ak) A) (x3 : Int64) (u : xs_St) (H : Heap) (locs : List Loc) (ls : Array Slot) (hf : X_TH_waysAbove_48 K x3 u) (hw : th_wI (dC, dI) (wX cs ad q v v) A s.heap u H locs) (hl : lv_has ls 6 [(3, .long x3)]) : W p l e (th_rm 0 0 0) s m args below meth c H locs 0 0 (MQ below (va_Ql K (th_Post (dC, dI) (wX cs ad q v v) A) A) args s 0 0 A) (F0 m 48 ls []) := by
  have hx := C.1
  have hb := C.2.1
  unfold X_TH_waysAbove_48 at hf
  refine lv_lload_n hx hb dX11_waysAbove_48 rfl (lv_at hl 0 rfl) ?_
  exact th_lret C hw hf dX11_waysAbove_49
def X_TH_waysAbove_6 (K : Int64 → xs_St → Prop) (k6 : Int32 → Int32 → Int64 → Int32 → xs_St → Prop) (x1 : Int32) (x2 : Int32) (x3 : Int64) (x5 : Int32) (u : xs_St) : Prop :=
  ((x1 < x5 → X_TH_waysAbove_48 K x3 u) ∧ (¬ x1 < x5 → (((217 : Int32) ≤ (x5 + x1) → X_TH_waysAbove_48 K x3 u) ∧ (¬ (217 : Int32) ≤ (x5 + x1) → ((x5 ≤ x2 → X_TH_waysAbove_42 K k6 x1 x2 x3 x5 u) ∧ (¬ x5 ≤ x2 → (vp_in (x5 + x1) 217 ∧ ∀ y_1 : Int64, y_1 = xl u 10 ((x5 + x1)).toNatClampNeg → ∀ y_2 : Int64, y_2 = (x3 + y_1) → X_TH_waysAbove_42 K k6 x1 x2 y_2 x5 u)))))))
set_option maxHeartbeats 4000000 in
set_option maxRecDepth 100000 in
theorem X_TH_waysAbove_6_w {K : Int64 → xs_St → Prop} {k6 : Int32 → Int32 → Int64 → Int32 → xs_St → Prop} (C : th_Cx p s m args meth c cX11_waysAbove RX11 6 (some .long) (dC, dI) (th_ty cs) (xE ad ak) A) (hk6 : ∀ (x1 : Int32) (x2 : Int32) (x3 : Int64) (x5 : Int32) (u : xs_St) (H : Heap) (locs : List Loc) (ls : Array Slot), k6 x1 x2 x3 x5 u → th_wI (dC, dI) (wX cs ad q v v) A s.heap u H locs → lv_has ls 6 [(0, .ref (q 99)), (1, .int x1), (2, .int x2), (3, .long x3), (5, .int x5)] → W p l e (th_rm 0 0 0) s m args below meth c H locs 0 0 (MQ below (va_Ql K (th_Post (dC, dI) (wX cs ad q v v) A) A) args s 0 0 A) (F0 m 6 ls [])) (x1 : Int32) (x2 : Int32) (x3 : Int64) (x5 : Int32) (u : xs_St) (H : Heap) (locs : List Loc) (ls : Array Slot) (hf : X_TH_waysAbove_6 K k6 x1 x2 x3 x5 u) (hw : th_wI (dC, dI) (wX cs ad q v v) A s.heap u H locs) (hl : lv_has ls 6 [(0, .ref (q 99)), (1, .int x1), (2, .int x2), (3, .long x3), (5, .int x5)]) : W p l e (th_rm 0 0 0) s m args below meth c H locs 0 0 (MQ below (va_Ql K (th_Post (dC, dI) (wX cs ad q v v) A) A) args s 0 0 A) (F0 m 6 ls []) := by
  have hx := C.1
  have hb := C.2.1
  unfold X_TH_waysAbove_6 at hf
  refine lv_iload hx hb dX11_waysAbove_6 (lv_at hl 4 rfl) ?_
  refine lv_iload_n hx hb dX11_waysAbove_8 rfl (lv_at hl 1 rfl) ?_
  refine lv_icmp_gt (tgt := 48) hx hb dX11_waysAbove_9 (by decide) (fun hc => ?_) (fun hc => ?_)
  · replace hf := hf.1 hc
    clear hc
    exact X_TH_waysAbove_48_w C x3 u _ _ _ hf hw (lv_sub hl [3] rfl)
  · replace hf := hf.2 hc
    clear hc
    refine lv_iload hx hb dX11_waysAbove_12 (lv_at hl 4 rfl) ?_
    refine lv_iload_n hx hb dX11_waysAbove_14 rfl (lv_at hl 1 rfl) ?_
    refine lv_iadd hx hb dX11_waysAbove_15 ?_
    refine lv_aload_n hx hb dX11_waysAbove_16 rfl (lv_at hl 0 rfl) ?_
    refine xg_10 C hw (C.2.2.2.2.1 _ hwF_X11_73) dX11_waysAbove_17 ?_
    refine yn_10 C hw dX11_waysAbove_20 ?_
    refine lv_icmp_ge (tgt := 48) hx hb dX11_waysAbove_21 (by decide) (fun hc => ?_) (fun hc => ?_)
    · replace hf := hf.1 hc
      clear hc
      exact X_TH_waysAbove_48_w C x3 u _ _ _ hf hw (lv_sub hl [3] rfl)
    · replace hf := hf.2 hc
      clear hc
      refine lv_iload hx hb dX11_waysAbove_24 (lv_at hl 4 rfl) ?_
      refine lv_iload_n hx hb dX11_waysAbove_26 rfl (lv_at hl 2 rfl) ?_
      refine lv_icmp_le (tgt := 42) hx hb dX11_waysAbove_27 (by decide) (fun hc => ?_) (fun hc => ?_)
      · replace hf := hf.1 hc
        clear hc
        exact X_TH_waysAbove_42_w C hk6 x1 x2 x3 x5 u _ _ _ hf hw (lv_sub hl [0, 1, 2, 3, 4] rfl)
      · replace hf := hf.2 hc
        clear hc
        refine lv_lload_n hx hb dX11_waysAbove_30 rfl (lv_at hl 3 rfl) ?_
        refine lv_aload_n hx hb dX11_waysAbove_31 rfl (lv_at hl 0 rfl) ?_
        refine xg_10 C hw (C.2.2.2.2.1 _ hwF_X11_73) dX11_waysAbove_32 ?_
        refine lv_iload hx hb dX11_waysAbove_35 (lv_at hl 4 rfl) ?_
        refine lv_iload_n hx hb dX11_waysAbove_37 rfl (lv_at hl 1 rfl) ?_
        refine lv_iadd hx hb dX11_waysAbove_38 ?_
        refine yl_10 C hw hf.1 dX11_waysAbove_39 (fun y_1 e9 => ?_)
        replace hf := hf.2 y_1 e9
        clear e9
        refine lv_ladd hx hb dX11_waysAbove_40 ?_
        refine lv_topl (fun y_2 e9 => ?_)
        replace hf := hf y_2 e9
        clear e9
        refine lv_lstore_n (lv' := [(3, .long y_2), (0, .ref (q 99)), (1, .int x1), (2, .int x2), (5, .int x5)]) hx hb dX11_waysAbove_41 rfl hl (by decide) rfl (fun ls hl => ?_)
        exact X_TH_waysAbove_42_w C hk6 x1 x2 y_2 x5 u _ _ _ hf hw (lv_sub hl [1, 2, 3, 0, 4] rfl)
def X_TH_waysAbove_6_lp (K : Int64 → xs_St → Prop) : Nat → Int32 → Int32 → Int64 → Int32 → xs_St → Prop
  | 0, _, _, _, _, _ => False
  | n + 1, x1, x2, x3, x5, u => X_TH_waysAbove_6 K (X_TH_waysAbove_6_lp K n) x1 x2 x3 x5 u
set_option maxHeartbeats 4000000 in
set_option maxRecDepth 100000 in
theorem X_TH_waysAbove_6_lw {K : Int64 → xs_St → Prop} (C : th_Cx p s m args meth c cX11_waysAbove RX11 6 (some .long) (dC, dI) (th_ty cs) (xE ad ak) A) (n : Nat) : ∀ (x1 : Int32) (x2 : Int32) (x3 : Int64) (x5 : Int32) (u : xs_St) (H : Heap) (locs : List Loc) (ls : Array Slot), X_TH_waysAbove_6_lp K n x1 x2 x3 x5 u → th_wI (dC, dI) (wX cs ad q v v) A s.heap u H locs → lv_has ls 6 [(0, .ref (q 99)), (1, .int x1), (2, .int x2), (3, .long x3), (5, .int x5)] → W p l e (th_rm 0 0 0) s m args below meth c H locs 0 0 (MQ below (va_Ql K (th_Post (dC, dI) (wX cs ad q v v) A) A) args s 0 0 A) (F0 m 6 ls []) := by
  induction n with
  | zero => intro x1 x2 x3 x5 u H locs ls hf; exact hf.elim
  | succ n ih =>
    intro x1 x2 x3 x5 u H locs ls hf hw hl
    exact X_TH_waysAbove_6_w C ih x1 x2 x3 x5 u H locs ls hf hw hl
def X_TH_waysAbove (a1 : Int32) (a2 : Int32) (u : xs_St) (K : Int64 → xs_St → Prop) : Prop :=
  ∀ y_1 : Int32, y_1 = (-a1) → ∃ n, X_TH_waysAbove_6_lp K n a1 a2 (0 : Int64) y_1 u
set_option maxHeartbeats 4000000 in
set_option maxRecDepth 100000 in
theorem X_TH_waysAbove_c {l : Launch} {dC : Nat → ClassId} {dI : Nat → Nat → Nat} {cs : Nat → ClassId} {ad ak : Nat → Nat} {q v : Nat → Nat} {a1 : Int32} {a2 : Int32} {u : xs_St} {K : Int64 → xs_St → Prop} (hf : X_TH_waysAbove a1 a2 u K) : th_Cl l yX11_waysAbove cX11_waysAbove 6 (some .long) 0 0 0 (dC, dI) (th_ty cs) (xE ad ak) (wX cs ad q v v) [.ref (q 99), .int a1, .int a2] u K := by
  refine th_ofl (by decide) (Nat.le_of_ble_eq_true rfl) (xE_ok ad ak) ?_
  intro p e s m below meth c A ls C hw hl
  have C : th_Cx p s m _ meth c cX11_waysAbove RX11 6 (some .long) (dC, dI) (th_ty cs) (xE ad ak) A := C
  have hl : lv_has ls 6 [(0, .ref (q 99)), (1, .int a1), (2, .int a2)] := hl
  generalize (List.toArray _ : Array Value) = args at C ⊢
  have hx := C.1
  have hb := C.2.1
  unfold X_TH_waysAbove at hf
  refine lv_lconst (v := (0 : Int64)) hx hb dX11_waysAbove_0 (by decide) ?_
  refine lv_lstore_n (lv' := [(3, .long (0 : Int64)), (0, .ref (q 99)), (1, .int a1), (2, .int a2)]) hx hb dX11_waysAbove_1 rfl hl (by decide) rfl (fun ls hl => ?_)
  refine lv_iload_n hx hb dX11_waysAbove_2 rfl (lv_at hl 2 rfl) ?_
  refine lv_ineg hx hb dX11_waysAbove_3 ?_
  refine lv_topi (fun y_1 e9 => ?_)
  replace hf := hf y_1 e9
  clear e9
  refine lv_istore (lv' := [(5, .int y_1), (3, .long (0 : Int64)), (0, .ref (q 99)), (1, .int a1), (2, .int a2)]) hx hb dX11_waysAbove_4 hl (by decide) rfl (fun ls hl => ?_)
  obtain ⟨n, hf⟩ := hf
  exact X_TH_waysAbove_6_lw C n a1 a2 (0 : Int64) y_1 u _ _ _ hf hw (lv_sub hl [2, 3, 4, 1, 0] rfl)
/-! X_TP_clear -/
theorem dX6_clear_0 : decode cX6_clear 0 = .ok (.aload_n 0, 1) := by decide +kernel
theorem dX6_clear_1 : decode cX6_clear 1 = .ok (.iconst 0, 1) := by decide +kernel
theorem dX6_clear_2 : decode cX6_clear 2 = .ok (.putfield 13, 3) := by decide +kernel
theorem dX6_clear_5 : decode cX6_clear 5 = .ok (.return_, 1) := by decide +kernel
def X_TP_clear (u : xs_St) (K : xs_St → Prop) : Prop :=
  ∀ u_1 : xs_St, u_1 = xs_si u 101 (0 : Int32) → K u_1
set_option maxHeartbeats 4000000 in
set_option maxRecDepth 100000 in
theorem X_TP_clear_c {l : Launch} {dC : Nat → ClassId} {dI : Nat → Nat → Nat} {cs : Nat → ClassId} {ad ak : Nat → Nat} {q v : Nat → Nat} {u : xs_St} {K : xs_St → Prop} (hf : X_TP_clear u K) : th_Cv l yX6_clear cX6_clear 1 (none) 0 0 0 (dC, dI) (th_ty cs) (xE ad ak) (wX cs ad q v v) [.ref (q 199)] u K := by
  refine th_ofv (by decide) (Nat.le_of_ble_eq_true rfl) (xE_ok ad ak) ?_
  intro p e s m below meth c A ls C hw hl
  have C : th_Cx p s m _ meth c cX6_clear RX6 1 (none) (dC, dI) (th_ty cs) (xE ad ak) A := C
  have hl : lv_has ls 1 [(0, .ref (q 199))] := hl
  generalize (List.toArray _ : Array Value) = args at C ⊢
  have hx := C.1
  have hb := C.2.1
  unfold X_TP_clear at hf
  refine lv_aload_n hx hb dX6_clear_0 rfl (lv_at hl 0 rfl) ?_
  refine lv_iconst (v := (0 : Int32)) hx hb dX6_clear_1 (by decide) ?_
  refine xp_101 C hw (C.2.2.2.2.1 _ hwF_X6_13) dX6_clear_2 (fun u_1 e9 H locs hw => ?_)
  replace hf := hf u_1 e9
  clear e9
  exact th_vret C hw hf dX6_clear_5
/-! X_TP_hasRoom -/
theorem dX6_hasRoom_0 : decode cX6_hasRoom 0 = .ok (.aload_n 0, 1) := by decide +kernel
theorem dX6_hasRoom_1 : decode cX6_hasRoom 1 = .ok (.getfield 13, 3) := by decide +kernel
theorem dX6_hasRoom_4 : decode cX6_hasRoom 4 = .ok (.iload_n 1, 1) := by decide +kernel
theorem dX6_hasRoom_5 : decode cX6_hasRoom 5 = .ok (.iadd, 1) := by decide +kernel
theorem dX6_hasRoom_6 : decode cX6_hasRoom 6 = .ok (.sipush 440, 3) := by decide +kernel
theorem dX6_hasRoom_9 : decode cX6_hasRoom 9 = .ok (.if_icmp .gt 7, 3) := by decide +kernel
theorem dX6_hasRoom_12 : decode cX6_hasRoom 12 = .ok (.iconst 1, 1) := by decide +kernel
theorem dX6_hasRoom_13 : decode cX6_hasRoom 13 = .ok (.goto 4, 3) := by decide +kernel
theorem dX6_hasRoom_16 : decode cX6_hasRoom 16 = .ok (.iconst 0, 1) := by decide +kernel
theorem dX6_hasRoom_17 : decode cX6_hasRoom 17 = .ok (.ireturn, 1) := by decide +kernel
def X_TP_hasRoom_17 (K : Int32 → xs_St → Prop) (z0 : Int32) (u : xs_St) : Prop :=
  ((z0 = 0 ∨ z0 = 1) ∧ K z0 u)
set_option maxHeartbeats 4000000 in
set_option maxRecDepth 100000 in
theorem X_TP_hasRoom_17_w {K : Int32 → xs_St → Prop} (C : th_Cx p s m args meth c cX6_hasRoom RX6 2 (some .boolean) (dC, dI) (th_ty cs) (xE ad ak) A) (z0 : Int32) (u : xs_St) (H : Heap) (locs : List Loc) (ls : Array Slot) (hf : X_TP_hasRoom_17 K z0 u) (hw : th_wI (dC, dI) (wX cs ad q v v) A s.heap u H locs) (hl : lv_has ls 2 []) : W p l e (th_rm 0 0 0) s m args below meth c H locs 0 0 (MQ below (va_Qi K (th_Post (dC, dI) (wX cs ad q v v) A) A) args s 0 0 A) (F0 m 17 ls [.int z0]) := by
  have hx := C.1
  have hb := C.2.1
  unfold X_TP_hasRoom_17 at hf
  exact th_zret C hw hf dX6_hasRoom_17
def X_TP_hasRoom (a1 : Int32) (u : xs_St) (K : Int32 → xs_St → Prop) : Prop :=
  (((440 : Int32) < ((xi u 101) + a1) → X_TP_hasRoom_17 K (0 : Int32) u) ∧ (¬ (440 : Int32) < ((xi u 101) + a1) → X_TP_hasRoom_17 K (1 : Int32) u))
set_option maxHeartbeats 4000000 in
set_option maxRecDepth 100000 in
theorem X_TP_hasRoom_c {l : Launch} {dC : Nat → ClassId} {dI : Nat → Nat → Nat} {cs : Nat → ClassId} {ad ak : Nat → Nat} {q v : Nat → Nat} {a1 : Int32} {u : xs_St} {K : Int32 → xs_St → Prop} (hf : X_TP_hasRoom a1 u K) : th_Ci l yX6_hasRoom cX6_hasRoom 2 (some .boolean) 0 0 0 (dC, dI) (th_ty cs) (xE ad ak) (wX cs ad q v v) [.ref (q 199), .int a1] u K := by
  refine th_ofi (by decide) (Nat.le_of_ble_eq_true rfl) (xE_ok ad ak) ?_
  intro p e s m below meth c A ls C hw hl
  have C : th_Cx p s m _ meth c cX6_hasRoom RX6 2 (some .boolean) (dC, dI) (th_ty cs) (xE ad ak) A := C
  have hl : lv_has ls 2 [(0, .ref (q 199)), (1, .int a1)] := hl
  generalize (List.toArray _ : Array Value) = args at C ⊢
  have hx := C.1
  have hb := C.2.1
  unfold X_TP_hasRoom at hf
  refine lv_aload_n hx hb dX6_hasRoom_0 rfl (lv_at hl 0 rfl) ?_
  refine xg_101 C hw (C.2.2.2.2.1 _ hwF_X6_13) dX6_hasRoom_1 ?_
  refine lv_iload_n hx hb dX6_hasRoom_4 rfl (lv_at hl 1 rfl) ?_
  refine lv_iadd hx hb dX6_hasRoom_5 ?_
  refine lv_sipush (v := (440 : Int32)) hx hb dX6_hasRoom_6 (by decide) ?_
  refine lv_icmp_gt (tgt := 16) hx hb dX6_hasRoom_9 (by decide) (fun hc => ?_) (fun hc => ?_)
  · replace hf := hf.1 hc
    clear hc
    refine lv_iconst (v := (0 : Int32)) hx hb dX6_hasRoom_16 (by decide) ?_
    exact X_TP_hasRoom_17_w C (0 : Int32) u _ _ _ hf hw (lv_sub hl [] rfl)
  · replace hf := hf.2 hc
    clear hc
    refine lv_iconst (v := (1 : Int32)) hx hb dX6_hasRoom_12 (by decide) ?_
    refine lv_goto (tgt := 17) hx hb dX6_hasRoom_13 (by decide) ?_
    exact X_TP_hasRoom_17_w C (1 : Int32) u _ _ _ hf hw (lv_sub hl [] rfl)
/-! X_TP_put -/
theorem dX6_put_0 : decode cX6_put 0 = .ok (.bipush 24, 2) := by decide +kernel
theorem dX6_put_2 : decode cX6_put 2 = .ok (.istore_n 2, 1) := by decide +kernel
theorem dX6_put_3 : decode cX6_put 3 = .ok (.iload_n 2, 1) := by decide +kernel
theorem dX6_put_4 : decode cX6_put 4 = .ok (.ifCond .lt 42, 3) := by decide +kernel
theorem dX6_put_7 : decode cX6_put 7 = .ok (.aload_n 0, 1) := by decide +kernel
theorem dX6_put_8 : decode cX6_put 8 = .ok (.getfield 13, 3) := by decide +kernel
theorem dX6_put_11 : decode cX6_put 11 = .ok (.sipush 440, 3) := by decide +kernel
theorem dX6_put_14 : decode cX6_put 14 = .ok (.if_icmp .ge 32, 3) := by decide +kernel
theorem dX6_put_17 : decode cX6_put 17 = .ok (.aload_n 0, 1) := by decide +kernel
theorem dX6_put_18 : decode cX6_put 18 = .ok (.getfield 9, 3) := by decide +kernel
theorem dX6_put_21 : decode cX6_put 21 = .ok (.aload_n 0, 1) := by decide +kernel
theorem dX6_put_22 : decode cX6_put 22 = .ok (.getfield 13, 3) := by decide +kernel
theorem dX6_put_25 : decode cX6_put 25 = .ok (.iload_n 1, 1) := by decide +kernel
theorem dX6_put_26 : decode cX6_put 26 = .ok (.iload_n 2, 1) := by decide +kernel
theorem dX6_put_27 : decode cX6_put 27 = .ok (.ishr, 1) := by decide +kernel
theorem dX6_put_28 : decode cX6_put 28 = .ok (.i2b, 1) := by decide +kernel
theorem dX6_put_29 : decode cX6_put 29 = .ok (.bastore, 1) := by decide +kernel
theorem dX6_put_30 : decode cX6_put 30 = .ok (.aload_n 0, 1) := by decide +kernel
theorem dX6_put_31 : decode cX6_put 31 = .ok (.dup, 1) := by decide +kernel
theorem dX6_put_32 : decode cX6_put 32 = .ok (.getfield 13, 3) := by decide +kernel
theorem dX6_put_35 : decode cX6_put 35 = .ok (.iconst 1, 1) := by decide +kernel
theorem dX6_put_36 : decode cX6_put 36 = .ok (.iadd, 1) := by decide +kernel
theorem dX6_put_37 : decode cX6_put 37 = .ok (.putfield 13, 3) := by decide +kernel
theorem dX6_put_40 : decode cX6_put 40 = .ok (.iinc 2 (-8), 3) := by decide +kernel
theorem dX6_put_43 : decode cX6_put 43 = .ok (.goto (-40), 3) := by decide +kernel
theorem dX6_put_46 : decode cX6_put 46 = .ok (.return_, 1) := by decide +kernel
def X_TP_put_46 (K : xs_St → Prop) (u : xs_St) : Prop :=
  K u
set_option maxHeartbeats 4000000 in
set_option maxRecDepth 100000 in
theorem X_TP_put_46_w {K : xs_St → Prop} (C : th_Cx p s m args meth c cX6_put RX6 3 (none) (dC, dI) (th_ty cs) (xE ad ak) A) (u : xs_St) (H : Heap) (locs : List Loc) (ls : Array Slot) (hf : X_TP_put_46 K u) (hw : th_wI (dC, dI) (wX cs ad q v v) A s.heap u H locs) (hl : lv_has ls 3 []) : W p l e (th_rm 0 0 0) s m args below meth c H locs 0 0 (MQ below (va_Qv K (th_Post (dC, dI) (wX cs ad q v v) A) A) args s 0 0 A) (F0 m 46 ls []) := by
  have hx := C.1
  have hb := C.2.1
  unfold X_TP_put_46 at hf
  exact th_vret C hw hf dX6_put_46
def X_TP_put_3 (K : xs_St → Prop) (k3 : Int32 → Int32 → xs_St → Prop) (x1 : Int32) (x2 : Int32) (u : xs_St) : Prop :=
  ((x2 < 0 → X_TP_put_46 K u) ∧ (¬ x2 < 0 → (((440 : Int32) ≤ (xi u 101) → X_TP_put_46 K u) ∧ (¬ (440 : Int32) ≤ (xi u 101) → (vp_in (xi u 101) 440 ∧ ∀ u_1 : xs_St, u_1 = xs_sa u 100 (upd (xa u 100) ((xi u 101)).toNatClampNeg (vp_nar .byte ((x1 >>> (x2 &&& 31))).toInt8.toInt32)) → ∀ u_2 : xs_St, u_2 = xs_si u_1 101 ((xi u_1 101) + (1 : Int32)) → ∀ x2_3 : Int32, x2_3 = x2 + (-8 : Int32) → k3 x1 x2_3 u_2)))))
set_option maxHeartbeats 4000000 in
set_option maxRecDepth 100000 in
theorem X_TP_put_3_w {K : xs_St → Prop} {k3 : Int32 → Int32 → xs_St → Prop} (C : th_Cx p s m args meth c cX6_put RX6 3 (none) (dC, dI) (th_ty cs) (xE ad ak) A) (hk3 : ∀ (x1 : Int32) (x2 : Int32) (u : xs_St) (H : Heap) (locs : List Loc) (ls : Array Slot), k3 x1 x2 u → th_wI (dC, dI) (wX cs ad q v v) A s.heap u H locs → lv_has ls 3 [(0, .ref (q 199)), (1, .int x1), (2, .int x2)] → W p l e (th_rm 0 0 0) s m args below meth c H locs 0 0 (MQ below (va_Qv K (th_Post (dC, dI) (wX cs ad q v v) A) A) args s 0 0 A) (F0 m 3 ls [])) (x1 : Int32) (x2 : Int32) (u : xs_St) (H : Heap) (locs : List Loc) (ls : Array Slot) (hf : X_TP_put_3 K k3 x1 x2 u) (hw : th_wI (dC, dI) (wX cs ad q v v) A s.heap u H locs) (hl : lv_has ls 3 [(0, .ref (q 199)), (1, .int x1), (2, .int x2)]) : W p l e (th_rm 0 0 0) s m args below meth c H locs 0 0 (MQ below (va_Qv K (th_Post (dC, dI) (wX cs ad q v v) A) A) args s 0 0 A) (F0 m 3 ls []) := by
  have hx := C.1
  have hb := C.2.1
  unfold X_TP_put_3 at hf
  refine lv_iload_n hx hb dX6_put_3 rfl (lv_at hl 2 rfl) ?_
  refine lv_if_lt (tgt := 46) hx hb dX6_put_4 (by decide) (fun hc => ?_) (fun hc => ?_)
  · replace hf := hf.1 hc
    clear hc
    exact X_TP_put_46_w C  u _ _ _ hf hw (lv_sub hl [] rfl)
  · replace hf := hf.2 hc
    clear hc
    refine lv_aload_n hx hb dX6_put_7 rfl (lv_at hl 0 rfl) ?_
    refine xg_101 C hw (C.2.2.2.2.1 _ hwF_X6_13) dX6_put_8 ?_
    refine lv_sipush (v := (440 : Int32)) hx hb dX6_put_11 (by decide) ?_
    refine lv_icmp_ge (tgt := 46) hx hb dX6_put_14 (by decide) (fun hc => ?_) (fun hc => ?_)
    · replace hf := hf.1 hc
      clear hc
      exact X_TP_put_46_w C  u _ _ _ hf hw (lv_sub hl [] rfl)
    · replace hf := hf.2 hc
      clear hc
      refine lv_aload_n hx hb dX6_put_17 rfl (lv_at hl 0 rfl) ?_
      refine xg_100 C hw (C.2.2.2.2.1 _ hwF_X6_9) dX6_put_18 ?_
      refine lv_aload_n hx hb dX6_put_21 rfl (lv_at hl 0 rfl) ?_
      refine xg_101 C hw (C.2.2.2.2.1 _ hwF_X6_13) dX6_put_22 ?_
      refine lv_iload_n hx hb dX6_put_25 rfl (lv_at hl 1 rfl) ?_
      refine lv_iload_n hx hb dX6_put_26 rfl (lv_at hl 2 rfl) ?_
      refine lv_ishr hx hb dX6_put_27 ?_
      refine lv_i2b hx hb dX6_put_28 rfl ?_
      refine ys_100 C hw hf.1 dX6_put_29 (fun u_1 e9 H locs hw => ?_)
      replace hf := hf.2 u_1 e9
      clear e9
      refine lv_aload_n hx hb dX6_put_30 rfl (lv_at hl 0 rfl) ?_
      refine lv_dup hx hb dX6_put_31 rfl ?_
      refine xg_101 C hw (C.2.2.2.2.1 _ hwF_X6_13) dX6_put_32 ?_
      refine lv_iconst (v := (1 : Int32)) hx hb dX6_put_35 (by decide) ?_
      refine lv_iadd hx hb dX6_put_36 ?_
      refine xp_101 C hw (C.2.2.2.2.1 _ hwF_X6_13) dX6_put_37 (fun u_2 e9 H locs hw => ?_)
      replace hf := hf u_2 e9
      clear e9
      obtain ⟨x2_3, e9⟩ : ∃ y : Int32, y = x2 + (-8 : Int32) := ⟨_, rfl⟩
      replace hf := hf x2_3 e9
      refine lv_iinc (v := x2_3) (lv' := [(2, .int x2_3), (0, .ref (q 199)), (1, .int x1)]) hx hb dX6_put_40 hl (k := 2) rfl (by rw [e9]; rfl) (by decide) rfl (fun ls hl => ?_)
      clear e9
      refine lv_goto (tgt := 3) hx hb dX6_put_43 (by decide) ?_
      exact hk3 x1 x2_3 u_2 _ _ _ hf hw (lv_sub hl [1, 2, 0] rfl)
def X_TP_put_3_lp (K : xs_St → Prop) : Nat → Int32 → Int32 → xs_St → Prop
  | 0, _, _, _ => False
  | n + 1, x1, x2, u => X_TP_put_3 K (X_TP_put_3_lp K n) x1 x2 u
set_option maxHeartbeats 4000000 in
set_option maxRecDepth 100000 in
theorem X_TP_put_3_lw {K : xs_St → Prop} (C : th_Cx p s m args meth c cX6_put RX6 3 (none) (dC, dI) (th_ty cs) (xE ad ak) A) (n : Nat) : ∀ (x1 : Int32) (x2 : Int32) (u : xs_St) (H : Heap) (locs : List Loc) (ls : Array Slot), X_TP_put_3_lp K n x1 x2 u → th_wI (dC, dI) (wX cs ad q v v) A s.heap u H locs → lv_has ls 3 [(0, .ref (q 199)), (1, .int x1), (2, .int x2)] → W p l e (th_rm 0 0 0) s m args below meth c H locs 0 0 (MQ below (va_Qv K (th_Post (dC, dI) (wX cs ad q v v) A) A) args s 0 0 A) (F0 m 3 ls []) := by
  induction n with
  | zero => intro x1 x2 u H locs ls hf; exact hf.elim
  | succ n ih =>
    intro x1 x2 u H locs ls hf hw hl
    exact X_TP_put_3_w C ih x1 x2 u H locs ls hf hw hl
def X_TP_put (a1 : Int32) (u : xs_St) (K : xs_St → Prop) : Prop :=
  ∃ n, X_TP_put_3_lp K n a1 (24 : Int32) u
set_option maxHeartbeats 4000000 in
set_option maxRecDepth 100000 in
theorem X_TP_put_c {l : Launch} {dC : Nat → ClassId} {dI : Nat → Nat → Nat} {cs : Nat → ClassId} {ad ak : Nat → Nat} {q v : Nat → Nat} {a1 : Int32} {u : xs_St} {K : xs_St → Prop} (hf : X_TP_put a1 u K) : th_Cv l yX6_put cX6_put 3 (none) 0 0 0 (dC, dI) (th_ty cs) (xE ad ak) (wX cs ad q v v) [.ref (q 199), .int a1] u K := by
  refine th_ofv (by decide) (Nat.le_of_ble_eq_true rfl) (xE_ok ad ak) ?_
  intro p e s m below meth c A ls C hw hl
  have C : th_Cx p s m _ meth c cX6_put RX6 3 (none) (dC, dI) (th_ty cs) (xE ad ak) A := C
  have hl : lv_has ls 3 [(0, .ref (q 199)), (1, .int a1)] := hl
  generalize (List.toArray _ : Array Value) = args at C ⊢
  have hx := C.1
  have hb := C.2.1
  unfold X_TP_put at hf
  refine lv_bipush (v := (24 : Int32)) hx hb dX6_put_0 (by decide) ?_
  refine lv_istore_n (lv' := [(2, .int (24 : Int32)), (0, .ref (q 199)), (1, .int a1)]) hx hb dX6_put_2 rfl hl (by decide) rfl (fun ls hl => ?_)
  obtain ⟨n, hf⟩ := hf
  exact X_TP_put_3_lw C n a1 (24 : Int32) u _ _ _ hf hw (lv_sub hl [1, 2, 0] rfl)
/-! X_TP_signed -/
theorem dX6_signed_0 : decode cX6_signed 0 = .ok (.iload_n 1, 1) := by decide +kernel
theorem dX6_signed_1 : decode cX6_signed 1 = .ok (.ifCond .lt 20, 3) := by decide +kernel
theorem dX6_signed_4 : decode cX6_signed 4 = .ok (.iload_n 1, 1) := by decide +kernel
theorem dX6_signed_5 : decode cX6_signed 5 = .ok (.aload_n 0, 1) := by decide +kernel
theorem dX6_signed_6 : decode cX6_signed 6 = .ok (.getfield 13, 3) := by decide +kernel
theorem dX6_signed_9 : decode cX6_signed 9 = .ok (.if_icmp .ge 12, 3) := by decide +kernel
theorem dX6_signed_12 : decode cX6_signed 12 = .ok (.aload_n 0, 1) := by decide +kernel
theorem dX6_signed_13 : decode cX6_signed 13 = .ok (.getfield 9, 3) := by decide +kernel
theorem dX6_signed_16 : decode cX6_signed 16 = .ok (.iload_n 1, 1) := by decide +kernel
theorem dX6_signed_17 : decode cX6_signed 17 = .ok (.baload, 1) := by decide +kernel
theorem dX6_signed_18 : decode cX6_signed 18 = .ok (.goto 4, 3) := by decide +kernel
theorem dX6_signed_21 : decode cX6_signed 21 = .ok (.iconst 0, 1) := by decide +kernel
theorem dX6_signed_22 : decode cX6_signed 22 = .ok (.ireturn, 1) := by decide +kernel
def X_TP_signed_22 (K : Int32 → xs_St → Prop) (z0 : Int32) (u : xs_St) : Prop :=
  K z0 u
set_option maxHeartbeats 4000000 in
set_option maxRecDepth 100000 in
theorem X_TP_signed_22_w {K : Int32 → xs_St → Prop} (C : th_Cx p s m args meth c cX6_signed RX6 2 (some .int) (dC, dI) (th_ty cs) (xE ad ak) A) (z0 : Int32) (u : xs_St) (H : Heap) (locs : List Loc) (ls : Array Slot) (hf : X_TP_signed_22 K z0 u) (hw : th_wI (dC, dI) (wX cs ad q v v) A s.heap u H locs) (hl : lv_has ls 2 []) : W p l e (th_rm 0 0 0) s m args below meth c H locs 0 0 (MQ below (va_Qi K (th_Post (dC, dI) (wX cs ad q v v) A) A) args s 0 0 A) (F0 m 22 ls [.int z0]) := by
  have hx := C.1
  have hb := C.2.1
  unfold X_TP_signed_22 at hf
  exact th_iret C hw hf dX6_signed_22
def X_TP_signed_21 (K : Int32 → xs_St → Prop) (u : xs_St) : Prop :=
  X_TP_signed_22 K (0 : Int32) u
set_option maxHeartbeats 4000000 in
set_option maxRecDepth 100000 in
theorem X_TP_signed_21_w {K : Int32 → xs_St → Prop} (C : th_Cx p s m args meth c cX6_signed RX6 2 (some .int) (dC, dI) (th_ty cs) (xE ad ak) A) (u : xs_St) (H : Heap) (locs : List Loc) (ls : Array Slot) (hf : X_TP_signed_21 K u) (hw : th_wI (dC, dI) (wX cs ad q v v) A s.heap u H locs) (hl : lv_has ls 2 []) : W p l e (th_rm 0 0 0) s m args below meth c H locs 0 0 (MQ below (va_Qi K (th_Post (dC, dI) (wX cs ad q v v) A) A) args s 0 0 A) (F0 m 21 ls []) := by
  have hx := C.1
  have hb := C.2.1
  unfold X_TP_signed_21 at hf
  refine lv_iconst (v := (0 : Int32)) hx hb dX6_signed_21 (by decide) ?_
  exact X_TP_signed_22_w C (0 : Int32) u _ _ _ hf hw (lv_sub hl [] rfl)
def X_TP_signed (a1 : Int32) (u : xs_St) (K : Int32 → xs_St → Prop) : Prop :=
  ((a1 < 0 → X_TP_signed_21 K u) ∧ (¬ a1 < 0 → (((xi u 101) ≤ a1 → X_TP_signed_21 K u) ∧ (¬ (xi u 101) ≤ a1 → (vp_in a1 440 ∧ ∀ y_1 : Int32, y_1 = xa u 100 (a1).toNatClampNeg → X_TP_signed_22 K y_1 u)))))
set_option maxHeartbeats 4000000 in
set_option maxRecDepth 100000 in
theorem X_TP_signed_c {l : Launch} {dC : Nat → ClassId} {dI : Nat → Nat → Nat} {cs : Nat → ClassId} {ad ak : Nat → Nat} {q v : Nat → Nat} {a1 : Int32} {u : xs_St} {K : Int32 → xs_St → Prop} (hf : X_TP_signed a1 u K) : th_Ci l yX6_signed cX6_signed 2 (some .int) 0 0 0 (dC, dI) (th_ty cs) (xE ad ak) (wX cs ad q v v) [.ref (q 199), .int a1] u K := by
  refine th_ofi (by decide) (Nat.le_of_ble_eq_true rfl) (xE_ok ad ak) ?_
  intro p e s m below meth c A ls C hw hl
  have C : th_Cx p s m _ meth c cX6_signed RX6 2 (some .int) (dC, dI) (th_ty cs) (xE ad ak) A := C
  have hl : lv_has ls 2 [(0, .ref (q 199)), (1, .int a1)] := hl
  generalize (List.toArray _ : Array Value) = args at C ⊢
  have hx := C.1
  have hb := C.2.1
  unfold X_TP_signed at hf
  refine lv_iload_n hx hb dX6_signed_0 rfl (lv_at hl 1 rfl) ?_
  refine lv_if_lt (tgt := 21) hx hb dX6_signed_1 (by decide) (fun hc => ?_) (fun hc => ?_)
  · replace hf := hf.1 hc
    clear hc
    exact X_TP_signed_21_w C  u _ _ _ hf hw (lv_sub hl [] rfl)
  · replace hf := hf.2 hc
    clear hc
    refine lv_iload_n hx hb dX6_signed_4 rfl (lv_at hl 1 rfl) ?_
    refine lv_aload_n hx hb dX6_signed_5 rfl (lv_at hl 0 rfl) ?_
    refine xg_101 C hw (C.2.2.2.2.1 _ hwF_X6_13) dX6_signed_6 ?_
    refine lv_icmp_ge (tgt := 21) hx hb dX6_signed_9 (by decide) (fun hc => ?_) (fun hc => ?_)
    · replace hf := hf.1 hc
      clear hc
      exact X_TP_signed_21_w C  u _ _ _ hf hw (lv_sub hl [] rfl)
    · replace hf := hf.2 hc
      clear hc
      refine lv_aload_n hx hb dX6_signed_12 rfl (lv_at hl 0 rfl) ?_
      refine xg_100 C hw (C.2.2.2.2.1 _ hwF_X6_9) dX6_signed_13 ?_
      refine lv_iload_n hx hb dX6_signed_16 rfl (lv_at hl 1 rfl) ?_
      refine yl_100 C hw hf.1 dX6_signed_17 (fun y_1 e9 => ?_)
      replace hf := hf.2 y_1 e9
      clear e9
      refine lv_goto (tgt := 22) hx hb dX6_signed_18 (by decide) ?_
      exact X_TP_signed_22_w C y_1 u _ _ _ hf hw (lv_sub hl [] rfl)
/-! X_T_addAlarm_B -/
theorem dX7_addAlarm_0 : decode cX7_addAlarm 0 = .ok (.aload_n 0, 1) := by decide +kernel
theorem dX7_addAlarm_1 : decode cX7_addAlarm 1 = .ok (.getfield 59, 3) := by decide +kernel
theorem dX7_addAlarm_4 : decode cX7_addAlarm 4 = .ok (.bipush 6, 2) := by decide +kernel
theorem dX7_addAlarm_6 : decode cX7_addAlarm 6 = .ok (.if_icmp .ge 36, 3) := by decide +kernel
theorem dX7_addAlarm_9 : decode cX7_addAlarm 9 = .ok (.aload_n 0, 1) := by decide +kernel
theorem dX7_addAlarm_10 : decode cX7_addAlarm 10 = .ok (.getfield 19, 3) := by decide +kernel
theorem dX7_addAlarm_13 : decode cX7_addAlarm 13 = .ok (.aload_n 0, 1) := by decide +kernel
theorem dX7_addAlarm_14 : decode cX7_addAlarm 14 = .ok (.getfield 59, 3) := by decide +kernel
theorem dX7_addAlarm_17 : decode cX7_addAlarm 17 = .ok (.iload_n 1, 1) := by decide +kernel
theorem dX7_addAlarm_18 : decode cX7_addAlarm 18 = .ok (.iastore, 1) := by decide +kernel
theorem dX7_addAlarm_19 : decode cX7_addAlarm 19 = .ok (.aload_n 0, 1) := by decide +kernel
theorem dX7_addAlarm_20 : decode cX7_addAlarm 20 = .ok (.getfield 22, 3) := by decide +kernel
theorem dX7_addAlarm_23 : decode cX7_addAlarm 23 = .ok (.aload_n 0, 1) := by decide +kernel
theorem dX7_addAlarm_24 : decode cX7_addAlarm 24 = .ok (.getfield 59, 3) := by decide +kernel
theorem dX7_addAlarm_27 : decode cX7_addAlarm 27 = .ok (.aload_n 0, 1) := by decide +kernel
theorem dX7_addAlarm_28 : decode cX7_addAlarm 28 = .ok (.getfield 62, 3) := by decide +kernel
theorem dX7_addAlarm_31 : decode cX7_addAlarm 31 = .ok (.iastore, 1) := by decide +kernel
theorem dX7_addAlarm_32 : decode cX7_addAlarm 32 = .ok (.aload_n 0, 1) := by decide +kernel
theorem dX7_addAlarm_33 : decode cX7_addAlarm 33 = .ok (.dup, 1) := by decide +kernel
theorem dX7_addAlarm_34 : decode cX7_addAlarm 34 = .ok (.getfield 59, 3) := by decide +kernel
theorem dX7_addAlarm_37 : decode cX7_addAlarm 37 = .ok (.iconst 1, 1) := by decide +kernel
theorem dX7_addAlarm_38 : decode cX7_addAlarm 38 = .ok (.iadd, 1) := by decide +kernel
theorem dX7_addAlarm_39 : decode cX7_addAlarm 39 = .ok (.putfield 59, 3) := by decide +kernel
theorem dX7_addAlarm_42 : decode cX7_addAlarm 42 = .ok (.return_, 1) := by decide +kernel
def X_T_addAlarm_B_42 (K : xs_St → Prop) (u : xs_St) : Prop :=
  K u
set_option maxHeartbeats 4000000 in
set_option maxRecDepth 100000 in
theorem X_T_addAlarm_B_42_w {K : xs_St → Prop} (C : th_Cx p s m args meth c cX7_addAlarm RX7 2 (none) (dC, dI) (th_ty cs) (xE ad ak) A) (u : xs_St) (H : Heap) (locs : List Loc) (ls : Array Slot) (hf : X_T_addAlarm_B_42 K u) (hw : th_wI (dC, dI) (wX cs ad q v v) A s.heap u H locs) (hl : lv_has ls 2 []) : W p l e (th_rm 0 0 0) s m args below meth c H locs 0 0 (MQ below (va_Qv K (th_Post (dC, dI) (wX cs ad q v v) A) A) args s 0 0 A) (F0 m 42 ls []) := by
  have hx := C.1
  have hb := C.2.1
  unfold X_T_addAlarm_B_42 at hf
  exact th_vret C hw hf dX7_addAlarm_42
def X_T_addAlarm_B (a1 : Int32) (u : xs_St) (K : xs_St → Prop) : Prop :=
  (((6 : Int32) ≤ (xi u 405) → X_T_addAlarm_B_42 K u) ∧ (¬ (6 : Int32) ≤ (xi u 405) → (vp_in (xi u 405) 6 ∧ ∀ u_1 : xs_St, u_1 = xs_sa u 409 (upd (xa u 409) ((xi u 405)).toNatClampNeg a1) → (vp_in (xi u_1 405) 6 ∧ ∀ u_2 : xs_St, u_2 = xs_sa u_1 410 (upd (xa u_1 410) ((xi u_1 405)).toNatClampNeg (xi u_1 406)) → ∀ u_3 : xs_St, u_3 = xs_si u_2 405 ((xi u_2 405) + (1 : Int32)) → X_T_addAlarm_B_42 K u_3))))
set_option maxHeartbeats 4000000 in
set_option maxRecDepth 100000 in
theorem X_T_addAlarm_B_c {l : Launch} {dC : Nat → ClassId} {dI : Nat → Nat → Nat} {cs : Nat → ClassId} {ad ak : Nat → Nat} {q v : Nat → Nat} {a1 : Int32} {u : xs_St} {K : xs_St → Prop} (hf : X_T_addAlarm_B a1 u K) : th_Cv l yX7_addAlarm cX7_addAlarm 2 (none) 0 0 0 (dC, dI) (th_ty cs) (xE ad ak) (wX cs ad q v v) [.ref (v 499), .int a1] u K := by
  refine th_ofv (by decide) (Nat.le_of_ble_eq_true rfl) (xE_ok ad ak) ?_
  intro p e s m below meth c A ls C hw hl
  have C : th_Cx p s m _ meth c cX7_addAlarm RX7 2 (none) (dC, dI) (th_ty cs) (xE ad ak) A := C
  have hl : lv_has ls 2 [(0, .ref (v 499)), (1, .int a1)] := hl
  generalize (List.toArray _ : Array Value) = args at C ⊢
  have hx := C.1
  have hb := C.2.1
  unfold X_T_addAlarm_B at hf
  refine lv_aload_n hx hb dX7_addAlarm_0 rfl (lv_at hl 0 rfl) ?_
  refine xg_405 C hw (C.2.2.2.2.1 _ hwF_X7_59) dX7_addAlarm_1 ?_
  refine lv_bipush (v := (6 : Int32)) hx hb dX7_addAlarm_4 (by decide) ?_
  refine lv_icmp_ge (tgt := 42) hx hb dX7_addAlarm_6 (by decide) (fun hc => ?_) (fun hc => ?_)
  · replace hf := hf.1 hc
    clear hc
    exact X_T_addAlarm_B_42_w C  u _ _ _ hf hw (lv_sub hl [] rfl)
  · replace hf := hf.2 hc
    clear hc
    refine lv_aload_n hx hb dX7_addAlarm_9 rfl (lv_at hl 0 rfl) ?_
    refine xg_409 C hw (C.2.2.2.2.1 _ hwF_X7_19) dX7_addAlarm_10 ?_
    refine lv_aload_n hx hb dX7_addAlarm_13 rfl (lv_at hl 0 rfl) ?_
    refine xg_405 C hw (C.2.2.2.2.1 _ hwF_X7_59) dX7_addAlarm_14 ?_
    refine lv_iload_n hx hb dX7_addAlarm_17 rfl (lv_at hl 1 rfl) ?_
    refine ys_409 C hw hf.1 dX7_addAlarm_18 (fun u_1 e9 H locs hw => ?_)
    replace hf := hf.2 u_1 e9
    clear e9
    refine lv_aload_n hx hb dX7_addAlarm_19 rfl (lv_at hl 0 rfl) ?_
    refine xg_410 C hw (C.2.2.2.2.1 _ hwF_X7_22) dX7_addAlarm_20 ?_
    refine lv_aload_n hx hb dX7_addAlarm_23 rfl (lv_at hl 0 rfl) ?_
    refine xg_405 C hw (C.2.2.2.2.1 _ hwF_X7_59) dX7_addAlarm_24 ?_
    refine lv_aload_n hx hb dX7_addAlarm_27 rfl (lv_at hl 0 rfl) ?_
    refine xg_406 C hw (C.2.2.2.2.1 _ hwF_X7_62) dX7_addAlarm_28 ?_
    refine ys_410 C hw hf.1 dX7_addAlarm_31 (fun u_2 e9 H locs hw => ?_)
    replace hf := hf.2 u_2 e9
    clear e9
    refine lv_aload_n hx hb dX7_addAlarm_32 rfl (lv_at hl 0 rfl) ?_
    refine lv_dup hx hb dX7_addAlarm_33 rfl ?_
    refine xg_405 C hw (C.2.2.2.2.1 _ hwF_X7_59) dX7_addAlarm_34 ?_
    refine lv_iconst (v := (1 : Int32)) hx hb dX7_addAlarm_37 (by decide) ?_
    refine lv_iadd hx hb dX7_addAlarm_38 ?_
    refine xp_405 C hw (C.2.2.2.2.1 _ hwF_X7_59) dX7_addAlarm_39 (fun u_3 e9 H locs hw => ?_)
    replace hf := hf u_3 e9
    clear e9
    exact X_T_addAlarm_B_42_w C  u_3 _ _ _ hf hw (lv_sub hl [] rfl)
/-! X_T_addStep_B -/
theorem dX7_addStep_0 : decode cX7_addStep 0 = .ok (.aload_n 0, 1) := by decide +kernel
theorem dX7_addStep_1 : decode cX7_addStep 1 = .ok (.getfield 62, 3) := by decide +kernel
theorem dX7_addStep_4 : decode cX7_addStep 4 = .ok (.bipush 80, 2) := by decide +kernel
theorem dX7_addStep_6 : decode cX7_addStep 6 = .ok (.if_icmp .ge 23, 3) := by decide +kernel
theorem dX7_addStep_9 : decode cX7_addStep 9 = .ok (.aload_n 0, 1) := by decide +kernel
theorem dX7_addStep_10 : decode cX7_addStep 10 = .ok (.getfield 27, 3) := by decide +kernel
theorem dX7_addStep_13 : decode cX7_addStep 13 = .ok (.aload_n 0, 1) := by decide +kernel
theorem dX7_addStep_14 : decode cX7_addStep 14 = .ok (.getfield 62, 3) := by decide +kernel
theorem dX7_addStep_17 : decode cX7_addStep 17 = .ok (.aload_n 1, 1) := by decide +kernel
theorem dX7_addStep_18 : decode cX7_addStep 18 = .ok (.aastore, 1) := by decide +kernel
theorem dX7_addStep_19 : decode cX7_addStep 19 = .ok (.aload_n 0, 1) := by decide +kernel
theorem dX7_addStep_20 : decode cX7_addStep 20 = .ok (.dup, 1) := by decide +kernel
theorem dX7_addStep_21 : decode cX7_addStep 21 = .ok (.getfield 62, 3) := by decide +kernel
theorem dX7_addStep_24 : decode cX7_addStep 24 = .ok (.iconst 1, 1) := by decide +kernel
theorem dX7_addStep_25 : decode cX7_addStep 25 = .ok (.iadd, 1) := by decide +kernel
theorem dX7_addStep_26 : decode cX7_addStep 26 = .ok (.putfield 62, 3) := by decide +kernel
theorem dX7_addStep_29 : decode cX7_addStep 29 = .ok (.return_, 1) := by decide +kernel
def X_T_addStep_B_29 (K : xs_St → Prop) (u : xs_St) : Prop :=
  K u
set_option maxHeartbeats 4000000 in
set_option maxRecDepth 100000 in
theorem X_T_addStep_B_29_w {K : xs_St → Prop} (C : th_Cx p s m args meth c cX7_addStep RX7 2 (none) (dC, dI) (th_ty cs) (xE ad ak) A) (u : xs_St) (H : Heap) (locs : List Loc) (ls : Array Slot) (hf : X_T_addStep_B_29 K u) (hw : th_wI (dC, dI) (wX cs ad q v v) A s.heap u H locs) (hl : lv_has ls 2 []) : W p l e (th_rm 0 0 0) s m args below meth c H locs 0 0 (MQ below (va_Qv K (th_Post (dC, dI) (wX cs ad q v v) A) A) args s 0 0 A) (F0 m 29 ls []) := by
  have hx := C.1
  have hb := C.2.1
  unfold X_T_addStep_B_29 at hf
  exact th_vret C hw hf dX7_addStep_29
def X_T_addStep_B (a1 : Option Nat) (u : xs_St) (K : xs_St → Prop) : Prop :=
  (((80 : Int32) ≤ (xi u 406) → X_T_addStep_B_29 K u) ∧ (¬ (80 : Int32) ≤ (xi u 406) → (vp_in (xi u 406) 80 ∧ (∀ k9, a1 = some k9 → k9 < 27) ∧ ∀ u_1 : xs_St, u_1 = xs_so u 411 (va_up (xo u 411) ((xi u 406)).toNatClampNeg a1) → ∀ u_2 : xs_St, u_2 = xs_si u_1 406 ((xi u_1 406) + (1 : Int32)) → X_T_addStep_B_29 K u_2)))
set_option maxHeartbeats 4000000 in
set_option maxRecDepth 100000 in
theorem X_T_addStep_B_c {l : Launch} {dC : Nat → ClassId} {dI : Nat → Nat → Nat} {cs : Nat → ClassId} {ad ak : Nat → Nat} {q v : Nat → Nat} {a1 : Option Nat} {u : xs_St} {K : xs_St → Prop} (hf : X_T_addStep_B a1 u K) : th_Cv l yX7_addStep cX7_addStep 2 (none) 0 0 0 (dC, dI) (th_ty cs) (xE ad ak) (wX cs ad q v v) [.ref (v 499), va_re ad a1] u K := by
  refine th_ofv (by decide) (by cases a1 <;> exact Nat.le_of_ble_eq_true rfl) (xE_ok ad ak) ?_
  intro p e s m below meth c A ls C hw hl
  have C : th_Cx p s m _ meth c cX7_addStep RX7 2 (none) (dC, dI) (th_ty cs) (xE ad ak) A := C
  have hl : lv_has ls 2 [(0, .ref (v 499)), (1, va_re ad a1)] := by cases a1 <;> exact hl
  generalize (List.toArray _ : Array Value) = args at C ⊢
  have hx := C.1
  have hb := C.2.1
  unfold X_T_addStep_B at hf
  refine lv_aload_n hx hb dX7_addStep_0 rfl (lv_at hl 0 rfl) ?_
  refine xg_406 C hw (C.2.2.2.2.1 _ hwF_X7_62) dX7_addStep_1 ?_
  refine lv_bipush (v := (80 : Int32)) hx hb dX7_addStep_4 (by decide) ?_
  refine lv_icmp_ge (tgt := 29) hx hb dX7_addStep_6 (by decide) (fun hc => ?_) (fun hc => ?_)
  · replace hf := hf.1 hc
    clear hc
    exact X_T_addStep_B_29_w C  u _ _ _ hf hw (lv_sub hl [] rfl)
  · replace hf := hf.2 hc
    clear hc
    refine lv_aload_n hx hb dX7_addStep_9 rfl (lv_at hl 0 rfl) ?_
    refine xg_411 C hw (C.2.2.2.2.1 _ hwF_X7_27) dX7_addStep_10 ?_
    refine lv_aload_n hx hb dX7_addStep_13 rfl (lv_at hl 0 rfl) ?_
    refine xg_406 C hw (C.2.2.2.2.1 _ hwF_X7_62) dX7_addStep_14 ?_
    refine th_aload_n hx hb dX7_addStep_17 rfl (lv_at hl 1 rfl) ?_
    refine ys_411 C hw hf.1 hf.2.1 dX7_addStep_18 (fun u_1 e9 H locs hw => ?_)
    replace hf := hf.2.2 u_1 e9
    clear e9
    refine lv_aload_n hx hb dX7_addStep_19 rfl (lv_at hl 0 rfl) ?_
    refine lv_dup hx hb dX7_addStep_20 rfl ?_
    refine xg_406 C hw (C.2.2.2.2.1 _ hwF_X7_62) dX7_addStep_21 ?_
    refine lv_iconst (v := (1 : Int32)) hx hb dX7_addStep_24 (by decide) ?_
    refine lv_iadd hx hb dX7_addStep_25 ?_
    refine xp_406 C hw (C.2.2.2.2.1 _ hwF_X7_62) dX7_addStep_26 (fun u_2 e9 H locs hw => ?_)
    replace hf := hf u_2 e9
    clear e9
    exact X_T_addStep_B_29_w C  u_2 _ _ _ hf hw (lv_sub hl [] rfl)
/-! X_T_hasFoot_A -/
theorem dX7_hasFoot_0 : decode cX7_hasFoot 0 = .ok (.iload_n 1, 1) := by decide +kernel
theorem dX7_hasFoot_1 : decode cX7_hasFoot 1 = .ok (.ifCond .lt 15, 3) := by decide +kernel
theorem dX7_hasFoot_4 : decode cX7_hasFoot 4 = .ok (.iload_n 1, 1) := by decide +kernel
theorem dX7_hasFoot_5 : decode cX7_hasFoot 5 = .ok (.aload_n 0, 1) := by decide +kernel
theorem dX7_hasFoot_6 : decode cX7_hasFoot 6 = .ok (.getfield 43, 3) := by decide +kernel
theorem dX7_hasFoot_9 : decode cX7_hasFoot 9 = .ok (.if_icmp .ge 7, 3) := by decide +kernel
theorem dX7_hasFoot_12 : decode cX7_hasFoot 12 = .ok (.iconst 1, 1) := by decide +kernel
theorem dX7_hasFoot_13 : decode cX7_hasFoot 13 = .ok (.goto 4, 3) := by decide +kernel
theorem dX7_hasFoot_16 : decode cX7_hasFoot 16 = .ok (.iconst 0, 1) := by decide +kernel
theorem dX7_hasFoot_17 : decode cX7_hasFoot 17 = .ok (.ireturn, 1) := by decide +kernel
def X_T_hasFoot_A_17 (K : Int32 → xs_St → Prop) (z0 : Int32) (u : xs_St) : Prop :=
  ((z0 = 0 ∨ z0 = 1) ∧ K z0 u)
set_option maxHeartbeats 4000000 in
set_option maxRecDepth 100000 in
theorem X_T_hasFoot_A_17_w {K : Int32 → xs_St → Prop} (C : th_Cx p s m args meth c cX7_hasFoot RX7 2 (some .boolean) (dC, dI) (th_ty cs) (xE ad ak) A) (z0 : Int32) (u : xs_St) (H : Heap) (locs : List Loc) (ls : Array Slot) (hf : X_T_hasFoot_A_17 K z0 u) (hw : th_wI (dC, dI) (wX cs ad q v v) A s.heap u H locs) (hl : lv_has ls 2 []) : W p l e (th_rm 0 0 0) s m args below meth c H locs 0 0 (MQ below (va_Qi K (th_Post (dC, dI) (wX cs ad q v v) A) A) args s 0 0 A) (F0 m 17 ls [.int z0]) := by
  have hx := C.1
  have hb := C.2.1
  unfold X_T_hasFoot_A_17 at hf
  exact th_zret C hw hf dX7_hasFoot_17
def X_T_hasFoot_A_16 (K : Int32 → xs_St → Prop) (u : xs_St) : Prop :=
  X_T_hasFoot_A_17 K (0 : Int32) u
set_option maxHeartbeats 4000000 in
set_option maxRecDepth 100000 in
theorem X_T_hasFoot_A_16_w {K : Int32 → xs_St → Prop} (C : th_Cx p s m args meth c cX7_hasFoot RX7 2 (some .boolean) (dC, dI) (th_ty cs) (xE ad ak) A) (u : xs_St) (H : Heap) (locs : List Loc) (ls : Array Slot) (hf : X_T_hasFoot_A_16 K u) (hw : th_wI (dC, dI) (wX cs ad q v v) A s.heap u H locs) (hl : lv_has ls 2 []) : W p l e (th_rm 0 0 0) s m args below meth c H locs 0 0 (MQ below (va_Qi K (th_Post (dC, dI) (wX cs ad q v v) A) A) args s 0 0 A) (F0 m 16 ls []) := by
  have hx := C.1
  have hb := C.2.1
  unfold X_T_hasFoot_A_16 at hf
  refine lv_iconst (v := (0 : Int32)) hx hb dX7_hasFoot_16 (by decide) ?_
  exact X_T_hasFoot_A_17_w C (0 : Int32) u _ _ _ hf hw (lv_sub hl [] rfl)
def X_T_hasFoot_A (a1 : Int32) (u : xs_St) (K : Int32 → xs_St → Prop) : Prop :=
  ((a1 < 0 → X_T_hasFoot_A_16 K u) ∧ (¬ a1 < 0 → (((xi u 300) ≤ a1 → X_T_hasFoot_A_16 K u) ∧ (¬ (xi u 300) ≤ a1 → X_T_hasFoot_A_17 K (1 : Int32) u))))
set_option maxHeartbeats 4000000 in
set_option maxRecDepth 100000 in
theorem X_T_hasFoot_A_c {l : Launch} {dC : Nat → ClassId} {dI : Nat → Nat → Nat} {cs : Nat → ClassId} {ad ak : Nat → Nat} {q v : Nat → Nat} {a1 : Int32} {u : xs_St} {K : Int32 → xs_St → Prop} (hf : X_T_hasFoot_A a1 u K) : th_Ci l yX7_hasFoot cX7_hasFoot 2 (some .boolean) 0 0 0 (dC, dI) (th_ty cs) (xE ad ak) (wX cs ad q v v) [.ref (v 399), .int a1] u K := by
  refine th_ofi (by decide) (Nat.le_of_ble_eq_true rfl) (xE_ok ad ak) ?_
  intro p e s m below meth c A ls C hw hl
  have C : th_Cx p s m _ meth c cX7_hasFoot RX7 2 (some .boolean) (dC, dI) (th_ty cs) (xE ad ak) A := C
  have hl : lv_has ls 2 [(0, .ref (v 399)), (1, .int a1)] := hl
  generalize (List.toArray _ : Array Value) = args at C ⊢
  have hx := C.1
  have hb := C.2.1
  unfold X_T_hasFoot_A at hf
  refine lv_iload_n hx hb dX7_hasFoot_0 rfl (lv_at hl 1 rfl) ?_
  refine lv_if_lt (tgt := 16) hx hb dX7_hasFoot_1 (by decide) (fun hc => ?_) (fun hc => ?_)
  · replace hf := hf.1 hc
    clear hc
    exact X_T_hasFoot_A_16_w C  u _ _ _ hf hw (lv_sub hl [] rfl)
  · replace hf := hf.2 hc
    clear hc
    refine lv_iload_n hx hb dX7_hasFoot_4 rfl (lv_at hl 1 rfl) ?_
    refine lv_aload_n hx hb dX7_hasFoot_5 rfl (lv_at hl 0 rfl) ?_
    refine xg_300 C hw (C.2.2.2.2.1 _ hwF_X7_43) dX7_hasFoot_6 ?_
    refine lv_icmp_ge (tgt := 16) hx hb dX7_hasFoot_9 (by decide) (fun hc => ?_) (fun hc => ?_)
    · replace hf := hf.1 hc
      clear hc
      exact X_T_hasFoot_A_16_w C  u _ _ _ hf hw (lv_sub hl [] rfl)
    · replace hf := hf.2 hc
      clear hc
      refine lv_iconst (v := (1 : Int32)) hx hb dX7_hasFoot_12 (by decide) ?_
      refine lv_goto (tgt := 17) hx hb dX7_hasFoot_13 (by decide) ?_
      exact X_T_hasFoot_A_17_w C (1 : Int32) u _ _ _ hf hw (lv_sub hl [] rfl)
/-! X_T_hasFoot_B -/
def X_T_hasFoot_B_17 (K : Int32 → xs_St → Prop) (z0 : Int32) (u : xs_St) : Prop :=
  ((z0 = 0 ∨ z0 = 1) ∧ K z0 u)
set_option maxHeartbeats 4000000 in
set_option maxRecDepth 100000 in
theorem X_T_hasFoot_B_17_w {K : Int32 → xs_St → Prop} (C : th_Cx p s m args meth c cX7_hasFoot RX7 2 (some .boolean) (dC, dI) (th_ty cs) (xE ad ak) A) (z0 : Int32) (u : xs_St) (H : Heap) (locs : List Loc) (ls : Array Slot) (hf : X_T_hasFoot_B_17 K z0 u) (hw : th_wI (dC, dI) (wX cs ad q v v) A s.heap u H locs) (hl : lv_has ls 2 []) : W p l e (th_rm 0 0 0) s m args below meth c H locs 0 0 (MQ below (va_Qi K (th_Post (dC, dI) (wX cs ad q v v) A) A) args s 0 0 A) (F0 m 17 ls [.int z0]) := by
  have hx := C.1
  have hb := C.2.1
  unfold X_T_hasFoot_B_17 at hf
  exact th_zret C hw hf dX7_hasFoot_17
def X_T_hasFoot_B_16 (K : Int32 → xs_St → Prop) (u : xs_St) : Prop :=
  X_T_hasFoot_B_17 K (0 : Int32) u
set_option maxHeartbeats 4000000 in
set_option maxRecDepth 100000 in
theorem X_T_hasFoot_B_16_w {K : Int32 → xs_St → Prop} (C : th_Cx p s m args meth c cX7_hasFoot RX7 2 (some .boolean) (dC, dI) (th_ty cs) (xE ad ak) A) (u : xs_St) (H : Heap) (locs : List Loc) (ls : Array Slot) (hf : X_T_hasFoot_B_16 K u) (hw : th_wI (dC, dI) (wX cs ad q v v) A s.heap u H locs) (hl : lv_has ls 2 []) : W p l e (th_rm 0 0 0) s m args below meth c H locs 0 0 (MQ below (va_Qi K (th_Post (dC, dI) (wX cs ad q v v) A) A) args s 0 0 A) (F0 m 16 ls []) := by
  have hx := C.1
  have hb := C.2.1
  unfold X_T_hasFoot_B_16 at hf
  refine lv_iconst (v := (0 : Int32)) hx hb dX7_hasFoot_16 (by decide) ?_
  exact X_T_hasFoot_B_17_w C (0 : Int32) u _ _ _ hf hw (lv_sub hl [] rfl)
def X_T_hasFoot_B (a1 : Int32) (u : xs_St) (K : Int32 → xs_St → Prop) : Prop :=
  ((a1 < 0 → X_T_hasFoot_B_16 K u) ∧ (¬ a1 < 0 → (((xi u 400) ≤ a1 → X_T_hasFoot_B_16 K u) ∧ (¬ (xi u 400) ≤ a1 → X_T_hasFoot_B_17 K (1 : Int32) u))))
set_option maxHeartbeats 4000000 in
set_option maxRecDepth 100000 in
theorem X_T_hasFoot_B_c {l : Launch} {dC : Nat → ClassId} {dI : Nat → Nat → Nat} {cs : Nat → ClassId} {ad ak : Nat → Nat} {q v : Nat → Nat} {a1 : Int32} {u : xs_St} {K : Int32 → xs_St → Prop} (hf : X_T_hasFoot_B a1 u K) : th_Ci l yX7_hasFoot cX7_hasFoot 2 (some .boolean) 0 0 0 (dC, dI) (th_ty cs) (xE ad ak) (wX cs ad q v v) [.ref (v 499), .int a1] u K := by
  refine th_ofi (by decide) (Nat.le_of_ble_eq_true rfl) (xE_ok ad ak) ?_
  intro p e s m below meth c A ls C hw hl
  have C : th_Cx p s m _ meth c cX7_hasFoot RX7 2 (some .boolean) (dC, dI) (th_ty cs) (xE ad ak) A := C
  have hl : lv_has ls 2 [(0, .ref (v 499)), (1, .int a1)] := hl
  generalize (List.toArray _ : Array Value) = args at C ⊢
  have hx := C.1
  have hb := C.2.1
  unfold X_T_hasFoot_B at hf
  refine lv_iload_n hx hb dX7_hasFoot_0 rfl (lv_at hl 1 rfl) ?_
  refine lv_if_lt (tgt := 16) hx hb dX7_hasFoot_1 (by decide) (fun hc => ?_) (fun hc => ?_)
  · replace hf := hf.1 hc
    clear hc
    exact X_T_hasFoot_B_16_w C  u _ _ _ hf hw (lv_sub hl [] rfl)
  · replace hf := hf.2 hc
    clear hc
    refine lv_iload_n hx hb dX7_hasFoot_4 rfl (lv_at hl 1 rfl) ?_
    refine lv_aload_n hx hb dX7_hasFoot_5 rfl (lv_at hl 0 rfl) ?_
    refine xg_400 C hw (C.2.2.2.2.1 _ hwF_X7_43) dX7_hasFoot_6 ?_
    refine lv_icmp_ge (tgt := 16) hx hb dX7_hasFoot_9 (by decide) (fun hc => ?_) (fun hc => ?_)
    · replace hf := hf.1 hc
      clear hc
      exact X_T_hasFoot_B_16_w C  u _ _ _ hf hw (lv_sub hl [] rfl)
    · replace hf := hf.2 hc
      clear hc
      refine lv_iconst (v := (1 : Int32)) hx hb dX7_hasFoot_12 (by decide) ?_
      refine lv_goto (tgt := 17) hx hb dX7_hasFoot_13 (by decide) ?_
      exact X_T_hasFoot_B_17_w C (1 : Int32) u _ _ _ hf hw (lv_sub hl [] rfl)
/-! X_T_slipsAt_A -/
theorem dX7_slipsAt_0 : decode cX7_slipsAt 0 = .ok (.iload_n 1, 1) := by decide +kernel
theorem dX7_slipsAt_1 : decode cX7_slipsAt 1 = .ok (.ifCond .lt 41, 3) := by decide +kernel
theorem dX7_slipsAt_4 : decode cX7_slipsAt 4 = .ok (.iload_n 1, 1) := by decide +kernel
theorem dX7_slipsAt_5 : decode cX7_slipsAt 5 = .ok (.iconst 1, 1) := by decide +kernel
theorem dX7_slipsAt_6 : decode cX7_slipsAt 6 = .ok (.iadd, 1) := by decide +kernel
theorem dX7_slipsAt_7 : decode cX7_slipsAt 7 = .ok (.aload_n 2, 1) := by decide +kernel
theorem dX7_slipsAt_8 : decode cX7_slipsAt 8 = .ok (.arraylength, 1) := by decide +kernel
theorem dX7_slipsAt_9 : decode cX7_slipsAt 9 = .ok (.if_icmp .ge 33, 3) := by decide +kernel
theorem dX7_slipsAt_12 : decode cX7_slipsAt 12 = .ok (.iload_n 1, 1) := by decide +kernel
theorem dX7_slipsAt_13 : decode cX7_slipsAt 13 = .ok (.iconst 1, 1) := by decide +kernel
theorem dX7_slipsAt_14 : decode cX7_slipsAt 14 = .ok (.iadd, 1) := by decide +kernel
theorem dX7_slipsAt_15 : decode cX7_slipsAt 15 = .ok (.aload_n 0, 1) := by decide +kernel
theorem dX7_slipsAt_16 : decode cX7_slipsAt 16 = .ok (.getfield 43, 3) := by decide +kernel
theorem dX7_slipsAt_19 : decode cX7_slipsAt 19 = .ok (.if_icmp .ge 23, 3) := by decide +kernel
theorem dX7_slipsAt_22 : decode cX7_slipsAt 22 = .ok (.aload_n 0, 1) := by decide +kernel
theorem dX7_slipsAt_23 : decode cX7_slipsAt 23 = .ok (.getfield 9, 3) := by decide +kernel
theorem dX7_slipsAt_26 : decode cX7_slipsAt 26 = .ok (.iload_n 1, 1) := by decide +kernel
theorem dX7_slipsAt_27 : decode cX7_slipsAt 27 = .ok (.baload, 1) := by decide +kernel
theorem dX7_slipsAt_28 : decode cX7_slipsAt 28 = .ok (.ifCond .ne 14, 3) := by decide +kernel
theorem dX7_slipsAt_31 : decode cX7_slipsAt 31 = .ok (.aload_n 0, 1) := by decide +kernel
theorem dX7_slipsAt_32 : decode cX7_slipsAt 32 = .ok (.getfield 9, 3) := by decide +kernel
theorem dX7_slipsAt_35 : decode cX7_slipsAt 35 = .ok (.iload_n 1, 1) := by decide +kernel
theorem dX7_slipsAt_36 : decode cX7_slipsAt 36 = .ok (.iconst 1, 1) := by decide +kernel
theorem dX7_slipsAt_37 : decode cX7_slipsAt 37 = .ok (.iadd, 1) := by decide +kernel
theorem dX7_slipsAt_38 : decode cX7_slipsAt 38 = .ok (.baload, 1) := by decide +kernel
theorem dX7_slipsAt_39 : decode cX7_slipsAt 39 = .ok (.ifCond .eq 5, 3) := by decide +kernel
theorem dX7_slipsAt_42 : decode cX7_slipsAt 42 = .ok (.iconst 0, 1) := by decide +kernel
theorem dX7_slipsAt_43 : decode cX7_slipsAt 43 = .ok (.ireturn, 1) := by decide +kernel
theorem dX7_slipsAt_44 : decode cX7_slipsAt 44 = .ok (.aload_n 2, 1) := by decide +kernel
theorem dX7_slipsAt_45 : decode cX7_slipsAt 45 = .ok (.iload_n 1, 1) := by decide +kernel
theorem dX7_slipsAt_46 : decode cX7_slipsAt 46 = .ok (.iaload, 1) := by decide +kernel
theorem dX7_slipsAt_47 : decode cX7_slipsAt 47 = .ok (.aload_n 2, 1) := by decide +kernel
theorem dX7_slipsAt_48 : decode cX7_slipsAt 48 = .ok (.iload_n 1, 1) := by decide +kernel
theorem dX7_slipsAt_49 : decode cX7_slipsAt 49 = .ok (.iconst 1, 1) := by decide +kernel
theorem dX7_slipsAt_50 : decode cX7_slipsAt 50 = .ok (.iadd, 1) := by decide +kernel
theorem dX7_slipsAt_51 : decode cX7_slipsAt 51 = .ok (.iaload, 1) := by decide +kernel
theorem dX7_slipsAt_52 : decode cX7_slipsAt 52 = .ok (.isub, 1) := by decide +kernel
theorem dX7_slipsAt_53 : decode cX7_slipsAt 53 = .ok (.istore_n 3, 1) := by decide +kernel
theorem dX7_slipsAt_54 : decode cX7_slipsAt 54 = .ok (.iload_n 3, 1) := by decide +kernel
theorem dX7_slipsAt_55 : decode cX7_slipsAt 55 = .ok (.aload_n 0, 1) := by decide +kernel
theorem dX7_slipsAt_56 : decode cX7_slipsAt 56 = .ok (.getfield 15, 3) := by decide +kernel
theorem dX7_slipsAt_59 : decode cX7_slipsAt 59 = .ok (.iload_n 1, 1) := by decide +kernel
theorem dX7_slipsAt_60 : decode cX7_slipsAt 60 = .ok (.iaload, 1) := by decide +kernel
theorem dX7_slipsAt_61 : decode cX7_slipsAt 61 = .ok (.if_icmp .gt 14, 3) := by decide +kernel
theorem dX7_slipsAt_64 : decode cX7_slipsAt 64 = .ok (.iload_n 3, 1) := by decide +kernel
theorem dX7_slipsAt_65 : decode cX7_slipsAt 65 = .ok (.ineg, 1) := by decide +kernel
theorem dX7_slipsAt_66 : decode cX7_slipsAt 66 = .ok (.aload_n 0, 1) := by decide +kernel
theorem dX7_slipsAt_67 : decode cX7_slipsAt 67 = .ok (.getfield 15, 3) := by decide +kernel
theorem dX7_slipsAt_70 : decode cX7_slipsAt 70 = .ok (.iload_n 1, 1) := by decide +kernel
theorem dX7_slipsAt_71 : decode cX7_slipsAt 71 = .ok (.iaload, 1) := by decide +kernel
theorem dX7_slipsAt_72 : decode cX7_slipsAt 72 = .ok (.if_icmp .le 7, 3) := by decide +kernel
theorem dX7_slipsAt_75 : decode cX7_slipsAt 75 = .ok (.iconst 1, 1) := by decide +kernel
theorem dX7_slipsAt_76 : decode cX7_slipsAt 76 = .ok (.goto 4, 3) := by decide +kernel
theorem dX7_slipsAt_79 : decode cX7_slipsAt 79 = .ok (.iconst 0, 1) := by decide +kernel
theorem dX7_slipsAt_80 : decode cX7_slipsAt 80 = .ok (.ireturn, 1) := by decide +kernel
def X_T_slipsAt_A_42 (K : Int32 → xs_St → Prop) (u : xs_St) : Prop :=
  (((0 : Int32) = 0 ∨ (0 : Int32) = 1) ∧ K (0 : Int32) u)
set_option maxHeartbeats 4000000 in
set_option maxRecDepth 100000 in
theorem X_T_slipsAt_A_42_w {K : Int32 → xs_St → Prop} (C : th_Cx p s m args meth c cX7_slipsAt RX7 4 (some .boolean) (dC, dI) (th_ty cs) (xE ad ak) A) (u : xs_St) (H : Heap) (locs : List Loc) (ls : Array Slot) (hf : X_T_slipsAt_A_42 K u) (hw : th_wI (dC, dI) (wX cs ad q v v) A s.heap u H locs) (hl : lv_has ls 4 []) : W p l e (th_rm 0 0 0) s m args below meth c H locs 0 0 (MQ below (va_Qi K (th_Post (dC, dI) (wX cs ad q v v) A) A) args s 0 0 A) (F0 m 42 ls []) := by
  have hx := C.1
  have hb := C.2.1
  unfold X_T_slipsAt_A_42 at hf
  refine lv_iconst (v := (0 : Int32)) hx hb dX7_slipsAt_42 (by decide) ?_
  exact th_zret C hw hf dX7_slipsAt_43
def X_T_slipsAt_A_80 (K : Int32 → xs_St → Prop) (z0 : Int32) (u : xs_St) : Prop :=
  ((z0 = 0 ∨ z0 = 1) ∧ K z0 u)
set_option maxHeartbeats 4000000 in
set_option maxRecDepth 100000 in
theorem X_T_slipsAt_A_80_w {K : Int32 → xs_St → Prop} (C : th_Cx p s m args meth c cX7_slipsAt RX7 4 (some .boolean) (dC, dI) (th_ty cs) (xE ad ak) A) (z0 : Int32) (u : xs_St) (H : Heap) (locs : List Loc) (ls : Array Slot) (hf : X_T_slipsAt_A_80 K z0 u) (hw : th_wI (dC, dI) (wX cs ad q v v) A s.heap u H locs) (hl : lv_has ls 4 []) : W p l e (th_rm 0 0 0) s m args below meth c H locs 0 0 (MQ below (va_Qi K (th_Post (dC, dI) (wX cs ad q v v) A) A) args s 0 0 A) (F0 m 80 ls [.int z0]) := by
  have hx := C.1
  have hb := C.2.1
  unfold X_T_slipsAt_A_80 at hf
  exact th_zret C hw hf dX7_slipsAt_80
def X_T_slipsAt_A_75 (K : Int32 → xs_St → Prop) (u : xs_St) : Prop :=
  X_T_slipsAt_A_80 K (1 : Int32) u
set_option maxHeartbeats 4000000 in
set_option maxRecDepth 100000 in
theorem X_T_slipsAt_A_75_w {K : Int32 → xs_St → Prop} (C : th_Cx p s m args meth c cX7_slipsAt RX7 4 (some .boolean) (dC, dI) (th_ty cs) (xE ad ak) A) (u : xs_St) (H : Heap) (locs : List Loc) (ls : Array Slot) (hf : X_T_slipsAt_A_75 K u) (hw : th_wI (dC, dI) (wX cs ad q v v) A s.heap u H locs) (hl : lv_has ls 4 []) : W p l e (th_rm 0 0 0) s m args below meth c H locs 0 0 (MQ below (va_Qi K (th_Post (dC, dI) (wX cs ad q v v) A) A) args s 0 0 A) (F0 m 75 ls []) := by
  have hx := C.1
  have hb := C.2.1
  unfold X_T_slipsAt_A_75 at hf
  refine lv_iconst (v := (1 : Int32)) hx hb dX7_slipsAt_75 (by decide) ?_
  refine lv_goto (tgt := 80) hx hb dX7_slipsAt_76 (by decide) ?_
  exact X_T_slipsAt_A_80_w C (1 : Int32) u _ _ _ hf hw (lv_sub hl [] rfl)
def X_T_slipsAt_A (a1 : Int32) (a2 : Option Nat) (u : xs_St) (K : Int32 → xs_St → Prop) : Prop :=
  ((a1 < 0 → X_T_slipsAt_A_42 K u) ∧ (¬ a1 < 0 → (∃ b_1 : Nat, a2 = some b_1 ∧ xd_is u b_1 4 ∧ (((nI (xdN u b_1)) ≤ (a1 + (1 : Int32)) → X_T_slipsAt_A_42 K u) ∧ (¬ (nI (xdN u b_1)) ≤ (a1 + (1 : Int32)) → (((xi u 300) ≤ (a1 + (1 : Int32)) → X_T_slipsAt_A_42 K u) ∧ (¬ (xi u 300) ≤ (a1 + (1 : Int32)) → (vp_in a1 48 ∧ ∀ y_2 : Int32, y_2 = xa u 307 (a1).toNatClampNeg → ((¬ y_2 = 0 → X_T_slipsAt_A_42 K u) ∧ (y_2 = 0 → (vp_in (a1 + (1 : Int32)) 48 ∧ ∀ y_3 : Int32, y_3 = xa u 307 ((a1 + (1 : Int32))).toNatClampNeg → ((y_3 = 0 → (∃ b_5 : Nat, a2 = some b_5 ∧ xd_is u b_5 4 ∧ (vp_in a1 (xdN u b_5) ∧ ∀ y_4 : Int32, y_4 = xdA u b_5 (a1).toNatClampNeg → (∃ b_7 : Nat, a2 = some b_7 ∧ xd_is u b_7 4 ∧ (vp_in (a1 + (1 : Int32)) (xdN u b_7) ∧ ∀ y_6 : Int32, y_6 = xdA u b_7 ((a1 + (1 : Int32))).toNatClampNeg → ∀ y_8 : Int32, y_8 = (y_4 - y_6) → (vp_in a1 48 ∧ ∀ y_9 : Int32, y_9 = xa u 308 (a1).toNatClampNeg → ((y_9 < y_8 → X_T_slipsAt_A_75 K u) ∧ (¬ y_9 < y_8 → (vp_in a1 48 ∧ ∀ y_10 : Int32, y_10 = xa u 308 (a1).toNatClampNeg → (((-y_8) ≤ y_10 → X_T_slipsAt_A_80 K (0 : Int32) u) ∧ (¬ (-y_8) ≤ y_10 → X_T_slipsAt_A_75 K u))))))))))) ∧ (¬ y_3 = 0 → X_T_slipsAt_A_42 K u)))))))))))))
set_option maxHeartbeats 4000000 in
set_option maxRecDepth 100000 in
theorem X_T_slipsAt_A_c {l : Launch} {dC : Nat → ClassId} {dI : Nat → Nat → Nat} {cs : Nat → ClassId} {ad ak : Nat → Nat} {q v : Nat → Nat} {a1 : Int32} {a2 : Option Nat} {u : xs_St} {K : Int32 → xs_St → Prop} (hf : X_T_slipsAt_A a1 a2 u K) : th_Ci l yX7_slipsAt cX7_slipsAt 4 (some .boolean) 0 0 0 (dC, dI) (th_ty cs) (xE ad ak) (wX cs ad q v v) [.ref (v 399), .int a1, va_rf a2] u K := by
  refine th_ofi (by decide) (by cases a2 <;> exact Nat.le_of_ble_eq_true rfl) (xE_ok ad ak) ?_
  intro p e s m below meth c A ls C hw hl
  have C : th_Cx p s m _ meth c cX7_slipsAt RX7 4 (some .boolean) (dC, dI) (th_ty cs) (xE ad ak) A := C
  have hl : lv_has ls 4 [(0, .ref (v 399)), (1, .int a1), (2, va_rf a2)] := by cases a2 <;> exact hl
  generalize (List.toArray _ : Array Value) = args at C ⊢
  have hx := C.1
  have hb := C.2.1
  unfold X_T_slipsAt_A at hf
  refine lv_iload_n hx hb dX7_slipsAt_0 rfl (lv_at hl 1 rfl) ?_
  refine lv_if_lt (tgt := 42) hx hb dX7_slipsAt_1 (by decide) (fun hc => ?_) (fun hc => ?_)
  · replace hf := hf.1 hc
    clear hc
    exact X_T_slipsAt_A_42_w C  u _ _ _ hf hw (lv_sub hl [] rfl)
  · replace hf := hf.2 hc
    clear hc
    refine lv_iload_n hx hb dX7_slipsAt_4 rfl (lv_at hl 1 rfl) ?_
    refine lv_iconst (v := (1 : Int32)) hx hb dX7_slipsAt_5 (by decide) ?_
    refine lv_iadd hx hb dX7_slipsAt_6 ?_
    refine th_aload_n hx hb dX7_slipsAt_7 rfl (lv_at hl 2 rfl) ?_
    obtain ⟨b_1, e9, hm, hf⟩ := hf
    refine W.eq (g2 := F0 m 8 ls [.ref b_1, .int (a1 + (1 : Int32))]) (congrArg (fun z9 => F0 m 8 ls [va_rf z9, .int (a1 + (1 : Int32))]) e9) ?_
    clear e9
    refine xdn_4 C hw hm dX7_slipsAt_8 ?_
    refine lv_icmp_ge (tgt := 42) hx hb dX7_slipsAt_9 (by decide) (fun hc => ?_) (fun hc => ?_)
    · replace hf := hf.1 hc
      clear hc
      exact X_T_slipsAt_A_42_w C  u _ _ _ hf hw (lv_sub hl [] rfl)
    · replace hf := hf.2 hc
      clear hc
      refine lv_iload_n hx hb dX7_slipsAt_12 rfl (lv_at hl 1 rfl) ?_
      refine lv_iconst (v := (1 : Int32)) hx hb dX7_slipsAt_13 (by decide) ?_
      refine lv_iadd hx hb dX7_slipsAt_14 ?_
      refine lv_aload_n hx hb dX7_slipsAt_15 rfl (lv_at hl 0 rfl) ?_
      refine xg_300 C hw (C.2.2.2.2.1 _ hwF_X7_43) dX7_slipsAt_16 ?_
      refine lv_icmp_ge (tgt := 42) hx hb dX7_slipsAt_19 (by decide) (fun hc => ?_) (fun hc => ?_)
      · replace hf := hf.1 hc
        clear hc
        exact X_T_slipsAt_A_42_w C  u _ _ _ hf hw (lv_sub hl [] rfl)
      · replace hf := hf.2 hc
        clear hc
        refine lv_aload_n hx hb dX7_slipsAt_22 rfl (lv_at hl 0 rfl) ?_
        refine xg_307 C hw (C.2.2.2.2.1 _ hwF_X7_9) dX7_slipsAt_23 ?_
        refine lv_iload_n hx hb dX7_slipsAt_26 rfl (lv_at hl 1 rfl) ?_
        refine yl_307 C hw hf.1 dX7_slipsAt_27 (fun y_2 e9 => ?_)
        replace hf := hf.2 y_2 e9
        clear e9
        refine lv_if_ne (tgt := 42) hx hb dX7_slipsAt_28 (by decide) (fun hc => ?_) (fun hc => ?_)
        · replace hf := hf.1 hc
          clear hc
          exact X_T_slipsAt_A_42_w C  u _ _ _ hf hw (lv_sub hl [] rfl)
        · replace hf := hf.2 hc
          clear hc
          refine lv_aload_n hx hb dX7_slipsAt_31 rfl (lv_at hl 0 rfl) ?_
          refine xg_307 C hw (C.2.2.2.2.1 _ hwF_X7_9) dX7_slipsAt_32 ?_
          refine lv_iload_n hx hb dX7_slipsAt_35 rfl (lv_at hl 1 rfl) ?_
          refine lv_iconst (v := (1 : Int32)) hx hb dX7_slipsAt_36 (by decide) ?_
          refine lv_iadd hx hb dX7_slipsAt_37 ?_
          refine yl_307 C hw hf.1 dX7_slipsAt_38 (fun y_3 e9 => ?_)
          replace hf := hf.2 y_3 e9
          clear e9
          refine lv_if_eq (tgt := 44) hx hb dX7_slipsAt_39 (by decide) (fun hc => ?_) (fun hc => ?_)
          · replace hf := hf.1 hc
            clear hc
            refine th_aload_n hx hb dX7_slipsAt_44 rfl (lv_at hl 2 rfl) ?_
            refine lv_iload_n hx hb dX7_slipsAt_45 rfl (lv_at hl 1 rfl) ?_
            obtain ⟨b_5, e9, hm, hf⟩ := hf
            refine W.eq (g2 := F0 m 46 ls [.int a1, .ref b_5]) (congrArg (fun z9 => F0 m 46 ls [.int a1, va_rf z9]) e9) ?_
            clear e9
            refine xdl_4 C hw hm hf.1 dX7_slipsAt_46 (fun y_4 e9 => ?_)
            replace hf := hf.2 y_4 e9
            clear e9
            refine th_aload_n hx hb dX7_slipsAt_47 rfl (lv_at hl 2 rfl) ?_
            refine lv_iload_n hx hb dX7_slipsAt_48 rfl (lv_at hl 1 rfl) ?_
            refine lv_iconst (v := (1 : Int32)) hx hb dX7_slipsAt_49 (by decide) ?_
            refine lv_iadd hx hb dX7_slipsAt_50 ?_
            obtain ⟨b_7, e9, hm, hf⟩ := hf
            refine W.eq (g2 := F0 m 51 ls [.int (a1 + (1 : Int32)), .ref b_7, .int y_4]) (congrArg (fun z9 => F0 m 51 ls [.int (a1 + (1 : Int32)), va_rf z9, .int y_4]) e9) ?_
            clear e9
            refine xdl_4 C hw hm hf.1 dX7_slipsAt_51 (fun y_6 e9 => ?_)
            replace hf := hf.2 y_6 e9
            clear e9
            refine lv_isub hx hb dX7_slipsAt_52 ?_
            refine lv_topi (fun y_8 e9 => ?_)
            replace hf := hf y_8 e9
            clear e9
            refine lv_istore_n (i := 3) (lv' := [(3, .int y_8), (0, .ref (v 399)), (1, .int a1), (2, va_rf a2)]) hx hb dX7_slipsAt_53 rfl hl (by decide) (by simp [List.filter, th_cat, th_cate]) (fun ls hl => ?_)
            refine lv_iload_n hx hb dX7_slipsAt_54 rfl (lv_at hl 0 rfl) ?_
            refine lv_aload_n hx hb dX7_slipsAt_55 rfl (lv_at hl 1 rfl) ?_
            refine xg_308 C hw (C.2.2.2.2.1 _ hwF_X7_15) dX7_slipsAt_56 ?_
            refine lv_iload_n hx hb dX7_slipsAt_59 rfl (lv_at hl 2 rfl) ?_
            refine yl_308 C hw hf.1 dX7_slipsAt_60 (fun y_9 e9 => ?_)
            replace hf := hf.2 y_9 e9
            clear e9
            refine lv_icmp_gt (tgt := 75) hx hb dX7_slipsAt_61 (by decide) (fun hc => ?_) (fun hc => ?_)
            · replace hf := hf.1 hc
              clear hc
              exact X_T_slipsAt_A_75_w C  u _ _ _ hf hw (lv_sub hl [] rfl)
            · replace hf := hf.2 hc
              clear hc
              refine lv_iload_n hx hb dX7_slipsAt_64 rfl (lv_at hl 0 rfl) ?_
              refine lv_ineg hx hb dX7_slipsAt_65 ?_
              refine lv_aload_n hx hb dX7_slipsAt_66 rfl (lv_at hl 1 rfl) ?_
              refine xg_308 C hw (C.2.2.2.2.1 _ hwF_X7_15) dX7_slipsAt_67 ?_
              refine lv_iload_n hx hb dX7_slipsAt_70 rfl (lv_at hl 2 rfl) ?_
              refine yl_308 C hw hf.1 dX7_slipsAt_71 (fun y_10 e9 => ?_)
              replace hf := hf.2 y_10 e9
              clear e9
              refine lv_icmp_le (tgt := 79) hx hb dX7_slipsAt_72 (by decide) (fun hc => ?_) (fun hc => ?_)
              · replace hf := hf.1 hc
                clear hc
                refine lv_iconst (v := (0 : Int32)) hx hb dX7_slipsAt_79 (by decide) ?_
                exact X_T_slipsAt_A_80_w C (0 : Int32) u _ _ _ hf hw (lv_sub hl [] rfl)
              · replace hf := hf.2 hc
                clear hc
                exact X_T_slipsAt_A_75_w C  u _ _ _ hf hw (lv_sub hl [] rfl)
          · replace hf := hf.2 hc
            clear hc
            exact X_T_slipsAt_A_42_w C  u _ _ _ hf hw (lv_sub hl [] rfl)
/-! X_US_atMost -/
theorem dX9_atMost_0 : decode cX9_atMost 0 = .ok (.lload_n 0, 1) := by decide +kernel
theorem dX9_atMost_1 : decode cX9_atMost 1 = .ok (.ldc2_w 65, 3) := by decide +kernel
theorem dX9_atMost_4 : decode cX9_atMost 4 = .ok (.lcmp, 1) := by decide +kernel
theorem dX9_atMost_5 : decode cX9_atMost 5 = .ok (.ifCond .ge 7, 3) := by decide +kernel
theorem dX9_atMost_8 : decode cX9_atMost 8 = .ok (.lload_n 0, 1) := by decide +kernel
theorem dX9_atMost_9 : decode cX9_atMost 9 = .ok (.goto 6, 3) := by decide +kernel
theorem dX9_atMost_12 : decode cX9_atMost 12 = .ok (.ldc2_w 65, 3) := by decide +kernel
theorem dX9_atMost_15 : decode cX9_atMost 15 = .ok (.lreturn, 1) := by decide +kernel
def X_US_atMost_15 (K : Int64 → xs_St → Prop) (z0 : Int64) (u : xs_St) : Prop :=
  K z0 u
set_option maxHeartbeats 4000000 in
set_option maxRecDepth 100000 in
theorem X_US_atMost_15_w {K : Int64 → xs_St → Prop} (C : th_Cx p s m args meth c cX9_atMost RX9 2 (some .long) (dC, dI) (th_ty cs) (xE ad ak) A) (z0 : Int64) (u : xs_St) (H : Heap) (locs : List Loc) (ls : Array Slot) (hf : X_US_atMost_15 K z0 u) (hw : th_wI (dC, dI) (wX cs ad q v v) A s.heap u H locs) (hl : lv_has ls 2 []) : W p l e (th_rm 0 0 0) s m args below meth c H locs 0 0 (MQ below (va_Ql K (th_Post (dC, dI) (wX cs ad q v v) A) A) args s 0 0 A) (F0 m 15 ls [.long z0]) := by
  have hx := C.1
  have hb := C.2.1
  unfold X_US_atMost_15 at hf
  exact th_lret C hw hf dX9_atMost_15
def X_US_atMost (a1 : Int64) (u : xs_St) (K : Int64 → xs_St → Prop) : Prop :=
  ((0 ≤ (lg_cmp a1 (1000000000000000 : Int64)) → X_US_atMost_15 K (1000000000000000 : Int64) u) ∧ (¬ 0 ≤ (lg_cmp a1 (1000000000000000 : Int64)) → X_US_atMost_15 K a1 u))
set_option maxHeartbeats 4000000 in
set_option maxRecDepth 100000 in
theorem X_US_atMost_c {l : Launch} {dC : Nat → ClassId} {dI : Nat → Nat → Nat} {cs : Nat → ClassId} {ad ak : Nat → Nat} {q v : Nat → Nat} {a1 : Int64} {u : xs_St} {K : Int64 → xs_St → Prop} (hf : X_US_atMost a1 u K) : th_Cl l yX9_atMost cX9_atMost 2 (some .long) 0 0 0 (dC, dI) (th_ty cs) (xE ad ak) (wX cs ad q v v) [.long a1] u K := by
  refine th_ofl (by decide) (Nat.le_of_ble_eq_true rfl) (xE_ok ad ak) ?_
  intro p e s m below meth c A ls C hw hl
  have C : th_Cx p s m _ meth c cX9_atMost RX9 2 (some .long) (dC, dI) (th_ty cs) (xE ad ak) A := C
  have hl : lv_has ls 2 [(0, .long a1)] := hl
  generalize (List.toArray _ : Array Value) = args at C ⊢
  have hx := C.1
  have hb := C.2.1
  unfold X_US_atMost at hf
  refine lv_lload_n hx hb dX9_atMost_0 rfl (lv_at hl 0 rfl) ?_
  refine lv_ldc2 hx hb C.2.2.2.1 (C.2.2.2.2.1 _ hwK_X9_65) dX9_atMost_1 ?_
  refine W.lcmp hx hb dX9_atMost_4 ?_
  refine lv_if_ge (tgt := 12) hx hb dX9_atMost_5 (by decide) (fun hc => ?_) (fun hc => ?_)
  · replace hf := hf.1 hc
    clear hc
    refine lv_ldc2 hx hb C.2.2.2.1 (C.2.2.2.2.1 _ hwK_X9_65) dX9_atMost_12 ?_
    exact X_US_atMost_15_w C (1000000000000000 : Int64) u _ _ _ hf hw (lv_sub hl [] rfl)
  · replace hf := hf.2 hc
    clear hc
    refine lv_lload_n hx hb dX9_atMost_8 rfl (lv_at hl 0 rfl) ?_
    refine lv_goto (tgt := 15) hx hb dX9_atMost_9 (by decide) ?_
    exact X_US_atMost_15_w C a1 u _ _ _ hf hw (lv_sub hl [] rfl)
/-! X_US_outerSum -/
theorem dX9_outerSum_0 : decode cX9_outerSum 0 = .ok (.iload_n 0, 1) := by decide +kernel
theorem dX9_outerSum_1 : decode cX9_outerSum 1 = .ok (.iconst 2, 1) := by decide +kernel
theorem dX9_outerSum_2 : decode cX9_outerSum 2 = .ok (.iload_n 1, 1) := by decide +kernel
theorem dX9_outerSum_3 : decode cX9_outerSum 3 = .ok (.bipush 15, 2) := by decide +kernel
theorem dX9_outerSum_5 : decode cX9_outerSum 5 = .ok (.isub, 1) := by decide +kernel
theorem dX9_outerSum_6 : decode cX9_outerSum 6 = .ok (.imul, 1) := by decide +kernel
theorem dX9_outerSum_7 : decode cX9_outerSum 7 = .ok (.isub, 1) := by decide +kernel
theorem dX9_outerSum_8 : decode cX9_outerSum 8 = .ok (.bipush 30, 2) := by decide +kernel
theorem dX9_outerSum_10 : decode cX9_outerSum 10 = .ok (.iadd, 1) := by decide +kernel
theorem dX9_outerSum_11 : decode cX9_outerSum 11 = .ok (.ireturn, 1) := by decide +kernel
def X_US_outerSum (a1 : Int32) (a2 : Int32) (u : xs_St) (K : Int32 → xs_St → Prop) : Prop :=
  K ((a1 - ((2 : Int32) * (a2 - (15 : Int32)))) + (30 : Int32)) u
set_option maxHeartbeats 4000000 in
set_option maxRecDepth 100000 in
theorem X_US_outerSum_c {l : Launch} {dC : Nat → ClassId} {dI : Nat → Nat → Nat} {cs : Nat → ClassId} {ad ak : Nat → Nat} {q v : Nat → Nat} {a1 : Int32} {a2 : Int32} {u : xs_St} {K : Int32 → xs_St → Prop} (hf : X_US_outerSum a1 a2 u K) : th_Ci l yX9_outerSum cX9_outerSum 2 (some .int) 0 0 0 (dC, dI) (th_ty cs) (xE ad ak) (wX cs ad q v v) [.int a1, .int a2] u K := by
  refine th_ofi (by decide) (Nat.le_of_ble_eq_true rfl) (xE_ok ad ak) ?_
  intro p e s m below meth c A ls C hw hl
  have C : th_Cx p s m _ meth c cX9_outerSum RX9 2 (some .int) (dC, dI) (th_ty cs) (xE ad ak) A := C
  have hl : lv_has ls 2 [(0, .int a1), (1, .int a2)] := hl
  generalize (List.toArray _ : Array Value) = args at C ⊢
  have hx := C.1
  have hb := C.2.1
  unfold X_US_outerSum at hf
  refine lv_iload_n hx hb dX9_outerSum_0 rfl (lv_at hl 0 rfl) ?_
  refine lv_iconst (v := (2 : Int32)) hx hb dX9_outerSum_1 (by decide) ?_
  refine lv_iload_n hx hb dX9_outerSum_2 rfl (lv_at hl 1 rfl) ?_
  refine lv_bipush (v := (15 : Int32)) hx hb dX9_outerSum_3 (by decide) ?_
  refine lv_isub hx hb dX9_outerSum_5 ?_
  refine lv_imul hx hb dX9_outerSum_6 ?_
  refine lv_isub hx hb dX9_outerSum_7 ?_
  refine lv_bipush (v := (30 : Int32)) hx hb dX9_outerSum_8 (by decide) ?_
  refine lv_iadd hx hb dX9_outerSum_10 ?_
  exact th_iret C hw hf dX9_outerSum_11
/-! X_US_sumWays -/
theorem dX9_sumWays_0 : decode cX9_sumWays 0 = .ok (.iconst 0, 1) := by decide +kernel
theorem dX9_sumWays_1 : decode cX9_sumWays 1 = .ok (.istore_n 3, 1) := by decide +kernel
theorem dX9_sumWays_2 : decode cX9_sumWays 2 = .ok (.iconst 0, 1) := by decide +kernel
theorem dX9_sumWays_3 : decode cX9_sumWays 3 = .ok (.istore 4, 2) := by decide +kernel
theorem dX9_sumWays_5 : decode cX9_sumWays 5 = .ok (.iload 4, 2) := by decide +kernel
theorem dX9_sumWays_7 : decode cX9_sumWays 7 = .ok (.bipush 31, 2) := by decide +kernel
theorem dX9_sumWays_9 : decode cX9_sumWays 9 = .ok (.if_icmp .ge 56, 3) := by decide +kernel
theorem dX9_sumWays_12 : decode cX9_sumWays 12 = .ok (.aload_n 0, 1) := by decide +kernel
theorem dX9_sumWays_13 : decode cX9_sumWays 13 = .ok (.getfield 22, 3) := by decide +kernel
theorem dX9_sumWays_16 : decode cX9_sumWays 16 = .ok (.iload 4, 2) := by decide +kernel
theorem dX9_sumWays_18 : decode cX9_sumWays 18 = .ok (.bipush 31, 2) := by decide +kernel
theorem dX9_sumWays_20 : decode cX9_sumWays 20 = .ok (.imul, 1) := by decide +kernel
theorem dX9_sumWays_21 : decode cX9_sumWays 21 = .ok (.iload_n 2, 1) := by decide +kernel
theorem dX9_sumWays_22 : decode cX9_sumWays 22 = .ok (.iadd, 1) := by decide +kernel
theorem dX9_sumWays_23 : decode cX9_sumWays 23 = .ok (.laload, 1) := by decide +kernel
theorem dX9_sumWays_24 : decode cX9_sumWays 24 = .ok (.lstore 5, 2) := by decide +kernel
theorem dX9_sumWays_26 : decode cX9_sumWays 26 = .ok (.aload_n 0, 1) := by decide +kernel
theorem dX9_sumWays_27 : decode cX9_sumWays 27 = .ok (.getfield 29, 3) := by decide +kernel
theorem dX9_sumWays_30 : decode cX9_sumWays 30 = .ok (.iload 4, 2) := by decide +kernel
theorem dX9_sumWays_32 : decode cX9_sumWays 32 = .ok (.iconst 1, 1) := by decide +kernel
theorem dX9_sumWays_33 : decode cX9_sumWays 33 = .ok (.iadd, 1) := by decide +kernel
theorem dX9_sumWays_34 : decode cX9_sumWays 34 = .ok (.aload_n 0, 1) := by decide +kernel
theorem dX9_sumWays_35 : decode cX9_sumWays 35 = .ok (.getfield 29, 3) := by decide +kernel
theorem dX9_sumWays_38 : decode cX9_sumWays 38 = .ok (.iload 4, 2) := by decide +kernel
theorem dX9_sumWays_40 : decode cX9_sumWays 40 = .ok (.laload, 1) := by decide +kernel
theorem dX9_sumWays_41 : decode cX9_sumWays 41 = .ok (.lload 5, 2) := by decide +kernel
theorem dX9_sumWays_43 : decode cX9_sumWays 43 = .ok (.ladd, 1) := by decide +kernel
theorem dX9_sumWays_44 : decode cX9_sumWays 44 = .ok (.lastore, 1) := by decide +kernel
theorem dX9_sumWays_45 : decode cX9_sumWays 45 = .ok (.lload 5, 2) := by decide +kernel
theorem dX9_sumWays_47 : decode cX9_sumWays 47 = .ok (.lconst 0, 1) := by decide +kernel
theorem dX9_sumWays_48 : decode cX9_sumWays 48 = .ok (.lcmp, 1) := by decide +kernel
theorem dX9_sumWays_49 : decode cX9_sumWays 49 = .ok (.ifCond .le 10, 3) := by decide +kernel
theorem dX9_sumWays_52 : decode cX9_sumWays 52 = .ok (.iload_n 3, 1) := by decide +kernel
theorem dX9_sumWays_53 : decode cX9_sumWays 53 = .ok (.iconst 1, 1) := by decide +kernel
theorem dX9_sumWays_54 : decode cX9_sumWays 54 = .ok (.iload 4, 2) := by decide +kernel
theorem dX9_sumWays_56 : decode cX9_sumWays 56 = .ok (.ishl, 1) := by decide +kernel
theorem dX9_sumWays_57 : decode cX9_sumWays 57 = .ok (.ior, 1) := by decide +kernel
theorem dX9_sumWays_58 : decode cX9_sumWays 58 = .ok (.istore_n 3, 1) := by decide +kernel
theorem dX9_sumWays_59 : decode cX9_sumWays 59 = .ok (.iinc 4 1, 3) := by decide +kernel
theorem dX9_sumWays_62 : decode cX9_sumWays 62 = .ok (.goto (-57), 3) := by decide +kernel
theorem dX9_sumWays_65 : decode cX9_sumWays 65 = .ok (.iload_n 1, 1) := by decide +kernel
theorem dX9_sumWays_66 : decode cX9_sumWays 66 = .ok (.ifCond .lt 21, 3) := by decide +kernel
theorem dX9_sumWays_69 : decode cX9_sumWays 69 = .ok (.iload_n 1, 1) := by decide +kernel
theorem dX9_sumWays_70 : decode cX9_sumWays 70 = .ok (.bipush 48, 2) := by decide +kernel
theorem dX9_sumWays_72 : decode cX9_sumWays 72 = .ok (.if_icmp .ge 15, 3) := by decide +kernel
theorem dX9_sumWays_75 : decode cX9_sumWays 75 = .ok (.aload_n 0, 1) := by decide +kernel
theorem dX9_sumWays_76 : decode cX9_sumWays 76 = .ok (.getfield 32, 3) := by decide +kernel
theorem dX9_sumWays_79 : decode cX9_sumWays 79 = .ok (.iload_n 1, 1) := by decide +kernel
theorem dX9_sumWays_80 : decode cX9_sumWays 80 = .ok (.bipush 31, 2) := by decide +kernel
theorem dX9_sumWays_82 : decode cX9_sumWays 82 = .ok (.imul, 1) := by decide +kernel
theorem dX9_sumWays_83 : decode cX9_sumWays 83 = .ok (.iload_n 2, 1) := by decide +kernel
theorem dX9_sumWays_84 : decode cX9_sumWays 84 = .ok (.iadd, 1) := by decide +kernel
theorem dX9_sumWays_85 : decode cX9_sumWays 85 = .ok (.iload_n 3, 1) := by decide +kernel
theorem dX9_sumWays_86 : decode cX9_sumWays 86 = .ok (.iastore, 1) := by decide +kernel
theorem dX9_sumWays_87 : decode cX9_sumWays 87 = .ok (.return_, 1) := by decide +kernel
def X_US_sumWays_59 (K : xs_St → Prop) (k5 : Int32 → Int32 → Int32 → Int32 → xs_St → Prop) (x1 : Int32) (x2 : Int32) (x3 : Int32) (x4 : Int32) (u : xs_St) : Prop :=
  ∀ x4_1 : Int32, x4_1 = x4 + (1 : Int32) → k5 x1 x2 x3 x4_1 u
set_option maxHeartbeats 4000000 in
set_option maxRecDepth 100000 in
theorem X_US_sumWays_59_w {K : xs_St → Prop} {k5 : Int32 → Int32 → Int32 → Int32 → xs_St → Prop} (C : th_Cx p s m args meth c cX9_sumWays RX9 7 (none) (dC, dI) (th_ty cs) (xE ad ak) A) (hk5 : ∀ (x1 : Int32) (x2 : Int32) (x3 : Int32) (x4 : Int32) (u : xs_St) (H : Heap) (locs : List Loc) (ls : Array Slot), k5 x1 x2 x3 x4 u → th_wI (dC, dI) (wX cs ad q v v) A s.heap u H locs → lv_has ls 7 [(0, .ref (q 699)), (1, .int x1), (2, .int x2), (3, .int x3), (4, .int x4)] → W p l e (th_rm 0 0 0) s m args below meth c H locs 0 0 (MQ below (va_Qv K (th_Post (dC, dI) (wX cs ad q v v) A) A) args s 0 0 A) (F0 m 5 ls [])) (x1 : Int32) (x2 : Int32) (x3 : Int32) (x4 : Int32) (u : xs_St) (H : Heap) (locs : List Loc) (ls : Array Slot) (hf : X_US_sumWays_59 K k5 x1 x2 x3 x4 u) (hw : th_wI (dC, dI) (wX cs ad q v v) A s.heap u H locs) (hl : lv_has ls 7 [(0, .ref (q 699)), (1, .int x1), (2, .int x2), (3, .int x3), (4, .int x4)]) : W p l e (th_rm 0 0 0) s m args below meth c H locs 0 0 (MQ below (va_Qv K (th_Post (dC, dI) (wX cs ad q v v) A) A) args s 0 0 A) (F0 m 59 ls []) := by
  have hx := C.1
  have hb := C.2.1
  unfold X_US_sumWays_59 at hf
  obtain ⟨x4_1, e9⟩ : ∃ y : Int32, y = x4 + (1 : Int32) := ⟨_, rfl⟩
  replace hf := hf x4_1 e9
  refine lv_iinc (v := x4_1) (lv' := [(4, .int x4_1), (0, .ref (q 699)), (1, .int x1), (2, .int x2), (3, .int x3)]) hx hb dX9_sumWays_59 hl (k := 4) rfl (by rw [e9]; rfl) (by decide) rfl (fun ls hl => ?_)
  clear e9
  refine lv_goto (tgt := 5) hx hb dX9_sumWays_62 (by decide) ?_
  exact hk5 x1 x2 x3 x4_1 u _ _ _ hf hw (lv_sub hl [1, 2, 3, 4, 0] rfl)
def X_US_sumWays_87 (K : xs_St → Prop) (u : xs_St) : Prop :=
  K u
set_option maxHeartbeats 4000000 in
set_option maxRecDepth 100000 in
theorem X_US_sumWays_87_w {K : xs_St → Prop} (C : th_Cx p s m args meth c cX9_sumWays RX9 7 (none) (dC, dI) (th_ty cs) (xE ad ak) A) (u : xs_St) (H : Heap) (locs : List Loc) (ls : Array Slot) (hf : X_US_sumWays_87 K u) (hw : th_wI (dC, dI) (wX cs ad q v v) A s.heap u H locs) (hl : lv_has ls 7 []) : W p l e (th_rm 0 0 0) s m args below meth c H locs 0 0 (MQ below (va_Qv K (th_Post (dC, dI) (wX cs ad q v v) A) A) args s 0 0 A) (F0 m 87 ls []) := by
  have hx := C.1
  have hb := C.2.1
  unfold X_US_sumWays_87 at hf
  exact th_vret C hw hf dX9_sumWays_87
def X_US_sumWays_5 (K : xs_St → Prop) (k5 : Int32 → Int32 → Int32 → Int32 → xs_St → Prop) (x1 : Int32) (x2 : Int32) (x3 : Int32) (x4 : Int32) (u : xs_St) : Prop :=
  (((31 : Int32) ≤ x4 → ((x1 < 0 → X_US_sumWays_87 K u) ∧ (¬ x1 < 0 → (((48 : Int32) ≤ x1 → X_US_sumWays_87 K u) ∧ (¬ (48 : Int32) ≤ x1 → (vp_in ((x1 * (31 : Int32)) + x2) 1488 ∧ ∀ u_1 : xs_St, u_1 = xs_sa u 606 (upd (xa u 606) (((x1 * (31 : Int32)) + x2)).toNatClampNeg x3) → X_US_sumWays_87 K u_1)))))) ∧ (¬ (31 : Int32) ≤ x4 → (vp_in ((x4 * (31 : Int32)) + x2) 961 ∧ ∀ y_2 : Int64, y_2 = xl u 603 (((x4 * (31 : Int32)) + x2)).toNatClampNeg → (vp_in x4 32 ∧ ∀ y_3 : Int64, y_3 = xl u 605 (x4).toNatClampNeg → (vp_in (x4 + (1 : Int32)) 32 ∧ ∀ u_4 : xs_St, u_4 = xs_sl u 605 (vp_updL (xl u 605) ((x4 + (1 : Int32))).toNatClampNeg (y_3 + y_2)) → (((lg_cmp y_2 (0 : Int64)) ≤ 0 → X_US_sumWays_59 K k5 x1 x2 x3 x4 u_4) ∧ (¬ (lg_cmp y_2 (0 : Int64)) ≤ 0 → ∀ y_5 : Int32, y_5 = (x3 ||| ((1 : Int32) <<< (x4 &&& 31))) → X_US_sumWays_59 K k5 x1 x2 y_5 x4 u_4)))))))
set_option maxHeartbeats 4000000 in
set_option maxRecDepth 100000 in
theorem X_US_sumWays_5_w {K : xs_St → Prop} {k5 : Int32 → Int32 → Int32 → Int32 → xs_St → Prop} (C : th_Cx p s m args meth c cX9_sumWays RX9 7 (none) (dC, dI) (th_ty cs) (xE ad ak) A) (hk5 : ∀ (x1 : Int32) (x2 : Int32) (x3 : Int32) (x4 : Int32) (u : xs_St) (H : Heap) (locs : List Loc) (ls : Array Slot), k5 x1 x2 x3 x4 u → th_wI (dC, dI) (wX cs ad q v v) A s.heap u H locs → lv_has ls 7 [(0, .ref (q 699)), (1, .int x1), (2, .int x2), (3, .int x3), (4, .int x4)] → W p l e (th_rm 0 0 0) s m args below meth c H locs 0 0 (MQ below (va_Qv K (th_Post (dC, dI) (wX cs ad q v v) A) A) args s 0 0 A) (F0 m 5 ls [])) (x1 : Int32) (x2 : Int32) (x3 : Int32) (x4 : Int32) (u : xs_St) (H : Heap) (locs : List Loc) (ls : Array Slot) (hf : X_US_sumWays_5 K k5 x1 x2 x3 x4 u) (hw : th_wI (dC, dI) (wX cs ad q v v) A s.heap u H locs) (hl : lv_has ls 7 [(0, .ref (q 699)), (1, .int x1), (2, .int x2), (3, .int x3), (4, .int x4)]) : W p l e (th_rm 0 0 0) s m args below meth c H locs 0 0 (MQ below (va_Qv K (th_Post (dC, dI) (wX cs ad q v v) A) A) args s 0 0 A) (F0 m 5 ls []) := by
  have hx := C.1
  have hb := C.2.1
  unfold X_US_sumWays_5 at hf
  refine lv_iload hx hb dX9_sumWays_5 (lv_at hl 4 rfl) ?_
  refine lv_bipush (v := (31 : Int32)) hx hb dX9_sumWays_7 (by decide) ?_
  refine lv_icmp_ge (tgt := 65) hx hb dX9_sumWays_9 (by decide) (fun hc => ?_) (fun hc => ?_)
  · replace hf := hf.1 hc
    clear hc
    refine lv_iload_n hx hb dX9_sumWays_65 rfl (lv_at hl 1 rfl) ?_
    refine lv_if_lt (tgt := 87) hx hb dX9_sumWays_66 (by decide) (fun hc => ?_) (fun hc => ?_)
    · replace hf := hf.1 hc
      clear hc
      exact X_US_sumWays_87_w C  u _ _ _ hf hw (lv_sub hl [] rfl)
    · replace hf := hf.2 hc
      clear hc
      refine lv_iload_n hx hb dX9_sumWays_69 rfl (lv_at hl 1 rfl) ?_
      refine lv_bipush (v := (48 : Int32)) hx hb dX9_sumWays_70 (by decide) ?_
      refine lv_icmp_ge (tgt := 87) hx hb dX9_sumWays_72 (by decide) (fun hc => ?_) (fun hc => ?_)
      · replace hf := hf.1 hc
        clear hc
        exact X_US_sumWays_87_w C  u _ _ _ hf hw (lv_sub hl [] rfl)
      · replace hf := hf.2 hc
        clear hc
        refine lv_aload_n hx hb dX9_sumWays_75 rfl (lv_at hl 0 rfl) ?_
        refine xg_606 C hw (C.2.2.2.2.1 _ hwF_X9_32) dX9_sumWays_76 ?_
        refine lv_iload_n hx hb dX9_sumWays_79 rfl (lv_at hl 1 rfl) ?_
        refine lv_bipush (v := (31 : Int32)) hx hb dX9_sumWays_80 (by decide) ?_
        refine lv_imul hx hb dX9_sumWays_82 ?_
        refine lv_iload_n hx hb dX9_sumWays_83 rfl (lv_at hl 2 rfl) ?_
        refine lv_iadd hx hb dX9_sumWays_84 ?_
        refine lv_iload_n hx hb dX9_sumWays_85 rfl (lv_at hl 3 rfl) ?_
        refine ys_606 C hw hf.1 dX9_sumWays_86 (fun u_1 e9 H locs hw => ?_)
        replace hf := hf.2 u_1 e9
        clear e9
        exact X_US_sumWays_87_w C  u_1 _ _ _ hf hw (lv_sub hl [] rfl)
  · replace hf := hf.2 hc
    clear hc
    refine lv_aload_n hx hb dX9_sumWays_12 rfl (lv_at hl 0 rfl) ?_
    refine xg_603 C hw (C.2.2.2.2.1 _ hwF_X9_22) dX9_sumWays_13 ?_
    refine lv_iload hx hb dX9_sumWays_16 (lv_at hl 4 rfl) ?_
    refine lv_bipush (v := (31 : Int32)) hx hb dX9_sumWays_18 (by decide) ?_
    refine lv_imul hx hb dX9_sumWays_20 ?_
    refine lv_iload_n hx hb dX9_sumWays_21 rfl (lv_at hl 2 rfl) ?_
    refine lv_iadd hx hb dX9_sumWays_22 ?_
    refine yl_603 C hw hf.1 dX9_sumWays_23 (fun y_2 e9 => ?_)
    replace hf := hf.2 y_2 e9
    clear e9
    refine lv_lstore (lv' := [(5, .long y_2), (0, .ref (q 699)), (1, .int x1), (2, .int x2), (3, .int x3), (4, .int x4)]) hx hb dX9_sumWays_24 hl (by decide) rfl (fun ls hl => ?_)
    refine lv_aload_n hx hb dX9_sumWays_26 rfl (lv_at hl 1 rfl) ?_
    refine xg_605 C hw (C.2.2.2.2.1 _ hwF_X9_29) dX9_sumWays_27 ?_
    refine lv_iload hx hb dX9_sumWays_30 (lv_at hl 5 rfl) ?_
    refine lv_iconst (v := (1 : Int32)) hx hb dX9_sumWays_32 (by decide) ?_
    refine lv_iadd hx hb dX9_sumWays_33 ?_
    refine lv_aload_n hx hb dX9_sumWays_34 rfl (lv_at hl 1 rfl) ?_
    refine xg_605 C hw (C.2.2.2.2.1 _ hwF_X9_29) dX9_sumWays_35 ?_
    refine lv_iload hx hb dX9_sumWays_38 (lv_at hl 5 rfl) ?_
    refine yl_605 C hw hf.1 dX9_sumWays_40 (fun y_3 e9 => ?_)
    replace hf := hf.2 y_3 e9
    clear e9
    refine lv_lload hx hb dX9_sumWays_41 (lv_at hl 0 rfl) ?_
    refine lv_ladd hx hb dX9_sumWays_43 ?_
    refine ys_605 C hw hf.1 dX9_sumWays_44 (fun u_4 e9 H locs hw => ?_)
    replace hf := hf.2 u_4 e9
    clear e9
    refine lv_lload hx hb dX9_sumWays_45 (lv_at hl 0 rfl) ?_
    refine lv_lconst (v := (0 : Int64)) hx hb dX9_sumWays_47 (by decide) ?_
    refine W.lcmp hx hb dX9_sumWays_48 ?_
    refine lv_if_le (tgt := 59) hx hb dX9_sumWays_49 (by decide) (fun hc => ?_) (fun hc => ?_)
    · replace hf := hf.1 hc
      clear hc
      exact X_US_sumWays_59_w C hk5 x1 x2 x3 x4 u_4 _ _ _ hf hw (lv_sub hl [1, 2, 3, 4, 5] rfl)
    · replace hf := hf.2 hc
      clear hc
      refine lv_iload_n hx hb dX9_sumWays_52 rfl (lv_at hl 4 rfl) ?_
      refine lv_iconst (v := (1 : Int32)) hx hb dX9_sumWays_53 (by decide) ?_
      refine lv_iload hx hb dX9_sumWays_54 (lv_at hl 5 rfl) ?_
      refine lv_ishl hx hb dX9_sumWays_56 ?_
      refine lv_ior hx hb dX9_sumWays_57 ?_
      refine lv_topi (fun y_5 e9 => ?_)
      replace hf := hf y_5 e9
      clear e9
      refine lv_istore_n (lv' := [(3, .int y_5), (5, .long y_2), (0, .ref (q 699)), (1, .int x1), (2, .int x2), (4, .int x4)]) hx hb dX9_sumWays_58 rfl hl (by decide) rfl (fun ls hl => ?_)
      exact X_US_sumWays_59_w C hk5 x1 x2 y_5 x4 u_4 _ _ _ hf hw (lv_sub hl [2, 3, 4, 0, 5] rfl)
def X_US_sumWays_5_lp (K : xs_St → Prop) : Nat → Int32 → Int32 → Int32 → Int32 → xs_St → Prop
  | 0, _, _, _, _, _ => False
  | n + 1, x1, x2, x3, x4, u => X_US_sumWays_5 K (X_US_sumWays_5_lp K n) x1 x2 x3 x4 u
set_option maxHeartbeats 4000000 in
set_option maxRecDepth 100000 in
theorem X_US_sumWays_5_lw {K : xs_St → Prop} (C : th_Cx p s m args meth c cX9_sumWays RX9 7 (none) (dC, dI) (th_ty cs) (xE ad ak) A) (n : Nat) : ∀ (x1 : Int32) (x2 : Int32) (x3 : Int32) (x4 : Int32) (u : xs_St) (H : Heap) (locs : List Loc) (ls : Array Slot), X_US_sumWays_5_lp K n x1 x2 x3 x4 u → th_wI (dC, dI) (wX cs ad q v v) A s.heap u H locs → lv_has ls 7 [(0, .ref (q 699)), (1, .int x1), (2, .int x2), (3, .int x3), (4, .int x4)] → W p l e (th_rm 0 0 0) s m args below meth c H locs 0 0 (MQ below (va_Qv K (th_Post (dC, dI) (wX cs ad q v v) A) A) args s 0 0 A) (F0 m 5 ls []) := by
  induction n with
  | zero => intro x1 x2 x3 x4 u H locs ls hf; exact hf.elim
  | succ n ih =>
    intro x1 x2 x3 x4 u H locs ls hf hw hl
    exact X_US_sumWays_5_w C ih x1 x2 x3 x4 u H locs ls hf hw hl
def X_US_sumWays (a1 : Int32) (a2 : Int32) (u : xs_St) (K : xs_St → Prop) : Prop :=
  ∃ n, X_US_sumWays_5_lp K n a1 a2 (0 : Int32) (0 : Int32) u
set_option maxHeartbeats 4000000 in
set_option maxRecDepth 100000 in
theorem X_US_sumWays_c {l : Launch} {dC : Nat → ClassId} {dI : Nat → Nat → Nat} {cs : Nat → ClassId} {ad ak : Nat → Nat} {q v : Nat → Nat} {a1 : Int32} {a2 : Int32} {u : xs_St} {K : xs_St → Prop} (hf : X_US_sumWays a1 a2 u K) : th_Cv l yX9_sumWays cX9_sumWays 7 (none) 0 0 0 (dC, dI) (th_ty cs) (xE ad ak) (wX cs ad q v v) [.ref (q 699), .int a1, .int a2] u K := by
  refine th_ofv (by decide) (Nat.le_of_ble_eq_true rfl) (xE_ok ad ak) ?_
  intro p e s m below meth c A ls C hw hl
  have C : th_Cx p s m _ meth c cX9_sumWays RX9 7 (none) (dC, dI) (th_ty cs) (xE ad ak) A := C
  have hl : lv_has ls 7 [(0, .ref (q 699)), (1, .int a1), (2, .int a2)] := hl
  generalize (List.toArray _ : Array Value) = args at C ⊢
  have hx := C.1
  have hb := C.2.1
  unfold X_US_sumWays at hf
  refine lv_iconst (v := (0 : Int32)) hx hb dX9_sumWays_0 (by decide) ?_
  refine lv_istore_n (lv' := [(3, .int (0 : Int32)), (0, .ref (q 699)), (1, .int a1), (2, .int a2)]) hx hb dX9_sumWays_1 rfl hl (by decide) rfl (fun ls hl => ?_)
  refine lv_iconst (v := (0 : Int32)) hx hb dX9_sumWays_2 (by decide) ?_
  refine lv_istore (lv' := [(4, .int (0 : Int32)), (3, .int (0 : Int32)), (0, .ref (q 699)), (1, .int a1), (2, .int a2)]) hx hb dX9_sumWays_3 hl (by decide) rfl (fun ls hl => ?_)
  obtain ⟨n, hf⟩ := hf
  exact X_US_sumWays_5_lw C n a1 a2 (0 : Int32) (0 : Int32) u _ _ _ hf hw (lv_sub hl [2, 3, 4, 1, 0] rfl)
/-! X_WK_firstLoudest -/
theorem dX10_firstLoudest_0 : decode cX10_firstLoudest 0 = .ok (.iload_n 1, 1) := by decide +kernel
theorem dX10_firstLoudest_1 : decode cX10_firstLoudest 1 = .ok (.istore_n 3, 1) := by decide +kernel
theorem dX10_firstLoudest_2 : decode cX10_firstLoudest 2 = .ok (.iload_n 1, 1) := by decide +kernel
theorem dX10_firstLoudest_3 : decode cX10_firstLoudest 3 = .ok (.iconst 1, 1) := by decide +kernel
theorem dX10_firstLoudest_4 : decode cX10_firstLoudest 4 = .ok (.iadd, 1) := by decide +kernel
theorem dX10_firstLoudest_5 : decode cX10_firstLoudest 5 = .ok (.istore 4, 2) := by decide +kernel
theorem dX10_firstLoudest_7 : decode cX10_firstLoudest 7 = .ok (.iload 4, 2) := by decide +kernel
theorem dX10_firstLoudest_9 : decode cX10_firstLoudest 9 = .ok (.iload_n 2, 1) := by decide +kernel
theorem dX10_firstLoudest_10 : decode cX10_firstLoudest 10 = .ok (.if_icmp .gt 28, 3) := by decide +kernel
theorem dX10_firstLoudest_13 : decode cX10_firstLoudest 13 = .ok (.aload_n 0, 1) := by decide +kernel
theorem dX10_firstLoudest_14 : decode cX10_firstLoudest 14 = .ok (.getfield 26, 3) := by decide +kernel
theorem dX10_firstLoudest_17 : decode cX10_firstLoudest 17 = .ok (.iload 4, 2) := by decide +kernel
theorem dX10_firstLoudest_19 : decode cX10_firstLoudest 19 = .ok (.iaload, 1) := by decide +kernel
theorem dX10_firstLoudest_20 : decode cX10_firstLoudest 20 = .ok (.aload_n 0, 1) := by decide +kernel
theorem dX10_firstLoudest_21 : decode cX10_firstLoudest 21 = .ok (.getfield 26, 3) := by decide +kernel
theorem dX10_firstLoudest_24 : decode cX10_firstLoudest 24 = .ok (.iload_n 3, 1) := by decide +kernel
theorem dX10_firstLoudest_25 : decode cX10_firstLoudest 25 = .ok (.iaload, 1) := by decide +kernel
theorem dX10_firstLoudest_26 : decode cX10_firstLoudest 26 = .ok (.if_icmp .le 6, 3) := by decide +kernel
theorem dX10_firstLoudest_29 : decode cX10_firstLoudest 29 = .ok (.iload 4, 2) := by decide +kernel
theorem dX10_firstLoudest_31 : decode cX10_firstLoudest 31 = .ok (.istore_n 3, 1) := by decide +kernel
theorem dX10_firstLoudest_32 : decode cX10_firstLoudest 32 = .ok (.iinc 4 1, 3) := by decide +kernel
theorem dX10_firstLoudest_35 : decode cX10_firstLoudest 35 = .ok (.goto (-28), 3) := by decide +kernel
theorem dX10_firstLoudest_38 : decode cX10_firstLoudest 38 = .ok (.iload_n 3, 1) := by decide +kernel
theorem dX10_firstLoudest_39 : decode cX10_firstLoudest 39 = .ok (.ireturn, 1) := by decide +kernel
def X_WK_firstLoudest_32 (K : Int32 → xs_St → Prop) (k7 : Int32 → Int32 → Int32 → xs_St → Prop) (x2 : Int32) (x3 : Int32) (x4 : Int32) (u : xs_St) : Prop :=
  ∀ x4_1 : Int32, x4_1 = x4 + (1 : Int32) → k7 x2 x3 x4_1 u
set_option maxHeartbeats 4000000 in
set_option maxRecDepth 100000 in
theorem X_WK_firstLoudest_32_w {K : Int32 → xs_St → Prop} {k7 : Int32 → Int32 → Int32 → xs_St → Prop} (C : th_Cx p s m args meth c cX10_firstLoudest RX10 5 (some .int) (dC, dI) (th_ty cs) (xE ad ak) A) (hk7 : ∀ (x2 : Int32) (x3 : Int32) (x4 : Int32) (u : xs_St) (H : Heap) (locs : List Loc) (ls : Array Slot), k7 x2 x3 x4 u → th_wI (dC, dI) (wX cs ad q v v) A s.heap u H locs → lv_has ls 5 [(0, .ref (q 899)), (2, .int x2), (3, .int x3), (4, .int x4)] → W p l e (th_rm 0 0 0) s m args below meth c H locs 0 0 (MQ below (va_Qi K (th_Post (dC, dI) (wX cs ad q v v) A) A) args s 0 0 A) (F0 m 7 ls [])) (x2 : Int32) (x3 : Int32) (x4 : Int32) (u : xs_St) (H : Heap) (locs : List Loc) (ls : Array Slot) (hf : X_WK_firstLoudest_32 K k7 x2 x3 x4 u) (hw : th_wI (dC, dI) (wX cs ad q v v) A s.heap u H locs) (hl : lv_has ls 5 [(0, .ref (q 899)), (2, .int x2), (3, .int x3), (4, .int x4)]) : W p l e (th_rm 0 0 0) s m args below meth c H locs 0 0 (MQ below (va_Qi K (th_Post (dC, dI) (wX cs ad q v v) A) A) args s 0 0 A) (F0 m 32 ls []) := by
  have hx := C.1
  have hb := C.2.1
  unfold X_WK_firstLoudest_32 at hf
  obtain ⟨x4_1, e9⟩ : ∃ y : Int32, y = x4 + (1 : Int32) := ⟨_, rfl⟩
  replace hf := hf x4_1 e9
  refine lv_iinc (v := x4_1) (lv' := [(4, .int x4_1), (0, .ref (q 899)), (2, .int x2), (3, .int x3)]) hx hb dX10_firstLoudest_32 hl (k := 3) rfl (by rw [e9]; rfl) (by decide) rfl (fun ls hl => ?_)
  clear e9
  refine lv_goto (tgt := 7) hx hb dX10_firstLoudest_35 (by decide) ?_
  exact hk7 x2 x3 x4_1 u _ _ _ hf hw (lv_sub hl [1, 2, 3, 0] rfl)
def X_WK_firstLoudest_7 (K : Int32 → xs_St → Prop) (k7 : Int32 → Int32 → Int32 → xs_St → Prop) (x2 : Int32) (x3 : Int32) (x4 : Int32) (u : xs_St) : Prop :=
  ((x2 < x4 → K x3 u) ∧ (¬ x2 < x4 → (vp_in x4 48 ∧ ∀ y_1 : Int32, y_1 = xa u 804 (x4).toNatClampNeg → (vp_in x3 48 ∧ ∀ y_2 : Int32, y_2 = xa u 804 (x3).toNatClampNeg → ((y_1 ≤ y_2 → X_WK_firstLoudest_32 K k7 x2 x3 x4 u) ∧ (¬ y_1 ≤ y_2 → X_WK_firstLoudest_32 K k7 x2 x4 x4 u))))))
set_option maxHeartbeats 4000000 in
set_option maxRecDepth 100000 in
theorem X_WK_firstLoudest_7_w {K : Int32 → xs_St → Prop} {k7 : Int32 → Int32 → Int32 → xs_St → Prop} (C : th_Cx p s m args meth c cX10_firstLoudest RX10 5 (some .int) (dC, dI) (th_ty cs) (xE ad ak) A) (hk7 : ∀ (x2 : Int32) (x3 : Int32) (x4 : Int32) (u : xs_St) (H : Heap) (locs : List Loc) (ls : Array Slot), k7 x2 x3 x4 u → th_wI (dC, dI) (wX cs ad q v v) A s.heap u H locs → lv_has ls 5 [(0, .ref (q 899)), (2, .int x2), (3, .int x3), (4, .int x4)] → W p l e (th_rm 0 0 0) s m args below meth c H locs 0 0 (MQ below (va_Qi K (th_Post (dC, dI) (wX cs ad q v v) A) A) args s 0 0 A) (F0 m 7 ls [])) (x2 : Int32) (x3 : Int32) (x4 : Int32) (u : xs_St) (H : Heap) (locs : List Loc) (ls : Array Slot) (hf : X_WK_firstLoudest_7 K k7 x2 x3 x4 u) (hw : th_wI (dC, dI) (wX cs ad q v v) A s.heap u H locs) (hl : lv_has ls 5 [(0, .ref (q 899)), (2, .int x2), (3, .int x3), (4, .int x4)]) : W p l e (th_rm 0 0 0) s m args below meth c H locs 0 0 (MQ below (va_Qi K (th_Post (dC, dI) (wX cs ad q v v) A) A) args s 0 0 A) (F0 m 7 ls []) := by
  have hx := C.1
  have hb := C.2.1
  unfold X_WK_firstLoudest_7 at hf
  refine lv_iload hx hb dX10_firstLoudest_7 (lv_at hl 3 rfl) ?_
  refine lv_iload_n hx hb dX10_firstLoudest_9 rfl (lv_at hl 1 rfl) ?_
  refine lv_icmp_gt (tgt := 38) hx hb dX10_firstLoudest_10 (by decide) (fun hc => ?_) (fun hc => ?_)
  · replace hf := hf.1 hc
    clear hc
    refine lv_iload_n hx hb dX10_firstLoudest_38 rfl (lv_at hl 2 rfl) ?_
    exact th_iret C hw hf dX10_firstLoudest_39
  · replace hf := hf.2 hc
    clear hc
    refine lv_aload_n hx hb dX10_firstLoudest_13 rfl (lv_at hl 0 rfl) ?_
    refine xg_804 C hw (C.2.2.2.2.1 _ hwF_X10_26) dX10_firstLoudest_14 ?_
    refine lv_iload hx hb dX10_firstLoudest_17 (lv_at hl 3 rfl) ?_
    refine yl_804 C hw hf.1 dX10_firstLoudest_19 (fun y_1 e9 => ?_)
    replace hf := hf.2 y_1 e9
    clear e9
    refine lv_aload_n hx hb dX10_firstLoudest_20 rfl (lv_at hl 0 rfl) ?_
    refine xg_804 C hw (C.2.2.2.2.1 _ hwF_X10_26) dX10_firstLoudest_21 ?_
    refine lv_iload_n hx hb dX10_firstLoudest_24 rfl (lv_at hl 2 rfl) ?_
    refine yl_804 C hw hf.1 dX10_firstLoudest_25 (fun y_2 e9 => ?_)
    replace hf := hf.2 y_2 e9
    clear e9
    refine lv_icmp_le (tgt := 32) hx hb dX10_firstLoudest_26 (by decide) (fun hc => ?_) (fun hc => ?_)
    · replace hf := hf.1 hc
      clear hc
      exact X_WK_firstLoudest_32_w C hk7 x2 x3 x4 u _ _ _ hf hw (lv_sub hl [0, 1, 2, 3] rfl)
    · replace hf := hf.2 hc
      clear hc
      refine lv_iload hx hb dX10_firstLoudest_29 (lv_at hl 3 rfl) ?_
      refine lv_istore_n (lv' := [(3, .int x4), (0, .ref (q 899)), (2, .int x2), (4, .int x4)]) hx hb dX10_firstLoudest_31 rfl hl (by decide) rfl (fun ls hl => ?_)
      exact X_WK_firstLoudest_32_w C hk7 x2 x4 x4 u _ _ _ hf hw (lv_sub hl [1, 2, 0, 3] rfl)
def X_WK_firstLoudest_7_lp (K : Int32 → xs_St → Prop) : Nat → Int32 → Int32 → Int32 → xs_St → Prop
  | 0, _, _, _, _ => False
  | n + 1, x2, x3, x4, u => X_WK_firstLoudest_7 K (X_WK_firstLoudest_7_lp K n) x2 x3 x4 u
set_option maxHeartbeats 4000000 in
set_option maxRecDepth 100000 in
theorem X_WK_firstLoudest_7_lw {K : Int32 → xs_St → Prop} (C : th_Cx p s m args meth c cX10_firstLoudest RX10 5 (some .int) (dC, dI) (th_ty cs) (xE ad ak) A) (n : Nat) : ∀ (x2 : Int32) (x3 : Int32) (x4 : Int32) (u : xs_St) (H : Heap) (locs : List Loc) (ls : Array Slot), X_WK_firstLoudest_7_lp K n x2 x3 x4 u → th_wI (dC, dI) (wX cs ad q v v) A s.heap u H locs → lv_has ls 5 [(0, .ref (q 899)), (2, .int x2), (3, .int x3), (4, .int x4)] → W p l e (th_rm 0 0 0) s m args below meth c H locs 0 0 (MQ below (va_Qi K (th_Post (dC, dI) (wX cs ad q v v) A) A) args s 0 0 A) (F0 m 7 ls []) := by
  induction n with
  | zero => intro x2 x3 x4 u H locs ls hf; exact hf.elim
  | succ n ih =>
    intro x2 x3 x4 u H locs ls hf hw hl
    exact X_WK_firstLoudest_7_w C ih x2 x3 x4 u H locs ls hf hw hl
def X_WK_firstLoudest (a1 : Int32) (a2 : Int32) (u : xs_St) (K : Int32 → xs_St → Prop) : Prop :=
  ∀ y_1 : Int32, y_1 = (a1 + (1 : Int32)) → ∃ n, X_WK_firstLoudest_7_lp K n a2 a1 y_1 u
set_option maxHeartbeats 4000000 in
set_option maxRecDepth 100000 in
theorem X_WK_firstLoudest_c {l : Launch} {dC : Nat → ClassId} {dI : Nat → Nat → Nat} {cs : Nat → ClassId} {ad ak : Nat → Nat} {q v : Nat → Nat} {a1 : Int32} {a2 : Int32} {u : xs_St} {K : Int32 → xs_St → Prop} (hf : X_WK_firstLoudest a1 a2 u K) : th_Ci l yX10_firstLoudest cX10_firstLoudest 5 (some .int) 0 0 0 (dC, dI) (th_ty cs) (xE ad ak) (wX cs ad q v v) [.ref (q 899), .int a1, .int a2] u K := by
  refine th_ofi (by decide) (Nat.le_of_ble_eq_true rfl) (xE_ok ad ak) ?_
  intro p e s m below meth c A ls C hw hl
  have C : th_Cx p s m _ meth c cX10_firstLoudest RX10 5 (some .int) (dC, dI) (th_ty cs) (xE ad ak) A := C
  have hl : lv_has ls 5 [(0, .ref (q 899)), (1, .int a1), (2, .int a2)] := hl
  generalize (List.toArray _ : Array Value) = args at C ⊢
  have hx := C.1
  have hb := C.2.1
  unfold X_WK_firstLoudest at hf
  refine lv_iload_n hx hb dX10_firstLoudest_0 rfl (lv_at hl 1 rfl) ?_
  refine lv_istore_n (lv' := [(3, .int a1), (0, .ref (q 899)), (1, .int a1), (2, .int a2)]) hx hb dX10_firstLoudest_1 rfl hl (by decide) rfl (fun ls hl => ?_)
  refine lv_iload_n hx hb dX10_firstLoudest_2 rfl (lv_at hl 2 rfl) ?_
  refine lv_iconst (v := (1 : Int32)) hx hb dX10_firstLoudest_3 (by decide) ?_
  refine lv_iadd hx hb dX10_firstLoudest_4 ?_
  refine lv_topi (fun y_1 e9 => ?_)
  replace hf := hf y_1 e9
  clear e9
  refine lv_istore (lv' := [(4, .int y_1), (3, .int a1), (0, .ref (q 899)), (1, .int a1), (2, .int a2)]) hx hb dX10_firstLoudest_5 hl (by decide) rfl (fun ls hl => ?_)
  obtain ⟨n, hf⟩ := hf
  exact X_WK_firstLoudest_7_lw C n a2 a1 y_1 u _ _ _ hf hw (lv_sub hl [2, 4, 1, 0] rfl)
/-! X_EX_fits -/
theorem dX1_fits_0 : decode cX1_fits 0 = .ok (.iconst 0, 1) := by decide +kernel
theorem dX1_fits_1 : decode cX1_fits 1 = .ok (.istore 6, 2) := by decide +kernel
theorem dX1_fits_3 : decode cX1_fits 3 = .ok (.iload 6, 2) := by decide +kernel
theorem dX1_fits_5 : decode cX1_fits 5 = .ok (.aload_n 0, 1) := by decide +kernel
theorem dX1_fits_6 : decode cX1_fits 6 = .ok (.getfield 11, 3) := by decide +kernel
theorem dX1_fits_9 : decode cX1_fits 9 = .ok (.iload_n 1, 1) := by decide +kernel
theorem dX1_fits_10 : decode cX1_fits 10 = .ok (.iaload, 1) := by decide +kernel
theorem dX1_fits_11 : decode cX1_fits 11 = .ok (.if_icmp .ge 42, 3) := by decide +kernel
theorem dX1_fits_14 : decode cX1_fits 14 = .ok (.aload 4, 2) := by decide +kernel
theorem dX1_fits_16 : decode cX1_fits 16 = .ok (.iload_n 3, 1) := by decide +kernel
theorem dX1_fits_17 : decode cX1_fits 17 = .ok (.iload 6, 2) := by decide +kernel
theorem dX1_fits_19 : decode cX1_fits 19 = .ok (.iadd, 1) := by decide +kernel
theorem dX1_fits_20 : decode cX1_fits 20 = .ok (.invokevirtual 45, 3) := by decide +kernel
theorem dX1_fits_23 : decode cX1_fits 23 = .ok (.iload_n 2, 1) := by decide +kernel
theorem dX1_fits_24 : decode cX1_fits 24 = .ok (.aload_n 0, 1) := by decide +kernel
theorem dX1_fits_25 : decode cX1_fits 25 = .ok (.getfield 15, 3) := by decide +kernel
theorem dX1_fits_28 : decode cX1_fits 28 = .ok (.iload_n 1, 1) := by decide +kernel
theorem dX1_fits_29 : decode cX1_fits 29 = .ok (.bipush 9, 2) := by decide +kernel
theorem dX1_fits_31 : decode cX1_fits 31 = .ok (.imul, 1) := by decide +kernel
theorem dX1_fits_32 : decode cX1_fits 32 = .ok (.iload 6, 2) := by decide +kernel
theorem dX1_fits_34 : decode cX1_fits 34 = .ok (.iadd, 1) := by decide +kernel
theorem dX1_fits_35 : decode cX1_fits 35 = .ok (.iaload, 1) := by decide +kernel
theorem dX1_fits_36 : decode cX1_fits 36 = .ok (.imul, 1) := by decide +kernel
theorem dX1_fits_37 : decode cX1_fits 37 = .ok (.iload 5, 2) := by decide +kernel
theorem dX1_fits_39 : decode cX1_fits 39 = .ok (.invokestatic 61, 3) := by decide +kernel
theorem dX1_fits_42 : decode cX1_fits 42 = .ok (.ifCond .ne 5, 3) := by decide +kernel
theorem dX1_fits_45 : decode cX1_fits 45 = .ok (.iconst 0, 1) := by decide +kernel
theorem dX1_fits_46 : decode cX1_fits 46 = .ok (.ireturn, 1) := by decide +kernel
theorem dX1_fits_47 : decode cX1_fits 47 = .ok (.iinc 6 1, 3) := by decide +kernel
theorem dX1_fits_50 : decode cX1_fits 50 = .ok (.goto (-47), 3) := by decide +kernel
theorem dX1_fits_53 : decode cX1_fits 53 = .ok (.iconst 1, 1) := by decide +kernel
theorem dX1_fits_54 : decode cX1_fits 54 = .ok (.ireturn, 1) := by decide +kernel
def X_EX_fits_3 (K : Int32 → xs_St → Prop) (k3 : Int32 → Int32 → Int32 → Int32 → Int32 → xs_St → Prop) (x1 : Int32) (x2 : Int32) (x3 : Int32) (x5 : Int32) (x6 : Int32) (u : xs_St) : Prop :=
  (vp_in x1 6 ∧ ∀ y_1 : Int32, y_1 = xa u 700 (x1).toNatClampNeg → ((y_1 ≤ x6 → (((1 : Int32) = 0 ∨ (1 : Int32) = 1) ∧ K (1 : Int32) u)) ∧ (¬ y_1 ≤ x6 → X_TP_signed (x3 + x6) u (fun r_3 u_2 => (vp_in ((x1 * (9 : Int32)) + x6) 54 ∧ ∀ y_4 : Int32, y_4 = xa u_2 701 (((x1 * (9 : Int32)) + x6)).toNatClampNeg → X_EX_isNear r_3 (x2 * y_4) x5 u_2 (fun r_6 u_5 => ((¬ r_6 = 0 → ∀ x6_7 : Int32, x6_7 = x6 + (1 : Int32) → k3 x1 x2 x3 x5 x6_7 u_5) ∧ (r_6 = 0 → (((0 : Int32) = 0 ∨ (0 : Int32) = 1) ∧ K (0 : Int32) u_5)))))))))
set_option maxHeartbeats 4000000 in
set_option maxRecDepth 100000 in
theorem X_EX_fits_3_w {K : Int32 → xs_St → Prop} {k3 : Int32 → Int32 → Int32 → Int32 → Int32 → xs_St → Prop} (C : th_Cx p s m args meth c cX1_fits RX1 7 (some .boolean) (dC, dI) (th_ty cs) (xE ad ak) A) (hk3 : ∀ (x1 : Int32) (x2 : Int32) (x3 : Int32) (x5 : Int32) (x6 : Int32) (u : xs_St) (H : Heap) (locs : List Loc) (ls : Array Slot), k3 x1 x2 x3 x5 x6 u → th_wI (dC, dI) (wX cs ad q v v) A s.heap u H locs → lv_has ls 7 [(0, .ref (q 799)), (1, .int x1), (2, .int x2), (3, .int x3), (4, .ref (q 199)), (5, .int x5), (6, .int x6)] → W p l e (th_rm 1 0 0) s m args below meth c H locs 0 0 (MQ below (va_Qi K (th_Post (dC, dI) (wX cs ad q v v) A) A) args s 0 0 A) (F0 m 3 ls [])) (x1 : Int32) (x2 : Int32) (x3 : Int32) (x5 : Int32) (x6 : Int32) (u : xs_St) (H : Heap) (locs : List Loc) (ls : Array Slot) (hf : X_EX_fits_3 K k3 x1 x2 x3 x5 x6 u) (hw : th_wI (dC, dI) (wX cs ad q v v) A s.heap u H locs) (hl : lv_has ls 7 [(0, .ref (q 799)), (1, .int x1), (2, .int x2), (3, .int x3), (4, .ref (q 199)), (5, .int x5), (6, .int x6)]) : W p l e (th_rm 1 0 0) s m args below meth c H locs 0 0 (MQ below (va_Qi K (th_Post (dC, dI) (wX cs ad q v v) A) A) args s 0 0 A) (F0 m 3 ls []) := by
  have hx := C.1
  have hb := C.2.1
  unfold X_EX_fits_3 at hf
  refine lv_iload hx hb dX1_fits_3 (lv_at hl 6 rfl) ?_
  refine lv_aload_n hx hb dX1_fits_5 rfl (lv_at hl 0 rfl) ?_
  refine xg_700 C hw (C.2.2.2.2.1 _ hwF_X1_11) dX1_fits_6 ?_
  refine lv_iload_n hx hb dX1_fits_9 rfl (lv_at hl 1 rfl) ?_
  refine yl_700 C hw hf.1 dX1_fits_10 (fun y_1 e9 => ?_)
  replace hf := hf.2 y_1 e9
  clear e9
  refine lv_icmp_ge (tgt := 53) hx hb dX1_fits_11 (by decide) (fun hc => ?_) (fun hc => ?_)
  · replace hf := hf.1 hc
    clear hc
    refine lv_iconst (v := (1 : Int32)) hx hb dX1_fits_53 (by decide) ?_
    exact th_zret C hw hf dX1_fits_54
  · replace hf := hf.2 hc
    clear hc
    refine lv_aload hx hb dX1_fits_14 (lv_at hl 4 rfl) ?_
    refine lv_iload_n hx hb dX1_fits_16 rfl (lv_at hl 3 rfl) ?_
    refine lv_iload hx hb dX1_fits_17 (lv_at hl 6 rfl) ?_
    refine lv_iadd hx hb dX1_fits_19 ?_
    refine th_callVi (As := [.int (x3 + x6)]) (rest := []) C lkX1_45 (X_TP_signed_c hf) hw (xRc_TP C hw) rfl rfl ⟨Nat.le_of_ble_eq_true rfl, Nat.le_of_ble_eq_true rfl⟩ hl.1 (Nat.le_of_ble_eq_true rfl) ⟨Nat.le_of_ble_eq_true rfl, Nat.le_of_ble_eq_true rfl⟩ dX1_fits_20 (fun r_3 u_2 H locs hf hw => ?_)
    refine lv_iload_n hx hb dX1_fits_23 rfl (lv_at hl 2 rfl) ?_
    refine lv_aload_n hx hb dX1_fits_24 rfl (lv_at hl 0 rfl) ?_
    refine xg_701 C hw (C.2.2.2.2.1 _ hwF_X1_15) dX1_fits_25 ?_
    refine lv_iload_n hx hb dX1_fits_28 rfl (lv_at hl 1 rfl) ?_
    refine lv_bipush (v := (9 : Int32)) hx hb dX1_fits_29 (by decide) ?_
    refine lv_imul hx hb dX1_fits_31 ?_
    refine lv_iload hx hb dX1_fits_32 (lv_at hl 6 rfl) ?_
    refine lv_iadd hx hb dX1_fits_34 ?_
    refine yl_701 C hw hf.1 dX1_fits_35 (fun y_4 e9 => ?_)
    replace hf := hf.2 y_4 e9
    clear e9
    refine lv_imul hx hb dX1_fits_36 ?_
    refine lv_iload hx hb dX1_fits_37 (lv_at hl 5 rfl) ?_
    refine th_callSi (As := [.int r_3, .int (x2 * y_4), .int x5]) (rest := []) C lkX1_61 (X_EX_isNear_c hf) hw rfl rfl ⟨Nat.le_of_ble_eq_true rfl, Nat.le_of_ble_eq_true rfl⟩ hl.1 (Nat.le_of_ble_eq_true rfl) ⟨Nat.le_of_ble_eq_true rfl, Nat.le_of_ble_eq_true rfl⟩ dX1_fits_39 (fun r_6 u_5 H locs hf hw => ?_)
    refine lv_if_ne (tgt := 47) hx hb dX1_fits_42 (by decide) (fun hc => ?_) (fun hc => ?_)
    · replace hf := hf.1 hc
      clear hc
      obtain ⟨x6_7, e9⟩ : ∃ y : Int32, y = x6 + (1 : Int32) := ⟨_, rfl⟩
      replace hf := hf x6_7 e9
      refine lv_iinc (v := x6_7) (lv' := [(6, .int x6_7), (0, .ref (q 799)), (1, .int x1), (2, .int x2), (3, .int x3), (4, .ref (q 199)), (5, .int x5)]) hx hb dX1_fits_47 hl (k := 6) rfl (by rw [e9]; rfl) (by decide) rfl (fun ls hl => ?_)
      clear e9
      refine lv_goto (tgt := 3) hx hb dX1_fits_50 (by decide) ?_
      exact hk3 x1 x2 x3 x5 x6_7 u_5 _ _ _ hf hw (lv_sub hl [1, 2, 3, 4, 5, 6, 0] rfl)
    · replace hf := hf.2 hc
      clear hc
      refine lv_iconst (v := (0 : Int32)) hx hb dX1_fits_45 (by decide) ?_
      exact th_zret C hw hf dX1_fits_46
def X_EX_fits_3_lp (K : Int32 → xs_St → Prop) : Nat → Int32 → Int32 → Int32 → Int32 → Int32 → xs_St → Prop
  | 0, _, _, _, _, _, _ => False
  | n + 1, x1, x2, x3, x5, x6, u => X_EX_fits_3 K (X_EX_fits_3_lp K n) x1 x2 x3 x5 x6 u
set_option maxHeartbeats 4000000 in
set_option maxRecDepth 100000 in
theorem X_EX_fits_3_lw {K : Int32 → xs_St → Prop} (C : th_Cx p s m args meth c cX1_fits RX1 7 (some .boolean) (dC, dI) (th_ty cs) (xE ad ak) A) (n : Nat) : ∀ (x1 : Int32) (x2 : Int32) (x3 : Int32) (x5 : Int32) (x6 : Int32) (u : xs_St) (H : Heap) (locs : List Loc) (ls : Array Slot), X_EX_fits_3_lp K n x1 x2 x3 x5 x6 u → th_wI (dC, dI) (wX cs ad q v v) A s.heap u H locs → lv_has ls 7 [(0, .ref (q 799)), (1, .int x1), (2, .int x2), (3, .int x3), (4, .ref (q 199)), (5, .int x5), (6, .int x6)] → W p l e (th_rm 1 0 0) s m args below meth c H locs 0 0 (MQ below (va_Qi K (th_Post (dC, dI) (wX cs ad q v v) A) A) args s 0 0 A) (F0 m 3 ls []) := by
  induction n with
  | zero => intro x1 x2 x3 x5 x6 u H locs ls hf; exact hf.elim
  | succ n ih =>
    intro x1 x2 x3 x5 x6 u H locs ls hf hw hl
    exact X_EX_fits_3_w C ih x1 x2 x3 x5 x6 u H locs ls hf hw hl
def X_EX_fits (a1 : Int32) (a2 : Int32) (a3 : Int32) (a5 : Int32) (u : xs_St) (K : Int32 → xs_St → Prop) : Prop :=
  ∃ n, X_EX_fits_3_lp K n a1 a2 a3 a5 (0 : Int32) u
set_option maxHeartbeats 4000000 in
set_option maxRecDepth 100000 in
theorem X_EX_fits_c {l : Launch} {dC : Nat → ClassId} {dI : Nat → Nat → Nat} {cs : Nat → ClassId} {ad ak : Nat → Nat} {q v : Nat → Nat} {a1 : Int32} {a2 : Int32} {a3 : Int32} {a5 : Int32} {u : xs_St} {K : Int32 → xs_St → Prop} (hf : X_EX_fits a1 a2 a3 a5 u K) : th_Ci l yX1_fits cX1_fits 7 (some .boolean) 1 0 0 (dC, dI) (th_ty cs) (xE ad ak) (wX cs ad q v v) [.ref (q 799), .int a1, .int a2, .int a3, .ref (q 199), .int a5] u K := by
  refine th_ofi (by decide) (Nat.le_of_ble_eq_true rfl) (xE_ok ad ak) ?_
  intro p e s m below meth c A ls C hw hl
  have C : th_Cx p s m _ meth c cX1_fits RX1 7 (some .boolean) (dC, dI) (th_ty cs) (xE ad ak) A := C
  have hl : lv_has ls 7 [(0, .ref (q 799)), (1, .int a1), (2, .int a2), (3, .int a3), (4, .ref (q 199)), (5, .int a5)] := hl
  generalize (List.toArray _ : Array Value) = args at C ⊢
  have hx := C.1
  have hb := C.2.1
  unfold X_EX_fits at hf
  refine lv_iconst (v := (0 : Int32)) hx hb dX1_fits_0 (by decide) ?_
  refine lv_istore (lv' := [(6, .int (0 : Int32)), (0, .ref (q 799)), (1, .int a1), (2, .int a2), (3, .int a3), (4, .ref (q 199)), (5, .int a5)]) hx hb dX1_fits_1 hl (by decide) rfl (fun ls hl => ?_)
  obtain ⟨n, hf⟩ := hf
  exact X_EX_fits_3_lw C n a1 a2 a3 a5 (0 : Int32) u _ _ _ hf hw (lv_sub hl [1, 2, 3, 4, 5, 6, 0] rfl)
/-! X_Feel_init_d -/
theorem dX2_init_0 : decode cX2_init 0 = .ok (.aload_n 0, 1) := by decide +kernel
theorem dX2_init_1 : decode cX2_init 1 = .ok (.invokespecial 5, 3) := by decide +kernel
theorem dX2_init_4 : decode cX2_init 4 = .ok (.aload_n 0, 1) := by decide +kernel
theorem dX2_init_5 : decode cX2_init 5 = .ok (.iconst 0, 1) := by decide +kernel
theorem dX2_init_6 : decode cX2_init 6 = .ok (.putfield 11, 3) := by decide +kernel
theorem dX2_init_9 : decode cX2_init 9 = .ok (.aload_n 0, 1) := by decide +kernel
theorem dX2_init_10 : decode cX2_init 10 = .ok (.iconst 0, 1) := by decide +kernel
theorem dX2_init_11 : decode cX2_init 11 = .ok (.putfield 15, 3) := by decide +kernel
theorem dX2_init_14 : decode cX2_init 14 = .ok (.aload_n 0, 1) := by decide +kernel
theorem dX2_init_15 : decode cX2_init 15 = .ok (.iconst 0, 1) := by decide +kernel
theorem dX2_init_16 : decode cX2_init 16 = .ok (.putfield 18, 3) := by decide +kernel
theorem dX2_init_19 : decode cX2_init 19 = .ok (.aload_n 0, 1) := by decide +kernel
theorem dX2_init_20 : decode cX2_init 20 = .ok (.aconst_null, 1) := by decide +kernel
theorem dX2_init_21 : decode cX2_init 21 = .ok (.putfield 21, 3) := by decide +kernel
theorem dX2_init_24 : decode cX2_init 24 = .ok (.aload_n 0, 1) := by decide +kernel
theorem dX2_init_25 : decode cX2_init 25 = .ok (.aconst_null, 1) := by decide +kernel
theorem dX2_init_26 : decode cX2_init 26 = .ok (.putfield 25, 3) := by decide +kernel
theorem dX2_init_29 : decode cX2_init 29 = .ok (.aload_n 0, 1) := by decide +kernel
theorem dX2_init_30 : decode cX2_init 30 = .ok (.aload_n 1, 1) := by decide +kernel
theorem dX2_init_31 : decode cX2_init 31 = .ok (.putfield 28, 3) := by decide +kernel
theorem dX2_init_34 : decode cX2_init 34 = .ok (.aload_n 0, 1) := by decide +kernel
theorem dX2_init_35 : decode cX2_init 35 = .ok (.aload_n 2, 1) := by decide +kernel
theorem dX2_init_36 : decode cX2_init 36 = .ok (.putfield 32, 3) := by decide +kernel
theorem dX2_init_39 : decode cX2_init 39 = .ok (.aload_n 0, 1) := by decide +kernel
theorem dX2_init_40 : decode cX2_init 40 = .ok (.iload_n 3, 1) := by decide +kernel
theorem dX2_init_41 : decode cX2_init 41 = .ok (.ifCond .ge 7, 3) := by decide +kernel
theorem dX2_init_44 : decode cX2_init 44 = .ok (.iconst 0, 1) := by decide +kernel
theorem dX2_init_45 : decode cX2_init 45 = .ok (.goto 4, 3) := by decide +kernel
theorem dX2_init_48 : decode cX2_init 48 = .ok (.iload_n 3, 1) := by decide +kernel
theorem dX2_init_49 : decode cX2_init 49 = .ok (.newarray .int, 2) := by decide +kernel
theorem dX2_init_51 : decode cX2_init 51 = .ok (.putfield 35, 3) := by decide +kernel
theorem dX2_init_54 : decode cX2_init 54 = .ok (.return_, 1) := by decide +kernel
def X_Feel_init_d_49 (K : xs_St → Prop) (z0 : Int32) (z1 : Nat) (u : xs_St) : Prop :=
  (¬ z0 < 0 ∧ (z0).toNatClampNeg ≤ 48 ∧ ∀ b_1 : Nat, b_1 ∉ xdL u → ∀ u_2 : xs_St, u_2 = xs_newA u b_1 4 (z0).toNatClampNeg → (xd_is u_2 z1 3 ∧ ∀ u_3 : xs_St, u_3 = xs_dr u_2 3 z1 (some b_1) → K u_3))
set_option maxHeartbeats 4000000 in
set_option maxRecDepth 100000 in
theorem X_Feel_init_d_49_w (hin : meth.name = "<init>") {K : xs_St → Prop} (C : th_Cx p s m args meth c cX2_init RX2 4 (none) (dC, dI) (th_ty cs) (xE ad ak) A) (z0 : Int32) (z1 : Nat) (u : xs_St) (H : Heap) (locs : List Loc) (ls : Array Slot) (hf : X_Feel_init_d_49 K z0 z1 u) (hw : th_wI (dC, dI) (wX cs ad q v v) A s.heap u H locs) (hl : lv_has ls 4 []) (n9 m9 : Nat) (h9 : n9 + 1 ≤ 1) (g9 : m9 + 48 ≤ 48) : W p l e (th_rm 1 1 48) s m args below meth c H locs n9 m9 (MQ below (va_Qv K (th_Post (dC, dI) (wX cs ad q v v) A) A) args s 1 48 A) (F0 m 49 ls [.int z0, .ref z1]) := by
  have hx := C.1
  have hb := C.2.1
  unfold X_Feel_init_d_49 at hf
  refine xn_I C hw hf.1 hf.2.1 (by simp only [th_rm]; omega) (by simp only [th_rm]; omega) dX2_init_49 (fun b_1 hb9 u_2 e9 H hw => ?_)
  replace hf := hf.2.2 b_1 hb9 u_2 e9
  clear e9 hb9
  obtain ⟨hm, hf⟩ := hf
  refine xdp_Feel_feels (x := (some b_1)) C hw hm hin rfl (C.2.2.2.2.1 _ hwF_X2_35) dX2_init_51 (fun u_3 e9 H locs hw => ?_)
  replace hf := hf u_3 e9
  clear e9
  refine W.widen (k := 1) (n := 48) (by omega) (by omega) ?_
  exact th_vret C hw hf dX2_init_54
def X_Feel_init_d (a0 : Nat) (a1 : Option Nat) (a2 : Option Nat) (a3 : Int32) (u : xs_St) (K : xs_St → Prop) : Prop :=
  (xd_is u a0 3 ∧ ∀ u_1 : xs_St, u_1 = xs_di u 2 a0 (0 : Int32) → (xd_is u_1 a0 3 ∧ ∀ u_2 : xs_St, u_2 = xs_di u_1 3 a0 (0 : Int32) → (xd_is u_2 a0 3 ∧ ∀ u_3 : xs_St, u_3 = xs_di u_2 4 a0 (0 : Int32) → (xd_is u_3 a0 3 ∧ ∀ u_4 : xs_St, u_4 = xs_dr u_3 4 a0 none → (xd_is u_4 a0 3 ∧ ∀ u_5 : xs_St, u_5 = xs_dr u_4 5 a0 none → (xd_is u_5 a0 3 ∧ ∀ u_6 : xs_St, u_6 = xs_dr u_5 1 a0 a1 → (xd_is u_6 a0 3 ∧ ∀ u_7 : xs_St, u_7 = xs_dr u_6 2 a0 a2 → ((0 ≤ a3 → X_Feel_init_d_49 K a3 a0 u_7) ∧ (¬ 0 ≤ a3 → X_Feel_init_d_49 K (0 : Int32) a0 u_7)))))))))
set_option maxHeartbeats 4000000 in
set_option maxRecDepth 100000 in
theorem X_Feel_init_d_c {l : Launch} {dC : Nat → ClassId} {dI : Nat → Nat → Nat} {cs : Nat → ClassId} {ad ak : Nat → Nat} {q v : Nat → Nat} {a0 : Nat} {a1 : Option Nat} {a2 : Option Nat} {a3 : Int32} {u : xs_St} {K : xs_St → Prop} (hf : X_Feel_init_d a0 a1 a2 a3 u K) : th_Cv l yX2_init cX2_init 4 (none) 1 1 48 (dC, dI) (th_ty cs) (xE ad ak) (wX cs ad q v v) [.ref a0, va_rf a1, va_rf a2, .int a3] u K := by
  refine th_ofvI (by decide) (by cases a1 <;> cases a2 <;> exact Nat.le_of_ble_eq_true rfl) (xE_ok ad ak) rfl ?_
  intro p e s m below meth c A ls C hin hw hl
  have C : th_Cx p s m _ meth c cX2_init RX2 4 (none) (dC, dI) (th_ty cs) (xE ad ak) A := C
  have hl : lv_has ls 4 [(0, .ref a0), (1, va_rf a1), (2, va_rf a2), (3, .int a3)] := by cases a1 <;> cases a2 <;> exact hl
  generalize (List.toArray _ : Array Value) = args at C ⊢
  have hx := C.1
  have hb := C.2.1
  unfold X_Feel_init_d at hf
  refine lv_aload_n hx hb dX2_init_0 rfl (lv_at hl 0 rfl) ?_
  refine W.objInit hx hb C.2.2.2.1 (C.2.2.2.2.1 _ hwM_X2_5) (C.2.2.2.2.1 _ hwN_Object) (C.2.2.2.2.1 _ hwC_Object) rfl (by rw [C.2.2.1]; exact hl.1) rfl dX2_init_1 (Nat.le_of_ble_eq_true rfl) (Nat.le_of_ble_eq_true rfl) ?_
  refine W.eq (g2 := F0 m 4 ls []) rfl ?_
  refine lv_aload_n hx hb dX2_init_4 rfl (lv_at hl 0 rfl) ?_
  refine lv_iconst (v := (0 : Int32)) hx hb dX2_init_5 (by decide) ?_
  obtain ⟨hm, hf⟩ := hf
  refine xdp_Feel_slips (x := (0 : Int32)) C hw hm (C.2.2.2.2.1 _ hwF_X2_11) dX2_init_6 (fun u_1 e9 H locs hw => ?_)
  replace hf := hf u_1 e9
  clear e9
  refine lv_aload_n hx hb dX2_init_9 rfl (lv_at hl 0 rfl) ?_
  refine lv_iconst (v := (0 : Int32)) hx hb dX2_init_10 (by decide) ?_
  obtain ⟨hm, hf⟩ := hf
  refine xdp_Feel_peak (x := (0 : Int32)) C hw hm (C.2.2.2.2.1 _ hwF_X2_15) dX2_init_11 (fun u_2 e9 H locs hw => ?_)
  replace hf := hf u_2 e9
  clear e9
  refine lv_aload_n hx hb dX2_init_14 rfl (lv_at hl 0 rfl) ?_
  refine lv_iconst (v := (0 : Int32)) hx hb dX2_init_15 (by decide) ?_
  obtain ⟨hm, hf⟩ := hf
  refine xdp_Feel_sum (x := (0 : Int32)) C hw hm (C.2.2.2.2.1 _ hwF_X2_18) dX2_init_16 (fun u_3 e9 H locs hw => ?_)
  replace hf := hf u_3 e9
  clear e9
  refine lv_aload_n hx hb dX2_init_19 rfl (lv_at hl 0 rfl) ?_
  refine lv_null hx hb dX2_init_20 ?_
  obtain ⟨hm, hf⟩ := hf
  refine xdp_Feel_latestBehind (x := none) C hw hm (C.2.2.2.2.1 _ hwF_X2_21) dX2_init_21 (fun u_4 e9 H locs hw => ?_)
  replace hf := hf u_4 e9
  clear e9
  refine lv_aload_n hx hb dX2_init_24 rfl (lv_at hl 0 rfl) ?_
  refine lv_null hx hb dX2_init_25 ?_
  obtain ⟨hm, hf⟩ := hf
  refine xdp_Feel_likewiseBehind (x := none) C hw hm (C.2.2.2.2.1 _ hwF_X2_25) dX2_init_26 (fun u_5 e9 H locs hw => ?_)
  replace hf := hf u_5 e9
  clear e9
  refine lv_aload_n hx hb dX2_init_29 rfl (lv_at hl 0 rfl) ?_
  refine th_aload_n hx hb dX2_init_30 rfl (lv_at hl 1 rfl) ?_
  obtain ⟨hm, hf⟩ := hf
  refine xdp_Feel_row (x := a1) C hw hm hin rfl (C.2.2.2.2.1 _ hwF_X2_28) dX2_init_31 (fun u_6 e9 H locs hw => ?_)
  replace hf := hf u_6 e9
  clear e9
  refine lv_aload_n hx hb dX2_init_34 rfl (lv_at hl 0 rfl) ?_
  refine th_aload_n hx hb dX2_init_35 rfl (lv_at hl 2 rfl) ?_
  obtain ⟨hm, hf⟩ := hf
  refine xdp_Feel_ahead (x := a2) C hw hm hin rfl (C.2.2.2.2.1 _ hwF_X2_32) dX2_init_36 (fun u_7 e9 H locs hw => ?_)
  replace hf := hf u_7 e9
  clear e9
  refine lv_aload_n hx hb dX2_init_39 rfl (lv_at hl 0 rfl) ?_
  refine lv_iload_n hx hb dX2_init_40 rfl (lv_at hl 3 rfl) ?_
  refine lv_if_ge (tgt := 48) hx hb dX2_init_41 (by decide) (fun hc => ?_) (fun hc => ?_)
  · replace hf := hf.1 hc
    clear hc
    refine lv_iload_n hx hb dX2_init_48 rfl (lv_at hl 3 rfl) ?_
    exact X_Feel_init_d_49_w hin C a3 a0 u_7 _ _ _ hf hw (lv_sub hl [] rfl) _ _ (by omega) (by omega)
  · replace hf := hf.2 hc
    clear hc
    refine lv_iconst (v := (0 : Int32)) hx hb dX2_init_44 (by decide) ?_
    refine lv_goto (tgt := 49) hx hb dX2_init_45 (by decide) ?_
    exact X_Feel_init_d_49_w hin C (0 : Int32) a0 u_7 _ _ _ hf hw (lv_sub hl [] rfl) _ _ (by omega) (by omega)
/-! X_Feel_loudness_d -/
theorem dX2_loudness_0 : decode cX2_loudness 0 = .ok (.aload_n 0, 1) := by decide +kernel
theorem dX2_loudness_1 : decode cX2_loudness 1 = .ok (.getfield 32, 3) := by decide +kernel
theorem dX2_loudness_4 : decode cX2_loudness 4 = .ok (.ifnonnull 7, 3) := by decide +kernel
theorem dX2_loudness_7 : decode cX2_loudness 7 = .ok (.iconst 0, 1) := by decide +kernel
theorem dX2_loudness_8 : decode cX2_loudness 8 = .ok (.goto 17, 3) := by decide +kernel
theorem dX2_loudness_11 : decode cX2_loudness 11 = .ok (.aload_n 0, 1) := by decide +kernel
theorem dX2_loudness_12 : decode cX2_loudness 12 = .ok (.iload_n 1, 1) := by decide +kernel
theorem dX2_loudness_13 : decode cX2_loudness 13 = .ok (.invokevirtual 39, 3) := by decide +kernel
theorem dX2_loudness_16 : decode cX2_loudness 16 = .ok (.aload_n 0, 1) := by decide +kernel
theorem dX2_loudness_17 : decode cX2_loudness 17 = .ok (.getfield 32, 3) := by decide +kernel
theorem dX2_loudness_20 : decode cX2_loudness 20 = .ok (.iload_n 1, 1) := by decide +kernel
theorem dX2_loudness_21 : decode cX2_loudness 21 = .ok (.invokevirtual 39, 3) := by decide +kernel
theorem dX2_loudness_24 : decode cX2_loudness 24 = .ok (.isub, 1) := by decide +kernel
theorem dX2_loudness_25 : decode cX2_loudness 25 = .ok (.istore_n 2, 1) := by decide +kernel
theorem dX2_loudness_26 : decode cX2_loudness 26 = .ok (.iload_n 2, 1) := by decide +kernel
theorem dX2_loudness_27 : decode cX2_loudness 27 = .ok (.ifCond .ge 8, 3) := by decide +kernel
theorem dX2_loudness_30 : decode cX2_loudness 30 = .ok (.iload_n 2, 1) := by decide +kernel
theorem dX2_loudness_31 : decode cX2_loudness 31 = .ok (.ineg, 1) := by decide +kernel
theorem dX2_loudness_32 : decode cX2_loudness 32 = .ok (.goto 4, 3) := by decide +kernel
theorem dX2_loudness_35 : decode cX2_loudness 35 = .ok (.iload_n 2, 1) := by decide +kernel
theorem dX2_loudness_36 : decode cX2_loudness 36 = .ok (.ireturn, 1) := by decide +kernel
def X_Feel_loudness_d_36 (K : Int32 → xs_St → Prop) (z0 : Int32) (u : xs_St) : Prop :=
  K z0 u
set_option maxHeartbeats 4000000 in
set_option maxRecDepth 100000 in
theorem X_Feel_loudness_d_36_w {K : Int32 → xs_St → Prop} (C : th_Cx p s m args meth c cX2_loudness RX2 3 (some .int) (dC, dI) (th_ty cs) (xE ad ak) A) (z0 : Int32) (u : xs_St) (H : Heap) (locs : List Loc) (ls : Array Slot) (hf : X_Feel_loudness_d_36 K z0 u) (hw : th_wI (dC, dI) (wX cs ad q v v) A s.heap u H locs) (hl : lv_has ls 3 []) : W p l e (th_rm 1 0 0) s m args below meth c H locs 0 0 (MQ below (va_Qi K (th_Post (dC, dI) (wX cs ad q v v) A) A) args s 0 0 A) (F0 m 36 ls [.int z0]) := by
  have hx := C.1
  have hb := C.2.1
  unfold X_Feel_loudness_d_36 at hf
  exact th_iret C hw hf dX2_loudness_36
def X_Feel_loudness_d_25 (K : Int32 → xs_St → Prop) (z0 : Int32) (u : xs_St) : Prop :=
  ((0 ≤ z0 → X_Feel_loudness_d_36 K z0 u) ∧ (¬ 0 ≤ z0 → X_Feel_loudness_d_36 K (-z0) u))
set_option maxHeartbeats 4000000 in
set_option maxRecDepth 100000 in
theorem X_Feel_loudness_d_25_w {K : Int32 → xs_St → Prop} (C : th_Cx p s m args meth c cX2_loudness RX2 3 (some .int) (dC, dI) (th_ty cs) (xE ad ak) A) (z0 : Int32) (u : xs_St) (H : Heap) (locs : List Loc) (ls : Array Slot) (hf : X_Feel_loudness_d_25 K z0 u) (hw : th_wI (dC, dI) (wX cs ad q v v) A s.heap u H locs) (hl : lv_has ls 3 []) : W p l e (th_rm 1 0 0) s m args below meth c H locs 0 0 (MQ below (va_Qi K (th_Post (dC, dI) (wX cs ad q v v) A) A) args s 0 0 A) (F0 m 25 ls [.int z0]) := by
  have hx := C.1
  have hb := C.2.1
  unfold X_Feel_loudness_d_25 at hf
  refine lv_istore_n (lv' := [(2, .int z0)]) hx hb dX2_loudness_25 rfl hl (by decide) rfl (fun ls hl => ?_)
  refine lv_iload_n hx hb dX2_loudness_26 rfl (lv_at hl 0 rfl) ?_
  refine lv_if_ge (tgt := 35) hx hb dX2_loudness_27 (by decide) (fun hc => ?_) (fun hc => ?_)
  · replace hf := hf.1 hc
    clear hc
    refine lv_iload_n hx hb dX2_loudness_35 rfl (lv_at hl 0 rfl) ?_
    exact X_Feel_loudness_d_36_w C z0 u _ _ _ hf hw (lv_sub hl [] rfl)
  · replace hf := hf.2 hc
    clear hc
    refine lv_iload_n hx hb dX2_loudness_30 rfl (lv_at hl 0 rfl) ?_
    refine lv_ineg hx hb dX2_loudness_31 ?_
    refine lv_goto (tgt := 36) hx hb dX2_loudness_32 (by decide) ?_
    exact X_Feel_loudness_d_36_w C (-z0) u _ _ _ hf hw (lv_sub hl [] rfl)
def X_Feel_loudness_d (a0 : Nat) (a1 : Int32) (u : xs_St) (K : Int32 → xs_St → Prop) : Prop :=
  (xd_is u a0 3 ∧ ((¬ (xdR u 2 a0) = none → (xd_is u a0 3 ∧ X_Feel_of_d a0 a1 u (fun r_2 u_1 => (xd_is u_1 a0 3 ∧ (∃ b_3 : Nat, (xdR u_1 2 a0) = some b_3 ∧ xd_is u_1 b_3 3 ∧ X_Feel_of_d b_3 a1 u_1 (fun r_5 u_4 => X_Feel_loudness_d_25 K (r_2 - r_5) u_4)))))) ∧ ((xdR u 2 a0) = none → X_Feel_loudness_d_25 K (0 : Int32) u)))
set_option maxHeartbeats 4000000 in
set_option maxRecDepth 100000 in
theorem X_Feel_loudness_d_c {l : Launch} {dC : Nat → ClassId} {dI : Nat → Nat → Nat} {cs : Nat → ClassId} {ad ak : Nat → Nat} {q v : Nat → Nat} {a0 : Nat} {a1 : Int32} {u : xs_St} {K : Int32 → xs_St → Prop} (hf : X_Feel_loudness_d a0 a1 u K) : th_Ci l yX2_loudness cX2_loudness 3 (some .int) 1 0 0 (dC, dI) (th_ty cs) (xE ad ak) (wX cs ad q v v) [.ref a0, .int a1] u K := by
  refine th_ofi (by decide) (Nat.le_of_ble_eq_true rfl) (xE_ok ad ak) ?_
  intro p e s m below meth c A ls C hw hl
  have C : th_Cx p s m _ meth c cX2_loudness RX2 3 (some .int) (dC, dI) (th_ty cs) (xE ad ak) A := C
  have hl : lv_has ls 3 [(0, .ref a0), (1, .int a1)] := hl
  generalize (List.toArray _ : Array Value) = args at C ⊢
  have hx := C.1
  have hb := C.2.1
  unfold X_Feel_loudness_d at hf
  refine lv_aload_n hx hb dX2_loudness_0 rfl (lv_at hl 0 rfl) ?_
  obtain ⟨hm, hf⟩ := hf
  refine xdg_Feel_ahead C hw hm (C.2.2.2.2.1 _ hwF_X2_32) dX2_loudness_1 ?_
  refine th_ifnonnull (tgt := 11) hx hb dX2_loudness_4 (by decide) (fun hc => ?_) (fun hc => ?_)
  · replace hf := hf.1 hc
    clear hc
    refine lv_aload_n hx hb dX2_loudness_11 rfl (lv_at hl 0 rfl) ?_
    refine lv_iload_n hx hb dX2_loudness_12 rfl (lv_at hl 1 rfl) ?_
    obtain ⟨hm, hf⟩ := hf
    refine th_callVi (As := [.int a1]) (rest := []) C lkX2_39 (X_Feel_of_d_c hf) hw (xdRc_Feel C hw hm) rfl rfl ⟨Nat.le_of_ble_eq_true rfl, Nat.le_of_ble_eq_true rfl⟩ hl.1 (Nat.le_of_ble_eq_true rfl) ⟨Nat.le_of_ble_eq_true rfl, Nat.le_of_ble_eq_true rfl⟩ dX2_loudness_13 (fun r_2 u_1 H locs hf hw => ?_)
    refine lv_aload_n hx hb dX2_loudness_16 rfl (lv_at hl 0 rfl) ?_
    obtain ⟨hm, hf⟩ := hf
    refine xdg_Feel_ahead C hw hm (C.2.2.2.2.1 _ hwF_X2_32) dX2_loudness_17 ?_
    refine lv_iload_n hx hb dX2_loudness_20 rfl (lv_at hl 1 rfl) ?_
    obtain ⟨b_3, e9, hm, hf⟩ := hf
    refine W.eq (g2 := F0 m 21 ls [.int a1, .ref b_3, .int r_2]) (congrArg (fun z9 => F0 m 21 ls [.int a1, va_rf z9, .int r_2]) e9) ?_
    clear e9
    refine th_callVi (As := [.int a1]) (rest := [.int r_2]) C lkX2_39 (X_Feel_of_d_c hf) hw (xdRc_Feel C hw hm) rfl rfl ⟨Nat.le_of_ble_eq_true rfl, Nat.le_of_ble_eq_true rfl⟩ hl.1 (Nat.le_of_ble_eq_true rfl) ⟨Nat.le_of_ble_eq_true rfl, Nat.le_of_ble_eq_true rfl⟩ dX2_loudness_21 (fun r_5 u_4 H locs hf hw => ?_)
    refine lv_isub hx hb dX2_loudness_24 ?_
    exact X_Feel_loudness_d_25_w C (r_2 - r_5) u_4 _ _ _ hf hw (lv_sub hl [] rfl)
  · replace hf := hf.2 hc
    clear hc
    refine lv_iconst (v := (0 : Int32)) hx hb dX2_loudness_7 (by decide) ?_
    refine lv_goto (tgt := 25) hx hb dX2_loudness_8 (by decide) ?_
    exact X_Feel_loudness_d_25_w C (0 : Int32) u _ _ _ hf hw (lv_sub hl [] rfl)
/-! X_Feel_sensed_d -/
theorem dX2_sensed_0 : decode cX2_sensed 0 = .ok (.iload_n 2, 1) := by decide +kernel
theorem dX2_sensed_1 : decode cX2_sensed 1 = .ok (.aload_n 0, 1) := by decide +kernel
theorem dX2_sensed_2 : decode cX2_sensed 2 = .ok (.iload_n 1, 1) := by decide +kernel
theorem dX2_sensed_3 : decode cX2_sensed 3 = .ok (.invokevirtual 39, 3) := by decide +kernel
theorem dX2_sensed_6 : decode cX2_sensed 6 = .ok (.imul, 1) := by decide +kernel
theorem dX2_sensed_7 : decode cX2_sensed 7 = .ok (.iload_n 3, 1) := by decide +kernel
theorem dX2_sensed_8 : decode cX2_sensed 8 = .ok (.aload_n 0, 1) := by decide +kernel
theorem dX2_sensed_9 : decode cX2_sensed 9 = .ok (.getfield 28, 3) := by decide +kernel
theorem dX2_sensed_12 : decode cX2_sensed 12 = .ok (.iload_n 1, 1) := by decide +kernel
theorem dX2_sensed_13 : decode cX2_sensed 13 = .ok (.invokevirtual 43, 3) := by decide +kernel
theorem dX2_sensed_16 : decode cX2_sensed 16 = .ok (.imul, 1) := by decide +kernel
theorem dX2_sensed_17 : decode cX2_sensed 17 = .ok (.iadd, 1) := by decide +kernel
theorem dX2_sensed_18 : decode cX2_sensed 18 = .ok (.ireturn, 1) := by decide +kernel
def X_Feel_sensed_d (a0 : Nat) (a1 : Int32) (a2 : Int32) (a3 : Int32) (u : xs_St) (K : Int32 → xs_St → Prop) : Prop :=
  (xd_is u a0 3 ∧ X_Feel_of_d a0 a1 u (fun r_2 u_1 => (xd_is u_1 a0 3 ∧ (∃ b_3 : Nat, (xdR u_1 1 a0) = some b_3 ∧ xd_is u_1 b_3 1 ∧ X_Row_warmth_d b_3 a1 u_1 (fun r_5 u_4 => K ((a2 * r_2) + (a3 * r_5)) u_4)))))
set_option maxHeartbeats 4000000 in
set_option maxRecDepth 100000 in
theorem X_Feel_sensed_d_c {l : Launch} {dC : Nat → ClassId} {dI : Nat → Nat → Nat} {cs : Nat → ClassId} {ad ak : Nat → Nat} {q v : Nat → Nat} {a0 : Nat} {a1 : Int32} {a2 : Int32} {a3 : Int32} {u : xs_St} {K : Int32 → xs_St → Prop} (hf : X_Feel_sensed_d a0 a1 a2 a3 u K) : th_Ci l yX2_sensed cX2_sensed 4 (some .int) 1 0 0 (dC, dI) (th_ty cs) (xE ad ak) (wX cs ad q v v) [.ref a0, .int a1, .int a2, .int a3] u K := by
  refine th_ofi (by decide) (Nat.le_of_ble_eq_true rfl) (xE_ok ad ak) ?_
  intro p e s m below meth c A ls C hw hl
  have C : th_Cx p s m _ meth c cX2_sensed RX2 4 (some .int) (dC, dI) (th_ty cs) (xE ad ak) A := C
  have hl : lv_has ls 4 [(0, .ref a0), (1, .int a1), (2, .int a2), (3, .int a3)] := hl
  generalize (List.toArray _ : Array Value) = args at C ⊢
  have hx := C.1
  have hb := C.2.1
  unfold X_Feel_sensed_d at hf
  refine lv_iload_n hx hb dX2_sensed_0 rfl (lv_at hl 2 rfl) ?_
  refine lv_aload_n hx hb dX2_sensed_1 rfl (lv_at hl 0 rfl) ?_
  refine lv_iload_n hx hb dX2_sensed_2 rfl (lv_at hl 1 rfl) ?_
  obtain ⟨hm, hf⟩ := hf
  refine th_callVi (As := [.int a1]) (rest := [.int a2]) C lkX2_39 (X_Feel_of_d_c hf) hw (xdRc_Feel C hw hm) rfl rfl ⟨Nat.le_of_ble_eq_true rfl, Nat.le_of_ble_eq_true rfl⟩ hl.1 (Nat.le_of_ble_eq_true rfl) ⟨Nat.le_of_ble_eq_true rfl, Nat.le_of_ble_eq_true rfl⟩ dX2_sensed_3 (fun r_2 u_1 H locs hf hw => ?_)
  refine lv_imul hx hb dX2_sensed_6 ?_
  refine lv_iload_n hx hb dX2_sensed_7 rfl (lv_at hl 3 rfl) ?_
  refine lv_aload_n hx hb dX2_sensed_8 rfl (lv_at hl 0 rfl) ?_
  obtain ⟨hm, hf⟩ := hf
  refine xdg_Feel_row C hw hm (C.2.2.2.2.1 _ hwF_X2_28) dX2_sensed_9 ?_
  refine lv_iload_n hx hb dX2_sensed_12 rfl (lv_at hl 1 rfl) ?_
  obtain ⟨b_3, e9, hm, hf⟩ := hf
  refine W.eq (g2 := F0 m 13 ls [.int a1, .ref b_3, .int a3, .int (a2 * r_2)]) (congrArg (fun z9 => F0 m 13 ls [.int a1, va_rf z9, .int a3, .int (a2 * r_2)]) e9) ?_
  clear e9
  refine th_callVi (As := [.int a1]) (rest := [.int a3, .int (a2 * r_2)]) C lkX2_43 (X_Row_warmth_d_c hf) hw (xdRc_Row C hw hm) rfl rfl ⟨Nat.le_of_ble_eq_true rfl, Nat.le_of_ble_eq_true rfl⟩ hl.1 (Nat.le_of_ble_eq_true rfl) ⟨Nat.le_of_ble_eq_true rfl, Nat.le_of_ble_eq_true rfl⟩ dX2_sensed_13 (fun r_5 u_4 H locs hf hw => ?_)
  refine lv_imul hx hb dX2_sensed_16 ?_
  refine lv_iadd hx hb dX2_sensed_17 ?_
  exact th_iret C hw hf dX2_sensed_18
end

section
variable {p : Program} {l : Launch} {e : Env} {s : State} {m : MethodId} {args : Array Value} {below : List Frame} {meth : Method} {c : Code} {dC : Nat → ClassId} {dI : Nat → Nat → Nat} {cs : Nat → ClassId} {ad : Nat → Nat} {q v : Nat → Nat} {A : Nat → Prop}
/-! X_EX_isNear -/
theorem dX1_isNear_0 : decode cX1_isNear 0 = .ok (.iload_n 0, 1) := by decide +kernel
theorem dX1_isNear_1 : decode cX1_isNear 1 = .ok (.iload_n 1, 1) := by decide +kernel
theorem dX1_isNear_2 : decode cX1_isNear 2 = .ok (.isub, 1) := by decide +kernel
theorem dX1_isNear_3 : decode cX1_isNear 3 = .ok (.iload_n 2, 1) := by decide +kernel
theorem dX1_isNear_4 : decode cX1_isNear 4 = .ok (.if_icmp .gt 14, 3) := by decide +kernel
theorem dX1_isNear_7 : decode cX1_isNear 7 = .ok (.iload_n 1, 1) := by decide +kernel
theorem dX1_isNear_8 : decode cX1_isNear 8 = .ok (.iload_n 0, 1) := by decide +kernel
theorem dX1_isNear_9 : decode cX1_isNear 9 = .ok (.isub, 1) := by decide +kernel
theorem dX1_isNear_10 : decode cX1_isNear 10 = .ok (.iload_n 2, 1) := by decide +kernel
theorem dX1_isNear_11 : decode cX1_isNear 11 = .ok (.if_icmp .gt 7, 3) := by decide +kernel
theorem dX1_isNear_14 : decode cX1_isNear 14 = .ok (.iconst 1, 1) := by decide +kernel
theorem dX1_isNear_15 : decode cX1_isNear 15 = .ok (.goto 4, 3) := by decide +kernel
theorem dX1_isNear_18 : decode cX1_isNear 18 = .ok (.iconst 0, 1) := by decide +kernel
theorem dX1_isNear_19 : decode cX1_isNear 19 = .ok (.ireturn, 1) := by decide +kernel
def X_EX_isNear_19 (K : Int32 → xs_St → Prop) (z0 : Int32) (u : xs_St) : Prop :=
  ((z0 = 0 ∨ z0 = 1) ∧ K z0 u)
set_option maxHeartbeats 4000000 in
set_option maxRecDepth 100000 in
theorem X_EX_isNear_19_w {K : Int32 → xs_St → Prop} (C : th_Cx p s m args meth c cX1_isNear RX1 3 (some .boolean) (dC, dI) (th_ty cs) (xE ad) A) (z0 : Int32) (u : xs_St) (H : Heap) (locs : List Loc) (ls : Array Slot) (hf : X_EX_isNear_19 K z0 u) (hw : th_wI (dC, dI) (wX cs ad q v v) A s.heap u H locs) (hl : lv_has ls 3 []) : W p l e (th_rm 0 0 0) s m args below meth c H locs 0 0 (MQ below (va_Qi K (th_Post (dC, dI) (wX cs ad q v v) A) A) args s 0 0 A) (F0 m 19 ls [.int z0]) := by
  have hx := C.1
  have hb := C.2.1
  unfold X_EX_isNear_19 at hf
  exact th_zret C hw hf dX1_isNear_19
def X_EX_isNear_18 (K : Int32 → xs_St → Prop) (u : xs_St) : Prop :=
  X_EX_isNear_19 K (0 : Int32) u
set_option maxHeartbeats 4000000 in
set_option maxRecDepth 100000 in
theorem X_EX_isNear_18_w {K : Int32 → xs_St → Prop} (C : th_Cx p s m args meth c cX1_isNear RX1 3 (some .boolean) (dC, dI) (th_ty cs) (xE ad) A) (u : xs_St) (H : Heap) (locs : List Loc) (ls : Array Slot) (hf : X_EX_isNear_18 K u) (hw : th_wI (dC, dI) (wX cs ad q v v) A s.heap u H locs) (hl : lv_has ls 3 []) : W p l e (th_rm 0 0 0) s m args below meth c H locs 0 0 (MQ below (va_Qi K (th_Post (dC, dI) (wX cs ad q v v) A) A) args s 0 0 A) (F0 m 18 ls []) := by
  have hx := C.1
  have hb := C.2.1
  unfold X_EX_isNear_18 at hf
  refine lv_iconst (v := (0 : Int32)) hx hb dX1_isNear_18 (by decide) ?_
  exact X_EX_isNear_19_w C (0 : Int32) u _ _ _ hf hw (lv_sub hl [] rfl)
def X_EX_isNear (a1 : Int32) (a2 : Int32) (a3 : Int32) (u : xs_St) (K : Int32 → xs_St → Prop) : Prop :=
  ((a3 < (a1 - a2) → X_EX_isNear_18 K u) ∧ (¬ a3 < (a1 - a2) → ((a3 < (a2 - a1) → X_EX_isNear_18 K u) ∧ (¬ a3 < (a2 - a1) → X_EX_isNear_19 K (1 : Int32) u))))
set_option maxHeartbeats 4000000 in
set_option maxRecDepth 100000 in
theorem X_EX_isNear_c {l : Launch} {dC : Nat → ClassId} {dI : Nat → Nat → Nat} {cs : Nat → ClassId} {ad : Nat → Nat} {q v : Nat → Nat} {a1 : Int32} {a2 : Int32} {a3 : Int32} {u : xs_St} {K : Int32 → xs_St → Prop} (hf : X_EX_isNear a1 a2 a3 u K) : th_Ci l yX1_isNear cX1_isNear 3 (some .boolean) 0 0 0 (dC, dI) (th_ty cs) (xE ad) (wX cs ad q v v) [.int a1, .int a2, .int a3] u K := by
  refine th_ofi (by decide) (Nat.le_of_ble_eq_true rfl) (xE_ok ad) ?_
  intro p e s m below meth c A ls C hw hl
  have C : th_Cx p s m _ meth c cX1_isNear RX1 3 (some .boolean) (dC, dI) (th_ty cs) (xE ad) A := C
  have hl : lv_has ls 3 [(0, .int a1), (1, .int a2), (2, .int a3)] := hl
  generalize (List.toArray _ : Array Value) = args at C ⊢
  have hx := C.1
  have hb := C.2.1
  unfold X_EX_isNear at hf
  refine lv_iload_n hx hb dX1_isNear_0 rfl (lv_at hl 0 rfl) ?_
  refine lv_iload_n hx hb dX1_isNear_1 rfl (lv_at hl 1 rfl) ?_
  refine lv_isub hx hb dX1_isNear_2 ?_
  refine lv_iload_n hx hb dX1_isNear_3 rfl (lv_at hl 2 rfl) ?_
  refine lv_icmp_gt (tgt := 18) hx hb dX1_isNear_4 (by decide) (fun hc => ?_) (fun hc => ?_)
  · replace hf := hf.1 hc
    clear hc
    exact X_EX_isNear_18_w C  u _ _ _ hf hw (lv_sub hl [] rfl)
  · replace hf := hf.2 hc
    clear hc
    refine lv_iload_n hx hb dX1_isNear_7 rfl (lv_at hl 1 rfl) ?_
    refine lv_iload_n hx hb dX1_isNear_8 rfl (lv_at hl 0 rfl) ?_
    refine lv_isub hx hb dX1_isNear_9 ?_
    refine lv_iload_n hx hb dX1_isNear_10 rfl (lv_at hl 2 rfl) ?_
    refine lv_icmp_gt (tgt := 18) hx hb dX1_isNear_11 (by decide) (fun hc => ?_) (fun hc => ?_)
    · replace hf := hf.1 hc
      clear hc
      exact X_EX_isNear_18_w C  u _ _ _ hf hw (lv_sub hl [] rfl)
    · replace hf := hf.2 hc
      clear hc
      refine lv_iconst (v := (1 : Int32)) hx hb dX1_isNear_14 (by decide) ?_
      refine lv_goto (tgt := 19) hx hb dX1_isNear_15 (by decide) ?_
      exact X_EX_isNear_19_w C (1 : Int32) u _ _ _ hf hw (lv_sub hl [] rfl)
/-! X_EX_noteEvents -/
theorem dX1_noteEvents_0 : decode cX1_noteEvents 0 = .ok (.aload_n 0, 1) := by decide +kernel
theorem dX1_noteEvents_1 : decode cX1_noteEvents 1 = .ok (.iconst 0, 1) := by decide +kernel
theorem dX1_noteEvents_2 : decode cX1_noteEvents 2 = .ok (.putfield 36, 3) := by decide +kernel
theorem dX1_noteEvents_5 : decode cX1_noteEvents 5 = .ok (.iconst 0, 1) := by decide +kernel
theorem dX1_noteEvents_6 : decode cX1_noteEvents 6 = .ok (.istore_n 2, 1) := by decide +kernel
theorem dX1_noteEvents_7 : decode cX1_noteEvents 7 = .ok (.iload_n 2, 1) := by decide +kernel
theorem dX1_noteEvents_8 : decode cX1_noteEvents 8 = .ok (.iload_n 1, 1) := by decide +kernel
theorem dX1_noteEvents_9 : decode cX1_noteEvents 9 = .ok (.if_icmp .ge 94, 3) := by decide +kernel
theorem dX1_noteEvents_12 : decode cX1_noteEvents 12 = .ok (.aload_n 0, 1) := by decide +kernel
theorem dX1_noteEvents_13 : decode cX1_noteEvents 13 = .ok (.getfield 36, 3) := by decide +kernel
theorem dX1_noteEvents_16 : decode cX1_noteEvents 16 = .ok (.bipush 48, 2) := by decide +kernel
theorem dX1_noteEvents_18 : decode cX1_noteEvents 18 = .ok (.if_icmp .ge 85, 3) := by decide +kernel
theorem dX1_noteEvents_21 : decode cX1_noteEvents 21 = .ok (.aload_n 0, 1) := by decide +kernel
theorem dX1_noteEvents_22 : decode cX1_noteEvents 22 = .ok (.getfield 24, 3) := by decide +kernel
theorem dX1_noteEvents_25 : decode cX1_noteEvents 25 = .ok (.iload_n 2, 1) := by decide +kernel
theorem dX1_noteEvents_26 : decode cX1_noteEvents 26 = .ok (.iaload, 1) := by decide +kernel
theorem dX1_noteEvents_27 : decode cX1_noteEvents 27 = .ok (.ifCond .ne 9, 3) := by decide +kernel
theorem dX1_noteEvents_30 : decode cX1_noteEvents 30 = .ok (.iinc 2 1, 3) := by decide +kernel
theorem dX1_noteEvents_33 : decode cX1_noteEvents 33 = .ok (.goto (-26), 3) := by decide +kernel
theorem dX1_noteEvents_36 : decode cX1_noteEvents 36 = .ok (.aload_n 0, 1) := by decide +kernel
theorem dX1_noteEvents_37 : decode cX1_noteEvents 37 = .ok (.getfield 27, 3) := by decide +kernel
theorem dX1_noteEvents_40 : decode cX1_noteEvents 40 = .ok (.aload_n 0, 1) := by decide +kernel
theorem dX1_noteEvents_41 : decode cX1_noteEvents 41 = .ok (.getfield 36, 3) := by decide +kernel
theorem dX1_noteEvents_44 : decode cX1_noteEvents 44 = .ok (.aload_n 0, 1) := by decide +kernel
theorem dX1_noteEvents_45 : decode cX1_noteEvents 45 = .ok (.getfield 21, 3) := by decide +kernel
theorem dX1_noteEvents_48 : decode cX1_noteEvents 48 = .ok (.iload_n 2, 1) := by decide +kernel
theorem dX1_noteEvents_49 : decode cX1_noteEvents 49 = .ok (.iaload, 1) := by decide +kernel
theorem dX1_noteEvents_50 : decode cX1_noteEvents 50 = .ok (.iastore, 1) := by decide +kernel
theorem dX1_noteEvents_51 : decode cX1_noteEvents 51 = .ok (.aload_n 0, 1) := by decide +kernel
theorem dX1_noteEvents_52 : decode cX1_noteEvents 52 = .ok (.getfield 30, 3) := by decide +kernel
theorem dX1_noteEvents_55 : decode cX1_noteEvents 55 = .ok (.aload_n 0, 1) := by decide +kernel
theorem dX1_noteEvents_56 : decode cX1_noteEvents 56 = .ok (.getfield 36, 3) := by decide +kernel
theorem dX1_noteEvents_59 : decode cX1_noteEvents 59 = .ok (.iload_n 2, 1) := by decide +kernel
theorem dX1_noteEvents_60 : decode cX1_noteEvents 60 = .ok (.iastore, 1) := by decide +kernel
theorem dX1_noteEvents_61 : decode cX1_noteEvents 61 = .ok (.aload_n 0, 1) := by decide +kernel
theorem dX1_noteEvents_62 : decode cX1_noteEvents 62 = .ok (.getfield 33, 3) := by decide +kernel
theorem dX1_noteEvents_65 : decode cX1_noteEvents 65 = .ok (.aload_n 0, 1) := by decide +kernel
theorem dX1_noteEvents_66 : decode cX1_noteEvents 66 = .ok (.getfield 36, 3) := by decide +kernel
theorem dX1_noteEvents_69 : decode cX1_noteEvents 69 = .ok (.aload_n 0, 1) := by decide +kernel
theorem dX1_noteEvents_70 : decode cX1_noteEvents 70 = .ok (.getfield 24, 3) := by decide +kernel
theorem dX1_noteEvents_73 : decode cX1_noteEvents 73 = .ok (.iload_n 2, 1) := by decide +kernel
theorem dX1_noteEvents_74 : decode cX1_noteEvents 74 = .ok (.iaload, 1) := by decide +kernel
theorem dX1_noteEvents_75 : decode cX1_noteEvents 75 = .ok (.iastore, 1) := by decide +kernel
theorem dX1_noteEvents_76 : decode cX1_noteEvents 76 = .ok (.aload_n 0, 1) := by decide +kernel
theorem dX1_noteEvents_77 : decode cX1_noteEvents 77 = .ok (.dup, 1) := by decide +kernel
theorem dX1_noteEvents_78 : decode cX1_noteEvents 78 = .ok (.getfield 36, 3) := by decide +kernel
theorem dX1_noteEvents_81 : decode cX1_noteEvents 81 = .ok (.iconst 1, 1) := by decide +kernel
theorem dX1_noteEvents_82 : decode cX1_noteEvents 82 = .ok (.iadd, 1) := by decide +kernel
theorem dX1_noteEvents_83 : decode cX1_noteEvents 83 = .ok (.putfield 36, 3) := by decide +kernel
theorem dX1_noteEvents_86 : decode cX1_noteEvents 86 = .ok (.iload_n 2, 1) := by decide +kernel
theorem dX1_noteEvents_87 : decode cX1_noteEvents 87 = .ok (.aload_n 0, 1) := by decide +kernel
theorem dX1_noteEvents_88 : decode cX1_noteEvents 88 = .ok (.getfield 11, 3) := by decide +kernel
theorem dX1_noteEvents_91 : decode cX1_noteEvents 91 = .ok (.aload_n 0, 1) := by decide +kernel
theorem dX1_noteEvents_92 : decode cX1_noteEvents 92 = .ok (.getfield 21, 3) := by decide +kernel
theorem dX1_noteEvents_95 : decode cX1_noteEvents 95 = .ok (.iload_n 2, 1) := by decide +kernel
theorem dX1_noteEvents_96 : decode cX1_noteEvents 96 = .ok (.iaload, 1) := by decide +kernel
theorem dX1_noteEvents_97 : decode cX1_noteEvents 97 = .ok (.iaload, 1) := by decide +kernel
theorem dX1_noteEvents_98 : decode cX1_noteEvents 98 = .ok (.iadd, 1) := by decide +kernel
theorem dX1_noteEvents_99 : decode cX1_noteEvents 99 = .ok (.istore_n 2, 1) := by decide +kernel
theorem dX1_noteEvents_100 : decode cX1_noteEvents 100 = .ok (.goto (-93), 3) := by decide +kernel
theorem dX1_noteEvents_103 : decode cX1_noteEvents 103 = .ok (.return_, 1) := by decide +kernel
def X_EX_noteEvents_103 (K : xs_St → Prop) (u : xs_St) : Prop :=
  K u
set_option maxHeartbeats 4000000 in
set_option maxRecDepth 100000 in
theorem X_EX_noteEvents_103_w {K : xs_St → Prop} (C : th_Cx p s m args meth c cX1_noteEvents RX1 3 (none) (dC, dI) (th_ty cs) (xE ad) A) (u : xs_St) (H : Heap) (locs : List Loc) (ls : Array Slot) (hf : X_EX_noteEvents_103 K u) (hw : th_wI (dC, dI) (wX cs ad q v v) A s.heap u H locs) (hl : lv_has ls 3 []) : W p l e (th_rm 0 0 0) s m args below meth c H locs 0 0 (MQ below (va_Qv K (th_Post (dC, dI) (wX cs ad q v v) A) A) args s 0 0 A) (F0 m 103 ls []) := by
  have hx := C.1
  have hb := C.2.1
  unfold X_EX_noteEvents_103 at hf
  exact th_vret C hw hf dX1_noteEvents_103
def X_EX_noteEvents_7 (K : xs_St → Prop) (k7 : Int32 → Int32 → xs_St → Prop) (x1 : Int32) (x2 : Int32) (u : xs_St) : Prop :=
  ((x1 ≤ x2 → X_EX_noteEvents_103 K u) ∧ (¬ x1 ≤ x2 → (((48 : Int32) ≤ (xi u 708) → X_EX_noteEvents_103 K u) ∧ (¬ (48 : Int32) ≤ (xi u 708) → (vp_in x2 48 ∧ ∀ y_1 : Int32, y_1 = xa u 704 (x2).toNatClampNeg → ((¬ y_1 = 0 → (vp_in x2 48 ∧ ∀ y_2 : Int32, y_2 = xa u 703 (x2).toNatClampNeg → (vp_in (xi u 708) 48 ∧ ∀ u_3 : xs_St, u_3 = xs_sa u 705 (upd (xa u 705) ((xi u 708)).toNatClampNeg y_2) → (vp_in (xi u_3 708) 48 ∧ ∀ u_4 : xs_St, u_4 = xs_sa u_3 706 (upd (xa u_3 706) ((xi u_3 708)).toNatClampNeg x2) → (vp_in x2 48 ∧ ∀ y_5 : Int32, y_5 = xa u_4 704 (x2).toNatClampNeg → (vp_in (xi u_4 708) 48 ∧ ∀ u_6 : xs_St, u_6 = xs_sa u_4 707 (upd (xa u_4 707) ((xi u_4 708)).toNatClampNeg y_5) → ∀ u_7 : xs_St, u_7 = xs_si u_6 708 ((xi u_6 708) + (1 : Int32)) → (vp_in x2 48 ∧ ∀ y_8 : Int32, y_8 = xa u_7 703 (x2).toNatClampNeg → (vp_in y_8 6 ∧ ∀ y_9 : Int32, y_9 = xa u_7 700 (y_8).toNatClampNeg → ∀ y_10 : Int32, y_10 = (x2 + y_9) → k7 x1 y_10 u_7)))))))) ∧ (y_1 = 0 → ∀ x2_11 : Int32, x2_11 = x2 + (1 : Int32) → k7 x1 x2_11 u)))))))
set_option maxHeartbeats 4000000 in
set_option maxRecDepth 100000 in
theorem X_EX_noteEvents_7_w {K : xs_St → Prop} {k7 : Int32 → Int32 → xs_St → Prop} (C : th_Cx p s m args meth c cX1_noteEvents RX1 3 (none) (dC, dI) (th_ty cs) (xE ad) A) (hk7 : ∀ (x1 : Int32) (x2 : Int32) (u : xs_St) (H : Heap) (locs : List Loc) (ls : Array Slot), k7 x1 x2 u → th_wI (dC, dI) (wX cs ad q v v) A s.heap u H locs → lv_has ls 3 [(0, .ref (q 799)), (1, .int x1), (2, .int x2)] → W p l e (th_rm 0 0 0) s m args below meth c H locs 0 0 (MQ below (va_Qv K (th_Post (dC, dI) (wX cs ad q v v) A) A) args s 0 0 A) (F0 m 7 ls [])) (x1 : Int32) (x2 : Int32) (u : xs_St) (H : Heap) (locs : List Loc) (ls : Array Slot) (hf : X_EX_noteEvents_7 K k7 x1 x2 u) (hw : th_wI (dC, dI) (wX cs ad q v v) A s.heap u H locs) (hl : lv_has ls 3 [(0, .ref (q 799)), (1, .int x1), (2, .int x2)]) : W p l e (th_rm 0 0 0) s m args below meth c H locs 0 0 (MQ below (va_Qv K (th_Post (dC, dI) (wX cs ad q v v) A) A) args s 0 0 A) (F0 m 7 ls []) := by
  have hx := C.1
  have hb := C.2.1
  unfold X_EX_noteEvents_7 at hf
  refine lv_iload_n hx hb dX1_noteEvents_7 rfl (lv_at hl 2 rfl) ?_
  refine lv_iload_n hx hb dX1_noteEvents_8 rfl (lv_at hl 1 rfl) ?_
  refine lv_icmp_ge (tgt := 103) hx hb dX1_noteEvents_9 (by decide) (fun hc => ?_) (fun hc => ?_)
  · replace hf := hf.1 hc
    clear hc
    exact X_EX_noteEvents_103_w C  u _ _ _ hf hw (lv_sub hl [] rfl)
  · replace hf := hf.2 hc
    clear hc
    refine lv_aload_n hx hb dX1_noteEvents_12 rfl (lv_at hl 0 rfl) ?_
    refine xg_708 C hw (C.2.2.2.2.1 _ hwF_X1_36) dX1_noteEvents_13 ?_
    refine lv_bipush (v := (48 : Int32)) hx hb dX1_noteEvents_16 (by decide) ?_
    refine lv_icmp_ge (tgt := 103) hx hb dX1_noteEvents_18 (by decide) (fun hc => ?_) (fun hc => ?_)
    · replace hf := hf.1 hc
      clear hc
      exact X_EX_noteEvents_103_w C  u _ _ _ hf hw (lv_sub hl [] rfl)
    · replace hf := hf.2 hc
      clear hc
      refine lv_aload_n hx hb dX1_noteEvents_21 rfl (lv_at hl 0 rfl) ?_
      refine xg_704 C hw (C.2.2.2.2.1 _ hwF_X1_24) dX1_noteEvents_22 ?_
      refine lv_iload_n hx hb dX1_noteEvents_25 rfl (lv_at hl 2 rfl) ?_
      refine yl_704 C hw hf.1 dX1_noteEvents_26 (fun y_1 e9 => ?_)
      replace hf := hf.2 y_1 e9
      clear e9
      refine lv_if_ne (tgt := 36) hx hb dX1_noteEvents_27 (by decide) (fun hc => ?_) (fun hc => ?_)
      · replace hf := hf.1 hc
        clear hc
        refine lv_aload_n hx hb dX1_noteEvents_36 rfl (lv_at hl 0 rfl) ?_
        refine xg_705 C hw (C.2.2.2.2.1 _ hwF_X1_27) dX1_noteEvents_37 ?_
        refine lv_aload_n hx hb dX1_noteEvents_40 rfl (lv_at hl 0 rfl) ?_
        refine xg_708 C hw (C.2.2.2.2.1 _ hwF_X1_36) dX1_noteEvents_41 ?_
        refine lv_aload_n hx hb dX1_noteEvents_44 rfl (lv_at hl 0 rfl) ?_
        refine xg_703 C hw (C.2.2.2.2.1 _ hwF_X1_21) dX1_noteEvents_45 ?_
        refine lv_iload_n hx hb dX1_noteEvents_48 rfl (lv_at hl 2 rfl) ?_
        refine yl_703 C hw hf.1 dX1_noteEvents_49 (fun y_2 e9 => ?_)
        replace hf := hf.2 y_2 e9
        clear e9
        refine ys_705 C hw hf.1 dX1_noteEvents_50 (fun u_3 e9 H locs hw => ?_)
        replace hf := hf.2 u_3 e9
        clear e9
        refine lv_aload_n hx hb dX1_noteEvents_51 rfl (lv_at hl 0 rfl) ?_
        refine xg_706 C hw (C.2.2.2.2.1 _ hwF_X1_30) dX1_noteEvents_52 ?_
        refine lv_aload_n hx hb dX1_noteEvents_55 rfl (lv_at hl 0 rfl) ?_
        refine xg_708 C hw (C.2.2.2.2.1 _ hwF_X1_36) dX1_noteEvents_56 ?_
        refine lv_iload_n hx hb dX1_noteEvents_59 rfl (lv_at hl 2 rfl) ?_
        refine ys_706 C hw hf.1 dX1_noteEvents_60 (fun u_4 e9 H locs hw => ?_)
        replace hf := hf.2 u_4 e9
        clear e9
        refine lv_aload_n hx hb dX1_noteEvents_61 rfl (lv_at hl 0 rfl) ?_
        refine xg_707 C hw (C.2.2.2.2.1 _ hwF_X1_33) dX1_noteEvents_62 ?_
        refine lv_aload_n hx hb dX1_noteEvents_65 rfl (lv_at hl 0 rfl) ?_
        refine xg_708 C hw (C.2.2.2.2.1 _ hwF_X1_36) dX1_noteEvents_66 ?_
        refine lv_aload_n hx hb dX1_noteEvents_69 rfl (lv_at hl 0 rfl) ?_
        refine xg_704 C hw (C.2.2.2.2.1 _ hwF_X1_24) dX1_noteEvents_70 ?_
        refine lv_iload_n hx hb dX1_noteEvents_73 rfl (lv_at hl 2 rfl) ?_
        refine yl_704 C hw hf.1 dX1_noteEvents_74 (fun y_5 e9 => ?_)
        replace hf := hf.2 y_5 e9
        clear e9
        refine ys_707 C hw hf.1 dX1_noteEvents_75 (fun u_6 e9 H locs hw => ?_)
        replace hf := hf.2 u_6 e9
        clear e9
        refine lv_aload_n hx hb dX1_noteEvents_76 rfl (lv_at hl 0 rfl) ?_
        refine lv_dup hx hb dX1_noteEvents_77 rfl ?_
        refine xg_708 C hw (C.2.2.2.2.1 _ hwF_X1_36) dX1_noteEvents_78 ?_
        refine lv_iconst (v := (1 : Int32)) hx hb dX1_noteEvents_81 (by decide) ?_
        refine lv_iadd hx hb dX1_noteEvents_82 ?_
        refine xp_708 C hw (C.2.2.2.2.1 _ hwF_X1_36) dX1_noteEvents_83 (fun u_7 e9 H locs hw => ?_)
        replace hf := hf u_7 e9
        clear e9
        refine lv_iload_n hx hb dX1_noteEvents_86 rfl (lv_at hl 2 rfl) ?_
        refine lv_aload_n hx hb dX1_noteEvents_87 rfl (lv_at hl 0 rfl) ?_
        refine xg_700 C hw (C.2.2.2.2.1 _ hwF_X1_11) dX1_noteEvents_88 ?_
        refine lv_aload_n hx hb dX1_noteEvents_91 rfl (lv_at hl 0 rfl) ?_
        refine xg_703 C hw (C.2.2.2.2.1 _ hwF_X1_21) dX1_noteEvents_92 ?_
        refine lv_iload_n hx hb dX1_noteEvents_95 rfl (lv_at hl 2 rfl) ?_
        refine yl_703 C hw hf.1 dX1_noteEvents_96 (fun y_8 e9 => ?_)
        replace hf := hf.2 y_8 e9
        clear e9
        refine yl_700 C hw hf.1 dX1_noteEvents_97 (fun y_9 e9 => ?_)
        replace hf := hf.2 y_9 e9
        clear e9
        refine lv_iadd hx hb dX1_noteEvents_98 ?_
        refine lv_topi (fun y_10 e9 => ?_)
        replace hf := hf y_10 e9
        clear e9
        refine lv_istore_n (lv' := [(2, .int y_10), (0, .ref (q 799)), (1, .int x1)]) hx hb dX1_noteEvents_99 rfl hl (by decide) rfl (fun ls hl => ?_)
        refine lv_goto (tgt := 7) hx hb dX1_noteEvents_100 (by decide) ?_
        exact hk7 x1 y_10 u_7 _ _ _ hf hw (lv_sub hl [1, 2, 0] rfl)
      · replace hf := hf.2 hc
        clear hc
        obtain ⟨x2_11, e9⟩ : ∃ y : Int32, y = x2 + (1 : Int32) := ⟨_, rfl⟩
        replace hf := hf x2_11 e9
        refine lv_iinc (v := x2_11) (lv' := [(2, .int x2_11), (0, .ref (q 799)), (1, .int x1)]) hx hb dX1_noteEvents_30 hl (k := 2) rfl (by rw [e9]; rfl) (by decide) rfl (fun ls hl => ?_)
        clear e9
        refine lv_goto (tgt := 7) hx hb dX1_noteEvents_33 (by decide) ?_
        exact hk7 x1 x2_11 u _ _ _ hf hw (lv_sub hl [1, 2, 0] rfl)
def X_EX_noteEvents_7_lp (K : xs_St → Prop) : Nat → Int32 → Int32 → xs_St → Prop
  | 0, _, _, _ => False
  | n + 1, x1, x2, u => X_EX_noteEvents_7 K (X_EX_noteEvents_7_lp K n) x1 x2 u
set_option maxHeartbeats 4000000 in
set_option maxRecDepth 100000 in
theorem X_EX_noteEvents_7_lw {K : xs_St → Prop} (C : th_Cx p s m args meth c cX1_noteEvents RX1 3 (none) (dC, dI) (th_ty cs) (xE ad) A) (n : Nat) : ∀ (x1 : Int32) (x2 : Int32) (u : xs_St) (H : Heap) (locs : List Loc) (ls : Array Slot), X_EX_noteEvents_7_lp K n x1 x2 u → th_wI (dC, dI) (wX cs ad q v v) A s.heap u H locs → lv_has ls 3 [(0, .ref (q 799)), (1, .int x1), (2, .int x2)] → W p l e (th_rm 0 0 0) s m args below meth c H locs 0 0 (MQ below (va_Qv K (th_Post (dC, dI) (wX cs ad q v v) A) A) args s 0 0 A) (F0 m 7 ls []) := by
  induction n with
  | zero => intro x1 x2 u H locs ls hf; exact hf.elim
  | succ n ih =>
    intro x1 x2 u H locs ls hf hw hl
    exact X_EX_noteEvents_7_w C ih x1 x2 u H locs ls hf hw hl
def X_EX_noteEvents (a1 : Int32) (u : xs_St) (K : xs_St → Prop) : Prop :=
  ∀ u_1 : xs_St, u_1 = xs_si u 708 (0 : Int32) → ∃ n, X_EX_noteEvents_7_lp K n a1 (0 : Int32) u_1
set_option maxHeartbeats 4000000 in
set_option maxRecDepth 100000 in
theorem X_EX_noteEvents_c {l : Launch} {dC : Nat → ClassId} {dI : Nat → Nat → Nat} {cs : Nat → ClassId} {ad : Nat → Nat} {q v : Nat → Nat} {a1 : Int32} {u : xs_St} {K : xs_St → Prop} (hf : X_EX_noteEvents a1 u K) : th_Cv l yX1_noteEvents cX1_noteEvents 3 (none) 0 0 0 (dC, dI) (th_ty cs) (xE ad) (wX cs ad q v v) [.ref (q 799), .int a1] u K := by
  refine th_ofv (by decide) (Nat.le_of_ble_eq_true rfl) (xE_ok ad) ?_
  intro p e s m below meth c A ls C hw hl
  have C : th_Cx p s m _ meth c cX1_noteEvents RX1 3 (none) (dC, dI) (th_ty cs) (xE ad) A := C
  have hl : lv_has ls 3 [(0, .ref (q 799)), (1, .int a1)] := hl
  generalize (List.toArray _ : Array Value) = args at C ⊢
  have hx := C.1
  have hb := C.2.1
  unfold X_EX_noteEvents at hf
  refine lv_aload_n hx hb dX1_noteEvents_0 rfl (lv_at hl 0 rfl) ?_
  refine lv_iconst (v := (0 : Int32)) hx hb dX1_noteEvents_1 (by decide) ?_
  refine xp_708 C hw (C.2.2.2.2.1 _ hwF_X1_36) dX1_noteEvents_2 (fun u_1 e9 H locs hw => ?_)
  replace hf := hf u_1 e9
  clear e9
  refine lv_iconst (v := (0 : Int32)) hx hb dX1_noteEvents_5 (by decide) ?_
  refine lv_istore_n (lv' := [(2, .int (0 : Int32)), (0, .ref (q 799)), (1, .int a1)]) hx hb dX1_noteEvents_6 rfl hl (by decide) rfl (fun ls hl => ?_)
  obtain ⟨n, hf⟩ := hf
  exact X_EX_noteEvents_7_lw C n a1 (0 : Int32) u_1 _ _ _ hf hw (lv_sub hl [1, 2, 0] rfl)
/-! X_Feel_of_d -/
theorem dX2_of_0 : decode cX2_of 0 = .ok (.iload_n 1, 1) := by decide +kernel
theorem dX2_of_1 : decode cX2_of 1 = .ok (.ifCond .lt 21, 3) := by decide +kernel
theorem dX2_of_4 : decode cX2_of 4 = .ok (.iload_n 1, 1) := by decide +kernel
theorem dX2_of_5 : decode cX2_of 5 = .ok (.aload_n 0, 1) := by decide +kernel
theorem dX2_of_6 : decode cX2_of 6 = .ok (.getfield 35, 3) := by decide +kernel
theorem dX2_of_9 : decode cX2_of 9 = .ok (.arraylength, 1) := by decide +kernel
theorem dX2_of_10 : decode cX2_of 10 = .ok (.if_icmp .ge 12, 3) := by decide +kernel
theorem dX2_of_13 : decode cX2_of 13 = .ok (.aload_n 0, 1) := by decide +kernel
theorem dX2_of_14 : decode cX2_of 14 = .ok (.getfield 35, 3) := by decide +kernel
theorem dX2_of_17 : decode cX2_of 17 = .ok (.iload_n 1, 1) := by decide +kernel
theorem dX2_of_18 : decode cX2_of 18 = .ok (.iaload, 1) := by decide +kernel
theorem dX2_of_19 : decode cX2_of 19 = .ok (.goto 4, 3) := by decide +kernel
theorem dX2_of_22 : decode cX2_of 22 = .ok (.iconst 0, 1) := by decide +kernel
theorem dX2_of_23 : decode cX2_of 23 = .ok (.ireturn, 1) := by decide +kernel
def X_Feel_of_d_23 (K : Int32 → xs_St → Prop) (z0 : Int32) (u : xs_St) : Prop :=
  K z0 u
set_option maxHeartbeats 4000000 in
set_option maxRecDepth 100000 in
theorem X_Feel_of_d_23_w {K : Int32 → xs_St → Prop} (C : th_Cx p s m args meth c cX2_of RX2 2 (some .int) (dC, dI) (th_ty cs) (xE ad) A) (z0 : Int32) (u : xs_St) (H : Heap) (locs : List Loc) (ls : Array Slot) (hf : X_Feel_of_d_23 K z0 u) (hw : th_wI (dC, dI) (wX cs ad q v v) A s.heap u H locs) (hl : lv_has ls 2 []) : W p l e (th_rm 0 0 0) s m args below meth c H locs 0 0 (MQ below (va_Qi K (th_Post (dC, dI) (wX cs ad q v v) A) A) args s 0 0 A) (F0 m 23 ls [.int z0]) := by
  have hx := C.1
  have hb := C.2.1
  unfold X_Feel_of_d_23 at hf
  exact th_iret C hw hf dX2_of_23
def X_Feel_of_d_22 (K : Int32 → xs_St → Prop) (u : xs_St) : Prop :=
  X_Feel_of_d_23 K (0 : Int32) u
set_option maxHeartbeats 4000000 in
set_option maxRecDepth 100000 in
theorem X_Feel_of_d_22_w {K : Int32 → xs_St → Prop} (C : th_Cx p s m args meth c cX2_of RX2 2 (some .int) (dC, dI) (th_ty cs) (xE ad) A) (u : xs_St) (H : Heap) (locs : List Loc) (ls : Array Slot) (hf : X_Feel_of_d_22 K u) (hw : th_wI (dC, dI) (wX cs ad q v v) A s.heap u H locs) (hl : lv_has ls 2 []) : W p l e (th_rm 0 0 0) s m args below meth c H locs 0 0 (MQ below (va_Qi K (th_Post (dC, dI) (wX cs ad q v v) A) A) args s 0 0 A) (F0 m 22 ls []) := by
  have hx := C.1
  have hb := C.2.1
  unfold X_Feel_of_d_22 at hf
  refine lv_iconst (v := (0 : Int32)) hx hb dX2_of_22 (by decide) ?_
  exact X_Feel_of_d_23_w C (0 : Int32) u _ _ _ hf hw (lv_sub hl [] rfl)
def X_Feel_of_d (a0 : Nat) (a1 : Int32) (u : xs_St) (K : Int32 → xs_St → Prop) : Prop :=
  ((a1 < 0 → X_Feel_of_d_22 K u) ∧ (¬ a1 < 0 → (xd_is u a0 3 ∧ (∃ b_1 : Nat, (xdR u 3 a0) = some b_1 ∧ xd_is u b_1 4 ∧ (((nI (xdN u b_1)) ≤ a1 → X_Feel_of_d_22 K u) ∧ (¬ (nI (xdN u b_1)) ≤ a1 → (xd_is u a0 3 ∧ (∃ b_3 : Nat, (xdR u 3 a0) = some b_3 ∧ xd_is u b_3 4 ∧ (vp_in a1 (xdN u b_3) ∧ ∀ y_2 : Int32, y_2 = xdA u b_3 (a1).toNatClampNeg → X_Feel_of_d_23 K y_2 u)))))))))
set_option maxHeartbeats 4000000 in
set_option maxRecDepth 100000 in
theorem X_Feel_of_d_c {l : Launch} {dC : Nat → ClassId} {dI : Nat → Nat → Nat} {cs : Nat → ClassId} {ad : Nat → Nat} {q v : Nat → Nat} {a0 : Nat} {a1 : Int32} {u : xs_St} {K : Int32 → xs_St → Prop} (hf : X_Feel_of_d a0 a1 u K) : th_Ci l yX2_of cX2_of 2 (some .int) 0 0 0 (dC, dI) (th_ty cs) (xE ad) (wX cs ad q v v) [.ref a0, .int a1] u K := by
  refine th_ofi (by decide) (Nat.le_of_ble_eq_true rfl) (xE_ok ad) ?_
  intro p e s m below meth c A ls C hw hl
  have C : th_Cx p s m _ meth c cX2_of RX2 2 (some .int) (dC, dI) (th_ty cs) (xE ad) A := C
  have hl : lv_has ls 2 [(0, .ref a0), (1, .int a1)] := hl
  generalize (List.toArray _ : Array Value) = args at C ⊢
  have hx := C.1
  have hb := C.2.1
  unfold X_Feel_of_d at hf
  refine lv_iload_n hx hb dX2_of_0 rfl (lv_at hl 1 rfl) ?_
  refine lv_if_lt (tgt := 22) hx hb dX2_of_1 (by decide) (fun hc => ?_) (fun hc => ?_)
  · replace hf := hf.1 hc
    clear hc
    exact X_Feel_of_d_22_w C  u _ _ _ hf hw (lv_sub hl [] rfl)
  · replace hf := hf.2 hc
    clear hc
    refine lv_iload_n hx hb dX2_of_4 rfl (lv_at hl 1 rfl) ?_
    refine lv_aload_n hx hb dX2_of_5 rfl (lv_at hl 0 rfl) ?_
    obtain ⟨hm, hf⟩ := hf
    refine xdg_Feel_feels C hw hm (C.2.2.2.2.1 _ hwF_X2_35) dX2_of_6 ?_
    obtain ⟨b_1, e9, hm, hf⟩ := hf
    refine W.eq (g2 := F0 m 9 ls [.ref b_1, .int a1]) (congrArg (fun z9 => F0 m 9 ls [va_rf z9, .int a1]) e9) ?_
    clear e9
    refine xdn_4 C hw hm dX2_of_9 ?_
    refine lv_icmp_ge (tgt := 22) hx hb dX2_of_10 (by decide) (fun hc => ?_) (fun hc => ?_)
    · replace hf := hf.1 hc
      clear hc
      exact X_Feel_of_d_22_w C  u _ _ _ hf hw (lv_sub hl [] rfl)
    · replace hf := hf.2 hc
      clear hc
      refine lv_aload_n hx hb dX2_of_13 rfl (lv_at hl 0 rfl) ?_
      obtain ⟨hm, hf⟩ := hf
      refine xdg_Feel_feels C hw hm (C.2.2.2.2.1 _ hwF_X2_35) dX2_of_14 ?_
      refine lv_iload_n hx hb dX2_of_17 rfl (lv_at hl 1 rfl) ?_
      obtain ⟨b_3, e9, hm, hf⟩ := hf
      refine W.eq (g2 := F0 m 18 ls [.int a1, .ref b_3]) (congrArg (fun z9 => F0 m 18 ls [.int a1, va_rf z9]) e9) ?_
      clear e9
      refine xdl_4 C hw hm hf.1 dX2_of_18 (fun y_2 e9 => ?_)
      replace hf := hf.2 y_2 e9
      clear e9
      refine lv_goto (tgt := 23) hx hb dX2_of_19 (by decide) ?_
      exact X_Feel_of_d_23_w C y_2 u _ _ _ hf hw (lv_sub hl [] rfl)
/-! X_J_fill_53178_607 -/
theorem dJ7_fill_53178_0 : decode cJ7_fill_53178 0 = .ok (.iconst 0, 1) := by decide +kernel
theorem dJ7_fill_53178_1 : decode cJ7_fill_53178 1 = .ok (.istore_n 2, 1) := by decide +kernel
theorem dJ7_fill_53178_2 : decode cJ7_fill_53178 2 = .ok (.aload_n 0, 1) := by decide +kernel
theorem dJ7_fill_53178_3 : decode cJ7_fill_53178 3 = .ok (.arraylength, 1) := by decide +kernel
theorem dJ7_fill_53178_4 : decode cJ7_fill_53178 4 = .ok (.istore_n 3, 1) := by decide +kernel
theorem dJ7_fill_53178_5 : decode cJ7_fill_53178 5 = .ok (.iload_n 2, 1) := by decide +kernel
theorem dJ7_fill_53178_6 : decode cJ7_fill_53178 6 = .ok (.iload_n 3, 1) := by decide +kernel
theorem dJ7_fill_53178_7 : decode cJ7_fill_53178 7 = .ok (.if_icmp .ge 13, 3) := by decide +kernel
theorem dJ7_fill_53178_10 : decode cJ7_fill_53178 10 = .ok (.aload_n 0, 1) := by decide +kernel
theorem dJ7_fill_53178_11 : decode cJ7_fill_53178 11 = .ok (.iload_n 2, 1) := by decide +kernel
theorem dJ7_fill_53178_12 : decode cJ7_fill_53178 12 = .ok (.iload_n 1, 1) := by decide +kernel
theorem dJ7_fill_53178_13 : decode cJ7_fill_53178 13 = .ok (.iastore, 1) := by decide +kernel
theorem dJ7_fill_53178_14 : decode cJ7_fill_53178 14 = .ok (.iinc 2 1, 3) := by decide +kernel
theorem dJ7_fill_53178_17 : decode cJ7_fill_53178 17 = .ok (.goto (-12), 3) := by decide +kernel
theorem dJ7_fill_53178_20 : decode cJ7_fill_53178 20 = .ok (.return_, 1) := by decide +kernel
def X_J_fill_53178_607_5 (K : xs_St → Prop) (k5 : Int32 → Int32 → Int32 → xs_St → Prop) (x1 : Int32) (x2 : Int32) (x3 : Int32) (u : xs_St) : Prop :=
  ((x3 ≤ x2 → K u) ∧ (¬ x3 ≤ x2 → (vp_in x2 31 ∧ ∀ u_1 : xs_St, u_1 = xs_sa u 607 (upd (xa u 607) (x2).toNatClampNeg x1) → ∀ x2_2 : Int32, x2_2 = x2 + (1 : Int32) → k5 x1 x2_2 x3 u_1)))
set_option maxHeartbeats 4000000 in
set_option maxRecDepth 100000 in
theorem X_J_fill_53178_607_5_w {K : xs_St → Prop} {k5 : Int32 → Int32 → Int32 → xs_St → Prop} (C : th_Cx p s m args meth c cJ7_fill_53178 RJ7 4 (none) (dC, dI) (th_ty cs) (xE ad) A) (hk5 : ∀ (x1 : Int32) (x2 : Int32) (x3 : Int32) (u : xs_St) (H : Heap) (locs : List Loc) (ls : Array Slot), k5 x1 x2 x3 u → th_wI (dC, dI) (wX cs ad q v v) A s.heap u H locs → lv_has ls 4 [(0, .ref (v 607)), (1, .int x1), (2, .int x2), (3, .int x3)] → W p l e (th_rm 0 0 0) s m args below meth c H locs 0 0 (MQ below (va_Qv K (th_Post (dC, dI) (wX cs ad q v v) A) A) args s 0 0 A) (F0 m 5 ls [])) (x1 : Int32) (x2 : Int32) (x3 : Int32) (u : xs_St) (H : Heap) (locs : List Loc) (ls : Array Slot) (hf : X_J_fill_53178_607_5 K k5 x1 x2 x3 u) (hw : th_wI (dC, dI) (wX cs ad q v v) A s.heap u H locs) (hl : lv_has ls 4 [(0, .ref (v 607)), (1, .int x1), (2, .int x2), (3, .int x3)]) : W p l e (th_rm 0 0 0) s m args below meth c H locs 0 0 (MQ below (va_Qv K (th_Post (dC, dI) (wX cs ad q v v) A) A) args s 0 0 A) (F0 m 5 ls []) := by
  have hx := C.1
  have hb := C.2.1
  unfold X_J_fill_53178_607_5 at hf
  refine lv_iload_n hx hb dJ7_fill_53178_5 rfl (lv_at hl 2 rfl) ?_
  refine lv_iload_n hx hb dJ7_fill_53178_6 rfl (lv_at hl 3 rfl) ?_
  refine lv_icmp_ge (tgt := 20) hx hb dJ7_fill_53178_7 (by decide) (fun hc => ?_) (fun hc => ?_)
  · replace hf := hf.1 hc
    clear hc
    exact th_vret C hw hf dJ7_fill_53178_20
  · replace hf := hf.2 hc
    clear hc
    refine lv_aload_n hx hb dJ7_fill_53178_10 rfl (lv_at hl 0 rfl) ?_
    refine lv_iload_n hx hb dJ7_fill_53178_11 rfl (lv_at hl 2 rfl) ?_
    refine lv_iload_n hx hb dJ7_fill_53178_12 rfl (lv_at hl 1 rfl) ?_
    refine ys_607 C hw hf.1 dJ7_fill_53178_13 (fun u_1 e9 H locs hw => ?_)
    replace hf := hf.2 u_1 e9
    clear e9
    obtain ⟨x2_2, e9⟩ : ∃ y : Int32, y = x2 + (1 : Int32) := ⟨_, rfl⟩
    replace hf := hf x2_2 e9
    refine lv_iinc (v := x2_2) (lv' := [(2, .int x2_2), (0, .ref (v 607)), (1, .int x1), (3, .int x3)]) hx hb dJ7_fill_53178_14 hl (k := 2) rfl (by rw [e9]; rfl) (by decide) rfl (fun ls hl => ?_)
    clear e9
    refine lv_goto (tgt := 5) hx hb dJ7_fill_53178_17 (by decide) ?_
    exact hk5 x1 x2_2 x3 u_1 _ _ _ hf hw (lv_sub hl [1, 2, 0, 3] rfl)
def X_J_fill_53178_607_5_lp (K : xs_St → Prop) : Nat → Int32 → Int32 → Int32 → xs_St → Prop
  | 0, _, _, _, _ => False
  | n + 1, x1, x2, x3, u => X_J_fill_53178_607_5 K (X_J_fill_53178_607_5_lp K n) x1 x2 x3 u
set_option maxHeartbeats 4000000 in
set_option maxRecDepth 100000 in
theorem X_J_fill_53178_607_5_lw {K : xs_St → Prop} (C : th_Cx p s m args meth c cJ7_fill_53178 RJ7 4 (none) (dC, dI) (th_ty cs) (xE ad) A) (n : Nat) : ∀ (x1 : Int32) (x2 : Int32) (x3 : Int32) (u : xs_St) (H : Heap) (locs : List Loc) (ls : Array Slot), X_J_fill_53178_607_5_lp K n x1 x2 x3 u → th_wI (dC, dI) (wX cs ad q v v) A s.heap u H locs → lv_has ls 4 [(0, .ref (v 607)), (1, .int x1), (2, .int x2), (3, .int x3)] → W p l e (th_rm 0 0 0) s m args below meth c H locs 0 0 (MQ below (va_Qv K (th_Post (dC, dI) (wX cs ad q v v) A) A) args s 0 0 A) (F0 m 5 ls []) := by
  induction n with
  | zero => intro x1 x2 x3 u H locs ls hf; exact hf.elim
  | succ n ih =>
    intro x1 x2 x3 u H locs ls hf hw hl
    exact X_J_fill_53178_607_5_w C ih x1 x2 x3 u H locs ls hf hw hl
def X_J_fill_53178_607 (a2 : Int32) (u : xs_St) (K : xs_St → Prop) : Prop :=
  ∃ n, X_J_fill_53178_607_5_lp K n a2 (0 : Int32) (31 : Int32) u
set_option maxHeartbeats 4000000 in
set_option maxRecDepth 100000 in
theorem X_J_fill_53178_607_c {l : Launch} {dC : Nat → ClassId} {dI : Nat → Nat → Nat} {cs : Nat → ClassId} {ad : Nat → Nat} {q v : Nat → Nat} {a2 : Int32} {u : xs_St} {K : xs_St → Prop} (hf : X_J_fill_53178_607 a2 u K) : th_Cv l yJ7_fill_53178 cJ7_fill_53178 4 (none) 0 0 0 (dC, dI) (th_ty cs) (xE ad) (wX cs ad q v v) [.ref (v 607), .int a2] u K := by
  refine th_ofv (by decide) (Nat.le_of_ble_eq_true rfl) (xE_ok ad) ?_
  intro p e s m below meth c A ls C hw hl
  have C : th_Cx p s m _ meth c cJ7_fill_53178 RJ7 4 (none) (dC, dI) (th_ty cs) (xE ad) A := C
  have hl : lv_has ls 4 [(0, .ref (v 607)), (1, .int a2)] := hl
  generalize (List.toArray _ : Array Value) = args at C ⊢
  have hx := C.1
  have hb := C.2.1
  unfold X_J_fill_53178_607 at hf
  refine lv_iconst (v := (0 : Int32)) hx hb dJ7_fill_53178_0 (by decide) ?_
  refine lv_istore_n (lv' := [(2, .int (0 : Int32)), (0, .ref (v 607)), (1, .int a2)]) hx hb dJ7_fill_53178_1 rfl hl (by decide) rfl (fun ls hl => ?_)
  refine lv_aload_n hx hb dJ7_fill_53178_2 rfl (lv_at hl 1 rfl) ?_
  refine yn_607 C hw dJ7_fill_53178_3 ?_
  refine lv_istore_n (lv' := [(3, .int (31 : Int32)), (2, .int (0 : Int32)), (0, .ref (v 607)), (1, .int a2)]) hx hb dJ7_fill_53178_4 rfl hl (by decide) rfl (fun ls hl => ?_)
  obtain ⟨n, hf⟩ := hf
  exact X_J_fill_53178_607_5_lw C n a2 (0 : Int32) (31 : Int32) u _ _ _ hf hw (lv_sub hl [2, 3, 1, 0] rfl)
/-! X_J_fill_53178_608 -/
def X_J_fill_53178_608_5 (K : xs_St → Prop) (k5 : Int32 → Int32 → Int32 → xs_St → Prop) (x1 : Int32) (x2 : Int32) (x3 : Int32) (u : xs_St) : Prop :=
  ((x3 ≤ x2 → K u) ∧ (¬ x3 ≤ x2 → (vp_in x2 31 ∧ ∀ u_1 : xs_St, u_1 = xs_sa u 608 (upd (xa u 608) (x2).toNatClampNeg x1) → ∀ x2_2 : Int32, x2_2 = x2 + (1 : Int32) → k5 x1 x2_2 x3 u_1)))
set_option maxHeartbeats 4000000 in
set_option maxRecDepth 100000 in
theorem X_J_fill_53178_608_5_w {K : xs_St → Prop} {k5 : Int32 → Int32 → Int32 → xs_St → Prop} (C : th_Cx p s m args meth c cJ7_fill_53178 RJ7 4 (none) (dC, dI) (th_ty cs) (xE ad) A) (hk5 : ∀ (x1 : Int32) (x2 : Int32) (x3 : Int32) (u : xs_St) (H : Heap) (locs : List Loc) (ls : Array Slot), k5 x1 x2 x3 u → th_wI (dC, dI) (wX cs ad q v v) A s.heap u H locs → lv_has ls 4 [(0, .ref (v 608)), (1, .int x1), (2, .int x2), (3, .int x3)] → W p l e (th_rm 0 0 0) s m args below meth c H locs 0 0 (MQ below (va_Qv K (th_Post (dC, dI) (wX cs ad q v v) A) A) args s 0 0 A) (F0 m 5 ls [])) (x1 : Int32) (x2 : Int32) (x3 : Int32) (u : xs_St) (H : Heap) (locs : List Loc) (ls : Array Slot) (hf : X_J_fill_53178_608_5 K k5 x1 x2 x3 u) (hw : th_wI (dC, dI) (wX cs ad q v v) A s.heap u H locs) (hl : lv_has ls 4 [(0, .ref (v 608)), (1, .int x1), (2, .int x2), (3, .int x3)]) : W p l e (th_rm 0 0 0) s m args below meth c H locs 0 0 (MQ below (va_Qv K (th_Post (dC, dI) (wX cs ad q v v) A) A) args s 0 0 A) (F0 m 5 ls []) := by
  have hx := C.1
  have hb := C.2.1
  unfold X_J_fill_53178_608_5 at hf
  refine lv_iload_n hx hb dJ7_fill_53178_5 rfl (lv_at hl 2 rfl) ?_
  refine lv_iload_n hx hb dJ7_fill_53178_6 rfl (lv_at hl 3 rfl) ?_
  refine lv_icmp_ge (tgt := 20) hx hb dJ7_fill_53178_7 (by decide) (fun hc => ?_) (fun hc => ?_)
  · replace hf := hf.1 hc
    clear hc
    exact th_vret C hw hf dJ7_fill_53178_20
  · replace hf := hf.2 hc
    clear hc
    refine lv_aload_n hx hb dJ7_fill_53178_10 rfl (lv_at hl 0 rfl) ?_
    refine lv_iload_n hx hb dJ7_fill_53178_11 rfl (lv_at hl 2 rfl) ?_
    refine lv_iload_n hx hb dJ7_fill_53178_12 rfl (lv_at hl 1 rfl) ?_
    refine ys_608 C hw hf.1 dJ7_fill_53178_13 (fun u_1 e9 H locs hw => ?_)
    replace hf := hf.2 u_1 e9
    clear e9
    obtain ⟨x2_2, e9⟩ : ∃ y : Int32, y = x2 + (1 : Int32) := ⟨_, rfl⟩
    replace hf := hf x2_2 e9
    refine lv_iinc (v := x2_2) (lv' := [(2, .int x2_2), (0, .ref (v 608)), (1, .int x1), (3, .int x3)]) hx hb dJ7_fill_53178_14 hl (k := 2) rfl (by rw [e9]; rfl) (by decide) rfl (fun ls hl => ?_)
    clear e9
    refine lv_goto (tgt := 5) hx hb dJ7_fill_53178_17 (by decide) ?_
    exact hk5 x1 x2_2 x3 u_1 _ _ _ hf hw (lv_sub hl [1, 2, 0, 3] rfl)
def X_J_fill_53178_608_5_lp (K : xs_St → Prop) : Nat → Int32 → Int32 → Int32 → xs_St → Prop
  | 0, _, _, _, _ => False
  | n + 1, x1, x2, x3, u => X_J_fill_53178_608_5 K (X_J_fill_53178_608_5_lp K n) x1 x2 x3 u
set_option maxHeartbeats 4000000 in
set_option maxRecDepth 100000 in
theorem X_J_fill_53178_608_5_lw {K : xs_St → Prop} (C : th_Cx p s m args meth c cJ7_fill_53178 RJ7 4 (none) (dC, dI) (th_ty cs) (xE ad) A) (n : Nat) : ∀ (x1 : Int32) (x2 : Int32) (x3 : Int32) (u : xs_St) (H : Heap) (locs : List Loc) (ls : Array Slot), X_J_fill_53178_608_5_lp K n x1 x2 x3 u → th_wI (dC, dI) (wX cs ad q v v) A s.heap u H locs → lv_has ls 4 [(0, .ref (v 608)), (1, .int x1), (2, .int x2), (3, .int x3)] → W p l e (th_rm 0 0 0) s m args below meth c H locs 0 0 (MQ below (va_Qv K (th_Post (dC, dI) (wX cs ad q v v) A) A) args s 0 0 A) (F0 m 5 ls []) := by
  induction n with
  | zero => intro x1 x2 x3 u H locs ls hf; exact hf.elim
  | succ n ih =>
    intro x1 x2 x3 u H locs ls hf hw hl
    exact X_J_fill_53178_608_5_w C ih x1 x2 x3 u H locs ls hf hw hl
def X_J_fill_53178_608 (a2 : Int32) (u : xs_St) (K : xs_St → Prop) : Prop :=
  ∃ n, X_J_fill_53178_608_5_lp K n a2 (0 : Int32) (31 : Int32) u
set_option maxHeartbeats 4000000 in
set_option maxRecDepth 100000 in
theorem X_J_fill_53178_608_c {l : Launch} {dC : Nat → ClassId} {dI : Nat → Nat → Nat} {cs : Nat → ClassId} {ad : Nat → Nat} {q v : Nat → Nat} {a2 : Int32} {u : xs_St} {K : xs_St → Prop} (hf : X_J_fill_53178_608 a2 u K) : th_Cv l yJ7_fill_53178 cJ7_fill_53178 4 (none) 0 0 0 (dC, dI) (th_ty cs) (xE ad) (wX cs ad q v v) [.ref (v 608), .int a2] u K := by
  refine th_ofv (by decide) (Nat.le_of_ble_eq_true rfl) (xE_ok ad) ?_
  intro p e s m below meth c A ls C hw hl
  have C : th_Cx p s m _ meth c cJ7_fill_53178 RJ7 4 (none) (dC, dI) (th_ty cs) (xE ad) A := C
  have hl : lv_has ls 4 [(0, .ref (v 608)), (1, .int a2)] := hl
  generalize (List.toArray _ : Array Value) = args at C ⊢
  have hx := C.1
  have hb := C.2.1
  unfold X_J_fill_53178_608 at hf
  refine lv_iconst (v := (0 : Int32)) hx hb dJ7_fill_53178_0 (by decide) ?_
  refine lv_istore_n (lv' := [(2, .int (0 : Int32)), (0, .ref (v 608)), (1, .int a2)]) hx hb dJ7_fill_53178_1 rfl hl (by decide) rfl (fun ls hl => ?_)
  refine lv_aload_n hx hb dJ7_fill_53178_2 rfl (lv_at hl 1 rfl) ?_
  refine yn_608 C hw dJ7_fill_53178_3 ?_
  refine lv_istore_n (lv' := [(3, .int (31 : Int32)), (2, .int (0 : Int32)), (0, .ref (v 608)), (1, .int a2)]) hx hb dJ7_fill_53178_4 rfl hl (by decide) rfl (fun ls hl => ?_)
  obtain ⟨n, hf⟩ := hf
  exact X_J_fill_53178_608_5_lw C n a2 (0 : Int32) (31 : Int32) u _ _ _ hf hw (lv_sub hl [2, 3, 1, 0] rfl)
/-! X_J_fill_53178_804 -/
def X_J_fill_53178_804_5 (K : xs_St → Prop) (k5 : Int32 → Int32 → Int32 → xs_St → Prop) (x1 : Int32) (x2 : Int32) (x3 : Int32) (u : xs_St) : Prop :=
  ((x3 ≤ x2 → K u) ∧ (¬ x3 ≤ x2 → (vp_in x2 48 ∧ ∀ u_1 : xs_St, u_1 = xs_sa u 804 (upd (xa u 804) (x2).toNatClampNeg x1) → ∀ x2_2 : Int32, x2_2 = x2 + (1 : Int32) → k5 x1 x2_2 x3 u_1)))
set_option maxHeartbeats 4000000 in
set_option maxRecDepth 100000 in
theorem X_J_fill_53178_804_5_w {K : xs_St → Prop} {k5 : Int32 → Int32 → Int32 → xs_St → Prop} (C : th_Cx p s m args meth c cJ7_fill_53178 RJ7 4 (none) (dC, dI) (th_ty cs) (xE ad) A) (hk5 : ∀ (x1 : Int32) (x2 : Int32) (x3 : Int32) (u : xs_St) (H : Heap) (locs : List Loc) (ls : Array Slot), k5 x1 x2 x3 u → th_wI (dC, dI) (wX cs ad q v v) A s.heap u H locs → lv_has ls 4 [(0, .ref (v 804)), (1, .int x1), (2, .int x2), (3, .int x3)] → W p l e (th_rm 0 0 0) s m args below meth c H locs 0 0 (MQ below (va_Qv K (th_Post (dC, dI) (wX cs ad q v v) A) A) args s 0 0 A) (F0 m 5 ls [])) (x1 : Int32) (x2 : Int32) (x3 : Int32) (u : xs_St) (H : Heap) (locs : List Loc) (ls : Array Slot) (hf : X_J_fill_53178_804_5 K k5 x1 x2 x3 u) (hw : th_wI (dC, dI) (wX cs ad q v v) A s.heap u H locs) (hl : lv_has ls 4 [(0, .ref (v 804)), (1, .int x1), (2, .int x2), (3, .int x3)]) : W p l e (th_rm 0 0 0) s m args below meth c H locs 0 0 (MQ below (va_Qv K (th_Post (dC, dI) (wX cs ad q v v) A) A) args s 0 0 A) (F0 m 5 ls []) := by
  have hx := C.1
  have hb := C.2.1
  unfold X_J_fill_53178_804_5 at hf
  refine lv_iload_n hx hb dJ7_fill_53178_5 rfl (lv_at hl 2 rfl) ?_
  refine lv_iload_n hx hb dJ7_fill_53178_6 rfl (lv_at hl 3 rfl) ?_
  refine lv_icmp_ge (tgt := 20) hx hb dJ7_fill_53178_7 (by decide) (fun hc => ?_) (fun hc => ?_)
  · replace hf := hf.1 hc
    clear hc
    exact th_vret C hw hf dJ7_fill_53178_20
  · replace hf := hf.2 hc
    clear hc
    refine lv_aload_n hx hb dJ7_fill_53178_10 rfl (lv_at hl 0 rfl) ?_
    refine lv_iload_n hx hb dJ7_fill_53178_11 rfl (lv_at hl 2 rfl) ?_
    refine lv_iload_n hx hb dJ7_fill_53178_12 rfl (lv_at hl 1 rfl) ?_
    refine ys_804 C hw hf.1 dJ7_fill_53178_13 (fun u_1 e9 H locs hw => ?_)
    replace hf := hf.2 u_1 e9
    clear e9
    obtain ⟨x2_2, e9⟩ : ∃ y : Int32, y = x2 + (1 : Int32) := ⟨_, rfl⟩
    replace hf := hf x2_2 e9
    refine lv_iinc (v := x2_2) (lv' := [(2, .int x2_2), (0, .ref (v 804)), (1, .int x1), (3, .int x3)]) hx hb dJ7_fill_53178_14 hl (k := 2) rfl (by rw [e9]; rfl) (by decide) rfl (fun ls hl => ?_)
    clear e9
    refine lv_goto (tgt := 5) hx hb dJ7_fill_53178_17 (by decide) ?_
    exact hk5 x1 x2_2 x3 u_1 _ _ _ hf hw (lv_sub hl [1, 2, 0, 3] rfl)
def X_J_fill_53178_804_5_lp (K : xs_St → Prop) : Nat → Int32 → Int32 → Int32 → xs_St → Prop
  | 0, _, _, _, _ => False
  | n + 1, x1, x2, x3, u => X_J_fill_53178_804_5 K (X_J_fill_53178_804_5_lp K n) x1 x2 x3 u
set_option maxHeartbeats 4000000 in
set_option maxRecDepth 100000 in
theorem X_J_fill_53178_804_5_lw {K : xs_St → Prop} (C : th_Cx p s m args meth c cJ7_fill_53178 RJ7 4 (none) (dC, dI) (th_ty cs) (xE ad) A) (n : Nat) : ∀ (x1 : Int32) (x2 : Int32) (x3 : Int32) (u : xs_St) (H : Heap) (locs : List Loc) (ls : Array Slot), X_J_fill_53178_804_5_lp K n x1 x2 x3 u → th_wI (dC, dI) (wX cs ad q v v) A s.heap u H locs → lv_has ls 4 [(0, .ref (v 804)), (1, .int x1), (2, .int x2), (3, .int x3)] → W p l e (th_rm 0 0 0) s m args below meth c H locs 0 0 (MQ below (va_Qv K (th_Post (dC, dI) (wX cs ad q v v) A) A) args s 0 0 A) (F0 m 5 ls []) := by
  induction n with
  | zero => intro x1 x2 x3 u H locs ls hf; exact hf.elim
  | succ n ih =>
    intro x1 x2 x3 u H locs ls hf hw hl
    exact X_J_fill_53178_804_5_w C ih x1 x2 x3 u H locs ls hf hw hl
def X_J_fill_53178_804 (a2 : Int32) (u : xs_St) (K : xs_St → Prop) : Prop :=
  ∃ n, X_J_fill_53178_804_5_lp K n a2 (0 : Int32) (48 : Int32) u
set_option maxHeartbeats 4000000 in
set_option maxRecDepth 100000 in
theorem X_J_fill_53178_804_c {l : Launch} {dC : Nat → ClassId} {dI : Nat → Nat → Nat} {cs : Nat → ClassId} {ad : Nat → Nat} {q v : Nat → Nat} {a2 : Int32} {u : xs_St} {K : xs_St → Prop} (hf : X_J_fill_53178_804 a2 u K) : th_Cv l yJ7_fill_53178 cJ7_fill_53178 4 (none) 0 0 0 (dC, dI) (th_ty cs) (xE ad) (wX cs ad q v v) [.ref (v 804), .int a2] u K := by
  refine th_ofv (by decide) (Nat.le_of_ble_eq_true rfl) (xE_ok ad) ?_
  intro p e s m below meth c A ls C hw hl
  have C : th_Cx p s m _ meth c cJ7_fill_53178 RJ7 4 (none) (dC, dI) (th_ty cs) (xE ad) A := C
  have hl : lv_has ls 4 [(0, .ref (v 804)), (1, .int a2)] := hl
  generalize (List.toArray _ : Array Value) = args at C ⊢
  have hx := C.1
  have hb := C.2.1
  unfold X_J_fill_53178_804 at hf
  refine lv_iconst (v := (0 : Int32)) hx hb dJ7_fill_53178_0 (by decide) ?_
  refine lv_istore_n (lv' := [(2, .int (0 : Int32)), (0, .ref (v 804)), (1, .int a2)]) hx hb dJ7_fill_53178_1 rfl hl (by decide) rfl (fun ls hl => ?_)
  refine lv_aload_n hx hb dJ7_fill_53178_2 rfl (lv_at hl 1 rfl) ?_
  refine yn_804 C hw dJ7_fill_53178_3 ?_
  refine lv_istore_n (lv' := [(3, .int (48 : Int32)), (2, .int (0 : Int32)), (0, .ref (v 804)), (1, .int a2)]) hx hb dJ7_fill_53178_4 rfl hl (by decide) rfl (fun ls hl => ?_)
  obtain ⟨n, hf⟩ := hf
  exact X_J_fill_53178_804_5_lw C n a2 (0 : Int32) (48 : Int32) u _ _ _ hf hw (lv_sub hl [2, 3, 1, 0] rfl)
/-! X_J_fill_53178_900 -/
def X_J_fill_53178_900_5 (K : xs_St → Prop) (k5 : Int32 → Int32 → Int32 → xs_St → Prop) (x1 : Int32) (x2 : Int32) (x3 : Int32) (u : xs_St) : Prop :=
  ((x3 ≤ x2 → K u) ∧ (¬ x3 ≤ x2 → (vp_in x2 48 ∧ ∀ u_1 : xs_St, u_1 = xs_sa u 900 (upd (xa u 900) (x2).toNatClampNeg x1) → ∀ x2_2 : Int32, x2_2 = x2 + (1 : Int32) → k5 x1 x2_2 x3 u_1)))
set_option maxHeartbeats 4000000 in
set_option maxRecDepth 100000 in
theorem X_J_fill_53178_900_5_w {K : xs_St → Prop} {k5 : Int32 → Int32 → Int32 → xs_St → Prop} (C : th_Cx p s m args meth c cJ7_fill_53178 RJ7 4 (none) (dC, dI) (th_ty cs) (xE ad) A) (hk5 : ∀ (x1 : Int32) (x2 : Int32) (x3 : Int32) (u : xs_St) (H : Heap) (locs : List Loc) (ls : Array Slot), k5 x1 x2 x3 u → th_wI (dC, dI) (wX cs ad q v v) A s.heap u H locs → lv_has ls 4 [(0, .ref (q 900)), (1, .int x1), (2, .int x2), (3, .int x3)] → W p l e (th_rm 0 0 0) s m args below meth c H locs 0 0 (MQ below (va_Qv K (th_Post (dC, dI) (wX cs ad q v v) A) A) args s 0 0 A) (F0 m 5 ls [])) (x1 : Int32) (x2 : Int32) (x3 : Int32) (u : xs_St) (H : Heap) (locs : List Loc) (ls : Array Slot) (hf : X_J_fill_53178_900_5 K k5 x1 x2 x3 u) (hw : th_wI (dC, dI) (wX cs ad q v v) A s.heap u H locs) (hl : lv_has ls 4 [(0, .ref (q 900)), (1, .int x1), (2, .int x2), (3, .int x3)]) : W p l e (th_rm 0 0 0) s m args below meth c H locs 0 0 (MQ below (va_Qv K (th_Post (dC, dI) (wX cs ad q v v) A) A) args s 0 0 A) (F0 m 5 ls []) := by
  have hx := C.1
  have hb := C.2.1
  unfold X_J_fill_53178_900_5 at hf
  refine lv_iload_n hx hb dJ7_fill_53178_5 rfl (lv_at hl 2 rfl) ?_
  refine lv_iload_n hx hb dJ7_fill_53178_6 rfl (lv_at hl 3 rfl) ?_
  refine lv_icmp_ge (tgt := 20) hx hb dJ7_fill_53178_7 (by decide) (fun hc => ?_) (fun hc => ?_)
  · replace hf := hf.1 hc
    clear hc
    exact th_vret C hw hf dJ7_fill_53178_20
  · replace hf := hf.2 hc
    clear hc
    refine lv_aload_n hx hb dJ7_fill_53178_10 rfl (lv_at hl 0 rfl) ?_
    refine lv_iload_n hx hb dJ7_fill_53178_11 rfl (lv_at hl 2 rfl) ?_
    refine lv_iload_n hx hb dJ7_fill_53178_12 rfl (lv_at hl 1 rfl) ?_
    refine ys_900 C hw hf.1 dJ7_fill_53178_13 (fun u_1 e9 H locs hw => ?_)
    replace hf := hf.2 u_1 e9
    clear e9
    obtain ⟨x2_2, e9⟩ : ∃ y : Int32, y = x2 + (1 : Int32) := ⟨_, rfl⟩
    replace hf := hf x2_2 e9
    refine lv_iinc (v := x2_2) (lv' := [(2, .int x2_2), (0, .ref (q 900)), (1, .int x1), (3, .int x3)]) hx hb dJ7_fill_53178_14 hl (k := 2) rfl (by rw [e9]; rfl) (by decide) rfl (fun ls hl => ?_)
    clear e9
    refine lv_goto (tgt := 5) hx hb dJ7_fill_53178_17 (by decide) ?_
    exact hk5 x1 x2_2 x3 u_1 _ _ _ hf hw (lv_sub hl [1, 2, 0, 3] rfl)
def X_J_fill_53178_900_5_lp (K : xs_St → Prop) : Nat → Int32 → Int32 → Int32 → xs_St → Prop
  | 0, _, _, _, _ => False
  | n + 1, x1, x2, x3, u => X_J_fill_53178_900_5 K (X_J_fill_53178_900_5_lp K n) x1 x2 x3 u
set_option maxHeartbeats 4000000 in
set_option maxRecDepth 100000 in
theorem X_J_fill_53178_900_5_lw {K : xs_St → Prop} (C : th_Cx p s m args meth c cJ7_fill_53178 RJ7 4 (none) (dC, dI) (th_ty cs) (xE ad) A) (n : Nat) : ∀ (x1 : Int32) (x2 : Int32) (x3 : Int32) (u : xs_St) (H : Heap) (locs : List Loc) (ls : Array Slot), X_J_fill_53178_900_5_lp K n x1 x2 x3 u → th_wI (dC, dI) (wX cs ad q v v) A s.heap u H locs → lv_has ls 4 [(0, .ref (q 900)), (1, .int x1), (2, .int x2), (3, .int x3)] → W p l e (th_rm 0 0 0) s m args below meth c H locs 0 0 (MQ below (va_Qv K (th_Post (dC, dI) (wX cs ad q v v) A) A) args s 0 0 A) (F0 m 5 ls []) := by
  induction n with
  | zero => intro x1 x2 x3 u H locs ls hf; exact hf.elim
  | succ n ih =>
    intro x1 x2 x3 u H locs ls hf hw hl
    exact X_J_fill_53178_900_5_w C ih x1 x2 x3 u H locs ls hf hw hl
def X_J_fill_53178_900 (a2 : Int32) (u : xs_St) (K : xs_St → Prop) : Prop :=
  ∃ n, X_J_fill_53178_900_5_lp K n a2 (0 : Int32) (48 : Int32) u
set_option maxHeartbeats 4000000 in
set_option maxRecDepth 100000 in
theorem X_J_fill_53178_900_c {l : Launch} {dC : Nat → ClassId} {dI : Nat → Nat → Nat} {cs : Nat → ClassId} {ad : Nat → Nat} {q v : Nat → Nat} {a2 : Int32} {u : xs_St} {K : xs_St → Prop} (hf : X_J_fill_53178_900 a2 u K) : th_Cv l yJ7_fill_53178 cJ7_fill_53178 4 (none) 0 0 0 (dC, dI) (th_ty cs) (xE ad) (wX cs ad q v v) [.ref (q 900), .int a2] u K := by
  refine th_ofv (by decide) (Nat.le_of_ble_eq_true rfl) (xE_ok ad) ?_
  intro p e s m below meth c A ls C hw hl
  have C : th_Cx p s m _ meth c cJ7_fill_53178 RJ7 4 (none) (dC, dI) (th_ty cs) (xE ad) A := C
  have hl : lv_has ls 4 [(0, .ref (q 900)), (1, .int a2)] := hl
  generalize (List.toArray _ : Array Value) = args at C ⊢
  have hx := C.1
  have hb := C.2.1
  unfold X_J_fill_53178_900 at hf
  refine lv_iconst (v := (0 : Int32)) hx hb dJ7_fill_53178_0 (by decide) ?_
  refine lv_istore_n (lv' := [(2, .int (0 : Int32)), (0, .ref (q 900)), (1, .int a2)]) hx hb dJ7_fill_53178_1 rfl hl (by decide) rfl (fun ls hl => ?_)
  refine lv_aload_n hx hb dJ7_fill_53178_2 rfl (lv_at hl 1 rfl) ?_
  refine yn_900 C hw dJ7_fill_53178_3 ?_
  refine lv_istore_n (lv' := [(3, .int (48 : Int32)), (2, .int (0 : Int32)), (0, .ref (q 900)), (1, .int a2)]) hx hb dJ7_fill_53178_4 rfl hl (by decide) rfl (fun ls hl => ?_)
  obtain ⟨n, hf⟩ := hf
  exact X_J_fill_53178_900_5_lw C n a2 (0 : Int32) (48 : Int32) u _ _ _ hf hw (lv_sub hl [2, 3, 1, 0] rfl)
/-! X_J_fill_d0a16_10 -/
theorem dJ7_fill_d0a16_0 : decode cJ7_fill_d0a16 0 = .ok (.iconst 0, 1) := by decide +kernel
theorem dJ7_fill_d0a16_1 : decode cJ7_fill_d0a16 1 = .ok (.istore_n 3, 1) := by decide +kernel
theorem dJ7_fill_d0a16_2 : decode cJ7_fill_d0a16 2 = .ok (.aload_n 0, 1) := by decide +kernel
theorem dJ7_fill_d0a16_3 : decode cJ7_fill_d0a16 3 = .ok (.arraylength, 1) := by decide +kernel
theorem dJ7_fill_d0a16_4 : decode cJ7_fill_d0a16 4 = .ok (.istore 4, 2) := by decide +kernel
theorem dJ7_fill_d0a16_6 : decode cJ7_fill_d0a16 6 = .ok (.iload_n 3, 1) := by decide +kernel
theorem dJ7_fill_d0a16_7 : decode cJ7_fill_d0a16 7 = .ok (.iload 4, 2) := by decide +kernel
theorem dJ7_fill_d0a16_9 : decode cJ7_fill_d0a16 9 = .ok (.if_icmp .ge 13, 3) := by decide +kernel
theorem dJ7_fill_d0a16_12 : decode cJ7_fill_d0a16 12 = .ok (.aload_n 0, 1) := by decide +kernel
theorem dJ7_fill_d0a16_13 : decode cJ7_fill_d0a16 13 = .ok (.iload_n 3, 1) := by decide +kernel
theorem dJ7_fill_d0a16_14 : decode cJ7_fill_d0a16 14 = .ok (.lload_n 1, 1) := by decide +kernel
theorem dJ7_fill_d0a16_15 : decode cJ7_fill_d0a16 15 = .ok (.lastore, 1) := by decide +kernel
theorem dJ7_fill_d0a16_16 : decode cJ7_fill_d0a16 16 = .ok (.iinc 3 1, 3) := by decide +kernel
theorem dJ7_fill_d0a16_19 : decode cJ7_fill_d0a16 19 = .ok (.goto (-13), 3) := by decide +kernel
theorem dJ7_fill_d0a16_22 : decode cJ7_fill_d0a16 22 = .ok (.return_, 1) := by decide +kernel
def X_J_fill_d0a16_10_6 (K : xs_St → Prop) (k6 : Int64 → Int32 → Int32 → xs_St → Prop) (x1 : Int64) (x3 : Int32) (x4 : Int32) (u : xs_St) : Prop :=
  ((x4 ≤ x3 → K u) ∧ (¬ x4 ≤ x3 → (vp_in x3 217 ∧ ∀ u_1 : xs_St, u_1 = xs_sl u 10 (vp_updL (xl u 10) (x3).toNatClampNeg x1) → ∀ x3_2 : Int32, x3_2 = x3 + (1 : Int32) → k6 x1 x3_2 x4 u_1)))
set_option maxHeartbeats 4000000 in
set_option maxRecDepth 100000 in
theorem X_J_fill_d0a16_10_6_w {K : xs_St → Prop} {k6 : Int64 → Int32 → Int32 → xs_St → Prop} (C : th_Cx p s m args meth c cJ7_fill_d0a16 RJ7 5 (none) (dC, dI) (th_ty cs) (xE ad) A) (hk6 : ∀ (x1 : Int64) (x3 : Int32) (x4 : Int32) (u : xs_St) (H : Heap) (locs : List Loc) (ls : Array Slot), k6 x1 x3 x4 u → th_wI (dC, dI) (wX cs ad q v v) A s.heap u H locs → lv_has ls 5 [(0, .ref (v 10)), (1, .long x1), (3, .int x3), (4, .int x4)] → W p l e (th_rm 0 0 0) s m args below meth c H locs 0 0 (MQ below (va_Qv K (th_Post (dC, dI) (wX cs ad q v v) A) A) args s 0 0 A) (F0 m 6 ls [])) (x1 : Int64) (x3 : Int32) (x4 : Int32) (u : xs_St) (H : Heap) (locs : List Loc) (ls : Array Slot) (hf : X_J_fill_d0a16_10_6 K k6 x1 x3 x4 u) (hw : th_wI (dC, dI) (wX cs ad q v v) A s.heap u H locs) (hl : lv_has ls 5 [(0, .ref (v 10)), (1, .long x1), (3, .int x3), (4, .int x4)]) : W p l e (th_rm 0 0 0) s m args below meth c H locs 0 0 (MQ below (va_Qv K (th_Post (dC, dI) (wX cs ad q v v) A) A) args s 0 0 A) (F0 m 6 ls []) := by
  have hx := C.1
  have hb := C.2.1
  unfold X_J_fill_d0a16_10_6 at hf
  refine lv_iload_n hx hb dJ7_fill_d0a16_6 rfl (lv_at hl 2 rfl) ?_
  refine lv_iload hx hb dJ7_fill_d0a16_7 (lv_at hl 3 rfl) ?_
  refine lv_icmp_ge (tgt := 22) hx hb dJ7_fill_d0a16_9 (by decide) (fun hc => ?_) (fun hc => ?_)
  · replace hf := hf.1 hc
    clear hc
    exact th_vret C hw hf dJ7_fill_d0a16_22
  · replace hf := hf.2 hc
    clear hc
    refine lv_aload_n hx hb dJ7_fill_d0a16_12 rfl (lv_at hl 0 rfl) ?_
    refine lv_iload_n hx hb dJ7_fill_d0a16_13 rfl (lv_at hl 2 rfl) ?_
    refine lv_lload_n hx hb dJ7_fill_d0a16_14 rfl (lv_at hl 1 rfl) ?_
    refine ys_10 C hw hf.1 dJ7_fill_d0a16_15 (fun u_1 e9 H locs hw => ?_)
    replace hf := hf.2 u_1 e9
    clear e9
    obtain ⟨x3_2, e9⟩ : ∃ y : Int32, y = x3 + (1 : Int32) := ⟨_, rfl⟩
    replace hf := hf x3_2 e9
    refine lv_iinc (v := x3_2) (lv' := [(3, .int x3_2), (0, .ref (v 10)), (1, .long x1), (4, .int x4)]) hx hb dJ7_fill_d0a16_16 hl (k := 2) rfl (by rw [e9]; rfl) (by decide) rfl (fun ls hl => ?_)
    clear e9
    refine lv_goto (tgt := 6) hx hb dJ7_fill_d0a16_19 (by decide) ?_
    exact hk6 x1 x3_2 x4 u_1 _ _ _ hf hw (lv_sub hl [1, 2, 0, 3] rfl)
def X_J_fill_d0a16_10_6_lp (K : xs_St → Prop) : Nat → Int64 → Int32 → Int32 → xs_St → Prop
  | 0, _, _, _, _ => False
  | n + 1, x1, x3, x4, u => X_J_fill_d0a16_10_6 K (X_J_fill_d0a16_10_6_lp K n) x1 x3 x4 u
set_option maxHeartbeats 4000000 in
set_option maxRecDepth 100000 in
theorem X_J_fill_d0a16_10_6_lw {K : xs_St → Prop} (C : th_Cx p s m args meth c cJ7_fill_d0a16 RJ7 5 (none) (dC, dI) (th_ty cs) (xE ad) A) (n : Nat) : ∀ (x1 : Int64) (x3 : Int32) (x4 : Int32) (u : xs_St) (H : Heap) (locs : List Loc) (ls : Array Slot), X_J_fill_d0a16_10_6_lp K n x1 x3 x4 u → th_wI (dC, dI) (wX cs ad q v v) A s.heap u H locs → lv_has ls 5 [(0, .ref (v 10)), (1, .long x1), (3, .int x3), (4, .int x4)] → W p l e (th_rm 0 0 0) s m args below meth c H locs 0 0 (MQ below (va_Qv K (th_Post (dC, dI) (wX cs ad q v v) A) A) args s 0 0 A) (F0 m 6 ls []) := by
  induction n with
  | zero => intro x1 x3 x4 u H locs ls hf; exact hf.elim
  | succ n ih =>
    intro x1 x3 x4 u H locs ls hf hw hl
    exact X_J_fill_d0a16_10_6_w C ih x1 x3 x4 u H locs ls hf hw hl
def X_J_fill_d0a16_10 (a2 : Int64) (u : xs_St) (K : xs_St → Prop) : Prop :=
  ∃ n, X_J_fill_d0a16_10_6_lp K n a2 (0 : Int32) (217 : Int32) u
set_option maxHeartbeats 4000000 in
set_option maxRecDepth 100000 in
theorem X_J_fill_d0a16_10_c {l : Launch} {dC : Nat → ClassId} {dI : Nat → Nat → Nat} {cs : Nat → ClassId} {ad : Nat → Nat} {q v : Nat → Nat} {a2 : Int64} {u : xs_St} {K : xs_St → Prop} (hf : X_J_fill_d0a16_10 a2 u K) : th_Cv l yJ7_fill_d0a16 cJ7_fill_d0a16 5 (none) 0 0 0 (dC, dI) (th_ty cs) (xE ad) (wX cs ad q v v) [.ref (v 10), .long a2] u K := by
  refine th_ofv (by decide) (Nat.le_of_ble_eq_true rfl) (xE_ok ad) ?_
  intro p e s m below meth c A ls C hw hl
  have C : th_Cx p s m _ meth c cJ7_fill_d0a16 RJ7 5 (none) (dC, dI) (th_ty cs) (xE ad) A := C
  have hl : lv_has ls 5 [(0, .ref (v 10)), (1, .long a2)] := hl
  generalize (List.toArray _ : Array Value) = args at C ⊢
  have hx := C.1
  have hb := C.2.1
  unfold X_J_fill_d0a16_10 at hf
  refine lv_iconst (v := (0 : Int32)) hx hb dJ7_fill_d0a16_0 (by decide) ?_
  refine lv_istore_n (lv' := [(3, .int (0 : Int32)), (0, .ref (v 10)), (1, .long a2)]) hx hb dJ7_fill_d0a16_1 rfl hl (by decide) rfl (fun ls hl => ?_)
  refine lv_aload_n hx hb dJ7_fill_d0a16_2 rfl (lv_at hl 1 rfl) ?_
  refine yn_10 C hw dJ7_fill_d0a16_3 ?_
  refine lv_istore (lv' := [(4, .int (217 : Int32)), (3, .int (0 : Int32)), (0, .ref (v 10)), (1, .long a2)]) hx hb dJ7_fill_d0a16_4 hl (by decide) rfl (fun ls hl => ?_)
  obtain ⟨n, hf⟩ := hf
  exact X_J_fill_d0a16_10_6_lw C n a2 (0 : Int32) (217 : Int32) u _ _ _ hf hw (lv_sub hl [2, 3, 1, 0] rfl)
/-! X_J_fill_d0a16_603 -/
def X_J_fill_d0a16_603_6 (K : xs_St → Prop) (k6 : Int64 → Int32 → Int32 → xs_St → Prop) (x1 : Int64) (x3 : Int32) (x4 : Int32) (u : xs_St) : Prop :=
  ((x4 ≤ x3 → K u) ∧ (¬ x4 ≤ x3 → (vp_in x3 961 ∧ ∀ u_1 : xs_St, u_1 = xs_sl u 603 (vp_updL (xl u 603) (x3).toNatClampNeg x1) → ∀ x3_2 : Int32, x3_2 = x3 + (1 : Int32) → k6 x1 x3_2 x4 u_1)))
set_option maxHeartbeats 4000000 in
set_option maxRecDepth 100000 in
theorem X_J_fill_d0a16_603_6_w {K : xs_St → Prop} {k6 : Int64 → Int32 → Int32 → xs_St → Prop} (C : th_Cx p s m args meth c cJ7_fill_d0a16 RJ7 5 (none) (dC, dI) (th_ty cs) (xE ad) A) (hk6 : ∀ (x1 : Int64) (x3 : Int32) (x4 : Int32) (u : xs_St) (H : Heap) (locs : List Loc) (ls : Array Slot), k6 x1 x3 x4 u → th_wI (dC, dI) (wX cs ad q v v) A s.heap u H locs → lv_has ls 5 [(0, .ref (v 603)), (1, .long x1), (3, .int x3), (4, .int x4)] → W p l e (th_rm 0 0 0) s m args below meth c H locs 0 0 (MQ below (va_Qv K (th_Post (dC, dI) (wX cs ad q v v) A) A) args s 0 0 A) (F0 m 6 ls [])) (x1 : Int64) (x3 : Int32) (x4 : Int32) (u : xs_St) (H : Heap) (locs : List Loc) (ls : Array Slot) (hf : X_J_fill_d0a16_603_6 K k6 x1 x3 x4 u) (hw : th_wI (dC, dI) (wX cs ad q v v) A s.heap u H locs) (hl : lv_has ls 5 [(0, .ref (v 603)), (1, .long x1), (3, .int x3), (4, .int x4)]) : W p l e (th_rm 0 0 0) s m args below meth c H locs 0 0 (MQ below (va_Qv K (th_Post (dC, dI) (wX cs ad q v v) A) A) args s 0 0 A) (F0 m 6 ls []) := by
  have hx := C.1
  have hb := C.2.1
  unfold X_J_fill_d0a16_603_6 at hf
  refine lv_iload_n hx hb dJ7_fill_d0a16_6 rfl (lv_at hl 2 rfl) ?_
  refine lv_iload hx hb dJ7_fill_d0a16_7 (lv_at hl 3 rfl) ?_
  refine lv_icmp_ge (tgt := 22) hx hb dJ7_fill_d0a16_9 (by decide) (fun hc => ?_) (fun hc => ?_)
  · replace hf := hf.1 hc
    clear hc
    exact th_vret C hw hf dJ7_fill_d0a16_22
  · replace hf := hf.2 hc
    clear hc
    refine lv_aload_n hx hb dJ7_fill_d0a16_12 rfl (lv_at hl 0 rfl) ?_
    refine lv_iload_n hx hb dJ7_fill_d0a16_13 rfl (lv_at hl 2 rfl) ?_
    refine lv_lload_n hx hb dJ7_fill_d0a16_14 rfl (lv_at hl 1 rfl) ?_
    refine ys_603 C hw hf.1 dJ7_fill_d0a16_15 (fun u_1 e9 H locs hw => ?_)
    replace hf := hf.2 u_1 e9
    clear e9
    obtain ⟨x3_2, e9⟩ : ∃ y : Int32, y = x3 + (1 : Int32) := ⟨_, rfl⟩
    replace hf := hf x3_2 e9
    refine lv_iinc (v := x3_2) (lv' := [(3, .int x3_2), (0, .ref (v 603)), (1, .long x1), (4, .int x4)]) hx hb dJ7_fill_d0a16_16 hl (k := 2) rfl (by rw [e9]; rfl) (by decide) rfl (fun ls hl => ?_)
    clear e9
    refine lv_goto (tgt := 6) hx hb dJ7_fill_d0a16_19 (by decide) ?_
    exact hk6 x1 x3_2 x4 u_1 _ _ _ hf hw (lv_sub hl [1, 2, 0, 3] rfl)
def X_J_fill_d0a16_603_6_lp (K : xs_St → Prop) : Nat → Int64 → Int32 → Int32 → xs_St → Prop
  | 0, _, _, _, _ => False
  | n + 1, x1, x3, x4, u => X_J_fill_d0a16_603_6 K (X_J_fill_d0a16_603_6_lp K n) x1 x3 x4 u
set_option maxHeartbeats 4000000 in
set_option maxRecDepth 100000 in
theorem X_J_fill_d0a16_603_6_lw {K : xs_St → Prop} (C : th_Cx p s m args meth c cJ7_fill_d0a16 RJ7 5 (none) (dC, dI) (th_ty cs) (xE ad) A) (n : Nat) : ∀ (x1 : Int64) (x3 : Int32) (x4 : Int32) (u : xs_St) (H : Heap) (locs : List Loc) (ls : Array Slot), X_J_fill_d0a16_603_6_lp K n x1 x3 x4 u → th_wI (dC, dI) (wX cs ad q v v) A s.heap u H locs → lv_has ls 5 [(0, .ref (v 603)), (1, .long x1), (3, .int x3), (4, .int x4)] → W p l e (th_rm 0 0 0) s m args below meth c H locs 0 0 (MQ below (va_Qv K (th_Post (dC, dI) (wX cs ad q v v) A) A) args s 0 0 A) (F0 m 6 ls []) := by
  induction n with
  | zero => intro x1 x3 x4 u H locs ls hf; exact hf.elim
  | succ n ih =>
    intro x1 x3 x4 u H locs ls hf hw hl
    exact X_J_fill_d0a16_603_6_w C ih x1 x3 x4 u H locs ls hf hw hl
def X_J_fill_d0a16_603 (a2 : Int64) (u : xs_St) (K : xs_St → Prop) : Prop :=
  ∃ n, X_J_fill_d0a16_603_6_lp K n a2 (0 : Int32) (961 : Int32) u
set_option maxHeartbeats 4000000 in
set_option maxRecDepth 100000 in
theorem X_J_fill_d0a16_603_c {l : Launch} {dC : Nat → ClassId} {dI : Nat → Nat → Nat} {cs : Nat → ClassId} {ad : Nat → Nat} {q v : Nat → Nat} {a2 : Int64} {u : xs_St} {K : xs_St → Prop} (hf : X_J_fill_d0a16_603 a2 u K) : th_Cv l yJ7_fill_d0a16 cJ7_fill_d0a16 5 (none) 0 0 0 (dC, dI) (th_ty cs) (xE ad) (wX cs ad q v v) [.ref (v 603), .long a2] u K := by
  refine th_ofv (by decide) (Nat.le_of_ble_eq_true rfl) (xE_ok ad) ?_
  intro p e s m below meth c A ls C hw hl
  have C : th_Cx p s m _ meth c cJ7_fill_d0a16 RJ7 5 (none) (dC, dI) (th_ty cs) (xE ad) A := C
  have hl : lv_has ls 5 [(0, .ref (v 603)), (1, .long a2)] := hl
  generalize (List.toArray _ : Array Value) = args at C ⊢
  have hx := C.1
  have hb := C.2.1
  unfold X_J_fill_d0a16_603 at hf
  refine lv_iconst (v := (0 : Int32)) hx hb dJ7_fill_d0a16_0 (by decide) ?_
  refine lv_istore_n (lv' := [(3, .int (0 : Int32)), (0, .ref (v 603)), (1, .long a2)]) hx hb dJ7_fill_d0a16_1 rfl hl (by decide) rfl (fun ls hl => ?_)
  refine lv_aload_n hx hb dJ7_fill_d0a16_2 rfl (lv_at hl 1 rfl) ?_
  refine yn_603 C hw dJ7_fill_d0a16_3 ?_
  refine lv_istore (lv' := [(4, .int (961 : Int32)), (3, .int (0 : Int32)), (0, .ref (v 603)), (1, .long a2)]) hx hb dJ7_fill_d0a16_4 hl (by decide) rfl (fun ls hl => ?_)
  obtain ⟨n, hf⟩ := hf
  exact X_J_fill_d0a16_603_6_lw C n a2 (0 : Int32) (961 : Int32) u _ _ _ hf hw (lv_sub hl [2, 3, 1, 0] rfl)
/-! X_LN_areRows -/
theorem dX3_areRows_0 : decode cX3_areRows 0 = .ok (.iload_n 2, 1) := by decide +kernel
theorem dX3_areRows_1 : decode cX3_areRows 1 = .ok (.ifCond .lt 26, 3) := by decide +kernel
theorem dX3_areRows_4 : decode cX3_areRows 4 = .ok (.iload_n 2, 1) := by decide +kernel
theorem dX3_areRows_5 : decode cX3_areRows 5 = .ok (.bipush 48, 2) := by decide +kernel
theorem dX3_areRows_7 : decode cX3_areRows 7 = .ok (.if_icmp .gt 20, 3) := by decide +kernel
theorem dX3_areRows_10 : decode cX3_areRows 10 = .ok (.iload_n 2, 1) := by decide +kernel
theorem dX3_areRows_11 : decode cX3_areRows 11 = .ok (.iload_n 1, 1) := by decide +kernel
theorem dX3_areRows_12 : decode cX3_areRows 12 = .ok (.if_icmp .gt 15, 3) := by decide +kernel
theorem dX3_areRows_15 : decode cX3_areRows 15 = .ok (.iload_n 1, 1) := by decide +kernel
theorem dX3_areRows_16 : decode cX3_areRows 16 = .ok (.iload_n 2, 1) := by decide +kernel
theorem dX3_areRows_17 : decode cX3_areRows 17 = .ok (.isub, 1) := by decide +kernel
theorem dX3_areRows_18 : decode cX3_areRows 18 = .ok (.bipush 48, 2) := by decide +kernel
theorem dX3_areRows_20 : decode cX3_areRows 20 = .ok (.if_icmp .gt 7, 3) := by decide +kernel
theorem dX3_areRows_23 : decode cX3_areRows 23 = .ok (.iconst 1, 1) := by decide +kernel
theorem dX3_areRows_24 : decode cX3_areRows 24 = .ok (.goto 4, 3) := by decide +kernel
theorem dX3_areRows_27 : decode cX3_areRows 27 = .ok (.iconst 0, 1) := by decide +kernel
theorem dX3_areRows_28 : decode cX3_areRows 28 = .ok (.ireturn, 1) := by decide +kernel
def X_LN_areRows_28 (K : Int32 → xs_St → Prop) (z0 : Int32) (u : xs_St) : Prop :=
  ((z0 = 0 ∨ z0 = 1) ∧ K z0 u)
set_option maxHeartbeats 4000000 in
set_option maxRecDepth 100000 in
theorem X_LN_areRows_28_w {K : Int32 → xs_St → Prop} (C : th_Cx p s m args meth c cX3_areRows RX3 3 (some .boolean) (dC, dI) (th_ty cs) (xE ad) A) (z0 : Int32) (u : xs_St) (H : Heap) (locs : List Loc) (ls : Array Slot) (hf : X_LN_areRows_28 K z0 u) (hw : th_wI (dC, dI) (wX cs ad q v v) A s.heap u H locs) (hl : lv_has ls 3 []) : W p l e (th_rm 0 0 0) s m args below meth c H locs 0 0 (MQ below (va_Qi K (th_Post (dC, dI) (wX cs ad q v v) A) A) args s 0 0 A) (F0 m 28 ls [.int z0]) := by
  have hx := C.1
  have hb := C.2.1
  unfold X_LN_areRows_28 at hf
  exact th_zret C hw hf dX3_areRows_28
def X_LN_areRows_27 (K : Int32 → xs_St → Prop) (u : xs_St) : Prop :=
  X_LN_areRows_28 K (0 : Int32) u
set_option maxHeartbeats 4000000 in
set_option maxRecDepth 100000 in
theorem X_LN_areRows_27_w {K : Int32 → xs_St → Prop} (C : th_Cx p s m args meth c cX3_areRows RX3 3 (some .boolean) (dC, dI) (th_ty cs) (xE ad) A) (u : xs_St) (H : Heap) (locs : List Loc) (ls : Array Slot) (hf : X_LN_areRows_27 K u) (hw : th_wI (dC, dI) (wX cs ad q v v) A s.heap u H locs) (hl : lv_has ls 3 []) : W p l e (th_rm 0 0 0) s m args below meth c H locs 0 0 (MQ below (va_Qi K (th_Post (dC, dI) (wX cs ad q v v) A) A) args s 0 0 A) (F0 m 27 ls []) := by
  have hx := C.1
  have hb := C.2.1
  unfold X_LN_areRows_27 at hf
  refine lv_iconst (v := (0 : Int32)) hx hb dX3_areRows_27 (by decide) ?_
  exact X_LN_areRows_28_w C (0 : Int32) u _ _ _ hf hw (lv_sub hl [] rfl)
def X_LN_areRows (a1 : Int32) (a2 : Int32) (u : xs_St) (K : Int32 → xs_St → Prop) : Prop :=
  ((a2 < 0 → X_LN_areRows_27 K u) ∧ (¬ a2 < 0 → (((48 : Int32) < a2 → X_LN_areRows_27 K u) ∧ (¬ (48 : Int32) < a2 → ((a1 < a2 → X_LN_areRows_27 K u) ∧ (¬ a1 < a2 → (((48 : Int32) < (a1 - a2) → X_LN_areRows_27 K u) ∧ (¬ (48 : Int32) < (a1 - a2) → X_LN_areRows_28 K (1 : Int32) u))))))))
set_option maxHeartbeats 4000000 in
set_option maxRecDepth 100000 in
theorem X_LN_areRows_c {l : Launch} {dC : Nat → ClassId} {dI : Nat → Nat → Nat} {cs : Nat → ClassId} {ad : Nat → Nat} {q v : Nat → Nat} {a1 : Int32} {a2 : Int32} {u : xs_St} {K : Int32 → xs_St → Prop} (hf : X_LN_areRows a1 a2 u K) : th_Ci l yX3_areRows cX3_areRows 3 (some .boolean) 0 0 0 (dC, dI) (th_ty cs) (xE ad) (wX cs ad q v v) [.ref (q 999), .int a1, .int a2] u K := by
  refine th_ofi (by decide) (Nat.le_of_ble_eq_true rfl) (xE_ok ad) ?_
  intro p e s m below meth c A ls C hw hl
  have C : th_Cx p s m _ meth c cX3_areRows RX3 3 (some .boolean) (dC, dI) (th_ty cs) (xE ad) A := C
  have hl : lv_has ls 3 [(0, .ref (q 999)), (1, .int a1), (2, .int a2)] := hl
  generalize (List.toArray _ : Array Value) = args at C ⊢
  have hx := C.1
  have hb := C.2.1
  unfold X_LN_areRows at hf
  refine lv_iload_n hx hb dX3_areRows_0 rfl (lv_at hl 2 rfl) ?_
  refine lv_if_lt (tgt := 27) hx hb dX3_areRows_1 (by decide) (fun hc => ?_) (fun hc => ?_)
  · replace hf := hf.1 hc
    clear hc
    exact X_LN_areRows_27_w C  u _ _ _ hf hw (lv_sub hl [] rfl)
  · replace hf := hf.2 hc
    clear hc
    refine lv_iload_n hx hb dX3_areRows_4 rfl (lv_at hl 2 rfl) ?_
    refine lv_bipush (v := (48 : Int32)) hx hb dX3_areRows_5 (by decide) ?_
    refine lv_icmp_gt (tgt := 27) hx hb dX3_areRows_7 (by decide) (fun hc => ?_) (fun hc => ?_)
    · replace hf := hf.1 hc
      clear hc
      exact X_LN_areRows_27_w C  u _ _ _ hf hw (lv_sub hl [] rfl)
    · replace hf := hf.2 hc
      clear hc
      refine lv_iload_n hx hb dX3_areRows_10 rfl (lv_at hl 2 rfl) ?_
      refine lv_iload_n hx hb dX3_areRows_11 rfl (lv_at hl 1 rfl) ?_
      refine lv_icmp_gt (tgt := 27) hx hb dX3_areRows_12 (by decide) (fun hc => ?_) (fun hc => ?_)
      · replace hf := hf.1 hc
        clear hc
        exact X_LN_areRows_27_w C  u _ _ _ hf hw (lv_sub hl [] rfl)
      · replace hf := hf.2 hc
        clear hc
        refine lv_iload_n hx hb dX3_areRows_15 rfl (lv_at hl 1 rfl) ?_
        refine lv_iload_n hx hb dX3_areRows_16 rfl (lv_at hl 2 rfl) ?_
        refine lv_isub hx hb dX3_areRows_17 ?_
        refine lv_bipush (v := (48 : Int32)) hx hb dX3_areRows_18 (by decide) ?_
        refine lv_icmp_gt (tgt := 27) hx hb dX3_areRows_20 (by decide) (fun hc => ?_) (fun hc => ?_)
        · replace hf := hf.1 hc
          clear hc
          exact X_LN_areRows_27_w C  u _ _ _ hf hw (lv_sub hl [] rfl)
        · replace hf := hf.2 hc
          clear hc
          refine lv_iconst (v := (1 : Int32)) hx hb dX3_areRows_23 (by decide) ?_
          refine lv_goto (tgt := 28) hx hb dX3_areRows_24 (by decide) ?_
          exact X_LN_areRows_28_w C (1 : Int32) u _ _ _ hf hw (lv_sub hl [] rfl)
/-! X_TH_addNoise -/
theorem dX11_addNoise_0 : decode cX11_addNoise 0 = .ok (.lconst 0, 1) := by decide +kernel
theorem dX11_addNoise_1 : decode cX11_addNoise 1 = .ok (.lstore_n 2, 1) := by decide +kernel
theorem dX11_addNoise_2 : decode cX11_addNoise 2 = .ok (.iconst 0, 1) := by decide +kernel
theorem dX11_addNoise_3 : decode cX11_addNoise 3 = .ok (.istore 4, 2) := by decide +kernel
theorem dX11_addNoise_5 : decode cX11_addNoise 5 = .ok (.iload 4, 2) := by decide +kernel
theorem dX11_addNoise_7 : decode cX11_addNoise 7 = .ok (.aload_n 0, 1) := by decide +kernel
theorem dX11_addNoise_8 : decode cX11_addNoise 8 = .ok (.getfield 73, 3) := by decide +kernel
theorem dX11_addNoise_11 : decode cX11_addNoise 11 = .ok (.arraylength, 1) := by decide +kernel
theorem dX11_addNoise_12 : decode cX11_addNoise 12 = .ok (.if_icmp .ge 45, 3) := by decide +kernel
theorem dX11_addNoise_15 : decode cX11_addNoise 15 = .ok (.lload_n 2, 1) := by decide +kernel
theorem dX11_addNoise_16 : decode cX11_addNoise 16 = .ok (.aload_n 0, 1) := by decide +kernel
theorem dX11_addNoise_17 : decode cX11_addNoise 17 = .ok (.getfield 73, 3) := by decide +kernel
theorem dX11_addNoise_20 : decode cX11_addNoise 20 = .ok (.iload 4, 2) := by decide +kernel
theorem dX11_addNoise_22 : decode cX11_addNoise 22 = .ok (.laload, 1) := by decide +kernel
theorem dX11_addNoise_23 : decode cX11_addNoise 23 = .ok (.ladd, 1) := by decide +kernel
theorem dX11_addNoise_24 : decode cX11_addNoise 24 = .ok (.lstore_n 2, 1) := by decide +kernel
theorem dX11_addNoise_25 : decode cX11_addNoise 25 = .ok (.iload 4, 2) := by decide +kernel
theorem dX11_addNoise_27 : decode cX11_addNoise 27 = .ok (.iload_n 1, 1) := by decide +kernel
theorem dX11_addNoise_28 : decode cX11_addNoise 28 = .ok (.if_icmp .lt 15, 3) := by decide +kernel
theorem dX11_addNoise_31 : decode cX11_addNoise 31 = .ok (.lload_n 2, 1) := by decide +kernel
theorem dX11_addNoise_32 : decode cX11_addNoise 32 = .ok (.aload_n 0, 1) := by decide +kernel
theorem dX11_addNoise_33 : decode cX11_addNoise 33 = .ok (.getfield 73, 3) := by decide +kernel
theorem dX11_addNoise_36 : decode cX11_addNoise 36 = .ok (.iload 4, 2) := by decide +kernel
theorem dX11_addNoise_38 : decode cX11_addNoise 38 = .ok (.iload_n 1, 1) := by decide +kernel
theorem dX11_addNoise_39 : decode cX11_addNoise 39 = .ok (.isub, 1) := by decide +kernel
theorem dX11_addNoise_40 : decode cX11_addNoise 40 = .ok (.laload, 1) := by decide +kernel
theorem dX11_addNoise_41 : decode cX11_addNoise 41 = .ok (.lsub, 1) := by decide +kernel
theorem dX11_addNoise_42 : decode cX11_addNoise 42 = .ok (.lstore_n 2, 1) := by decide +kernel
theorem dX11_addNoise_43 : decode cX11_addNoise 43 = .ok (.aload_n 0, 1) := by decide +kernel
theorem dX11_addNoise_44 : decode cX11_addNoise 44 = .ok (.getfield 77, 3) := by decide +kernel
theorem dX11_addNoise_47 : decode cX11_addNoise 47 = .ok (.iload 4, 2) := by decide +kernel
theorem dX11_addNoise_49 : decode cX11_addNoise 49 = .ok (.lload_n 2, 1) := by decide +kernel
theorem dX11_addNoise_50 : decode cX11_addNoise 50 = .ok (.lastore, 1) := by decide +kernel
theorem dX11_addNoise_51 : decode cX11_addNoise 51 = .ok (.iinc 4 1, 3) := by decide +kernel
theorem dX11_addNoise_54 : decode cX11_addNoise 54 = .ok (.goto (-49), 3) := by decide +kernel
theorem dX11_addNoise_57 : decode cX11_addNoise 57 = .ok (.aload_n 0, 1) := by decide +kernel
theorem dX11_addNoise_58 : decode cX11_addNoise 58 = .ok (.getfield 73, 3) := by decide +kernel
theorem dX11_addNoise_61 : decode cX11_addNoise 61 = .ok (.astore 4, 2) := by decide +kernel
theorem dX11_addNoise_63 : decode cX11_addNoise 63 = .ok (.aload_n 0, 1) := by decide +kernel
theorem dX11_addNoise_64 : decode cX11_addNoise 64 = .ok (.aload_n 0, 1) := by decide +kernel
theorem dX11_addNoise_65 : decode cX11_addNoise 65 = .ok (.getfield 77, 3) := by decide +kernel
theorem dX11_addNoise_68 : decode cX11_addNoise 68 = .ok (.putfield 73, 3) := by decide +kernel
theorem dX11_addNoise_71 : decode cX11_addNoise 71 = .ok (.aload_n 0, 1) := by decide +kernel
theorem dX11_addNoise_72 : decode cX11_addNoise 72 = .ok (.aload 4, 2) := by decide +kernel
theorem dX11_addNoise_74 : decode cX11_addNoise 74 = .ok (.putfield 77, 3) := by decide +kernel
theorem dX11_addNoise_77 : decode cX11_addNoise 77 = .ok (.return_, 1) := by decide +kernel
def X_TH_addNoise_43 (K : xs_St → Prop) (k5 : Int32 → Int64 → Int32 → xs_St → Prop) (x1 : Int32) (x2 : Int64) (x4 : Int32) (u : xs_St) : Prop :=
  (vp_in x4 217 ∧ ∀ u_1 : xs_St, u_1 = xs_sl u 11 (vp_updL (xl u 11) (x4).toNatClampNeg x2) → ∀ x4_2 : Int32, x4_2 = x4 + (1 : Int32) → k5 x1 x2 x4_2 u_1)
set_option maxHeartbeats 4000000 in
set_option maxRecDepth 100000 in
theorem X_TH_addNoise_43_w {K : xs_St → Prop} {k5 : Int32 → Int64 → Int32 → xs_St → Prop} (C : th_Cx p s m args meth c cX11_addNoise RX11 5 (none) (dC, dI) (th_ty cs) (xE ad) A) (hk5 : ∀ (x1 : Int32) (x2 : Int64) (x4 : Int32) (v : Nat → Nat) (u : xs_St) (H : Heap) (locs : List Loc) (ls : Array Slot), k5 x1 x2 x4 u → th_wI (dC, dI) (wX cs ad q v v) A s.heap u H locs → lv_has ls 5 [(0, .ref (q 99)), (1, .int x1), (2, .long x2), (4, .int x4)] → W p l e (th_rm 0 0 0) s m args below meth c H locs 0 0 (MQ below (va_Qv (fun a9 => K a9.2) (th_Post (dC, dI) (wXs cs ad q) A) A) args s 0 0 A) (F0 m 5 ls [])) (x1 : Int32) (x2 : Int64) (x4 : Int32) (v : Nat → Nat) (u : xs_St) (H : Heap) (locs : List Loc) (ls : Array Slot) (hf : X_TH_addNoise_43 K k5 x1 x2 x4 u) (hw : th_wI (dC, dI) (wX cs ad q v v) A s.heap u H locs) (hl : lv_has ls 5 [(0, .ref (q 99)), (1, .int x1), (2, .long x2), (4, .int x4)]) : W p l e (th_rm 0 0 0) s m args below meth c H locs 0 0 (MQ below (va_Qv (fun a9 => K a9.2) (th_Post (dC, dI) (wXs cs ad q) A) A) args s 0 0 A) (F0 m 43 ls []) := by
  have hx := C.1
  have hb := C.2.1
  unfold X_TH_addNoise_43 at hf
  refine lv_aload_n hx hb dX11_addNoise_43 rfl (lv_at hl 0 rfl) ?_
  refine xg_11 C hw (C.2.2.2.2.1 _ hwF_X11_77) dX11_addNoise_44 ?_
  refine lv_iload hx hb dX11_addNoise_47 (lv_at hl 3 rfl) ?_
  refine lv_lload_n hx hb dX11_addNoise_49 rfl (lv_at hl 2 rfl) ?_
  refine ys_11 C hw hf.1 dX11_addNoise_50 (fun u_1 e9 H locs hw => ?_)
  replace hf := hf.2 u_1 e9
  clear e9
  obtain ⟨x4_2, e9⟩ : ∃ y : Int32, y = x4 + (1 : Int32) := ⟨_, rfl⟩
  replace hf := hf x4_2 e9
  refine lv_iinc (v := x4_2) (lv' := [(4, .int x4_2), (0, .ref (q 99)), (1, .int x1), (2, .long x2)]) hx hb dX11_addNoise_51 hl (k := 3) rfl (by rw [e9]; rfl) (by decide) rfl (fun ls hl => ?_)
  clear e9
  refine lv_goto (tgt := 5) hx hb dX11_addNoise_54 (by decide) ?_
  exact hk5 x1 x2 x4_2 v u_1 _ _ _ hf hw (lv_sub hl [1, 2, 3, 0] rfl)
def X_TH_addNoise_5 (K : xs_St → Prop) (k5 : Int32 → Int64 → Int32 → xs_St → Prop) (x1 : Int32) (x2 : Int64) (x4 : Int32) (u : xs_St) : Prop :=
  (((217 : Int32) ≤ x4 → ∀ u_2 : xs_St, u_2 = xw_10_11 u → K u_2) ∧ (¬ (217 : Int32) ≤ x4 → (vp_in x4 217 ∧ ∀ y_3 : Int64, y_3 = xl u 10 (x4).toNatClampNeg → ∀ y_4 : Int64, y_4 = (x2 + y_3) → ((x4 < x1 → X_TH_addNoise_43 K k5 x1 y_4 x4 u) ∧ (¬ x4 < x1 → (vp_in (x4 - x1) 217 ∧ ∀ y_5 : Int64, y_5 = xl u 10 ((x4 - x1)).toNatClampNeg → ∀ y_6 : Int64, y_6 = (y_4 - y_5) → X_TH_addNoise_43 K k5 x1 y_6 x4 u))))))
set_option maxHeartbeats 4000000 in
set_option maxRecDepth 100000 in
theorem X_TH_addNoise_5_w {K : xs_St → Prop} {k5 : Int32 → Int64 → Int32 → xs_St → Prop} (C : th_Cx p s m args meth c cX11_addNoise RX11 5 (none) (dC, dI) (th_ty cs) (xE ad) A) (hk5 : ∀ (x1 : Int32) (x2 : Int64) (x4 : Int32) (v : Nat → Nat) (u : xs_St) (H : Heap) (locs : List Loc) (ls : Array Slot), k5 x1 x2 x4 u → th_wI (dC, dI) (wX cs ad q v v) A s.heap u H locs → lv_has ls 5 [(0, .ref (q 99)), (1, .int x1), (2, .long x2), (4, .int x4)] → W p l e (th_rm 0 0 0) s m args below meth c H locs 0 0 (MQ below (va_Qv (fun a9 => K a9.2) (th_Post (dC, dI) (wXs cs ad q) A) A) args s 0 0 A) (F0 m 5 ls [])) (x1 : Int32) (x2 : Int64) (x4 : Int32) (v : Nat → Nat) (u : xs_St) (H : Heap) (locs : List Loc) (ls : Array Slot) (hf : X_TH_addNoise_5 K k5 x1 x2 x4 u) (hw : th_wI (dC, dI) (wX cs ad q v v) A s.heap u H locs) (hl : lv_has ls 5 [(0, .ref (q 99)), (1, .int x1), (2, .long x2), (4, .int x4)]) : W p l e (th_rm 0 0 0) s m args below meth c H locs 0 0 (MQ below (va_Qv (fun a9 => K a9.2) (th_Post (dC, dI) (wXs cs ad q) A) A) args s 0 0 A) (F0 m 5 ls []) := by
  have hx := C.1
  have hb := C.2.1
  unfold X_TH_addNoise_5 at hf
  refine lv_iload hx hb dX11_addNoise_5 (lv_at hl 3 rfl) ?_
  refine lv_aload_n hx hb dX11_addNoise_7 rfl (lv_at hl 0 rfl) ?_
  refine xg_10 C hw (C.2.2.2.2.1 _ hwF_X11_73) dX11_addNoise_8 ?_
  refine yn_10 C hw dX11_addNoise_11 ?_
  refine lv_icmp_ge (tgt := 57) hx hb dX11_addNoise_12 (by decide) (fun hc => ?_) (fun hc => ?_)
  · replace hf := hf.1 hc
    clear hc
    refine lv_aload_n hx hb dX11_addNoise_57 rfl (lv_at hl 0 rfl) ?_
    refine xg_10 C hw (C.2.2.2.2.1 _ hwF_X11_73) dX11_addNoise_58 ?_
    refine lv_astore (lv' := [(4, .ref (v 10)), (0, .ref (q 99)), (1, .int x1), (2, .long x2)]) hx hb dX11_addNoise_61 hl (by decide) rfl (fun ls hl => ?_)
    refine lv_aload_n hx hb dX11_addNoise_63 rfl (lv_at hl 1 rfl) ?_
    refine lv_aload_n hx hb dX11_addNoise_64 rfl (lv_at hl 1 rfl) ?_
    refine xg_11 C hw (C.2.2.2.2.1 _ hwF_X11_77) dX11_addNoise_65 ?_
    refine xq_10 (x := (v 11)) C hw (C.2.2.2.2.1 _ hwF_X11_73) dX11_addNoise_68 (fun H locs hw => ?_)
    refine lv_aload_n hx hb dX11_addNoise_71 rfl (lv_at hl 1 rfl) ?_
    refine lv_aload hx hb dX11_addNoise_72 (lv_at hl 0 rfl) ?_
    refine xq_11 (x := (v 10)) C hw (C.2.2.2.2.1 _ hwF_X11_77) dX11_addNoise_74 (fun H locs hw => ?_)
    obtain ⟨v_1, hw⟩ := xw_10_11_f hw
    obtain ⟨u_2, e9⟩ : ∃ z, z = xw_10_11 u := ⟨_, rfl⟩
    rw [← e9] at hw
    replace hf := hf u_2 e9
    clear e9
    replace hl := lv_sub hl [1, 2, 3] rfl
    have hl : lv_has ls 5 [(0, .ref (q 99)), (1, .int x1), (2, .long x2)] := hl
    exact th_vret (K := (fun a9 => K a9.2)) (w := wXs cs ad q) (u := (v_1, u_2)) C hw hf dX11_addNoise_77
  · replace hf := hf.2 hc
    clear hc
    refine lv_lload_n hx hb dX11_addNoise_15 rfl (lv_at hl 2 rfl) ?_
    refine lv_aload_n hx hb dX11_addNoise_16 rfl (lv_at hl 0 rfl) ?_
    refine xg_10 C hw (C.2.2.2.2.1 _ hwF_X11_73) dX11_addNoise_17 ?_
    refine lv_iload hx hb dX11_addNoise_20 (lv_at hl 3 rfl) ?_
    refine yl_10 C hw hf.1 dX11_addNoise_22 (fun y_3 e9 => ?_)
    replace hf := hf.2 y_3 e9
    clear e9
    refine lv_ladd hx hb dX11_addNoise_23 ?_
    refine lv_topl (fun y_4 e9 => ?_)
    replace hf := hf y_4 e9
    clear e9
    refine lv_lstore_n (lv' := [(2, .long y_4), (0, .ref (q 99)), (1, .int x1), (4, .int x4)]) hx hb dX11_addNoise_24 rfl hl (by decide) rfl (fun ls hl => ?_)
    refine lv_iload hx hb dX11_addNoise_25 (lv_at hl 3 rfl) ?_
    refine lv_iload_n hx hb dX11_addNoise_27 rfl (lv_at hl 2 rfl) ?_
    refine lv_icmp_lt (tgt := 43) hx hb dX11_addNoise_28 (by decide) (fun hc => ?_) (fun hc => ?_)
    · replace hf := hf.1 hc
      clear hc
      exact X_TH_addNoise_43_w C hk5 x1 y_4 x4 v u _ _ _ hf hw (lv_sub hl [1, 2, 0, 3] rfl)
    · replace hf := hf.2 hc
      clear hc
      refine lv_lload_n hx hb dX11_addNoise_31 rfl (lv_at hl 0 rfl) ?_
      refine lv_aload_n hx hb dX11_addNoise_32 rfl (lv_at hl 1 rfl) ?_
      refine xg_10 C hw (C.2.2.2.2.1 _ hwF_X11_73) dX11_addNoise_33 ?_
      refine lv_iload hx hb dX11_addNoise_36 (lv_at hl 3 rfl) ?_
      refine lv_iload_n hx hb dX11_addNoise_38 rfl (lv_at hl 2 rfl) ?_
      refine lv_isub hx hb dX11_addNoise_39 ?_
      refine yl_10 C hw hf.1 dX11_addNoise_40 (fun y_5 e9 => ?_)
      replace hf := hf.2 y_5 e9
      clear e9
      refine lv_lsub hx hb dX11_addNoise_41 ?_
      refine lv_topl (fun y_6 e9 => ?_)
      replace hf := hf y_6 e9
      clear e9
      refine lv_lstore_n (lv' := [(2, .long y_6), (0, .ref (q 99)), (1, .int x1), (4, .int x4)]) hx hb dX11_addNoise_42 rfl hl (by decide) rfl (fun ls hl => ?_)
      exact X_TH_addNoise_43_w C hk5 x1 y_6 x4 v u _ _ _ hf hw (lv_sub hl [1, 2, 0, 3] rfl)
def X_TH_addNoise_5_lp (K : xs_St → Prop) : Nat → Int32 → Int64 → Int32 → xs_St → Prop
  | 0, _, _, _, _ => False
  | n + 1, x1, x2, x4, u => X_TH_addNoise_5 K (X_TH_addNoise_5_lp K n) x1 x2 x4 u
set_option maxHeartbeats 4000000 in
set_option maxRecDepth 100000 in
theorem X_TH_addNoise_5_lw {K : xs_St → Prop} (C : th_Cx p s m args meth c cX11_addNoise RX11 5 (none) (dC, dI) (th_ty cs) (xE ad) A) (n : Nat) : ∀ (x1 : Int32) (x2 : Int64) (x4 : Int32) (v : Nat → Nat) (u : xs_St) (H : Heap) (locs : List Loc) (ls : Array Slot), X_TH_addNoise_5_lp K n x1 x2 x4 u → th_wI (dC, dI) (wX cs ad q v v) A s.heap u H locs → lv_has ls 5 [(0, .ref (q 99)), (1, .int x1), (2, .long x2), (4, .int x4)] → W p l e (th_rm 0 0 0) s m args below meth c H locs 0 0 (MQ below (va_Qv (fun a9 => K a9.2) (th_Post (dC, dI) (wXs cs ad q) A) A) args s 0 0 A) (F0 m 5 ls []) := by
  induction n with
  | zero => intro x1 x2 x4 v u H locs ls hf; exact hf.elim
  | succ n ih =>
    intro x1 x2 x4 v u H locs ls hf hw hl
    exact X_TH_addNoise_5_w C ih x1 x2 x4 v u H locs ls hf hw hl
def X_TH_addNoise (a1 : Int32) (u : xs_St) (K : xs_St → Prop) : Prop :=
  ∃ n, X_TH_addNoise_5_lp K n a1 (0 : Int64) (0 : Int32) u
set_option maxHeartbeats 4000000 in
set_option maxRecDepth 100000 in
theorem X_TH_addNoise_c {l : Launch} {dC : Nat → ClassId} {dI : Nat → Nat → Nat} {cs : Nat → ClassId} {ad : Nat → Nat} {q v : Nat → Nat} {a1 : Int32} {u : xs_St} {K : xs_St → Prop} (hf : X_TH_addNoise a1 u K) : th_Cv l yX11_addNoise cX11_addNoise 5 (none) 0 0 0 (dC, dI) (th_ty cs) (xE ad) (wXs cs ad q) [.ref (q 99), .int a1] (v, u) (fun a9 => K a9.2) := by
  refine th_ofv (by decide) (Nat.le_of_ble_eq_true rfl) (xE_ok ad) ?_
  intro p e s m below meth c A ls C hw hl
  have C : th_Cx p s m _ meth c cX11_addNoise RX11 5 (none) (dC, dI) (th_ty cs) (xE ad) A := C
  have hl : lv_has ls 5 [(0, .ref (q 99)), (1, .int a1)] := hl
  generalize (List.toArray _ : Array Value) = args at C ⊢
  have hx := C.1
  have hb := C.2.1
  unfold X_TH_addNoise at hf
  refine lv_lconst (v := (0 : Int64)) hx hb dX11_addNoise_0 (by decide) ?_
  refine lv_lstore_n (lv' := [(2, .long (0 : Int64)), (0, .ref (q 99)), (1, .int a1)]) hx hb dX11_addNoise_1 rfl hl (by decide) rfl (fun ls hl => ?_)
  refine lv_iconst (v := (0 : Int32)) hx hb dX11_addNoise_2 (by decide) ?_
  refine lv_istore (lv' := [(4, .int (0 : Int32)), (2, .long (0 : Int64)), (0, .ref (q 99)), (1, .int a1)]) hx hb dX11_addNoise_3 hl (by decide) rfl (fun ls hl => ?_)
  obtain ⟨n, hf⟩ := hf
  exact X_TH_addNoise_5_lw C n a1 (0 : Int64) (0 : Int32) v u _ _ _ hf hw (lv_sub hl [2, 3, 1, 0] rfl)
/-! X_TH_commonDivisor -/
theorem dX11_commonDivisor_0 : decode cX11_commonDivisor 0 = .ok (.lload_n 0, 1) := by decide +kernel
theorem dX11_commonDivisor_1 : decode cX11_commonDivisor 1 = .ok (.lstore 4, 2) := by decide +kernel
theorem dX11_commonDivisor_3 : decode cX11_commonDivisor 3 = .ok (.lload_n 2, 1) := by decide +kernel
theorem dX11_commonDivisor_4 : decode cX11_commonDivisor 4 = .ok (.lstore 6, 2) := by decide +kernel
theorem dX11_commonDivisor_6 : decode cX11_commonDivisor 6 = .ok (.iconst 0, 1) := by decide +kernel
theorem dX11_commonDivisor_7 : decode cX11_commonDivisor 7 = .ok (.istore 8, 2) := by decide +kernel
theorem dX11_commonDivisor_9 : decode cX11_commonDivisor 9 = .ok (.iload 8, 2) := by decide +kernel
theorem dX11_commonDivisor_11 : decode cX11_commonDivisor 11 = .ok (.bipush 100, 2) := by decide +kernel
theorem dX11_commonDivisor_13 : decode cX11_commonDivisor 13 = .ok (.if_icmp .ge 31, 3) := by decide +kernel
theorem dX11_commonDivisor_16 : decode cX11_commonDivisor 16 = .ok (.lload 6, 2) := by decide +kernel
theorem dX11_commonDivisor_18 : decode cX11_commonDivisor 18 = .ok (.lconst 0, 1) := by decide +kernel
theorem dX11_commonDivisor_19 : decode cX11_commonDivisor 19 = .ok (.lcmp, 1) := by decide +kernel
theorem dX11_commonDivisor_20 : decode cX11_commonDivisor 20 = .ok (.ifCond .eq 24, 3) := by decide +kernel
theorem dX11_commonDivisor_23 : decode cX11_commonDivisor 23 = .ok (.lload 4, 2) := by decide +kernel
theorem dX11_commonDivisor_25 : decode cX11_commonDivisor 25 = .ok (.lload 6, 2) := by decide +kernel
theorem dX11_commonDivisor_27 : decode cX11_commonDivisor 27 = .ok (.lrem, 1) := by decide +kernel
theorem dX11_commonDivisor_28 : decode cX11_commonDivisor 28 = .ok (.lstore 9, 2) := by decide +kernel
theorem dX11_commonDivisor_30 : decode cX11_commonDivisor 30 = .ok (.lload 6, 2) := by decide +kernel
theorem dX11_commonDivisor_32 : decode cX11_commonDivisor 32 = .ok (.lstore 4, 2) := by decide +kernel
theorem dX11_commonDivisor_34 : decode cX11_commonDivisor 34 = .ok (.lload 9, 2) := by decide +kernel
theorem dX11_commonDivisor_36 : decode cX11_commonDivisor 36 = .ok (.lstore 6, 2) := by decide +kernel
theorem dX11_commonDivisor_38 : decode cX11_commonDivisor 38 = .ok (.iinc 8 1, 3) := by decide +kernel
theorem dX11_commonDivisor_41 : decode cX11_commonDivisor 41 = .ok (.goto (-32), 3) := by decide +kernel
theorem dX11_commonDivisor_44 : decode cX11_commonDivisor 44 = .ok (.lload 4, 2) := by decide +kernel
theorem dX11_commonDivisor_46 : decode cX11_commonDivisor 46 = .ok (.lreturn, 1) := by decide +kernel
def X_TH_commonDivisor_44 (K : Int64 → xs_St → Prop) (x4 : Int64) (u : xs_St) : Prop :=
  K x4 u
set_option maxHeartbeats 4000000 in
set_option maxRecDepth 100000 in
theorem X_TH_commonDivisor_44_w {K : Int64 → xs_St → Prop} (C : th_Cx p s m args meth c cX11_commonDivisor RX11 11 (some .long) (dC, dI) (th_ty cs) (xE ad) A) (x4 : Int64) (u : xs_St) (H : Heap) (locs : List Loc) (ls : Array Slot) (hf : X_TH_commonDivisor_44 K x4 u) (hw : th_wI (dC, dI) (wX cs ad q v v) A s.heap u H locs) (hl : lv_has ls 11 [(4, .long x4)]) : W p l e (th_rm 0 0 0) s m args below meth c H locs 0 0 (MQ below (va_Ql K (th_Post (dC, dI) (wX cs ad q v v) A) A) args s 0 0 A) (F0 m 44 ls []) := by
  have hx := C.1
  have hb := C.2.1
  unfold X_TH_commonDivisor_44 at hf
  refine lv_lload hx hb dX11_commonDivisor_44 (lv_at hl 0 rfl) ?_
  exact th_lret C hw hf dX11_commonDivisor_46
def X_TH_commonDivisor_9 (K : Int64 → xs_St → Prop) (k9 : Int64 → Int64 → Int32 → xs_St → Prop) (x4 : Int64) (x6 : Int64) (x8 : Int32) (u : xs_St) : Prop :=
  (((100 : Int32) ≤ x8 → X_TH_commonDivisor_44 K x4 u) ∧ (¬ (100 : Int32) ≤ x8 → (((lg_cmp x6 (0 : Int64)) = 0 → X_TH_commonDivisor_44 K x4 u) ∧ (¬ (lg_cmp x6 (0 : Int64)) = 0 → (¬ x6 = 0 ∧ ∀ y_1 : Int64, y_1 = (x4 - x4 / x6 * x6) → ∀ x8_2 : Int32, x8_2 = x8 + (1 : Int32) → k9 x6 y_1 x8_2 u)))))
set_option maxHeartbeats 4000000 in
set_option maxRecDepth 100000 in
theorem X_TH_commonDivisor_9_w {K : Int64 → xs_St → Prop} {k9 : Int64 → Int64 → Int32 → xs_St → Prop} (C : th_Cx p s m args meth c cX11_commonDivisor RX11 11 (some .long) (dC, dI) (th_ty cs) (xE ad) A) (hk9 : ∀ (x4 : Int64) (x6 : Int64) (x8 : Int32) (u : xs_St) (H : Heap) (locs : List Loc) (ls : Array Slot), k9 x4 x6 x8 u → th_wI (dC, dI) (wX cs ad q v v) A s.heap u H locs → lv_has ls 11 [(4, .long x4), (6, .long x6), (8, .int x8)] → W p l e (th_rm 0 0 0) s m args below meth c H locs 0 0 (MQ below (va_Ql K (th_Post (dC, dI) (wX cs ad q v v) A) A) args s 0 0 A) (F0 m 9 ls [])) (x4 : Int64) (x6 : Int64) (x8 : Int32) (u : xs_St) (H : Heap) (locs : List Loc) (ls : Array Slot) (hf : X_TH_commonDivisor_9 K k9 x4 x6 x8 u) (hw : th_wI (dC, dI) (wX cs ad q v v) A s.heap u H locs) (hl : lv_has ls 11 [(4, .long x4), (6, .long x6), (8, .int x8)]) : W p l e (th_rm 0 0 0) s m args below meth c H locs 0 0 (MQ below (va_Ql K (th_Post (dC, dI) (wX cs ad q v v) A) A) args s 0 0 A) (F0 m 9 ls []) := by
  have hx := C.1
  have hb := C.2.1
  unfold X_TH_commonDivisor_9 at hf
  refine lv_iload hx hb dX11_commonDivisor_9 (lv_at hl 2 rfl) ?_
  refine lv_bipush (v := (100 : Int32)) hx hb dX11_commonDivisor_11 (by decide) ?_
  refine lv_icmp_ge (tgt := 44) hx hb dX11_commonDivisor_13 (by decide) (fun hc => ?_) (fun hc => ?_)
  · replace hf := hf.1 hc
    clear hc
    exact X_TH_commonDivisor_44_w C x4 u _ _ _ hf hw (lv_sub hl [0] rfl)
  · replace hf := hf.2 hc
    clear hc
    refine lv_lload hx hb dX11_commonDivisor_16 (lv_at hl 1 rfl) ?_
    refine lv_lconst (v := (0 : Int64)) hx hb dX11_commonDivisor_18 (by decide) ?_
    refine W.lcmp hx hb dX11_commonDivisor_19 ?_
    refine lv_if_eq (tgt := 44) hx hb dX11_commonDivisor_20 (by decide) (fun hc => ?_) (fun hc => ?_)
    · replace hf := hf.1 hc
      clear hc
      exact X_TH_commonDivisor_44_w C x4 u _ _ _ hf hw (lv_sub hl [0] rfl)
    · replace hf := hf.2 hc
      clear hc
      refine lv_lload hx hb dX11_commonDivisor_23 (lv_at hl 0 rfl) ?_
      refine lv_lload hx hb dX11_commonDivisor_25 (lv_at hl 1 rfl) ?_
      refine lv_lrem hx hb dX11_commonDivisor_27 hf.1 ?_
      replace hf := hf.2
      refine lv_topl (fun y_1 e9 => ?_)
      replace hf := hf y_1 e9
      clear e9
      refine lv_lstore (lv' := [(9, .long y_1), (4, .long x4), (6, .long x6), (8, .int x8)]) hx hb dX11_commonDivisor_28 hl (by decide) rfl (fun ls hl => ?_)
      refine lv_lload hx hb dX11_commonDivisor_30 (lv_at hl 2 rfl) ?_
      refine lv_lstore (lv' := [(4, .long x6), (9, .long y_1), (6, .long x6), (8, .int x8)]) hx hb dX11_commonDivisor_32 hl (by decide) rfl (fun ls hl => ?_)
      refine lv_lload hx hb dX11_commonDivisor_34 (lv_at hl 1 rfl) ?_
      refine lv_lstore (lv' := [(6, .long y_1), (4, .long x6), (9, .long y_1), (8, .int x8)]) hx hb dX11_commonDivisor_36 hl (by decide) rfl (fun ls hl => ?_)
      obtain ⟨x8_2, e9⟩ : ∃ y : Int32, y = x8 + (1 : Int32) := ⟨_, rfl⟩
      replace hf := hf x8_2 e9
      refine lv_iinc (v := x8_2) (lv' := [(8, .int x8_2), (6, .long y_1), (4, .long x6), (9, .long y_1)]) hx hb dX11_commonDivisor_38 hl (k := 3) rfl (by rw [e9]; rfl) (by decide) rfl (fun ls hl => ?_)
      clear e9
      refine lv_goto (tgt := 9) hx hb dX11_commonDivisor_41 (by decide) ?_
      exact hk9 x6 y_1 x8_2 u _ _ _ hf hw (lv_sub hl [2, 1, 0] rfl)
def X_TH_commonDivisor_9_lp (K : Int64 → xs_St → Prop) : Nat → Int64 → Int64 → Int32 → xs_St → Prop
  | 0, _, _, _, _ => False
  | n + 1, x4, x6, x8, u => X_TH_commonDivisor_9 K (X_TH_commonDivisor_9_lp K n) x4 x6 x8 u
set_option maxHeartbeats 4000000 in
set_option maxRecDepth 100000 in
theorem X_TH_commonDivisor_9_lw {K : Int64 → xs_St → Prop} (C : th_Cx p s m args meth c cX11_commonDivisor RX11 11 (some .long) (dC, dI) (th_ty cs) (xE ad) A) (n : Nat) : ∀ (x4 : Int64) (x6 : Int64) (x8 : Int32) (u : xs_St) (H : Heap) (locs : List Loc) (ls : Array Slot), X_TH_commonDivisor_9_lp K n x4 x6 x8 u → th_wI (dC, dI) (wX cs ad q v v) A s.heap u H locs → lv_has ls 11 [(4, .long x4), (6, .long x6), (8, .int x8)] → W p l e (th_rm 0 0 0) s m args below meth c H locs 0 0 (MQ below (va_Ql K (th_Post (dC, dI) (wX cs ad q v v) A) A) args s 0 0 A) (F0 m 9 ls []) := by
  induction n with
  | zero => intro x4 x6 x8 u H locs ls hf; exact hf.elim
  | succ n ih =>
    intro x4 x6 x8 u H locs ls hf hw hl
    exact X_TH_commonDivisor_9_w C ih x4 x6 x8 u H locs ls hf hw hl
def X_TH_commonDivisor (a1 : Int64) (a2 : Int64) (u : xs_St) (K : Int64 → xs_St → Prop) : Prop :=
  ∃ n, X_TH_commonDivisor_9_lp K n a1 a2 (0 : Int32) u
set_option maxHeartbeats 4000000 in
set_option maxRecDepth 100000 in
theorem X_TH_commonDivisor_c {l : Launch} {dC : Nat → ClassId} {dI : Nat → Nat → Nat} {cs : Nat → ClassId} {ad : Nat → Nat} {q v : Nat → Nat} {a1 : Int64} {a2 : Int64} {u : xs_St} {K : Int64 → xs_St → Prop} (hf : X_TH_commonDivisor a1 a2 u K) : th_Cl l yX11_commonDivisor cX11_commonDivisor 11 (some .long) 0 0 0 (dC, dI) (th_ty cs) (xE ad) (wX cs ad q v v) [.long a1, .long a2] u K := by
  refine th_ofl (by decide) (Nat.le_of_ble_eq_true rfl) (xE_ok ad) ?_
  intro p e s m below meth c A ls C hw hl
  have C : th_Cx p s m _ meth c cX11_commonDivisor RX11 11 (some .long) (dC, dI) (th_ty cs) (xE ad) A := C
  have hl : lv_has ls 11 [(0, .long a1), (2, .long a2)] := hl
  generalize (List.toArray _ : Array Value) = args at C ⊢
  have hx := C.1
  have hb := C.2.1
  unfold X_TH_commonDivisor at hf
  refine lv_lload_n hx hb dX11_commonDivisor_0 rfl (lv_at hl 0 rfl) ?_
  refine lv_lstore (lv' := [(4, .long a1), (0, .long a1), (2, .long a2)]) hx hb dX11_commonDivisor_1 hl (by decide) rfl (fun ls hl => ?_)
  refine lv_lload_n hx hb dX11_commonDivisor_3 rfl (lv_at hl 2 rfl) ?_
  refine lv_lstore (lv' := [(6, .long a2), (4, .long a1), (0, .long a1), (2, .long a2)]) hx hb dX11_commonDivisor_4 hl (by decide) rfl (fun ls hl => ?_)
  refine lv_iconst (v := (0 : Int32)) hx hb dX11_commonDivisor_6 (by decide) ?_
  refine lv_istore (lv' := [(8, .int (0 : Int32)), (6, .long a2), (4, .long a1), (0, .long a1), (2, .long a2)]) hx hb dX11_commonDivisor_7 hl (by decide) rfl (fun ls hl => ?_)
  obtain ⟨n, hf⟩ := hf
  exact X_TH_commonDivisor_9_lw C n a1 a2 (0 : Int32) u _ _ _ hf hw (lv_sub hl [2, 1, 0] rfl)
/-! X_TH_count -/
theorem dX11_count_0 : decode cX11_count 0 = .ok (.iload_n 1, 1) := by decide +kernel
theorem dX11_count_1 : decode cX11_count 1 = .ok (.tableswitch 84 0 5 #[39, 44, 52, 60, 68, 76], 39) := by decide +kernel
theorem dX11_count_40 : decode cX11_count 40 = .ok (.aload_n 0, 1) := by decide +kernel
theorem dX11_count_41 : decode cX11_count 41 = .ok (.getfield 80, 3) := by decide +kernel
theorem dX11_count_44 : decode cX11_count 44 = .ok (.ireturn, 1) := by decide +kernel
theorem dX11_count_45 : decode cX11_count 45 = .ok (.aload_n 0, 1) := by decide +kernel
theorem dX11_count_46 : decode cX11_count 46 = .ok (.getfield 69, 3) := by decide +kernel
theorem dX11_count_49 : decode cX11_count 49 = .ok (.getfield 126, 3) := by decide +kernel
theorem dX11_count_52 : decode cX11_count 52 = .ok (.ireturn, 1) := by decide +kernel
theorem dX11_count_53 : decode cX11_count 53 = .ok (.aload_n 0, 1) := by decide +kernel
theorem dX11_count_54 : decode cX11_count 54 = .ok (.getfield 26, 3) := by decide +kernel
theorem dX11_count_57 : decode cX11_count 57 = .ok (.getfield 94, 3) := by decide +kernel
theorem dX11_count_60 : decode cX11_count 60 = .ok (.ireturn, 1) := by decide +kernel
theorem dX11_count_61 : decode cX11_count 61 = .ok (.aload_n 0, 1) := by decide +kernel
theorem dX11_count_62 : decode cX11_count 62 = .ok (.getfield 69, 3) := by decide +kernel
theorem dX11_count_65 : decode cX11_count 65 = .ok (.getfield 176, 3) := by decide +kernel
theorem dX11_count_68 : decode cX11_count 68 = .ok (.ireturn, 1) := by decide +kernel
theorem dX11_count_69 : decode cX11_count 69 = .ok (.aload_n 0, 1) := by decide +kernel
theorem dX11_count_70 : decode cX11_count 70 = .ok (.getfield 26, 3) := by decide +kernel
theorem dX11_count_73 : decode cX11_count 73 = .ok (.getfield 137, 3) := by decide +kernel
theorem dX11_count_76 : decode cX11_count 76 = .ok (.ireturn, 1) := by decide +kernel
theorem dX11_count_77 : decode cX11_count 77 = .ok (.aload_n 0, 1) := by decide +kernel
theorem dX11_count_78 : decode cX11_count 78 = .ok (.getfield 10, 3) := by decide +kernel
theorem dX11_count_81 : decode cX11_count 81 = .ok (.getfield 91, 3) := by decide +kernel
theorem dX11_count_84 : decode cX11_count 84 = .ok (.ireturn, 1) := by decide +kernel
theorem dX11_count_85 : decode cX11_count 85 = .ok (.iconst (-1), 1) := by decide +kernel
theorem dX11_count_86 : decode cX11_count 86 = .ok (.ireturn, 1) := by decide +kernel
def X_TH_count (a1 : Int32) (u : xs_St) (K : Int32 → xs_St → Prop) : Prop :=
  ((a1 = (0 : Int32) → K (xi u 12) u) ∧ (a1 = (1 : Int32) → K (xi u 300) u) ∧ (a1 = (2 : Int32) → K (xi u 504) u) ∧ (a1 = (3 : Int32) → K (xi u 305) u) ∧ (a1 = (4 : Int32) → K (xi u 505) u) ∧ (a1 = (5 : Int32) → K (xi u 101) u) ∧ (¬ (a1 = (0 : Int32) ∨ a1 = (1 : Int32) ∨ a1 = (2 : Int32) ∨ a1 = (3 : Int32) ∨ a1 = (4 : Int32) ∨ a1 = (5 : Int32)) → K (-1 : Int32) u))
set_option maxHeartbeats 4000000 in
set_option maxRecDepth 100000 in
theorem X_TH_count_c {l : Launch} {dC : Nat → ClassId} {dI : Nat → Nat → Nat} {cs : Nat → ClassId} {ad : Nat → Nat} {q v : Nat → Nat} {a1 : Int32} {u : xs_St} {K : Int32 → xs_St → Prop} (hf : X_TH_count a1 u K) : th_Ci l yX11_count cX11_count 2 (some .int) 0 0 0 (dC, dI) (th_ty cs) (xE ad) (wX cs ad q v v) [.ref (q 99), .int a1] u K := by
  refine th_ofi (by decide) (Nat.le_of_ble_eq_true rfl) (xE_ok ad) ?_
  intro p e s m below meth c A ls C hw hl
  have C : th_Cx p s m _ meth c cX11_count RX11 2 (some .int) (dC, dI) (th_ty cs) (xE ad) A := C
  have hl : lv_has ls 2 [(0, .ref (q 99)), (1, .int a1)] := hl
  generalize (List.toArray _ : Array Value) = args at C ⊢
  have hx := C.1
  have hb := C.2.1
  unfold X_TH_count at hf
  refine lv_iload_n hx hb dX11_count_0 rfl (lv_at hl 1 rfl) ?_
  by_cases hc : a1 = (0 : Int32) ∨ a1 = (1 : Int32) ∨ a1 = (2 : Int32) ∨ a1 = (3 : Int32) ∨ a1 = (4 : Int32) ∨ a1 = (5 : Int32)
  · rcases hc with hc | hc | hc | hc | hc | hc
    · replace hf := hf.1 hc
      refine lv_tableIn (tgt := 40) hx hb dX11_count_1 (by rw [hc]; decide) (by rw [hc]; decide) (by rw [hc]; rfl) (by decide) ?_
      refine lv_aload_n hx hb dX11_count_40 rfl (lv_at hl 0 rfl) ?_
      refine xg_12 C hw (C.2.2.2.2.1 _ hwF_X11_80) dX11_count_41 ?_
      exact th_iret C hw hf dX11_count_44
    · replace hf := hf.2.1 hc
      refine lv_tableIn (tgt := 45) hx hb dX11_count_1 (by rw [hc]; decide) (by rw [hc]; decide) (by rw [hc]; rfl) (by decide) ?_
      refine lv_aload_n hx hb dX11_count_45 rfl (lv_at hl 0 rfl) ?_
      refine xg_9 C hw (C.2.2.2.2.1 _ hwF_X11_69) dX11_count_46 ?_
      refine xgn_300 C hw (va_Nw.use rfl (xN C hwG_X11_126)) dX11_count_49 ?_
      exact th_iret C hw hf dX11_count_52
    · replace hf := hf.2.2.1 hc
      refine lv_tableIn (tgt := 53) hx hb dX11_count_1 (by rw [hc]; decide) (by rw [hc]; decide) (by rw [hc]; rfl) (by decide) ?_
      refine lv_aload_n hx hb dX11_count_53 rfl (lv_at hl 0 rfl) ?_
      refine xg_2 C hw (C.2.2.2.2.1 _ hwF_X11_26) dX11_count_54 ?_
      refine xgn_504 C hw (va_Nw.use rfl (xN C hwG_X11_94)) dX11_count_57 ?_
      exact th_iret C hw hf dX11_count_60
    · replace hf := hf.2.2.2.1 hc
      refine lv_tableIn (tgt := 61) hx hb dX11_count_1 (by rw [hc]; decide) (by rw [hc]; decide) (by rw [hc]; rfl) (by decide) ?_
      refine lv_aload_n hx hb dX11_count_61 rfl (lv_at hl 0 rfl) ?_
      refine xg_9 C hw (C.2.2.2.2.1 _ hwF_X11_69) dX11_count_62 ?_
      refine xgn_305 C hw (va_Nw.use rfl (xN C hwG_X11_176)) dX11_count_65 ?_
      exact th_iret C hw hf dX11_count_68
    · replace hf := hf.2.2.2.2.1 hc
      refine lv_tableIn (tgt := 69) hx hb dX11_count_1 (by rw [hc]; decide) (by rw [hc]; decide) (by rw [hc]; rfl) (by decide) ?_
      refine lv_aload_n hx hb dX11_count_69 rfl (lv_at hl 0 rfl) ?_
      refine xg_2 C hw (C.2.2.2.2.1 _ hwF_X11_26) dX11_count_70 ?_
      refine xgn_505 C hw (va_Nw.use rfl (xN C hwG_X11_137)) dX11_count_73 ?_
      exact th_iret C hw hf dX11_count_76
    · replace hf := hf.2.2.2.2.2.1 hc
      refine lv_tableIn (tgt := 77) hx hb dX11_count_1 (by rw [hc]; decide) (by rw [hc]; decide) (by rw [hc]; rfl) (by decide) ?_
      refine lv_aload_n hx hb dX11_count_77 rfl (lv_at hl 0 rfl) ?_
      refine xg_0 C hw (C.2.2.2.2.1 _ hwF_X11_10) dX11_count_78 ?_
      refine xgn_101 C hw (va_Nw.use rfl (xN C hwG_X11_91)) dX11_count_81 ?_
      exact th_iret C hw hf dX11_count_84
  · replace hf := hf.2.2.2.2.2.2 hc
    refine lv_tableOut (tgt := 85) hx hb dX11_count_1 (th_sw6 hc) (by decide) ?_
    refine lv_iconst (v := (-1 : Int32)) hx hb dX11_count_85 (by decide) ?_
    exact th_iret C hw hf dX11_count_86
/-! X_TH_end -/
theorem dX11_end_0 : decode cX11_end 0 = .ok (.iload_n 1, 1) := by decide +kernel
theorem dX11_end_1 : decode cX11_end 1 = .ok (.ifCond .lt 14, 3) := by decide +kernel
theorem dX11_end_4 : decode cX11_end 4 = .ok (.iload_n 1, 1) := by decide +kernel
theorem dX11_end_5 : decode cX11_end 5 = .ok (.aload_n 0, 1) := by decide +kernel
theorem dX11_end_6 : decode cX11_end 6 = .ok (.getfield 10, 3) := by decide +kernel
theorem dX11_end_9 : decode cX11_end 9 = .ok (.getfield 91, 3) := by decide +kernel
theorem dX11_end_12 : decode cX11_end 12 = .ok (.if_icmp .le 5, 3) := by decide +kernel
theorem dX11_end_15 : decode cX11_end 15 = .ok (.iconst 0, 1) := by decide +kernel
theorem dX11_end_16 : decode cX11_end 16 = .ok (.ireturn, 1) := by decide +kernel
theorem dX11_end_17 : decode cX11_end 17 = .ok (.aload_n 0, 1) := by decide +kernel
theorem dX11_end_18 : decode cX11_end 18 = .ok (.getfield 10, 3) := by decide +kernel
theorem dX11_end_21 : decode cX11_end 21 = .ok (.iload_n 1, 1) := by decide +kernel
theorem dX11_end_22 : decode cX11_end 22 = .ok (.putfield 91, 3) := by decide +kernel
theorem dX11_end_25 : decode cX11_end 25 = .ok (.iconst 1, 1) := by decide +kernel
theorem dX11_end_26 : decode cX11_end 26 = .ok (.ireturn, 1) := by decide +kernel
def X_TH_end_15 (K : Int32 → xs_St → Prop) (u : xs_St) : Prop :=
  (((0 : Int32) = 0 ∨ (0 : Int32) = 1) ∧ K (0 : Int32) u)
set_option maxHeartbeats 4000000 in
set_option maxRecDepth 100000 in
theorem X_TH_end_15_w {K : Int32 → xs_St → Prop} (C : th_Cx p s m args meth c cX11_end RX11 2 (some .boolean) (dC, dI) (th_ty cs) (xE ad) A) (u : xs_St) (H : Heap) (locs : List Loc) (ls : Array Slot) (hf : X_TH_end_15 K u) (hw : th_wI (dC, dI) (wX cs ad q v v) A s.heap u H locs) (hl : lv_has ls 2 []) : W p l e (th_rm 0 0 0) s m args below meth c H locs 0 0 (MQ below (va_Qi K (th_Post (dC, dI) (wX cs ad q v v) A) A) args s 0 0 A) (F0 m 15 ls []) := by
  have hx := C.1
  have hb := C.2.1
  unfold X_TH_end_15 at hf
  refine lv_iconst (v := (0 : Int32)) hx hb dX11_end_15 (by decide) ?_
  exact th_zret C hw hf dX11_end_16
def X_TH_end (a1 : Int32) (u : xs_St) (K : Int32 → xs_St → Prop) : Prop :=
  ((a1 < 0 → X_TH_end_15 K u) ∧ (¬ a1 < 0 → ((a1 ≤ (xi u 101) → ∀ u_1 : xs_St, u_1 = xs_si u 101 a1 → (((1 : Int32) = 0 ∨ (1 : Int32) = 1) ∧ K (1 : Int32) u_1)) ∧ (¬ a1 ≤ (xi u 101) → X_TH_end_15 K u))))
set_option maxHeartbeats 4000000 in
set_option maxRecDepth 100000 in
theorem X_TH_end_c {l : Launch} {dC : Nat → ClassId} {dI : Nat → Nat → Nat} {cs : Nat → ClassId} {ad : Nat → Nat} {q v : Nat → Nat} {a1 : Int32} {u : xs_St} {K : Int32 → xs_St → Prop} (hf : X_TH_end a1 u K) : th_Ci l yX11_end cX11_end 2 (some .boolean) 0 0 0 (dC, dI) (th_ty cs) (xE ad) (wX cs ad q v v) [.ref (q 99), .int a1] u K := by
  refine th_ofi (by decide) (Nat.le_of_ble_eq_true rfl) (xE_ok ad) ?_
  intro p e s m below meth c A ls C hw hl
  have C : th_Cx p s m _ meth c cX11_end RX11 2 (some .boolean) (dC, dI) (th_ty cs) (xE ad) A := C
  have hl : lv_has ls 2 [(0, .ref (q 99)), (1, .int a1)] := hl
  generalize (List.toArray _ : Array Value) = args at C ⊢
  have hx := C.1
  have hb := C.2.1
  unfold X_TH_end at hf
  refine lv_iload_n hx hb dX11_end_0 rfl (lv_at hl 1 rfl) ?_
  refine lv_if_lt (tgt := 15) hx hb dX11_end_1 (by decide) (fun hc => ?_) (fun hc => ?_)
  · replace hf := hf.1 hc
    clear hc
    exact X_TH_end_15_w C  u _ _ _ hf hw (lv_sub hl [] rfl)
  · replace hf := hf.2 hc
    clear hc
    refine lv_iload_n hx hb dX11_end_4 rfl (lv_at hl 1 rfl) ?_
    refine lv_aload_n hx hb dX11_end_5 rfl (lv_at hl 0 rfl) ?_
    refine xg_0 C hw (C.2.2.2.2.1 _ hwF_X11_10) dX11_end_6 ?_
    refine xgn_101 C hw (va_Nw.use rfl (xN C hwG_X11_91)) dX11_end_9 ?_
    refine lv_icmp_le (tgt := 17) hx hb dX11_end_12 (by decide) (fun hc => ?_) (fun hc => ?_)
    · replace hf := hf.1 hc
      clear hc
      refine lv_aload_n hx hb dX11_end_17 rfl (lv_at hl 0 rfl) ?_
      refine xg_0 C hw (C.2.2.2.2.1 _ hwF_X11_10) dX11_end_18 ?_
      refine lv_iload_n hx hb dX11_end_21 rfl (lv_at hl 1 rfl) ?_
      refine xpn_101 C hw (va_Nw.use rfl (xN C hwG_X11_91)) dX11_end_22 (fun u_1 e9 H locs hw => ?_)
      replace hf := hf u_1 e9
      clear e9
      refine lv_iconst (v := (1 : Int32)) hx hb dX11_end_25 (by decide) ?_
      exact th_zret C hw hf dX11_end_26
    · replace hf := hf.2 hc
      clear hc
      exact X_TH_end_15_w C  u _ _ _ hf hw (lv_sub hl [] rfl)
/-! X_TH_event -/
theorem dX11_event_0 : decode cX11_event 0 = .ok (.iload_n 1, 1) := by decide +kernel
theorem dX11_event_1 : decode cX11_event 1 = .ok (.ifCond .lt 14, 3) := by decide +kernel
theorem dX11_event_4 : decode cX11_event 4 = .ok (.iload_n 1, 1) := by decide +kernel
theorem dX11_event_5 : decode cX11_event 5 = .ok (.aload_n 0, 1) := by decide +kernel
theorem dX11_event_6 : decode cX11_event 6 = .ok (.getfield 40, 3) := by decide +kernel
theorem dX11_event_9 : decode cX11_event 9 = .ok (.getfield 213, 3) := by decide +kernel
theorem dX11_event_12 : decode cX11_event 12 = .ok (.if_icmp .lt 5, 3) := by decide +kernel
theorem dX11_event_15 : decode cX11_event 15 = .ok (.iconst (-1), 1) := by decide +kernel
theorem dX11_event_16 : decode cX11_event 16 = .ok (.ireturn, 1) := by decide +kernel
theorem dX11_event_17 : decode cX11_event 17 = .ok (.iload_n 2, 1) := by decide +kernel
theorem dX11_event_18 : decode cX11_event 18 = .ok (.tableswitch 56 0 2 #[26, 36, 46], 26) := by decide +kernel
theorem dX11_event_44 : decode cX11_event 44 = .ok (.aload_n 0, 1) := by decide +kernel
theorem dX11_event_45 : decode cX11_event 45 = .ok (.getfield 40, 3) := by decide +kernel
theorem dX11_event_48 : decode cX11_event 48 = .ok (.getfield 216, 3) := by decide +kernel
theorem dX11_event_51 : decode cX11_event 51 = .ok (.iload_n 1, 1) := by decide +kernel
theorem dX11_event_52 : decode cX11_event 52 = .ok (.iaload, 1) := by decide +kernel
theorem dX11_event_53 : decode cX11_event 53 = .ok (.ireturn, 1) := by decide +kernel
theorem dX11_event_54 : decode cX11_event 54 = .ok (.aload_n 0, 1) := by decide +kernel
theorem dX11_event_55 : decode cX11_event 55 = .ok (.getfield 40, 3) := by decide +kernel
theorem dX11_event_58 : decode cX11_event 58 = .ok (.getfield 219, 3) := by decide +kernel
theorem dX11_event_61 : decode cX11_event 61 = .ok (.iload_n 1, 1) := by decide +kernel
theorem dX11_event_62 : decode cX11_event 62 = .ok (.iaload, 1) := by decide +kernel
theorem dX11_event_63 : decode cX11_event 63 = .ok (.ireturn, 1) := by decide +kernel
theorem dX11_event_64 : decode cX11_event 64 = .ok (.aload_n 0, 1) := by decide +kernel
theorem dX11_event_65 : decode cX11_event 65 = .ok (.getfield 40, 3) := by decide +kernel
theorem dX11_event_68 : decode cX11_event 68 = .ok (.getfield 222, 3) := by decide +kernel
theorem dX11_event_71 : decode cX11_event 71 = .ok (.iload_n 1, 1) := by decide +kernel
theorem dX11_event_72 : decode cX11_event 72 = .ok (.iaload, 1) := by decide +kernel
theorem dX11_event_73 : decode cX11_event 73 = .ok (.ireturn, 1) := by decide +kernel
theorem dX11_event_74 : decode cX11_event 74 = .ok (.iconst (-1), 1) := by decide +kernel
theorem dX11_event_75 : decode cX11_event 75 = .ok (.ireturn, 1) := by decide +kernel
def X_TH_event_15 (K : Int32 → xs_St → Prop) (u : xs_St) : Prop :=
  K (-1 : Int32) u
set_option maxHeartbeats 4000000 in
set_option maxRecDepth 100000 in
theorem X_TH_event_15_w {K : Int32 → xs_St → Prop} (C : th_Cx p s m args meth c cX11_event RX11 3 (some .int) (dC, dI) (th_ty cs) (xE ad) A) (u : xs_St) (H : Heap) (locs : List Loc) (ls : Array Slot) (hf : X_TH_event_15 K u) (hw : th_wI (dC, dI) (wX cs ad q v v) A s.heap u H locs) (hl : lv_has ls 3 []) : W p l e (th_rm 0 0 0) s m args below meth c H locs 0 0 (MQ below (va_Qi K (th_Post (dC, dI) (wX cs ad q v v) A) A) args s 0 0 A) (F0 m 15 ls []) := by
  have hx := C.1
  have hb := C.2.1
  unfold X_TH_event_15 at hf
  refine lv_iconst (v := (-1 : Int32)) hx hb dX11_event_15 (by decide) ?_
  exact th_iret C hw hf dX11_event_16
def X_TH_event (a1 : Int32) (a2 : Int32) (u : xs_St) (K : Int32 → xs_St → Prop) : Prop :=
  ((a1 < 0 → X_TH_event_15 K u) ∧ (¬ a1 < 0 → ((a1 < (xi u 708) → ((a2 = (0 : Int32) → (vp_in a1 48 ∧ ∀ y_1 : Int32, y_1 = xa u 705 (a1).toNatClampNeg → K y_1 u)) ∧ (a2 = (1 : Int32) → (vp_in a1 48 ∧ ∀ y_2 : Int32, y_2 = xa u 706 (a1).toNatClampNeg → K y_2 u)) ∧ (a2 = (2 : Int32) → (vp_in a1 48 ∧ ∀ y_3 : Int32, y_3 = xa u 707 (a1).toNatClampNeg → K y_3 u)) ∧ (¬ (a2 = (0 : Int32) ∨ a2 = (1 : Int32) ∨ a2 = (2 : Int32)) → K (-1 : Int32) u))) ∧ (¬ a1 < (xi u 708) → X_TH_event_15 K u))))
set_option maxHeartbeats 4000000 in
set_option maxRecDepth 100000 in
theorem X_TH_event_c {l : Launch} {dC : Nat → ClassId} {dI : Nat → Nat → Nat} {cs : Nat → ClassId} {ad : Nat → Nat} {q v : Nat → Nat} {a1 : Int32} {a2 : Int32} {u : xs_St} {K : Int32 → xs_St → Prop} (hf : X_TH_event a1 a2 u K) : th_Ci l yX11_event cX11_event 3 (some .int) 0 0 0 (dC, dI) (th_ty cs) (xE ad) (wX cs ad q v v) [.ref (q 99), .int a1, .int a2] u K := by
  refine th_ofi (by decide) (Nat.le_of_ble_eq_true rfl) (xE_ok ad) ?_
  intro p e s m below meth c A ls C hw hl
  have C : th_Cx p s m _ meth c cX11_event RX11 3 (some .int) (dC, dI) (th_ty cs) (xE ad) A := C
  have hl : lv_has ls 3 [(0, .ref (q 99)), (1, .int a1), (2, .int a2)] := hl
  generalize (List.toArray _ : Array Value) = args at C ⊢
  have hx := C.1
  have hb := C.2.1
  unfold X_TH_event at hf
  refine lv_iload_n hx hb dX11_event_0 rfl (lv_at hl 1 rfl) ?_
  refine lv_if_lt (tgt := 15) hx hb dX11_event_1 (by decide) (fun hc => ?_) (fun hc => ?_)
  · replace hf := hf.1 hc
    clear hc
    exact X_TH_event_15_w C  u _ _ _ hf hw (lv_sub hl [] rfl)
  · replace hf := hf.2 hc
    clear hc
    refine lv_iload_n hx hb dX11_event_4 rfl (lv_at hl 1 rfl) ?_
    refine lv_aload_n hx hb dX11_event_5 rfl (lv_at hl 0 rfl) ?_
    refine xg_4 C hw (C.2.2.2.2.1 _ hwF_X11_40) dX11_event_6 ?_
    refine xgn_708 C hw (va_Nw.use rfl (xN C hwG_X11_213)) dX11_event_9 ?_
    refine lv_icmp_lt (tgt := 17) hx hb dX11_event_12 (by decide) (fun hc => ?_) (fun hc => ?_)
    · replace hf := hf.1 hc
      clear hc
      refine lv_iload_n hx hb dX11_event_17 rfl (lv_at hl 2 rfl) ?_
      by_cases hc : a2 = (0 : Int32) ∨ a2 = (1 : Int32) ∨ a2 = (2 : Int32)
      · rcases hc with hc | hc | hc
        · replace hf := hf.1 hc
          refine lv_tableIn (tgt := 44) hx hb dX11_event_18 (by rw [hc]; decide) (by rw [hc]; decide) (by rw [hc]; rfl) (by decide) ?_
          refine lv_aload_n hx hb dX11_event_44 rfl (lv_at hl 0 rfl) ?_
          refine xg_4 C hw (C.2.2.2.2.1 _ hwF_X11_40) dX11_event_45 ?_
          refine xgn_705 C hw (va_Nw.use rfl (xN C hwG_X11_216)) dX11_event_48 ?_
          refine lv_iload_n hx hb dX11_event_51 rfl (lv_at hl 1 rfl) ?_
          refine yl_705 C hw hf.1 dX11_event_52 (fun y_1 e9 => ?_)
          replace hf := hf.2 y_1 e9
          clear e9
          exact th_iret C hw hf dX11_event_53
        · replace hf := hf.2.1 hc
          refine lv_tableIn (tgt := 54) hx hb dX11_event_18 (by rw [hc]; decide) (by rw [hc]; decide) (by rw [hc]; rfl) (by decide) ?_
          refine lv_aload_n hx hb dX11_event_54 rfl (lv_at hl 0 rfl) ?_
          refine xg_4 C hw (C.2.2.2.2.1 _ hwF_X11_40) dX11_event_55 ?_
          refine xgn_706 C hw (va_Nw.use rfl (xN C hwG_X11_219)) dX11_event_58 ?_
          refine lv_iload_n hx hb dX11_event_61 rfl (lv_at hl 1 rfl) ?_
          refine yl_706 C hw hf.1 dX11_event_62 (fun y_2 e9 => ?_)
          replace hf := hf.2 y_2 e9
          clear e9
          exact th_iret C hw hf dX11_event_63
        · replace hf := hf.2.2.1 hc
          refine lv_tableIn (tgt := 64) hx hb dX11_event_18 (by rw [hc]; decide) (by rw [hc]; decide) (by rw [hc]; rfl) (by decide) ?_
          refine lv_aload_n hx hb dX11_event_64 rfl (lv_at hl 0 rfl) ?_
          refine xg_4 C hw (C.2.2.2.2.1 _ hwF_X11_40) dX11_event_65 ?_
          refine xgn_707 C hw (va_Nw.use rfl (xN C hwG_X11_222)) dX11_event_68 ?_
          refine lv_iload_n hx hb dX11_event_71 rfl (lv_at hl 1 rfl) ?_
          refine yl_707 C hw hf.1 dX11_event_72 (fun y_3 e9 => ?_)
          replace hf := hf.2 y_3 e9
          clear e9
          exact th_iret C hw hf dX11_event_73
      · replace hf := hf.2.2.2 hc
        refine lv_tableOut (tgt := 74) hx hb dX11_event_18 (th_sw3 hc) (by decide) ?_
        refine lv_iconst (v := (-1 : Int32)) hx hb dX11_event_74 (by decide) ?_
        exact th_iret C hw hf dX11_event_75
    · replace hf := hf.2 hc
      clear hc
      exact X_TH_event_15_w C  u _ _ _ hf hw (lv_sub hl [] rfl)
/-! X_TH_fault -/
theorem dX11_fault_0 : decode cX11_fault 0 = .ok (.aload_n 0, 1) := by decide +kernel
theorem dX11_fault_1 : decode cX11_fault 1 = .ok (.getfield 19, 3) := by decide +kernel
theorem dX11_fault_4 : decode cX11_fault 4 = .ok (.getfield 113, 3) := by decide +kernel
theorem dX11_fault_7 : decode cX11_fault 7 = .ok (.ireturn, 1) := by decide +kernel
def X_TH_fault (u : xs_St) (K : Int32 → xs_St → Prop) : Prop :=
  K (xi u 212) u
set_option maxHeartbeats 4000000 in
set_option maxRecDepth 100000 in
theorem X_TH_fault_c {l : Launch} {dC : Nat → ClassId} {dI : Nat → Nat → Nat} {cs : Nat → ClassId} {ad : Nat → Nat} {q v : Nat → Nat} {u : xs_St} {K : Int32 → xs_St → Prop} (hf : X_TH_fault u K) : th_Ci l yX11_fault cX11_fault 1 (some .int) 0 0 0 (dC, dI) (th_ty cs) (xE ad) (wX cs ad q v v) [.ref (q 99)] u K := by
  refine th_ofi (by decide) (Nat.le_of_ble_eq_true rfl) (xE_ok ad) ?_
  intro p e s m below meth c A ls C hw hl
  have C : th_Cx p s m _ meth c cX11_fault RX11 1 (some .int) (dC, dI) (th_ty cs) (xE ad) A := C
  have hl : lv_has ls 1 [(0, .ref (q 99))] := hl
  generalize (List.toArray _ : Array Value) = args at C ⊢
  have hx := C.1
  have hb := C.2.1
  unfold X_TH_fault at hf
  refine lv_aload_n hx hb dX11_fault_0 rfl (lv_at hl 0 rfl) ?_
  refine xg_1 C hw (C.2.2.2.2.1 _ hwF_X11_19) dX11_fault_1 ?_
  refine xgn_212 C hw (va_Nw.use rfl (xN C hwG_X11_113)) dX11_fault_4 ?_
  exact th_iret C hw hf dX11_fault_7
/-! X_TH_gauge -/
theorem dX11_gauge_0 : decode cX11_gauge 0 = .ok (.iload_n 1, 1) := by decide +kernel
theorem dX11_gauge_1 : decode cX11_gauge 1 = .ok (.ifCond .lt 20, 3) := by decide +kernel
theorem dX11_gauge_4 : decode cX11_gauge 4 = .ok (.iload_n 1, 1) := by decide +kernel
theorem dX11_gauge_5 : decode cX11_gauge 5 = .ok (.aload_n 0, 1) := by decide +kernel
theorem dX11_gauge_6 : decode cX11_gauge 6 = .ok (.getfield 62, 3) := by decide +kernel
theorem dX11_gauge_9 : decode cX11_gauge 9 = .ok (.if_icmp .ge 12, 3) := by decide +kernel
theorem dX11_gauge_12 : decode cX11_gauge 12 = .ok (.aload_n 0, 1) := by decide +kernel
theorem dX11_gauge_13 : decode cX11_gauge 13 = .ok (.getfield 58, 3) := by decide +kernel
theorem dX11_gauge_16 : decode cX11_gauge 16 = .ok (.iload_n 1, 1) := by decide +kernel
theorem dX11_gauge_17 : decode cX11_gauge 17 = .ok (.iaload, 1) := by decide +kernel
theorem dX11_gauge_18 : decode cX11_gauge 18 = .ok (.goto 4, 3) := by decide +kernel
theorem dX11_gauge_21 : decode cX11_gauge 21 = .ok (.iconst (-1), 1) := by decide +kernel
theorem dX11_gauge_22 : decode cX11_gauge 22 = .ok (.ireturn, 1) := by decide +kernel
def X_TH_gauge_22 (K : Int32 → xs_St → Prop) (z0 : Int32) (u : xs_St) : Prop :=
  K z0 u
set_option maxHeartbeats 4000000 in
set_option maxRecDepth 100000 in
theorem X_TH_gauge_22_w {K : Int32 → xs_St → Prop} (C : th_Cx p s m args meth c cX11_gauge RX11 2 (some .int) (dC, dI) (th_ty cs) (xE ad) A) (z0 : Int32) (u : xs_St) (H : Heap) (locs : List Loc) (ls : Array Slot) (hf : X_TH_gauge_22 K z0 u) (hw : th_wI (dC, dI) (wX cs ad q v v) A s.heap u H locs) (hl : lv_has ls 2 []) : W p l e (th_rm 0 0 0) s m args below meth c H locs 0 0 (MQ below (va_Qi K (th_Post (dC, dI) (wX cs ad q v v) A) A) args s 0 0 A) (F0 m 22 ls [.int z0]) := by
  have hx := C.1
  have hb := C.2.1
  unfold X_TH_gauge_22 at hf
  exact th_iret C hw hf dX11_gauge_22
def X_TH_gauge_21 (K : Int32 → xs_St → Prop) (u : xs_St) : Prop :=
  X_TH_gauge_22 K (-1 : Int32) u
set_option maxHeartbeats 4000000 in
set_option maxRecDepth 100000 in
theorem X_TH_gauge_21_w {K : Int32 → xs_St → Prop} (C : th_Cx p s m args meth c cX11_gauge RX11 2 (some .int) (dC, dI) (th_ty cs) (xE ad) A) (u : xs_St) (H : Heap) (locs : List Loc) (ls : Array Slot) (hf : X_TH_gauge_21 K u) (hw : th_wI (dC, dI) (wX cs ad q v v) A s.heap u H locs) (hl : lv_has ls 2 []) : W p l e (th_rm 0 0 0) s m args below meth c H locs 0 0 (MQ below (va_Qi K (th_Post (dC, dI) (wX cs ad q v v) A) A) args s 0 0 A) (F0 m 21 ls []) := by
  have hx := C.1
  have hb := C.2.1
  unfold X_TH_gauge_21 at hf
  refine lv_iconst (v := (-1 : Int32)) hx hb dX11_gauge_21 (by decide) ?_
  exact X_TH_gauge_22_w C (-1 : Int32) u _ _ _ hf hw (lv_sub hl [] rfl)
def X_TH_gauge (a1 : Int32) (u : xs_St) (K : Int32 → xs_St → Prop) : Prop :=
  ((a1 < 0 → X_TH_gauge_21 K u) ∧ (¬ a1 < 0 → (((xi u 8) ≤ a1 → X_TH_gauge_21 K u) ∧ (¬ (xi u 8) ≤ a1 → (vp_in a1 48 ∧ ∀ y_1 : Int32, y_1 = xa u 7 (a1).toNatClampNeg → X_TH_gauge_22 K y_1 u)))))
set_option maxHeartbeats 4000000 in
set_option maxRecDepth 100000 in
theorem X_TH_gauge_c {l : Launch} {dC : Nat → ClassId} {dI : Nat → Nat → Nat} {cs : Nat → ClassId} {ad : Nat → Nat} {q v : Nat → Nat} {a1 : Int32} {u : xs_St} {K : Int32 → xs_St → Prop} (hf : X_TH_gauge a1 u K) : th_Ci l yX11_gauge cX11_gauge 2 (some .int) 0 0 0 (dC, dI) (th_ty cs) (xE ad) (wX cs ad q v v) [.ref (q 99), .int a1] u K := by
  refine th_ofi (by decide) (Nat.le_of_ble_eq_true rfl) (xE_ok ad) ?_
  intro p e s m below meth c A ls C hw hl
  have C : th_Cx p s m _ meth c cX11_gauge RX11 2 (some .int) (dC, dI) (th_ty cs) (xE ad) A := C
  have hl : lv_has ls 2 [(0, .ref (q 99)), (1, .int a1)] := hl
  generalize (List.toArray _ : Array Value) = args at C ⊢
  have hx := C.1
  have hb := C.2.1
  unfold X_TH_gauge at hf
  refine lv_iload_n hx hb dX11_gauge_0 rfl (lv_at hl 1 rfl) ?_
  refine lv_if_lt (tgt := 21) hx hb dX11_gauge_1 (by decide) (fun hc => ?_) (fun hc => ?_)
  · replace hf := hf.1 hc
    clear hc
    exact X_TH_gauge_21_w C  u _ _ _ hf hw (lv_sub hl [] rfl)
  · replace hf := hf.2 hc
    clear hc
    refine lv_iload_n hx hb dX11_gauge_4 rfl (lv_at hl 1 rfl) ?_
    refine lv_aload_n hx hb dX11_gauge_5 rfl (lv_at hl 0 rfl) ?_
    refine xg_8 C hw (C.2.2.2.2.1 _ hwF_X11_62) dX11_gauge_6 ?_
    refine lv_icmp_ge (tgt := 21) hx hb dX11_gauge_9 (by decide) (fun hc => ?_) (fun hc => ?_)
    · replace hf := hf.1 hc
      clear hc
      exact X_TH_gauge_21_w C  u _ _ _ hf hw (lv_sub hl [] rfl)
    · replace hf := hf.2 hc
      clear hc
      refine lv_aload_n hx hb dX11_gauge_12 rfl (lv_at hl 0 rfl) ?_
      refine xg_7 C hw (C.2.2.2.2.1 _ hwF_X11_58) dX11_gauge_13 ?_
      refine lv_iload_n hx hb dX11_gauge_16 rfl (lv_at hl 1 rfl) ?_
      refine yl_7 C hw hf.1 dX11_gauge_17 (fun y_1 e9 => ?_)
      replace hf := hf.2 y_1 e9
      clear e9
      refine lv_goto (tgt := 22) hx hb dX11_gauge_18 (by decide) ?_
      exact X_TH_gauge_22_w C y_1 u _ _ _ hf hw (lv_sub hl [] rfl)
/-! X_TH_next -/
theorem dX11_next_0 : decode cX11_next 0 = .ok (.iload_n 1, 1) := by decide +kernel
theorem dX11_next_1 : decode cX11_next 1 = .ok (.ifCond .lt 15, 3) := by decide +kernel
theorem dX11_next_4 : decode cX11_next 4 = .ok (.iload_n 1, 1) := by decide +kernel
theorem dX11_next_5 : decode cX11_next 5 = .ok (.sipush 999, 3) := by decide +kernel
theorem dX11_next_8 : decode cX11_next 8 = .ok (.aload_n 0, 1) := by decide +kernel
theorem dX11_next_9 : decode cX11_next 9 = .ok (.getfield 80, 3) := by decide +kernel
theorem dX11_next_12 : decode cX11_next 12 = .ok (.isub, 1) := by decide +kernel
theorem dX11_next_13 : decode cX11_next 13 = .ok (.if_icmp .le 5, 3) := by decide +kernel
theorem dX11_next_16 : decode cX11_next 16 = .ok (.iconst (-1), 1) := by decide +kernel
theorem dX11_next_17 : decode cX11_next 17 = .ok (.ireturn, 1) := by decide +kernel
theorem dX11_next_18 : decode cX11_next 18 = .ok (.aload_n 0, 1) := by decide +kernel
theorem dX11_next_19 : decode cX11_next 19 = .ok (.dup, 1) := by decide +kernel
theorem dX11_next_20 : decode cX11_next 20 = .ok (.getfield 80, 3) := by decide +kernel
theorem dX11_next_23 : decode cX11_next 23 = .ok (.iload_n 1, 1) := by decide +kernel
theorem dX11_next_24 : decode cX11_next 24 = .ok (.iadd, 1) := by decide +kernel
theorem dX11_next_25 : decode cX11_next 25 = .ok (.putfield 80, 3) := by decide +kernel
theorem dX11_next_28 : decode cX11_next 28 = .ok (.aload_n 0, 1) := by decide +kernel
theorem dX11_next_29 : decode cX11_next 29 = .ok (.getfield 80, 3) := by decide +kernel
theorem dX11_next_32 : decode cX11_next 32 = .ok (.ireturn, 1) := by decide +kernel
def X_TH_next_16 (K : Int32 → xs_St → Prop) (u : xs_St) : Prop :=
  K (-1 : Int32) u
set_option maxHeartbeats 4000000 in
set_option maxRecDepth 100000 in
theorem X_TH_next_16_w {K : Int32 → xs_St → Prop} (C : th_Cx p s m args meth c cX11_next RX11 2 (some .int) (dC, dI) (th_ty cs) (xE ad) A) (u : xs_St) (H : Heap) (locs : List Loc) (ls : Array Slot) (hf : X_TH_next_16 K u) (hw : th_wI (dC, dI) (wX cs ad q v v) A s.heap u H locs) (hl : lv_has ls 2 []) : W p l e (th_rm 0 0 0) s m args below meth c H locs 0 0 (MQ below (va_Qi K (th_Post (dC, dI) (wX cs ad q v v) A) A) args s 0 0 A) (F0 m 16 ls []) := by
  have hx := C.1
  have hb := C.2.1
  unfold X_TH_next_16 at hf
  refine lv_iconst (v := (-1 : Int32)) hx hb dX11_next_16 (by decide) ?_
  exact th_iret C hw hf dX11_next_17
def X_TH_next (a1 : Int32) (u : xs_St) (K : Int32 → xs_St → Prop) : Prop :=
  ((a1 < 0 → X_TH_next_16 K u) ∧ (¬ a1 < 0 → ((a1 ≤ ((999 : Int32) - (xi u 12)) → ∀ u_1 : xs_St, u_1 = xs_si u 12 ((xi u 12) + a1) → K (xi u_1 12) u_1) ∧ (¬ a1 ≤ ((999 : Int32) - (xi u 12)) → X_TH_next_16 K u))))
set_option maxHeartbeats 4000000 in
set_option maxRecDepth 100000 in
theorem X_TH_next_c {l : Launch} {dC : Nat → ClassId} {dI : Nat → Nat → Nat} {cs : Nat → ClassId} {ad : Nat → Nat} {q v : Nat → Nat} {a1 : Int32} {u : xs_St} {K : Int32 → xs_St → Prop} (hf : X_TH_next a1 u K) : th_Ci l yX11_next cX11_next 2 (some .int) 0 0 0 (dC, dI) (th_ty cs) (xE ad) (wX cs ad q v v) [.ref (q 99), .int a1] u K := by
  refine th_ofi (by decide) (Nat.le_of_ble_eq_true rfl) (xE_ok ad) ?_
  intro p e s m below meth c A ls C hw hl
  have C : th_Cx p s m _ meth c cX11_next RX11 2 (some .int) (dC, dI) (th_ty cs) (xE ad) A := C
  have hl : lv_has ls 2 [(0, .ref (q 99)), (1, .int a1)] := hl
  generalize (List.toArray _ : Array Value) = args at C ⊢
  have hx := C.1
  have hb := C.2.1
  unfold X_TH_next at hf
  refine lv_iload_n hx hb dX11_next_0 rfl (lv_at hl 1 rfl) ?_
  refine lv_if_lt (tgt := 16) hx hb dX11_next_1 (by decide) (fun hc => ?_) (fun hc => ?_)
  · replace hf := hf.1 hc
    clear hc
    exact X_TH_next_16_w C  u _ _ _ hf hw (lv_sub hl [] rfl)
  · replace hf := hf.2 hc
    clear hc
    refine lv_iload_n hx hb dX11_next_4 rfl (lv_at hl 1 rfl) ?_
    refine lv_sipush (v := (999 : Int32)) hx hb dX11_next_5 (by decide) ?_
    refine lv_aload_n hx hb dX11_next_8 rfl (lv_at hl 0 rfl) ?_
    refine xg_12 C hw (C.2.2.2.2.1 _ hwF_X11_80) dX11_next_9 ?_
    refine lv_isub hx hb dX11_next_12 ?_
    refine lv_icmp_le (tgt := 18) hx hb dX11_next_13 (by decide) (fun hc => ?_) (fun hc => ?_)
    · replace hf := hf.1 hc
      clear hc
      refine lv_aload_n hx hb dX11_next_18 rfl (lv_at hl 0 rfl) ?_
      refine lv_dup hx hb dX11_next_19 rfl ?_
      refine xg_12 C hw (C.2.2.2.2.1 _ hwF_X11_80) dX11_next_20 ?_
      refine lv_iload_n hx hb dX11_next_23 rfl (lv_at hl 1 rfl) ?_
      refine lv_iadd hx hb dX11_next_24 ?_
      refine xp_12 C hw (C.2.2.2.2.1 _ hwF_X11_80) dX11_next_25 (fun u_1 e9 H locs hw => ?_)
      replace hf := hf u_1 e9
      clear e9
      refine lv_aload_n hx hb dX11_next_28 rfl (lv_at hl 0 rfl) ?_
      refine xg_12 C hw (C.2.2.2.2.1 _ hwF_X11_80) dX11_next_29 ?_
      exact th_iret C hw hf dX11_next_32
    · replace hf := hf.2 hc
      clear hc
      exact X_TH_next_16_w C  u _ _ _ hf hw (lv_sub hl [] rfl)
/-! X_TH_paired -/
theorem dX11_paired_0 : decode cX11_paired 0 = .ok (.iload_n 1, 1) := by decide +kernel
theorem dX11_paired_1 : decode cX11_paired 1 = .ok (.ifCond .lt 26, 3) := by decide +kernel
theorem dX11_paired_4 : decode cX11_paired 4 = .ok (.iload_n 1, 1) := by decide +kernel
theorem dX11_paired_5 : decode cX11_paired 5 = .ok (.aload_n 0, 1) := by decide +kernel
theorem dX11_paired_6 : decode cX11_paired 6 = .ok (.getfield 54, 3) := by decide +kernel
theorem dX11_paired_9 : decode cX11_paired 9 = .ok (.getfield 240, 3) := by decide +kernel
theorem dX11_paired_12 : decode cX11_paired 12 = .ok (.if_icmp .ge 15, 3) := by decide +kernel
theorem dX11_paired_15 : decode cX11_paired 15 = .ok (.aload_n 0, 1) := by decide +kernel
theorem dX11_paired_16 : decode cX11_paired 16 = .ok (.getfield 54, 3) := by decide +kernel
theorem dX11_paired_19 : decode cX11_paired 19 = .ok (.getfield 243, 3) := by decide +kernel
theorem dX11_paired_22 : decode cX11_paired 22 = .ok (.iload_n 1, 1) := by decide +kernel
theorem dX11_paired_23 : decode cX11_paired 23 = .ok (.iaload, 1) := by decide +kernel
theorem dX11_paired_24 : decode cX11_paired 24 = .ok (.goto 4, 3) := by decide +kernel
theorem dX11_paired_27 : decode cX11_paired 27 = .ok (.iconst (-1), 1) := by decide +kernel
theorem dX11_paired_28 : decode cX11_paired 28 = .ok (.ireturn, 1) := by decide +kernel
def X_TH_paired_28 (K : Int32 → xs_St → Prop) (z0 : Int32) (u : xs_St) : Prop :=
  K z0 u
set_option maxHeartbeats 4000000 in
set_option maxRecDepth 100000 in
theorem X_TH_paired_28_w {K : Int32 → xs_St → Prop} (C : th_Cx p s m args meth c cX11_paired RX11 2 (some .int) (dC, dI) (th_ty cs) (xE ad) A) (z0 : Int32) (u : xs_St) (H : Heap) (locs : List Loc) (ls : Array Slot) (hf : X_TH_paired_28 K z0 u) (hw : th_wI (dC, dI) (wX cs ad q v v) A s.heap u H locs) (hl : lv_has ls 2 []) : W p l e (th_rm 0 0 0) s m args below meth c H locs 0 0 (MQ below (va_Qi K (th_Post (dC, dI) (wX cs ad q v v) A) A) args s 0 0 A) (F0 m 28 ls [.int z0]) := by
  have hx := C.1
  have hb := C.2.1
  unfold X_TH_paired_28 at hf
  exact th_iret C hw hf dX11_paired_28
def X_TH_paired_27 (K : Int32 → xs_St → Prop) (u : xs_St) : Prop :=
  X_TH_paired_28 K (-1 : Int32) u
set_option maxHeartbeats 4000000 in
set_option maxRecDepth 100000 in
theorem X_TH_paired_27_w {K : Int32 → xs_St → Prop} (C : th_Cx p s m args meth c cX11_paired RX11 2 (some .int) (dC, dI) (th_ty cs) (xE ad) A) (u : xs_St) (H : Heap) (locs : List Loc) (ls : Array Slot) (hf : X_TH_paired_27 K u) (hw : th_wI (dC, dI) (wX cs ad q v v) A s.heap u H locs) (hl : lv_has ls 2 []) : W p l e (th_rm 0 0 0) s m args below meth c H locs 0 0 (MQ below (va_Qi K (th_Post (dC, dI) (wX cs ad q v v) A) A) args s 0 0 A) (F0 m 27 ls []) := by
  have hx := C.1
  have hb := C.2.1
  unfold X_TH_paired_27 at hf
  refine lv_iconst (v := (-1 : Int32)) hx hb dX11_paired_27 (by decide) ?_
  exact X_TH_paired_28_w C (-1 : Int32) u _ _ _ hf hw (lv_sub hl [] rfl)
def X_TH_paired (a1 : Int32) (u : xs_St) (K : Int32 → xs_St → Prop) : Prop :=
  ((a1 < 0 → X_TH_paired_27 K u) ∧ (¬ a1 < 0 → (((xi u 901) ≤ a1 → X_TH_paired_27 K u) ∧ (¬ (xi u 901) ≤ a1 → (vp_in a1 48 ∧ ∀ y_1 : Int32, y_1 = xa u 900 (a1).toNatClampNeg → X_TH_paired_28 K y_1 u)))))
set_option maxHeartbeats 4000000 in
set_option maxRecDepth 100000 in
theorem X_TH_paired_c {l : Launch} {dC : Nat → ClassId} {dI : Nat → Nat → Nat} {cs : Nat → ClassId} {ad : Nat → Nat} {q v : Nat → Nat} {a1 : Int32} {u : xs_St} {K : Int32 → xs_St → Prop} (hf : X_TH_paired a1 u K) : th_Ci l yX11_paired cX11_paired 2 (some .int) 0 0 0 (dC, dI) (th_ty cs) (xE ad) (wX cs ad q v v) [.ref (q 99), .int a1] u K := by
  refine th_ofi (by decide) (Nat.le_of_ble_eq_true rfl) (xE_ok ad) ?_
  intro p e s m below meth c A ls C hw hl
  have C : th_Cx p s m _ meth c cX11_paired RX11 2 (some .int) (dC, dI) (th_ty cs) (xE ad) A := C
  have hl : lv_has ls 2 [(0, .ref (q 99)), (1, .int a1)] := hl
  generalize (List.toArray _ : Array Value) = args at C ⊢
  have hx := C.1
  have hb := C.2.1
  unfold X_TH_paired at hf
  refine lv_iload_n hx hb dX11_paired_0 rfl (lv_at hl 1 rfl) ?_
  refine lv_if_lt (tgt := 27) hx hb dX11_paired_1 (by decide) (fun hc => ?_) (fun hc => ?_)
  · replace hf := hf.1 hc
    clear hc
    exact X_TH_paired_27_w C  u _ _ _ hf hw (lv_sub hl [] rfl)
  · replace hf := hf.2 hc
    clear hc
    refine lv_iload_n hx hb dX11_paired_4 rfl (lv_at hl 1 rfl) ?_
    refine lv_aload_n hx hb dX11_paired_5 rfl (lv_at hl 0 rfl) ?_
    refine xg_6 C hw (C.2.2.2.2.1 _ hwF_X11_54) dX11_paired_6 ?_
    refine xgn_901 C hw (va_Nw.use rfl (xN C hwG_X11_240)) dX11_paired_9 ?_
    refine lv_icmp_ge (tgt := 27) hx hb dX11_paired_12 (by decide) (fun hc => ?_) (fun hc => ?_)
    · replace hf := hf.1 hc
      clear hc
      exact X_TH_paired_27_w C  u _ _ _ hf hw (lv_sub hl [] rfl)
    · replace hf := hf.2 hc
      clear hc
      refine lv_aload_n hx hb dX11_paired_15 rfl (lv_at hl 0 rfl) ?_
      refine xg_6 C hw (C.2.2.2.2.1 _ hwF_X11_54) dX11_paired_16 ?_
      refine xgn_900 C hw (va_Nw.use rfl (xN C hwG_X11_243)) dX11_paired_19 ?_
      refine lv_iload_n hx hb dX11_paired_22 rfl (lv_at hl 1 rfl) ?_
      refine yl_900 C hw hf.1 dX11_paired_23 (fun y_1 e9 => ?_)
      replace hf := hf.2 y_1 e9
      clear e9
      refine lv_goto (tgt := 28) hx hb dX11_paired_24 (by decide) ?_
      exact X_TH_paired_28_w C y_1 u _ _ _ hf hw (lv_sub hl [] rfl)
end

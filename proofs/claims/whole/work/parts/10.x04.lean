section
variable {p : Program} {l : Launch} {e : Env} {s : State} {m : MethodId} {args : Array Value} {below : List Frame} {meth : Method} {c : Code} {dC : Nat → ClassId} {dI : Nat → Nat → Nat} {cs : Nat → ClassId} {ad ak : Nat → Nat} {q v : Nat → Nat} {A : Nat → Prop}
/-! X_US_goPast -/
theorem dX9_goPast_0 : decode cX9_goPast 0 = .ok (.iconst 0, 1) := by decide +kernel
theorem dX9_goPast_1 : decode cX9_goPast 1 = .ok (.istore 4, 2) := by decide +kernel
theorem dX9_goPast_3 : decode cX9_goPast 3 = .ok (.iload 4, 2) := by decide +kernel
theorem dX9_goPast_5 : decode cX9_goPast 5 = .ok (.bipush 31, 2) := by decide +kernel
theorem dX9_goPast_7 : decode cX9_goPast 7 = .ok (.if_icmp .ge 115, 3) := by decide +kernel
theorem dX9_goPast_10 : decode cX9_goPast 10 = .ok (.aload_n 0, 1) := by decide +kernel
theorem dX9_goPast_11 : decode cX9_goPast 11 = .ok (.iload_n 1, 1) := by decide +kernel
theorem dX9_goPast_12 : decode cX9_goPast 12 = .ok (.iload 4, 2) := by decide +kernel
theorem dX9_goPast_14 : decode cX9_goPast 14 = .ok (.invokevirtual 67, 3) := by decide +kernel
theorem dX9_goPast_17 : decode cX9_goPast 17 = .ok (.iload_n 2, 1) := by decide +kernel
theorem dX9_goPast_18 : decode cX9_goPast 18 = .ok (.iload 4, 2) := by decide +kernel
theorem dX9_goPast_20 : decode cX9_goPast 20 = .ok (.invokestatic 71, 3) := by decide +kernel
theorem dX9_goPast_23 : decode cX9_goPast 23 = .ok (.istore 5, 2) := by decide +kernel
theorem dX9_goPast_25 : decode cX9_goPast 25 = .ok (.iconst 0, 1) := by decide +kernel
theorem dX9_goPast_26 : decode cX9_goPast 26 = .ok (.istore 6, 2) := by decide +kernel
theorem dX9_goPast_28 : decode cX9_goPast 28 = .ok (.iload 6, 2) := by decide +kernel
theorem dX9_goPast_30 : decode cX9_goPast 30 = .ok (.bipush 31, 2) := by decide +kernel
theorem dX9_goPast_32 : decode cX9_goPast 32 = .ok (.if_icmp .ge 84, 3) := by decide +kernel
theorem dX9_goPast_35 : decode cX9_goPast 35 = .ok (.iconst 0, 1) := by decide +kernel
theorem dX9_goPast_36 : decode cX9_goPast 36 = .ok (.iload 5, 2) := by decide +kernel
theorem dX9_goPast_38 : decode cX9_goPast 38 = .ok (.iload_n 3, 1) := by decide +kernel
theorem dX9_goPast_39 : decode cX9_goPast 39 = .ok (.isub, 1) := by decide +kernel
theorem dX9_goPast_40 : decode cX9_goPast 40 = .ok (.iload 6, 2) := by decide +kernel
theorem dX9_goPast_42 : decode cX9_goPast 42 = .ok (.isub, 1) := by decide +kernel
theorem dX9_goPast_43 : decode cX9_goPast 43 = .ok (.invokestatic 75, 3) := by decide +kernel
theorem dX9_goPast_46 : decode cX9_goPast 46 = .ok (.istore 7, 2) := by decide +kernel
theorem dX9_goPast_48 : decode cX9_goPast 48 = .ok (.bipush 30, 2) := by decide +kernel
theorem dX9_goPast_50 : decode cX9_goPast 50 = .ok (.iload 5, 2) := by decide +kernel
theorem dX9_goPast_52 : decode cX9_goPast 52 = .ok (.iload_n 3, 1) := by decide +kernel
theorem dX9_goPast_53 : decode cX9_goPast 53 = .ok (.iadd, 1) := by decide +kernel
theorem dX9_goPast_54 : decode cX9_goPast 54 = .ok (.iload 6, 2) := by decide +kernel
theorem dX9_goPast_56 : decode cX9_goPast 56 = .ok (.isub, 1) := by decide +kernel
theorem dX9_goPast_57 : decode cX9_goPast 57 = .ok (.invokestatic 80, 3) := by decide +kernel
theorem dX9_goPast_60 : decode cX9_goPast 60 = .ok (.istore 8, 2) := by decide +kernel
theorem dX9_goPast_62 : decode cX9_goPast 62 = .ok (.iload 7, 2) := by decide +kernel
theorem dX9_goPast_64 : decode cX9_goPast 64 = .ok (.iload 8, 2) := by decide +kernel
theorem dX9_goPast_66 : decode cX9_goPast 66 = .ok (.if_icmp .gt 23, 3) := by decide +kernel
theorem dX9_goPast_69 : decode cX9_goPast 69 = .ok (.aload_n 0, 1) := by decide +kernel
theorem dX9_goPast_70 : decode cX9_goPast 70 = .ok (.getfield 29, 3) := by decide +kernel
theorem dX9_goPast_73 : decode cX9_goPast 73 = .ok (.iload 8, 2) := by decide +kernel
theorem dX9_goPast_75 : decode cX9_goPast 75 = .ok (.iconst 1, 1) := by decide +kernel
theorem dX9_goPast_76 : decode cX9_goPast 76 = .ok (.iadd, 1) := by decide +kernel
theorem dX9_goPast_77 : decode cX9_goPast 77 = .ok (.laload, 1) := by decide +kernel
theorem dX9_goPast_78 : decode cX9_goPast 78 = .ok (.aload_n 0, 1) := by decide +kernel
theorem dX9_goPast_79 : decode cX9_goPast 79 = .ok (.getfield 29, 3) := by decide +kernel
theorem dX9_goPast_82 : decode cX9_goPast 82 = .ok (.iload 7, 2) := by decide +kernel
theorem dX9_goPast_84 : decode cX9_goPast 84 = .ok (.laload, 1) := by decide +kernel
theorem dX9_goPast_85 : decode cX9_goPast 85 = .ok (.lsub, 1) := by decide +kernel
theorem dX9_goPast_86 : decode cX9_goPast 86 = .ok (.goto 4, 3) := by decide +kernel
theorem dX9_goPast_89 : decode cX9_goPast 89 = .ok (.lconst 0, 1) := by decide +kernel
theorem dX9_goPast_90 : decode cX9_goPast 90 = .ok (.lstore 9, 2) := by decide +kernel
theorem dX9_goPast_92 : decode cX9_goPast 92 = .ok (.aload_n 0, 1) := by decide +kernel
theorem dX9_goPast_93 : decode cX9_goPast 93 = .ok (.getfield 26, 3) := by decide +kernel
theorem dX9_goPast_96 : decode cX9_goPast 96 = .ok (.iload 4, 2) := by decide +kernel
theorem dX9_goPast_98 : decode cX9_goPast 98 = .ok (.bipush 31, 2) := by decide +kernel
theorem dX9_goPast_100 : decode cX9_goPast 100 = .ok (.imul, 1) := by decide +kernel
theorem dX9_goPast_101 : decode cX9_goPast 101 = .ok (.iload 6, 2) := by decide +kernel
theorem dX9_goPast_103 : decode cX9_goPast 103 = .ok (.iadd, 1) := by decide +kernel
theorem dX9_goPast_104 : decode cX9_goPast 104 = .ok (.lload 9, 2) := by decide +kernel
theorem dX9_goPast_106 : decode cX9_goPast 106 = .ok (.invokestatic 57, 3) := by decide +kernel
theorem dX9_goPast_109 : decode cX9_goPast 109 = .ok (.lastore, 1) := by decide +kernel
theorem dX9_goPast_110 : decode cX9_goPast 110 = .ok (.iinc 6 1, 3) := by decide +kernel
theorem dX9_goPast_113 : decode cX9_goPast 113 = .ok (.goto (-85), 3) := by decide +kernel
theorem dX9_goPast_116 : decode cX9_goPast 116 = .ok (.iinc 4 1, 3) := by decide +kernel
theorem dX9_goPast_119 : decode cX9_goPast 119 = .ok (.goto (-116), 3) := by decide +kernel
theorem dX9_goPast_122 : decode cX9_goPast 122 = .ok (.aload_n 0, 1) := by decide +kernel
theorem dX9_goPast_123 : decode cX9_goPast 123 = .ok (.getfield 22, 3) := by decide +kernel
theorem dX9_goPast_126 : decode cX9_goPast 126 = .ok (.astore 4, 2) := by decide +kernel
theorem dX9_goPast_128 : decode cX9_goPast 128 = .ok (.aload_n 0, 1) := by decide +kernel
theorem dX9_goPast_129 : decode cX9_goPast 129 = .ok (.aload_n 0, 1) := by decide +kernel
theorem dX9_goPast_130 : decode cX9_goPast 130 = .ok (.getfield 26, 3) := by decide +kernel
theorem dX9_goPast_133 : decode cX9_goPast 133 = .ok (.putfield 22, 3) := by decide +kernel
theorem dX9_goPast_136 : decode cX9_goPast 136 = .ok (.aload_n 0, 1) := by decide +kernel
theorem dX9_goPast_137 : decode cX9_goPast 137 = .ok (.aload 4, 2) := by decide +kernel
theorem dX9_goPast_139 : decode cX9_goPast 139 = .ok (.putfield 26, 3) := by decide +kernel
theorem dX9_goPast_142 : decode cX9_goPast 142 = .ok (.return_, 1) := by decide +kernel
def X_US_goPast_90 (K : xs_St → Prop) (k3 : Int32 → Int32 → Int32 → Int32 → xs_St → Prop) (k28 : Int32 → Int32 → Int32 → Int32 → Int32 → Int32 → xs_St → Prop) (x1 : Int32) (x2 : Int32) (x3 : Int32) (x4 : Int32) (x5 : Int32) (x6 : Int32) (z0 : Int64) (u : xs_St) : Prop :=
  X_US_atMost z0 u (fun r_2 u_1 => (vp_in ((x4 * (31 : Int32)) + x6) 961 ∧ ∀ u_3 : xs_St, u_3 = xs_sl u_1 604 (vp_updL (xl u_1 604) (((x4 * (31 : Int32)) + x6)).toNatClampNeg r_2) → ∀ x6_4 : Int32, x6_4 = x6 + (1 : Int32) → k28 x1 x2 x3 x4 x5 x6_4 u_3))
set_option maxHeartbeats 4000000 in
set_option maxRecDepth 100000 in
theorem X_US_goPast_90_w {K : xs_St → Prop} {k3 : Int32 → Int32 → Int32 → Int32 → xs_St → Prop} {k28 : Int32 → Int32 → Int32 → Int32 → Int32 → Int32 → xs_St → Prop} (C : th_Cx p s m args meth c cX9_goPast RX9 11 (none) (dC, dI) (th_ty cs) (xE ad ak) A) (hk3 : ∀ (x1 : Int32) (x2 : Int32) (x3 : Int32) (x4 : Int32) (v : Nat → Nat) (u : xs_St) (H : Heap) (locs : List Loc) (ls : Array Slot), k3 x1 x2 x3 x4 u → th_wI (dC, dI) (wX cs ad q v v) A s.heap u H locs → lv_has ls 11 [(0, .ref (q 699)), (1, .int x1), (2, .int x2), (3, .int x3), (4, .int x4)] → W p l e (th_rm 1 0 0) s m args below meth c H locs 0 0 (MQ below (va_Qv (fun a9 => K a9.2) (th_Post (dC, dI) (wXs cs ad q) A) A) args s 0 0 A) (F0 m 3 ls [])) (hk28 : ∀ (x1 : Int32) (x2 : Int32) (x3 : Int32) (x4 : Int32) (x5 : Int32) (x6 : Int32) (v : Nat → Nat) (u : xs_St) (H : Heap) (locs : List Loc) (ls : Array Slot), k28 x1 x2 x3 x4 x5 x6 u → th_wI (dC, dI) (wX cs ad q v v) A s.heap u H locs → lv_has ls 11 [(0, .ref (q 699)), (1, .int x1), (2, .int x2), (3, .int x3), (4, .int x4), (5, .int x5), (6, .int x6)] → W p l e (th_rm 1 0 0) s m args below meth c H locs 0 0 (MQ below (va_Qv (fun a9 => K a9.2) (th_Post (dC, dI) (wXs cs ad q) A) A) args s 0 0 A) (F0 m 28 ls [])) (x1 : Int32) (x2 : Int32) (x3 : Int32) (x4 : Int32) (x5 : Int32) (x6 : Int32) (z0 : Int64) (v : Nat → Nat) (u : xs_St) (H : Heap) (locs : List Loc) (ls : Array Slot) (hf : X_US_goPast_90 K k3 k28 x1 x2 x3 x4 x5 x6 z0 u) (hw : th_wI (dC, dI) (wX cs ad q v v) A s.heap u H locs) (hl : lv_has ls 11 [(0, .ref (q 699)), (1, .int x1), (2, .int x2), (3, .int x3), (4, .int x4), (5, .int x5), (6, .int x6)]) : W p l e (th_rm 1 0 0) s m args below meth c H locs 0 0 (MQ below (va_Qv (fun a9 => K a9.2) (th_Post (dC, dI) (wXs cs ad q) A) A) args s 0 0 A) (F0 m 90 ls [.long z0]) := by
  have hx := C.1
  have hb := C.2.1
  unfold X_US_goPast_90 at hf
  refine lv_lstore (lv' := [(9, .long z0), (0, .ref (q 699)), (1, .int x1), (2, .int x2), (3, .int x3), (4, .int x4), (5, .int x5), (6, .int x6)]) hx hb dX9_goPast_90 hl (by decide) rfl (fun ls hl => ?_)
  refine lv_aload_n hx hb dX9_goPast_92 rfl (lv_at hl 1 rfl) ?_
  refine xg_604 C hw (C.2.2.2.2.1 _ hwF_X9_26) dX9_goPast_93 ?_
  refine lv_iload hx hb dX9_goPast_96 (lv_at hl 5 rfl) ?_
  refine lv_bipush (v := (31 : Int32)) hx hb dX9_goPast_98 (by decide) ?_
  refine lv_imul hx hb dX9_goPast_100 ?_
  refine lv_iload hx hb dX9_goPast_101 (lv_at hl 7 rfl) ?_
  refine lv_iadd hx hb dX9_goPast_103 ?_
  refine lv_lload hx hb dX9_goPast_104 (lv_at hl 0 rfl) ?_
  refine th_callSl (As := [.long z0]) (rest := [.int ((x4 * (31 : Int32)) + x6), .ref (v 604)]) C lkX9_57 (X_US_atMost_c hf) hw rfl rfl ⟨Nat.le_of_ble_eq_true rfl, Nat.le_of_ble_eq_true rfl⟩ hl.1 (Nat.le_of_ble_eq_true rfl) ⟨Nat.le_of_ble_eq_true rfl, Nat.le_of_ble_eq_true rfl⟩ dX9_goPast_106 (fun r_2 u_1 H locs hf hw => ?_)
  refine ys_604 C hw hf.1 dX9_goPast_109 (fun u_3 e9 H locs hw => ?_)
  replace hf := hf.2 u_3 e9
  clear e9
  obtain ⟨x6_4, e9⟩ : ∃ y : Int32, y = x6 + (1 : Int32) := ⟨_, rfl⟩
  replace hf := hf x6_4 e9
  refine lv_iinc (v := x6_4) (lv' := [(6, .int x6_4), (9, .long z0), (0, .ref (q 699)), (1, .int x1), (2, .int x2), (3, .int x3), (4, .int x4), (5, .int x5)]) hx hb dX9_goPast_110 hl (k := 7) rfl (by rw [e9]; rfl) (by decide) rfl (fun ls hl => ?_)
  clear e9
  refine lv_goto (tgt := 28) hx hb dX9_goPast_113 (by decide) ?_
  exact hk28 x1 x2 x3 x4 x5 x6_4 v u_3 _ _ _ hf hw (lv_sub hl [2, 3, 4, 5, 6, 7, 0] rfl)
def X_US_goPast_28 (K : xs_St → Prop) (k3 : Int32 → Int32 → Int32 → Int32 → xs_St → Prop) (k28 : Int32 → Int32 → Int32 → Int32 → Int32 → Int32 → xs_St → Prop) (x1 : Int32) (x2 : Int32) (x3 : Int32) (x4 : Int32) (x5 : Int32) (x6 : Int32) (u : xs_St) : Prop :=
  (((31 : Int32) ≤ x6 → ∀ x4_1 : Int32, x4_1 = x4 + (1 : Int32) → k3 x1 x2 x3 x4_1 u) ∧ (¬ (31 : Int32) ≤ x6 → ∀ y_2 : Int32, y_2 = (if (0 : Int32) < ((x5 - x3) - x6) then ((x5 - x3) - x6) else (0 : Int32)) → ∀ y_3 : Int32, y_3 = (if ((x5 + x3) - x6) < (30 : Int32) then ((x5 + x3) - x6) else (30 : Int32)) → ((y_3 < y_2 → X_US_goPast_90 K k3 k28 x1 x2 x3 x4 x5 x6 (0 : Int64) u) ∧ (¬ y_3 < y_2 → (vp_in (y_3 + (1 : Int32)) 32 ∧ ∀ y_4 : Int64, y_4 = xl u 605 ((y_3 + (1 : Int32))).toNatClampNeg → (vp_in y_2 32 ∧ ∀ y_5 : Int64, y_5 = xl u 605 (y_2).toNatClampNeg → X_US_goPast_90 K k3 k28 x1 x2 x3 x4 x5 x6 (y_4 - y_5) u))))))
set_option maxHeartbeats 4000000 in
set_option maxRecDepth 100000 in
theorem X_US_goPast_28_w {K : xs_St → Prop} {k3 : Int32 → Int32 → Int32 → Int32 → xs_St → Prop} {k28 : Int32 → Int32 → Int32 → Int32 → Int32 → Int32 → xs_St → Prop} (C : th_Cx p s m args meth c cX9_goPast RX9 11 (none) (dC, dI) (th_ty cs) (xE ad ak) A) (hk3 : ∀ (x1 : Int32) (x2 : Int32) (x3 : Int32) (x4 : Int32) (v : Nat → Nat) (u : xs_St) (H : Heap) (locs : List Loc) (ls : Array Slot), k3 x1 x2 x3 x4 u → th_wI (dC, dI) (wX cs ad q v v) A s.heap u H locs → lv_has ls 11 [(0, .ref (q 699)), (1, .int x1), (2, .int x2), (3, .int x3), (4, .int x4)] → W p l e (th_rm 1 0 0) s m args below meth c H locs 0 0 (MQ below (va_Qv (fun a9 => K a9.2) (th_Post (dC, dI) (wXs cs ad q) A) A) args s 0 0 A) (F0 m 3 ls [])) (hk28 : ∀ (x1 : Int32) (x2 : Int32) (x3 : Int32) (x4 : Int32) (x5 : Int32) (x6 : Int32) (v : Nat → Nat) (u : xs_St) (H : Heap) (locs : List Loc) (ls : Array Slot), k28 x1 x2 x3 x4 x5 x6 u → th_wI (dC, dI) (wX cs ad q v v) A s.heap u H locs → lv_has ls 11 [(0, .ref (q 699)), (1, .int x1), (2, .int x2), (3, .int x3), (4, .int x4), (5, .int x5), (6, .int x6)] → W p l e (th_rm 1 0 0) s m args below meth c H locs 0 0 (MQ below (va_Qv (fun a9 => K a9.2) (th_Post (dC, dI) (wXs cs ad q) A) A) args s 0 0 A) (F0 m 28 ls [])) (x1 : Int32) (x2 : Int32) (x3 : Int32) (x4 : Int32) (x5 : Int32) (x6 : Int32) (v : Nat → Nat) (u : xs_St) (H : Heap) (locs : List Loc) (ls : Array Slot) (hf : X_US_goPast_28 K k3 k28 x1 x2 x3 x4 x5 x6 u) (hw : th_wI (dC, dI) (wX cs ad q v v) A s.heap u H locs) (hl : lv_has ls 11 [(0, .ref (q 699)), (1, .int x1), (2, .int x2), (3, .int x3), (4, .int x4), (5, .int x5), (6, .int x6)]) : W p l e (th_rm 1 0 0) s m args below meth c H locs 0 0 (MQ below (va_Qv (fun a9 => K a9.2) (th_Post (dC, dI) (wXs cs ad q) A) A) args s 0 0 A) (F0 m 28 ls []) := by
  have hx := C.1
  have hb := C.2.1
  unfold X_US_goPast_28 at hf
  refine lv_iload hx hb dX9_goPast_28 (lv_at hl 6 rfl) ?_
  refine lv_bipush (v := (31 : Int32)) hx hb dX9_goPast_30 (by decide) ?_
  refine lv_icmp_ge (tgt := 116) hx hb dX9_goPast_32 (by decide) (fun hc => ?_) (fun hc => ?_)
  · replace hf := hf.1 hc
    clear hc
    obtain ⟨x4_1, e9⟩ : ∃ y : Int32, y = x4 + (1 : Int32) := ⟨_, rfl⟩
    replace hf := hf x4_1 e9
    refine lv_iinc (v := x4_1) (lv' := [(4, .int x4_1), (0, .ref (q 699)), (1, .int x1), (2, .int x2), (3, .int x3), (5, .int x5), (6, .int x6)]) hx hb dX9_goPast_116 hl (k := 4) rfl (by rw [e9]; rfl) (by decide) rfl (fun ls hl => ?_)
    clear e9
    refine lv_goto (tgt := 3) hx hb dX9_goPast_119 (by decide) ?_
    exact hk3 x1 x2 x3 x4_1 v u _ _ _ hf hw (lv_sub hl [1, 2, 3, 4, 0] rfl)
  · replace hf := hf.2 hc
    clear hc
    refine lv_iconst (v := (0 : Int32)) hx hb dX9_goPast_35 (by decide) ?_
    refine lv_iload hx hb dX9_goPast_36 (lv_at hl 5 rfl) ?_
    refine lv_iload_n hx hb dX9_goPast_38 rfl (lv_at hl 3 rfl) ?_
    refine lv_isub hx hb dX9_goPast_39 ?_
    refine lv_iload hx hb dX9_goPast_40 (lv_at hl 6 rfl) ?_
    refine lv_isub hx hb dX9_goPast_42 ?_
    refine va_mmax hx hb (C.2.2.1.trans hl.1.symm) C.2.2.2.1 (C.2.2.2.2.1 _ hwM_X9_75) (C.2.2.2.2.1 _ hwS_Math_max) (C.2.2.2.2.1 _ hwI_Math) (C.2.2.2.2.1 _ hwC_Math_max) (Nat.le_of_ble_eq_true rfl) (Nat.le_of_ble_eq_true rfl) (Nat.le_of_ble_eq_true rfl) (Nat.le_of_ble_eq_true rfl) dX9_goPast_43 ?_
    refine lv_topi (fun y_2 e9 => ?_)
    replace hf := hf y_2 e9
    clear e9
    refine lv_istore (lv' := [(7, .int y_2), (0, .ref (q 699)), (1, .int x1), (2, .int x2), (3, .int x3), (4, .int x4), (5, .int x5), (6, .int x6)]) hx hb dX9_goPast_46 hl (by decide) rfl (fun ls hl => ?_)
    refine lv_bipush (v := (30 : Int32)) hx hb dX9_goPast_48 (by decide) ?_
    refine lv_iload hx hb dX9_goPast_50 (lv_at hl 6 rfl) ?_
    refine lv_iload_n hx hb dX9_goPast_52 rfl (lv_at hl 4 rfl) ?_
    refine lv_iadd hx hb dX9_goPast_53 ?_
    refine lv_iload hx hb dX9_goPast_54 (lv_at hl 7 rfl) ?_
    refine lv_isub hx hb dX9_goPast_56 ?_
    refine va_mmin hx hb (C.2.2.1.trans hl.1.symm) C.2.2.2.1 (C.2.2.2.2.1 _ hwM_X9_80) (C.2.2.2.2.1 _ hwS_Math_min) (C.2.2.2.2.1 _ hwI_Math) (C.2.2.2.2.1 _ hwC_Math_min) (Nat.le_of_ble_eq_true rfl) (Nat.le_of_ble_eq_true rfl) (Nat.le_of_ble_eq_true rfl) (Nat.le_of_ble_eq_true rfl) dX9_goPast_57 ?_
    refine lv_topi (fun y_3 e9 => ?_)
    replace hf := hf y_3 e9
    clear e9
    refine lv_istore (lv' := [(8, .int y_3), (7, .int y_2), (0, .ref (q 699)), (1, .int x1), (2, .int x2), (3, .int x3), (4, .int x4), (5, .int x5), (6, .int x6)]) hx hb dX9_goPast_60 hl (by decide) rfl (fun ls hl => ?_)
    refine lv_iload hx hb dX9_goPast_62 (lv_at hl 1 rfl) ?_
    refine lv_iload hx hb dX9_goPast_64 (lv_at hl 0 rfl) ?_
    refine lv_icmp_gt (tgt := 89) hx hb dX9_goPast_66 (by decide) (fun hc => ?_) (fun hc => ?_)
    · replace hf := hf.1 hc
      clear hc
      refine lv_lconst (v := (0 : Int64)) hx hb dX9_goPast_89 (by decide) ?_
      exact X_US_goPast_90_w C hk3 hk28 x1 x2 x3 x4 x5 x6 (0 : Int64) v u _ _ _ hf hw (lv_sub hl [2, 3, 4, 5, 6, 7, 8] rfl)
    · replace hf := hf.2 hc
      clear hc
      refine lv_aload_n hx hb dX9_goPast_69 rfl (lv_at hl 2 rfl) ?_
      refine xg_605 C hw (C.2.2.2.2.1 _ hwF_X9_29) dX9_goPast_70 ?_
      refine lv_iload hx hb dX9_goPast_73 (lv_at hl 0 rfl) ?_
      refine lv_iconst (v := (1 : Int32)) hx hb dX9_goPast_75 (by decide) ?_
      refine lv_iadd hx hb dX9_goPast_76 ?_
      refine yl_605 C hw hf.1 dX9_goPast_77 (fun y_4 e9 => ?_)
      replace hf := hf.2 y_4 e9
      clear e9
      refine lv_aload_n hx hb dX9_goPast_78 rfl (lv_at hl 2 rfl) ?_
      refine xg_605 C hw (C.2.2.2.2.1 _ hwF_X9_29) dX9_goPast_79 ?_
      refine lv_iload hx hb dX9_goPast_82 (lv_at hl 1 rfl) ?_
      refine yl_605 C hw hf.1 dX9_goPast_84 (fun y_5 e9 => ?_)
      replace hf := hf.2 y_5 e9
      clear e9
      refine lv_lsub hx hb dX9_goPast_85 ?_
      refine lv_goto (tgt := 90) hx hb dX9_goPast_86 (by decide) ?_
      exact X_US_goPast_90_w C hk3 hk28 x1 x2 x3 x4 x5 x6 (y_4 - y_5) v u _ _ _ hf hw (lv_sub hl [2, 3, 4, 5, 6, 7, 8] rfl)
def X_US_goPast_28_lp (K : xs_St → Prop) (k3 : Int32 → Int32 → Int32 → Int32 → xs_St → Prop) : Nat → Int32 → Int32 → Int32 → Int32 → Int32 → Int32 → xs_St → Prop
  | 0, _, _, _, _, _, _, _ => False
  | n + 1, x1, x2, x3, x4, x5, x6, u => X_US_goPast_28 K k3 (X_US_goPast_28_lp K k3 n) x1 x2 x3 x4 x5 x6 u
set_option maxHeartbeats 4000000 in
set_option maxRecDepth 100000 in
theorem X_US_goPast_28_lw {K : xs_St → Prop} {k3 : Int32 → Int32 → Int32 → Int32 → xs_St → Prop} (C : th_Cx p s m args meth c cX9_goPast RX9 11 (none) (dC, dI) (th_ty cs) (xE ad ak) A) (hk3 : ∀ (x1 : Int32) (x2 : Int32) (x3 : Int32) (x4 : Int32) (v : Nat → Nat) (u : xs_St) (H : Heap) (locs : List Loc) (ls : Array Slot), k3 x1 x2 x3 x4 u → th_wI (dC, dI) (wX cs ad q v v) A s.heap u H locs → lv_has ls 11 [(0, .ref (q 699)), (1, .int x1), (2, .int x2), (3, .int x3), (4, .int x4)] → W p l e (th_rm 1 0 0) s m args below meth c H locs 0 0 (MQ below (va_Qv (fun a9 => K a9.2) (th_Post (dC, dI) (wXs cs ad q) A) A) args s 0 0 A) (F0 m 3 ls [])) (n : Nat) : ∀ (x1 : Int32) (x2 : Int32) (x3 : Int32) (x4 : Int32) (x5 : Int32) (x6 : Int32) (v : Nat → Nat) (u : xs_St) (H : Heap) (locs : List Loc) (ls : Array Slot), X_US_goPast_28_lp K k3 n x1 x2 x3 x4 x5 x6 u → th_wI (dC, dI) (wX cs ad q v v) A s.heap u H locs → lv_has ls 11 [(0, .ref (q 699)), (1, .int x1), (2, .int x2), (3, .int x3), (4, .int x4), (5, .int x5), (6, .int x6)] → W p l e (th_rm 1 0 0) s m args below meth c H locs 0 0 (MQ below (va_Qv (fun a9 => K a9.2) (th_Post (dC, dI) (wXs cs ad q) A) A) args s 0 0 A) (F0 m 28 ls []) := by
  induction n with
  | zero => intro x1 x2 x3 x4 x5 x6 v u H locs ls hf; exact hf.elim
  | succ n ih =>
    intro x1 x2 x3 x4 x5 x6 v u H locs ls hf hw hl
    exact X_US_goPast_28_w C hk3 ih x1 x2 x3 x4 x5 x6 v u H locs ls hf hw hl
def X_US_goPast_3 (K : xs_St → Prop) (k3 : Int32 → Int32 → Int32 → Int32 → xs_St → Prop) (x1 : Int32) (x2 : Int32) (x3 : Int32) (x4 : Int32) (u : xs_St) : Prop :=
  (((31 : Int32) ≤ x4 → ∀ u_2 : xs_St, u_2 = xw_603_604 u → K u_2) ∧ (¬ (31 : Int32) ≤ x4 → X_US_sumWays x1 x4 u (fun u_3 => X_US_outerSum x2 x4 u_3 (fun r_6 u_5 => ∃ n, X_US_goPast_28_lp K k3 n x1 x2 x3 x4 r_6 (0 : Int32) u_5))))
set_option maxHeartbeats 4000000 in
set_option maxRecDepth 100000 in
theorem X_US_goPast_3_w {K : xs_St → Prop} {k3 : Int32 → Int32 → Int32 → Int32 → xs_St → Prop} (C : th_Cx p s m args meth c cX9_goPast RX9 11 (none) (dC, dI) (th_ty cs) (xE ad ak) A) (hk3 : ∀ (x1 : Int32) (x2 : Int32) (x3 : Int32) (x4 : Int32) (v : Nat → Nat) (u : xs_St) (H : Heap) (locs : List Loc) (ls : Array Slot), k3 x1 x2 x3 x4 u → th_wI (dC, dI) (wX cs ad q v v) A s.heap u H locs → lv_has ls 11 [(0, .ref (q 699)), (1, .int x1), (2, .int x2), (3, .int x3), (4, .int x4)] → W p l e (th_rm 1 0 0) s m args below meth c H locs 0 0 (MQ below (va_Qv (fun a9 => K a9.2) (th_Post (dC, dI) (wXs cs ad q) A) A) args s 0 0 A) (F0 m 3 ls [])) (x1 : Int32) (x2 : Int32) (x3 : Int32) (x4 : Int32) (v : Nat → Nat) (u : xs_St) (H : Heap) (locs : List Loc) (ls : Array Slot) (hf : X_US_goPast_3 K k3 x1 x2 x3 x4 u) (hw : th_wI (dC, dI) (wX cs ad q v v) A s.heap u H locs) (hl : lv_has ls 11 [(0, .ref (q 699)), (1, .int x1), (2, .int x2), (3, .int x3), (4, .int x4)]) : W p l e (th_rm 1 0 0) s m args below meth c H locs 0 0 (MQ below (va_Qv (fun a9 => K a9.2) (th_Post (dC, dI) (wXs cs ad q) A) A) args s 0 0 A) (F0 m 3 ls []) := by
  have hx := C.1
  have hb := C.2.1
  unfold X_US_goPast_3 at hf
  refine lv_iload hx hb dX9_goPast_3 (lv_at hl 4 rfl) ?_
  refine lv_bipush (v := (31 : Int32)) hx hb dX9_goPast_5 (by decide) ?_
  refine lv_icmp_ge (tgt := 122) hx hb dX9_goPast_7 (by decide) (fun hc => ?_) (fun hc => ?_)
  · replace hf := hf.1 hc
    clear hc
    refine lv_aload_n hx hb dX9_goPast_122 rfl (lv_at hl 0 rfl) ?_
    refine xg_603 C hw (C.2.2.2.2.1 _ hwF_X9_22) dX9_goPast_123 ?_
    refine lv_astore (lv' := [(4, .ref (v 603)), (0, .ref (q 699)), (1, .int x1), (2, .int x2), (3, .int x3)]) hx hb dX9_goPast_126 hl (by decide) rfl (fun ls hl => ?_)
    refine lv_aload_n hx hb dX9_goPast_128 rfl (lv_at hl 1 rfl) ?_
    refine lv_aload_n hx hb dX9_goPast_129 rfl (lv_at hl 1 rfl) ?_
    refine xg_604 C hw (C.2.2.2.2.1 _ hwF_X9_26) dX9_goPast_130 ?_
    refine xq_603 (x := (v 604)) C hw (C.2.2.2.2.1 _ hwF_X9_22) dX9_goPast_133 (fun H locs hw => ?_)
    refine lv_aload_n hx hb dX9_goPast_136 rfl (lv_at hl 1 rfl) ?_
    refine lv_aload hx hb dX9_goPast_137 (lv_at hl 0 rfl) ?_
    refine xq_604 (x := (v 603)) C hw (C.2.2.2.2.1 _ hwF_X9_26) dX9_goPast_139 (fun H locs hw => ?_)
    obtain ⟨v_1, hw⟩ := xw_603_604_f hw
    obtain ⟨u_2, e9⟩ : ∃ z, z = xw_603_604 u := ⟨_, rfl⟩
    rw [← e9] at hw
    replace hf := hf u_2 e9
    clear e9
    replace hl := lv_sub hl [1, 2, 3, 4] rfl
    have hl : lv_has ls 11 [(0, .ref (q 699)), (1, .int x1), (2, .int x2), (3, .int x3)] := hl
    exact th_vret (K := (fun a9 => K a9.2)) (w := wXs cs ad q) (u := (v_1, u_2)) C hw hf dX9_goPast_142
  · replace hf := hf.2 hc
    clear hc
    refine lv_aload_n hx hb dX9_goPast_10 rfl (lv_at hl 0 rfl) ?_
    refine lv_iload_n hx hb dX9_goPast_11 rfl (lv_at hl 1 rfl) ?_
    refine lv_iload hx hb dX9_goPast_12 (lv_at hl 4 rfl) ?_
    refine th_callVv (As := [.int x1, .int x4]) (rest := []) C lkX9_67 (X_US_sumWays_c hf) hw (xRc_US C hw) rfl rfl ⟨Nat.le_of_ble_eq_true rfl, Nat.le_of_ble_eq_true rfl⟩ hl.1 (Nat.le_of_ble_eq_true rfl) ⟨Nat.le_of_ble_eq_true rfl, Nat.le_of_ble_eq_true rfl⟩ dX9_goPast_14 (fun u_3 H locs hf hw => ?_)
    refine lv_iload_n hx hb dX9_goPast_17 rfl (lv_at hl 2 rfl) ?_
    refine lv_iload hx hb dX9_goPast_18 (lv_at hl 4 rfl) ?_
    refine th_callSi (As := [.int x2, .int x4]) (rest := []) C lkX9_71 (X_US_outerSum_c hf) hw rfl rfl ⟨Nat.le_of_ble_eq_true rfl, Nat.le_of_ble_eq_true rfl⟩ hl.1 (Nat.le_of_ble_eq_true rfl) ⟨Nat.le_of_ble_eq_true rfl, Nat.le_of_ble_eq_true rfl⟩ dX9_goPast_20 (fun r_6 u_5 H locs hf hw => ?_)
    refine lv_istore (lv' := [(5, .int r_6), (0, .ref (q 699)), (1, .int x1), (2, .int x2), (3, .int x3), (4, .int x4)]) hx hb dX9_goPast_23 hl (by decide) rfl (fun ls hl => ?_)
    refine lv_iconst (v := (0 : Int32)) hx hb dX9_goPast_25 (by decide) ?_
    refine lv_istore (lv' := [(6, .int (0 : Int32)), (5, .int r_6), (0, .ref (q 699)), (1, .int x1), (2, .int x2), (3, .int x3), (4, .int x4)]) hx hb dX9_goPast_26 hl (by decide) rfl (fun ls hl => ?_)
    obtain ⟨n, hf⟩ := hf
    exact X_US_goPast_28_lw C hk3 n x1 x2 x3 x4 r_6 (0 : Int32) v u_5 _ _ _ hf hw (lv_sub hl [2, 3, 4, 5, 6, 1, 0] rfl)
def X_US_goPast_3_lp (K : xs_St → Prop) : Nat → Int32 → Int32 → Int32 → Int32 → xs_St → Prop
  | 0, _, _, _, _, _ => False
  | n + 1, x1, x2, x3, x4, u => X_US_goPast_3 K (X_US_goPast_3_lp K n) x1 x2 x3 x4 u
set_option maxHeartbeats 4000000 in
set_option maxRecDepth 100000 in
theorem X_US_goPast_3_lw {K : xs_St → Prop} (C : th_Cx p s m args meth c cX9_goPast RX9 11 (none) (dC, dI) (th_ty cs) (xE ad ak) A) (n : Nat) : ∀ (x1 : Int32) (x2 : Int32) (x3 : Int32) (x4 : Int32) (v : Nat → Nat) (u : xs_St) (H : Heap) (locs : List Loc) (ls : Array Slot), X_US_goPast_3_lp K n x1 x2 x3 x4 u → th_wI (dC, dI) (wX cs ad q v v) A s.heap u H locs → lv_has ls 11 [(0, .ref (q 699)), (1, .int x1), (2, .int x2), (3, .int x3), (4, .int x4)] → W p l e (th_rm 1 0 0) s m args below meth c H locs 0 0 (MQ below (va_Qv (fun a9 => K a9.2) (th_Post (dC, dI) (wXs cs ad q) A) A) args s 0 0 A) (F0 m 3 ls []) := by
  induction n with
  | zero => intro x1 x2 x3 x4 v u H locs ls hf; exact hf.elim
  | succ n ih =>
    intro x1 x2 x3 x4 v u H locs ls hf hw hl
    exact X_US_goPast_3_w C ih x1 x2 x3 x4 v u H locs ls hf hw hl
def X_US_goPast (a1 : Int32) (a2 : Int32) (a3 : Int32) (u : xs_St) (K : xs_St → Prop) : Prop :=
  ∃ n, X_US_goPast_3_lp K n a1 a2 a3 (0 : Int32) u
set_option maxHeartbeats 4000000 in
set_option maxRecDepth 100000 in
theorem X_US_goPast_c {l : Launch} {dC : Nat → ClassId} {dI : Nat → Nat → Nat} {cs : Nat → ClassId} {ad ak : Nat → Nat} {q v : Nat → Nat} {a1 : Int32} {a2 : Int32} {a3 : Int32} {u : xs_St} {K : xs_St → Prop} (hf : X_US_goPast a1 a2 a3 u K) : th_Cv l yX9_goPast cX9_goPast 11 (none) 1 0 0 (dC, dI) (th_ty cs) (xE ad ak) (wXs cs ad q) [.ref (q 699), .int a1, .int a2, .int a3] (v, u) (fun a9 => K a9.2) := by
  refine th_ofv (by decide) (Nat.le_of_ble_eq_true rfl) (xE_ok ad ak) ?_
  intro p e s m below meth c A ls C hw hl
  have C : th_Cx p s m _ meth c cX9_goPast RX9 11 (none) (dC, dI) (th_ty cs) (xE ad ak) A := C
  have hl : lv_has ls 11 [(0, .ref (q 699)), (1, .int a1), (2, .int a2), (3, .int a3)] := hl
  generalize (List.toArray _ : Array Value) = args at C ⊢
  have hx := C.1
  have hb := C.2.1
  unfold X_US_goPast at hf
  refine lv_iconst (v := (0 : Int32)) hx hb dX9_goPast_0 (by decide) ?_
  refine lv_istore (lv' := [(4, .int (0 : Int32)), (0, .ref (q 699)), (1, .int a1), (2, .int a2), (3, .int a3)]) hx hb dX9_goPast_1 hl (by decide) rfl (fun ls hl => ?_)
  obtain ⟨n, hf⟩ := hf
  exact X_US_goPast_3_lw C n a1 a2 a3 (0 : Int32) v u _ _ _ hf hw (lv_sub hl [1, 2, 3, 4, 0] rfl)
/-! X_BD_isRow -/
theorem dX0_isRow_0 : decode cX0_isRow 0 = .ok (.aload_n 1, 1) := by decide +kernel
theorem dX0_isRow_1 : decode cX0_isRow 1 = .ok (.getfield 42, 3) := by decide +kernel
theorem dX0_isRow_4 : decode cX0_isRow 4 = .ok (.iconst 2, 1) := by decide +kernel
theorem dX0_isRow_5 : decode cX0_isRow 5 = .ok (.iload_n 2, 1) := by decide +kernel
theorem dX0_isRow_6 : decode cX0_isRow 6 = .ok (.imul, 1) := by decide +kernel
theorem dX0_isRow_7 : decode cX0_isRow 7 = .ok (.if_icmp .ne 31, 3) := by decide +kernel
theorem dX0_isRow_10 : decode cX0_isRow 10 = .ok (.aload_n 1, 1) := by decide +kernel
theorem dX0_isRow_11 : decode cX0_isRow 11 = .ok (.iconst 0, 1) := by decide +kernel
theorem dX0_isRow_12 : decode cX0_isRow 12 = .ok (.iload_n 2, 1) := by decide +kernel
theorem dX0_isRow_13 : decode cX0_isRow 13 = .ok (.bipush 99, 2) := by decide +kernel
theorem dX0_isRow_15 : decode cX0_isRow 15 = .ok (.invokevirtual 47, 3) := by decide +kernel
theorem dX0_isRow_18 : decode cX0_isRow 18 = .ok (.ifCond .eq 20, 3) := by decide +kernel
theorem dX0_isRow_21 : decode cX0_isRow 21 = .ok (.aload_n 1, 1) := by decide +kernel
theorem dX0_isRow_22 : decode cX0_isRow 22 = .ok (.iload_n 2, 1) := by decide +kernel
theorem dX0_isRow_23 : decode cX0_isRow 23 = .ok (.iconst 2, 1) := by decide +kernel
theorem dX0_isRow_24 : decode cX0_isRow 24 = .ok (.iload_n 2, 1) := by decide +kernel
theorem dX0_isRow_25 : decode cX0_isRow 25 = .ok (.imul, 1) := by decide +kernel
theorem dX0_isRow_26 : decode cX0_isRow 26 = .ok (.bipush 50, 2) := by decide +kernel
theorem dX0_isRow_28 : decode cX0_isRow 28 = .ok (.invokevirtual 47, 3) := by decide +kernel
theorem dX0_isRow_31 : decode cX0_isRow 31 = .ok (.ifCond .eq 7, 3) := by decide +kernel
theorem dX0_isRow_34 : decode cX0_isRow 34 = .ok (.iconst 1, 1) := by decide +kernel
theorem dX0_isRow_35 : decode cX0_isRow 35 = .ok (.goto 4, 3) := by decide +kernel
theorem dX0_isRow_38 : decode cX0_isRow 38 = .ok (.iconst 0, 1) := by decide +kernel
theorem dX0_isRow_39 : decode cX0_isRow 39 = .ok (.ireturn, 1) := by decide +kernel
def X_BD_isRow_39 (K : Int32 → xs_St → Prop) (z0 : Int32) (u : xs_St) : Prop :=
  ((z0 = 0 ∨ z0 = 1) ∧ K z0 u)
set_option maxHeartbeats 4000000 in
set_option maxRecDepth 100000 in
theorem X_BD_isRow_39_w {K : Int32 → xs_St → Prop} (C : th_Cx p s m args meth c cX0_isRow RX0 3 (some .boolean) (dC, dI) (th_ty cs) (xE ad ak) A) (z0 : Int32) (u : xs_St) (H : Heap) (locs : List Loc) (ls : Array Slot) (hf : X_BD_isRow_39 K z0 u) (hw : th_wI (dC, dI) (wX cs ad q v v) A s.heap u H locs) (hl : lv_has ls 3 []) : W p l e (th_rm 2 0 0) s m args below meth c H locs 0 0 (MQ below (va_Qi K (th_Post (dC, dI) (wX cs ad q v v) A) A) args s 0 0 A) (F0 m 39 ls [.int z0]) := by
  have hx := C.1
  have hb := C.2.1
  unfold X_BD_isRow_39 at hf
  exact th_zret C hw hf dX0_isRow_39
def X_BD_isRow_38 (K : Int32 → xs_St → Prop) (u : xs_St) : Prop :=
  X_BD_isRow_39 K (0 : Int32) u
set_option maxHeartbeats 4000000 in
set_option maxRecDepth 100000 in
theorem X_BD_isRow_38_w {K : Int32 → xs_St → Prop} (C : th_Cx p s m args meth c cX0_isRow RX0 3 (some .boolean) (dC, dI) (th_ty cs) (xE ad ak) A) (u : xs_St) (H : Heap) (locs : List Loc) (ls : Array Slot) (hf : X_BD_isRow_38 K u) (hw : th_wI (dC, dI) (wX cs ad q v v) A s.heap u H locs) (hl : lv_has ls 3 []) : W p l e (th_rm 2 0 0) s m args below meth c H locs 0 0 (MQ below (va_Qi K (th_Post (dC, dI) (wX cs ad q v v) A) A) args s 0 0 A) (F0 m 38 ls []) := by
  have hx := C.1
  have hb := C.2.1
  unfold X_BD_isRow_38 at hf
  refine lv_iconst (v := (0 : Int32)) hx hb dX0_isRow_38 (by decide) ?_
  exact X_BD_isRow_39_w C (0 : Int32) u _ _ _ hf hw (lv_sub hl [] rfl)
def X_BD_isRow (a2 : Int32) (u : xs_St) (K : Int32 → xs_St → Prop) : Prop :=
  ((¬ (xi u 101) = ((2 : Int32) * a2) → X_BD_isRow_38 K u) ∧ ((xi u 101) = ((2 : Int32) * a2) → X_TP_allWithin (0 : Int32) a2 (99 : Int32) u (fun r_2 u_1 => ((r_2 = 0 → X_BD_isRow_38 K u_1) ∧ (¬ r_2 = 0 → X_TP_allWithin a2 ((2 : Int32) * a2) (50 : Int32) u_1 (fun r_4 u_3 => ((r_4 = 0 → X_BD_isRow_38 K u_3) ∧ (¬ r_4 = 0 → X_BD_isRow_39 K (1 : Int32) u_3))))))))
set_option maxHeartbeats 4000000 in
set_option maxRecDepth 100000 in
theorem X_BD_isRow_c {l : Launch} {dC : Nat → ClassId} {dI : Nat → Nat → Nat} {cs : Nat → ClassId} {ad ak : Nat → Nat} {q v : Nat → Nat} {a2 : Int32} {u : xs_St} {K : Int32 → xs_St → Prop} (hf : X_BD_isRow a2 u K) : th_Ci l yX0_isRow cX0_isRow 3 (some .boolean) 2 0 0 (dC, dI) (th_ty cs) (xE ad ak) (wX cs ad q v v) [.ref (q 599), .ref (q 199), .int a2] u K := by
  refine th_ofi (by decide) (Nat.le_of_ble_eq_true rfl) (xE_ok ad ak) ?_
  intro p e s m below meth c A ls C hw hl
  have C : th_Cx p s m _ meth c cX0_isRow RX0 3 (some .boolean) (dC, dI) (th_ty cs) (xE ad ak) A := C
  have hl : lv_has ls 3 [(0, .ref (q 599)), (1, .ref (q 199)), (2, .int a2)] := hl
  generalize (List.toArray _ : Array Value) = args at C ⊢
  have hx := C.1
  have hb := C.2.1
  unfold X_BD_isRow at hf
  refine lv_aload_n hx hb dX0_isRow_0 rfl (lv_at hl 1 rfl) ?_
  refine xgn_101 C hw (va_Nw.use rfl (xN C hwG_X0_42)) dX0_isRow_1 ?_
  refine lv_iconst (v := (2 : Int32)) hx hb dX0_isRow_4 (by decide) ?_
  refine lv_iload_n hx hb dX0_isRow_5 rfl (lv_at hl 2 rfl) ?_
  refine lv_imul hx hb dX0_isRow_6 ?_
  refine lv_icmp_ne (tgt := 38) hx hb dX0_isRow_7 (by decide) (fun hc => ?_) (fun hc => ?_)
  · replace hf := hf.1 hc
    clear hc
    exact X_BD_isRow_38_w C  u _ _ _ hf hw (lv_sub hl [] rfl)
  · replace hf := hf.2 hc
    clear hc
    refine lv_aload_n hx hb dX0_isRow_10 rfl (lv_at hl 1 rfl) ?_
    refine lv_iconst (v := (0 : Int32)) hx hb dX0_isRow_11 (by decide) ?_
    refine lv_iload_n hx hb dX0_isRow_12 rfl (lv_at hl 2 rfl) ?_
    refine lv_bipush (v := (99 : Int32)) hx hb dX0_isRow_13 (by decide) ?_
    refine th_callVi (As := [.int (0 : Int32), .int a2, .int (99 : Int32)]) (rest := []) C lkX0_47 (X_TP_allWithin_c hf) hw (xRc_TP C hw) rfl rfl ⟨Nat.le_of_ble_eq_true rfl, Nat.le_of_ble_eq_true rfl⟩ hl.1 (Nat.le_of_ble_eq_true rfl) ⟨Nat.le_of_ble_eq_true rfl, Nat.le_of_ble_eq_true rfl⟩ dX0_isRow_15 (fun r_2 u_1 H locs hf hw => ?_)
    refine lv_if_eq (tgt := 38) hx hb dX0_isRow_18 (by decide) (fun hc => ?_) (fun hc => ?_)
    · replace hf := hf.1 hc
      clear hc
      exact X_BD_isRow_38_w C  u_1 _ _ _ hf hw (lv_sub hl [] rfl)
    · replace hf := hf.2 hc
      clear hc
      refine lv_aload_n hx hb dX0_isRow_21 rfl (lv_at hl 1 rfl) ?_
      refine lv_iload_n hx hb dX0_isRow_22 rfl (lv_at hl 2 rfl) ?_
      refine lv_iconst (v := (2 : Int32)) hx hb dX0_isRow_23 (by decide) ?_
      refine lv_iload_n hx hb dX0_isRow_24 rfl (lv_at hl 2 rfl) ?_
      refine lv_imul hx hb dX0_isRow_25 ?_
      refine lv_bipush (v := (50 : Int32)) hx hb dX0_isRow_26 (by decide) ?_
      refine th_callVi (As := [.int a2, .int ((2 : Int32) * a2), .int (50 : Int32)]) (rest := []) C lkX0_47 (X_TP_allWithin_c hf) hw (xRc_TP C hw) rfl rfl ⟨Nat.le_of_ble_eq_true rfl, Nat.le_of_ble_eq_true rfl⟩ hl.1 (Nat.le_of_ble_eq_true rfl) ⟨Nat.le_of_ble_eq_true rfl, Nat.le_of_ble_eq_true rfl⟩ dX0_isRow_28 (fun r_4 u_3 H locs hf hw => ?_)
      refine lv_if_eq (tgt := 38) hx hb dX0_isRow_31 (by decide) (fun hc => ?_) (fun hc => ?_)
      · replace hf := hf.1 hc
        clear hc
        exact X_BD_isRow_38_w C  u_3 _ _ _ hf hw (lv_sub hl [] rfl)
      · replace hf := hf.2 hc
        clear hc
        refine lv_iconst (v := (1 : Int32)) hx hb dX0_isRow_34 (by decide) ?_
        refine lv_goto (tgt := 39) hx hb dX0_isRow_35 (by decide) ?_
        exact X_BD_isRow_39_w C (1 : Int32) u_3 _ _ _ hf hw (lv_sub hl [] rfl)
/-! X_EX_leastTimes -/
theorem dX1_leastTimes_0 : decode cX1_leastTimes 0 = .ok (.iconst 1, 1) := by decide +kernel
theorem dX1_leastTimes_1 : decode cX1_leastTimes 1 = .ok (.istore 5, 2) := by decide +kernel
theorem dX1_leastTimes_3 : decode cX1_leastTimes 3 = .ok (.iload 5, 2) := by decide +kernel
theorem dX1_leastTimes_5 : decode cX1_leastTimes 5 = .ok (.iconst 5, 1) := by decide +kernel
theorem dX1_leastTimes_6 : decode cX1_leastTimes 6 = .ok (.if_icmp .gt 26, 3) := by decide +kernel
theorem dX1_leastTimes_9 : decode cX1_leastTimes 9 = .ok (.aload_n 0, 1) := by decide +kernel
theorem dX1_leastTimes_10 : decode cX1_leastTimes 10 = .ok (.iload_n 1, 1) := by decide +kernel
theorem dX1_leastTimes_11 : decode cX1_leastTimes 11 = .ok (.iload 5, 2) := by decide +kernel
theorem dX1_leastTimes_13 : decode cX1_leastTimes 13 = .ok (.iload_n 2, 1) := by decide +kernel
theorem dX1_leastTimes_14 : decode cX1_leastTimes 14 = .ok (.aload_n 3, 1) := by decide +kernel
theorem dX1_leastTimes_15 : decode cX1_leastTimes 15 = .ok (.iload 4, 2) := by decide +kernel
theorem dX1_leastTimes_17 : decode cX1_leastTimes 17 = .ok (.invokevirtual 68, 3) := by decide +kernel
theorem dX1_leastTimes_20 : decode cX1_leastTimes 20 = .ok (.ifCond .eq 6, 3) := by decide +kernel
theorem dX1_leastTimes_23 : decode cX1_leastTimes 23 = .ok (.iload 5, 2) := by decide +kernel
theorem dX1_leastTimes_25 : decode cX1_leastTimes 25 = .ok (.ireturn, 1) := by decide +kernel
theorem dX1_leastTimes_26 : decode cX1_leastTimes 26 = .ok (.iinc 5 1, 3) := by decide +kernel
theorem dX1_leastTimes_29 : decode cX1_leastTimes 29 = .ok (.goto (-26), 3) := by decide +kernel
theorem dX1_leastTimes_32 : decode cX1_leastTimes 32 = .ok (.iconst 0, 1) := by decide +kernel
theorem dX1_leastTimes_33 : decode cX1_leastTimes 33 = .ok (.ireturn, 1) := by decide +kernel
def X_EX_leastTimes_3 (K : Int32 → xs_St → Prop) (k3 : Int32 → Int32 → Int32 → Int32 → xs_St → Prop) (x1 : Int32) (x2 : Int32) (x4 : Int32) (x5 : Int32) (u : xs_St) : Prop :=
  (((5 : Int32) < x5 → K (0 : Int32) u) ∧ (¬ (5 : Int32) < x5 → X_EX_fits x1 x5 x2 x4 u (fun r_2 u_1 => ((r_2 = 0 → ∀ x5_3 : Int32, x5_3 = x5 + (1 : Int32) → k3 x1 x2 x4 x5_3 u_1) ∧ (¬ r_2 = 0 → K x5 u_1)))))
set_option maxHeartbeats 4000000 in
set_option maxRecDepth 100000 in
theorem X_EX_leastTimes_3_w {K : Int32 → xs_St → Prop} {k3 : Int32 → Int32 → Int32 → Int32 → xs_St → Prop} (C : th_Cx p s m args meth c cX1_leastTimes RX1 6 (some .int) (dC, dI) (th_ty cs) (xE ad ak) A) (hk3 : ∀ (x1 : Int32) (x2 : Int32) (x4 : Int32) (x5 : Int32) (u : xs_St) (H : Heap) (locs : List Loc) (ls : Array Slot), k3 x1 x2 x4 x5 u → th_wI (dC, dI) (wX cs ad q v v) A s.heap u H locs → lv_has ls 6 [(0, .ref (q 799)), (1, .int x1), (2, .int x2), (3, .ref (q 199)), (4, .int x4), (5, .int x5)] → W p l e (th_rm 2 0 0) s m args below meth c H locs 0 0 (MQ below (va_Qi K (th_Post (dC, dI) (wX cs ad q v v) A) A) args s 0 0 A) (F0 m 3 ls [])) (x1 : Int32) (x2 : Int32) (x4 : Int32) (x5 : Int32) (u : xs_St) (H : Heap) (locs : List Loc) (ls : Array Slot) (hf : X_EX_leastTimes_3 K k3 x1 x2 x4 x5 u) (hw : th_wI (dC, dI) (wX cs ad q v v) A s.heap u H locs) (hl : lv_has ls 6 [(0, .ref (q 799)), (1, .int x1), (2, .int x2), (3, .ref (q 199)), (4, .int x4), (5, .int x5)]) : W p l e (th_rm 2 0 0) s m args below meth c H locs 0 0 (MQ below (va_Qi K (th_Post (dC, dI) (wX cs ad q v v) A) A) args s 0 0 A) (F0 m 3 ls []) := by
  have hx := C.1
  have hb := C.2.1
  unfold X_EX_leastTimes_3 at hf
  refine lv_iload hx hb dX1_leastTimes_3 (lv_at hl 5 rfl) ?_
  refine lv_iconst (v := (5 : Int32)) hx hb dX1_leastTimes_5 (by decide) ?_
  refine lv_icmp_gt (tgt := 32) hx hb dX1_leastTimes_6 (by decide) (fun hc => ?_) (fun hc => ?_)
  · replace hf := hf.1 hc
    clear hc
    refine lv_iconst (v := (0 : Int32)) hx hb dX1_leastTimes_32 (by decide) ?_
    exact th_iret C hw hf dX1_leastTimes_33
  · replace hf := hf.2 hc
    clear hc
    refine lv_aload_n hx hb dX1_leastTimes_9 rfl (lv_at hl 0 rfl) ?_
    refine lv_iload_n hx hb dX1_leastTimes_10 rfl (lv_at hl 1 rfl) ?_
    refine lv_iload hx hb dX1_leastTimes_11 (lv_at hl 5 rfl) ?_
    refine lv_iload_n hx hb dX1_leastTimes_13 rfl (lv_at hl 2 rfl) ?_
    refine lv_aload_n hx hb dX1_leastTimes_14 rfl (lv_at hl 3 rfl) ?_
    refine lv_iload hx hb dX1_leastTimes_15 (lv_at hl 4 rfl) ?_
    refine th_callVi (As := [.int x1, .int x5, .int x2, .ref (q 199), .int x4]) (rest := []) C lkX1_68 (X_EX_fits_c hf) hw (xRc_EX C hw) rfl rfl ⟨Nat.le_of_ble_eq_true rfl, Nat.le_of_ble_eq_true rfl⟩ hl.1 (Nat.le_of_ble_eq_true rfl) ⟨Nat.le_of_ble_eq_true rfl, Nat.le_of_ble_eq_true rfl⟩ dX1_leastTimes_17 (fun r_2 u_1 H locs hf hw => ?_)
    refine lv_if_eq (tgt := 26) hx hb dX1_leastTimes_20 (by decide) (fun hc => ?_) (fun hc => ?_)
    · replace hf := hf.1 hc
      clear hc
      obtain ⟨x5_3, e9⟩ : ∃ y : Int32, y = x5 + (1 : Int32) := ⟨_, rfl⟩
      replace hf := hf x5_3 e9
      refine lv_iinc (v := x5_3) (lv' := [(5, .int x5_3), (0, .ref (q 799)), (1, .int x1), (2, .int x2), (3, .ref (q 199)), (4, .int x4)]) hx hb dX1_leastTimes_26 hl (k := 5) rfl (by rw [e9]; rfl) (by decide) rfl (fun ls hl => ?_)
      clear e9
      refine lv_goto (tgt := 3) hx hb dX1_leastTimes_29 (by decide) ?_
      exact hk3 x1 x2 x4 x5_3 u_1 _ _ _ hf hw (lv_sub hl [1, 2, 3, 4, 5, 0] rfl)
    · replace hf := hf.2 hc
      clear hc
      refine lv_iload hx hb dX1_leastTimes_23 (lv_at hl 5 rfl) ?_
      exact th_iret C hw hf dX1_leastTimes_25
def X_EX_leastTimes_3_lp (K : Int32 → xs_St → Prop) : Nat → Int32 → Int32 → Int32 → Int32 → xs_St → Prop
  | 0, _, _, _, _, _ => False
  | n + 1, x1, x2, x4, x5, u => X_EX_leastTimes_3 K (X_EX_leastTimes_3_lp K n) x1 x2 x4 x5 u
set_option maxHeartbeats 4000000 in
set_option maxRecDepth 100000 in
theorem X_EX_leastTimes_3_lw {K : Int32 → xs_St → Prop} (C : th_Cx p s m args meth c cX1_leastTimes RX1 6 (some .int) (dC, dI) (th_ty cs) (xE ad ak) A) (n : Nat) : ∀ (x1 : Int32) (x2 : Int32) (x4 : Int32) (x5 : Int32) (u : xs_St) (H : Heap) (locs : List Loc) (ls : Array Slot), X_EX_leastTimes_3_lp K n x1 x2 x4 x5 u → th_wI (dC, dI) (wX cs ad q v v) A s.heap u H locs → lv_has ls 6 [(0, .ref (q 799)), (1, .int x1), (2, .int x2), (3, .ref (q 199)), (4, .int x4), (5, .int x5)] → W p l e (th_rm 2 0 0) s m args below meth c H locs 0 0 (MQ below (va_Qi K (th_Post (dC, dI) (wX cs ad q v v) A) A) args s 0 0 A) (F0 m 3 ls []) := by
  induction n with
  | zero => intro x1 x2 x4 x5 u H locs ls hf; exact hf.elim
  | succ n ih =>
    intro x1 x2 x4 x5 u H locs ls hf hw hl
    exact X_EX_leastTimes_3_w C ih x1 x2 x4 x5 u H locs ls hf hw hl
def X_EX_leastTimes (a1 : Int32) (a2 : Int32) (a4 : Int32) (u : xs_St) (K : Int32 → xs_St → Prop) : Prop :=
  ∃ n, X_EX_leastTimes_3_lp K n a1 a2 a4 (1 : Int32) u
set_option maxHeartbeats 4000000 in
set_option maxRecDepth 100000 in
theorem X_EX_leastTimes_c {l : Launch} {dC : Nat → ClassId} {dI : Nat → Nat → Nat} {cs : Nat → ClassId} {ad ak : Nat → Nat} {q v : Nat → Nat} {a1 : Int32} {a2 : Int32} {a4 : Int32} {u : xs_St} {K : Int32 → xs_St → Prop} (hf : X_EX_leastTimes a1 a2 a4 u K) : th_Ci l yX1_leastTimes cX1_leastTimes 6 (some .int) 2 0 0 (dC, dI) (th_ty cs) (xE ad ak) (wX cs ad q v v) [.ref (q 799), .int a1, .int a2, .ref (q 199), .int a4] u K := by
  refine th_ofi (by decide) (Nat.le_of_ble_eq_true rfl) (xE_ok ad ak) ?_
  intro p e s m below meth c A ls C hw hl
  have C : th_Cx p s m _ meth c cX1_leastTimes RX1 6 (some .int) (dC, dI) (th_ty cs) (xE ad ak) A := C
  have hl : lv_has ls 6 [(0, .ref (q 799)), (1, .int a1), (2, .int a2), (3, .ref (q 199)), (4, .int a4)] := hl
  generalize (List.toArray _ : Array Value) = args at C ⊢
  have hx := C.1
  have hb := C.2.1
  unfold X_EX_leastTimes at hf
  refine lv_iconst (v := (1 : Int32)) hx hb dX1_leastTimes_0 (by decide) ?_
  refine lv_istore (lv' := [(5, .int (1 : Int32)), (0, .ref (q 799)), (1, .int a1), (2, .int a2), (3, .ref (q 199)), (4, .int a4)]) hx hb dX1_leastTimes_1 hl (by decide) rfl (fun ls hl => ?_)
  obtain ⟨n, hf⟩ := hf
  exact X_EX_leastTimes_3_lw C n a1 a2 a4 (1 : Int32) u _ _ _ hf hw (lv_sub hl [1, 2, 3, 4, 5, 0] rfl)
/-! X_EX_takesShape -/
theorem dX1_takesShape_0 : decode cX1_takesShape 0 = .ok (.iload_n 1, 1) := by decide +kernel
theorem dX1_takesShape_1 : decode cX1_takesShape 1 = .ok (.ifCond .lt 52, 3) := by decide +kernel
theorem dX1_takesShape_4 : decode cX1_takesShape 4 = .ok (.iload_n 1, 1) := by decide +kernel
theorem dX1_takesShape_5 : decode cX1_takesShape 5 = .ok (.bipush 6, 2) := by decide +kernel
theorem dX1_takesShape_7 : decode cX1_takesShape 7 = .ok (.if_icmp .ge 46, 3) := by decide +kernel
theorem dX1_takesShape_10 : decode cX1_takesShape 10 = .ok (.aload_n 2, 1) := by decide +kernel
theorem dX1_takesShape_11 : decode cX1_takesShape 11 = .ok (.getfield 40, 3) := by decide +kernel
theorem dX1_takesShape_14 : decode cX1_takesShape 14 = .ok (.iconst 1, 1) := by decide +kernel
theorem dX1_takesShape_15 : decode cX1_takesShape 15 = .ok (.if_icmp .lt 38, 3) := by decide +kernel
theorem dX1_takesShape_18 : decode cX1_takesShape 18 = .ok (.aload_n 2, 1) := by decide +kernel
theorem dX1_takesShape_19 : decode cX1_takesShape 19 = .ok (.getfield 40, 3) := by decide +kernel
theorem dX1_takesShape_22 : decode cX1_takesShape 22 = .ok (.bipush 9, 2) := by decide +kernel
theorem dX1_takesShape_24 : decode cX1_takesShape 24 = .ok (.if_icmp .gt 29, 3) := by decide +kernel
theorem dX1_takesShape_27 : decode cX1_takesShape 27 = .ok (.aload_n 2, 1) := by decide +kernel
theorem dX1_takesShape_28 : decode cX1_takesShape 28 = .ok (.iconst 0, 1) := by decide +kernel
theorem dX1_takesShape_29 : decode cX1_takesShape 29 = .ok (.invokevirtual 45, 3) := by decide +kernel
theorem dX1_takesShape_32 : decode cX1_takesShape 32 = .ok (.ifCond .eq 21, 3) := by decide +kernel
theorem dX1_takesShape_35 : decode cX1_takesShape 35 = .ok (.aload_n 2, 1) := by decide +kernel
theorem dX1_takesShape_36 : decode cX1_takesShape 36 = .ok (.iconst 0, 1) := by decide +kernel
theorem dX1_takesShape_37 : decode cX1_takesShape 37 = .ok (.aload_n 2, 1) := by decide +kernel
theorem dX1_takesShape_38 : decode cX1_takesShape 38 = .ok (.getfield 40, 3) := by decide +kernel
theorem dX1_takesShape_41 : decode cX1_takesShape 41 = .ok (.bipush 99, 2) := by decide +kernel
theorem dX1_takesShape_43 : decode cX1_takesShape 43 = .ok (.invokevirtual 49, 3) := by decide +kernel
theorem dX1_takesShape_46 : decode cX1_takesShape 46 = .ok (.ifCond .eq 7, 3) := by decide +kernel
theorem dX1_takesShape_49 : decode cX1_takesShape 49 = .ok (.iconst 1, 1) := by decide +kernel
theorem dX1_takesShape_50 : decode cX1_takesShape 50 = .ok (.goto 4, 3) := by decide +kernel
theorem dX1_takesShape_53 : decode cX1_takesShape 53 = .ok (.iconst 0, 1) := by decide +kernel
theorem dX1_takesShape_54 : decode cX1_takesShape 54 = .ok (.istore_n 3, 1) := by decide +kernel
theorem dX1_takesShape_55 : decode cX1_takesShape 55 = .ok (.iload_n 3, 1) := by decide +kernel
theorem dX1_takesShape_56 : decode cX1_takesShape 56 = .ok (.ifCond .eq 49, 3) := by decide +kernel
theorem dX1_takesShape_59 : decode cX1_takesShape 59 = .ok (.aload_n 0, 1) := by decide +kernel
theorem dX1_takesShape_60 : decode cX1_takesShape 60 = .ok (.getfield 11, 3) := by decide +kernel
theorem dX1_takesShape_63 : decode cX1_takesShape 63 = .ok (.iload_n 1, 1) := by decide +kernel
theorem dX1_takesShape_64 : decode cX1_takesShape 64 = .ok (.aload_n 2, 1) := by decide +kernel
theorem dX1_takesShape_65 : decode cX1_takesShape 65 = .ok (.getfield 40, 3) := by decide +kernel
theorem dX1_takesShape_68 : decode cX1_takesShape 68 = .ok (.iastore, 1) := by decide +kernel
theorem dX1_takesShape_69 : decode cX1_takesShape 69 = .ok (.iconst 0, 1) := by decide +kernel
theorem dX1_takesShape_70 : decode cX1_takesShape 70 = .ok (.istore 4, 2) := by decide +kernel
theorem dX1_takesShape_72 : decode cX1_takesShape 72 = .ok (.iload 4, 2) := by decide +kernel
theorem dX1_takesShape_74 : decode cX1_takesShape 74 = .ok (.aload_n 2, 1) := by decide +kernel
theorem dX1_takesShape_75 : decode cX1_takesShape 75 = .ok (.getfield 40, 3) := by decide +kernel
theorem dX1_takesShape_78 : decode cX1_takesShape 78 = .ok (.if_icmp .ge 27, 3) := by decide +kernel
theorem dX1_takesShape_81 : decode cX1_takesShape 81 = .ok (.aload_n 0, 1) := by decide +kernel
theorem dX1_takesShape_82 : decode cX1_takesShape 82 = .ok (.getfield 15, 3) := by decide +kernel
theorem dX1_takesShape_85 : decode cX1_takesShape 85 = .ok (.iload_n 1, 1) := by decide +kernel
theorem dX1_takesShape_86 : decode cX1_takesShape 86 = .ok (.bipush 9, 2) := by decide +kernel
theorem dX1_takesShape_88 : decode cX1_takesShape 88 = .ok (.imul, 1) := by decide +kernel
theorem dX1_takesShape_89 : decode cX1_takesShape 89 = .ok (.iload 4, 2) := by decide +kernel
theorem dX1_takesShape_91 : decode cX1_takesShape 91 = .ok (.iadd, 1) := by decide +kernel
theorem dX1_takesShape_92 : decode cX1_takesShape 92 = .ok (.aload_n 2, 1) := by decide +kernel
theorem dX1_takesShape_93 : decode cX1_takesShape 93 = .ok (.iload 4, 2) := by decide +kernel
theorem dX1_takesShape_95 : decode cX1_takesShape 95 = .ok (.invokevirtual 45, 3) := by decide +kernel
theorem dX1_takesShape_98 : decode cX1_takesShape 98 = .ok (.iastore, 1) := by decide +kernel
theorem dX1_takesShape_99 : decode cX1_takesShape 99 = .ok (.iinc 4 1, 3) := by decide +kernel
theorem dX1_takesShape_102 : decode cX1_takesShape 102 = .ok (.goto (-30), 3) := by decide +kernel
theorem dX1_takesShape_105 : decode cX1_takesShape 105 = .ok (.iload_n 3, 1) := by decide +kernel
theorem dX1_takesShape_106 : decode cX1_takesShape 106 = .ok (.ireturn, 1) := by decide +kernel
def X_EX_takesShape_105 (K : Int32 → xs_St → Prop) (x3 : Int32) (u : xs_St) : Prop :=
  ((x3 = 0 ∨ x3 = 1) ∧ K x3 u)
set_option maxHeartbeats 4000000 in
set_option maxRecDepth 100000 in
theorem X_EX_takesShape_105_w {K : Int32 → xs_St → Prop} (C : th_Cx p s m args meth c cX1_takesShape RX1 5 (some .boolean) (dC, dI) (th_ty cs) (xE ad ak) A) (x3 : Int32) (u : xs_St) (H : Heap) (locs : List Loc) (ls : Array Slot) (hf : X_EX_takesShape_105 K x3 u) (hw : th_wI (dC, dI) (wX cs ad q v v) A s.heap u H locs) (hl : lv_has ls 5 [(3, .int x3)]) : W p l e (th_rm 2 0 0) s m args below meth c H locs 0 0 (MQ below (va_Qi K (th_Post (dC, dI) (wX cs ad q v v) A) A) args s 0 0 A) (F0 m 105 ls []) := by
  have hx := C.1
  have hb := C.2.1
  unfold X_EX_takesShape_105 at hf
  refine lv_iload_n hx hb dX1_takesShape_105 rfl (lv_at hl 0 rfl) ?_
  exact th_zret C hw hf dX1_takesShape_106
def X_EX_takesShape_72 (K : Int32 → xs_St → Prop) (k72 : Int32 → Int32 → Int32 → xs_St → Prop) (x1 : Int32) (x3 : Int32) (x4 : Int32) (u : xs_St) : Prop :=
  (((xi u 101) ≤ x4 → X_EX_takesShape_105 K x3 u) ∧ (¬ (xi u 101) ≤ x4 → X_TP_signed x4 u (fun r_2 u_1 => (vp_in ((x1 * (9 : Int32)) + x4) 54 ∧ ∀ u_3 : xs_St, u_3 = xs_sa u_1 701 (upd (xa u_1 701) (((x1 * (9 : Int32)) + x4)).toNatClampNeg r_2) → ∀ x4_4 : Int32, x4_4 = x4 + (1 : Int32) → k72 x1 x3 x4_4 u_3))))
set_option maxHeartbeats 4000000 in
set_option maxRecDepth 100000 in
theorem X_EX_takesShape_72_w {K : Int32 → xs_St → Prop} {k72 : Int32 → Int32 → Int32 → xs_St → Prop} (C : th_Cx p s m args meth c cX1_takesShape RX1 5 (some .boolean) (dC, dI) (th_ty cs) (xE ad ak) A) (hk72 : ∀ (x1 : Int32) (x3 : Int32) (x4 : Int32) (u : xs_St) (H : Heap) (locs : List Loc) (ls : Array Slot), k72 x1 x3 x4 u → th_wI (dC, dI) (wX cs ad q v v) A s.heap u H locs → lv_has ls 5 [(0, .ref (q 799)), (1, .int x1), (2, .ref (q 199)), (3, .int x3), (4, .int x4)] → W p l e (th_rm 2 0 0) s m args below meth c H locs 0 0 (MQ below (va_Qi K (th_Post (dC, dI) (wX cs ad q v v) A) A) args s 0 0 A) (F0 m 72 ls [])) (x1 : Int32) (x3 : Int32) (x4 : Int32) (u : xs_St) (H : Heap) (locs : List Loc) (ls : Array Slot) (hf : X_EX_takesShape_72 K k72 x1 x3 x4 u) (hw : th_wI (dC, dI) (wX cs ad q v v) A s.heap u H locs) (hl : lv_has ls 5 [(0, .ref (q 799)), (1, .int x1), (2, .ref (q 199)), (3, .int x3), (4, .int x4)]) : W p l e (th_rm 2 0 0) s m args below meth c H locs 0 0 (MQ below (va_Qi K (th_Post (dC, dI) (wX cs ad q v v) A) A) args s 0 0 A) (F0 m 72 ls []) := by
  have hx := C.1
  have hb := C.2.1
  unfold X_EX_takesShape_72 at hf
  refine lv_iload hx hb dX1_takesShape_72 (lv_at hl 4 rfl) ?_
  refine lv_aload_n hx hb dX1_takesShape_74 rfl (lv_at hl 2 rfl) ?_
  refine xgn_101 C hw (va_Nw.use rfl (xN C hwG_X1_40)) dX1_takesShape_75 ?_
  refine lv_icmp_ge (tgt := 105) hx hb dX1_takesShape_78 (by decide) (fun hc => ?_) (fun hc => ?_)
  · replace hf := hf.1 hc
    clear hc
    exact X_EX_takesShape_105_w C x3 u _ _ _ hf hw (lv_sub hl [3] rfl)
  · replace hf := hf.2 hc
    clear hc
    refine lv_aload_n hx hb dX1_takesShape_81 rfl (lv_at hl 0 rfl) ?_
    refine xg_701 C hw (C.2.2.2.2.1 _ hwF_X1_15) dX1_takesShape_82 ?_
    refine lv_iload_n hx hb dX1_takesShape_85 rfl (lv_at hl 1 rfl) ?_
    refine lv_bipush (v := (9 : Int32)) hx hb dX1_takesShape_86 (by decide) ?_
    refine lv_imul hx hb dX1_takesShape_88 ?_
    refine lv_iload hx hb dX1_takesShape_89 (lv_at hl 4 rfl) ?_
    refine lv_iadd hx hb dX1_takesShape_91 ?_
    refine lv_aload_n hx hb dX1_takesShape_92 rfl (lv_at hl 2 rfl) ?_
    refine lv_iload hx hb dX1_takesShape_93 (lv_at hl 4 rfl) ?_
    refine th_callVi (As := [.int x4]) (rest := [.int ((x1 * (9 : Int32)) + x4), .ref (q 701)]) C lkX1_45 (X_TP_signed_c hf) hw (xRc_TP C hw) rfl rfl ⟨Nat.le_of_ble_eq_true rfl, Nat.le_of_ble_eq_true rfl⟩ hl.1 (Nat.le_of_ble_eq_true rfl) ⟨Nat.le_of_ble_eq_true rfl, Nat.le_of_ble_eq_true rfl⟩ dX1_takesShape_95 (fun r_2 u_1 H locs hf hw => ?_)
    refine ys_701 C hw hf.1 dX1_takesShape_98 (fun u_3 e9 H locs hw => ?_)
    replace hf := hf.2 u_3 e9
    clear e9
    obtain ⟨x4_4, e9⟩ : ∃ y : Int32, y = x4 + (1 : Int32) := ⟨_, rfl⟩
    replace hf := hf x4_4 e9
    refine lv_iinc (v := x4_4) (lv' := [(4, .int x4_4), (0, .ref (q 799)), (1, .int x1), (2, .ref (q 199)), (3, .int x3)]) hx hb dX1_takesShape_99 hl (k := 4) rfl (by rw [e9]; rfl) (by decide) rfl (fun ls hl => ?_)
    clear e9
    refine lv_goto (tgt := 72) hx hb dX1_takesShape_102 (by decide) ?_
    exact hk72 x1 x3 x4_4 u_3 _ _ _ hf hw (lv_sub hl [1, 2, 3, 4, 0] rfl)
def X_EX_takesShape_72_lp (K : Int32 → xs_St → Prop) : Nat → Int32 → Int32 → Int32 → xs_St → Prop
  | 0, _, _, _, _ => False
  | n + 1, x1, x3, x4, u => X_EX_takesShape_72 K (X_EX_takesShape_72_lp K n) x1 x3 x4 u
set_option maxHeartbeats 4000000 in
set_option maxRecDepth 100000 in
theorem X_EX_takesShape_72_lw {K : Int32 → xs_St → Prop} (C : th_Cx p s m args meth c cX1_takesShape RX1 5 (some .boolean) (dC, dI) (th_ty cs) (xE ad ak) A) (n : Nat) : ∀ (x1 : Int32) (x3 : Int32) (x4 : Int32) (u : xs_St) (H : Heap) (locs : List Loc) (ls : Array Slot), X_EX_takesShape_72_lp K n x1 x3 x4 u → th_wI (dC, dI) (wX cs ad q v v) A s.heap u H locs → lv_has ls 5 [(0, .ref (q 799)), (1, .int x1), (2, .ref (q 199)), (3, .int x3), (4, .int x4)] → W p l e (th_rm 2 0 0) s m args below meth c H locs 0 0 (MQ below (va_Qi K (th_Post (dC, dI) (wX cs ad q v v) A) A) args s 0 0 A) (F0 m 72 ls []) := by
  induction n with
  | zero => intro x1 x3 x4 u H locs ls hf; exact hf.elim
  | succ n ih =>
    intro x1 x3 x4 u H locs ls hf hw hl
    exact X_EX_takesShape_72_w C ih x1 x3 x4 u H locs ls hf hw hl
def X_EX_takesShape_54 (K : Int32 → xs_St → Prop) (x1 : Int32) (z0 : Int32) (u : xs_St) : Prop :=
  ((z0 = 0 → X_EX_takesShape_105 K z0 u) ∧ (¬ z0 = 0 → (vp_in x1 6 ∧ ∀ u_1 : xs_St, u_1 = xs_sa u 700 (upd (xa u 700) (x1).toNatClampNeg (xi u 101)) → ∃ n, X_EX_takesShape_72_lp K n x1 z0 (0 : Int32) u_1)))
set_option maxHeartbeats 4000000 in
set_option maxRecDepth 100000 in
theorem X_EX_takesShape_54_w {K : Int32 → xs_St → Prop} (C : th_Cx p s m args meth c cX1_takesShape RX1 5 (some .boolean) (dC, dI) (th_ty cs) (xE ad ak) A) (x1 : Int32) (z0 : Int32) (u : xs_St) (H : Heap) (locs : List Loc) (ls : Array Slot) (hf : X_EX_takesShape_54 K x1 z0 u) (hw : th_wI (dC, dI) (wX cs ad q v v) A s.heap u H locs) (hl : lv_has ls 5 [(0, .ref (q 799)), (1, .int x1), (2, .ref (q 199))]) : W p l e (th_rm 2 0 0) s m args below meth c H locs 0 0 (MQ below (va_Qi K (th_Post (dC, dI) (wX cs ad q v v) A) A) args s 0 0 A) (F0 m 54 ls [.int z0]) := by
  have hx := C.1
  have hb := C.2.1
  unfold X_EX_takesShape_54 at hf
  refine lv_istore_n (lv' := [(3, .int z0), (0, .ref (q 799)), (1, .int x1), (2, .ref (q 199))]) hx hb dX1_takesShape_54 rfl hl (by decide) rfl (fun ls hl => ?_)
  refine lv_iload_n hx hb dX1_takesShape_55 rfl (lv_at hl 0 rfl) ?_
  refine lv_if_eq (tgt := 105) hx hb dX1_takesShape_56 (by decide) (fun hc => ?_) (fun hc => ?_)
  · replace hf := hf.1 hc
    clear hc
    exact X_EX_takesShape_105_w C z0 u _ _ _ hf hw (lv_sub hl [0] rfl)
  · replace hf := hf.2 hc
    clear hc
    refine lv_aload_n hx hb dX1_takesShape_59 rfl (lv_at hl 1 rfl) ?_
    refine xg_700 C hw (C.2.2.2.2.1 _ hwF_X1_11) dX1_takesShape_60 ?_
    refine lv_iload_n hx hb dX1_takesShape_63 rfl (lv_at hl 2 rfl) ?_
    refine lv_aload_n hx hb dX1_takesShape_64 rfl (lv_at hl 3 rfl) ?_
    refine xgn_101 C hw (va_Nw.use rfl (xN C hwG_X1_40)) dX1_takesShape_65 ?_
    refine ys_700 C hw hf.1 dX1_takesShape_68 (fun u_1 e9 H locs hw => ?_)
    replace hf := hf.2 u_1 e9
    clear e9
    refine lv_iconst (v := (0 : Int32)) hx hb dX1_takesShape_69 (by decide) ?_
    refine lv_istore (lv' := [(4, .int (0 : Int32)), (3, .int z0), (0, .ref (q 799)), (1, .int x1), (2, .ref (q 199))]) hx hb dX1_takesShape_70 hl (by decide) rfl (fun ls hl => ?_)
    obtain ⟨n, hf⟩ := hf
    exact X_EX_takesShape_72_lw C n x1 z0 (0 : Int32) u_1 _ _ _ hf hw (lv_sub hl [2, 3, 4, 1, 0] rfl)
def X_EX_takesShape_53 (K : Int32 → xs_St → Prop) (x1 : Int32) (u : xs_St) : Prop :=
  X_EX_takesShape_54 K x1 (0 : Int32) u
set_option maxHeartbeats 4000000 in
set_option maxRecDepth 100000 in
theorem X_EX_takesShape_53_w {K : Int32 → xs_St → Prop} (C : th_Cx p s m args meth c cX1_takesShape RX1 5 (some .boolean) (dC, dI) (th_ty cs) (xE ad ak) A) (x1 : Int32) (u : xs_St) (H : Heap) (locs : List Loc) (ls : Array Slot) (hf : X_EX_takesShape_53 K x1 u) (hw : th_wI (dC, dI) (wX cs ad q v v) A s.heap u H locs) (hl : lv_has ls 5 [(0, .ref (q 799)), (1, .int x1), (2, .ref (q 199))]) : W p l e (th_rm 2 0 0) s m args below meth c H locs 0 0 (MQ below (va_Qi K (th_Post (dC, dI) (wX cs ad q v v) A) A) args s 0 0 A) (F0 m 53 ls []) := by
  have hx := C.1
  have hb := C.2.1
  unfold X_EX_takesShape_53 at hf
  refine lv_iconst (v := (0 : Int32)) hx hb dX1_takesShape_53 (by decide) ?_
  exact X_EX_takesShape_54_w C x1 (0 : Int32) u _ _ _ hf hw (lv_sub hl [0, 1, 2] rfl)
def X_EX_takesShape (a1 : Int32) (u : xs_St) (K : Int32 → xs_St → Prop) : Prop :=
  ((a1 < 0 → X_EX_takesShape_53 K a1 u) ∧ (¬ a1 < 0 → (((6 : Int32) ≤ a1 → X_EX_takesShape_53 K a1 u) ∧ (¬ (6 : Int32) ≤ a1 → (((xi u 101) < (1 : Int32) → X_EX_takesShape_53 K a1 u) ∧ (¬ (xi u 101) < (1 : Int32) → (((9 : Int32) < (xi u 101) → X_EX_takesShape_53 K a1 u) ∧ (¬ (9 : Int32) < (xi u 101) → X_TP_signed (0 : Int32) u (fun r_2 u_1 => ((r_2 = 0 → X_EX_takesShape_53 K a1 u_1) ∧ (¬ r_2 = 0 → X_TP_allWithin (0 : Int32) (xi u_1 101) (99 : Int32) u_1 (fun r_4 u_3 => ((r_4 = 0 → X_EX_takesShape_53 K a1 u_3) ∧ (¬ r_4 = 0 → X_EX_takesShape_54 K a1 (1 : Int32) u_3))))))))))))))
set_option maxHeartbeats 4000000 in
set_option maxRecDepth 100000 in
theorem X_EX_takesShape_c {l : Launch} {dC : Nat → ClassId} {dI : Nat → Nat → Nat} {cs : Nat → ClassId} {ad ak : Nat → Nat} {q v : Nat → Nat} {a1 : Int32} {u : xs_St} {K : Int32 → xs_St → Prop} (hf : X_EX_takesShape a1 u K) : th_Ci l yX1_takesShape cX1_takesShape 5 (some .boolean) 2 0 0 (dC, dI) (th_ty cs) (xE ad ak) (wX cs ad q v v) [.ref (q 799), .int a1, .ref (q 199)] u K := by
  refine th_ofi (by decide) (Nat.le_of_ble_eq_true rfl) (xE_ok ad ak) ?_
  intro p e s m below meth c A ls C hw hl
  have C : th_Cx p s m _ meth c cX1_takesShape RX1 5 (some .boolean) (dC, dI) (th_ty cs) (xE ad ak) A := C
  have hl : lv_has ls 5 [(0, .ref (q 799)), (1, .int a1), (2, .ref (q 199))] := hl
  generalize (List.toArray _ : Array Value) = args at C ⊢
  have hx := C.1
  have hb := C.2.1
  unfold X_EX_takesShape at hf
  refine lv_iload_n hx hb dX1_takesShape_0 rfl (lv_at hl 1 rfl) ?_
  refine lv_if_lt (tgt := 53) hx hb dX1_takesShape_1 (by decide) (fun hc => ?_) (fun hc => ?_)
  · replace hf := hf.1 hc
    clear hc
    exact X_EX_takesShape_53_w C a1 u _ _ _ hf hw (lv_sub hl [0, 1, 2] rfl)
  · replace hf := hf.2 hc
    clear hc
    refine lv_iload_n hx hb dX1_takesShape_4 rfl (lv_at hl 1 rfl) ?_
    refine lv_bipush (v := (6 : Int32)) hx hb dX1_takesShape_5 (by decide) ?_
    refine lv_icmp_ge (tgt := 53) hx hb dX1_takesShape_7 (by decide) (fun hc => ?_) (fun hc => ?_)
    · replace hf := hf.1 hc
      clear hc
      exact X_EX_takesShape_53_w C a1 u _ _ _ hf hw (lv_sub hl [0, 1, 2] rfl)
    · replace hf := hf.2 hc
      clear hc
      refine lv_aload_n hx hb dX1_takesShape_10 rfl (lv_at hl 2 rfl) ?_
      refine xgn_101 C hw (va_Nw.use rfl (xN C hwG_X1_40)) dX1_takesShape_11 ?_
      refine lv_iconst (v := (1 : Int32)) hx hb dX1_takesShape_14 (by decide) ?_
      refine lv_icmp_lt (tgt := 53) hx hb dX1_takesShape_15 (by decide) (fun hc => ?_) (fun hc => ?_)
      · replace hf := hf.1 hc
        clear hc
        exact X_EX_takesShape_53_w C a1 u _ _ _ hf hw (lv_sub hl [0, 1, 2] rfl)
      · replace hf := hf.2 hc
        clear hc
        refine lv_aload_n hx hb dX1_takesShape_18 rfl (lv_at hl 2 rfl) ?_
        refine xgn_101 C hw (va_Nw.use rfl (xN C hwG_X1_40)) dX1_takesShape_19 ?_
        refine lv_bipush (v := (9 : Int32)) hx hb dX1_takesShape_22 (by decide) ?_
        refine lv_icmp_gt (tgt := 53) hx hb dX1_takesShape_24 (by decide) (fun hc => ?_) (fun hc => ?_)
        · replace hf := hf.1 hc
          clear hc
          exact X_EX_takesShape_53_w C a1 u _ _ _ hf hw (lv_sub hl [0, 1, 2] rfl)
        · replace hf := hf.2 hc
          clear hc
          refine lv_aload_n hx hb dX1_takesShape_27 rfl (lv_at hl 2 rfl) ?_
          refine lv_iconst (v := (0 : Int32)) hx hb dX1_takesShape_28 (by decide) ?_
          refine th_callVi (As := [.int (0 : Int32)]) (rest := []) C lkX1_45 (X_TP_signed_c hf) hw (xRc_TP C hw) rfl rfl ⟨Nat.le_of_ble_eq_true rfl, Nat.le_of_ble_eq_true rfl⟩ hl.1 (Nat.le_of_ble_eq_true rfl) ⟨Nat.le_of_ble_eq_true rfl, Nat.le_of_ble_eq_true rfl⟩ dX1_takesShape_29 (fun r_2 u_1 H locs hf hw => ?_)
          refine lv_if_eq (tgt := 53) hx hb dX1_takesShape_32 (by decide) (fun hc => ?_) (fun hc => ?_)
          · replace hf := hf.1 hc
            clear hc
            exact X_EX_takesShape_53_w C a1 u_1 _ _ _ hf hw (lv_sub hl [0, 1, 2] rfl)
          · replace hf := hf.2 hc
            clear hc
            refine lv_aload_n hx hb dX1_takesShape_35 rfl (lv_at hl 2 rfl) ?_
            refine lv_iconst (v := (0 : Int32)) hx hb dX1_takesShape_36 (by decide) ?_
            refine lv_aload_n hx hb dX1_takesShape_37 rfl (lv_at hl 2 rfl) ?_
            refine xgn_101 C hw (va_Nw.use rfl (xN C hwG_X1_40)) dX1_takesShape_38 ?_
            refine lv_bipush (v := (99 : Int32)) hx hb dX1_takesShape_41 (by decide) ?_
            refine th_callVi (As := [.int (0 : Int32), .int (xi u_1 101), .int (99 : Int32)]) (rest := []) C lkX1_49 (X_TP_allWithin_c hf) hw (xRc_TP C hw) rfl rfl ⟨Nat.le_of_ble_eq_true rfl, Nat.le_of_ble_eq_true rfl⟩ hl.1 (Nat.le_of_ble_eq_true rfl) ⟨Nat.le_of_ble_eq_true rfl, Nat.le_of_ble_eq_true rfl⟩ dX1_takesShape_43 (fun r_4 u_3 H locs hf hw => ?_)
            refine lv_if_eq (tgt := 53) hx hb dX1_takesShape_46 (by decide) (fun hc => ?_) (fun hc => ?_)
            · replace hf := hf.1 hc
              clear hc
              exact X_EX_takesShape_53_w C a1 u_3 _ _ _ hf hw (lv_sub hl [0, 1, 2] rfl)
            · replace hf := hf.2 hc
              clear hc
              refine lv_iconst (v := (1 : Int32)) hx hb dX1_takesShape_49 (by decide) ?_
              refine lv_goto (tgt := 54) hx hb dX1_takesShape_50 (by decide) ?_
              exact X_EX_takesShape_54_w C a1 (1 : Int32) u_3 _ _ _ hf hw (lv_sub hl [0, 1, 2] rfl)
/-! X_Feel_settle_d -/
theorem dX2_settle_0 : decode cX2_settle 0 = .ok (.aload_n 0, 1) := by decide +kernel
theorem dX2_settle_1 : decode cX2_settle 1 = .ok (.getfield 32, 3) := by decide +kernel
theorem dX2_settle_4 : decode cX2_settle 4 = .ok (.ifnonnull 4, 3) := by decide +kernel
theorem dX2_settle_7 : decode cX2_settle 7 = .ok (.return_, 1) := by decide +kernel
theorem dX2_settle_8 : decode cX2_settle 8 = .ok (.iconst 0, 1) := by decide +kernel
theorem dX2_settle_9 : decode cX2_settle 9 = .ok (.istore_n 2, 1) := by decide +kernel
theorem dX2_settle_10 : decode cX2_settle 10 = .ok (.iload_n 2, 1) := by decide +kernel
theorem dX2_settle_11 : decode cX2_settle 11 = .ok (.aload_n 0, 1) := by decide +kernel
theorem dX2_settle_12 : decode cX2_settle 12 = .ok (.getfield 35, 3) := by decide +kernel
theorem dX2_settle_15 : decode cX2_settle 15 = .ok (.arraylength, 1) := by decide +kernel
theorem dX2_settle_16 : decode cX2_settle 16 = .ok (.if_icmp .ge 44, 3) := by decide +kernel
theorem dX2_settle_19 : decode cX2_settle 19 = .ok (.aload_n 0, 1) := by decide +kernel
theorem dX2_settle_20 : decode cX2_settle 20 = .ok (.getfield 35, 3) := by decide +kernel
theorem dX2_settle_23 : decode cX2_settle 23 = .ok (.iload_n 2, 1) := by decide +kernel
theorem dX2_settle_24 : decode cX2_settle 24 = .ok (.aload_n 0, 1) := by decide +kernel
theorem dX2_settle_25 : decode cX2_settle 25 = .ok (.getfield 32, 3) := by decide +kernel
theorem dX2_settle_28 : decode cX2_settle 28 = .ok (.iload_n 2, 1) := by decide +kernel
theorem dX2_settle_29 : decode cX2_settle 29 = .ok (.invokevirtual 39, 3) := by decide +kernel
theorem dX2_settle_32 : decode cX2_settle 32 = .ok (.aload_n 0, 1) := by decide +kernel
theorem dX2_settle_33 : decode cX2_settle 33 = .ok (.getfield 28, 3) := by decide +kernel
theorem dX2_settle_36 : decode cX2_settle 36 = .ok (.iload_n 2, 1) := by decide +kernel
theorem dX2_settle_37 : decode cX2_settle 37 = .ok (.invokevirtual 48, 3) := by decide +kernel
theorem dX2_settle_40 : decode cX2_settle 40 = .ok (.iadd, 1) := by decide +kernel
theorem dX2_settle_41 : decode cX2_settle 41 = .ok (.aload_n 0, 1) := by decide +kernel
theorem dX2_settle_42 : decode cX2_settle 42 = .ok (.getfield 32, 3) := by decide +kernel
theorem dX2_settle_45 : decode cX2_settle 45 = .ok (.getfield 28, 3) := by decide +kernel
theorem dX2_settle_48 : decode cX2_settle 48 = .ok (.iload_n 2, 1) := by decide +kernel
theorem dX2_settle_49 : decode cX2_settle 49 = .ok (.invokevirtual 48, 3) := by decide +kernel
theorem dX2_settle_52 : decode cX2_settle 52 = .ok (.isub, 1) := by decide +kernel
theorem dX2_settle_53 : decode cX2_settle 53 = .ok (.iastore, 1) := by decide +kernel
theorem dX2_settle_54 : decode cX2_settle 54 = .ok (.iinc 2 1, 3) := by decide +kernel
theorem dX2_settle_57 : decode cX2_settle 57 = .ok (.goto (-47), 3) := by decide +kernel
theorem dX2_settle_60 : decode cX2_settle 60 = .ok (.aload_n 0, 1) := by decide +kernel
theorem dX2_settle_61 : decode cX2_settle 61 = .ok (.aload_n 1, 1) := by decide +kernel
theorem dX2_settle_62 : decode cX2_settle 62 = .ok (.invokevirtual 51, 3) := by decide +kernel
theorem dX2_settle_65 : decode cX2_settle 65 = .ok (.iconst 0, 1) := by decide +kernel
theorem dX2_settle_66 : decode cX2_settle 66 = .ok (.istore_n 2, 1) := by decide +kernel
theorem dX2_settle_67 : decode cX2_settle 67 = .ok (.iload_n 2, 1) := by decide +kernel
theorem dX2_settle_68 : decode cX2_settle 68 = .ok (.aload_n 0, 1) := by decide +kernel
theorem dX2_settle_69 : decode cX2_settle 69 = .ok (.getfield 35, 3) := by decide +kernel
theorem dX2_settle_72 : decode cX2_settle 72 = .ok (.arraylength, 1) := by decide +kernel
theorem dX2_settle_73 : decode cX2_settle 73 = .ok (.if_icmp .ge 45, 3) := by decide +kernel
theorem dX2_settle_76 : decode cX2_settle 76 = .ok (.aload_n 0, 1) := by decide +kernel
theorem dX2_settle_77 : decode cX2_settle 77 = .ok (.iload_n 2, 1) := by decide +kernel
theorem dX2_settle_78 : decode cX2_settle 78 = .ok (.invokevirtual 55, 3) := by decide +kernel
theorem dX2_settle_81 : decode cX2_settle 81 = .ok (.istore_n 3, 1) := by decide +kernel
theorem dX2_settle_82 : decode cX2_settle 82 = .ok (.aload_n 0, 1) := by decide +kernel
theorem dX2_settle_83 : decode cX2_settle 83 = .ok (.dup, 1) := by decide +kernel
theorem dX2_settle_84 : decode cX2_settle 84 = .ok (.getfield 18, 3) := by decide +kernel
theorem dX2_settle_87 : decode cX2_settle 87 = .ok (.iload_n 3, 1) := by decide +kernel
theorem dX2_settle_88 : decode cX2_settle 88 = .ok (.iadd, 1) := by decide +kernel
theorem dX2_settle_89 : decode cX2_settle 89 = .ok (.putfield 18, 3) := by decide +kernel
theorem dX2_settle_92 : decode cX2_settle 92 = .ok (.aload_n 0, 1) := by decide +kernel
theorem dX2_settle_93 : decode cX2_settle 93 = .ok (.iload_n 3, 1) := by decide +kernel
theorem dX2_settle_94 : decode cX2_settle 94 = .ok (.aload_n 0, 1) := by decide +kernel
theorem dX2_settle_95 : decode cX2_settle 95 = .ok (.getfield 15, 3) := by decide +kernel
theorem dX2_settle_98 : decode cX2_settle 98 = .ok (.if_icmp .le 7, 3) := by decide +kernel
theorem dX2_settle_101 : decode cX2_settle 101 = .ok (.iload_n 3, 1) := by decide +kernel
theorem dX2_settle_102 : decode cX2_settle 102 = .ok (.goto 7, 3) := by decide +kernel
theorem dX2_settle_105 : decode cX2_settle 105 = .ok (.aload_n 0, 1) := by decide +kernel
theorem dX2_settle_106 : decode cX2_settle 106 = .ok (.getfield 15, 3) := by decide +kernel
theorem dX2_settle_109 : decode cX2_settle 109 = .ok (.putfield 15, 3) := by decide +kernel
theorem dX2_settle_112 : decode cX2_settle 112 = .ok (.iinc 2 1, 3) := by decide +kernel
theorem dX2_settle_115 : decode cX2_settle 115 = .ok (.goto (-48), 3) := by decide +kernel
theorem dX2_settle_118 : decode cX2_settle 118 = .ok (.return_, 1) := by decide +kernel
def X_Feel_settle_d_109 (K : xs_St → Prop) (k67 : Nat → Int32 → xs_St → Prop) (x0 : Nat) (x2 : Int32) (z0 : Int32) (z1 : Nat) (u : xs_St) : Prop :=
  (xd_is u z1 3 ∧ ∀ u_1 : xs_St, u_1 = xs_di u 3 z1 z0 → ∀ x2_2 : Int32, x2_2 = x2 + (1 : Int32) → k67 x0 x2_2 u_1)
set_option maxHeartbeats 4000000 in
set_option maxRecDepth 100000 in
theorem X_Feel_settle_d_109_w {K : xs_St → Prop} {k67 : Nat → Int32 → xs_St → Prop} (C : th_Cx p s m args meth c cX2_settle RX2 4 (none) (dC, dI) (th_ty cs) (xE ad ak) A) (hk67 : ∀ (x0 : Nat) (x2 : Int32) (u : xs_St) (H : Heap) (locs : List Loc) (ls : Array Slot), k67 x0 x2 u → th_wI (dC, dI) (wX cs ad q v v) A s.heap u H locs → lv_has ls 4 [(0, .ref x0), (2, .int x2)] → W p l e (th_rm 2 0 0) s m args below meth c H locs 0 0 (MQ below (va_Qv K (th_Post (dC, dI) (wX cs ad q v v) A) A) args s 0 0 A) (F0 m 67 ls [])) (x0 : Nat) (x2 : Int32) (z0 : Int32) (z1 : Nat) (u : xs_St) (H : Heap) (locs : List Loc) (ls : Array Slot) (hf : X_Feel_settle_d_109 K k67 x0 x2 z0 z1 u) (hw : th_wI (dC, dI) (wX cs ad q v v) A s.heap u H locs) (hl : lv_has ls 4 [(0, .ref x0), (2, .int x2)]) : W p l e (th_rm 2 0 0) s m args below meth c H locs 0 0 (MQ below (va_Qv K (th_Post (dC, dI) (wX cs ad q v v) A) A) args s 0 0 A) (F0 m 109 ls [.int z0, .ref z1]) := by
  have hx := C.1
  have hb := C.2.1
  unfold X_Feel_settle_d_109 at hf
  obtain ⟨hm, hf⟩ := hf
  refine xdp_Feel_peak (x := z0) C hw hm (C.2.2.2.2.1 _ hwF_X2_15) dX2_settle_109 (fun u_1 e9 H locs hw => ?_)
  replace hf := hf u_1 e9
  clear e9
  obtain ⟨x2_2, e9⟩ : ∃ y : Int32, y = x2 + (1 : Int32) := ⟨_, rfl⟩
  replace hf := hf x2_2 e9
  refine lv_iinc (v := x2_2) (lv' := [(2, .int x2_2), (0, .ref x0)]) hx hb dX2_settle_112 hl (k := 1) rfl (by rw [e9]; rfl) (by decide) rfl (fun ls hl => ?_)
  clear e9
  refine lv_goto (tgt := 67) hx hb dX2_settle_115 (by decide) ?_
  exact hk67 x0 x2_2 u_1 _ _ _ hf hw (lv_sub hl [1, 0] rfl)
def X_Feel_settle_d_67 (K : xs_St → Prop) (k67 : Nat → Int32 → xs_St → Prop) (x0 : Nat) (x2 : Int32) (u : xs_St) : Prop :=
  (xd_is u x0 3 ∧ (∃ b_1 : Nat, (xdR u 3 x0) = some b_1 ∧ xd_is u b_1 4 ∧ (((nI (xdN u b_1)) ≤ x2 → K u) ∧ (¬ (nI (xdN u b_1)) ≤ x2 → (xd_is u x0 3 ∧ X_Feel_loudness_d x0 x2 u (fun r_3 u_2 => (xd_is u_2 x0 3 ∧ (xd_is u_2 x0 3 ∧ ∀ u_4 : xs_St, u_4 = xs_di u_2 4 x0 ((xdI u_2 4 x0) + r_3) → (xd_is u_4 x0 3 ∧ ((r_3 ≤ (xdI u_4 3 x0) → (xd_is u_4 x0 3 ∧ X_Feel_settle_d_109 K k67 x0 x2 (xdI u_4 3 x0) x0 u_4)) ∧ (¬ r_3 ≤ (xdI u_4 3 x0) → X_Feel_settle_d_109 K k67 x0 x2 r_3 x0 u_4)))))))))))
set_option maxHeartbeats 4000000 in
set_option maxRecDepth 100000 in
theorem X_Feel_settle_d_67_w {K : xs_St → Prop} {k67 : Nat → Int32 → xs_St → Prop} (C : th_Cx p s m args meth c cX2_settle RX2 4 (none) (dC, dI) (th_ty cs) (xE ad ak) A) (hk67 : ∀ (x0 : Nat) (x2 : Int32) (u : xs_St) (H : Heap) (locs : List Loc) (ls : Array Slot), k67 x0 x2 u → th_wI (dC, dI) (wX cs ad q v v) A s.heap u H locs → lv_has ls 4 [(0, .ref x0), (2, .int x2)] → W p l e (th_rm 2 0 0) s m args below meth c H locs 0 0 (MQ below (va_Qv K (th_Post (dC, dI) (wX cs ad q v v) A) A) args s 0 0 A) (F0 m 67 ls [])) (x0 : Nat) (x2 : Int32) (u : xs_St) (H : Heap) (locs : List Loc) (ls : Array Slot) (hf : X_Feel_settle_d_67 K k67 x0 x2 u) (hw : th_wI (dC, dI) (wX cs ad q v v) A s.heap u H locs) (hl : lv_has ls 4 [(0, .ref x0), (2, .int x2)]) : W p l e (th_rm 2 0 0) s m args below meth c H locs 0 0 (MQ below (va_Qv K (th_Post (dC, dI) (wX cs ad q v v) A) A) args s 0 0 A) (F0 m 67 ls []) := by
  have hx := C.1
  have hb := C.2.1
  unfold X_Feel_settle_d_67 at hf
  refine lv_iload_n hx hb dX2_settle_67 rfl (lv_at hl 1 rfl) ?_
  refine lv_aload_n hx hb dX2_settle_68 rfl (lv_at hl 0 rfl) ?_
  obtain ⟨hm, hf⟩ := hf
  refine xdg_Feel_feels C hw hm (C.2.2.2.2.1 _ hwF_X2_35) dX2_settle_69 ?_
  obtain ⟨b_1, e9, hm, hf⟩ := hf
  refine W.eq (g2 := F0 m 72 ls [.ref b_1, .int x2]) (congrArg (fun z9 => F0 m 72 ls [va_rf z9, .int x2]) e9) ?_
  clear e9
  refine xdn_4 C hw hm dX2_settle_72 ?_
  refine lv_icmp_ge (tgt := 118) hx hb dX2_settle_73 (by decide) (fun hc => ?_) (fun hc => ?_)
  · replace hf := hf.1 hc
    clear hc
    exact th_vret C hw hf dX2_settle_118
  · replace hf := hf.2 hc
    clear hc
    refine lv_aload_n hx hb dX2_settle_76 rfl (lv_at hl 0 rfl) ?_
    refine lv_iload_n hx hb dX2_settle_77 rfl (lv_at hl 1 rfl) ?_
    obtain ⟨hm, hf⟩ := hf
    refine th_callVi (As := [.int x2]) (rest := []) C lkX2_55 (X_Feel_loudness_d_c hf) hw (xdRc_Feel C hw hm) rfl rfl ⟨Nat.le_of_ble_eq_true rfl, Nat.le_of_ble_eq_true rfl⟩ hl.1 (Nat.le_of_ble_eq_true rfl) ⟨Nat.le_of_ble_eq_true rfl, Nat.le_of_ble_eq_true rfl⟩ dX2_settle_78 (fun r_3 u_2 H locs hf hw => ?_)
    refine lv_istore_n (lv' := [(3, .int r_3), (0, .ref x0), (2, .int x2)]) hx hb dX2_settle_81 rfl hl (by decide) rfl (fun ls hl => ?_)
    refine lv_aload_n hx hb dX2_settle_82 rfl (lv_at hl 1 rfl) ?_
    refine lv_dup hx hb dX2_settle_83 rfl ?_
    obtain ⟨hm, hf⟩ := hf
    refine xdg_Feel_sum C hw hm (C.2.2.2.2.1 _ hwF_X2_18) dX2_settle_84 ?_
    refine lv_iload_n hx hb dX2_settle_87 rfl (lv_at hl 0 rfl) ?_
    refine lv_iadd hx hb dX2_settle_88 ?_
    obtain ⟨hm, hf⟩ := hf
    refine xdp_Feel_sum (x := ((xdI u_2 4 x0) + r_3)) C hw hm (C.2.2.2.2.1 _ hwF_X2_18) dX2_settle_89 (fun u_4 e9 H locs hw => ?_)
    replace hf := hf u_4 e9
    clear e9
    refine lv_aload_n hx hb dX2_settle_92 rfl (lv_at hl 1 rfl) ?_
    refine lv_iload_n hx hb dX2_settle_93 rfl (lv_at hl 0 rfl) ?_
    refine lv_aload_n hx hb dX2_settle_94 rfl (lv_at hl 1 rfl) ?_
    obtain ⟨hm, hf⟩ := hf
    refine xdg_Feel_peak C hw hm (C.2.2.2.2.1 _ hwF_X2_15) dX2_settle_95 ?_
    refine lv_icmp_le (tgt := 105) hx hb dX2_settle_98 (by decide) (fun hc => ?_) (fun hc => ?_)
    · replace hf := hf.1 hc
      clear hc
      refine lv_aload_n hx hb dX2_settle_105 rfl (lv_at hl 1 rfl) ?_
      obtain ⟨hm, hf⟩ := hf
      refine xdg_Feel_peak C hw hm (C.2.2.2.2.1 _ hwF_X2_15) dX2_settle_106 ?_
      exact X_Feel_settle_d_109_w C hk67 x0 x2 (xdI u_4 3 x0) x0 u_4 _ _ _ hf hw (lv_sub hl [1, 2] rfl)
    · replace hf := hf.2 hc
      clear hc
      refine lv_iload_n hx hb dX2_settle_101 rfl (lv_at hl 0 rfl) ?_
      refine lv_goto (tgt := 109) hx hb dX2_settle_102 (by decide) ?_
      exact X_Feel_settle_d_109_w C hk67 x0 x2 r_3 x0 u_4 _ _ _ hf hw (lv_sub hl [1, 2] rfl)
def X_Feel_settle_d_67_lp (K : xs_St → Prop) : Nat → Nat → Int32 → xs_St → Prop
  | 0, _, _, _ => False
  | n + 1, x0, x2, u => X_Feel_settle_d_67 K (X_Feel_settle_d_67_lp K n) x0 x2 u
set_option maxHeartbeats 4000000 in
set_option maxRecDepth 100000 in
theorem X_Feel_settle_d_67_lw {K : xs_St → Prop} (C : th_Cx p s m args meth c cX2_settle RX2 4 (none) (dC, dI) (th_ty cs) (xE ad ak) A) (n : Nat) : ∀ (x0 : Nat) (x2 : Int32) (u : xs_St) (H : Heap) (locs : List Loc) (ls : Array Slot), X_Feel_settle_d_67_lp K n x0 x2 u → th_wI (dC, dI) (wX cs ad q v v) A s.heap u H locs → lv_has ls 4 [(0, .ref x0), (2, .int x2)] → W p l e (th_rm 2 0 0) s m args below meth c H locs 0 0 (MQ below (va_Qv K (th_Post (dC, dI) (wX cs ad q v v) A) A) args s 0 0 A) (F0 m 67 ls []) := by
  induction n with
  | zero => intro x0 x2 u H locs ls hf; exact hf.elim
  | succ n ih =>
    intro x0 x2 u H locs ls hf hw hl
    exact X_Feel_settle_d_67_w C ih x0 x2 u H locs ls hf hw hl
def X_Feel_settle_d_10 (K : xs_St → Prop) (k10 : Nat → Int32 → xs_St → Prop) (x0 : Nat) (x2 : Int32) (u : xs_St) : Prop :=
  (xd_is u x0 3 ∧ (∃ b_1 : Nat, (xdR u 3 x0) = some b_1 ∧ xd_is u b_1 4 ∧ (((nI (xdN u b_1)) ≤ x2 → (xd_is u x0 3 ∧ X_Feel_slipAll_d x0 u (fun u_2 => ∃ n, X_Feel_settle_d_67_lp K n x0 (0 : Int32) u_2))) ∧ (¬ (nI (xdN u b_1)) ≤ x2 → (xd_is u x0 3 ∧ (xd_is u x0 3 ∧ (∃ b_4 : Nat, (xdR u 2 x0) = some b_4 ∧ xd_is u b_4 3 ∧ X_Feel_of_d b_4 x2 u (fun r_6 u_5 => (xd_is u_5 x0 3 ∧ (∃ b_7 : Nat, (xdR u_5 1 x0) = some b_7 ∧ xd_is u_5 b_7 1 ∧ X_Row_stretch_d b_7 x2 u_5 (fun r_9 u_8 => (xd_is u_8 x0 3 ∧ (∃ b_10 : Nat, (xdR u_8 2 x0) = some b_10 ∧ xd_is u_8 b_10 3 ∧ (∃ b_11 : Nat, (xdR u_8 1 b_10) = some b_11 ∧ xd_is u_8 b_11 1 ∧ X_Row_stretch_d b_11 x2 u_8 (fun r_13 u_12 => (∃ b_15 : Nat, (xdR u 3 x0) = some b_15 ∧ xd_is u_12 b_15 4 ∧ (vp_in x2 (xdN u_12 b_15) ∧ ∀ u_14 : xs_St, u_14 = xs_da u_12 b_15 (upd (xdA u_12 b_15) (x2).toNatClampNeg ((r_6 + r_9) - r_13)) → ∀ x2_16 : Int32, x2_16 = x2 + (1 : Int32) → k10 x0 x2_16 u_14)))))))))))))))))
set_option maxHeartbeats 4000000 in
set_option maxRecDepth 100000 in
theorem X_Feel_settle_d_10_w {K : xs_St → Prop} {k10 : Nat → Int32 → xs_St → Prop} (C : th_Cx p s m args meth c cX2_settle RX2 4 (none) (dC, dI) (th_ty cs) (xE ad ak) A) (hk10 : ∀ (x0 : Nat) (x2 : Int32) (u : xs_St) (H : Heap) (locs : List Loc) (ls : Array Slot), k10 x0 x2 u → th_wI (dC, dI) (wX cs ad q v v) A s.heap u H locs → lv_has ls 4 [(0, .ref x0), (1, .ref (v 399)), (2, .int x2)] → W p l e (th_rm 2 0 0) s m args below meth c H locs 0 0 (MQ below (va_Qv K (th_Post (dC, dI) (wX cs ad q v v) A) A) args s 0 0 A) (F0 m 10 ls [])) (x0 : Nat) (x2 : Int32) (u : xs_St) (H : Heap) (locs : List Loc) (ls : Array Slot) (hf : X_Feel_settle_d_10 K k10 x0 x2 u) (hw : th_wI (dC, dI) (wX cs ad q v v) A s.heap u H locs) (hl : lv_has ls 4 [(0, .ref x0), (1, .ref (v 399)), (2, .int x2)]) : W p l e (th_rm 2 0 0) s m args below meth c H locs 0 0 (MQ below (va_Qv K (th_Post (dC, dI) (wX cs ad q v v) A) A) args s 0 0 A) (F0 m 10 ls []) := by
  have hx := C.1
  have hb := C.2.1
  unfold X_Feel_settle_d_10 at hf
  refine lv_iload_n hx hb dX2_settle_10 rfl (lv_at hl 2 rfl) ?_
  refine lv_aload_n hx hb dX2_settle_11 rfl (lv_at hl 0 rfl) ?_
  obtain ⟨hm, hf⟩ := hf
  refine xdg_Feel_feels C hw hm (C.2.2.2.2.1 _ hwF_X2_35) dX2_settle_12 ?_
  obtain ⟨b_1, e9, hm, hf⟩ := hf
  refine W.eq (g2 := F0 m 15 ls [.ref b_1, .int x2]) (congrArg (fun z9 => F0 m 15 ls [va_rf z9, .int x2]) e9) ?_
  clear e9
  refine xdn_4 C hw hm dX2_settle_15 ?_
  refine lv_icmp_ge (tgt := 60) hx hb dX2_settle_16 (by decide) (fun hc => ?_) (fun hc => ?_)
  · replace hf := hf.1 hc
    clear hc
    refine lv_aload_n hx hb dX2_settle_60 rfl (lv_at hl 0 rfl) ?_
    refine lv_aload_n hx hb dX2_settle_61 rfl (lv_at hl 1 rfl) ?_
    obtain ⟨hm, hf⟩ := hf
    refine th_callVv (As := [.ref (v 399)]) (rest := []) C lkX2_51 (X_Feel_slipAll_d_c hf) hw (xdRc_Feel C hw hm) rfl rfl ⟨Nat.le_of_ble_eq_true rfl, Nat.le_of_ble_eq_true rfl⟩ hl.1 (Nat.le_of_ble_eq_true rfl) ⟨Nat.le_of_ble_eq_true rfl, Nat.le_of_ble_eq_true rfl⟩ dX2_settle_62 (fun u_2 H locs hf hw => ?_)
    refine lv_iconst (v := (0 : Int32)) hx hb dX2_settle_65 (by decide) ?_
    refine lv_istore_n (lv' := [(2, .int (0 : Int32)), (0, .ref x0), (1, .ref (v 399))]) hx hb dX2_settle_66 rfl hl (by decide) rfl (fun ls hl => ?_)
    obtain ⟨n, hf⟩ := hf
    exact X_Feel_settle_d_67_lw C n x0 (0 : Int32) u_2 _ _ _ hf hw (lv_sub hl [1, 0] rfl)
  · replace hf := hf.2 hc
    clear hc
    refine lv_aload_n hx hb dX2_settle_19 rfl (lv_at hl 0 rfl) ?_
    obtain ⟨hm, hf⟩ := hf
    refine xdg_Feel_feels C hw hm (C.2.2.2.2.1 _ hwF_X2_35) dX2_settle_20 ?_
    refine lv_iload_n hx hb dX2_settle_23 rfl (lv_at hl 2 rfl) ?_
    refine lv_aload_n hx hb dX2_settle_24 rfl (lv_at hl 0 rfl) ?_
    obtain ⟨hm, hf⟩ := hf
    refine xdg_Feel_ahead C hw hm (C.2.2.2.2.1 _ hwF_X2_32) dX2_settle_25 ?_
    refine lv_iload_n hx hb dX2_settle_28 rfl (lv_at hl 2 rfl) ?_
    obtain ⟨b_4, e9, hm, hf⟩ := hf
    refine W.eq (g2 := F0 m 29 ls [.int x2, .ref b_4, .int x2, va_rf (xdR u 3 x0)]) (congrArg (fun z9 => F0 m 29 ls [.int x2, va_rf z9, .int x2, va_rf (xdR u 3 x0)]) e9) ?_
    clear e9
    refine th_callVi (As := [.int x2]) (rest := [.int x2, va_rf (xdR u 3 x0)]) C lkX2_39 (X_Feel_of_d_c hf) hw (xdRc_Feel C hw hm) rfl rfl ⟨Nat.le_of_ble_eq_true rfl, Nat.le_of_ble_eq_true rfl⟩ hl.1 (by simp only [List.map, th_cat, th_cate]; exact Nat.le_of_ble_eq_true rfl) ⟨Nat.le_of_ble_eq_true rfl, Nat.le_of_ble_eq_true rfl⟩ dX2_settle_29 (fun r_6 u_5 H locs hf hw => ?_)
    refine lv_aload_n hx hb dX2_settle_32 rfl (lv_at hl 0 rfl) ?_
    obtain ⟨hm, hf⟩ := hf
    refine xdg_Feel_row C hw hm (C.2.2.2.2.1 _ hwF_X2_28) dX2_settle_33 ?_
    refine lv_iload_n hx hb dX2_settle_36 rfl (lv_at hl 2 rfl) ?_
    obtain ⟨b_7, e9, hm, hf⟩ := hf
    refine W.eq (g2 := F0 m 37 ls [.int x2, .ref b_7, .int r_6, .int x2, va_rf (xdR u 3 x0)]) (congrArg (fun z9 => F0 m 37 ls [.int x2, va_rf z9, .int r_6, .int x2, va_rf (xdR u 3 x0)]) e9) ?_
    clear e9
    refine th_callVi (As := [.int x2]) (rest := [.int r_6, .int x2, va_rf (xdR u 3 x0)]) C lkX2_48 (X_Row_stretch_d_c hf) hw (xdRc_Row C hw hm) rfl rfl ⟨Nat.le_of_ble_eq_true rfl, Nat.le_of_ble_eq_true rfl⟩ hl.1 (by simp only [List.map, th_cat, th_cate]; exact Nat.le_of_ble_eq_true rfl) ⟨Nat.le_of_ble_eq_true rfl, Nat.le_of_ble_eq_true rfl⟩ dX2_settle_37 (fun r_9 u_8 H locs hf hw => ?_)
    refine lv_iadd hx hb dX2_settle_40 ?_
    refine lv_aload_n hx hb dX2_settle_41 rfl (lv_at hl 0 rfl) ?_
    obtain ⟨hm, hf⟩ := hf
    refine xdg_Feel_ahead C hw hm (C.2.2.2.2.1 _ hwF_X2_32) dX2_settle_42 ?_
    obtain ⟨b_10, e9, hm, hf⟩ := hf
    refine W.eq (g2 := F0 m 45 ls [.ref b_10, .int (r_6 + r_9), .int x2, va_rf (xdR u 3 x0)]) (congrArg (fun z9 => F0 m 45 ls [va_rf z9, .int (r_6 + r_9), .int x2, va_rf (xdR u 3 x0)]) e9) ?_
    clear e9
    refine xdg_Feel_row C hw hm (C.2.2.2.2.1 _ hwF_X2_28) dX2_settle_45 ?_
    refine lv_iload_n hx hb dX2_settle_48 rfl (lv_at hl 2 rfl) ?_
    obtain ⟨b_11, e9, hm, hf⟩ := hf
    refine W.eq (g2 := F0 m 49 ls [.int x2, .ref b_11, .int (r_6 + r_9), .int x2, va_rf (xdR u 3 x0)]) (congrArg (fun z9 => F0 m 49 ls [.int x2, va_rf z9, .int (r_6 + r_9), .int x2, va_rf (xdR u 3 x0)]) e9) ?_
    clear e9
    refine th_callVi (As := [.int x2]) (rest := [.int (r_6 + r_9), .int x2, va_rf (xdR u 3 x0)]) C lkX2_48 (X_Row_stretch_d_c hf) hw (xdRc_Row C hw hm) rfl rfl ⟨Nat.le_of_ble_eq_true rfl, Nat.le_of_ble_eq_true rfl⟩ hl.1 (by simp only [List.map, th_cat, th_cate]; exact Nat.le_of_ble_eq_true rfl) ⟨Nat.le_of_ble_eq_true rfl, Nat.le_of_ble_eq_true rfl⟩ dX2_settle_49 (fun r_13 u_12 H locs hf hw => ?_)
    refine lv_isub hx hb dX2_settle_52 ?_
    obtain ⟨b_15, e9, hm, hf⟩ := hf
    refine W.eq (g2 := F0 m 53 ls [.int ((r_6 + r_9) - r_13), .int x2, .ref b_15]) (congrArg (fun z9 => F0 m 53 ls [.int ((r_6 + r_9) - r_13), .int x2, va_rf z9]) e9) ?_
    clear e9
    refine xds_4 C hw hm hf.1 dX2_settle_53 (fun u_14 e9 H locs hw => ?_)
    replace hf := hf.2 u_14 e9
    clear e9
    obtain ⟨x2_16, e9⟩ : ∃ y : Int32, y = x2 + (1 : Int32) := ⟨_, rfl⟩
    replace hf := hf x2_16 e9
    refine lv_iinc (v := x2_16) (lv' := [(2, .int x2_16), (0, .ref x0), (1, .ref (v 399))]) hx hb dX2_settle_54 hl (k := 2) rfl (by rw [e9]; rfl) (by decide) rfl (fun ls hl => ?_)
    clear e9
    refine lv_goto (tgt := 10) hx hb dX2_settle_57 (by decide) ?_
    exact hk10 x0 x2_16 u_14 _ _ _ hf hw (lv_sub hl [1, 2, 0] rfl)
def X_Feel_settle_d_10_lp (K : xs_St → Prop) : Nat → Nat → Int32 → xs_St → Prop
  | 0, _, _, _ => False
  | n + 1, x0, x2, u => X_Feel_settle_d_10 K (X_Feel_settle_d_10_lp K n) x0 x2 u
set_option maxHeartbeats 4000000 in
set_option maxRecDepth 100000 in
theorem X_Feel_settle_d_10_lw {K : xs_St → Prop} (C : th_Cx p s m args meth c cX2_settle RX2 4 (none) (dC, dI) (th_ty cs) (xE ad ak) A) (n : Nat) : ∀ (x0 : Nat) (x2 : Int32) (u : xs_St) (H : Heap) (locs : List Loc) (ls : Array Slot), X_Feel_settle_d_10_lp K n x0 x2 u → th_wI (dC, dI) (wX cs ad q v v) A s.heap u H locs → lv_has ls 4 [(0, .ref x0), (1, .ref (v 399)), (2, .int x2)] → W p l e (th_rm 2 0 0) s m args below meth c H locs 0 0 (MQ below (va_Qv K (th_Post (dC, dI) (wX cs ad q v v) A) A) args s 0 0 A) (F0 m 10 ls []) := by
  induction n with
  | zero => intro x0 x2 u H locs ls hf; exact hf.elim
  | succ n ih =>
    intro x0 x2 u H locs ls hf hw hl
    exact X_Feel_settle_d_10_w C ih x0 x2 u H locs ls hf hw hl
def X_Feel_settle_d (a0 : Nat) (u : xs_St) (K : xs_St → Prop) : Prop :=
  (xd_is u a0 3 ∧ ((¬ (xdR u 2 a0) = none → ∃ n, X_Feel_settle_d_10_lp K n a0 (0 : Int32) u) ∧ ((xdR u 2 a0) = none → K u)))
set_option maxHeartbeats 4000000 in
set_option maxRecDepth 100000 in
theorem X_Feel_settle_d_c {l : Launch} {dC : Nat → ClassId} {dI : Nat → Nat → Nat} {cs : Nat → ClassId} {ad ak : Nat → Nat} {q v : Nat → Nat} {a0 : Nat} {u : xs_St} {K : xs_St → Prop} (hf : X_Feel_settle_d a0 u K) : th_Cv l yX2_settle cX2_settle 4 (none) 2 0 0 (dC, dI) (th_ty cs) (xE ad ak) (wX cs ad q v v) [.ref a0, .ref (v 399)] u K := by
  refine th_ofv (by decide) (Nat.le_of_ble_eq_true rfl) (xE_ok ad ak) ?_
  intro p e s m below meth c A ls C hw hl
  have C : th_Cx p s m _ meth c cX2_settle RX2 4 (none) (dC, dI) (th_ty cs) (xE ad ak) A := C
  have hl : lv_has ls 4 [(0, .ref a0), (1, .ref (v 399))] := hl
  generalize (List.toArray _ : Array Value) = args at C ⊢
  have hx := C.1
  have hb := C.2.1
  unfold X_Feel_settle_d at hf
  refine lv_aload_n hx hb dX2_settle_0 rfl (lv_at hl 0 rfl) ?_
  obtain ⟨hm, hf⟩ := hf
  refine xdg_Feel_ahead C hw hm (C.2.2.2.2.1 _ hwF_X2_32) dX2_settle_1 ?_
  refine th_ifnonnull (tgt := 8) hx hb dX2_settle_4 (by decide) (fun hc => ?_) (fun hc => ?_)
  · replace hf := hf.1 hc
    clear hc
    refine lv_iconst (v := (0 : Int32)) hx hb dX2_settle_8 (by decide) ?_
    refine lv_istore_n (lv' := [(2, .int (0 : Int32)), (0, .ref a0), (1, .ref (v 399))]) hx hb dX2_settle_9 rfl hl (by decide) rfl (fun ls hl => ?_)
    obtain ⟨n, hf⟩ := hf
    exact X_Feel_settle_d_10_lw C n a0 (0 : Int32) u _ _ _ hf hw (lv_sub hl [1, 2, 0] rfl)
  · replace hf := hf.2 hc
    clear hc
    exact th_vret C hw hf dX2_settle_7
/-! X_LN_costPaired -/
theorem dX3_costPaired_0 : decode cX3_costPaired 0 = .ok (.aload_n 1, 1) := by decide +kernel
theorem dX3_costPaired_1 : decode cX3_costPaired 1 = .ok (.iload_n 3, 1) := by decide +kernel
theorem dX3_costPaired_2 : decode cX3_costPaired 2 = .ok (.invokevirtual 49, 3) := by decide +kernel
theorem dX3_costPaired_5 : decode cX3_costPaired 5 = .ok (.aload_n 1, 1) := by decide +kernel
theorem dX3_costPaired_6 : decode cX3_costPaired 6 = .ok (.iload_n 2, 1) := by decide +kernel
theorem dX3_costPaired_7 : decode cX3_costPaired 7 = .ok (.iload 4, 2) := by decide +kernel
theorem dX3_costPaired_9 : decode cX3_costPaired 9 = .ok (.iadd, 1) := by decide +kernel
theorem dX3_costPaired_10 : decode cX3_costPaired 10 = .ok (.invokevirtual 49, 3) := by decide +kernel
theorem dX3_costPaired_13 : decode cX3_costPaired 13 = .ok (.isub, 1) := by decide +kernel
theorem dX3_costPaired_14 : decode cX3_costPaired 14 = .ok (.istore 5, 2) := by decide +kernel
theorem dX3_costPaired_16 : decode cX3_costPaired 16 = .ok (.iload 5, 2) := by decide +kernel
theorem dX3_costPaired_18 : decode cX3_costPaired 18 = .ok (.invokestatic 53, 3) := by decide +kernel
theorem dX3_costPaired_21 : decode cX3_costPaired 21 = .ok (.aload_n 0, 1) := by decide +kernel
theorem dX3_costPaired_22 : decode cX3_costPaired 22 = .ok (.getfield 19, 3) := by decide +kernel
theorem dX3_costPaired_25 : decode cX3_costPaired 25 = .ok (.iload_n 3, 1) := by decide +kernel
theorem dX3_costPaired_26 : decode cX3_costPaired 26 = .ok (.iconst 1, 1) := by decide +kernel
theorem dX3_costPaired_27 : decode cX3_costPaired 27 = .ok (.iadd, 1) := by decide +kernel
theorem dX3_costPaired_28 : decode cX3_costPaired 28 = .ok (.bipush 49, 2) := by decide +kernel
theorem dX3_costPaired_30 : decode cX3_costPaired 30 = .ok (.imul, 1) := by decide +kernel
theorem dX3_costPaired_31 : decode cX3_costPaired 31 = .ok (.iload 4, 2) := by decide +kernel
theorem dX3_costPaired_33 : decode cX3_costPaired 33 = .ok (.iadd, 1) := by decide +kernel
theorem dX3_costPaired_34 : decode cX3_costPaired 34 = .ok (.iconst 1, 1) := by decide +kernel
theorem dX3_costPaired_35 : decode cX3_costPaired 35 = .ok (.iadd, 1) := by decide +kernel
theorem dX3_costPaired_36 : decode cX3_costPaired 36 = .ok (.iaload, 1) := by decide +kernel
theorem dX3_costPaired_37 : decode cX3_costPaired 37 = .ok (.iadd, 1) := by decide +kernel
theorem dX3_costPaired_38 : decode cX3_costPaired 38 = .ok (.ireturn, 1) := by decide +kernel
def X_LN_costPaired (a2 : Int32) (a3 : Int32) (a4 : Int32) (u : xs_St) (K : Int32 → xs_St → Prop) : Prop :=
  X_TP_unsigned a3 u (fun r_2 u_1 => X_TP_unsigned (a2 + a4) u_1 (fun r_4 u_3 => ∀ y_5 : Int32, y_5 = (r_2 - r_4) → (vp_in ((((a3 + (1 : Int32)) * (49 : Int32)) + a4) + (1 : Int32)) 2401 ∧ ∀ y_6 : Int32, y_6 = xa u_3 902 (((((a3 + (1 : Int32)) * (49 : Int32)) + a4) + (1 : Int32))).toNatClampNeg → K ((if 0 ≤ y_5 then y_5 else 0 - y_5) + y_6) u_3)))
set_option maxHeartbeats 4000000 in
set_option maxRecDepth 100000 in
theorem X_LN_costPaired_c {l : Launch} {dC : Nat → ClassId} {dI : Nat → Nat → Nat} {cs : Nat → ClassId} {ad ak : Nat → Nat} {q v : Nat → Nat} {a2 : Int32} {a3 : Int32} {a4 : Int32} {u : xs_St} {K : Int32 → xs_St → Prop} (hf : X_LN_costPaired a2 a3 a4 u K) : th_Ci l yX3_costPaired cX3_costPaired 6 (some .int) 2 0 0 (dC, dI) (th_ty cs) (xE ad ak) (wX cs ad q v v) [.ref (q 999), .ref (q 199), .int a2, .int a3, .int a4] u K := by
  refine th_ofi (by decide) (Nat.le_of_ble_eq_true rfl) (xE_ok ad ak) ?_
  intro p e s m below meth c A ls C hw hl
  have C : th_Cx p s m _ meth c cX3_costPaired RX3 6 (some .int) (dC, dI) (th_ty cs) (xE ad ak) A := C
  have hl : lv_has ls 6 [(0, .ref (q 999)), (1, .ref (q 199)), (2, .int a2), (3, .int a3), (4, .int a4)] := hl
  generalize (List.toArray _ : Array Value) = args at C ⊢
  have hx := C.1
  have hb := C.2.1
  unfold X_LN_costPaired at hf
  refine lv_aload_n hx hb dX3_costPaired_0 rfl (lv_at hl 1 rfl) ?_
  refine lv_iload_n hx hb dX3_costPaired_1 rfl (lv_at hl 3 rfl) ?_
  refine th_callVi (As := [.int a3]) (rest := []) C lkX3_49 (X_TP_unsigned_c hf) hw (xRc_TP C hw) rfl rfl ⟨Nat.le_of_ble_eq_true rfl, Nat.le_of_ble_eq_true rfl⟩ hl.1 (Nat.le_of_ble_eq_true rfl) ⟨Nat.le_of_ble_eq_true rfl, Nat.le_of_ble_eq_true rfl⟩ dX3_costPaired_2 (fun r_2 u_1 H locs hf hw => ?_)
  refine lv_aload_n hx hb dX3_costPaired_5 rfl (lv_at hl 1 rfl) ?_
  refine lv_iload_n hx hb dX3_costPaired_6 rfl (lv_at hl 2 rfl) ?_
  refine lv_iload hx hb dX3_costPaired_7 (lv_at hl 4 rfl) ?_
  refine lv_iadd hx hb dX3_costPaired_9 ?_
  refine th_callVi (As := [.int (a2 + a4)]) (rest := [.int r_2]) C lkX3_49 (X_TP_unsigned_c hf) hw (xRc_TP C hw) rfl rfl ⟨Nat.le_of_ble_eq_true rfl, Nat.le_of_ble_eq_true rfl⟩ hl.1 (Nat.le_of_ble_eq_true rfl) ⟨Nat.le_of_ble_eq_true rfl, Nat.le_of_ble_eq_true rfl⟩ dX3_costPaired_10 (fun r_4 u_3 H locs hf hw => ?_)
  refine lv_isub hx hb dX3_costPaired_13 ?_
  refine lv_topi (fun y_5 e9 => ?_)
  replace hf := hf y_5 e9
  clear e9
  refine lv_istore (lv' := [(5, .int y_5), (0, .ref (q 999)), (1, .ref (q 199)), (2, .int a2), (3, .int a3), (4, .int a4)]) hx hb dX3_costPaired_14 hl (by decide) rfl (fun ls hl => ?_)
  refine lv_iload hx hb dX3_costPaired_16 (lv_at hl 0 rfl) ?_
  refine va_mabs hx hb (C.2.2.1.trans hl.1.symm) C.2.2.2.1 (C.2.2.2.2.1 _ hwM_X3_53) (C.2.2.2.2.1 _ hwS_Math_abs) (C.2.2.2.2.1 _ hwI_Math) (C.2.2.2.2.1 _ hwC_Math_abs) (Nat.le_of_ble_eq_true rfl) (Nat.le_of_ble_eq_true rfl) (Nat.le_of_ble_eq_true rfl) (Nat.le_of_ble_eq_true rfl) dX3_costPaired_18 ?_
  refine lv_aload_n hx hb dX3_costPaired_21 rfl (lv_at hl 1 rfl) ?_
  refine xg_902 C hw (C.2.2.2.2.1 _ hwF_X3_19) dX3_costPaired_22 ?_
  refine lv_iload_n hx hb dX3_costPaired_25 rfl (lv_at hl 4 rfl) ?_
  refine lv_iconst (v := (1 : Int32)) hx hb dX3_costPaired_26 (by decide) ?_
  refine lv_iadd hx hb dX3_costPaired_27 ?_
  refine lv_bipush (v := (49 : Int32)) hx hb dX3_costPaired_28 (by decide) ?_
  refine lv_imul hx hb dX3_costPaired_30 ?_
  refine lv_iload hx hb dX3_costPaired_31 (lv_at hl 5 rfl) ?_
  refine lv_iadd hx hb dX3_costPaired_33 ?_
  refine lv_iconst (v := (1 : Int32)) hx hb dX3_costPaired_34 (by decide) ?_
  refine lv_iadd hx hb dX3_costPaired_35 ?_
  refine yl_902 C hw hf.1 dX3_costPaired_36 (fun y_6 e9 => ?_)
  replace hf := hf.2 y_6 e9
  clear e9
  refine lv_iadd hx hb dX3_costPaired_37 ?_
  exact th_iret C hw hf dX3_costPaired_38
/-! X_RD_behindRun -/
theorem dX4_behindRun_0 : decode cX4_behindRun 0 = .ok (.iload_n 1, 1) := by decide +kernel
theorem dX4_behindRun_1 : decode cX4_behindRun 1 = .ok (.istore_n 2, 1) := by decide +kernel
theorem dX4_behindRun_2 : decode cX4_behindRun 2 = .ok (.iload_n 2, 1) := by decide +kernel
theorem dX4_behindRun_3 : decode cX4_behindRun 3 = .ok (.aload_n 0, 1) := by decide +kernel
theorem dX4_behindRun_4 : decode cX4_behindRun 4 = .ok (.getfield 94, 3) := by decide +kernel
theorem dX4_behindRun_7 : decode cX4_behindRun 7 = .ok (.if_icmp .ge 40, 3) := by decide +kernel
theorem dX4_behindRun_10 : decode cX4_behindRun 10 = .ok (.aload_n 0, 1) := by decide +kernel
theorem dX4_behindRun_11 : decode cX4_behindRun 11 = .ok (.iload_n 2, 1) := by decide +kernel
theorem dX4_behindRun_12 : decode cX4_behindRun 12 = .ok (.invokevirtual 113, 3) := by decide +kernel
theorem dX4_behindRun_15 : decode cX4_behindRun 15 = .ok (.invokestatic 129, 3) := by decide +kernel
theorem dX4_behindRun_18 : decode cX4_behindRun 18 = .ok (.ifCond .ne 23, 3) := by decide +kernel
theorem dX4_behindRun_21 : decode cX4_behindRun 21 = .ok (.aload_n 0, 1) := by decide +kernel
theorem dX4_behindRun_22 : decode cX4_behindRun 22 = .ok (.iload_n 2, 1) := by decide +kernel
theorem dX4_behindRun_23 : decode cX4_behindRun 23 = .ok (.invokevirtual 113, 3) := by decide +kernel
theorem dX4_behindRun_26 : decode cX4_behindRun 26 = .ok (.bipush 97, 2) := by decide +kernel
theorem dX4_behindRun_28 : decode cX4_behindRun 28 = .ok (.if_icmp .lt 19, 3) := by decide +kernel
theorem dX4_behindRun_31 : decode cX4_behindRun 31 = .ok (.aload_n 0, 1) := by decide +kernel
theorem dX4_behindRun_32 : decode cX4_behindRun 32 = .ok (.iload_n 2, 1) := by decide +kernel
theorem dX4_behindRun_33 : decode cX4_behindRun 33 = .ok (.invokevirtual 113, 3) := by decide +kernel
theorem dX4_behindRun_36 : decode cX4_behindRun 36 = .ok (.bipush 122, 2) := by decide +kernel
theorem dX4_behindRun_38 : decode cX4_behindRun 38 = .ok (.if_icmp .gt 9, 3) := by decide +kernel
theorem dX4_behindRun_41 : decode cX4_behindRun 41 = .ok (.iinc 2 1, 3) := by decide +kernel
theorem dX4_behindRun_44 : decode cX4_behindRun 44 = .ok (.goto (-42), 3) := by decide +kernel
theorem dX4_behindRun_47 : decode cX4_behindRun 47 = .ok (.iload_n 2, 1) := by decide +kernel
theorem dX4_behindRun_48 : decode cX4_behindRun 48 = .ok (.iload_n 1, 1) := by decide +kernel
theorem dX4_behindRun_49 : decode cX4_behindRun 49 = .ok (.iconst 1, 1) := by decide +kernel
theorem dX4_behindRun_50 : decode cX4_behindRun 50 = .ok (.iadd, 1) := by decide +kernel
theorem dX4_behindRun_51 : decode cX4_behindRun 51 = .ok (.invokestatic 132, 3) := by decide +kernel
theorem dX4_behindRun_54 : decode cX4_behindRun 54 = .ok (.ireturn, 1) := by decide +kernel
def X_RD_behindRun_41 (K : Int32 → xs_St → Prop) (k2 : Int32 → Int32 → xs_St → Prop) (x1 : Int32) (x2 : Int32) (u : xs_St) : Prop :=
  ∀ x2_1 : Int32, x2_1 = x2 + (1 : Int32) → k2 x1 x2_1 u
set_option maxHeartbeats 4000000 in
set_option maxRecDepth 100000 in
theorem X_RD_behindRun_41_w {K : Int32 → xs_St → Prop} {k2 : Int32 → Int32 → xs_St → Prop} (C : th_Cx p s m args meth c cX4_behindRun RX4 3 (some .int) (dC, dI) (th_ty cs) (xE ad ak) A) (hk2 : ∀ (x1 : Int32) (x2 : Int32) (u : xs_St) (H : Heap) (locs : List Loc) (ls : Array Slot), k2 x1 x2 u → th_wI (dC, dI) (wX cs ad q v v) A s.heap u H locs → lv_has ls 3 [(0, .ref (q 199)), (1, .int x1), (2, .int x2)] → W p l e (th_rm 2 0 0) s m args below meth c H locs 0 0 (MQ below (va_Qi K (th_Post (dC, dI) (wX cs ad q v v) A) A) args s 0 0 A) (F0 m 2 ls [])) (x1 : Int32) (x2 : Int32) (u : xs_St) (H : Heap) (locs : List Loc) (ls : Array Slot) (hf : X_RD_behindRun_41 K k2 x1 x2 u) (hw : th_wI (dC, dI) (wX cs ad q v v) A s.heap u H locs) (hl : lv_has ls 3 [(0, .ref (q 199)), (1, .int x1), (2, .int x2)]) : W p l e (th_rm 2 0 0) s m args below meth c H locs 0 0 (MQ below (va_Qi K (th_Post (dC, dI) (wX cs ad q v v) A) A) args s 0 0 A) (F0 m 41 ls []) := by
  have hx := C.1
  have hb := C.2.1
  unfold X_RD_behindRun_41 at hf
  obtain ⟨x2_1, e9⟩ : ∃ y : Int32, y = x2 + (1 : Int32) := ⟨_, rfl⟩
  replace hf := hf x2_1 e9
  refine lv_iinc (v := x2_1) (lv' := [(2, .int x2_1), (0, .ref (q 199)), (1, .int x1)]) hx hb dX4_behindRun_41 hl (k := 2) rfl (by rw [e9]; rfl) (by decide) rfl (fun ls hl => ?_)
  clear e9
  refine lv_goto (tgt := 2) hx hb dX4_behindRun_44 (by decide) ?_
  exact hk2 x1 x2_1 u _ _ _ hf hw (lv_sub hl [1, 2, 0] rfl)
def X_RD_behindRun_47 (K : Int32 → xs_St → Prop) (x1 : Int32) (x2 : Int32) (u : xs_St) : Prop :=
  K (if x2 < (x1 + (1 : Int32)) then (x1 + (1 : Int32)) else x2) u
set_option maxHeartbeats 4000000 in
set_option maxRecDepth 100000 in
theorem X_RD_behindRun_47_w {K : Int32 → xs_St → Prop} (C : th_Cx p s m args meth c cX4_behindRun RX4 3 (some .int) (dC, dI) (th_ty cs) (xE ad ak) A) (x1 : Int32) (x2 : Int32) (u : xs_St) (H : Heap) (locs : List Loc) (ls : Array Slot) (hf : X_RD_behindRun_47 K x1 x2 u) (hw : th_wI (dC, dI) (wX cs ad q v v) A s.heap u H locs) (hl : lv_has ls 3 [(1, .int x1), (2, .int x2)]) : W p l e (th_rm 2 0 0) s m args below meth c H locs 0 0 (MQ below (va_Qi K (th_Post (dC, dI) (wX cs ad q v v) A) A) args s 0 0 A) (F0 m 47 ls []) := by
  have hx := C.1
  have hb := C.2.1
  unfold X_RD_behindRun_47 at hf
  refine lv_iload_n hx hb dX4_behindRun_47 rfl (lv_at hl 1 rfl) ?_
  refine lv_iload_n hx hb dX4_behindRun_48 rfl (lv_at hl 0 rfl) ?_
  refine lv_iconst (v := (1 : Int32)) hx hb dX4_behindRun_49 (by decide) ?_
  refine lv_iadd hx hb dX4_behindRun_50 ?_
  refine va_mmax hx hb (C.2.2.1.trans hl.1.symm) C.2.2.2.1 (C.2.2.2.2.1 _ hwM_X4_132) (C.2.2.2.2.1 _ hwS_Math_max) (C.2.2.2.2.1 _ hwI_Math) (C.2.2.2.2.1 _ hwC_Math_max) (Nat.le_of_ble_eq_true rfl) (Nat.le_of_ble_eq_true rfl) (Nat.le_of_ble_eq_true rfl) (Nat.le_of_ble_eq_true rfl) dX4_behindRun_51 ?_
  exact th_iret C hw hf dX4_behindRun_54
def X_RD_behindRun_2 (K : Int32 → xs_St → Prop) (k2 : Int32 → Int32 → xs_St → Prop) (x1 : Int32) (x2 : Int32) (u : xs_St) : Prop :=
  (((xi u 101) ≤ x2 → X_RD_behindRun_47 K x1 x2 u) ∧ (¬ (xi u 101) ≤ x2 → X_TP_unsigned x2 u (fun r_2 u_1 => X_RD_isDigit r_2 u_1 (fun r_4 u_3 => ((¬ r_4 = 0 → X_RD_behindRun_41 K k2 x1 x2 u_3) ∧ (r_4 = 0 → X_TP_unsigned x2 u_3 (fun r_6 u_5 => ((r_6 < (97 : Int32) → X_RD_behindRun_47 K x1 x2 u_5) ∧ (¬ r_6 < (97 : Int32) → X_TP_unsigned x2 u_5 (fun r_8 u_7 => (((122 : Int32) < r_8 → X_RD_behindRun_47 K x1 x2 u_7) ∧ (¬ (122 : Int32) < r_8 → X_RD_behindRun_41 K k2 x1 x2 u_7))))))))))))
set_option maxHeartbeats 4000000 in
set_option maxRecDepth 100000 in
theorem X_RD_behindRun_2_w {K : Int32 → xs_St → Prop} {k2 : Int32 → Int32 → xs_St → Prop} (C : th_Cx p s m args meth c cX4_behindRun RX4 3 (some .int) (dC, dI) (th_ty cs) (xE ad ak) A) (hk2 : ∀ (x1 : Int32) (x2 : Int32) (u : xs_St) (H : Heap) (locs : List Loc) (ls : Array Slot), k2 x1 x2 u → th_wI (dC, dI) (wX cs ad q v v) A s.heap u H locs → lv_has ls 3 [(0, .ref (q 199)), (1, .int x1), (2, .int x2)] → W p l e (th_rm 2 0 0) s m args below meth c H locs 0 0 (MQ below (va_Qi K (th_Post (dC, dI) (wX cs ad q v v) A) A) args s 0 0 A) (F0 m 2 ls [])) (x1 : Int32) (x2 : Int32) (u : xs_St) (H : Heap) (locs : List Loc) (ls : Array Slot) (hf : X_RD_behindRun_2 K k2 x1 x2 u) (hw : th_wI (dC, dI) (wX cs ad q v v) A s.heap u H locs) (hl : lv_has ls 3 [(0, .ref (q 199)), (1, .int x1), (2, .int x2)]) : W p l e (th_rm 2 0 0) s m args below meth c H locs 0 0 (MQ below (va_Qi K (th_Post (dC, dI) (wX cs ad q v v) A) A) args s 0 0 A) (F0 m 2 ls []) := by
  have hx := C.1
  have hb := C.2.1
  unfold X_RD_behindRun_2 at hf
  refine lv_iload_n hx hb dX4_behindRun_2 rfl (lv_at hl 2 rfl) ?_
  refine lv_aload_n hx hb dX4_behindRun_3 rfl (lv_at hl 0 rfl) ?_
  refine xgn_101 C hw (va_Nw.use rfl (xN C hwG_X4_94)) dX4_behindRun_4 ?_
  refine lv_icmp_ge (tgt := 47) hx hb dX4_behindRun_7 (by decide) (fun hc => ?_) (fun hc => ?_)
  · replace hf := hf.1 hc
    clear hc
    exact X_RD_behindRun_47_w C x1 x2 u _ _ _ hf hw (lv_sub hl [1, 2] rfl)
  · replace hf := hf.2 hc
    clear hc
    refine lv_aload_n hx hb dX4_behindRun_10 rfl (lv_at hl 0 rfl) ?_
    refine lv_iload_n hx hb dX4_behindRun_11 rfl (lv_at hl 2 rfl) ?_
    refine th_callVi (As := [.int x2]) (rest := []) C lkX4_113 (X_TP_unsigned_c hf) hw (xRc_TP C hw) rfl rfl ⟨Nat.le_of_ble_eq_true rfl, Nat.le_of_ble_eq_true rfl⟩ hl.1 (Nat.le_of_ble_eq_true rfl) ⟨Nat.le_of_ble_eq_true rfl, Nat.le_of_ble_eq_true rfl⟩ dX4_behindRun_12 (fun r_2 u_1 H locs hf hw => ?_)
    refine th_callSi (As := [.int r_2]) (rest := []) C lkX4_129 (X_RD_isDigit_c hf) hw rfl rfl ⟨Nat.le_of_ble_eq_true rfl, Nat.le_of_ble_eq_true rfl⟩ hl.1 (Nat.le_of_ble_eq_true rfl) ⟨Nat.le_of_ble_eq_true rfl, Nat.le_of_ble_eq_true rfl⟩ dX4_behindRun_15 (fun r_4 u_3 H locs hf hw => ?_)
    refine lv_if_ne (tgt := 41) hx hb dX4_behindRun_18 (by decide) (fun hc => ?_) (fun hc => ?_)
    · replace hf := hf.1 hc
      clear hc
      exact X_RD_behindRun_41_w C hk2 x1 x2 u_3 _ _ _ hf hw (lv_sub hl [0, 1, 2] rfl)
    · replace hf := hf.2 hc
      clear hc
      refine lv_aload_n hx hb dX4_behindRun_21 rfl (lv_at hl 0 rfl) ?_
      refine lv_iload_n hx hb dX4_behindRun_22 rfl (lv_at hl 2 rfl) ?_
      refine th_callVi (As := [.int x2]) (rest := []) C lkX4_113 (X_TP_unsigned_c hf) hw (xRc_TP C hw) rfl rfl ⟨Nat.le_of_ble_eq_true rfl, Nat.le_of_ble_eq_true rfl⟩ hl.1 (Nat.le_of_ble_eq_true rfl) ⟨Nat.le_of_ble_eq_true rfl, Nat.le_of_ble_eq_true rfl⟩ dX4_behindRun_23 (fun r_6 u_5 H locs hf hw => ?_)
      refine lv_bipush (v := (97 : Int32)) hx hb dX4_behindRun_26 (by decide) ?_
      refine lv_icmp_lt (tgt := 47) hx hb dX4_behindRun_28 (by decide) (fun hc => ?_) (fun hc => ?_)
      · replace hf := hf.1 hc
        clear hc
        exact X_RD_behindRun_47_w C x1 x2 u_5 _ _ _ hf hw (lv_sub hl [1, 2] rfl)
      · replace hf := hf.2 hc
        clear hc
        refine lv_aload_n hx hb dX4_behindRun_31 rfl (lv_at hl 0 rfl) ?_
        refine lv_iload_n hx hb dX4_behindRun_32 rfl (lv_at hl 2 rfl) ?_
        refine th_callVi (As := [.int x2]) (rest := []) C lkX4_113 (X_TP_unsigned_c hf) hw (xRc_TP C hw) rfl rfl ⟨Nat.le_of_ble_eq_true rfl, Nat.le_of_ble_eq_true rfl⟩ hl.1 (Nat.le_of_ble_eq_true rfl) ⟨Nat.le_of_ble_eq_true rfl, Nat.le_of_ble_eq_true rfl⟩ dX4_behindRun_33 (fun r_8 u_7 H locs hf hw => ?_)
        refine lv_bipush (v := (122 : Int32)) hx hb dX4_behindRun_36 (by decide) ?_
        refine lv_icmp_gt (tgt := 47) hx hb dX4_behindRun_38 (by decide) (fun hc => ?_) (fun hc => ?_)
        · replace hf := hf.1 hc
          clear hc
          exact X_RD_behindRun_47_w C x1 x2 u_7 _ _ _ hf hw (lv_sub hl [1, 2] rfl)
        · replace hf := hf.2 hc
          clear hc
          exact X_RD_behindRun_41_w C hk2 x1 x2 u_7 _ _ _ hf hw (lv_sub hl [0, 1, 2] rfl)
def X_RD_behindRun_2_lp (K : Int32 → xs_St → Prop) : Nat → Int32 → Int32 → xs_St → Prop
  | 0, _, _, _ => False
  | n + 1, x1, x2, u => X_RD_behindRun_2 K (X_RD_behindRun_2_lp K n) x1 x2 u
set_option maxHeartbeats 4000000 in
set_option maxRecDepth 100000 in
theorem X_RD_behindRun_2_lw {K : Int32 → xs_St → Prop} (C : th_Cx p s m args meth c cX4_behindRun RX4 3 (some .int) (dC, dI) (th_ty cs) (xE ad ak) A) (n : Nat) : ∀ (x1 : Int32) (x2 : Int32) (u : xs_St) (H : Heap) (locs : List Loc) (ls : Array Slot), X_RD_behindRun_2_lp K n x1 x2 u → th_wI (dC, dI) (wX cs ad q v v) A s.heap u H locs → lv_has ls 3 [(0, .ref (q 199)), (1, .int x1), (2, .int x2)] → W p l e (th_rm 2 0 0) s m args below meth c H locs 0 0 (MQ below (va_Qi K (th_Post (dC, dI) (wX cs ad q v v) A) A) args s 0 0 A) (F0 m 2 ls []) := by
  induction n with
  | zero => intro x1 x2 u H locs ls hf; exact hf.elim
  | succ n ih =>
    intro x1 x2 u H locs ls hf hw hl
    exact X_RD_behindRun_2_w C ih x1 x2 u H locs ls hf hw hl
def X_RD_behindRun (a2 : Int32) (u : xs_St) (K : Int32 → xs_St → Prop) : Prop :=
  ∃ n, X_RD_behindRun_2_lp K n a2 a2 u
set_option maxHeartbeats 4000000 in
set_option maxRecDepth 100000 in
theorem X_RD_behindRun_c {l : Launch} {dC : Nat → ClassId} {dI : Nat → Nat → Nat} {cs : Nat → ClassId} {ad ak : Nat → Nat} {q v : Nat → Nat} {a2 : Int32} {u : xs_St} {K : Int32 → xs_St → Prop} (hf : X_RD_behindRun a2 u K) : th_Ci l yX4_behindRun cX4_behindRun 3 (some .int) 2 0 0 (dC, dI) (th_ty cs) (xE ad ak) (wX cs ad q v v) [.ref (q 199), .int a2] u K := by
  refine th_ofi (by decide) (Nat.le_of_ble_eq_true rfl) (xE_ok ad ak) ?_
  intro p e s m below meth c A ls C hw hl
  have C : th_Cx p s m _ meth c cX4_behindRun RX4 3 (some .int) (dC, dI) (th_ty cs) (xE ad ak) A := C
  have hl : lv_has ls 3 [(0, .ref (q 199)), (1, .int a2)] := hl
  generalize (List.toArray _ : Array Value) = args at C ⊢
  have hx := C.1
  have hb := C.2.1
  unfold X_RD_behindRun at hf
  refine lv_iload_n hx hb dX4_behindRun_0 rfl (lv_at hl 1 rfl) ?_
  refine lv_istore_n (lv' := [(2, .int a2), (0, .ref (q 199)), (1, .int a2)]) hx hb dX4_behindRun_1 rfl hl (by decide) rfl (fun ls hl => ?_)
  obtain ⟨n, hf⟩ := hf
  exact X_RD_behindRun_2_lw C n a2 a2 u _ _ _ hf hw (lv_sub hl [1, 2, 0] rfl)
/-! X_RD_numberOf -/
theorem dX4_numberOf_0 : decode cX4_numberOf 0 = .ok (.iconst 0, 1) := by decide +kernel
theorem dX4_numberOf_1 : decode cX4_numberOf 1 = .ok (.istore_n 3, 1) := by decide +kernel
theorem dX4_numberOf_2 : decode cX4_numberOf 2 = .ok (.iload_n 1, 1) := by decide +kernel
theorem dX4_numberOf_3 : decode cX4_numberOf 3 = .ok (.istore 4, 2) := by decide +kernel
theorem dX4_numberOf_5 : decode cX4_numberOf 5 = .ok (.iload 4, 2) := by decide +kernel
theorem dX4_numberOf_7 : decode cX4_numberOf 7 = .ok (.iload_n 2, 1) := by decide +kernel
theorem dX4_numberOf_8 : decode cX4_numberOf 8 = .ok (.if_icmp .ge 32, 3) := by decide +kernel
theorem dX4_numberOf_11 : decode cX4_numberOf 11 = .ok (.iload 4, 2) := by decide +kernel
theorem dX4_numberOf_13 : decode cX4_numberOf 13 = .ok (.iload_n 1, 1) := by decide +kernel
theorem dX4_numberOf_14 : decode cX4_numberOf 14 = .ok (.iconst 4, 1) := by decide +kernel
theorem dX4_numberOf_15 : decode cX4_numberOf 15 = .ok (.iadd, 1) := by decide +kernel
theorem dX4_numberOf_16 : decode cX4_numberOf 16 = .ok (.if_icmp .ge 24, 3) := by decide +kernel
theorem dX4_numberOf_19 : decode cX4_numberOf 19 = .ok (.iload_n 3, 1) := by decide +kernel
theorem dX4_numberOf_20 : decode cX4_numberOf 20 = .ok (.bipush 10, 2) := by decide +kernel
theorem dX4_numberOf_22 : decode cX4_numberOf 22 = .ok (.imul, 1) := by decide +kernel
theorem dX4_numberOf_23 : decode cX4_numberOf 23 = .ok (.aload_n 0, 1) := by decide +kernel
theorem dX4_numberOf_24 : decode cX4_numberOf 24 = .ok (.iload 4, 2) := by decide +kernel
theorem dX4_numberOf_26 : decode cX4_numberOf 26 = .ok (.invokevirtual 113, 3) := by decide +kernel
theorem dX4_numberOf_29 : decode cX4_numberOf 29 = .ok (.iadd, 1) := by decide +kernel
theorem dX4_numberOf_30 : decode cX4_numberOf 30 = .ok (.bipush 48, 2) := by decide +kernel
theorem dX4_numberOf_32 : decode cX4_numberOf 32 = .ok (.isub, 1) := by decide +kernel
theorem dX4_numberOf_33 : decode cX4_numberOf 33 = .ok (.istore_n 3, 1) := by decide +kernel
theorem dX4_numberOf_34 : decode cX4_numberOf 34 = .ok (.iinc 4 1, 3) := by decide +kernel
theorem dX4_numberOf_37 : decode cX4_numberOf 37 = .ok (.goto (-32), 3) := by decide +kernel
theorem dX4_numberOf_40 : decode cX4_numberOf 40 = .ok (.iload_n 3, 1) := by decide +kernel
theorem dX4_numberOf_41 : decode cX4_numberOf 41 = .ok (.ireturn, 1) := by decide +kernel
def X_RD_numberOf_40 (K : Int32 → xs_St → Prop) (x3 : Int32) (u : xs_St) : Prop :=
  K x3 u
set_option maxHeartbeats 4000000 in
set_option maxRecDepth 100000 in
theorem X_RD_numberOf_40_w {K : Int32 → xs_St → Prop} (C : th_Cx p s m args meth c cX4_numberOf RX4 5 (some .int) (dC, dI) (th_ty cs) (xE ad ak) A) (x3 : Int32) (u : xs_St) (H : Heap) (locs : List Loc) (ls : Array Slot) (hf : X_RD_numberOf_40 K x3 u) (hw : th_wI (dC, dI) (wX cs ad q v v) A s.heap u H locs) (hl : lv_has ls 5 [(3, .int x3)]) : W p l e (th_rm 2 0 0) s m args below meth c H locs 0 0 (MQ below (va_Qi K (th_Post (dC, dI) (wX cs ad q v v) A) A) args s 0 0 A) (F0 m 40 ls []) := by
  have hx := C.1
  have hb := C.2.1
  unfold X_RD_numberOf_40 at hf
  refine lv_iload_n hx hb dX4_numberOf_40 rfl (lv_at hl 0 rfl) ?_
  exact th_iret C hw hf dX4_numberOf_41
def X_RD_numberOf_5 (K : Int32 → xs_St → Prop) (k5 : Int32 → Int32 → Int32 → Int32 → xs_St → Prop) (x1 : Int32) (x2 : Int32) (x3 : Int32) (x4 : Int32) (u : xs_St) : Prop :=
  ((x2 ≤ x4 → X_RD_numberOf_40 K x3 u) ∧ (¬ x2 ≤ x4 → (((x1 + (4 : Int32)) ≤ x4 → X_RD_numberOf_40 K x3 u) ∧ (¬ (x1 + (4 : Int32)) ≤ x4 → X_TP_unsigned x4 u (fun r_2 u_1 => ∀ y_3 : Int32, y_3 = (((x3 * (10 : Int32)) + r_2) - (48 : Int32)) → ∀ x4_4 : Int32, x4_4 = x4 + (1 : Int32) → k5 x1 x2 y_3 x4_4 u_1)))))
set_option maxHeartbeats 4000000 in
set_option maxRecDepth 100000 in
theorem X_RD_numberOf_5_w {K : Int32 → xs_St → Prop} {k5 : Int32 → Int32 → Int32 → Int32 → xs_St → Prop} (C : th_Cx p s m args meth c cX4_numberOf RX4 5 (some .int) (dC, dI) (th_ty cs) (xE ad ak) A) (hk5 : ∀ (x1 : Int32) (x2 : Int32) (x3 : Int32) (x4 : Int32) (u : xs_St) (H : Heap) (locs : List Loc) (ls : Array Slot), k5 x1 x2 x3 x4 u → th_wI (dC, dI) (wX cs ad q v v) A s.heap u H locs → lv_has ls 5 [(0, .ref (q 199)), (1, .int x1), (2, .int x2), (3, .int x3), (4, .int x4)] → W p l e (th_rm 2 0 0) s m args below meth c H locs 0 0 (MQ below (va_Qi K (th_Post (dC, dI) (wX cs ad q v v) A) A) args s 0 0 A) (F0 m 5 ls [])) (x1 : Int32) (x2 : Int32) (x3 : Int32) (x4 : Int32) (u : xs_St) (H : Heap) (locs : List Loc) (ls : Array Slot) (hf : X_RD_numberOf_5 K k5 x1 x2 x3 x4 u) (hw : th_wI (dC, dI) (wX cs ad q v v) A s.heap u H locs) (hl : lv_has ls 5 [(0, .ref (q 199)), (1, .int x1), (2, .int x2), (3, .int x3), (4, .int x4)]) : W p l e (th_rm 2 0 0) s m args below meth c H locs 0 0 (MQ below (va_Qi K (th_Post (dC, dI) (wX cs ad q v v) A) A) args s 0 0 A) (F0 m 5 ls []) := by
  have hx := C.1
  have hb := C.2.1
  unfold X_RD_numberOf_5 at hf
  refine lv_iload hx hb dX4_numberOf_5 (lv_at hl 4 rfl) ?_
  refine lv_iload_n hx hb dX4_numberOf_7 rfl (lv_at hl 2 rfl) ?_
  refine lv_icmp_ge (tgt := 40) hx hb dX4_numberOf_8 (by decide) (fun hc => ?_) (fun hc => ?_)
  · replace hf := hf.1 hc
    clear hc
    exact X_RD_numberOf_40_w C x3 u _ _ _ hf hw (lv_sub hl [3] rfl)
  · replace hf := hf.2 hc
    clear hc
    refine lv_iload hx hb dX4_numberOf_11 (lv_at hl 4 rfl) ?_
    refine lv_iload_n hx hb dX4_numberOf_13 rfl (lv_at hl 1 rfl) ?_
    refine lv_iconst (v := (4 : Int32)) hx hb dX4_numberOf_14 (by decide) ?_
    refine lv_iadd hx hb dX4_numberOf_15 ?_
    refine lv_icmp_ge (tgt := 40) hx hb dX4_numberOf_16 (by decide) (fun hc => ?_) (fun hc => ?_)
    · replace hf := hf.1 hc
      clear hc
      exact X_RD_numberOf_40_w C x3 u _ _ _ hf hw (lv_sub hl [3] rfl)
    · replace hf := hf.2 hc
      clear hc
      refine lv_iload_n hx hb dX4_numberOf_19 rfl (lv_at hl 3 rfl) ?_
      refine lv_bipush (v := (10 : Int32)) hx hb dX4_numberOf_20 (by decide) ?_
      refine lv_imul hx hb dX4_numberOf_22 ?_
      refine lv_aload_n hx hb dX4_numberOf_23 rfl (lv_at hl 0 rfl) ?_
      refine lv_iload hx hb dX4_numberOf_24 (lv_at hl 4 rfl) ?_
      refine th_callVi (As := [.int x4]) (rest := [.int (x3 * (10 : Int32))]) C lkX4_113 (X_TP_unsigned_c hf) hw (xRc_TP C hw) rfl rfl ⟨Nat.le_of_ble_eq_true rfl, Nat.le_of_ble_eq_true rfl⟩ hl.1 (Nat.le_of_ble_eq_true rfl) ⟨Nat.le_of_ble_eq_true rfl, Nat.le_of_ble_eq_true rfl⟩ dX4_numberOf_26 (fun r_2 u_1 H locs hf hw => ?_)
      refine lv_iadd hx hb dX4_numberOf_29 ?_
      refine lv_bipush (v := (48 : Int32)) hx hb dX4_numberOf_30 (by decide) ?_
      refine lv_isub hx hb dX4_numberOf_32 ?_
      refine lv_topi (fun y_3 e9 => ?_)
      replace hf := hf y_3 e9
      clear e9
      refine lv_istore_n (lv' := [(3, .int y_3), (0, .ref (q 199)), (1, .int x1), (2, .int x2), (4, .int x4)]) hx hb dX4_numberOf_33 rfl hl (by decide) rfl (fun ls hl => ?_)
      obtain ⟨x4_4, e9⟩ : ∃ y : Int32, y = x4 + (1 : Int32) := ⟨_, rfl⟩
      replace hf := hf x4_4 e9
      refine lv_iinc (v := x4_4) (lv' := [(4, .int x4_4), (3, .int y_3), (0, .ref (q 199)), (1, .int x1), (2, .int x2)]) hx hb dX4_numberOf_34 hl (k := 4) rfl (by rw [e9]; rfl) (by decide) rfl (fun ls hl => ?_)
      clear e9
      refine lv_goto (tgt := 5) hx hb dX4_numberOf_37 (by decide) ?_
      exact hk5 x1 x2 y_3 x4_4 u_1 _ _ _ hf hw (lv_sub hl [2, 3, 4, 1, 0] rfl)
def X_RD_numberOf_5_lp (K : Int32 → xs_St → Prop) : Nat → Int32 → Int32 → Int32 → Int32 → xs_St → Prop
  | 0, _, _, _, _, _ => False
  | n + 1, x1, x2, x3, x4, u => X_RD_numberOf_5 K (X_RD_numberOf_5_lp K n) x1 x2 x3 x4 u
set_option maxHeartbeats 4000000 in
set_option maxRecDepth 100000 in
theorem X_RD_numberOf_5_lw {K : Int32 → xs_St → Prop} (C : th_Cx p s m args meth c cX4_numberOf RX4 5 (some .int) (dC, dI) (th_ty cs) (xE ad ak) A) (n : Nat) : ∀ (x1 : Int32) (x2 : Int32) (x3 : Int32) (x4 : Int32) (u : xs_St) (H : Heap) (locs : List Loc) (ls : Array Slot), X_RD_numberOf_5_lp K n x1 x2 x3 x4 u → th_wI (dC, dI) (wX cs ad q v v) A s.heap u H locs → lv_has ls 5 [(0, .ref (q 199)), (1, .int x1), (2, .int x2), (3, .int x3), (4, .int x4)] → W p l e (th_rm 2 0 0) s m args below meth c H locs 0 0 (MQ below (va_Qi K (th_Post (dC, dI) (wX cs ad q v v) A) A) args s 0 0 A) (F0 m 5 ls []) := by
  induction n with
  | zero => intro x1 x2 x3 x4 u H locs ls hf; exact hf.elim
  | succ n ih =>
    intro x1 x2 x3 x4 u H locs ls hf hw hl
    exact X_RD_numberOf_5_w C ih x1 x2 x3 x4 u H locs ls hf hw hl
def X_RD_numberOf (a2 : Int32) (a3 : Int32) (u : xs_St) (K : Int32 → xs_St → Prop) : Prop :=
  ∃ n, X_RD_numberOf_5_lp K n a2 a3 (0 : Int32) a2 u
set_option maxHeartbeats 4000000 in
set_option maxRecDepth 100000 in
theorem X_RD_numberOf_c {l : Launch} {dC : Nat → ClassId} {dI : Nat → Nat → Nat} {cs : Nat → ClassId} {ad ak : Nat → Nat} {q v : Nat → Nat} {a2 : Int32} {a3 : Int32} {u : xs_St} {K : Int32 → xs_St → Prop} (hf : X_RD_numberOf a2 a3 u K) : th_Ci l yX4_numberOf cX4_numberOf 5 (some .int) 2 0 0 (dC, dI) (th_ty cs) (xE ad ak) (wX cs ad q v v) [.ref (q 199), .int a2, .int a3] u K := by
  refine th_ofi (by decide) (Nat.le_of_ble_eq_true rfl) (xE_ok ad ak) ?_
  intro p e s m below meth c A ls C hw hl
  have C : th_Cx p s m _ meth c cX4_numberOf RX4 5 (some .int) (dC, dI) (th_ty cs) (xE ad ak) A := C
  have hl : lv_has ls 5 [(0, .ref (q 199)), (1, .int a2), (2, .int a3)] := hl
  generalize (List.toArray _ : Array Value) = args at C ⊢
  have hx := C.1
  have hb := C.2.1
  unfold X_RD_numberOf at hf
  refine lv_iconst (v := (0 : Int32)) hx hb dX4_numberOf_0 (by decide) ?_
  refine lv_istore_n (lv' := [(3, .int (0 : Int32)), (0, .ref (q 199)), (1, .int a2), (2, .int a3)]) hx hb dX4_numberOf_1 rfl hl (by decide) rfl (fun ls hl => ?_)
  refine lv_iload_n hx hb dX4_numberOf_2 rfl (lv_at hl 2 rfl) ?_
  refine lv_istore (lv' := [(4, .int a2), (3, .int (0 : Int32)), (0, .ref (q 199)), (1, .int a2), (2, .int a3)]) hx hb dX4_numberOf_3 hl (by decide) rfl (fun ls hl => ?_)
  obtain ⟨n, hf⟩ := hf
  exact X_RD_numberOf_5_lw C n a2 a3 (0 : Int32) a2 u _ _ _ hf hw (lv_sub hl [2, 3, 4, 1, 0] rfl)
/-! X_RD_readFeet -/
theorem dX4_readFeet_0 : decode cX4_readFeet 0 = .ok (.aload_n 0, 1) := by decide +kernel
theorem dX4_readFeet_1 : decode cX4_readFeet 1 = .ok (.invokevirtual 74, 3) := by decide +kernel
theorem dX4_readFeet_4 : decode cX4_readFeet 4 = .ok (.aload_n 0, 1) := by decide +kernel
theorem dX4_readFeet_5 : decode cX4_readFeet 5 = .ok (.iconst 4, 1) := by decide +kernel
theorem dX4_readFeet_6 : decode cX4_readFeet 6 = .ok (.bipush 48, 2) := by decide +kernel
theorem dX4_readFeet_8 : decode cX4_readFeet 8 = .ok (.invokevirtual 161, 3) := by decide +kernel
theorem dX4_readFeet_11 : decode cX4_readFeet 11 = .ok (.ifCond .ne 5, 3) := by decide +kernel
theorem dX4_readFeet_14 : decode cX4_readFeet 14 = .ok (.iconst 0, 1) := by decide +kernel
theorem dX4_readFeet_15 : decode cX4_readFeet 15 = .ok (.ireturn, 1) := by decide +kernel
theorem dX4_readFeet_16 : decode cX4_readFeet 16 = .ok (.aload_n 0, 1) := by decide +kernel
theorem dX4_readFeet_17 : decode cX4_readFeet 17 = .ok (.getfield 31, 3) := by decide +kernel
theorem dX4_readFeet_20 : decode cX4_readFeet 20 = .ok (.aload_n 0, 1) := by decide +kernel
theorem dX4_readFeet_21 : decode cX4_readFeet 21 = .ok (.getfield 45, 3) := by decide +kernel
theorem dX4_readFeet_24 : decode cX4_readFeet 24 = .ok (.putfield 165, 3) := by decide +kernel
theorem dX4_readFeet_27 : decode cX4_readFeet 27 = .ok (.aload_n 0, 1) := by decide +kernel
theorem dX4_readFeet_28 : decode cX4_readFeet 28 = .ok (.getstatic 87, 3) := by decide +kernel
theorem dX4_readFeet_31 : decode cX4_readFeet 31 = .ok (.invokevirtual 90, 3) := by decide +kernel
theorem dX4_readFeet_34 : decode cX4_readFeet 34 = .ok (.ireturn, 1) := by decide +kernel
def X_RD_readFeet (u : xs_St) (K : Int32 → xs_St → Prop) : Prop :=
  X_RD_advance u (fun u_1 => X_RD_takeNumber (4 : Int32) (48 : Int32) u_1 (fun r_4 u_3 => ((¬ r_4 = 0 → ∀ u_5 : xs_St, u_5 = xs_si u_3 400 (xi u_3 207) → X_RD_take (some 3) u_5 (fun r_7 u_6 => ((r_7 = 0 ∨ r_7 = 1) ∧ K r_7 u_6))) ∧ (r_4 = 0 → (((0 : Int32) = 0 ∨ (0 : Int32) = 1) ∧ K (0 : Int32) u_3)))))
set_option maxHeartbeats 4000000 in
set_option maxRecDepth 100000 in
theorem X_RD_readFeet_c {l : Launch} {dC : Nat → ClassId} {dI : Nat → Nat → Nat} {cs : Nat → ClassId} {ad ak : Nat → Nat} {q v : Nat → Nat} {u : xs_St} {K : Int32 → xs_St → Prop} (hf : X_RD_readFeet u K) : th_Ci l yX4_readFeet cX4_readFeet 1 (some .boolean) 2 0 0 (dC, dI) (th_ty cs) (xE ad ak) (wX cs ad q v v) [.ref (q 299)] u K := by
  refine th_ofi (by decide) (Nat.le_of_ble_eq_true rfl) (xE_ok ad ak) ?_
  intro p e s m below meth c A ls C hw hl
  have C : th_Cx p s m _ meth c cX4_readFeet RX4 1 (some .boolean) (dC, dI) (th_ty cs) (xE ad ak) A := C
  have hl : lv_has ls 1 [(0, .ref (q 299))] := hl
  generalize (List.toArray _ : Array Value) = args at C ⊢
  have hx := C.1
  have hb := C.2.1
  unfold X_RD_readFeet at hf
  refine lv_aload_n hx hb dX4_readFeet_0 rfl (lv_at hl 0 rfl) ?_
  refine th_callVv (As := []) (rest := []) C lkX4_74 (X_RD_advance_c hf) hw (xRc_RD C hw) rfl rfl ⟨Nat.le_of_ble_eq_true rfl, Nat.le_of_ble_eq_true rfl⟩ hl.1 (Nat.le_of_ble_eq_true rfl) ⟨Nat.le_of_ble_eq_true rfl, Nat.le_of_ble_eq_true rfl⟩ dX4_readFeet_1 (fun u_1 H locs hf hw => ?_)
  refine lv_aload_n hx hb dX4_readFeet_4 rfl (lv_at hl 0 rfl) ?_
  refine lv_iconst (v := (4 : Int32)) hx hb dX4_readFeet_5 (by decide) ?_
  refine lv_bipush (v := (48 : Int32)) hx hb dX4_readFeet_6 (by decide) ?_
  refine th_callVi (As := [.int (4 : Int32), .int (48 : Int32)]) (rest := []) C lkX4_161 (X_RD_takeNumber_c hf) hw (xRc_RD C hw) rfl rfl ⟨Nat.le_of_ble_eq_true rfl, Nat.le_of_ble_eq_true rfl⟩ hl.1 (Nat.le_of_ble_eq_true rfl) ⟨Nat.le_of_ble_eq_true rfl, Nat.le_of_ble_eq_true rfl⟩ dX4_readFeet_8 (fun r_4 u_3 H locs hf hw => ?_)
  refine lv_if_ne (tgt := 16) hx hb dX4_readFeet_11 (by decide) (fun hc => ?_) (fun hc => ?_)
  · replace hf := hf.1 hc
    clear hc
    refine lv_aload_n hx hb dX4_readFeet_16 rfl (lv_at hl 0 rfl) ?_
    refine xg_204 C hw (C.2.2.2.2.1 _ hwF_X4_31) dX4_readFeet_17 ?_
    refine lv_aload_n hx hb dX4_readFeet_20 rfl (lv_at hl 0 rfl) ?_
    refine xg_207 C hw (C.2.2.2.2.1 _ hwF_X4_45) dX4_readFeet_21 ?_
    refine xpn_400 C hw (va_Nw.use rfl (xN C hwG_X4_165)) dX4_readFeet_24 (fun u_5 e9 H locs hw => ?_)
    replace hf := hf u_5 e9
    clear e9
    refine lv_aload_n hx hb dX4_readFeet_27 rfl (lv_at hl 0 rfl) ?_
    refine xst C hw 3 (by decide) (C.2.2.2.2.1 _ hwF_X4_87) dX4_readFeet_28 ?_
    refine th_callVi (As := [va_re ad (some 3)]) (rest := []) C lkX4_90 (X_RD_take_c hf) hw (xRc_RD C hw) rfl rfl ⟨Nat.le_of_ble_eq_true rfl, Nat.le_of_ble_eq_true rfl⟩ hl.1 (Nat.le_of_ble_eq_true rfl) ⟨Nat.le_of_ble_eq_true rfl, Nat.le_of_ble_eq_true rfl⟩ dX4_readFeet_31 (fun r_7 u_6 H locs hf hw => ?_)
    exact th_zret C hw hf dX4_readFeet_34
  · replace hf := hf.2 hc
    clear hc
    refine lv_iconst (v := (0 : Int32)) hx hb dX4_readFeet_14 (by decide) ?_
    exact th_zret C hw hf dX4_readFeet_15
/-! X_RD_readFixed -/
theorem dX4_readFixed_0 : decode cX4_readFixed 0 = .ok (.aload_n 0, 1) := by decide +kernel
theorem dX4_readFixed_1 : decode cX4_readFixed 1 = .ok (.iconst 0, 1) := by decide +kernel
theorem dX4_readFixed_2 : decode cX4_readFixed 2 = .ok (.aload_n 0, 1) := by decide +kernel
theorem dX4_readFixed_3 : decode cX4_readFixed 3 = .ok (.getfield 31, 3) := by decide +kernel
theorem dX4_readFixed_6 : decode cX4_readFixed 6 = .ok (.getfield 165, 3) := by decide +kernel
theorem dX4_readFixed_9 : decode cX4_readFixed 9 = .ok (.iconst 1, 1) := by decide +kernel
theorem dX4_readFixed_10 : decode cX4_readFixed 10 = .ok (.isub, 1) := by decide +kernel
theorem dX4_readFixed_11 : decode cX4_readFixed 11 = .ok (.invokevirtual 161, 3) := by decide +kernel
theorem dX4_readFixed_14 : decode cX4_readFixed 14 = .ok (.ifCond .ne 5, 3) := by decide +kernel
theorem dX4_readFixed_17 : decode cX4_readFixed 17 = .ok (.iconst 0, 1) := by decide +kernel
theorem dX4_readFixed_18 : decode cX4_readFixed 18 = .ok (.ireturn, 1) := by decide +kernel
theorem dX4_readFixed_19 : decode cX4_readFixed 19 = .ok (.aload_n 0, 1) := by decide +kernel
theorem dX4_readFixed_20 : decode cX4_readFixed 20 = .ok (.getfield 45, 3) := by decide +kernel
theorem dX4_readFixed_23 : decode cX4_readFixed 23 = .ok (.istore_n 1, 1) := by decide +kernel
theorem dX4_readFixed_24 : decode cX4_readFixed 24 = .ok (.aload_n 0, 1) := by decide +kernel
theorem dX4_readFixed_25 : decode cX4_readFixed 25 = .ok (.getstatic 217, 3) := by decide +kernel
theorem dX4_readFixed_28 : decode cX4_readFixed 28 = .ok (.invokevirtual 90, 3) := by decide +kernel
theorem dX4_readFixed_31 : decode cX4_readFixed 31 = .ok (.ifCond .eq 20, 3) := by decide +kernel
theorem dX4_readFixed_34 : decode cX4_readFixed 34 = .ok (.aload_n 0, 1) := by decide +kernel
theorem dX4_readFixed_35 : decode cX4_readFixed 35 = .ok (.iload_n 1, 1) := by decide +kernel
theorem dX4_readFixed_36 : decode cX4_readFixed 36 = .ok (.aload_n 0, 1) := by decide +kernel
theorem dX4_readFixed_37 : decode cX4_readFixed 37 = .ok (.getfield 31, 3) := by decide +kernel
theorem dX4_readFixed_40 : decode cX4_readFixed 40 = .ok (.getfield 165, 3) := by decide +kernel
theorem dX4_readFixed_43 : decode cX4_readFixed 43 = .ok (.iconst 1, 1) := by decide +kernel
theorem dX4_readFixed_44 : decode cX4_readFixed 44 = .ok (.isub, 1) := by decide +kernel
theorem dX4_readFixed_45 : decode cX4_readFixed 45 = .ok (.invokevirtual 161, 3) := by decide +kernel
theorem dX4_readFixed_48 : decode cX4_readFixed 48 = .ok (.ifCond .ne 5, 3) := by decide +kernel
theorem dX4_readFixed_51 : decode cX4_readFixed 51 = .ok (.iconst 0, 1) := by decide +kernel
theorem dX4_readFixed_52 : decode cX4_readFixed 52 = .ok (.ireturn, 1) := by decide +kernel
theorem dX4_readFixed_53 : decode cX4_readFixed 53 = .ok (.aload_n 0, 1) := by decide +kernel
theorem dX4_readFixed_54 : decode cX4_readFixed 54 = .ok (.getfield 31, 3) := by decide +kernel
theorem dX4_readFixed_57 : decode cX4_readFixed 57 = .ok (.iload_n 1, 1) := by decide +kernel
theorem dX4_readFixed_58 : decode cX4_readFixed 58 = .ok (.aload_n 0, 1) := by decide +kernel
theorem dX4_readFixed_59 : decode cX4_readFixed 59 = .ok (.getfield 45, 3) := by decide +kernel
theorem dX4_readFixed_62 : decode cX4_readFixed 62 = .ok (.invokevirtual 220, 3) := by decide +kernel
theorem dX4_readFixed_65 : decode cX4_readFixed 65 = .ok (.iconst 1, 1) := by decide +kernel
theorem dX4_readFixed_66 : decode cX4_readFixed 66 = .ok (.ireturn, 1) := by decide +kernel
def X_RD_readFixed_51 (K : Int32 → xs_St → Prop) (u : xs_St) : Prop :=
  (((0 : Int32) = 0 ∨ (0 : Int32) = 1) ∧ K (0 : Int32) u)
set_option maxHeartbeats 4000000 in
set_option maxRecDepth 100000 in
theorem X_RD_readFixed_51_w {K : Int32 → xs_St → Prop} (C : th_Cx p s m args meth c cX4_readFixed RX4 2 (some .boolean) (dC, dI) (th_ty cs) (xE ad ak) A) (u : xs_St) (H : Heap) (locs : List Loc) (ls : Array Slot) (hf : X_RD_readFixed_51 K u) (hw : th_wI (dC, dI) (wX cs ad q v v) A s.heap u H locs) (hl : lv_has ls 2 []) : W p l e (th_rm 2 0 0) s m args below meth c H locs 0 0 (MQ below (va_Qi K (th_Post (dC, dI) (wX cs ad q v v) A) A) args s 0 0 A) (F0 m 51 ls []) := by
  have hx := C.1
  have hb := C.2.1
  unfold X_RD_readFixed_51 at hf
  refine lv_iconst (v := (0 : Int32)) hx hb dX4_readFixed_51 (by decide) ?_
  exact th_zret C hw hf dX4_readFixed_52
def X_RD_readFixed (u : xs_St) (K : Int32 → xs_St → Prop) : Prop :=
  X_RD_takeNumber (0 : Int32) ((xi u 400) - (1 : Int32)) u (fun r_2 u_1 => ((¬ r_2 = 0 → X_RD_take (some 11) u_1 (fun r_4 u_3 => ((r_4 = 0 → X_RD_readFixed_51 K u_3) ∧ (¬ r_4 = 0 → X_RD_takeNumber (xi u_1 207) ((xi u_3 400) - (1 : Int32)) u_3 (fun r_6 u_5 => ((¬ r_6 = 0 → X_T_fix_B (xi u_1 207) (xi u_5 207) u_5 (fun u_7 => (((1 : Int32) = 0 ∨ (1 : Int32) = 1) ∧ K (1 : Int32) u_7))) ∧ (r_6 = 0 → X_RD_readFixed_51 K u_5))))))) ∧ (r_2 = 0 → (((0 : Int32) = 0 ∨ (0 : Int32) = 1) ∧ K (0 : Int32) u_1))))
set_option maxHeartbeats 4000000 in
set_option maxRecDepth 100000 in
theorem X_RD_readFixed_c {l : Launch} {dC : Nat → ClassId} {dI : Nat → Nat → Nat} {cs : Nat → ClassId} {ad ak : Nat → Nat} {q v : Nat → Nat} {u : xs_St} {K : Int32 → xs_St → Prop} (hf : X_RD_readFixed u K) : th_Ci l yX4_readFixed cX4_readFixed 2 (some .boolean) 2 0 0 (dC, dI) (th_ty cs) (xE ad ak) (wX cs ad q v v) [.ref (q 299)] u K := by
  refine th_ofi (by decide) (Nat.le_of_ble_eq_true rfl) (xE_ok ad ak) ?_
  intro p e s m below meth c A ls C hw hl
  have C : th_Cx p s m _ meth c cX4_readFixed RX4 2 (some .boolean) (dC, dI) (th_ty cs) (xE ad ak) A := C
  have hl : lv_has ls 2 [(0, .ref (q 299))] := hl
  generalize (List.toArray _ : Array Value) = args at C ⊢
  have hx := C.1
  have hb := C.2.1
  unfold X_RD_readFixed at hf
  refine lv_aload_n hx hb dX4_readFixed_0 rfl (lv_at hl 0 rfl) ?_
  refine lv_iconst (v := (0 : Int32)) hx hb dX4_readFixed_1 (by decide) ?_
  refine lv_aload_n hx hb dX4_readFixed_2 rfl (lv_at hl 0 rfl) ?_
  refine xg_204 C hw (C.2.2.2.2.1 _ hwF_X4_31) dX4_readFixed_3 ?_
  refine xgn_400 C hw (va_Nw.use rfl (xN C hwG_X4_165)) dX4_readFixed_6 ?_
  refine lv_iconst (v := (1 : Int32)) hx hb dX4_readFixed_9 (by decide) ?_
  refine lv_isub hx hb dX4_readFixed_10 ?_
  refine th_callVi (As := [.int (0 : Int32), .int ((xi u 400) - (1 : Int32))]) (rest := []) C lkX4_161 (X_RD_takeNumber_c hf) hw (xRc_RD C hw) rfl rfl ⟨Nat.le_of_ble_eq_true rfl, Nat.le_of_ble_eq_true rfl⟩ hl.1 (Nat.le_of_ble_eq_true rfl) ⟨Nat.le_of_ble_eq_true rfl, Nat.le_of_ble_eq_true rfl⟩ dX4_readFixed_11 (fun r_2 u_1 H locs hf hw => ?_)
  refine lv_if_ne (tgt := 19) hx hb dX4_readFixed_14 (by decide) (fun hc => ?_) (fun hc => ?_)
  · replace hf := hf.1 hc
    clear hc
    refine lv_aload_n hx hb dX4_readFixed_19 rfl (lv_at hl 0 rfl) ?_
    refine xg_207 C hw (C.2.2.2.2.1 _ hwF_X4_45) dX4_readFixed_20 ?_
    refine lv_istore_n (lv' := [(1, .int (xi u_1 207)), (0, .ref (q 299))]) hx hb dX4_readFixed_23 rfl hl (by decide) rfl (fun ls hl => ?_)
    refine lv_aload_n hx hb dX4_readFixed_24 rfl (lv_at hl 1 rfl) ?_
    refine xst C hw 11 (by decide) (C.2.2.2.2.1 _ hwF_X4_217) dX4_readFixed_25 ?_
    refine th_callVi (As := [va_re ad (some 11)]) (rest := []) C lkX4_90 (X_RD_take_c hf) hw (xRc_RD C hw) rfl rfl ⟨Nat.le_of_ble_eq_true rfl, Nat.le_of_ble_eq_true rfl⟩ hl.1 (Nat.le_of_ble_eq_true rfl) ⟨Nat.le_of_ble_eq_true rfl, Nat.le_of_ble_eq_true rfl⟩ dX4_readFixed_28 (fun r_4 u_3 H locs hf hw => ?_)
    refine lv_if_eq (tgt := 51) hx hb dX4_readFixed_31 (by decide) (fun hc => ?_) (fun hc => ?_)
    · replace hf := hf.1 hc
      clear hc
      exact X_RD_readFixed_51_w C  u_3 _ _ _ hf hw (lv_sub hl [] rfl)
    · replace hf := hf.2 hc
      clear hc
      refine lv_aload_n hx hb dX4_readFixed_34 rfl (lv_at hl 1 rfl) ?_
      refine lv_iload_n hx hb dX4_readFixed_35 rfl (lv_at hl 0 rfl) ?_
      refine lv_aload_n hx hb dX4_readFixed_36 rfl (lv_at hl 1 rfl) ?_
      refine xg_204 C hw (C.2.2.2.2.1 _ hwF_X4_31) dX4_readFixed_37 ?_
      refine xgn_400 C hw (va_Nw.use rfl (xN C hwG_X4_165)) dX4_readFixed_40 ?_
      refine lv_iconst (v := (1 : Int32)) hx hb dX4_readFixed_43 (by decide) ?_
      refine lv_isub hx hb dX4_readFixed_44 ?_
      refine th_callVi (As := [.int (xi u_1 207), .int ((xi u_3 400) - (1 : Int32))]) (rest := []) C lkX4_161 (X_RD_takeNumber_c hf) hw (xRc_RD C hw) rfl rfl ⟨Nat.le_of_ble_eq_true rfl, Nat.le_of_ble_eq_true rfl⟩ hl.1 (Nat.le_of_ble_eq_true rfl) ⟨Nat.le_of_ble_eq_true rfl, Nat.le_of_ble_eq_true rfl⟩ dX4_readFixed_45 (fun r_6 u_5 H locs hf hw => ?_)
      refine lv_if_ne (tgt := 53) hx hb dX4_readFixed_48 (by decide) (fun hc => ?_) (fun hc => ?_)
      · replace hf := hf.1 hc
        clear hc
        refine lv_aload_n hx hb dX4_readFixed_53 rfl (lv_at hl 1 rfl) ?_
        refine xg_204 C hw (C.2.2.2.2.1 _ hwF_X4_31) dX4_readFixed_54 ?_
        refine lv_iload_n hx hb dX4_readFixed_57 rfl (lv_at hl 0 rfl) ?_
        refine lv_aload_n hx hb dX4_readFixed_58 rfl (lv_at hl 1 rfl) ?_
        refine xg_207 C hw (C.2.2.2.2.1 _ hwF_X4_45) dX4_readFixed_59 ?_
        refine th_callVv (As := [.int (xi u_1 207), .int (xi u_5 207)]) (rest := []) C lkX4_220 (X_T_fix_B_c hf) hw (xRc_TB C hw) rfl rfl ⟨Nat.le_of_ble_eq_true rfl, Nat.le_of_ble_eq_true rfl⟩ hl.1 (Nat.le_of_ble_eq_true rfl) ⟨Nat.le_of_ble_eq_true rfl, Nat.le_of_ble_eq_true rfl⟩ dX4_readFixed_62 (fun u_7 H locs hf hw => ?_)
        refine lv_iconst (v := (1 : Int32)) hx hb dX4_readFixed_65 (by decide) ?_
        exact th_zret C hw hf dX4_readFixed_66
      · replace hf := hf.2 hc
        clear hc
        exact X_RD_readFixed_51_w C  u_5 _ _ _ hf hw (lv_sub hl [] rfl)
  · replace hf := hf.2 hc
    clear hc
    refine lv_iconst (v := (0 : Int32)) hx hb dX4_readFixed_17 (by decide) ?_
    exact th_zret C hw hf dX4_readFixed_18
end

section
variable {p : Program} {l : Launch} {e : Env} {s : State} {m : MethodId} {args : Array Value} {below : List Frame} {meth : Method} {c : Code} {dC : Nat → ClassId} {dI : Nat → Nat → Nat} {cs : Nat → ClassId} {ad ak : Nat → Nat} {q v : Nat → Nat} {A : Nat → Prop}
/-! X_WK_goBack -/
theorem dX10_goBack_0 : decode cX10_goBack 0 = .ok (.aload_n 0, 1) := by decide +kernel
theorem dX10_goBack_1 : decode cX10_goBack 1 = .ok (.iconst 0, 1) := by decide +kernel
theorem dX10_goBack_2 : decode cX10_goBack 2 = .ok (.iload_n 3, 1) := by decide +kernel
theorem dX10_goBack_3 : decode cX10_goBack 3 = .ok (.iload 4, 2) := by decide +kernel
theorem dX10_goBack_5 : decode cX10_goBack 5 = .ok (.iconst 1, 1) := by decide +kernel
theorem dX10_goBack_6 : decode cX10_goBack 6 = .ok (.isub, 1) := by decide +kernel
theorem dX10_goBack_7 : decode cX10_goBack 7 = .ok (.invokestatic 49, 3) := by decide +kernel
theorem dX10_goBack_10 : decode cX10_goBack 10 = .ok (.invokevirtual 45, 3) := by decide +kernel
theorem dX10_goBack_13 : decode cX10_goBack 13 = .ok (.istore 5, 2) := by decide +kernel
theorem dX10_goBack_15 : decode cX10_goBack 15 = .ok (.iconst 0, 1) := by decide +kernel
theorem dX10_goBack_16 : decode cX10_goBack 16 = .ok (.istore 6, 2) := by decide +kernel
theorem dX10_goBack_18 : decode cX10_goBack 18 = .ok (.iload 6, 2) := by decide +kernel
theorem dX10_goBack_20 : decode cX10_goBack 20 = .ok (.iload 4, 2) := by decide +kernel
theorem dX10_goBack_22 : decode cX10_goBack 22 = .ok (.if_icmp .ge 110, 3) := by decide +kernel
theorem dX10_goBack_25 : decode cX10_goBack 25 = .ok (.iload 6, 2) := by decide +kernel
theorem dX10_goBack_27 : decode cX10_goBack 27 = .ok (.iload_n 3, 1) := by decide +kernel
theorem dX10_goBack_28 : decode cX10_goBack 28 = .ok (.iadd, 1) := by decide +kernel
theorem dX10_goBack_29 : decode cX10_goBack 29 = .ok (.istore 7, 2) := by decide +kernel
theorem dX10_goBack_31 : decode cX10_goBack 31 = .ok (.iload 5, 2) := by decide +kernel
theorem dX10_goBack_33 : decode cX10_goBack 33 = .ok (.iload 6, 2) := by decide +kernel
theorem dX10_goBack_35 : decode cX10_goBack 35 = .ok (.iload_n 3, 1) := by decide +kernel
theorem dX10_goBack_36 : decode cX10_goBack 36 = .ok (.isub, 1) := by decide +kernel
theorem dX10_goBack_37 : decode cX10_goBack 37 = .ok (.if_icmp .ge 25, 3) := by decide +kernel
theorem dX10_goBack_40 : decode cX10_goBack 40 = .ok (.aload_n 0, 1) := by decide +kernel
theorem dX10_goBack_41 : decode cX10_goBack 41 = .ok (.iload 6, 2) := by decide +kernel
theorem dX10_goBack_43 : decode cX10_goBack 43 = .ok (.iload_n 3, 1) := by decide +kernel
theorem dX10_goBack_44 : decode cX10_goBack 44 = .ok (.isub, 1) := by decide +kernel
theorem dX10_goBack_45 : decode cX10_goBack 45 = .ok (.iload 7, 2) := by decide +kernel
theorem dX10_goBack_47 : decode cX10_goBack 47 = .ok (.iload 4, 2) := by decide +kernel
theorem dX10_goBack_49 : decode cX10_goBack 49 = .ok (.iconst 1, 1) := by decide +kernel
theorem dX10_goBack_50 : decode cX10_goBack 50 = .ok (.isub, 1) := by decide +kernel
theorem dX10_goBack_51 : decode cX10_goBack 51 = .ok (.invokestatic 49, 3) := by decide +kernel
theorem dX10_goBack_54 : decode cX10_goBack 54 = .ok (.invokevirtual 45, 3) := by decide +kernel
theorem dX10_goBack_57 : decode cX10_goBack 57 = .ok (.istore 5, 2) := by decide +kernel
theorem dX10_goBack_59 : decode cX10_goBack 59 = .ok (.goto 31, 3) := by decide +kernel
theorem dX10_goBack_62 : decode cX10_goBack 62 = .ok (.iload 7, 2) := by decide +kernel
theorem dX10_goBack_64 : decode cX10_goBack 64 = .ok (.iload 4, 2) := by decide +kernel
theorem dX10_goBack_66 : decode cX10_goBack 66 = .ok (.if_icmp .ge 24, 3) := by decide +kernel
theorem dX10_goBack_69 : decode cX10_goBack 69 = .ok (.aload_n 0, 1) := by decide +kernel
theorem dX10_goBack_70 : decode cX10_goBack 70 = .ok (.getfield 26, 3) := by decide +kernel
theorem dX10_goBack_73 : decode cX10_goBack 73 = .ok (.iload 7, 2) := by decide +kernel
theorem dX10_goBack_75 : decode cX10_goBack 75 = .ok (.iaload, 1) := by decide +kernel
theorem dX10_goBack_76 : decode cX10_goBack 76 = .ok (.aload_n 0, 1) := by decide +kernel
theorem dX10_goBack_77 : decode cX10_goBack 77 = .ok (.getfield 26, 3) := by decide +kernel
theorem dX10_goBack_80 : decode cX10_goBack 80 = .ok (.iload 5, 2) := by decide +kernel
theorem dX10_goBack_82 : decode cX10_goBack 82 = .ok (.iaload, 1) := by decide +kernel
theorem dX10_goBack_83 : decode cX10_goBack 83 = .ok (.if_icmp .le 7, 3) := by decide +kernel
theorem dX10_goBack_86 : decode cX10_goBack 86 = .ok (.iload 7, 2) := by decide +kernel
theorem dX10_goBack_88 : decode cX10_goBack 88 = .ok (.istore 5, 2) := by decide +kernel
theorem dX10_goBack_90 : decode cX10_goBack 90 = .ok (.aload_n 0, 1) := by decide +kernel
theorem dX10_goBack_91 : decode cX10_goBack 91 = .ok (.getfield 19, 3) := by decide +kernel
theorem dX10_goBack_94 : decode cX10_goBack 94 = .ok (.iload_n 2, 1) := by decide +kernel
theorem dX10_goBack_95 : decode cX10_goBack 95 = .ok (.bipush 48, 2) := by decide +kernel
theorem dX10_goBack_97 : decode cX10_goBack 97 = .ok (.imul, 1) := by decide +kernel
theorem dX10_goBack_98 : decode cX10_goBack 98 = .ok (.iload 6, 2) := by decide +kernel
theorem dX10_goBack_100 : decode cX10_goBack 100 = .ok (.iadd, 1) := by decide +kernel
theorem dX10_goBack_101 : decode cX10_goBack 101 = .ok (.iload 5, 2) := by decide +kernel
theorem dX10_goBack_103 : decode cX10_goBack 103 = .ok (.i2b, 1) := by decide +kernel
theorem dX10_goBack_104 : decode cX10_goBack 104 = .ok (.bastore, 1) := by decide +kernel
theorem dX10_goBack_105 : decode cX10_goBack 105 = .ok (.aload_n 0, 1) := by decide +kernel
theorem dX10_goBack_106 : decode cX10_goBack 106 = .ok (.getfield 23, 3) := by decide +kernel
theorem dX10_goBack_109 : decode cX10_goBack 109 = .ok (.iload 6, 2) := by decide +kernel
theorem dX10_goBack_111 : decode cX10_goBack 111 = .ok (.aload_n 1, 1) := by decide +kernel
theorem dX10_goBack_112 : decode cX10_goBack 112 = .ok (.iload 6, 2) := by decide +kernel
theorem dX10_goBack_114 : decode cX10_goBack 114 = .ok (.invokevirtual 54, 3) := by decide +kernel
theorem dX10_goBack_117 : decode cX10_goBack 117 = .ok (.aload_n 0, 1) := by decide +kernel
theorem dX10_goBack_118 : decode cX10_goBack 118 = .ok (.getfield 26, 3) := by decide +kernel
theorem dX10_goBack_121 : decode cX10_goBack 121 = .ok (.iload 5, 2) := by decide +kernel
theorem dX10_goBack_123 : decode cX10_goBack 123 = .ok (.iaload, 1) := by decide +kernel
theorem dX10_goBack_124 : decode cX10_goBack 124 = .ok (.iadd, 1) := by decide +kernel
theorem dX10_goBack_125 : decode cX10_goBack 125 = .ok (.iastore, 1) := by decide +kernel
theorem dX10_goBack_126 : decode cX10_goBack 126 = .ok (.iinc 6 1, 3) := by decide +kernel
theorem dX10_goBack_129 : decode cX10_goBack 129 = .ok (.goto (-111), 3) := by decide +kernel
theorem dX10_goBack_132 : decode cX10_goBack 132 = .ok (.aload_n 0, 1) := by decide +kernel
theorem dX10_goBack_133 : decode cX10_goBack 133 = .ok (.getfield 26, 3) := by decide +kernel
theorem dX10_goBack_136 : decode cX10_goBack 136 = .ok (.astore 6, 2) := by decide +kernel
theorem dX10_goBack_138 : decode cX10_goBack 138 = .ok (.aload_n 0, 1) := by decide +kernel
theorem dX10_goBack_139 : decode cX10_goBack 139 = .ok (.aload_n 0, 1) := by decide +kernel
theorem dX10_goBack_140 : decode cX10_goBack 140 = .ok (.getfield 23, 3) := by decide +kernel
theorem dX10_goBack_143 : decode cX10_goBack 143 = .ok (.putfield 26, 3) := by decide +kernel
theorem dX10_goBack_146 : decode cX10_goBack 146 = .ok (.aload_n 0, 1) := by decide +kernel
theorem dX10_goBack_147 : decode cX10_goBack 147 = .ok (.aload 6, 2) := by decide +kernel
theorem dX10_goBack_149 : decode cX10_goBack 149 = .ok (.putfield 23, 3) := by decide +kernel
theorem dX10_goBack_152 : decode cX10_goBack 152 = .ok (.return_, 1) := by decide +kernel
def X_WK_goBack_90 (K : xs_St → Prop) (k18 : Option Nat → Int32 → Int32 → Int32 → Int32 → Int32 → xs_St → Prop) (x1 : Option Nat) (x2 : Int32) (x3 : Int32) (x4 : Int32) (x5 : Int32) (x6 : Int32) (u : xs_St) : Prop :=
  (vp_in ((x2 * (48 : Int32)) + x6) 1920 ∧ ∀ u_1 : xs_St, u_1 = xs_sa u 802 (upd (xa u 802) (((x2 * (48 : Int32)) + x6)).toNatClampNeg (vp_nar .byte (x5).toInt8.toInt32)) → (∃ b_2 : Nat, x1 = some b_2 ∧ xd_is u_1 b_2 3 ∧ X_Feel_loudness_d b_2 x6 u_1 (fun r_4 u_3 => (vp_in x5 48 ∧ ∀ y_5 : Int32, y_5 = xa u_3 804 (x5).toNatClampNeg → (vp_in x6 48 ∧ ∀ u_6 : xs_St, u_6 = xs_sa u_3 803 (upd (xa u_3 803) (x6).toNatClampNeg (r_4 + y_5)) → ∀ x6_7 : Int32, x6_7 = x6 + (1 : Int32) → k18 x1 x2 x3 x4 x5 x6_7 u_6)))))
set_option maxHeartbeats 4000000 in
set_option maxRecDepth 100000 in
theorem X_WK_goBack_90_w {K : xs_St → Prop} {k18 : Option Nat → Int32 → Int32 → Int32 → Int32 → Int32 → xs_St → Prop} (C : th_Cx p s m args meth c cX10_goBack RX10 8 (none) (dC, dI) (th_ty cs) (xE ad ak) A) (hk18 : ∀ (x1 : Option Nat) (x2 : Int32) (x3 : Int32) (x4 : Int32) (x5 : Int32) (x6 : Int32) (v : Nat → Nat) (u : xs_St) (H : Heap) (locs : List Loc) (ls : Array Slot), k18 x1 x2 x3 x4 x5 x6 u → th_wI (dC, dI) (wX cs ad q v v) A s.heap u H locs → lv_has ls 8 [(0, .ref (q 899)), (1, va_rf x1), (2, .int x2), (3, .int x3), (4, .int x4), (5, .int x5), (6, .int x6)] → W p l e (th_rm 2 0 0) s m args below meth c H locs 0 0 (MQ below (va_Qv (fun a9 => K a9.2) (th_Post (dC, dI) (wXs cs ad q) A) A) args s 0 0 A) (F0 m 18 ls [])) (x1 : Option Nat) (x2 : Int32) (x3 : Int32) (x4 : Int32) (x5 : Int32) (x6 : Int32) (v : Nat → Nat) (u : xs_St) (H : Heap) (locs : List Loc) (ls : Array Slot) (hf : X_WK_goBack_90 K k18 x1 x2 x3 x4 x5 x6 u) (hw : th_wI (dC, dI) (wX cs ad q v v) A s.heap u H locs) (hl : lv_has ls 8 [(0, .ref (q 899)), (1, va_rf x1), (2, .int x2), (3, .int x3), (4, .int x4), (5, .int x5), (6, .int x6)]) : W p l e (th_rm 2 0 0) s m args below meth c H locs 0 0 (MQ below (va_Qv (fun a9 => K a9.2) (th_Post (dC, dI) (wXs cs ad q) A) A) args s 0 0 A) (F0 m 90 ls []) := by
  have hx := C.1
  have hb := C.2.1
  unfold X_WK_goBack_90 at hf
  refine lv_aload_n hx hb dX10_goBack_90 rfl (lv_at hl 0 rfl) ?_
  refine xg_802 C hw (C.2.2.2.2.1 _ hwF_X10_19) dX10_goBack_91 ?_
  refine lv_iload_n hx hb dX10_goBack_94 rfl (lv_at hl 2 rfl) ?_
  refine lv_bipush (v := (48 : Int32)) hx hb dX10_goBack_95 (by decide) ?_
  refine lv_imul hx hb dX10_goBack_97 ?_
  refine lv_iload hx hb dX10_goBack_98 (lv_at hl 6 rfl) ?_
  refine lv_iadd hx hb dX10_goBack_100 ?_
  refine lv_iload hx hb dX10_goBack_101 (lv_at hl 5 rfl) ?_
  refine lv_i2b hx hb dX10_goBack_103 rfl ?_
  refine ys_802 C hw hf.1 dX10_goBack_104 (fun u_1 e9 H locs hw => ?_)
  replace hf := hf.2 u_1 e9
  clear e9
  refine lv_aload_n hx hb dX10_goBack_105 rfl (lv_at hl 0 rfl) ?_
  refine xg_803 C hw (C.2.2.2.2.1 _ hwF_X10_23) dX10_goBack_106 ?_
  refine lv_iload hx hb dX10_goBack_109 (lv_at hl 6 rfl) ?_
  refine th_aload_n hx hb dX10_goBack_111 rfl (lv_at hl 1 rfl) ?_
  refine lv_iload hx hb dX10_goBack_112 (lv_at hl 6 rfl) ?_
  obtain ⟨b_2, e9, hm, hf⟩ := hf
  refine W.eq (g2 := F0 m 114 ls [.int x6, .ref b_2, .int x6, .ref (v 803)]) (congrArg (fun z9 => F0 m 114 ls [.int x6, va_rf z9, .int x6, .ref (v 803)]) e9) ?_
  clear e9
  refine th_callVi (As := [.int x6]) (rest := [.int x6, .ref (v 803)]) C lkX10_54 (X_Feel_loudness_d_c hf) hw (xdRc_Feel C hw hm) rfl rfl ⟨Nat.le_of_ble_eq_true rfl, Nat.le_of_ble_eq_true rfl⟩ hl.1 (Nat.le_of_ble_eq_true rfl) ⟨Nat.le_of_ble_eq_true rfl, Nat.le_of_ble_eq_true rfl⟩ dX10_goBack_114 (fun r_4 u_3 H locs hf hw => ?_)
  refine lv_aload_n hx hb dX10_goBack_117 rfl (lv_at hl 0 rfl) ?_
  refine xg_804 C hw (C.2.2.2.2.1 _ hwF_X10_26) dX10_goBack_118 ?_
  refine lv_iload hx hb dX10_goBack_121 (lv_at hl 5 rfl) ?_
  refine yl_804 C hw hf.1 dX10_goBack_123 (fun y_5 e9 => ?_)
  replace hf := hf.2 y_5 e9
  clear e9
  refine lv_iadd hx hb dX10_goBack_124 ?_
  refine ys_803 C hw hf.1 dX10_goBack_125 (fun u_6 e9 H locs hw => ?_)
  replace hf := hf.2 u_6 e9
  clear e9
  obtain ⟨x6_7, e9⟩ : ∃ y : Int32, y = x6 + (1 : Int32) := ⟨_, rfl⟩
  replace hf := hf x6_7 e9
  refine lv_iinc (v := x6_7) (lv' := [(6, .int x6_7), (0, .ref (q 899)), (1, va_rf x1), (2, .int x2), (3, .int x3), (4, .int x4), (5, .int x5)]) hx hb dX10_goBack_126 hl (k := 6) rfl (by rw [e9]; rfl) (by decide) rfl (fun ls hl => ?_)
  clear e9
  refine lv_goto (tgt := 18) hx hb dX10_goBack_129 (by decide) ?_
  exact hk18 x1 x2 x3 x4 x5 x6_7 v u_6 _ _ _ hf hw (lv_sub hl [1, 2, 3, 4, 5, 6, 0] rfl)
def X_WK_goBack_18 (K : xs_St → Prop) (k18 : Option Nat → Int32 → Int32 → Int32 → Int32 → Int32 → xs_St → Prop) (x1 : Option Nat) (x2 : Int32) (x3 : Int32) (x4 : Int32) (x5 : Int32) (x6 : Int32) (u : xs_St) : Prop :=
  ((x4 ≤ x6 → ∀ u_2 : xs_St, u_2 = xw_804_803 u → K u_2) ∧ (¬ x4 ≤ x6 → ∀ y_3 : Int32, y_3 = (x6 + x3) → (((x6 - x3) ≤ x5 → ((x4 ≤ y_3 → X_WK_goBack_90 K k18 x1 x2 x3 x4 x5 x6 u) ∧ (¬ x4 ≤ y_3 → (vp_in y_3 48 ∧ ∀ y_4 : Int32, y_4 = xa u 804 (y_3).toNatClampNeg → (vp_in x5 48 ∧ ∀ y_5 : Int32, y_5 = xa u 804 (x5).toNatClampNeg → ((y_4 ≤ y_5 → X_WK_goBack_90 K k18 x1 x2 x3 x4 x5 x6 u) ∧ (¬ y_4 ≤ y_5 → X_WK_goBack_90 K k18 x1 x2 x3 x4 y_3 x6 u))))))) ∧ (¬ (x6 - x3) ≤ x5 → X_WK_firstLoudest (x6 - x3) (if (x4 - (1 : Int32)) < y_3 then (x4 - (1 : Int32)) else y_3) u (fun r_7 u_6 => X_WK_goBack_90 K k18 x1 x2 x3 x4 r_7 x6 u_6)))))
set_option maxHeartbeats 4000000 in
set_option maxRecDepth 100000 in
theorem X_WK_goBack_18_w {K : xs_St → Prop} {k18 : Option Nat → Int32 → Int32 → Int32 → Int32 → Int32 → xs_St → Prop} (C : th_Cx p s m args meth c cX10_goBack RX10 8 (none) (dC, dI) (th_ty cs) (xE ad ak) A) (hk18 : ∀ (x1 : Option Nat) (x2 : Int32) (x3 : Int32) (x4 : Int32) (x5 : Int32) (x6 : Int32) (v : Nat → Nat) (u : xs_St) (H : Heap) (locs : List Loc) (ls : Array Slot), k18 x1 x2 x3 x4 x5 x6 u → th_wI (dC, dI) (wX cs ad q v v) A s.heap u H locs → lv_has ls 8 [(0, .ref (q 899)), (1, va_rf x1), (2, .int x2), (3, .int x3), (4, .int x4), (5, .int x5), (6, .int x6)] → W p l e (th_rm 2 0 0) s m args below meth c H locs 0 0 (MQ below (va_Qv (fun a9 => K a9.2) (th_Post (dC, dI) (wXs cs ad q) A) A) args s 0 0 A) (F0 m 18 ls [])) (x1 : Option Nat) (x2 : Int32) (x3 : Int32) (x4 : Int32) (x5 : Int32) (x6 : Int32) (v : Nat → Nat) (u : xs_St) (H : Heap) (locs : List Loc) (ls : Array Slot) (hf : X_WK_goBack_18 K k18 x1 x2 x3 x4 x5 x6 u) (hw : th_wI (dC, dI) (wX cs ad q v v) A s.heap u H locs) (hl : lv_has ls 8 [(0, .ref (q 899)), (1, va_rf x1), (2, .int x2), (3, .int x3), (4, .int x4), (5, .int x5), (6, .int x6)]) : W p l e (th_rm 2 0 0) s m args below meth c H locs 0 0 (MQ below (va_Qv (fun a9 => K a9.2) (th_Post (dC, dI) (wXs cs ad q) A) A) args s 0 0 A) (F0 m 18 ls []) := by
  have hx := C.1
  have hb := C.2.1
  unfold X_WK_goBack_18 at hf
  refine lv_iload hx hb dX10_goBack_18 (lv_at hl 6 rfl) ?_
  refine lv_iload hx hb dX10_goBack_20 (lv_at hl 4 rfl) ?_
  refine lv_icmp_ge (tgt := 132) hx hb dX10_goBack_22 (by decide) (fun hc => ?_) (fun hc => ?_)
  · replace hf := hf.1 hc
    clear hc
    refine lv_aload_n hx hb dX10_goBack_132 rfl (lv_at hl 0 rfl) ?_
    refine xg_804 C hw (C.2.2.2.2.1 _ hwF_X10_26) dX10_goBack_133 ?_
    refine lv_astore (lv' := [(6, .ref (v 804)), (0, .ref (q 899)), (1, va_rf x1), (2, .int x2), (3, .int x3), (4, .int x4), (5, .int x5)]) hx hb dX10_goBack_136 hl (by decide) rfl (fun ls hl => ?_)
    refine lv_aload_n hx hb dX10_goBack_138 rfl (lv_at hl 1 rfl) ?_
    refine lv_aload_n hx hb dX10_goBack_139 rfl (lv_at hl 1 rfl) ?_
    refine xg_803 C hw (C.2.2.2.2.1 _ hwF_X10_23) dX10_goBack_140 ?_
    refine xq_804 (x := (v 803)) C hw (C.2.2.2.2.1 _ hwF_X10_26) dX10_goBack_143 (fun H locs hw => ?_)
    refine lv_aload_n hx hb dX10_goBack_146 rfl (lv_at hl 1 rfl) ?_
    refine lv_aload hx hb dX10_goBack_147 (lv_at hl 0 rfl) ?_
    refine xq_803 (x := (v 804)) C hw (C.2.2.2.2.1 _ hwF_X10_23) dX10_goBack_149 (fun H locs hw => ?_)
    obtain ⟨v_1, hw⟩ := xw_804_803_f hw
    obtain ⟨u_2, e9⟩ : ∃ z, z = xw_804_803 u := ⟨_, rfl⟩
    rw [← e9] at hw
    replace hf := hf u_2 e9
    clear e9
    replace hl := lv_sub hl [1, 2, 3, 4, 5, 6] rfl
    have hl : lv_has ls 8 [(0, .ref (q 899)), (1, va_rf x1), (2, .int x2), (3, .int x3), (4, .int x4), (5, .int x5)] := hl
    exact th_vret (K := (fun a9 => K a9.2)) (w := wXs cs ad q) (u := (v_1, u_2)) C hw hf dX10_goBack_152
  · replace hf := hf.2 hc
    clear hc
    refine lv_iload hx hb dX10_goBack_25 (lv_at hl 6 rfl) ?_
    refine lv_iload_n hx hb dX10_goBack_27 rfl (lv_at hl 3 rfl) ?_
    refine lv_iadd hx hb dX10_goBack_28 ?_
    refine lv_topi (fun y_3 e9 => ?_)
    replace hf := hf y_3 e9
    clear e9
    refine lv_istore (lv' := [(7, .int y_3), (0, .ref (q 899)), (1, va_rf x1), (2, .int x2), (3, .int x3), (4, .int x4), (5, .int x5), (6, .int x6)]) hx hb dX10_goBack_29 hl (by decide) rfl (fun ls hl => ?_)
    refine lv_iload hx hb dX10_goBack_31 (lv_at hl 6 rfl) ?_
    refine lv_iload hx hb dX10_goBack_33 (lv_at hl 7 rfl) ?_
    refine lv_iload_n hx hb dX10_goBack_35 rfl (lv_at hl 4 rfl) ?_
    refine lv_isub hx hb dX10_goBack_36 ?_
    refine lv_icmp_ge (tgt := 62) hx hb dX10_goBack_37 (by decide) (fun hc => ?_) (fun hc => ?_)
    · replace hf := hf.1 hc
      clear hc
      refine lv_iload hx hb dX10_goBack_62 (lv_at hl 0 rfl) ?_
      refine lv_iload hx hb dX10_goBack_64 (lv_at hl 5 rfl) ?_
      refine lv_icmp_ge (tgt := 90) hx hb dX10_goBack_66 (by decide) (fun hc => ?_) (fun hc => ?_)
      · replace hf := hf.1 hc
        clear hc
        exact X_WK_goBack_90_w C hk18 x1 x2 x3 x4 x5 x6 v u _ _ _ hf hw (lv_sub hl [1, 2, 3, 4, 5, 6, 7] rfl)
      · replace hf := hf.2 hc
        clear hc
        refine lv_aload_n hx hb dX10_goBack_69 rfl (lv_at hl 1 rfl) ?_
        refine xg_804 C hw (C.2.2.2.2.1 _ hwF_X10_26) dX10_goBack_70 ?_
        refine lv_iload hx hb dX10_goBack_73 (lv_at hl 0 rfl) ?_
        refine yl_804 C hw hf.1 dX10_goBack_75 (fun y_4 e9 => ?_)
        replace hf := hf.2 y_4 e9
        clear e9
        refine lv_aload_n hx hb dX10_goBack_76 rfl (lv_at hl 1 rfl) ?_
        refine xg_804 C hw (C.2.2.2.2.1 _ hwF_X10_26) dX10_goBack_77 ?_
        refine lv_iload hx hb dX10_goBack_80 (lv_at hl 6 rfl) ?_
        refine yl_804 C hw hf.1 dX10_goBack_82 (fun y_5 e9 => ?_)
        replace hf := hf.2 y_5 e9
        clear e9
        refine lv_icmp_le (tgt := 90) hx hb dX10_goBack_83 (by decide) (fun hc => ?_) (fun hc => ?_)
        · replace hf := hf.1 hc
          clear hc
          exact X_WK_goBack_90_w C hk18 x1 x2 x3 x4 x5 x6 v u _ _ _ hf hw (lv_sub hl [1, 2, 3, 4, 5, 6, 7] rfl)
        · replace hf := hf.2 hc
          clear hc
          refine lv_iload hx hb dX10_goBack_86 (lv_at hl 0 rfl) ?_
          refine lv_istore (lv' := [(5, .int y_3), (7, .int y_3), (0, .ref (q 899)), (1, va_rf x1), (2, .int x2), (3, .int x3), (4, .int x4), (6, .int x6)]) hx hb dX10_goBack_88 hl (by decide) rfl (fun ls hl => ?_)
          exact X_WK_goBack_90_w C hk18 x1 x2 x3 x4 y_3 x6 v u _ _ _ hf hw (lv_sub hl [2, 3, 4, 5, 6, 0, 7] rfl)
    · replace hf := hf.2 hc
      clear hc
      refine lv_aload_n hx hb dX10_goBack_40 rfl (lv_at hl 1 rfl) ?_
      refine lv_iload hx hb dX10_goBack_41 (lv_at hl 7 rfl) ?_
      refine lv_iload_n hx hb dX10_goBack_43 rfl (lv_at hl 4 rfl) ?_
      refine lv_isub hx hb dX10_goBack_44 ?_
      refine lv_iload hx hb dX10_goBack_45 (lv_at hl 0 rfl) ?_
      refine lv_iload hx hb dX10_goBack_47 (lv_at hl 5 rfl) ?_
      refine lv_iconst (v := (1 : Int32)) hx hb dX10_goBack_49 (by decide) ?_
      refine lv_isub hx hb dX10_goBack_50 ?_
      refine va_mmin hx hb (C.2.2.1.trans hl.1.symm) C.2.2.2.1 (C.2.2.2.2.1 _ hwM_X10_49) (C.2.2.2.2.1 _ hwS_Math_min) (C.2.2.2.2.1 _ hwI_Math) (C.2.2.2.2.1 _ hwC_Math_min) (Nat.le_of_ble_eq_true rfl) (Nat.le_of_ble_eq_true rfl) (Nat.le_of_ble_eq_true rfl) (Nat.le_of_ble_eq_true rfl) dX10_goBack_51 ?_
      refine th_callVi (As := [.int (x6 - x3), .int (if (x4 - (1 : Int32)) < y_3 then (x4 - (1 : Int32)) else y_3)]) (rest := []) C lkX10_45 (X_WK_firstLoudest_c hf) hw (xRc_WK C hw) rfl rfl ⟨Nat.le_of_ble_eq_true rfl, Nat.le_of_ble_eq_true rfl⟩ hl.1 (Nat.le_of_ble_eq_true rfl) ⟨Nat.le_of_ble_eq_true rfl, Nat.le_of_ble_eq_true rfl⟩ dX10_goBack_54 (fun r_7 u_6 H locs hf hw => ?_)
      refine lv_istore (lv' := [(5, .int r_7), (7, .int y_3), (0, .ref (q 899)), (1, va_rf x1), (2, .int x2), (3, .int x3), (4, .int x4), (6, .int x6)]) hx hb dX10_goBack_57 hl (by decide) rfl (fun ls hl => ?_)
      refine lv_goto (tgt := 90) hx hb dX10_goBack_59 (by decide) ?_
      exact X_WK_goBack_90_w C hk18 x1 x2 x3 x4 r_7 x6 v u_6 _ _ _ hf hw (lv_sub hl [2, 3, 4, 5, 6, 0, 7] rfl)
def X_WK_goBack_18_lp (K : xs_St → Prop) : Nat → Option Nat → Int32 → Int32 → Int32 → Int32 → Int32 → xs_St → Prop
  | 0, _, _, _, _, _, _, _ => False
  | n + 1, x1, x2, x3, x4, x5, x6, u => X_WK_goBack_18 K (X_WK_goBack_18_lp K n) x1 x2 x3 x4 x5 x6 u
set_option maxHeartbeats 4000000 in
set_option maxRecDepth 100000 in
theorem X_WK_goBack_18_lw {K : xs_St → Prop} (C : th_Cx p s m args meth c cX10_goBack RX10 8 (none) (dC, dI) (th_ty cs) (xE ad ak) A) (n : Nat) : ∀ (x1 : Option Nat) (x2 : Int32) (x3 : Int32) (x4 : Int32) (x5 : Int32) (x6 : Int32) (v : Nat → Nat) (u : xs_St) (H : Heap) (locs : List Loc) (ls : Array Slot), X_WK_goBack_18_lp K n x1 x2 x3 x4 x5 x6 u → th_wI (dC, dI) (wX cs ad q v v) A s.heap u H locs → lv_has ls 8 [(0, .ref (q 899)), (1, va_rf x1), (2, .int x2), (3, .int x3), (4, .int x4), (5, .int x5), (6, .int x6)] → W p l e (th_rm 2 0 0) s m args below meth c H locs 0 0 (MQ below (va_Qv (fun a9 => K a9.2) (th_Post (dC, dI) (wXs cs ad q) A) A) args s 0 0 A) (F0 m 18 ls []) := by
  induction n with
  | zero => intro x1 x2 x3 x4 x5 x6 v u H locs ls hf; exact hf.elim
  | succ n ih =>
    intro x1 x2 x3 x4 x5 x6 v u H locs ls hf hw hl
    exact X_WK_goBack_18_w C ih x1 x2 x3 x4 x5 x6 v u H locs ls hf hw hl
def X_WK_goBack (a1 : Option Nat) (a2 : Int32) (a3 : Int32) (a4 : Int32) (u : xs_St) (K : xs_St → Prop) : Prop :=
  X_WK_firstLoudest (0 : Int32) (if (a4 - (1 : Int32)) < a3 then (a4 - (1 : Int32)) else a3) u (fun r_2 u_1 => ∃ n, X_WK_goBack_18_lp K n a1 a2 a3 a4 r_2 (0 : Int32) u_1)
set_option maxHeartbeats 4000000 in
set_option maxRecDepth 100000 in
theorem X_WK_goBack_c {l : Launch} {dC : Nat → ClassId} {dI : Nat → Nat → Nat} {cs : Nat → ClassId} {ad ak : Nat → Nat} {q v : Nat → Nat} {a1 : Option Nat} {a2 : Int32} {a3 : Int32} {a4 : Int32} {u : xs_St} {K : xs_St → Prop} (hf : X_WK_goBack a1 a2 a3 a4 u K) : th_Cv l yX10_goBack cX10_goBack 8 (none) 2 0 0 (dC, dI) (th_ty cs) (xE ad ak) (wXs cs ad q) [.ref (q 899), va_rf a1, .int a2, .int a3, .int a4] (v, u) (fun a9 => K a9.2) := by
  refine th_ofv (by decide) (by cases a1 <;> exact Nat.le_of_ble_eq_true rfl) (xE_ok ad ak) ?_
  intro p e s m below meth c A ls C hw hl
  have C : th_Cx p s m _ meth c cX10_goBack RX10 8 (none) (dC, dI) (th_ty cs) (xE ad ak) A := C
  have hl : lv_has ls 8 [(0, .ref (q 899)), (1, va_rf a1), (2, .int a2), (3, .int a3), (4, .int a4)] := by cases a1 <;> exact hl
  generalize (List.toArray _ : Array Value) = args at C ⊢
  have hx := C.1
  have hb := C.2.1
  unfold X_WK_goBack at hf
  refine lv_aload_n hx hb dX10_goBack_0 rfl (lv_at hl 0 rfl) ?_
  refine lv_iconst (v := (0 : Int32)) hx hb dX10_goBack_1 (by decide) ?_
  refine lv_iload_n hx hb dX10_goBack_2 rfl (lv_at hl 3 rfl) ?_
  refine lv_iload hx hb dX10_goBack_3 (lv_at hl 4 rfl) ?_
  refine lv_iconst (v := (1 : Int32)) hx hb dX10_goBack_5 (by decide) ?_
  refine lv_isub hx hb dX10_goBack_6 ?_
  refine va_mmin hx hb (C.2.2.1.trans hl.1.symm) C.2.2.2.1 (C.2.2.2.2.1 _ hwM_X10_49) (C.2.2.2.2.1 _ hwS_Math_min) (C.2.2.2.2.1 _ hwI_Math) (C.2.2.2.2.1 _ hwC_Math_min) (Nat.le_of_ble_eq_true rfl) (Nat.le_of_ble_eq_true rfl) (Nat.le_of_ble_eq_true rfl) (Nat.le_of_ble_eq_true rfl) dX10_goBack_7 ?_
  refine th_callVi (As := [.int (0 : Int32), .int (if (a4 - (1 : Int32)) < a3 then (a4 - (1 : Int32)) else a3)]) (rest := []) C lkX10_45 (X_WK_firstLoudest_c hf) hw (xRc_WK C hw) rfl rfl ⟨Nat.le_of_ble_eq_true rfl, Nat.le_of_ble_eq_true rfl⟩ hl.1 (Nat.le_of_ble_eq_true rfl) ⟨Nat.le_of_ble_eq_true rfl, Nat.le_of_ble_eq_true rfl⟩ dX10_goBack_10 (fun r_2 u_1 H locs hf hw => ?_)
  refine lv_istore (lv' := [(5, .int r_2), (0, .ref (q 899)), (1, va_rf a1), (2, .int a2), (3, .int a3), (4, .int a4)]) hx hb dX10_goBack_13 hl (by decide) rfl (fun ls hl => ?_)
  refine lv_iconst (v := (0 : Int32)) hx hb dX10_goBack_15 (by decide) ?_
  refine lv_istore (lv' := [(6, .int (0 : Int32)), (5, .int r_2), (0, .ref (q 899)), (1, va_rf a1), (2, .int a2), (3, .int a3), (4, .int a4)]) hx hb dX10_goBack_16 hl (by decide) rfl (fun ls hl => ?_)
  obtain ⟨n, hf⟩ := hf
  exact X_WK_goBack_18_lw C n a1 a2 a3 a4 r_2 (0 : Int32) v u_1 _ _ _ hf hw (lv_sub hl [2, 3, 4, 5, 6, 1, 0] rfl)
/-! X_BD_addHour -/
theorem dX0_addHour_0 : decode cX0_addHour 0 = .ok (.aload_n 0, 1) := by decide +kernel
theorem dX0_addHour_1 : decode cX0_addHour 1 = .ok (.getfield 36, 3) := by decide +kernel
theorem dX0_addHour_4 : decode cX0_addHour 4 = .ok (.bipush 40, 2) := by decide +kernel
theorem dX0_addHour_6 : decode cX0_addHour 6 = .ok (.if_icmp .lt 5, 3) := by decide +kernel
theorem dX0_addHour_9 : decode cX0_addHour 9 = .ok (.iconst (-1), 1) := by decide +kernel
theorem dX0_addHour_10 : decode cX0_addHour 10 = .ok (.ireturn, 1) := by decide +kernel
theorem dX0_addHour_11 : decode cX0_addHour 11 = .ok (.aload_n 0, 1) := by decide +kernel
theorem dX0_addHour_12 : decode cX0_addHour 12 = .ok (.new 11, 3) := by decide +kernel
theorem dX0_addHour_15 : decode cX0_addHour 15 = .ok (.dup, 1) := by decide +kernel
theorem dX0_addHour_16 : decode cX0_addHour 16 = .ok (.aload_n 1, 1) := by decide +kernel
theorem dX0_addHour_17 : decode cX0_addHour 17 = .ok (.invokevirtual 51, 3) := by decide +kernel
theorem dX0_addHour_20 : decode cX0_addHour 20 = .ok (.aload_n 0, 1) := by decide +kernel
theorem dX0_addHour_21 : decode cX0_addHour 21 = .ok (.getfield 36, 3) := by decide +kernel
theorem dX0_addHour_24 : decode cX0_addHour 24 = .ok (.iload_n 2, 1) := by decide +kernel
theorem dX0_addHour_25 : decode cX0_addHour 25 = .ok (.invokespecial 22, 3) := by decide +kernel
theorem dX0_addHour_28 : decode cX0_addHour 28 = .ok (.invokevirtual 55, 3) := by decide +kernel
theorem dX0_addHour_31 : decode cX0_addHour 31 = .ok (.aload_n 0, 1) := by decide +kernel
theorem dX0_addHour_32 : decode cX0_addHour 32 = .ok (.dup, 1) := by decide +kernel
theorem dX0_addHour_33 : decode cX0_addHour 33 = .ok (.getfield 36, 3) := by decide +kernel
theorem dX0_addHour_36 : decode cX0_addHour 36 = .ok (.iconst 1, 1) := by decide +kernel
theorem dX0_addHour_37 : decode cX0_addHour 37 = .ok (.iadd, 1) := by decide +kernel
theorem dX0_addHour_38 : decode cX0_addHour 38 = .ok (.putfield 36, 3) := by decide +kernel
theorem dX0_addHour_41 : decode cX0_addHour 41 = .ok (.aload_n 0, 1) := by decide +kernel
theorem dX0_addHour_42 : decode cX0_addHour 42 = .ok (.getfield 36, 3) := by decide +kernel
theorem dX0_addHour_45 : decode cX0_addHour 45 = .ok (.iconst 1, 1) := by decide +kernel
theorem dX0_addHour_46 : decode cX0_addHour 46 = .ok (.isub, 1) := by decide +kernel
theorem dX0_addHour_47 : decode cX0_addHour 47 = .ok (.ireturn, 1) := by decide +kernel
def X_BD_addHour (a2 : Int32) (u : xs_St) (K : Int32 → xs_St → Prop) : Prop :=
  (((xi u 504) < (40 : Int32) → ∀ b_1 : Nat, b_1 ∉ xdL u → ∀ u_2 : xs_St, u_2 = xs_new u b_1 1 → X_TP_copy u_2 (fun r_4 u_3 => X_Row_init_d b_1 r_4 (xi u_3 504) a2 u_3 (fun u_5 => X_BD_addRow (some b_1) u_5 (fun u_6 => ∀ u_8 : xs_St, u_8 = xs_si u_6 504 ((xi u_6 504) + (1 : Int32)) → K ((xi u_8 504) - (1 : Int32)) u_8)))) ∧ (¬ (xi u 504) < (40 : Int32) → K (-1 : Int32) u))
set_option maxHeartbeats 4000000 in
set_option maxRecDepth 100000 in
theorem X_BD_addHour_c {l : Launch} {dC : Nat → ClassId} {dI : Nat → Nat → Nat} {cs : Nat → ClassId} {ad ak : Nat → Nat} {q v : Nat → Nat} {a2 : Int32} {u : xs_St} {K : Int32 → xs_St → Prop} (hf : X_BD_addHour a2 u K) : th_Ci l yX0_addHour cX0_addHour 3 (some .int) 3 2 443 (dC, dI) (th_ty cs) (xE ad ak) (wX cs ad q v v) [.ref (q 599), .ref (q 199), .int a2] u K := by
  refine th_ofi (by decide) (Nat.le_of_ble_eq_true rfl) (xE_ok ad ak) ?_
  intro p e s m below meth c A ls C hw hl
  have C : th_Cx p s m _ meth c cX0_addHour RX0 3 (some .int) (dC, dI) (th_ty cs) (xE ad ak) A := C
  have hl : lv_has ls 3 [(0, .ref (q 599)), (1, .ref (q 199)), (2, .int a2)] := hl
  generalize (List.toArray _ : Array Value) = args at C ⊢
  have hx := C.1
  have hb := C.2.1
  unfold X_BD_addHour at hf
  refine lv_aload_n hx hb dX0_addHour_0 rfl (lv_at hl 0 rfl) ?_
  refine xg_504 C hw (C.2.2.2.2.1 _ hwF_X0_36) dX0_addHour_1 ?_
  refine lv_bipush (v := (40 : Int32)) hx hb dX0_addHour_4 (by decide) ?_
  refine lv_icmp_lt (tgt := 11) hx hb dX0_addHour_6 (by decide) (fun hc => ?_) (fun hc => ?_)
  · replace hf := hf.1 hc
    clear hc
    refine lv_aload_n hx hb dX0_addHour_11 rfl (lv_at hl 0 rfl) ?_
    refine xn_Row C hw (C.2.2.2.2.1 _ hwO_X0_11) (by simp only [th_rm]; omega) (by simp only [th_rm]; omega) dX0_addHour_12 (fun b_1 hb9 u_2 e9 H hw => ?_)
    replace hf := hf b_1 hb9 u_2 e9
    clear e9 hb9
    refine lv_dup hx hb dX0_addHour_15 rfl ?_
    refine lv_aload_n hx hb dX0_addHour_16 rfl (lv_at hl 1 rfl) ?_
    refine th_callVq (As := []) (rest := [.ref b_1, .ref b_1, .ref (q 599)]) C lkX0_51 (X_TP_copy_c hf) hw (xRc_TP C hw) rfl rfl ⟨Nat.le_of_ble_eq_true rfl, Nat.le_of_ble_eq_true rfl⟩ hl.1 (Nat.le_of_ble_eq_true rfl) ⟨by simp only [th_rm]; omega, by simp only [th_rm]; omega⟩ dX0_addHour_17 (fun r_4 u_3 H locs hf hw => ?_)
    refine lv_aload_n hx hb dX0_addHour_20 rfl (lv_at hl 0 rfl) ?_
    refine xg_504 C hw (C.2.2.2.2.1 _ hwF_X0_36) dX0_addHour_21 ?_
    refine lv_iload_n hx hb dX0_addHour_24 rfl (lv_at hl 2 rfl) ?_
    refine th_callIv (As := [va_rf r_4, .int (xi u_3 504), .int a2]) (rest := [.ref b_1, .ref (q 599)]) C lkIX0_22 (X_Row_init_d_c hf) hw rfl rfl ⟨Nat.le_of_ble_eq_true rfl, Nat.le_of_ble_eq_true rfl⟩ hl.1 (Nat.le_of_ble_eq_true rfl) ⟨by simp only [th_rm]; omega, by simp only [th_rm]; omega⟩ dX0_addHour_25 (fun u_5 H locs hf hw => ?_)
    refine th_callVv (As := [va_rf (some b_1)]) (rest := []) C lkX0_55 (X_BD_addRow_c hf) hw (xRc_BD C hw) rfl rfl ⟨Nat.le_of_ble_eq_true rfl, Nat.le_of_ble_eq_true rfl⟩ hl.1 (Nat.le_of_ble_eq_true rfl) ⟨by simp only [th_rm]; omega, by simp only [th_rm]; omega⟩ dX0_addHour_28 (fun u_6 H locs hf hw => ?_)
    refine lv_aload_n hx hb dX0_addHour_31 rfl (lv_at hl 0 rfl) ?_
    refine lv_dup hx hb dX0_addHour_32 rfl ?_
    refine xg_504 C hw (C.2.2.2.2.1 _ hwF_X0_36) dX0_addHour_33 ?_
    refine lv_iconst (v := (1 : Int32)) hx hb dX0_addHour_36 (by decide) ?_
    refine lv_iadd hx hb dX0_addHour_37 ?_
    refine xp_504 C hw (C.2.2.2.2.1 _ hwF_X0_36) dX0_addHour_38 (fun u_8 e9 H locs hw => ?_)
    replace hf := hf u_8 e9
    clear e9
    refine lv_aload_n hx hb dX0_addHour_41 rfl (lv_at hl 0 rfl) ?_
    refine xg_504 C hw (C.2.2.2.2.1 _ hwF_X0_36) dX0_addHour_42 ?_
    refine lv_iconst (v := (1 : Int32)) hx hb dX0_addHour_45 (by decide) ?_
    refine lv_isub hx hb dX0_addHour_46 ?_
    refine W.widen (k := 2) (n := 443) (by omega) (by omega) ?_
    exact th_iret C hw hf dX0_addHour_47
  · replace hf := hf.2 hc
    clear hc
    refine lv_iconst (v := (-1 : Int32)) hx hb dX0_addHour_9 (by decide) ?_
    refine W.widen (k := 2) (n := 443) (by omega) (by omega) ?_
    exact th_iret C hw hf dX0_addHour_10
/-! X_BD_addMended -/
theorem dX0_addMended_0 : decode cX0_addMended 0 = .ok (.aload_n 0, 1) := by decide +kernel
theorem dX0_addMended_1 : decode cX0_addMended 1 = .ok (.new 11, 3) := by decide +kernel
theorem dX0_addMended_4 : decode cX0_addMended 4 = .ok (.dup, 1) := by decide +kernel
theorem dX0_addMended_5 : decode cX0_addMended 5 = .ok (.aload_n 1, 1) := by decide +kernel
theorem dX0_addMended_6 : decode cX0_addMended 6 = .ok (.invokevirtual 51, 3) := by decide +kernel
theorem dX0_addMended_9 : decode cX0_addMended 9 = .ok (.iload_n 3, 1) := by decide +kernel
theorem dX0_addMended_10 : decode cX0_addMended 10 = .ok (.iload_n 2, 1) := by decide +kernel
theorem dX0_addMended_11 : decode cX0_addMended 11 = .ok (.invokespecial 22, 3) := by decide +kernel
theorem dX0_addMended_14 : decode cX0_addMended 14 = .ok (.invokevirtual 55, 3) := by decide +kernel
theorem dX0_addMended_17 : decode cX0_addMended 17 = .ok (.aload_n 0, 1) := by decide +kernel
theorem dX0_addMended_18 : decode cX0_addMended 18 = .ok (.dup, 1) := by decide +kernel
theorem dX0_addMended_19 : decode cX0_addMended 19 = .ok (.getfield 39, 3) := by decide +kernel
theorem dX0_addMended_22 : decode cX0_addMended 22 = .ok (.iconst 1, 1) := by decide +kernel
theorem dX0_addMended_23 : decode cX0_addMended 23 = .ok (.iadd, 1) := by decide +kernel
theorem dX0_addMended_24 : decode cX0_addMended 24 = .ok (.putfield 39, 3) := by decide +kernel
theorem dX0_addMended_27 : decode cX0_addMended 27 = .ok (.return_, 1) := by decide +kernel
def X_BD_addMended (a2 : Int32) (a3 : Int32) (u : xs_St) (K : xs_St → Prop) : Prop :=
  ∀ b_1 : Nat, b_1 ∉ xdL u → ∀ u_2 : xs_St, u_2 = xs_new u b_1 1 → X_TP_copy u_2 (fun r_4 u_3 => X_Row_init_d b_1 r_4 a3 a2 u_3 (fun u_5 => X_BD_addRow (some b_1) u_5 (fun u_6 => ∀ u_8 : xs_St, u_8 = xs_si u_6 505 ((xi u_6 505) + (1 : Int32)) → K u_8)))
set_option maxHeartbeats 4000000 in
set_option maxRecDepth 100000 in
theorem X_BD_addMended_c {l : Launch} {dC : Nat → ClassId} {dI : Nat → Nat → Nat} {cs : Nat → ClassId} {ad ak : Nat → Nat} {q v : Nat → Nat} {a2 : Int32} {a3 : Int32} {u : xs_St} {K : xs_St → Prop} (hf : X_BD_addMended a2 a3 u K) : th_Cv l yX0_addMended cX0_addMended 4 (none) 3 2 443 (dC, dI) (th_ty cs) (xE ad ak) (wX cs ad q v v) [.ref (q 599), .ref (q 199), .int a2, .int a3] u K := by
  refine th_ofv (by decide) (Nat.le_of_ble_eq_true rfl) (xE_ok ad ak) ?_
  intro p e s m below meth c A ls C hw hl
  have C : th_Cx p s m _ meth c cX0_addMended RX0 4 (none) (dC, dI) (th_ty cs) (xE ad ak) A := C
  have hl : lv_has ls 4 [(0, .ref (q 599)), (1, .ref (q 199)), (2, .int a2), (3, .int a3)] := hl
  generalize (List.toArray _ : Array Value) = args at C ⊢
  have hx := C.1
  have hb := C.2.1
  unfold X_BD_addMended at hf
  refine lv_aload_n hx hb dX0_addMended_0 rfl (lv_at hl 0 rfl) ?_
  refine xn_Row C hw (C.2.2.2.2.1 _ hwO_X0_11) (by simp only [th_rm]; omega) (by simp only [th_rm]; omega) dX0_addMended_1 (fun b_1 hb9 u_2 e9 H hw => ?_)
  replace hf := hf b_1 hb9 u_2 e9
  clear e9 hb9
  refine lv_dup hx hb dX0_addMended_4 rfl ?_
  refine lv_aload_n hx hb dX0_addMended_5 rfl (lv_at hl 1 rfl) ?_
  refine th_callVq (As := []) (rest := [.ref b_1, .ref b_1, .ref (q 599)]) C lkX0_51 (X_TP_copy_c hf) hw (xRc_TP C hw) rfl rfl ⟨Nat.le_of_ble_eq_true rfl, Nat.le_of_ble_eq_true rfl⟩ hl.1 (Nat.le_of_ble_eq_true rfl) ⟨by simp only [th_rm]; omega, by simp only [th_rm]; omega⟩ dX0_addMended_6 (fun r_4 u_3 H locs hf hw => ?_)
  refine lv_iload_n hx hb dX0_addMended_9 rfl (lv_at hl 3 rfl) ?_
  refine lv_iload_n hx hb dX0_addMended_10 rfl (lv_at hl 2 rfl) ?_
  refine th_callIv (As := [va_rf r_4, .int a3, .int a2]) (rest := [.ref b_1, .ref (q 599)]) C lkIX0_22 (X_Row_init_d_c hf) hw rfl rfl ⟨Nat.le_of_ble_eq_true rfl, Nat.le_of_ble_eq_true rfl⟩ hl.1 (Nat.le_of_ble_eq_true rfl) ⟨by simp only [th_rm]; omega, by simp only [th_rm]; omega⟩ dX0_addMended_11 (fun u_5 H locs hf hw => ?_)
  refine th_callVv (As := [va_rf (some b_1)]) (rest := []) C lkX0_55 (X_BD_addRow_c hf) hw (xRc_BD C hw) rfl rfl ⟨Nat.le_of_ble_eq_true rfl, Nat.le_of_ble_eq_true rfl⟩ hl.1 (Nat.le_of_ble_eq_true rfl) ⟨by simp only [th_rm]; omega, by simp only [th_rm]; omega⟩ dX0_addMended_14 (fun u_6 H locs hf hw => ?_)
  refine lv_aload_n hx hb dX0_addMended_17 rfl (lv_at hl 0 rfl) ?_
  refine lv_dup hx hb dX0_addMended_18 rfl ?_
  refine xg_505 C hw (C.2.2.2.2.1 _ hwF_X0_39) dX0_addMended_19 ?_
  refine lv_iconst (v := (1 : Int32)) hx hb dX0_addMended_22 (by decide) ?_
  refine lv_iadd hx hb dX0_addMended_23 ?_
  refine xp_505 C hw (C.2.2.2.2.1 _ hwF_X0_39) dX0_addMended_24 (fun u_8 e9 H locs hw => ?_)
  replace hf := hf u_8 e9
  clear e9
  refine W.widen (k := 2) (n := 443) (by omega) (by omega) ?_
  exact th_vret C hw hf dX0_addMended_27
/-! X_BD_feelBehind -/
theorem dX0_feelBehind_0 : decode cX0_feelBehind 0 = .ok (.aload_n 2, 1) := by decide +kernel
theorem dX0_feelBehind_1 : decode cX0_feelBehind 1 = .ok (.aload_n 3, 1) := by decide +kernel
theorem dX0_feelBehind_2 : decode cX0_feelBehind 2 = .ok (.invokevirtual 73, 3) := by decide +kernel
theorem dX0_feelBehind_5 : decode cX0_feelBehind 5 = .ok (.astore 4, 2) := by decide +kernel
theorem dX0_feelBehind_7 : decode cX0_feelBehind 7 = .ok (.aload 4, 2) := by decide +kernel
theorem dX0_feelBehind_9 : decode cX0_feelBehind 9 = .ok (.ifnonnull 7, 3) := by decide +kernel
theorem dX0_feelBehind_12 : decode cX0_feelBehind 12 = .ok (.aload_n 3, 1) := by decide +kernel
theorem dX0_feelBehind_13 : decode cX0_feelBehind 13 = .ok (.ifnonnull 15, 3) := by decide +kernel
theorem dX0_feelBehind_16 : decode cX0_feelBehind 16 = .ok (.aload 4, 2) := by decide +kernel
theorem dX0_feelBehind_18 : decode cX0_feelBehind 18 = .ok (.ifnonnull 7, 3) := by decide +kernel
theorem dX0_feelBehind_21 : decode cX0_feelBehind 21 = .ok (.aload_n 2, 1) := by decide +kernel
theorem dX0_feelBehind_22 : decode cX0_feelBehind 22 = .ok (.goto 5, 3) := by decide +kernel
theorem dX0_feelBehind_25 : decode cX0_feelBehind 25 = .ok (.aload 4, 2) := by decide +kernel
theorem dX0_feelBehind_27 : decode cX0_feelBehind 27 = .ok (.areturn, 1) := by decide +kernel
theorem dX0_feelBehind_28 : decode cX0_feelBehind 28 = .ok (.new 20, 3) := by decide +kernel
theorem dX0_feelBehind_31 : decode cX0_feelBehind 31 = .ok (.dup, 1) := by decide +kernel
theorem dX0_feelBehind_32 : decode cX0_feelBehind 32 = .ok (.aload_n 3, 1) := by decide +kernel
theorem dX0_feelBehind_33 : decode cX0_feelBehind 33 = .ok (.aload_n 2, 1) := by decide +kernel
theorem dX0_feelBehind_34 : decode cX0_feelBehind 34 = .ok (.aload_n 1, 1) := by decide +kernel
theorem dX0_feelBehind_35 : decode cX0_feelBehind 35 = .ok (.getfield 77, 3) := by decide +kernel
theorem dX0_feelBehind_38 : decode cX0_feelBehind 38 = .ok (.invokespecial 25, 3) := by decide +kernel
theorem dX0_feelBehind_41 : decode cX0_feelBehind 41 = .ok (.astore 5, 2) := by decide +kernel
theorem dX0_feelBehind_43 : decode cX0_feelBehind 43 = .ok (.aload 5, 2) := by decide +kernel
theorem dX0_feelBehind_45 : decode cX0_feelBehind 45 = .ok (.aload_n 1, 1) := by decide +kernel
theorem dX0_feelBehind_46 : decode cX0_feelBehind 46 = .ok (.invokevirtual 82, 3) := by decide +kernel
theorem dX0_feelBehind_49 : decode cX0_feelBehind 49 = .ok (.aload_n 2, 1) := by decide +kernel
theorem dX0_feelBehind_50 : decode cX0_feelBehind 50 = .ok (.aload 5, 2) := by decide +kernel
theorem dX0_feelBehind_52 : decode cX0_feelBehind 52 = .ok (.invokevirtual 86, 3) := by decide +kernel
theorem dX0_feelBehind_55 : decode cX0_feelBehind 55 = .ok (.aload 5, 2) := by decide +kernel
theorem dX0_feelBehind_57 : decode cX0_feelBehind 57 = .ok (.areturn, 1) := by decide +kernel
def X_BD_feelBehind_27 (K : Option Nat → xs_St → Prop) (z0 : Option Nat) (u : xs_St) : Prop :=
  K z0 u
set_option maxHeartbeats 4000000 in
set_option maxRecDepth 100000 in
theorem X_BD_feelBehind_27_w {K : Option Nat → xs_St → Prop} (C : th_Cx p s m args meth c cX0_feelBehind RX0 6 (some (.object "ThreadHouse$Feel")) (dC, dI) (th_ty cs) (xE ad ak) A) (z0 : Option Nat) (u : xs_St) (H : Heap) (locs : List Loc) (ls : Array Slot) (hf : X_BD_feelBehind_27 K z0 u) (hw : th_wI (dC, dI) (wX cs ad q v v) A s.heap u H locs) (hl : lv_has ls 6 []) (n9 m9 : Nat) (h9 : n9 + 0 ≤ 2) (g9 : m9 + 0 ≤ 56) : W p l e (th_rm 3 2 56) s m args below meth c H locs n9 m9 (MQ below (va_Qq K (th_Post (dC, dI) (wX cs ad q v v) A) A) args s 2 56 A) (F0 m 27 ls [va_rf z0]) := by
  have hx := C.1
  have hb := C.2.1
  unfold X_BD_feelBehind_27 at hf
  refine W.widen (k := 2) (n := 56) (by omega) (by omega) ?_
  exact th_qret (r := z0) (Or.inl ⟨_, rfl⟩) C hw hf dX0_feelBehind_27
def X_BD_feelBehind_16 (K : Option Nat → xs_St → Prop) (x2 : Option Nat) (x4 : Option Nat) (u : xs_St) : Prop :=
  ((¬ x4 = none → X_BD_feelBehind_27 K x4 u) ∧ (x4 = none → X_BD_feelBehind_27 K x2 u))
set_option maxHeartbeats 4000000 in
set_option maxRecDepth 100000 in
theorem X_BD_feelBehind_16_w {K : Option Nat → xs_St → Prop} (C : th_Cx p s m args meth c cX0_feelBehind RX0 6 (some (.object "ThreadHouse$Feel")) (dC, dI) (th_ty cs) (xE ad ak) A) (x2 : Option Nat) (x4 : Option Nat) (u : xs_St) (H : Heap) (locs : List Loc) (ls : Array Slot) (hf : X_BD_feelBehind_16 K x2 x4 u) (hw : th_wI (dC, dI) (wX cs ad q v v) A s.heap u H locs) (hl : lv_has ls 6 [(2, va_rf x2), (4, va_rf x4)]) (n9 m9 : Nat) (h9 : n9 + 0 ≤ 2) (g9 : m9 + 0 ≤ 56) : W p l e (th_rm 3 2 56) s m args below meth c H locs n9 m9 (MQ below (va_Qq K (th_Post (dC, dI) (wX cs ad q v v) A) A) args s 2 56 A) (F0 m 16 ls []) := by
  have hx := C.1
  have hb := C.2.1
  unfold X_BD_feelBehind_16 at hf
  refine th_aload hx hb dX0_feelBehind_16 (lv_at hl 1 rfl) ?_
  refine th_ifnonnull (tgt := 25) hx hb dX0_feelBehind_18 (by decide) (fun hc => ?_) (fun hc => ?_)
  · replace hf := hf.1 hc
    clear hc
    refine th_aload hx hb dX0_feelBehind_25 (lv_at hl 1 rfl) ?_
    exact X_BD_feelBehind_27_w C x4 u _ _ _ hf hw (lv_sub hl [] rfl) _ _ (by omega) (by omega)
  · replace hf := hf.2 hc
    clear hc
    refine th_aload_n hx hb dX0_feelBehind_21 rfl (lv_at hl 0 rfl) ?_
    refine lv_goto (tgt := 27) hx hb dX0_feelBehind_22 (by decide) ?_
    exact X_BD_feelBehind_27_w C x2 u _ _ _ hf hw (lv_sub hl [] rfl) _ _ (by omega) (by omega)
def X_BD_feelBehind (a2 : Option Nat) (a3 : Option Nat) (u : xs_St) (K : Option Nat → xs_St → Prop) : Prop :=
  (∃ b_1 : Nat, a2 = some b_1 ∧ xd_is u b_1 3 ∧ X_Feel_behindBy_d b_1 a3 u (fun r_3 u_2 => ((¬ r_3 = none → X_BD_feelBehind_16 K a2 r_3 u_2) ∧ (r_3 = none → ((¬ a3 = none → ∀ b_4 : Nat, b_4 ∉ xdL u_2 → ∀ u_5 : xs_St, u_5 = xs_new u_2 b_4 3 → X_Feel_init_d b_4 a3 a2 (xi u_5 300) u_5 (fun u_6 => (xd_is u_6 b_4 3 ∧ X_Feel_settle_d b_4 u_6 (fun u_7 => (∃ b_9 : Nat, a2 = some b_9 ∧ xd_is u_7 b_9 3 ∧ X_Feel_keepBehind_d b_9 (some b_4) u_7 (fun u_10 => K (some b_4) u_10)))))) ∧ (a3 = none → X_BD_feelBehind_16 K a2 r_3 u_2))))))
set_option maxHeartbeats 4000000 in
set_option maxRecDepth 100000 in
theorem X_BD_feelBehind_c {l : Launch} {dC : Nat → ClassId} {dI : Nat → Nat → Nat} {cs : Nat → ClassId} {ad ak : Nat → Nat} {q v : Nat → Nat} {a2 : Option Nat} {a3 : Option Nat} {u : xs_St} {K : Option Nat → xs_St → Prop} (hf : X_BD_feelBehind a2 a3 u K) : th_Cq l yX0_feelBehind cX0_feelBehind 6 (some (.object "ThreadHouse$Feel")) 3 2 56 (dC, dI) (th_ty cs) (xE ad ak) (wX cs ad q v v) [.ref (q 599), .ref (v 399), va_rf a2, va_rf a3] u K := by
  refine th_ofq (by decide) (by cases a2 <;> cases a3 <;> exact Nat.le_of_ble_eq_true rfl) (xE_ok ad ak) ?_
  intro p e s m below meth c A ls C hw hl
  have C : th_Cx p s m _ meth c cX0_feelBehind RX0 6 (some (.object "ThreadHouse$Feel")) (dC, dI) (th_ty cs) (xE ad ak) A := C
  have hl : lv_has ls 6 [(0, .ref (q 599)), (1, .ref (v 399)), (2, va_rf a2), (3, va_rf a3)] := by cases a2 <;> cases a3 <;> exact hl
  generalize (List.toArray _ : Array Value) = args at C ⊢
  have hx := C.1
  have hb := C.2.1
  unfold X_BD_feelBehind at hf
  refine th_aload_n hx hb dX0_feelBehind_0 rfl (lv_at hl 2 rfl) ?_
  refine th_aload_n hx hb dX0_feelBehind_1 rfl (lv_at hl 3 rfl) ?_
  obtain ⟨b_1, e9, hm, hf⟩ := hf
  refine W.eq (g2 := F0 m 2 ls [va_rf a3, .ref b_1]) (congrArg (fun z9 => F0 m 2 ls [va_rf a3, va_rf z9]) e9) ?_
  clear e9
  refine th_callVq (As := [va_rf a3]) (rest := []) C lkX0_73 (X_Feel_behindBy_d_c hf) hw (xdRc_Feel C hw hm) rfl rfl ⟨Nat.le_of_ble_eq_true rfl, Nat.le_of_ble_eq_true rfl⟩ hl.1 (Nat.le_of_ble_eq_true rfl) ⟨by simp only [th_rm]; omega, by simp only [th_rm]; omega⟩ dX0_feelBehind_2 (fun r_3 u_2 H locs hf hw => ?_)
  refine th_astore (r := r_3) (i := 4) (lv' := [(4, va_rf r_3), (0, .ref (q 599)), (1, .ref (v 399)), (2, va_rf a2), (3, va_rf a3)]) hx hb dX0_feelBehind_5 hl (by decide) (by simp [List.filter, th_cat, th_cate]) (fun ls hl => ?_)
  refine th_aload hx hb dX0_feelBehind_7 (lv_at hl 0 rfl) ?_
  refine th_ifnonnull (tgt := 16) hx hb dX0_feelBehind_9 (by decide) (fun hc => ?_) (fun hc => ?_)
  · replace hf := hf.1 hc
    clear hc
    exact X_BD_feelBehind_16_w C a2 r_3 u_2 _ _ _ hf hw (lv_sub hl [3, 0] rfl) _ _ (by omega) (by omega)
  · replace hf := hf.2 hc
    clear hc
    refine th_aload_n hx hb dX0_feelBehind_12 rfl (lv_at hl 4 rfl) ?_
    refine th_ifnonnull (tgt := 28) hx hb dX0_feelBehind_13 (by decide) (fun hc => ?_) (fun hc => ?_)
    · replace hf := hf.1 hc
      clear hc
      refine xn_Feel C hw (C.2.2.2.2.1 _ hwO_X0_20) (by simp only [th_rm]; omega) (by simp only [th_rm]; omega) dX0_feelBehind_28 (fun b_4 hb9 u_5 e9 H hw => ?_)
      replace hf := hf b_4 hb9 u_5 e9
      clear e9 hb9
      refine lv_dup hx hb dX0_feelBehind_31 rfl ?_
      refine th_aload_n hx hb dX0_feelBehind_32 rfl (lv_at hl 4 rfl) ?_
      refine th_aload_n hx hb dX0_feelBehind_33 rfl (lv_at hl 3 rfl) ?_
      refine lv_aload_n hx hb dX0_feelBehind_34 rfl (lv_at hl 2 rfl) ?_
      refine xgn_300 C hw (va_Nw.use rfl (xN C hwG_X0_77)) dX0_feelBehind_35 ?_
      refine th_callIv (As := [va_rf a3, va_rf a2, .int (xi u_5 300)]) (rest := [.ref b_4]) C lkIX0_25 (X_Feel_init_d_c hf) hw rfl rfl ⟨Nat.le_of_ble_eq_true rfl, Nat.le_of_ble_eq_true rfl⟩ hl.1 (Nat.le_of_ble_eq_true rfl) ⟨by simp only [th_rm]; omega, by simp only [th_rm]; omega⟩ dX0_feelBehind_38 (fun u_6 H locs hf hw => ?_)
      refine lv_astore (i := 5) (lv' := [(5, .ref b_4), (4, va_rf r_3), (0, .ref (q 599)), (1, .ref (v 399)), (2, va_rf a2), (3, va_rf a3)]) hx hb dX0_feelBehind_41 hl (by decide) (by simp [List.filter, th_cat, th_cate]) (fun ls hl => ?_)
      refine lv_aload hx hb dX0_feelBehind_43 (lv_at hl 0 rfl) ?_
      refine lv_aload_n hx hb dX0_feelBehind_45 rfl (lv_at hl 3 rfl) ?_
      obtain ⟨hm, hf⟩ := hf
      refine th_callVv (As := [.ref (v 399)]) (rest := []) C lkX0_82 (X_Feel_settle_d_c hf) hw (xdRc_Feel C hw hm) rfl rfl ⟨Nat.le_of_ble_eq_true rfl, Nat.le_of_ble_eq_true rfl⟩ hl.1 (Nat.le_of_ble_eq_true rfl) ⟨by simp only [th_rm]; omega, by simp only [th_rm]; omega⟩ dX0_feelBehind_46 (fun u_7 H locs hf hw => ?_)
      refine th_aload_n hx hb dX0_feelBehind_49 rfl (lv_at hl 4 rfl) ?_
      refine lv_aload hx hb dX0_feelBehind_50 (lv_at hl 0 rfl) ?_
      obtain ⟨b_9, e9, hm, hf⟩ := hf
      refine W.eq (g2 := F0 m 52 ls [.ref b_4, .ref b_9]) (congrArg (fun z9 => F0 m 52 ls [.ref b_4, va_rf z9]) e9) ?_
      clear e9
      refine th_callVv (As := [va_rf (some b_4)]) (rest := []) C lkX0_86 (X_Feel_keepBehind_d_c hf) hw (xdRc_Feel C hw hm) rfl rfl ⟨Nat.le_of_ble_eq_true rfl, Nat.le_of_ble_eq_true rfl⟩ hl.1 (Nat.le_of_ble_eq_true rfl) ⟨by simp only [th_rm]; omega, by simp only [th_rm]; omega⟩ dX0_feelBehind_52 (fun u_10 H locs hf hw => ?_)
      refine lv_aload hx hb dX0_feelBehind_55 (lv_at hl 0 rfl) ?_
      refine W.widen (k := 2) (n := 56) (by omega) (by omega) ?_
      exact th_qret (r := (some b_4)) (Or.inl ⟨_, rfl⟩) C hw hf dX0_feelBehind_57
    · replace hf := hf.2 hc
      clear hc
      exact X_BD_feelBehind_16_w C a2 r_3 u_2 _ _ _ hf hw (lv_sub hl [3, 0] rfl) _ _ (by omega) (by omega)
/-! X_EX_chooseAt -/
theorem dX1_chooseAt_0 : decode cX1_chooseAt 0 = .ok (.aload_n 2, 1) := by decide +kernel
theorem dX1_chooseAt_1 : decode cX1_chooseAt 1 = .ok (.iload_n 1, 1) := by decide +kernel
theorem dX1_chooseAt_2 : decode cX1_chooseAt 2 = .ok (.invokevirtual 45, 3) := by decide +kernel
theorem dX1_chooseAt_5 : decode cX1_chooseAt 5 = .ok (.iconst 0, 1) := by decide +kernel
theorem dX1_chooseAt_6 : decode cX1_chooseAt 6 = .ok (.iload 4, 2) := by decide +kernel
theorem dX1_chooseAt_8 : decode cX1_chooseAt 8 = .ok (.invokestatic 61, 3) := by decide +kernel
theorem dX1_chooseAt_11 : decode cX1_chooseAt 11 = .ok (.istore 5, 2) := by decide +kernel
theorem dX1_chooseAt_13 : decode cX1_chooseAt 13 = .ok (.aload_n 0, 1) := by decide +kernel
theorem dX1_chooseAt_14 : decode cX1_chooseAt 14 = .ok (.getfield 18, 3) := by decide +kernel
theorem dX1_chooseAt_17 : decode cX1_chooseAt 17 = .ok (.iload_n 1, 1) := by decide +kernel
theorem dX1_chooseAt_18 : decode cX1_chooseAt 18 = .ok (.iload 5, 2) := by decide +kernel
theorem dX1_chooseAt_20 : decode cX1_chooseAt 20 = .ok (.ifCond .eq 14, 3) := by decide +kernel
theorem dX1_chooseAt_23 : decode cX1_chooseAt 23 = .ok (.aload_n 0, 1) := by decide +kernel
theorem dX1_chooseAt_24 : decode cX1_chooseAt 24 = .ok (.getfield 18, 3) := by decide +kernel
theorem dX1_chooseAt_27 : decode cX1_chooseAt 27 = .ok (.iload_n 1, 1) := by decide +kernel
theorem dX1_chooseAt_28 : decode cX1_chooseAt 28 = .ok (.iconst 1, 1) := by decide +kernel
theorem dX1_chooseAt_29 : decode cX1_chooseAt 29 = .ok (.iadd, 1) := by decide +kernel
theorem dX1_chooseAt_30 : decode cX1_chooseAt 30 = .ok (.iaload, 1) := by decide +kernel
theorem dX1_chooseAt_31 : decode cX1_chooseAt 31 = .ok (.goto 6, 3) := by decide +kernel
theorem dX1_chooseAt_34 : decode cX1_chooseAt 34 = .ok (.sipush 1000, 3) := by decide +kernel
theorem dX1_chooseAt_37 : decode cX1_chooseAt 37 = .ok (.iastore, 1) := by decide +kernel
theorem dX1_chooseAt_38 : decode cX1_chooseAt 38 = .ok (.aload_n 0, 1) := by decide +kernel
theorem dX1_chooseAt_39 : decode cX1_chooseAt 39 = .ok (.getfield 24, 3) := by decide +kernel
theorem dX1_chooseAt_42 : decode cX1_chooseAt 42 = .ok (.iload_n 1, 1) := by decide +kernel
theorem dX1_chooseAt_43 : decode cX1_chooseAt 43 = .ok (.iconst 0, 1) := by decide +kernel
theorem dX1_chooseAt_44 : decode cX1_chooseAt 44 = .ok (.iastore, 1) := by decide +kernel
theorem dX1_chooseAt_45 : decode cX1_chooseAt 45 = .ok (.iconst 0, 1) := by decide +kernel
theorem dX1_chooseAt_46 : decode cX1_chooseAt 46 = .ok (.istore 6, 2) := by decide +kernel
theorem dX1_chooseAt_48 : decode cX1_chooseAt 48 = .ok (.iload 6, 2) := by decide +kernel
theorem dX1_chooseAt_50 : decode cX1_chooseAt 50 = .ok (.bipush 6, 2) := by decide +kernel
theorem dX1_chooseAt_52 : decode cX1_chooseAt 52 = .ok (.if_icmp .ge 105, 3) := by decide +kernel
theorem dX1_chooseAt_55 : decode cX1_chooseAt 55 = .ok (.iload_n 1, 1) := by decide +kernel
theorem dX1_chooseAt_56 : decode cX1_chooseAt 56 = .ok (.aload_n 0, 1) := by decide +kernel
theorem dX1_chooseAt_57 : decode cX1_chooseAt 57 = .ok (.getfield 11, 3) := by decide +kernel
theorem dX1_chooseAt_60 : decode cX1_chooseAt 60 = .ok (.iload 6, 2) := by decide +kernel
theorem dX1_chooseAt_62 : decode cX1_chooseAt 62 = .ok (.iaload, 1) := by decide +kernel
theorem dX1_chooseAt_63 : decode cX1_chooseAt 63 = .ok (.iadd, 1) := by decide +kernel
theorem dX1_chooseAt_64 : decode cX1_chooseAt 64 = .ok (.istore 7, 2) := by decide +kernel
theorem dX1_chooseAt_66 : decode cX1_chooseAt 66 = .ok (.aload_n 0, 1) := by decide +kernel
theorem dX1_chooseAt_67 : decode cX1_chooseAt 67 = .ok (.getfield 11, 3) := by decide +kernel
theorem dX1_chooseAt_70 : decode cX1_chooseAt 70 = .ok (.iload 6, 2) := by decide +kernel
theorem dX1_chooseAt_72 : decode cX1_chooseAt 72 = .ok (.iaload, 1) := by decide +kernel
theorem dX1_chooseAt_73 : decode cX1_chooseAt 73 = .ok (.ifCond .eq 78, 3) := by decide +kernel
theorem dX1_chooseAt_76 : decode cX1_chooseAt 76 = .ok (.iload 7, 2) := by decide +kernel
theorem dX1_chooseAt_78 : decode cX1_chooseAt 78 = .ok (.iload_n 3, 1) := by decide +kernel
theorem dX1_chooseAt_79 : decode cX1_chooseAt 79 = .ok (.if_icmp .gt 72, 3) := by decide +kernel
theorem dX1_chooseAt_82 : decode cX1_chooseAt 82 = .ok (.aload_n 0, 1) := by decide +kernel
theorem dX1_chooseAt_83 : decode cX1_chooseAt 83 = .ok (.getfield 18, 3) := by decide +kernel
theorem dX1_chooseAt_86 : decode cX1_chooseAt 86 = .ok (.iload 7, 2) := by decide +kernel
theorem dX1_chooseAt_88 : decode cX1_chooseAt 88 = .ok (.iaload, 1) := by decide +kernel
theorem dX1_chooseAt_89 : decode cX1_chooseAt 89 = .ok (.iconst 1, 1) := by decide +kernel
theorem dX1_chooseAt_90 : decode cX1_chooseAt 90 = .ok (.iadd, 1) := by decide +kernel
theorem dX1_chooseAt_91 : decode cX1_chooseAt 91 = .ok (.aload_n 0, 1) := by decide +kernel
theorem dX1_chooseAt_92 : decode cX1_chooseAt 92 = .ok (.getfield 18, 3) := by decide +kernel
theorem dX1_chooseAt_95 : decode cX1_chooseAt 95 = .ok (.iload_n 1, 1) := by decide +kernel
theorem dX1_chooseAt_96 : decode cX1_chooseAt 96 = .ok (.iaload, 1) := by decide +kernel
theorem dX1_chooseAt_97 : decode cX1_chooseAt 97 = .ok (.if_icmp .lt 6, 3) := by decide +kernel
theorem dX1_chooseAt_100 : decode cX1_chooseAt 100 = .ok (.goto 51, 3) := by decide +kernel
theorem dX1_chooseAt_103 : decode cX1_chooseAt 103 = .ok (.aload_n 0, 1) := by decide +kernel
theorem dX1_chooseAt_104 : decode cX1_chooseAt 104 = .ok (.iload 6, 2) := by decide +kernel
theorem dX1_chooseAt_106 : decode cX1_chooseAt 106 = .ok (.iload_n 1, 1) := by decide +kernel
theorem dX1_chooseAt_107 : decode cX1_chooseAt 107 = .ok (.aload_n 2, 1) := by decide +kernel
theorem dX1_chooseAt_108 : decode cX1_chooseAt 108 = .ok (.iload 4, 2) := by decide +kernel
theorem dX1_chooseAt_110 : decode cX1_chooseAt 110 = .ok (.invokevirtual 64, 3) := by decide +kernel
theorem dX1_chooseAt_113 : decode cX1_chooseAt 113 = .ok (.istore 8, 2) := by decide +kernel
theorem dX1_chooseAt_115 : decode cX1_chooseAt 115 = .ok (.iload 8, 2) := by decide +kernel
theorem dX1_chooseAt_117 : decode cX1_chooseAt 117 = .ok (.ifCond .eq 34, 3) := by decide +kernel
theorem dX1_chooseAt_120 : decode cX1_chooseAt 120 = .ok (.aload_n 0, 1) := by decide +kernel
theorem dX1_chooseAt_121 : decode cX1_chooseAt 121 = .ok (.getfield 18, 3) := by decide +kernel
theorem dX1_chooseAt_124 : decode cX1_chooseAt 124 = .ok (.iload_n 1, 1) := by decide +kernel
theorem dX1_chooseAt_125 : decode cX1_chooseAt 125 = .ok (.aload_n 0, 1) := by decide +kernel
theorem dX1_chooseAt_126 : decode cX1_chooseAt 126 = .ok (.getfield 18, 3) := by decide +kernel
theorem dX1_chooseAt_129 : decode cX1_chooseAt 129 = .ok (.iload 7, 2) := by decide +kernel
theorem dX1_chooseAt_131 : decode cX1_chooseAt 131 = .ok (.iaload, 1) := by decide +kernel
theorem dX1_chooseAt_132 : decode cX1_chooseAt 132 = .ok (.iconst 1, 1) := by decide +kernel
theorem dX1_chooseAt_133 : decode cX1_chooseAt 133 = .ok (.iadd, 1) := by decide +kernel
theorem dX1_chooseAt_134 : decode cX1_chooseAt 134 = .ok (.iastore, 1) := by decide +kernel
theorem dX1_chooseAt_135 : decode cX1_chooseAt 135 = .ok (.aload_n 0, 1) := by decide +kernel
theorem dX1_chooseAt_136 : decode cX1_chooseAt 136 = .ok (.getfield 21, 3) := by decide +kernel
theorem dX1_chooseAt_139 : decode cX1_chooseAt 139 = .ok (.iload_n 1, 1) := by decide +kernel
theorem dX1_chooseAt_140 : decode cX1_chooseAt 140 = .ok (.iload 6, 2) := by decide +kernel
theorem dX1_chooseAt_142 : decode cX1_chooseAt 142 = .ok (.iastore, 1) := by decide +kernel
theorem dX1_chooseAt_143 : decode cX1_chooseAt 143 = .ok (.aload_n 0, 1) := by decide +kernel
theorem dX1_chooseAt_144 : decode cX1_chooseAt 144 = .ok (.getfield 24, 3) := by decide +kernel
theorem dX1_chooseAt_147 : decode cX1_chooseAt 147 = .ok (.iload_n 1, 1) := by decide +kernel
theorem dX1_chooseAt_148 : decode cX1_chooseAt 148 = .ok (.iload 8, 2) := by decide +kernel
theorem dX1_chooseAt_150 : decode cX1_chooseAt 150 = .ok (.iastore, 1) := by decide +kernel
theorem dX1_chooseAt_151 : decode cX1_chooseAt 151 = .ok (.iinc 6 1, 3) := by decide +kernel
theorem dX1_chooseAt_154 : decode cX1_chooseAt 154 = .ok (.goto (-106), 3) := by decide +kernel
theorem dX1_chooseAt_157 : decode cX1_chooseAt 157 = .ok (.return_, 1) := by decide +kernel
def X_EX_chooseAt_151 (K : xs_St → Prop) (k48 : Int32 → Int32 → Int32 → Int32 → xs_St → Prop) (x1 : Int32) (x3 : Int32) (x4 : Int32) (x6 : Int32) (u : xs_St) : Prop :=
  ∀ x6_1 : Int32, x6_1 = x6 + (1 : Int32) → k48 x1 x3 x4 x6_1 u
set_option maxHeartbeats 4000000 in
set_option maxRecDepth 100000 in
theorem X_EX_chooseAt_151_w {K : xs_St → Prop} {k48 : Int32 → Int32 → Int32 → Int32 → xs_St → Prop} (C : th_Cx p s m args meth c cX1_chooseAt RX1 9 (none) (dC, dI) (th_ty cs) (xE ad ak) A) (hk48 : ∀ (x1 : Int32) (x3 : Int32) (x4 : Int32) (x6 : Int32) (u : xs_St) (H : Heap) (locs : List Loc) (ls : Array Slot), k48 x1 x3 x4 x6 u → th_wI (dC, dI) (wX cs ad q v v) A s.heap u H locs → lv_has ls 9 [(0, .ref (q 799)), (1, .int x1), (2, .ref (q 199)), (3, .int x3), (4, .int x4), (6, .int x6)] → W p l e (th_rm 3 0 0) s m args below meth c H locs 0 0 (MQ below (va_Qv K (th_Post (dC, dI) (wX cs ad q v v) A) A) args s 0 0 A) (F0 m 48 ls [])) (x1 : Int32) (x3 : Int32) (x4 : Int32) (x6 : Int32) (u : xs_St) (H : Heap) (locs : List Loc) (ls : Array Slot) (hf : X_EX_chooseAt_151 K k48 x1 x3 x4 x6 u) (hw : th_wI (dC, dI) (wX cs ad q v v) A s.heap u H locs) (hl : lv_has ls 9 [(0, .ref (q 799)), (1, .int x1), (2, .ref (q 199)), (3, .int x3), (4, .int x4), (6, .int x6)]) : W p l e (th_rm 3 0 0) s m args below meth c H locs 0 0 (MQ below (va_Qv K (th_Post (dC, dI) (wX cs ad q v v) A) A) args s 0 0 A) (F0 m 151 ls []) := by
  have hx := C.1
  have hb := C.2.1
  unfold X_EX_chooseAt_151 at hf
  obtain ⟨x6_1, e9⟩ : ∃ y : Int32, y = x6 + (1 : Int32) := ⟨_, rfl⟩
  replace hf := hf x6_1 e9
  refine lv_iinc (v := x6_1) (lv' := [(6, .int x6_1), (0, .ref (q 799)), (1, .int x1), (2, .ref (q 199)), (3, .int x3), (4, .int x4)]) hx hb dX1_chooseAt_151 hl (k := 5) rfl (by rw [e9]; rfl) (by decide) rfl (fun ls hl => ?_)
  clear e9
  refine lv_goto (tgt := 48) hx hb dX1_chooseAt_154 (by decide) ?_
  exact hk48 x1 x3 x4 x6_1 u _ _ _ hf hw (lv_sub hl [1, 2, 3, 4, 5, 0] rfl)
def X_EX_chooseAt_48 (K : xs_St → Prop) (k48 : Int32 → Int32 → Int32 → Int32 → xs_St → Prop) (x1 : Int32) (x3 : Int32) (x4 : Int32) (x6 : Int32) (u : xs_St) : Prop :=
  (((6 : Int32) ≤ x6 → K u) ∧ (¬ (6 : Int32) ≤ x6 → (vp_in x6 6 ∧ ∀ y_1 : Int32, y_1 = xa u 700 (x6).toNatClampNeg → ∀ y_2 : Int32, y_2 = (x1 + y_1) → (vp_in x6 6 ∧ ∀ y_3 : Int32, y_3 = xa u 700 (x6).toNatClampNeg → ((y_3 = 0 → X_EX_chooseAt_151 K k48 x1 x3 x4 x6 u) ∧ (¬ y_3 = 0 → ((x3 < y_2 → X_EX_chooseAt_151 K k48 x1 x3 x4 x6 u) ∧ (¬ x3 < y_2 → (vp_in y_2 49 ∧ ∀ y_4 : Int32, y_4 = xa u 702 (y_2).toNatClampNeg → (vp_in x1 49 ∧ ∀ y_5 : Int32, y_5 = xa u 702 (x1).toNatClampNeg → (((y_4 + (1 : Int32)) < y_5 → X_EX_leastTimes x6 x1 x4 u (fun r_7 u_6 => ((r_7 = 0 → X_EX_chooseAt_151 K k48 x1 x3 x4 x6 u_6) ∧ (¬ r_7 = 0 → (vp_in y_2 49 ∧ ∀ y_8 : Int32, y_8 = xa u_6 702 (y_2).toNatClampNeg → (vp_in x1 49 ∧ ∀ u_9 : xs_St, u_9 = xs_sa u_6 702 (upd (xa u_6 702) (x1).toNatClampNeg (y_8 + (1 : Int32))) → (vp_in x1 48 ∧ ∀ u_10 : xs_St, u_10 = xs_sa u_9 703 (upd (xa u_9 703) (x1).toNatClampNeg x6) → (vp_in x1 48 ∧ ∀ u_11 : xs_St, u_11 = xs_sa u_10 704 (upd (xa u_10 704) (x1).toNatClampNeg r_7) → X_EX_chooseAt_151 K k48 x1 x3 x4 x6 u_11)))))))) ∧ (¬ (y_4 + (1 : Int32)) < y_5 → X_EX_chooseAt_151 K k48 x1 x3 x4 x6 u))))))))))))
set_option maxHeartbeats 4000000 in
set_option maxRecDepth 100000 in
theorem X_EX_chooseAt_48_w {K : xs_St → Prop} {k48 : Int32 → Int32 → Int32 → Int32 → xs_St → Prop} (C : th_Cx p s m args meth c cX1_chooseAt RX1 9 (none) (dC, dI) (th_ty cs) (xE ad ak) A) (hk48 : ∀ (x1 : Int32) (x3 : Int32) (x4 : Int32) (x6 : Int32) (u : xs_St) (H : Heap) (locs : List Loc) (ls : Array Slot), k48 x1 x3 x4 x6 u → th_wI (dC, dI) (wX cs ad q v v) A s.heap u H locs → lv_has ls 9 [(0, .ref (q 799)), (1, .int x1), (2, .ref (q 199)), (3, .int x3), (4, .int x4), (6, .int x6)] → W p l e (th_rm 3 0 0) s m args below meth c H locs 0 0 (MQ below (va_Qv K (th_Post (dC, dI) (wX cs ad q v v) A) A) args s 0 0 A) (F0 m 48 ls [])) (x1 : Int32) (x3 : Int32) (x4 : Int32) (x6 : Int32) (u : xs_St) (H : Heap) (locs : List Loc) (ls : Array Slot) (hf : X_EX_chooseAt_48 K k48 x1 x3 x4 x6 u) (hw : th_wI (dC, dI) (wX cs ad q v v) A s.heap u H locs) (hl : lv_has ls 9 [(0, .ref (q 799)), (1, .int x1), (2, .ref (q 199)), (3, .int x3), (4, .int x4), (6, .int x6)]) : W p l e (th_rm 3 0 0) s m args below meth c H locs 0 0 (MQ below (va_Qv K (th_Post (dC, dI) (wX cs ad q v v) A) A) args s 0 0 A) (F0 m 48 ls []) := by
  have hx := C.1
  have hb := C.2.1
  unfold X_EX_chooseAt_48 at hf
  refine lv_iload hx hb dX1_chooseAt_48 (lv_at hl 5 rfl) ?_
  refine lv_bipush (v := (6 : Int32)) hx hb dX1_chooseAt_50 (by decide) ?_
  refine lv_icmp_ge (tgt := 157) hx hb dX1_chooseAt_52 (by decide) (fun hc => ?_) (fun hc => ?_)
  · replace hf := hf.1 hc
    clear hc
    exact th_vret C hw hf dX1_chooseAt_157
  · replace hf := hf.2 hc
    clear hc
    refine lv_iload_n hx hb dX1_chooseAt_55 rfl (lv_at hl 1 rfl) ?_
    refine lv_aload_n hx hb dX1_chooseAt_56 rfl (lv_at hl 0 rfl) ?_
    refine xg_700 C hw (C.2.2.2.2.1 _ hwF_X1_11) dX1_chooseAt_57 ?_
    refine lv_iload hx hb dX1_chooseAt_60 (lv_at hl 5 rfl) ?_
    refine yl_700 C hw hf.1 dX1_chooseAt_62 (fun y_1 e9 => ?_)
    replace hf := hf.2 y_1 e9
    clear e9
    refine lv_iadd hx hb dX1_chooseAt_63 ?_
    refine lv_topi (fun y_2 e9 => ?_)
    replace hf := hf y_2 e9
    clear e9
    refine lv_istore (lv' := [(7, .int y_2), (0, .ref (q 799)), (1, .int x1), (2, .ref (q 199)), (3, .int x3), (4, .int x4), (6, .int x6)]) hx hb dX1_chooseAt_64 hl (by decide) rfl (fun ls hl => ?_)
    refine lv_aload_n hx hb dX1_chooseAt_66 rfl (lv_at hl 1 rfl) ?_
    refine xg_700 C hw (C.2.2.2.2.1 _ hwF_X1_11) dX1_chooseAt_67 ?_
    refine lv_iload hx hb dX1_chooseAt_70 (lv_at hl 6 rfl) ?_
    refine yl_700 C hw hf.1 dX1_chooseAt_72 (fun y_3 e9 => ?_)
    replace hf := hf.2 y_3 e9
    clear e9
    refine lv_if_eq (tgt := 151) hx hb dX1_chooseAt_73 (by decide) (fun hc => ?_) (fun hc => ?_)
    · replace hf := hf.1 hc
      clear hc
      exact X_EX_chooseAt_151_w C hk48 x1 x3 x4 x6 u _ _ _ hf hw (lv_sub hl [1, 2, 3, 4, 5, 6] rfl)
    · replace hf := hf.2 hc
      clear hc
      refine lv_iload hx hb dX1_chooseAt_76 (lv_at hl 0 rfl) ?_
      refine lv_iload_n hx hb dX1_chooseAt_78 rfl (lv_at hl 4 rfl) ?_
      refine lv_icmp_gt (tgt := 151) hx hb dX1_chooseAt_79 (by decide) (fun hc => ?_) (fun hc => ?_)
      · replace hf := hf.1 hc
        clear hc
        exact X_EX_chooseAt_151_w C hk48 x1 x3 x4 x6 u _ _ _ hf hw (lv_sub hl [1, 2, 3, 4, 5, 6] rfl)
      · replace hf := hf.2 hc
        clear hc
        refine lv_aload_n hx hb dX1_chooseAt_82 rfl (lv_at hl 1 rfl) ?_
        refine xg_702 C hw (C.2.2.2.2.1 _ hwF_X1_18) dX1_chooseAt_83 ?_
        refine lv_iload hx hb dX1_chooseAt_86 (lv_at hl 0 rfl) ?_
        refine yl_702 C hw hf.1 dX1_chooseAt_88 (fun y_4 e9 => ?_)
        replace hf := hf.2 y_4 e9
        clear e9
        refine lv_iconst (v := (1 : Int32)) hx hb dX1_chooseAt_89 (by decide) ?_
        refine lv_iadd hx hb dX1_chooseAt_90 ?_
        refine lv_aload_n hx hb dX1_chooseAt_91 rfl (lv_at hl 1 rfl) ?_
        refine xg_702 C hw (C.2.2.2.2.1 _ hwF_X1_18) dX1_chooseAt_92 ?_
        refine lv_iload_n hx hb dX1_chooseAt_95 rfl (lv_at hl 2 rfl) ?_
        refine yl_702 C hw hf.1 dX1_chooseAt_96 (fun y_5 e9 => ?_)
        replace hf := hf.2 y_5 e9
        clear e9
        refine lv_icmp_lt (tgt := 103) hx hb dX1_chooseAt_97 (by decide) (fun hc => ?_) (fun hc => ?_)
        · replace hf := hf.1 hc
          clear hc
          refine lv_aload_n hx hb dX1_chooseAt_103 rfl (lv_at hl 1 rfl) ?_
          refine lv_iload hx hb dX1_chooseAt_104 (lv_at hl 6 rfl) ?_
          refine lv_iload_n hx hb dX1_chooseAt_106 rfl (lv_at hl 2 rfl) ?_
          refine lv_aload_n hx hb dX1_chooseAt_107 rfl (lv_at hl 3 rfl) ?_
          refine lv_iload hx hb dX1_chooseAt_108 (lv_at hl 5 rfl) ?_
          refine th_callVi (As := [.int x6, .int x1, .ref (q 199), .int x4]) (rest := []) C lkX1_64 (X_EX_leastTimes_c hf) hw (xRc_EX C hw) rfl rfl ⟨Nat.le_of_ble_eq_true rfl, Nat.le_of_ble_eq_true rfl⟩ hl.1 (Nat.le_of_ble_eq_true rfl) ⟨Nat.le_of_ble_eq_true rfl, Nat.le_of_ble_eq_true rfl⟩ dX1_chooseAt_110 (fun r_7 u_6 H locs hf hw => ?_)
          refine lv_istore (lv' := [(8, .int r_7), (7, .int y_2), (0, .ref (q 799)), (1, .int x1), (2, .ref (q 199)), (3, .int x3), (4, .int x4), (6, .int x6)]) hx hb dX1_chooseAt_113 hl (by decide) rfl (fun ls hl => ?_)
          refine lv_iload hx hb dX1_chooseAt_115 (lv_at hl 0 rfl) ?_
          refine lv_if_eq (tgt := 151) hx hb dX1_chooseAt_117 (by decide) (fun hc => ?_) (fun hc => ?_)
          · replace hf := hf.1 hc
            clear hc
            exact X_EX_chooseAt_151_w C hk48 x1 x3 x4 x6 u_6 _ _ _ hf hw (lv_sub hl [2, 3, 4, 5, 6, 7] rfl)
          · replace hf := hf.2 hc
            clear hc
            refine lv_aload_n hx hb dX1_chooseAt_120 rfl (lv_at hl 2 rfl) ?_
            refine xg_702 C hw (C.2.2.2.2.1 _ hwF_X1_18) dX1_chooseAt_121 ?_
            refine lv_iload_n hx hb dX1_chooseAt_124 rfl (lv_at hl 3 rfl) ?_
            refine lv_aload_n hx hb dX1_chooseAt_125 rfl (lv_at hl 2 rfl) ?_
            refine xg_702 C hw (C.2.2.2.2.1 _ hwF_X1_18) dX1_chooseAt_126 ?_
            refine lv_iload hx hb dX1_chooseAt_129 (lv_at hl 1 rfl) ?_
            refine yl_702 C hw hf.1 dX1_chooseAt_131 (fun y_8 e9 => ?_)
            replace hf := hf.2 y_8 e9
            clear e9
            refine lv_iconst (v := (1 : Int32)) hx hb dX1_chooseAt_132 (by decide) ?_
            refine lv_iadd hx hb dX1_chooseAt_133 ?_
            refine ys_702 C hw hf.1 dX1_chooseAt_134 (fun u_9 e9 H locs hw => ?_)
            replace hf := hf.2 u_9 e9
            clear e9
            refine lv_aload_n hx hb dX1_chooseAt_135 rfl (lv_at hl 2 rfl) ?_
            refine xg_703 C hw (C.2.2.2.2.1 _ hwF_X1_21) dX1_chooseAt_136 ?_
            refine lv_iload_n hx hb dX1_chooseAt_139 rfl (lv_at hl 3 rfl) ?_
            refine lv_iload hx hb dX1_chooseAt_140 (lv_at hl 7 rfl) ?_
            refine ys_703 C hw hf.1 dX1_chooseAt_142 (fun u_10 e9 H locs hw => ?_)
            replace hf := hf.2 u_10 e9
            clear e9
            refine lv_aload_n hx hb dX1_chooseAt_143 rfl (lv_at hl 2 rfl) ?_
            refine xg_704 C hw (C.2.2.2.2.1 _ hwF_X1_24) dX1_chooseAt_144 ?_
            refine lv_iload_n hx hb dX1_chooseAt_147 rfl (lv_at hl 3 rfl) ?_
            refine lv_iload hx hb dX1_chooseAt_148 (lv_at hl 0 rfl) ?_
            refine ys_704 C hw hf.1 dX1_chooseAt_150 (fun u_11 e9 H locs hw => ?_)
            replace hf := hf.2 u_11 e9
            clear e9
            exact X_EX_chooseAt_151_w C hk48 x1 x3 x4 x6 u_11 _ _ _ hf hw (lv_sub hl [2, 3, 4, 5, 6, 7] rfl)
        · replace hf := hf.2 hc
          clear hc
          refine lv_goto (tgt := 151) hx hb dX1_chooseAt_100 (by decide) ?_
          exact X_EX_chooseAt_151_w C hk48 x1 x3 x4 x6 u _ _ _ hf hw (lv_sub hl [1, 2, 3, 4, 5, 6] rfl)
def X_EX_chooseAt_48_lp (K : xs_St → Prop) : Nat → Int32 → Int32 → Int32 → Int32 → xs_St → Prop
  | 0, _, _, _, _, _ => False
  | n + 1, x1, x3, x4, x6, u => X_EX_chooseAt_48 K (X_EX_chooseAt_48_lp K n) x1 x3 x4 x6 u
set_option maxHeartbeats 4000000 in
set_option maxRecDepth 100000 in
theorem X_EX_chooseAt_48_lw {K : xs_St → Prop} (C : th_Cx p s m args meth c cX1_chooseAt RX1 9 (none) (dC, dI) (th_ty cs) (xE ad ak) A) (n : Nat) : ∀ (x1 : Int32) (x3 : Int32) (x4 : Int32) (x6 : Int32) (u : xs_St) (H : Heap) (locs : List Loc) (ls : Array Slot), X_EX_chooseAt_48_lp K n x1 x3 x4 x6 u → th_wI (dC, dI) (wX cs ad q v v) A s.heap u H locs → lv_has ls 9 [(0, .ref (q 799)), (1, .int x1), (2, .ref (q 199)), (3, .int x3), (4, .int x4), (6, .int x6)] → W p l e (th_rm 3 0 0) s m args below meth c H locs 0 0 (MQ below (va_Qv K (th_Post (dC, dI) (wX cs ad q v v) A) A) args s 0 0 A) (F0 m 48 ls []) := by
  induction n with
  | zero => intro x1 x3 x4 x6 u H locs ls hf; exact hf.elim
  | succ n ih =>
    intro x1 x3 x4 x6 u H locs ls hf hw hl
    exact X_EX_chooseAt_48_w C ih x1 x3 x4 x6 u H locs ls hf hw hl
def X_EX_chooseAt_37 (K : xs_St → Prop) (x1 : Int32) (x3 : Int32) (x4 : Int32) (z0 : Int32) (z1 : Int32) (u : xs_St) : Prop :=
  (vp_in z1 49 ∧ ∀ u_1 : xs_St, u_1 = xs_sa u 702 (upd (xa u 702) (z1).toNatClampNeg z0) → (vp_in x1 48 ∧ ∀ u_2 : xs_St, u_2 = xs_sa u_1 704 (upd (xa u_1 704) (x1).toNatClampNeg (0 : Int32)) → ∃ n, X_EX_chooseAt_48_lp K n x1 x3 x4 (0 : Int32) u_2))
set_option maxHeartbeats 4000000 in
set_option maxRecDepth 100000 in
theorem X_EX_chooseAt_37_w {K : xs_St → Prop} (C : th_Cx p s m args meth c cX1_chooseAt RX1 9 (none) (dC, dI) (th_ty cs) (xE ad ak) A) (x1 : Int32) (x3 : Int32) (x4 : Int32) (z0 : Int32) (z1 : Int32) (u : xs_St) (H : Heap) (locs : List Loc) (ls : Array Slot) (hf : X_EX_chooseAt_37 K x1 x3 x4 z0 z1 u) (hw : th_wI (dC, dI) (wX cs ad q v v) A s.heap u H locs) (hl : lv_has ls 9 [(0, .ref (q 799)), (1, .int x1), (2, .ref (q 199)), (3, .int x3), (4, .int x4)]) : W p l e (th_rm 3 0 0) s m args below meth c H locs 0 0 (MQ below (va_Qv K (th_Post (dC, dI) (wX cs ad q v v) A) A) args s 0 0 A) (F0 m 37 ls [.int z0, .int z1, .ref (q 702)]) := by
  have hx := C.1
  have hb := C.2.1
  unfold X_EX_chooseAt_37 at hf
  refine ys_702 C hw hf.1 dX1_chooseAt_37 (fun u_1 e9 H locs hw => ?_)
  replace hf := hf.2 u_1 e9
  clear e9
  refine lv_aload_n hx hb dX1_chooseAt_38 rfl (lv_at hl 0 rfl) ?_
  refine xg_704 C hw (C.2.2.2.2.1 _ hwF_X1_24) dX1_chooseAt_39 ?_
  refine lv_iload_n hx hb dX1_chooseAt_42 rfl (lv_at hl 1 rfl) ?_
  refine lv_iconst (v := (0 : Int32)) hx hb dX1_chooseAt_43 (by decide) ?_
  refine ys_704 C hw hf.1 dX1_chooseAt_44 (fun u_2 e9 H locs hw => ?_)
  replace hf := hf.2 u_2 e9
  clear e9
  refine lv_iconst (v := (0 : Int32)) hx hb dX1_chooseAt_45 (by decide) ?_
  refine lv_istore (lv' := [(6, .int (0 : Int32)), (0, .ref (q 799)), (1, .int x1), (2, .ref (q 199)), (3, .int x3), (4, .int x4)]) hx hb dX1_chooseAt_46 hl (by decide) rfl (fun ls hl => ?_)
  obtain ⟨n, hf⟩ := hf
  exact X_EX_chooseAt_48_lw C n x1 x3 x4 (0 : Int32) u_2 _ _ _ hf hw (lv_sub hl [1, 2, 3, 4, 5, 0] rfl)
def X_EX_chooseAt (a1 : Int32) (a3 : Int32) (a4 : Int32) (u : xs_St) (K : xs_St → Prop) : Prop :=
  X_TP_signed a1 u (fun r_2 u_1 => X_EX_isNear r_2 (0 : Int32) a4 u_1 (fun r_4 u_3 => ((r_4 = 0 → X_EX_chooseAt_37 K a1 a3 a4 (1000 : Int32) a1 u_3) ∧ (¬ r_4 = 0 → (vp_in (a1 + (1 : Int32)) 49 ∧ ∀ y_5 : Int32, y_5 = xa u_3 702 ((a1 + (1 : Int32))).toNatClampNeg → X_EX_chooseAt_37 K a1 a3 a4 y_5 a1 u_3)))))
set_option maxHeartbeats 4000000 in
set_option maxRecDepth 100000 in
theorem X_EX_chooseAt_c {l : Launch} {dC : Nat → ClassId} {dI : Nat → Nat → Nat} {cs : Nat → ClassId} {ad ak : Nat → Nat} {q v : Nat → Nat} {a1 : Int32} {a3 : Int32} {a4 : Int32} {u : xs_St} {K : xs_St → Prop} (hf : X_EX_chooseAt a1 a3 a4 u K) : th_Cv l yX1_chooseAt cX1_chooseAt 9 (none) 3 0 0 (dC, dI) (th_ty cs) (xE ad ak) (wX cs ad q v v) [.ref (q 799), .int a1, .ref (q 199), .int a3, .int a4] u K := by
  refine th_ofv (by decide) (Nat.le_of_ble_eq_true rfl) (xE_ok ad ak) ?_
  intro p e s m below meth c A ls C hw hl
  have C : th_Cx p s m _ meth c cX1_chooseAt RX1 9 (none) (dC, dI) (th_ty cs) (xE ad ak) A := C
  have hl : lv_has ls 9 [(0, .ref (q 799)), (1, .int a1), (2, .ref (q 199)), (3, .int a3), (4, .int a4)] := hl
  generalize (List.toArray _ : Array Value) = args at C ⊢
  have hx := C.1
  have hb := C.2.1
  unfold X_EX_chooseAt at hf
  refine lv_aload_n hx hb dX1_chooseAt_0 rfl (lv_at hl 2 rfl) ?_
  refine lv_iload_n hx hb dX1_chooseAt_1 rfl (lv_at hl 1 rfl) ?_
  refine th_callVi (As := [.int a1]) (rest := []) C lkX1_45 (X_TP_signed_c hf) hw (xRc_TP C hw) rfl rfl ⟨Nat.le_of_ble_eq_true rfl, Nat.le_of_ble_eq_true rfl⟩ hl.1 (Nat.le_of_ble_eq_true rfl) ⟨Nat.le_of_ble_eq_true rfl, Nat.le_of_ble_eq_true rfl⟩ dX1_chooseAt_2 (fun r_2 u_1 H locs hf hw => ?_)
  refine lv_iconst (v := (0 : Int32)) hx hb dX1_chooseAt_5 (by decide) ?_
  refine lv_iload hx hb dX1_chooseAt_6 (lv_at hl 4 rfl) ?_
  refine th_callSi (As := [.int r_2, .int (0 : Int32), .int a4]) (rest := []) C lkX1_61 (X_EX_isNear_c hf) hw rfl rfl ⟨Nat.le_of_ble_eq_true rfl, Nat.le_of_ble_eq_true rfl⟩ hl.1 (Nat.le_of_ble_eq_true rfl) ⟨Nat.le_of_ble_eq_true rfl, Nat.le_of_ble_eq_true rfl⟩ dX1_chooseAt_8 (fun r_4 u_3 H locs hf hw => ?_)
  refine lv_istore (lv' := [(5, .int r_4), (0, .ref (q 799)), (1, .int a1), (2, .ref (q 199)), (3, .int a3), (4, .int a4)]) hx hb dX1_chooseAt_11 hl (by decide) rfl (fun ls hl => ?_)
  refine lv_aload_n hx hb dX1_chooseAt_13 rfl (lv_at hl 1 rfl) ?_
  refine xg_702 C hw (C.2.2.2.2.1 _ hwF_X1_18) dX1_chooseAt_14 ?_
  refine lv_iload_n hx hb dX1_chooseAt_17 rfl (lv_at hl 2 rfl) ?_
  refine lv_iload hx hb dX1_chooseAt_18 (lv_at hl 0 rfl) ?_
  refine lv_if_eq (tgt := 34) hx hb dX1_chooseAt_20 (by decide) (fun hc => ?_) (fun hc => ?_)
  · replace hf := hf.1 hc
    clear hc
    refine lv_sipush (v := (1000 : Int32)) hx hb dX1_chooseAt_34 (by decide) ?_
    exact X_EX_chooseAt_37_w C a1 a3 a4 (1000 : Int32) a1 u_3 _ _ _ hf hw (lv_sub hl [1, 2, 3, 4, 5] rfl)
  · replace hf := hf.2 hc
    clear hc
    refine lv_aload_n hx hb dX1_chooseAt_23 rfl (lv_at hl 1 rfl) ?_
    refine xg_702 C hw (C.2.2.2.2.1 _ hwF_X1_18) dX1_chooseAt_24 ?_
    refine lv_iload_n hx hb dX1_chooseAt_27 rfl (lv_at hl 2 rfl) ?_
    refine lv_iconst (v := (1 : Int32)) hx hb dX1_chooseAt_28 (by decide) ?_
    refine lv_iadd hx hb dX1_chooseAt_29 ?_
    refine yl_702 C hw hf.1 dX1_chooseAt_30 (fun y_5 e9 => ?_)
    replace hf := hf.2 y_5 e9
    clear e9
    refine lv_goto (tgt := 37) hx hb dX1_chooseAt_31 (by decide) ?_
    exact X_EX_chooseAt_37_w C a1 a3 a4 y_5 a1 u_3 _ _ _ hf hw (lv_sub hl [1, 2, 3, 4, 5] rfl)
/-! X_LN_costFrom -/
theorem dX3_costFrom_0 : decode cX3_costFrom 0 = .ok (.aload_n 1, 1) := by decide +kernel
theorem dX3_costFrom_1 : decode cX3_costFrom 1 = .ok (.getfield 22, 3) := by decide +kernel
theorem dX3_costFrom_4 : decode cX3_costFrom 4 = .ok (.iload_n 2, 1) := by decide +kernel
theorem dX3_costFrom_5 : decode cX3_costFrom 5 = .ok (.isub, 1) := by decide +kernel
theorem dX3_costFrom_6 : decode cX3_costFrom 6 = .ok (.istore 6, 2) := by decide +kernel
theorem dX3_costFrom_8 : decode cX3_costFrom 8 = .ok (.iload 4, 2) := by decide +kernel
theorem dX3_costFrom_10 : decode cX3_costFrom 10 = .ok (.iload_n 2, 1) := by decide +kernel
theorem dX3_costFrom_11 : decode cX3_costFrom 11 = .ok (.if_icmp .ne 11, 3) := by decide +kernel
theorem dX3_costFrom_14 : decode cX3_costFrom 14 = .ok (.iload 6, 2) := by decide +kernel
theorem dX3_costFrom_16 : decode cX3_costFrom 16 = .ok (.iload 5, 2) := by decide +kernel
theorem dX3_costFrom_18 : decode cX3_costFrom 18 = .ok (.isub, 1) := by decide +kernel
theorem dX3_costFrom_19 : decode cX3_costFrom 19 = .ok (.iload_n 3, 1) := by decide +kernel
theorem dX3_costFrom_20 : decode cX3_costFrom 20 = .ok (.imul, 1) := by decide +kernel
theorem dX3_costFrom_21 : decode cX3_costFrom 21 = .ok (.ireturn, 1) := by decide +kernel
theorem dX3_costFrom_22 : decode cX3_costFrom 22 = .ok (.iload 5, 2) := by decide +kernel
theorem dX3_costFrom_24 : decode cX3_costFrom 24 = .ok (.iload 6, 2) := by decide +kernel
theorem dX3_costFrom_26 : decode cX3_costFrom 26 = .ok (.if_icmp .ne 10, 3) := by decide +kernel
theorem dX3_costFrom_29 : decode cX3_costFrom 29 = .ok (.iload_n 2, 1) := by decide +kernel
theorem dX3_costFrom_30 : decode cX3_costFrom 30 = .ok (.iload 4, 2) := by decide +kernel
theorem dX3_costFrom_32 : decode cX3_costFrom 32 = .ok (.isub, 1) := by decide +kernel
theorem dX3_costFrom_33 : decode cX3_costFrom 33 = .ok (.iload_n 3, 1) := by decide +kernel
theorem dX3_costFrom_34 : decode cX3_costFrom 34 = .ok (.imul, 1) := by decide +kernel
theorem dX3_costFrom_35 : decode cX3_costFrom 35 = .ok (.ireturn, 1) := by decide +kernel
theorem dX3_costFrom_36 : decode cX3_costFrom 36 = .ok (.aload_n 0, 1) := by decide +kernel
theorem dX3_costFrom_37 : decode cX3_costFrom 37 = .ok (.getfield 19, 3) := by decide +kernel
theorem dX3_costFrom_40 : decode cX3_costFrom 40 = .ok (.iload 4, 2) := by decide +kernel
theorem dX3_costFrom_42 : decode cX3_costFrom 42 = .ok (.iconst 1, 1) := by decide +kernel
theorem dX3_costFrom_43 : decode cX3_costFrom 43 = .ok (.iadd, 1) := by decide +kernel
theorem dX3_costFrom_44 : decode cX3_costFrom 44 = .ok (.bipush 49, 2) := by decide +kernel
theorem dX3_costFrom_46 : decode cX3_costFrom 46 = .ok (.imul, 1) := by decide +kernel
theorem dX3_costFrom_47 : decode cX3_costFrom 47 = .ok (.iload 5, 2) := by decide +kernel
theorem dX3_costFrom_49 : decode cX3_costFrom 49 = .ok (.iadd, 1) := by decide +kernel
theorem dX3_costFrom_50 : decode cX3_costFrom 50 = .ok (.iaload, 1) := by decide +kernel
theorem dX3_costFrom_51 : decode cX3_costFrom 51 = .ok (.aload_n 0, 1) := by decide +kernel
theorem dX3_costFrom_52 : decode cX3_costFrom 52 = .ok (.getfield 19, 3) := by decide +kernel
theorem dX3_costFrom_55 : decode cX3_costFrom 55 = .ok (.iload 4, 2) := by decide +kernel
theorem dX3_costFrom_57 : decode cX3_costFrom 57 = .ok (.bipush 49, 2) := by decide +kernel
theorem dX3_costFrom_59 : decode cX3_costFrom 59 = .ok (.imul, 1) := by decide +kernel
theorem dX3_costFrom_60 : decode cX3_costFrom 60 = .ok (.iload 5, 2) := by decide +kernel
theorem dX3_costFrom_62 : decode cX3_costFrom 62 = .ok (.iadd, 1) := by decide +kernel
theorem dX3_costFrom_63 : decode cX3_costFrom 63 = .ok (.iconst 1, 1) := by decide +kernel
theorem dX3_costFrom_64 : decode cX3_costFrom 64 = .ok (.iadd, 1) := by decide +kernel
theorem dX3_costFrom_65 : decode cX3_costFrom 65 = .ok (.iaload, 1) := by decide +kernel
theorem dX3_costFrom_66 : decode cX3_costFrom 66 = .ok (.invokestatic 39, 3) := by decide +kernel
theorem dX3_costFrom_69 : decode cX3_costFrom 69 = .ok (.iload_n 3, 1) := by decide +kernel
theorem dX3_costFrom_70 : decode cX3_costFrom 70 = .ok (.iadd, 1) := by decide +kernel
theorem dX3_costFrom_71 : decode cX3_costFrom 71 = .ok (.istore 7, 2) := by decide +kernel
theorem dX3_costFrom_73 : decode cX3_costFrom 73 = .ok (.iload 7, 2) := by decide +kernel
theorem dX3_costFrom_75 : decode cX3_costFrom 75 = .ok (.aload_n 0, 1) := by decide +kernel
theorem dX3_costFrom_76 : decode cX3_costFrom 76 = .ok (.aload_n 1, 1) := by decide +kernel
theorem dX3_costFrom_77 : decode cX3_costFrom 77 = .ok (.iload_n 2, 1) := by decide +kernel
theorem dX3_costFrom_78 : decode cX3_costFrom 78 = .ok (.iload 4, 2) := by decide +kernel
theorem dX3_costFrom_80 : decode cX3_costFrom 80 = .ok (.iload 5, 2) := by decide +kernel
theorem dX3_costFrom_82 : decode cX3_costFrom 82 = .ok (.invokevirtual 45, 3) := by decide +kernel
theorem dX3_costFrom_85 : decode cX3_costFrom 85 = .ok (.invokestatic 39, 3) := by decide +kernel
theorem dX3_costFrom_88 : decode cX3_costFrom 88 = .ok (.ireturn, 1) := by decide +kernel
def X_LN_costFrom (a2 : Int32) (a3 : Int32) (a4 : Int32) (a5 : Int32) (u : xs_St) (K : Int32 → xs_St → Prop) : Prop :=
  ∀ y_1 : Int32, y_1 = ((xi u 101) - a2) → ((¬ a4 = a2 → ((¬ a5 = y_1 → (vp_in (((a4 + (1 : Int32)) * (49 : Int32)) + a5) 2401 ∧ ∀ y_2 : Int32, y_2 = xa u 902 ((((a4 + (1 : Int32)) * (49 : Int32)) + a5)).toNatClampNeg → (vp_in (((a4 * (49 : Int32)) + a5) + (1 : Int32)) 2401 ∧ ∀ y_3 : Int32, y_3 = xa u 902 ((((a4 * (49 : Int32)) + a5) + (1 : Int32))).toNatClampNeg → ∀ y_4 : Int32, y_4 = ((if y_3 < y_2 then y_3 else y_2) + a3) → X_LN_costPaired a2 a4 a5 u (fun r_6 u_5 => K (if r_6 < y_4 then r_6 else y_4) u_5)))) ∧ (a5 = y_1 → K ((a2 - a4) * a3) u))) ∧ (a4 = a2 → K ((y_1 - a5) * a3) u))
set_option maxHeartbeats 4000000 in
set_option maxRecDepth 100000 in
theorem X_LN_costFrom_c {l : Launch} {dC : Nat → ClassId} {dI : Nat → Nat → Nat} {cs : Nat → ClassId} {ad ak : Nat → Nat} {q v : Nat → Nat} {a2 : Int32} {a3 : Int32} {a4 : Int32} {a5 : Int32} {u : xs_St} {K : Int32 → xs_St → Prop} (hf : X_LN_costFrom a2 a3 a4 a5 u K) : th_Ci l yX3_costFrom cX3_costFrom 8 (some .int) 3 0 0 (dC, dI) (th_ty cs) (xE ad ak) (wX cs ad q v v) [.ref (q 999), .ref (q 199), .int a2, .int a3, .int a4, .int a5] u K := by
  refine th_ofi (by decide) (Nat.le_of_ble_eq_true rfl) (xE_ok ad ak) ?_
  intro p e s m below meth c A ls C hw hl
  have C : th_Cx p s m _ meth c cX3_costFrom RX3 8 (some .int) (dC, dI) (th_ty cs) (xE ad ak) A := C
  have hl : lv_has ls 8 [(0, .ref (q 999)), (1, .ref (q 199)), (2, .int a2), (3, .int a3), (4, .int a4), (5, .int a5)] := hl
  generalize (List.toArray _ : Array Value) = args at C ⊢
  have hx := C.1
  have hb := C.2.1
  unfold X_LN_costFrom at hf
  refine lv_aload_n hx hb dX3_costFrom_0 rfl (lv_at hl 1 rfl) ?_
  refine xgn_101 C hw (va_Nw.use rfl (xN C hwG_X3_22)) dX3_costFrom_1 ?_
  refine lv_iload_n hx hb dX3_costFrom_4 rfl (lv_at hl 2 rfl) ?_
  refine lv_isub hx hb dX3_costFrom_5 ?_
  refine lv_topi (fun y_1 e9 => ?_)
  replace hf := hf y_1 e9
  clear e9
  refine lv_istore (lv' := [(6, .int y_1), (0, .ref (q 999)), (1, .ref (q 199)), (2, .int a2), (3, .int a3), (4, .int a4), (5, .int a5)]) hx hb dX3_costFrom_6 hl (by decide) rfl (fun ls hl => ?_)
  refine lv_iload hx hb dX3_costFrom_8 (lv_at hl 5 rfl) ?_
  refine lv_iload_n hx hb dX3_costFrom_10 rfl (lv_at hl 3 rfl) ?_
  refine lv_icmp_ne (tgt := 22) hx hb dX3_costFrom_11 (by decide) (fun hc => ?_) (fun hc => ?_)
  · replace hf := hf.1 hc
    clear hc
    refine lv_iload hx hb dX3_costFrom_22 (lv_at hl 6 rfl) ?_
    refine lv_iload hx hb dX3_costFrom_24 (lv_at hl 0 rfl) ?_
    refine lv_icmp_ne (tgt := 36) hx hb dX3_costFrom_26 (by decide) (fun hc => ?_) (fun hc => ?_)
    · replace hf := hf.1 hc
      clear hc
      refine lv_aload_n hx hb dX3_costFrom_36 rfl (lv_at hl 1 rfl) ?_
      refine xg_902 C hw (C.2.2.2.2.1 _ hwF_X3_19) dX3_costFrom_37 ?_
      refine lv_iload hx hb dX3_costFrom_40 (lv_at hl 5 rfl) ?_
      refine lv_iconst (v := (1 : Int32)) hx hb dX3_costFrom_42 (by decide) ?_
      refine lv_iadd hx hb dX3_costFrom_43 ?_
      refine lv_bipush (v := (49 : Int32)) hx hb dX3_costFrom_44 (by decide) ?_
      refine lv_imul hx hb dX3_costFrom_46 ?_
      refine lv_iload hx hb dX3_costFrom_47 (lv_at hl 6 rfl) ?_
      refine lv_iadd hx hb dX3_costFrom_49 ?_
      refine yl_902 C hw hf.1 dX3_costFrom_50 (fun y_2 e9 => ?_)
      replace hf := hf.2 y_2 e9
      clear e9
      refine lv_aload_n hx hb dX3_costFrom_51 rfl (lv_at hl 1 rfl) ?_
      refine xg_902 C hw (C.2.2.2.2.1 _ hwF_X3_19) dX3_costFrom_52 ?_
      refine lv_iload hx hb dX3_costFrom_55 (lv_at hl 5 rfl) ?_
      refine lv_bipush (v := (49 : Int32)) hx hb dX3_costFrom_57 (by decide) ?_
      refine lv_imul hx hb dX3_costFrom_59 ?_
      refine lv_iload hx hb dX3_costFrom_60 (lv_at hl 6 rfl) ?_
      refine lv_iadd hx hb dX3_costFrom_62 ?_
      refine lv_iconst (v := (1 : Int32)) hx hb dX3_costFrom_63 (by decide) ?_
      refine lv_iadd hx hb dX3_costFrom_64 ?_
      refine yl_902 C hw hf.1 dX3_costFrom_65 (fun y_3 e9 => ?_)
      replace hf := hf.2 y_3 e9
      clear e9
      refine va_mmin hx hb (C.2.2.1.trans hl.1.symm) C.2.2.2.1 (C.2.2.2.2.1 _ hwM_X3_39) (C.2.2.2.2.1 _ hwS_Math_min) (C.2.2.2.2.1 _ hwI_Math) (C.2.2.2.2.1 _ hwC_Math_min) (Nat.le_of_ble_eq_true rfl) (Nat.le_of_ble_eq_true rfl) (Nat.le_of_ble_eq_true rfl) (Nat.le_of_ble_eq_true rfl) dX3_costFrom_66 ?_
      refine lv_iload_n hx hb dX3_costFrom_69 rfl (lv_at hl 4 rfl) ?_
      refine lv_iadd hx hb dX3_costFrom_70 ?_
      refine lv_topi (fun y_4 e9 => ?_)
      replace hf := hf y_4 e9
      clear e9
      refine lv_istore (lv' := [(7, .int y_4), (6, .int y_1), (0, .ref (q 999)), (1, .ref (q 199)), (2, .int a2), (3, .int a3), (4, .int a4), (5, .int a5)]) hx hb dX3_costFrom_71 hl (by decide) rfl (fun ls hl => ?_)
      refine lv_iload hx hb dX3_costFrom_73 (lv_at hl 0 rfl) ?_
      refine lv_aload_n hx hb dX3_costFrom_75 rfl (lv_at hl 2 rfl) ?_
      refine lv_aload_n hx hb dX3_costFrom_76 rfl (lv_at hl 3 rfl) ?_
      refine lv_iload_n hx hb dX3_costFrom_77 rfl (lv_at hl 4 rfl) ?_
      refine lv_iload hx hb dX3_costFrom_78 (lv_at hl 6 rfl) ?_
      refine lv_iload hx hb dX3_costFrom_80 (lv_at hl 7 rfl) ?_
      refine th_callVi (As := [.ref (q 199), .int a2, .int a4, .int a5]) (rest := [.int y_4]) C lkX3_45 (X_LN_costPaired_c hf) hw (xRc_LN C hw) rfl rfl ⟨Nat.le_of_ble_eq_true rfl, Nat.le_of_ble_eq_true rfl⟩ hl.1 (Nat.le_of_ble_eq_true rfl) ⟨Nat.le_of_ble_eq_true rfl, Nat.le_of_ble_eq_true rfl⟩ dX3_costFrom_82 (fun r_6 u_5 H locs hf hw => ?_)
      refine va_mmin hx hb (C.2.2.1.trans hl.1.symm) C.2.2.2.1 (C.2.2.2.2.1 _ hwM_X3_39) (C.2.2.2.2.1 _ hwS_Math_min) (C.2.2.2.2.1 _ hwI_Math) (C.2.2.2.2.1 _ hwC_Math_min) (Nat.le_of_ble_eq_true rfl) (Nat.le_of_ble_eq_true rfl) (Nat.le_of_ble_eq_true rfl) (Nat.le_of_ble_eq_true rfl) dX3_costFrom_85 ?_
      exact th_iret C hw hf dX3_costFrom_88
    · replace hf := hf.2 hc
      clear hc
      refine lv_iload_n hx hb dX3_costFrom_29 rfl (lv_at hl 3 rfl) ?_
      refine lv_iload hx hb dX3_costFrom_30 (lv_at hl 5 rfl) ?_
      refine lv_isub hx hb dX3_costFrom_32 ?_
      refine lv_iload_n hx hb dX3_costFrom_33 rfl (lv_at hl 4 rfl) ?_
      refine lv_imul hx hb dX3_costFrom_34 ?_
      exact th_iret C hw hf dX3_costFrom_35
  · replace hf := hf.2 hc
    clear hc
    refine lv_iload hx hb dX3_costFrom_14 (lv_at hl 0 rfl) ?_
    refine lv_iload hx hb dX3_costFrom_16 (lv_at hl 6 rfl) ?_
    refine lv_isub hx hb dX3_costFrom_18 ?_
    refine lv_iload_n hx hb dX3_costFrom_19 rfl (lv_at hl 4 rfl) ?_
    refine lv_imul hx hb dX3_costFrom_20 ?_
    exact th_iret C hw hf dX3_costFrom_21
/-! X_LN_notePairs -/
theorem dX3_notePairs_0 : decode cX3_notePairs 0 = .ok (.aload_n 1, 1) := by decide +kernel
theorem dX3_notePairs_1 : decode cX3_notePairs 1 = .ok (.getfield 22, 3) := by decide +kernel
theorem dX3_notePairs_4 : decode cX3_notePairs 4 = .ok (.iload_n 2, 1) := by decide +kernel
theorem dX3_notePairs_5 : decode cX3_notePairs 5 = .ok (.isub, 1) := by decide +kernel
theorem dX3_notePairs_6 : decode cX3_notePairs 6 = .ok (.istore 4, 2) := by decide +kernel
theorem dX3_notePairs_8 : decode cX3_notePairs 8 = .ok (.aload_n 0, 1) := by decide +kernel
theorem dX3_notePairs_9 : decode cX3_notePairs 9 = .ok (.iload_n 2, 1) := by decide +kernel
theorem dX3_notePairs_10 : decode cX3_notePairs 10 = .ok (.putfield 15, 3) := by decide +kernel
theorem dX3_notePairs_13 : decode cX3_notePairs 13 = .ok (.aload_n 0, 1) := by decide +kernel
theorem dX3_notePairs_14 : decode cX3_notePairs 14 = .ok (.getfield 11, 3) := by decide +kernel
theorem dX3_notePairs_17 : decode cX3_notePairs 17 = .ok (.iconst (-1), 1) := by decide +kernel
theorem dX3_notePairs_18 : decode cX3_notePairs 18 = .ok (.invokestatic 56, 3) := by decide +kernel
theorem dX3_notePairs_21 : decode cX3_notePairs 21 = .ok (.iconst 0, 1) := by decide +kernel
theorem dX3_notePairs_22 : decode cX3_notePairs 22 = .ok (.istore 5, 2) := by decide +kernel
theorem dX3_notePairs_24 : decode cX3_notePairs 24 = .ok (.iconst 0, 1) := by decide +kernel
theorem dX3_notePairs_25 : decode cX3_notePairs 25 = .ok (.istore 6, 2) := by decide +kernel
theorem dX3_notePairs_27 : decode cX3_notePairs 27 = .ok (.iload 5, 2) := by decide +kernel
theorem dX3_notePairs_29 : decode cX3_notePairs 29 = .ok (.iload_n 2, 1) := by decide +kernel
theorem dX3_notePairs_30 : decode cX3_notePairs 30 = .ok (.if_icmp .ge 92, 3) := by decide +kernel
theorem dX3_notePairs_33 : decode cX3_notePairs 33 = .ok (.iload 6, 2) := by decide +kernel
theorem dX3_notePairs_35 : decode cX3_notePairs 35 = .ok (.iload 4, 2) := by decide +kernel
theorem dX3_notePairs_37 : decode cX3_notePairs 37 = .ok (.if_icmp .ge 85, 3) := by decide +kernel
theorem dX3_notePairs_40 : decode cX3_notePairs 40 = .ok (.aload_n 0, 1) := by decide +kernel
theorem dX3_notePairs_41 : decode cX3_notePairs 41 = .ok (.getfield 19, 3) := by decide +kernel
theorem dX3_notePairs_44 : decode cX3_notePairs 44 = .ok (.iload 5, 2) := by decide +kernel
theorem dX3_notePairs_46 : decode cX3_notePairs 46 = .ok (.bipush 49, 2) := by decide +kernel
theorem dX3_notePairs_48 : decode cX3_notePairs 48 = .ok (.imul, 1) := by decide +kernel
theorem dX3_notePairs_49 : decode cX3_notePairs 49 = .ok (.iload 6, 2) := by decide +kernel
theorem dX3_notePairs_51 : decode cX3_notePairs 51 = .ok (.iadd, 1) := by decide +kernel
theorem dX3_notePairs_52 : decode cX3_notePairs 52 = .ok (.iaload, 1) := by decide +kernel
theorem dX3_notePairs_53 : decode cX3_notePairs 53 = .ok (.istore 7, 2) := by decide +kernel
theorem dX3_notePairs_55 : decode cX3_notePairs 55 = .ok (.iload 7, 2) := by decide +kernel
theorem dX3_notePairs_57 : decode cX3_notePairs 57 = .ok (.aload_n 0, 1) := by decide +kernel
theorem dX3_notePairs_58 : decode cX3_notePairs 58 = .ok (.aload_n 1, 1) := by decide +kernel
theorem dX3_notePairs_59 : decode cX3_notePairs 59 = .ok (.iload_n 2, 1) := by decide +kernel
theorem dX3_notePairs_60 : decode cX3_notePairs 60 = .ok (.iload 5, 2) := by decide +kernel
theorem dX3_notePairs_62 : decode cX3_notePairs 62 = .ok (.iload 6, 2) := by decide +kernel
theorem dX3_notePairs_64 : decode cX3_notePairs 64 = .ok (.invokevirtual 45, 3) := by decide +kernel
theorem dX3_notePairs_67 : decode cX3_notePairs 67 = .ok (.if_icmp .ne 21, 3) := by decide +kernel
theorem dX3_notePairs_70 : decode cX3_notePairs 70 = .ok (.aload_n 0, 1) := by decide +kernel
theorem dX3_notePairs_71 : decode cX3_notePairs 71 = .ok (.getfield 11, 3) := by decide +kernel
theorem dX3_notePairs_74 : decode cX3_notePairs 74 = .ok (.iload 5, 2) := by decide +kernel
theorem dX3_notePairs_76 : decode cX3_notePairs 76 = .ok (.iload 6, 2) := by decide +kernel
theorem dX3_notePairs_78 : decode cX3_notePairs 78 = .ok (.iastore, 1) := by decide +kernel
theorem dX3_notePairs_79 : decode cX3_notePairs 79 = .ok (.iinc 5 1, 3) := by decide +kernel
theorem dX3_notePairs_82 : decode cX3_notePairs 82 = .ok (.iinc 6 1, 3) := by decide +kernel
theorem dX3_notePairs_85 : decode cX3_notePairs 85 = .ok (.goto 34, 3) := by decide +kernel
theorem dX3_notePairs_88 : decode cX3_notePairs 88 = .ok (.iload 7, 2) := by decide +kernel
theorem dX3_notePairs_90 : decode cX3_notePairs 90 = .ok (.aload_n 0, 1) := by decide +kernel
theorem dX3_notePairs_91 : decode cX3_notePairs 91 = .ok (.getfield 19, 3) := by decide +kernel
theorem dX3_notePairs_94 : decode cX3_notePairs 94 = .ok (.iload 5, 2) := by decide +kernel
theorem dX3_notePairs_96 : decode cX3_notePairs 96 = .ok (.iconst 1, 1) := by decide +kernel
theorem dX3_notePairs_97 : decode cX3_notePairs 97 = .ok (.iadd, 1) := by decide +kernel
theorem dX3_notePairs_98 : decode cX3_notePairs 98 = .ok (.bipush 49, 2) := by decide +kernel
theorem dX3_notePairs_100 : decode cX3_notePairs 100 = .ok (.imul, 1) := by decide +kernel
theorem dX3_notePairs_101 : decode cX3_notePairs 101 = .ok (.iload 6, 2) := by decide +kernel
theorem dX3_notePairs_103 : decode cX3_notePairs 103 = .ok (.iadd, 1) := by decide +kernel
theorem dX3_notePairs_104 : decode cX3_notePairs 104 = .ok (.iaload, 1) := by decide +kernel
theorem dX3_notePairs_105 : decode cX3_notePairs 105 = .ok (.iload_n 3, 1) := by decide +kernel
theorem dX3_notePairs_106 : decode cX3_notePairs 106 = .ok (.iadd, 1) := by decide +kernel
theorem dX3_notePairs_107 : decode cX3_notePairs 107 = .ok (.if_icmp .ne 9, 3) := by decide +kernel
theorem dX3_notePairs_110 : decode cX3_notePairs 110 = .ok (.iinc 5 1, 3) := by decide +kernel
theorem dX3_notePairs_113 : decode cX3_notePairs 113 = .ok (.goto 6, 3) := by decide +kernel
theorem dX3_notePairs_116 : decode cX3_notePairs 116 = .ok (.iinc 6 1, 3) := by decide +kernel
theorem dX3_notePairs_119 : decode cX3_notePairs 119 = .ok (.goto (-92), 3) := by decide +kernel
theorem dX3_notePairs_122 : decode cX3_notePairs 122 = .ok (.return_, 1) := by decide +kernel
def X_LN_notePairs_119 (K : xs_St → Prop) (k27 : Int32 → Int32 → Int32 → Int32 → Int32 → xs_St → Prop) (x2 : Int32) (x3 : Int32) (x4 : Int32) (x5 : Int32) (x6 : Int32) (u : xs_St) : Prop :=
  k27 x2 x3 x4 x5 x6 u
set_option maxHeartbeats 4000000 in
set_option maxRecDepth 100000 in
theorem X_LN_notePairs_119_w {K : xs_St → Prop} {k27 : Int32 → Int32 → Int32 → Int32 → Int32 → xs_St → Prop} (C : th_Cx p s m args meth c cX3_notePairs RX3 8 (none) (dC, dI) (th_ty cs) (xE ad ak) A) (hk27 : ∀ (x2 : Int32) (x3 : Int32) (x4 : Int32) (x5 : Int32) (x6 : Int32) (u : xs_St) (H : Heap) (locs : List Loc) (ls : Array Slot), k27 x2 x3 x4 x5 x6 u → th_wI (dC, dI) (wX cs ad q v v) A s.heap u H locs → lv_has ls 8 [(0, .ref (q 999)), (1, .ref (q 199)), (2, .int x2), (3, .int x3), (4, .int x4), (5, .int x5), (6, .int x6)] → W p l e (th_rm 3 0 0) s m args below meth c H locs 0 0 (MQ below (va_Qv K (th_Post (dC, dI) (wX cs ad q v v) A) A) args s 0 0 A) (F0 m 27 ls [])) (x2 : Int32) (x3 : Int32) (x4 : Int32) (x5 : Int32) (x6 : Int32) (u : xs_St) (H : Heap) (locs : List Loc) (ls : Array Slot) (hf : X_LN_notePairs_119 K k27 x2 x3 x4 x5 x6 u) (hw : th_wI (dC, dI) (wX cs ad q v v) A s.heap u H locs) (hl : lv_has ls 8 [(0, .ref (q 999)), (1, .ref (q 199)), (2, .int x2), (3, .int x3), (4, .int x4), (5, .int x5), (6, .int x6)]) : W p l e (th_rm 3 0 0) s m args below meth c H locs 0 0 (MQ below (va_Qv K (th_Post (dC, dI) (wX cs ad q v v) A) A) args s 0 0 A) (F0 m 119 ls []) := by
  have hx := C.1
  have hb := C.2.1
  unfold X_LN_notePairs_119 at hf
  refine lv_goto (tgt := 27) hx hb dX3_notePairs_119 (by decide) ?_
  exact hk27 x2 x3 x4 x5 x6 u _ _ _ hf hw (lv_sub hl [0, 1, 2, 3, 4, 5, 6] rfl)
def X_LN_notePairs_122 (K : xs_St → Prop) (u : xs_St) : Prop :=
  K u
set_option maxHeartbeats 4000000 in
set_option maxRecDepth 100000 in
theorem X_LN_notePairs_122_w {K : xs_St → Prop} (C : th_Cx p s m args meth c cX3_notePairs RX3 8 (none) (dC, dI) (th_ty cs) (xE ad ak) A) (u : xs_St) (H : Heap) (locs : List Loc) (ls : Array Slot) (hf : X_LN_notePairs_122 K u) (hw : th_wI (dC, dI) (wX cs ad q v v) A s.heap u H locs) (hl : lv_has ls 8 []) : W p l e (th_rm 3 0 0) s m args below meth c H locs 0 0 (MQ below (va_Qv K (th_Post (dC, dI) (wX cs ad q v v) A) A) args s 0 0 A) (F0 m 122 ls []) := by
  have hx := C.1
  have hb := C.2.1
  unfold X_LN_notePairs_122 at hf
  exact th_vret C hw hf dX3_notePairs_122
def X_LN_notePairs_27 (K : xs_St → Prop) (k27 : Int32 → Int32 → Int32 → Int32 → Int32 → xs_St → Prop) (x2 : Int32) (x3 : Int32) (x4 : Int32) (x5 : Int32) (x6 : Int32) (u : xs_St) : Prop :=
  ((x2 ≤ x5 → X_LN_notePairs_122 K u) ∧ (¬ x2 ≤ x5 → ((x4 ≤ x6 → X_LN_notePairs_122 K u) ∧ (¬ x4 ≤ x6 → (vp_in ((x5 * (49 : Int32)) + x6) 2401 ∧ ∀ y_1 : Int32, y_1 = xa u 902 (((x5 * (49 : Int32)) + x6)).toNatClampNeg → X_LN_costPaired x2 x5 x6 u (fun r_3 u_2 => ((¬ y_1 = r_3 → (vp_in (((x5 + (1 : Int32)) * (49 : Int32)) + x6) 2401 ∧ ∀ y_4 : Int32, y_4 = xa u_2 902 ((((x5 + (1 : Int32)) * (49 : Int32)) + x6)).toNatClampNeg → ((¬ y_1 = (y_4 + x3) → ∀ x6_5 : Int32, x6_5 = x6 + (1 : Int32) → X_LN_notePairs_119 K k27 x2 x3 x4 x5 x6_5 u_2) ∧ (y_1 = (y_4 + x3) → ∀ x5_6 : Int32, x5_6 = x5 + (1 : Int32) → X_LN_notePairs_119 K k27 x2 x3 x4 x5_6 x6 u_2)))) ∧ (y_1 = r_3 → (vp_in x5 48 ∧ ∀ u_7 : xs_St, u_7 = xs_sa u_2 900 (upd (xa u_2 900) (x5).toNatClampNeg x6) → ∀ x5_8 : Int32, x5_8 = x5 + (1 : Int32) → ∀ x6_9 : Int32, x6_9 = x6 + (1 : Int32) → X_LN_notePairs_119 K k27 x2 x3 x4 x5_8 x6_9 u_7)))))))))
set_option maxHeartbeats 4000000 in
set_option maxRecDepth 100000 in
theorem X_LN_notePairs_27_w {K : xs_St → Prop} {k27 : Int32 → Int32 → Int32 → Int32 → Int32 → xs_St → Prop} (C : th_Cx p s m args meth c cX3_notePairs RX3 8 (none) (dC, dI) (th_ty cs) (xE ad ak) A) (hk27 : ∀ (x2 : Int32) (x3 : Int32) (x4 : Int32) (x5 : Int32) (x6 : Int32) (u : xs_St) (H : Heap) (locs : List Loc) (ls : Array Slot), k27 x2 x3 x4 x5 x6 u → th_wI (dC, dI) (wX cs ad q v v) A s.heap u H locs → lv_has ls 8 [(0, .ref (q 999)), (1, .ref (q 199)), (2, .int x2), (3, .int x3), (4, .int x4), (5, .int x5), (6, .int x6)] → W p l e (th_rm 3 0 0) s m args below meth c H locs 0 0 (MQ below (va_Qv K (th_Post (dC, dI) (wX cs ad q v v) A) A) args s 0 0 A) (F0 m 27 ls [])) (x2 : Int32) (x3 : Int32) (x4 : Int32) (x5 : Int32) (x6 : Int32) (u : xs_St) (H : Heap) (locs : List Loc) (ls : Array Slot) (hf : X_LN_notePairs_27 K k27 x2 x3 x4 x5 x6 u) (hw : th_wI (dC, dI) (wX cs ad q v v) A s.heap u H locs) (hl : lv_has ls 8 [(0, .ref (q 999)), (1, .ref (q 199)), (2, .int x2), (3, .int x3), (4, .int x4), (5, .int x5), (6, .int x6)]) : W p l e (th_rm 3 0 0) s m args below meth c H locs 0 0 (MQ below (va_Qv K (th_Post (dC, dI) (wX cs ad q v v) A) A) args s 0 0 A) (F0 m 27 ls []) := by
  have hx := C.1
  have hb := C.2.1
  unfold X_LN_notePairs_27 at hf
  refine lv_iload hx hb dX3_notePairs_27 (lv_at hl 5 rfl) ?_
  refine lv_iload_n hx hb dX3_notePairs_29 rfl (lv_at hl 2 rfl) ?_
  refine lv_icmp_ge (tgt := 122) hx hb dX3_notePairs_30 (by decide) (fun hc => ?_) (fun hc => ?_)
  · replace hf := hf.1 hc
    clear hc
    exact X_LN_notePairs_122_w C  u _ _ _ hf hw (lv_sub hl [] rfl)
  · replace hf := hf.2 hc
    clear hc
    refine lv_iload hx hb dX3_notePairs_33 (lv_at hl 6 rfl) ?_
    refine lv_iload hx hb dX3_notePairs_35 (lv_at hl 4 rfl) ?_
    refine lv_icmp_ge (tgt := 122) hx hb dX3_notePairs_37 (by decide) (fun hc => ?_) (fun hc => ?_)
    · replace hf := hf.1 hc
      clear hc
      exact X_LN_notePairs_122_w C  u _ _ _ hf hw (lv_sub hl [] rfl)
    · replace hf := hf.2 hc
      clear hc
      refine lv_aload_n hx hb dX3_notePairs_40 rfl (lv_at hl 0 rfl) ?_
      refine xg_902 C hw (C.2.2.2.2.1 _ hwF_X3_19) dX3_notePairs_41 ?_
      refine lv_iload hx hb dX3_notePairs_44 (lv_at hl 5 rfl) ?_
      refine lv_bipush (v := (49 : Int32)) hx hb dX3_notePairs_46 (by decide) ?_
      refine lv_imul hx hb dX3_notePairs_48 ?_
      refine lv_iload hx hb dX3_notePairs_49 (lv_at hl 6 rfl) ?_
      refine lv_iadd hx hb dX3_notePairs_51 ?_
      refine yl_902 C hw hf.1 dX3_notePairs_52 (fun y_1 e9 => ?_)
      replace hf := hf.2 y_1 e9
      clear e9
      refine lv_istore (lv' := [(7, .int y_1), (0, .ref (q 999)), (1, .ref (q 199)), (2, .int x2), (3, .int x3), (4, .int x4), (5, .int x5), (6, .int x6)]) hx hb dX3_notePairs_53 hl (by decide) rfl (fun ls hl => ?_)
      refine lv_iload hx hb dX3_notePairs_55 (lv_at hl 0 rfl) ?_
      refine lv_aload_n hx hb dX3_notePairs_57 rfl (lv_at hl 1 rfl) ?_
      refine lv_aload_n hx hb dX3_notePairs_58 rfl (lv_at hl 2 rfl) ?_
      refine lv_iload_n hx hb dX3_notePairs_59 rfl (lv_at hl 3 rfl) ?_
      refine lv_iload hx hb dX3_notePairs_60 (lv_at hl 6 rfl) ?_
      refine lv_iload hx hb dX3_notePairs_62 (lv_at hl 7 rfl) ?_
      refine th_callVi (As := [.ref (q 199), .int x2, .int x5, .int x6]) (rest := [.int y_1]) C lkX3_45 (X_LN_costPaired_c hf) hw (xRc_LN C hw) rfl rfl ⟨Nat.le_of_ble_eq_true rfl, Nat.le_of_ble_eq_true rfl⟩ hl.1 (Nat.le_of_ble_eq_true rfl) ⟨Nat.le_of_ble_eq_true rfl, Nat.le_of_ble_eq_true rfl⟩ dX3_notePairs_64 (fun r_3 u_2 H locs hf hw => ?_)
      refine lv_icmp_ne (tgt := 88) hx hb dX3_notePairs_67 (by decide) (fun hc => ?_) (fun hc => ?_)
      · replace hf := hf.1 hc
        clear hc
        refine lv_iload hx hb dX3_notePairs_88 (lv_at hl 0 rfl) ?_
        refine lv_aload_n hx hb dX3_notePairs_90 rfl (lv_at hl 1 rfl) ?_
        refine xg_902 C hw (C.2.2.2.2.1 _ hwF_X3_19) dX3_notePairs_91 ?_
        refine lv_iload hx hb dX3_notePairs_94 (lv_at hl 6 rfl) ?_
        refine lv_iconst (v := (1 : Int32)) hx hb dX3_notePairs_96 (by decide) ?_
        refine lv_iadd hx hb dX3_notePairs_97 ?_
        refine lv_bipush (v := (49 : Int32)) hx hb dX3_notePairs_98 (by decide) ?_
        refine lv_imul hx hb dX3_notePairs_100 ?_
        refine lv_iload hx hb dX3_notePairs_101 (lv_at hl 7 rfl) ?_
        refine lv_iadd hx hb dX3_notePairs_103 ?_
        refine yl_902 C hw hf.1 dX3_notePairs_104 (fun y_4 e9 => ?_)
        replace hf := hf.2 y_4 e9
        clear e9
        refine lv_iload_n hx hb dX3_notePairs_105 rfl (lv_at hl 4 rfl) ?_
        refine lv_iadd hx hb dX3_notePairs_106 ?_
        refine lv_icmp_ne (tgt := 116) hx hb dX3_notePairs_107 (by decide) (fun hc => ?_) (fun hc => ?_)
        · replace hf := hf.1 hc
          clear hc
          obtain ⟨x6_5, e9⟩ : ∃ y : Int32, y = x6 + (1 : Int32) := ⟨_, rfl⟩
          replace hf := hf x6_5 e9
          refine lv_iinc (v := x6_5) (lv' := [(6, .int x6_5), (7, .int y_1), (0, .ref (q 999)), (1, .ref (q 199)), (2, .int x2), (3, .int x3), (4, .int x4), (5, .int x5)]) hx hb dX3_notePairs_116 hl (k := 7) rfl (by rw [e9]; rfl) (by decide) rfl (fun ls hl => ?_)
          clear e9
          exact X_LN_notePairs_119_w C hk27 x2 x3 x4 x5 x6_5 u_2 _ _ _ hf hw (lv_sub hl [2, 3, 4, 5, 6, 7, 0] rfl)
        · replace hf := hf.2 hc
          clear hc
          obtain ⟨x5_6, e9⟩ : ∃ y : Int32, y = x5 + (1 : Int32) := ⟨_, rfl⟩
          replace hf := hf x5_6 e9
          refine lv_iinc (v := x5_6) (lv' := [(5, .int x5_6), (7, .int y_1), (0, .ref (q 999)), (1, .ref (q 199)), (2, .int x2), (3, .int x3), (4, .int x4), (6, .int x6)]) hx hb dX3_notePairs_110 hl (k := 6) rfl (by rw [e9]; rfl) (by decide) rfl (fun ls hl => ?_)
          clear e9
          refine lv_goto (tgt := 119) hx hb dX3_notePairs_113 (by decide) ?_
          exact X_LN_notePairs_119_w C hk27 x2 x3 x4 x5_6 x6 u_2 _ _ _ hf hw (lv_sub hl [2, 3, 4, 5, 6, 0, 7] rfl)
      · replace hf := hf.2 hc
        clear hc
        refine lv_aload_n hx hb dX3_notePairs_70 rfl (lv_at hl 1 rfl) ?_
        refine xg_900 C hw (C.2.2.2.2.1 _ hwF_X3_11) dX3_notePairs_71 ?_
        refine lv_iload hx hb dX3_notePairs_74 (lv_at hl 6 rfl) ?_
        refine lv_iload hx hb dX3_notePairs_76 (lv_at hl 7 rfl) ?_
        refine ys_900 C hw hf.1 dX3_notePairs_78 (fun u_7 e9 H locs hw => ?_)
        replace hf := hf.2 u_7 e9
        clear e9
        obtain ⟨x5_8, e9⟩ : ∃ y : Int32, y = x5 + (1 : Int32) := ⟨_, rfl⟩
        replace hf := hf x5_8 e9
        refine lv_iinc (v := x5_8) (lv' := [(5, .int x5_8), (7, .int y_1), (0, .ref (q 999)), (1, .ref (q 199)), (2, .int x2), (3, .int x3), (4, .int x4), (6, .int x6)]) hx hb dX3_notePairs_79 hl (k := 6) rfl (by rw [e9]; rfl) (by decide) rfl (fun ls hl => ?_)
        clear e9
        obtain ⟨x6_9, e9⟩ : ∃ y : Int32, y = x6 + (1 : Int32) := ⟨_, rfl⟩
        replace hf := hf x6_9 e9
        refine lv_iinc (v := x6_9) (lv' := [(6, .int x6_9), (5, .int x5_8), (7, .int y_1), (0, .ref (q 999)), (1, .ref (q 199)), (2, .int x2), (3, .int x3), (4, .int x4)]) hx hb dX3_notePairs_82 hl (k := 7) rfl (by rw [e9]; rfl) (by decide) rfl (fun ls hl => ?_)
        clear e9
        refine lv_goto (tgt := 119) hx hb dX3_notePairs_85 (by decide) ?_
        exact X_LN_notePairs_119_w C hk27 x2 x3 x4 x5_8 x6_9 u_7 _ _ _ hf hw (lv_sub hl [3, 4, 5, 6, 7, 1, 0] rfl)
def X_LN_notePairs_27_lp (K : xs_St → Prop) : Nat → Int32 → Int32 → Int32 → Int32 → Int32 → xs_St → Prop
  | 0, _, _, _, _, _, _ => False
  | n + 1, x2, x3, x4, x5, x6, u => X_LN_notePairs_27 K (X_LN_notePairs_27_lp K n) x2 x3 x4 x5 x6 u
set_option maxHeartbeats 4000000 in
set_option maxRecDepth 100000 in
theorem X_LN_notePairs_27_lw {K : xs_St → Prop} (C : th_Cx p s m args meth c cX3_notePairs RX3 8 (none) (dC, dI) (th_ty cs) (xE ad ak) A) (n : Nat) : ∀ (x2 : Int32) (x3 : Int32) (x4 : Int32) (x5 : Int32) (x6 : Int32) (u : xs_St) (H : Heap) (locs : List Loc) (ls : Array Slot), X_LN_notePairs_27_lp K n x2 x3 x4 x5 x6 u → th_wI (dC, dI) (wX cs ad q v v) A s.heap u H locs → lv_has ls 8 [(0, .ref (q 999)), (1, .ref (q 199)), (2, .int x2), (3, .int x3), (4, .int x4), (5, .int x5), (6, .int x6)] → W p l e (th_rm 3 0 0) s m args below meth c H locs 0 0 (MQ below (va_Qv K (th_Post (dC, dI) (wX cs ad q v v) A) A) args s 0 0 A) (F0 m 27 ls []) := by
  induction n with
  | zero => intro x2 x3 x4 x5 x6 u H locs ls hf; exact hf.elim
  | succ n ih =>
    intro x2 x3 x4 x5 x6 u H locs ls hf hw hl
    exact X_LN_notePairs_27_w C ih x2 x3 x4 x5 x6 u H locs ls hf hw hl
def X_LN_notePairs (a2 : Int32) (a3 : Int32) (u : xs_St) (K : xs_St → Prop) : Prop :=
  ∀ y_1 : Int32, y_1 = ((xi u 101) - a2) → ∀ u_2 : xs_St, u_2 = xs_si u 901 a2 → X_J_fill_53178_900 (-1 : Int32) u_2 (fun u_3 => ∃ n, X_LN_notePairs_27_lp K n a2 a3 y_1 (0 : Int32) (0 : Int32) u_3)
set_option maxHeartbeats 4000000 in
set_option maxRecDepth 100000 in
theorem X_LN_notePairs_c {l : Launch} {dC : Nat → ClassId} {dI : Nat → Nat → Nat} {cs : Nat → ClassId} {ad ak : Nat → Nat} {q v : Nat → Nat} {a2 : Int32} {a3 : Int32} {u : xs_St} {K : xs_St → Prop} (hf : X_LN_notePairs a2 a3 u K) : th_Cv l yX3_notePairs cX3_notePairs 8 (none) 3 0 0 (dC, dI) (th_ty cs) (xE ad ak) (wX cs ad q v v) [.ref (q 999), .ref (q 199), .int a2, .int a3] u K := by
  refine th_ofv (by decide) (Nat.le_of_ble_eq_true rfl) (xE_ok ad ak) ?_
  intro p e s m below meth c A ls C hw hl
  have C : th_Cx p s m _ meth c cX3_notePairs RX3 8 (none) (dC, dI) (th_ty cs) (xE ad ak) A := C
  have hl : lv_has ls 8 [(0, .ref (q 999)), (1, .ref (q 199)), (2, .int a2), (3, .int a3)] := hl
  generalize (List.toArray _ : Array Value) = args at C ⊢
  have hx := C.1
  have hb := C.2.1
  unfold X_LN_notePairs at hf
  refine lv_aload_n hx hb dX3_notePairs_0 rfl (lv_at hl 1 rfl) ?_
  refine xgn_101 C hw (va_Nw.use rfl (xN C hwG_X3_22)) dX3_notePairs_1 ?_
  refine lv_iload_n hx hb dX3_notePairs_4 rfl (lv_at hl 2 rfl) ?_
  refine lv_isub hx hb dX3_notePairs_5 ?_
  refine lv_topi (fun y_1 e9 => ?_)
  replace hf := hf y_1 e9
  clear e9
  refine lv_istore (lv' := [(4, .int y_1), (0, .ref (q 999)), (1, .ref (q 199)), (2, .int a2), (3, .int a3)]) hx hb dX3_notePairs_6 hl (by decide) rfl (fun ls hl => ?_)
  refine lv_aload_n hx hb dX3_notePairs_8 rfl (lv_at hl 1 rfl) ?_
  refine lv_iload_n hx hb dX3_notePairs_9 rfl (lv_at hl 3 rfl) ?_
  refine xp_901 C hw (C.2.2.2.2.1 _ hwF_X3_15) dX3_notePairs_10 (fun u_2 e9 H locs hw => ?_)
  replace hf := hf u_2 e9
  clear e9
  refine lv_aload_n hx hb dX3_notePairs_13 rfl (lv_at hl 1 rfl) ?_
  refine xg_900 C hw (C.2.2.2.2.1 _ hwF_X3_11) dX3_notePairs_14 ?_
  refine lv_iconst (v := (-1 : Int32)) hx hb dX3_notePairs_17 (by decide) ?_
  refine th_callSv (As := [.ref (q 900), .int (-1 : Int32)]) (rest := []) C lkJX3_56 (X_J_fill_53178_900_c hf) hw rfl rfl ⟨Nat.le_of_ble_eq_true rfl, Nat.le_of_ble_eq_true rfl⟩ hl.1 (Nat.le_of_ble_eq_true rfl) ⟨Nat.le_of_ble_eq_true rfl, Nat.le_of_ble_eq_true rfl⟩ dX3_notePairs_18 (fun u_3 H locs hf hw => ?_)
  refine lv_iconst (v := (0 : Int32)) hx hb dX3_notePairs_21 (by decide) ?_
  refine lv_istore (lv' := [(5, .int (0 : Int32)), (4, .int y_1), (0, .ref (q 999)), (1, .ref (q 199)), (2, .int a2), (3, .int a3)]) hx hb dX3_notePairs_22 hl (by decide) rfl (fun ls hl => ?_)
  refine lv_iconst (v := (0 : Int32)) hx hb dX3_notePairs_24 (by decide) ?_
  refine lv_istore (lv' := [(6, .int (0 : Int32)), (5, .int (0 : Int32)), (4, .int y_1), (0, .ref (q 999)), (1, .ref (q 199)), (2, .int a2), (3, .int a3)]) hx hb dX3_notePairs_25 hl (by decide) rfl (fun ls hl => ?_)
  obtain ⟨n, hf⟩ := hf
  exact X_LN_notePairs_27_lw C n a2 a3 y_1 (0 : Int32) (0 : Int32) u_3 _ _ _ hf hw (lv_sub hl [3, 4, 5, 6, 2, 1, 0] rfl)
end

section
variable {p : Program} {l : Launch} {e : Env} {s : State} {m : MethodId} {args : Array Value} {below : List Frame} {meth : Method} {c : Code} {dC : Nat → ClassId} {dI : Nat → Nat → Nat} {cs : Nat → ClassId} {ad : Nat → Nat} {q v : Nat → Nat} {A : Nat → Prop}
/-! X_US_unsmear -/
theorem dX9_unsmear_0 : decode cX9_unsmear 0 = .ok (.aload_n 0, 1) := by decide +kernel
theorem dX9_unsmear_1 : decode cX9_unsmear 1 = .ok (.getfield 22, 3) := by decide +kernel
theorem dX9_unsmear_4 : decode cX9_unsmear 4 = .ok (.lconst 0, 1) := by decide +kernel
theorem dX9_unsmear_5 : decode cX9_unsmear 5 = .ok (.invokestatic 41, 3) := by decide +kernel
theorem dX9_unsmear_8 : decode cX9_unsmear 8 = .ok (.iconst 0, 1) := by decide +kernel
theorem dX9_unsmear_9 : decode cX9_unsmear 9 = .ok (.istore 4, 2) := by decide +kernel
theorem dX9_unsmear_11 : decode cX9_unsmear 11 = .ok (.iload 4, 2) := by decide +kernel
theorem dX9_unsmear_13 : decode cX9_unsmear 13 = .ok (.bipush 31, 2) := by decide +kernel
theorem dX9_unsmear_15 : decode cX9_unsmear 15 = .ok (.if_icmp .ge 21, 3) := by decide +kernel
theorem dX9_unsmear_18 : decode cX9_unsmear 18 = .ok (.aload_n 0, 1) := by decide +kernel
theorem dX9_unsmear_19 : decode cX9_unsmear 19 = .ok (.getfield 22, 3) := by decide +kernel
theorem dX9_unsmear_22 : decode cX9_unsmear 22 = .ok (.sipush 465, 3) := by decide +kernel
theorem dX9_unsmear_25 : decode cX9_unsmear 25 = .ok (.iload 4, 2) := by decide +kernel
theorem dX9_unsmear_27 : decode cX9_unsmear 27 = .ok (.iadd, 1) := by decide +kernel
theorem dX9_unsmear_28 : decode cX9_unsmear 28 = .ok (.lconst 1, 1) := by decide +kernel
theorem dX9_unsmear_29 : decode cX9_unsmear 29 = .ok (.lastore, 1) := by decide +kernel
theorem dX9_unsmear_30 : decode cX9_unsmear 30 = .ok (.iinc 4 1, 3) := by decide +kernel
theorem dX9_unsmear_33 : decode cX9_unsmear 33 = .ok (.goto (-22), 3) := by decide +kernel
theorem dX9_unsmear_36 : decode cX9_unsmear 36 = .ok (.iconst 0, 1) := by decide +kernel
theorem dX9_unsmear_37 : decode cX9_unsmear 37 = .ok (.istore 4, 2) := by decide +kernel
theorem dX9_unsmear_39 : decode cX9_unsmear 39 = .ok (.iload 4, 2) := by decide +kernel
theorem dX9_unsmear_41 : decode cX9_unsmear 41 = .ok (.iload_n 2, 1) := by decide +kernel
theorem dX9_unsmear_42 : decode cX9_unsmear 42 = .ok (.if_icmp .ge 22, 3) := by decide +kernel
theorem dX9_unsmear_45 : decode cX9_unsmear 45 = .ok (.aload_n 0, 1) := by decide +kernel
theorem dX9_unsmear_46 : decode cX9_unsmear 46 = .ok (.iload 4, 2) := by decide +kernel
theorem dX9_unsmear_48 : decode cX9_unsmear 48 = .ok (.aload_n 1, 1) := by decide +kernel
theorem dX9_unsmear_49 : decode cX9_unsmear 49 = .ok (.iload 4, 2) := by decide +kernel
theorem dX9_unsmear_51 : decode cX9_unsmear 51 = .ok (.invokevirtual 47, 3) := by decide +kernel
theorem dX9_unsmear_54 : decode cX9_unsmear 54 = .ok (.iload_n 3, 1) := by decide +kernel
theorem dX9_unsmear_55 : decode cX9_unsmear 55 = .ok (.invokevirtual 53, 3) := by decide +kernel
theorem dX9_unsmear_58 : decode cX9_unsmear 58 = .ok (.iinc 4 1, 3) := by decide +kernel
theorem dX9_unsmear_61 : decode cX9_unsmear 61 = .ok (.goto (-22), 3) := by decide +kernel
theorem dX9_unsmear_64 : decode cX9_unsmear 64 = .ok (.lconst 0, 1) := by decide +kernel
theorem dX9_unsmear_65 : decode cX9_unsmear 65 = .ok (.lstore 4, 2) := by decide +kernel
theorem dX9_unsmear_67 : decode cX9_unsmear 67 = .ok (.iconst 0, 1) := by decide +kernel
theorem dX9_unsmear_68 : decode cX9_unsmear 68 = .ok (.istore 6, 2) := by decide +kernel
theorem dX9_unsmear_70 : decode cX9_unsmear 70 = .ok (.iload 6, 2) := by decide +kernel
theorem dX9_unsmear_72 : decode cX9_unsmear 72 = .ok (.bipush 31, 2) := by decide +kernel
theorem dX9_unsmear_74 : decode cX9_unsmear 74 = .ok (.if_icmp .ge 30, 3) := by decide +kernel
theorem dX9_unsmear_77 : decode cX9_unsmear 77 = .ok (.lload 4, 2) := by decide +kernel
theorem dX9_unsmear_79 : decode cX9_unsmear 79 = .ok (.aload_n 0, 1) := by decide +kernel
theorem dX9_unsmear_80 : decode cX9_unsmear 80 = .ok (.getfield 22, 3) := by decide +kernel
theorem dX9_unsmear_83 : decode cX9_unsmear 83 = .ok (.iload 6, 2) := by decide +kernel
theorem dX9_unsmear_85 : decode cX9_unsmear 85 = .ok (.bipush 31, 2) := by decide +kernel
theorem dX9_unsmear_87 : decode cX9_unsmear 87 = .ok (.imul, 1) := by decide +kernel
theorem dX9_unsmear_88 : decode cX9_unsmear 88 = .ok (.bipush 15, 2) := by decide +kernel
theorem dX9_unsmear_90 : decode cX9_unsmear 90 = .ok (.iadd, 1) := by decide +kernel
theorem dX9_unsmear_91 : decode cX9_unsmear 91 = .ok (.laload, 1) := by decide +kernel
theorem dX9_unsmear_92 : decode cX9_unsmear 92 = .ok (.ladd, 1) := by decide +kernel
theorem dX9_unsmear_93 : decode cX9_unsmear 93 = .ok (.invokestatic 57, 3) := by decide +kernel
theorem dX9_unsmear_96 : decode cX9_unsmear 96 = .ok (.lstore 4, 2) := by decide +kernel
theorem dX9_unsmear_98 : decode cX9_unsmear 98 = .ok (.iinc 6 1, 3) := by decide +kernel
theorem dX9_unsmear_101 : decode cX9_unsmear 101 = .ok (.goto (-31), 3) := by decide +kernel
theorem dX9_unsmear_104 : decode cX9_unsmear 104 = .ok (.lload 4, 2) := by decide +kernel
theorem dX9_unsmear_106 : decode cX9_unsmear 106 = .ok (.lconst 0, 1) := by decide +kernel
theorem dX9_unsmear_107 : decode cX9_unsmear 107 = .ok (.lcmp, 1) := by decide +kernel
theorem dX9_unsmear_108 : decode cX9_unsmear 108 = .ok (.ifCond .le 10, 3) := by decide +kernel
theorem dX9_unsmear_111 : decode cX9_unsmear 111 = .ok (.aload_n 0, 1) := by decide +kernel
theorem dX9_unsmear_112 : decode cX9_unsmear 112 = .ok (.aload_n 1, 1) := by decide +kernel
theorem dX9_unsmear_113 : decode cX9_unsmear 113 = .ok (.iload_n 2, 1) := by decide +kernel
theorem dX9_unsmear_114 : decode cX9_unsmear 114 = .ok (.iload_n 3, 1) := by decide +kernel
theorem dX9_unsmear_115 : decode cX9_unsmear 115 = .ok (.invokevirtual 61, 3) := by decide +kernel
theorem dX9_unsmear_118 : decode cX9_unsmear 118 = .ok (.lload 4, 2) := by decide +kernel
theorem dX9_unsmear_120 : decode cX9_unsmear 120 = .ok (.lreturn, 1) := by decide +kernel
def X_US_unsmear_118 (K : Int64 → xs_St → Prop) (x4 : Int64) (u : xs_St) : Prop :=
  K x4 u
set_option maxHeartbeats 4000000 in
set_option maxRecDepth 100000 in
theorem X_US_unsmear_118_w {K : Int64 → xs_St → Prop} (C : th_Cx p s m args meth c cX9_unsmear RX9 7 (some .long) (dC, dI) (th_ty cs) (xE ad) A) (x4 : Int64) (v : Nat → Nat) (u : xs_St) (H : Heap) (locs : List Loc) (ls : Array Slot) (hf : X_US_unsmear_118 K x4 u) (hw : th_wI (dC, dI) (wX cs ad q v v) A s.heap u H locs) (hl : lv_has ls 7 [(4, .long x4)]) : W p l e (th_rm 4 0 0) s m args below meth c H locs 0 0 (MQ below (va_Ql (fun r9 a9 => K r9 a9.2) (th_Post (dC, dI) (wXs cs ad q) A) A) args s 0 0 A) (F0 m 118 ls []) := by
  have hx := C.1
  have hb := C.2.1
  unfold X_US_unsmear_118 at hf
  refine lv_lload hx hb dX9_unsmear_118 (lv_at hl 0 rfl) ?_
  exact th_lret (K := (fun r9 a9 => K r9 a9.2)) (w := wXs cs ad q) (u := (v, u)) C hw hf dX9_unsmear_120
def X_US_unsmear_70 (K : Int64 → xs_St → Prop) (k70 : Int32 → Int32 → Int64 → Int32 → xs_St → Prop) (x2 : Int32) (x3 : Int32) (x4 : Int64) (x6 : Int32) (u : xs_St) : Prop :=
  (((31 : Int32) ≤ x6 → (((lg_cmp x4 (0 : Int64)) ≤ 0 → X_US_unsmear_118 K x4 u) ∧ (¬ (lg_cmp x4 (0 : Int64)) ≤ 0 → X_US_noteBounds x2 x3 u (fun u_1 => X_US_unsmear_118 K x4 u_1)))) ∧ (¬ (31 : Int32) ≤ x6 → (vp_in ((x6 * (31 : Int32)) + (15 : Int32)) 961 ∧ ∀ y_4 : Int64, y_4 = xl u 603 (((x6 * (31 : Int32)) + (15 : Int32))).toNatClampNeg → X_US_atMost (x4 + y_4) u (fun r_6 u_5 => ∀ x6_7 : Int32, x6_7 = x6 + (1 : Int32) → k70 x2 x3 r_6 x6_7 u_5))))
set_option maxHeartbeats 4000000 in
set_option maxRecDepth 100000 in
theorem X_US_unsmear_70_w {K : Int64 → xs_St → Prop} {k70 : Int32 → Int32 → Int64 → Int32 → xs_St → Prop} (C : th_Cx p s m args meth c cX9_unsmear RX9 7 (some .long) (dC, dI) (th_ty cs) (xE ad) A) (hk70 : ∀ (x2 : Int32) (x3 : Int32) (x4 : Int64) (x6 : Int32) (v : Nat → Nat) (u : xs_St) (H : Heap) (locs : List Loc) (ls : Array Slot), k70 x2 x3 x4 x6 u → th_wI (dC, dI) (wX cs ad q v v) A s.heap u H locs → lv_has ls 7 [(0, .ref (q 699)), (1, .ref (q 199)), (2, .int x2), (3, .int x3), (4, .long x4), (6, .int x6)] → W p l e (th_rm 4 0 0) s m args below meth c H locs 0 0 (MQ below (va_Ql (fun r9 a9 => K r9 a9.2) (th_Post (dC, dI) (wXs cs ad q) A) A) args s 0 0 A) (F0 m 70 ls [])) (x2 : Int32) (x3 : Int32) (x4 : Int64) (x6 : Int32) (v : Nat → Nat) (u : xs_St) (H : Heap) (locs : List Loc) (ls : Array Slot) (hf : X_US_unsmear_70 K k70 x2 x3 x4 x6 u) (hw : th_wI (dC, dI) (wX cs ad q v v) A s.heap u H locs) (hl : lv_has ls 7 [(0, .ref (q 699)), (1, .ref (q 199)), (2, .int x2), (3, .int x3), (4, .long x4), (6, .int x6)]) : W p l e (th_rm 4 0 0) s m args below meth c H locs 0 0 (MQ below (va_Ql (fun r9 a9 => K r9 a9.2) (th_Post (dC, dI) (wXs cs ad q) A) A) args s 0 0 A) (F0 m 70 ls []) := by
  have hx := C.1
  have hb := C.2.1
  unfold X_US_unsmear_70 at hf
  refine lv_iload hx hb dX9_unsmear_70 (lv_at hl 5 rfl) ?_
  refine lv_bipush (v := (31 : Int32)) hx hb dX9_unsmear_72 (by decide) ?_
  refine lv_icmp_ge (tgt := 104) hx hb dX9_unsmear_74 (by decide) (fun hc => ?_) (fun hc => ?_)
  · replace hf := hf.1 hc
    clear hc
    refine lv_lload hx hb dX9_unsmear_104 (lv_at hl 4 rfl) ?_
    refine lv_lconst (v := (0 : Int64)) hx hb dX9_unsmear_106 (by decide) ?_
    refine W.lcmp hx hb dX9_unsmear_107 ?_
    refine lv_if_le (tgt := 118) hx hb dX9_unsmear_108 (by decide) (fun hc => ?_) (fun hc => ?_)
    · replace hf := hf.1 hc
      clear hc
      exact X_US_unsmear_118_w C x4 v u _ _ _ hf hw (lv_sub hl [4] rfl)
    · replace hf := hf.2 hc
      clear hc
      refine lv_aload_n hx hb dX9_unsmear_111 rfl (lv_at hl 0 rfl) ?_
      refine lv_aload_n hx hb dX9_unsmear_112 rfl (lv_at hl 1 rfl) ?_
      refine lv_iload_n hx hb dX9_unsmear_113 rfl (lv_at hl 2 rfl) ?_
      refine lv_iload_n hx hb dX9_unsmear_114 rfl (lv_at hl 3 rfl) ?_
      refine th_callVv (As := [.ref (q 199), .int x2, .int x3]) (rest := []) (w := wXs cs ad q) (u := (v, u)) C lkX9_61 (X_US_noteBounds_c hf) (show th_wI (dC, dI) (wXs cs ad q) A s.heap (v, u) _ _ from hw) (xRc_US C hw) rfl rfl ⟨Nat.le_of_ble_eq_true rfl, Nat.le_of_ble_eq_true rfl⟩ hl.1 (Nat.le_of_ble_eq_true rfl) ⟨Nat.le_of_ble_eq_true rfl, Nat.le_of_ble_eq_true rfl⟩ dX9_unsmear_115 (fun a9 H locs hf hw => ?_)
      obtain ⟨v_3, u_1⟩ := a9
      have hw : th_wI (dC, dI) (wX cs ad q v_3 v_3) A s.heap u_1 _ _ := hw
      exact X_US_unsmear_118_w C x4 v_3 u_1 _ _ _ hf hw (lv_sub hl [4] rfl)
  · replace hf := hf.2 hc
    clear hc
    refine lv_lload hx hb dX9_unsmear_77 (lv_at hl 4 rfl) ?_
    refine lv_aload_n hx hb dX9_unsmear_79 rfl (lv_at hl 0 rfl) ?_
    refine xg_603 C hw (C.2.2.2.2.1 _ hwF_X9_22) dX9_unsmear_80 ?_
    refine lv_iload hx hb dX9_unsmear_83 (lv_at hl 5 rfl) ?_
    refine lv_bipush (v := (31 : Int32)) hx hb dX9_unsmear_85 (by decide) ?_
    refine lv_imul hx hb dX9_unsmear_87 ?_
    refine lv_bipush (v := (15 : Int32)) hx hb dX9_unsmear_88 (by decide) ?_
    refine lv_iadd hx hb dX9_unsmear_90 ?_
    refine yl_603 C hw hf.1 dX9_unsmear_91 (fun y_4 e9 => ?_)
    replace hf := hf.2 y_4 e9
    clear e9
    refine lv_ladd hx hb dX9_unsmear_92 ?_
    refine th_callSl (As := [.long (x4 + y_4)]) (rest := []) C lkX9_57 (X_US_atMost_c hf) hw rfl rfl ⟨Nat.le_of_ble_eq_true rfl, Nat.le_of_ble_eq_true rfl⟩ hl.1 (Nat.le_of_ble_eq_true rfl) ⟨Nat.le_of_ble_eq_true rfl, Nat.le_of_ble_eq_true rfl⟩ dX9_unsmear_93 (fun r_6 u_5 H locs hf hw => ?_)
    refine lv_lstore (lv' := [(4, .long r_6), (0, .ref (q 699)), (1, .ref (q 199)), (2, .int x2), (3, .int x3), (6, .int x6)]) hx hb dX9_unsmear_96 hl (by decide) rfl (fun ls hl => ?_)
    obtain ⟨x6_7, e9⟩ : ∃ y : Int32, y = x6 + (1 : Int32) := ⟨_, rfl⟩
    replace hf := hf x6_7 e9
    refine lv_iinc (v := x6_7) (lv' := [(6, .int x6_7), (4, .long r_6), (0, .ref (q 699)), (1, .ref (q 199)), (2, .int x2), (3, .int x3)]) hx hb dX9_unsmear_98 hl (k := 5) rfl (by rw [e9]; rfl) (by decide) rfl (fun ls hl => ?_)
    clear e9
    refine lv_goto (tgt := 70) hx hb dX9_unsmear_101 (by decide) ?_
    exact hk70 x2 x3 r_6 x6_7 v u_5 _ _ _ hf hw (lv_sub hl [2, 3, 4, 5, 1, 0] rfl)
def X_US_unsmear_70_lp (K : Int64 → xs_St → Prop) : Nat → Int32 → Int32 → Int64 → Int32 → xs_St → Prop
  | 0, _, _, _, _, _ => False
  | n + 1, x2, x3, x4, x6, u => X_US_unsmear_70 K (X_US_unsmear_70_lp K n) x2 x3 x4 x6 u
set_option maxHeartbeats 4000000 in
set_option maxRecDepth 100000 in
theorem X_US_unsmear_70_lw {K : Int64 → xs_St → Prop} (C : th_Cx p s m args meth c cX9_unsmear RX9 7 (some .long) (dC, dI) (th_ty cs) (xE ad) A) (n : Nat) : ∀ (x2 : Int32) (x3 : Int32) (x4 : Int64) (x6 : Int32) (v : Nat → Nat) (u : xs_St) (H : Heap) (locs : List Loc) (ls : Array Slot), X_US_unsmear_70_lp K n x2 x3 x4 x6 u → th_wI (dC, dI) (wX cs ad q v v) A s.heap u H locs → lv_has ls 7 [(0, .ref (q 699)), (1, .ref (q 199)), (2, .int x2), (3, .int x3), (4, .long x4), (6, .int x6)] → W p l e (th_rm 4 0 0) s m args below meth c H locs 0 0 (MQ below (va_Ql (fun r9 a9 => K r9 a9.2) (th_Post (dC, dI) (wXs cs ad q) A) A) args s 0 0 A) (F0 m 70 ls []) := by
  induction n with
  | zero => intro x2 x3 x4 x6 v u H locs ls hf; exact hf.elim
  | succ n ih =>
    intro x2 x3 x4 x6 v u H locs ls hf hw hl
    exact X_US_unsmear_70_w C ih x2 x3 x4 x6 v u H locs ls hf hw hl
def X_US_unsmear_39 (K : Int64 → xs_St → Prop) (k39 : Int32 → Int32 → Int32 → xs_St → Prop) (x2 : Int32) (x3 : Int32) (x4 : Int32) (u : xs_St) : Prop :=
  ((x2 ≤ x4 → ∃ n, X_US_unsmear_70_lp K n x2 x3 (0 : Int64) (0 : Int32) u) ∧ (¬ x2 ≤ x4 → X_TP_signedPair x4 u (fun r_2 u_1 => X_US_goPast x4 r_2 x3 u_1 (fun u_3 => ∀ x4_6 : Int32, x4_6 = x4 + (1 : Int32) → k39 x2 x3 x4_6 u_3))))
set_option maxHeartbeats 4000000 in
set_option maxRecDepth 100000 in
theorem X_US_unsmear_39_w {K : Int64 → xs_St → Prop} {k39 : Int32 → Int32 → Int32 → xs_St → Prop} (C : th_Cx p s m args meth c cX9_unsmear RX9 7 (some .long) (dC, dI) (th_ty cs) (xE ad) A) (hk39 : ∀ (x2 : Int32) (x3 : Int32) (x4 : Int32) (v : Nat → Nat) (u : xs_St) (H : Heap) (locs : List Loc) (ls : Array Slot), k39 x2 x3 x4 u → th_wI (dC, dI) (wX cs ad q v v) A s.heap u H locs → lv_has ls 7 [(0, .ref (q 699)), (1, .ref (q 199)), (2, .int x2), (3, .int x3), (4, .int x4)] → W p l e (th_rm 4 0 0) s m args below meth c H locs 0 0 (MQ below (va_Ql (fun r9 a9 => K r9 a9.2) (th_Post (dC, dI) (wXs cs ad q) A) A) args s 0 0 A) (F0 m 39 ls [])) (x2 : Int32) (x3 : Int32) (x4 : Int32) (v : Nat → Nat) (u : xs_St) (H : Heap) (locs : List Loc) (ls : Array Slot) (hf : X_US_unsmear_39 K k39 x2 x3 x4 u) (hw : th_wI (dC, dI) (wX cs ad q v v) A s.heap u H locs) (hl : lv_has ls 7 [(0, .ref (q 699)), (1, .ref (q 199)), (2, .int x2), (3, .int x3), (4, .int x4)]) : W p l e (th_rm 4 0 0) s m args below meth c H locs 0 0 (MQ below (va_Ql (fun r9 a9 => K r9 a9.2) (th_Post (dC, dI) (wXs cs ad q) A) A) args s 0 0 A) (F0 m 39 ls []) := by
  have hx := C.1
  have hb := C.2.1
  unfold X_US_unsmear_39 at hf
  refine lv_iload hx hb dX9_unsmear_39 (lv_at hl 4 rfl) ?_
  refine lv_iload_n hx hb dX9_unsmear_41 rfl (lv_at hl 2 rfl) ?_
  refine lv_icmp_ge (tgt := 64) hx hb dX9_unsmear_42 (by decide) (fun hc => ?_) (fun hc => ?_)
  · replace hf := hf.1 hc
    clear hc
    refine lv_lconst (v := (0 : Int64)) hx hb dX9_unsmear_64 (by decide) ?_
    refine lv_lstore (lv' := [(4, .long (0 : Int64)), (0, .ref (q 699)), (1, .ref (q 199)), (2, .int x2), (3, .int x3)]) hx hb dX9_unsmear_65 hl (by decide) rfl (fun ls hl => ?_)
    refine lv_iconst (v := (0 : Int32)) hx hb dX9_unsmear_67 (by decide) ?_
    refine lv_istore (lv' := [(6, .int (0 : Int32)), (4, .long (0 : Int64)), (0, .ref (q 699)), (1, .ref (q 199)), (2, .int x2), (3, .int x3)]) hx hb dX9_unsmear_68 hl (by decide) rfl (fun ls hl => ?_)
    obtain ⟨n, hf⟩ := hf
    exact X_US_unsmear_70_lw C n x2 x3 (0 : Int64) (0 : Int32) v u _ _ _ hf hw (lv_sub hl [2, 3, 4, 5, 1, 0] rfl)
  · replace hf := hf.2 hc
    clear hc
    refine lv_aload_n hx hb dX9_unsmear_45 rfl (lv_at hl 0 rfl) ?_
    refine lv_iload hx hb dX9_unsmear_46 (lv_at hl 4 rfl) ?_
    refine lv_aload_n hx hb dX9_unsmear_48 rfl (lv_at hl 1 rfl) ?_
    refine lv_iload hx hb dX9_unsmear_49 (lv_at hl 4 rfl) ?_
    refine th_callVi (As := [.int x4]) (rest := [.int x4, .ref (q 699)]) C lkX9_47 (X_TP_signedPair_c hf) hw (xRc_TP C hw) rfl rfl ⟨Nat.le_of_ble_eq_true rfl, Nat.le_of_ble_eq_true rfl⟩ hl.1 (Nat.le_of_ble_eq_true rfl) ⟨Nat.le_of_ble_eq_true rfl, Nat.le_of_ble_eq_true rfl⟩ dX9_unsmear_51 (fun r_2 u_1 H locs hf hw => ?_)
    refine lv_iload_n hx hb dX9_unsmear_54 rfl (lv_at hl 3 rfl) ?_
    refine th_callVv (As := [.int x4, .int r_2, .int x3]) (rest := []) (w := wXs cs ad q) (u := (v, u_1)) C lkX9_53 (X_US_goPast_c hf) (show th_wI (dC, dI) (wXs cs ad q) A s.heap (v, u_1) _ _ from hw) (xRc_US C hw) rfl rfl ⟨Nat.le_of_ble_eq_true rfl, Nat.le_of_ble_eq_true rfl⟩ hl.1 (Nat.le_of_ble_eq_true rfl) ⟨Nat.le_of_ble_eq_true rfl, Nat.le_of_ble_eq_true rfl⟩ dX9_unsmear_55 (fun a9 H locs hf hw => ?_)
    obtain ⟨v_5, u_3⟩ := a9
    have hw : th_wI (dC, dI) (wX cs ad q v_5 v_5) A s.heap u_3 _ _ := hw
    obtain ⟨x4_6, e9⟩ : ∃ y : Int32, y = x4 + (1 : Int32) := ⟨_, rfl⟩
    replace hf := hf x4_6 e9
    refine lv_iinc (v := x4_6) (lv' := [(4, .int x4_6), (0, .ref (q 699)), (1, .ref (q 199)), (2, .int x2), (3, .int x3)]) hx hb dX9_unsmear_58 hl (k := 4) rfl (by rw [e9]; rfl) (by decide) rfl (fun ls hl => ?_)
    clear e9
    refine lv_goto (tgt := 39) hx hb dX9_unsmear_61 (by decide) ?_
    exact hk39 x2 x3 x4_6 v_5 u_3 _ _ _ hf hw (lv_sub hl [1, 2, 3, 4, 0] rfl)
def X_US_unsmear_39_lp (K : Int64 → xs_St → Prop) : Nat → Int32 → Int32 → Int32 → xs_St → Prop
  | 0, _, _, _, _ => False
  | n + 1, x2, x3, x4, u => X_US_unsmear_39 K (X_US_unsmear_39_lp K n) x2 x3 x4 u
set_option maxHeartbeats 4000000 in
set_option maxRecDepth 100000 in
theorem X_US_unsmear_39_lw {K : Int64 → xs_St → Prop} (C : th_Cx p s m args meth c cX9_unsmear RX9 7 (some .long) (dC, dI) (th_ty cs) (xE ad) A) (n : Nat) : ∀ (x2 : Int32) (x3 : Int32) (x4 : Int32) (v : Nat → Nat) (u : xs_St) (H : Heap) (locs : List Loc) (ls : Array Slot), X_US_unsmear_39_lp K n x2 x3 x4 u → th_wI (dC, dI) (wX cs ad q v v) A s.heap u H locs → lv_has ls 7 [(0, .ref (q 699)), (1, .ref (q 199)), (2, .int x2), (3, .int x3), (4, .int x4)] → W p l e (th_rm 4 0 0) s m args below meth c H locs 0 0 (MQ below (va_Ql (fun r9 a9 => K r9 a9.2) (th_Post (dC, dI) (wXs cs ad q) A) A) args s 0 0 A) (F0 m 39 ls []) := by
  induction n with
  | zero => intro x2 x3 x4 v u H locs ls hf; exact hf.elim
  | succ n ih =>
    intro x2 x3 x4 v u H locs ls hf hw hl
    exact X_US_unsmear_39_w C ih x2 x3 x4 v u H locs ls hf hw hl
def X_US_unsmear_11 (K : Int64 → xs_St → Prop) (k11 : Int32 → Int32 → Int32 → xs_St → Prop) (x2 : Int32) (x3 : Int32) (x4 : Int32) (u : xs_St) : Prop :=
  (((31 : Int32) ≤ x4 → ∃ n, X_US_unsmear_39_lp K n x2 x3 (0 : Int32) u) ∧ (¬ (31 : Int32) ≤ x4 → (vp_in ((465 : Int32) + x4) 961 ∧ ∀ u_1 : xs_St, u_1 = xs_sl u 603 (vp_updL (xl u 603) (((465 : Int32) + x4)).toNatClampNeg (1 : Int64)) → ∀ x4_2 : Int32, x4_2 = x4 + (1 : Int32) → k11 x2 x3 x4_2 u_1)))
set_option maxHeartbeats 4000000 in
set_option maxRecDepth 100000 in
theorem X_US_unsmear_11_w {K : Int64 → xs_St → Prop} {k11 : Int32 → Int32 → Int32 → xs_St → Prop} (C : th_Cx p s m args meth c cX9_unsmear RX9 7 (some .long) (dC, dI) (th_ty cs) (xE ad) A) (hk11 : ∀ (x2 : Int32) (x3 : Int32) (x4 : Int32) (v : Nat → Nat) (u : xs_St) (H : Heap) (locs : List Loc) (ls : Array Slot), k11 x2 x3 x4 u → th_wI (dC, dI) (wX cs ad q v v) A s.heap u H locs → lv_has ls 7 [(0, .ref (q 699)), (1, .ref (q 199)), (2, .int x2), (3, .int x3), (4, .int x4)] → W p l e (th_rm 4 0 0) s m args below meth c H locs 0 0 (MQ below (va_Ql (fun r9 a9 => K r9 a9.2) (th_Post (dC, dI) (wXs cs ad q) A) A) args s 0 0 A) (F0 m 11 ls [])) (x2 : Int32) (x3 : Int32) (x4 : Int32) (v : Nat → Nat) (u : xs_St) (H : Heap) (locs : List Loc) (ls : Array Slot) (hf : X_US_unsmear_11 K k11 x2 x3 x4 u) (hw : th_wI (dC, dI) (wX cs ad q v v) A s.heap u H locs) (hl : lv_has ls 7 [(0, .ref (q 699)), (1, .ref (q 199)), (2, .int x2), (3, .int x3), (4, .int x4)]) : W p l e (th_rm 4 0 0) s m args below meth c H locs 0 0 (MQ below (va_Ql (fun r9 a9 => K r9 a9.2) (th_Post (dC, dI) (wXs cs ad q) A) A) args s 0 0 A) (F0 m 11 ls []) := by
  have hx := C.1
  have hb := C.2.1
  unfold X_US_unsmear_11 at hf
  refine lv_iload hx hb dX9_unsmear_11 (lv_at hl 4 rfl) ?_
  refine lv_bipush (v := (31 : Int32)) hx hb dX9_unsmear_13 (by decide) ?_
  refine lv_icmp_ge (tgt := 36) hx hb dX9_unsmear_15 (by decide) (fun hc => ?_) (fun hc => ?_)
  · replace hf := hf.1 hc
    clear hc
    refine lv_iconst (v := (0 : Int32)) hx hb dX9_unsmear_36 (by decide) ?_
    refine lv_istore (lv' := [(4, .int (0 : Int32)), (0, .ref (q 699)), (1, .ref (q 199)), (2, .int x2), (3, .int x3)]) hx hb dX9_unsmear_37 hl (by decide) rfl (fun ls hl => ?_)
    obtain ⟨n, hf⟩ := hf
    exact X_US_unsmear_39_lw C n x2 x3 (0 : Int32) v u _ _ _ hf hw (lv_sub hl [1, 2, 3, 4, 0] rfl)
  · replace hf := hf.2 hc
    clear hc
    refine lv_aload_n hx hb dX9_unsmear_18 rfl (lv_at hl 0 rfl) ?_
    refine xg_603 C hw (C.2.2.2.2.1 _ hwF_X9_22) dX9_unsmear_19 ?_
    refine lv_sipush (v := (465 : Int32)) hx hb dX9_unsmear_22 (by decide) ?_
    refine lv_iload hx hb dX9_unsmear_25 (lv_at hl 4 rfl) ?_
    refine lv_iadd hx hb dX9_unsmear_27 ?_
    refine lv_lconst (v := (1 : Int64)) hx hb dX9_unsmear_28 (by decide) ?_
    refine ys_603 C hw hf.1 dX9_unsmear_29 (fun u_1 e9 H locs hw => ?_)
    replace hf := hf.2 u_1 e9
    clear e9
    obtain ⟨x4_2, e9⟩ : ∃ y : Int32, y = x4 + (1 : Int32) := ⟨_, rfl⟩
    replace hf := hf x4_2 e9
    refine lv_iinc (v := x4_2) (lv' := [(4, .int x4_2), (0, .ref (q 699)), (1, .ref (q 199)), (2, .int x2), (3, .int x3)]) hx hb dX9_unsmear_30 hl (k := 4) rfl (by rw [e9]; rfl) (by decide) rfl (fun ls hl => ?_)
    clear e9
    refine lv_goto (tgt := 11) hx hb dX9_unsmear_33 (by decide) ?_
    exact hk11 x2 x3 x4_2 v u_1 _ _ _ hf hw (lv_sub hl [1, 2, 3, 4, 0] rfl)
def X_US_unsmear_11_lp (K : Int64 → xs_St → Prop) : Nat → Int32 → Int32 → Int32 → xs_St → Prop
  | 0, _, _, _, _ => False
  | n + 1, x2, x3, x4, u => X_US_unsmear_11 K (X_US_unsmear_11_lp K n) x2 x3 x4 u
set_option maxHeartbeats 4000000 in
set_option maxRecDepth 100000 in
theorem X_US_unsmear_11_lw {K : Int64 → xs_St → Prop} (C : th_Cx p s m args meth c cX9_unsmear RX9 7 (some .long) (dC, dI) (th_ty cs) (xE ad) A) (n : Nat) : ∀ (x2 : Int32) (x3 : Int32) (x4 : Int32) (v : Nat → Nat) (u : xs_St) (H : Heap) (locs : List Loc) (ls : Array Slot), X_US_unsmear_11_lp K n x2 x3 x4 u → th_wI (dC, dI) (wX cs ad q v v) A s.heap u H locs → lv_has ls 7 [(0, .ref (q 699)), (1, .ref (q 199)), (2, .int x2), (3, .int x3), (4, .int x4)] → W p l e (th_rm 4 0 0) s m args below meth c H locs 0 0 (MQ below (va_Ql (fun r9 a9 => K r9 a9.2) (th_Post (dC, dI) (wXs cs ad q) A) A) args s 0 0 A) (F0 m 11 ls []) := by
  induction n with
  | zero => intro x2 x3 x4 v u H locs ls hf; exact hf.elim
  | succ n ih =>
    intro x2 x3 x4 v u H locs ls hf hw hl
    exact X_US_unsmear_11_w C ih x2 x3 x4 v u H locs ls hf hw hl
def X_US_unsmear (a2 : Int32) (a3 : Int32) (u : xs_St) (K : Int64 → xs_St → Prop) : Prop :=
  X_J_fill_d0a16_603 (0 : Int64) u (fun u_1 => ∃ n, X_US_unsmear_11_lp K n a2 a3 (0 : Int32) u_1)
set_option maxHeartbeats 4000000 in
set_option maxRecDepth 100000 in
theorem X_US_unsmear_c {l : Launch} {dC : Nat → ClassId} {dI : Nat → Nat → Nat} {cs : Nat → ClassId} {ad : Nat → Nat} {q v : Nat → Nat} {a2 : Int32} {a3 : Int32} {u : xs_St} {K : Int64 → xs_St → Prop} (hf : X_US_unsmear a2 a3 u K) : th_Cl l yX9_unsmear cX9_unsmear 7 (some .long) 4 0 0 (dC, dI) (th_ty cs) (xE ad) (wXs cs ad q) [.ref (q 699), .ref (q 199), .int a2, .int a3] (v, u) (fun r9 a9 => K r9 a9.2) := by
  refine th_ofl (by decide) (Nat.le_of_ble_eq_true rfl) (xE_ok ad) ?_
  intro p e s m below meth c A ls C hw hl
  have C : th_Cx p s m _ meth c cX9_unsmear RX9 7 (some .long) (dC, dI) (th_ty cs) (xE ad) A := C
  have hl : lv_has ls 7 [(0, .ref (q 699)), (1, .ref (q 199)), (2, .int a2), (3, .int a3)] := hl
  generalize (List.toArray _ : Array Value) = args at C ⊢
  have hx := C.1
  have hb := C.2.1
  unfold X_US_unsmear at hf
  refine lv_aload_n hx hb dX9_unsmear_0 rfl (lv_at hl 0 rfl) ?_
  refine xg_603 C hw (C.2.2.2.2.1 _ hwF_X9_22) dX9_unsmear_1 ?_
  refine lv_lconst (v := (0 : Int64)) hx hb dX9_unsmear_4 (by decide) ?_
  refine th_callSv (As := [.ref (v 603), .long (0 : Int64)]) (rest := []) C lkJX9_41 (X_J_fill_d0a16_603_c hf) hw rfl rfl ⟨Nat.le_of_ble_eq_true rfl, Nat.le_of_ble_eq_true rfl⟩ hl.1 (Nat.le_of_ble_eq_true rfl) ⟨Nat.le_of_ble_eq_true rfl, Nat.le_of_ble_eq_true rfl⟩ dX9_unsmear_5 (fun u_1 H locs hf hw => ?_)
  refine lv_iconst (v := (0 : Int32)) hx hb dX9_unsmear_8 (by decide) ?_
  refine lv_istore (lv' := [(4, .int (0 : Int32)), (0, .ref (q 699)), (1, .ref (q 199)), (2, .int a2), (3, .int a3)]) hx hb dX9_unsmear_9 hl (by decide) rfl (fun ls hl => ?_)
  obtain ⟨n, hf⟩ := hf
  exact X_US_unsmear_11_lw C n a2 a3 (0 : Int32) v u_1 _ _ _ hf hw (lv_sub hl [1, 2, 3, 4, 0] rfl)
/-! X_TH_explain -/
theorem dX11_explain_0 : decode cX11_explain 0 = .ok (.iconst (-1), 1) := by decide +kernel
theorem dX11_explain_1 : decode cX11_explain 1 = .ok (.istore_n 1, 1) := by decide +kernel
theorem dX11_explain_2 : decode cX11_explain 2 = .ok (.aload_n 0, 1) := by decide +kernel
theorem dX11_explain_3 : decode cX11_explain 3 = .ok (.getfield 10, 3) := by decide +kernel
theorem dX11_explain_6 : decode cX11_explain 6 = .ok (.getfield 91, 3) := by decide +kernel
theorem dX11_explain_9 : decode cX11_explain 9 = .ok (.aload_n 0, 1) := by decide +kernel
theorem dX11_explain_10 : decode cX11_explain 10 = .ok (.getfield 69, 3) := by decide +kernel
theorem dX11_explain_13 : decode cX11_explain 13 = .ok (.getfield 126, 3) := by decide +kernel
theorem dX11_explain_16 : decode cX11_explain 16 = .ok (.if_icmp .ne 29, 3) := by decide +kernel
theorem dX11_explain_19 : decode cX11_explain 19 = .ok (.aload_n 0, 1) := by decide +kernel
theorem dX11_explain_20 : decode cX11_explain 20 = .ok (.getfield 40, 3) := by decide +kernel
theorem dX11_explain_23 : decode cX11_explain 23 = .ok (.aload_n 0, 1) := by decide +kernel
theorem dX11_explain_24 : decode cX11_explain 24 = .ok (.getfield 10, 3) := by decide +kernel
theorem dX11_explain_27 : decode cX11_explain 27 = .ok (.aload_n 0, 1) := by decide +kernel
theorem dX11_explain_28 : decode cX11_explain 28 = .ok (.getfield 69, 3) := by decide +kernel
theorem dX11_explain_31 : decode cX11_explain 31 = .ok (.getfield 126, 3) := by decide +kernel
theorem dX11_explain_34 : decode cX11_explain 34 = .ok (.aload_n 0, 1) := by decide +kernel
theorem dX11_explain_35 : decode cX11_explain 35 = .ok (.getfield 69, 3) := by decide +kernel
theorem dX11_explain_38 : decode cX11_explain 38 = .ok (.getfield 189, 3) := by decide +kernel
theorem dX11_explain_41 : decode cX11_explain 41 = .ok (.invokevirtual 209, 3) := by decide +kernel
theorem dX11_explain_44 : decode cX11_explain 44 = .ok (.istore_n 1, 1) := by decide +kernel
theorem dX11_explain_45 : decode cX11_explain 45 = .ok (.aload_n 0, 1) := by decide +kernel
theorem dX11_explain_46 : decode cX11_explain 46 = .ok (.getfield 10, 3) := by decide +kernel
theorem dX11_explain_49 : decode cX11_explain 49 = .ok (.invokevirtual 110, 3) := by decide +kernel
theorem dX11_explain_52 : decode cX11_explain 52 = .ok (.iload_n 1, 1) := by decide +kernel
theorem dX11_explain_53 : decode cX11_explain 53 = .ok (.ireturn, 1) := by decide +kernel
def X_TH_explain_45 (K : Int32 → xs_St → Prop) (x1 : Int32) (u : xs_St) : Prop :=
  X_TP_clear u (fun u_1 => K x1 u_1)
set_option maxHeartbeats 4000000 in
set_option maxRecDepth 100000 in
theorem X_TH_explain_45_w {K : Int32 → xs_St → Prop} (C : th_Cx p s m args meth c cX11_explain RX11 2 (some .int) (dC, dI) (th_ty cs) (xE ad) A) (x1 : Int32) (u : xs_St) (H : Heap) (locs : List Loc) (ls : Array Slot) (hf : X_TH_explain_45 K x1 u) (hw : th_wI (dC, dI) (wX cs ad q v v) A s.heap u H locs) (hl : lv_has ls 2 [(0, .ref (q 99)), (1, .int x1)]) : W p l e (th_rm 5 0 0) s m args below meth c H locs 0 0 (MQ below (va_Qi K (th_Post (dC, dI) (wX cs ad q v v) A) A) args s 0 0 A) (F0 m 45 ls []) := by
  have hx := C.1
  have hb := C.2.1
  unfold X_TH_explain_45 at hf
  refine lv_aload_n hx hb dX11_explain_45 rfl (lv_at hl 0 rfl) ?_
  refine xg_0 C hw (C.2.2.2.2.1 _ hwF_X11_10) dX11_explain_46 ?_
  refine th_callVv (As := []) (rest := []) C lkX11_110 (X_TP_clear_c hf) hw (xRc_TP C hw) rfl rfl ⟨Nat.le_of_ble_eq_true rfl, Nat.le_of_ble_eq_true rfl⟩ hl.1 (Nat.le_of_ble_eq_true rfl) ⟨Nat.le_of_ble_eq_true rfl, Nat.le_of_ble_eq_true rfl⟩ dX11_explain_49 (fun u_1 H locs hf hw => ?_)
  refine lv_iload_n hx hb dX11_explain_52 rfl (lv_at hl 1 rfl) ?_
  exact th_iret C hw hf dX11_explain_53
def X_TH_explain (u : xs_St) (K : Int32 → xs_St → Prop) : Prop :=
  ((¬ (xi u 101) = (xi u 300) → X_TH_explain_45 K (-1 : Int32) u) ∧ ((xi u 101) = (xi u 300) → X_EX_fewestEvents (xi u 300) (xi u 303) u (fun r_2 u_1 => X_TH_explain_45 K r_2 u_1)))
set_option maxHeartbeats 4000000 in
set_option maxRecDepth 100000 in
theorem X_TH_explain_c {l : Launch} {dC : Nat → ClassId} {dI : Nat → Nat → Nat} {cs : Nat → ClassId} {ad : Nat → Nat} {q v : Nat → Nat} {u : xs_St} {K : Int32 → xs_St → Prop} (hf : X_TH_explain u K) : th_Ci l yX11_explain cX11_explain 2 (some .int) 5 0 0 (dC, dI) (th_ty cs) (xE ad) (wX cs ad q v v) [.ref (q 99)] u K := by
  refine th_ofi (by decide) (Nat.le_of_ble_eq_true rfl) (xE_ok ad) ?_
  intro p e s m below meth c A ls C hw hl
  have C : th_Cx p s m _ meth c cX11_explain RX11 2 (some .int) (dC, dI) (th_ty cs) (xE ad) A := C
  have hl : lv_has ls 2 [(0, .ref (q 99))] := hl
  generalize (List.toArray _ : Array Value) = args at C ⊢
  have hx := C.1
  have hb := C.2.1
  unfold X_TH_explain at hf
  refine lv_iconst (v := (-1 : Int32)) hx hb dX11_explain_0 (by decide) ?_
  refine lv_istore_n (lv' := [(1, .int (-1 : Int32)), (0, .ref (q 99))]) hx hb dX11_explain_1 rfl hl (by decide) rfl (fun ls hl => ?_)
  refine lv_aload_n hx hb dX11_explain_2 rfl (lv_at hl 1 rfl) ?_
  refine xg_0 C hw (C.2.2.2.2.1 _ hwF_X11_10) dX11_explain_3 ?_
  refine xgn_101 C hw (va_Nw.use rfl (xN C hwG_X11_91)) dX11_explain_6 ?_
  refine lv_aload_n hx hb dX11_explain_9 rfl (lv_at hl 1 rfl) ?_
  refine xg_9 C hw (C.2.2.2.2.1 _ hwF_X11_69) dX11_explain_10 ?_
  refine xgn_300 C hw (va_Nw.use rfl (xN C hwG_X11_126)) dX11_explain_13 ?_
  refine lv_icmp_ne (tgt := 45) hx hb dX11_explain_16 (by decide) (fun hc => ?_) (fun hc => ?_)
  · replace hf := hf.1 hc
    clear hc
    exact X_TH_explain_45_w C (-1 : Int32) u _ _ _ hf hw (lv_sub hl [1, 0] rfl)
  · replace hf := hf.2 hc
    clear hc
    refine lv_aload_n hx hb dX11_explain_19 rfl (lv_at hl 1 rfl) ?_
    refine xg_4 C hw (C.2.2.2.2.1 _ hwF_X11_40) dX11_explain_20 ?_
    refine lv_aload_n hx hb dX11_explain_23 rfl (lv_at hl 1 rfl) ?_
    refine xg_0 C hw (C.2.2.2.2.1 _ hwF_X11_10) dX11_explain_24 ?_
    refine lv_aload_n hx hb dX11_explain_27 rfl (lv_at hl 1 rfl) ?_
    refine xg_9 C hw (C.2.2.2.2.1 _ hwF_X11_69) dX11_explain_28 ?_
    refine xgn_300 C hw (va_Nw.use rfl (xN C hwG_X11_126)) dX11_explain_31 ?_
    refine lv_aload_n hx hb dX11_explain_34 rfl (lv_at hl 1 rfl) ?_
    refine xg_9 C hw (C.2.2.2.2.1 _ hwF_X11_69) dX11_explain_35 ?_
    refine xgn_303 C hw (va_Nw.use rfl (xN C hwG_X11_189)) dX11_explain_38 ?_
    refine th_callVi (As := [.ref (q 199), .int (xi u 300), .int (xi u 303)]) (rest := []) C lkX11_209 (X_EX_fewestEvents_c hf) hw (xRc_EX C hw) rfl rfl ⟨Nat.le_of_ble_eq_true rfl, Nat.le_of_ble_eq_true rfl⟩ hl.1 (Nat.le_of_ble_eq_true rfl) ⟨Nat.le_of_ble_eq_true rfl, Nat.le_of_ble_eq_true rfl⟩ dX11_explain_41 (fun r_2 u_1 H locs hf hw => ?_)
    refine lv_istore_n (lv' := [(1, .int r_2), (0, .ref (q 99))]) hx hb dX11_explain_44 rfl hl (by decide) rfl (fun ls hl => ?_)
    exact X_TH_explain_45_w C r_2 u_1 _ _ _ hf hw (lv_sub hl [1, 0] rfl)
/-! X_TH_lined -/
theorem dX11_lined_0 : decode cX11_lined 0 = .ok (.iconst (-1), 1) := by decide +kernel
theorem dX11_lined_1 : decode cX11_lined 1 = .ok (.istore_n 3, 1) := by decide +kernel
theorem dX11_lined_2 : decode cX11_lined 2 = .ok (.aload_n 0, 1) := by decide +kernel
theorem dX11_lined_3 : decode cX11_lined 3 = .ok (.getfield 54, 3) := by decide +kernel
theorem dX11_lined_6 : decode cX11_lined 6 = .ok (.aload_n 0, 1) := by decide +kernel
theorem dX11_lined_7 : decode cX11_lined 7 = .ok (.getfield 10, 3) := by decide +kernel
theorem dX11_lined_10 : decode cX11_lined 10 = .ok (.getfield 91, 3) := by decide +kernel
theorem dX11_lined_13 : decode cX11_lined 13 = .ok (.iload_n 1, 1) := by decide +kernel
theorem dX11_lined_14 : decode cX11_lined 14 = .ok (.invokevirtual 233, 3) := by decide +kernel
theorem dX11_lined_17 : decode cX11_lined 17 = .ok (.ifCond .eq 28, 3) := by decide +kernel
theorem dX11_lined_20 : decode cX11_lined 20 = .ok (.iload_n 2, 1) := by decide +kernel
theorem dX11_lined_21 : decode cX11_lined 21 = .ok (.ifCond .lt 24, 3) := by decide +kernel
theorem dX11_lined_24 : decode cX11_lined 24 = .ok (.iload_n 2, 1) := by decide +kernel
theorem dX11_lined_25 : decode cX11_lined 25 = .ok (.sipush 255, 3) := by decide +kernel
theorem dX11_lined_28 : decode cX11_lined 28 = .ok (.if_icmp .gt 17, 3) := by decide +kernel
theorem dX11_lined_31 : decode cX11_lined 31 = .ok (.aload_n 0, 1) := by decide +kernel
theorem dX11_lined_32 : decode cX11_lined 32 = .ok (.getfield 54, 3) := by decide +kernel
theorem dX11_lined_35 : decode cX11_lined 35 = .ok (.aload_n 0, 1) := by decide +kernel
theorem dX11_lined_36 : decode cX11_lined 36 = .ok (.getfield 10, 3) := by decide +kernel
theorem dX11_lined_39 : decode cX11_lined 39 = .ok (.iload_n 1, 1) := by decide +kernel
theorem dX11_lined_40 : decode cX11_lined 40 = .ok (.iload_n 2, 1) := by decide +kernel
theorem dX11_lined_41 : decode cX11_lined 41 = .ok (.invokevirtual 237, 3) := by decide +kernel
theorem dX11_lined_44 : decode cX11_lined 44 = .ok (.istore_n 3, 1) := by decide +kernel
theorem dX11_lined_45 : decode cX11_lined 45 = .ok (.aload_n 0, 1) := by decide +kernel
theorem dX11_lined_46 : decode cX11_lined 46 = .ok (.getfield 10, 3) := by decide +kernel
theorem dX11_lined_49 : decode cX11_lined 49 = .ok (.invokevirtual 110, 3) := by decide +kernel
theorem dX11_lined_52 : decode cX11_lined 52 = .ok (.iload_n 3, 1) := by decide +kernel
theorem dX11_lined_53 : decode cX11_lined 53 = .ok (.ireturn, 1) := by decide +kernel
def X_TH_lined_45 (K : Int32 → xs_St → Prop) (x3 : Int32) (u : xs_St) : Prop :=
  X_TP_clear u (fun u_1 => K x3 u_1)
set_option maxHeartbeats 4000000 in
set_option maxRecDepth 100000 in
theorem X_TH_lined_45_w {K : Int32 → xs_St → Prop} (C : th_Cx p s m args meth c cX11_lined RX11 4 (some .int) (dC, dI) (th_ty cs) (xE ad) A) (x3 : Int32) (u : xs_St) (H : Heap) (locs : List Loc) (ls : Array Slot) (hf : X_TH_lined_45 K x3 u) (hw : th_wI (dC, dI) (wX cs ad q v v) A s.heap u H locs) (hl : lv_has ls 4 [(0, .ref (q 99)), (3, .int x3)]) : W p l e (th_rm 5 0 0) s m args below meth c H locs 0 0 (MQ below (va_Qi K (th_Post (dC, dI) (wX cs ad q v v) A) A) args s 0 0 A) (F0 m 45 ls []) := by
  have hx := C.1
  have hb := C.2.1
  unfold X_TH_lined_45 at hf
  refine lv_aload_n hx hb dX11_lined_45 rfl (lv_at hl 0 rfl) ?_
  refine xg_0 C hw (C.2.2.2.2.1 _ hwF_X11_10) dX11_lined_46 ?_
  refine th_callVv (As := []) (rest := []) C lkX11_110 (X_TP_clear_c hf) hw (xRc_TP C hw) rfl rfl ⟨Nat.le_of_ble_eq_true rfl, Nat.le_of_ble_eq_true rfl⟩ hl.1 (Nat.le_of_ble_eq_true rfl) ⟨Nat.le_of_ble_eq_true rfl, Nat.le_of_ble_eq_true rfl⟩ dX11_lined_49 (fun u_1 H locs hf hw => ?_)
  refine lv_iload_n hx hb dX11_lined_52 rfl (lv_at hl 1 rfl) ?_
  exact th_iret C hw hf dX11_lined_53
def X_TH_lined (a1 : Int32) (a2 : Int32) (u : xs_St) (K : Int32 → xs_St → Prop) : Prop :=
  X_LN_areRows (xi u 101) a1 u (fun r_2 u_1 => ((r_2 = 0 → X_TH_lined_45 K (-1 : Int32) u_1) ∧ (¬ r_2 = 0 → ((a2 < 0 → X_TH_lined_45 K (-1 : Int32) u_1) ∧ (¬ a2 < 0 → (((255 : Int32) < a2 → X_TH_lined_45 K (-1 : Int32) u_1) ∧ (¬ (255 : Int32) < a2 → X_LN_leastCost a1 a2 u_1 (fun r_4 u_3 => X_TH_lined_45 K r_4 u_3))))))))
set_option maxHeartbeats 4000000 in
set_option maxRecDepth 100000 in
theorem X_TH_lined_c {l : Launch} {dC : Nat → ClassId} {dI : Nat → Nat → Nat} {cs : Nat → ClassId} {ad : Nat → Nat} {q v : Nat → Nat} {a1 : Int32} {a2 : Int32} {u : xs_St} {K : Int32 → xs_St → Prop} (hf : X_TH_lined a1 a2 u K) : th_Ci l yX11_lined cX11_lined 4 (some .int) 5 0 0 (dC, dI) (th_ty cs) (xE ad) (wX cs ad q v v) [.ref (q 99), .int a1, .int a2] u K := by
  refine th_ofi (by decide) (Nat.le_of_ble_eq_true rfl) (xE_ok ad) ?_
  intro p e s m below meth c A ls C hw hl
  have C : th_Cx p s m _ meth c cX11_lined RX11 4 (some .int) (dC, dI) (th_ty cs) (xE ad) A := C
  have hl : lv_has ls 4 [(0, .ref (q 99)), (1, .int a1), (2, .int a2)] := hl
  generalize (List.toArray _ : Array Value) = args at C ⊢
  have hx := C.1
  have hb := C.2.1
  unfold X_TH_lined at hf
  refine lv_iconst (v := (-1 : Int32)) hx hb dX11_lined_0 (by decide) ?_
  refine lv_istore_n (lv' := [(3, .int (-1 : Int32)), (0, .ref (q 99)), (1, .int a1), (2, .int a2)]) hx hb dX11_lined_1 rfl hl (by decide) rfl (fun ls hl => ?_)
  refine lv_aload_n hx hb dX11_lined_2 rfl (lv_at hl 1 rfl) ?_
  refine xg_6 C hw (C.2.2.2.2.1 _ hwF_X11_54) dX11_lined_3 ?_
  refine lv_aload_n hx hb dX11_lined_6 rfl (lv_at hl 1 rfl) ?_
  refine xg_0 C hw (C.2.2.2.2.1 _ hwF_X11_10) dX11_lined_7 ?_
  refine xgn_101 C hw (va_Nw.use rfl (xN C hwG_X11_91)) dX11_lined_10 ?_
  refine lv_iload_n hx hb dX11_lined_13 rfl (lv_at hl 2 rfl) ?_
  refine th_callVi (As := [.int (xi u 101), .int a1]) (rest := []) C lkX11_233 (X_LN_areRows_c hf) hw (xRc_LN C hw) rfl rfl ⟨Nat.le_of_ble_eq_true rfl, Nat.le_of_ble_eq_true rfl⟩ hl.1 (Nat.le_of_ble_eq_true rfl) ⟨Nat.le_of_ble_eq_true rfl, Nat.le_of_ble_eq_true rfl⟩ dX11_lined_14 (fun r_2 u_1 H locs hf hw => ?_)
  refine lv_if_eq (tgt := 45) hx hb dX11_lined_17 (by decide) (fun hc => ?_) (fun hc => ?_)
  · replace hf := hf.1 hc
    clear hc
    exact X_TH_lined_45_w C (-1 : Int32) u_1 _ _ _ hf hw (lv_sub hl [1, 0] rfl)
  · replace hf := hf.2 hc
    clear hc
    refine lv_iload_n hx hb dX11_lined_20 rfl (lv_at hl 3 rfl) ?_
    refine lv_if_lt (tgt := 45) hx hb dX11_lined_21 (by decide) (fun hc => ?_) (fun hc => ?_)
    · replace hf := hf.1 hc
      clear hc
      exact X_TH_lined_45_w C (-1 : Int32) u_1 _ _ _ hf hw (lv_sub hl [1, 0] rfl)
    · replace hf := hf.2 hc
      clear hc
      refine lv_iload_n hx hb dX11_lined_24 rfl (lv_at hl 3 rfl) ?_
      refine lv_sipush (v := (255 : Int32)) hx hb dX11_lined_25 (by decide) ?_
      refine lv_icmp_gt (tgt := 45) hx hb dX11_lined_28 (by decide) (fun hc => ?_) (fun hc => ?_)
      · replace hf := hf.1 hc
        clear hc
        exact X_TH_lined_45_w C (-1 : Int32) u_1 _ _ _ hf hw (lv_sub hl [1, 0] rfl)
      · replace hf := hf.2 hc
        clear hc
        refine lv_aload_n hx hb dX11_lined_31 rfl (lv_at hl 1 rfl) ?_
        refine xg_6 C hw (C.2.2.2.2.1 _ hwF_X11_54) dX11_lined_32 ?_
        refine lv_aload_n hx hb dX11_lined_35 rfl (lv_at hl 1 rfl) ?_
        refine xg_0 C hw (C.2.2.2.2.1 _ hwF_X11_10) dX11_lined_36 ?_
        refine lv_iload_n hx hb dX11_lined_39 rfl (lv_at hl 2 rfl) ?_
        refine lv_iload_n hx hb dX11_lined_40 rfl (lv_at hl 3 rfl) ?_
        refine th_callVi (As := [.ref (q 199), .int a1, .int a2]) (rest := []) C lkX11_237 (X_LN_leastCost_c hf) hw (xRc_LN C hw) rfl rfl ⟨Nat.le_of_ble_eq_true rfl, Nat.le_of_ble_eq_true rfl⟩ hl.1 (Nat.le_of_ble_eq_true rfl) ⟨Nat.le_of_ble_eq_true rfl, Nat.le_of_ble_eq_true rfl⟩ dX11_lined_41 (fun r_4 u_3 H locs hf hw => ?_)
        refine lv_istore_n (lv' := [(3, .int r_4), (0, .ref (q 99)), (1, .int a1), (2, .int a2)]) hx hb dX11_lined_44 rfl hl (by decide) rfl (fun ls hl => ?_)
        exact X_TH_lined_45_w C r_4 u_3 _ _ _ hf hw (lv_sub hl [1, 0] rfl)
/-! X_TH_tellings -/
theorem dX11_tellings_0 : decode cX11_tellings 0 = .ok (.ldc2_w 187, 3) := by decide +kernel
theorem dX11_tellings_3 : decode cX11_tellings 3 = .ok (.lstore_n 1, 1) := by decide +kernel
theorem dX11_tellings_4 : decode cX11_tellings 4 = .ok (.aload_n 0, 1) := by decide +kernel
theorem dX11_tellings_5 : decode cX11_tellings 5 = .ok (.getfield 10, 3) := by decide +kernel
theorem dX11_tellings_8 : decode cX11_tellings 8 = .ok (.getfield 91, 3) := by decide +kernel
theorem dX11_tellings_11 : decode cX11_tellings 11 = .ok (.iconst 2, 1) := by decide +kernel
theorem dX11_tellings_12 : decode cX11_tellings 12 = .ok (.aload_n 0, 1) := by decide +kernel
theorem dX11_tellings_13 : decode cX11_tellings 13 = .ok (.getfield 69, 3) := by decide +kernel
theorem dX11_tellings_16 : decode cX11_tellings 16 = .ok (.getfield 126, 3) := by decide +kernel
theorem dX11_tellings_19 : decode cX11_tellings 19 = .ok (.imul, 1) := by decide +kernel
theorem dX11_tellings_20 : decode cX11_tellings 20 = .ok (.if_icmp .ne 29, 3) := by decide +kernel
theorem dX11_tellings_23 : decode cX11_tellings 23 = .ok (.aload_n 0, 1) := by decide +kernel
theorem dX11_tellings_24 : decode cX11_tellings 24 = .ok (.getfield 33, 3) := by decide +kernel
theorem dX11_tellings_27 : decode cX11_tellings 27 = .ok (.aload_n 0, 1) := by decide +kernel
theorem dX11_tellings_28 : decode cX11_tellings 28 = .ok (.getfield 10, 3) := by decide +kernel
theorem dX11_tellings_31 : decode cX11_tellings 31 = .ok (.aload_n 0, 1) := by decide +kernel
theorem dX11_tellings_32 : decode cX11_tellings 32 = .ok (.getfield 69, 3) := by decide +kernel
theorem dX11_tellings_35 : decode cX11_tellings 35 = .ok (.getfield 126, 3) := by decide +kernel
theorem dX11_tellings_38 : decode cX11_tellings 38 = .ok (.aload_n 0, 1) := by decide +kernel
theorem dX11_tellings_39 : decode cX11_tellings 39 = .ok (.getfield 69, 3) := by decide +kernel
theorem dX11_tellings_42 : decode cX11_tellings 42 = .ok (.getfield 189, 3) := by decide +kernel
theorem dX11_tellings_45 : decode cX11_tellings 45 = .ok (.invokevirtual 192, 3) := by decide +kernel
theorem dX11_tellings_48 : decode cX11_tellings 48 = .ok (.lstore_n 1, 1) := by decide +kernel
theorem dX11_tellings_49 : decode cX11_tellings 49 = .ok (.aload_n 0, 1) := by decide +kernel
theorem dX11_tellings_50 : decode cX11_tellings 50 = .ok (.getfield 10, 3) := by decide +kernel
theorem dX11_tellings_53 : decode cX11_tellings 53 = .ok (.invokevirtual 110, 3) := by decide +kernel
theorem dX11_tellings_56 : decode cX11_tellings 56 = .ok (.lload_n 1, 1) := by decide +kernel
theorem dX11_tellings_57 : decode cX11_tellings 57 = .ok (.lreturn, 1) := by decide +kernel
def X_TH_tellings_49 (K : Int64 → xs_St → Prop) (x1 : Int64) (u : xs_St) : Prop :=
  X_TP_clear u (fun u_1 => K x1 u_1)
set_option maxHeartbeats 4000000 in
set_option maxRecDepth 100000 in
theorem X_TH_tellings_49_w {K : Int64 → xs_St → Prop} (C : th_Cx p s m args meth c cX11_tellings RX11 3 (some .long) (dC, dI) (th_ty cs) (xE ad) A) (x1 : Int64) (v : Nat → Nat) (u : xs_St) (H : Heap) (locs : List Loc) (ls : Array Slot) (hf : X_TH_tellings_49 K x1 u) (hw : th_wI (dC, dI) (wX cs ad q v v) A s.heap u H locs) (hl : lv_has ls 3 [(0, .ref (q 99)), (1, .long x1)]) : W p l e (th_rm 5 0 0) s m args below meth c H locs 0 0 (MQ below (va_Ql (fun r9 a9 => K r9 a9.2) (th_Post (dC, dI) (wXs cs ad q) A) A) args s 0 0 A) (F0 m 49 ls []) := by
  have hx := C.1
  have hb := C.2.1
  unfold X_TH_tellings_49 at hf
  refine lv_aload_n hx hb dX11_tellings_49 rfl (lv_at hl 0 rfl) ?_
  refine xg_0 C hw (C.2.2.2.2.1 _ hwF_X11_10) dX11_tellings_50 ?_
  refine th_callVv (As := []) (rest := []) C lkX11_110 (X_TP_clear_c hf) hw (xRc_TP C hw) rfl rfl ⟨Nat.le_of_ble_eq_true rfl, Nat.le_of_ble_eq_true rfl⟩ hl.1 (Nat.le_of_ble_eq_true rfl) ⟨Nat.le_of_ble_eq_true rfl, Nat.le_of_ble_eq_true rfl⟩ dX11_tellings_53 (fun u_1 H locs hf hw => ?_)
  refine lv_lload_n hx hb dX11_tellings_56 rfl (lv_at hl 1 rfl) ?_
  exact th_lret (K := (fun r9 a9 => K r9 a9.2)) (w := wXs cs ad q) (u := (v, u_1)) C hw hf dX11_tellings_57
def X_TH_tellings (u : xs_St) (K : Int64 → xs_St → Prop) : Prop :=
  ((¬ (xi u 101) = ((2 : Int32) * (xi u 300)) → X_TH_tellings_49 K (-1 : Int64) u) ∧ ((xi u 101) = ((2 : Int32) * (xi u 300)) → X_US_unsmear (xi u 300) (xi u 303) u (fun r_2 u_1 => X_TH_tellings_49 K r_2 u_1)))
set_option maxHeartbeats 4000000 in
set_option maxRecDepth 100000 in
theorem X_TH_tellings_c {l : Launch} {dC : Nat → ClassId} {dI : Nat → Nat → Nat} {cs : Nat → ClassId} {ad : Nat → Nat} {q v : Nat → Nat} {u : xs_St} {K : Int64 → xs_St → Prop} (hf : X_TH_tellings u K) : th_Cl l yX11_tellings cX11_tellings 3 (some .long) 5 0 0 (dC, dI) (th_ty cs) (xE ad) (wXs cs ad q) [.ref (q 99)] (v, u) (fun r9 a9 => K r9 a9.2) := by
  refine th_ofl (by decide) (Nat.le_of_ble_eq_true rfl) (xE_ok ad) ?_
  intro p e s m below meth c A ls C hw hl
  have C : th_Cx p s m _ meth c cX11_tellings RX11 3 (some .long) (dC, dI) (th_ty cs) (xE ad) A := C
  have hl : lv_has ls 3 [(0, .ref (q 99))] := hl
  generalize (List.toArray _ : Array Value) = args at C ⊢
  have hx := C.1
  have hb := C.2.1
  unfold X_TH_tellings at hf
  refine lv_ldc2 hx hb C.2.2.2.1 (C.2.2.2.2.1 _ hwK_X11_187) dX11_tellings_0 ?_
  refine lv_lstore_n (lv' := [(1, .long (-1 : Int64)), (0, .ref (q 99))]) hx hb dX11_tellings_3 rfl hl (by decide) rfl (fun ls hl => ?_)
  refine lv_aload_n hx hb dX11_tellings_4 rfl (lv_at hl 1 rfl) ?_
  refine xg_0 C hw (C.2.2.2.2.1 _ hwF_X11_10) dX11_tellings_5 ?_
  refine xgn_101 C hw (va_Nw.use rfl (xN C hwG_X11_91)) dX11_tellings_8 ?_
  refine lv_iconst (v := (2 : Int32)) hx hb dX11_tellings_11 (by decide) ?_
  refine lv_aload_n hx hb dX11_tellings_12 rfl (lv_at hl 1 rfl) ?_
  refine xg_9 C hw (C.2.2.2.2.1 _ hwF_X11_69) dX11_tellings_13 ?_
  refine xgn_300 C hw (va_Nw.use rfl (xN C hwG_X11_126)) dX11_tellings_16 ?_
  refine lv_imul hx hb dX11_tellings_19 ?_
  refine lv_icmp_ne (tgt := 49) hx hb dX11_tellings_20 (by decide) (fun hc => ?_) (fun hc => ?_)
  · replace hf := hf.1 hc
    clear hc
    exact X_TH_tellings_49_w C (-1 : Int64) v u _ _ _ hf hw (lv_sub hl [1, 0] rfl)
  · replace hf := hf.2 hc
    clear hc
    refine lv_aload_n hx hb dX11_tellings_23 rfl (lv_at hl 1 rfl) ?_
    refine xg_3 C hw (C.2.2.2.2.1 _ hwF_X11_33) dX11_tellings_24 ?_
    refine lv_aload_n hx hb dX11_tellings_27 rfl (lv_at hl 1 rfl) ?_
    refine xg_0 C hw (C.2.2.2.2.1 _ hwF_X11_10) dX11_tellings_28 ?_
    refine lv_aload_n hx hb dX11_tellings_31 rfl (lv_at hl 1 rfl) ?_
    refine xg_9 C hw (C.2.2.2.2.1 _ hwF_X11_69) dX11_tellings_32 ?_
    refine xgn_300 C hw (va_Nw.use rfl (xN C hwG_X11_126)) dX11_tellings_35 ?_
    refine lv_aload_n hx hb dX11_tellings_38 rfl (lv_at hl 1 rfl) ?_
    refine xg_9 C hw (C.2.2.2.2.1 _ hwF_X11_69) dX11_tellings_39 ?_
    refine xgn_303 C hw (va_Nw.use rfl (xN C hwG_X11_189)) dX11_tellings_42 ?_
    refine th_callVl (As := [.ref (q 199), .int (xi u 300), .int (xi u 303)]) (rest := []) (w := wXs cs ad q) (u := (v, u)) C lkX11_192 (X_US_unsmear_c hf) (show th_wI (dC, dI) (wXs cs ad q) A s.heap (v, u) _ _ from hw) (xRc_US C hw) rfl rfl ⟨Nat.le_of_ble_eq_true rfl, Nat.le_of_ble_eq_true rfl⟩ hl.1 (Nat.le_of_ble_eq_true rfl) ⟨Nat.le_of_ble_eq_true rfl, Nat.le_of_ble_eq_true rfl⟩ dX11_tellings_45 (fun r_2 a9 H locs hf hw => ?_)
    obtain ⟨v_3, u_1⟩ := a9
    have hw : th_wI (dC, dI) (wX cs ad q v_3 v_3) A s.heap u_1 _ _ := hw
    refine lv_lstore_n (lv' := [(1, .long r_2), (0, .ref (q 99))]) hx hb dX11_tellings_48 rfl hl (by decide) rfl (fun ls hl => ?_)
    exact X_TH_tellings_49_w C r_2 v_3 u_1 _ _ _ hf hw (lv_sub hl [1, 0] rfl)
/-! X_T_alarmIsAt_A -/
theorem dX7_alarmIsAt_0 : decode cX7_alarmIsAt 0 = .ok (.iload_n 1, 1) := by decide +kernel
theorem dX7_alarmIsAt_1 : decode cX7_alarmIsAt 1 = .ok (.ifCond .lt 11, 3) := by decide +kernel
theorem dX7_alarmIsAt_4 : decode cX7_alarmIsAt 4 = .ok (.iload_n 1, 1) := by decide +kernel
theorem dX7_alarmIsAt_5 : decode cX7_alarmIsAt 5 = .ok (.aload_n 0, 1) := by decide +kernel
theorem dX7_alarmIsAt_6 : decode cX7_alarmIsAt 6 = .ok (.getfield 59, 3) := by decide +kernel
theorem dX7_alarmIsAt_9 : decode cX7_alarmIsAt 9 = .ok (.if_icmp .lt 5, 3) := by decide +kernel
theorem dX7_alarmIsAt_12 : decode cX7_alarmIsAt 12 = .ok (.iconst 0, 1) := by decide +kernel
theorem dX7_alarmIsAt_13 : decode cX7_alarmIsAt 13 = .ok (.ireturn, 1) := by decide +kernel
theorem dX7_alarmIsAt_14 : decode cX7_alarmIsAt 14 = .ok (.aload_n 2, 1) := by decide +kernel
theorem dX7_alarmIsAt_15 : decode cX7_alarmIsAt 15 = .ok (.astore_n 3, 1) := by decide +kernel
theorem dX7_alarmIsAt_16 : decode cX7_alarmIsAt 16 = .ok (.iconst 0, 1) := by decide +kernel
theorem dX7_alarmIsAt_17 : decode cX7_alarmIsAt 17 = .ok (.istore 4, 2) := by decide +kernel
theorem dX7_alarmIsAt_19 : decode cX7_alarmIsAt 19 = .ok (.iload 4, 2) := by decide +kernel
theorem dX7_alarmIsAt_21 : decode cX7_alarmIsAt 21 = .ok (.aload_n 0, 1) := by decide +kernel
theorem dX7_alarmIsAt_22 : decode cX7_alarmIsAt 22 = .ok (.getfield 19, 3) := by decide +kernel
theorem dX7_alarmIsAt_25 : decode cX7_alarmIsAt 25 = .ok (.iload_n 1, 1) := by decide +kernel
theorem dX7_alarmIsAt_26 : decode cX7_alarmIsAt 26 = .ok (.iaload, 1) := by decide +kernel
theorem dX7_alarmIsAt_27 : decode cX7_alarmIsAt 27 = .ok (.if_icmp .ge 36, 3) := by decide +kernel
theorem dX7_alarmIsAt_30 : decode cX7_alarmIsAt 30 = .ok (.aload_n 3, 1) := by decide +kernel
theorem dX7_alarmIsAt_31 : decode cX7_alarmIsAt 31 = .ok (.ifnull 19, 3) := by decide +kernel
theorem dX7_alarmIsAt_34 : decode cX7_alarmIsAt 34 = .ok (.aload_n 3, 1) := by decide +kernel
theorem dX7_alarmIsAt_35 : decode cX7_alarmIsAt 35 = .ok (.getfield 79, 3) := by decide +kernel
theorem dX7_alarmIsAt_38 : decode cX7_alarmIsAt 38 = .ok (.ifnull 12, 3) := by decide +kernel
theorem dX7_alarmIsAt_41 : decode cX7_alarmIsAt 41 = .ok (.aload_n 0, 1) := by decide +kernel
theorem dX7_alarmIsAt_42 : decode cX7_alarmIsAt 42 = .ok (.iload_n 1, 1) := by decide +kernel
theorem dX7_alarmIsAt_43 : decode cX7_alarmIsAt 43 = .ok (.aload_n 3, 1) := by decide +kernel
theorem dX7_alarmIsAt_44 : decode cX7_alarmIsAt 44 = .ok (.invokevirtual 85, 3) := by decide +kernel
theorem dX7_alarmIsAt_47 : decode cX7_alarmIsAt 47 = .ok (.ifCond .ne 5, 3) := by decide +kernel
theorem dX7_alarmIsAt_50 : decode cX7_alarmIsAt 50 = .ok (.iconst 0, 1) := by decide +kernel
theorem dX7_alarmIsAt_51 : decode cX7_alarmIsAt 51 = .ok (.ireturn, 1) := by decide +kernel
theorem dX7_alarmIsAt_52 : decode cX7_alarmIsAt 52 = .ok (.aload_n 3, 1) := by decide +kernel
theorem dX7_alarmIsAt_53 : decode cX7_alarmIsAt 53 = .ok (.getfield 79, 3) := by decide +kernel
theorem dX7_alarmIsAt_56 : decode cX7_alarmIsAt 56 = .ok (.astore_n 3, 1) := by decide +kernel
theorem dX7_alarmIsAt_57 : decode cX7_alarmIsAt 57 = .ok (.iinc 4 1, 3) := by decide +kernel
theorem dX7_alarmIsAt_60 : decode cX7_alarmIsAt 60 = .ok (.goto (-41), 3) := by decide +kernel
theorem dX7_alarmIsAt_63 : decode cX7_alarmIsAt 63 = .ok (.iconst 1, 1) := by decide +kernel
theorem dX7_alarmIsAt_64 : decode cX7_alarmIsAt 64 = .ok (.ireturn, 1) := by decide +kernel
def X_T_alarmIsAt_A_12 (K : Int32 → xs_St → Prop) (u : xs_St) : Prop :=
  (((0 : Int32) = 0 ∨ (0 : Int32) = 1) ∧ K (0 : Int32) u)
set_option maxHeartbeats 4000000 in
set_option maxRecDepth 100000 in
theorem X_T_alarmIsAt_A_12_w {K : Int32 → xs_St → Prop} (C : th_Cx p s m args meth c cX7_alarmIsAt RX7 5 (some .boolean) (dC, dI) (th_ty cs) (xE ad) A) (u : xs_St) (H : Heap) (locs : List Loc) (ls : Array Slot) (hf : X_T_alarmIsAt_A_12 K u) (hw : th_wI (dC, dI) (wX cs ad q v v) A s.heap u H locs) (hl : lv_has ls 5 []) : W p l e (th_rm 5 0 0) s m args below meth c H locs 0 0 (MQ below (va_Qi K (th_Post (dC, dI) (wX cs ad q v v) A) A) args s 0 0 A) (F0 m 12 ls []) := by
  have hx := C.1
  have hb := C.2.1
  unfold X_T_alarmIsAt_A_12 at hf
  refine lv_iconst (v := (0 : Int32)) hx hb dX7_alarmIsAt_12 (by decide) ?_
  exact th_zret C hw hf dX7_alarmIsAt_13
def X_T_alarmIsAt_A_50 (K : Int32 → xs_St → Prop) (u : xs_St) : Prop :=
  (((0 : Int32) = 0 ∨ (0 : Int32) = 1) ∧ K (0 : Int32) u)
set_option maxHeartbeats 4000000 in
set_option maxRecDepth 100000 in
theorem X_T_alarmIsAt_A_50_w {K : Int32 → xs_St → Prop} (C : th_Cx p s m args meth c cX7_alarmIsAt RX7 5 (some .boolean) (dC, dI) (th_ty cs) (xE ad) A) (u : xs_St) (H : Heap) (locs : List Loc) (ls : Array Slot) (hf : X_T_alarmIsAt_A_50 K u) (hw : th_wI (dC, dI) (wX cs ad q v v) A s.heap u H locs) (hl : lv_has ls 5 []) : W p l e (th_rm 5 0 0) s m args below meth c H locs 0 0 (MQ below (va_Qi K (th_Post (dC, dI) (wX cs ad q v v) A) A) args s 0 0 A) (F0 m 50 ls []) := by
  have hx := C.1
  have hb := C.2.1
  unfold X_T_alarmIsAt_A_50 at hf
  refine lv_iconst (v := (0 : Int32)) hx hb dX7_alarmIsAt_50 (by decide) ?_
  exact th_zret C hw hf dX7_alarmIsAt_51
def X_T_alarmIsAt_A_19 (K : Int32 → xs_St → Prop) (k19 : Int32 → Option Nat → Int32 → xs_St → Prop) (x1 : Int32) (x3 : Option Nat) (x4 : Int32) (u : xs_St) : Prop :=
  (vp_in x1 6 ∧ ∀ y_1 : Int32, y_1 = xa u 309 (x1).toNatClampNeg → ((y_1 ≤ x4 → (((1 : Int32) = 0 ∨ (1 : Int32) = 1) ∧ K (1 : Int32) u)) ∧ (¬ y_1 ≤ x4 → ((x3 = none → X_T_alarmIsAt_A_50 K u) ∧ (¬ x3 = none → (∃ b_2 : Nat, x3 = some b_2 ∧ xd_is u b_2 3 ∧ (((xdR u 2 b_2) = none → X_T_alarmIsAt_A_50 K u) ∧ (¬ (xdR u 2 b_2) = none → X_T_holds_A x1 x3 u (fun r_4 u_3 => ((¬ r_4 = 0 → (∃ b_5 : Nat, x3 = some b_5 ∧ xd_is u_3 b_5 3 ∧ ∀ x4_6 : Int32, x4_6 = x4 + (1 : Int32) → k19 x1 (xdR u_3 2 b_5) x4_6 u_3)) ∧ (r_4 = 0 → X_T_alarmIsAt_A_50 K u_3)))))))))))
set_option maxHeartbeats 4000000 in
set_option maxRecDepth 100000 in
theorem X_T_alarmIsAt_A_19_w {K : Int32 → xs_St → Prop} {k19 : Int32 → Option Nat → Int32 → xs_St → Prop} (C : th_Cx p s m args meth c cX7_alarmIsAt RX7 5 (some .boolean) (dC, dI) (th_ty cs) (xE ad) A) (hk19 : ∀ (x1 : Int32) (x3 : Option Nat) (x4 : Int32) (u : xs_St) (H : Heap) (locs : List Loc) (ls : Array Slot), k19 x1 x3 x4 u → th_wI (dC, dI) (wX cs ad q v v) A s.heap u H locs → lv_has ls 5 [(0, .ref (v 399)), (1, .int x1), (3, va_rf x3), (4, .int x4)] → W p l e (th_rm 5 0 0) s m args below meth c H locs 0 0 (MQ below (va_Qi K (th_Post (dC, dI) (wX cs ad q v v) A) A) args s 0 0 A) (F0 m 19 ls [])) (x1 : Int32) (x3 : Option Nat) (x4 : Int32) (u : xs_St) (H : Heap) (locs : List Loc) (ls : Array Slot) (hf : X_T_alarmIsAt_A_19 K k19 x1 x3 x4 u) (hw : th_wI (dC, dI) (wX cs ad q v v) A s.heap u H locs) (hl : lv_has ls 5 [(0, .ref (v 399)), (1, .int x1), (3, va_rf x3), (4, .int x4)]) : W p l e (th_rm 5 0 0) s m args below meth c H locs 0 0 (MQ below (va_Qi K (th_Post (dC, dI) (wX cs ad q v v) A) A) args s 0 0 A) (F0 m 19 ls []) := by
  have hx := C.1
  have hb := C.2.1
  unfold X_T_alarmIsAt_A_19 at hf
  refine lv_iload hx hb dX7_alarmIsAt_19 (lv_at hl 3 rfl) ?_
  refine lv_aload_n hx hb dX7_alarmIsAt_21 rfl (lv_at hl 0 rfl) ?_
  refine xg_309 C hw (C.2.2.2.2.1 _ hwF_X7_19) dX7_alarmIsAt_22 ?_
  refine lv_iload_n hx hb dX7_alarmIsAt_25 rfl (lv_at hl 1 rfl) ?_
  refine yl_309 C hw hf.1 dX7_alarmIsAt_26 (fun y_1 e9 => ?_)
  replace hf := hf.2 y_1 e9
  clear e9
  refine lv_icmp_ge (tgt := 63) hx hb dX7_alarmIsAt_27 (by decide) (fun hc => ?_) (fun hc => ?_)
  · replace hf := hf.1 hc
    clear hc
    refine lv_iconst (v := (1 : Int32)) hx hb dX7_alarmIsAt_63 (by decide) ?_
    exact th_zret C hw hf dX7_alarmIsAt_64
  · replace hf := hf.2 hc
    clear hc
    refine th_aload_n hx hb dX7_alarmIsAt_30 rfl (lv_at hl 2 rfl) ?_
    refine th_ifnull (tgt := 50) hx hb dX7_alarmIsAt_31 (by decide) (fun hc => ?_) (fun hc => ?_)
    · replace hf := hf.1 hc
      clear hc
      exact X_T_alarmIsAt_A_50_w C  u _ _ _ hf hw (lv_sub hl [] rfl)
    · replace hf := hf.2 hc
      clear hc
      refine th_aload_n hx hb dX7_alarmIsAt_34 rfl (lv_at hl 2 rfl) ?_
      obtain ⟨b_2, e9, hm, hf⟩ := hf
      refine W.eq (g2 := F0 m 35 ls [.ref b_2]) (congrArg (fun z9 => F0 m 35 ls [va_rf z9]) e9) ?_
      clear e9
      refine xdgn_Feel_ahead C hw hm (va_Nw.use rfl (xN C hwG_X7_79)) dX7_alarmIsAt_35 ?_
      refine th_ifnull (tgt := 50) hx hb dX7_alarmIsAt_38 (by decide) (fun hc => ?_) (fun hc => ?_)
      · replace hf := hf.1 hc
        clear hc
        exact X_T_alarmIsAt_A_50_w C  u _ _ _ hf hw (lv_sub hl [] rfl)
      · replace hf := hf.2 hc
        clear hc
        refine lv_aload_n hx hb dX7_alarmIsAt_41 rfl (lv_at hl 0 rfl) ?_
        refine lv_iload_n hx hb dX7_alarmIsAt_42 rfl (lv_at hl 1 rfl) ?_
        refine th_aload_n hx hb dX7_alarmIsAt_43 rfl (lv_at hl 2 rfl) ?_
        refine th_callVi (As := [.int x1, va_rf x3]) (rest := []) C lkX7_85 (X_T_holds_A_c hf) hw (xRc_TA C hw) rfl rfl ⟨Nat.le_of_ble_eq_true rfl, Nat.le_of_ble_eq_true rfl⟩ hl.1 (Nat.le_of_ble_eq_true rfl) ⟨Nat.le_of_ble_eq_true rfl, Nat.le_of_ble_eq_true rfl⟩ dX7_alarmIsAt_44 (fun r_4 u_3 H locs hf hw => ?_)
        refine lv_if_ne (tgt := 52) hx hb dX7_alarmIsAt_47 (by decide) (fun hc => ?_) (fun hc => ?_)
        · replace hf := hf.1 hc
          clear hc
          refine th_aload_n hx hb dX7_alarmIsAt_52 rfl (lv_at hl 2 rfl) ?_
          obtain ⟨b_5, e9, hm, hf⟩ := hf
          refine W.eq (g2 := F0 m 53 ls [.ref b_5]) (congrArg (fun z9 => F0 m 53 ls [va_rf z9]) e9) ?_
          clear e9
          refine xdgn_Feel_ahead C hw hm (va_Nw.use rfl (xN C hwG_X7_79)) dX7_alarmIsAt_53 ?_
          refine th_astore_n (r := (xdR u_3 2 b_5)) (lv' := [(3, va_rf (xdR u_3 2 b_5)), (0, .ref (v 399)), (1, .int x1), (4, .int x4)]) hx hb dX7_alarmIsAt_56 rfl hl (by decide) rfl (fun ls hl => ?_)
          obtain ⟨x4_6, e9⟩ : ∃ y : Int32, y = x4 + (1 : Int32) := ⟨_, rfl⟩
          replace hf := hf x4_6 e9
          refine lv_iinc (v := x4_6) (lv' := [(4, .int x4_6), (3, va_rf (xdR u_3 2 b_5)), (0, .ref (v 399)), (1, .int x1)]) hx hb dX7_alarmIsAt_57 hl (k := 3) rfl (by rw [e9]; rfl) (by decide) (by simp [List.filter, th_cat, th_cate]) (fun ls hl => ?_)
          clear e9
          refine lv_goto (tgt := 19) hx hb dX7_alarmIsAt_60 (by decide) ?_
          exact hk19 x1 (xdR u_3 2 b_5) x4_6 u_3 _ _ _ hf hw (lv_sub hl [2, 3, 1, 0] rfl)
        · replace hf := hf.2 hc
          clear hc
          exact X_T_alarmIsAt_A_50_w C  u_3 _ _ _ hf hw (lv_sub hl [] rfl)
def X_T_alarmIsAt_A_19_lp (K : Int32 → xs_St → Prop) : Nat → Int32 → Option Nat → Int32 → xs_St → Prop
  | 0, _, _, _, _ => False
  | n + 1, x1, x3, x4, u => X_T_alarmIsAt_A_19 K (X_T_alarmIsAt_A_19_lp K n) x1 x3 x4 u
set_option maxHeartbeats 4000000 in
set_option maxRecDepth 100000 in
theorem X_T_alarmIsAt_A_19_lw {K : Int32 → xs_St → Prop} (C : th_Cx p s m args meth c cX7_alarmIsAt RX7 5 (some .boolean) (dC, dI) (th_ty cs) (xE ad) A) (n : Nat) : ∀ (x1 : Int32) (x3 : Option Nat) (x4 : Int32) (u : xs_St) (H : Heap) (locs : List Loc) (ls : Array Slot), X_T_alarmIsAt_A_19_lp K n x1 x3 x4 u → th_wI (dC, dI) (wX cs ad q v v) A s.heap u H locs → lv_has ls 5 [(0, .ref (v 399)), (1, .int x1), (3, va_rf x3), (4, .int x4)] → W p l e (th_rm 5 0 0) s m args below meth c H locs 0 0 (MQ below (va_Qi K (th_Post (dC, dI) (wX cs ad q v v) A) A) args s 0 0 A) (F0 m 19 ls []) := by
  induction n with
  | zero => intro x1 x3 x4 u H locs ls hf; exact hf.elim
  | succ n ih =>
    intro x1 x3 x4 u H locs ls hf hw hl
    exact X_T_alarmIsAt_A_19_w C ih x1 x3 x4 u H locs ls hf hw hl
def X_T_alarmIsAt_A (a1 : Int32) (a2 : Option Nat) (u : xs_St) (K : Int32 → xs_St → Prop) : Prop :=
  ((a1 < 0 → X_T_alarmIsAt_A_12 K u) ∧ (¬ a1 < 0 → ((a1 < (xi u 305) → ∃ n, X_T_alarmIsAt_A_19_lp K n a1 a2 (0 : Int32) u) ∧ (¬ a1 < (xi u 305) → X_T_alarmIsAt_A_12 K u))))
set_option maxHeartbeats 4000000 in
set_option maxRecDepth 100000 in
theorem X_T_alarmIsAt_A_c {l : Launch} {dC : Nat → ClassId} {dI : Nat → Nat → Nat} {cs : Nat → ClassId} {ad : Nat → Nat} {q v : Nat → Nat} {a1 : Int32} {a2 : Option Nat} {u : xs_St} {K : Int32 → xs_St → Prop} (hf : X_T_alarmIsAt_A a1 a2 u K) : th_Ci l yX7_alarmIsAt cX7_alarmIsAt 5 (some .boolean) 5 0 0 (dC, dI) (th_ty cs) (xE ad) (wX cs ad q v v) [.ref (v 399), .int a1, va_rf a2] u K := by
  refine th_ofi (by decide) (by cases a2 <;> exact Nat.le_of_ble_eq_true rfl) (xE_ok ad) ?_
  intro p e s m below meth c A ls C hw hl
  have C : th_Cx p s m _ meth c cX7_alarmIsAt RX7 5 (some .boolean) (dC, dI) (th_ty cs) (xE ad) A := C
  have hl : lv_has ls 5 [(0, .ref (v 399)), (1, .int a1), (2, va_rf a2)] := by cases a2 <;> exact hl
  generalize (List.toArray _ : Array Value) = args at C ⊢
  have hx := C.1
  have hb := C.2.1
  unfold X_T_alarmIsAt_A at hf
  refine lv_iload_n hx hb dX7_alarmIsAt_0 rfl (lv_at hl 1 rfl) ?_
  refine lv_if_lt (tgt := 12) hx hb dX7_alarmIsAt_1 (by decide) (fun hc => ?_) (fun hc => ?_)
  · replace hf := hf.1 hc
    clear hc
    exact X_T_alarmIsAt_A_12_w C  u _ _ _ hf hw (lv_sub hl [] rfl)
  · replace hf := hf.2 hc
    clear hc
    refine lv_iload_n hx hb dX7_alarmIsAt_4 rfl (lv_at hl 1 rfl) ?_
    refine lv_aload_n hx hb dX7_alarmIsAt_5 rfl (lv_at hl 0 rfl) ?_
    refine xg_305 C hw (C.2.2.2.2.1 _ hwF_X7_59) dX7_alarmIsAt_6 ?_
    refine lv_icmp_lt (tgt := 14) hx hb dX7_alarmIsAt_9 (by decide) (fun hc => ?_) (fun hc => ?_)
    · replace hf := hf.1 hc
      clear hc
      refine th_aload_n hx hb dX7_alarmIsAt_14 rfl (lv_at hl 2 rfl) ?_
      refine th_astore_n (r := a2) (i := 3) (lv' := [(3, va_rf a2), (0, .ref (v 399)), (1, .int a1), (2, va_rf a2)]) hx hb dX7_alarmIsAt_15 rfl hl (by decide) (by simp [List.filter, th_cat, th_cate]) (fun ls hl => ?_)
      refine lv_iconst (v := (0 : Int32)) hx hb dX7_alarmIsAt_16 (by decide) ?_
      refine lv_istore (i := 4) (lv' := [(4, .int (0 : Int32)), (3, va_rf a2), (0, .ref (v 399)), (1, .int a1), (2, va_rf a2)]) hx hb dX7_alarmIsAt_17 hl (by decide) (by simp [List.filter, th_cat, th_cate]) (fun ls hl => ?_)
      obtain ⟨n, hf⟩ := hf
      exact X_T_alarmIsAt_A_19_lw C n a1 a2 (0 : Int32) u _ _ _ hf hw (lv_sub hl [2, 3, 1, 0] rfl)
    · replace hf := hf.2 hc
      clear hc
      exact X_T_alarmIsAt_A_12_w C  u _ _ _ hf hw (lv_sub hl [] rfl)
end

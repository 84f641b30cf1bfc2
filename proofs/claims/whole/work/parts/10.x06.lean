section
variable {p : Program} {l : Launch} {e : Env} {s : State} {m : MethodId} {args : Array Value} {below : List Frame} {meth : Method} {c : Code} {dC : Nat → ClassId} {dI : Nat → Nat → Nat} {cs : Nat → ClassId} {ad : Nat → Nat} {q v : Nat → Nat} {A : Nat → Prop}
/-! X_EX_chooseAt -/
theorem dX1_chooseAt_0 : decode cX1_chooseAt 0 = .ok (.aload_n 2, 1) := by decide +kernel
theorem dX1_chooseAt_1 : decode cX1_chooseAt 1 = .ok (.iload_n 1, 1) := by decide +kernel
theorem dX1_chooseAt_2 : decode cX1_chooseAt 2 = .ok (.invokevirtual 45, 3) := by decide +kernel
theorem dX1_chooseAt_5 : decode cX1_chooseAt 5 = .ok (.iconst 0, 1) := by decide +kernel
theorem dX1_chooseAt_6 : decode cX1_chooseAt 6 = .ok (.iload 4, 2) := by decide +kernel
theorem dX1_chooseAt_8 : decode cX1_chooseAt 8 = .ok (.invokestatic 61, 3) := by decide +kernel
theorem dX1_chooseAt_11 : decode cX1_chooseAt 11 = .ok (.istore 5, 2) := by decide +kernel
theorem dX1_chooseAt_13 : decode cX1_chooseAt 13 = .ok (.aload_n 0, 1) := by decide +kernel
theorem dX1_chooseAt_14 : decode cX1_chooseAt 14 = .ok (.getfield 18, 3) := by decide +kernel
theorem dX1_chooseAt_17 : decode cX1_chooseAt 17 = .ok (.iload_n 1, 1) := by decide +kernel
theorem dX1_chooseAt_18 : decode cX1_chooseAt 18 = .ok (.iload 5, 2) := by decide +kernel
theorem dX1_chooseAt_20 : decode cX1_chooseAt 20 = .ok (.ifCond .eq 14, 3) := by decide +kernel
theorem dX1_chooseAt_23 : decode cX1_chooseAt 23 = .ok (.aload_n 0, 1) := by decide +kernel
theorem dX1_chooseAt_24 : decode cX1_chooseAt 24 = .ok (.getfield 18, 3) := by decide +kernel
theorem dX1_chooseAt_27 : decode cX1_chooseAt 27 = .ok (.iload_n 1, 1) := by decide +kernel
theorem dX1_chooseAt_28 : decode cX1_chooseAt 28 = .ok (.iconst 1, 1) := by decide +kernel
theorem dX1_chooseAt_29 : decode cX1_chooseAt 29 = .ok (.iadd, 1) := by decide +kernel
theorem dX1_chooseAt_30 : decode cX1_chooseAt 30 = .ok (.iaload, 1) := by decide +kernel
theorem dX1_chooseAt_31 : decode cX1_chooseAt 31 = .ok (.goto 6, 3) := by decide +kernel
theorem dX1_chooseAt_34 : decode cX1_chooseAt 34 = .ok (.sipush 1000, 3) := by decide +kernel
theorem dX1_chooseAt_37 : decode cX1_chooseAt 37 = .ok (.iastore, 1) := by decide +kernel
theorem dX1_chooseAt_38 : decode cX1_chooseAt 38 = .ok (.aload_n 0, 1) := by decide +kernel
theorem dX1_chooseAt_39 : decode cX1_chooseAt 39 = .ok (.getfield 24, 3) := by decide +kernel
theorem dX1_chooseAt_42 : decode cX1_chooseAt 42 = .ok (.iload_n 1, 1) := by decide +kernel
theorem dX1_chooseAt_43 : decode cX1_chooseAt 43 = .ok (.iconst 0, 1) := by decide +kernel
theorem dX1_chooseAt_44 : decode cX1_chooseAt 44 = .ok (.iastore, 1) := by decide +kernel
theorem dX1_chooseAt_45 : decode cX1_chooseAt 45 = .ok (.iconst 0, 1) := by decide +kernel
theorem dX1_chooseAt_46 : decode cX1_chooseAt 46 = .ok (.istore 6, 2) := by decide +kernel
theorem dX1_chooseAt_48 : decode cX1_chooseAt 48 = .ok (.iload 6, 2) := by decide +kernel
theorem dX1_chooseAt_50 : decode cX1_chooseAt 50 = .ok (.bipush 6, 2) := by decide +kernel
theorem dX1_chooseAt_52 : decode cX1_chooseAt 52 = .ok (.if_icmp .ge 105, 3) := by decide +kernel
theorem dX1_chooseAt_55 : decode cX1_chooseAt 55 = .ok (.iload_n 1, 1) := by decide +kernel
theorem dX1_chooseAt_56 : decode cX1_chooseAt 56 = .ok (.aload_n 0, 1) := by decide +kernel
theorem dX1_chooseAt_57 : decode cX1_chooseAt 57 = .ok (.getfield 11, 3) := by decide +kernel
theorem dX1_chooseAt_60 : decode cX1_chooseAt 60 = .ok (.iload 6, 2) := by decide +kernel
theorem dX1_chooseAt_62 : decode cX1_chooseAt 62 = .ok (.iaload, 1) := by decide +kernel
theorem dX1_chooseAt_63 : decode cX1_chooseAt 63 = .ok (.iadd, 1) := by decide +kernel
theorem dX1_chooseAt_64 : decode cX1_chooseAt 64 = .ok (.istore 7, 2) := by decide +kernel
theorem dX1_chooseAt_66 : decode cX1_chooseAt 66 = .ok (.aload_n 0, 1) := by decide +kernel
theorem dX1_chooseAt_67 : decode cX1_chooseAt 67 = .ok (.getfield 11, 3) := by decide +kernel
theorem dX1_chooseAt_70 : decode cX1_chooseAt 70 = .ok (.iload 6, 2) := by decide +kernel
theorem dX1_chooseAt_72 : decode cX1_chooseAt 72 = .ok (.iaload, 1) := by decide +kernel
theorem dX1_chooseAt_73 : decode cX1_chooseAt 73 = .ok (.ifCond .eq 78, 3) := by decide +kernel
theorem dX1_chooseAt_76 : decode cX1_chooseAt 76 = .ok (.iload 7, 2) := by decide +kernel
theorem dX1_chooseAt_78 : decode cX1_chooseAt 78 = .ok (.iload_n 3, 1) := by decide +kernel
theorem dX1_chooseAt_79 : decode cX1_chooseAt 79 = .ok (.if_icmp .gt 72, 3) := by decide +kernel
theorem dX1_chooseAt_82 : decode cX1_chooseAt 82 = .ok (.aload_n 0, 1) := by decide +kernel
theorem dX1_chooseAt_83 : decode cX1_chooseAt 83 = .ok (.getfield 18, 3) := by decide +kernel
theorem dX1_chooseAt_86 : decode cX1_chooseAt 86 = .ok (.iload 7, 2) := by decide +kernel
theorem dX1_chooseAt_88 : decode cX1_chooseAt 88 = .ok (.iaload, 1) := by decide +kernel
theorem dX1_chooseAt_89 : decode cX1_chooseAt 89 = .ok (.iconst 1, 1) := by decide +kernel
theorem dX1_chooseAt_90 : decode cX1_chooseAt 90 = .ok (.iadd, 1) := by decide +kernel
theorem dX1_chooseAt_91 : decode cX1_chooseAt 91 = .ok (.aload_n 0, 1) := by decide +kernel
theorem dX1_chooseAt_92 : decode cX1_chooseAt 92 = .ok (.getfield 18, 3) := by decide +kernel
theorem dX1_chooseAt_95 : decode cX1_chooseAt 95 = .ok (.iload_n 1, 1) := by decide +kernel
theorem dX1_chooseAt_96 : decode cX1_chooseAt 96 = .ok (.iaload, 1) := by decide +kernel
theorem dX1_chooseAt_97 : decode cX1_chooseAt 97 = .ok (.if_icmp .lt 6, 3) := by decide +kernel
theorem dX1_chooseAt_100 : decode cX1_chooseAt 100 = .ok (.goto 51, 3) := by decide +kernel
theorem dX1_chooseAt_103 : decode cX1_chooseAt 103 = .ok (.aload_n 0, 1) := by decide +kernel
theorem dX1_chooseAt_104 : decode cX1_chooseAt 104 = .ok (.iload 6, 2) := by decide +kernel
theorem dX1_chooseAt_106 : decode cX1_chooseAt 106 = .ok (.iload_n 1, 1) := by decide +kernel
theorem dX1_chooseAt_107 : decode cX1_chooseAt 107 = .ok (.aload_n 2, 1) := by decide +kernel
theorem dX1_chooseAt_108 : decode cX1_chooseAt 108 = .ok (.iload 4, 2) := by decide +kernel
theorem dX1_chooseAt_110 : decode cX1_chooseAt 110 = .ok (.invokevirtual 64, 3) := by decide +kernel
theorem dX1_chooseAt_113 : decode cX1_chooseAt 113 = .ok (.istore 8, 2) := by decide +kernel
theorem dX1_chooseAt_115 : decode cX1_chooseAt 115 = .ok (.iload 8, 2) := by decide +kernel
theorem dX1_chooseAt_117 : decode cX1_chooseAt 117 = .ok (.ifCond .eq 34, 3) := by decide +kernel
theorem dX1_chooseAt_120 : decode cX1_chooseAt 120 = .ok (.aload_n 0, 1) := by decide +kernel
theorem dX1_chooseAt_121 : decode cX1_chooseAt 121 = .ok (.getfield 18, 3) := by decide +kernel
theorem dX1_chooseAt_124 : decode cX1_chooseAt 124 = .ok (.iload_n 1, 1) := by decide +kernel
theorem dX1_chooseAt_125 : decode cX1_chooseAt 125 = .ok (.aload_n 0, 1) := by decide +kernel
theorem dX1_chooseAt_126 : decode cX1_chooseAt 126 = .ok (.getfield 18, 3) := by decide +kernel
theorem dX1_chooseAt_129 : decode cX1_chooseAt 129 = .ok (.iload 7, 2) := by decide +kernel
theorem dX1_chooseAt_131 : decode cX1_chooseAt 131 = .ok (.iaload, 1) := by decide +kernel
theorem dX1_chooseAt_132 : decode cX1_chooseAt 132 = .ok (.iconst 1, 1) := by decide +kernel
theorem dX1_chooseAt_133 : decode cX1_chooseAt 133 = .ok (.iadd, 1) := by decide +kernel
theorem dX1_chooseAt_134 : decode cX1_chooseAt 134 = .ok (.iastore, 1) := by decide +kernel
theorem dX1_chooseAt_135 : decode cX1_chooseAt 135 = .ok (.aload_n 0, 1) := by decide +kernel
theorem dX1_chooseAt_136 : decode cX1_chooseAt 136 = .ok (.getfield 21, 3) := by decide +kernel
theorem dX1_chooseAt_139 : decode cX1_chooseAt 139 = .ok (.iload_n 1, 1) := by decide +kernel
theorem dX1_chooseAt_140 : decode cX1_chooseAt 140 = .ok (.iload 6, 2) := by decide +kernel
theorem dX1_chooseAt_142 : decode cX1_chooseAt 142 = .ok (.iastore, 1) := by decide +kernel
theorem dX1_chooseAt_143 : decode cX1_chooseAt 143 = .ok (.aload_n 0, 1) := by decide +kernel
theorem dX1_chooseAt_144 : decode cX1_chooseAt 144 = .ok (.getfield 24, 3) := by decide +kernel
theorem dX1_chooseAt_147 : decode cX1_chooseAt 147 = .ok (.iload_n 1, 1) := by decide +kernel
theorem dX1_chooseAt_148 : decode cX1_chooseAt 148 = .ok (.iload 8, 2) := by decide +kernel
theorem dX1_chooseAt_150 : decode cX1_chooseAt 150 = .ok (.iastore, 1) := by decide +kernel
theorem dX1_chooseAt_151 : decode cX1_chooseAt 151 = .ok (.iinc 6 1, 3) := by decide +kernel
theorem dX1_chooseAt_154 : decode cX1_chooseAt 154 = .ok (.goto (-106), 3) := by decide +kernel
theorem dX1_chooseAt_157 : decode cX1_chooseAt 157 = .ok (.return_, 1) := by decide +kernel
def X_EX_chooseAt_151 (K : xs_St → Prop) (k48 : Int32 → Int32 → Int32 → Int32 → xs_St → Prop) (x1 : Int32) (x3 : Int32) (x4 : Int32) (x6 : Int32) (u : xs_St) : Prop :=
  ∀ x6_1 : Int32, x6_1 = x6 + (1 : Int32) → k48 x1 x3 x4 x6_1 u
set_option maxHeartbeats 4000000 in
set_option maxRecDepth 100000 in
theorem X_EX_chooseAt_151_w {K : xs_St → Prop} {k48 : Int32 → Int32 → Int32 → Int32 → xs_St → Prop} (C : th_Cx p s m args meth c cX1_chooseAt RX1 9 (none) (dC, dI) (th_ty cs) (xE ad) A) (hk48 : ∀ (x1 : Int32) (x3 : Int32) (x4 : Int32) (x6 : Int32) (u : xs_St) (H : Heap) (locs : List Loc) (ls : Array Slot), k48 x1 x3 x4 x6 u → th_wI (dC, dI) (wX cs ad q v v) A s.heap u H locs → lv_has ls 9 [(0, .ref (q 799)), (1, .int x1), (2, .ref (q 199)), (3, .int x3), (4, .int x4), (6, .int x6)] → W p l e (th_rm 3 0 0) s m args below meth c H locs 0 0 (MQ below (va_Qv K (th_Post (dC, dI) (wX cs ad q v v) A) A) args s 0 0 A) (F0 m 48 ls [])) (x1 : Int32) (x3 : Int32) (x4 : Int32) (x6 : Int32) (u : xs_St) (H : Heap) (locs : List Loc) (ls : Array Slot) (hf : X_EX_chooseAt_151 K k48 x1 x3 x4 x6 u) (hw : th_wI (dC, dI) (wX cs ad q v v) A s.heap u H locs) (hl : lv_has ls 9 [(0, .ref (q 799)), (1, .int x1), (2, .ref (q 199)), (3, .int x3), (4, .int x4), (6, .int x6)]) : W p l e (th_rm 3 0 0) s m args below meth c H locs 0 0 (MQ below (va_Qv K (th_Post (dC, dI) (wX cs ad q v v) A) A) args s 0 0 A) (F0 m 151 ls []) := by
  have hx := C.1
  have hb := C.2.1
  unfold X_EX_chooseAt_151 at hf
  obtain ⟨x6_1, e9⟩ : ∃ y : Int32, y = x6 + (1 : Int32) := ⟨_, rfl⟩
  replace hf := hf x6_1 e9
  refine lv_iinc (v := x6_1) (lv' := [(6, .int x6_1), (0, .ref (q 799)), (1, .int x1), (2, .ref (q 199)), (3, .int x3), (4, .int x4)]) hx hb dX1_chooseAt_151 hl (k := 5) rfl (by rw [e9]; rfl) (by decide) rfl (fun ls hl => ?_)
  clear e9
  refine lv_goto (tgt := 48) hx hb dX1_chooseAt_154 (by decide) ?_
  exact hk48 x1 x3 x4 x6_1 u _ _ _ hf hw (lv_sub hl [1, 2, 3, 4, 5, 0] rfl)
def X_EX_chooseAt_48 (K : xs_St → Prop) (k48 : Int32 → Int32 → Int32 → Int32 → xs_St → Prop) (x1 : Int32) (x3 : Int32) (x4 : Int32) (x6 : Int32) (u : xs_St) : Prop :=
  (((6 : Int32) ≤ x6 → K u) ∧ (¬ (6 : Int32) ≤ x6 → (vp_in x6 6 ∧ ∀ y_1 : Int32, y_1 = xa u 700 (x6).toNatClampNeg → ∀ y_2 : Int32, y_2 = (x1 + y_1) → (vp_in x6 6 ∧ ∀ y_3 : Int32, y_3 = xa u 700 (x6).toNatClampNeg → ((y_3 = 0 → X_EX_chooseAt_151 K k48 x1 x3 x4 x6 u) ∧ (¬ y_3 = 0 → ((x3 < y_2 → X_EX_chooseAt_151 K k48 x1 x3 x4 x6 u) ∧ (¬ x3 < y_2 → (vp_in y_2 49 ∧ ∀ y_4 : Int32, y_4 = xa u 702 (y_2).toNatClampNeg → (vp_in x1 49 ∧ ∀ y_5 : Int32, y_5 = xa u 702 (x1).toNatClampNeg → (((y_4 + (1 : Int32)) < y_5 → X_EX_leastTimes x6 x1 x4 u (fun r_7 u_6 => ((r_7 = 0 → X_EX_chooseAt_151 K k48 x1 x3 x4 x6 u_6) ∧ (¬ r_7 = 0 → (vp_in y_2 49 ∧ ∀ y_8 : Int32, y_8 = xa u_6 702 (y_2).toNatClampNeg → (vp_in x1 49 ∧ ∀ u_9 : xs_St, u_9 = xs_sa u_6 702 (upd (xa u_6 702) (x1).toNatClampNeg (y_8 + (1 : Int32))) → (vp_in x1 48 ∧ ∀ u_10 : xs_St, u_10 = xs_sa u_9 703 (upd (xa u_9 703) (x1).toNatClampNeg x6) → (vp_in x1 48 ∧ ∀ u_11 : xs_St, u_11 = xs_sa u_10 704 (upd (xa u_10 704) (x1).toNatClampNeg r_7) → X_EX_chooseAt_151 K k48 x1 x3 x4 x6 u_11)))))))) ∧ (¬ (y_4 + (1 : Int32)) < y_5 → X_EX_chooseAt_151 K k48 x1 x3 x4 x6 u))))))))))))
set_option maxHeartbeats 4000000 in
set_option maxRecDepth 100000 in
theorem X_EX_chooseAt_48_w {K : xs_St → Prop} {k48 : Int32 → Int32 → Int32 → Int32 → xs_St → Prop} (C : th_Cx p s m args meth c cX1_chooseAt RX1 9 (none) (dC, dI) (th_ty cs) (xE ad) A) (hk48 : ∀ (x1 : Int32) (x3 : Int32) (x4 : Int32) (x6 : Int32) (u : xs_St) (H : Heap) (locs : List Loc) (ls : Array Slot), k48 x1 x3 x4 x6 u → th_wI (dC, dI) (wX cs ad q v v) A s.heap u H locs → lv_has ls 9 [(0, .ref (q 799)), (1, .int x1), (2, .ref (q 199)), (3, .int x3), (4, .int x4), (6, .int x6)] → W p l e (th_rm 3 0 0) s m args below meth c H locs 0 0 (MQ below (va_Qv K (th_Post (dC, dI) (wX cs ad q v v) A) A) args s 0 0 A) (F0 m 48 ls [])) (x1 : Int32) (x3 : Int32) (x4 : Int32) (x6 : Int32) (u : xs_St) (H : Heap) (locs : List Loc) (ls : Array Slot) (hf : X_EX_chooseAt_48 K k48 x1 x3 x4 x6 u) (hw : th_wI (dC, dI) (wX cs ad q v v) A s.heap u H locs) (hl : lv_has ls 9 [(0, .ref (q 799)), (1, .int x1), (2, .ref (q 199)), (3, .int x3), (4, .int x4), (6, .int x6)]) : W p l e (th_rm 3 0 0) s m args below meth c H locs 0 0 (MQ below (va_Qv K (th_Post (dC, dI) (wX cs ad q v v) A) A) args s 0 0 A) (F0 m 48 ls []) := by
  have hx := C.1
  have hb := C.2.1
  unfold X_EX_chooseAt_48 at hf
  refine lv_iload hx hb dX1_chooseAt_48 (lv_at hl 5 rfl) ?_
  refine lv_bipush (v := (6 : Int32)) hx hb dX1_chooseAt_50 (by decide) ?_
  refine lv_icmp_ge (tgt := 157) hx hb dX1_chooseAt_52 (by decide) (fun hc => ?_) (fun hc => ?_)
  · replace hf := hf.1 hc
    clear hc
    exact th_vret C hw hf dX1_chooseAt_157
  · replace hf := hf.2 hc
    clear hc
    refine lv_iload_n hx hb dX1_chooseAt_55 rfl (lv_at hl 1 rfl) ?_
    refine lv_aload_n hx hb dX1_chooseAt_56 rfl (lv_at hl 0 rfl) ?_
    refine xg_700 C hw (C.2.2.2.2.1 _ hwF_X1_11) dX1_chooseAt_57 ?_
    refine lv_iload hx hb dX1_chooseAt_60 (lv_at hl 5 rfl) ?_
    refine yl_700 C hw hf.1 dX1_chooseAt_62 (fun y_1 e9 => ?_)
    replace hf := hf.2 y_1 e9
    clear e9
    refine lv_iadd hx hb dX1_chooseAt_63 ?_
    refine lv_topi (fun y_2 e9 => ?_)
    replace hf := hf y_2 e9
    clear e9
    refine lv_istore (lv' := [(7, .int y_2), (0, .ref (q 799)), (1, .int x1), (2, .ref (q 199)), (3, .int x3), (4, .int x4), (6, .int x6)]) hx hb dX1_chooseAt_64 hl (by decide) rfl (fun ls hl => ?_)
    refine lv_aload_n hx hb dX1_chooseAt_66 rfl (lv_at hl 1 rfl) ?_
    refine xg_700 C hw (C.2.2.2.2.1 _ hwF_X1_11) dX1_chooseAt_67 ?_
    refine lv_iload hx hb dX1_chooseAt_70 (lv_at hl 6 rfl) ?_
    refine yl_700 C hw hf.1 dX1_chooseAt_72 (fun y_3 e9 => ?_)
    replace hf := hf.2 y_3 e9
    clear e9
    refine lv_if_eq (tgt := 151) hx hb dX1_chooseAt_73 (by decide) (fun hc => ?_) (fun hc => ?_)
    · replace hf := hf.1 hc
      clear hc
      exact X_EX_chooseAt_151_w C hk48 x1 x3 x4 x6 u _ _ _ hf hw (lv_sub hl [1, 2, 3, 4, 5, 6] rfl)
    · replace hf := hf.2 hc
      clear hc
      refine lv_iload hx hb dX1_chooseAt_76 (lv_at hl 0 rfl) ?_
      refine lv_iload_n hx hb dX1_chooseAt_78 rfl (lv_at hl 4 rfl) ?_
      refine lv_icmp_gt (tgt := 151) hx hb dX1_chooseAt_79 (by decide) (fun hc => ?_) (fun hc => ?_)
      · replace hf := hf.1 hc
        clear hc
        exact X_EX_chooseAt_151_w C hk48 x1 x3 x4 x6 u _ _ _ hf hw (lv_sub hl [1, 2, 3, 4, 5, 6] rfl)
      · replace hf := hf.2 hc
        clear hc
        refine lv_aload_n hx hb dX1_chooseAt_82 rfl (lv_at hl 1 rfl) ?_
        refine xg_702 C hw (C.2.2.2.2.1 _ hwF_X1_18) dX1_chooseAt_83 ?_
        refine lv_iload hx hb dX1_chooseAt_86 (lv_at hl 0 rfl) ?_
        refine yl_702 C hw hf.1 dX1_chooseAt_88 (fun y_4 e9 => ?_)
        replace hf := hf.2 y_4 e9
        clear e9
        refine lv_iconst (v := (1 : Int32)) hx hb dX1_chooseAt_89 (by decide) ?_
        refine lv_iadd hx hb dX1_chooseAt_90 ?_
        refine lv_aload_n hx hb dX1_chooseAt_91 rfl (lv_at hl 1 rfl) ?_
        refine xg_702 C hw (C.2.2.2.2.1 _ hwF_X1_18) dX1_chooseAt_92 ?_
        refine lv_iload_n hx hb dX1_chooseAt_95 rfl (lv_at hl 2 rfl) ?_
        refine yl_702 C hw hf.1 dX1_chooseAt_96 (fun y_5 e9 => ?_)
        replace hf := hf.2 y_5 e9
        clear e9
        refine lv_icmp_lt (tgt := 103) hx hb dX1_chooseAt_97 (by decide) (fun hc => ?_) (fun hc => ?_)
        · replace hf := hf.1 hc
          clear hc
          refine lv_aload_n hx hb dX1_chooseAt_103 rfl (lv_at hl 1 rfl) ?_
          refine lv_iload hx hb dX1_chooseAt_104 (lv_at hl 6 rfl) ?_
          refine lv_iload_n hx hb dX1_chooseAt_106 rfl (lv_at hl 2 rfl) ?_
          refine lv_aload_n hx hb dX1_chooseAt_107 rfl (lv_at hl 3 rfl) ?_
          refine lv_iload hx hb dX1_chooseAt_108 (lv_at hl 5 rfl) ?_
          refine th_callVi (As := [.int x6, .int x1, .ref (q 199), .int x4]) (rest := []) C lkX1_64 (X_EX_leastTimes_c hf) hw (xRc_EX C hw) rfl rfl ⟨Nat.le_of_ble_eq_true rfl, Nat.le_of_ble_eq_true rfl⟩ hl.1 (Nat.le_of_ble_eq_true rfl) ⟨Nat.le_of_ble_eq_true rfl, Nat.le_of_ble_eq_true rfl⟩ dX1_chooseAt_110 (fun r_7 u_6 H locs hf hw => ?_)
          refine lv_istore (lv' := [(8, .int r_7), (7, .int y_2), (0, .ref (q 799)), (1, .int x1), (2, .ref (q 199)), (3, .int x3), (4, .int x4), (6, .int x6)]) hx hb dX1_chooseAt_113 hl (by decide) rfl (fun ls hl => ?_)
          refine lv_iload hx hb dX1_chooseAt_115 (lv_at hl 0 rfl) ?_
          refine lv_if_eq (tgt := 151) hx hb dX1_chooseAt_117 (by decide) (fun hc => ?_) (fun hc => ?_)
          · replace hf := hf.1 hc
            clear hc
            exact X_EX_chooseAt_151_w C hk48 x1 x3 x4 x6 u_6 _ _ _ hf hw (lv_sub hl [2, 3, 4, 5, 6, 7] rfl)
          · replace hf := hf.2 hc
            clear hc
            refine lv_aload_n hx hb dX1_chooseAt_120 rfl (lv_at hl 2 rfl) ?_
            refine xg_702 C hw (C.2.2.2.2.1 _ hwF_X1_18) dX1_chooseAt_121 ?_
            refine lv_iload_n hx hb dX1_chooseAt_124 rfl (lv_at hl 3 rfl) ?_
            refine lv_aload_n hx hb dX1_chooseAt_125 rfl (lv_at hl 2 rfl) ?_
            refine xg_702 C hw (C.2.2.2.2.1 _ hwF_X1_18) dX1_chooseAt_126 ?_
            refine lv_iload hx hb dX1_chooseAt_129 (lv_at hl 1 rfl) ?_
            refine yl_702 C hw hf.1 dX1_chooseAt_131 (fun y_8 e9 => ?_)
            replace hf := hf.2 y_8 e9
            clear e9
            refine lv_iconst (v := (1 : Int32)) hx hb dX1_chooseAt_132 (by decide) ?_
            refine lv_iadd hx hb dX1_chooseAt_133 ?_
            refine ys_702 C hw hf.1 dX1_chooseAt_134 (fun u_9 e9 H locs hw => ?_)
            replace hf := hf.2 u_9 e9
            clear e9
            refine lv_aload_n hx hb dX1_chooseAt_135 rfl (lv_at hl 2 rfl) ?_
            refine xg_703 C hw (C.2.2.2.2.1 _ hwF_X1_21) dX1_chooseAt_136 ?_
            refine lv_iload_n hx hb dX1_chooseAt_139 rfl (lv_at hl 3 rfl) ?_
            refine lv_iload hx hb dX1_chooseAt_140 (lv_at hl 7 rfl) ?_
            refine ys_703 C hw hf.1 dX1_chooseAt_142 (fun u_10 e9 H locs hw => ?_)
            replace hf := hf.2 u_10 e9
            clear e9
            refine lv_aload_n hx hb dX1_chooseAt_143 rfl (lv_at hl 2 rfl) ?_
            refine xg_704 C hw (C.2.2.2.2.1 _ hwF_X1_24) dX1_chooseAt_144 ?_
            refine lv_iload_n hx hb dX1_chooseAt_147 rfl (lv_at hl 3 rfl) ?_
            refine lv_iload hx hb dX1_chooseAt_148 (lv_at hl 0 rfl) ?_
            refine ys_704 C hw hf.1 dX1_chooseAt_150 (fun u_11 e9 H locs hw => ?_)
            replace hf := hf.2 u_11 e9
            clear e9
            exact X_EX_chooseAt_151_w C hk48 x1 x3 x4 x6 u_11 _ _ _ hf hw (lv_sub hl [2, 3, 4, 5, 6, 7] rfl)
        · replace hf := hf.2 hc
          clear hc
          refine lv_goto (tgt := 151) hx hb dX1_chooseAt_100 (by decide) ?_
          exact X_EX_chooseAt_151_w C hk48 x1 x3 x4 x6 u _ _ _ hf hw (lv_sub hl [1, 2, 3, 4, 5, 6] rfl)
def X_EX_chooseAt_48_lp (K : xs_St → Prop) : Nat → Int32 → Int32 → Int32 → Int32 → xs_St → Prop
  | 0, _, _, _, _, _ => False
  | n + 1, x1, x3, x4, x6, u => X_EX_chooseAt_48 K (X_EX_chooseAt_48_lp K n) x1 x3 x4 x6 u
set_option maxHeartbeats 4000000 in
set_option maxRecDepth 100000 in
theorem X_EX_chooseAt_48_lw {K : xs_St → Prop} (C : th_Cx p s m args meth c cX1_chooseAt RX1 9 (none) (dC, dI) (th_ty cs) (xE ad) A) (n : Nat) : ∀ (x1 : Int32) (x3 : Int32) (x4 : Int32) (x6 : Int32) (u : xs_St) (H : Heap) (locs : List Loc) (ls : Array Slot), X_EX_chooseAt_48_lp K n x1 x3 x4 x6 u → th_wI (dC, dI) (wX cs ad q v v) A s.heap u H locs → lv_has ls 9 [(0, .ref (q 799)), (1, .int x1), (2, .ref (q 199)), (3, .int x3), (4, .int x4), (6, .int x6)] → W p l e (th_rm 3 0 0) s m args below meth c H locs 0 0 (MQ below (va_Qv K (th_Post (dC, dI) (wX cs ad q v v) A) A) args s 0 0 A) (F0 m 48 ls []) := by
  induction n with
  | zero => intro x1 x3 x4 x6 u H locs ls hf; exact hf.elim
  | succ n ih =>
    intro x1 x3 x4 x6 u H locs ls hf hw hl
    exact X_EX_chooseAt_48_w C ih x1 x3 x4 x6 u H locs ls hf hw hl
def X_EX_chooseAt_37 (K : xs_St → Prop) (x1 : Int32) (x3 : Int32) (x4 : Int32) (z0 : Int32) (z1 : Int32) (u : xs_St) : Prop :=
  (vp_in z1 49 ∧ ∀ u_1 : xs_St, u_1 = xs_sa u 702 (upd (xa u 702) (z1).toNatClampNeg z0) → (vp_in x1 48 ∧ ∀ u_2 : xs_St, u_2 = xs_sa u_1 704 (upd (xa u_1 704) (x1).toNatClampNeg (0 : Int32)) → ∃ n, X_EX_chooseAt_48_lp K n x1 x3 x4 (0 : Int32) u_2))
set_option maxHeartbeats 4000000 in
set_option maxRecDepth 100000 in
theorem X_EX_chooseAt_37_w {K : xs_St → Prop} (C : th_Cx p s m args meth c cX1_chooseAt RX1 9 (none) (dC, dI) (th_ty cs) (xE ad) A) (x1 : Int32) (x3 : Int32) (x4 : Int32) (z0 : Int32) (z1 : Int32) (u : xs_St) (H : Heap) (locs : List Loc) (ls : Array Slot) (hf : X_EX_chooseAt_37 K x1 x3 x4 z0 z1 u) (hw : th_wI (dC, dI) (wX cs ad q v v) A s.heap u H locs) (hl : lv_has ls 9 [(0, .ref (q 799)), (1, .int x1), (2, .ref (q 199)), (3, .int x3), (4, .int x4)]) : W p l e (th_rm 3 0 0) s m args below meth c H locs 0 0 (MQ below (va_Qv K (th_Post (dC, dI) (wX cs ad q v v) A) A) args s 0 0 A) (F0 m 37 ls [.int z0, .int z1, .ref (q 702)]) := by
  have hx := C.1
  have hb := C.2.1
  unfold X_EX_chooseAt_37 at hf
  refine ys_702 C hw hf.1 dX1_chooseAt_37 (fun u_1 e9 H locs hw => ?_)
  replace hf := hf.2 u_1 e9
  clear e9
  refine lv_aload_n hx hb dX1_chooseAt_38 rfl (lv_at hl 0 rfl) ?_
  refine xg_704 C hw (C.2.2.2.2.1 _ hwF_X1_24) dX1_chooseAt_39 ?_
  refine lv_iload_n hx hb dX1_chooseAt_42 rfl (lv_at hl 1 rfl) ?_
  refine lv_iconst (v := (0 : Int32)) hx hb dX1_chooseAt_43 (by decide) ?_
  refine ys_704 C hw hf.1 dX1_chooseAt_44 (fun u_2 e9 H locs hw => ?_)
  replace hf := hf.2 u_2 e9
  clear e9
  refine lv_iconst (v := (0 : Int32)) hx hb dX1_chooseAt_45 (by decide) ?_
  refine lv_istore (lv' := [(6, .int (0 : Int32)), (0, .ref (q 799)), (1, .int x1), (2, .ref (q 199)), (3, .int x3), (4, .int x4)]) hx hb dX1_chooseAt_46 hl (by decide) rfl (fun ls hl => ?_)
  obtain ⟨n, hf⟩ := hf
  exact X_EX_chooseAt_48_lw C n x1 x3 x4 (0 : Int32) u_2 _ _ _ hf hw (lv_sub hl [1, 2, 3, 4, 5, 0] rfl)
def X_EX_chooseAt (a1 : Int32) (a3 : Int32) (a4 : Int32) (u : xs_St) (K : xs_St → Prop) : Prop :=
  X_TP_signed a1 u (fun r_2 u_1 => X_EX_isNear r_2 (0 : Int32) a4 u_1 (fun r_4 u_3 => ((r_4 = 0 → X_EX_chooseAt_37 K a1 a3 a4 (1000 : Int32) a1 u_3) ∧ (¬ r_4 = 0 → (vp_in (a1 + (1 : Int32)) 49 ∧ ∀ y_5 : Int32, y_5 = xa u_3 702 ((a1 + (1 : Int32))).toNatClampNeg → X_EX_chooseAt_37 K a1 a3 a4 y_5 a1 u_3)))))
set_option maxHeartbeats 4000000 in
set_option maxRecDepth 100000 in
theorem X_EX_chooseAt_c {l : Launch} {dC : Nat → ClassId} {dI : Nat → Nat → Nat} {cs : Nat → ClassId} {ad : Nat → Nat} {q v : Nat → Nat} {a1 : Int32} {a3 : Int32} {a4 : Int32} {u : xs_St} {K : xs_St → Prop} (hf : X_EX_chooseAt a1 a3 a4 u K) : th_Cv l yX1_chooseAt cX1_chooseAt 9 (none) 3 0 0 (dC, dI) (th_ty cs) (xE ad) (wX cs ad q v v) [.ref (q 799), .int a1, .ref (q 199), .int a3, .int a4] u K := by
  refine th_ofv (by decide) (Nat.le_of_ble_eq_true rfl) (xE_ok ad) ?_
  intro p e s m below meth c A ls C hw hl
  have C : th_Cx p s m _ meth c cX1_chooseAt RX1 9 (none) (dC, dI) (th_ty cs) (xE ad) A := C
  have hl : lv_has ls 9 [(0, .ref (q 799)), (1, .int a1), (2, .ref (q 199)), (3, .int a3), (4, .int a4)] := hl
  generalize (List.toArray _ : Array Value) = args at C ⊢
  have hx := C.1
  have hb := C.2.1
  unfold X_EX_chooseAt at hf
  refine lv_aload_n hx hb dX1_chooseAt_0 rfl (lv_at hl 2 rfl) ?_
  refine lv_iload_n hx hb dX1_chooseAt_1 rfl (lv_at hl 1 rfl) ?_
  refine th_callVi (As := [.int a1]) (rest := []) C lkX1_45 (X_TP_signed_c hf) hw (xRc_TP C hw) rfl rfl ⟨Nat.le_of_ble_eq_true rfl, Nat.le_of_ble_eq_true rfl⟩ hl.1 (Nat.le_of_ble_eq_true rfl) ⟨Nat.le_of_ble_eq_true rfl, Nat.le_of_ble_eq_true rfl⟩ dX1_chooseAt_2 (fun r_2 u_1 H locs hf hw => ?_)
  refine lv_iconst (v := (0 : Int32)) hx hb dX1_chooseAt_5 (by decide) ?_
  refine lv_iload hx hb dX1_chooseAt_6 (lv_at hl 4 rfl) ?_
  refine th_callSi (As := [.int r_2, .int (0 : Int32), .int a4]) (rest := []) C lkX1_61 (X_EX_isNear_c hf) hw rfl rfl ⟨Nat.le_of_ble_eq_true rfl, Nat.le_of_ble_eq_true rfl⟩ hl.1 (Nat.le_of_ble_eq_true rfl) ⟨Nat.le_of_ble_eq_true rfl, Nat.le_of_ble_eq_true rfl⟩ dX1_chooseAt_8 (fun r_4 u_3 H locs hf hw => ?_)
  refine lv_istore (lv' := [(5, .int r_4), (0, .ref (q 799)), (1, .int a1), (2, .ref (q 199)), (3, .int a3), (4, .int a4)]) hx hb dX1_chooseAt_11 hl (by decide) rfl (fun ls hl => ?_)
  refine lv_aload_n hx hb dX1_chooseAt_13 rfl (lv_at hl 1 rfl) ?_
  refine xg_702 C hw (C.2.2.2.2.1 _ hwF_X1_18) dX1_chooseAt_14 ?_
  refine lv_iload_n hx hb dX1_chooseAt_17 rfl (lv_at hl 2 rfl) ?_
  refine lv_iload hx hb dX1_chooseAt_18 (lv_at hl 0 rfl) ?_
  refine lv_if_eq (tgt := 34) hx hb dX1_chooseAt_20 (by decide) (fun hc => ?_) (fun hc => ?_)
  · replace hf := hf.1 hc
    clear hc
    refine lv_sipush (v := (1000 : Int32)) hx hb dX1_chooseAt_34 (by decide) ?_
    exact X_EX_chooseAt_37_w C a1 a3 a4 (1000 : Int32) a1 u_3 _ _ _ hf hw (lv_sub hl [1, 2, 3, 4, 5] rfl)
  · replace hf := hf.2 hc
    clear hc
    refine lv_aload_n hx hb dX1_chooseAt_23 rfl (lv_at hl 1 rfl) ?_
    refine xg_702 C hw (C.2.2.2.2.1 _ hwF_X1_18) dX1_chooseAt_24 ?_
    refine lv_iload_n hx hb dX1_chooseAt_27 rfl (lv_at hl 2 rfl) ?_
    refine lv_iconst (v := (1 : Int32)) hx hb dX1_chooseAt_28 (by decide) ?_
    refine lv_iadd hx hb dX1_chooseAt_29 ?_
    refine yl_702 C hw hf.1 dX1_chooseAt_30 (fun y_5 e9 => ?_)
    replace hf := hf.2 y_5 e9
    clear e9
    refine lv_goto (tgt := 37) hx hb dX1_chooseAt_31 (by decide) ?_
    exact X_EX_chooseAt_37_w C a1 a3 a4 y_5 a1 u_3 _ _ _ hf hw (lv_sub hl [1, 2, 3, 4, 5] rfl)
/-! X_LN_costFrom -/
theorem dX3_costFrom_0 : decode cX3_costFrom 0 = .ok (.aload_n 1, 1) := by decide +kernel
theorem dX3_costFrom_1 : decode cX3_costFrom 1 = .ok (.getfield 22, 3) := by decide +kernel
theorem dX3_costFrom_4 : decode cX3_costFrom 4 = .ok (.iload_n 2, 1) := by decide +kernel
theorem dX3_costFrom_5 : decode cX3_costFrom 5 = .ok (.isub, 1) := by decide +kernel
theorem dX3_costFrom_6 : decode cX3_costFrom 6 = .ok (.istore 6, 2) := by decide +kernel
theorem dX3_costFrom_8 : decode cX3_costFrom 8 = .ok (.iload 4, 2) := by decide +kernel
theorem dX3_costFrom_10 : decode cX3_costFrom 10 = .ok (.iload_n 2, 1) := by decide +kernel
theorem dX3_costFrom_11 : decode cX3_costFrom 11 = .ok (.if_icmp .ne 11, 3) := by decide +kernel
theorem dX3_costFrom_14 : decode cX3_costFrom 14 = .ok (.iload 6, 2) := by decide +kernel
theorem dX3_costFrom_16 : decode cX3_costFrom 16 = .ok (.iload 5, 2) := by decide +kernel
theorem dX3_costFrom_18 : decode cX3_costFrom 18 = .ok (.isub, 1) := by decide +kernel
theorem dX3_costFrom_19 : decode cX3_costFrom 19 = .ok (.iload_n 3, 1) := by decide +kernel
theorem dX3_costFrom_20 : decode cX3_costFrom 20 = .ok (.imul, 1) := by decide +kernel
theorem dX3_costFrom_21 : decode cX3_costFrom 21 = .ok (.ireturn, 1) := by decide +kernel
theorem dX3_costFrom_22 : decode cX3_costFrom 22 = .ok (.iload 5, 2) := by decide +kernel
theorem dX3_costFrom_24 : decode cX3_costFrom 24 = .ok (.iload 6, 2) := by decide +kernel
theorem dX3_costFrom_26 : decode cX3_costFrom 26 = .ok (.if_icmp .ne 10, 3) := by decide +kernel
theorem dX3_costFrom_29 : decode cX3_costFrom 29 = .ok (.iload_n 2, 1) := by decide +kernel
theorem dX3_costFrom_30 : decode cX3_costFrom 30 = .ok (.iload 4, 2) := by decide +kernel
theorem dX3_costFrom_32 : decode cX3_costFrom 32 = .ok (.isub, 1) := by decide +kernel
theorem dX3_costFrom_33 : decode cX3_costFrom 33 = .ok (.iload_n 3, 1) := by decide +kernel
theorem dX3_costFrom_34 : decode cX3_costFrom 34 = .ok (.imul, 1) := by decide +kernel
theorem dX3_costFrom_35 : decode cX3_costFrom 35 = .ok (.ireturn, 1) := by decide +kernel
theorem dX3_costFrom_36 : decode cX3_costFrom 36 = .ok (.aload_n 0, 1) := by decide +kernel
theorem dX3_costFrom_37 : decode cX3_costFrom 37 = .ok (.getfield 19, 3) := by decide +kernel
theorem dX3_costFrom_40 : decode cX3_costFrom 40 = .ok (.iload 4, 2) := by decide +kernel
theorem dX3_costFrom_42 : decode cX3_costFrom 42 = .ok (.iconst 1, 1) := by decide +kernel
theorem dX3_costFrom_43 : decode cX3_costFrom 43 = .ok (.iadd, 1) := by decide +kernel
theorem dX3_costFrom_44 : decode cX3_costFrom 44 = .ok (.bipush 49, 2) := by decide +kernel
theorem dX3_costFrom_46 : decode cX3_costFrom 46 = .ok (.imul, 1) := by decide +kernel
theorem dX3_costFrom_47 : decode cX3_costFrom 47 = .ok (.iload 5, 2) := by decide +kernel
theorem dX3_costFrom_49 : decode cX3_costFrom 49 = .ok (.iadd, 1) := by decide +kernel
theorem dX3_costFrom_50 : decode cX3_costFrom 50 = .ok (.iaload, 1) := by decide +kernel
theorem dX3_costFrom_51 : decode cX3_costFrom 51 = .ok (.aload_n 0, 1) := by decide +kernel
theorem dX3_costFrom_52 : decode cX3_costFrom 52 = .ok (.getfield 19, 3) := by decide +kernel
theorem dX3_costFrom_55 : decode cX3_costFrom 55 = .ok (.iload 4, 2) := by decide +kernel
theorem dX3_costFrom_57 : decode cX3_costFrom 57 = .ok (.bipush 49, 2) := by decide +kernel
theorem dX3_costFrom_59 : decode cX3_costFrom 59 = .ok (.imul, 1) := by decide +kernel
theorem dX3_costFrom_60 : decode cX3_costFrom 60 = .ok (.iload 5, 2) := by decide +kernel
theorem dX3_costFrom_62 : decode cX3_costFrom 62 = .ok (.iadd, 1) := by decide +kernel
theorem dX3_costFrom_63 : decode cX3_costFrom 63 = .ok (.iconst 1, 1) := by decide +kernel
theorem dX3_costFrom_64 : decode cX3_costFrom 64 = .ok (.iadd, 1) := by decide +kernel
theorem dX3_costFrom_65 : decode cX3_costFrom 65 = .ok (.iaload, 1) := by decide +kernel
theorem dX3_costFrom_66 : decode cX3_costFrom 66 = .ok (.invokestatic 39, 3) := by decide +kernel
theorem dX3_costFrom_69 : decode cX3_costFrom 69 = .ok (.iload_n 3, 1) := by decide +kernel
theorem dX3_costFrom_70 : decode cX3_costFrom 70 = .ok (.iadd, 1) := by decide +kernel
theorem dX3_costFrom_71 : decode cX3_costFrom 71 = .ok (.istore 7, 2) := by decide +kernel
theorem dX3_costFrom_73 : decode cX3_costFrom 73 = .ok (.iload 7, 2) := by decide +kernel
theorem dX3_costFrom_75 : decode cX3_costFrom 75 = .ok (.aload_n 0, 1) := by decide +kernel
theorem dX3_costFrom_76 : decode cX3_costFrom 76 = .ok (.aload_n 1, 1) := by decide +kernel
theorem dX3_costFrom_77 : decode cX3_costFrom 77 = .ok (.iload_n 2, 1) := by decide +kernel
theorem dX3_costFrom_78 : decode cX3_costFrom 78 = .ok (.iload 4, 2) := by decide +kernel
theorem dX3_costFrom_80 : decode cX3_costFrom 80 = .ok (.iload 5, 2) := by decide +kernel
theorem dX3_costFrom_82 : decode cX3_costFrom 82 = .ok (.invokevirtual 45, 3) := by decide +kernel
theorem dX3_costFrom_85 : decode cX3_costFrom 85 = .ok (.invokestatic 39, 3) := by decide +kernel
theorem dX3_costFrom_88 : decode cX3_costFrom 88 = .ok (.ireturn, 1) := by decide +kernel
def X_LN_costFrom (a2 : Int32) (a3 : Int32) (a4 : Int32) (a5 : Int32) (u : xs_St) (K : Int32 → xs_St → Prop) : Prop :=
  ∀ y_1 : Int32, y_1 = ((xi u 101) - a2) → ((¬ a4 = a2 → ((¬ a5 = y_1 → (vp_in (((a4 + (1 : Int32)) * (49 : Int32)) + a5) 2401 ∧ ∀ y_2 : Int32, y_2 = xa u 902 ((((a4 + (1 : Int32)) * (49 : Int32)) + a5)).toNatClampNeg → (vp_in (((a4 * (49 : Int32)) + a5) + (1 : Int32)) 2401 ∧ ∀ y_3 : Int32, y_3 = xa u 902 ((((a4 * (49 : Int32)) + a5) + (1 : Int32))).toNatClampNeg → ∀ y_4 : Int32, y_4 = ((if y_3 < y_2 then y_3 else y_2) + a3) → X_LN_costPaired a2 a4 a5 u (fun r_6 u_5 => K (if r_6 < y_4 then r_6 else y_4) u_5)))) ∧ (a5 = y_1 → K ((a2 - a4) * a3) u))) ∧ (a4 = a2 → K ((y_1 - a5) * a3) u))
set_option maxHeartbeats 4000000 in
set_option maxRecDepth 100000 in
theorem X_LN_costFrom_c {l : Launch} {dC : Nat → ClassId} {dI : Nat → Nat → Nat} {cs : Nat → ClassId} {ad : Nat → Nat} {q v : Nat → Nat} {a2 : Int32} {a3 : Int32} {a4 : Int32} {a5 : Int32} {u : xs_St} {K : Int32 → xs_St → Prop} (hf : X_LN_costFrom a2 a3 a4 a5 u K) : th_Ci l yX3_costFrom cX3_costFrom 8 (some .int) 3 0 0 (dC, dI) (th_ty cs) (xE ad) (wX cs ad q v v) [.ref (q 999), .ref (q 199), .int a2, .int a3, .int a4, .int a5] u K := by
  refine th_ofi (by decide) (Nat.le_of_ble_eq_true rfl) (xE_ok ad) ?_
  intro p e s m below meth c A ls C hw hl
  have C : th_Cx p s m _ meth c cX3_costFrom RX3 8 (some .int) (dC, dI) (th_ty cs) (xE ad) A := C
  have hl : lv_has ls 8 [(0, .ref (q 999)), (1, .ref (q 199)), (2, .int a2), (3, .int a3), (4, .int a4), (5, .int a5)] := hl
  generalize (List.toArray _ : Array Value) = args at C ⊢
  have hx := C.1
  have hb := C.2.1
  unfold X_LN_costFrom at hf
  refine lv_aload_n hx hb dX3_costFrom_0 rfl (lv_at hl 1 rfl) ?_
  refine xgn_101 C hw (va_Nw.use rfl (xN C hwG_X3_22)) dX3_costFrom_1 ?_
  refine lv_iload_n hx hb dX3_costFrom_4 rfl (lv_at hl 2 rfl) ?_
  refine lv_isub hx hb dX3_costFrom_5 ?_
  refine lv_topi (fun y_1 e9 => ?_)
  replace hf := hf y_1 e9
  clear e9
  refine lv_istore (lv' := [(6, .int y_1), (0, .ref (q 999)), (1, .ref (q 199)), (2, .int a2), (3, .int a3), (4, .int a4), (5, .int a5)]) hx hb dX3_costFrom_6 hl (by decide) rfl (fun ls hl => ?_)
  refine lv_iload hx hb dX3_costFrom_8 (lv_at hl 5 rfl) ?_
  refine lv_iload_n hx hb dX3_costFrom_10 rfl (lv_at hl 3 rfl) ?_
  refine lv_icmp_ne (tgt := 22) hx hb dX3_costFrom_11 (by decide) (fun hc => ?_) (fun hc => ?_)
  · replace hf := hf.1 hc
    clear hc
    refine lv_iload hx hb dX3_costFrom_22 (lv_at hl 6 rfl) ?_
    refine lv_iload hx hb dX3_costFrom_24 (lv_at hl 0 rfl) ?_
    refine lv_icmp_ne (tgt := 36) hx hb dX3_costFrom_26 (by decide) (fun hc => ?_) (fun hc => ?_)
    · replace hf := hf.1 hc
      clear hc
      refine lv_aload_n hx hb dX3_costFrom_36 rfl (lv_at hl 1 rfl) ?_
      refine xg_902 C hw (C.2.2.2.2.1 _ hwF_X3_19) dX3_costFrom_37 ?_
      refine lv_iload hx hb dX3_costFrom_40 (lv_at hl 5 rfl) ?_
      refine lv_iconst (v := (1 : Int32)) hx hb dX3_costFrom_42 (by decide) ?_
      refine lv_iadd hx hb dX3_costFrom_43 ?_
      refine lv_bipush (v := (49 : Int32)) hx hb dX3_costFrom_44 (by decide) ?_
      refine lv_imul hx hb dX3_costFrom_46 ?_
      refine lv_iload hx hb dX3_costFrom_47 (lv_at hl 6 rfl) ?_
      refine lv_iadd hx hb dX3_costFrom_49 ?_
      refine yl_902 C hw hf.1 dX3_costFrom_50 (fun y_2 e9 => ?_)
      replace hf := hf.2 y_2 e9
      clear e9
      refine lv_aload_n hx hb dX3_costFrom_51 rfl (lv_at hl 1 rfl) ?_
      refine xg_902 C hw (C.2.2.2.2.1 _ hwF_X3_19) dX3_costFrom_52 ?_
      refine lv_iload hx hb dX3_costFrom_55 (lv_at hl 5 rfl) ?_
      refine lv_bipush (v := (49 : Int32)) hx hb dX3_costFrom_57 (by decide) ?_
      refine lv_imul hx hb dX3_costFrom_59 ?_
      refine lv_iload hx hb dX3_costFrom_60 (lv_at hl 6 rfl) ?_
      refine lv_iadd hx hb dX3_costFrom_62 ?_
      refine lv_iconst (v := (1 : Int32)) hx hb dX3_costFrom_63 (by decide) ?_
      refine lv_iadd hx hb dX3_costFrom_64 ?_
      refine yl_902 C hw hf.1 dX3_costFrom_65 (fun y_3 e9 => ?_)
      replace hf := hf.2 y_3 e9
      clear e9
      refine va_mmin hx hb (C.2.2.1.trans hl.1.symm) C.2.2.2.1 (C.2.2.2.2.1 _ hwM_X3_39) (C.2.2.2.2.1 _ hwS_Math_min) (C.2.2.2.2.1 _ hwI_Math) (C.2.2.2.2.1 _ hwC_Math_min) (Nat.le_of_ble_eq_true rfl) (Nat.le_of_ble_eq_true rfl) (Nat.le_of_ble_eq_true rfl) (Nat.le_of_ble_eq_true rfl) dX3_costFrom_66 ?_
      refine lv_iload_n hx hb dX3_costFrom_69 rfl (lv_at hl 4 rfl) ?_
      refine lv_iadd hx hb dX3_costFrom_70 ?_
      refine lv_topi (fun y_4 e9 => ?_)
      replace hf := hf y_4 e9
      clear e9
      refine lv_istore (lv' := [(7, .int y_4), (6, .int y_1), (0, .ref (q 999)), (1, .ref (q 199)), (2, .int a2), (3, .int a3), (4, .int a4), (5, .int a5)]) hx hb dX3_costFrom_71 hl (by decide) rfl (fun ls hl => ?_)
      refine lv_iload hx hb dX3_costFrom_73 (lv_at hl 0 rfl) ?_
      refine lv_aload_n hx hb dX3_costFrom_75 rfl (lv_at hl 2 rfl) ?_
      refine lv_aload_n hx hb dX3_costFrom_76 rfl (lv_at hl 3 rfl) ?_
      refine lv_iload_n hx hb dX3_costFrom_77 rfl (lv_at hl 4 rfl) ?_
      refine lv_iload hx hb dX3_costFrom_78 (lv_at hl 6 rfl) ?_
      refine lv_iload hx hb dX3_costFrom_80 (lv_at hl 7 rfl) ?_
      refine th_callVi (As := [.ref (q 199), .int a2, .int a4, .int a5]) (rest := [.int y_4]) C lkX3_45 (X_LN_costPaired_c hf) hw (xRc_LN C hw) rfl rfl ⟨Nat.le_of_ble_eq_true rfl, Nat.le_of_ble_eq_true rfl⟩ hl.1 (Nat.le_of_ble_eq_true rfl) ⟨Nat.le_of_ble_eq_true rfl, Nat.le_of_ble_eq_true rfl⟩ dX3_costFrom_82 (fun r_6 u_5 H locs hf hw => ?_)
      refine va_mmin hx hb (C.2.2.1.trans hl.1.symm) C.2.2.2.1 (C.2.2.2.2.1 _ hwM_X3_39) (C.2.2.2.2.1 _ hwS_Math_min) (C.2.2.2.2.1 _ hwI_Math) (C.2.2.2.2.1 _ hwC_Math_min) (Nat.le_of_ble_eq_true rfl) (Nat.le_of_ble_eq_true rfl) (Nat.le_of_ble_eq_true rfl) (Nat.le_of_ble_eq_true rfl) dX3_costFrom_85 ?_
      exact th_iret C hw hf dX3_costFrom_88
    · replace hf := hf.2 hc
      clear hc
      refine lv_iload_n hx hb dX3_costFrom_29 rfl (lv_at hl 3 rfl) ?_
      refine lv_iload hx hb dX3_costFrom_30 (lv_at hl 5 rfl) ?_
      refine lv_isub hx hb dX3_costFrom_32 ?_
      refine lv_iload_n hx hb dX3_costFrom_33 rfl (lv_at hl 4 rfl) ?_
      refine lv_imul hx hb dX3_costFrom_34 ?_
      exact th_iret C hw hf dX3_costFrom_35
  · replace hf := hf.2 hc
    clear hc
    refine lv_iload hx hb dX3_costFrom_14 (lv_at hl 0 rfl) ?_
    refine lv_iload hx hb dX3_costFrom_16 (lv_at hl 6 rfl) ?_
    refine lv_isub hx hb dX3_costFrom_18 ?_
    refine lv_iload_n hx hb dX3_costFrom_19 rfl (lv_at hl 4 rfl) ?_
    refine lv_imul hx hb dX3_costFrom_20 ?_
    exact th_iret C hw hf dX3_costFrom_21
/-! X_LN_notePairs -/
theorem dX3_notePairs_0 : decode cX3_notePairs 0 = .ok (.aload_n 1, 1) := by decide +kernel
theorem dX3_notePairs_1 : decode cX3_notePairs 1 = .ok (.getfield 22, 3) := by decide +kernel
theorem dX3_notePairs_4 : decode cX3_notePairs 4 = .ok (.iload_n 2, 1) := by decide +kernel
theorem dX3_notePairs_5 : decode cX3_notePairs 5 = .ok (.isub, 1) := by decide +kernel
theorem dX3_notePairs_6 : decode cX3_notePairs 6 = .ok (.istore 4, 2) := by decide +kernel
theorem dX3_notePairs_8 : decode cX3_notePairs 8 = .ok (.aload_n 0, 1) := by decide +kernel
theorem dX3_notePairs_9 : decode cX3_notePairs 9 = .ok (.iload_n 2, 1) := by decide +kernel
theorem dX3_notePairs_10 : decode cX3_notePairs 10 = .ok (.putfield 15, 3) := by decide +kernel
theorem dX3_notePairs_13 : decode cX3_notePairs 13 = .ok (.aload_n 0, 1) := by decide +kernel
theorem dX3_notePairs_14 : decode cX3_notePairs 14 = .ok (.getfield 11, 3) := by decide +kernel
theorem dX3_notePairs_17 : decode cX3_notePairs 17 = .ok (.iconst (-1), 1) := by decide +kernel
theorem dX3_notePairs_18 : decode cX3_notePairs 18 = .ok (.invokestatic 56, 3) := by decide +kernel
theorem dX3_notePairs_21 : decode cX3_notePairs 21 = .ok (.iconst 0, 1) := by decide +kernel
theorem dX3_notePairs_22 : decode cX3_notePairs 22 = .ok (.istore 5, 2) := by decide +kernel
theorem dX3_notePairs_24 : decode cX3_notePairs 24 = .ok (.iconst 0, 1) := by decide +kernel
theorem dX3_notePairs_25 : decode cX3_notePairs 25 = .ok (.istore 6, 2) := by decide +kernel
theorem dX3_notePairs_27 : decode cX3_notePairs 27 = .ok (.iload 5, 2) := by decide +kernel
theorem dX3_notePairs_29 : decode cX3_notePairs 29 = .ok (.iload_n 2, 1) := by decide +kernel
theorem dX3_notePairs_30 : decode cX3_notePairs 30 = .ok (.if_icmp .ge 92, 3) := by decide +kernel
theorem dX3_notePairs_33 : decode cX3_notePairs 33 = .ok (.iload 6, 2) := by decide +kernel
theorem dX3_notePairs_35 : decode cX3_notePairs 35 = .ok (.iload 4, 2) := by decide +kernel
theorem dX3_notePairs_37 : decode cX3_notePairs 37 = .ok (.if_icmp .ge 85, 3) := by decide +kernel
theorem dX3_notePairs_40 : decode cX3_notePairs 40 = .ok (.aload_n 0, 1) := by decide +kernel
theorem dX3_notePairs_41 : decode cX3_notePairs 41 = .ok (.getfield 19, 3) := by decide +kernel
theorem dX3_notePairs_44 : decode cX3_notePairs 44 = .ok (.iload 5, 2) := by decide +kernel
theorem dX3_notePairs_46 : decode cX3_notePairs 46 = .ok (.bipush 49, 2) := by decide +kernel
theorem dX3_notePairs_48 : decode cX3_notePairs 48 = .ok (.imul, 1) := by decide +kernel
theorem dX3_notePairs_49 : decode cX3_notePairs 49 = .ok (.iload 6, 2) := by decide +kernel
theorem dX3_notePairs_51 : decode cX3_notePairs 51 = .ok (.iadd, 1) := by decide +kernel
theorem dX3_notePairs_52 : decode cX3_notePairs 52 = .ok (.iaload, 1) := by decide +kernel
theorem dX3_notePairs_53 : decode cX3_notePairs 53 = .ok (.istore 7, 2) := by decide +kernel
theorem dX3_notePairs_55 : decode cX3_notePairs 55 = .ok (.iload 7, 2) := by decide +kernel
theorem dX3_notePairs_57 : decode cX3_notePairs 57 = .ok (.aload_n 0, 1) := by decide +kernel
theorem dX3_notePairs_58 : decode cX3_notePairs 58 = .ok (.aload_n 1, 1) := by decide +kernel
theorem dX3_notePairs_59 : decode cX3_notePairs 59 = .ok (.iload_n 2, 1) := by decide +kernel
theorem dX3_notePairs_60 : decode cX3_notePairs 60 = .ok (.iload 5, 2) := by decide +kernel
theorem dX3_notePairs_62 : decode cX3_notePairs 62 = .ok (.iload 6, 2) := by decide +kernel
theorem dX3_notePairs_64 : decode cX3_notePairs 64 = .ok (.invokevirtual 45, 3) := by decide +kernel
theorem dX3_notePairs_67 : decode cX3_notePairs 67 = .ok (.if_icmp .ne 21, 3) := by decide +kernel
theorem dX3_notePairs_70 : decode cX3_notePairs 70 = .ok (.aload_n 0, 1) := by decide +kernel
theorem dX3_notePairs_71 : decode cX3_notePairs 71 = .ok (.getfield 11, 3) := by decide +kernel
theorem dX3_notePairs_74 : decode cX3_notePairs 74 = .ok (.iload 5, 2) := by decide +kernel
theorem dX3_notePairs_76 : decode cX3_notePairs 76 = .ok (.iload 6, 2) := by decide +kernel
theorem dX3_notePairs_78 : decode cX3_notePairs 78 = .ok (.iastore, 1) := by decide +kernel
theorem dX3_notePairs_79 : decode cX3_notePairs 79 = .ok (.iinc 5 1, 3) := by decide +kernel
theorem dX3_notePairs_82 : decode cX3_notePairs 82 = .ok (.iinc 6 1, 3) := by decide +kernel
theorem dX3_notePairs_85 : decode cX3_notePairs 85 = .ok (.goto 34, 3) := by decide +kernel
theorem dX3_notePairs_88 : decode cX3_notePairs 88 = .ok (.iload 7, 2) := by decide +kernel
theorem dX3_notePairs_90 : decode cX3_notePairs 90 = .ok (.aload_n 0, 1) := by decide +kernel
theorem dX3_notePairs_91 : decode cX3_notePairs 91 = .ok (.getfield 19, 3) := by decide +kernel
theorem dX3_notePairs_94 : decode cX3_notePairs 94 = .ok (.iload 5, 2) := by decide +kernel
theorem dX3_notePairs_96 : decode cX3_notePairs 96 = .ok (.iconst 1, 1) := by decide +kernel
theorem dX3_notePairs_97 : decode cX3_notePairs 97 = .ok (.iadd, 1) := by decide +kernel
theorem dX3_notePairs_98 : decode cX3_notePairs 98 = .ok (.bipush 49, 2) := by decide +kernel
theorem dX3_notePairs_100 : decode cX3_notePairs 100 = .ok (.imul, 1) := by decide +kernel
theorem dX3_notePairs_101 : decode cX3_notePairs 101 = .ok (.iload 6, 2) := by decide +kernel
theorem dX3_notePairs_103 : decode cX3_notePairs 103 = .ok (.iadd, 1) := by decide +kernel
theorem dX3_notePairs_104 : decode cX3_notePairs 104 = .ok (.iaload, 1) := by decide +kernel
theorem dX3_notePairs_105 : decode cX3_notePairs 105 = .ok (.iload_n 3, 1) := by decide +kernel
theorem dX3_notePairs_106 : decode cX3_notePairs 106 = .ok (.iadd, 1) := by decide +kernel
theorem dX3_notePairs_107 : decode cX3_notePairs 107 = .ok (.if_icmp .ne 9, 3) := by decide +kernel
theorem dX3_notePairs_110 : decode cX3_notePairs 110 = .ok (.iinc 5 1, 3) := by decide +kernel
theorem dX3_notePairs_113 : decode cX3_notePairs 113 = .ok (.goto 6, 3) := by decide +kernel
theorem dX3_notePairs_116 : decode cX3_notePairs 116 = .ok (.iinc 6 1, 3) := by decide +kernel
theorem dX3_notePairs_119 : decode cX3_notePairs 119 = .ok (.goto (-92), 3) := by decide +kernel
theorem dX3_notePairs_122 : decode cX3_notePairs 122 = .ok (.return_, 1) := by decide +kernel
def X_LN_notePairs_119 (K : xs_St → Prop) (k27 : Int32 → Int32 → Int32 → Int32 → Int32 → xs_St → Prop) (x2 : Int32) (x3 : Int32) (x4 : Int32) (x5 : Int32) (x6 : Int32) (u : xs_St) : Prop :=
  k27 x2 x3 x4 x5 x6 u
set_option maxHeartbeats 4000000 in
set_option maxRecDepth 100000 in
theorem X_LN_notePairs_119_w {K : xs_St → Prop} {k27 : Int32 → Int32 → Int32 → Int32 → Int32 → xs_St → Prop} (C : th_Cx p s m args meth c cX3_notePairs RX3 8 (none) (dC, dI) (th_ty cs) (xE ad) A) (hk27 : ∀ (x2 : Int32) (x3 : Int32) (x4 : Int32) (x5 : Int32) (x6 : Int32) (u : xs_St) (H : Heap) (locs : List Loc) (ls : Array Slot), k27 x2 x3 x4 x5 x6 u → th_wI (dC, dI) (wX cs ad q v v) A s.heap u H locs → lv_has ls 8 [(0, .ref (q 999)), (1, .ref (q 199)), (2, .int x2), (3, .int x3), (4, .int x4), (5, .int x5), (6, .int x6)] → W p l e (th_rm 3 0 0) s m args below meth c H locs 0 0 (MQ below (va_Qv K (th_Post (dC, dI) (wX cs ad q v v) A) A) args s 0 0 A) (F0 m 27 ls [])) (x2 : Int32) (x3 : Int32) (x4 : Int32) (x5 : Int32) (x6 : Int32) (u : xs_St) (H : Heap) (locs : List Loc) (ls : Array Slot) (hf : X_LN_notePairs_119 K k27 x2 x3 x4 x5 x6 u) (hw : th_wI (dC, dI) (wX cs ad q v v) A s.heap u H locs) (hl : lv_has ls 8 [(0, .ref (q 999)), (1, .ref (q 199)), (2, .int x2), (3, .int x3), (4, .int x4), (5, .int x5), (6, .int x6)]) : W p l e (th_rm 3 0 0) s m args below meth c H locs 0 0 (MQ below (va_Qv K (th_Post (dC, dI) (wX cs ad q v v) A) A) args s 0 0 A) (F0 m 119 ls []) := by
  have hx := C.1
  have hb := C.2.1
  unfold X_LN_notePairs_119 at hf
  refine lv_goto (tgt := 27) hx hb dX3_notePairs_119 (by decide) ?_
  exact hk27 x2 x3 x4 x5 x6 u _ _ _ hf hw (lv_sub hl [0, 1, 2, 3, 4, 5, 6] rfl)
def X_LN_notePairs_122 (K : xs_St → Prop) (u : xs_St) : Prop :=
  K u
set_option maxHeartbeats 4000000 in
set_option maxRecDepth 100000 in
theorem X_LN_notePairs_122_w {K : xs_St → Prop} (C : th_Cx p s m args meth c cX3_notePairs RX3 8 (none) (dC, dI) (th_ty cs) (xE ad) A) (u : xs_St) (H : Heap) (locs : List Loc) (ls : Array Slot) (hf : X_LN_notePairs_122 K u) (hw : th_wI (dC, dI) (wX cs ad q v v) A s.heap u H locs) (hl : lv_has ls 8 []) : W p l e (th_rm 3 0 0) s m args below meth c H locs 0 0 (MQ below (va_Qv K (th_Post (dC, dI) (wX cs ad q v v) A) A) args s 0 0 A) (F0 m 122 ls []) := by
  have hx := C.1
  have hb := C.2.1
  unfold X_LN_notePairs_122 at hf
  exact th_vret C hw hf dX3_notePairs_122
def X_LN_notePairs_27 (K : xs_St → Prop) (k27 : Int32 → Int32 → Int32 → Int32 → Int32 → xs_St → Prop) (x2 : Int32) (x3 : Int32) (x4 : Int32) (x5 : Int32) (x6 : Int32) (u : xs_St) : Prop :=
  ((x2 ≤ x5 → X_LN_notePairs_122 K u) ∧ (¬ x2 ≤ x5 → ((x4 ≤ x6 → X_LN_notePairs_122 K u) ∧ (¬ x4 ≤ x6 → (vp_in ((x5 * (49 : Int32)) + x6) 2401 ∧ ∀ y_1 : Int32, y_1 = xa u 902 (((x5 * (49 : Int32)) + x6)).toNatClampNeg → X_LN_costPaired x2 x5 x6 u (fun r_3 u_2 => ((¬ y_1 = r_3 → (vp_in (((x5 + (1 : Int32)) * (49 : Int32)) + x6) 2401 ∧ ∀ y_4 : Int32, y_4 = xa u_2 902 ((((x5 + (1 : Int32)) * (49 : Int32)) + x6)).toNatClampNeg → ((¬ y_1 = (y_4 + x3) → ∀ x6_5 : Int32, x6_5 = x6 + (1 : Int32) → X_LN_notePairs_119 K k27 x2 x3 x4 x5 x6_5 u_2) ∧ (y_1 = (y_4 + x3) → ∀ x5_6 : Int32, x5_6 = x5 + (1 : Int32) → X_LN_notePairs_119 K k27 x2 x3 x4 x5_6 x6 u_2)))) ∧ (y_1 = r_3 → (vp_in x5 48 ∧ ∀ u_7 : xs_St, u_7 = xs_sa u_2 900 (upd (xa u_2 900) (x5).toNatClampNeg x6) → ∀ x5_8 : Int32, x5_8 = x5 + (1 : Int32) → ∀ x6_9 : Int32, x6_9 = x6 + (1 : Int32) → X_LN_notePairs_119 K k27 x2 x3 x4 x5_8 x6_9 u_7)))))))))
set_option maxHeartbeats 4000000 in
set_option maxRecDepth 100000 in
theorem X_LN_notePairs_27_w {K : xs_St → Prop} {k27 : Int32 → Int32 → Int32 → Int32 → Int32 → xs_St → Prop} (C : th_Cx p s m args meth c cX3_notePairs RX3 8 (none) (dC, dI) (th_ty cs) (xE ad) A) (hk27 : ∀ (x2 : Int32) (x3 : Int32) (x4 : Int32) (x5 : Int32) (x6 : Int32) (u : xs_St) (H : Heap) (locs : List Loc) (ls : Array Slot), k27 x2 x3 x4 x5 x6 u → th_wI (dC, dI) (wX cs ad q v v) A s.heap u H locs → lv_has ls 8 [(0, .ref (q 999)), (1, .ref (q 199)), (2, .int x2), (3, .int x3), (4, .int x4), (5, .int x5), (6, .int x6)] → W p l e (th_rm 3 0 0) s m args below meth c H locs 0 0 (MQ below (va_Qv K (th_Post (dC, dI) (wX cs ad q v v) A) A) args s 0 0 A) (F0 m 27 ls [])) (x2 : Int32) (x3 : Int32) (x4 : Int32) (x5 : Int32) (x6 : Int32) (u : xs_St) (H : Heap) (locs : List Loc) (ls : Array Slot) (hf : X_LN_notePairs_27 K k27 x2 x3 x4 x5 x6 u) (hw : th_wI (dC, dI) (wX cs ad q v v) A s.heap u H locs) (hl : lv_has ls 8 [(0, .ref (q 999)), (1, .ref (q 199)), (2, .int x2), (3, .int x3), (4, .int x4), (5, .int x5), (6, .int x6)]) : W p l e (th_rm 3 0 0) s m args below meth c H locs 0 0 (MQ below (va_Qv K (th_Post (dC, dI) (wX cs ad q v v) A) A) args s 0 0 A) (F0 m 27 ls []) := by
  have hx := C.1
  have hb := C.2.1
  unfold X_LN_notePairs_27 at hf
  refine lv_iload hx hb dX3_notePairs_27 (lv_at hl 5 rfl) ?_
  refine lv_iload_n hx hb dX3_notePairs_29 rfl (lv_at hl 2 rfl) ?_
  refine lv_icmp_ge (tgt := 122) hx hb dX3_notePairs_30 (by decide) (fun hc => ?_) (fun hc => ?_)
  · replace hf := hf.1 hc
    clear hc
    exact X_LN_notePairs_122_w C  u _ _ _ hf hw (lv_sub hl [] rfl)
  · replace hf := hf.2 hc
    clear hc
    refine lv_iload hx hb dX3_notePairs_33 (lv_at hl 6 rfl) ?_
    refine lv_iload hx hb dX3_notePairs_35 (lv_at hl 4 rfl) ?_
    refine lv_icmp_ge (tgt := 122) hx hb dX3_notePairs_37 (by decide) (fun hc => ?_) (fun hc => ?_)
    · replace hf := hf.1 hc
      clear hc
      exact X_LN_notePairs_122_w C  u _ _ _ hf hw (lv_sub hl [] rfl)
    · replace hf := hf.2 hc
      clear hc
      refine lv_aload_n hx hb dX3_notePairs_40 rfl (lv_at hl 0 rfl) ?_
      refine xg_902 C hw (C.2.2.2.2.1 _ hwF_X3_19) dX3_notePairs_41 ?_
      refine lv_iload hx hb dX3_notePairs_44 (lv_at hl 5 rfl) ?_
      refine lv_bipush (v := (49 : Int32)) hx hb dX3_notePairs_46 (by decide) ?_
      refine lv_imul hx hb dX3_notePairs_48 ?_
      refine lv_iload hx hb dX3_notePairs_49 (lv_at hl 6 rfl) ?_
      refine lv_iadd hx hb dX3_notePairs_51 ?_
      refine yl_902 C hw hf.1 dX3_notePairs_52 (fun y_1 e9 => ?_)
      replace hf := hf.2 y_1 e9
      clear e9
      refine lv_istore (lv' := [(7, .int y_1), (0, .ref (q 999)), (1, .ref (q 199)), (2, .int x2), (3, .int x3), (4, .int x4), (5, .int x5), (6, .int x6)]) hx hb dX3_notePairs_53 hl (by decide) rfl (fun ls hl => ?_)
      refine lv_iload hx hb dX3_notePairs_55 (lv_at hl 0 rfl) ?_
      refine lv_aload_n hx hb dX3_notePairs_57 rfl (lv_at hl 1 rfl) ?_
      refine lv_aload_n hx hb dX3_notePairs_58 rfl (lv_at hl 2 rfl) ?_
      refine lv_iload_n hx hb dX3_notePairs_59 rfl (lv_at hl 3 rfl) ?_
      refine lv_iload hx hb dX3_notePairs_60 (lv_at hl 6 rfl) ?_
      refine lv_iload hx hb dX3_notePairs_62 (lv_at hl 7 rfl) ?_
      refine th_callVi (As := [.ref (q 199), .int x2, .int x5, .int x6]) (rest := [.int y_1]) C lkX3_45 (X_LN_costPaired_c hf) hw (xRc_LN C hw) rfl rfl ⟨Nat.le_of_ble_eq_true rfl, Nat.le_of_ble_eq_true rfl⟩ hl.1 (Nat.le_of_ble_eq_true rfl) ⟨Nat.le_of_ble_eq_true rfl, Nat.le_of_ble_eq_true rfl⟩ dX3_notePairs_64 (fun r_3 u_2 H locs hf hw => ?_)
      refine lv_icmp_ne (tgt := 88) hx hb dX3_notePairs_67 (by decide) (fun hc => ?_) (fun hc => ?_)
      · replace hf := hf.1 hc
        clear hc
        refine lv_iload hx hb dX3_notePairs_88 (lv_at hl 0 rfl) ?_
        refine lv_aload_n hx hb dX3_notePairs_90 rfl (lv_at hl 1 rfl) ?_
        refine xg_902 C hw (C.2.2.2.2.1 _ hwF_X3_19) dX3_notePairs_91 ?_
        refine lv_iload hx hb dX3_notePairs_94 (lv_at hl 6 rfl) ?_
        refine lv_iconst (v := (1 : Int32)) hx hb dX3_notePairs_96 (by decide) ?_
        refine lv_iadd hx hb dX3_notePairs_97 ?_
        refine lv_bipush (v := (49 : Int32)) hx hb dX3_notePairs_98 (by decide) ?_
        refine lv_imul hx hb dX3_notePairs_100 ?_
        refine lv_iload hx hb dX3_notePairs_101 (lv_at hl 7 rfl) ?_
        refine lv_iadd hx hb dX3_notePairs_103 ?_
        refine yl_902 C hw hf.1 dX3_notePairs_104 (fun y_4 e9 => ?_)
        replace hf := hf.2 y_4 e9
        clear e9
        refine lv_iload_n hx hb dX3_notePairs_105 rfl (lv_at hl 4 rfl) ?_
        refine lv_iadd hx hb dX3_notePairs_106 ?_
        refine lv_icmp_ne (tgt := 116) hx hb dX3_notePairs_107 (by decide) (fun hc => ?_) (fun hc => ?_)
        · replace hf := hf.1 hc
          clear hc
          obtain ⟨x6_5, e9⟩ : ∃ y : Int32, y = x6 + (1 : Int32) := ⟨_, rfl⟩
          replace hf := hf x6_5 e9
          refine lv_iinc (v := x6_5) (lv' := [(6, .int x6_5), (7, .int y_1), (0, .ref (q 999)), (1, .ref (q 199)), (2, .int x2), (3, .int x3), (4, .int x4), (5, .int x5)]) hx hb dX3_notePairs_116 hl (k := 7) rfl (by rw [e9]; rfl) (by decide) rfl (fun ls hl => ?_)
          clear e9
          exact X_LN_notePairs_119_w C hk27 x2 x3 x4 x5 x6_5 u_2 _ _ _ hf hw (lv_sub hl [2, 3, 4, 5, 6, 7, 0] rfl)
        · replace hf := hf.2 hc
          clear hc
          obtain ⟨x5_6, e9⟩ : ∃ y : Int32, y = x5 + (1 : Int32) := ⟨_, rfl⟩
          replace hf := hf x5_6 e9
          refine lv_iinc (v := x5_6) (lv' := [(5, .int x5_6), (7, .int y_1), (0, .ref (q 999)), (1, .ref (q 199)), (2, .int x2), (3, .int x3), (4, .int x4), (6, .int x6)]) hx hb dX3_notePairs_110 hl (k := 6) rfl (by rw [e9]; rfl) (by decide) rfl (fun ls hl => ?_)
          clear e9
          refine lv_goto (tgt := 119) hx hb dX3_notePairs_113 (by decide) ?_
          exact X_LN_notePairs_119_w C hk27 x2 x3 x4 x5_6 x6 u_2 _ _ _ hf hw (lv_sub hl [2, 3, 4, 5, 6, 0, 7] rfl)
      · replace hf := hf.2 hc
        clear hc
        refine lv_aload_n hx hb dX3_notePairs_70 rfl (lv_at hl 1 rfl) ?_
        refine xg_900 C hw (C.2.2.2.2.1 _ hwF_X3_11) dX3_notePairs_71 ?_
        refine lv_iload hx hb dX3_notePairs_74 (lv_at hl 6 rfl) ?_
        refine lv_iload hx hb dX3_notePairs_76 (lv_at hl 7 rfl) ?_
        refine ys_900 C hw hf.1 dX3_notePairs_78 (fun u_7 e9 H locs hw => ?_)
        replace hf := hf.2 u_7 e9
        clear e9
        obtain ⟨x5_8, e9⟩ : ∃ y : Int32, y = x5 + (1 : Int32) := ⟨_, rfl⟩
        replace hf := hf x5_8 e9
        refine lv_iinc (v := x5_8) (lv' := [(5, .int x5_8), (7, .int y_1), (0, .ref (q 999)), (1, .ref (q 199)), (2, .int x2), (3, .int x3), (4, .int x4), (6, .int x6)]) hx hb dX3_notePairs_79 hl (k := 6) rfl (by rw [e9]; rfl) (by decide) rfl (fun ls hl => ?_)
        clear e9
        obtain ⟨x6_9, e9⟩ : ∃ y : Int32, y = x6 + (1 : Int32) := ⟨_, rfl⟩
        replace hf := hf x6_9 e9
        refine lv_iinc (v := x6_9) (lv' := [(6, .int x6_9), (5, .int x5_8), (7, .int y_1), (0, .ref (q 999)), (1, .ref (q 199)), (2, .int x2), (3, .int x3), (4, .int x4)]) hx hb dX3_notePairs_82 hl (k := 7) rfl (by rw [e9]; rfl) (by decide) rfl (fun ls hl => ?_)
        clear e9
        refine lv_goto (tgt := 119) hx hb dX3_notePairs_85 (by decide) ?_
        exact X_LN_notePairs_119_w C hk27 x2 x3 x4 x5_8 x6_9 u_7 _ _ _ hf hw (lv_sub hl [3, 4, 5, 6, 7, 1, 0] rfl)
def X_LN_notePairs_27_lp (K : xs_St → Prop) : Nat → Int32 → Int32 → Int32 → Int32 → Int32 → xs_St → Prop
  | 0, _, _, _, _, _, _ => False
  | n + 1, x2, x3, x4, x5, x6, u => X_LN_notePairs_27 K (X_LN_notePairs_27_lp K n) x2 x3 x4 x5 x6 u
set_option maxHeartbeats 4000000 in
set_option maxRecDepth 100000 in
theorem X_LN_notePairs_27_lw {K : xs_St → Prop} (C : th_Cx p s m args meth c cX3_notePairs RX3 8 (none) (dC, dI) (th_ty cs) (xE ad) A) (n : Nat) : ∀ (x2 : Int32) (x3 : Int32) (x4 : Int32) (x5 : Int32) (x6 : Int32) (u : xs_St) (H : Heap) (locs : List Loc) (ls : Array Slot), X_LN_notePairs_27_lp K n x2 x3 x4 x5 x6 u → th_wI (dC, dI) (wX cs ad q v v) A s.heap u H locs → lv_has ls 8 [(0, .ref (q 999)), (1, .ref (q 199)), (2, .int x2), (3, .int x3), (4, .int x4), (5, .int x5), (6, .int x6)] → W p l e (th_rm 3 0 0) s m args below meth c H locs 0 0 (MQ below (va_Qv K (th_Post (dC, dI) (wX cs ad q v v) A) A) args s 0 0 A) (F0 m 27 ls []) := by
  induction n with
  | zero => intro x2 x3 x4 x5 x6 u H locs ls hf; exact hf.elim
  | succ n ih =>
    intro x2 x3 x4 x5 x6 u H locs ls hf hw hl
    exact X_LN_notePairs_27_w C ih x2 x3 x4 x5 x6 u H locs ls hf hw hl
def X_LN_notePairs (a2 : Int32) (a3 : Int32) (u : xs_St) (K : xs_St → Prop) : Prop :=
  ∀ y_1 : Int32, y_1 = ((xi u 101) - a2) → ∀ u_2 : xs_St, u_2 = xs_si u 901 a2 → X_J_fill_53178_900 (-1 : Int32) u_2 (fun u_3 => ∃ n, X_LN_notePairs_27_lp K n a2 a3 y_1 (0 : Int32) (0 : Int32) u_3)
set_option maxHeartbeats 4000000 in
set_option maxRecDepth 100000 in
theorem X_LN_notePairs_c {l : Launch} {dC : Nat → ClassId} {dI : Nat → Nat → Nat} {cs : Nat → ClassId} {ad : Nat → Nat} {q v : Nat → Nat} {a2 : Int32} {a3 : Int32} {u : xs_St} {K : xs_St → Prop} (hf : X_LN_notePairs a2 a3 u K) : th_Cv l yX3_notePairs cX3_notePairs 8 (none) 3 0 0 (dC, dI) (th_ty cs) (xE ad) (wX cs ad q v v) [.ref (q 999), .ref (q 199), .int a2, .int a3] u K := by
  refine th_ofv (by decide) (Nat.le_of_ble_eq_true rfl) (xE_ok ad) ?_
  intro p e s m below meth c A ls C hw hl
  have C : th_Cx p s m _ meth c cX3_notePairs RX3 8 (none) (dC, dI) (th_ty cs) (xE ad) A := C
  have hl : lv_has ls 8 [(0, .ref (q 999)), (1, .ref (q 199)), (2, .int a2), (3, .int a3)] := hl
  generalize (List.toArray _ : Array Value) = args at C ⊢
  have hx := C.1
  have hb := C.2.1
  unfold X_LN_notePairs at hf
  refine lv_aload_n hx hb dX3_notePairs_0 rfl (lv_at hl 1 rfl) ?_
  refine xgn_101 C hw (va_Nw.use rfl (xN C hwG_X3_22)) dX3_notePairs_1 ?_
  refine lv_iload_n hx hb dX3_notePairs_4 rfl (lv_at hl 2 rfl) ?_
  refine lv_isub hx hb dX3_notePairs_5 ?_
  refine lv_topi (fun y_1 e9 => ?_)
  replace hf := hf y_1 e9
  clear e9
  refine lv_istore (lv' := [(4, .int y_1), (0, .ref (q 999)), (1, .ref (q 199)), (2, .int a2), (3, .int a3)]) hx hb dX3_notePairs_6 hl (by decide) rfl (fun ls hl => ?_)
  refine lv_aload_n hx hb dX3_notePairs_8 rfl (lv_at hl 1 rfl) ?_
  refine lv_iload_n hx hb dX3_notePairs_9 rfl (lv_at hl 3 rfl) ?_
  refine xp_901 C hw (C.2.2.2.2.1 _ hwF_X3_15) dX3_notePairs_10 (fun u_2 e9 H locs hw => ?_)
  replace hf := hf u_2 e9
  clear e9
  refine lv_aload_n hx hb dX3_notePairs_13 rfl (lv_at hl 1 rfl) ?_
  refine xg_900 C hw (C.2.2.2.2.1 _ hwF_X3_11) dX3_notePairs_14 ?_
  refine lv_iconst (v := (-1 : Int32)) hx hb dX3_notePairs_17 (by decide) ?_
  refine th_callSv (As := [.ref (q 900), .int (-1 : Int32)]) (rest := []) C lkJX3_56 (X_J_fill_53178_900_c hf) hw rfl rfl ⟨Nat.le_of_ble_eq_true rfl, Nat.le_of_ble_eq_true rfl⟩ hl.1 (Nat.le_of_ble_eq_true rfl) ⟨Nat.le_of_ble_eq_true rfl, Nat.le_of_ble_eq_true rfl⟩ dX3_notePairs_18 (fun u_3 H locs hf hw => ?_)
  refine lv_iconst (v := (0 : Int32)) hx hb dX3_notePairs_21 (by decide) ?_
  refine lv_istore (lv' := [(5, .int (0 : Int32)), (4, .int y_1), (0, .ref (q 999)), (1, .ref (q 199)), (2, .int a2), (3, .int a3)]) hx hb dX3_notePairs_22 hl (by decide) rfl (fun ls hl => ?_)
  refine lv_iconst (v := (0 : Int32)) hx hb dX3_notePairs_24 (by decide) ?_
  refine lv_istore (lv' := [(6, .int (0 : Int32)), (5, .int (0 : Int32)), (4, .int y_1), (0, .ref (q 999)), (1, .ref (q 199)), (2, .int a2), (3, .int a3)]) hx hb dX3_notePairs_25 hl (by decide) rfl (fun ls hl => ?_)
  obtain ⟨n, hf⟩ := hf
  exact X_LN_notePairs_27_lw C n a2 a3 y_1 (0 : Int32) (0 : Int32) u_3 _ _ _ hf hw (lv_sub hl [3, 4, 5, 6, 2, 1, 0] rfl)
/-! X_TH_placeGauges -/
theorem dX11_placeGauges_0 : decode cX11_placeGauges 0 = .ok (.aload_n 0, 1) := by decide +kernel
theorem dX11_placeGauges_1 : decode cX11_placeGauges 1 = .ok (.iconst 0, 1) := by decide +kernel
theorem dX11_placeGauges_2 : decode cX11_placeGauges 2 = .ok (.putfield 62, 3) := by decide +kernel
theorem dX11_placeGauges_5 : decode cX11_placeGauges 5 = .ok (.iconst (-1), 1) := by decide +kernel
theorem dX11_placeGauges_6 : decode cX11_placeGauges 6 = .ok (.istore_n 1, 1) := by decide +kernel
theorem dX11_placeGauges_7 : decode cX11_placeGauges 7 = .ok (.iconst 0, 1) := by decide +kernel
theorem dX11_placeGauges_8 : decode cX11_placeGauges 8 = .ok (.istore_n 2, 1) := by decide +kernel
theorem dX11_placeGauges_9 : decode cX11_placeGauges 9 = .ok (.iload_n 2, 1) := by decide +kernel
theorem dX11_placeGauges_10 : decode cX11_placeGauges 10 = .ok (.aload_n 0, 1) := by decide +kernel
theorem dX11_placeGauges_11 : decode cX11_placeGauges 11 = .ok (.getfield 69, 3) := by decide +kernel
theorem dX11_placeGauges_14 : decode cX11_placeGauges 14 = .ok (.getfield 126, 3) := by decide +kernel
theorem dX11_placeGauges_17 : decode cX11_placeGauges 17 = .ok (.if_icmp .ge 46, 3) := by decide +kernel
theorem dX11_placeGauges_20 : decode cX11_placeGauges 20 = .ok (.iload_n 2, 1) := by decide +kernel
theorem dX11_placeGauges_21 : decode cX11_placeGauges 21 = .ok (.bipush 48, 2) := by decide +kernel
theorem dX11_placeGauges_23 : decode cX11_placeGauges 23 = .ok (.if_icmp .ge 40, 3) := by decide +kernel
theorem dX11_placeGauges_26 : decode cX11_placeGauges 26 = .ok (.aload_n 0, 1) := by decide +kernel
theorem dX11_placeGauges_27 : decode cX11_placeGauges 27 = .ok (.iload_n 2, 1) := by decide +kernel
theorem dX11_placeGauges_28 : decode cX11_placeGauges 28 = .ok (.iload_n 1, 1) := by decide +kernel
theorem dX11_placeGauges_29 : decode cX11_placeGauges 29 = .ok (.invokevirtual 280, 3) := by decide +kernel
theorem dX11_placeGauges_32 : decode cX11_placeGauges 32 = .ok (.ifCond .eq 25, 3) := by decide +kernel
theorem dX11_placeGauges_35 : decode cX11_placeGauges 35 = .ok (.aload_n 0, 1) := by decide +kernel
theorem dX11_placeGauges_36 : decode cX11_placeGauges 36 = .ok (.getfield 58, 3) := by decide +kernel
theorem dX11_placeGauges_39 : decode cX11_placeGauges 39 = .ok (.aload_n 0, 1) := by decide +kernel
theorem dX11_placeGauges_40 : decode cX11_placeGauges 40 = .ok (.getfield 62, 3) := by decide +kernel
theorem dX11_placeGauges_43 : decode cX11_placeGauges 43 = .ok (.iload_n 2, 1) := by decide +kernel
theorem dX11_placeGauges_44 : decode cX11_placeGauges 44 = .ok (.iastore, 1) := by decide +kernel
theorem dX11_placeGauges_45 : decode cX11_placeGauges 45 = .ok (.aload_n 0, 1) := by decide +kernel
theorem dX11_placeGauges_46 : decode cX11_placeGauges 46 = .ok (.dup, 1) := by decide +kernel
theorem dX11_placeGauges_47 : decode cX11_placeGauges 47 = .ok (.getfield 62, 3) := by decide +kernel
theorem dX11_placeGauges_50 : decode cX11_placeGauges 50 = .ok (.iconst 1, 1) := by decide +kernel
theorem dX11_placeGauges_51 : decode cX11_placeGauges 51 = .ok (.iadd, 1) := by decide +kernel
theorem dX11_placeGauges_52 : decode cX11_placeGauges 52 = .ok (.putfield 62, 3) := by decide +kernel
theorem dX11_placeGauges_55 : decode cX11_placeGauges 55 = .ok (.iload_n 2, 1) := by decide +kernel
theorem dX11_placeGauges_56 : decode cX11_placeGauges 56 = .ok (.istore_n 1, 1) := by decide +kernel
theorem dX11_placeGauges_57 : decode cX11_placeGauges 57 = .ok (.iinc 2 1, 3) := by decide +kernel
theorem dX11_placeGauges_60 : decode cX11_placeGauges 60 = .ok (.goto (-51), 3) := by decide +kernel
theorem dX11_placeGauges_63 : decode cX11_placeGauges 63 = .ok (.aload_n 0, 1) := by decide +kernel
theorem dX11_placeGauges_64 : decode cX11_placeGauges 64 = .ok (.getfield 62, 3) := by decide +kernel
theorem dX11_placeGauges_67 : decode cX11_placeGauges 67 = .ok (.ireturn, 1) := by decide +kernel
def X_TH_placeGauges_57 (K : Int32 → xs_St → Prop) (k9 : Int32 → Int32 → xs_St → Prop) (x1 : Int32) (x2 : Int32) (u : xs_St) : Prop :=
  ∀ x2_1 : Int32, x2_1 = x2 + (1 : Int32) → k9 x1 x2_1 u
set_option maxHeartbeats 4000000 in
set_option maxRecDepth 100000 in
theorem X_TH_placeGauges_57_w {K : Int32 → xs_St → Prop} {k9 : Int32 → Int32 → xs_St → Prop} (C : th_Cx p s m args meth c cX11_placeGauges RX11 3 (some .int) (dC, dI) (th_ty cs) (xE ad) A) (hk9 : ∀ (x1 : Int32) (x2 : Int32) (u : xs_St) (H : Heap) (locs : List Loc) (ls : Array Slot), k9 x1 x2 u → th_wI (dC, dI) (wX cs ad q v v) A s.heap u H locs → lv_has ls 3 [(0, .ref (q 99)), (1, .int x1), (2, .int x2)] → W p l e (th_rm 3 0 0) s m args below meth c H locs 0 0 (MQ below (va_Qi K (th_Post (dC, dI) (wX cs ad q v v) A) A) args s 0 0 A) (F0 m 9 ls [])) (x1 : Int32) (x2 : Int32) (u : xs_St) (H : Heap) (locs : List Loc) (ls : Array Slot) (hf : X_TH_placeGauges_57 K k9 x1 x2 u) (hw : th_wI (dC, dI) (wX cs ad q v v) A s.heap u H locs) (hl : lv_has ls 3 [(0, .ref (q 99)), (1, .int x1), (2, .int x2)]) : W p l e (th_rm 3 0 0) s m args below meth c H locs 0 0 (MQ below (va_Qi K (th_Post (dC, dI) (wX cs ad q v v) A) A) args s 0 0 A) (F0 m 57 ls []) := by
  have hx := C.1
  have hb := C.2.1
  unfold X_TH_placeGauges_57 at hf
  obtain ⟨x2_1, e9⟩ : ∃ y : Int32, y = x2 + (1 : Int32) := ⟨_, rfl⟩
  replace hf := hf x2_1 e9
  refine lv_iinc (v := x2_1) (lv' := [(2, .int x2_1), (0, .ref (q 99)), (1, .int x1)]) hx hb dX11_placeGauges_57 hl (k := 2) rfl (by rw [e9]; rfl) (by decide) rfl (fun ls hl => ?_)
  clear e9
  refine lv_goto (tgt := 9) hx hb dX11_placeGauges_60 (by decide) ?_
  exact hk9 x1 x2_1 u _ _ _ hf hw (lv_sub hl [1, 2, 0] rfl)
def X_TH_placeGauges_63 (K : Int32 → xs_St → Prop) (u : xs_St) : Prop :=
  K (xi u 8) u
set_option maxHeartbeats 4000000 in
set_option maxRecDepth 100000 in
theorem X_TH_placeGauges_63_w {K : Int32 → xs_St → Prop} (C : th_Cx p s m args meth c cX11_placeGauges RX11 3 (some .int) (dC, dI) (th_ty cs) (xE ad) A) (u : xs_St) (H : Heap) (locs : List Loc) (ls : Array Slot) (hf : X_TH_placeGauges_63 K u) (hw : th_wI (dC, dI) (wX cs ad q v v) A s.heap u H locs) (hl : lv_has ls 3 [(0, .ref (q 99))]) : W p l e (th_rm 3 0 0) s m args below meth c H locs 0 0 (MQ below (va_Qi K (th_Post (dC, dI) (wX cs ad q v v) A) A) args s 0 0 A) (F0 m 63 ls []) := by
  have hx := C.1
  have hb := C.2.1
  unfold X_TH_placeGauges_63 at hf
  refine lv_aload_n hx hb dX11_placeGauges_63 rfl (lv_at hl 0 rfl) ?_
  refine xg_8 C hw (C.2.2.2.2.1 _ hwF_X11_62) dX11_placeGauges_64 ?_
  exact th_iret C hw hf dX11_placeGauges_67
def X_TH_placeGauges_9 (K : Int32 → xs_St → Prop) (k9 : Int32 → Int32 → xs_St → Prop) (x1 : Int32) (x2 : Int32) (u : xs_St) : Prop :=
  (((xi u 300) ≤ x2 → X_TH_placeGauges_63 K u) ∧ (¬ (xi u 300) ≤ x2 → (((48 : Int32) ≤ x2 → X_TH_placeGauges_63 K u) ∧ (¬ (48 : Int32) ≤ x2 → X_TH_endsUngauged x2 x1 u (fun r_2 u_1 => ((r_2 = 0 → X_TH_placeGauges_57 K k9 x1 x2 u_1) ∧ (¬ r_2 = 0 → (vp_in (xi u_1 8) 48 ∧ ∀ u_3 : xs_St, u_3 = xs_sa u_1 7 (upd (xa u_1 7) ((xi u_1 8)).toNatClampNeg x2) → ∀ u_4 : xs_St, u_4 = xs_si u_3 8 ((xi u_3 8) + (1 : Int32)) → X_TH_placeGauges_57 K k9 x2 x2 u_4))))))))
set_option maxHeartbeats 4000000 in
set_option maxRecDepth 100000 in
theorem X_TH_placeGauges_9_w {K : Int32 → xs_St → Prop} {k9 : Int32 → Int32 → xs_St → Prop} (C : th_Cx p s m args meth c cX11_placeGauges RX11 3 (some .int) (dC, dI) (th_ty cs) (xE ad) A) (hk9 : ∀ (x1 : Int32) (x2 : Int32) (u : xs_St) (H : Heap) (locs : List Loc) (ls : Array Slot), k9 x1 x2 u → th_wI (dC, dI) (wX cs ad q v v) A s.heap u H locs → lv_has ls 3 [(0, .ref (q 99)), (1, .int x1), (2, .int x2)] → W p l e (th_rm 3 0 0) s m args below meth c H locs 0 0 (MQ below (va_Qi K (th_Post (dC, dI) (wX cs ad q v v) A) A) args s 0 0 A) (F0 m 9 ls [])) (x1 : Int32) (x2 : Int32) (u : xs_St) (H : Heap) (locs : List Loc) (ls : Array Slot) (hf : X_TH_placeGauges_9 K k9 x1 x2 u) (hw : th_wI (dC, dI) (wX cs ad q v v) A s.heap u H locs) (hl : lv_has ls 3 [(0, .ref (q 99)), (1, .int x1), (2, .int x2)]) : W p l e (th_rm 3 0 0) s m args below meth c H locs 0 0 (MQ below (va_Qi K (th_Post (dC, dI) (wX cs ad q v v) A) A) args s 0 0 A) (F0 m 9 ls []) := by
  have hx := C.1
  have hb := C.2.1
  unfold X_TH_placeGauges_9 at hf
  refine lv_iload_n hx hb dX11_placeGauges_9 rfl (lv_at hl 2 rfl) ?_
  refine lv_aload_n hx hb dX11_placeGauges_10 rfl (lv_at hl 0 rfl) ?_
  refine xg_9 C hw (C.2.2.2.2.1 _ hwF_X11_69) dX11_placeGauges_11 ?_
  refine xgn_300 C hw (va_Nw.use rfl (xN C hwG_X11_126)) dX11_placeGauges_14 ?_
  refine lv_icmp_ge (tgt := 63) hx hb dX11_placeGauges_17 (by decide) (fun hc => ?_) (fun hc => ?_)
  · replace hf := hf.1 hc
    clear hc
    exact X_TH_placeGauges_63_w C  u _ _ _ hf hw (lv_sub hl [0] rfl)
  · replace hf := hf.2 hc
    clear hc
    refine lv_iload_n hx hb dX11_placeGauges_20 rfl (lv_at hl 2 rfl) ?_
    refine lv_bipush (v := (48 : Int32)) hx hb dX11_placeGauges_21 (by decide) ?_
    refine lv_icmp_ge (tgt := 63) hx hb dX11_placeGauges_23 (by decide) (fun hc => ?_) (fun hc => ?_)
    · replace hf := hf.1 hc
      clear hc
      exact X_TH_placeGauges_63_w C  u _ _ _ hf hw (lv_sub hl [0] rfl)
    · replace hf := hf.2 hc
      clear hc
      refine lv_aload_n hx hb dX11_placeGauges_26 rfl (lv_at hl 0 rfl) ?_
      refine lv_iload_n hx hb dX11_placeGauges_27 rfl (lv_at hl 2 rfl) ?_
      refine lv_iload_n hx hb dX11_placeGauges_28 rfl (lv_at hl 1 rfl) ?_
      refine th_callVi (As := [.int x2, .int x1]) (rest := []) C lkX11_280 (X_TH_endsUngauged_c hf) hw (xRc_TH C hw) rfl rfl ⟨Nat.le_of_ble_eq_true rfl, Nat.le_of_ble_eq_true rfl⟩ hl.1 (Nat.le_of_ble_eq_true rfl) ⟨Nat.le_of_ble_eq_true rfl, Nat.le_of_ble_eq_true rfl⟩ dX11_placeGauges_29 (fun r_2 u_1 H locs hf hw => ?_)
      refine lv_if_eq (tgt := 57) hx hb dX11_placeGauges_32 (by decide) (fun hc => ?_) (fun hc => ?_)
      · replace hf := hf.1 hc
        clear hc
        exact X_TH_placeGauges_57_w C hk9 x1 x2 u_1 _ _ _ hf hw (lv_sub hl [0, 1, 2] rfl)
      · replace hf := hf.2 hc
        clear hc
        refine lv_aload_n hx hb dX11_placeGauges_35 rfl (lv_at hl 0 rfl) ?_
        refine xg_7 C hw (C.2.2.2.2.1 _ hwF_X11_58) dX11_placeGauges_36 ?_
        refine lv_aload_n hx hb dX11_placeGauges_39 rfl (lv_at hl 0 rfl) ?_
        refine xg_8 C hw (C.2.2.2.2.1 _ hwF_X11_62) dX11_placeGauges_40 ?_
        refine lv_iload_n hx hb dX11_placeGauges_43 rfl (lv_at hl 2 rfl) ?_
        refine ys_7 C hw hf.1 dX11_placeGauges_44 (fun u_3 e9 H locs hw => ?_)
        replace hf := hf.2 u_3 e9
        clear e9
        refine lv_aload_n hx hb dX11_placeGauges_45 rfl (lv_at hl 0 rfl) ?_
        refine lv_dup hx hb dX11_placeGauges_46 rfl ?_
        refine xg_8 C hw (C.2.2.2.2.1 _ hwF_X11_62) dX11_placeGauges_47 ?_
        refine lv_iconst (v := (1 : Int32)) hx hb dX11_placeGauges_50 (by decide) ?_
        refine lv_iadd hx hb dX11_placeGauges_51 ?_
        refine xp_8 C hw (C.2.2.2.2.1 _ hwF_X11_62) dX11_placeGauges_52 (fun u_4 e9 H locs hw => ?_)
        replace hf := hf u_4 e9
        clear e9
        refine lv_iload_n hx hb dX11_placeGauges_55 rfl (lv_at hl 2 rfl) ?_
        refine lv_istore_n (lv' := [(1, .int x2), (0, .ref (q 99)), (2, .int x2)]) hx hb dX11_placeGauges_56 rfl hl (by decide) rfl (fun ls hl => ?_)
        exact X_TH_placeGauges_57_w C hk9 x2 x2 u_4 _ _ _ hf hw (lv_sub hl [1, 0, 2] rfl)
def X_TH_placeGauges_9_lp (K : Int32 → xs_St → Prop) : Nat → Int32 → Int32 → xs_St → Prop
  | 0, _, _, _ => False
  | n + 1, x1, x2, u => X_TH_placeGauges_9 K (X_TH_placeGauges_9_lp K n) x1 x2 u
set_option maxHeartbeats 4000000 in
set_option maxRecDepth 100000 in
theorem X_TH_placeGauges_9_lw {K : Int32 → xs_St → Prop} (C : th_Cx p s m args meth c cX11_placeGauges RX11 3 (some .int) (dC, dI) (th_ty cs) (xE ad) A) (n : Nat) : ∀ (x1 : Int32) (x2 : Int32) (u : xs_St) (H : Heap) (locs : List Loc) (ls : Array Slot), X_TH_placeGauges_9_lp K n x1 x2 u → th_wI (dC, dI) (wX cs ad q v v) A s.heap u H locs → lv_has ls 3 [(0, .ref (q 99)), (1, .int x1), (2, .int x2)] → W p l e (th_rm 3 0 0) s m args below meth c H locs 0 0 (MQ below (va_Qi K (th_Post (dC, dI) (wX cs ad q v v) A) A) args s 0 0 A) (F0 m 9 ls []) := by
  induction n with
  | zero => intro x1 x2 u H locs ls hf; exact hf.elim
  | succ n ih =>
    intro x1 x2 u H locs ls hf hw hl
    exact X_TH_placeGauges_9_w C ih x1 x2 u H locs ls hf hw hl
def X_TH_placeGauges (u : xs_St) (K : Int32 → xs_St → Prop) : Prop :=
  ∀ u_1 : xs_St, u_1 = xs_si u 8 (0 : Int32) → ∃ n, X_TH_placeGauges_9_lp K n (-1 : Int32) (0 : Int32) u_1
set_option maxHeartbeats 4000000 in
set_option maxRecDepth 100000 in
theorem X_TH_placeGauges_c {l : Launch} {dC : Nat → ClassId} {dI : Nat → Nat → Nat} {cs : Nat → ClassId} {ad : Nat → Nat} {q v : Nat → Nat} {u : xs_St} {K : Int32 → xs_St → Prop} (hf : X_TH_placeGauges u K) : th_Ci l yX11_placeGauges cX11_placeGauges 3 (some .int) 3 0 0 (dC, dI) (th_ty cs) (xE ad) (wX cs ad q v v) [.ref (q 99)] u K := by
  refine th_ofi (by decide) (Nat.le_of_ble_eq_true rfl) (xE_ok ad) ?_
  intro p e s m below meth c A ls C hw hl
  have C : th_Cx p s m _ meth c cX11_placeGauges RX11 3 (some .int) (dC, dI) (th_ty cs) (xE ad) A := C
  have hl : lv_has ls 3 [(0, .ref (q 99))] := hl
  generalize (List.toArray _ : Array Value) = args at C ⊢
  have hx := C.1
  have hb := C.2.1
  unfold X_TH_placeGauges at hf
  refine lv_aload_n hx hb dX11_placeGauges_0 rfl (lv_at hl 0 rfl) ?_
  refine lv_iconst (v := (0 : Int32)) hx hb dX11_placeGauges_1 (by decide) ?_
  refine xp_8 C hw (C.2.2.2.2.1 _ hwF_X11_62) dX11_placeGauges_2 (fun u_1 e9 H locs hw => ?_)
  replace hf := hf u_1 e9
  clear e9
  refine lv_iconst (v := (-1 : Int32)) hx hb dX11_placeGauges_5 (by decide) ?_
  refine lv_istore_n (lv' := [(1, .int (-1 : Int32)), (0, .ref (q 99))]) hx hb dX11_placeGauges_6 rfl hl (by decide) rfl (fun ls hl => ?_)
  refine lv_iconst (v := (0 : Int32)) hx hb dX11_placeGauges_7 (by decide) ?_
  refine lv_istore_n (lv' := [(2, .int (0 : Int32)), (1, .int (-1 : Int32)), (0, .ref (q 99))]) hx hb dX11_placeGauges_8 rfl hl (by decide) rfl (fun ls hl => ?_)
  obtain ⟨n, hf⟩ := hf
  exact X_TH_placeGauges_9_lw C n (-1 : Int32) (0 : Int32) u_1 _ _ _ hf hw (lv_sub hl [2, 1, 0] rfl)
/-! X_TH_shape -/
theorem dX11_shape_0 : decode cX11_shape 0 = .ok (.aload_n 0, 1) := by decide +kernel
theorem dX11_shape_1 : decode cX11_shape 1 = .ok (.getfield 40, 3) := by decide +kernel
theorem dX11_shape_4 : decode cX11_shape 4 = .ok (.iload_n 1, 1) := by decide +kernel
theorem dX11_shape_5 : decode cX11_shape 5 = .ok (.aload_n 0, 1) := by decide +kernel
theorem dX11_shape_6 : decode cX11_shape 6 = .ok (.getfield 10, 3) := by decide +kernel
theorem dX11_shape_9 : decode cX11_shape 9 = .ok (.invokevirtual 205, 3) := by decide +kernel
theorem dX11_shape_12 : decode cX11_shape 12 = .ok (.istore_n 2, 1) := by decide +kernel
theorem dX11_shape_13 : decode cX11_shape 13 = .ok (.aload_n 0, 1) := by decide +kernel
theorem dX11_shape_14 : decode cX11_shape 14 = .ok (.getfield 10, 3) := by decide +kernel
theorem dX11_shape_17 : decode cX11_shape 17 = .ok (.invokevirtual 110, 3) := by decide +kernel
theorem dX11_shape_20 : decode cX11_shape 20 = .ok (.iload_n 2, 1) := by decide +kernel
theorem dX11_shape_21 : decode cX11_shape 21 = .ok (.ireturn, 1) := by decide +kernel
def X_TH_shape (a1 : Int32) (u : xs_St) (K : Int32 → xs_St → Prop) : Prop :=
  X_EX_takesShape a1 u (fun r_2 u_1 => X_TP_clear u_1 (fun u_3 => ((r_2 = 0 ∨ r_2 = 1) ∧ K r_2 u_3)))
set_option maxHeartbeats 4000000 in
set_option maxRecDepth 100000 in
theorem X_TH_shape_c {l : Launch} {dC : Nat → ClassId} {dI : Nat → Nat → Nat} {cs : Nat → ClassId} {ad : Nat → Nat} {q v : Nat → Nat} {a1 : Int32} {u : xs_St} {K : Int32 → xs_St → Prop} (hf : X_TH_shape a1 u K) : th_Ci l yX11_shape cX11_shape 3 (some .boolean) 3 0 0 (dC, dI) (th_ty cs) (xE ad) (wX cs ad q v v) [.ref (q 99), .int a1] u K := by
  refine th_ofi (by decide) (Nat.le_of_ble_eq_true rfl) (xE_ok ad) ?_
  intro p e s m below meth c A ls C hw hl
  have C : th_Cx p s m _ meth c cX11_shape RX11 3 (some .boolean) (dC, dI) (th_ty cs) (xE ad) A := C
  have hl : lv_has ls 3 [(0, .ref (q 99)), (1, .int a1)] := hl
  generalize (List.toArray _ : Array Value) = args at C ⊢
  have hx := C.1
  have hb := C.2.1
  unfold X_TH_shape at hf
  refine lv_aload_n hx hb dX11_shape_0 rfl (lv_at hl 0 rfl) ?_
  refine xg_4 C hw (C.2.2.2.2.1 _ hwF_X11_40) dX11_shape_1 ?_
  refine lv_iload_n hx hb dX11_shape_4 rfl (lv_at hl 1 rfl) ?_
  refine lv_aload_n hx hb dX11_shape_5 rfl (lv_at hl 0 rfl) ?_
  refine xg_0 C hw (C.2.2.2.2.1 _ hwF_X11_10) dX11_shape_6 ?_
  refine th_callVi (As := [.int a1, .ref (q 199)]) (rest := []) C lkX11_205 (X_EX_takesShape_c hf) hw (xRc_EX C hw) rfl rfl ⟨Nat.le_of_ble_eq_true rfl, Nat.le_of_ble_eq_true rfl⟩ hl.1 (Nat.le_of_ble_eq_true rfl) ⟨Nat.le_of_ble_eq_true rfl, Nat.le_of_ble_eq_true rfl⟩ dX11_shape_9 (fun r_2 u_1 H locs hf hw => ?_)
  refine lv_istore_n (lv' := [(2, .int r_2), (0, .ref (q 99)), (1, .int a1)]) hx hb dX11_shape_12 rfl hl (by decide) rfl (fun ls hl => ?_)
  refine lv_aload_n hx hb dX11_shape_13 rfl (lv_at hl 1 rfl) ?_
  refine xg_0 C hw (C.2.2.2.2.1 _ hwF_X11_10) dX11_shape_14 ?_
  refine th_callVv (As := []) (rest := []) C lkX11_110 (X_TP_clear_c hf) hw (xRc_TP C hw) rfl rfl ⟨Nat.le_of_ble_eq_true rfl, Nat.le_of_ble_eq_true rfl⟩ hl.1 (Nat.le_of_ble_eq_true rfl) ⟨Nat.le_of_ble_eq_true rfl, Nat.le_of_ble_eq_true rfl⟩ dX11_shape_17 (fun u_3 H locs hf hw => ?_)
  refine lv_iload_n hx hb dX11_shape_20 rfl (lv_at hl 0 rfl) ?_
  exact th_zret C hw hf dX11_shape_21
/-! X_T_isSo_A -/
theorem dX7_isSo_0 : decode cX7_isSo 0 = .ok (.aload_n 0, 1) := by decide +kernel
theorem dX7_isSo_1 : decode cX7_isSo 1 = .ok (.iload_n 1, 1) := by decide +kernel
theorem dX7_isSo_2 : decode cX7_isSo 2 = .ok (.aload_n 2, 1) := by decide +kernel
theorem dX7_isSo_3 : decode cX7_isSo 3 = .ok (.invokevirtual 104, 3) := by decide +kernel
theorem dX7_isSo_6 : decode cX7_isSo 6 = .ok (.istore_n 3, 1) := by decide +kernel
theorem dX7_isSo_7 : decode cX7_isSo 7 = .ok (.aload_n 0, 1) := by decide +kernel
theorem dX7_isSo_8 : decode cX7_isSo 8 = .ok (.getfield 31, 3) := by decide +kernel
theorem dX7_isSo_11 : decode cX7_isSo 11 = .ok (.iload_n 1, 1) := by decide +kernel
theorem dX7_isSo_12 : decode cX7_isSo 12 = .ok (.aaload, 1) := by decide +kernel
theorem dX7_isSo_13 : decode cX7_isSo 13 = .ok (.getstatic 108, 3) := by decide +kernel
theorem dX7_isSo_16 : decode cX7_isSo 16 = .ok (.if_acmp .ne 19, 3) := by decide +kernel
theorem dX7_isSo_19 : decode cX7_isSo 19 = .ok (.iload_n 3, 1) := by decide +kernel
theorem dX7_isSo_20 : decode cX7_isSo 20 = .ok (.aload_n 0, 1) := by decide +kernel
theorem dX7_isSo_21 : decode cX7_isSo 21 = .ok (.getfield 37, 3) := by decide +kernel
theorem dX7_isSo_24 : decode cX7_isSo 24 = .ok (.iload_n 1, 1) := by decide +kernel
theorem dX7_isSo_25 : decode cX7_isSo 25 = .ok (.iaload, 1) := by decide +kernel
theorem dX7_isSo_26 : decode cX7_isSo 26 = .ok (.if_icmp .ge 7, 3) := by decide +kernel
theorem dX7_isSo_29 : decode cX7_isSo 29 = .ok (.iconst 1, 1) := by decide +kernel
theorem dX7_isSo_30 : decode cX7_isSo 30 = .ok (.goto 4, 3) := by decide +kernel
theorem dX7_isSo_33 : decode cX7_isSo 33 = .ok (.iconst 0, 1) := by decide +kernel
theorem dX7_isSo_34 : decode cX7_isSo 34 = .ok (.ireturn, 1) := by decide +kernel
theorem dX7_isSo_35 : decode cX7_isSo 35 = .ok (.aload_n 0, 1) := by decide +kernel
theorem dX7_isSo_36 : decode cX7_isSo 36 = .ok (.getfield 31, 3) := by decide +kernel
theorem dX7_isSo_39 : decode cX7_isSo 39 = .ok (.iload_n 1, 1) := by decide +kernel
theorem dX7_isSo_40 : decode cX7_isSo 40 = .ok (.aaload, 1) := by decide +kernel
theorem dX7_isSo_41 : decode cX7_isSo 41 = .ok (.getstatic 111, 3) := by decide +kernel
theorem dX7_isSo_44 : decode cX7_isSo 44 = .ok (.if_acmp .ne 21, 3) := by decide +kernel
theorem dX7_isSo_47 : decode cX7_isSo 47 = .ok (.iload_n 3, 1) := by decide +kernel
theorem dX7_isSo_48 : decode cX7_isSo 48 = .ok (.aload_n 0, 1) := by decide +kernel
theorem dX7_isSo_49 : decode cX7_isSo 49 = .ok (.getfield 37, 3) := by decide +kernel
theorem dX7_isSo_52 : decode cX7_isSo 52 = .ok (.iload_n 1, 1) := by decide +kernel
theorem dX7_isSo_53 : decode cX7_isSo 53 = .ok (.iaload, 1) := by decide +kernel
theorem dX7_isSo_54 : decode cX7_isSo 54 = .ok (.if_icmp .ne 7, 3) := by decide +kernel
theorem dX7_isSo_57 : decode cX7_isSo 57 = .ok (.iconst 1, 1) := by decide +kernel
theorem dX7_isSo_58 : decode cX7_isSo 58 = .ok (.goto 22, 3) := by decide +kernel
theorem dX7_isSo_61 : decode cX7_isSo 61 = .ok (.iconst 0, 1) := by decide +kernel
theorem dX7_isSo_62 : decode cX7_isSo 62 = .ok (.goto 18, 3) := by decide +kernel
theorem dX7_isSo_65 : decode cX7_isSo 65 = .ok (.iload_n 3, 1) := by decide +kernel
theorem dX7_isSo_66 : decode cX7_isSo 66 = .ok (.aload_n 0, 1) := by decide +kernel
theorem dX7_isSo_67 : decode cX7_isSo 67 = .ok (.getfield 37, 3) := by decide +kernel
theorem dX7_isSo_70 : decode cX7_isSo 70 = .ok (.iload_n 1, 1) := by decide +kernel
theorem dX7_isSo_71 : decode cX7_isSo 71 = .ok (.iaload, 1) := by decide +kernel
theorem dX7_isSo_72 : decode cX7_isSo 72 = .ok (.if_icmp .le 7, 3) := by decide +kernel
theorem dX7_isSo_75 : decode cX7_isSo 75 = .ok (.iconst 1, 1) := by decide +kernel
theorem dX7_isSo_76 : decode cX7_isSo 76 = .ok (.goto 4, 3) := by decide +kernel
theorem dX7_isSo_79 : decode cX7_isSo 79 = .ok (.iconst 0, 1) := by decide +kernel
theorem dX7_isSo_80 : decode cX7_isSo 80 = .ok (.ireturn, 1) := by decide +kernel
def X_T_isSo_A_34 (K : Int32 → xs_St → Prop) (z0 : Int32) (u : xs_St) : Prop :=
  ((z0 = 0 ∨ z0 = 1) ∧ K z0 u)
set_option maxHeartbeats 4000000 in
set_option maxRecDepth 100000 in
theorem X_T_isSo_A_34_w {K : Int32 → xs_St → Prop} (C : th_Cx p s m args meth c cX7_isSo RX7 4 (some .boolean) (dC, dI) (th_ty cs) (xE ad) A) (z0 : Int32) (u : xs_St) (H : Heap) (locs : List Loc) (ls : Array Slot) (hf : X_T_isSo_A_34 K z0 u) (hw : th_wI (dC, dI) (wX cs ad q v v) A s.heap u H locs) (hl : lv_has ls 4 []) : W p l e (th_rm 3 0 0) s m args below meth c H locs 0 0 (MQ below (va_Qi K (th_Post (dC, dI) (wX cs ad q v v) A) A) args s 0 0 A) (F0 m 34 ls [.int z0]) := by
  have hx := C.1
  have hb := C.2.1
  unfold X_T_isSo_A_34 at hf
  exact th_zret C hw hf dX7_isSo_34
def X_T_isSo_A_80 (K : Int32 → xs_St → Prop) (z0 : Int32) (u : xs_St) : Prop :=
  ((z0 = 0 ∨ z0 = 1) ∧ K z0 u)
set_option maxHeartbeats 4000000 in
set_option maxRecDepth 100000 in
theorem X_T_isSo_A_80_w {K : Int32 → xs_St → Prop} (C : th_Cx p s m args meth c cX7_isSo RX7 4 (some .boolean) (dC, dI) (th_ty cs) (xE ad) A) (z0 : Int32) (u : xs_St) (H : Heap) (locs : List Loc) (ls : Array Slot) (hf : X_T_isSo_A_80 K z0 u) (hw : th_wI (dC, dI) (wX cs ad q v v) A s.heap u H locs) (hl : lv_has ls 4 []) : W p l e (th_rm 3 0 0) s m args below meth c H locs 0 0 (MQ below (va_Qi K (th_Post (dC, dI) (wX cs ad q v v) A) A) args s 0 0 A) (F0 m 80 ls [.int z0]) := by
  have hx := C.1
  have hb := C.2.1
  unfold X_T_isSo_A_80 at hf
  exact th_zret C hw hf dX7_isSo_80
def X_T_isSo_A (a1 : Int32) (a2 : Option Nat) (u : xs_St) (K : Int32 → xs_St → Prop) : Prop :=
  X_T_measure_A a1 a2 u (fun r_2 u_1 => (vp_in a1 80 ∧ ∀ y_3 : Option Nat, y_3 = xo u_1 312 (a1).toNatClampNeg → ((¬ y_3 = (some 6) → (vp_in a1 80 ∧ ∀ y_4 : Option Nat, y_4 = xo u_1 312 (a1).toNatClampNeg → ((¬ y_4 = (some 7) → (vp_in a1 80 ∧ ∀ y_5 : Int32, y_5 = xa u_1 314 (a1).toNatClampNeg → ((r_2 ≤ y_5 → X_T_isSo_A_80 K (0 : Int32) u_1) ∧ (¬ r_2 ≤ y_5 → X_T_isSo_A_80 K (1 : Int32) u_1)))) ∧ (y_4 = (some 7) → (vp_in a1 80 ∧ ∀ y_6 : Int32, y_6 = xa u_1 314 (a1).toNatClampNeg → ((¬ r_2 = y_6 → X_T_isSo_A_80 K (0 : Int32) u_1) ∧ (r_2 = y_6 → X_T_isSo_A_80 K (1 : Int32) u_1))))))) ∧ (y_3 = (some 6) → (vp_in a1 80 ∧ ∀ y_7 : Int32, y_7 = xa u_1 314 (a1).toNatClampNeg → ((y_7 ≤ r_2 → X_T_isSo_A_34 K (0 : Int32) u_1) ∧ (¬ y_7 ≤ r_2 → X_T_isSo_A_34 K (1 : Int32) u_1)))))))
set_option maxHeartbeats 4000000 in
set_option maxRecDepth 100000 in
theorem X_T_isSo_A_c {l : Launch} {dC : Nat → ClassId} {dI : Nat → Nat → Nat} {cs : Nat → ClassId} {ad : Nat → Nat} {q v : Nat → Nat} {a1 : Int32} {a2 : Option Nat} {u : xs_St} {K : Int32 → xs_St → Prop} (hf : X_T_isSo_A a1 a2 u K) : th_Ci l yX7_isSo cX7_isSo 4 (some .boolean) 3 0 0 (dC, dI) (th_ty cs) (xE ad) (wX cs ad q v v) [.ref (v 399), .int a1, va_rf a2] u K := by
  refine th_ofi (by decide) (by cases a2 <;> exact Nat.le_of_ble_eq_true rfl) (xE_ok ad) ?_
  intro p e s m below meth c A ls C hw hl
  have C : th_Cx p s m _ meth c cX7_isSo RX7 4 (some .boolean) (dC, dI) (th_ty cs) (xE ad) A := C
  have hl : lv_has ls 4 [(0, .ref (v 399)), (1, .int a1), (2, va_rf a2)] := by cases a2 <;> exact hl
  generalize (List.toArray _ : Array Value) = args at C ⊢
  have hx := C.1
  have hb := C.2.1
  unfold X_T_isSo_A at hf
  refine lv_aload_n hx hb dX7_isSo_0 rfl (lv_at hl 0 rfl) ?_
  refine lv_iload_n hx hb dX7_isSo_1 rfl (lv_at hl 1 rfl) ?_
  refine th_aload_n hx hb dX7_isSo_2 rfl (lv_at hl 2 rfl) ?_
  refine th_callVi (As := [.int a1, va_rf a2]) (rest := []) C lkX7_104 (X_T_measure_A_c hf) hw (xRc_TA C hw) rfl rfl ⟨Nat.le_of_ble_eq_true rfl, Nat.le_of_ble_eq_true rfl⟩ hl.1 (Nat.le_of_ble_eq_true rfl) ⟨Nat.le_of_ble_eq_true rfl, Nat.le_of_ble_eq_true rfl⟩ dX7_isSo_3 (fun r_2 u_1 H locs hf hw => ?_)
  refine lv_istore_n (i := 3) (lv' := [(3, .int r_2), (0, .ref (v 399)), (1, .int a1), (2, va_rf a2)]) hx hb dX7_isSo_6 rfl hl (by decide) (by simp [List.filter, th_cat, th_cate]) (fun ls hl => ?_)
  refine lv_aload_n hx hb dX7_isSo_7 rfl (lv_at hl 1 rfl) ?_
  refine xg_312 C hw (C.2.2.2.2.1 _ hwF_X7_31) dX7_isSo_8 ?_
  refine lv_iload_n hx hb dX7_isSo_11 rfl (lv_at hl 2 rfl) ?_
  refine yl_312 C hw hf.1 dX7_isSo_12 (fun y_3 e9 => ?_)
  replace hf := hf.2 y_3 e9
  clear e9
  refine xst C hw 6 (by decide) (C.2.2.2.2.1 _ hwF_X7_108) dX7_isSo_13 ?_
  refine x_acmp_ne (tgt := 35) C dX7_isSo_16 (by decide) (fun hc => ?_) (fun hc => ?_)
  · replace hf := hf.1 hc
    clear hc
    refine lv_aload_n hx hb dX7_isSo_35 rfl (lv_at hl 1 rfl) ?_
    refine xg_312 C hw (C.2.2.2.2.1 _ hwF_X7_31) dX7_isSo_36 ?_
    refine lv_iload_n hx hb dX7_isSo_39 rfl (lv_at hl 2 rfl) ?_
    refine yl_312 C hw hf.1 dX7_isSo_40 (fun y_4 e9 => ?_)
    replace hf := hf.2 y_4 e9
    clear e9
    refine xst C hw 7 (by decide) (C.2.2.2.2.1 _ hwF_X7_111) dX7_isSo_41 ?_
    refine x_acmp_ne (tgt := 65) C dX7_isSo_44 (by decide) (fun hc => ?_) (fun hc => ?_)
    · replace hf := hf.1 hc
      clear hc
      refine lv_iload_n hx hb dX7_isSo_65 rfl (lv_at hl 0 rfl) ?_
      refine lv_aload_n hx hb dX7_isSo_66 rfl (lv_at hl 1 rfl) ?_
      refine xg_314 C hw (C.2.2.2.2.1 _ hwF_X7_37) dX7_isSo_67 ?_
      refine lv_iload_n hx hb dX7_isSo_70 rfl (lv_at hl 2 rfl) ?_
      refine yl_314 C hw hf.1 dX7_isSo_71 (fun y_5 e9 => ?_)
      replace hf := hf.2 y_5 e9
      clear e9
      refine lv_icmp_le (tgt := 79) hx hb dX7_isSo_72 (by decide) (fun hc => ?_) (fun hc => ?_)
      · replace hf := hf.1 hc
        clear hc
        refine lv_iconst (v := (0 : Int32)) hx hb dX7_isSo_79 (by decide) ?_
        exact X_T_isSo_A_80_w C (0 : Int32) u_1 _ _ _ hf hw (lv_sub hl [] rfl)
      · replace hf := hf.2 hc
        clear hc
        refine lv_iconst (v := (1 : Int32)) hx hb dX7_isSo_75 (by decide) ?_
        refine lv_goto (tgt := 80) hx hb dX7_isSo_76 (by decide) ?_
        exact X_T_isSo_A_80_w C (1 : Int32) u_1 _ _ _ hf hw (lv_sub hl [] rfl)
    · replace hf := hf.2 hc
      clear hc
      refine lv_iload_n hx hb dX7_isSo_47 rfl (lv_at hl 0 rfl) ?_
      refine lv_aload_n hx hb dX7_isSo_48 rfl (lv_at hl 1 rfl) ?_
      refine xg_314 C hw (C.2.2.2.2.1 _ hwF_X7_37) dX7_isSo_49 ?_
      refine lv_iload_n hx hb dX7_isSo_52 rfl (lv_at hl 2 rfl) ?_
      refine yl_314 C hw hf.1 dX7_isSo_53 (fun y_6 e9 => ?_)
      replace hf := hf.2 y_6 e9
      clear e9
      refine lv_icmp_ne (tgt := 61) hx hb dX7_isSo_54 (by decide) (fun hc => ?_) (fun hc => ?_)
      · replace hf := hf.1 hc
        clear hc
        refine lv_iconst (v := (0 : Int32)) hx hb dX7_isSo_61 (by decide) ?_
        refine lv_goto (tgt := 80) hx hb dX7_isSo_62 (by decide) ?_
        exact X_T_isSo_A_80_w C (0 : Int32) u_1 _ _ _ hf hw (lv_sub hl [] rfl)
      · replace hf := hf.2 hc
        clear hc
        refine lv_iconst (v := (1 : Int32)) hx hb dX7_isSo_57 (by decide) ?_
        refine lv_goto (tgt := 80) hx hb dX7_isSo_58 (by decide) ?_
        exact X_T_isSo_A_80_w C (1 : Int32) u_1 _ _ _ hf hw (lv_sub hl [] rfl)
  · replace hf := hf.2 hc
    clear hc
    refine lv_iload_n hx hb dX7_isSo_19 rfl (lv_at hl 0 rfl) ?_
    refine lv_aload_n hx hb dX7_isSo_20 rfl (lv_at hl 1 rfl) ?_
    refine xg_314 C hw (C.2.2.2.2.1 _ hwF_X7_37) dX7_isSo_21 ?_
    refine lv_iload_n hx hb dX7_isSo_24 rfl (lv_at hl 2 rfl) ?_
    refine yl_314 C hw hf.1 dX7_isSo_25 (fun y_7 e9 => ?_)
    replace hf := hf.2 y_7 e9
    clear e9
    refine lv_icmp_ge (tgt := 33) hx hb dX7_isSo_26 (by decide) (fun hc => ?_) (fun hc => ?_)
    · replace hf := hf.1 hc
      clear hc
      refine lv_iconst (v := (0 : Int32)) hx hb dX7_isSo_33 (by decide) ?_
      exact X_T_isSo_A_34_w C (0 : Int32) u_1 _ _ _ hf hw (lv_sub hl [] rfl)
    · replace hf := hf.2 hc
      clear hc
      refine lv_iconst (v := (1 : Int32)) hx hb dX7_isSo_29 (by decide) ?_
      refine lv_goto (tgt := 34) hx hb dX7_isSo_30 (by decide) ?_
      exact X_T_isSo_A_34_w C (1 : Int32) u_1 _ _ _ hf hw (lv_sub hl [] rfl)
end

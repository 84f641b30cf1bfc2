section
variable {p : Program} {l : Launch} {e : Env} {s : State} {m : MethodId} {args : Array Value} {below : List Frame} {meth : Method} {c : Code} {dC : Nat → ClassId} {dI : Nat → Nat → Nat} {cs : Nat → ClassId} {q : Nat → Nat} {A : Nat → Prop}
/-! X12_one -/
theorem dX12_one_0 : decode cX12_one 0 = .ok (.aload_n 0, 1) := by decide +kernel
theorem dX12_one_1 : decode cX12_one 1 = .ok (.ldc2_w 302, 3) := by decide +kernel
theorem dX12_one_4 : decode cX12_one 4 = .ok (.invokevirtual 224, 3) := by decide +kernel
theorem dX12_one_7 : decode cX12_one 7 = .ok (.istore_n 1, 1) := by decide +kernel
theorem dX12_one_8 : decode cX12_one 8 = .ok (.aload_n 0, 1) := by decide +kernel
theorem dX12_one_9 : decode cX12_one 9 = .ok (.invokevirtual 304, 3) := by decide +kernel
theorem dX12_one_12 : decode cX12_one 12 = .ok (.istore_n 2, 1) := by decide +kernel
theorem dX12_one_13 : decode cX12_one 13 = .ok (.iload_n 1, 1) := by decide +kernel
theorem dX12_one_14 : decode cX12_one 14 = .ok (.ifCond .ne 22, 3) := by decide +kernel
theorem dX12_one_17 : decode cX12_one 17 = .ok (.iload_n 2, 1) := by decide +kernel
theorem dX12_one_18 : decode cX12_one 18 = .ok (.ifCond .ge 18, 3) := by decide +kernel
theorem dX12_one_21 : decode cX12_one 21 = .ok (.aload_n 0, 1) := by decide +kernel
theorem dX12_one_22 : decode cX12_one 22 = .ok (.bipush 40, 2) := by decide +kernel
theorem dX12_one_24 : decode cX12_one 24 = .ok (.invokevirtual 215, 3) := by decide +kernel
theorem dX12_one_27 : decode cX12_one 27 = .ok (.ifCond .ne 9, 3) := by decide +kernel
theorem dX12_one_30 : decode cX12_one 30 = .ok (.aload_n 0, 1) := by decide +kernel
theorem dX12_one_31 : decode cX12_one 31 = .ok (.iconst 1, 1) := by decide +kernel
theorem dX12_one_32 : decode cX12_one 32 = .ok (.invokevirtual 218, 3) := by decide +kernel
theorem dX12_one_35 : decode cX12_one 35 = .ok (.ireturn, 1) := by decide +kernel
theorem dX12_one_36 : decode cX12_one 36 = .ok (.aload_n 0, 1) := by decide +kernel
theorem dX12_one_37 : decode cX12_one 37 = .ok (.getfield 176, 3) := by decide +kernel
theorem dX12_one_40 : decode cX12_one 40 = .ok (.bipush 40, 2) := by decide +kernel
theorem dX12_one_42 : decode cX12_one 42 = .ok (.if_icmp .eq 12, 3) := by decide +kernel
theorem dX12_one_45 : decode cX12_one 45 = .ok (.aload_n 0, 1) := by decide +kernel
theorem dX12_one_46 : decode cX12_one 46 = .ok (.invokevirtual 307, 3) := by decide +kernel
theorem dX12_one_49 : decode cX12_one 49 = .ok (.bipush 10, 2) := by decide +kernel
theorem dX12_one_51 : decode cX12_one 51 = .ok (.if_icmp .ne 9, 3) := by decide +kernel
theorem dX12_one_54 : decode cX12_one 54 = .ok (.aload_n 0, 1) := by decide +kernel
theorem dX12_one_55 : decode cX12_one 55 = .ok (.iconst 4, 1) := by decide +kernel
theorem dX12_one_56 : decode cX12_one 56 = .ok (.invokevirtual 218, 3) := by decide +kernel
theorem dX12_one_59 : decode cX12_one 59 = .ok (.ireturn, 1) := by decide +kernel
theorem dX12_one_60 : decode cX12_one 60 = .ok (.aload_n 0, 1) := by decide +kernel
theorem dX12_one_61 : decode cX12_one 61 = .ok (.dup, 1) := by decide +kernel
theorem dX12_one_62 : decode cX12_one 62 = .ok (.getfield 176, 3) := by decide +kernel
theorem dX12_one_65 : decode cX12_one 65 = .ok (.iconst 1, 1) := by decide +kernel
theorem dX12_one_66 : decode cX12_one 66 = .ok (.iadd, 1) := by decide +kernel
theorem dX12_one_67 : decode cX12_one 67 = .ok (.putfield 176, 3) := by decide +kernel
theorem dX12_one_70 : decode cX12_one 70 = .ok (.aload_n 0, 1) := by decide +kernel
theorem dX12_one_71 : decode cX12_one 71 = .ok (.invokevirtual 179, 3) := by decide +kernel
theorem dX12_one_74 : decode cX12_one 74 = .ok (.iload_n 2, 1) := by decide +kernel
theorem dX12_one_75 : decode cX12_one 75 = .ok (.ifCond .ge 36, 3) := by decide +kernel
theorem dX12_one_78 : decode cX12_one 78 = .ok (.aload_n 0, 1) := by decide +kernel
theorem dX12_one_79 : decode cX12_one 79 = .ok (.getfield 81, 3) := by decide +kernel
theorem dX12_one_82 : decode cX12_one 82 = .ok (.aload_n 0, 1) := by decide +kernel
theorem dX12_one_83 : decode cX12_one 83 = .ok (.getfield 278, 3) := by decide +kernel
theorem dX12_one_86 : decode cX12_one 86 = .ok (.iload_n 1, 1) := by decide +kernel
theorem dX12_one_87 : decode cX12_one 87 = .ok (.ifCond .eq 8, 3) := by decide +kernel
theorem dX12_one_90 : decode cX12_one 90 = .ok (.bipush 10, 2) := by decide +kernel
theorem dX12_one_92 : decode cX12_one 92 = .ok (.goto 5, 3) := by decide +kernel
theorem dX12_one_95 : decode cX12_one 95 = .ok (.bipush 13, 2) := by decide +kernel
theorem dX12_one_97 : decode cX12_one 97 = .ok (.iastore, 1) := by decide +kernel
theorem dX12_one_98 : decode cX12_one 98 = .ok (.aload_n 0, 1) := by decide +kernel
theorem dX12_one_99 : decode cX12_one 99 = .ok (.dup, 1) := by decide +kernel
theorem dX12_one_100 : decode cX12_one 100 = .ok (.getfield 278, 3) := by decide +kernel
theorem dX12_one_103 : decode cX12_one 103 = .ok (.iconst 1, 1) := by decide +kernel
theorem dX12_one_104 : decode cX12_one 104 = .ok (.iadd, 1) := by decide +kernel
theorem dX12_one_105 : decode cX12_one 105 = .ok (.putfield 278, 3) := by decide +kernel
theorem dX12_one_108 : decode cX12_one 108 = .ok (.goto (-108), 3) := by decide +kernel
theorem dX12_one_111 : decode cX12_one 111 = .ok (.iload_n 2, 1) := by decide +kernel
theorem dX12_one_112 : decode cX12_one 112 = .ok (.iconst 4, 1) := by decide +kernel
theorem dX12_one_113 : decode cX12_one 113 = .ok (.if_icmp .ne 38, 3) := by decide +kernel
theorem dX12_one_116 : decode cX12_one 116 = .ok (.aload_n 0, 1) := by decide +kernel
theorem dX12_one_117 : decode cX12_one 117 = .ok (.iconst 0, 1) := by decide +kernel
theorem dX12_one_118 : decode cX12_one 118 = .ok (.aload_n 0, 1) := by decide +kernel
theorem dX12_one_119 : decode cX12_one 119 = .ok (.getfield 54, 3) := by decide +kernel
theorem dX12_one_122 : decode cX12_one 122 = .ok (.iconst 1, 1) := by decide +kernel
theorem dX12_one_123 : decode cX12_one 123 = .ok (.iaload, 1) := by decide +kernel
theorem dX12_one_124 : decode cX12_one 124 = .ok (.iconst 1, 1) := by decide +kernel
theorem dX12_one_125 : decode cX12_one 125 = .ok (.isub, 1) := by decide +kernel
theorem dX12_one_126 : decode cX12_one 126 = .ok (.invokevirtual 230, 3) := by decide +kernel
theorem dX12_one_129 : decode cX12_one 129 = .ok (.ifCond .ne 5, 3) := by decide +kernel
theorem dX12_one_132 : decode cX12_one 132 = .ok (.iconst 0, 1) := by decide +kernel
theorem dX12_one_133 : decode cX12_one 133 = .ok (.ireturn, 1) := by decide +kernel
theorem dX12_one_134 : decode cX12_one 134 = .ok (.aload_n 0, 1) := by decide +kernel
theorem dX12_one_135 : decode cX12_one 135 = .ok (.getfield 78, 3) := by decide +kernel
theorem dX12_one_138 : decode cX12_one 138 = .ok (.sipush 200, 3) := by decide +kernel
theorem dX12_one_141 : decode cX12_one 141 = .ok (.aload_n 0, 1) := by decide +kernel
theorem dX12_one_142 : decode cX12_one 142 = .ok (.getfield 173, 3) := by decide +kernel
theorem dX12_one_145 : decode cX12_one 145 = .ok (.iadd, 1) := by decide +kernel
theorem dX12_one_146 : decode cX12_one 146 = .ok (.aload_n 0, 1) := by decide +kernel
theorem dX12_one_147 : decode cX12_one 147 = .ok (.getfield 221, 3) := by decide +kernel
theorem dX12_one_150 : decode cX12_one 150 = .ok (.iastore, 1) := by decide +kernel
theorem dX12_one_151 : decode cX12_one 151 = .ok (.aload_n 0, 1) := by decide +kernel
theorem dX12_one_152 : decode cX12_one 152 = .ok (.bipush 60, 2) := by decide +kernel
theorem dX12_one_154 : decode cX12_one 154 = .ok (.invokevirtual 215, 3) := by decide +kernel
theorem dX12_one_157 : decode cX12_one 157 = .ok (.ifCond .ne 27, 3) := by decide +kernel
theorem dX12_one_160 : decode cX12_one 160 = .ok (.aload_n 0, 1) := by decide +kernel
theorem dX12_one_161 : decode cX12_one 161 = .ok (.bipush 61, 2) := by decide +kernel
theorem dX12_one_163 : decode cX12_one 163 = .ok (.invokevirtual 215, 3) := by decide +kernel
theorem dX12_one_166 : decode cX12_one 166 = .ok (.ifCond .ne 18, 3) := by decide +kernel
theorem dX12_one_169 : decode cX12_one 169 = .ok (.aload_n 0, 1) := by decide +kernel
theorem dX12_one_170 : decode cX12_one 170 = .ok (.bipush 62, 2) := by decide +kernel
theorem dX12_one_172 : decode cX12_one 172 = .ok (.invokevirtual 215, 3) := by decide +kernel
theorem dX12_one_175 : decode cX12_one 175 = .ok (.ifCond .ne 9, 3) := by decide +kernel
theorem dX12_one_178 : decode cX12_one 178 = .ok (.aload_n 0, 1) := by decide +kernel
theorem dX12_one_179 : decode cX12_one 179 = .ok (.iconst 1, 1) := by decide +kernel
theorem dX12_one_180 : decode cX12_one 180 = .ok (.invokevirtual 218, 3) := by decide +kernel
theorem dX12_one_183 : decode cX12_one 183 = .ok (.ireturn, 1) := by decide +kernel
theorem dX12_one_184 : decode cX12_one 184 = .ok (.aload_n 0, 1) := by decide +kernel
theorem dX12_one_185 : decode cX12_one 185 = .ok (.getfield 208, 3) := by decide +kernel
theorem dX12_one_188 : decode cX12_one 188 = .ok (.istore_n 3, 1) := by decide +kernel
theorem dX12_one_189 : decode cX12_one 189 = .ok (.aload_n 0, 1) := by decide +kernel
theorem dX12_one_190 : decode cX12_one 190 = .ok (.invokevirtual 179, 3) := by decide +kernel
theorem dX12_one_193 : decode cX12_one 193 = .ok (.aload_n 0, 1) := by decide +kernel
theorem dX12_one_194 : decode cX12_one 194 = .ok (.getfield 198, 3) := by decide +kernel
theorem dX12_one_197 : decode cX12_one 197 = .ok (.iconst 2, 1) := by decide +kernel
theorem dX12_one_198 : decode cX12_one 198 = .ok (.if_icmp .eq 9, 3) := by decide +kernel
theorem dX12_one_201 : decode cX12_one 201 = .ok (.aload_n 0, 1) := by decide +kernel
theorem dX12_one_202 : decode cX12_one 202 = .ok (.iconst 1, 1) := by decide +kernel
theorem dX12_one_203 : decode cX12_one 203 = .ok (.invokevirtual 218, 3) := by decide +kernel
theorem dX12_one_206 : decode cX12_one 206 = .ok (.ireturn, 1) := by decide +kernel
theorem dX12_one_207 : decode cX12_one 207 = .ok (.aload_n 0, 1) := by decide +kernel
theorem dX12_one_208 : decode cX12_one 208 = .ok (.iload_n 2, 1) := by decide +kernel
theorem dX12_one_209 : decode cX12_one 209 = .ok (.iload_n 3, 1) := by decide +kernel
theorem dX12_one_210 : decode cX12_one 210 = .ok (.aload_n 0, 1) := by decide +kernel
theorem dX12_one_211 : decode cX12_one 211 = .ok (.getfield 208, 3) := by decide +kernel
theorem dX12_one_214 : decode cX12_one 214 = .ok (.invokevirtual 285, 3) := by decide +kernel
theorem dX12_one_217 : decode cX12_one 217 = .ok (.aload_n 0, 1) := by decide +kernel
theorem dX12_one_218 : decode cX12_one 218 = .ok (.invokevirtual 179, 3) := by decide +kernel
theorem dX12_one_221 : decode cX12_one 221 = .ok (.aload_n 0, 1) := by decide +kernel
theorem dX12_one_222 : decode cX12_one 222 = .ok (.iconst 3, 1) := by decide +kernel
theorem dX12_one_223 : decode cX12_one 223 = .ok (.invokevirtual 295, 3) := by decide +kernel
theorem dX12_one_226 : decode cX12_one 226 = .ok (.iconst 1, 1) := by decide +kernel
theorem dX12_one_227 : decode cX12_one 227 = .ok (.ireturn, 1) := by decide +kernel
def M_one_54 (K : Int32 → th_St → Prop) (u : th_St) : Prop :=
  M_bad (4 : Int32) u (fun r_2 u_1 => ((r_2 = 0 ∨ r_2 = 1) ∧ K r_2 u_1))
set_option maxHeartbeats 4000000 in
set_option maxRecDepth 100000 in
theorem M_one_54_w {K : Int32 → th_St → Prop} (C : th_Cx p s m args meth c cX12_one RX12 4 (some .boolean) (dC, dI) (th_ty cs) th_E0 A) (u : th_St) (H : Heap) (locs : List Loc) (ls : Array Slot) (hf : M_one_54 K u) (hw : th_wI (dC, dI) (wM cs q) A s.heap u H locs) (hl : lv_has ls 4 [(0, .ref (q 0))]) : W p l e (th_rm 3 0 0) s m args below meth c H locs 0 0 (MQ below (va_Qi K (th_Post (dC, dI) (wM cs q) A) A) args s 0 0 A) (F0 m 54 ls []) := by
  have hx := C.1
  have hb := C.2.1
  unfold M_one_54 at hf
  refine lv_aload_n hx hb dX12_one_54 rfl (lv_at hl 0 rfl) ?_
  refine lv_iconst (v := (4 : Int32)) hx hb dX12_one_55 (by decide) ?_
  refine th_callVi (As := [.int (4 : Int32)]) (rest := []) C lkX12_218 (M_bad_c hf) hw (mRc C hw) rfl rfl ⟨Nat.le_of_ble_eq_true rfl, Nat.le_of_ble_eq_true rfl⟩ hl.1 (Nat.le_of_ble_eq_true rfl) ⟨Nat.le_refl _, Nat.le_refl _⟩ dX12_one_56 (fun r_2 u_1 H locs hf hw => ?_)
  exact th_zret C hw hf dX12_one_59
def M_one_97 (K : Int32 → th_St → Prop) (k0 : th_St → Prop) (z0 : Int32) (z1 : Int32) (u : th_St) : Prop :=
  (vp_in z1 100 ∧ ∀ u_1 : th_St, u_1 = th_sa u 20 (upd (u.2.2.1 20) (z1).toNatClampNeg z0) → ∀ u_2 : th_St, u_2 = th_si u_1 22 ((u_1.1 22) + (1 : Int32)) → k0 u_2)
set_option maxHeartbeats 4000000 in
set_option maxRecDepth 100000 in
theorem M_one_97_w {K : Int32 → th_St → Prop} {k0 : th_St → Prop} (C : th_Cx p s m args meth c cX12_one RX12 4 (some .boolean) (dC, dI) (th_ty cs) th_E0 A) (hk0 : ∀ (u : th_St) (H : Heap) (locs : List Loc) (ls : Array Slot), k0 u → th_wI (dC, dI) (wM cs q) A s.heap u H locs → lv_has ls 4 [(0, .ref (q 0))] → W p l e (th_rm 3 0 0) s m args below meth c H locs 0 0 (MQ below (va_Qi K (th_Post (dC, dI) (wM cs q) A) A) args s 0 0 A) (F0 m 0 ls [])) (z0 : Int32) (z1 : Int32) (u : th_St) (H : Heap) (locs : List Loc) (ls : Array Slot) (hf : M_one_97 K k0 z0 z1 u) (hw : th_wI (dC, dI) (wM cs q) A s.heap u H locs) (hl : lv_has ls 4 [(0, .ref (q 0))]) : W p l e (th_rm 3 0 0) s m args below meth c H locs 0 0 (MQ below (va_Qi K (th_Post (dC, dI) (wM cs q) A) A) args s 0 0 A) (F0 m 97 ls [.int z0, .int z1, .ref (q 20)]) := by
  have hx := C.1
  have hb := C.2.1
  unfold M_one_97 at hf
  refine ms_20 C hw hf.1 dX12_one_97 (fun u_1 e9 H locs hw => ?_)
  replace hf := hf.2 u_1 e9
  clear e9
  refine lv_aload_n hx hb dX12_one_98 rfl (lv_at hl 0 rfl) ?_
  refine lv_dup hx hb dX12_one_99 rfl ?_
  refine mg_22 C hw dX12_one_100 ?_
  refine lv_iconst (v := (1 : Int32)) hx hb dX12_one_103 (by decide) ?_
  refine lv_iadd hx hb dX12_one_104 ?_
  refine mp_22 C hw dX12_one_105 (fun u_2 e9 H locs hw => ?_)
  replace hf := hf u_2 e9
  clear e9
  refine lv_goto (tgt := 0) hx hb dX12_one_108 (by decide) ?_
  exact hk0  u_2 _ _ _ hf hw (lv_sub hl [0] rfl)
def M_one_184 (K : Int32 → th_St → Prop) (x2 : Int32) (u : th_St) : Prop :=
  M_next_ u (fun u_1 => (((u_1.1 24) = (2 : Int32) → M_write x2 (u.1 27) (u_1.1 27) u_1 (fun u_3 => M_next_ u_3 (fun u_5 => M_writeDown (3 : Int32) u_5 (fun u_7 => (((1 : Int32) = 0 ∨ (1 : Int32) = 1) ∧ K (1 : Int32) u_7))))) ∧ (¬ (u_1.1 24) = (2 : Int32) → M_bad (1 : Int32) u_1 (fun r_10 u_9 => ((r_10 = 0 ∨ r_10 = 1) ∧ K r_10 u_9)))))
set_option maxHeartbeats 4000000 in
set_option maxRecDepth 100000 in
theorem M_one_184_w {K : Int32 → th_St → Prop} (C : th_Cx p s m args meth c cX12_one RX12 4 (some .boolean) (dC, dI) (th_ty cs) th_E0 A) (x2 : Int32) (u : th_St) (H : Heap) (locs : List Loc) (ls : Array Slot) (hf : M_one_184 K x2 u) (hw : th_wI (dC, dI) (wM cs q) A s.heap u H locs) (hl : lv_has ls 4 [(0, .ref (q 0)), (2, .int x2)]) : W p l e (th_rm 3 0 0) s m args below meth c H locs 0 0 (MQ below (va_Qi K (th_Post (dC, dI) (wM cs q) A) A) args s 0 0 A) (F0 m 184 ls []) := by
  have hx := C.1
  have hb := C.2.1
  unfold M_one_184 at hf
  refine lv_aload_n hx hb dX12_one_184 rfl (lv_at hl 0 rfl) ?_
  refine mg_27 C hw dX12_one_185 ?_
  refine lv_istore_n (lv' := [(3, .int (u.1 27)), (0, .ref (q 0)), (2, .int x2)]) hx hb dX12_one_188 rfl hl (by decide) rfl (fun ls hl => ?_)
  refine lv_aload_n hx hb dX12_one_189 rfl (lv_at hl 1 rfl) ?_
  refine th_callVv (As := []) (rest := []) C lkX12_179 (M_next__c hf) hw (mRc C hw) rfl rfl ⟨Nat.le_of_ble_eq_true rfl, Nat.le_of_ble_eq_true rfl⟩ hl.1 (Nat.le_of_ble_eq_true rfl) ⟨Nat.le_refl _, Nat.le_refl _⟩ dX12_one_190 (fun u_1 H locs hf hw => ?_)
  refine lv_aload_n hx hb dX12_one_193 rfl (lv_at hl 1 rfl) ?_
  refine mg_24 C hw dX12_one_194 ?_
  refine lv_iconst (v := (2 : Int32)) hx hb dX12_one_197 (by decide) ?_
  refine lv_icmp_eq (tgt := 207) hx hb dX12_one_198 (by decide) (fun hc => ?_) (fun hc => ?_)
  · replace hf := hf.1 hc
    clear hc
    refine lv_aload_n hx hb dX12_one_207 rfl (lv_at hl 1 rfl) ?_
    refine lv_iload_n hx hb dX12_one_208 rfl (lv_at hl 2 rfl) ?_
    refine lv_iload_n hx hb dX12_one_209 rfl (lv_at hl 0 rfl) ?_
    refine lv_aload_n hx hb dX12_one_210 rfl (lv_at hl 1 rfl) ?_
    refine mg_27 C hw dX12_one_211 ?_
    refine th_callVv (As := [.int x2, .int (u.1 27), .int (u_1.1 27)]) (rest := []) C lkX12_285 (M_write_c hf) hw (mRc C hw) rfl rfl ⟨Nat.le_of_ble_eq_true rfl, Nat.le_of_ble_eq_true rfl⟩ hl.1 (Nat.le_of_ble_eq_true rfl) ⟨Nat.le_refl _, Nat.le_refl _⟩ dX12_one_214 (fun u_3 H locs hf hw => ?_)
    refine lv_aload_n hx hb dX12_one_217 rfl (lv_at hl 1 rfl) ?_
    refine th_callVv (As := []) (rest := []) C lkX12_179 (M_next__c hf) hw (mRc C hw) rfl rfl ⟨Nat.le_of_ble_eq_true rfl, Nat.le_of_ble_eq_true rfl⟩ hl.1 (Nat.le_of_ble_eq_true rfl) ⟨Nat.le_refl _, Nat.le_refl _⟩ dX12_one_218 (fun u_5 H locs hf hw => ?_)
    refine lv_aload_n hx hb dX12_one_221 rfl (lv_at hl 1 rfl) ?_
    refine lv_iconst (v := (3 : Int32)) hx hb dX12_one_222 (by decide) ?_
    refine th_callVv (As := [.int (3 : Int32)]) (rest := []) C lkX12_295 (M_writeDown_c hf) hw (mRc C hw) rfl rfl ⟨Nat.le_of_ble_eq_true rfl, Nat.le_of_ble_eq_true rfl⟩ hl.1 (Nat.le_of_ble_eq_true rfl) ⟨Nat.le_refl _, Nat.le_refl _⟩ dX12_one_223 (fun u_7 H locs hf hw => ?_)
    refine lv_iconst (v := (1 : Int32)) hx hb dX12_one_226 (by decide) ?_
    exact th_zret C hw hf dX12_one_227
  · replace hf := hf.2 hc
    clear hc
    refine lv_aload_n hx hb dX12_one_201 rfl (lv_at hl 1 rfl) ?_
    refine lv_iconst (v := (1 : Int32)) hx hb dX12_one_202 (by decide) ?_
    refine th_callVi (As := [.int (1 : Int32)]) (rest := []) C lkX12_218 (M_bad_c hf) hw (mRc C hw) rfl rfl ⟨Nat.le_of_ble_eq_true rfl, Nat.le_of_ble_eq_true rfl⟩ hl.1 (Nat.le_of_ble_eq_true rfl) ⟨Nat.le_refl _, Nat.le_refl _⟩ dX12_one_203 (fun r_10 u_9 H locs hf hw => ?_)
    exact th_zret C hw hf dX12_one_206
def M_one_151 (K : Int32 → th_St → Prop) (x2 : Int32) (u : th_St) : Prop :=
  M_isSign (60 : Int32) u (fun r_2 u_1 => ((¬ r_2 = 0 → M_one_184 K x2 u_1) ∧ (r_2 = 0 → M_isSign (61 : Int32) u_1 (fun r_4 u_3 => ((¬ r_4 = 0 → M_one_184 K x2 u_3) ∧ (r_4 = 0 → M_isSign (62 : Int32) u_3 (fun r_6 u_5 => ((¬ r_6 = 0 → M_one_184 K x2 u_5) ∧ (r_6 = 0 → M_bad (1 : Int32) u_5 (fun r_8 u_7 => ((r_8 = 0 ∨ r_8 = 1) ∧ K r_8 u_7)))))))))))
set_option maxHeartbeats 4000000 in
set_option maxRecDepth 100000 in
theorem M_one_151_w {K : Int32 → th_St → Prop} (C : th_Cx p s m args meth c cX12_one RX12 4 (some .boolean) (dC, dI) (th_ty cs) th_E0 A) (x2 : Int32) (u : th_St) (H : Heap) (locs : List Loc) (ls : Array Slot) (hf : M_one_151 K x2 u) (hw : th_wI (dC, dI) (wM cs q) A s.heap u H locs) (hl : lv_has ls 4 [(0, .ref (q 0)), (2, .int x2)]) : W p l e (th_rm 3 0 0) s m args below meth c H locs 0 0 (MQ below (va_Qi K (th_Post (dC, dI) (wM cs q) A) A) args s 0 0 A) (F0 m 151 ls []) := by
  have hx := C.1
  have hb := C.2.1
  unfold M_one_151 at hf
  refine lv_aload_n hx hb dX12_one_151 rfl (lv_at hl 0 rfl) ?_
  refine lv_bipush (v := (60 : Int32)) hx hb dX12_one_152 (by decide) ?_
  refine th_callVi (As := [.int (60 : Int32)]) (rest := []) C lkX12_215 (M_isSign_c hf) hw (mRc C hw) rfl rfl ⟨Nat.le_of_ble_eq_true rfl, Nat.le_of_ble_eq_true rfl⟩ hl.1 (Nat.le_of_ble_eq_true rfl) ⟨Nat.le_refl _, Nat.le_refl _⟩ dX12_one_154 (fun r_2 u_1 H locs hf hw => ?_)
  refine lv_if_ne (tgt := 184) hx hb dX12_one_157 (by decide) (fun hc => ?_) (fun hc => ?_)
  · replace hf := hf.1 hc
    clear hc
    exact M_one_184_w C x2 u_1 _ _ _ hf hw (lv_sub hl [0, 1] rfl)
  · replace hf := hf.2 hc
    clear hc
    refine lv_aload_n hx hb dX12_one_160 rfl (lv_at hl 0 rfl) ?_
    refine lv_bipush (v := (61 : Int32)) hx hb dX12_one_161 (by decide) ?_
    refine th_callVi (As := [.int (61 : Int32)]) (rest := []) C lkX12_215 (M_isSign_c hf) hw (mRc C hw) rfl rfl ⟨Nat.le_of_ble_eq_true rfl, Nat.le_of_ble_eq_true rfl⟩ hl.1 (Nat.le_of_ble_eq_true rfl) ⟨Nat.le_refl _, Nat.le_refl _⟩ dX12_one_163 (fun r_4 u_3 H locs hf hw => ?_)
    refine lv_if_ne (tgt := 184) hx hb dX12_one_166 (by decide) (fun hc => ?_) (fun hc => ?_)
    · replace hf := hf.1 hc
      clear hc
      exact M_one_184_w C x2 u_3 _ _ _ hf hw (lv_sub hl [0, 1] rfl)
    · replace hf := hf.2 hc
      clear hc
      refine lv_aload_n hx hb dX12_one_169 rfl (lv_at hl 0 rfl) ?_
      refine lv_bipush (v := (62 : Int32)) hx hb dX12_one_170 (by decide) ?_
      refine th_callVi (As := [.int (62 : Int32)]) (rest := []) C lkX12_215 (M_isSign_c hf) hw (mRc C hw) rfl rfl ⟨Nat.le_of_ble_eq_true rfl, Nat.le_of_ble_eq_true rfl⟩ hl.1 (Nat.le_of_ble_eq_true rfl) ⟨Nat.le_refl _, Nat.le_refl _⟩ dX12_one_172 (fun r_6 u_5 H locs hf hw => ?_)
      refine lv_if_ne (tgt := 184) hx hb dX12_one_175 (by decide) (fun hc => ?_) (fun hc => ?_)
      · replace hf := hf.1 hc
        clear hc
        exact M_one_184_w C x2 u_5 _ _ _ hf hw (lv_sub hl [0, 1] rfl)
      · replace hf := hf.2 hc
        clear hc
        refine lv_aload_n hx hb dX12_one_178 rfl (lv_at hl 0 rfl) ?_
        refine lv_iconst (v := (1 : Int32)) hx hb dX12_one_179 (by decide) ?_
        refine th_callVi (As := [.int (1 : Int32)]) (rest := []) C lkX12_218 (M_bad_c hf) hw (mRc C hw) rfl rfl ⟨Nat.le_of_ble_eq_true rfl, Nat.le_of_ble_eq_true rfl⟩ hl.1 (Nat.le_of_ble_eq_true rfl) ⟨Nat.le_refl _, Nat.le_refl _⟩ dX12_one_180 (fun r_8 u_7 H locs hf hw => ?_)
        exact th_zret C hw hf dX12_one_183
def M_one_36 (K : Int32 → th_St → Prop) (k0 : th_St → Prop) (x1 : Int32) (x2 : Int32) (u : th_St) : Prop :=
  (((u.1 23) = (40 : Int32) → M_one_54 K u) ∧ (¬ (u.1 23) = (40 : Int32) → M_open u (fun r_2 u_1 => ((¬ r_2 = (10 : Int32) → ∀ u_3 : th_St, u_3 = th_si u_1 23 ((u_1.1 23) + (1 : Int32)) → M_next_ u_3 (fun u_4 => ((0 ≤ x2 → ((¬ x2 = (4 : Int32) → M_one_151 K x2 u_4) ∧ (x2 = (4 : Int32) → (vp_in (1 : Int32) 2 ∧ ∀ y_6 : Int32, y_6 = u_4.2.2.1 11 ((1 : Int32)).toNatClampNeg → M_takes (0 : Int32) (y_6 - (1 : Int32)) u_4 (fun r_8 u_7 => ((¬ r_8 = 0 → (vp_in ((200 : Int32) + (u_7.1 21)) 400 ∧ ∀ u_9 : th_St, u_9 = th_sa u_7 19 (upd (u_7.2.2.1 19) (((200 : Int32) + (u_7.1 21))).toNatClampNeg (u_7.1 33)) → M_one_151 K x2 u_9)) ∧ (r_8 = 0 → (((0 : Int32) = 0 ∨ (0 : Int32) = 1) ∧ K (0 : Int32) u_7)))))))) ∧ (¬ 0 ≤ x2 → ((x1 = 0 → M_one_97 K k0 (13 : Int32) (u_4.1 22) u_4) ∧ (¬ x1 = 0 → M_one_97 K k0 (10 : Int32) (u_4.1 22) u_4)))))) ∧ (r_2 = (10 : Int32) → M_one_54 K u_1)))))
set_option maxHeartbeats 4000000 in
set_option maxRecDepth 100000 in
theorem M_one_36_w {K : Int32 → th_St → Prop} {k0 : th_St → Prop} (C : th_Cx p s m args meth c cX12_one RX12 4 (some .boolean) (dC, dI) (th_ty cs) th_E0 A) (hk0 : ∀ (u : th_St) (H : Heap) (locs : List Loc) (ls : Array Slot), k0 u → th_wI (dC, dI) (wM cs q) A s.heap u H locs → lv_has ls 4 [(0, .ref (q 0))] → W p l e (th_rm 3 0 0) s m args below meth c H locs 0 0 (MQ below (va_Qi K (th_Post (dC, dI) (wM cs q) A) A) args s 0 0 A) (F0 m 0 ls [])) (x1 : Int32) (x2 : Int32) (u : th_St) (H : Heap) (locs : List Loc) (ls : Array Slot) (hf : M_one_36 K k0 x1 x2 u) (hw : th_wI (dC, dI) (wM cs q) A s.heap u H locs) (hl : lv_has ls 4 [(0, .ref (q 0)), (1, .int x1), (2, .int x2)]) : W p l e (th_rm 3 0 0) s m args below meth c H locs 0 0 (MQ below (va_Qi K (th_Post (dC, dI) (wM cs q) A) A) args s 0 0 A) (F0 m 36 ls []) := by
  have hx := C.1
  have hb := C.2.1
  unfold M_one_36 at hf
  refine lv_aload_n hx hb dX12_one_36 rfl (lv_at hl 0 rfl) ?_
  refine mg_23 C hw dX12_one_37 ?_
  refine lv_bipush (v := (40 : Int32)) hx hb dX12_one_40 (by decide) ?_
  refine lv_icmp_eq (tgt := 54) hx hb dX12_one_42 (by decide) (fun hc => ?_) (fun hc => ?_)
  · replace hf := hf.1 hc
    clear hc
    exact M_one_54_w C  u _ _ _ hf hw (lv_sub hl [0] rfl)
  · replace hf := hf.2 hc
    clear hc
    refine lv_aload_n hx hb dX12_one_45 rfl (lv_at hl 0 rfl) ?_
    refine th_callVi (As := []) (rest := []) C lkX12_307 (M_open_c hf) hw (mRc C hw) rfl rfl ⟨Nat.le_of_ble_eq_true rfl, Nat.le_of_ble_eq_true rfl⟩ hl.1 (Nat.le_of_ble_eq_true rfl) ⟨Nat.le_refl _, Nat.le_refl _⟩ dX12_one_46 (fun r_2 u_1 H locs hf hw => ?_)
    refine lv_bipush (v := (10 : Int32)) hx hb dX12_one_49 (by decide) ?_
    refine lv_icmp_ne (tgt := 60) hx hb dX12_one_51 (by decide) (fun hc => ?_) (fun hc => ?_)
    · replace hf := hf.1 hc
      clear hc
      refine lv_aload_n hx hb dX12_one_60 rfl (lv_at hl 0 rfl) ?_
      refine lv_dup hx hb dX12_one_61 rfl ?_
      refine mg_23 C hw dX12_one_62 ?_
      refine lv_iconst (v := (1 : Int32)) hx hb dX12_one_65 (by decide) ?_
      refine lv_iadd hx hb dX12_one_66 ?_
      refine mp_23 C hw dX12_one_67 (fun u_3 e9 H locs hw => ?_)
      replace hf := hf u_3 e9
      clear e9
      refine lv_aload_n hx hb dX12_one_70 rfl (lv_at hl 0 rfl) ?_
      refine th_callVv (As := []) (rest := []) C lkX12_179 (M_next__c hf) hw (mRc C hw) rfl rfl ⟨Nat.le_of_ble_eq_true rfl, Nat.le_of_ble_eq_true rfl⟩ hl.1 (Nat.le_of_ble_eq_true rfl) ⟨Nat.le_refl _, Nat.le_refl _⟩ dX12_one_71 (fun u_4 H locs hf hw => ?_)
      refine lv_iload_n hx hb dX12_one_74 rfl (lv_at hl 2 rfl) ?_
      refine lv_if_ge (tgt := 111) hx hb dX12_one_75 (by decide) (fun hc => ?_) (fun hc => ?_)
      · replace hf := hf.1 hc
        clear hc
        refine lv_iload_n hx hb dX12_one_111 rfl (lv_at hl 2 rfl) ?_
        refine lv_iconst (v := (4 : Int32)) hx hb dX12_one_112 (by decide) ?_
        refine lv_icmp_ne (tgt := 151) hx hb dX12_one_113 (by decide) (fun hc => ?_) (fun hc => ?_)
        · replace hf := hf.1 hc
          clear hc
          exact M_one_151_w C x2 u_4 _ _ _ hf hw (lv_sub hl [0, 2] rfl)
        · replace hf := hf.2 hc
          clear hc
          refine lv_aload_n hx hb dX12_one_116 rfl (lv_at hl 0 rfl) ?_
          refine lv_iconst (v := (0 : Int32)) hx hb dX12_one_117 (by decide) ?_
          refine lv_aload_n hx hb dX12_one_118 rfl (lv_at hl 0 rfl) ?_
          refine mg_11 C hw dX12_one_119 ?_
          refine lv_iconst (v := (1 : Int32)) hx hb dX12_one_122 (by decide) ?_
          refine ml_11 C hw hf.1 dX12_one_123 (fun y_6 e9 => ?_)
          replace hf := hf.2 y_6 e9
          clear e9
          refine lv_iconst (v := (1 : Int32)) hx hb dX12_one_124 (by decide) ?_
          refine lv_isub hx hb dX12_one_125 ?_
          refine th_callVi (As := [.int (0 : Int32), .int (y_6 - (1 : Int32))]) (rest := []) C lkX12_230 (M_takes_c hf) hw (mRc C hw) rfl rfl ⟨Nat.le_of_ble_eq_true rfl, Nat.le_of_ble_eq_true rfl⟩ hl.1 (Nat.le_of_ble_eq_true rfl) ⟨Nat.le_refl _, Nat.le_refl _⟩ dX12_one_126 (fun r_8 u_7 H locs hf hw => ?_)
          refine lv_if_ne (tgt := 134) hx hb dX12_one_129 (by decide) (fun hc => ?_) (fun hc => ?_)
          · replace hf := hf.1 hc
            clear hc
            refine lv_aload_n hx hb dX12_one_134 rfl (lv_at hl 0 rfl) ?_
            refine mg_19 C hw dX12_one_135 ?_
            refine lv_sipush (v := (200 : Int32)) hx hb dX12_one_138 (by decide) ?_
            refine lv_aload_n hx hb dX12_one_141 rfl (lv_at hl 0 rfl) ?_
            refine mg_21 C hw dX12_one_142 ?_
            refine lv_iadd hx hb dX12_one_145 ?_
            refine lv_aload_n hx hb dX12_one_146 rfl (lv_at hl 0 rfl) ?_
            refine mg_33 C hw dX12_one_147 ?_
            refine ms_19 C hw hf.1 dX12_one_150 (fun u_9 e9 H locs hw => ?_)
            replace hf := hf.2 u_9 e9
            clear e9
            exact M_one_151_w C x2 u_9 _ _ _ hf hw (lv_sub hl [0, 2] rfl)
          · replace hf := hf.2 hc
            clear hc
            refine lv_iconst (v := (0 : Int32)) hx hb dX12_one_132 (by decide) ?_
            exact th_zret C hw hf dX12_one_133
      · replace hf := hf.2 hc
        clear hc
        refine lv_aload_n hx hb dX12_one_78 rfl (lv_at hl 0 rfl) ?_
        refine mg_20 C hw dX12_one_79 ?_
        refine lv_aload_n hx hb dX12_one_82 rfl (lv_at hl 0 rfl) ?_
        refine mg_22 C hw dX12_one_83 ?_
        refine lv_iload_n hx hb dX12_one_86 rfl (lv_at hl 1 rfl) ?_
        refine lv_if_eq (tgt := 95) hx hb dX12_one_87 (by decide) (fun hc => ?_) (fun hc => ?_)
        · replace hf := hf.1 hc
          clear hc
          refine lv_bipush (v := (13 : Int32)) hx hb dX12_one_95 (by decide) ?_
          exact M_one_97_w C hk0 (13 : Int32) (u_4.1 22) u_4 _ _ _ hf hw (lv_sub hl [0] rfl)
        · replace hf := hf.2 hc
          clear hc
          refine lv_bipush (v := (10 : Int32)) hx hb dX12_one_90 (by decide) ?_
          refine lv_goto (tgt := 97) hx hb dX12_one_92 (by decide) ?_
          exact M_one_97_w C hk0 (10 : Int32) (u_4.1 22) u_4 _ _ _ hf hw (lv_sub hl [0] rfl)
    · replace hf := hf.2 hc
      clear hc
      exact M_one_54_w C  u_1 _ _ _ hf hw (lv_sub hl [0] rfl)
def M_one_0 (K : Int32 → th_St → Prop) (k0 : th_St → Prop) (u : th_St) : Prop :=
  M_isWord (7237492 : Int64) u (fun r_2 u_1 => M_atom u_1 (fun r_4 u_3 => ((¬ r_2 = 0 → M_one_36 K k0 r_2 r_4 u_3) ∧ (r_2 = 0 → ((0 ≤ r_4 → M_one_36 K k0 r_2 r_4 u_3) ∧ (¬ 0 ≤ r_4 → M_isSign (40 : Int32) u_3 (fun r_6 u_5 => ((¬ r_6 = 0 → M_one_36 K k0 r_2 r_4 u_5) ∧ (r_6 = 0 → M_bad (1 : Int32) u_5 (fun r_8 u_7 => ((r_8 = 0 ∨ r_8 = 1) ∧ K r_8 u_7)))))))))))
set_option maxHeartbeats 4000000 in
set_option maxRecDepth 100000 in
theorem M_one_0_w {K : Int32 → th_St → Prop} {k0 : th_St → Prop} (C : th_Cx p s m args meth c cX12_one RX12 4 (some .boolean) (dC, dI) (th_ty cs) th_E0 A) (hk0 : ∀ (u : th_St) (H : Heap) (locs : List Loc) (ls : Array Slot), k0 u → th_wI (dC, dI) (wM cs q) A s.heap u H locs → lv_has ls 4 [(0, .ref (q 0))] → W p l e (th_rm 3 0 0) s m args below meth c H locs 0 0 (MQ below (va_Qi K (th_Post (dC, dI) (wM cs q) A) A) args s 0 0 A) (F0 m 0 ls [])) (u : th_St) (H : Heap) (locs : List Loc) (ls : Array Slot) (hf : M_one_0 K k0 u) (hw : th_wI (dC, dI) (wM cs q) A s.heap u H locs) (hl : lv_has ls 4 [(0, .ref (q 0))]) : W p l e (th_rm 3 0 0) s m args below meth c H locs 0 0 (MQ below (va_Qi K (th_Post (dC, dI) (wM cs q) A) A) args s 0 0 A) (F0 m 0 ls []) := by
  have hx := C.1
  have hb := C.2.1
  unfold M_one_0 at hf
  refine lv_aload_n hx hb dX12_one_0 rfl (lv_at hl 0 rfl) ?_
  refine lv_ldc2 hx hb C.2.2.2.1 (C.2.2.2.2.1 _ hwK_X12_302) dX12_one_1 ?_
  refine th_callVi (As := [.long (7237492 : Int64)]) (rest := []) C lkX12_224 (M_isWord_c hf) hw (mRc C hw) rfl rfl ⟨Nat.le_of_ble_eq_true rfl, Nat.le_of_ble_eq_true rfl⟩ hl.1 (Nat.le_of_ble_eq_true rfl) ⟨Nat.le_refl _, Nat.le_refl _⟩ dX12_one_4 (fun r_2 u_1 H locs hf hw => ?_)
  refine lv_istore_n (lv' := [(1, .int r_2), (0, .ref (q 0))]) hx hb dX12_one_7 rfl hl (by decide) rfl (fun ls hl => ?_)
  refine lv_aload_n hx hb dX12_one_8 rfl (lv_at hl 1 rfl) ?_
  refine th_callVi (As := []) (rest := []) C lkX12_304 (M_atom_c hf) hw (mRc C hw) rfl rfl ⟨Nat.le_of_ble_eq_true rfl, Nat.le_of_ble_eq_true rfl⟩ hl.1 (Nat.le_of_ble_eq_true rfl) ⟨Nat.le_refl _, Nat.le_refl _⟩ dX12_one_9 (fun r_4 u_3 H locs hf hw => ?_)
  refine lv_istore_n (lv' := [(2, .int r_4), (1, .int r_2), (0, .ref (q 0))]) hx hb dX12_one_12 rfl hl (by decide) rfl (fun ls hl => ?_)
  refine lv_iload_n hx hb dX12_one_13 rfl (lv_at hl 1 rfl) ?_
  refine lv_if_ne (tgt := 36) hx hb dX12_one_14 (by decide) (fun hc => ?_) (fun hc => ?_)
  · replace hf := hf.1 hc
    clear hc
    exact M_one_36_w C hk0 r_2 r_4 u_3 _ _ _ hf hw (lv_sub hl [2, 1, 0] rfl)
  · replace hf := hf.2 hc
    clear hc
    refine lv_iload_n hx hb dX12_one_17 rfl (lv_at hl 0 rfl) ?_
    refine lv_if_ge (tgt := 36) hx hb dX12_one_18 (by decide) (fun hc => ?_) (fun hc => ?_)
    · replace hf := hf.1 hc
      clear hc
      exact M_one_36_w C hk0 r_2 r_4 u_3 _ _ _ hf hw (lv_sub hl [2, 1, 0] rfl)
    · replace hf := hf.2 hc
      clear hc
      refine lv_aload_n hx hb dX12_one_21 rfl (lv_at hl 2 rfl) ?_
      refine lv_bipush (v := (40 : Int32)) hx hb dX12_one_22 (by decide) ?_
      refine th_callVi (As := [.int (40 : Int32)]) (rest := []) C lkX12_215 (M_isSign_c hf) hw (mRc C hw) rfl rfl ⟨Nat.le_of_ble_eq_true rfl, Nat.le_of_ble_eq_true rfl⟩ hl.1 (Nat.le_of_ble_eq_true rfl) ⟨Nat.le_refl _, Nat.le_refl _⟩ dX12_one_24 (fun r_6 u_5 H locs hf hw => ?_)
      refine lv_if_ne (tgt := 36) hx hb dX12_one_27 (by decide) (fun hc => ?_) (fun hc => ?_)
      · replace hf := hf.1 hc
        clear hc
        exact M_one_36_w C hk0 r_2 r_4 u_5 _ _ _ hf hw (lv_sub hl [2, 1, 0] rfl)
      · replace hf := hf.2 hc
        clear hc
        refine lv_aload_n hx hb dX12_one_30 rfl (lv_at hl 2 rfl) ?_
        refine lv_iconst (v := (1 : Int32)) hx hb dX12_one_31 (by decide) ?_
        refine th_callVi (As := [.int (1 : Int32)]) (rest := []) C lkX12_218 (M_bad_c hf) hw (mRc C hw) rfl rfl ⟨Nat.le_of_ble_eq_true rfl, Nat.le_of_ble_eq_true rfl⟩ hl.1 (Nat.le_of_ble_eq_true rfl) ⟨Nat.le_refl _, Nat.le_refl _⟩ dX12_one_32 (fun r_8 u_7 H locs hf hw => ?_)
        exact th_zret C hw hf dX12_one_35
def M_one_0_lp (K : Int32 → th_St → Prop) : Nat → th_St → Prop
  | 0, _ => False
  | n + 1, u => M_one_0 K (M_one_0_lp K n) u
set_option maxHeartbeats 4000000 in
set_option maxRecDepth 100000 in
theorem M_one_0_lw {K : Int32 → th_St → Prop} (C : th_Cx p s m args meth c cX12_one RX12 4 (some .boolean) (dC, dI) (th_ty cs) th_E0 A) (n : Nat) : ∀ (u : th_St) (H : Heap) (locs : List Loc) (ls : Array Slot), M_one_0_lp K n u → th_wI (dC, dI) (wM cs q) A s.heap u H locs → lv_has ls 4 [(0, .ref (q 0))] → W p l e (th_rm 3 0 0) s m args below meth c H locs 0 0 (MQ below (va_Qi K (th_Post (dC, dI) (wM cs q) A) A) args s 0 0 A) (F0 m 0 ls []) := by
  induction n with
  | zero => intro u H locs ls hf; exact hf.elim
  | succ n ih =>
    intro u H locs ls hf hw hl
    exact M_one_0_w C ih u H locs ls hf hw hl
def M_one (u : th_St) (K : Int32 → th_St → Prop) : Prop :=
  ∃ n, M_one_0_lp K n u
set_option maxHeartbeats 4000000 in
set_option maxRecDepth 100000 in
theorem M_one_c {l : Launch} {dC : Nat → ClassId} {dI : Nat → Nat → Nat} {cs : Nat → ClassId} {q : Nat → Nat} {u : th_St} {K : Int32 → th_St → Prop} (hf : M_one u K) : th_Ci l yX12_one cX12_one 4 (some .boolean) 3 0 0 (dC, dI) (th_ty cs) th_E0 (wM cs q) [.ref (q 0)] u K := by
  refine th_ofi (by decide) (Nat.le_of_ble_eq_true rfl) th_E0_ok ?_
  intro p e s m below meth c A ls C hw hl
  have C : th_Cx p s m _ meth c cX12_one RX12 4 (some .boolean) (dC, dI) (th_ty cs) th_E0 A := C
  have hl : lv_has ls 4 [(0, .ref (q 0))] := hl
  generalize (List.toArray _ : Array Value) = args at C ⊢
  have hx := C.1
  have hb := C.2.1
  unfold M_one at hf
  obtain ⟨n, hf⟩ := hf
  exact M_one_0_lw C n  u _ _ _ hf hw (lv_sub hl [0] rfl)
/-! X12_isThere -/
theorem dX12_isThere_0 : decode cX12_isThere 0 = .ok (.aload_n 0, 1) := by decide +kernel
theorem dX12_isThere_1 : decode cX12_isThere 1 = .ok (.iload_n 3, 1) := by decide +kernel
theorem dX12_isThere_2 : decode cX12_isThere 2 = .ok (.invokevirtual 337, 3) := by decide +kernel
theorem dX12_isThere_5 : decode cX12_isThere 5 = .ok (.iload_n 1, 1) := by decide +kernel
theorem dX12_isThere_6 : decode cX12_isThere 6 = .ok (.iconst 0, 1) := by decide +kernel
theorem dX12_isThere_7 : decode cX12_isThere 7 = .ok (.aload_n 0, 1) := by decide +kernel
theorem dX12_isThere_8 : decode cX12_isThere 8 = .ok (.getfield 54, 3) := by decide +kernel
theorem dX12_isThere_11 : decode cX12_isThere 11 = .ok (.iconst 0, 1) := by decide +kernel
theorem dX12_isThere_12 : decode cX12_isThere 12 = .ok (.iaload, 1) := by decide +kernel
theorem dX12_isThere_13 : decode cX12_isThere 13 = .ok (.iconst 1, 1) := by decide +kernel
theorem dX12_isThere_14 : decode cX12_isThere 14 = .ok (.isub, 1) := by decide +kernel
theorem dX12_isThere_15 : decode cX12_isThere 15 = .ok (.invokestatic 24, 3) := by decide +kernel
theorem dX12_isThere_18 : decode cX12_isThere 18 = .ok (.ifCond .eq 21, 3) := by decide +kernel
theorem dX12_isThere_21 : decode cX12_isThere 21 = .ok (.iload_n 2, 1) := by decide +kernel
theorem dX12_isThere_22 : decode cX12_isThere 22 = .ok (.iconst 0, 1) := by decide +kernel
theorem dX12_isThere_23 : decode cX12_isThere 23 = .ok (.aload_n 0, 1) := by decide +kernel
theorem dX12_isThere_24 : decode cX12_isThere 24 = .ok (.getfield 323, 3) := by decide +kernel
theorem dX12_isThere_27 : decode cX12_isThere 27 = .ok (.iconst 1, 1) := by decide +kernel
theorem dX12_isThere_28 : decode cX12_isThere 28 = .ok (.isub, 1) := by decide +kernel
theorem dX12_isThere_29 : decode cX12_isThere 29 = .ok (.invokestatic 24, 3) := by decide +kernel
theorem dX12_isThere_32 : decode cX12_isThere 32 = .ok (.ifCond .eq 7, 3) := by decide +kernel
theorem dX12_isThere_35 : decode cX12_isThere 35 = .ok (.iconst 1, 1) := by decide +kernel
theorem dX12_isThere_36 : decode cX12_isThere 36 = .ok (.goto 4, 3) := by decide +kernel
theorem dX12_isThere_39 : decode cX12_isThere 39 = .ok (.iconst 0, 1) := by decide +kernel
theorem dX12_isThere_40 : decode cX12_isThere 40 = .ok (.ireturn, 1) := by decide +kernel
def M_isThere_40 (K : Int32 → th_St → Prop) (z0 : Int32) (u : th_St) : Prop :=
  ((z0 = 0 ∨ z0 = 1) ∧ K z0 u)
set_option maxHeartbeats 4000000 in
set_option maxRecDepth 100000 in
theorem M_isThere_40_w {K : Int32 → th_St → Prop} (C : th_Cx p s m args meth c cX12_isThere RX12 4 (some .boolean) (dC, dI) (th_ty cs) th_E0 A) (z0 : Int32) (u : th_St) (H : Heap) (locs : List Loc) (ls : Array Slot) (hf : M_isThere_40 K z0 u) (hw : th_wI (dC, dI) (wM cs q) A s.heap u H locs) (hl : lv_has ls 4 []) : W p l e (th_rm 3 0 0) s m args below meth c H locs 0 0 (MQ below (va_Qi K (th_Post (dC, dI) (wM cs q) A) A) args s 0 0 A) (F0 m 40 ls [.int z0]) := by
  have hx := C.1
  have hb := C.2.1
  unfold M_isThere_40 at hf
  exact th_zret C hw hf dX12_isThere_40
def M_isThere_39 (K : Int32 → th_St → Prop) (u : th_St) : Prop :=
  M_isThere_40 K (0 : Int32) u
set_option maxHeartbeats 4000000 in
set_option maxRecDepth 100000 in
theorem M_isThere_39_w {K : Int32 → th_St → Prop} (C : th_Cx p s m args meth c cX12_isThere RX12 4 (some .boolean) (dC, dI) (th_ty cs) th_E0 A) (u : th_St) (H : Heap) (locs : List Loc) (ls : Array Slot) (hf : M_isThere_39 K u) (hw : th_wI (dC, dI) (wM cs q) A s.heap u H locs) (hl : lv_has ls 4 []) : W p l e (th_rm 3 0 0) s m args below meth c H locs 0 0 (MQ below (va_Qi K (th_Post (dC, dI) (wM cs q) A) A) args s 0 0 A) (F0 m 39 ls []) := by
  have hx := C.1
  have hb := C.2.1
  unfold M_isThere_39 at hf
  refine lv_iconst (v := (0 : Int32)) hx hb dX12_isThere_39 (by decide) ?_
  exact M_isThere_40_w C (0 : Int32) u _ _ _ hf hw (lv_sub hl [] rfl)
def M_isThere (a1 : Int32) (a2 : Int32) (a3 : Int32) (u : th_St) (K : Int32 → th_St → Prop) : Prop :=
  M_look a3 u (fun u_1 => (vp_in (0 : Int32) 2 ∧ ∀ y_3 : Int32, y_3 = u_1.2.2.1 11 ((0 : Int32)).toNatClampNeg → M_isIn a1 (0 : Int32) (y_3 - (1 : Int32)) u_1 (fun r_5 u_4 => ((r_5 = 0 → M_isThere_39 K u_4) ∧ (¬ r_5 = 0 → M_isIn a2 (0 : Int32) ((u_4.1 42) - (1 : Int32)) u_4 (fun r_7 u_6 => ((r_7 = 0 → M_isThere_39 K u_6) ∧ (¬ r_7 = 0 → M_isThere_40 K (1 : Int32) u_6))))))))
set_option maxHeartbeats 4000000 in
set_option maxRecDepth 100000 in
theorem M_isThere_c {l : Launch} {dC : Nat → ClassId} {dI : Nat → Nat → Nat} {cs : Nat → ClassId} {q : Nat → Nat} {a1 : Int32} {a2 : Int32} {a3 : Int32} {u : th_St} {K : Int32 → th_St → Prop} (hf : M_isThere a1 a2 a3 u K) : th_Ci l yX12_isThere cX12_isThere 4 (some .boolean) 3 0 0 (dC, dI) (th_ty cs) th_E0 (wM cs q) [.ref (q 0), .int a1, .int a2, .int a3] u K := by
  refine th_ofi (by decide) (Nat.le_of_ble_eq_true rfl) th_E0_ok ?_
  intro p e s m below meth c A ls C hw hl
  have C : th_Cx p s m _ meth c cX12_isThere RX12 4 (some .boolean) (dC, dI) (th_ty cs) th_E0 A := C
  have hl : lv_has ls 4 [(0, .ref (q 0)), (1, .int a1), (2, .int a2), (3, .int a3)] := hl
  generalize (List.toArray _ : Array Value) = args at C ⊢
  have hx := C.1
  have hb := C.2.1
  unfold M_isThere at hf
  refine lv_aload_n hx hb dX12_isThere_0 rfl (lv_at hl 0 rfl) ?_
  refine lv_iload_n hx hb dX12_isThere_1 rfl (lv_at hl 3 rfl) ?_
  refine th_callVv (As := [.int a3]) (rest := []) C lkX12_337 (M_look_c hf) hw (mRc C hw) rfl rfl ⟨Nat.le_of_ble_eq_true rfl, Nat.le_of_ble_eq_true rfl⟩ hl.1 (Nat.le_of_ble_eq_true rfl) ⟨Nat.le_refl _, Nat.le_refl _⟩ dX12_isThere_2 (fun u_1 H locs hf hw => ?_)
  refine lv_iload_n hx hb dX12_isThere_5 rfl (lv_at hl 1 rfl) ?_
  refine lv_iconst (v := (0 : Int32)) hx hb dX12_isThere_6 (by decide) ?_
  refine lv_aload_n hx hb dX12_isThere_7 rfl (lv_at hl 0 rfl) ?_
  refine mg_11 C hw dX12_isThere_8 ?_
  refine lv_iconst (v := (0 : Int32)) hx hb dX12_isThere_11 (by decide) ?_
  refine ml_11 C hw hf.1 dX12_isThere_12 (fun y_3 e9 => ?_)
  replace hf := hf.2 y_3 e9
  clear e9
  refine lv_iconst (v := (1 : Int32)) hx hb dX12_isThere_13 (by decide) ?_
  refine lv_isub hx hb dX12_isThere_14 ?_
  refine th_callSi (As := [.int a1, .int (0 : Int32), .int (y_3 - (1 : Int32))]) (rest := []) C lkX12_24 (M_isIn_c hf) hw rfl rfl ⟨Nat.le_of_ble_eq_true rfl, Nat.le_of_ble_eq_true rfl⟩ hl.1 (Nat.le_of_ble_eq_true rfl) ⟨Nat.le_refl _, Nat.le_refl _⟩ dX12_isThere_15 (fun r_5 u_4 H locs hf hw => ?_)
  refine lv_if_eq (tgt := 39) hx hb dX12_isThere_18 (by decide) (fun hc => ?_) (fun hc => ?_)
  · replace hf := hf.1 hc
    clear hc
    exact M_isThere_39_w C  u_4 _ _ _ hf hw (lv_sub hl [] rfl)
  · replace hf := hf.2 hc
    clear hc
    refine lv_iload_n hx hb dX12_isThere_21 rfl (lv_at hl 2 rfl) ?_
    refine lv_iconst (v := (0 : Int32)) hx hb dX12_isThere_22 (by decide) ?_
    refine lv_aload_n hx hb dX12_isThere_23 rfl (lv_at hl 0 rfl) ?_
    refine mg_42 C hw dX12_isThere_24 ?_
    refine lv_iconst (v := (1 : Int32)) hx hb dX12_isThere_27 (by decide) ?_
    refine lv_isub hx hb dX12_isThere_28 ?_
    refine th_callSi (As := [.int a2, .int (0 : Int32), .int ((u_4.1 42) - (1 : Int32))]) (rest := []) C lkX12_24 (M_isIn_c hf) hw rfl rfl ⟨Nat.le_of_ble_eq_true rfl, Nat.le_of_ble_eq_true rfl⟩ hl.1 (Nat.le_of_ble_eq_true rfl) ⟨Nat.le_refl _, Nat.le_refl _⟩ dX12_isThere_29 (fun r_7 u_6 H locs hf hw => ?_)
    refine lv_if_eq (tgt := 39) hx hb dX12_isThere_32 (by decide) (fun hc => ?_) (fun hc => ?_)
    · replace hf := hf.1 hc
      clear hc
      exact M_isThere_39_w C  u_6 _ _ _ hf hw (lv_sub hl [] rfl)
    · replace hf := hf.2 hc
      clear hc
      refine lv_iconst (v := (1 : Int32)) hx hb dX12_isThere_35 (by decide) ?_
      refine lv_goto (tgt := 40) hx hb dX12_isThere_36 (by decide) ?_
      exact M_isThere_40_w C (1 : Int32) u_6 _ _ _ hf hw (lv_sub hl [] rfl)
/-! X12_isAlarm -/
theorem dX12_isAlarm_0 : decode cX12_isAlarm 0 = .ok (.iload_n 2, 1) := by decide +kernel
theorem dX12_isAlarm_1 : decode cX12_isAlarm 1 = .ok (.iconst 1, 1) := by decide +kernel
theorem dX12_isAlarm_2 : decode cX12_isAlarm 2 = .ok (.iadd, 1) := by decide +kernel
theorem dX12_isAlarm_3 : decode cX12_isAlarm 3 = .ok (.aload_n 0, 1) := by decide +kernel
theorem dX12_isAlarm_4 : decode cX12_isAlarm 4 = .ok (.getfield 51, 3) := by decide +kernel
theorem dX12_isAlarm_7 : decode cX12_isAlarm 7 = .ok (.iload_n 1, 1) := by decide +kernel
theorem dX12_isAlarm_8 : decode cX12_isAlarm 8 = .ok (.iaload, 1) := by decide +kernel
theorem dX12_isAlarm_9 : decode cX12_isAlarm 9 = .ok (.if_icmp .lt 7, 3) := by decide +kernel
theorem dX12_isAlarm_12 : decode cX12_isAlarm 12 = .ok (.iconst 1, 1) := by decide +kernel
theorem dX12_isAlarm_13 : decode cX12_isAlarm 13 = .ok (.goto 4, 3) := by decide +kernel
theorem dX12_isAlarm_16 : decode cX12_isAlarm 16 = .ok (.iconst 0, 1) := by decide +kernel
theorem dX12_isAlarm_17 : decode cX12_isAlarm 17 = .ok (.istore_n 3, 1) := by decide +kernel
theorem dX12_isAlarm_18 : decode cX12_isAlarm 18 = .ok (.iload_n 2, 1) := by decide +kernel
theorem dX12_isAlarm_19 : decode cX12_isAlarm 19 = .ok (.aload_n 0, 1) := by decide +kernel
theorem dX12_isAlarm_20 : decode cX12_isAlarm 20 = .ok (.getfield 51, 3) := by decide +kernel
theorem dX12_isAlarm_23 : decode cX12_isAlarm 23 = .ok (.iload_n 1, 1) := by decide +kernel
theorem dX12_isAlarm_24 : decode cX12_isAlarm 24 = .ok (.iaload, 1) := by decide +kernel
theorem dX12_isAlarm_25 : decode cX12_isAlarm 25 = .ok (.isub, 1) := by decide +kernel
theorem dX12_isAlarm_26 : decode cX12_isAlarm 26 = .ok (.iconst 1, 1) := by decide +kernel
theorem dX12_isAlarm_27 : decode cX12_isAlarm 27 = .ok (.iadd, 1) := by decide +kernel
theorem dX12_isAlarm_28 : decode cX12_isAlarm 28 = .ok (.istore 4, 2) := by decide +kernel
theorem dX12_isAlarm_30 : decode cX12_isAlarm 30 = .ok (.iload 4, 2) := by decide +kernel
theorem dX12_isAlarm_32 : decode cX12_isAlarm 32 = .ok (.iload_n 2, 1) := by decide +kernel
theorem dX12_isAlarm_33 : decode cX12_isAlarm 33 = .ok (.if_icmp .gt 21, 3) := by decide +kernel
theorem dX12_isAlarm_36 : decode cX12_isAlarm 36 = .ok (.iload_n 3, 1) := by decide +kernel
theorem dX12_isAlarm_37 : decode cX12_isAlarm 37 = .ok (.ifCond .eq 17, 3) := by decide +kernel
theorem dX12_isAlarm_40 : decode cX12_isAlarm 40 = .ok (.aload_n 0, 1) := by decide +kernel
theorem dX12_isAlarm_41 : decode cX12_isAlarm 41 = .ok (.iload_n 1, 1) := by decide +kernel
theorem dX12_isAlarm_42 : decode cX12_isAlarm 42 = .ok (.iload 4, 2) := by decide +kernel
theorem dX12_isAlarm_44 : decode cX12_isAlarm 44 = .ok (.invokevirtual 353, 3) := by decide +kernel
theorem dX12_isAlarm_47 : decode cX12_isAlarm 47 = .ok (.istore_n 3, 1) := by decide +kernel
theorem dX12_isAlarm_48 : decode cX12_isAlarm 48 = .ok (.iinc 4 1, 3) := by decide +kernel
theorem dX12_isAlarm_51 : decode cX12_isAlarm 51 = .ok (.goto (-21), 3) := by decide +kernel
theorem dX12_isAlarm_54 : decode cX12_isAlarm 54 = .ok (.iload_n 3, 1) := by decide +kernel
theorem dX12_isAlarm_55 : decode cX12_isAlarm 55 = .ok (.ireturn, 1) := by decide +kernel
def M_isAlarm_54 (K : Int32 → th_St → Prop) (x3 : Int32) (u : th_St) : Prop :=
  ((x3 = 0 ∨ x3 = 1) ∧ K x3 u)
set_option maxHeartbeats 4000000 in
set_option maxRecDepth 100000 in
theorem M_isAlarm_54_w {K : Int32 → th_St → Prop} (C : th_Cx p s m args meth c cX12_isAlarm RX12 5 (some .boolean) (dC, dI) (th_ty cs) th_E0 A) (x3 : Int32) (u : th_St) (H : Heap) (locs : List Loc) (ls : Array Slot) (hf : M_isAlarm_54 K x3 u) (hw : th_wI (dC, dI) (wM cs q) A s.heap u H locs) (hl : lv_has ls 5 [(3, .int x3)]) : W p l e (th_rm 3 0 0) s m args below meth c H locs 0 0 (MQ below (va_Qi K (th_Post (dC, dI) (wM cs q) A) A) args s 0 0 A) (F0 m 54 ls []) := by
  have hx := C.1
  have hb := C.2.1
  unfold M_isAlarm_54 at hf
  refine lv_iload_n hx hb dX12_isAlarm_54 rfl (lv_at hl 0 rfl) ?_
  exact th_zret C hw hf dX12_isAlarm_55
def M_isAlarm_30 (K : Int32 → th_St → Prop) (k30 : Int32 → Int32 → Int32 → Int32 → th_St → Prop) (x1 : Int32) (x2 : Int32) (x3 : Int32) (x4 : Int32) (u : th_St) : Prop :=
  ((x2 < x4 → M_isAlarm_54 K x3 u) ∧ (¬ x2 < x4 → ((x3 = 0 → M_isAlarm_54 K x3 u) ∧ (¬ x3 = 0 → M_holdsAt x1 x4 u (fun r_2 u_1 => ∀ x4_3 : Int32, x4_3 = x4 + (1 : Int32) → k30 x1 x2 r_2 x4_3 u_1)))))
set_option maxHeartbeats 4000000 in
set_option maxRecDepth 100000 in
theorem M_isAlarm_30_w {K : Int32 → th_St → Prop} {k30 : Int32 → Int32 → Int32 → Int32 → th_St → Prop} (C : th_Cx p s m args meth c cX12_isAlarm RX12 5 (some .boolean) (dC, dI) (th_ty cs) th_E0 A) (hk30 : ∀ (x1 : Int32) (x2 : Int32) (x3 : Int32) (x4 : Int32) (u : th_St) (H : Heap) (locs : List Loc) (ls : Array Slot), k30 x1 x2 x3 x4 u → th_wI (dC, dI) (wM cs q) A s.heap u H locs → lv_has ls 5 [(0, .ref (q 0)), (1, .int x1), (2, .int x2), (3, .int x3), (4, .int x4)] → W p l e (th_rm 3 0 0) s m args below meth c H locs 0 0 (MQ below (va_Qi K (th_Post (dC, dI) (wM cs q) A) A) args s 0 0 A) (F0 m 30 ls [])) (x1 : Int32) (x2 : Int32) (x3 : Int32) (x4 : Int32) (u : th_St) (H : Heap) (locs : List Loc) (ls : Array Slot) (hf : M_isAlarm_30 K k30 x1 x2 x3 x4 u) (hw : th_wI (dC, dI) (wM cs q) A s.heap u H locs) (hl : lv_has ls 5 [(0, .ref (q 0)), (1, .int x1), (2, .int x2), (3, .int x3), (4, .int x4)]) : W p l e (th_rm 3 0 0) s m args below meth c H locs 0 0 (MQ below (va_Qi K (th_Post (dC, dI) (wM cs q) A) A) args s 0 0 A) (F0 m 30 ls []) := by
  have hx := C.1
  have hb := C.2.1
  unfold M_isAlarm_30 at hf
  refine lv_iload hx hb dX12_isAlarm_30 (lv_at hl 4 rfl) ?_
  refine lv_iload_n hx hb dX12_isAlarm_32 rfl (lv_at hl 2 rfl) ?_
  refine lv_icmp_gt (tgt := 54) hx hb dX12_isAlarm_33 (by decide) (fun hc => ?_) (fun hc => ?_)
  · replace hf := hf.1 hc
    clear hc
    exact M_isAlarm_54_w C x3 u _ _ _ hf hw (lv_sub hl [3] rfl)
  · replace hf := hf.2 hc
    clear hc
    refine lv_iload_n hx hb dX12_isAlarm_36 rfl (lv_at hl 3 rfl) ?_
    refine lv_if_eq (tgt := 54) hx hb dX12_isAlarm_37 (by decide) (fun hc => ?_) (fun hc => ?_)
    · replace hf := hf.1 hc
      clear hc
      exact M_isAlarm_54_w C x3 u _ _ _ hf hw (lv_sub hl [3] rfl)
    · replace hf := hf.2 hc
      clear hc
      refine lv_aload_n hx hb dX12_isAlarm_40 rfl (lv_at hl 0 rfl) ?_
      refine lv_iload_n hx hb dX12_isAlarm_41 rfl (lv_at hl 1 rfl) ?_
      refine lv_iload hx hb dX12_isAlarm_42 (lv_at hl 4 rfl) ?_
      refine th_callVi (As := [.int x1, .int x4]) (rest := []) C lkX12_353 (M_holdsAt_c hf) hw (mRc C hw) rfl rfl ⟨Nat.le_of_ble_eq_true rfl, Nat.le_of_ble_eq_true rfl⟩ hl.1 (Nat.le_of_ble_eq_true rfl) ⟨Nat.le_refl _, Nat.le_refl _⟩ dX12_isAlarm_44 (fun r_2 u_1 H locs hf hw => ?_)
      refine lv_istore_n (lv' := [(3, .int r_2), (0, .ref (q 0)), (1, .int x1), (2, .int x2), (4, .int x4)]) hx hb dX12_isAlarm_47 rfl hl (by decide) rfl (fun ls hl => ?_)
      obtain ⟨x4_3, e9⟩ : ∃ y : Int32, y = x4 + (1 : Int32) := ⟨_, rfl⟩
      replace hf := hf x4_3 e9
      refine lv_iinc (v := x4_3) (lv' := [(4, .int x4_3), (3, .int r_2), (0, .ref (q 0)), (1, .int x1), (2, .int x2)]) hx hb dX12_isAlarm_48 hl (k := 4) rfl (by rw [e9]; rfl) (by decide) rfl (fun ls hl => ?_)
      clear e9
      refine lv_goto (tgt := 30) hx hb dX12_isAlarm_51 (by decide) ?_
      exact hk30 x1 x2 r_2 x4_3 u_1 _ _ _ hf hw (lv_sub hl [2, 3, 4, 1, 0] rfl)
def M_isAlarm_30_lp (K : Int32 → th_St → Prop) : Nat → Int32 → Int32 → Int32 → Int32 → th_St → Prop
  | 0, _, _, _, _, _ => False
  | n + 1, x1, x2, x3, x4, u => M_isAlarm_30 K (M_isAlarm_30_lp K n) x1 x2 x3 x4 u
set_option maxHeartbeats 4000000 in
set_option maxRecDepth 100000 in
theorem M_isAlarm_30_lw {K : Int32 → th_St → Prop} (C : th_Cx p s m args meth c cX12_isAlarm RX12 5 (some .boolean) (dC, dI) (th_ty cs) th_E0 A) (n : Nat) : ∀ (x1 : Int32) (x2 : Int32) (x3 : Int32) (x4 : Int32) (u : th_St) (H : Heap) (locs : List Loc) (ls : Array Slot), M_isAlarm_30_lp K n x1 x2 x3 x4 u → th_wI (dC, dI) (wM cs q) A s.heap u H locs → lv_has ls 5 [(0, .ref (q 0)), (1, .int x1), (2, .int x2), (3, .int x3), (4, .int x4)] → W p l e (th_rm 3 0 0) s m args below meth c H locs 0 0 (MQ below (va_Qi K (th_Post (dC, dI) (wM cs q) A) A) args s 0 0 A) (F0 m 30 ls []) := by
  induction n with
  | zero => intro x1 x2 x3 x4 u H locs ls hf; exact hf.elim
  | succ n ih =>
    intro x1 x2 x3 x4 u H locs ls hf hw hl
    exact M_isAlarm_30_w C ih x1 x2 x3 x4 u H locs ls hf hw hl
def M_isAlarm_17 (K : Int32 → th_St → Prop) (x1 : Int32) (x2 : Int32) (z0 : Int32) (u : th_St) : Prop :=
  (vp_in x1 12 ∧ ∀ y_1 : Int32, y_1 = u.2.2.1 10 (x1).toNatClampNeg → ∀ y_2 : Int32, y_2 = ((x2 - y_1) + (1 : Int32)) → ∃ n, M_isAlarm_30_lp K n x1 x2 z0 y_2 u)
set_option maxHeartbeats 4000000 in
set_option maxRecDepth 100000 in
theorem M_isAlarm_17_w {K : Int32 → th_St → Prop} (C : th_Cx p s m args meth c cX12_isAlarm RX12 5 (some .boolean) (dC, dI) (th_ty cs) th_E0 A) (x1 : Int32) (x2 : Int32) (z0 : Int32) (u : th_St) (H : Heap) (locs : List Loc) (ls : Array Slot) (hf : M_isAlarm_17 K x1 x2 z0 u) (hw : th_wI (dC, dI) (wM cs q) A s.heap u H locs) (hl : lv_has ls 5 [(0, .ref (q 0)), (1, .int x1), (2, .int x2)]) : W p l e (th_rm 3 0 0) s m args below meth c H locs 0 0 (MQ below (va_Qi K (th_Post (dC, dI) (wM cs q) A) A) args s 0 0 A) (F0 m 17 ls [.int z0]) := by
  have hx := C.1
  have hb := C.2.1
  unfold M_isAlarm_17 at hf
  refine lv_istore_n (lv' := [(3, .int z0), (0, .ref (q 0)), (1, .int x1), (2, .int x2)]) hx hb dX12_isAlarm_17 rfl hl (by decide) rfl (fun ls hl => ?_)
  refine lv_iload_n hx hb dX12_isAlarm_18 rfl (lv_at hl 3 rfl) ?_
  refine lv_aload_n hx hb dX12_isAlarm_19 rfl (lv_at hl 1 rfl) ?_
  refine mg_10 C hw dX12_isAlarm_20 ?_
  refine lv_iload_n hx hb dX12_isAlarm_23 rfl (lv_at hl 2 rfl) ?_
  refine ml_10 C hw hf.1 dX12_isAlarm_24 (fun y_1 e9 => ?_)
  replace hf := hf.2 y_1 e9
  clear e9
  refine lv_isub hx hb dX12_isAlarm_25 ?_
  refine lv_iconst (v := (1 : Int32)) hx hb dX12_isAlarm_26 (by decide) ?_
  refine lv_iadd hx hb dX12_isAlarm_27 ?_
  refine lv_topi (fun y_2 e9 => ?_)
  replace hf := hf y_2 e9
  clear e9
  refine lv_istore (lv' := [(4, .int y_2), (3, .int z0), (0, .ref (q 0)), (1, .int x1), (2, .int x2)]) hx hb dX12_isAlarm_28 hl (by decide) rfl (fun ls hl => ?_)
  obtain ⟨n, hf⟩ := hf
  exact M_isAlarm_30_lw C n x1 x2 z0 y_2 u _ _ _ hf hw (lv_sub hl [2, 3, 4, 1, 0] rfl)
def M_isAlarm (a1 : Int32) (a2 : Int32) (u : th_St) (K : Int32 → th_St → Prop) : Prop :=
  (vp_in a1 12 ∧ ∀ y_1 : Int32, y_1 = u.2.2.1 10 (a1).toNatClampNeg → (((a2 + (1 : Int32)) < y_1 → M_isAlarm_17 K a1 a2 (0 : Int32) u) ∧ (¬ (a2 + (1 : Int32)) < y_1 → M_isAlarm_17 K a1 a2 (1 : Int32) u)))
set_option maxHeartbeats 4000000 in
set_option maxRecDepth 100000 in
theorem M_isAlarm_c {l : Launch} {dC : Nat → ClassId} {dI : Nat → Nat → Nat} {cs : Nat → ClassId} {q : Nat → Nat} {a1 : Int32} {a2 : Int32} {u : th_St} {K : Int32 → th_St → Prop} (hf : M_isAlarm a1 a2 u K) : th_Ci l yX12_isAlarm cX12_isAlarm 5 (some .boolean) 3 0 0 (dC, dI) (th_ty cs) th_E0 (wM cs q) [.ref (q 0), .int a1, .int a2] u K := by
  refine th_ofi (by decide) (Nat.le_of_ble_eq_true rfl) th_E0_ok ?_
  intro p e s m below meth c A ls C hw hl
  have C : th_Cx p s m _ meth c cX12_isAlarm RX12 5 (some .boolean) (dC, dI) (th_ty cs) th_E0 A := C
  have hl : lv_has ls 5 [(0, .ref (q 0)), (1, .int a1), (2, .int a2)] := hl
  generalize (List.toArray _ : Array Value) = args at C ⊢
  have hx := C.1
  have hb := C.2.1
  unfold M_isAlarm at hf
  refine lv_iload_n hx hb dX12_isAlarm_0 rfl (lv_at hl 2 rfl) ?_
  refine lv_iconst (v := (1 : Int32)) hx hb dX12_isAlarm_1 (by decide) ?_
  refine lv_iadd hx hb dX12_isAlarm_2 ?_
  refine lv_aload_n hx hb dX12_isAlarm_3 rfl (lv_at hl 0 rfl) ?_
  refine mg_10 C hw dX12_isAlarm_4 ?_
  refine lv_iload_n hx hb dX12_isAlarm_7 rfl (lv_at hl 1 rfl) ?_
  refine ml_10 C hw hf.1 dX12_isAlarm_8 (fun y_1 e9 => ?_)
  replace hf := hf.2 y_1 e9
  clear e9
  refine lv_icmp_lt (tgt := 16) hx hb dX12_isAlarm_9 (by decide) (fun hc => ?_) (fun hc => ?_)
  · replace hf := hf.1 hc
    clear hc
    refine lv_iconst (v := (0 : Int32)) hx hb dX12_isAlarm_16 (by decide) ?_
    exact M_isAlarm_17_w C a1 a2 (0 : Int32) u _ _ _ hf hw (lv_sub hl [0, 1, 2] rfl)
  · replace hf := hf.2 hc
    clear hc
    refine lv_iconst (v := (1 : Int32)) hx hb dX12_isAlarm_12 (by decide) ?_
    refine lv_goto (tgt := 17) hx hb dX12_isAlarm_13 (by decide) ?_
    exact M_isAlarm_17_w C a1 a2 (1 : Int32) u _ _ _ hf hw (lv_sub hl [0, 1, 2] rfl)
/-! X12_tellings -/
theorem dX12_tellings_0 : decode cX12_tellings 0 = .ok (.aload_n 0, 1) := by decide +kernel
theorem dX12_tellings_1 : decode cX12_tellings 1 = .ok (.iconst 0, 1) := by decide +kernel
theorem dX12_tellings_2 : decode cX12_tellings 2 = .ok (.putfield 1, 3) := by decide +kernel
theorem dX12_tellings_5 : decode cX12_tellings 5 = .ok (.aload_n 0, 1) := by decide +kernel
theorem dX12_tellings_6 : decode cX12_tellings 6 = .ok (.invokevirtual 164, 3) := by decide +kernel
theorem dX12_tellings_9 : decode cX12_tellings 9 = .ok (.aload_n 0, 1) := by decide +kernel
theorem dX12_tellings_10 : decode cX12_tellings 10 = .ok (.getfield 54, 3) := by decide +kernel
theorem dX12_tellings_13 : decode cX12_tellings 13 = .ok (.iconst 0, 1) := by decide +kernel
theorem dX12_tellings_14 : decode cX12_tellings 14 = .ok (.iaload, 1) := by decide +kernel
theorem dX12_tellings_15 : decode cX12_tellings 15 = .ok (.istore_n 1, 1) := by decide +kernel
theorem dX12_tellings_16 : decode cX12_tellings 16 = .ok (.aload_n 0, 1) := by decide +kernel
theorem dX12_tellings_17 : decode cX12_tellings 17 = .ok (.getfield 18, 3) := by decide +kernel
theorem dX12_tellings_20 : decode cX12_tellings 20 = .ok (.iconst 2, 1) := by decide +kernel
theorem dX12_tellings_21 : decode cX12_tellings 21 = .ok (.iload_n 1, 1) := by decide +kernel
theorem dX12_tellings_22 : decode cX12_tellings 22 = .ok (.imul, 1) := by decide +kernel
theorem dX12_tellings_23 : decode cX12_tellings 23 = .ok (.if_icmp .eq 7, 3) := by decide +kernel
theorem dX12_tellings_26 : decode cX12_tellings 26 = .ok (.ldc2_w 359, 3) := by decide +kernel
theorem dX12_tellings_29 : decode cX12_tellings 29 = .ok (.lreturn, 1) := by decide +kernel
theorem dX12_tellings_30 : decode cX12_tellings 30 = .ok (.iconst 0, 1) := by decide +kernel
theorem dX12_tellings_31 : decode cX12_tellings 31 = .ok (.istore_n 2, 1) := by decide +kernel
theorem dX12_tellings_32 : decode cX12_tellings 32 = .ok (.iload_n 2, 1) := by decide +kernel
theorem dX12_tellings_33 : decode cX12_tellings 33 = .ok (.iload_n 1, 1) := by decide +kernel
theorem dX12_tellings_34 : decode cX12_tellings 34 = .ok (.if_icmp .ge 42, 3) := by decide +kernel
theorem dX12_tellings_37 : decode cX12_tellings 37 = .ok (.aload_n 0, 1) := by decide +kernel
theorem dX12_tellings_38 : decode cX12_tellings 38 = .ok (.getfield 110, 3) := by decide +kernel
theorem dX12_tellings_41 : decode cX12_tellings 41 = .ok (.iload_n 2, 1) := by decide +kernel
theorem dX12_tellings_42 : decode cX12_tellings 42 = .ok (.aload_n 0, 1) := by decide +kernel
theorem dX12_tellings_43 : decode cX12_tellings 43 = .ok (.getfield 14, 3) := by decide +kernel
theorem dX12_tellings_46 : decode cX12_tellings 46 = .ok (.iconst 2, 1) := by decide +kernel
theorem dX12_tellings_47 : decode cX12_tellings 47 = .ok (.iload_n 2, 1) := by decide +kernel
theorem dX12_tellings_48 : decode cX12_tellings 48 = .ok (.imul, 1) := by decide +kernel
theorem dX12_tellings_49 : decode cX12_tellings 49 = .ok (.baload, 1) := by decide +kernel
theorem dX12_tellings_50 : decode cX12_tellings 50 = .ok (.sipush 256, 3) := by decide +kernel
theorem dX12_tellings_53 : decode cX12_tellings 53 = .ok (.imul, 1) := by decide +kernel
theorem dX12_tellings_54 : decode cX12_tellings 54 = .ok (.aload_n 0, 1) := by decide +kernel
theorem dX12_tellings_55 : decode cX12_tellings 55 = .ok (.getfield 14, 3) := by decide +kernel
theorem dX12_tellings_58 : decode cX12_tellings 58 = .ok (.iconst 2, 1) := by decide +kernel
theorem dX12_tellings_59 : decode cX12_tellings 59 = .ok (.iload_n 2, 1) := by decide +kernel
theorem dX12_tellings_60 : decode cX12_tellings 60 = .ok (.imul, 1) := by decide +kernel
theorem dX12_tellings_61 : decode cX12_tellings 61 = .ok (.iconst 1, 1) := by decide +kernel
theorem dX12_tellings_62 : decode cX12_tellings 62 = .ok (.iadd, 1) := by decide +kernel
theorem dX12_tellings_63 : decode cX12_tellings 63 = .ok (.baload, 1) := by decide +kernel
theorem dX12_tellings_64 : decode cX12_tellings 64 = .ok (.sipush 255, 3) := by decide +kernel
theorem dX12_tellings_67 : decode cX12_tellings 67 = .ok (.iand, 1) := by decide +kernel
theorem dX12_tellings_68 : decode cX12_tellings 68 = .ok (.iadd, 1) := by decide +kernel
theorem dX12_tellings_69 : decode cX12_tellings 69 = .ok (.iastore, 1) := by decide +kernel
theorem dX12_tellings_70 : decode cX12_tellings 70 = .ok (.iinc 2 1, 3) := by decide +kernel
theorem dX12_tellings_73 : decode cX12_tellings 73 = .ok (.goto (-41), 3) := by decide +kernel
theorem dX12_tellings_76 : decode cX12_tellings 76 = .ok (.iload_n 1, 1) := by decide +kernel
theorem dX12_tellings_77 : decode cX12_tellings 77 = .ok (.iconst 2, 1) := by decide +kernel
theorem dX12_tellings_78 : decode cX12_tellings 78 = .ok (.isub, 1) := by decide +kernel
theorem dX12_tellings_79 : decode cX12_tellings 79 = .ok (.istore_n 2, 1) := by decide +kernel
theorem dX12_tellings_80 : decode cX12_tellings 80 = .ok (.iload_n 2, 1) := by decide +kernel
theorem dX12_tellings_81 : decode cX12_tellings 81 = .ok (.ifCond .lt 180, 3) := by decide +kernel
theorem dX12_tellings_84 : decode cX12_tellings 84 = .ok (.iconst 0, 1) := by decide +kernel
theorem dX12_tellings_85 : decode cX12_tellings 85 = .ok (.istore_n 3, 1) := by decide +kernel
theorem dX12_tellings_86 : decode cX12_tellings 86 = .ok (.iload_n 3, 1) := by decide +kernel
theorem dX12_tellings_87 : decode cX12_tellings 87 = .ok (.bipush 31, 2) := by decide +kernel
theorem dX12_tellings_89 : decode cX12_tellings 89 = .ok (.if_icmp .ge 166, 3) := by decide +kernel
theorem dX12_tellings_92 : decode cX12_tellings 92 = .ok (.iconst 0, 1) := by decide +kernel
theorem dX12_tellings_93 : decode cX12_tellings 93 = .ok (.istore 4, 2) := by decide +kernel
theorem dX12_tellings_95 : decode cX12_tellings 95 = .ok (.iload 4, 2) := by decide +kernel
theorem dX12_tellings_97 : decode cX12_tellings 97 = .ok (.bipush 31, 2) := by decide +kernel
theorem dX12_tellings_99 : decode cX12_tellings 99 = .ok (.if_icmp .ge 150, 3) := by decide +kernel
theorem dX12_tellings_102 : decode cX12_tellings 102 = .ok (.lconst 0, 1) := by decide +kernel
theorem dX12_tellings_103 : decode cX12_tellings 103 = .ok (.lstore 5, 2) := by decide +kernel
theorem dX12_tellings_105 : decode cX12_tellings 105 = .ok (.iload_n 2, 1) := by decide +kernel
theorem dX12_tellings_106 : decode cX12_tellings 106 = .ok (.iload_n 1, 1) := by decide +kernel
theorem dX12_tellings_107 : decode cX12_tellings 107 = .ok (.iconst 2, 1) := by decide +kernel
theorem dX12_tellings_108 : decode cX12_tellings 108 = .ok (.isub, 1) := by decide +kernel
theorem dX12_tellings_109 : decode cX12_tellings 109 = .ok (.if_icmp .ne 33, 3) := by decide +kernel
theorem dX12_tellings_112 : decode cX12_tellings 112 = .ok (.aload_n 0, 1) := by decide +kernel
theorem dX12_tellings_113 : decode cX12_tellings 113 = .ok (.iload_n 1, 1) := by decide +kernel
theorem dX12_tellings_114 : decode cX12_tellings 114 = .ok (.iconst 1, 1) := by decide +kernel
theorem dX12_tellings_115 : decode cX12_tellings 115 = .ok (.isub, 1) := by decide +kernel
theorem dX12_tellings_116 : decode cX12_tellings 116 = .ok (.iload_n 3, 1) := by decide +kernel
theorem dX12_tellings_117 : decode cX12_tellings 117 = .ok (.bipush 15, 2) := by decide +kernel
theorem dX12_tellings_119 : decode cX12_tellings 119 = .ok (.isub, 1) := by decide +kernel
theorem dX12_tellings_120 : decode cX12_tellings 120 = .ok (.iload 4, 2) := by decide +kernel
theorem dX12_tellings_122 : decode cX12_tellings 122 = .ok (.bipush 15, 2) := by decide +kernel
theorem dX12_tellings_124 : decode cX12_tellings 124 = .ok (.isub, 1) := by decide +kernel
theorem dX12_tellings_125 : decode cX12_tellings 125 = .ok (.iconst 0, 1) := by decide +kernel
theorem dX12_tellings_126 : decode cX12_tellings 126 = .ok (.invokevirtual 361, 3) := by decide +kernel
theorem dX12_tellings_129 : decode cX12_tellings 129 = .ok (.ifCond .eq 7, 3) := by decide +kernel
theorem dX12_tellings_132 : decode cX12_tellings 132 = .ok (.lconst 1, 1) := by decide +kernel
theorem dX12_tellings_133 : decode cX12_tellings 133 = .ok (.goto 4, 3) := by decide +kernel
theorem dX12_tellings_136 : decode cX12_tellings 136 = .ok (.lconst 0, 1) := by decide +kernel
theorem dX12_tellings_137 : decode cX12_tellings 137 = .ok (.lstore 5, 2) := by decide +kernel
theorem dX12_tellings_139 : decode cX12_tellings 139 = .ok (.goto 69, 3) := by decide +kernel
theorem dX12_tellings_142 : decode cX12_tellings 142 = .ok (.iconst 0, 1) := by decide +kernel
theorem dX12_tellings_143 : decode cX12_tellings 143 = .ok (.istore 7, 2) := by decide +kernel
theorem dX12_tellings_145 : decode cX12_tellings 145 = .ok (.iload 7, 2) := by decide +kernel
theorem dX12_tellings_147 : decode cX12_tellings 147 = .ok (.bipush 31, 2) := by decide +kernel
theorem dX12_tellings_149 : decode cX12_tellings 149 = .ok (.if_icmp .ge 59, 3) := by decide +kernel
theorem dX12_tellings_152 : decode cX12_tellings 152 = .ok (.aload_n 0, 1) := by decide +kernel
theorem dX12_tellings_153 : decode cX12_tellings 153 = .ok (.iload_n 2, 1) := by decide +kernel
theorem dX12_tellings_154 : decode cX12_tellings 154 = .ok (.iconst 1, 1) := by decide +kernel
theorem dX12_tellings_155 : decode cX12_tellings 155 = .ok (.iadd, 1) := by decide +kernel
theorem dX12_tellings_156 : decode cX12_tellings 156 = .ok (.iload_n 3, 1) := by decide +kernel
theorem dX12_tellings_157 : decode cX12_tellings 157 = .ok (.bipush 15, 2) := by decide +kernel
theorem dX12_tellings_159 : decode cX12_tellings 159 = .ok (.isub, 1) := by decide +kernel
theorem dX12_tellings_160 : decode cX12_tellings 160 = .ok (.iload 4, 2) := by decide +kernel
theorem dX12_tellings_162 : decode cX12_tellings 162 = .ok (.bipush 15, 2) := by decide +kernel
theorem dX12_tellings_164 : decode cX12_tellings 164 = .ok (.isub, 1) := by decide +kernel
theorem dX12_tellings_165 : decode cX12_tellings 165 = .ok (.iload 7, 2) := by decide +kernel
theorem dX12_tellings_167 : decode cX12_tellings 167 = .ok (.bipush 15, 2) := by decide +kernel
theorem dX12_tellings_169 : decode cX12_tellings 169 = .ok (.isub, 1) := by decide +kernel
theorem dX12_tellings_170 : decode cX12_tellings 170 = .ok (.invokevirtual 361, 3) := by decide +kernel
theorem dX12_tellings_173 : decode cX12_tellings 173 = .ok (.ifCond .eq 29, 3) := by decide +kernel
theorem dX12_tellings_176 : decode cX12_tellings 176 = .ok (.lload 5, 2) := by decide +kernel
theorem dX12_tellings_178 : decode cX12_tellings 178 = .ok (.aload_n 0, 1) := by decide +kernel
theorem dX12_tellings_179 : decode cX12_tellings 179 = .ok (.getfield 103, 3) := by decide +kernel
theorem dX12_tellings_182 : decode cX12_tellings 182 = .ok (.sipush 961, 3) := by decide +kernel
theorem dX12_tellings_185 : decode cX12_tellings 185 = .ok (.iload_n 2, 1) := by decide +kernel
theorem dX12_tellings_186 : decode cX12_tellings 186 = .ok (.iconst 1, 1) := by decide +kernel
theorem dX12_tellings_187 : decode cX12_tellings 187 = .ok (.iadd, 1) := by decide +kernel
theorem dX12_tellings_188 : decode cX12_tellings 188 = .ok (.imul, 1) := by decide +kernel
theorem dX12_tellings_189 : decode cX12_tellings 189 = .ok (.bipush 31, 2) := by decide +kernel
theorem dX12_tellings_191 : decode cX12_tellings 191 = .ok (.iload 4, 2) := by decide +kernel
theorem dX12_tellings_193 : decode cX12_tellings 193 = .ok (.imul, 1) := by decide +kernel
theorem dX12_tellings_194 : decode cX12_tellings 194 = .ok (.iadd, 1) := by decide +kernel
theorem dX12_tellings_195 : decode cX12_tellings 195 = .ok (.iload 7, 2) := by decide +kernel
theorem dX12_tellings_197 : decode cX12_tellings 197 = .ok (.iadd, 1) := by decide +kernel
theorem dX12_tellings_198 : decode cX12_tellings 198 = .ok (.laload, 1) := by decide +kernel
theorem dX12_tellings_199 : decode cX12_tellings 199 = .ok (.ladd, 1) := by decide +kernel
theorem dX12_tellings_200 : decode cX12_tellings 200 = .ok (.lstore 5, 2) := by decide +kernel
theorem dX12_tellings_202 : decode cX12_tellings 202 = .ok (.iinc 7 1, 3) := by decide +kernel
theorem dX12_tellings_205 : decode cX12_tellings 205 = .ok (.goto (-60), 3) := by decide +kernel
theorem dX12_tellings_208 : decode cX12_tellings 208 = .ok (.aload_n 0, 1) := by decide +kernel
theorem dX12_tellings_209 : decode cX12_tellings 209 = .ok (.getfield 103, 3) := by decide +kernel
theorem dX12_tellings_212 : decode cX12_tellings 212 = .ok (.sipush 961, 3) := by decide +kernel
theorem dX12_tellings_215 : decode cX12_tellings 215 = .ok (.iload_n 2, 1) := by decide +kernel
theorem dX12_tellings_216 : decode cX12_tellings 216 = .ok (.imul, 1) := by decide +kernel
theorem dX12_tellings_217 : decode cX12_tellings 217 = .ok (.bipush 31, 2) := by decide +kernel
theorem dX12_tellings_219 : decode cX12_tellings 219 = .ok (.iload_n 3, 1) := by decide +kernel
theorem dX12_tellings_220 : decode cX12_tellings 220 = .ok (.imul, 1) := by decide +kernel
theorem dX12_tellings_221 : decode cX12_tellings 221 = .ok (.iadd, 1) := by decide +kernel
theorem dX12_tellings_222 : decode cX12_tellings 222 = .ok (.iload 4, 2) := by decide +kernel
theorem dX12_tellings_224 : decode cX12_tellings 224 = .ok (.iadd, 1) := by decide +kernel
theorem dX12_tellings_225 : decode cX12_tellings 225 = .ok (.lload 5, 2) := by decide +kernel
theorem dX12_tellings_227 : decode cX12_tellings 227 = .ok (.ldc2_w 365, 3) := by decide +kernel
theorem dX12_tellings_230 : decode cX12_tellings 230 = .ok (.lcmp, 1) := by decide +kernel
theorem dX12_tellings_231 : decode cX12_tellings 231 = .ok (.ifCond .le 9, 3) := by decide +kernel
theorem dX12_tellings_234 : decode cX12_tellings 234 = .ok (.ldc2_w 365, 3) := by decide +kernel
theorem dX12_tellings_237 : decode cX12_tellings 237 = .ok (.goto 5, 3) := by decide +kernel
theorem dX12_tellings_240 : decode cX12_tellings 240 = .ok (.lload 5, 2) := by decide +kernel
theorem dX12_tellings_242 : decode cX12_tellings 242 = .ok (.lastore, 1) := by decide +kernel
theorem dX12_tellings_243 : decode cX12_tellings 243 = .ok (.iinc 4 1, 3) := by decide +kernel
theorem dX12_tellings_246 : decode cX12_tellings 246 = .ok (.goto (-151), 3) := by decide +kernel
theorem dX12_tellings_249 : decode cX12_tellings 249 = .ok (.iinc 3 1, 3) := by decide +kernel
theorem dX12_tellings_252 : decode cX12_tellings 252 = .ok (.goto (-166), 3) := by decide +kernel
theorem dX12_tellings_255 : decode cX12_tellings 255 = .ok (.iinc 2 (-1), 3) := by decide +kernel
theorem dX12_tellings_258 : decode cX12_tellings 258 = .ok (.goto (-178), 3) := by decide +kernel
theorem dX12_tellings_261 : decode cX12_tellings 261 = .ok (.lconst 0, 1) := by decide +kernel
theorem dX12_tellings_262 : decode cX12_tellings 262 = .ok (.lstore_n 2, 1) := by decide +kernel
theorem dX12_tellings_263 : decode cX12_tellings 263 = .ok (.iconst 0, 1) := by decide +kernel
theorem dX12_tellings_264 : decode cX12_tellings 264 = .ok (.istore 4, 2) := by decide +kernel
theorem dX12_tellings_266 : decode cX12_tellings 266 = .ok (.iload 4, 2) := by decide +kernel
theorem dX12_tellings_268 : decode cX12_tellings 268 = .ok (.bipush 31, 2) := by decide +kernel
theorem dX12_tellings_270 : decode cX12_tellings 270 = .ok (.if_icmp .ge 86, 3) := by decide +kernel
theorem dX12_tellings_273 : decode cX12_tellings 273 = .ok (.iconst 0, 1) := by decide +kernel
theorem dX12_tellings_274 : decode cX12_tellings 274 = .ok (.istore 5, 2) := by decide +kernel
theorem dX12_tellings_276 : decode cX12_tellings 276 = .ok (.iload 5, 2) := by decide +kernel
theorem dX12_tellings_278 : decode cX12_tellings 278 = .ok (.bipush 31, 2) := by decide +kernel
theorem dX12_tellings_280 : decode cX12_tellings 280 = .ok (.if_icmp .ge 70, 3) := by decide +kernel
theorem dX12_tellings_283 : decode cX12_tellings 283 = .ok (.aload_n 0, 1) := by decide +kernel
theorem dX12_tellings_284 : decode cX12_tellings 284 = .ok (.getfield 107, 3) := by decide +kernel
theorem dX12_tellings_287 : decode cX12_tellings 287 = .ok (.bipush 31, 2) := by decide +kernel
theorem dX12_tellings_289 : decode cX12_tellings 289 = .ok (.iload 4, 2) := by decide +kernel
theorem dX12_tellings_291 : decode cX12_tellings 291 = .ok (.imul, 1) := by decide +kernel
theorem dX12_tellings_292 : decode cX12_tellings 292 = .ok (.iload 5, 2) := by decide +kernel
theorem dX12_tellings_294 : decode cX12_tellings 294 = .ok (.iadd, 1) := by decide +kernel
theorem dX12_tellings_295 : decode cX12_tellings 295 = .ok (.aload_n 0, 1) := by decide +kernel
theorem dX12_tellings_296 : decode cX12_tellings 296 = .ok (.iconst 0, 1) := by decide +kernel
theorem dX12_tellings_297 : decode cX12_tellings 297 = .ok (.iconst 0, 1) := by decide +kernel
theorem dX12_tellings_298 : decode cX12_tellings 298 = .ok (.iload 4, 2) := by decide +kernel
theorem dX12_tellings_300 : decode cX12_tellings 300 = .ok (.bipush 15, 2) := by decide +kernel
theorem dX12_tellings_302 : decode cX12_tellings 302 = .ok (.isub, 1) := by decide +kernel
theorem dX12_tellings_303 : decode cX12_tellings 303 = .ok (.iload 5, 2) := by decide +kernel
theorem dX12_tellings_305 : decode cX12_tellings 305 = .ok (.bipush 15, 2) := by decide +kernel
theorem dX12_tellings_307 : decode cX12_tellings 307 = .ok (.isub, 1) := by decide +kernel
theorem dX12_tellings_308 : decode cX12_tellings 308 = .ok (.invokevirtual 361, 3) := by decide +kernel
theorem dX12_tellings_311 : decode cX12_tellings 311 = .ok (.bastore, 1) := by decide +kernel
theorem dX12_tellings_312 : decode cX12_tellings 312 = .ok (.aload_n 0, 1) := by decide +kernel
theorem dX12_tellings_313 : decode cX12_tellings 313 = .ok (.getfield 107, 3) := by decide +kernel
theorem dX12_tellings_316 : decode cX12_tellings 316 = .ok (.bipush 31, 2) := by decide +kernel
theorem dX12_tellings_318 : decode cX12_tellings 318 = .ok (.iload 4, 2) := by decide +kernel
theorem dX12_tellings_320 : decode cX12_tellings 320 = .ok (.imul, 1) := by decide +kernel
theorem dX12_tellings_321 : decode cX12_tellings 321 = .ok (.iload 5, 2) := by decide +kernel
theorem dX12_tellings_323 : decode cX12_tellings 323 = .ok (.iadd, 1) := by decide +kernel
theorem dX12_tellings_324 : decode cX12_tellings 324 = .ok (.baload, 1) := by decide +kernel
theorem dX12_tellings_325 : decode cX12_tellings 325 = .ok (.ifCond .eq 19, 3) := by decide +kernel
theorem dX12_tellings_328 : decode cX12_tellings 328 = .ok (.lload_n 2, 1) := by decide +kernel
theorem dX12_tellings_329 : decode cX12_tellings 329 = .ok (.aload_n 0, 1) := by decide +kernel
theorem dX12_tellings_330 : decode cX12_tellings 330 = .ok (.getfield 103, 3) := by decide +kernel
theorem dX12_tellings_333 : decode cX12_tellings 333 = .ok (.bipush 31, 2) := by decide +kernel
theorem dX12_tellings_335 : decode cX12_tellings 335 = .ok (.iload 4, 2) := by decide +kernel
theorem dX12_tellings_337 : decode cX12_tellings 337 = .ok (.imul, 1) := by decide +kernel
theorem dX12_tellings_338 : decode cX12_tellings 338 = .ok (.iload 5, 2) := by decide +kernel
theorem dX12_tellings_340 : decode cX12_tellings 340 = .ok (.iadd, 1) := by decide +kernel
theorem dX12_tellings_341 : decode cX12_tellings 341 = .ok (.laload, 1) := by decide +kernel
theorem dX12_tellings_342 : decode cX12_tellings 342 = .ok (.ladd, 1) := by decide +kernel
theorem dX12_tellings_343 : decode cX12_tellings 343 = .ok (.lstore_n 2, 1) := by decide +kernel
theorem dX12_tellings_344 : decode cX12_tellings 344 = .ok (.iinc 5 1, 3) := by decide +kernel
theorem dX12_tellings_347 : decode cX12_tellings 347 = .ok (.goto (-71), 3) := by decide +kernel
theorem dX12_tellings_350 : decode cX12_tellings 350 = .ok (.iinc 4 1, 3) := by decide +kernel
theorem dX12_tellings_353 : decode cX12_tellings 353 = .ok (.goto (-87), 3) := by decide +kernel
theorem dX12_tellings_356 : decode cX12_tellings 356 = .ok (.lload_n 2, 1) := by decide +kernel
theorem dX12_tellings_357 : decode cX12_tellings 357 = .ok (.lconst 0, 1) := by decide +kernel
theorem dX12_tellings_358 : decode cX12_tellings 358 = .ok (.lcmp, 1) := by decide +kernel
theorem dX12_tellings_359 : decode cX12_tellings 359 = .ok (.ifCond .le 8, 3) := by decide +kernel
theorem dX12_tellings_362 : decode cX12_tellings 362 = .ok (.aload_n 0, 1) := by decide +kernel
theorem dX12_tellings_363 : decode cX12_tellings 363 = .ok (.iload_n 1, 1) := by decide +kernel
theorem dX12_tellings_364 : decode cX12_tellings 364 = .ok (.invokevirtual 367, 3) := by decide +kernel
theorem dX12_tellings_367 : decode cX12_tellings 367 = .ok (.lload_n 2, 1) := by decide +kernel
theorem dX12_tellings_368 : decode cX12_tellings 368 = .ok (.ldc2_w 365, 3) := by decide +kernel
theorem dX12_tellings_371 : decode cX12_tellings 371 = .ok (.lcmp, 1) := by decide +kernel
theorem dX12_tellings_372 : decode cX12_tellings 372 = .ok (.ifCond .le 9, 3) := by decide +kernel
theorem dX12_tellings_375 : decode cX12_tellings 375 = .ok (.ldc2_w 365, 3) := by decide +kernel
theorem dX12_tellings_378 : decode cX12_tellings 378 = .ok (.goto 4, 3) := by decide +kernel
theorem dX12_tellings_381 : decode cX12_tellings 381 = .ok (.lload_n 2, 1) := by decide +kernel
theorem dX12_tellings_382 : decode cX12_tellings 382 = .ok (.lreturn, 1) := by decide +kernel
def M_tellings_242 (K : Int64 → th_St → Prop) (k80 : Int32 → Int32 → th_St → Prop) (k86 : Int32 → Int32 → Int32 → th_St → Prop) (k95 : Int32 → Int32 → Int32 → Int32 → th_St → Prop) (x1 : Int32) (x2 : Int32) (x3 : Int32) (x4 : Int32) (z0 : Int64) (z1 : Int32) (u : th_St) : Prop :=
  (vp_in z1 45167 ∧ ∀ u_1 : th_St, u_1 = th_sl u 43 (vp_updL (u.2.2.2 43) (z1).toNatClampNeg z0) → ∀ x4_2 : Int32, x4_2 = x4 + (1 : Int32) → k95 x1 x2 x3 x4_2 u_1)
set_option maxHeartbeats 4000000 in
set_option maxRecDepth 100000 in
theorem M_tellings_242_w {K : Int64 → th_St → Prop} {k80 : Int32 → Int32 → th_St → Prop} {k86 : Int32 → Int32 → Int32 → th_St → Prop} {k95 : Int32 → Int32 → Int32 → Int32 → th_St → Prop} (C : th_Cx p s m args meth c cX12_tellings RX12 8 (some .long) (dC, dI) (th_ty cs) th_E0 A) (hk80 : ∀ (x1 : Int32) (x2 : Int32) (u : th_St) (H : Heap) (locs : List Loc) (ls : Array Slot), k80 x1 x2 u → th_wI (dC, dI) (wM cs q) A s.heap u H locs → lv_has ls 8 [(0, .ref (q 0)), (1, .int x1), (2, .int x2)] → W p l e (th_rm 3 0 0) s m args below meth c H locs 0 0 (MQ below (va_Ql K (th_Post (dC, dI) (wM cs q) A) A) args s 0 0 A) (F0 m 80 ls [])) (hk86 : ∀ (x1 : Int32) (x2 : Int32) (x3 : Int32) (u : th_St) (H : Heap) (locs : List Loc) (ls : Array Slot), k86 x1 x2 x3 u → th_wI (dC, dI) (wM cs q) A s.heap u H locs → lv_has ls 8 [(0, .ref (q 0)), (1, .int x1), (2, .int x2), (3, .int x3)] → W p l e (th_rm 3 0 0) s m args below meth c H locs 0 0 (MQ below (va_Ql K (th_Post (dC, dI) (wM cs q) A) A) args s 0 0 A) (F0 m 86 ls [])) (hk95 : ∀ (x1 : Int32) (x2 : Int32) (x3 : Int32) (x4 : Int32) (u : th_St) (H : Heap) (locs : List Loc) (ls : Array Slot), k95 x1 x2 x3 x4 u → th_wI (dC, dI) (wM cs q) A s.heap u H locs → lv_has ls 8 [(0, .ref (q 0)), (1, .int x1), (2, .int x2), (3, .int x3), (4, .int x4)] → W p l e (th_rm 3 0 0) s m args below meth c H locs 0 0 (MQ below (va_Ql K (th_Post (dC, dI) (wM cs q) A) A) args s 0 0 A) (F0 m 95 ls [])) (x1 : Int32) (x2 : Int32) (x3 : Int32) (x4 : Int32) (z0 : Int64) (z1 : Int32) (u : th_St) (H : Heap) (locs : List Loc) (ls : Array Slot) (hf : M_tellings_242 K k80 k86 k95 x1 x2 x3 x4 z0 z1 u) (hw : th_wI (dC, dI) (wM cs q) A s.heap u H locs) (hl : lv_has ls 8 [(0, .ref (q 0)), (1, .int x1), (2, .int x2), (3, .int x3), (4, .int x4)]) : W p l e (th_rm 3 0 0) s m args below meth c H locs 0 0 (MQ below (va_Ql K (th_Post (dC, dI) (wM cs q) A) A) args s 0 0 A) (F0 m 242 ls [.long z0, .int z1, .ref (q 43)]) := by
  have hx := C.1
  have hb := C.2.1
  unfold M_tellings_242 at hf
  refine ms_43 C hw hf.1 dX12_tellings_242 (fun u_1 e9 H locs hw => ?_)
  replace hf := hf.2 u_1 e9
  clear e9
  obtain ⟨x4_2, e9⟩ : ∃ y : Int32, y = x4 + (1 : Int32) := ⟨_, rfl⟩
  replace hf := hf x4_2 e9
  refine lv_iinc (v := x4_2) (lv' := [(4, .int x4_2), (0, .ref (q 0)), (1, .int x1), (2, .int x2), (3, .int x3)]) hx hb dX12_tellings_243 hl (k := 4) rfl (by rw [e9]; rfl) (by decide) rfl (fun ls hl => ?_)
  clear e9
  refine lv_goto (tgt := 95) hx hb dX12_tellings_246 (by decide) ?_
  exact hk95 x1 x2 x3 x4_2 u_1 _ _ _ hf hw (lv_sub hl [1, 2, 3, 4, 0] rfl)
def M_tellings_208 (K : Int64 → th_St → Prop) (k80 : Int32 → Int32 → th_St → Prop) (k86 : Int32 → Int32 → Int32 → th_St → Prop) (k95 : Int32 → Int32 → Int32 → Int32 → th_St → Prop) (x1 : Int32) (x2 : Int32) (x3 : Int32) (x4 : Int32) (x5 : Int64) (u : th_St) : Prop :=
  (((lg_cmp x5 (1000000000000000 : Int64)) ≤ 0 → M_tellings_242 K k80 k86 k95 x1 x2 x3 x4 x5 ((((961 : Int32) * x2) + ((31 : Int32) * x3)) + x4) u) ∧ (¬ (lg_cmp x5 (1000000000000000 : Int64)) ≤ 0 → M_tellings_242 K k80 k86 k95 x1 x2 x3 x4 (1000000000000000 : Int64) ((((961 : Int32) * x2) + ((31 : Int32) * x3)) + x4) u))
set_option maxHeartbeats 4000000 in
set_option maxRecDepth 100000 in
theorem M_tellings_208_w {K : Int64 → th_St → Prop} {k80 : Int32 → Int32 → th_St → Prop} {k86 : Int32 → Int32 → Int32 → th_St → Prop} {k95 : Int32 → Int32 → Int32 → Int32 → th_St → Prop} (C : th_Cx p s m args meth c cX12_tellings RX12 8 (some .long) (dC, dI) (th_ty cs) th_E0 A) (hk80 : ∀ (x1 : Int32) (x2 : Int32) (u : th_St) (H : Heap) (locs : List Loc) (ls : Array Slot), k80 x1 x2 u → th_wI (dC, dI) (wM cs q) A s.heap u H locs → lv_has ls 8 [(0, .ref (q 0)), (1, .int x1), (2, .int x2)] → W p l e (th_rm 3 0 0) s m args below meth c H locs 0 0 (MQ below (va_Ql K (th_Post (dC, dI) (wM cs q) A) A) args s 0 0 A) (F0 m 80 ls [])) (hk86 : ∀ (x1 : Int32) (x2 : Int32) (x3 : Int32) (u : th_St) (H : Heap) (locs : List Loc) (ls : Array Slot), k86 x1 x2 x3 u → th_wI (dC, dI) (wM cs q) A s.heap u H locs → lv_has ls 8 [(0, .ref (q 0)), (1, .int x1), (2, .int x2), (3, .int x3)] → W p l e (th_rm 3 0 0) s m args below meth c H locs 0 0 (MQ below (va_Ql K (th_Post (dC, dI) (wM cs q) A) A) args s 0 0 A) (F0 m 86 ls [])) (hk95 : ∀ (x1 : Int32) (x2 : Int32) (x3 : Int32) (x4 : Int32) (u : th_St) (H : Heap) (locs : List Loc) (ls : Array Slot), k95 x1 x2 x3 x4 u → th_wI (dC, dI) (wM cs q) A s.heap u H locs → lv_has ls 8 [(0, .ref (q 0)), (1, .int x1), (2, .int x2), (3, .int x3), (4, .int x4)] → W p l e (th_rm 3 0 0) s m args below meth c H locs 0 0 (MQ below (va_Ql K (th_Post (dC, dI) (wM cs q) A) A) args s 0 0 A) (F0 m 95 ls [])) (x1 : Int32) (x2 : Int32) (x3 : Int32) (x4 : Int32) (x5 : Int64) (u : th_St) (H : Heap) (locs : List Loc) (ls : Array Slot) (hf : M_tellings_208 K k80 k86 k95 x1 x2 x3 x4 x5 u) (hw : th_wI (dC, dI) (wM cs q) A s.heap u H locs) (hl : lv_has ls 8 [(0, .ref (q 0)), (1, .int x1), (2, .int x2), (3, .int x3), (4, .int x4), (5, .long x5)]) : W p l e (th_rm 3 0 0) s m args below meth c H locs 0 0 (MQ below (va_Ql K (th_Post (dC, dI) (wM cs q) A) A) args s 0 0 A) (F0 m 208 ls []) := by
  have hx := C.1
  have hb := C.2.1
  unfold M_tellings_208 at hf
  refine lv_aload_n hx hb dX12_tellings_208 rfl (lv_at hl 0 rfl) ?_
  refine mg_43 C hw dX12_tellings_209 ?_
  refine lv_sipush (v := (961 : Int32)) hx hb dX12_tellings_212 (by decide) ?_
  refine lv_iload_n hx hb dX12_tellings_215 rfl (lv_at hl 2 rfl) ?_
  refine lv_imul hx hb dX12_tellings_216 ?_
  refine lv_bipush (v := (31 : Int32)) hx hb dX12_tellings_217 (by decide) ?_
  refine lv_iload_n hx hb dX12_tellings_219 rfl (lv_at hl 3 rfl) ?_
  refine lv_imul hx hb dX12_tellings_220 ?_
  refine lv_iadd hx hb dX12_tellings_221 ?_
  refine lv_iload hx hb dX12_tellings_222 (lv_at hl 4 rfl) ?_
  refine lv_iadd hx hb dX12_tellings_224 ?_
  refine lv_lload hx hb dX12_tellings_225 (lv_at hl 5 rfl) ?_
  refine lv_ldc2 hx hb C.2.2.2.1 (C.2.2.2.2.1 _ hwK_X12_365) dX12_tellings_227 ?_
  refine W.lcmp hx hb dX12_tellings_230 ?_
  refine lv_if_le (tgt := 240) hx hb dX12_tellings_231 (by decide) (fun hc => ?_) (fun hc => ?_)
  · replace hf := hf.1 hc
    clear hc
    refine lv_lload hx hb dX12_tellings_240 (lv_at hl 5 rfl) ?_
    exact M_tellings_242_w C hk80 hk86 hk95 x1 x2 x3 x4 x5 ((((961 : Int32) * x2) + ((31 : Int32) * x3)) + x4) u _ _ _ hf hw (lv_sub hl [0, 1, 2, 3, 4] rfl)
  · replace hf := hf.2 hc
    clear hc
    refine lv_ldc2 hx hb C.2.2.2.1 (C.2.2.2.2.1 _ hwK_X12_365) dX12_tellings_234 ?_
    refine lv_goto (tgt := 242) hx hb dX12_tellings_237 (by decide) ?_
    exact M_tellings_242_w C hk80 hk86 hk95 x1 x2 x3 x4 (1000000000000000 : Int64) ((((961 : Int32) * x2) + ((31 : Int32) * x3)) + x4) u _ _ _ hf hw (lv_sub hl [0, 1, 2, 3, 4] rfl)
def M_tellings_137 (K : Int64 → th_St → Prop) (k80 : Int32 → Int32 → th_St → Prop) (k86 : Int32 → Int32 → Int32 → th_St → Prop) (k95 : Int32 → Int32 → Int32 → Int32 → th_St → Prop) (x1 : Int32) (x2 : Int32) (x3 : Int32) (x4 : Int32) (z0 : Int64) (u : th_St) : Prop :=
  M_tellings_208 K k80 k86 k95 x1 x2 x3 x4 z0 u
set_option maxHeartbeats 4000000 in
set_option maxRecDepth 100000 in
theorem M_tellings_137_w {K : Int64 → th_St → Prop} {k80 : Int32 → Int32 → th_St → Prop} {k86 : Int32 → Int32 → Int32 → th_St → Prop} {k95 : Int32 → Int32 → Int32 → Int32 → th_St → Prop} (C : th_Cx p s m args meth c cX12_tellings RX12 8 (some .long) (dC, dI) (th_ty cs) th_E0 A) (hk80 : ∀ (x1 : Int32) (x2 : Int32) (u : th_St) (H : Heap) (locs : List Loc) (ls : Array Slot), k80 x1 x2 u → th_wI (dC, dI) (wM cs q) A s.heap u H locs → lv_has ls 8 [(0, .ref (q 0)), (1, .int x1), (2, .int x2)] → W p l e (th_rm 3 0 0) s m args below meth c H locs 0 0 (MQ below (va_Ql K (th_Post (dC, dI) (wM cs q) A) A) args s 0 0 A) (F0 m 80 ls [])) (hk86 : ∀ (x1 : Int32) (x2 : Int32) (x3 : Int32) (u : th_St) (H : Heap) (locs : List Loc) (ls : Array Slot), k86 x1 x2 x3 u → th_wI (dC, dI) (wM cs q) A s.heap u H locs → lv_has ls 8 [(0, .ref (q 0)), (1, .int x1), (2, .int x2), (3, .int x3)] → W p l e (th_rm 3 0 0) s m args below meth c H locs 0 0 (MQ below (va_Ql K (th_Post (dC, dI) (wM cs q) A) A) args s 0 0 A) (F0 m 86 ls [])) (hk95 : ∀ (x1 : Int32) (x2 : Int32) (x3 : Int32) (x4 : Int32) (u : th_St) (H : Heap) (locs : List Loc) (ls : Array Slot), k95 x1 x2 x3 x4 u → th_wI (dC, dI) (wM cs q) A s.heap u H locs → lv_has ls 8 [(0, .ref (q 0)), (1, .int x1), (2, .int x2), (3, .int x3), (4, .int x4)] → W p l e (th_rm 3 0 0) s m args below meth c H locs 0 0 (MQ below (va_Ql K (th_Post (dC, dI) (wM cs q) A) A) args s 0 0 A) (F0 m 95 ls [])) (x1 : Int32) (x2 : Int32) (x3 : Int32) (x4 : Int32) (z0 : Int64) (u : th_St) (H : Heap) (locs : List Loc) (ls : Array Slot) (hf : M_tellings_137 K k80 k86 k95 x1 x2 x3 x4 z0 u) (hw : th_wI (dC, dI) (wM cs q) A s.heap u H locs) (hl : lv_has ls 8 [(0, .ref (q 0)), (1, .int x1), (2, .int x2), (3, .int x3), (4, .int x4)]) : W p l e (th_rm 3 0 0) s m args below meth c H locs 0 0 (MQ below (va_Ql K (th_Post (dC, dI) (wM cs q) A) A) args s 0 0 A) (F0 m 137 ls [.long z0]) := by
  have hx := C.1
  have hb := C.2.1
  unfold M_tellings_137 at hf
  refine lv_lstore (lv' := [(5, .long z0), (0, .ref (q 0)), (1, .int x1), (2, .int x2), (3, .int x3), (4, .int x4)]) hx hb dX12_tellings_137 hl (by decide) rfl (fun ls hl => ?_)
  refine lv_goto (tgt := 208) hx hb dX12_tellings_139 (by decide) ?_
  exact M_tellings_208_w C hk80 hk86 hk95 x1 x2 x3 x4 z0 u _ _ _ hf hw (lv_sub hl [1, 2, 3, 4, 5, 0] rfl)
def M_tellings_202 (K : Int64 → th_St → Prop) (k80 : Int32 → Int32 → th_St → Prop) (k86 : Int32 → Int32 → Int32 → th_St → Prop) (k95 : Int32 → Int32 → Int32 → Int32 → th_St → Prop) (k145 : Int32 → Int32 → Int32 → Int32 → Int64 → Int32 → th_St → Prop) (x1 : Int32) (x2 : Int32) (x3 : Int32) (x4 : Int32) (x5 : Int64) (x7 : Int32) (u : th_St) : Prop :=
  ∀ x7_1 : Int32, x7_1 = x7 + (1 : Int32) → k145 x1 x2 x3 x4 x5 x7_1 u
set_option maxHeartbeats 4000000 in
set_option maxRecDepth 100000 in
theorem M_tellings_202_w {K : Int64 → th_St → Prop} {k80 : Int32 → Int32 → th_St → Prop} {k86 : Int32 → Int32 → Int32 → th_St → Prop} {k95 : Int32 → Int32 → Int32 → Int32 → th_St → Prop} {k145 : Int32 → Int32 → Int32 → Int32 → Int64 → Int32 → th_St → Prop} (C : th_Cx p s m args meth c cX12_tellings RX12 8 (some .long) (dC, dI) (th_ty cs) th_E0 A) (hk80 : ∀ (x1 : Int32) (x2 : Int32) (u : th_St) (H : Heap) (locs : List Loc) (ls : Array Slot), k80 x1 x2 u → th_wI (dC, dI) (wM cs q) A s.heap u H locs → lv_has ls 8 [(0, .ref (q 0)), (1, .int x1), (2, .int x2)] → W p l e (th_rm 3 0 0) s m args below meth c H locs 0 0 (MQ below (va_Ql K (th_Post (dC, dI) (wM cs q) A) A) args s 0 0 A) (F0 m 80 ls [])) (hk86 : ∀ (x1 : Int32) (x2 : Int32) (x3 : Int32) (u : th_St) (H : Heap) (locs : List Loc) (ls : Array Slot), k86 x1 x2 x3 u → th_wI (dC, dI) (wM cs q) A s.heap u H locs → lv_has ls 8 [(0, .ref (q 0)), (1, .int x1), (2, .int x2), (3, .int x3)] → W p l e (th_rm 3 0 0) s m args below meth c H locs 0 0 (MQ below (va_Ql K (th_Post (dC, dI) (wM cs q) A) A) args s 0 0 A) (F0 m 86 ls [])) (hk95 : ∀ (x1 : Int32) (x2 : Int32) (x3 : Int32) (x4 : Int32) (u : th_St) (H : Heap) (locs : List Loc) (ls : Array Slot), k95 x1 x2 x3 x4 u → th_wI (dC, dI) (wM cs q) A s.heap u H locs → lv_has ls 8 [(0, .ref (q 0)), (1, .int x1), (2, .int x2), (3, .int x3), (4, .int x4)] → W p l e (th_rm 3 0 0) s m args below meth c H locs 0 0 (MQ below (va_Ql K (th_Post (dC, dI) (wM cs q) A) A) args s 0 0 A) (F0 m 95 ls [])) (hk145 : ∀ (x1 : Int32) (x2 : Int32) (x3 : Int32) (x4 : Int32) (x5 : Int64) (x7 : Int32) (u : th_St) (H : Heap) (locs : List Loc) (ls : Array Slot), k145 x1 x2 x3 x4 x5 x7 u → th_wI (dC, dI) (wM cs q) A s.heap u H locs → lv_has ls 8 [(0, .ref (q 0)), (1, .int x1), (2, .int x2), (3, .int x3), (4, .int x4), (5, .long x5), (7, .int x7)] → W p l e (th_rm 3 0 0) s m args below meth c H locs 0 0 (MQ below (va_Ql K (th_Post (dC, dI) (wM cs q) A) A) args s 0 0 A) (F0 m 145 ls [])) (x1 : Int32) (x2 : Int32) (x3 : Int32) (x4 : Int32) (x5 : Int64) (x7 : Int32) (u : th_St) (H : Heap) (locs : List Loc) (ls : Array Slot) (hf : M_tellings_202 K k80 k86 k95 k145 x1 x2 x3 x4 x5 x7 u) (hw : th_wI (dC, dI) (wM cs q) A s.heap u H locs) (hl : lv_has ls 8 [(0, .ref (q 0)), (1, .int x1), (2, .int x2), (3, .int x3), (4, .int x4), (5, .long x5), (7, .int x7)]) : W p l e (th_rm 3 0 0) s m args below meth c H locs 0 0 (MQ below (va_Ql K (th_Post (dC, dI) (wM cs q) A) A) args s 0 0 A) (F0 m 202 ls []) := by
  have hx := C.1
  have hb := C.2.1
  unfold M_tellings_202 at hf
  obtain ⟨x7_1, e9⟩ : ∃ y : Int32, y = x7 + (1 : Int32) := ⟨_, rfl⟩
  replace hf := hf x7_1 e9
  refine lv_iinc (v := x7_1) (lv' := [(7, .int x7_1), (0, .ref (q 0)), (1, .int x1), (2, .int x2), (3, .int x3), (4, .int x4), (5, .long x5)]) hx hb dX12_tellings_202 hl (k := 6) rfl (by rw [e9]; rfl) (by decide) rfl (fun ls hl => ?_)
  clear e9
  refine lv_goto (tgt := 145) hx hb dX12_tellings_205 (by decide) ?_
  exact hk145 x1 x2 x3 x4 x5 x7_1 u _ _ _ hf hw (lv_sub hl [1, 2, 3, 4, 5, 6, 0] rfl)
def M_tellings_145 (K : Int64 → th_St → Prop) (k80 : Int32 → Int32 → th_St → Prop) (k86 : Int32 → Int32 → Int32 → th_St → Prop) (k95 : Int32 → Int32 → Int32 → Int32 → th_St → Prop) (k145 : Int32 → Int32 → Int32 → Int32 → Int64 → Int32 → th_St → Prop) (x1 : Int32) (x2 : Int32) (x3 : Int32) (x4 : Int32) (x5 : Int64) (x7 : Int32) (u : th_St) : Prop :=
  (((31 : Int32) ≤ x7 → M_tellings_208 K k80 k86 k95 x1 x2 x3 x4 x5 u) ∧ (¬ (31 : Int32) ≤ x7 → M_fits (x2 + (1 : Int32)) (x3 - (15 : Int32)) (x4 - (15 : Int32)) (x7 - (15 : Int32)) u (fun r_2 u_1 => ((r_2 = 0 → M_tellings_202 K k80 k86 k95 k145 x1 x2 x3 x4 x5 x7 u_1) ∧ (¬ r_2 = 0 → (vp_in ((((961 : Int32) * (x2 + (1 : Int32))) + ((31 : Int32) * x4)) + x7) 45167 ∧ ∀ y_3 : Int64, y_3 = u_1.2.2.2 43 (((((961 : Int32) * (x2 + (1 : Int32))) + ((31 : Int32) * x4)) + x7)).toNatClampNeg → ∀ y_4 : Int64, y_4 = (x5 + y_3) → M_tellings_202 K k80 k86 k95 k145 x1 x2 x3 x4 y_4 x7 u_1))))))
set_option maxHeartbeats 4000000 in
set_option maxRecDepth 100000 in
theorem M_tellings_145_w {K : Int64 → th_St → Prop} {k80 : Int32 → Int32 → th_St → Prop} {k86 : Int32 → Int32 → Int32 → th_St → Prop} {k95 : Int32 → Int32 → Int32 → Int32 → th_St → Prop} {k145 : Int32 → Int32 → Int32 → Int32 → Int64 → Int32 → th_St → Prop} (C : th_Cx p s m args meth c cX12_tellings RX12 8 (some .long) (dC, dI) (th_ty cs) th_E0 A) (hk80 : ∀ (x1 : Int32) (x2 : Int32) (u : th_St) (H : Heap) (locs : List Loc) (ls : Array Slot), k80 x1 x2 u → th_wI (dC, dI) (wM cs q) A s.heap u H locs → lv_has ls 8 [(0, .ref (q 0)), (1, .int x1), (2, .int x2)] → W p l e (th_rm 3 0 0) s m args below meth c H locs 0 0 (MQ below (va_Ql K (th_Post (dC, dI) (wM cs q) A) A) args s 0 0 A) (F0 m 80 ls [])) (hk86 : ∀ (x1 : Int32) (x2 : Int32) (x3 : Int32) (u : th_St) (H : Heap) (locs : List Loc) (ls : Array Slot), k86 x1 x2 x3 u → th_wI (dC, dI) (wM cs q) A s.heap u H locs → lv_has ls 8 [(0, .ref (q 0)), (1, .int x1), (2, .int x2), (3, .int x3)] → W p l e (th_rm 3 0 0) s m args below meth c H locs 0 0 (MQ below (va_Ql K (th_Post (dC, dI) (wM cs q) A) A) args s 0 0 A) (F0 m 86 ls [])) (hk95 : ∀ (x1 : Int32) (x2 : Int32) (x3 : Int32) (x4 : Int32) (u : th_St) (H : Heap) (locs : List Loc) (ls : Array Slot), k95 x1 x2 x3 x4 u → th_wI (dC, dI) (wM cs q) A s.heap u H locs → lv_has ls 8 [(0, .ref (q 0)), (1, .int x1), (2, .int x2), (3, .int x3), (4, .int x4)] → W p l e (th_rm 3 0 0) s m args below meth c H locs 0 0 (MQ below (va_Ql K (th_Post (dC, dI) (wM cs q) A) A) args s 0 0 A) (F0 m 95 ls [])) (hk145 : ∀ (x1 : Int32) (x2 : Int32) (x3 : Int32) (x4 : Int32) (x5 : Int64) (x7 : Int32) (u : th_St) (H : Heap) (locs : List Loc) (ls : Array Slot), k145 x1 x2 x3 x4 x5 x7 u → th_wI (dC, dI) (wM cs q) A s.heap u H locs → lv_has ls 8 [(0, .ref (q 0)), (1, .int x1), (2, .int x2), (3, .int x3), (4, .int x4), (5, .long x5), (7, .int x7)] → W p l e (th_rm 3 0 0) s m args below meth c H locs 0 0 (MQ below (va_Ql K (th_Post (dC, dI) (wM cs q) A) A) args s 0 0 A) (F0 m 145 ls [])) (x1 : Int32) (x2 : Int32) (x3 : Int32) (x4 : Int32) (x5 : Int64) (x7 : Int32) (u : th_St) (H : Heap) (locs : List Loc) (ls : Array Slot) (hf : M_tellings_145 K k80 k86 k95 k145 x1 x2 x3 x4 x5 x7 u) (hw : th_wI (dC, dI) (wM cs q) A s.heap u H locs) (hl : lv_has ls 8 [(0, .ref (q 0)), (1, .int x1), (2, .int x2), (3, .int x3), (4, .int x4), (5, .long x5), (7, .int x7)]) : W p l e (th_rm 3 0 0) s m args below meth c H locs 0 0 (MQ below (va_Ql K (th_Post (dC, dI) (wM cs q) A) A) args s 0 0 A) (F0 m 145 ls []) := by
  have hx := C.1
  have hb := C.2.1
  unfold M_tellings_145 at hf
  refine lv_iload hx hb dX12_tellings_145 (lv_at hl 6 rfl) ?_
  refine lv_bipush (v := (31 : Int32)) hx hb dX12_tellings_147 (by decide) ?_
  refine lv_icmp_ge (tgt := 208) hx hb dX12_tellings_149 (by decide) (fun hc => ?_) (fun hc => ?_)
  · replace hf := hf.1 hc
    clear hc
    exact M_tellings_208_w C hk80 hk86 hk95 x1 x2 x3 x4 x5 u _ _ _ hf hw (lv_sub hl [0, 1, 2, 3, 4, 5] rfl)
  · replace hf := hf.2 hc
    clear hc
    refine lv_aload_n hx hb dX12_tellings_152 rfl (lv_at hl 0 rfl) ?_
    refine lv_iload_n hx hb dX12_tellings_153 rfl (lv_at hl 2 rfl) ?_
    refine lv_iconst (v := (1 : Int32)) hx hb dX12_tellings_154 (by decide) ?_
    refine lv_iadd hx hb dX12_tellings_155 ?_
    refine lv_iload_n hx hb dX12_tellings_156 rfl (lv_at hl 3 rfl) ?_
    refine lv_bipush (v := (15 : Int32)) hx hb dX12_tellings_157 (by decide) ?_
    refine lv_isub hx hb dX12_tellings_159 ?_
    refine lv_iload hx hb dX12_tellings_160 (lv_at hl 4 rfl) ?_
    refine lv_bipush (v := (15 : Int32)) hx hb dX12_tellings_162 (by decide) ?_
    refine lv_isub hx hb dX12_tellings_164 ?_
    refine lv_iload hx hb dX12_tellings_165 (lv_at hl 6 rfl) ?_
    refine lv_bipush (v := (15 : Int32)) hx hb dX12_tellings_167 (by decide) ?_
    refine lv_isub hx hb dX12_tellings_169 ?_
    refine th_callVi (As := [.int (x2 + (1 : Int32)), .int (x3 - (15 : Int32)), .int (x4 - (15 : Int32)), .int (x7 - (15 : Int32))]) (rest := []) C lkX12_361 (M_fits_c hf) hw (mRc C hw) rfl rfl ⟨Nat.le_of_ble_eq_true rfl, Nat.le_of_ble_eq_true rfl⟩ hl.1 (Nat.le_of_ble_eq_true rfl) ⟨Nat.le_refl _, Nat.le_refl _⟩ dX12_tellings_170 (fun r_2 u_1 H locs hf hw => ?_)
    refine lv_if_eq (tgt := 202) hx hb dX12_tellings_173 (by decide) (fun hc => ?_) (fun hc => ?_)
    · replace hf := hf.1 hc
      clear hc
      exact M_tellings_202_w C hk80 hk86 hk95 hk145 x1 x2 x3 x4 x5 x7 u_1 _ _ _ hf hw (lv_sub hl [0, 1, 2, 3, 4, 5, 6] rfl)
    · replace hf := hf.2 hc
      clear hc
      refine lv_lload hx hb dX12_tellings_176 (lv_at hl 5 rfl) ?_
      refine lv_aload_n hx hb dX12_tellings_178 rfl (lv_at hl 0 rfl) ?_
      refine mg_43 C hw dX12_tellings_179 ?_
      refine lv_sipush (v := (961 : Int32)) hx hb dX12_tellings_182 (by decide) ?_
      refine lv_iload_n hx hb dX12_tellings_185 rfl (lv_at hl 2 rfl) ?_
      refine lv_iconst (v := (1 : Int32)) hx hb dX12_tellings_186 (by decide) ?_
      refine lv_iadd hx hb dX12_tellings_187 ?_
      refine lv_imul hx hb dX12_tellings_188 ?_
      refine lv_bipush (v := (31 : Int32)) hx hb dX12_tellings_189 (by decide) ?_
      refine lv_iload hx hb dX12_tellings_191 (lv_at hl 4 rfl) ?_
      refine lv_imul hx hb dX12_tellings_193 ?_
      refine lv_iadd hx hb dX12_tellings_194 ?_
      refine lv_iload hx hb dX12_tellings_195 (lv_at hl 6 rfl) ?_
      refine lv_iadd hx hb dX12_tellings_197 ?_
      refine ml_43 C hw hf.1 dX12_tellings_198 (fun y_3 e9 => ?_)
      replace hf := hf.2 y_3 e9
      clear e9
      refine lv_ladd hx hb dX12_tellings_199 ?_
      refine lv_topl (fun y_4 e9 => ?_)
      replace hf := hf y_4 e9
      clear e9
      refine lv_lstore (lv' := [(5, .long y_4), (0, .ref (q 0)), (1, .int x1), (2, .int x2), (3, .int x3), (4, .int x4), (7, .int x7)]) hx hb dX12_tellings_200 hl (by decide) rfl (fun ls hl => ?_)
      exact M_tellings_202_w C hk80 hk86 hk95 hk145 x1 x2 x3 x4 y_4 x7 u_1 _ _ _ hf hw (lv_sub hl [1, 2, 3, 4, 5, 0, 6] rfl)
def M_tellings_145_lp (K : Int64 → th_St → Prop) (k80 : Int32 → Int32 → th_St → Prop) (k86 : Int32 → Int32 → Int32 → th_St → Prop) (k95 : Int32 → Int32 → Int32 → Int32 → th_St → Prop) : Nat → Int32 → Int32 → Int32 → Int32 → Int64 → Int32 → th_St → Prop
  | 0, _, _, _, _, _, _, _ => False
  | n + 1, x1, x2, x3, x4, x5, x7, u => M_tellings_145 K k80 k86 k95 (M_tellings_145_lp K k80 k86 k95 n) x1 x2 x3 x4 x5 x7 u
set_option maxHeartbeats 4000000 in
set_option maxRecDepth 100000 in
theorem M_tellings_145_lw {K : Int64 → th_St → Prop} {k80 : Int32 → Int32 → th_St → Prop} {k86 : Int32 → Int32 → Int32 → th_St → Prop} {k95 : Int32 → Int32 → Int32 → Int32 → th_St → Prop} (C : th_Cx p s m args meth c cX12_tellings RX12 8 (some .long) (dC, dI) (th_ty cs) th_E0 A) (hk80 : ∀ (x1 : Int32) (x2 : Int32) (u : th_St) (H : Heap) (locs : List Loc) (ls : Array Slot), k80 x1 x2 u → th_wI (dC, dI) (wM cs q) A s.heap u H locs → lv_has ls 8 [(0, .ref (q 0)), (1, .int x1), (2, .int x2)] → W p l e (th_rm 3 0 0) s m args below meth c H locs 0 0 (MQ below (va_Ql K (th_Post (dC, dI) (wM cs q) A) A) args s 0 0 A) (F0 m 80 ls [])) (hk86 : ∀ (x1 : Int32) (x2 : Int32) (x3 : Int32) (u : th_St) (H : Heap) (locs : List Loc) (ls : Array Slot), k86 x1 x2 x3 u → th_wI (dC, dI) (wM cs q) A s.heap u H locs → lv_has ls 8 [(0, .ref (q 0)), (1, .int x1), (2, .int x2), (3, .int x3)] → W p l e (th_rm 3 0 0) s m args below meth c H locs 0 0 (MQ below (va_Ql K (th_Post (dC, dI) (wM cs q) A) A) args s 0 0 A) (F0 m 86 ls [])) (hk95 : ∀ (x1 : Int32) (x2 : Int32) (x3 : Int32) (x4 : Int32) (u : th_St) (H : Heap) (locs : List Loc) (ls : Array Slot), k95 x1 x2 x3 x4 u → th_wI (dC, dI) (wM cs q) A s.heap u H locs → lv_has ls 8 [(0, .ref (q 0)), (1, .int x1), (2, .int x2), (3, .int x3), (4, .int x4)] → W p l e (th_rm 3 0 0) s m args below meth c H locs 0 0 (MQ below (va_Ql K (th_Post (dC, dI) (wM cs q) A) A) args s 0 0 A) (F0 m 95 ls [])) (n : Nat) : ∀ (x1 : Int32) (x2 : Int32) (x3 : Int32) (x4 : Int32) (x5 : Int64) (x7 : Int32) (u : th_St) (H : Heap) (locs : List Loc) (ls : Array Slot), M_tellings_145_lp K k80 k86 k95 n x1 x2 x3 x4 x5 x7 u → th_wI (dC, dI) (wM cs q) A s.heap u H locs → lv_has ls 8 [(0, .ref (q 0)), (1, .int x1), (2, .int x2), (3, .int x3), (4, .int x4), (5, .long x5), (7, .int x7)] → W p l e (th_rm 3 0 0) s m args below meth c H locs 0 0 (MQ below (va_Ql K (th_Post (dC, dI) (wM cs q) A) A) args s 0 0 A) (F0 m 145 ls []) := by
  induction n with
  | zero => intro x1 x2 x3 x4 x5 x7 u H locs ls hf; exact hf.elim
  | succ n ih =>
    intro x1 x2 x3 x4 x5 x7 u H locs ls hf hw hl
    exact M_tellings_145_w C hk80 hk86 hk95 ih x1 x2 x3 x4 x5 x7 u H locs ls hf hw hl
def M_tellings_95 (K : Int64 → th_St → Prop) (k80 : Int32 → Int32 → th_St → Prop) (k86 : Int32 → Int32 → Int32 → th_St → Prop) (k95 : Int32 → Int32 → Int32 → Int32 → th_St → Prop) (x1 : Int32) (x2 : Int32) (x3 : Int32) (x4 : Int32) (u : th_St) : Prop :=
  (((31 : Int32) ≤ x4 → ∀ x3_1 : Int32, x3_1 = x3 + (1 : Int32) → k86 x1 x2 x3_1 u) ∧ (¬ (31 : Int32) ≤ x4 → ((¬ x2 = (x1 - (2 : Int32)) → ∃ n, M_tellings_145_lp K k80 k86 k95 n x1 x2 x3 x4 (0 : Int64) (0 : Int32) u) ∧ (x2 = (x1 - (2 : Int32)) → M_fits (x1 - (1 : Int32)) (x3 - (15 : Int32)) (x4 - (15 : Int32)) (0 : Int32) u (fun r_3 u_2 => ((r_3 = 0 → M_tellings_137 K k80 k86 k95 x1 x2 x3 x4 (0 : Int64) u_2) ∧ (¬ r_3 = 0 → M_tellings_137 K k80 k86 k95 x1 x2 x3 x4 (1 : Int64) u_2)))))))
set_option maxHeartbeats 4000000 in
set_option maxRecDepth 100000 in
theorem M_tellings_95_w {K : Int64 → th_St → Prop} {k80 : Int32 → Int32 → th_St → Prop} {k86 : Int32 → Int32 → Int32 → th_St → Prop} {k95 : Int32 → Int32 → Int32 → Int32 → th_St → Prop} (C : th_Cx p s m args meth c cX12_tellings RX12 8 (some .long) (dC, dI) (th_ty cs) th_E0 A) (hk80 : ∀ (x1 : Int32) (x2 : Int32) (u : th_St) (H : Heap) (locs : List Loc) (ls : Array Slot), k80 x1 x2 u → th_wI (dC, dI) (wM cs q) A s.heap u H locs → lv_has ls 8 [(0, .ref (q 0)), (1, .int x1), (2, .int x2)] → W p l e (th_rm 3 0 0) s m args below meth c H locs 0 0 (MQ below (va_Ql K (th_Post (dC, dI) (wM cs q) A) A) args s 0 0 A) (F0 m 80 ls [])) (hk86 : ∀ (x1 : Int32) (x2 : Int32) (x3 : Int32) (u : th_St) (H : Heap) (locs : List Loc) (ls : Array Slot), k86 x1 x2 x3 u → th_wI (dC, dI) (wM cs q) A s.heap u H locs → lv_has ls 8 [(0, .ref (q 0)), (1, .int x1), (2, .int x2), (3, .int x3)] → W p l e (th_rm 3 0 0) s m args below meth c H locs 0 0 (MQ below (va_Ql K (th_Post (dC, dI) (wM cs q) A) A) args s 0 0 A) (F0 m 86 ls [])) (hk95 : ∀ (x1 : Int32) (x2 : Int32) (x3 : Int32) (x4 : Int32) (u : th_St) (H : Heap) (locs : List Loc) (ls : Array Slot), k95 x1 x2 x3 x4 u → th_wI (dC, dI) (wM cs q) A s.heap u H locs → lv_has ls 8 [(0, .ref (q 0)), (1, .int x1), (2, .int x2), (3, .int x3), (4, .int x4)] → W p l e (th_rm 3 0 0) s m args below meth c H locs 0 0 (MQ below (va_Ql K (th_Post (dC, dI) (wM cs q) A) A) args s 0 0 A) (F0 m 95 ls [])) (x1 : Int32) (x2 : Int32) (x3 : Int32) (x4 : Int32) (u : th_St) (H : Heap) (locs : List Loc) (ls : Array Slot) (hf : M_tellings_95 K k80 k86 k95 x1 x2 x3 x4 u) (hw : th_wI (dC, dI) (wM cs q) A s.heap u H locs) (hl : lv_has ls 8 [(0, .ref (q 0)), (1, .int x1), (2, .int x2), (3, .int x3), (4, .int x4)]) : W p l e (th_rm 3 0 0) s m args below meth c H locs 0 0 (MQ below (va_Ql K (th_Post (dC, dI) (wM cs q) A) A) args s 0 0 A) (F0 m 95 ls []) := by
  have hx := C.1
  have hb := C.2.1
  unfold M_tellings_95 at hf
  refine lv_iload hx hb dX12_tellings_95 (lv_at hl 4 rfl) ?_
  refine lv_bipush (v := (31 : Int32)) hx hb dX12_tellings_97 (by decide) ?_
  refine lv_icmp_ge (tgt := 249) hx hb dX12_tellings_99 (by decide) (fun hc => ?_) (fun hc => ?_)
  · replace hf := hf.1 hc
    clear hc
    obtain ⟨x3_1, e9⟩ : ∃ y : Int32, y = x3 + (1 : Int32) := ⟨_, rfl⟩
    replace hf := hf x3_1 e9
    refine lv_iinc (v := x3_1) (lv' := [(3, .int x3_1), (0, .ref (q 0)), (1, .int x1), (2, .int x2), (4, .int x4)]) hx hb dX12_tellings_249 hl (k := 3) rfl (by rw [e9]; rfl) (by decide) rfl (fun ls hl => ?_)
    clear e9
    refine lv_goto (tgt := 86) hx hb dX12_tellings_252 (by decide) ?_
    exact hk86 x1 x2 x3_1 u _ _ _ hf hw (lv_sub hl [1, 2, 3, 0] rfl)
  · replace hf := hf.2 hc
    clear hc
    refine lv_lconst (v := (0 : Int64)) hx hb dX12_tellings_102 (by decide) ?_
    refine lv_lstore (lv' := [(5, .long (0 : Int64)), (0, .ref (q 0)), (1, .int x1), (2, .int x2), (3, .int x3), (4, .int x4)]) hx hb dX12_tellings_103 hl (by decide) rfl (fun ls hl => ?_)
    refine lv_iload_n hx hb dX12_tellings_105 rfl (lv_at hl 3 rfl) ?_
    refine lv_iload_n hx hb dX12_tellings_106 rfl (lv_at hl 2 rfl) ?_
    refine lv_iconst (v := (2 : Int32)) hx hb dX12_tellings_107 (by decide) ?_
    refine lv_isub hx hb dX12_tellings_108 ?_
    refine lv_icmp_ne (tgt := 142) hx hb dX12_tellings_109 (by decide) (fun hc => ?_) (fun hc => ?_)
    · replace hf := hf.1 hc
      clear hc
      refine lv_iconst (v := (0 : Int32)) hx hb dX12_tellings_142 (by decide) ?_
      refine lv_istore (lv' := [(7, .int (0 : Int32)), (5, .long (0 : Int64)), (0, .ref (q 0)), (1, .int x1), (2, .int x2), (3, .int x3), (4, .int x4)]) hx hb dX12_tellings_143 hl (by decide) rfl (fun ls hl => ?_)
      obtain ⟨n, hf⟩ := hf
      exact M_tellings_145_lw C hk80 hk86 hk95 n x1 x2 x3 x4 (0 : Int64) (0 : Int32) u _ _ _ hf hw (lv_sub hl [2, 3, 4, 5, 6, 1, 0] rfl)
    · replace hf := hf.2 hc
      clear hc
      refine lv_aload_n hx hb dX12_tellings_112 rfl (lv_at hl 1 rfl) ?_
      refine lv_iload_n hx hb dX12_tellings_113 rfl (lv_at hl 2 rfl) ?_
      refine lv_iconst (v := (1 : Int32)) hx hb dX12_tellings_114 (by decide) ?_
      refine lv_isub hx hb dX12_tellings_115 ?_
      refine lv_iload_n hx hb dX12_tellings_116 rfl (lv_at hl 4 rfl) ?_
      refine lv_bipush (v := (15 : Int32)) hx hb dX12_tellings_117 (by decide) ?_
      refine lv_isub hx hb dX12_tellings_119 ?_
      refine lv_iload hx hb dX12_tellings_120 (lv_at hl 5 rfl) ?_
      refine lv_bipush (v := (15 : Int32)) hx hb dX12_tellings_122 (by decide) ?_
      refine lv_isub hx hb dX12_tellings_124 ?_
      refine lv_iconst (v := (0 : Int32)) hx hb dX12_tellings_125 (by decide) ?_
      refine th_callVi (As := [.int (x1 - (1 : Int32)), .int (x3 - (15 : Int32)), .int (x4 - (15 : Int32)), .int (0 : Int32)]) (rest := []) C lkX12_361 (M_fits_c hf) hw (mRc C hw) rfl rfl ⟨Nat.le_of_ble_eq_true rfl, Nat.le_of_ble_eq_true rfl⟩ hl.1 (Nat.le_of_ble_eq_true rfl) ⟨Nat.le_refl _, Nat.le_refl _⟩ dX12_tellings_126 (fun r_3 u_2 H locs hf hw => ?_)
      refine lv_if_eq (tgt := 136) hx hb dX12_tellings_129 (by decide) (fun hc => ?_) (fun hc => ?_)
      · replace hf := hf.1 hc
        clear hc
        refine lv_lconst (v := (0 : Int64)) hx hb dX12_tellings_136 (by decide) ?_
        exact M_tellings_137_w C hk80 hk86 hk95 x1 x2 x3 x4 (0 : Int64) u_2 _ _ _ hf hw (lv_sub hl [1, 2, 3, 4, 5] rfl)
      · replace hf := hf.2 hc
        clear hc
        refine lv_lconst (v := (1 : Int64)) hx hb dX12_tellings_132 (by decide) ?_
        refine lv_goto (tgt := 137) hx hb dX12_tellings_133 (by decide) ?_
        exact M_tellings_137_w C hk80 hk86 hk95 x1 x2 x3 x4 (1 : Int64) u_2 _ _ _ hf hw (lv_sub hl [1, 2, 3, 4, 5] rfl)
def M_tellings_95_lp (K : Int64 → th_St → Prop) (k80 : Int32 → Int32 → th_St → Prop) (k86 : Int32 → Int32 → Int32 → th_St → Prop) : Nat → Int32 → Int32 → Int32 → Int32 → th_St → Prop
  | 0, _, _, _, _, _ => False
  | n + 1, x1, x2, x3, x4, u => M_tellings_95 K k80 k86 (M_tellings_95_lp K k80 k86 n) x1 x2 x3 x4 u
set_option maxHeartbeats 4000000 in
set_option maxRecDepth 100000 in
theorem M_tellings_95_lw {K : Int64 → th_St → Prop} {k80 : Int32 → Int32 → th_St → Prop} {k86 : Int32 → Int32 → Int32 → th_St → Prop} (C : th_Cx p s m args meth c cX12_tellings RX12 8 (some .long) (dC, dI) (th_ty cs) th_E0 A) (hk80 : ∀ (x1 : Int32) (x2 : Int32) (u : th_St) (H : Heap) (locs : List Loc) (ls : Array Slot), k80 x1 x2 u → th_wI (dC, dI) (wM cs q) A s.heap u H locs → lv_has ls 8 [(0, .ref (q 0)), (1, .int x1), (2, .int x2)] → W p l e (th_rm 3 0 0) s m args below meth c H locs 0 0 (MQ below (va_Ql K (th_Post (dC, dI) (wM cs q) A) A) args s 0 0 A) (F0 m 80 ls [])) (hk86 : ∀ (x1 : Int32) (x2 : Int32) (x3 : Int32) (u : th_St) (H : Heap) (locs : List Loc) (ls : Array Slot), k86 x1 x2 x3 u → th_wI (dC, dI) (wM cs q) A s.heap u H locs → lv_has ls 8 [(0, .ref (q 0)), (1, .int x1), (2, .int x2), (3, .int x3)] → W p l e (th_rm 3 0 0) s m args below meth c H locs 0 0 (MQ below (va_Ql K (th_Post (dC, dI) (wM cs q) A) A) args s 0 0 A) (F0 m 86 ls [])) (n : Nat) : ∀ (x1 : Int32) (x2 : Int32) (x3 : Int32) (x4 : Int32) (u : th_St) (H : Heap) (locs : List Loc) (ls : Array Slot), M_tellings_95_lp K k80 k86 n x1 x2 x3 x4 u → th_wI (dC, dI) (wM cs q) A s.heap u H locs → lv_has ls 8 [(0, .ref (q 0)), (1, .int x1), (2, .int x2), (3, .int x3), (4, .int x4)] → W p l e (th_rm 3 0 0) s m args below meth c H locs 0 0 (MQ below (va_Ql K (th_Post (dC, dI) (wM cs q) A) A) args s 0 0 A) (F0 m 95 ls []) := by
  induction n with
  | zero => intro x1 x2 x3 x4 u H locs ls hf; exact hf.elim
  | succ n ih =>
    intro x1 x2 x3 x4 u H locs ls hf hw hl
    exact M_tellings_95_w C hk80 hk86 ih x1 x2 x3 x4 u H locs ls hf hw hl
def M_tellings_86 (K : Int64 → th_St → Prop) (k80 : Int32 → Int32 → th_St → Prop) (k86 : Int32 → Int32 → Int32 → th_St → Prop) (x1 : Int32) (x2 : Int32) (x3 : Int32) (u : th_St) : Prop :=
  (((31 : Int32) ≤ x3 → ∀ x2_1 : Int32, x2_1 = x2 + (-1 : Int32) → k80 x1 x2_1 u) ∧ (¬ (31 : Int32) ≤ x3 → ∃ n, M_tellings_95_lp K k80 k86 n x1 x2 x3 (0 : Int32) u))
set_option maxHeartbeats 4000000 in
set_option maxRecDepth 100000 in
theorem M_tellings_86_w {K : Int64 → th_St → Prop} {k80 : Int32 → Int32 → th_St → Prop} {k86 : Int32 → Int32 → Int32 → th_St → Prop} (C : th_Cx p s m args meth c cX12_tellings RX12 8 (some .long) (dC, dI) (th_ty cs) th_E0 A) (hk80 : ∀ (x1 : Int32) (x2 : Int32) (u : th_St) (H : Heap) (locs : List Loc) (ls : Array Slot), k80 x1 x2 u → th_wI (dC, dI) (wM cs q) A s.heap u H locs → lv_has ls 8 [(0, .ref (q 0)), (1, .int x1), (2, .int x2)] → W p l e (th_rm 3 0 0) s m args below meth c H locs 0 0 (MQ below (va_Ql K (th_Post (dC, dI) (wM cs q) A) A) args s 0 0 A) (F0 m 80 ls [])) (hk86 : ∀ (x1 : Int32) (x2 : Int32) (x3 : Int32) (u : th_St) (H : Heap) (locs : List Loc) (ls : Array Slot), k86 x1 x2 x3 u → th_wI (dC, dI) (wM cs q) A s.heap u H locs → lv_has ls 8 [(0, .ref (q 0)), (1, .int x1), (2, .int x2), (3, .int x3)] → W p l e (th_rm 3 0 0) s m args below meth c H locs 0 0 (MQ below (va_Ql K (th_Post (dC, dI) (wM cs q) A) A) args s 0 0 A) (F0 m 86 ls [])) (x1 : Int32) (x2 : Int32) (x3 : Int32) (u : th_St) (H : Heap) (locs : List Loc) (ls : Array Slot) (hf : M_tellings_86 K k80 k86 x1 x2 x3 u) (hw : th_wI (dC, dI) (wM cs q) A s.heap u H locs) (hl : lv_has ls 8 [(0, .ref (q 0)), (1, .int x1), (2, .int x2), (3, .int x3)]) : W p l e (th_rm 3 0 0) s m args below meth c H locs 0 0 (MQ below (va_Ql K (th_Post (dC, dI) (wM cs q) A) A) args s 0 0 A) (F0 m 86 ls []) := by
  have hx := C.1
  have hb := C.2.1
  unfold M_tellings_86 at hf
  refine lv_iload_n hx hb dX12_tellings_86 rfl (lv_at hl 3 rfl) ?_
  refine lv_bipush (v := (31 : Int32)) hx hb dX12_tellings_87 (by decide) ?_
  refine lv_icmp_ge (tgt := 255) hx hb dX12_tellings_89 (by decide) (fun hc => ?_) (fun hc => ?_)
  · replace hf := hf.1 hc
    clear hc
    obtain ⟨x2_1, e9⟩ : ∃ y : Int32, y = x2 + (-1 : Int32) := ⟨_, rfl⟩
    replace hf := hf x2_1 e9
    refine lv_iinc (v := x2_1) (lv' := [(2, .int x2_1), (0, .ref (q 0)), (1, .int x1), (3, .int x3)]) hx hb dX12_tellings_255 hl (k := 2) rfl (by rw [e9]; rfl) (by decide) rfl (fun ls hl => ?_)
    clear e9
    refine lv_goto (tgt := 80) hx hb dX12_tellings_258 (by decide) ?_
    exact hk80 x1 x2_1 u _ _ _ hf hw (lv_sub hl [1, 2, 0] rfl)
  · replace hf := hf.2 hc
    clear hc
    refine lv_iconst (v := (0 : Int32)) hx hb dX12_tellings_92 (by decide) ?_
    refine lv_istore (lv' := [(4, .int (0 : Int32)), (0, .ref (q 0)), (1, .int x1), (2, .int x2), (3, .int x3)]) hx hb dX12_tellings_93 hl (by decide) rfl (fun ls hl => ?_)
    obtain ⟨n, hf⟩ := hf
    exact M_tellings_95_lw C hk80 hk86 n x1 x2 x3 (0 : Int32) u _ _ _ hf hw (lv_sub hl [1, 2, 3, 4, 0] rfl)
def M_tellings_86_lp (K : Int64 → th_St → Prop) (k80 : Int32 → Int32 → th_St → Prop) : Nat → Int32 → Int32 → Int32 → th_St → Prop
  | 0, _, _, _, _ => False
  | n + 1, x1, x2, x3, u => M_tellings_86 K k80 (M_tellings_86_lp K k80 n) x1 x2 x3 u
set_option maxHeartbeats 4000000 in
set_option maxRecDepth 100000 in
theorem M_tellings_86_lw {K : Int64 → th_St → Prop} {k80 : Int32 → Int32 → th_St → Prop} (C : th_Cx p s m args meth c cX12_tellings RX12 8 (some .long) (dC, dI) (th_ty cs) th_E0 A) (hk80 : ∀ (x1 : Int32) (x2 : Int32) (u : th_St) (H : Heap) (locs : List Loc) (ls : Array Slot), k80 x1 x2 u → th_wI (dC, dI) (wM cs q) A s.heap u H locs → lv_has ls 8 [(0, .ref (q 0)), (1, .int x1), (2, .int x2)] → W p l e (th_rm 3 0 0) s m args below meth c H locs 0 0 (MQ below (va_Ql K (th_Post (dC, dI) (wM cs q) A) A) args s 0 0 A) (F0 m 80 ls [])) (n : Nat) : ∀ (x1 : Int32) (x2 : Int32) (x3 : Int32) (u : th_St) (H : Heap) (locs : List Loc) (ls : Array Slot), M_tellings_86_lp K k80 n x1 x2 x3 u → th_wI (dC, dI) (wM cs q) A s.heap u H locs → lv_has ls 8 [(0, .ref (q 0)), (1, .int x1), (2, .int x2), (3, .int x3)] → W p l e (th_rm 3 0 0) s m args below meth c H locs 0 0 (MQ below (va_Ql K (th_Post (dC, dI) (wM cs q) A) A) args s 0 0 A) (F0 m 86 ls []) := by
  induction n with
  | zero => intro x1 x2 x3 u H locs ls hf; exact hf.elim
  | succ n ih =>
    intro x1 x2 x3 u H locs ls hf hw hl
    exact M_tellings_86_w C hk80 ih x1 x2 x3 u H locs ls hf hw hl
def M_tellings_344 (K : Int64 → th_St → Prop) (k266 : Int32 → Int64 → Int32 → th_St → Prop) (k276 : Int32 → Int64 → Int32 → Int32 → th_St → Prop) (x1 : Int32) (x2 : Int64) (x4 : Int32) (x5 : Int32) (u : th_St) : Prop :=
  ∀ x5_1 : Int32, x5_1 = x5 + (1 : Int32) → k276 x1 x2 x4 x5_1 u
set_option maxHeartbeats 4000000 in
set_option maxRecDepth 100000 in
theorem M_tellings_344_w {K : Int64 → th_St → Prop} {k266 : Int32 → Int64 → Int32 → th_St → Prop} {k276 : Int32 → Int64 → Int32 → Int32 → th_St → Prop} (C : th_Cx p s m args meth c cX12_tellings RX12 8 (some .long) (dC, dI) (th_ty cs) th_E0 A) (hk266 : ∀ (x1 : Int32) (x2 : Int64) (x4 : Int32) (u : th_St) (H : Heap) (locs : List Loc) (ls : Array Slot), k266 x1 x2 x4 u → th_wI (dC, dI) (wM cs q) A s.heap u H locs → lv_has ls 8 [(0, .ref (q 0)), (1, .int x1), (2, .long x2), (4, .int x4)] → W p l e (th_rm 3 0 0) s m args below meth c H locs 0 0 (MQ below (va_Ql K (th_Post (dC, dI) (wM cs q) A) A) args s 0 0 A) (F0 m 266 ls [])) (hk276 : ∀ (x1 : Int32) (x2 : Int64) (x4 : Int32) (x5 : Int32) (u : th_St) (H : Heap) (locs : List Loc) (ls : Array Slot), k276 x1 x2 x4 x5 u → th_wI (dC, dI) (wM cs q) A s.heap u H locs → lv_has ls 8 [(0, .ref (q 0)), (1, .int x1), (2, .long x2), (4, .int x4), (5, .int x5)] → W p l e (th_rm 3 0 0) s m args below meth c H locs 0 0 (MQ below (va_Ql K (th_Post (dC, dI) (wM cs q) A) A) args s 0 0 A) (F0 m 276 ls [])) (x1 : Int32) (x2 : Int64) (x4 : Int32) (x5 : Int32) (u : th_St) (H : Heap) (locs : List Loc) (ls : Array Slot) (hf : M_tellings_344 K k266 k276 x1 x2 x4 x5 u) (hw : th_wI (dC, dI) (wM cs q) A s.heap u H locs) (hl : lv_has ls 8 [(0, .ref (q 0)), (1, .int x1), (2, .long x2), (4, .int x4), (5, .int x5)]) : W p l e (th_rm 3 0 0) s m args below meth c H locs 0 0 (MQ below (va_Ql K (th_Post (dC, dI) (wM cs q) A) A) args s 0 0 A) (F0 m 344 ls []) := by
  have hx := C.1
  have hb := C.2.1
  unfold M_tellings_344 at hf
  obtain ⟨x5_1, e9⟩ : ∃ y : Int32, y = x5 + (1 : Int32) := ⟨_, rfl⟩
  replace hf := hf x5_1 e9
  refine lv_iinc (v := x5_1) (lv' := [(5, .int x5_1), (0, .ref (q 0)), (1, .int x1), (2, .long x2), (4, .int x4)]) hx hb dX12_tellings_344 hl (k := 4) rfl (by rw [e9]; rfl) (by decide) rfl (fun ls hl => ?_)
  clear e9
  refine lv_goto (tgt := 276) hx hb dX12_tellings_347 (by decide) ?_
  exact hk276 x1 x2 x4 x5_1 u _ _ _ hf hw (lv_sub hl [1, 2, 3, 4, 0] rfl)
def M_tellings_276 (K : Int64 → th_St → Prop) (k266 : Int32 → Int64 → Int32 → th_St → Prop) (k276 : Int32 → Int64 → Int32 → Int32 → th_St → Prop) (x1 : Int32) (x2 : Int64) (x4 : Int32) (x5 : Int32) (u : th_St) : Prop :=
  (((31 : Int32) ≤ x5 → ∀ x4_1 : Int32, x4_1 = x4 + (1 : Int32) → k266 x1 x2 x4_1 u) ∧ (¬ (31 : Int32) ≤ x5 → M_fits (0 : Int32) (0 : Int32) (x4 - (15 : Int32)) (x5 - (15 : Int32)) u (fun r_3 u_2 => (vp_in (((31 : Int32) * x4) + x5) 45167 ∧ ∀ u_4 : th_St, u_4 = th_sa u_2 44 (upd (u_2.2.2.1 44) ((((31 : Int32) * x4) + x5)).toNatClampNeg (vp_nar .boolean r_3)) → (vp_in (((31 : Int32) * x4) + x5) 45167 ∧ ∀ y_5 : Int32, y_5 = u_4.2.2.1 44 ((((31 : Int32) * x4) + x5)).toNatClampNeg → ((y_5 = 0 → M_tellings_344 K k266 k276 x1 x2 x4 x5 u_4) ∧ (¬ y_5 = 0 → (vp_in (((31 : Int32) * x4) + x5) 45167 ∧ ∀ y_6 : Int64, y_6 = u_4.2.2.2 43 ((((31 : Int32) * x4) + x5)).toNatClampNeg → ∀ y_7 : Int64, y_7 = (x2 + y_6) → M_tellings_344 K k266 k276 x1 y_7 x4 x5 u_4))))))))
set_option maxHeartbeats 4000000 in
set_option maxRecDepth 100000 in
theorem M_tellings_276_w {K : Int64 → th_St → Prop} {k266 : Int32 → Int64 → Int32 → th_St → Prop} {k276 : Int32 → Int64 → Int32 → Int32 → th_St → Prop} (C : th_Cx p s m args meth c cX12_tellings RX12 8 (some .long) (dC, dI) (th_ty cs) th_E0 A) (hk266 : ∀ (x1 : Int32) (x2 : Int64) (x4 : Int32) (u : th_St) (H : Heap) (locs : List Loc) (ls : Array Slot), k266 x1 x2 x4 u → th_wI (dC, dI) (wM cs q) A s.heap u H locs → lv_has ls 8 [(0, .ref (q 0)), (1, .int x1), (2, .long x2), (4, .int x4)] → W p l e (th_rm 3 0 0) s m args below meth c H locs 0 0 (MQ below (va_Ql K (th_Post (dC, dI) (wM cs q) A) A) args s 0 0 A) (F0 m 266 ls [])) (hk276 : ∀ (x1 : Int32) (x2 : Int64) (x4 : Int32) (x5 : Int32) (u : th_St) (H : Heap) (locs : List Loc) (ls : Array Slot), k276 x1 x2 x4 x5 u → th_wI (dC, dI) (wM cs q) A s.heap u H locs → lv_has ls 8 [(0, .ref (q 0)), (1, .int x1), (2, .long x2), (4, .int x4), (5, .int x5)] → W p l e (th_rm 3 0 0) s m args below meth c H locs 0 0 (MQ below (va_Ql K (th_Post (dC, dI) (wM cs q) A) A) args s 0 0 A) (F0 m 276 ls [])) (x1 : Int32) (x2 : Int64) (x4 : Int32) (x5 : Int32) (u : th_St) (H : Heap) (locs : List Loc) (ls : Array Slot) (hf : M_tellings_276 K k266 k276 x1 x2 x4 x5 u) (hw : th_wI (dC, dI) (wM cs q) A s.heap u H locs) (hl : lv_has ls 8 [(0, .ref (q 0)), (1, .int x1), (2, .long x2), (4, .int x4), (5, .int x5)]) : W p l e (th_rm 3 0 0) s m args below meth c H locs 0 0 (MQ below (va_Ql K (th_Post (dC, dI) (wM cs q) A) A) args s 0 0 A) (F0 m 276 ls []) := by
  have hx := C.1
  have hb := C.2.1
  unfold M_tellings_276 at hf
  refine lv_iload hx hb dX12_tellings_276 (lv_at hl 4 rfl) ?_
  refine lv_bipush (v := (31 : Int32)) hx hb dX12_tellings_278 (by decide) ?_
  refine lv_icmp_ge (tgt := 350) hx hb dX12_tellings_280 (by decide) (fun hc => ?_) (fun hc => ?_)
  · replace hf := hf.1 hc
    clear hc
    obtain ⟨x4_1, e9⟩ : ∃ y : Int32, y = x4 + (1 : Int32) := ⟨_, rfl⟩
    replace hf := hf x4_1 e9
    refine lv_iinc (v := x4_1) (lv' := [(4, .int x4_1), (0, .ref (q 0)), (1, .int x1), (2, .long x2), (5, .int x5)]) hx hb dX12_tellings_350 hl (k := 3) rfl (by rw [e9]; rfl) (by decide) rfl (fun ls hl => ?_)
    clear e9
    refine lv_goto (tgt := 266) hx hb dX12_tellings_353 (by decide) ?_
    exact hk266 x1 x2 x4_1 u _ _ _ hf hw (lv_sub hl [1, 2, 3, 0] rfl)
  · replace hf := hf.2 hc
    clear hc
    refine lv_aload_n hx hb dX12_tellings_283 rfl (lv_at hl 0 rfl) ?_
    refine mg_44 C hw dX12_tellings_284 ?_
    refine lv_bipush (v := (31 : Int32)) hx hb dX12_tellings_287 (by decide) ?_
    refine lv_iload hx hb dX12_tellings_289 (lv_at hl 3 rfl) ?_
    refine lv_imul hx hb dX12_tellings_291 ?_
    refine lv_iload hx hb dX12_tellings_292 (lv_at hl 4 rfl) ?_
    refine lv_iadd hx hb dX12_tellings_294 ?_
    refine lv_aload_n hx hb dX12_tellings_295 rfl (lv_at hl 0 rfl) ?_
    refine lv_iconst (v := (0 : Int32)) hx hb dX12_tellings_296 (by decide) ?_
    refine lv_iconst (v := (0 : Int32)) hx hb dX12_tellings_297 (by decide) ?_
    refine lv_iload hx hb dX12_tellings_298 (lv_at hl 3 rfl) ?_
    refine lv_bipush (v := (15 : Int32)) hx hb dX12_tellings_300 (by decide) ?_
    refine lv_isub hx hb dX12_tellings_302 ?_
    refine lv_iload hx hb dX12_tellings_303 (lv_at hl 4 rfl) ?_
    refine lv_bipush (v := (15 : Int32)) hx hb dX12_tellings_305 (by decide) ?_
    refine lv_isub hx hb dX12_tellings_307 ?_
    refine th_callVi (As := [.int (0 : Int32), .int (0 : Int32), .int (x4 - (15 : Int32)), .int (x5 - (15 : Int32))]) (rest := [.int (((31 : Int32) * x4) + x5), .ref (q 44)]) C lkX12_361 (M_fits_c hf) hw (mRc C hw) rfl rfl ⟨Nat.le_of_ble_eq_true rfl, Nat.le_of_ble_eq_true rfl⟩ hl.1 (Nat.le_of_ble_eq_true rfl) ⟨Nat.le_refl _, Nat.le_refl _⟩ dX12_tellings_308 (fun r_3 u_2 H locs hf hw => ?_)
    refine ms_44 C hw hf.1 dX12_tellings_311 (fun u_4 e9 H locs hw => ?_)
    replace hf := hf.2 u_4 e9
    clear e9
    refine lv_aload_n hx hb dX12_tellings_312 rfl (lv_at hl 0 rfl) ?_
    refine mg_44 C hw dX12_tellings_313 ?_
    refine lv_bipush (v := (31 : Int32)) hx hb dX12_tellings_316 (by decide) ?_
    refine lv_iload hx hb dX12_tellings_318 (lv_at hl 3 rfl) ?_
    refine lv_imul hx hb dX12_tellings_320 ?_
    refine lv_iload hx hb dX12_tellings_321 (lv_at hl 4 rfl) ?_
    refine lv_iadd hx hb dX12_tellings_323 ?_
    refine ml_44 C hw hf.1 dX12_tellings_324 (fun y_5 e9 => ?_)
    replace hf := hf.2 y_5 e9
    clear e9
    refine lv_if_eq (tgt := 344) hx hb dX12_tellings_325 (by decide) (fun hc => ?_) (fun hc => ?_)
    · replace hf := hf.1 hc
      clear hc
      exact M_tellings_344_w C hk266 hk276 x1 x2 x4 x5 u_4 _ _ _ hf hw (lv_sub hl [0, 1, 2, 3, 4] rfl)
    · replace hf := hf.2 hc
      clear hc
      refine lv_lload_n hx hb dX12_tellings_328 rfl (lv_at hl 2 rfl) ?_
      refine lv_aload_n hx hb dX12_tellings_329 rfl (lv_at hl 0 rfl) ?_
      refine mg_43 C hw dX12_tellings_330 ?_
      refine lv_bipush (v := (31 : Int32)) hx hb dX12_tellings_333 (by decide) ?_
      refine lv_iload hx hb dX12_tellings_335 (lv_at hl 3 rfl) ?_
      refine lv_imul hx hb dX12_tellings_337 ?_
      refine lv_iload hx hb dX12_tellings_338 (lv_at hl 4 rfl) ?_
      refine lv_iadd hx hb dX12_tellings_340 ?_
      refine ml_43 C hw hf.1 dX12_tellings_341 (fun y_6 e9 => ?_)
      replace hf := hf.2 y_6 e9
      clear e9
      refine lv_ladd hx hb dX12_tellings_342 ?_
      refine lv_topl (fun y_7 e9 => ?_)
      replace hf := hf y_7 e9
      clear e9
      refine lv_lstore_n (lv' := [(2, .long y_7), (0, .ref (q 0)), (1, .int x1), (4, .int x4), (5, .int x5)]) hx hb dX12_tellings_343 rfl hl (by decide) rfl (fun ls hl => ?_)
      exact M_tellings_344_w C hk266 hk276 x1 y_7 x4 x5 u_4 _ _ _ hf hw (lv_sub hl [1, 2, 0, 3, 4] rfl)
def M_tellings_276_lp (K : Int64 → th_St → Prop) (k266 : Int32 → Int64 → Int32 → th_St → Prop) : Nat → Int32 → Int64 → Int32 → Int32 → th_St → Prop
  | 0, _, _, _, _, _ => False
  | n + 1, x1, x2, x4, x5, u => M_tellings_276 K k266 (M_tellings_276_lp K k266 n) x1 x2 x4 x5 u
set_option maxHeartbeats 4000000 in
set_option maxRecDepth 100000 in
theorem M_tellings_276_lw {K : Int64 → th_St → Prop} {k266 : Int32 → Int64 → Int32 → th_St → Prop} (C : th_Cx p s m args meth c cX12_tellings RX12 8 (some .long) (dC, dI) (th_ty cs) th_E0 A) (hk266 : ∀ (x1 : Int32) (x2 : Int64) (x4 : Int32) (u : th_St) (H : Heap) (locs : List Loc) (ls : Array Slot), k266 x1 x2 x4 u → th_wI (dC, dI) (wM cs q) A s.heap u H locs → lv_has ls 8 [(0, .ref (q 0)), (1, .int x1), (2, .long x2), (4, .int x4)] → W p l e (th_rm 3 0 0) s m args below meth c H locs 0 0 (MQ below (va_Ql K (th_Post (dC, dI) (wM cs q) A) A) args s 0 0 A) (F0 m 266 ls [])) (n : Nat) : ∀ (x1 : Int32) (x2 : Int64) (x4 : Int32) (x5 : Int32) (u : th_St) (H : Heap) (locs : List Loc) (ls : Array Slot), M_tellings_276_lp K k266 n x1 x2 x4 x5 u → th_wI (dC, dI) (wM cs q) A s.heap u H locs → lv_has ls 8 [(0, .ref (q 0)), (1, .int x1), (2, .long x2), (4, .int x4), (5, .int x5)] → W p l e (th_rm 3 0 0) s m args below meth c H locs 0 0 (MQ below (va_Ql K (th_Post (dC, dI) (wM cs q) A) A) args s 0 0 A) (F0 m 276 ls []) := by
  induction n with
  | zero => intro x1 x2 x4 x5 u H locs ls hf; exact hf.elim
  | succ n ih =>
    intro x1 x2 x4 x5 u H locs ls hf hw hl
    exact M_tellings_276_w C hk266 ih x1 x2 x4 x5 u H locs ls hf hw hl
def M_tellings_382 (K : Int64 → th_St → Prop) (z0 : Int64) (u : th_St) : Prop :=
  K z0 u
set_option maxHeartbeats 4000000 in
set_option maxRecDepth 100000 in
theorem M_tellings_382_w {K : Int64 → th_St → Prop} (C : th_Cx p s m args meth c cX12_tellings RX12 8 (some .long) (dC, dI) (th_ty cs) th_E0 A) (z0 : Int64) (u : th_St) (H : Heap) (locs : List Loc) (ls : Array Slot) (hf : M_tellings_382 K z0 u) (hw : th_wI (dC, dI) (wM cs q) A s.heap u H locs) (hl : lv_has ls 8 []) : W p l e (th_rm 3 0 0) s m args below meth c H locs 0 0 (MQ below (va_Ql K (th_Post (dC, dI) (wM cs q) A) A) args s 0 0 A) (F0 m 382 ls [.long z0]) := by
  have hx := C.1
  have hb := C.2.1
  unfold M_tellings_382 at hf
  exact th_lret C hw hf dX12_tellings_382
def M_tellings_367 (K : Int64 → th_St → Prop) (x2 : Int64) (u : th_St) : Prop :=
  (((lg_cmp x2 (1000000000000000 : Int64)) ≤ 0 → M_tellings_382 K x2 u) ∧ (¬ (lg_cmp x2 (1000000000000000 : Int64)) ≤ 0 → M_tellings_382 K (1000000000000000 : Int64) u))
set_option maxHeartbeats 4000000 in
set_option maxRecDepth 100000 in
theorem M_tellings_367_w {K : Int64 → th_St → Prop} (C : th_Cx p s m args meth c cX12_tellings RX12 8 (some .long) (dC, dI) (th_ty cs) th_E0 A) (x2 : Int64) (u : th_St) (H : Heap) (locs : List Loc) (ls : Array Slot) (hf : M_tellings_367 K x2 u) (hw : th_wI (dC, dI) (wM cs q) A s.heap u H locs) (hl : lv_has ls 8 [(2, .long x2)]) : W p l e (th_rm 3 0 0) s m args below meth c H locs 0 0 (MQ below (va_Ql K (th_Post (dC, dI) (wM cs q) A) A) args s 0 0 A) (F0 m 367 ls []) := by
  have hx := C.1
  have hb := C.2.1
  unfold M_tellings_367 at hf
  refine lv_lload_n hx hb dX12_tellings_367 rfl (lv_at hl 0 rfl) ?_
  refine lv_ldc2 hx hb C.2.2.2.1 (C.2.2.2.2.1 _ hwK_X12_365) dX12_tellings_368 ?_
  refine W.lcmp hx hb dX12_tellings_371 ?_
  refine lv_if_le (tgt := 381) hx hb dX12_tellings_372 (by decide) (fun hc => ?_) (fun hc => ?_)
  · replace hf := hf.1 hc
    clear hc
    refine lv_lload_n hx hb dX12_tellings_381 rfl (lv_at hl 0 rfl) ?_
    exact M_tellings_382_w C x2 u _ _ _ hf hw (lv_sub hl [] rfl)
  · replace hf := hf.2 hc
    clear hc
    refine lv_ldc2 hx hb C.2.2.2.1 (C.2.2.2.2.1 _ hwK_X12_365) dX12_tellings_375 ?_
    refine lv_goto (tgt := 382) hx hb dX12_tellings_378 (by decide) ?_
    exact M_tellings_382_w C (1000000000000000 : Int64) u _ _ _ hf hw (lv_sub hl [] rfl)
def M_tellings_266 (K : Int64 → th_St → Prop) (k266 : Int32 → Int64 → Int32 → th_St → Prop) (x1 : Int32) (x2 : Int64) (x4 : Int32) (u : th_St) : Prop :=
  (((31 : Int32) ≤ x4 → (((lg_cmp x2 (0 : Int64)) ≤ 0 → M_tellings_367 K x2 u) ∧ (¬ (lg_cmp x2 (0 : Int64)) ≤ 0 → M_spans x1 u (fun u_1 => M_tellings_367 K x2 u_1)))) ∧ (¬ (31 : Int32) ≤ x4 → ∃ n, M_tellings_276_lp K k266 n x1 x2 x4 (0 : Int32) u))
set_option maxHeartbeats 4000000 in
set_option maxRecDepth 100000 in
theorem M_tellings_266_w {K : Int64 → th_St → Prop} {k266 : Int32 → Int64 → Int32 → th_St → Prop} (C : th_Cx p s m args meth c cX12_tellings RX12 8 (some .long) (dC, dI) (th_ty cs) th_E0 A) (hk266 : ∀ (x1 : Int32) (x2 : Int64) (x4 : Int32) (u : th_St) (H : Heap) (locs : List Loc) (ls : Array Slot), k266 x1 x2 x4 u → th_wI (dC, dI) (wM cs q) A s.heap u H locs → lv_has ls 8 [(0, .ref (q 0)), (1, .int x1), (2, .long x2), (4, .int x4)] → W p l e (th_rm 3 0 0) s m args below meth c H locs 0 0 (MQ below (va_Ql K (th_Post (dC, dI) (wM cs q) A) A) args s 0 0 A) (F0 m 266 ls [])) (x1 : Int32) (x2 : Int64) (x4 : Int32) (u : th_St) (H : Heap) (locs : List Loc) (ls : Array Slot) (hf : M_tellings_266 K k266 x1 x2 x4 u) (hw : th_wI (dC, dI) (wM cs q) A s.heap u H locs) (hl : lv_has ls 8 [(0, .ref (q 0)), (1, .int x1), (2, .long x2), (4, .int x4)]) : W p l e (th_rm 3 0 0) s m args below meth c H locs 0 0 (MQ below (va_Ql K (th_Post (dC, dI) (wM cs q) A) A) args s 0 0 A) (F0 m 266 ls []) := by
  have hx := C.1
  have hb := C.2.1
  unfold M_tellings_266 at hf
  refine lv_iload hx hb dX12_tellings_266 (lv_at hl 3 rfl) ?_
  refine lv_bipush (v := (31 : Int32)) hx hb dX12_tellings_268 (by decide) ?_
  refine lv_icmp_ge (tgt := 356) hx hb dX12_tellings_270 (by decide) (fun hc => ?_) (fun hc => ?_)
  · replace hf := hf.1 hc
    clear hc
    refine lv_lload_n hx hb dX12_tellings_356 rfl (lv_at hl 2 rfl) ?_
    refine lv_lconst (v := (0 : Int64)) hx hb dX12_tellings_357 (by decide) ?_
    refine W.lcmp hx hb dX12_tellings_358 ?_
    refine lv_if_le (tgt := 367) hx hb dX12_tellings_359 (by decide) (fun hc => ?_) (fun hc => ?_)
    · replace hf := hf.1 hc
      clear hc
      exact M_tellings_367_w C x2 u _ _ _ hf hw (lv_sub hl [2] rfl)
    · replace hf := hf.2 hc
      clear hc
      refine lv_aload_n hx hb dX12_tellings_362 rfl (lv_at hl 0 rfl) ?_
      refine lv_iload_n hx hb dX12_tellings_363 rfl (lv_at hl 1 rfl) ?_
      refine th_callVv (As := [.int x1]) (rest := []) C lkX12_367 (M_spans_c hf) hw (mRc C hw) rfl rfl ⟨Nat.le_of_ble_eq_true rfl, Nat.le_of_ble_eq_true rfl⟩ hl.1 (Nat.le_of_ble_eq_true rfl) ⟨Nat.le_refl _, Nat.le_refl _⟩ dX12_tellings_364 (fun u_1 H locs hf hw => ?_)
      exact M_tellings_367_w C x2 u_1 _ _ _ hf hw (lv_sub hl [2] rfl)
  · replace hf := hf.2 hc
    clear hc
    refine lv_iconst (v := (0 : Int32)) hx hb dX12_tellings_273 (by decide) ?_
    refine lv_istore (lv' := [(5, .int (0 : Int32)), (0, .ref (q 0)), (1, .int x1), (2, .long x2), (4, .int x4)]) hx hb dX12_tellings_274 hl (by decide) rfl (fun ls hl => ?_)
    obtain ⟨n, hf⟩ := hf
    exact M_tellings_276_lw C hk266 n x1 x2 x4 (0 : Int32) u _ _ _ hf hw (lv_sub hl [1, 2, 3, 4, 0] rfl)
def M_tellings_266_lp (K : Int64 → th_St → Prop) : Nat → Int32 → Int64 → Int32 → th_St → Prop
  | 0, _, _, _, _ => False
  | n + 1, x1, x2, x4, u => M_tellings_266 K (M_tellings_266_lp K n) x1 x2 x4 u
set_option maxHeartbeats 4000000 in
set_option maxRecDepth 100000 in
theorem M_tellings_266_lw {K : Int64 → th_St → Prop} (C : th_Cx p s m args meth c cX12_tellings RX12 8 (some .long) (dC, dI) (th_ty cs) th_E0 A) (n : Nat) : ∀ (x1 : Int32) (x2 : Int64) (x4 : Int32) (u : th_St) (H : Heap) (locs : List Loc) (ls : Array Slot), M_tellings_266_lp K n x1 x2 x4 u → th_wI (dC, dI) (wM cs q) A s.heap u H locs → lv_has ls 8 [(0, .ref (q 0)), (1, .int x1), (2, .long x2), (4, .int x4)] → W p l e (th_rm 3 0 0) s m args below meth c H locs 0 0 (MQ below (va_Ql K (th_Post (dC, dI) (wM cs q) A) A) args s 0 0 A) (F0 m 266 ls []) := by
  induction n with
  | zero => intro x1 x2 x4 u H locs ls hf; exact hf.elim
  | succ n ih =>
    intro x1 x2 x4 u H locs ls hf hw hl
    exact M_tellings_266_w C ih x1 x2 x4 u H locs ls hf hw hl
def M_tellings_80 (K : Int64 → th_St → Prop) (k80 : Int32 → Int32 → th_St → Prop) (x1 : Int32) (x2 : Int32) (u : th_St) : Prop :=
  ((x2 < 0 → ∃ n, M_tellings_266_lp K n x1 (0 : Int64) (0 : Int32) u) ∧ (¬ x2 < 0 → ∃ n, M_tellings_86_lp K k80 n x1 x2 (0 : Int32) u))
set_option maxHeartbeats 4000000 in
set_option maxRecDepth 100000 in
theorem M_tellings_80_w {K : Int64 → th_St → Prop} {k80 : Int32 → Int32 → th_St → Prop} (C : th_Cx p s m args meth c cX12_tellings RX12 8 (some .long) (dC, dI) (th_ty cs) th_E0 A) (hk80 : ∀ (x1 : Int32) (x2 : Int32) (u : th_St) (H : Heap) (locs : List Loc) (ls : Array Slot), k80 x1 x2 u → th_wI (dC, dI) (wM cs q) A s.heap u H locs → lv_has ls 8 [(0, .ref (q 0)), (1, .int x1), (2, .int x2)] → W p l e (th_rm 3 0 0) s m args below meth c H locs 0 0 (MQ below (va_Ql K (th_Post (dC, dI) (wM cs q) A) A) args s 0 0 A) (F0 m 80 ls [])) (x1 : Int32) (x2 : Int32) (u : th_St) (H : Heap) (locs : List Loc) (ls : Array Slot) (hf : M_tellings_80 K k80 x1 x2 u) (hw : th_wI (dC, dI) (wM cs q) A s.heap u H locs) (hl : lv_has ls 8 [(0, .ref (q 0)), (1, .int x1), (2, .int x2)]) : W p l e (th_rm 3 0 0) s m args below meth c H locs 0 0 (MQ below (va_Ql K (th_Post (dC, dI) (wM cs q) A) A) args s 0 0 A) (F0 m 80 ls []) := by
  have hx := C.1
  have hb := C.2.1
  unfold M_tellings_80 at hf
  refine lv_iload_n hx hb dX12_tellings_80 rfl (lv_at hl 2 rfl) ?_
  refine lv_if_lt (tgt := 261) hx hb dX12_tellings_81 (by decide) (fun hc => ?_) (fun hc => ?_)
  · replace hf := hf.1 hc
    clear hc
    refine lv_lconst (v := (0 : Int64)) hx hb dX12_tellings_261 (by decide) ?_
    refine lv_lstore_n (lv' := [(2, .long (0 : Int64)), (0, .ref (q 0)), (1, .int x1)]) hx hb dX12_tellings_262 rfl hl (by decide) rfl (fun ls hl => ?_)
    refine lv_iconst (v := (0 : Int32)) hx hb dX12_tellings_263 (by decide) ?_
    refine lv_istore (lv' := [(4, .int (0 : Int32)), (2, .long (0 : Int64)), (0, .ref (q 0)), (1, .int x1)]) hx hb dX12_tellings_264 hl (by decide) rfl (fun ls hl => ?_)
    obtain ⟨n, hf⟩ := hf
    exact M_tellings_266_lw C n x1 (0 : Int64) (0 : Int32) u _ _ _ hf hw (lv_sub hl [2, 3, 1, 0] rfl)
  · replace hf := hf.2 hc
    clear hc
    refine lv_iconst (v := (0 : Int32)) hx hb dX12_tellings_84 (by decide) ?_
    refine lv_istore_n (lv' := [(3, .int (0 : Int32)), (0, .ref (q 0)), (1, .int x1), (2, .int x2)]) hx hb dX12_tellings_85 rfl hl (by decide) rfl (fun ls hl => ?_)
    obtain ⟨n, hf⟩ := hf
    exact M_tellings_86_lw C hk80 n x1 x2 (0 : Int32) u _ _ _ hf hw (lv_sub hl [1, 2, 3, 0] rfl)
def M_tellings_80_lp (K : Int64 → th_St → Prop) : Nat → Int32 → Int32 → th_St → Prop
  | 0, _, _, _ => False
  | n + 1, x1, x2, u => M_tellings_80 K (M_tellings_80_lp K n) x1 x2 u
set_option maxHeartbeats 4000000 in
set_option maxRecDepth 100000 in
theorem M_tellings_80_lw {K : Int64 → th_St → Prop} (C : th_Cx p s m args meth c cX12_tellings RX12 8 (some .long) (dC, dI) (th_ty cs) th_E0 A) (n : Nat) : ∀ (x1 : Int32) (x2 : Int32) (u : th_St) (H : Heap) (locs : List Loc) (ls : Array Slot), M_tellings_80_lp K n x1 x2 u → th_wI (dC, dI) (wM cs q) A s.heap u H locs → lv_has ls 8 [(0, .ref (q 0)), (1, .int x1), (2, .int x2)] → W p l e (th_rm 3 0 0) s m args below meth c H locs 0 0 (MQ below (va_Ql K (th_Post (dC, dI) (wM cs q) A) A) args s 0 0 A) (F0 m 80 ls []) := by
  induction n with
  | zero => intro x1 x2 u H locs ls hf; exact hf.elim
  | succ n ih =>
    intro x1 x2 u H locs ls hf hw hl
    exact M_tellings_80_w C ih x1 x2 u H locs ls hf hw hl
def M_tellings_32 (K : Int64 → th_St → Prop) (k32 : Int32 → Int32 → th_St → Prop) (x1 : Int32) (x2 : Int32) (u : th_St) : Prop :=
  ((x1 ≤ x2 → ∀ y_1 : Int32, y_1 = (x1 - (2 : Int32)) → ∃ n, M_tellings_80_lp K n x1 y_1 u) ∧ (¬ x1 ≤ x2 → (vp_in ((2 : Int32) * x2) 440 ∧ ∀ y_2 : Int32, y_2 = u.2.2.1 1 (((2 : Int32) * x2)).toNatClampNeg → (vp_in (((2 : Int32) * x2) + (1 : Int32)) 440 ∧ ∀ y_3 : Int32, y_3 = u.2.2.1 1 ((((2 : Int32) * x2) + (1 : Int32))).toNatClampNeg → (vp_in x2 48 ∧ ∀ u_4 : th_St, u_4 = th_sa u 45 (upd (u.2.2.1 45) (x2).toNatClampNeg ((y_2 * (256 : Int32)) + (y_3 &&& (255 : Int32)))) → ∀ x2_5 : Int32, x2_5 = x2 + (1 : Int32) → k32 x1 x2_5 u_4)))))
set_option maxHeartbeats 4000000 in
set_option maxRecDepth 100000 in
theorem M_tellings_32_w {K : Int64 → th_St → Prop} {k32 : Int32 → Int32 → th_St → Prop} (C : th_Cx p s m args meth c cX12_tellings RX12 8 (some .long) (dC, dI) (th_ty cs) th_E0 A) (hk32 : ∀ (x1 : Int32) (x2 : Int32) (u : th_St) (H : Heap) (locs : List Loc) (ls : Array Slot), k32 x1 x2 u → th_wI (dC, dI) (wM cs q) A s.heap u H locs → lv_has ls 8 [(0, .ref (q 0)), (1, .int x1), (2, .int x2)] → W p l e (th_rm 3 0 0) s m args below meth c H locs 0 0 (MQ below (va_Ql K (th_Post (dC, dI) (wM cs q) A) A) args s 0 0 A) (F0 m 32 ls [])) (x1 : Int32) (x2 : Int32) (u : th_St) (H : Heap) (locs : List Loc) (ls : Array Slot) (hf : M_tellings_32 K k32 x1 x2 u) (hw : th_wI (dC, dI) (wM cs q) A s.heap u H locs) (hl : lv_has ls 8 [(0, .ref (q 0)), (1, .int x1), (2, .int x2)]) : W p l e (th_rm 3 0 0) s m args below meth c H locs 0 0 (MQ below (va_Ql K (th_Post (dC, dI) (wM cs q) A) A) args s 0 0 A) (F0 m 32 ls []) := by
  have hx := C.1
  have hb := C.2.1
  unfold M_tellings_32 at hf
  refine lv_iload_n hx hb dX12_tellings_32 rfl (lv_at hl 2 rfl) ?_
  refine lv_iload_n hx hb dX12_tellings_33 rfl (lv_at hl 1 rfl) ?_
  refine lv_icmp_ge (tgt := 76) hx hb dX12_tellings_34 (by decide) (fun hc => ?_) (fun hc => ?_)
  · replace hf := hf.1 hc
    clear hc
    refine lv_iload_n hx hb dX12_tellings_76 rfl (lv_at hl 1 rfl) ?_
    refine lv_iconst (v := (2 : Int32)) hx hb dX12_tellings_77 (by decide) ?_
    refine lv_isub hx hb dX12_tellings_78 ?_
    refine lv_topi (fun y_1 e9 => ?_)
    replace hf := hf y_1 e9
    clear e9
    refine lv_istore_n (lv' := [(2, .int y_1), (0, .ref (q 0)), (1, .int x1)]) hx hb dX12_tellings_79 rfl hl (by decide) rfl (fun ls hl => ?_)
    obtain ⟨n, hf⟩ := hf
    exact M_tellings_80_lw C n x1 y_1 u _ _ _ hf hw (lv_sub hl [1, 2, 0] rfl)
  · replace hf := hf.2 hc
    clear hc
    refine lv_aload_n hx hb dX12_tellings_37 rfl (lv_at hl 0 rfl) ?_
    refine mg_45 C hw dX12_tellings_38 ?_
    refine lv_iload_n hx hb dX12_tellings_41 rfl (lv_at hl 2 rfl) ?_
    refine lv_aload_n hx hb dX12_tellings_42 rfl (lv_at hl 0 rfl) ?_
    refine mg_1 C hw dX12_tellings_43 ?_
    refine lv_iconst (v := (2 : Int32)) hx hb dX12_tellings_46 (by decide) ?_
    refine lv_iload_n hx hb dX12_tellings_47 rfl (lv_at hl 2 rfl) ?_
    refine lv_imul hx hb dX12_tellings_48 ?_
    refine ml_1 C hw hf.1 dX12_tellings_49 (fun y_2 e9 => ?_)
    replace hf := hf.2 y_2 e9
    clear e9
    refine lv_sipush (v := (256 : Int32)) hx hb dX12_tellings_50 (by decide) ?_
    refine lv_imul hx hb dX12_tellings_53 ?_
    refine lv_aload_n hx hb dX12_tellings_54 rfl (lv_at hl 0 rfl) ?_
    refine mg_1 C hw dX12_tellings_55 ?_
    refine lv_iconst (v := (2 : Int32)) hx hb dX12_tellings_58 (by decide) ?_
    refine lv_iload_n hx hb dX12_tellings_59 rfl (lv_at hl 2 rfl) ?_
    refine lv_imul hx hb dX12_tellings_60 ?_
    refine lv_iconst (v := (1 : Int32)) hx hb dX12_tellings_61 (by decide) ?_
    refine lv_iadd hx hb dX12_tellings_62 ?_
    refine ml_1 C hw hf.1 dX12_tellings_63 (fun y_3 e9 => ?_)
    replace hf := hf.2 y_3 e9
    clear e9
    refine lv_sipush (v := (255 : Int32)) hx hb dX12_tellings_64 (by decide) ?_
    refine lv_iand hx hb dX12_tellings_67 ?_
    refine lv_iadd hx hb dX12_tellings_68 ?_
    refine ms_45 C hw hf.1 dX12_tellings_69 (fun u_4 e9 H locs hw => ?_)
    replace hf := hf.2 u_4 e9
    clear e9
    obtain ⟨x2_5, e9⟩ : ∃ y : Int32, y = x2 + (1 : Int32) := ⟨_, rfl⟩
    replace hf := hf x2_5 e9
    refine lv_iinc (v := x2_5) (lv' := [(2, .int x2_5), (0, .ref (q 0)), (1, .int x1)]) hx hb dX12_tellings_70 hl (k := 2) rfl (by rw [e9]; rfl) (by decide) rfl (fun ls hl => ?_)
    clear e9
    refine lv_goto (tgt := 32) hx hb dX12_tellings_73 (by decide) ?_
    exact hk32 x1 x2_5 u_4 _ _ _ hf hw (lv_sub hl [1, 2, 0] rfl)
def M_tellings_32_lp (K : Int64 → th_St → Prop) : Nat → Int32 → Int32 → th_St → Prop
  | 0, _, _, _ => False
  | n + 1, x1, x2, u => M_tellings_32 K (M_tellings_32_lp K n) x1 x2 u
set_option maxHeartbeats 4000000 in
set_option maxRecDepth 100000 in
theorem M_tellings_32_lw {K : Int64 → th_St → Prop} (C : th_Cx p s m args meth c cX12_tellings RX12 8 (some .long) (dC, dI) (th_ty cs) th_E0 A) (n : Nat) : ∀ (x1 : Int32) (x2 : Int32) (u : th_St) (H : Heap) (locs : List Loc) (ls : Array Slot), M_tellings_32_lp K n x1 x2 u → th_wI (dC, dI) (wM cs q) A s.heap u H locs → lv_has ls 8 [(0, .ref (q 0)), (1, .int x1), (2, .int x2)] → W p l e (th_rm 3 0 0) s m args below meth c H locs 0 0 (MQ below (va_Ql K (th_Post (dC, dI) (wM cs q) A) A) args s 0 0 A) (F0 m 32 ls []) := by
  induction n with
  | zero => intro x1 x2 u H locs ls hf; exact hf.elim
  | succ n ih =>
    intro x1 x2 u H locs ls hf hw hl
    exact M_tellings_32_w C ih x1 x2 u H locs ls hf hw hl
def M_tellings (u : th_St) (K : Int64 → th_St → Prop) : Prop :=
  ∀ u_1 : th_St, u_1 = th_si u 0 (0 : Int32) → M_taken u_1 (fun u_2 => (vp_in (0 : Int32) 2 ∧ ∀ y_4 : Int32, y_4 = u_2.2.2.1 11 ((0 : Int32)).toNatClampNeg → (((u_2.1 3) = ((2 : Int32) * y_4) → ∃ n, M_tellings_32_lp K n y_4 (0 : Int32) u_2) ∧ (¬ (u_2.1 3) = ((2 : Int32) * y_4) → K (-1 : Int64) u_2))))
set_option maxHeartbeats 4000000 in
set_option maxRecDepth 100000 in
theorem M_tellings_c {l : Launch} {dC : Nat → ClassId} {dI : Nat → Nat → Nat} {cs : Nat → ClassId} {q : Nat → Nat} {u : th_St} {K : Int64 → th_St → Prop} (hf : M_tellings u K) : th_Cl l yX12_tellings cX12_tellings 8 (some .long) 3 0 0 (dC, dI) (th_ty cs) th_E0 (wM cs q) [.ref (q 0)] u K := by
  refine th_ofl (by decide) (Nat.le_of_ble_eq_true rfl) th_E0_ok ?_
  intro p e s m below meth c A ls C hw hl
  have C : th_Cx p s m _ meth c cX12_tellings RX12 8 (some .long) (dC, dI) (th_ty cs) th_E0 A := C
  have hl : lv_has ls 8 [(0, .ref (q 0))] := hl
  generalize (List.toArray _ : Array Value) = args at C ⊢
  have hx := C.1
  have hb := C.2.1
  unfold M_tellings at hf
  refine lv_aload_n hx hb dX12_tellings_0 rfl (lv_at hl 0 rfl) ?_
  refine lv_iconst (v := (0 : Int32)) hx hb dX12_tellings_1 (by decide) ?_
  refine mp_0 C hw dX12_tellings_2 (fun u_1 e9 H locs hw => ?_)
  replace hf := hf u_1 e9
  clear e9
  refine lv_aload_n hx hb dX12_tellings_5 rfl (lv_at hl 0 rfl) ?_
  refine th_callVv (As := []) (rest := []) C lkX12_164 (M_taken_c hf) hw (mRc C hw) rfl rfl ⟨Nat.le_of_ble_eq_true rfl, Nat.le_of_ble_eq_true rfl⟩ hl.1 (Nat.le_of_ble_eq_true rfl) ⟨Nat.le_refl _, Nat.le_refl _⟩ dX12_tellings_6 (fun u_2 H locs hf hw => ?_)
  refine lv_aload_n hx hb dX12_tellings_9 rfl (lv_at hl 0 rfl) ?_
  refine mg_11 C hw dX12_tellings_10 ?_
  refine lv_iconst (v := (0 : Int32)) hx hb dX12_tellings_13 (by decide) ?_
  refine ml_11 C hw hf.1 dX12_tellings_14 (fun y_4 e9 => ?_)
  replace hf := hf.2 y_4 e9
  clear e9
  refine lv_istore_n (lv' := [(1, .int y_4), (0, .ref (q 0))]) hx hb dX12_tellings_15 rfl hl (by decide) rfl (fun ls hl => ?_)
  refine lv_aload_n hx hb dX12_tellings_16 rfl (lv_at hl 1 rfl) ?_
  refine mg_3 C hw dX12_tellings_17 ?_
  refine lv_iconst (v := (2 : Int32)) hx hb dX12_tellings_20 (by decide) ?_
  refine lv_iload_n hx hb dX12_tellings_21 rfl (lv_at hl 0 rfl) ?_
  refine lv_imul hx hb dX12_tellings_22 ?_
  refine lv_icmp_eq (tgt := 30) hx hb dX12_tellings_23 (by decide) (fun hc => ?_) (fun hc => ?_)
  · replace hf := hf.1 hc
    clear hc
    refine lv_iconst (v := (0 : Int32)) hx hb dX12_tellings_30 (by decide) ?_
    refine lv_istore_n (lv' := [(2, .int (0 : Int32)), (1, .int y_4), (0, .ref (q 0))]) hx hb dX12_tellings_31 rfl hl (by decide) rfl (fun ls hl => ?_)
    obtain ⟨n, hf⟩ := hf
    exact M_tellings_32_lw C n y_4 (0 : Int32) u_2 _ _ _ hf hw (lv_sub hl [2, 1, 0] rfl)
  · replace hf := hf.2 hc
    clear hc
    refine lv_ldc2 hx hb C.2.2.2.1 (C.2.2.2.2.1 _ hwK_X12_359) dX12_tellings_26 ?_
    exact th_lret C hw hf dX12_tellings_29
end

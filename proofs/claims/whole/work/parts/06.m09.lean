section
variable {p : Program} {l : Launch} {e : Env} {s : State} {m : MethodId} {args : Array Value} {below : List Frame} {meth : Method} {c : Code} {dC : Nat → ClassId} {dI : Nat → Nat → Nat} {cs : Nat → ClassId} {q : Nat → Nat} {A : Nat → Prop}
/-! X12_read -/
theorem dX12_read_0 : decode cX12_read 0 = .ok (.iconst 0, 1) := by decide +kernel
theorem dX12_read_1 : decode cX12_read 1 = .ok (.istore_n 1, 1) := by decide +kernel
theorem dX12_read_2 : decode cX12_read 2 = .ok (.iconst 0, 1) := by decide +kernel
theorem dX12_read_3 : decode cX12_read 3 = .ok (.istore_n 2, 1) := by decide +kernel
theorem dX12_read_4 : decode cX12_read 4 = .ok (.aload_n 0, 1) := by decide +kernel
theorem dX12_read_5 : decode cX12_read 5 = .ok (.ldc2_w 228, 3) := by decide +kernel
theorem dX12_read_8 : decode cX12_read 8 = .ok (.invokevirtual 224, 3) := by decide +kernel
theorem dX12_read_11 : decode cX12_read 11 = .ok (.ifCond .eq 40, 3) := by decide +kernel
theorem dX12_read_14 : decode cX12_read 14 = .ok (.aload_n 0, 1) := by decide +kernel
theorem dX12_read_15 : decode cX12_read 15 = .ok (.invokevirtual 179, 3) := by decide +kernel
theorem dX12_read_18 : decode cX12_read 18 = .ok (.aload_n 0, 1) := by decide +kernel
theorem dX12_read_19 : decode cX12_read 19 = .ok (.iconst 4, 1) := by decide +kernel
theorem dX12_read_20 : decode cX12_read 20 = .ok (.bipush 48, 2) := by decide +kernel
theorem dX12_read_22 : decode cX12_read 22 = .ok (.invokevirtual 230, 3) := by decide +kernel
theorem dX12_read_25 : decode cX12_read 25 = .ok (.ifCond .ne 5, 3) := by decide +kernel
theorem dX12_read_28 : decode cX12_read 28 = .ok (.iconst (-1), 1) := by decide +kernel
theorem dX12_read_29 : decode cX12_read 29 = .ok (.ireturn, 1) := by decide +kernel
theorem dX12_read_30 : decode cX12_read 30 = .ok (.aload_n 0, 1) := by decide +kernel
theorem dX12_read_31 : decode cX12_read 31 = .ok (.getfield 54, 3) := by decide +kernel
theorem dX12_read_34 : decode cX12_read 34 = .ok (.iconst 1, 1) := by decide +kernel
theorem dX12_read_35 : decode cX12_read 35 = .ok (.aload_n 0, 1) := by decide +kernel
theorem dX12_read_36 : decode cX12_read 36 = .ok (.getfield 221, 3) := by decide +kernel
theorem dX12_read_39 : decode cX12_read 39 = .ok (.iastore, 1) := by decide +kernel
theorem dX12_read_40 : decode cX12_read 40 = .ok (.aload_n 0, 1) := by decide +kernel
theorem dX12_read_41 : decode cX12_read 41 = .ok (.bipush 59, 2) := by decide +kernel
theorem dX12_read_43 : decode cX12_read 43 = .ok (.invokevirtual 234, 3) := by decide +kernel
theorem dX12_read_46 : decode cX12_read 46 = .ok (.ifCond .ne 5, 3) := by decide +kernel
theorem dX12_read_49 : decode cX12_read 49 = .ok (.iconst (-1), 1) := by decide +kernel
theorem dX12_read_50 : decode cX12_read 50 = .ok (.ireturn, 1) := by decide +kernel
theorem dX12_read_51 : decode cX12_read 51 = .ok (.aload_n 0, 1) := by decide +kernel
theorem dX12_read_52 : decode cX12_read 52 = .ok (.getfield 198, 3) := by decide +kernel
theorem dX12_read_55 : decode cX12_read 55 = .ok (.ifCond .eq 223, 3) := by decide +kernel
theorem dX12_read_58 : decode cX12_read 58 = .ok (.aload_n 0, 1) := by decide +kernel
theorem dX12_read_59 : decode cX12_read 59 = .ok (.getfield 198, 3) := by decide +kernel
theorem dX12_read_62 : decode cX12_read 62 = .ok (.iconst 1, 1) := by decide +kernel
theorem dX12_read_63 : decode cX12_read 63 = .ok (.if_icmp .eq 7, 3) := by decide +kernel
theorem dX12_read_66 : decode cX12_read 66 = .ok (.iconst (-1), 1) := by decide +kernel
theorem dX12_read_67 : decode cX12_read 67 = .ok (.goto 94, 3) := by decide +kernel
theorem dX12_read_70 : decode cX12_read 70 = .ok (.aload_n 0, 1) := by decide +kernel
theorem dX12_read_71 : decode cX12_read 71 = .ok (.getfield 211, 3) := by decide +kernel
theorem dX12_read_74 : decode cX12_read 74 = .ok (.ldc2_w 237, 3) := by decide +kernel
theorem dX12_read_77 : decode cX12_read 77 = .ok (.lcmp, 1) := by decide +kernel
theorem dX12_read_78 : decode cX12_read 78 = .ok (.ifCond .ne 7, 3) := by decide +kernel
theorem dX12_read_81 : decode cX12_read 81 = .ok (.iconst 3, 1) := by decide +kernel
theorem dX12_read_82 : decode cX12_read 82 = .ok (.goto 79, 3) := by decide +kernel
theorem dX12_read_85 : decode cX12_read 85 = .ok (.aload_n 0, 1) := by decide +kernel
theorem dX12_read_86 : decode cX12_read 86 = .ok (.getfield 211, 3) := by decide +kernel
theorem dX12_read_89 : decode cX12_read 89 = .ok (.ldc2_w 239, 3) := by decide +kernel
theorem dX12_read_92 : decode cX12_read 92 = .ok (.lcmp, 1) := by decide +kernel
theorem dX12_read_93 : decode cX12_read 93 = .ok (.ifCond .ne 7, 3) := by decide +kernel
theorem dX12_read_96 : decode cX12_read 96 = .ok (.iconst 4, 1) := by decide +kernel
theorem dX12_read_97 : decode cX12_read 97 = .ok (.goto 64, 3) := by decide +kernel
theorem dX12_read_100 : decode cX12_read 100 = .ok (.aload_n 0, 1) := by decide +kernel
theorem dX12_read_101 : decode cX12_read 101 = .ok (.getfield 211, 3) := by decide +kernel
theorem dX12_read_104 : decode cX12_read 104 = .ok (.ldc2_w 241, 3) := by decide +kernel
theorem dX12_read_107 : decode cX12_read 107 = .ok (.lcmp, 1) := by decide +kernel
theorem dX12_read_108 : decode cX12_read 108 = .ok (.ifCond .ne 7, 3) := by decide +kernel
theorem dX12_read_111 : decode cX12_read 111 = .ok (.iconst 5, 1) := by decide +kernel
theorem dX12_read_112 : decode cX12_read 112 = .ok (.goto 49, 3) := by decide +kernel
theorem dX12_read_115 : decode cX12_read 115 = .ok (.aload_n 0, 1) := by decide +kernel
theorem dX12_read_116 : decode cX12_read 116 = .ok (.getfield 211, 3) := by decide +kernel
theorem dX12_read_119 : decode cX12_read 119 = .ok (.ldc2_w 243, 3) := by decide +kernel
theorem dX12_read_122 : decode cX12_read 122 = .ok (.lcmp, 1) := by decide +kernel
theorem dX12_read_123 : decode cX12_read 123 = .ok (.ifCond .ne 7, 3) := by decide +kernel
theorem dX12_read_126 : decode cX12_read 126 = .ok (.iconst 0, 1) := by decide +kernel
theorem dX12_read_127 : decode cX12_read 127 = .ok (.goto 34, 3) := by decide +kernel
theorem dX12_read_130 : decode cX12_read 130 = .ok (.aload_n 0, 1) := by decide +kernel
theorem dX12_read_131 : decode cX12_read 131 = .ok (.getfield 211, 3) := by decide +kernel
theorem dX12_read_134 : decode cX12_read 134 = .ok (.ldc2_w 245, 3) := by decide +kernel
theorem dX12_read_137 : decode cX12_read 137 = .ok (.lcmp, 1) := by decide +kernel
theorem dX12_read_138 : decode cX12_read 138 = .ok (.ifCond .ne 7, 3) := by decide +kernel
theorem dX12_read_141 : decode cX12_read 141 = .ok (.iconst 1, 1) := by decide +kernel
theorem dX12_read_142 : decode cX12_read 142 = .ok (.goto 19, 3) := by decide +kernel
theorem dX12_read_145 : decode cX12_read 145 = .ok (.aload_n 0, 1) := by decide +kernel
theorem dX12_read_146 : decode cX12_read 146 = .ok (.getfield 211, 3) := by decide +kernel
theorem dX12_read_149 : decode cX12_read 149 = .ok (.ldc2_w 247, 3) := by decide +kernel
theorem dX12_read_152 : decode cX12_read 152 = .ok (.lcmp, 1) := by decide +kernel
theorem dX12_read_153 : decode cX12_read 153 = .ok (.ifCond .ne 7, 3) := by decide +kernel
theorem dX12_read_156 : decode cX12_read 156 = .ok (.iconst 2, 1) := by decide +kernel
theorem dX12_read_157 : decode cX12_read 157 = .ok (.goto 4, 3) := by decide +kernel
theorem dX12_read_160 : decode cX12_read 160 = .ok (.iconst (-1), 1) := by decide +kernel
theorem dX12_read_161 : decode cX12_read 161 = .ok (.istore_n 3, 1) := by decide +kernel
theorem dX12_read_162 : decode cX12_read 162 = .ok (.iload_n 3, 1) := by decide +kernel
theorem dX12_read_163 : decode cX12_read 163 = .ok (.ifCond .lt 43, 3) := by decide +kernel
theorem dX12_read_166 : decode cX12_read 166 = .ok (.iload_n 1, 1) := by decide +kernel
theorem dX12_read_167 : decode cX12_read 167 = .ok (.bipush 24, 2) := by decide +kernel
theorem dX12_read_169 : decode cX12_read 169 = .ok (.if_icmp .eq 33, 3) := by decide +kernel
theorem dX12_read_172 : decode cX12_read 172 = .ok (.iload_n 3, 1) := by decide +kernel
theorem dX12_read_173 : decode cX12_read 173 = .ok (.iconst 3, 1) := by decide +kernel
theorem dX12_read_174 : decode cX12_read 174 = .ok (.if_icmp .ge 12, 3) := by decide +kernel
theorem dX12_read_177 : decode cX12_read 177 = .ok (.iload_n 2, 1) := by decide +kernel
theorem dX12_read_178 : decode cX12_read 178 = .ok (.iload_n 3, 1) := by decide +kernel
theorem dX12_read_179 : decode cX12_read 179 = .ok (.ishr, 1) := by decide +kernel
theorem dX12_read_180 : decode cX12_read 180 = .ok (.iconst 1, 1) := by decide +kernel
theorem dX12_read_181 : decode cX12_read 181 = .ok (.iand, 1) := by decide +kernel
theorem dX12_read_182 : decode cX12_read 182 = .ok (.iconst 1, 1) := by decide +kernel
theorem dX12_read_183 : decode cX12_read 183 = .ok (.if_icmp .eq 19, 3) := by decide +kernel
theorem dX12_read_186 : decode cX12_read 186 = .ok (.iload_n 3, 1) := by decide +kernel
theorem dX12_read_187 : decode cX12_read 187 = .ok (.iconst 5, 1) := by decide +kernel
theorem dX12_read_188 : decode cX12_read 188 = .ok (.if_icmp .ne 18, 3) := by decide +kernel
theorem dX12_read_191 : decode cX12_read 191 = .ok (.aload_n 0, 1) := by decide +kernel
theorem dX12_read_192 : decode cX12_read 192 = .ok (.getfield 66, 3) := by decide +kernel
theorem dX12_read_195 : decode cX12_read 195 = .ok (.iconst 1, 1) := by decide +kernel
theorem dX12_read_196 : decode cX12_read 196 = .ok (.iaload, 1) := by decide +kernel
theorem dX12_read_197 : decode cX12_read 197 = .ok (.bipush 6, 2) := by decide +kernel
theorem dX12_read_199 : decode cX12_read 199 = .ok (.if_icmp .ne 7, 3) := by decide +kernel
theorem dX12_read_202 : decode cX12_read 202 = .ok (.iconst 1, 1) := by decide +kernel
theorem dX12_read_203 : decode cX12_read 203 = .ok (.goto 4, 3) := by decide +kernel
theorem dX12_read_206 : decode cX12_read 206 = .ok (.iconst 0, 1) := by decide +kernel
theorem dX12_read_207 : decode cX12_read 207 = .ok (.istore 4, 2) := by decide +kernel
theorem dX12_read_209 : decode cX12_read 209 = .ok (.iload_n 3, 1) := by decide +kernel
theorem dX12_read_210 : decode cX12_read 210 = .ok (.ifCond .lt 8, 3) := by decide +kernel
theorem dX12_read_213 : decode cX12_read 213 = .ok (.iload 4, 2) := by decide +kernel
theorem dX12_read_215 : decode cX12_read 215 = .ok (.ifCond .eq 19, 3) := by decide +kernel
theorem dX12_read_218 : decode cX12_read 218 = .ok (.aload_n 0, 1) := by decide +kernel
theorem dX12_read_219 : decode cX12_read 219 = .ok (.iload_n 3, 1) := by decide +kernel
theorem dX12_read_220 : decode cX12_read 220 = .ok (.ifCond .ge 7, 3) := by decide +kernel
theorem dX12_read_223 : decode cX12_read 223 = .ok (.iconst 1, 1) := by decide +kernel
theorem dX12_read_224 : decode cX12_read 224 = .ok (.goto 4, 3) := by decide +kernel
theorem dX12_read_227 : decode cX12_read 227 = .ok (.iconst 3, 1) := by decide +kernel
theorem dX12_read_228 : decode cX12_read 228 = .ok (.invokevirtual 218, 3) := by decide +kernel
theorem dX12_read_231 : decode cX12_read 231 = .ok (.pop, 1) := by decide +kernel
theorem dX12_read_232 : decode cX12_read 232 = .ok (.iconst (-1), 1) := by decide +kernel
theorem dX12_read_233 : decode cX12_read 233 = .ok (.ireturn, 1) := by decide +kernel
theorem dX12_read_234 : decode cX12_read 234 = .ok (.iload_n 3, 1) := by decide +kernel
theorem dX12_read_235 : decode cX12_read 235 = .ok (.iconst 3, 1) := by decide +kernel
theorem dX12_read_236 : decode cX12_read 236 = .ok (.if_icmp .ge 11, 3) := by decide +kernel
theorem dX12_read_239 : decode cX12_read 239 = .ok (.iload_n 2, 1) := by decide +kernel
theorem dX12_read_240 : decode cX12_read 240 = .ok (.iconst 1, 1) := by decide +kernel
theorem dX12_read_241 : decode cX12_read 241 = .ok (.iload_n 3, 1) := by decide +kernel
theorem dX12_read_242 : decode cX12_read 242 = .ok (.ishl, 1) := by decide +kernel
theorem dX12_read_243 : decode cX12_read 243 = .ok (.ior, 1) := by decide +kernel
theorem dX12_read_244 : decode cX12_read 244 = .ok (.goto 4, 3) := by decide +kernel
theorem dX12_read_247 : decode cX12_read 247 = .ok (.iload_n 2, 1) := by decide +kernel
theorem dX12_read_248 : decode cX12_read 248 = .ok (.istore_n 2, 1) := by decide +kernel
theorem dX12_read_249 : decode cX12_read 249 = .ok (.aload_n 0, 1) := by decide +kernel
theorem dX12_read_250 : decode cX12_read 250 = .ok (.invokevirtual 179, 3) := by decide +kernel
theorem dX12_read_253 : decode cX12_read 253 = .ok (.aload_n 0, 1) := by decide +kernel
theorem dX12_read_254 : decode cX12_read 254 = .ok (.iload_n 3, 1) := by decide +kernel
theorem dX12_read_255 : decode cX12_read 255 = .ok (.invokevirtual 249, 3) := by decide +kernel
theorem dX12_read_258 : decode cX12_read 258 = .ok (.ifCond .eq 12, 3) := by decide +kernel
theorem dX12_read_261 : decode cX12_read 261 = .ok (.aload_n 0, 1) := by decide +kernel
theorem dX12_read_262 : decode cX12_read 262 = .ok (.bipush 59, 2) := by decide +kernel
theorem dX12_read_264 : decode cX12_read 264 = .ok (.invokevirtual 234, 3) := by decide +kernel
theorem dX12_read_267 : decode cX12_read 267 = .ok (.ifCond .ne 5, 3) := by decide +kernel
theorem dX12_read_270 : decode cX12_read 270 = .ok (.iconst (-1), 1) := by decide +kernel
theorem dX12_read_271 : decode cX12_read 271 = .ok (.ireturn, 1) := by decide +kernel
theorem dX12_read_272 : decode cX12_read 272 = .ok (.iinc 1 1, 3) := by decide +kernel
theorem dX12_read_275 : decode cX12_read 275 = .ok (.goto (-224), 3) := by decide +kernel
theorem dX12_read_278 : decode cX12_read 278 = .ok (.iload_n 1, 1) := by decide +kernel
theorem dX12_read_279 : decode cX12_read 279 = .ok (.ireturn, 1) := by decide +kernel
def M_read_228 (K : Int32 → th_St → Prop) (z0 : Int32) (u : th_St) : Prop :=
  M_bad z0 u (fun r_2 u_1 => K (-1 : Int32) u_1)
set_option maxHeartbeats 4000000 in
set_option maxRecDepth 100000 in
theorem M_read_228_w {K : Int32 → th_St → Prop} (C : th_Cx p s m args meth c cX12_read RX12 5 (some .int) (dC, dI) (th_ty cs) th_E0 A) (z0 : Int32) (u : th_St) (H : Heap) (locs : List Loc) (ls : Array Slot) (hf : M_read_228 K z0 u) (hw : th_wI (dC, dI) (wM cs q) A s.heap u H locs) (hl : lv_has ls 5 []) : W p l e (th_rm 7 0 0) s m args below meth c H locs 0 0 (MQ below (va_Qi K (th_Post (dC, dI) (wM cs q) A) A) args s 0 0 A) (F0 m 228 ls [.int z0, .ref (q 0)]) := by
  have hx := C.1
  have hb := C.2.1
  unfold M_read_228 at hf
  refine th_callVi (As := [.int z0]) (rest := []) C lkX12_218 (M_bad_c hf) hw (mRc C hw) rfl rfl ⟨Nat.le_of_ble_eq_true rfl, Nat.le_of_ble_eq_true rfl⟩ hl.1 (Nat.le_of_ble_eq_true rfl) ⟨Nat.le_refl _, Nat.le_refl _⟩ dX12_read_228 (fun r_2 u_1 H locs hf hw => ?_)
  refine lv_pop hx hb dX12_read_231 rfl ?_
  refine lv_iconst (v := (-1 : Int32)) hx hb dX12_read_232 (by decide) ?_
  exact th_iret C hw hf dX12_read_233
def M_read_218 (K : Int32 → th_St → Prop) (x3 : Int32) (u : th_St) : Prop :=
  ((0 ≤ x3 → M_read_228 K (3 : Int32) u) ∧ (¬ 0 ≤ x3 → M_read_228 K (1 : Int32) u))
set_option maxHeartbeats 4000000 in
set_option maxRecDepth 100000 in
theorem M_read_218_w {K : Int32 → th_St → Prop} (C : th_Cx p s m args meth c cX12_read RX12 5 (some .int) (dC, dI) (th_ty cs) th_E0 A) (x3 : Int32) (u : th_St) (H : Heap) (locs : List Loc) (ls : Array Slot) (hf : M_read_218 K x3 u) (hw : th_wI (dC, dI) (wM cs q) A s.heap u H locs) (hl : lv_has ls 5 [(0, .ref (q 0)), (3, .int x3)]) : W p l e (th_rm 7 0 0) s m args below meth c H locs 0 0 (MQ below (va_Qi K (th_Post (dC, dI) (wM cs q) A) A) args s 0 0 A) (F0 m 218 ls []) := by
  have hx := C.1
  have hb := C.2.1
  unfold M_read_218 at hf
  refine lv_aload_n hx hb dX12_read_218 rfl (lv_at hl 0 rfl) ?_
  refine lv_iload_n hx hb dX12_read_219 rfl (lv_at hl 1 rfl) ?_
  refine lv_if_ge (tgt := 227) hx hb dX12_read_220 (by decide) (fun hc => ?_) (fun hc => ?_)
  · replace hf := hf.1 hc
    clear hc
    refine lv_iconst (v := (3 : Int32)) hx hb dX12_read_227 (by decide) ?_
    exact M_read_228_w C (3 : Int32) u _ _ _ hf hw (lv_sub hl [] rfl)
  · replace hf := hf.2 hc
    clear hc
    refine lv_iconst (v := (1 : Int32)) hx hb dX12_read_223 (by decide) ?_
    refine lv_goto (tgt := 228) hx hb dX12_read_224 (by decide) ?_
    exact M_read_228_w C (1 : Int32) u _ _ _ hf hw (lv_sub hl [] rfl)
def M_read_270 (K : Int32 → th_St → Prop) (u : th_St) : Prop :=
  K (-1 : Int32) u
set_option maxHeartbeats 4000000 in
set_option maxRecDepth 100000 in
theorem M_read_270_w {K : Int32 → th_St → Prop} (C : th_Cx p s m args meth c cX12_read RX12 5 (some .int) (dC, dI) (th_ty cs) th_E0 A) (u : th_St) (H : Heap) (locs : List Loc) (ls : Array Slot) (hf : M_read_270 K u) (hw : th_wI (dC, dI) (wM cs q) A s.heap u H locs) (hl : lv_has ls 5 []) : W p l e (th_rm 7 0 0) s m args below meth c H locs 0 0 (MQ below (va_Qi K (th_Post (dC, dI) (wM cs q) A) A) args s 0 0 A) (F0 m 270 ls []) := by
  have hx := C.1
  have hb := C.2.1
  unfold M_read_270 at hf
  refine lv_iconst (v := (-1 : Int32)) hx hb dX12_read_270 (by decide) ?_
  exact th_iret C hw hf dX12_read_271
def M_read_248 (K : Int32 → th_St → Prop) (k51 : Int32 → Int32 → th_St → Prop) (x1 : Int32) (x3 : Int32) (z0 : Int32) (u : th_St) : Prop :=
  M_next_ u (fun u_1 => M_line x3 u_1 (fun r_4 u_3 => ((r_4 = 0 → M_read_270 K u_3) ∧ (¬ r_4 = 0 → M_sign (59 : Int32) u_3 (fun r_6 u_5 => ((¬ r_6 = 0 → ∀ x1_7 : Int32, x1_7 = x1 + (1 : Int32) → k51 x1_7 z0 u_5) ∧ (r_6 = 0 → M_read_270 K u_5)))))))
set_option maxHeartbeats 4000000 in
set_option maxRecDepth 100000 in
theorem M_read_248_w {K : Int32 → th_St → Prop} {k51 : Int32 → Int32 → th_St → Prop} (C : th_Cx p s m args meth c cX12_read RX12 5 (some .int) (dC, dI) (th_ty cs) th_E0 A) (hk51 : ∀ (x1 : Int32) (x2 : Int32) (u : th_St) (H : Heap) (locs : List Loc) (ls : Array Slot), k51 x1 x2 u → th_wI (dC, dI) (wM cs q) A s.heap u H locs → lv_has ls 5 [(0, .ref (q 0)), (1, .int x1), (2, .int x2)] → W p l e (th_rm 7 0 0) s m args below meth c H locs 0 0 (MQ below (va_Qi K (th_Post (dC, dI) (wM cs q) A) A) args s 0 0 A) (F0 m 51 ls [])) (x1 : Int32) (x3 : Int32) (z0 : Int32) (u : th_St) (H : Heap) (locs : List Loc) (ls : Array Slot) (hf : M_read_248 K k51 x1 x3 z0 u) (hw : th_wI (dC, dI) (wM cs q) A s.heap u H locs) (hl : lv_has ls 5 [(0, .ref (q 0)), (1, .int x1), (3, .int x3)]) : W p l e (th_rm 7 0 0) s m args below meth c H locs 0 0 (MQ below (va_Qi K (th_Post (dC, dI) (wM cs q) A) A) args s 0 0 A) (F0 m 248 ls [.int z0]) := by
  have hx := C.1
  have hb := C.2.1
  unfold M_read_248 at hf
  refine lv_istore_n (lv' := [(2, .int z0), (0, .ref (q 0)), (1, .int x1), (3, .int x3)]) hx hb dX12_read_248 rfl hl (by decide) rfl (fun ls hl => ?_)
  refine lv_aload_n hx hb dX12_read_249 rfl (lv_at hl 1 rfl) ?_
  refine th_callVv (As := []) (rest := []) C lkX12_179 (M_next__c hf) hw (mRc C hw) rfl rfl ⟨Nat.le_of_ble_eq_true rfl, Nat.le_of_ble_eq_true rfl⟩ hl.1 (Nat.le_of_ble_eq_true rfl) ⟨Nat.le_refl _, Nat.le_refl _⟩ dX12_read_250 (fun u_1 H locs hf hw => ?_)
  refine lv_aload_n hx hb dX12_read_253 rfl (lv_at hl 1 rfl) ?_
  refine lv_iload_n hx hb dX12_read_254 rfl (lv_at hl 3 rfl) ?_
  refine th_callVi (As := [.int x3]) (rest := []) C lkX12_249 (M_line_c hf) hw (mRc C hw) rfl rfl ⟨Nat.le_of_ble_eq_true rfl, Nat.le_of_ble_eq_true rfl⟩ hl.1 (Nat.le_of_ble_eq_true rfl) ⟨Nat.le_refl _, Nat.le_refl _⟩ dX12_read_255 (fun r_4 u_3 H locs hf hw => ?_)
  refine lv_if_eq (tgt := 270) hx hb dX12_read_258 (by decide) (fun hc => ?_) (fun hc => ?_)
  · replace hf := hf.1 hc
    clear hc
    exact M_read_270_w C  u_3 _ _ _ hf hw (lv_sub hl [] rfl)
  · replace hf := hf.2 hc
    clear hc
    refine lv_aload_n hx hb dX12_read_261 rfl (lv_at hl 1 rfl) ?_
    refine lv_bipush (v := (59 : Int32)) hx hb dX12_read_262 (by decide) ?_
    refine th_callVi (As := [.int (59 : Int32)]) (rest := []) C lkX12_234 (M_sign_c hf) hw (mRc C hw) rfl rfl ⟨Nat.le_of_ble_eq_true rfl, Nat.le_of_ble_eq_true rfl⟩ hl.1 (Nat.le_of_ble_eq_true rfl) ⟨Nat.le_refl _, Nat.le_refl _⟩ dX12_read_264 (fun r_6 u_5 H locs hf hw => ?_)
    refine lv_if_ne (tgt := 272) hx hb dX12_read_267 (by decide) (fun hc => ?_) (fun hc => ?_)
    · replace hf := hf.1 hc
      clear hc
      obtain ⟨x1_7, e9⟩ : ∃ y : Int32, y = x1 + (1 : Int32) := ⟨_, rfl⟩
      replace hf := hf x1_7 e9
      refine lv_iinc (v := x1_7) (lv' := [(1, .int x1_7), (2, .int z0), (0, .ref (q 0)), (3, .int x3)]) hx hb dX12_read_272 hl (k := 2) rfl (by rw [e9]; rfl) (by decide) rfl (fun ls hl => ?_)
      clear e9
      refine lv_goto (tgt := 51) hx hb dX12_read_275 (by decide) ?_
      exact hk51 x1_7 z0 u_5 _ _ _ hf hw (lv_sub hl [2, 0, 1] rfl)
    · replace hf := hf.2 hc
      clear hc
      exact M_read_270_w C  u_5 _ _ _ hf hw (lv_sub hl [] rfl)
def M_read_207 (K : Int32 → th_St → Prop) (k51 : Int32 → Int32 → th_St → Prop) (x1 : Int32) (x2 : Int32) (x3 : Int32) (z0 : Int32) (u : th_St) : Prop :=
  ((x3 < 0 → M_read_218 K x3 u) ∧ (¬ x3 < 0 → ((z0 = 0 → (((3 : Int32) ≤ x3 → M_read_248 K k51 x1 x3 x2 u) ∧ (¬ (3 : Int32) ≤ x3 → M_read_248 K k51 x1 x3 (x2 ||| ((1 : Int32) <<< (x3 &&& 31))) u))) ∧ (¬ z0 = 0 → M_read_218 K x3 u))))
set_option maxHeartbeats 4000000 in
set_option maxRecDepth 100000 in
theorem M_read_207_w {K : Int32 → th_St → Prop} {k51 : Int32 → Int32 → th_St → Prop} (C : th_Cx p s m args meth c cX12_read RX12 5 (some .int) (dC, dI) (th_ty cs) th_E0 A) (hk51 : ∀ (x1 : Int32) (x2 : Int32) (u : th_St) (H : Heap) (locs : List Loc) (ls : Array Slot), k51 x1 x2 u → th_wI (dC, dI) (wM cs q) A s.heap u H locs → lv_has ls 5 [(0, .ref (q 0)), (1, .int x1), (2, .int x2)] → W p l e (th_rm 7 0 0) s m args below meth c H locs 0 0 (MQ below (va_Qi K (th_Post (dC, dI) (wM cs q) A) A) args s 0 0 A) (F0 m 51 ls [])) (x1 : Int32) (x2 : Int32) (x3 : Int32) (z0 : Int32) (u : th_St) (H : Heap) (locs : List Loc) (ls : Array Slot) (hf : M_read_207 K k51 x1 x2 x3 z0 u) (hw : th_wI (dC, dI) (wM cs q) A s.heap u H locs) (hl : lv_has ls 5 [(0, .ref (q 0)), (1, .int x1), (2, .int x2), (3, .int x3)]) : W p l e (th_rm 7 0 0) s m args below meth c H locs 0 0 (MQ below (va_Qi K (th_Post (dC, dI) (wM cs q) A) A) args s 0 0 A) (F0 m 207 ls [.int z0]) := by
  have hx := C.1
  have hb := C.2.1
  unfold M_read_207 at hf
  refine lv_istore (lv' := [(4, .int z0), (0, .ref (q 0)), (1, .int x1), (2, .int x2), (3, .int x3)]) hx hb dX12_read_207 hl (by decide) rfl (fun ls hl => ?_)
  refine lv_iload_n hx hb dX12_read_209 rfl (lv_at hl 4 rfl) ?_
  refine lv_if_lt (tgt := 218) hx hb dX12_read_210 (by decide) (fun hc => ?_) (fun hc => ?_)
  · replace hf := hf.1 hc
    clear hc
    exact M_read_218_w C x3 u _ _ _ hf hw (lv_sub hl [1, 4] rfl)
  · replace hf := hf.2 hc
    clear hc
    refine lv_iload hx hb dX12_read_213 (lv_at hl 0 rfl) ?_
    refine lv_if_eq (tgt := 234) hx hb dX12_read_215 (by decide) (fun hc => ?_) (fun hc => ?_)
    · replace hf := hf.1 hc
      clear hc
      refine lv_iload_n hx hb dX12_read_234 rfl (lv_at hl 4 rfl) ?_
      refine lv_iconst (v := (3 : Int32)) hx hb dX12_read_235 (by decide) ?_
      refine lv_icmp_ge (tgt := 247) hx hb dX12_read_236 (by decide) (fun hc => ?_) (fun hc => ?_)
      · replace hf := hf.1 hc
        clear hc
        refine lv_iload_n hx hb dX12_read_247 rfl (lv_at hl 3 rfl) ?_
        exact M_read_248_w C hk51 x1 x3 x2 u _ _ _ hf hw (lv_sub hl [1, 2, 4] rfl)
      · replace hf := hf.2 hc
        clear hc
        refine lv_iload_n hx hb dX12_read_239 rfl (lv_at hl 3 rfl) ?_
        refine lv_iconst (v := (1 : Int32)) hx hb dX12_read_240 (by decide) ?_
        refine lv_iload_n hx hb dX12_read_241 rfl (lv_at hl 4 rfl) ?_
        refine lv_ishl hx hb dX12_read_242 ?_
        refine lv_ior hx hb dX12_read_243 ?_
        refine lv_goto (tgt := 248) hx hb dX12_read_244 (by decide) ?_
        exact M_read_248_w C hk51 x1 x3 (x2 ||| ((1 : Int32) <<< (x3 &&& 31))) u _ _ _ hf hw (lv_sub hl [1, 2, 4] rfl)
    · replace hf := hf.2 hc
      clear hc
      exact M_read_218_w C x3 u _ _ _ hf hw (lv_sub hl [1, 4] rfl)
def M_read_202 (K : Int32 → th_St → Prop) (k51 : Int32 → Int32 → th_St → Prop) (x1 : Int32) (x2 : Int32) (x3 : Int32) (u : th_St) : Prop :=
  M_read_207 K k51 x1 x2 x3 (1 : Int32) u
set_option maxHeartbeats 4000000 in
set_option maxRecDepth 100000 in
theorem M_read_202_w {K : Int32 → th_St → Prop} {k51 : Int32 → Int32 → th_St → Prop} (C : th_Cx p s m args meth c cX12_read RX12 5 (some .int) (dC, dI) (th_ty cs) th_E0 A) (hk51 : ∀ (x1 : Int32) (x2 : Int32) (u : th_St) (H : Heap) (locs : List Loc) (ls : Array Slot), k51 x1 x2 u → th_wI (dC, dI) (wM cs q) A s.heap u H locs → lv_has ls 5 [(0, .ref (q 0)), (1, .int x1), (2, .int x2)] → W p l e (th_rm 7 0 0) s m args below meth c H locs 0 0 (MQ below (va_Qi K (th_Post (dC, dI) (wM cs q) A) A) args s 0 0 A) (F0 m 51 ls [])) (x1 : Int32) (x2 : Int32) (x3 : Int32) (u : th_St) (H : Heap) (locs : List Loc) (ls : Array Slot) (hf : M_read_202 K k51 x1 x2 x3 u) (hw : th_wI (dC, dI) (wM cs q) A s.heap u H locs) (hl : lv_has ls 5 [(0, .ref (q 0)), (1, .int x1), (2, .int x2), (3, .int x3)]) : W p l e (th_rm 7 0 0) s m args below meth c H locs 0 0 (MQ below (va_Qi K (th_Post (dC, dI) (wM cs q) A) A) args s 0 0 A) (F0 m 202 ls []) := by
  have hx := C.1
  have hb := C.2.1
  unfold M_read_202 at hf
  refine lv_iconst (v := (1 : Int32)) hx hb dX12_read_202 (by decide) ?_
  refine lv_goto (tgt := 207) hx hb dX12_read_203 (by decide) ?_
  exact M_read_207_w C hk51 x1 x2 x3 (1 : Int32) u _ _ _ hf hw (lv_sub hl [0, 1, 2, 3] rfl)
def M_read_206 (K : Int32 → th_St → Prop) (k51 : Int32 → Int32 → th_St → Prop) (x1 : Int32) (x2 : Int32) (x3 : Int32) (u : th_St) : Prop :=
  M_read_207 K k51 x1 x2 x3 (0 : Int32) u
set_option maxHeartbeats 4000000 in
set_option maxRecDepth 100000 in
theorem M_read_206_w {K : Int32 → th_St → Prop} {k51 : Int32 → Int32 → th_St → Prop} (C : th_Cx p s m args meth c cX12_read RX12 5 (some .int) (dC, dI) (th_ty cs) th_E0 A) (hk51 : ∀ (x1 : Int32) (x2 : Int32) (u : th_St) (H : Heap) (locs : List Loc) (ls : Array Slot), k51 x1 x2 u → th_wI (dC, dI) (wM cs q) A s.heap u H locs → lv_has ls 5 [(0, .ref (q 0)), (1, .int x1), (2, .int x2)] → W p l e (th_rm 7 0 0) s m args below meth c H locs 0 0 (MQ below (va_Qi K (th_Post (dC, dI) (wM cs q) A) A) args s 0 0 A) (F0 m 51 ls [])) (x1 : Int32) (x2 : Int32) (x3 : Int32) (u : th_St) (H : Heap) (locs : List Loc) (ls : Array Slot) (hf : M_read_206 K k51 x1 x2 x3 u) (hw : th_wI (dC, dI) (wM cs q) A s.heap u H locs) (hl : lv_has ls 5 [(0, .ref (q 0)), (1, .int x1), (2, .int x2), (3, .int x3)]) : W p l e (th_rm 7 0 0) s m args below meth c H locs 0 0 (MQ below (va_Qi K (th_Post (dC, dI) (wM cs q) A) A) args s 0 0 A) (F0 m 206 ls []) := by
  have hx := C.1
  have hb := C.2.1
  unfold M_read_206 at hf
  refine lv_iconst (v := (0 : Int32)) hx hb dX12_read_206 (by decide) ?_
  exact M_read_207_w C hk51 x1 x2 x3 (0 : Int32) u _ _ _ hf hw (lv_sub hl [0, 1, 2, 3] rfl)
def M_read_186 (K : Int32 → th_St → Prop) (k51 : Int32 → Int32 → th_St → Prop) (x1 : Int32) (x2 : Int32) (x3 : Int32) (u : th_St) : Prop :=
  ((¬ x3 = (5 : Int32) → M_read_206 K k51 x1 x2 x3 u) ∧ (x3 = (5 : Int32) → (vp_in (1 : Int32) 2 ∧ ∀ y_1 : Int32, y_1 = u.2.2.1 15 ((1 : Int32)).toNatClampNeg → ((¬ y_1 = (6 : Int32) → M_read_206 K k51 x1 x2 x3 u) ∧ (y_1 = (6 : Int32) → M_read_202 K k51 x1 x2 x3 u)))))
set_option maxHeartbeats 4000000 in
set_option maxRecDepth 100000 in
theorem M_read_186_w {K : Int32 → th_St → Prop} {k51 : Int32 → Int32 → th_St → Prop} (C : th_Cx p s m args meth c cX12_read RX12 5 (some .int) (dC, dI) (th_ty cs) th_E0 A) (hk51 : ∀ (x1 : Int32) (x2 : Int32) (u : th_St) (H : Heap) (locs : List Loc) (ls : Array Slot), k51 x1 x2 u → th_wI (dC, dI) (wM cs q) A s.heap u H locs → lv_has ls 5 [(0, .ref (q 0)), (1, .int x1), (2, .int x2)] → W p l e (th_rm 7 0 0) s m args below meth c H locs 0 0 (MQ below (va_Qi K (th_Post (dC, dI) (wM cs q) A) A) args s 0 0 A) (F0 m 51 ls [])) (x1 : Int32) (x2 : Int32) (x3 : Int32) (u : th_St) (H : Heap) (locs : List Loc) (ls : Array Slot) (hf : M_read_186 K k51 x1 x2 x3 u) (hw : th_wI (dC, dI) (wM cs q) A s.heap u H locs) (hl : lv_has ls 5 [(0, .ref (q 0)), (1, .int x1), (2, .int x2), (3, .int x3)]) : W p l e (th_rm 7 0 0) s m args below meth c H locs 0 0 (MQ below (va_Qi K (th_Post (dC, dI) (wM cs q) A) A) args s 0 0 A) (F0 m 186 ls []) := by
  have hx := C.1
  have hb := C.2.1
  unfold M_read_186 at hf
  refine lv_iload_n hx hb dX12_read_186 rfl (lv_at hl 3 rfl) ?_
  refine lv_iconst (v := (5 : Int32)) hx hb dX12_read_187 (by decide) ?_
  refine lv_icmp_ne (tgt := 206) hx hb dX12_read_188 (by decide) (fun hc => ?_) (fun hc => ?_)
  · replace hf := hf.1 hc
    clear hc
    exact M_read_206_w C hk51 x1 x2 x3 u _ _ _ hf hw (lv_sub hl [0, 1, 2, 3] rfl)
  · replace hf := hf.2 hc
    clear hc
    refine lv_aload_n hx hb dX12_read_191 rfl (lv_at hl 0 rfl) ?_
    refine mg_15 C hw dX12_read_192 ?_
    refine lv_iconst (v := (1 : Int32)) hx hb dX12_read_195 (by decide) ?_
    refine ml_15 C hw hf.1 dX12_read_196 (fun y_1 e9 => ?_)
    replace hf := hf.2 y_1 e9
    clear e9
    refine lv_bipush (v := (6 : Int32)) hx hb dX12_read_197 (by decide) ?_
    refine lv_icmp_ne (tgt := 206) hx hb dX12_read_199 (by decide) (fun hc => ?_) (fun hc => ?_)
    · replace hf := hf.1 hc
      clear hc
      exact M_read_206_w C hk51 x1 x2 x3 u _ _ _ hf hw (lv_sub hl [0, 1, 2, 3] rfl)
    · replace hf := hf.2 hc
      clear hc
      exact M_read_202_w C hk51 x1 x2 x3 u _ _ _ hf hw (lv_sub hl [0, 1, 2, 3] rfl)
def M_read_161 (K : Int32 → th_St → Prop) (k51 : Int32 → Int32 → th_St → Prop) (x1 : Int32) (x2 : Int32) (z0 : Int32) (u : th_St) : Prop :=
  ((z0 < 0 → M_read_206 K k51 x1 x2 z0 u) ∧ (¬ z0 < 0 → ((x1 = (24 : Int32) → M_read_202 K k51 x1 x2 z0 u) ∧ (¬ x1 = (24 : Int32) → (((3 : Int32) ≤ z0 → M_read_186 K k51 x1 x2 z0 u) ∧ (¬ (3 : Int32) ≤ z0 → ((((x2 >>> (z0 &&& 31)) &&& (1 : Int32)) = (1 : Int32) → M_read_202 K k51 x1 x2 z0 u) ∧ (¬ ((x2 >>> (z0 &&& 31)) &&& (1 : Int32)) = (1 : Int32) → M_read_186 K k51 x1 x2 z0 u))))))))
set_option maxHeartbeats 4000000 in
set_option maxRecDepth 100000 in
theorem M_read_161_w {K : Int32 → th_St → Prop} {k51 : Int32 → Int32 → th_St → Prop} (C : th_Cx p s m args meth c cX12_read RX12 5 (some .int) (dC, dI) (th_ty cs) th_E0 A) (hk51 : ∀ (x1 : Int32) (x2 : Int32) (u : th_St) (H : Heap) (locs : List Loc) (ls : Array Slot), k51 x1 x2 u → th_wI (dC, dI) (wM cs q) A s.heap u H locs → lv_has ls 5 [(0, .ref (q 0)), (1, .int x1), (2, .int x2)] → W p l e (th_rm 7 0 0) s m args below meth c H locs 0 0 (MQ below (va_Qi K (th_Post (dC, dI) (wM cs q) A) A) args s 0 0 A) (F0 m 51 ls [])) (x1 : Int32) (x2 : Int32) (z0 : Int32) (u : th_St) (H : Heap) (locs : List Loc) (ls : Array Slot) (hf : M_read_161 K k51 x1 x2 z0 u) (hw : th_wI (dC, dI) (wM cs q) A s.heap u H locs) (hl : lv_has ls 5 [(0, .ref (q 0)), (1, .int x1), (2, .int x2)]) : W p l e (th_rm 7 0 0) s m args below meth c H locs 0 0 (MQ below (va_Qi K (th_Post (dC, dI) (wM cs q) A) A) args s 0 0 A) (F0 m 161 ls [.int z0]) := by
  have hx := C.1
  have hb := C.2.1
  unfold M_read_161 at hf
  refine lv_istore_n (lv' := [(3, .int z0), (0, .ref (q 0)), (1, .int x1), (2, .int x2)]) hx hb dX12_read_161 rfl hl (by decide) rfl (fun ls hl => ?_)
  refine lv_iload_n hx hb dX12_read_162 rfl (lv_at hl 0 rfl) ?_
  refine lv_if_lt (tgt := 206) hx hb dX12_read_163 (by decide) (fun hc => ?_) (fun hc => ?_)
  · replace hf := hf.1 hc
    clear hc
    exact M_read_206_w C hk51 x1 x2 z0 u _ _ _ hf hw (lv_sub hl [1, 2, 3, 0] rfl)
  · replace hf := hf.2 hc
    clear hc
    refine lv_iload_n hx hb dX12_read_166 rfl (lv_at hl 2 rfl) ?_
    refine lv_bipush (v := (24 : Int32)) hx hb dX12_read_167 (by decide) ?_
    refine lv_icmp_eq (tgt := 202) hx hb dX12_read_169 (by decide) (fun hc => ?_) (fun hc => ?_)
    · replace hf := hf.1 hc
      clear hc
      exact M_read_202_w C hk51 x1 x2 z0 u _ _ _ hf hw (lv_sub hl [1, 2, 3, 0] rfl)
    · replace hf := hf.2 hc
      clear hc
      refine lv_iload_n hx hb dX12_read_172 rfl (lv_at hl 0 rfl) ?_
      refine lv_iconst (v := (3 : Int32)) hx hb dX12_read_173 (by decide) ?_
      refine lv_icmp_ge (tgt := 186) hx hb dX12_read_174 (by decide) (fun hc => ?_) (fun hc => ?_)
      · replace hf := hf.1 hc
        clear hc
        exact M_read_186_w C hk51 x1 x2 z0 u _ _ _ hf hw (lv_sub hl [1, 2, 3, 0] rfl)
      · replace hf := hf.2 hc
        clear hc
        refine lv_iload_n hx hb dX12_read_177 rfl (lv_at hl 3 rfl) ?_
        refine lv_iload_n hx hb dX12_read_178 rfl (lv_at hl 0 rfl) ?_
        refine lv_ishr hx hb dX12_read_179 ?_
        refine lv_iconst (v := (1 : Int32)) hx hb dX12_read_180 (by decide) ?_
        refine lv_iand hx hb dX12_read_181 ?_
        refine lv_iconst (v := (1 : Int32)) hx hb dX12_read_182 (by decide) ?_
        refine lv_icmp_eq (tgt := 202) hx hb dX12_read_183 (by decide) (fun hc => ?_) (fun hc => ?_)
        · replace hf := hf.1 hc
          clear hc
          exact M_read_202_w C hk51 x1 x2 z0 u _ _ _ hf hw (lv_sub hl [1, 2, 3, 0] rfl)
        · replace hf := hf.2 hc
          clear hc
          exact M_read_186_w C hk51 x1 x2 z0 u _ _ _ hf hw (lv_sub hl [1, 2, 3, 0] rfl)
def M_read_51 (K : Int32 → th_St → Prop) (k51 : Int32 → Int32 → th_St → Prop) (x1 : Int32) (x2 : Int32) (u : th_St) : Prop :=
  (((u.1 24) = 0 → K x1 u) ∧ (¬ (u.1 24) = 0 → (((u.1 24) = (1 : Int32) → ((¬ (lg_cmp (u.2.1 32) (439856162148 : Int64)) = 0 → ((¬ (lg_cmp (u.2.1 32) (448545973363 : Int64)) = 0 → ((¬ (lg_cmp (u.2.1 32) (418430153325 : Int64)) = 0 → ((¬ (lg_cmp (u.2.1 32) (1886743660 : Int64)) = 0 → ((¬ (lg_cmp (u.2.1 32) (1751474548 : Int64)) = 0 → ((¬ (lg_cmp (u.2.1 32) (474315584357 : Int64)) = 0 → M_read_161 K k51 x1 x2 (-1 : Int32) u) ∧ ((lg_cmp (u.2.1 32) (474315584357 : Int64)) = 0 → M_read_161 K k51 x1 x2 (2 : Int32) u))) ∧ ((lg_cmp (u.2.1 32) (1751474548 : Int64)) = 0 → M_read_161 K k51 x1 x2 (1 : Int32) u))) ∧ ((lg_cmp (u.2.1 32) (1886743660 : Int64)) = 0 → M_read_161 K k51 x1 x2 (0 : Int32) u))) ∧ ((lg_cmp (u.2.1 32) (418430153325 : Int64)) = 0 → M_read_161 K k51 x1 x2 (5 : Int32) u))) ∧ ((lg_cmp (u.2.1 32) (448545973363 : Int64)) = 0 → M_read_161 K k51 x1 x2 (4 : Int32) u))) ∧ ((lg_cmp (u.2.1 32) (439856162148 : Int64)) = 0 → M_read_161 K k51 x1 x2 (3 : Int32) u))) ∧ (¬ (u.1 24) = (1 : Int32) → M_read_161 K k51 x1 x2 (-1 : Int32) u))))
set_option maxHeartbeats 4000000 in
set_option maxRecDepth 100000 in
theorem M_read_51_w {K : Int32 → th_St → Prop} {k51 : Int32 → Int32 → th_St → Prop} (C : th_Cx p s m args meth c cX12_read RX12 5 (some .int) (dC, dI) (th_ty cs) th_E0 A) (hk51 : ∀ (x1 : Int32) (x2 : Int32) (u : th_St) (H : Heap) (locs : List Loc) (ls : Array Slot), k51 x1 x2 u → th_wI (dC, dI) (wM cs q) A s.heap u H locs → lv_has ls 5 [(0, .ref (q 0)), (1, .int x1), (2, .int x2)] → W p l e (th_rm 7 0 0) s m args below meth c H locs 0 0 (MQ below (va_Qi K (th_Post (dC, dI) (wM cs q) A) A) args s 0 0 A) (F0 m 51 ls [])) (x1 : Int32) (x2 : Int32) (u : th_St) (H : Heap) (locs : List Loc) (ls : Array Slot) (hf : M_read_51 K k51 x1 x2 u) (hw : th_wI (dC, dI) (wM cs q) A s.heap u H locs) (hl : lv_has ls 5 [(0, .ref (q 0)), (1, .int x1), (2, .int x2)]) : W p l e (th_rm 7 0 0) s m args below meth c H locs 0 0 (MQ below (va_Qi K (th_Post (dC, dI) (wM cs q) A) A) args s 0 0 A) (F0 m 51 ls []) := by
  have hx := C.1
  have hb := C.2.1
  unfold M_read_51 at hf
  refine lv_aload_n hx hb dX12_read_51 rfl (lv_at hl 0 rfl) ?_
  refine mg_24 C hw dX12_read_52 ?_
  refine lv_if_eq (tgt := 278) hx hb dX12_read_55 (by decide) (fun hc => ?_) (fun hc => ?_)
  · replace hf := hf.1 hc
    clear hc
    refine lv_iload_n hx hb dX12_read_278 rfl (lv_at hl 1 rfl) ?_
    exact th_iret C hw hf dX12_read_279
  · replace hf := hf.2 hc
    clear hc
    refine lv_aload_n hx hb dX12_read_58 rfl (lv_at hl 0 rfl) ?_
    refine mg_24 C hw dX12_read_59 ?_
    refine lv_iconst (v := (1 : Int32)) hx hb dX12_read_62 (by decide) ?_
    refine lv_icmp_eq (tgt := 70) hx hb dX12_read_63 (by decide) (fun hc => ?_) (fun hc => ?_)
    · replace hf := hf.1 hc
      clear hc
      refine lv_aload_n hx hb dX12_read_70 rfl (lv_at hl 0 rfl) ?_
      refine mg_32 C hw dX12_read_71 ?_
      refine lv_ldc2 hx hb C.2.2.2.1 (C.2.2.2.2.1 _ hwK_X12_237) dX12_read_74 ?_
      refine W.lcmp hx hb dX12_read_77 ?_
      refine lv_if_ne (tgt := 85) hx hb dX12_read_78 (by decide) (fun hc => ?_) (fun hc => ?_)
      · replace hf := hf.1 hc
        clear hc
        refine lv_aload_n hx hb dX12_read_85 rfl (lv_at hl 0 rfl) ?_
        refine mg_32 C hw dX12_read_86 ?_
        refine lv_ldc2 hx hb C.2.2.2.1 (C.2.2.2.2.1 _ hwK_X12_239) dX12_read_89 ?_
        refine W.lcmp hx hb dX12_read_92 ?_
        refine lv_if_ne (tgt := 100) hx hb dX12_read_93 (by decide) (fun hc => ?_) (fun hc => ?_)
        · replace hf := hf.1 hc
          clear hc
          refine lv_aload_n hx hb dX12_read_100 rfl (lv_at hl 0 rfl) ?_
          refine mg_32 C hw dX12_read_101 ?_
          refine lv_ldc2 hx hb C.2.2.2.1 (C.2.2.2.2.1 _ hwK_X12_241) dX12_read_104 ?_
          refine W.lcmp hx hb dX12_read_107 ?_
          refine lv_if_ne (tgt := 115) hx hb dX12_read_108 (by decide) (fun hc => ?_) (fun hc => ?_)
          · replace hf := hf.1 hc
            clear hc
            refine lv_aload_n hx hb dX12_read_115 rfl (lv_at hl 0 rfl) ?_
            refine mg_32 C hw dX12_read_116 ?_
            refine lv_ldc2 hx hb C.2.2.2.1 (C.2.2.2.2.1 _ hwK_X12_243) dX12_read_119 ?_
            refine W.lcmp hx hb dX12_read_122 ?_
            refine lv_if_ne (tgt := 130) hx hb dX12_read_123 (by decide) (fun hc => ?_) (fun hc => ?_)
            · replace hf := hf.1 hc
              clear hc
              refine lv_aload_n hx hb dX12_read_130 rfl (lv_at hl 0 rfl) ?_
              refine mg_32 C hw dX12_read_131 ?_
              refine lv_ldc2 hx hb C.2.2.2.1 (C.2.2.2.2.1 _ hwK_X12_245) dX12_read_134 ?_
              refine W.lcmp hx hb dX12_read_137 ?_
              refine lv_if_ne (tgt := 145) hx hb dX12_read_138 (by decide) (fun hc => ?_) (fun hc => ?_)
              · replace hf := hf.1 hc
                clear hc
                refine lv_aload_n hx hb dX12_read_145 rfl (lv_at hl 0 rfl) ?_
                refine mg_32 C hw dX12_read_146 ?_
                refine lv_ldc2 hx hb C.2.2.2.1 (C.2.2.2.2.1 _ hwK_X12_247) dX12_read_149 ?_
                refine W.lcmp hx hb dX12_read_152 ?_
                refine lv_if_ne (tgt := 160) hx hb dX12_read_153 (by decide) (fun hc => ?_) (fun hc => ?_)
                · replace hf := hf.1 hc
                  clear hc
                  refine lv_iconst (v := (-1 : Int32)) hx hb dX12_read_160 (by decide) ?_
                  exact M_read_161_w C hk51 x1 x2 (-1 : Int32) u _ _ _ hf hw (lv_sub hl [0, 1, 2] rfl)
                · replace hf := hf.2 hc
                  clear hc
                  refine lv_iconst (v := (2 : Int32)) hx hb dX12_read_156 (by decide) ?_
                  refine lv_goto (tgt := 161) hx hb dX12_read_157 (by decide) ?_
                  exact M_read_161_w C hk51 x1 x2 (2 : Int32) u _ _ _ hf hw (lv_sub hl [0, 1, 2] rfl)
              · replace hf := hf.2 hc
                clear hc
                refine lv_iconst (v := (1 : Int32)) hx hb dX12_read_141 (by decide) ?_
                refine lv_goto (tgt := 161) hx hb dX12_read_142 (by decide) ?_
                exact M_read_161_w C hk51 x1 x2 (1 : Int32) u _ _ _ hf hw (lv_sub hl [0, 1, 2] rfl)
            · replace hf := hf.2 hc
              clear hc
              refine lv_iconst (v := (0 : Int32)) hx hb dX12_read_126 (by decide) ?_
              refine lv_goto (tgt := 161) hx hb dX12_read_127 (by decide) ?_
              exact M_read_161_w C hk51 x1 x2 (0 : Int32) u _ _ _ hf hw (lv_sub hl [0, 1, 2] rfl)
          · replace hf := hf.2 hc
            clear hc
            refine lv_iconst (v := (5 : Int32)) hx hb dX12_read_111 (by decide) ?_
            refine lv_goto (tgt := 161) hx hb dX12_read_112 (by decide) ?_
            exact M_read_161_w C hk51 x1 x2 (5 : Int32) u _ _ _ hf hw (lv_sub hl [0, 1, 2] rfl)
        · replace hf := hf.2 hc
          clear hc
          refine lv_iconst (v := (4 : Int32)) hx hb dX12_read_96 (by decide) ?_
          refine lv_goto (tgt := 161) hx hb dX12_read_97 (by decide) ?_
          exact M_read_161_w C hk51 x1 x2 (4 : Int32) u _ _ _ hf hw (lv_sub hl [0, 1, 2] rfl)
      · replace hf := hf.2 hc
        clear hc
        refine lv_iconst (v := (3 : Int32)) hx hb dX12_read_81 (by decide) ?_
        refine lv_goto (tgt := 161) hx hb dX12_read_82 (by decide) ?_
        exact M_read_161_w C hk51 x1 x2 (3 : Int32) u _ _ _ hf hw (lv_sub hl [0, 1, 2] rfl)
    · replace hf := hf.2 hc
      clear hc
      refine lv_iconst (v := (-1 : Int32)) hx hb dX12_read_66 (by decide) ?_
      refine lv_goto (tgt := 161) hx hb dX12_read_67 (by decide) ?_
      exact M_read_161_w C hk51 x1 x2 (-1 : Int32) u _ _ _ hf hw (lv_sub hl [0, 1, 2] rfl)
def M_read_51_lp (K : Int32 → th_St → Prop) : Nat → Int32 → Int32 → th_St → Prop
  | 0, _, _, _ => False
  | n + 1, x1, x2, u => M_read_51 K (M_read_51_lp K n) x1 x2 u
set_option maxHeartbeats 4000000 in
set_option maxRecDepth 100000 in
theorem M_read_51_lw {K : Int32 → th_St → Prop} (C : th_Cx p s m args meth c cX12_read RX12 5 (some .int) (dC, dI) (th_ty cs) th_E0 A) (n : Nat) : ∀ (x1 : Int32) (x2 : Int32) (u : th_St) (H : Heap) (locs : List Loc) (ls : Array Slot), M_read_51_lp K n x1 x2 u → th_wI (dC, dI) (wM cs q) A s.heap u H locs → lv_has ls 5 [(0, .ref (q 0)), (1, .int x1), (2, .int x2)] → W p l e (th_rm 7 0 0) s m args below meth c H locs 0 0 (MQ below (va_Qi K (th_Post (dC, dI) (wM cs q) A) A) args s 0 0 A) (F0 m 51 ls []) := by
  induction n with
  | zero => intro x1 x2 u H locs ls hf; exact hf.elim
  | succ n ih =>
    intro x1 x2 u H locs ls hf hw hl
    exact M_read_51_w C ih x1 x2 u H locs ls hf hw hl
def M_read (u : th_St) (K : Int32 → th_St → Prop) : Prop :=
  M_isWord (1717921140 : Int64) u (fun r_2 u_1 => ((r_2 = 0 → ∃ n, M_read_51_lp K n (0 : Int32) (0 : Int32) u_1) ∧ (¬ r_2 = 0 → M_next_ u_1 (fun u_3 => M_takes (4 : Int32) (48 : Int32) u_3 (fun r_6 u_5 => ((¬ r_6 = 0 → (vp_in (1 : Int32) 2 ∧ ∀ u_7 : th_St, u_7 = th_sa u_5 11 (upd (u_5.2.2.1 11) ((1 : Int32)).toNatClampNeg (u_5.1 33)) → M_sign (59 : Int32) u_7 (fun r_9 u_8 => ((¬ r_9 = 0 → ∃ n, M_read_51_lp K n (0 : Int32) (0 : Int32) u_8) ∧ (r_9 = 0 → K (-1 : Int32) u_8))))) ∧ (r_6 = 0 → K (-1 : Int32) u_5)))))))
set_option maxHeartbeats 4000000 in
set_option maxRecDepth 100000 in
theorem M_read_c {l : Launch} {dC : Nat → ClassId} {dI : Nat → Nat → Nat} {cs : Nat → ClassId} {q : Nat → Nat} {u : th_St} {K : Int32 → th_St → Prop} (hf : M_read u K) : th_Ci l yX12_read cX12_read 5 (some .int) 7 0 0 (dC, dI) (th_ty cs) th_E0 (wM cs q) [.ref (q 0)] u K := by
  refine th_ofi (by decide) (Nat.le_of_ble_eq_true rfl) th_E0_ok ?_
  intro p e s m below meth c A ls C hw hl
  have C : th_Cx p s m _ meth c cX12_read RX12 5 (some .int) (dC, dI) (th_ty cs) th_E0 A := C
  have hl : lv_has ls 5 [(0, .ref (q 0))] := hl
  generalize (List.toArray _ : Array Value) = args at C ⊢
  have hx := C.1
  have hb := C.2.1
  unfold M_read at hf
  refine lv_iconst (v := (0 : Int32)) hx hb dX12_read_0 (by decide) ?_
  refine lv_istore_n (lv' := [(1, .int (0 : Int32)), (0, .ref (q 0))]) hx hb dX12_read_1 rfl hl (by decide) rfl (fun ls hl => ?_)
  refine lv_iconst (v := (0 : Int32)) hx hb dX12_read_2 (by decide) ?_
  refine lv_istore_n (lv' := [(2, .int (0 : Int32)), (1, .int (0 : Int32)), (0, .ref (q 0))]) hx hb dX12_read_3 rfl hl (by decide) rfl (fun ls hl => ?_)
  refine lv_aload_n hx hb dX12_read_4 rfl (lv_at hl 2 rfl) ?_
  refine lv_ldc2 hx hb C.2.2.2.1 (C.2.2.2.2.1 _ hwK_X12_228) dX12_read_5 ?_
  refine th_callVi (As := [.long (1717921140 : Int64)]) (rest := []) C lkX12_224 (M_isWord_c hf) hw (mRc C hw) rfl rfl ⟨Nat.le_of_ble_eq_true rfl, Nat.le_of_ble_eq_true rfl⟩ hl.1 (Nat.le_of_ble_eq_true rfl) ⟨Nat.le_refl _, Nat.le_refl _⟩ dX12_read_8 (fun r_2 u_1 H locs hf hw => ?_)
  refine lv_if_eq (tgt := 51) hx hb dX12_read_11 (by decide) (fun hc => ?_) (fun hc => ?_)
  · replace hf := hf.1 hc
    clear hc
    obtain ⟨n, hf⟩ := hf
    exact M_read_51_lw C n (0 : Int32) (0 : Int32) u_1 _ _ _ hf hw (lv_sub hl [2, 1, 0] rfl)
  · replace hf := hf.2 hc
    clear hc
    refine lv_aload_n hx hb dX12_read_14 rfl (lv_at hl 2 rfl) ?_
    refine th_callVv (As := []) (rest := []) C lkX12_179 (M_next__c hf) hw (mRc C hw) rfl rfl ⟨Nat.le_of_ble_eq_true rfl, Nat.le_of_ble_eq_true rfl⟩ hl.1 (Nat.le_of_ble_eq_true rfl) ⟨Nat.le_refl _, Nat.le_refl _⟩ dX12_read_15 (fun u_3 H locs hf hw => ?_)
    refine lv_aload_n hx hb dX12_read_18 rfl (lv_at hl 2 rfl) ?_
    refine lv_iconst (v := (4 : Int32)) hx hb dX12_read_19 (by decide) ?_
    refine lv_bipush (v := (48 : Int32)) hx hb dX12_read_20 (by decide) ?_
    refine th_callVi (As := [.int (4 : Int32), .int (48 : Int32)]) (rest := []) C lkX12_230 (M_takes_c hf) hw (mRc C hw) rfl rfl ⟨Nat.le_of_ble_eq_true rfl, Nat.le_of_ble_eq_true rfl⟩ hl.1 (Nat.le_of_ble_eq_true rfl) ⟨Nat.le_refl _, Nat.le_refl _⟩ dX12_read_22 (fun r_6 u_5 H locs hf hw => ?_)
    refine lv_if_ne (tgt := 30) hx hb dX12_read_25 (by decide) (fun hc => ?_) (fun hc => ?_)
    · replace hf := hf.1 hc
      clear hc
      refine lv_aload_n hx hb dX12_read_30 rfl (lv_at hl 2 rfl) ?_
      refine mg_11 C hw dX12_read_31 ?_
      refine lv_iconst (v := (1 : Int32)) hx hb dX12_read_34 (by decide) ?_
      refine lv_aload_n hx hb dX12_read_35 rfl (lv_at hl 2 rfl) ?_
      refine mg_33 C hw dX12_read_36 ?_
      refine ms_11 C hw hf.1 dX12_read_39 (fun u_7 e9 H locs hw => ?_)
      replace hf := hf.2 u_7 e9
      clear e9
      refine lv_aload_n hx hb dX12_read_40 rfl (lv_at hl 2 rfl) ?_
      refine lv_bipush (v := (59 : Int32)) hx hb dX12_read_41 (by decide) ?_
      refine th_callVi (As := [.int (59 : Int32)]) (rest := []) C lkX12_234 (M_sign_c hf) hw (mRc C hw) rfl rfl ⟨Nat.le_of_ble_eq_true rfl, Nat.le_of_ble_eq_true rfl⟩ hl.1 (Nat.le_of_ble_eq_true rfl) ⟨Nat.le_refl _, Nat.le_refl _⟩ dX12_read_43 (fun r_9 u_8 H locs hf hw => ?_)
      refine lv_if_ne (tgt := 51) hx hb dX12_read_46 (by decide) (fun hc => ?_) (fun hc => ?_)
      · replace hf := hf.1 hc
        clear hc
        obtain ⟨n, hf⟩ := hf
        exact M_read_51_lw C n (0 : Int32) (0 : Int32) u_8 _ _ _ hf hw (lv_sub hl [2, 1, 0] rfl)
      · replace hf := hf.2 hc
        clear hc
        refine lv_iconst (v := (-1 : Int32)) hx hb dX12_read_49 (by decide) ?_
        exact th_iret C hw hf dX12_read_50
    · replace hf := hf.2 hc
      clear hc
      refine lv_iconst (v := (-1 : Int32)) hx hb dX12_read_28 (by decide) ?_
      exact th_iret C hw hf dX12_read_29
/-! X12_text -/
theorem dX12_text_0 : decode cX12_text 0 = .ok (.aload_n 0, 1) := by decide +kernel
theorem dX12_text_1 : decode cX12_text 1 = .ok (.iconst 0, 1) := by decide +kernel
theorem dX12_text_2 : decode cX12_text 2 = .ok (.putfield 1, 3) := by decide +kernel
theorem dX12_text_5 : decode cX12_text 5 = .ok (.aload_n 0, 1) := by decide +kernel
theorem dX12_text_6 : decode cX12_text 6 = .ok (.invokevirtual 164, 3) := by decide +kernel
theorem dX12_text_9 : decode cX12_text 9 = .ok (.aload_n 0, 1) := by decide +kernel
theorem dX12_text_10 : decode cX12_text 10 = .ok (.getfield 167, 3) := by decide +kernel
theorem dX12_text_13 : decode cX12_text 13 = .ok (.ifCond .le 7, 3) := by decide +kernel
theorem dX12_text_16 : decode cX12_text 16 = .ok (.sipush (-1000), 3) := by decide +kernel
theorem dX12_text_19 : decode cX12_text 19 = .ok (.ireturn, 1) := by decide +kernel
theorem dX12_text_20 : decode cX12_text 20 = .ok (.aload_n 0, 1) := by decide +kernel
theorem dX12_text_21 : decode cX12_text 21 = .ok (.iconst 0, 1) := by decide +kernel
theorem dX12_text_22 : decode cX12_text 22 = .ok (.putfield 170, 3) := by decide +kernel
theorem dX12_text_25 : decode cX12_text 25 = .ok (.aload_n 0, 1) := by decide +kernel
theorem dX12_text_26 : decode cX12_text 26 = .ok (.iconst 1, 1) := by decide +kernel
theorem dX12_text_27 : decode cX12_text 27 = .ok (.invokevirtual 161, 3) := by decide +kernel
theorem dX12_text_30 : decode cX12_text 30 = .ok (.aload_n 0, 1) := by decide +kernel
theorem dX12_text_31 : decode cX12_text 31 = .ok (.iconst 0, 1) := by decide +kernel
theorem dX12_text_32 : decode cX12_text 32 = .ok (.putfield 173, 3) := by decide +kernel
theorem dX12_text_35 : decode cX12_text 35 = .ok (.aload_n 0, 1) := by decide +kernel
theorem dX12_text_36 : decode cX12_text 36 = .ok (.iconst 0, 1) := by decide +kernel
theorem dX12_text_37 : decode cX12_text 37 = .ok (.putfield 176, 3) := by decide +kernel
theorem dX12_text_40 : decode cX12_text 40 = .ok (.aload_n 0, 1) := by decide +kernel
theorem dX12_text_41 : decode cX12_text 41 = .ok (.invokevirtual 179, 3) := by decide +kernel
theorem dX12_text_44 : decode cX12_text 44 = .ok (.aload_n 0, 1) := by decide +kernel
theorem dX12_text_45 : decode cX12_text 45 = .ok (.invokevirtual 182, 3) := by decide +kernel
theorem dX12_text_48 : decode cX12_text 48 = .ok (.istore_n 1, 1) := by decide +kernel
theorem dX12_text_49 : decode cX12_text 49 = .ok (.iload_n 1, 1) := by decide +kernel
theorem dX12_text_50 : decode cX12_text 50 = .ok (.ifCond .ge 10, 3) := by decide +kernel
theorem dX12_text_53 : decode cX12_text 53 = .ok (.iconst (-1), 1) := by decide +kernel
theorem dX12_text_54 : decode cX12_text 54 = .ok (.aload_n 0, 1) := by decide +kernel
theorem dX12_text_55 : decode cX12_text 55 = .ok (.getfield 186, 3) := by decide +kernel
theorem dX12_text_58 : decode cX12_text 58 = .ok (.isub, 1) := by decide +kernel
theorem dX12_text_59 : decode cX12_text 59 = .ok (.ireturn, 1) := by decide +kernel
theorem dX12_text_60 : decode cX12_text 60 = .ok (.aload_n 0, 1) := by decide +kernel
theorem dX12_text_61 : decode cX12_text 61 = .ok (.getfield 54, 3) := by decide +kernel
theorem dX12_text_64 : decode cX12_text 64 = .ok (.iconst 0, 1) := by decide +kernel
theorem dX12_text_65 : decode cX12_text 65 = .ok (.aload_n 0, 1) := by decide +kernel
theorem dX12_text_66 : decode cX12_text 66 = .ok (.getfield 54, 3) := by decide +kernel
theorem dX12_text_69 : decode cX12_text 69 = .ok (.iconst 1, 1) := by decide +kernel
theorem dX12_text_70 : decode cX12_text 70 = .ok (.iaload, 1) := by decide +kernel
theorem dX12_text_71 : decode cX12_text 71 = .ok (.iastore, 1) := by decide +kernel
theorem dX12_text_72 : decode cX12_text 72 = .ok (.aload_n 0, 1) := by decide +kernel
theorem dX12_text_73 : decode cX12_text 73 = .ok (.getfield 57, 3) := by decide +kernel
theorem dX12_text_76 : decode cX12_text 76 = .ok (.iconst 0, 1) := by decide +kernel
theorem dX12_text_77 : decode cX12_text 77 = .ok (.aload_n 0, 1) := by decide +kernel
theorem dX12_text_78 : decode cX12_text 78 = .ok (.getfield 57, 3) := by decide +kernel
theorem dX12_text_81 : decode cX12_text 81 = .ok (.iconst 1, 1) := by decide +kernel
theorem dX12_text_82 : decode cX12_text 82 = .ok (.iaload, 1) := by decide +kernel
theorem dX12_text_83 : decode cX12_text 83 = .ok (.iastore, 1) := by decide +kernel
theorem dX12_text_84 : decode cX12_text 84 = .ok (.aload_n 0, 1) := by decide +kernel
theorem dX12_text_85 : decode cX12_text 85 = .ok (.getfield 60, 3) := by decide +kernel
theorem dX12_text_88 : decode cX12_text 88 = .ok (.iconst 0, 1) := by decide +kernel
theorem dX12_text_89 : decode cX12_text 89 = .ok (.aload_n 0, 1) := by decide +kernel
theorem dX12_text_90 : decode cX12_text 90 = .ok (.getfield 60, 3) := by decide +kernel
theorem dX12_text_93 : decode cX12_text 93 = .ok (.iconst 1, 1) := by decide +kernel
theorem dX12_text_94 : decode cX12_text 94 = .ok (.iaload, 1) := by decide +kernel
theorem dX12_text_95 : decode cX12_text 95 = .ok (.iastore, 1) := by decide +kernel
theorem dX12_text_96 : decode cX12_text 96 = .ok (.aload_n 0, 1) := by decide +kernel
theorem dX12_text_97 : decode cX12_text 97 = .ok (.getfield 63, 3) := by decide +kernel
theorem dX12_text_100 : decode cX12_text 100 = .ok (.iconst 0, 1) := by decide +kernel
theorem dX12_text_101 : decode cX12_text 101 = .ok (.aload_n 0, 1) := by decide +kernel
theorem dX12_text_102 : decode cX12_text 102 = .ok (.getfield 63, 3) := by decide +kernel
theorem dX12_text_105 : decode cX12_text 105 = .ok (.iconst 1, 1) := by decide +kernel
theorem dX12_text_106 : decode cX12_text 106 = .ok (.iaload, 1) := by decide +kernel
theorem dX12_text_107 : decode cX12_text 107 = .ok (.iastore, 1) := by decide +kernel
theorem dX12_text_108 : decode cX12_text 108 = .ok (.aload_n 0, 1) := by decide +kernel
theorem dX12_text_109 : decode cX12_text 109 = .ok (.getfield 66, 3) := by decide +kernel
theorem dX12_text_112 : decode cX12_text 112 = .ok (.iconst 0, 1) := by decide +kernel
theorem dX12_text_113 : decode cX12_text 113 = .ok (.aload_n 0, 1) := by decide +kernel
theorem dX12_text_114 : decode cX12_text 114 = .ok (.getfield 66, 3) := by decide +kernel
theorem dX12_text_117 : decode cX12_text 117 = .ok (.iconst 1, 1) := by decide +kernel
theorem dX12_text_118 : decode cX12_text 118 = .ok (.iaload, 1) := by decide +kernel
theorem dX12_text_119 : decode cX12_text 119 = .ok (.iastore, 1) := by decide +kernel
theorem dX12_text_120 : decode cX12_text 120 = .ok (.iconst 0, 1) := by decide +kernel
theorem dX12_text_121 : decode cX12_text 121 = .ok (.istore_n 2, 1) := by decide +kernel
theorem dX12_text_122 : decode cX12_text 122 = .ok (.iload_n 2, 1) := by decide +kernel
theorem dX12_text_123 : decode cX12_text 123 = .ok (.bipush 48, 2) := by decide +kernel
theorem dX12_text_125 : decode cX12_text 125 = .ok (.if_icmp .ge 39, 3) := by decide +kernel
theorem dX12_text_128 : decode cX12_text 128 = .ok (.aload_n 0, 1) := by decide +kernel
theorem dX12_text_129 : decode cX12_text 129 = .ok (.getfield 37, 3) := by decide +kernel
theorem dX12_text_132 : decode cX12_text 132 = .ok (.iload_n 2, 1) := by decide +kernel
theorem dX12_text_133 : decode cX12_text 133 = .ok (.aload_n 0, 1) := by decide +kernel
theorem dX12_text_134 : decode cX12_text 134 = .ok (.getfield 37, 3) := by decide +kernel
theorem dX12_text_137 : decode cX12_text 137 = .ok (.bipush 48, 2) := by decide +kernel
theorem dX12_text_139 : decode cX12_text 139 = .ok (.iload_n 2, 1) := by decide +kernel
theorem dX12_text_140 : decode cX12_text 140 = .ok (.iadd, 1) := by decide +kernel
theorem dX12_text_141 : decode cX12_text 141 = .ok (.baload, 1) := by decide +kernel
theorem dX12_text_142 : decode cX12_text 142 = .ok (.bastore, 1) := by decide +kernel
theorem dX12_text_143 : decode cX12_text 143 = .ok (.aload_n 0, 1) := by decide +kernel
theorem dX12_text_144 : decode cX12_text 144 = .ok (.getfield 41, 3) := by decide +kernel
theorem dX12_text_147 : decode cX12_text 147 = .ok (.iload_n 2, 1) := by decide +kernel
theorem dX12_text_148 : decode cX12_text 148 = .ok (.aload_n 0, 1) := by decide +kernel
theorem dX12_text_149 : decode cX12_text 149 = .ok (.getfield 41, 3) := by decide +kernel
theorem dX12_text_152 : decode cX12_text 152 = .ok (.bipush 48, 2) := by decide +kernel
theorem dX12_text_154 : decode cX12_text 154 = .ok (.iload_n 2, 1) := by decide +kernel
theorem dX12_text_155 : decode cX12_text 155 = .ok (.iadd, 1) := by decide +kernel
theorem dX12_text_156 : decode cX12_text 156 = .ok (.iaload, 1) := by decide +kernel
theorem dX12_text_157 : decode cX12_text 157 = .ok (.iastore, 1) := by decide +kernel
theorem dX12_text_158 : decode cX12_text 158 = .ok (.iinc 2 1, 3) := by decide +kernel
theorem dX12_text_161 : decode cX12_text 161 = .ok (.goto (-39), 3) := by decide +kernel
theorem dX12_text_164 : decode cX12_text 164 = .ok (.iconst 0, 1) := by decide +kernel
theorem dX12_text_165 : decode cX12_text 165 = .ok (.istore_n 2, 1) := by decide +kernel
theorem dX12_text_166 : decode cX12_text 166 = .ok (.iload_n 2, 1) := by decide +kernel
theorem dX12_text_167 : decode cX12_text 167 = .ok (.bipush 6, 2) := by decide +kernel
theorem dX12_text_169 : decode cX12_text 169 = .ok (.if_icmp .ge 54, 3) := by decide +kernel
theorem dX12_text_172 : decode cX12_text 172 = .ok (.aload_n 0, 1) := by decide +kernel
theorem dX12_text_173 : decode cX12_text 173 = .ok (.getfield 45, 3) := by decide +kernel
theorem dX12_text_176 : decode cX12_text 176 = .ok (.iload_n 2, 1) := by decide +kernel
theorem dX12_text_177 : decode cX12_text 177 = .ok (.aload_n 0, 1) := by decide +kernel
theorem dX12_text_178 : decode cX12_text 178 = .ok (.getfield 45, 3) := by decide +kernel
theorem dX12_text_181 : decode cX12_text 181 = .ok (.bipush 6, 2) := by decide +kernel
theorem dX12_text_183 : decode cX12_text 183 = .ok (.iload_n 2, 1) := by decide +kernel
theorem dX12_text_184 : decode cX12_text 184 = .ok (.iadd, 1) := by decide +kernel
theorem dX12_text_185 : decode cX12_text 185 = .ok (.iaload, 1) := by decide +kernel
theorem dX12_text_186 : decode cX12_text 186 = .ok (.iastore, 1) := by decide +kernel
theorem dX12_text_187 : decode cX12_text 187 = .ok (.aload_n 0, 1) := by decide +kernel
theorem dX12_text_188 : decode cX12_text 188 = .ok (.getfield 48, 3) := by decide +kernel
theorem dX12_text_191 : decode cX12_text 191 = .ok (.iload_n 2, 1) := by decide +kernel
theorem dX12_text_192 : decode cX12_text 192 = .ok (.aload_n 0, 1) := by decide +kernel
theorem dX12_text_193 : decode cX12_text 193 = .ok (.getfield 48, 3) := by decide +kernel
theorem dX12_text_196 : decode cX12_text 196 = .ok (.bipush 6, 2) := by decide +kernel
theorem dX12_text_198 : decode cX12_text 198 = .ok (.iload_n 2, 1) := by decide +kernel
theorem dX12_text_199 : decode cX12_text 199 = .ok (.iadd, 1) := by decide +kernel
theorem dX12_text_200 : decode cX12_text 200 = .ok (.iaload, 1) := by decide +kernel
theorem dX12_text_201 : decode cX12_text 201 = .ok (.iastore, 1) := by decide +kernel
theorem dX12_text_202 : decode cX12_text 202 = .ok (.aload_n 0, 1) := by decide +kernel
theorem dX12_text_203 : decode cX12_text 203 = .ok (.getfield 51, 3) := by decide +kernel
theorem dX12_text_206 : decode cX12_text 206 = .ok (.iload_n 2, 1) := by decide +kernel
theorem dX12_text_207 : decode cX12_text 207 = .ok (.aload_n 0, 1) := by decide +kernel
theorem dX12_text_208 : decode cX12_text 208 = .ok (.getfield 51, 3) := by decide +kernel
theorem dX12_text_211 : decode cX12_text 211 = .ok (.bipush 6, 2) := by decide +kernel
theorem dX12_text_213 : decode cX12_text 213 = .ok (.iload_n 2, 1) := by decide +kernel
theorem dX12_text_214 : decode cX12_text 214 = .ok (.iadd, 1) := by decide +kernel
theorem dX12_text_215 : decode cX12_text 215 = .ok (.iaload, 1) := by decide +kernel
theorem dX12_text_216 : decode cX12_text 216 = .ok (.iastore, 1) := by decide +kernel
theorem dX12_text_217 : decode cX12_text 217 = .ok (.iinc 2 1, 3) := by decide +kernel
theorem dX12_text_220 : decode cX12_text 220 = .ok (.goto (-54), 3) := by decide +kernel
theorem dX12_text_223 : decode cX12_text 223 = .ok (.iconst 0, 1) := by decide +kernel
theorem dX12_text_224 : decode cX12_text 224 = .ok (.istore_n 2, 1) := by decide +kernel
theorem dX12_text_225 : decode cX12_text 225 = .ok (.iload_n 2, 1) := by decide +kernel
theorem dX12_text_226 : decode cX12_text 226 = .ok (.sipush 200, 3) := by decide +kernel
theorem dX12_text_229 : decode cX12_text 229 = .ok (.if_icmp .ge 73, 3) := by decide +kernel
theorem dX12_text_232 : decode cX12_text 232 = .ok (.aload_n 0, 1) := by decide +kernel
theorem dX12_text_233 : decode cX12_text 233 = .ok (.getfield 69, 3) := by decide +kernel
theorem dX12_text_236 : decode cX12_text 236 = .ok (.iload_n 2, 1) := by decide +kernel
theorem dX12_text_237 : decode cX12_text 237 = .ok (.aload_n 0, 1) := by decide +kernel
theorem dX12_text_238 : decode cX12_text 238 = .ok (.getfield 69, 3) := by decide +kernel
theorem dX12_text_241 : decode cX12_text 241 = .ok (.sipush 200, 3) := by decide +kernel
theorem dX12_text_244 : decode cX12_text 244 = .ok (.iload_n 2, 1) := by decide +kernel
theorem dX12_text_245 : decode cX12_text 245 = .ok (.iadd, 1) := by decide +kernel
theorem dX12_text_246 : decode cX12_text 246 = .ok (.iaload, 1) := by decide +kernel
theorem dX12_text_247 : decode cX12_text 247 = .ok (.iastore, 1) := by decide +kernel
theorem dX12_text_248 : decode cX12_text 248 = .ok (.aload_n 0, 1) := by decide +kernel
theorem dX12_text_249 : decode cX12_text 249 = .ok (.getfield 72, 3) := by decide +kernel
theorem dX12_text_252 : decode cX12_text 252 = .ok (.iload_n 2, 1) := by decide +kernel
theorem dX12_text_253 : decode cX12_text 253 = .ok (.aload_n 0, 1) := by decide +kernel
theorem dX12_text_254 : decode cX12_text 254 = .ok (.getfield 72, 3) := by decide +kernel
theorem dX12_text_257 : decode cX12_text 257 = .ok (.sipush 200, 3) := by decide +kernel
theorem dX12_text_260 : decode cX12_text 260 = .ok (.iload_n 2, 1) := by decide +kernel
theorem dX12_text_261 : decode cX12_text 261 = .ok (.iadd, 1) := by decide +kernel
theorem dX12_text_262 : decode cX12_text 262 = .ok (.iaload, 1) := by decide +kernel
theorem dX12_text_263 : decode cX12_text 263 = .ok (.iastore, 1) := by decide +kernel
theorem dX12_text_264 : decode cX12_text 264 = .ok (.aload_n 0, 1) := by decide +kernel
theorem dX12_text_265 : decode cX12_text 265 = .ok (.getfield 75, 3) := by decide +kernel
theorem dX12_text_268 : decode cX12_text 268 = .ok (.iload_n 2, 1) := by decide +kernel
theorem dX12_text_269 : decode cX12_text 269 = .ok (.aload_n 0, 1) := by decide +kernel
theorem dX12_text_270 : decode cX12_text 270 = .ok (.getfield 75, 3) := by decide +kernel
theorem dX12_text_273 : decode cX12_text 273 = .ok (.sipush 200, 3) := by decide +kernel
theorem dX12_text_276 : decode cX12_text 276 = .ok (.iload_n 2, 1) := by decide +kernel
theorem dX12_text_277 : decode cX12_text 277 = .ok (.iadd, 1) := by decide +kernel
theorem dX12_text_278 : decode cX12_text 278 = .ok (.iaload, 1) := by decide +kernel
theorem dX12_text_279 : decode cX12_text 279 = .ok (.iastore, 1) := by decide +kernel
theorem dX12_text_280 : decode cX12_text 280 = .ok (.aload_n 0, 1) := by decide +kernel
theorem dX12_text_281 : decode cX12_text 281 = .ok (.getfield 78, 3) := by decide +kernel
theorem dX12_text_284 : decode cX12_text 284 = .ok (.iload_n 2, 1) := by decide +kernel
theorem dX12_text_285 : decode cX12_text 285 = .ok (.aload_n 0, 1) := by decide +kernel
theorem dX12_text_286 : decode cX12_text 286 = .ok (.getfield 78, 3) := by decide +kernel
theorem dX12_text_289 : decode cX12_text 289 = .ok (.sipush 200, 3) := by decide +kernel
theorem dX12_text_292 : decode cX12_text 292 = .ok (.iload_n 2, 1) := by decide +kernel
theorem dX12_text_293 : decode cX12_text 293 = .ok (.iadd, 1) := by decide +kernel
theorem dX12_text_294 : decode cX12_text 294 = .ok (.iaload, 1) := by decide +kernel
theorem dX12_text_295 : decode cX12_text 295 = .ok (.iastore, 1) := by decide +kernel
theorem dX12_text_296 : decode cX12_text 296 = .ok (.iinc 2 1, 3) := by decide +kernel
theorem dX12_text_299 : decode cX12_text 299 = .ok (.goto (-74), 3) := by decide +kernel
theorem dX12_text_302 : decode cX12_text 302 = .ok (.iload_n 1, 1) := by decide +kernel
theorem dX12_text_303 : decode cX12_text 303 = .ok (.ireturn, 1) := by decide +kernel
def M_text_225 (K : Int32 → th_St → Prop) (k225 : Int32 → Int32 → th_St → Prop) (x1 : Int32) (x2 : Int32) (u : th_St) : Prop :=
  (((200 : Int32) ≤ x2 → K x1 u) ∧ (¬ (200 : Int32) ≤ x2 → (vp_in ((200 : Int32) + x2) 400 ∧ ∀ y_1 : Int32, y_1 = u.2.2.1 16 (((200 : Int32) + x2)).toNatClampNeg → (vp_in x2 400 ∧ ∀ u_2 : th_St, u_2 = th_sa u 16 (upd (u.2.2.1 16) (x2).toNatClampNeg y_1) → (vp_in ((200 : Int32) + x2) 400 ∧ ∀ y_3 : Int32, y_3 = u_2.2.2.1 17 (((200 : Int32) + x2)).toNatClampNeg → (vp_in x2 400 ∧ ∀ u_4 : th_St, u_4 = th_sa u_2 17 (upd (u_2.2.2.1 17) (x2).toNatClampNeg y_3) → (vp_in ((200 : Int32) + x2) 400 ∧ ∀ y_5 : Int32, y_5 = u_4.2.2.1 18 (((200 : Int32) + x2)).toNatClampNeg → (vp_in x2 400 ∧ ∀ u_6 : th_St, u_6 = th_sa u_4 18 (upd (u_4.2.2.1 18) (x2).toNatClampNeg y_5) → (vp_in ((200 : Int32) + x2) 400 ∧ ∀ y_7 : Int32, y_7 = u_6.2.2.1 19 (((200 : Int32) + x2)).toNatClampNeg → (vp_in x2 400 ∧ ∀ u_8 : th_St, u_8 = th_sa u_6 19 (upd (u_6.2.2.1 19) (x2).toNatClampNeg y_7) → ∀ x2_9 : Int32, x2_9 = x2 + (1 : Int32) → k225 x1 x2_9 u_8))))))))))
set_option maxHeartbeats 4000000 in
set_option maxRecDepth 100000 in
theorem M_text_225_w {K : Int32 → th_St → Prop} {k225 : Int32 → Int32 → th_St → Prop} (C : th_Cx p s m args meth c cX12_text RX12 3 (some .int) (dC, dI) (th_ty cs) th_E0 A) (hk225 : ∀ (x1 : Int32) (x2 : Int32) (u : th_St) (H : Heap) (locs : List Loc) (ls : Array Slot), k225 x1 x2 u → th_wI (dC, dI) (wM cs q) A s.heap u H locs → lv_has ls 3 [(0, .ref (q 0)), (1, .int x1), (2, .int x2)] → W p l e (th_rm 8 0 0) s m args below meth c H locs 0 0 (MQ below (va_Qi K (th_Post (dC, dI) (wM cs q) A) A) args s 0 0 A) (F0 m 225 ls [])) (x1 : Int32) (x2 : Int32) (u : th_St) (H : Heap) (locs : List Loc) (ls : Array Slot) (hf : M_text_225 K k225 x1 x2 u) (hw : th_wI (dC, dI) (wM cs q) A s.heap u H locs) (hl : lv_has ls 3 [(0, .ref (q 0)), (1, .int x1), (2, .int x2)]) : W p l e (th_rm 8 0 0) s m args below meth c H locs 0 0 (MQ below (va_Qi K (th_Post (dC, dI) (wM cs q) A) A) args s 0 0 A) (F0 m 225 ls []) := by
  have hx := C.1
  have hb := C.2.1
  unfold M_text_225 at hf
  refine lv_iload_n hx hb dX12_text_225 rfl (lv_at hl 2 rfl) ?_
  refine lv_sipush (v := (200 : Int32)) hx hb dX12_text_226 (by decide) ?_
  refine lv_icmp_ge (tgt := 302) hx hb dX12_text_229 (by decide) (fun hc => ?_) (fun hc => ?_)
  · replace hf := hf.1 hc
    clear hc
    refine lv_iload_n hx hb dX12_text_302 rfl (lv_at hl 1 rfl) ?_
    exact th_iret C hw hf dX12_text_303
  · replace hf := hf.2 hc
    clear hc
    refine lv_aload_n hx hb dX12_text_232 rfl (lv_at hl 0 rfl) ?_
    refine mg_16 C hw dX12_text_233 ?_
    refine lv_iload_n hx hb dX12_text_236 rfl (lv_at hl 2 rfl) ?_
    refine lv_aload_n hx hb dX12_text_237 rfl (lv_at hl 0 rfl) ?_
    refine mg_16 C hw dX12_text_238 ?_
    refine lv_sipush (v := (200 : Int32)) hx hb dX12_text_241 (by decide) ?_
    refine lv_iload_n hx hb dX12_text_244 rfl (lv_at hl 2 rfl) ?_
    refine lv_iadd hx hb dX12_text_245 ?_
    refine ml_16 C hw hf.1 dX12_text_246 (fun y_1 e9 => ?_)
    replace hf := hf.2 y_1 e9
    clear e9
    refine ms_16 C hw hf.1 dX12_text_247 (fun u_2 e9 H locs hw => ?_)
    replace hf := hf.2 u_2 e9
    clear e9
    refine lv_aload_n hx hb dX12_text_248 rfl (lv_at hl 0 rfl) ?_
    refine mg_17 C hw dX12_text_249 ?_
    refine lv_iload_n hx hb dX12_text_252 rfl (lv_at hl 2 rfl) ?_
    refine lv_aload_n hx hb dX12_text_253 rfl (lv_at hl 0 rfl) ?_
    refine mg_17 C hw dX12_text_254 ?_
    refine lv_sipush (v := (200 : Int32)) hx hb dX12_text_257 (by decide) ?_
    refine lv_iload_n hx hb dX12_text_260 rfl (lv_at hl 2 rfl) ?_
    refine lv_iadd hx hb dX12_text_261 ?_
    refine ml_17 C hw hf.1 dX12_text_262 (fun y_3 e9 => ?_)
    replace hf := hf.2 y_3 e9
    clear e9
    refine ms_17 C hw hf.1 dX12_text_263 (fun u_4 e9 H locs hw => ?_)
    replace hf := hf.2 u_4 e9
    clear e9
    refine lv_aload_n hx hb dX12_text_264 rfl (lv_at hl 0 rfl) ?_
    refine mg_18 C hw dX12_text_265 ?_
    refine lv_iload_n hx hb dX12_text_268 rfl (lv_at hl 2 rfl) ?_
    refine lv_aload_n hx hb dX12_text_269 rfl (lv_at hl 0 rfl) ?_
    refine mg_18 C hw dX12_text_270 ?_
    refine lv_sipush (v := (200 : Int32)) hx hb dX12_text_273 (by decide) ?_
    refine lv_iload_n hx hb dX12_text_276 rfl (lv_at hl 2 rfl) ?_
    refine lv_iadd hx hb dX12_text_277 ?_
    refine ml_18 C hw hf.1 dX12_text_278 (fun y_5 e9 => ?_)
    replace hf := hf.2 y_5 e9
    clear e9
    refine ms_18 C hw hf.1 dX12_text_279 (fun u_6 e9 H locs hw => ?_)
    replace hf := hf.2 u_6 e9
    clear e9
    refine lv_aload_n hx hb dX12_text_280 rfl (lv_at hl 0 rfl) ?_
    refine mg_19 C hw dX12_text_281 ?_
    refine lv_iload_n hx hb dX12_text_284 rfl (lv_at hl 2 rfl) ?_
    refine lv_aload_n hx hb dX12_text_285 rfl (lv_at hl 0 rfl) ?_
    refine mg_19 C hw dX12_text_286 ?_
    refine lv_sipush (v := (200 : Int32)) hx hb dX12_text_289 (by decide) ?_
    refine lv_iload_n hx hb dX12_text_292 rfl (lv_at hl 2 rfl) ?_
    refine lv_iadd hx hb dX12_text_293 ?_
    refine ml_19 C hw hf.1 dX12_text_294 (fun y_7 e9 => ?_)
    replace hf := hf.2 y_7 e9
    clear e9
    refine ms_19 C hw hf.1 dX12_text_295 (fun u_8 e9 H locs hw => ?_)
    replace hf := hf.2 u_8 e9
    clear e9
    obtain ⟨x2_9, e9⟩ : ∃ y : Int32, y = x2 + (1 : Int32) := ⟨_, rfl⟩
    replace hf := hf x2_9 e9
    refine lv_iinc (v := x2_9) (lv' := [(2, .int x2_9), (0, .ref (q 0)), (1, .int x1)]) hx hb dX12_text_296 hl (k := 2) rfl (by rw [e9]; rfl) (by decide) rfl (fun ls hl => ?_)
    clear e9
    refine lv_goto (tgt := 225) hx hb dX12_text_299 (by decide) ?_
    exact hk225 x1 x2_9 u_8 _ _ _ hf hw (lv_sub hl [1, 2, 0] rfl)
def M_text_225_lp (K : Int32 → th_St → Prop) : Nat → Int32 → Int32 → th_St → Prop
  | 0, _, _, _ => False
  | n + 1, x1, x2, u => M_text_225 K (M_text_225_lp K n) x1 x2 u
set_option maxHeartbeats 4000000 in
set_option maxRecDepth 100000 in
theorem M_text_225_lw {K : Int32 → th_St → Prop} (C : th_Cx p s m args meth c cX12_text RX12 3 (some .int) (dC, dI) (th_ty cs) th_E0 A) (n : Nat) : ∀ (x1 : Int32) (x2 : Int32) (u : th_St) (H : Heap) (locs : List Loc) (ls : Array Slot), M_text_225_lp K n x1 x2 u → th_wI (dC, dI) (wM cs q) A s.heap u H locs → lv_has ls 3 [(0, .ref (q 0)), (1, .int x1), (2, .int x2)] → W p l e (th_rm 8 0 0) s m args below meth c H locs 0 0 (MQ below (va_Qi K (th_Post (dC, dI) (wM cs q) A) A) args s 0 0 A) (F0 m 225 ls []) := by
  induction n with
  | zero => intro x1 x2 u H locs ls hf; exact hf.elim
  | succ n ih =>
    intro x1 x2 u H locs ls hf hw hl
    exact M_text_225_w C ih x1 x2 u H locs ls hf hw hl
def M_text_166 (K : Int32 → th_St → Prop) (k166 : Int32 → Int32 → th_St → Prop) (x1 : Int32) (x2 : Int32) (u : th_St) : Prop :=
  (((6 : Int32) ≤ x2 → ∃ n, M_text_225_lp K n x1 (0 : Int32) u) ∧ (¬ (6 : Int32) ≤ x2 → (vp_in ((6 : Int32) + x2) 12 ∧ ∀ y_1 : Int32, y_1 = u.2.2.1 8 (((6 : Int32) + x2)).toNatClampNeg → (vp_in x2 12 ∧ ∀ u_2 : th_St, u_2 = th_sa u 8 (upd (u.2.2.1 8) (x2).toNatClampNeg y_1) → (vp_in ((6 : Int32) + x2) 12 ∧ ∀ y_3 : Int32, y_3 = u_2.2.2.1 9 (((6 : Int32) + x2)).toNatClampNeg → (vp_in x2 12 ∧ ∀ u_4 : th_St, u_4 = th_sa u_2 9 (upd (u_2.2.2.1 9) (x2).toNatClampNeg y_3) → (vp_in ((6 : Int32) + x2) 12 ∧ ∀ y_5 : Int32, y_5 = u_4.2.2.1 10 (((6 : Int32) + x2)).toNatClampNeg → (vp_in x2 12 ∧ ∀ u_6 : th_St, u_6 = th_sa u_4 10 (upd (u_4.2.2.1 10) (x2).toNatClampNeg y_5) → ∀ x2_7 : Int32, x2_7 = x2 + (1 : Int32) → k166 x1 x2_7 u_6))))))))
set_option maxHeartbeats 4000000 in
set_option maxRecDepth 100000 in
theorem M_text_166_w {K : Int32 → th_St → Prop} {k166 : Int32 → Int32 → th_St → Prop} (C : th_Cx p s m args meth c cX12_text RX12 3 (some .int) (dC, dI) (th_ty cs) th_E0 A) (hk166 : ∀ (x1 : Int32) (x2 : Int32) (u : th_St) (H : Heap) (locs : List Loc) (ls : Array Slot), k166 x1 x2 u → th_wI (dC, dI) (wM cs q) A s.heap u H locs → lv_has ls 3 [(0, .ref (q 0)), (1, .int x1), (2, .int x2)] → W p l e (th_rm 8 0 0) s m args below meth c H locs 0 0 (MQ below (va_Qi K (th_Post (dC, dI) (wM cs q) A) A) args s 0 0 A) (F0 m 166 ls [])) (x1 : Int32) (x2 : Int32) (u : th_St) (H : Heap) (locs : List Loc) (ls : Array Slot) (hf : M_text_166 K k166 x1 x2 u) (hw : th_wI (dC, dI) (wM cs q) A s.heap u H locs) (hl : lv_has ls 3 [(0, .ref (q 0)), (1, .int x1), (2, .int x2)]) : W p l e (th_rm 8 0 0) s m args below meth c H locs 0 0 (MQ below (va_Qi K (th_Post (dC, dI) (wM cs q) A) A) args s 0 0 A) (F0 m 166 ls []) := by
  have hx := C.1
  have hb := C.2.1
  unfold M_text_166 at hf
  refine lv_iload_n hx hb dX12_text_166 rfl (lv_at hl 2 rfl) ?_
  refine lv_bipush (v := (6 : Int32)) hx hb dX12_text_167 (by decide) ?_
  refine lv_icmp_ge (tgt := 223) hx hb dX12_text_169 (by decide) (fun hc => ?_) (fun hc => ?_)
  · replace hf := hf.1 hc
    clear hc
    refine lv_iconst (v := (0 : Int32)) hx hb dX12_text_223 (by decide) ?_
    refine lv_istore_n (lv' := [(2, .int (0 : Int32)), (0, .ref (q 0)), (1, .int x1)]) hx hb dX12_text_224 rfl hl (by decide) rfl (fun ls hl => ?_)
    obtain ⟨n, hf⟩ := hf
    exact M_text_225_lw C n x1 (0 : Int32) u _ _ _ hf hw (lv_sub hl [1, 2, 0] rfl)
  · replace hf := hf.2 hc
    clear hc
    refine lv_aload_n hx hb dX12_text_172 rfl (lv_at hl 0 rfl) ?_
    refine mg_8 C hw dX12_text_173 ?_
    refine lv_iload_n hx hb dX12_text_176 rfl (lv_at hl 2 rfl) ?_
    refine lv_aload_n hx hb dX12_text_177 rfl (lv_at hl 0 rfl) ?_
    refine mg_8 C hw dX12_text_178 ?_
    refine lv_bipush (v := (6 : Int32)) hx hb dX12_text_181 (by decide) ?_
    refine lv_iload_n hx hb dX12_text_183 rfl (lv_at hl 2 rfl) ?_
    refine lv_iadd hx hb dX12_text_184 ?_
    refine ml_8 C hw hf.1 dX12_text_185 (fun y_1 e9 => ?_)
    replace hf := hf.2 y_1 e9
    clear e9
    refine ms_8 C hw hf.1 dX12_text_186 (fun u_2 e9 H locs hw => ?_)
    replace hf := hf.2 u_2 e9
    clear e9
    refine lv_aload_n hx hb dX12_text_187 rfl (lv_at hl 0 rfl) ?_
    refine mg_9 C hw dX12_text_188 ?_
    refine lv_iload_n hx hb dX12_text_191 rfl (lv_at hl 2 rfl) ?_
    refine lv_aload_n hx hb dX12_text_192 rfl (lv_at hl 0 rfl) ?_
    refine mg_9 C hw dX12_text_193 ?_
    refine lv_bipush (v := (6 : Int32)) hx hb dX12_text_196 (by decide) ?_
    refine lv_iload_n hx hb dX12_text_198 rfl (lv_at hl 2 rfl) ?_
    refine lv_iadd hx hb dX12_text_199 ?_
    refine ml_9 C hw hf.1 dX12_text_200 (fun y_3 e9 => ?_)
    replace hf := hf.2 y_3 e9
    clear e9
    refine ms_9 C hw hf.1 dX12_text_201 (fun u_4 e9 H locs hw => ?_)
    replace hf := hf.2 u_4 e9
    clear e9
    refine lv_aload_n hx hb dX12_text_202 rfl (lv_at hl 0 rfl) ?_
    refine mg_10 C hw dX12_text_203 ?_
    refine lv_iload_n hx hb dX12_text_206 rfl (lv_at hl 2 rfl) ?_
    refine lv_aload_n hx hb dX12_text_207 rfl (lv_at hl 0 rfl) ?_
    refine mg_10 C hw dX12_text_208 ?_
    refine lv_bipush (v := (6 : Int32)) hx hb dX12_text_211 (by decide) ?_
    refine lv_iload_n hx hb dX12_text_213 rfl (lv_at hl 2 rfl) ?_
    refine lv_iadd hx hb dX12_text_214 ?_
    refine ml_10 C hw hf.1 dX12_text_215 (fun y_5 e9 => ?_)
    replace hf := hf.2 y_5 e9
    clear e9
    refine ms_10 C hw hf.1 dX12_text_216 (fun u_6 e9 H locs hw => ?_)
    replace hf := hf.2 u_6 e9
    clear e9
    obtain ⟨x2_7, e9⟩ : ∃ y : Int32, y = x2 + (1 : Int32) := ⟨_, rfl⟩
    replace hf := hf x2_7 e9
    refine lv_iinc (v := x2_7) (lv' := [(2, .int x2_7), (0, .ref (q 0)), (1, .int x1)]) hx hb dX12_text_217 hl (k := 2) rfl (by rw [e9]; rfl) (by decide) rfl (fun ls hl => ?_)
    clear e9
    refine lv_goto (tgt := 166) hx hb dX12_text_220 (by decide) ?_
    exact hk166 x1 x2_7 u_6 _ _ _ hf hw (lv_sub hl [1, 2, 0] rfl)
def M_text_166_lp (K : Int32 → th_St → Prop) : Nat → Int32 → Int32 → th_St → Prop
  | 0, _, _, _ => False
  | n + 1, x1, x2, u => M_text_166 K (M_text_166_lp K n) x1 x2 u
set_option maxHeartbeats 4000000 in
set_option maxRecDepth 100000 in
theorem M_text_166_lw {K : Int32 → th_St → Prop} (C : th_Cx p s m args meth c cX12_text RX12 3 (some .int) (dC, dI) (th_ty cs) th_E0 A) (n : Nat) : ∀ (x1 : Int32) (x2 : Int32) (u : th_St) (H : Heap) (locs : List Loc) (ls : Array Slot), M_text_166_lp K n x1 x2 u → th_wI (dC, dI) (wM cs q) A s.heap u H locs → lv_has ls 3 [(0, .ref (q 0)), (1, .int x1), (2, .int x2)] → W p l e (th_rm 8 0 0) s m args below meth c H locs 0 0 (MQ below (va_Qi K (th_Post (dC, dI) (wM cs q) A) A) args s 0 0 A) (F0 m 166 ls []) := by
  induction n with
  | zero => intro x1 x2 u H locs ls hf; exact hf.elim
  | succ n ih =>
    intro x1 x2 u H locs ls hf hw hl
    exact M_text_166_w C ih x1 x2 u H locs ls hf hw hl
def M_text_122 (K : Int32 → th_St → Prop) (k122 : Int32 → Int32 → th_St → Prop) (x1 : Int32) (x2 : Int32) (u : th_St) : Prop :=
  (((48 : Int32) ≤ x2 → ∃ n, M_text_166_lp K n x1 (0 : Int32) u) ∧ (¬ (48 : Int32) ≤ x2 → (vp_in ((48 : Int32) + x2) 96 ∧ ∀ y_1 : Int32, y_1 = u.2.2.1 6 (((48 : Int32) + x2)).toNatClampNeg → (vp_in x2 96 ∧ ∀ u_2 : th_St, u_2 = th_sa u 6 (upd (u.2.2.1 6) (x2).toNatClampNeg (vp_nar .boolean y_1)) → (vp_in ((48 : Int32) + x2) 96 ∧ ∀ y_3 : Int32, y_3 = u_2.2.2.1 7 (((48 : Int32) + x2)).toNatClampNeg → (vp_in x2 96 ∧ ∀ u_4 : th_St, u_4 = th_sa u_2 7 (upd (u_2.2.2.1 7) (x2).toNatClampNeg y_3) → ∀ x2_5 : Int32, x2_5 = x2 + (1 : Int32) → k122 x1 x2_5 u_4))))))
set_option maxHeartbeats 4000000 in
set_option maxRecDepth 100000 in
theorem M_text_122_w {K : Int32 → th_St → Prop} {k122 : Int32 → Int32 → th_St → Prop} (C : th_Cx p s m args meth c cX12_text RX12 3 (some .int) (dC, dI) (th_ty cs) th_E0 A) (hk122 : ∀ (x1 : Int32) (x2 : Int32) (u : th_St) (H : Heap) (locs : List Loc) (ls : Array Slot), k122 x1 x2 u → th_wI (dC, dI) (wM cs q) A s.heap u H locs → lv_has ls 3 [(0, .ref (q 0)), (1, .int x1), (2, .int x2)] → W p l e (th_rm 8 0 0) s m args below meth c H locs 0 0 (MQ below (va_Qi K (th_Post (dC, dI) (wM cs q) A) A) args s 0 0 A) (F0 m 122 ls [])) (x1 : Int32) (x2 : Int32) (u : th_St) (H : Heap) (locs : List Loc) (ls : Array Slot) (hf : M_text_122 K k122 x1 x2 u) (hw : th_wI (dC, dI) (wM cs q) A s.heap u H locs) (hl : lv_has ls 3 [(0, .ref (q 0)), (1, .int x1), (2, .int x2)]) : W p l e (th_rm 8 0 0) s m args below meth c H locs 0 0 (MQ below (va_Qi K (th_Post (dC, dI) (wM cs q) A) A) args s 0 0 A) (F0 m 122 ls []) := by
  have hx := C.1
  have hb := C.2.1
  unfold M_text_122 at hf
  refine lv_iload_n hx hb dX12_text_122 rfl (lv_at hl 2 rfl) ?_
  refine lv_bipush (v := (48 : Int32)) hx hb dX12_text_123 (by decide) ?_
  refine lv_icmp_ge (tgt := 164) hx hb dX12_text_125 (by decide) (fun hc => ?_) (fun hc => ?_)
  · replace hf := hf.1 hc
    clear hc
    refine lv_iconst (v := (0 : Int32)) hx hb dX12_text_164 (by decide) ?_
    refine lv_istore_n (lv' := [(2, .int (0 : Int32)), (0, .ref (q 0)), (1, .int x1)]) hx hb dX12_text_165 rfl hl (by decide) rfl (fun ls hl => ?_)
    obtain ⟨n, hf⟩ := hf
    exact M_text_166_lw C n x1 (0 : Int32) u _ _ _ hf hw (lv_sub hl [1, 2, 0] rfl)
  · replace hf := hf.2 hc
    clear hc
    refine lv_aload_n hx hb dX12_text_128 rfl (lv_at hl 0 rfl) ?_
    refine mg_6 C hw dX12_text_129 ?_
    refine lv_iload_n hx hb dX12_text_132 rfl (lv_at hl 2 rfl) ?_
    refine lv_aload_n hx hb dX12_text_133 rfl (lv_at hl 0 rfl) ?_
    refine mg_6 C hw dX12_text_134 ?_
    refine lv_bipush (v := (48 : Int32)) hx hb dX12_text_137 (by decide) ?_
    refine lv_iload_n hx hb dX12_text_139 rfl (lv_at hl 2 rfl) ?_
    refine lv_iadd hx hb dX12_text_140 ?_
    refine ml_6 C hw hf.1 dX12_text_141 (fun y_1 e9 => ?_)
    replace hf := hf.2 y_1 e9
    clear e9
    refine ms_6 C hw hf.1 dX12_text_142 (fun u_2 e9 H locs hw => ?_)
    replace hf := hf.2 u_2 e9
    clear e9
    refine lv_aload_n hx hb dX12_text_143 rfl (lv_at hl 0 rfl) ?_
    refine mg_7 C hw dX12_text_144 ?_
    refine lv_iload_n hx hb dX12_text_147 rfl (lv_at hl 2 rfl) ?_
    refine lv_aload_n hx hb dX12_text_148 rfl (lv_at hl 0 rfl) ?_
    refine mg_7 C hw dX12_text_149 ?_
    refine lv_bipush (v := (48 : Int32)) hx hb dX12_text_152 (by decide) ?_
    refine lv_iload_n hx hb dX12_text_154 rfl (lv_at hl 2 rfl) ?_
    refine lv_iadd hx hb dX12_text_155 ?_
    refine ml_7 C hw hf.1 dX12_text_156 (fun y_3 e9 => ?_)
    replace hf := hf.2 y_3 e9
    clear e9
    refine ms_7 C hw hf.1 dX12_text_157 (fun u_4 e9 H locs hw => ?_)
    replace hf := hf.2 u_4 e9
    clear e9
    obtain ⟨x2_5, e9⟩ : ∃ y : Int32, y = x2 + (1 : Int32) := ⟨_, rfl⟩
    replace hf := hf x2_5 e9
    refine lv_iinc (v := x2_5) (lv' := [(2, .int x2_5), (0, .ref (q 0)), (1, .int x1)]) hx hb dX12_text_158 hl (k := 2) rfl (by rw [e9]; rfl) (by decide) rfl (fun ls hl => ?_)
    clear e9
    refine lv_goto (tgt := 122) hx hb dX12_text_161 (by decide) ?_
    exact hk122 x1 x2_5 u_4 _ _ _ hf hw (lv_sub hl [1, 2, 0] rfl)
def M_text_122_lp (K : Int32 → th_St → Prop) : Nat → Int32 → Int32 → th_St → Prop
  | 0, _, _, _ => False
  | n + 1, x1, x2, u => M_text_122 K (M_text_122_lp K n) x1 x2 u
set_option maxHeartbeats 4000000 in
set_option maxRecDepth 100000 in
theorem M_text_122_lw {K : Int32 → th_St → Prop} (C : th_Cx p s m args meth c cX12_text RX12 3 (some .int) (dC, dI) (th_ty cs) th_E0 A) (n : Nat) : ∀ (x1 : Int32) (x2 : Int32) (u : th_St) (H : Heap) (locs : List Loc) (ls : Array Slot), M_text_122_lp K n x1 x2 u → th_wI (dC, dI) (wM cs q) A s.heap u H locs → lv_has ls 3 [(0, .ref (q 0)), (1, .int x1), (2, .int x2)] → W p l e (th_rm 8 0 0) s m args below meth c H locs 0 0 (MQ below (va_Qi K (th_Post (dC, dI) (wM cs q) A) A) args s 0 0 A) (F0 m 122 ls []) := by
  induction n with
  | zero => intro x1 x2 u H locs ls hf; exact hf.elim
  | succ n ih =>
    intro x1 x2 u H locs ls hf hw hl
    exact M_text_122_w C ih x1 x2 u H locs ls hf hw hl
def M_text (u : th_St) (K : Int32 → th_St → Prop) : Prop :=
  ∀ u_1 : th_St, u_1 = th_si u 0 (0 : Int32) → M_taken u_1 (fun u_2 => (((u_2.1 30) ≤ 0 → ∀ u_4 : th_St, u_4 = th_si u_2 28 (0 : Int32) → M_plainText (1 : Int32) u_4 (fun u_5 => ∀ u_7 : th_St, u_7 = th_si u_5 21 (0 : Int32) → ∀ u_8 : th_St, u_8 = th_si u_7 23 (0 : Int32) → M_next_ u_8 (fun u_9 => M_read u_9 (fun r_12 u_11 => ((0 ≤ r_12 → (vp_in (1 : Int32) 2 ∧ ∀ y_13 : Int32, y_13 = u_11.2.2.1 11 ((1 : Int32)).toNatClampNeg → (vp_in (0 : Int32) 2 ∧ ∀ u_14 : th_St, u_14 = th_sa u_11 11 (upd (u_11.2.2.1 11) ((0 : Int32)).toNatClampNeg y_13) → (vp_in (1 : Int32) 2 ∧ ∀ y_15 : Int32, y_15 = u_14.2.2.1 12 ((1 : Int32)).toNatClampNeg → (vp_in (0 : Int32) 2 ∧ ∀ u_16 : th_St, u_16 = th_sa u_14 12 (upd (u_14.2.2.1 12) ((0 : Int32)).toNatClampNeg y_15) → (vp_in (1 : Int32) 2 ∧ ∀ y_17 : Int32, y_17 = u_16.2.2.1 13 ((1 : Int32)).toNatClampNeg → (vp_in (0 : Int32) 2 ∧ ∀ u_18 : th_St, u_18 = th_sa u_16 13 (upd (u_16.2.2.1 13) ((0 : Int32)).toNatClampNeg y_17) → (vp_in (1 : Int32) 2 ∧ ∀ y_19 : Int32, y_19 = u_18.2.2.1 14 ((1 : Int32)).toNatClampNeg → (vp_in (0 : Int32) 2 ∧ ∀ u_20 : th_St, u_20 = th_sa u_18 14 (upd (u_18.2.2.1 14) ((0 : Int32)).toNatClampNeg y_19) → (vp_in (1 : Int32) 2 ∧ ∀ y_21 : Int32, y_21 = u_20.2.2.1 15 ((1 : Int32)).toNatClampNeg → (vp_in (0 : Int32) 2 ∧ ∀ u_22 : th_St, u_22 = th_sa u_20 15 (upd (u_20.2.2.1 15) ((0 : Int32)).toNatClampNeg y_21) → ∃ n, M_text_122_lp K n r_12 (0 : Int32) u_22))))))))))) ∧ (¬ 0 ≤ r_12 → K ((-1 : Int32) - (u_11.1 29)) u_11)))))) ∧ (¬ (u_2.1 30) ≤ 0 → K (-1000 : Int32) u_2)))
set_option maxHeartbeats 4000000 in
set_option maxRecDepth 100000 in
theorem M_text_c {l : Launch} {dC : Nat → ClassId} {dI : Nat → Nat → Nat} {cs : Nat → ClassId} {q : Nat → Nat} {u : th_St} {K : Int32 → th_St → Prop} (hf : M_text u K) : th_Ci l yX12_text cX12_text 3 (some .int) 8 0 0 (dC, dI) (th_ty cs) th_E0 (wM cs q) [.ref (q 0)] u K := by
  refine th_ofi (by decide) (Nat.le_of_ble_eq_true rfl) th_E0_ok ?_
  intro p e s m below meth c A ls C hw hl
  have C : th_Cx p s m _ meth c cX12_text RX12 3 (some .int) (dC, dI) (th_ty cs) th_E0 A := C
  have hl : lv_has ls 3 [(0, .ref (q 0))] := hl
  generalize (List.toArray _ : Array Value) = args at C ⊢
  have hx := C.1
  have hb := C.2.1
  unfold M_text at hf
  refine lv_aload_n hx hb dX12_text_0 rfl (lv_at hl 0 rfl) ?_
  refine lv_iconst (v := (0 : Int32)) hx hb dX12_text_1 (by decide) ?_
  refine mp_0 C hw dX12_text_2 (fun u_1 e9 H locs hw => ?_)
  replace hf := hf u_1 e9
  clear e9
  refine lv_aload_n hx hb dX12_text_5 rfl (lv_at hl 0 rfl) ?_
  refine th_callVv (As := []) (rest := []) C lkX12_164 (M_taken_c hf) hw (mRc C hw) rfl rfl ⟨Nat.le_of_ble_eq_true rfl, Nat.le_of_ble_eq_true rfl⟩ hl.1 (Nat.le_of_ble_eq_true rfl) ⟨Nat.le_refl _, Nat.le_refl _⟩ dX12_text_6 (fun u_2 H locs hf hw => ?_)
  refine lv_aload_n hx hb dX12_text_9 rfl (lv_at hl 0 rfl) ?_
  refine mg_30 C hw dX12_text_10 ?_
  refine lv_if_le (tgt := 20) hx hb dX12_text_13 (by decide) (fun hc => ?_) (fun hc => ?_)
  · replace hf := hf.1 hc
    clear hc
    refine lv_aload_n hx hb dX12_text_20 rfl (lv_at hl 0 rfl) ?_
    refine lv_iconst (v := (0 : Int32)) hx hb dX12_text_21 (by decide) ?_
    refine mp_28 C hw dX12_text_22 (fun u_4 e9 H locs hw => ?_)
    replace hf := hf u_4 e9
    clear e9
    refine lv_aload_n hx hb dX12_text_25 rfl (lv_at hl 0 rfl) ?_
    refine lv_iconst (v := (1 : Int32)) hx hb dX12_text_26 (by decide) ?_
    refine th_callVv (As := [.int (1 : Int32)]) (rest := []) C lkX12_161 (M_plainText_c hf) hw (mRc C hw) rfl rfl ⟨Nat.le_of_ble_eq_true rfl, Nat.le_of_ble_eq_true rfl⟩ hl.1 (Nat.le_of_ble_eq_true rfl) ⟨Nat.le_refl _, Nat.le_refl _⟩ dX12_text_27 (fun u_5 H locs hf hw => ?_)
    refine lv_aload_n hx hb dX12_text_30 rfl (lv_at hl 0 rfl) ?_
    refine lv_iconst (v := (0 : Int32)) hx hb dX12_text_31 (by decide) ?_
    refine mp_21 C hw dX12_text_32 (fun u_7 e9 H locs hw => ?_)
    replace hf := hf u_7 e9
    clear e9
    refine lv_aload_n hx hb dX12_text_35 rfl (lv_at hl 0 rfl) ?_
    refine lv_iconst (v := (0 : Int32)) hx hb dX12_text_36 (by decide) ?_
    refine mp_23 C hw dX12_text_37 (fun u_8 e9 H locs hw => ?_)
    replace hf := hf u_8 e9
    clear e9
    refine lv_aload_n hx hb dX12_text_40 rfl (lv_at hl 0 rfl) ?_
    refine th_callVv (As := []) (rest := []) C lkX12_179 (M_next__c hf) hw (mRc C hw) rfl rfl ⟨Nat.le_of_ble_eq_true rfl, Nat.le_of_ble_eq_true rfl⟩ hl.1 (Nat.le_of_ble_eq_true rfl) ⟨Nat.le_refl _, Nat.le_refl _⟩ dX12_text_41 (fun u_9 H locs hf hw => ?_)
    refine lv_aload_n hx hb dX12_text_44 rfl (lv_at hl 0 rfl) ?_
    refine th_callVi (As := []) (rest := []) C lkX12_182 (M_read_c hf) hw (mRc C hw) rfl rfl ⟨Nat.le_of_ble_eq_true rfl, Nat.le_of_ble_eq_true rfl⟩ hl.1 (Nat.le_of_ble_eq_true rfl) ⟨Nat.le_refl _, Nat.le_refl _⟩ dX12_text_45 (fun r_12 u_11 H locs hf hw => ?_)
    refine lv_istore_n (lv' := [(1, .int r_12), (0, .ref (q 0))]) hx hb dX12_text_48 rfl hl (by decide) rfl (fun ls hl => ?_)
    refine lv_iload_n hx hb dX12_text_49 rfl (lv_at hl 0 rfl) ?_
    refine lv_if_ge (tgt := 60) hx hb dX12_text_50 (by decide) (fun hc => ?_) (fun hc => ?_)
    · replace hf := hf.1 hc
      clear hc
      refine lv_aload_n hx hb dX12_text_60 rfl (lv_at hl 1 rfl) ?_
      refine mg_11 C hw dX12_text_61 ?_
      refine lv_iconst (v := (0 : Int32)) hx hb dX12_text_64 (by decide) ?_
      refine lv_aload_n hx hb dX12_text_65 rfl (lv_at hl 1 rfl) ?_
      refine mg_11 C hw dX12_text_66 ?_
      refine lv_iconst (v := (1 : Int32)) hx hb dX12_text_69 (by decide) ?_
      refine ml_11 C hw hf.1 dX12_text_70 (fun y_13 e9 => ?_)
      replace hf := hf.2 y_13 e9
      clear e9
      refine ms_11 C hw hf.1 dX12_text_71 (fun u_14 e9 H locs hw => ?_)
      replace hf := hf.2 u_14 e9
      clear e9
      refine lv_aload_n hx hb dX12_text_72 rfl (lv_at hl 1 rfl) ?_
      refine mg_12 C hw dX12_text_73 ?_
      refine lv_iconst (v := (0 : Int32)) hx hb dX12_text_76 (by decide) ?_
      refine lv_aload_n hx hb dX12_text_77 rfl (lv_at hl 1 rfl) ?_
      refine mg_12 C hw dX12_text_78 ?_
      refine lv_iconst (v := (1 : Int32)) hx hb dX12_text_81 (by decide) ?_
      refine ml_12 C hw hf.1 dX12_text_82 (fun y_15 e9 => ?_)
      replace hf := hf.2 y_15 e9
      clear e9
      refine ms_12 C hw hf.1 dX12_text_83 (fun u_16 e9 H locs hw => ?_)
      replace hf := hf.2 u_16 e9
      clear e9
      refine lv_aload_n hx hb dX12_text_84 rfl (lv_at hl 1 rfl) ?_
      refine mg_13 C hw dX12_text_85 ?_
      refine lv_iconst (v := (0 : Int32)) hx hb dX12_text_88 (by decide) ?_
      refine lv_aload_n hx hb dX12_text_89 rfl (lv_at hl 1 rfl) ?_
      refine mg_13 C hw dX12_text_90 ?_
      refine lv_iconst (v := (1 : Int32)) hx hb dX12_text_93 (by decide) ?_
      refine ml_13 C hw hf.1 dX12_text_94 (fun y_17 e9 => ?_)
      replace hf := hf.2 y_17 e9
      clear e9
      refine ms_13 C hw hf.1 dX12_text_95 (fun u_18 e9 H locs hw => ?_)
      replace hf := hf.2 u_18 e9
      clear e9
      refine lv_aload_n hx hb dX12_text_96 rfl (lv_at hl 1 rfl) ?_
      refine mg_14 C hw dX12_text_97 ?_
      refine lv_iconst (v := (0 : Int32)) hx hb dX12_text_100 (by decide) ?_
      refine lv_aload_n hx hb dX12_text_101 rfl (lv_at hl 1 rfl) ?_
      refine mg_14 C hw dX12_text_102 ?_
      refine lv_iconst (v := (1 : Int32)) hx hb dX12_text_105 (by decide) ?_
      refine ml_14 C hw hf.1 dX12_text_106 (fun y_19 e9 => ?_)
      replace hf := hf.2 y_19 e9
      clear e9
      refine ms_14 C hw hf.1 dX12_text_107 (fun u_20 e9 H locs hw => ?_)
      replace hf := hf.2 u_20 e9
      clear e9
      refine lv_aload_n hx hb dX12_text_108 rfl (lv_at hl 1 rfl) ?_
      refine mg_15 C hw dX12_text_109 ?_
      refine lv_iconst (v := (0 : Int32)) hx hb dX12_text_112 (by decide) ?_
      refine lv_aload_n hx hb dX12_text_113 rfl (lv_at hl 1 rfl) ?_
      refine mg_15 C hw dX12_text_114 ?_
      refine lv_iconst (v := (1 : Int32)) hx hb dX12_text_117 (by decide) ?_
      refine ml_15 C hw hf.1 dX12_text_118 (fun y_21 e9 => ?_)
      replace hf := hf.2 y_21 e9
      clear e9
      refine ms_15 C hw hf.1 dX12_text_119 (fun u_22 e9 H locs hw => ?_)
      replace hf := hf.2 u_22 e9
      clear e9
      refine lv_iconst (v := (0 : Int32)) hx hb dX12_text_120 (by decide) ?_
      refine lv_istore_n (lv' := [(2, .int (0 : Int32)), (1, .int r_12), (0, .ref (q 0))]) hx hb dX12_text_121 rfl hl (by decide) rfl (fun ls hl => ?_)
      obtain ⟨n, hf⟩ := hf
      exact M_text_122_lw C n r_12 (0 : Int32) u_22 _ _ _ hf hw (lv_sub hl [2, 1, 0] rfl)
    · replace hf := hf.2 hc
      clear hc
      refine lv_iconst (v := (-1 : Int32)) hx hb dX12_text_53 (by decide) ?_
      refine lv_aload_n hx hb dX12_text_54 rfl (lv_at hl 1 rfl) ?_
      refine mg_29 C hw dX12_text_55 ?_
      refine lv_isub hx hb dX12_text_58 ?_
      exact th_iret C hw hf dX12_text_59
  · replace hf := hf.2 hc
    clear hc
    refine lv_sipush (v := (-1000 : Int32)) hx hb dX12_text_16 (by decide) ?_
    exact th_iret C hw hf dX12_text_19
end
